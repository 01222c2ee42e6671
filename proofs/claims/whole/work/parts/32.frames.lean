theorem w_Mo_sign_44  {M : Mem} {r : Int × Mem} (h : k_Mo_sign_44 M = some r) : Fr [164, 165] [(111, 0), (111, 1)] M r.2 := by
  unfold k_Mo_sign_44 at h
  have hFM : Fr [164, 165] [(111, 0), (111, 1)] M M := Fr.rfl'
  obtain ⟨v1, M2, fv1, h⟩ := bcall_e h
  have hFM2 : Fr [164, 165] [(111, 0), (111, 1)] M M2 := hFM.trans ((w_Mo_no fv1).mono (by simp) (by simp))
  obtain ⟨c3, h⟩ := chk_e h
  cases h; exact hFM2
theorem w_Mo_sign {a1 a2 a3 : Int} {M : Mem} {r : Int × Mem} (h : d_Mo_sign a1 a2 a3 M = some r) : Fr [164, 165] [(111, 0), (111, 1)] M r.2 := by
  unfold d_Mo_sign at h
  have hFM : Fr [164, 165] [(111, 0), (111, 1)] M M := Fr.rfl'
  obtain ⟨M1, eM1, h⟩ := blet_e h
  have hFM1 : Fr [164, 165] [(111, 0), (111, 1)] M M1 := by rw [eM1]; exact hFM.stoF (by simp)
  obtain ⟨M2, eM2, h⟩ := blet_e h
  have hFM2 : Fr [164, 165] [(111, 0), (111, 1)] M M2 := by rw [eM2]; exact hFM1.stoF (by simp)
  obtain ⟨v3, M4, fv3, h⟩ := bcall_e h
  have hFM4 : Fr [164, 165] [(111, 0), (111, 1)] M M4 := hFM2.trans ((w_Mo_isFarm fv3).mono (by simp) (by simp))
  rcases ite_e h with ⟨c5, h⟩ | ⟨c5, h⟩
  · skip
    obtain ⟨v6, M7, fv6, h⟩ := bcall_e h
    have hFM7 : Fr [164, 165] [(111, 0), (111, 1)] M M7 := hFM4.trans ((w_Mo_no fv6).mono (by simp) (by simp))
    obtain ⟨c8, h⟩ := chk_e h
    cases h; exact hFM7
  · skip
    obtain ⟨v9, M10, fv9, h⟩ := bcall_e h
    have hFM10 : Fr [164, 165] [(111, 0), (111, 1)] M M10 := hFM4.trans ((w_Mo_isYear fv9).mono (by simp) (by simp))
    rcases ite_e h with ⟨c11, h⟩ | ⟨c11, h⟩
    · skip
      exact hFM10.trans (w_Mo_sign_44 h)
    · skip
      obtain ⟨v12, M13, fv12, h⟩ := bcall_e h
      have hFM13 : Fr [164, 165] [(111, 0), (111, 1)] M M13 := hFM10.trans ((w_Mo_isIn fv12).mono (by simp) (by simp))
      rcases ite_e h with ⟨c14, h⟩ | ⟨c14, h⟩
      · skip
        exact hFM13.trans (w_Mo_sign_44 h)
      · skip
        obtain ⟨c15, h⟩ := chk_e h
        obtain ⟨M16, eM16, h⟩ := blet_e h
        have hFM16 : Fr [164, 165] [(111, 0), (111, 1)] M M16 := by rw [eM16]; exact hFM13.stoA (by simp)
        obtain ⟨c17, h⟩ := chk_e h
        obtain ⟨M18, eM18, h⟩ := blet_e h
        have hFM18 : Fr [164, 165] [(111, 0), (111, 1)] M M18 := by rw [eM18]; exact hFM16.stoA (by simp)
        cases h; exact hFM18
theorem w_Mo_let {a1 a2 a3 : Int} {M : Mem} {r : Int × Mem} (h : d_Mo_let a1 a2 a3 M = some r) : Fr [172] [(111, 0), (111, 1)] M r.2 := by
  unfold d_Mo_let at h
  have hFM : Fr [172] [(111, 0), (111, 1)] M M := Fr.rfl'
  obtain ⟨M1, eM1, h⟩ := blet_e h
  have hFM1 : Fr [172] [(111, 0), (111, 1)] M M1 := by rw [eM1]; exact hFM.stoF (by simp)
  obtain ⟨M2, eM2, h⟩ := blet_e h
  have hFM2 : Fr [172] [(111, 0), (111, 1)] M M2 := by rw [eM2]; exact hFM1.stoF (by simp)
  obtain ⟨v3, M4, fv3, h⟩ := bcall_e h
  have hFM4 : Fr [172] [(111, 0), (111, 1)] M M4 := hFM2.trans ((w_Mo_isFarm fv3).mono (by simp) (by simp))
  rcases ite_e h with ⟨c5, h⟩ | ⟨c5, h⟩
  · skip
    obtain ⟨v6, M7, fv6, h⟩ := bcall_e h
    have hFM7 : Fr [172] [(111, 0), (111, 1)] M M7 := hFM4.trans ((w_Mo_no fv6).mono (by simp) (by simp))
    obtain ⟨c8, h⟩ := chk_e h
    cases h; exact hFM7
  · skip
    obtain ⟨v9, M10, fv9, h⟩ := bcall_e h
    have hFM10 : Fr [172] [(111, 0), (111, 1)] M M10 := hFM4.trans ((w_Mo_isYear fv9).mono (by simp) (by simp))
    rcases ite_e h with ⟨c11, h⟩ | ⟨c11, h⟩
    · skip
      obtain ⟨v12, M13, fv12, h⟩ := bcall_e h
      have hFM13 : Fr [172] [(111, 0), (111, 1)] M M13 := hFM10.trans ((w_Mo_no fv12).mono (by simp) (by simp))
      obtain ⟨c14, h⟩ := chk_e h
      cases h; exact hFM13
    · skip
      obtain ⟨c15, h⟩ := chk_e h
      obtain ⟨M16, eM16, h⟩ := blet_e h
      have hFM16 : Fr [172] [(111, 0), (111, 1)] M M16 := by rw [eM16]; exact hFM10.stoA (by simp)
      cases h; exact hFM16
theorem w_Mo_outside_56  {M : Mem} {r : Int × Mem} (h : k_Mo_outside_56 M = some r) : Fr [167, 168, 169, 170] [(111, 0), (111, 1), (111, 88)] M r.2 := by
  unfold k_Mo_outside_56 at h
  have hFM : Fr [167, 168, 169, 170] [(111, 0), (111, 1), (111, 88)] M M := Fr.rfl'
  obtain ⟨v1, M2, fv1, h⟩ := bcall_e h
  have hFM2 : Fr [167, 168, 169, 170] [(111, 0), (111, 1), (111, 88)] M M2 := hFM.trans ((w_Mo_refuse fv1).mono (by simp) (by simp))
  cases h; exact hFM2
theorem w_Mo_outside {a1 a2 a3 a4 : Int} {M : Mem} {r : Int × Mem} (h : d_Mo_outside a1 a2 a3 a4 M = some r) : Fr [167, 168, 169, 170] [(111, 0), (111, 1), (111, 88)] M r.2 := by
  unfold d_Mo_outside at h
  have hFM : Fr [167, 168, 169, 170] [(111, 0), (111, 1), (111, 88)] M M := Fr.rfl'
  obtain ⟨M1, eM1, h⟩ := blet_e h
  have hFM1 : Fr [167, 168, 169, 170] [(111, 0), (111, 1), (111, 88)] M M1 := by rw [eM1]; exact hFM.stoF (by simp)
  obtain ⟨M2, eM2, h⟩ := blet_e h
  have hFM2 : Fr [167, 168, 169, 170] [(111, 0), (111, 1), (111, 88)] M M2 := by rw [eM2]; exact hFM1.stoF (by simp)
  obtain ⟨v3, M4, fv3, h⟩ := bcall_e h
  have hFM4 : Fr [167, 168, 169, 170] [(111, 0), (111, 1), (111, 88)] M M4 := hFM2.trans ((w_Mo_isFarm fv3).mono (by simp) (by simp))
  rcases ite_e h with ⟨c5, h⟩ | ⟨c5, h⟩
  · skip
    obtain ⟨v6, M7, fv6, h⟩ := bcall_e h
    have hFM7 : Fr [167, 168, 169, 170] [(111, 0), (111, 1), (111, 88)] M M7 := hFM4.trans ((w_Mo_refuse fv6).mono (by simp) (by simp))
    cases h; exact hFM7
  · skip
    obtain ⟨v8, M9, fv8, h⟩ := bcall_e h
    have hFM9 : Fr [167, 168, 169, 170] [(111, 0), (111, 1), (111, 88)] M M9 := hFM4.trans ((w_Mo_isDay fv8).mono (by simp) (by simp))
    rcases ite_e h with ⟨c10, h⟩ | ⟨c10, h⟩
    · skip
      exact hFM9.trans (w_Mo_outside_56 h)
    · skip
      obtain ⟨v11, M12, fv11, h⟩ := bcall_e h
      have hFM12 : Fr [167, 168, 169, 170] [(111, 0), (111, 1), (111, 88)] M M12 := hFM9.trans ((w_Mo_isIn fv11).mono (by simp) (by simp))
      rcases ite_e h with ⟨c13, h⟩ | ⟨c13, h⟩
      · skip
        exact hFM12.trans (w_Mo_outside_56 h)
      · skip
        obtain ⟨v14, M15, fv14, h⟩ := bcall_e h
        have hFM15 : Fr [167, 168, 169, 170] [(111, 0), (111, 1), (111, 88)] M M15 := hFM12.trans ((w_Mo_isIn fv14).mono (by simp) (by simp))
        rcases ite_e h with ⟨c16, h⟩ | ⟨c16, h⟩
        · skip
          exact hFM15.trans (w_Mo_outside_56 h)
        · skip
          obtain ⟨v17, ev17, h⟩ := blet_e h
          rcases ite_e h with ⟨c18, h⟩ | ⟨c18, h⟩
          · skip
            obtain ⟨v19, M20, fv19, h⟩ := bcall_e h
            have hFM20 : Fr [167, 168, 169, 170] [(111, 0), (111, 1), (111, 88)] M M20 := hFM15.trans ((w_Mo_refuse fv19).mono (by simp) (by simp))
            cases h; exact hFM20
          · skip
            obtain ⟨v21, ev21, h⟩ := blet_e h
            obtain ⟨c22, h⟩ := chk_e h
            obtain ⟨M23, eM23, h⟩ := blet_e h
            have hFM23 : Fr [167, 168, 169, 170] [(111, 0), (111, 1), (111, 88)] M M23 := by rw [eM23]; exact hFM15.stoA (by simp)
            obtain ⟨v24, ev24, h⟩ := blet_e h
            obtain ⟨c25, h⟩ := chk_e h
            obtain ⟨M26, eM26, h⟩ := blet_e h
            have hFM26 : Fr [167, 168, 169, 170] [(111, 0), (111, 1), (111, 88)] M M26 := by rw [eM26]; exact hFM23.stoA (by simp)
            obtain ⟨v27, ev27, h⟩ := blet_e h
            obtain ⟨c28, h⟩ := chk_e h
            obtain ⟨M29, eM29, h⟩ := blet_e h
            have hFM29 : Fr [167, 168, 169, 170] [(111, 0), (111, 1), (111, 88)] M M29 := by rw [eM29]; exact hFM26.stoA (by simp)
            obtain ⟨v30, ev30, h⟩ := blet_e h
            obtain ⟨c31, h⟩ := chk_e h
            obtain ⟨M32, eM32, h⟩ := blet_e h
            have hFM32 : Fr [167, 168, 169, 170] [(111, 0), (111, 1), (111, 88)] M M32 := by rw [eM32]; exact hFM29.stoA (by simp)
            obtain ⟨v33, ev33, h⟩ := blet_e h
            obtain ⟨M34, eM34, h⟩ := blet_e h
            have hFM34 : Fr [167, 168, 169, 170] [(111, 0), (111, 1), (111, 88)] M M34 := by rw [eM34]; exact hFM32.stoF (by simp)
            obtain ⟨v35, ev35, h⟩ := blet_e h
            cases h; exact hFM34
theorem w_Mo_breachOf {a1 : Int} {M : Mem} {r : Int × Mem} (h : d_Mo_breachOf a1 M = some r) : Fr [155, 156, 157, 158, 159] [(111, 72), (111, 108)] M r.2 := by
  unfold d_Mo_breachOf at h
  have hFM : Fr [155, 156, 157, 158, 159] [(111, 72), (111, 108)] M M := Fr.rfl'
  obtain ⟨c1, h⟩ := chk_e h
  obtain ⟨v2, ev2, h⟩ := blet_e h
  obtain ⟨c3, h⟩ := chk_e h
  obtain ⟨v4, ev4, h⟩ := blet_e h
  obtain ⟨v5, ev5, h⟩ := blet_e h
  obtain ⟨c6, h⟩ := chk_e h
  obtain ⟨v7, ev7, h⟩ := blet_e h
  rcases ite_e h with ⟨c8, h⟩ | ⟨c8, h⟩
  · skip
    cases h; exact hFM
  · skip
    obtain ⟨c9, h⟩ := chk_e h
    obtain ⟨v10, ev10, h⟩ := blet_e h
    obtain ⟨c11, h⟩ := chk_e h
    obtain ⟨v12, ev12, h⟩ := blet_e h
    obtain ⟨v13, M14, fv13, h⟩ := bcall_e h
    have hFM14 : Fr [155, 156, 157, 158, 159] [(111, 72), (111, 108)] M M14 := hFM.trans ((w_Mo_isIn fv13).mono (by simp) (by simp))
    rcases ite_e h with ⟨c15, h⟩ | ⟨c15, h⟩
    · skip
      cases h; exact hFM14
    · skip
      obtain ⟨c16, h⟩ := chk_e h
      obtain ⟨v17, ev17, h⟩ := blet_e h
      rcases ite_e h with ⟨c18, h⟩ | ⟨c18, h⟩
      · skip
        obtain ⟨v19, M20, fv19, h⟩ := bcall_e h
        have hFM20 : Fr [155, 156, 157, 158, 159] [(111, 72), (111, 108)] M M20 := hFM14.trans ((w_Mo_letNothing fv19).mono (by simp) (by simp))
        obtain ⟨c21, h⟩ := chk_e h
        obtain ⟨v22, ev22, h⟩ := blet_e h
        obtain ⟨M23, eM23, h⟩ := blet_e h
        have hFM23 : Fr [155, 156, 157, 158, 159] [(111, 72), (111, 108)] M M23 := by rw [eM23]; exact hFM20.stoA (by simp)
        obtain ⟨M24, eM24, h⟩ := blet_e h
        have hFM24 : Fr [155, 156, 157, 158, 159] [(111, 72), (111, 108)] M M24 := by rw [eM24]; exact hFM23.stoA (by simp)
        obtain ⟨c25, h⟩ := chk_e h
        obtain ⟨v26, ev26, h⟩ := blet_e h
        obtain ⟨M27, eM27, h⟩ := blet_e h
        have hFM27 : Fr [155, 156, 157, 158, 159] [(111, 72), (111, 108)] M M27 := by rw [eM27]; exact hFM24.stoA (by simp)
        obtain ⟨c28, h⟩ := chk_e h
        obtain ⟨v29, ev29, h⟩ := blet_e h
        obtain ⟨M30, eM30, h⟩ := blet_e h
        have hFM30 : Fr [155, 156, 157, 158, 159] [(111, 72), (111, 108)] M M30 := by rw [eM30]; exact hFM27.stoA (by simp)
        obtain ⟨c31, h⟩ := chk_e h
        obtain ⟨v32, ev32, h⟩ := blet_e h
        obtain ⟨M33, eM33, h⟩ := blet_e h
        have hFM33 : Fr [155, 156, 157, 158, 159] [(111, 72), (111, 108)] M M33 := by rw [eM33]; exact hFM30.stoA (by simp)
        obtain ⟨c34, h⟩ := chk_e h
        obtain ⟨v35, ev35, h⟩ := blet_e h
        obtain ⟨M36, eM36, h⟩ := blet_e h
        have hFM36 : Fr [155, 156, 157, 158, 159] [(111, 72), (111, 108)] M M36 := by rw [eM36]; exact hFM33.stoA (by simp)
        obtain ⟨c37, h⟩ := chk_e h
        obtain ⟨v38, ev38, h⟩ := blet_e h
        obtain ⟨M39, eM39, h⟩ := blet_e h
        have hFM39 : Fr [155, 156, 157, 158, 159] [(111, 72), (111, 108)] M M39 := by rw [eM39]; exact hFM36.stoA (by simp)
        obtain ⟨v40, M41, fv40, h⟩ := bcall_e h
        have hFM41 : Fr [155, 156, 157, 158, 159] [(111, 72), (111, 108)] M M41 := hFM39.trans ((w_Mo_spelled fv40).mono (by simp) (by simp))
        obtain ⟨c42, h⟩ := chk_e h
        obtain ⟨v43, ev43, h⟩ := blet_e h
        obtain ⟨v44, M45, fv44, h⟩ := bcall_e h
        have hFM45 : Fr [155, 156, 157, 158, 159] [(111, 72), (111, 108)] M M45 := hFM41.trans ((w_Mo_told fv44).mono (by simp) (by simp))
        obtain ⟨v46, M47, fv46, h⟩ := bcall_e h
        have hFM47 : Fr [155, 156, 157, 158, 159] [(111, 72), (111, 108)] M M47 := hFM45.trans ((w_Mo_cut1 fv46).mono (by simp) (by simp))
        cases h; exact hFM47
      · skip
        cases h; exact hFM14
theorem w_Mo_breach {a1 : Int} {M : Mem} {r : Int × Mem} (h : d_Mo_breach a1 M = some r) : Fr [155, 156, 157, 158, 159] [(111, 0), (111, 1), (111, 72), (111, 108)] M r.2 := by
  unfold d_Mo_breach at h
  have hFM : Fr [155, 156, 157, 158, 159] [(111, 0), (111, 1), (111, 72), (111, 108)] M M := Fr.rfl'
  obtain ⟨M1, eM1, h⟩ := blet_e h
  have hFM1 : Fr [155, 156, 157, 158, 159] [(111, 0), (111, 1), (111, 72), (111, 108)] M M1 := by rw [eM1]; exact hFM.stoF (by simp)
  obtain ⟨M2, eM2, h⟩ := blet_e h
  have hFM2 : Fr [155, 156, 157, 158, 159] [(111, 0), (111, 1), (111, 72), (111, 108)] M M2 := by rw [eM2]; exact hFM1.stoF (by simp)
  obtain ⟨v3, ev3, h⟩ := blet_e h
  obtain ⟨v4, M5, fv4, h⟩ := bcall_e h
  have hFM5 : Fr [155, 156, 157, 158, 159] [(111, 0), (111, 1), (111, 72), (111, 108)] M M5 := hFM2.trans ((w_Mo_isIn fv4).mono (by simp) (by simp))
  rcases ite_e h with ⟨c6, h⟩ | ⟨c6, h⟩
  · skip
    obtain ⟨v7, M8, fv7, h⟩ := bcall_e h
    have hFM8 : Fr [155, 156, 157, 158, 159] [(111, 0), (111, 1), (111, 72), (111, 108)] M M8 := hFM5.trans ((w_Mo_refuse fv7).mono (by simp) (by simp))
    cases h; exact hFM8
  · skip
    obtain ⟨v9, M10, fv9, h⟩ := bcall_e h
    have hFM10 : Fr [155, 156, 157, 158, 159] [(111, 0), (111, 1), (111, 72), (111, 108)] M M10 := hFM5.trans ((w_Mo_breachOf fv9).mono (by simp) (by simp))
    rcases ite_e h with ⟨c11, h⟩ | ⟨c11, h⟩
    · skip
      cases h; exact hFM10
    · skip
      cases h; exact hFM10
theorem w_Mo_cost_98 {R44 : Int → Int → Int → Int → Mem → Res} (hR44 : ∀ (a1 a2 a3 a5 : Int) (M : Mem) (r : Int × Mem), R44 a1 a2 a3 a5 M = some r → Fr [155, 156, 157, 158, 159] [(111, 0), (111, 1), (111, 72), (111, 108)] M r.2) {a1 a2 a5 s0 s1 : Int} {M : Mem} {r : Int × Mem} (h : k_Mo_cost_98 R44 a1 a2 a5 s0 s1 M = some r) : Fr [155, 156, 157, 158, 159] [(111, 0), (111, 1), (111, 72), (111, 108)] M r.2 := by
  unfold k_Mo_cost_98 at h
  have hFM : Fr [155, 156, 157, 158, 159] [(111, 0), (111, 1), (111, 72), (111, 108)] M M := Fr.rfl'
  obtain ⟨v1, ev1, h⟩ := blet_e h
  obtain ⟨v2, ev2, h⟩ := blet_e h
  exact hFM.trans (hR44 a1 a2 v1 v2 M r h)
theorem w_Mo_cost_97 {R44 : Int → Int → Int → Int → Mem → Res} (hR44 : ∀ (a1 a2 a3 a5 : Int) (M : Mem) (r : Int × Mem), R44 a1 a2 a3 a5 M = some r → Fr [155, 156, 157, 158, 159] [(111, 0), (111, 1), (111, 72), (111, 108)] M r.2) {a1 a2 a5 s0 : Int} {M : Mem} {r : Int × Mem} (h : k_Mo_cost_97 R44 a1 a2 a5 s0 M = some r) : Fr [155, 156, 157, 158, 159] [(111, 0), (111, 1), (111, 72), (111, 108)] M r.2 := by
  unfold k_Mo_cost_97 at h
  have hFM : Fr [155, 156, 157, 158, 159] [(111, 0), (111, 1), (111, 72), (111, 108)] M M := Fr.rfl'
  exact hFM.trans (w_Mo_cost_98 hR44 h)
theorem w_Mo_cost_44 {R44 : Int → Int → Int → Int → Mem → Res} (hR44 : ∀ (a1 a2 a3 a5 : Int) (M : Mem) (r : Int × Mem), R44 a1 a2 a3 a5 M = some r → Fr [155, 156, 157, 158, 159] [(111, 0), (111, 1), (111, 72), (111, 108)] M r.2) {a1 a2 a3 a5 : Int} {M : Mem} {r : Int × Mem} (h : k_Mo_cost_44 R44 a1 a2 a3 a5 M = some r) : Fr [155, 156, 157, 158, 159] [(111, 0), (111, 1), (111, 72), (111, 108)] M r.2 := by
  unfold k_Mo_cost_44 at h
  have hFM : Fr [155, 156, 157, 158, 159] [(111, 0), (111, 1), (111, 72), (111, 108)] M M := Fr.rfl'
  obtain ⟨v1, ev1, h⟩ := blet_e h
  rcases ite_e h with ⟨c2, h⟩ | ⟨c2, h⟩
  · skip
    obtain ⟨c3, h⟩ := chk_e h
    obtain ⟨v4, ev4, h⟩ := blet_e h
    rcases ite_e h with ⟨c5, h⟩ | ⟨c5, h⟩
    · skip
      obtain ⟨c6, h⟩ := chk_e h
      obtain ⟨v7, ev7, h⟩ := blet_e h
      rcases ite_e h with ⟨c8, h⟩ | ⟨c8, h⟩
      · skip
        obtain ⟨v9, M10, fv9, h⟩ := bcall_e h
        have hFM10 : Fr [155, 156, 157, 158, 159] [(111, 0), (111, 1), (111, 72), (111, 108)] M M10 := hFM.trans ((w_Mo_breachOf fv9).mono (by simp) (by simp))
        obtain ⟨c11, h⟩ := chk_e h
        obtain ⟨v12, ev12, h⟩ := blet_e h
        exact hFM10.trans (w_Mo_cost_98 hR44 h)
      · skip
        exact hFM.trans (w_Mo_cost_97 hR44 h)
    · skip
      exact hFM.trans (w_Mo_cost_97 hR44 h)
  · skip
    cases h; exact hFM
theorem wl_Mo_cost_44  : ∀ (n : Nat) (a1 a2 a3 a5 : Int) (M : Mem) (r : Int × Mem), fix (fun _ _ _ _ _ => none) (k_Mo_cost_44) n a1 a2 a3 a5 M = some r → Fr [155, 156, 157, 158, 159] [(111, 0), (111, 1), (111, 72), (111, 108)] M r.2 := by
  intro n
  induction n with
  | zero => intro a1 a2 a3 a5 M r h; exact nomatch (show (none : Res) = some r from h)
  | succ n ih => intro a1 a2 a3 a5 M r h; exact w_Mo_cost_44 ih h
theorem w_Mo_cost {a1 a2 : Int} {M : Mem} {r : Int × Mem} (h : d_Mo_cost a1 a2 M = some r) : Fr [155, 156, 157, 158, 159] [(111, 0), (111, 1), (111, 72), (111, 108)] M r.2 := by
  unfold d_Mo_cost at h
  have hFM : Fr [155, 156, 157, 158, 159] [(111, 0), (111, 1), (111, 72), (111, 108)] M M := Fr.rfl'
  obtain ⟨M1, eM1, h⟩ := blet_e h
  have hFM1 : Fr [155, 156, 157, 158, 159] [(111, 0), (111, 1), (111, 72), (111, 108)] M M1 := by rw [eM1]; exact hFM.stoF (by simp)
  obtain ⟨M2, eM2, h⟩ := blet_e h
  have hFM2 : Fr [155, 156, 157, 158, 159] [(111, 0), (111, 1), (111, 72), (111, 108)] M M2 := by rw [eM2]; exact hFM1.stoF (by simp)
  obtain ⟨v3, M4, fv3, h⟩ := bcall_e h
  have hFM4 : Fr [155, 156, 157, 158, 159] [(111, 0), (111, 1), (111, 72), (111, 108)] M M4 := hFM2.trans ((w_Mo_isFarm fv3).mono (by simp) (by simp))
  rcases ite_e h with ⟨c5, h⟩ | ⟨c5, h⟩
  · skip
    obtain ⟨v6, M7, fv6, h⟩ := bcall_e h
    have hFM7 : Fr [155, 156, 157, 158, 159] [(111, 0), (111, 1), (111, 72), (111, 108)] M M7 := hFM4.trans ((w_Mo_refuse fv6).mono (by simp) (by simp))
    cases h; exact hFM7
  · skip
    obtain ⟨v8, M9, fv8, h⟩ := bcall_e h
    have hFM9 : Fr [155, 156, 157, 158, 159] [(111, 0), (111, 1), (111, 72), (111, 108)] M M9 := hFM4.trans ((w_Mo_isYear fv8).mono (by simp) (by simp))
    rcases ite_e h with ⟨c10, h⟩ | ⟨c10, h⟩
    · skip
      obtain ⟨v11, M12, fv11, h⟩ := bcall_e h
      have hFM12 : Fr [155, 156, 157, 158, 159] [(111, 0), (111, 1), (111, 72), (111, 108)] M M12 := hFM9.trans ((w_Mo_refuse fv11).mono (by simp) (by simp))
      cases h; exact hFM12
    · skip
      exact hFM9.trans (wl_Mo_cost_44 FU a1 a2 0 0 M9 r h)
theorem w_Mo_price_29  {M : Mem} {r : Int × Mem} (h : k_Mo_price_29 M = some r) : Fr [171] [(111, 0), (111, 1)] M r.2 := by
  unfold k_Mo_price_29 at h
  have hFM : Fr [171] [(111, 0), (111, 1)] M M := Fr.rfl'
  obtain ⟨v1, M2, fv1, h⟩ := bcall_e h
  have hFM2 : Fr [171] [(111, 0), (111, 1)] M M2 := hFM.trans ((w_Mo_no fv1).mono (by simp) (by simp))
  obtain ⟨c3, h⟩ := chk_e h
  cases h; exact hFM2
theorem w_Mo_price {a1 a2 : Int} {M : Mem} {r : Int × Mem} (h : d_Mo_price a1 a2 M = some r) : Fr [171] [(111, 0), (111, 1)] M r.2 := by
  unfold d_Mo_price at h
  have hFM : Fr [171] [(111, 0), (111, 1)] M M := Fr.rfl'
  obtain ⟨M1, eM1, h⟩ := blet_e h
  have hFM1 : Fr [171] [(111, 0), (111, 1)] M M1 := by rw [eM1]; exact hFM.stoF (by simp)
  obtain ⟨M2, eM2, h⟩ := blet_e h
  have hFM2 : Fr [171] [(111, 0), (111, 1)] M M2 := by rw [eM2]; exact hFM1.stoF (by simp)
  obtain ⟨v3, M4, fv3, h⟩ := bcall_e h
  have hFM4 : Fr [171] [(111, 0), (111, 1)] M M4 := hFM2.trans ((w_Mo_isDay fv3).mono (by simp) (by simp))
  rcases ite_e h with ⟨c5, h⟩ | ⟨c5, h⟩
  · skip
    exact hFM4.trans (w_Mo_price_29 h)
  · skip
    obtain ⟨v6, M7, fv6, h⟩ := bcall_e h
    have hFM7 : Fr [171] [(111, 0), (111, 1)] M M7 := hFM4.trans ((w_Mo_isIn fv6).mono (by simp) (by simp))
    rcases ite_e h with ⟨c8, h⟩ | ⟨c8, h⟩
    · skip
      exact hFM7.trans (w_Mo_price_29 h)
    · skip
      obtain ⟨c9, h⟩ := chk_e h
      obtain ⟨M10, eM10, h⟩ := blet_e h
      have hFM10 : Fr [171] [(111, 0), (111, 1)] M M10 := by rw [eM10]; exact hFM7.stoA (by simp)
      cases h; exact hFM10
theorem w_Mo_rules_34  {M : Mem} {r : Int × Mem} (h : k_Mo_rules_34 M = some r) : Fr [] [(111, 0), (111, 1), (111, 89), (111, 90)] M r.2 := by
  unfold k_Mo_rules_34 at h
  have hFM : Fr [] [(111, 0), (111, 1), (111, 89), (111, 90)] M M := Fr.rfl'
  obtain ⟨v1, M2, fv1, h⟩ := bcall_e h
  have hFM2 : Fr [] [(111, 0), (111, 1), (111, 89), (111, 90)] M M2 := hFM.trans ((w_Mo_no fv1).mono (by simp) (by simp))
  obtain ⟨c3, h⟩ := chk_e h
  cases h; exact hFM2
theorem w_Mo_rules {a1 a2 : Int} {M : Mem} {r : Int × Mem} (h : d_Mo_rules a1 a2 M = some r) : Fr [] [(111, 0), (111, 1), (111, 89), (111, 90)] M r.2 := by
  unfold d_Mo_rules at h
  have hFM : Fr [] [(111, 0), (111, 1), (111, 89), (111, 90)] M M := Fr.rfl'
  obtain ⟨M1, eM1, h⟩ := blet_e h
  have hFM1 : Fr [] [(111, 0), (111, 1), (111, 89), (111, 90)] M M1 := by rw [eM1]; exact hFM.stoF (by simp)
  obtain ⟨M2, eM2, h⟩ := blet_e h
  have hFM2 : Fr [] [(111, 0), (111, 1), (111, 89), (111, 90)] M M2 := by rw [eM2]; exact hFM1.stoF (by simp)
  obtain ⟨v3, M4, fv3, h⟩ := bcall_e h
  have hFM4 : Fr [] [(111, 0), (111, 1), (111, 89), (111, 90)] M M4 := hFM2.trans ((w_Mo_isIn fv3).mono (by simp) (by simp))
  rcases ite_e h with ⟨c5, h⟩ | ⟨c5, h⟩
  · skip
    exact hFM4.trans (w_Mo_rules_34 h)
  · skip
    obtain ⟨v6, M7, fv6, h⟩ := bcall_e h
    have hFM7 : Fr [] [(111, 0), (111, 1), (111, 89), (111, 90)] M M7 := hFM4.trans ((w_Mo_isIn fv6).mono (by simp) (by simp))
    rcases ite_e h with ⟨c8, h⟩ | ⟨c8, h⟩
    · skip
      exact hFM7.trans (w_Mo_rules_34 h)
    · skip
      obtain ⟨M9, eM9, h⟩ := blet_e h
      have hFM9 : Fr [] [(111, 0), (111, 1), (111, 89), (111, 90)] M M9 := by rw [eM9]; exact hFM7.stoF (by simp)
      obtain ⟨M10, eM10, h⟩ := blet_e h
      have hFM10 : Fr [] [(111, 0), (111, 1), (111, 89), (111, 90)] M M10 := by rw [eM10]; exact hFM9.stoF (by simp)
      cases h; exact hFM10
theorem w_Mo_aloneOf_125 {R6 : Int → Int → Int → Int → Int → Mem → Res} (hR6 : ∀ (a1 a2 a3 a4 a6 : Int) (M : Mem) (r : Int × Mem), R6 a1 a2 a3 a4 a6 M = some r → Fr [] [] M r.2) {a1 a2 a3 a4 a6 : Int} {M : Mem} {r : Int × Mem} (h : k_Mo_aloneOf_125 R6 a1 a2 a3 a4 a6 M = some r) : Fr [] [] M r.2 := by
  unfold k_Mo_aloneOf_125 at h
  have hFM : Fr [] [] M M := Fr.rfl'
  obtain ⟨v1, ev1, h⟩ := blet_e h
  exact hFM.trans (hR6 a1 a2 a3 a4 v1 M r h)
theorem w_Mo_aloneOf_6 {R6 : Int → Int → Int → Int → Int → Mem → Res} (hR6 : ∀ (a1 a2 a3 a4 a6 : Int) (M : Mem) (r : Int × Mem), R6 a1 a2 a3 a4 a6 M = some r → Fr [] [] M r.2) {a1 a2 a3 a4 a6 : Int} {M : Mem} {r : Int × Mem} (h : k_Mo_aloneOf_6 R6 a1 a2 a3 a4 a6 M = some r) : Fr [] [] M r.2 := by
  unfold k_Mo_aloneOf_6 at h
  have hFM : Fr [] [] M M := Fr.rfl'
  obtain ⟨v1, ev1, h⟩ := blet_e h
  rcases ite_e h with ⟨c2, h⟩ | ⟨c2, h⟩
  · skip
    obtain ⟨c3, h⟩ := chk_e h
    obtain ⟨v4, ev4, h⟩ := blet_e h
    rcases ite_e h with ⟨c5, h⟩ | ⟨c5, h⟩
    · skip
      exact hFM.trans (w_Mo_aloneOf_125 hR6 h)
    · skip
      obtain ⟨c6, h⟩ := chk_e h
      obtain ⟨v7, ev7, h⟩ := blet_e h
      rcases ite_e h with ⟨c8, h⟩ | ⟨c8, h⟩
      · skip
        obtain ⟨c9, h⟩ := chk_e h
        obtain ⟨v10, ev10, h⟩ := blet_e h
        rcases ite_e h with ⟨c11, h⟩ | ⟨c11, h⟩
        · skip
          obtain ⟨c12, h⟩ := chk_e h
          obtain ⟨v13, ev13, h⟩ := blet_e h
          rcases ite_e h with ⟨c14, h⟩ | ⟨c14, h⟩
          · skip
            obtain ⟨c15, h⟩ := chk_e h
            obtain ⟨v16, ev16, h⟩ := blet_e h
            obtain ⟨v17, ev17, h⟩ := blet_e h
            obtain ⟨c18, h⟩ := chk_e h
            obtain ⟨v19, ev19, h⟩ := blet_e h
            obtain ⟨v20, ev20, h⟩ := blet_e h
            obtain ⟨c21, h⟩ := chk_e h
            obtain ⟨v22, ev22, h⟩ := blet_e h
            obtain ⟨v23, ev23, h⟩ := blet_e h
            obtain ⟨v24, M25, fv24, h⟩ := bcall_e h
            have hFM25 : Fr [] [] M M25 := hFM.trans ((w_Mo_net fv24).mono (by simp) (by simp))
            obtain ⟨c26, h⟩ := chk_e h
            obtain ⟨v27, ev27, h⟩ := blet_e h
            obtain ⟨v28, ev28, h⟩ := blet_e h
            exact hFM25.trans (w_Mo_aloneOf_125 hR6 h)
          · skip
            exact hFM.trans (w_Mo_aloneOf_125 hR6 h)
        · skip
          exact hFM.trans (w_Mo_aloneOf_125 hR6 h)
      · skip
        exact hFM.trans (w_Mo_aloneOf_125 hR6 h)
  · skip
    cases h; exact hFM
theorem wl_Mo_aloneOf_6  : ∀ (n : Nat) (a1 a2 a3 a4 a6 : Int) (M : Mem) (r : Int × Mem), fix (fun _ _ _ _ _ _ => none) (k_Mo_aloneOf_6) n a1 a2 a3 a4 a6 M = some r → Fr [] [] M r.2 := by
  intro n
  induction n with
  | zero => intro a1 a2 a3 a4 a6 M r h; exact nomatch (show (none : Res) = some r from h)
  | succ n ih => intro a1 a2 a3 a4 a6 M r h; exact w_Mo_aloneOf_6 ih h
theorem w_Mo_aloneOf {a1 a2 a3 : Int} {M : Mem} {r : Int × Mem} (h : d_Mo_aloneOf a1 a2 a3 M = some r) : Fr [] [] M r.2 := by
  unfold d_Mo_aloneOf at h
  have hFM : Fr [] [] M M := Fr.rfl'
  exact hFM.trans (wl_Mo_aloneOf_6 FU a1 a2 a3 0 0 M r h)
theorem w_Mo_alone {a1 a2 a3 : Int} {M : Mem} {r : Int × Mem} (h : d_Mo_alone a1 a2 a3 M = some r) : Fr [134, 135, 136, 137, 138, 139, 140, 141, 142, 143, 144, 145, 155, 156, 157, 158, 159] [(111, 0), (111, 1), (111, 39), (111, 72), (111, 108)] M r.2 := by
  unfold d_Mo_alone at h
  have hFM : Fr [134, 135, 136, 137, 138, 139, 140, 141, 142, 143, 144, 145, 155, 156, 157, 158, 159] [(111, 0), (111, 1), (111, 39), (111, 72), (111, 108)] M M := Fr.rfl'
  obtain ⟨M1, eM1, h⟩ := blet_e h
  have hFM1 : Fr [134, 135, 136, 137, 138, 139, 140, 141, 142, 143, 144, 145, 155, 156, 157, 158, 159] [(111, 0), (111, 1), (111, 39), (111, 72), (111, 108)] M M1 := by rw [eM1]; exact hFM.stoF (by simp)
  obtain ⟨v2, M3, fv2, h⟩ := bcall_e h
  have hFM3 : Fr [134, 135, 136, 137, 138, 139, 140, 141, 142, 143, 144, 145, 155, 156, 157, 158, 159] [(111, 0), (111, 1), (111, 39), (111, 72), (111, 108)] M M3 := hFM1.trans ((w_Mo_asksFarm fv2).mono (by simp) (by simp))
  obtain ⟨M4, eM4, h⟩ := blet_e h
  have hFM4 : Fr [134, 135, 136, 137, 138, 139, 140, 141, 142, 143, 144, 145, 155, 156, 157, 158, 159] [(111, 0), (111, 1), (111, 39), (111, 72), (111, 108)] M M4 := by rw [eM4]; exact hFM3.stoF (by simp)
  obtain ⟨v5, ev5, h⟩ := blet_e h
  rcases ite_e h with ⟨c6, h⟩ | ⟨c6, h⟩
  · skip
    cases h; exact hFM4
  · skip
    obtain ⟨v7, M8, fv7, h⟩ := bcall_e h
    have hFM8 : Fr [134, 135, 136, 137, 138, 139, 140, 141, 142, 143, 144, 145, 155, 156, 157, 158, 159] [(111, 0), (111, 1), (111, 39), (111, 72), (111, 108)] M M8 := hFM4.trans ((w_Mo_play fv7).mono (by simp) (by simp))
    obtain ⟨v9, M10, fv9, h⟩ := bcall_e h
    have hFM10 : Fr [134, 135, 136, 137, 138, 139, 140, 141, 142, 143, 144, 145, 155, 156, 157, 158, 159] [(111, 0), (111, 1), (111, 39), (111, 72), (111, 108)] M M10 := hFM8.trans ((w_Mo_aloneOf fv9).mono (by simp) (by simp))
    cases h; exact hFM10
theorem w_Mo_more_175 {R41 : Int → Int → Int → Int → Mem → Res} (hR41 : ∀ (a1 a2 a3 a4 : Int) (M : Mem) (r : Int × Mem), R41 a1 a2 a3 a4 M = some r → Fr [134, 135, 136, 137, 138, 139, 140, 141, 142, 143, 144, 145, 155, 156, 157, 158, 159, 160, 161, 162, 163] [(111, 0), (111, 1), (111, 39), (111, 72), (111, 77), (111, 78), (111, 108)] M r.2) {a1 a2 a4 s0 s1 : Int} {M : Mem} {r : Int × Mem} (h : k_Mo_more_175 R41 a1 a2 a4 s0 s1 M = some r) : Fr [134, 135, 136, 137, 138, 139, 140, 141, 142, 143, 144, 145, 155, 156, 157, 158, 159, 160, 161, 162, 163] [(111, 0), (111, 1), (111, 39), (111, 72), (111, 77), (111, 78), (111, 108)] M r.2 := by
  unfold k_Mo_more_175 at h
  have hFM : Fr [134, 135, 136, 137, 138, 139, 140, 141, 142, 143, 144, 145, 155, 156, 157, 158, 159, 160, 161, 162, 163] [(111, 0), (111, 1), (111, 39), (111, 72), (111, 77), (111, 78), (111, 108)] M M := Fr.rfl'
  obtain ⟨v1, ev1, h⟩ := blet_e h
  obtain ⟨v2, ev2, h⟩ := blet_e h
  exact hFM.trans (hR41 a1 a2 v1 v2 M r h)
theorem w_Mo_more_174 {R41 : Int → Int → Int → Int → Mem → Res} (hR41 : ∀ (a1 a2 a3 a4 : Int) (M : Mem) (r : Int × Mem), R41 a1 a2 a3 a4 M = some r → Fr [134, 135, 136, 137, 138, 139, 140, 141, 142, 143, 144, 145, 155, 156, 157, 158, 159, 160, 161, 162, 163] [(111, 0), (111, 1), (111, 39), (111, 72), (111, 77), (111, 78), (111, 108)] M r.2) {a1 a2 a4 s0 : Int} {M : Mem} {r : Int × Mem} (h : k_Mo_more_174 R41 a1 a2 a4 s0 M = some r) : Fr [134, 135, 136, 137, 138, 139, 140, 141, 142, 143, 144, 145, 155, 156, 157, 158, 159, 160, 161, 162, 163] [(111, 0), (111, 1), (111, 39), (111, 72), (111, 77), (111, 78), (111, 108)] M r.2 := by
  unfold k_Mo_more_174 at h
  have hFM : Fr [134, 135, 136, 137, 138, 139, 140, 141, 142, 143, 144, 145, 155, 156, 157, 158, 159, 160, 161, 162, 163] [(111, 0), (111, 1), (111, 39), (111, 72), (111, 77), (111, 78), (111, 108)] M M := Fr.rfl'
  exact hFM.trans (w_Mo_more_175 hR41 h)
theorem w_Mo_more_129 {R41 : Int → Int → Int → Int → Mem → Res} {R56 : Int → Int → Int → Int → Int → Int → Mem → Res} (hR41 : ∀ (a1 a2 a3 a4 : Int) (M : Mem) (r : Int × Mem), R41 a1 a2 a3 a4 M = some r → Fr [134, 135, 136, 137, 138, 139, 140, 141, 142, 143, 144, 145, 155, 156, 157, 158, 159, 160, 161, 162, 163] [(111, 0), (111, 1), (111, 39), (111, 72), (111, 77), (111, 78), (111, 108)] M r.2) (hR56 : ∀ (a1 a2 a3 a4 a5 a7 : Int) (M : Mem) (r : Int × Mem), R56 a1 a2 a3 a4 a5 a7 M = some r → Fr [134, 135, 136, 137, 138, 139, 140, 141, 142, 143, 144, 145, 155, 156, 157, 158, 159, 160, 161, 162, 163] [(111, 0), (111, 1), (111, 39), (111, 72), (111, 77), (111, 78), (111, 108)] M r.2) {a1 a2 a3 a4 a5 a7 : Int} {M : Mem} {r : Int × Mem} (h : k_Mo_more_129 R41 R56 a1 a2 a3 a4 a5 a7 M = some r) : Fr [134, 135, 136, 137, 138, 139, 140, 141, 142, 143, 144, 145, 155, 156, 157, 158, 159, 160, 161, 162, 163] [(111, 0), (111, 1), (111, 39), (111, 72), (111, 77), (111, 78), (111, 108)] M r.2 := by
  unfold k_Mo_more_129 at h
  have hFM : Fr [134, 135, 136, 137, 138, 139, 140, 141, 142, 143, 144, 145, 155, 156, 157, 158, 159, 160, 161, 162, 163] [(111, 0), (111, 1), (111, 39), (111, 72), (111, 77), (111, 78), (111, 108)] M M := Fr.rfl'
  obtain ⟨v1, ev1, h⟩ := blet_e h
  exact hFM.trans (hR56 a1 a2 a3 a4 a5 v1 M r h)
theorem w_Mo_more_56 {R41 : Int → Int → Int → Int → Mem → Res} {R56 : Int → Int → Int → Int → Int → Int → Mem → Res} (hR41 : ∀ (a1 a2 a3 a4 : Int) (M : Mem) (r : Int × Mem), R41 a1 a2 a3 a4 M = some r → Fr [134, 135, 136, 137, 138, 139, 140, 141, 142, 143, 144, 145, 155, 156, 157, 158, 159, 160, 161, 162, 163] [(111, 0), (111, 1), (111, 39), (111, 72), (111, 77), (111, 78), (111, 108)] M r.2) (hR56 : ∀ (a1 a2 a3 a4 a5 a7 : Int) (M : Mem) (r : Int × Mem), R56 a1 a2 a3 a4 a5 a7 M = some r → Fr [134, 135, 136, 137, 138, 139, 140, 141, 142, 143, 144, 145, 155, 156, 157, 158, 159, 160, 161, 162, 163] [(111, 0), (111, 1), (111, 39), (111, 72), (111, 77), (111, 78), (111, 108)] M r.2) {a1 a2 a3 a4 a5 a7 : Int} {M : Mem} {r : Int × Mem} (h : k_Mo_more_56 R41 R56 a1 a2 a3 a4 a5 a7 M = some r) : Fr [134, 135, 136, 137, 138, 139, 140, 141, 142, 143, 144, 145, 155, 156, 157, 158, 159, 160, 161, 162, 163] [(111, 0), (111, 1), (111, 39), (111, 72), (111, 77), (111, 78), (111, 108)] M r.2 := by
  unfold k_Mo_more_56 at h
  have hFM : Fr [134, 135, 136, 137, 138, 139, 140, 141, 142, 143, 144, 145, 155, 156, 157, 158, 159, 160, 161, 162, 163] [(111, 0), (111, 1), (111, 39), (111, 72), (111, 77), (111, 78), (111, 108)] M M := Fr.rfl'
  obtain ⟨v1, ev1, h⟩ := blet_e h
  rcases ite_e h with ⟨c2, h⟩ | ⟨c2, h⟩
  · skip
    obtain ⟨c3, h⟩ := chk_e h
    obtain ⟨v4, ev4, h⟩ := blet_e h
    rcases ite_e h with ⟨c5, h⟩ | ⟨c5, h⟩
    · skip
      exact hFM.trans (w_Mo_more_129 hR41 hR56 h)
    · skip
      obtain ⟨c6, h⟩ := chk_e h
      obtain ⟨v7, ev7, h⟩ := blet_e h
      rcases ite_e h with ⟨c8, h⟩ | ⟨c8, h⟩
      · skip
        obtain ⟨c9, h⟩ := chk_e h
        obtain ⟨v10, ev10, h⟩ := blet_e h
        rcases ite_e h with ⟨c11, h⟩ | ⟨c11, h⟩
        · skip
          obtain ⟨c12, h⟩ := chk_e h
          obtain ⟨v13, ev13, h⟩ := blet_e h
          rcases ite_e h with ⟨c14, h⟩ | ⟨c14, h⟩
          · skip
            obtain ⟨v15, M16, fv15, h⟩ := bcall_e h
            have hFM16 : Fr [134, 135, 136, 137, 138, 139, 140, 141, 142, 143, 144, 145, 155, 156, 157, 158, 159, 160, 161, 162, 163] [(111, 0), (111, 1), (111, 39), (111, 72), (111, 77), (111, 78), (111, 108)] M M16 := hFM.trans ((w_Mo_net fv15).mono (by simp) (by simp))
            obtain ⟨c17, h⟩ := chk_e h
            obtain ⟨v18, ev18, h⟩ := blet_e h
            obtain ⟨v19, ev19, h⟩ := blet_e h
            exact hFM16.trans (w_Mo_more_129 hR41 hR56 h)
          · skip
            exact hFM.trans (w_Mo_more_129 hR41 hR56 h)
        · skip
          exact hFM.trans (w_Mo_more_129 hR41 hR56 h)
      · skip
        exact hFM.trans (w_Mo_more_129 hR41 hR56 h)
  · skip
    rcases ite_e h with ⟨c20, h⟩ | ⟨c20, h⟩
    · skip
      obtain ⟨c21, h⟩ := chk_e h
      obtain ⟨v22, ev22, h⟩ := blet_e h
      obtain ⟨c23, h⟩ := chk_e h
      obtain ⟨v24, ev24, h⟩ := blet_e h
      obtain ⟨v25, M26, fv25, h⟩ := bcall_e h
      have hFM26 : Fr [134, 135, 136, 137, 138, 139, 140, 141, 142, 143, 144, 145, 155, 156, 157, 158, 159, 160, 161, 162, 163] [(111, 0), (111, 1), (111, 39), (111, 72), (111, 77), (111, 78), (111, 108)] M M26 := hFM.trans ((w_Mo_aloneOf fv25).mono (by simp) (by simp))
      rcases ite_e h with ⟨c27, h⟩ | ⟨c27, h⟩
      · skip
        exact hFM26.trans (w_Mo_more_175 hR41 h)
      · skip
        exact hFM26.trans (w_Mo_more_174 hR41 h)
    · skip
      exact hFM.trans (w_Mo_more_174 hR41 h)
theorem wl_Mo_more_56 {R41 : Int → Int → Int → Int → Mem → Res} (hR41 : ∀ (a1 a2 a3 a4 : Int) (M : Mem) (r : Int × Mem), R41 a1 a2 a3 a4 M = some r → Fr [134, 135, 136, 137, 138, 139, 140, 141, 142, 143, 144, 145, 155, 156, 157, 158, 159, 160, 161, 162, 163] [(111, 0), (111, 1), (111, 39), (111, 72), (111, 77), (111, 78), (111, 108)] M r.2) : ∀ (n : Nat) (a1 a2 a3 a4 a5 a7 : Int) (M : Mem) (r : Int × Mem), fix (fun _ _ _ _ _ _ _ => none) (k_Mo_more_56 R41) n a1 a2 a3 a4 a5 a7 M = some r → Fr [134, 135, 136, 137, 138, 139, 140, 141, 142, 143, 144, 145, 155, 156, 157, 158, 159, 160, 161, 162, 163] [(111, 0), (111, 1), (111, 39), (111, 72), (111, 77), (111, 78), (111, 108)] M r.2 := by
  intro n
  induction n with
  | zero => intro a1 a2 a3 a4 a5 a7 M r h; exact nomatch (show (none : Res) = some r from h)
  | succ n ih => intro a1 a2 a3 a4 a5 a7 M r h; exact w_Mo_more_56 hR41 ih h
theorem w_Mo_more_41 {R41 : Int → Int → Int → Int → Mem → Res} (hR41 : ∀ (a1 a2 a3 a4 : Int) (M : Mem) (r : Int × Mem), R41 a1 a2 a3 a4 M = some r → Fr [134, 135, 136, 137, 138, 139, 140, 141, 142, 143, 144, 145, 155, 156, 157, 158, 159, 160, 161, 162, 163] [(111, 0), (111, 1), (111, 39), (111, 72), (111, 77), (111, 78), (111, 108)] M r.2) {a1 a2 a3 a4 : Int} {M : Mem} {r : Int × Mem} (h : k_Mo_more_41 R41 a1 a2 a3 a4 M = some r) : Fr [134, 135, 136, 137, 138, 139, 140, 141, 142, 143, 144, 145, 155, 156, 157, 158, 159, 160, 161, 162, 163] [(111, 0), (111, 1), (111, 39), (111, 72), (111, 77), (111, 78), (111, 108)] M r.2 := by
  unfold k_Mo_more_41 at h
  have hFM : Fr [134, 135, 136, 137, 138, 139, 140, 141, 142, 143, 144, 145, 155, 156, 157, 158, 159, 160, 161, 162, 163] [(111, 0), (111, 1), (111, 39), (111, 72), (111, 77), (111, 78), (111, 108)] M M := Fr.rfl'
  obtain ⟨v1, ev1, h⟩ := blet_e h
  rcases ite_e h with ⟨c2, h⟩ | ⟨c2, h⟩
  · skip
    exact hFM.trans (wl_Mo_more_56 hR41 FU a1 a2 a3 a4 0 0 M r h)
  · skip
    cases h; exact hFM
theorem wl_Mo_more_41  : ∀ (n : Nat) (a1 a2 a3 a4 : Int) (M : Mem) (r : Int × Mem), fix (fun _ _ _ _ _ => none) (k_Mo_more_41) n a1 a2 a3 a4 M = some r → Fr [134, 135, 136, 137, 138, 139, 140, 141, 142, 143, 144, 145, 155, 156, 157, 158, 159, 160, 161, 162, 163] [(111, 0), (111, 1), (111, 39), (111, 72), (111, 77), (111, 78), (111, 108)] M r.2 := by
  intro n
  induction n with
  | zero => intro a1 a2 a3 a4 M r h; exact nomatch (show (none : Res) = some r from h)
  | succ n ih => intro a1 a2 a3 a4 M r h; exact w_Mo_more_41 ih h
theorem w_Mo_more_24  {M : Mem} {r : Int × Mem} (h : k_Mo_more_24 M = some r) : Fr [134, 135, 136, 137, 138, 139, 140, 141, 142, 143, 144, 145, 155, 156, 157, 158, 159, 160, 161, 162, 163] [(111, 0), (111, 1), (111, 39), (111, 72), (111, 77), (111, 78), (111, 108)] M r.2 := by
  unfold k_Mo_more_24 at h
  have hFM : Fr [134, 135, 136, 137, 138, 139, 140, 141, 142, 143, 144, 145, 155, 156, 157, 158, 159, 160, 161, 162, 163] [(111, 0), (111, 1), (111, 39), (111, 72), (111, 77), (111, 78), (111, 108)] M M := Fr.rfl'
  obtain ⟨v1, M2, fv1, h⟩ := bcall_e h
  have hFM2 : Fr [134, 135, 136, 137, 138, 139, 140, 141, 142, 143, 144, 145, 155, 156, 157, 158, 159, 160, 161, 162, 163] [(111, 0), (111, 1), (111, 39), (111, 72), (111, 77), (111, 78), (111, 108)] M M2 := hFM.trans ((w_Mo_refuse fv1).mono (by simp) (by simp))
  cases h; exact hFM2
theorem w_Mo_more {a1 a2 : Int} {M : Mem} {r : Int × Mem} (h : d_Mo_more a1 a2 M = some r) : Fr [134, 135, 136, 137, 138, 139, 140, 141, 142, 143, 144, 145, 155, 156, 157, 158, 159, 160, 161, 162, 163] [(111, 0), (111, 1), (111, 39), (111, 72), (111, 77), (111, 78), (111, 108)] M r.2 := by
  unfold d_Mo_more at h
  have hFM : Fr [134, 135, 136, 137, 138, 139, 140, 141, 142, 143, 144, 145, 155, 156, 157, 158, 159, 160, 161, 162, 163] [(111, 0), (111, 1), (111, 39), (111, 72), (111, 77), (111, 78), (111, 108)] M M := Fr.rfl'
  obtain ⟨M1, eM1, h⟩ := blet_e h
  have hFM1 : Fr [134, 135, 136, 137, 138, 139, 140, 141, 142, 143, 144, 145, 155, 156, 157, 158, 159, 160, 161, 162, 163] [(111, 0), (111, 1), (111, 39), (111, 72), (111, 77), (111, 78), (111, 108)] M M1 := by rw [eM1]; exact hFM.stoF (by simp)
  obtain ⟨M2, eM2, h⟩ := blet_e h
  have hFM2 : Fr [134, 135, 136, 137, 138, 139, 140, 141, 142, 143, 144, 145, 155, 156, 157, 158, 159, 160, 161, 162, 163] [(111, 0), (111, 1), (111, 39), (111, 72), (111, 77), (111, 78), (111, 108)] M M2 := by rw [eM2]; exact hFM1.stoF (by simp)
  obtain ⟨v3, M4, fv3, h⟩ := bcall_e h
  have hFM4 : Fr [134, 135, 136, 137, 138, 139, 140, 141, 142, 143, 144, 145, 155, 156, 157, 158, 159, 160, 161, 162, 163] [(111, 0), (111, 1), (111, 39), (111, 72), (111, 77), (111, 78), (111, 108)] M M4 := hFM2.trans ((w_Mo_isYear fv3).mono (by simp) (by simp))
  rcases ite_e h with ⟨c5, h⟩ | ⟨c5, h⟩
  · skip
    exact hFM4.trans (w_Mo_more_24 h)
  · skip
    obtain ⟨v6, M7, fv6, h⟩ := bcall_e h
    have hFM7 : Fr [134, 135, 136, 137, 138, 139, 140, 141, 142, 143, 144, 145, 155, 156, 157, 158, 159, 160, 161, 162, 163] [(111, 0), (111, 1), (111, 39), (111, 72), (111, 77), (111, 78), (111, 108)] M M7 := hFM4.trans ((w_Mo_isDay fv6).mono (by simp) (by simp))
    rcases ite_e h with ⟨c8, h⟩ | ⟨c8, h⟩
    · skip
      exact hFM7.trans (w_Mo_more_24 h)
    · skip
      obtain ⟨v9, M10, fv9, h⟩ := bcall_e h
      have hFM10 : Fr [134, 135, 136, 137, 138, 139, 140, 141, 142, 143, 144, 145, 155, 156, 157, 158, 159, 160, 161, 162, 163] [(111, 0), (111, 1), (111, 39), (111, 72), (111, 77), (111, 78), (111, 108)] M M10 := hFM7.trans ((w_Mo_pay fv9).mono (by simp) (by simp))
      exact hFM10.trans (wl_Mo_more_41 FU a1 a2 0 0 M10 r h)
theorem w_Mo_vote {a1 a2 : Int} {M : Mem} {r : Int × Mem} (h : d_Mo_vote a1 a2 M = some r) : Fr [166] [(111, 0), (111, 1)] M r.2 := by
  unfold d_Mo_vote at h
  have hFM : Fr [166] [(111, 0), (111, 1)] M M := Fr.rfl'
  obtain ⟨M1, eM1, h⟩ := blet_e h
  have hFM1 : Fr [166] [(111, 0), (111, 1)] M M1 := by rw [eM1]; exact hFM.stoF (by simp)
  obtain ⟨M2, eM2, h⟩ := blet_e h
  have hFM2 : Fr [166] [(111, 0), (111, 1)] M M2 := by rw [eM2]; exact hFM1.stoF (by simp)
  obtain ⟨v3, M4, fv3, h⟩ := bcall_e h
  have hFM4 : Fr [166] [(111, 0), (111, 1)] M M4 := hFM2.trans ((w_Mo_isFarm fv3).mono (by simp) (by simp))
  rcases ite_e h with ⟨c5, h⟩ | ⟨c5, h⟩
  · skip
    obtain ⟨v6, M7, fv6, h⟩ := bcall_e h
    have hFM7 : Fr [166] [(111, 0), (111, 1)] M M7 := hFM4.trans ((w_Mo_no fv6).mono (by simp) (by simp))
    obtain ⟨c8, h⟩ := chk_e h
    cases h; exact hFM7
  · skip
    obtain ⟨v9, M10, fv9, h⟩ := bcall_e h
    have hFM10 : Fr [166] [(111, 0), (111, 1)] M M10 := hFM4.trans ((w_Mo_isIn fv9).mono (by simp) (by simp))
    rcases ite_e h with ⟨c11, h⟩ | ⟨c11, h⟩
    · skip
      obtain ⟨v12, M13, fv12, h⟩ := bcall_e h
      have hFM13 : Fr [166] [(111, 0), (111, 1)] M M13 := hFM10.trans ((w_Mo_no fv12).mono (by simp) (by simp))
      obtain ⟨c14, h⟩ := chk_e h
      cases h; exact hFM13
    · skip
      obtain ⟨c15, h⟩ := chk_e h
      obtain ⟨M16, eM16, h⟩ := blet_e h
      have hFM16 : Fr [166] [(111, 0), (111, 1)] M M16 := by rw [eM16]; exact hFM10.stoA (by simp)
      cases h; exact hFM16
theorem w_Mo_findVotes_210 {R143 : Int → Mem → Res} (hR143 : ∀ (a2 : Int) (M : Mem) (r : Int × Mem), R143 a2 M = some r → Fr [155, 156, 157, 158, 159, 175, 176, 177] [(111, 72), (111, 108)] M r.2) {a2 : Int} {M : Mem} {r : Int × Mem} (h : k_Mo_findVotes_210 R143 a2 M = some r) : Fr [155, 156, 157, 158, 159, 175, 176, 177] [(111, 72), (111, 108)] M r.2 := by
  unfold k_Mo_findVotes_210 at h
  have hFM : Fr [155, 156, 157, 158, 159, 175, 176, 177] [(111, 72), (111, 108)] M M := Fr.rfl'
  obtain ⟨v1, ev1, h⟩ := blet_e h
  exact hFM.trans (hR143 v1 M r h)
theorem w_Mo_findVotes_181 {R143 : Int → Mem → Res} (hR143 : ∀ (a2 : Int) (M : Mem) (r : Int × Mem), R143 a2 M = some r → Fr [155, 156, 157, 158, 159, 175, 176, 177] [(111, 72), (111, 108)] M r.2) {a2 : Int} {M : Mem} {r : Int × Mem} (h : k_Mo_findVotes_181 R143 a2 M = some r) : Fr [155, 156, 157, 158, 159, 175, 176, 177] [(111, 72), (111, 108)] M r.2 := by
  unfold k_Mo_findVotes_181 at h
  have hFM : Fr [155, 156, 157, 158, 159, 175, 176, 177] [(111, 72), (111, 108)] M M := Fr.rfl'
  obtain ⟨c1, h⟩ := chk_e h
  obtain ⟨v2, ev2, h⟩ := blet_e h
  rcases ite_e h with ⟨c3, h⟩ | ⟨c3, h⟩
  · skip
    obtain ⟨c4, h⟩ := chk_e h
    obtain ⟨v5, ev5, h⟩ := blet_e h
    obtain ⟨c6, h⟩ := chk_e h
    obtain ⟨v7, ev7, h⟩ := blet_e h
    obtain ⟨c8, h⟩ := chk_e h
    obtain ⟨v9, ev9, h⟩ := blet_e h
    obtain ⟨c10, h⟩ := chk_e h
    obtain ⟨M11, eM11, h⟩ := blet_e h
    have hFM11 : Fr [155, 156, 157, 158, 159, 175, 176, 177] [(111, 72), (111, 108)] M M11 := by rw [eM11]; exact hFM.stoA (by simp)
    exact hFM11.trans (w_Mo_findVotes_210 hR143 h)
  · skip
    exact hFM.trans (w_Mo_findVotes_210 hR143 h)
theorem w_Mo_findVotes_143 {R143 : Int → Mem → Res} (hR143 : ∀ (a2 : Int) (M : Mem) (r : Int × Mem), R143 a2 M = some r → Fr [155, 156, 157, 158, 159, 175, 176, 177] [(111, 72), (111, 108)] M r.2) {a2 : Int} {M : Mem} {r : Int × Mem} (h : k_Mo_findVotes_143 R143 a2 M = some r) : Fr [155, 156, 157, 158, 159, 175, 176, 177] [(111, 72), (111, 108)] M r.2 := by
  unfold k_Mo_findVotes_143 at h
  have hFM : Fr [155, 156, 157, 158, 159, 175, 176, 177] [(111, 72), (111, 108)] M M := Fr.rfl'
  obtain ⟨v1, ev1, h⟩ := blet_e h
  rcases ite_e h with ⟨c2, h⟩ | ⟨c2, h⟩
  · skip
    obtain ⟨c3, h⟩ := chk_e h
    obtain ⟨v4, ev4, h⟩ := blet_e h
    rcases ite_e h with ⟨c5, h⟩ | ⟨c5, h⟩
    · skip
      obtain ⟨c6, h⟩ := chk_e h
      obtain ⟨v7, ev7, h⟩ := blet_e h
      obtain ⟨c8, h⟩ := chk_e h
      obtain ⟨v9, ev9, h⟩ := blet_e h
      obtain ⟨c10, h⟩ := chk_e h
      obtain ⟨v11, ev11, h⟩ := blet_e h
      obtain ⟨c12, h⟩ := chk_e h
      obtain ⟨M13, eM13, h⟩ := blet_e h
      have hFM13 : Fr [155, 156, 157, 158, 159, 175, 176, 177] [(111, 72), (111, 108)] M M13 := by rw [eM13]; exact hFM.stoA (by simp)
      exact hFM13.trans (w_Mo_findVotes_181 hR143 h)
    · skip
      exact hFM.trans (w_Mo_findVotes_181 hR143 h)
  · skip
    cases h; exact hFM
theorem wl_Mo_findVotes_143  : ∀ (n : Nat) (a2 : Int) (M : Mem) (r : Int × Mem), fix (fun _ _ => none) (k_Mo_findVotes_143) n a2 M = some r → Fr [155, 156, 157, 158, 159, 175, 176, 177] [(111, 72), (111, 108)] M r.2 := by
  intro n
  induction n with
  | zero => intro a2 M r h; exact nomatch (show (none : Res) = some r from h)
  | succ n ih => intro a2 M r h; exact w_Mo_findVotes_143 ih h
theorem w_Mo_findVotes_115 {R115 : Int → Mem → Res} (hR115 : ∀ (a2 : Int) (M : Mem) (r : Int × Mem), R115 a2 M = some r → Fr [155, 156, 157, 158, 159, 175, 176, 177] [(111, 72), (111, 108)] M r.2) {a2 : Int} {M : Mem} {r : Int × Mem} (h : k_Mo_findVotes_115 R115 a2 M = some r) : Fr [155, 156, 157, 158, 159, 175, 176, 177] [(111, 72), (111, 108)] M r.2 := by
  unfold k_Mo_findVotes_115 at h
  have hFM : Fr [155, 156, 157, 158, 159, 175, 176, 177] [(111, 72), (111, 108)] M M := Fr.rfl'
  rcases ite_e h with ⟨c1, h⟩ | ⟨c1, h⟩
  · skip
    obtain ⟨c2, h⟩ := chk_e h
    obtain ⟨M3, eM3, h⟩ := blet_e h
    have hFM3 : Fr [155, 156, 157, 158, 159, 175, 176, 177] [(111, 72), (111, 108)] M M3 := by rw [eM3]; exact hFM.stoA (by simp)
    obtain ⟨c4, h⟩ := chk_e h
    obtain ⟨M5, eM5, h⟩ := blet_e h
    have hFM5 : Fr [155, 156, 157, 158, 159, 175, 176, 177] [(111, 72), (111, 108)] M M5 := by rw [eM5]; exact hFM3.stoA (by simp)
    obtain ⟨v6, ev6, h⟩ := blet_e h
    exact hFM5.trans (hR115 v6 M5 r h)
  · skip
    exact hFM.trans (wl_Mo_findVotes_143 FU 0 M r h)
theorem wl_Mo_findVotes_115  : ∀ (n : Nat) (a2 : Int) (M : Mem) (r : Int × Mem), fix (fun _ _ => none) (k_Mo_findVotes_115) n a2 M = some r → Fr [155, 156, 157, 158, 159, 175, 176, 177] [(111, 72), (111, 108)] M r.2 := by
  intro n
  induction n with
  | zero => intro a2 M r h; exact nomatch (show (none : Res) = some r from h)
  | succ n ih => intro a2 M r h; exact w_Mo_findVotes_115 ih h
theorem w_Mo_findVotes_2 {R2 : Int → Int → Mem → Res} (hR2 : ∀ (a1 a2 : Int) (M : Mem) (r : Int × Mem), R2 a1 a2 M = some r → Fr [155, 156, 157, 158, 159, 175, 176, 177] [(111, 72), (111, 108)] M r.2) {a1 a2 : Int} {M : Mem} {r : Int × Mem} (h : k_Mo_findVotes_2 R2 a1 a2 M = some r) : Fr [155, 156, 157, 158, 159, 175, 176, 177] [(111, 72), (111, 108)] M r.2 := by
  unfold k_Mo_findVotes_2 at h
  have hFM : Fr [155, 156, 157, 158, 159, 175, 176, 177] [(111, 72), (111, 108)] M M := Fr.rfl'
  obtain ⟨v1, ev1, h⟩ := blet_e h
  rcases ite_e h with ⟨c2, h⟩ | ⟨c2, h⟩
  · skip
    obtain ⟨v3, M4, fv3, h⟩ := bcall_e h
    have hFM4 : Fr [155, 156, 157, 158, 159, 175, 176, 177] [(111, 72), (111, 108)] M M4 := hFM.trans ((w_Mo_letNothing fv3).mono (by simp) (by simp))
    obtain ⟨M5, eM5, h⟩ := blet_e h
    have hFM5 : Fr [155, 156, 157, 158, 159, 175, 176, 177] [(111, 72), (111, 108)] M M5 := by rw [eM5]; exact hFM4.stoA (by simp)
    obtain ⟨M6, eM6, h⟩ := blet_e h
    have hFM6 : Fr [155, 156, 157, 158, 159, 175, 176, 177] [(111, 72), (111, 108)] M M6 := by rw [eM6]; exact hFM5.stoA (by simp)
    obtain ⟨c7, h⟩ := chk_e h
    obtain ⟨v8, ev8, h⟩ := blet_e h
    obtain ⟨M9, eM9, h⟩ := blet_e h
    have hFM9 : Fr [155, 156, 157, 158, 159, 175, 176, 177] [(111, 72), (111, 108)] M M9 := by rw [eM9]; exact hFM6.stoA (by simp)
    obtain ⟨c10, h⟩ := chk_e h
    obtain ⟨v11, ev11, h⟩ := blet_e h
    obtain ⟨M12, eM12, h⟩ := blet_e h
    have hFM12 : Fr [155, 156, 157, 158, 159, 175, 176, 177] [(111, 72), (111, 108)] M M12 := by rw [eM12]; exact hFM9.stoA (by simp)
    obtain ⟨c13, h⟩ := chk_e h
    obtain ⟨v14, ev14, h⟩ := blet_e h
    obtain ⟨M15, eM15, h⟩ := blet_e h
    have hFM15 : Fr [155, 156, 157, 158, 159, 175, 176, 177] [(111, 72), (111, 108)] M M15 := by rw [eM15]; exact hFM12.stoA (by simp)
    obtain ⟨v16, M17, fv16, h⟩ := bcall_e h
    have hFM17 : Fr [155, 156, 157, 158, 159, 175, 176, 177] [(111, 72), (111, 108)] M M17 := hFM15.trans ((w_Mo_spelled fv16).mono (by simp) (by simp))
    obtain ⟨v18, M19, fv18, h⟩ := bcall_e h
    have hFM19 : Fr [155, 156, 157, 158, 159, 175, 176, 177] [(111, 72), (111, 108)] M M19 := hFM17.trans ((w_Mo_told fv18).mono (by simp) (by simp))
    obtain ⟨v20, M21, fv20, h⟩ := bcall_e h
    have hFM21 : Fr [155, 156, 157, 158, 159, 175, 176, 177] [(111, 72), (111, 108)] M M21 := hFM19.trans ((w_Mo_cut1 fv20).mono (by simp) (by simp))
    obtain ⟨c22, h⟩ := chk_e h
    obtain ⟨M23, eM23, h⟩ := blet_e h
    have hFM23 : Fr [155, 156, 157, 158, 159, 175, 176, 177] [(111, 72), (111, 108)] M M23 := by rw [eM23]; exact hFM21.stoA (by simp)
    obtain ⟨v24, ev24, h⟩ := blet_e h
    exact hFM23.trans (hR2 a1 v24 M23 r h)
  · skip
    exact hFM.trans (wl_Mo_findVotes_115 FU 0 M r h)
theorem wl_Mo_findVotes_2  : ∀ (n : Nat) (a1 a2 : Int) (M : Mem) (r : Int × Mem), fix (fun _ _ _ => none) (k_Mo_findVotes_2) n a1 a2 M = some r → Fr [155, 156, 157, 158, 159, 175, 176, 177] [(111, 72), (111, 108)] M r.2 := by
  intro n
  induction n with
  | zero => intro a1 a2 M r h; exact nomatch (show (none : Res) = some r from h)
  | succ n ih => intro a1 a2 M r h; exact w_Mo_findVotes_2 ih h
theorem w_Mo_findVotes {a1 : Int} {M : Mem} {r : Int × Mem} (h : d_Mo_findVotes a1 M = some r) : Fr [155, 156, 157, 158, 159, 175, 176, 177] [(111, 72), (111, 108)] M r.2 := by
  unfold d_Mo_findVotes at h
  have hFM : Fr [155, 156, 157, 158, 159, 175, 176, 177] [(111, 72), (111, 108)] M M := Fr.rfl'
  exact hFM.trans (wl_Mo_findVotes_2 FU a1 0 M r h)
theorem w_Mo_isFor_52 {R4 : Int → Int → Mem → Res} (hR4 : ∀ (a1 a2 : Int) (M : Mem) (r : Int × Mem), R4 a1 a2 M = some r → Fr [] [] M r.2) {a2 s0 s1 : Int} {M : Mem} {r : Int × Mem} (h : k_Mo_isFor_52 R4 a2 s0 s1 M = some r) : Fr [] [] M r.2 := by
  unfold k_Mo_isFor_52 at h
  have hFM : Fr [] [] M M := Fr.rfl'
  obtain ⟨v1, ev1, h⟩ := blet_e h
  obtain ⟨v2, ev2, h⟩ := blet_e h
  exact hFM.trans (hR4 v1 v2 M r h)
theorem w_Mo_isFor_4 {R4 : Int → Int → Mem → Res} (hR4 : ∀ (a1 a2 : Int) (M : Mem) (r : Int × Mem), R4 a1 a2 M = some r → Fr [] [] M r.2) {a1 a2 : Int} {M : Mem} {r : Int × Mem} (h : k_Mo_isFor_4 R4 a1 a2 M = some r) : Fr [] [] M r.2 := by
  unfold k_Mo_isFor_4 at h
  have hFM : Fr [] [] M M := Fr.rfl'
  rcases ite_e h with ⟨c1, h⟩ | ⟨c1, h⟩
  · skip
    obtain ⟨c2, h⟩ := chk_e h
    obtain ⟨v3, ev3, h⟩ := blet_e h
    obtain ⟨c4, h⟩ := chk_e h
    obtain ⟨v5, ev5, h⟩ := blet_e h
    rcases ite_e h with ⟨c6, h⟩ | ⟨c6, h⟩
    · skip
      exact hFM.trans (w_Mo_isFor_52 hR4 h)
    · skip
      obtain ⟨c7, h⟩ := chk_e h
      obtain ⟨v8, ev8, h⟩ := blet_e h
      obtain ⟨c9, h⟩ := chk_e h
      obtain ⟨v10, ev10, h⟩ := blet_e h
      rcases ite_e h with ⟨c11, h⟩ | ⟨c11, h⟩
      · skip
        exact hFM.trans (w_Mo_isFor_52 hR4 h)
      · skip
        exact hFM.trans (w_Mo_isFor_52 hR4 h)
  · skip
    rcases ite_e h with ⟨c12, h⟩ | ⟨c12, h⟩
    · skip
      cases h; exact hFM
    · skip
      cases h; exact hFM
theorem wl_Mo_isFor_4  : ∀ (n : Nat) (a1 a2 : Int) (M : Mem) (r : Int × Mem), fix (fun _ _ _ => none) (k_Mo_isFor_4) n a1 a2 M = some r → Fr [] [] M r.2 := by
  intro n
  induction n with
  | zero => intro a1 a2 M r h; exact nomatch (show (none : Res) = some r from h)
  | succ n ih => intro a1 a2 M r h; exact w_Mo_isFor_4 ih h
theorem w_Mo_isFor {M : Mem} {r : Int × Mem} (h : d_Mo_isFor M = some r) : Fr [] [] M r.2 := by
  unfold d_Mo_isFor at h
  have hFM : Fr [] [] M M := Fr.rfl'
  exact hFM.trans (wl_Mo_isFor_4 FU 0 0 M r h)
theorem w_Mo_result_79  {M : Mem} {r : Int × Mem} (h : k_Mo_result_79 M = some r) : Fr [155, 156, 157, 158, 159, 175, 176, 177] [(111, 0), (111, 1), (111, 72), (111, 108)] M r.2 := by
  unfold k_Mo_result_79 at h
  have hFM : Fr [155, 156, 157, 158, 159, 175, 176, 177] [(111, 0), (111, 1), (111, 72), (111, 108)] M M := Fr.rfl'
  cases h; exact hFM
theorem w_Mo_result {a1 a2 : Int} {M : Mem} {r : Int × Mem} (h : d_Mo_result a1 a2 M = some r) : Fr [155, 156, 157, 158, 159, 175, 176, 177] [(111, 0), (111, 1), (111, 72), (111, 108)] M r.2 := by
  unfold d_Mo_result at h
  have hFM : Fr [155, 156, 157, 158, 159, 175, 176, 177] [(111, 0), (111, 1), (111, 72), (111, 108)] M M := Fr.rfl'
  obtain ⟨M1, eM1, h⟩ := blet_e h
  have hFM1 : Fr [155, 156, 157, 158, 159, 175, 176, 177] [(111, 0), (111, 1), (111, 72), (111, 108)] M M1 := by rw [eM1]; exact hFM.stoF (by simp)
  obtain ⟨M2, eM2, h⟩ := blet_e h
  have hFM2 : Fr [155, 156, 157, 158, 159, 175, 176, 177] [(111, 0), (111, 1), (111, 72), (111, 108)] M M2 := by rw [eM2]; exact hFM1.stoF (by simp)
  obtain ⟨v3, M4, fv3, h⟩ := bcall_e h
  have hFM4 : Fr [155, 156, 157, 158, 159, 175, 176, 177] [(111, 0), (111, 1), (111, 72), (111, 108)] M M4 := hFM2.trans ((w_Mo_isIn fv3).mono (by simp) (by simp))
  rcases ite_e h with ⟨c5, h⟩ | ⟨c5, h⟩
  · skip
    obtain ⟨v6, M7, fv6, h⟩ := bcall_e h
    have hFM7 : Fr [155, 156, 157, 158, 159, 175, 176, 177] [(111, 0), (111, 1), (111, 72), (111, 108)] M M7 := hFM4.trans ((w_Mo_refuse fv6).mono (by simp) (by simp))
    cases h; exact hFM7
  · skip
    obtain ⟨v8, M9, fv8, h⟩ := bcall_e h
    have hFM9 : Fr [155, 156, 157, 158, 159, 175, 176, 177] [(111, 0), (111, 1), (111, 72), (111, 108)] M M9 := hFM4.trans ((w_Mo_isDay fv8).mono (by simp) (by simp))
    rcases ite_e h with ⟨c10, h⟩ | ⟨c10, h⟩
    · skip
      obtain ⟨v11, M12, fv11, h⟩ := bcall_e h
      have hFM12 : Fr [155, 156, 157, 158, 159, 175, 176, 177] [(111, 0), (111, 1), (111, 72), (111, 108)] M M12 := hFM9.trans ((w_Mo_refuse fv11).mono (by simp) (by simp))
      cases h; exact hFM12
    · skip
      obtain ⟨v13, M14, fv13, h⟩ := bcall_e h
      have hFM14 : Fr [155, 156, 157, 158, 159, 175, 176, 177] [(111, 0), (111, 1), (111, 72), (111, 108)] M M14 := hFM9.trans ((w_Mo_findVotes fv13).mono (by simp) (by simp))
      rcases ite_e h with ⟨c15, h⟩ | ⟨c15, h⟩
      · skip
        obtain ⟨v16, M17, fv16, h⟩ := bcall_e h
        have hFM17 : Fr [155, 156, 157, 158, 159, 175, 176, 177] [(111, 0), (111, 1), (111, 72), (111, 108)] M M17 := hFM14.trans ((w_Mo_isFor fv16).mono (by simp) (by simp))
        rcases ite_e h with ⟨c18, h⟩ | ⟨c18, h⟩
        · skip
          cases h; exact hFM17
        · skip
          exact hFM17.trans (w_Mo_result_79 h)
      · skip
        obtain ⟨c19, h⟩ := chk_e h
        obtain ⟨v20, ev20, h⟩ := blet_e h
        obtain ⟨c21, h⟩ := chk_e h
        obtain ⟨v22, ev22, h⟩ := blet_e h
        rcases ite_e h with ⟨c23, h⟩ | ⟨c23, h⟩
        · skip
          exact hFM14.trans (w_Mo_result_79 h)
        · skip
          cases h; exact hFM14
theorem w_Mo_add_89 {R3 : Int → Int → Int → Int → Int → Mem → Res} (hR3 : ∀ (a1 a2 a3 a4 a5 : Int) (M : Mem) (r : Int × Mem), R3 a1 a2 a3 a4 a5 M = some r → Fr [175, 176] [] M r.2) {a1 a2 a3 a4 a5 : Int} {M : Mem} {r : Int × Mem} (h : k_Mo_add_89 R3 a1 a2 a3 a4 a5 M = some r) : Fr [175, 176] [] M r.2 := by
  unfold k_Mo_add_89 at h
  have hFM : Fr [175, 176] [] M M := Fr.rfl'
  obtain ⟨v1, ev1, h⟩ := blet_e h
  exact hFM.trans (hR3 a1 a2 a3 a4 v1 M r h)
theorem w_Mo_add_3 {R3 : Int → Int → Int → Int → Int → Mem → Res} (hR3 : ∀ (a1 a2 a3 a4 a5 : Int) (M : Mem) (r : Int × Mem), R3 a1 a2 a3 a4 a5 M = some r → Fr [175, 176] [] M r.2) {a1 a2 a3 a4 a5 : Int} {M : Mem} {r : Int × Mem} (h : k_Mo_add_3 R3 a1 a2 a3 a4 a5 M = some r) : Fr [175, 176] [] M r.2 := by
  unfold k_Mo_add_3 at h
  have hFM : Fr [175, 176] [] M M := Fr.rfl'
  rcases ite_e h with ⟨c1, h⟩ | ⟨c1, h⟩
  · skip
    rcases ite_e h with ⟨c2, h⟩ | ⟨c2, h⟩
    · skip
      exact hFM.trans (w_Mo_add_89 hR3 h)
    · skip
      obtain ⟨c3, h⟩ := chk_e h
      obtain ⟨v4, ev4, h⟩ := blet_e h
      rcases ite_e h with ⟨c5, h⟩ | ⟨c5, h⟩
      · skip
        obtain ⟨c6, h⟩ := chk_e h
        obtain ⟨v7, ev7, h⟩ := blet_e h
        obtain ⟨c8, h⟩ := chk_e h
        obtain ⟨v9, ev9, h⟩ := blet_e h
        obtain ⟨c10, h⟩ := chk_e h
        obtain ⟨v11, ev11, h⟩ := blet_e h
        obtain ⟨c12, h⟩ := chk_e h
        obtain ⟨M13, eM13, h⟩ := blet_e h
        have hFM13 : Fr [175, 176] [] M M13 := by rw [eM13]; exact hFM.stoA (by simp)
        exact hFM13.trans (w_Mo_add_89 hR3 h)
      · skip
        obtain ⟨c14, h⟩ := chk_e h
        obtain ⟨v15, ev15, h⟩ := blet_e h
        obtain ⟨c16, h⟩ := chk_e h
        obtain ⟨v17, ev17, h⟩ := blet_e h
        obtain ⟨c18, h⟩ := chk_e h
        obtain ⟨v19, ev19, h⟩ := blet_e h
        obtain ⟨c20, h⟩ := chk_e h
        obtain ⟨M21, eM21, h⟩ := blet_e h
        have hFM21 : Fr [175, 176] [] M M21 := by rw [eM21]; exact hFM.stoA (by simp)
        exact hFM21.trans (w_Mo_add_89 hR3 h)
  · skip
    cases h; exact hFM
theorem wl_Mo_add_3  : ∀ (n : Nat) (a1 a2 a3 a4 a5 : Int) (M : Mem) (r : Int × Mem), fix (fun _ _ _ _ _ _ => none) (k_Mo_add_3) n a1 a2 a3 a4 a5 M = some r → Fr [175, 176] [] M r.2 := by
  intro n
  induction n with
  | zero => intro a1 a2 a3 a4 a5 M r h; exact nomatch (show (none : Res) = some r from h)
  | succ n ih => intro a1 a2 a3 a4 a5 M r h; exact w_Mo_add_3 ih h
theorem w_Mo_add {a1 a2 a3 a4 : Int} {M : Mem} {r : Int × Mem} (h : d_Mo_add a1 a2 a3 a4 M = some r) : Fr [175, 176] [] M r.2 := by
  unfold d_Mo_add at h
  have hFM : Fr [175, 176] [] M M := Fr.rfl'
  exact hFM.trans (wl_Mo_add_3 FU a1 a2 a3 a4 0 M r h)
theorem w_Mo_hangs_166 {R166 : Int → Int → Int → Int → Mem → Res} (hR166 : ∀ (a3 a4 a6 a7 : Int) (M : Mem) (r : Int × Mem), R166 a3 a4 a6 a7 M = some r → Fr [155, 156, 157, 158, 159, 173, 175, 176, 177] [(111, 0), (111, 1), (111, 72), (111, 108)] M r.2) {a3 a4 a6 a7 : Int} {M : Mem} {r : Int × Mem} (h : k_Mo_hangs_166 R166 a3 a4 a6 a7 M = some r) : Fr [155, 156, 157, 158, 159, 173, 175, 176, 177] [(111, 0), (111, 1), (111, 72), (111, 108)] M r.2 := by
  unfold k_Mo_hangs_166 at h
  have hFM : Fr [155, 156, 157, 158, 159, 173, 175, 176, 177] [(111, 0), (111, 1), (111, 72), (111, 108)] M M := Fr.rfl'
  rcases ite_e h with ⟨c1, h⟩ | ⟨c1, h⟩
  · skip
    obtain ⟨c2, h⟩ := chk_e h
    obtain ⟨v3, ev3, h⟩ := blet_e h
    obtain ⟨v4, ev4, h⟩ := blet_e h
    obtain ⟨v5, ev5, h⟩ := blet_e h
    exact hFM.trans (hR166 a3 a4 v4 v5 M r h)
  · skip
    cases h; exact hFM
theorem wl_Mo_hangs_166  : ∀ (n : Nat) (a3 a4 a6 a7 : Int) (M : Mem) (r : Int × Mem), fix (fun _ _ _ _ _ => none) (k_Mo_hangs_166) n a3 a4 a6 a7 M = some r → Fr [155, 156, 157, 158, 159, 173, 175, 176, 177] [(111, 0), (111, 1), (111, 72), (111, 108)] M r.2 := by
  intro n
  induction n with
  | zero => intro a3 a4 a6 a7 M r h; exact nomatch (show (none : Res) = some r from h)
  | succ n ih => intro a3 a4 a6 a7 M r h; exact w_Mo_hangs_166 ih h
theorem w_Mo_hangs_147 {R89 : Int → Int → Int → Int → Int → Mem → Res} (hR89 : ∀ (a2 a3 a4 a5 a6 : Int) (M : Mem) (r : Int × Mem), R89 a2 a3 a4 a5 a6 M = some r → Fr [155, 156, 157, 158, 159, 173, 175, 176, 177] [(111, 0), (111, 1), (111, 72), (111, 108)] M r.2) {a2 a3 a4 a5 a6 : Int} {M : Mem} {r : Int × Mem} (h : k_Mo_hangs_147 R89 a2 a3 a4 a5 a6 M = some r) : Fr [155, 156, 157, 158, 159, 173, 175, 176, 177] [(111, 0), (111, 1), (111, 72), (111, 108)] M r.2 := by
  unfold k_Mo_hangs_147 at h
  have hFM : Fr [155, 156, 157, 158, 159, 173, 175, 176, 177] [(111, 0), (111, 1), (111, 72), (111, 108)] M M := Fr.rfl'
  obtain ⟨v1, ev1, h⟩ := blet_e h
  exact hFM.trans (hR89 a2 a3 a4 a5 v1 M r h)
theorem w_Mo_hangs_138 {R89 : Int → Int → Int → Int → Int → Mem → Res} (hR89 : ∀ (a2 a3 a4 a5 a6 : Int) (M : Mem) (r : Int × Mem), R89 a2 a3 a4 a5 a6 M = some r → Fr [155, 156, 157, 158, 159, 173, 175, 176, 177] [(111, 0), (111, 1), (111, 72), (111, 108)] M r.2) {a2 a3 a4 a5 a6 : Int} {M : Mem} {r : Int × Mem} (h : k_Mo_hangs_138 R89 a2 a3 a4 a5 a6 M = some r) : Fr [155, 156, 157, 158, 159, 173, 175, 176, 177] [(111, 0), (111, 1), (111, 72), (111, 108)] M r.2 := by
  unfold k_Mo_hangs_138 at h
  have hFM : Fr [155, 156, 157, 158, 159, 173, 175, 176, 177] [(111, 0), (111, 1), (111, 72), (111, 108)] M M := Fr.rfl'
  obtain ⟨v1, M2, fv1, h⟩ := bcall_e h
  have hFM2 : Fr [155, 156, 157, 158, 159, 173, 175, 176, 177] [(111, 0), (111, 1), (111, 72), (111, 108)] M M2 := hFM.trans ((w_Mo_add fv1).mono (by simp) (by simp))
  exact hFM2.trans (w_Mo_hangs_147 hR89 h)
theorem w_Mo_hangs_89 {R89 : Int → Int → Int → Int → Int → Mem → Res} (hR89 : ∀ (a2 a3 a4 a5 a6 : Int) (M : Mem) (r : Int × Mem), R89 a2 a3 a4 a5 a6 M = some r → Fr [155, 156, 157, 158, 159, 173, 175, 176, 177] [(111, 0), (111, 1), (111, 72), (111, 108)] M r.2) {a2 a3 a4 a5 a6 : Int} {M : Mem} {r : Int × Mem} (h : k_Mo_hangs_89 R89 a2 a3 a4 a5 a6 M = some r) : Fr [155, 156, 157, 158, 159, 173, 175, 176, 177] [(111, 0), (111, 1), (111, 72), (111, 108)] M r.2 := by
  unfold k_Mo_hangs_89 at h
  have hFM : Fr [155, 156, 157, 158, 159, 173, 175, 176, 177] [(111, 0), (111, 1), (111, 72), (111, 108)] M M := Fr.rfl'
  rcases ite_e h with ⟨c1, h⟩ | ⟨c1, h⟩
  · skip
    obtain ⟨v2, M3, fv2, h⟩ := bcall_e h
    have hFM3 : Fr [155, 156, 157, 158, 159, 173, 175, 176, 177] [(111, 0), (111, 1), (111, 72), (111, 108)] M M3 := hFM.trans ((w_In_bitCount fv2).mono (by simp) (by simp))
    rcases ite_e h with ⟨c4, h⟩ | ⟨c4, h⟩
    · skip
      obtain ⟨v5, M6, fv5, h⟩ := bcall_e h
      have hFM6 : Fr [155, 156, 157, 158, 159, 173, 175, 176, 177] [(111, 0), (111, 1), (111, 72), (111, 108)] M M6 := hFM3.trans ((w_Mo_add fv5).mono (by simp) (by simp))
      obtain ⟨v7, M8, fv7, h⟩ := bcall_e h
      have hFM8 : Fr [155, 156, 157, 158, 159, 173, 175, 176, 177] [(111, 0), (111, 1), (111, 72), (111, 108)] M M8 := hFM6.trans ((w_Mo_isFor fv7).mono (by simp) (by simp))
      rcases ite_e h with ⟨c9, h⟩ | ⟨c9, h⟩
      · skip
        exact hFM8.trans (w_Mo_hangs_138 hR89 h)
      · skip
        obtain ⟨v10, M11, fv10, h⟩ := bcall_e h
        have hFM11 : Fr [155, 156, 157, 158, 159, 173, 175, 176, 177] [(111, 0), (111, 1), (111, 72), (111, 108)] M M11 := hFM8.trans ((w_In_bitCount fv10).mono (by simp) (by simp))
        exact hFM11.trans (w_Mo_hangs_138 hR89 h)
    · skip
      exact hFM3.trans (w_Mo_hangs_147 hR89 h)
  · skip
    rcases ite_e h with ⟨c12, h⟩ | ⟨c12, h⟩
    · skip
      cases h; exact hFM
    · skip
      exact hFM.trans (wl_Mo_hangs_166 FU a3 a4 0 0 M r h)
theorem wl_Mo_hangs_89  : ∀ (n : Nat) (a2 a3 a4 a5 a6 : Int) (M : Mem) (r : Int × Mem), fix (fun _ _ _ _ _ _ => none) (k_Mo_hangs_89) n a2 a3 a4 a5 a6 M = some r → Fr [155, 156, 157, 158, 159, 173, 175, 176, 177] [(111, 0), (111, 1), (111, 72), (111, 108)] M r.2 := by
  intro n
  induction n with
  | zero => intro a2 a3 a4 a5 a6 M r h; exact nomatch (show (none : Res) = some r from h)
  | succ n ih => intro a2 a3 a4 a5 a6 M r h; exact w_Mo_hangs_89 ih h
theorem w_Mo_hangs_72 {R38 : Int → Int → Int → Mem → Res} (hR38 : ∀ (a2 a3 a4 : Int) (M : Mem) (r : Int × Mem), R38 a2 a3 a4 M = some r → Fr [155, 156, 157, 158, 159, 173, 175, 176, 177] [(111, 0), (111, 1), (111, 72), (111, 108)] M r.2) {a2 a3 a4 : Int} {M : Mem} {r : Int × Mem} (h : k_Mo_hangs_72 R38 a2 a3 a4 M = some r) : Fr [155, 156, 157, 158, 159, 173, 175, 176, 177] [(111, 0), (111, 1), (111, 72), (111, 108)] M r.2 := by
  unfold k_Mo_hangs_72 at h
  have hFM : Fr [155, 156, 157, 158, 159, 173, 175, 176, 177] [(111, 0), (111, 1), (111, 72), (111, 108)] M M := Fr.rfl'
  obtain ⟨v1, ev1, h⟩ := blet_e h
  exact hFM.trans (hR38 a2 a3 v1 M r h)
theorem w_Mo_hangs_38 {R38 : Int → Int → Int → Mem → Res} (hR38 : ∀ (a2 a3 a4 : Int) (M : Mem) (r : Int × Mem), R38 a2 a3 a4 M = some r → Fr [155, 156, 157, 158, 159, 173, 175, 176, 177] [(111, 0), (111, 1), (111, 72), (111, 108)] M r.2) {a2 a3 a4 : Int} {M : Mem} {r : Int × Mem} (h : k_Mo_hangs_38 R38 a2 a3 a4 M = some r) : Fr [155, 156, 157, 158, 159, 173, 175, 176, 177] [(111, 0), (111, 1), (111, 72), (111, 108)] M r.2 := by
  unfold k_Mo_hangs_38 at h
  have hFM : Fr [155, 156, 157, 158, 159, 173, 175, 176, 177] [(111, 0), (111, 1), (111, 72), (111, 108)] M M := Fr.rfl'
  obtain ⟨v1, ev1, h⟩ := blet_e h
  rcases ite_e h with ⟨c2, h⟩ | ⟨c2, h⟩
  · skip
    obtain ⟨c3, h⟩ := chk_e h
    obtain ⟨v4, ev4, h⟩ := blet_e h
    rcases ite_e h with ⟨c5, h⟩ | ⟨c5, h⟩
    · skip
      obtain ⟨c6, h⟩ := chk_e h
      obtain ⟨M7, eM7, h⟩ := blet_e h
      have hFM7 : Fr [155, 156, 157, 158, 159, 173, 175, 176, 177] [(111, 0), (111, 1), (111, 72), (111, 108)] M M7 := by rw [eM7]; exact hFM.stoA (by simp)
      obtain ⟨v8, ev8, h⟩ := blet_e h
      exact hFM7.trans (w_Mo_hangs_72 hR38 h)
    · skip
      exact hFM.trans (w_Mo_hangs_72 hR38 h)
  · skip
    obtain ⟨v9, ev9, h⟩ := blet_e h
    exact hFM.trans (wl_Mo_hangs_89 FU a2 a3 (-1) v9 1 M r h)
theorem wl_Mo_hangs_38  : ∀ (n : Nat) (a2 a3 a4 : Int) (M : Mem) (r : Int × Mem), fix (fun _ _ _ _ => none) (k_Mo_hangs_38) n a2 a3 a4 M = some r → Fr [155, 156, 157, 158, 159, 173, 175, 176, 177] [(111, 0), (111, 1), (111, 72), (111, 108)] M r.2 := by
  intro n
  induction n with
  | zero => intro a2 a3 a4 M r h; exact nomatch (show (none : Res) = some r from h)
  | succ n ih => intro a2 a3 a4 M r h; exact w_Mo_hangs_38 ih h
theorem w_Mo_hangs {a1 : Int} {M : Mem} {r : Int × Mem} (h : d_Mo_hangs a1 M = some r) : Fr [155, 156, 157, 158, 159, 173, 175, 176, 177] [(111, 0), (111, 1), (111, 72), (111, 108)] M r.2 := by
  unfold d_Mo_hangs at h
  have hFM : Fr [155, 156, 157, 158, 159, 173, 175, 176, 177] [(111, 0), (111, 1), (111, 72), (111, 108)] M M := Fr.rfl'
  obtain ⟨M1, eM1, h⟩ := blet_e h
  have hFM1 : Fr [155, 156, 157, 158, 159, 173, 175, 176, 177] [(111, 0), (111, 1), (111, 72), (111, 108)] M M1 := by rw [eM1]; exact hFM.stoF (by simp)
  obtain ⟨M2, eM2, h⟩ := blet_e h
  have hFM2 : Fr [155, 156, 157, 158, 159, 173, 175, 176, 177] [(111, 0), (111, 1), (111, 72), (111, 108)] M M2 := by rw [eM2]; exact hFM1.stoF (by simp)
  obtain ⟨v3, M4, fv3, h⟩ := bcall_e h
  have hFM4 : Fr [155, 156, 157, 158, 159, 173, 175, 176, 177] [(111, 0), (111, 1), (111, 72), (111, 108)] M M4 := hFM2.trans ((w_Mo_isDay fv3).mono (by simp) (by simp))
  rcases ite_e h with ⟨c5, h⟩ | ⟨c5, h⟩
  · skip
    obtain ⟨v6, M7, fv6, h⟩ := bcall_e h
    have hFM7 : Fr [155, 156, 157, 158, 159, 173, 175, 176, 177] [(111, 0), (111, 1), (111, 72), (111, 108)] M M7 := hFM4.trans ((w_Mo_refuse fv6).mono (by simp) (by simp))
    cases h; exact hFM7
  · skip
    obtain ⟨v8, M9, fv8, h⟩ := bcall_e h
    have hFM9 : Fr [155, 156, 157, 158, 159, 173, 175, 176, 177] [(111, 0), (111, 1), (111, 72), (111, 108)] M M9 := hFM4.trans ((w_Mo_findVotes fv8).mono (by simp) (by simp))
    obtain ⟨v10, M11, fv10, h⟩ := bcall_e h
    have hFM11 : Fr [155, 156, 157, 158, 159, 173, 175, 176, 177] [(111, 0), (111, 1), (111, 72), (111, 108)] M M11 := hFM9.trans ((w_Mo_isFor fv10).mono (by simp) (by simp))
    exact hFM11.trans (wl_Mo_hangs_38 FU v10 0 0 M11 r h)
theorem w_Mo_numberOf {a1 a2 : Int} {M : Mem} {r : Int × Mem} (h : d_Mo_numberOf a1 a2 M = some r) : Fr [] [] M r.2 := by
  unfold d_Mo_numberOf at h
  have hFM : Fr [] [] M M := Fr.rfl'
  obtain ⟨c1, h⟩ := chk_e h
  obtain ⟨v2, ev2, h⟩ := blet_e h
  cases h; exact hFM
theorem w_Mo_canTurn {a1 a2 a3 : Int} {M : Mem} {r : Int × Mem} (h : d_Mo_canTurn a1 a2 a3 M = some r) : Fr [] [] M r.2 := by
  unfold d_Mo_canTurn at h
  have hFM : Fr [] [] M M := Fr.rfl'
  rcases ite_e h with ⟨c1, h⟩ | ⟨c1, h⟩
  · skip
    obtain ⟨c2, h⟩ := chk_e h
    obtain ⟨v3, ev3, h⟩ := blet_e h
    rcases ite_e h with ⟨c4, h⟩ | ⟨c4, h⟩
    · skip
      cases h; exact hFM
    · skip
      cases h; exact hFM
  · skip
    cases h; exact hFM
theorem w_Mo_warm_495 {R377 : Int → Int → Int → Mem → Res} (hR377 : ∀ (a3 a4 a5 : Int) (M : Mem) (r : Int × Mem), R377 a3 a4 a5 M = some r → Fr [178, 179, 180, 181] [(111, 0), (111, 1), (111, 107)] M r.2) {a3 a5 s0 s1 : Int} {M : Mem} {r : Int × Mem} (h : k_Mo_warm_495 R377 a3 a5 s0 s1 M = some r) : Fr [178, 179, 180, 181] [(111, 0), (111, 1), (111, 107)] M r.2 := by
  unfold k_Mo_warm_495 at h
  have hFM : Fr [178, 179, 180, 181] [(111, 0), (111, 1), (111, 107)] M M := Fr.rfl'
  obtain ⟨v1, ev1, h⟩ := blet_e h
  obtain ⟨v2, ev2, h⟩ := blet_e h
  exact hFM.trans (hR377 a3 v1 v2 M r h)
theorem w_Mo_warm_478 {R377 : Int → Int → Int → Mem → Res} (hR377 : ∀ (a3 a4 a5 : Int) (M : Mem) (r : Int × Mem), R377 a3 a4 a5 M = some r → Fr [178, 179, 180, 181] [(111, 0), (111, 1), (111, 107)] M r.2) {a3 a4 a5 a6 s1 s2 : Int} {M : Mem} {r : Int × Mem} (h : k_Mo_warm_478 R377 a3 a4 a5 a6 s1 s2 M = some r) : Fr [178, 179, 180, 181] [(111, 0), (111, 1), (111, 107)] M r.2 := by
  unfold k_Mo_warm_478 at h
  have hFM : Fr [178, 179, 180, 181] [(111, 0), (111, 1), (111, 107)] M M := Fr.rfl'
  obtain ⟨c1, h⟩ := chk_e h
  obtain ⟨M2, eM2, h⟩ := blet_e h
  have hFM2 : Fr [178, 179, 180, 181] [(111, 0), (111, 1), (111, 107)] M M2 := by rw [eM2]; exact hFM.stoA (by simp)
  rcases ite_e h with ⟨c3, h⟩ | ⟨c3, h⟩
  · skip
    exact hFM2.trans (w_Mo_warm_495 hR377 h)
  · skip
    exact hFM2.trans (w_Mo_warm_495 hR377 h)
theorem w_Mo_warm_460 {R377 : Int → Int → Int → Mem → Res} (hR377 : ∀ (a3 a4 a5 : Int) (M : Mem) (r : Int × Mem), R377 a3 a4 a5 M = some r → Fr [178, 179, 180, 181] [(111, 0), (111, 1), (111, 107)] M r.2) {a3 a4 a5 a6 : Int} {M : Mem} {r : Int × Mem} (h : k_Mo_warm_460 R377 a3 a4 a5 a6 M = some r) : Fr [178, 179, 180, 181] [(111, 0), (111, 1), (111, 107)] M r.2 := by
  unfold k_Mo_warm_460 at h
  have hFM : Fr [178, 179, 180, 181] [(111, 0), (111, 1), (111, 107)] M M := Fr.rfl'
  rcases ite_e h with ⟨c1, h⟩ | ⟨c1, h⟩
  · skip
    exact hFM.trans (w_Mo_warm_478 hR377 h)
  · skip
    exact hFM.trans (w_Mo_warm_478 hR377 h)
theorem w_Mo_warm_454 {R377 : Int → Int → Int → Mem → Res} {R387 : Int → Int → Int → Int → Mem → Res} (hR377 : ∀ (a3 a4 a5 : Int) (M : Mem) (r : Int × Mem), R377 a3 a4 a5 M = some r → Fr [178, 179, 180, 181] [(111, 0), (111, 1), (111, 107)] M r.2) (hR387 : ∀ (a3 a4 a5 a6 : Int) (M : Mem) (r : Int × Mem), R387 a3 a4 a5 a6 M = some r → Fr [178, 179, 180, 181] [(111, 0), (111, 1), (111, 107)] M r.2) {a3 a4 a5 a6 : Int} {M : Mem} {r : Int × Mem} (h : k_Mo_warm_454 R377 R387 a3 a4 a5 a6 M = some r) : Fr [178, 179, 180, 181] [(111, 0), (111, 1), (111, 107)] M r.2 := by
  unfold k_Mo_warm_454 at h
  have hFM : Fr [178, 179, 180, 181] [(111, 0), (111, 1), (111, 107)] M M := Fr.rfl'
  obtain ⟨v1, ev1, h⟩ := blet_e h
  exact hFM.trans (hR387 a3 a4 a5 v1 M r h)
theorem w_Mo_warm_387 {R377 : Int → Int → Int → Mem → Res} {R387 : Int → Int → Int → Int → Mem → Res} (hR377 : ∀ (a3 a4 a5 : Int) (M : Mem) (r : Int × Mem), R377 a3 a4 a5 M = some r → Fr [178, 179, 180, 181] [(111, 0), (111, 1), (111, 107)] M r.2) (hR387 : ∀ (a3 a4 a5 a6 : Int) (M : Mem) (r : Int × Mem), R387 a3 a4 a5 a6 M = some r → Fr [178, 179, 180, 181] [(111, 0), (111, 1), (111, 107)] M r.2) {a3 a4 a5 a6 : Int} {M : Mem} {r : Int × Mem} (h : k_Mo_warm_387 R377 R387 a3 a4 a5 a6 M = some r) : Fr [178, 179, 180, 181] [(111, 0), (111, 1), (111, 107)] M r.2 := by
  unfold k_Mo_warm_387 at h
  have hFM : Fr [178, 179, 180, 181] [(111, 0), (111, 1), (111, 107)] M M := Fr.rfl'
  rcases ite_e h with ⟨c1, h⟩ | ⟨c1, h⟩
  · skip
    obtain ⟨v2, M3, fv2, h⟩ := bcall_e h
    have hFM3 : Fr [178, 179, 180, 181] [(111, 0), (111, 1), (111, 107)] M M3 := hFM.trans ((w_Mo_canTurn fv2).mono (by simp) (by simp))
    rcases ite_e h with ⟨c4, h⟩ | ⟨c4, h⟩
    · skip
      exact hFM3.trans (w_Mo_warm_454 hR377 hR387 h)
    · skip
      obtain ⟨c5, h⟩ := chk_e h
      obtain ⟨v6, ev6, h⟩ := blet_e h
      obtain ⟨c7, h⟩ := chk_e h
      obtain ⟨v8, ev8, h⟩ := blet_e h
      obtain ⟨c9, h⟩ := chk_e h
      obtain ⟨v10, ev10, h⟩ := blet_e h
      rcases ite_e h with ⟨c11, h⟩ | ⟨c11, h⟩
      · skip
        exact hFM3.trans (w_Mo_warm_460 hR377 h)
      · skip
        exact hFM3.trans (w_Mo_warm_454 hR377 hR387 h)
  · skip
    exact hFM.trans (w_Mo_warm_460 hR377 h)
theorem wl_Mo_warm_387 {R377 : Int → Int → Int → Mem → Res} (hR377 : ∀ (a3 a4 a5 : Int) (M : Mem) (r : Int × Mem), R377 a3 a4 a5 M = some r → Fr [178, 179, 180, 181] [(111, 0), (111, 1), (111, 107)] M r.2) : ∀ (n : Nat) (a3 a4 a5 a6 : Int) (M : Mem) (r : Int × Mem), fix (fun _ _ _ _ _ => none) (k_Mo_warm_387 R377) n a3 a4 a5 a6 M = some r → Fr [178, 179, 180, 181] [(111, 0), (111, 1), (111, 107)] M r.2 := by
  intro n
  induction n with
  | zero => intro a3 a4 a5 a6 M r h; exact nomatch (show (none : Res) = some r from h)
  | succ n ih => intro a3 a4 a5 a6 M r h; exact w_Mo_warm_387 hR377 ih h
theorem w_Mo_warm_377 {R377 : Int → Int → Int → Mem → Res} (hR377 : ∀ (a3 a4 a5 : Int) (M : Mem) (r : Int × Mem), R377 a3 a4 a5 M = some r → Fr [178, 179, 180, 181] [(111, 0), (111, 1), (111, 107)] M r.2) {a3 a4 a5 : Int} {M : Mem} {r : Int × Mem} (h : k_Mo_warm_377 R377 a3 a4 a5 M = some r) : Fr [178, 179, 180, 181] [(111, 0), (111, 1), (111, 107)] M r.2 := by
  unfold k_Mo_warm_377 at h
  have hFM : Fr [178, 179, 180, 181] [(111, 0), (111, 1), (111, 107)] M M := Fr.rfl'
  rcases ite_e h with ⟨c1, h⟩ | ⟨c1, h⟩
  · skip
    exact hFM.trans (wl_Mo_warm_387 hR377 FU a3 a4 a5 0 M r h)
  · skip
    obtain ⟨M2, eM2, h⟩ := blet_e h
    have hFM2 : Fr [178, 179, 180, 181] [(111, 0), (111, 1), (111, 107)] M M2 := by rw [eM2]; exact hFM.stoF (by simp)
    obtain ⟨v3, ev3, h⟩ := blet_e h
    cases h; exact hFM2
theorem wl_Mo_warm_377  : ∀ (n : Nat) (a3 a4 a5 : Int) (M : Mem) (r : Int × Mem), fix (fun _ _ _ _ => none) (k_Mo_warm_377) n a3 a4 a5 M = some r → Fr [178, 179, 180, 181] [(111, 0), (111, 1), (111, 107)] M r.2 := by
  intro n
  induction n with
  | zero => intro a3 a4 a5 M r h; exact nomatch (show (none : Res) = some r from h)
  | succ n ih => intro a3 a4 a5 M r h; exact w_Mo_warm_377 ih h
theorem w_Mo_warm_337 {R241 : Int → Int → Mem → Res} {R249 : Int → Int → Int → Mem → Res} {R280 : Int → Int → Int → Int → Int → Mem → Res} (hR241 : ∀ (a3 a4 : Int) (M : Mem) (r : Int × Mem), R241 a3 a4 M = some r → Fr [178, 179, 180, 181] [(111, 0), (111, 1), (111, 107)] M r.2) (hR249 : ∀ (a3 a4 a5 : Int) (M : Mem) (r : Int × Mem), R249 a3 a4 a5 M = some r → Fr [178, 179, 180, 181] [(111, 0), (111, 1), (111, 107)] M r.2) (hR280 : ∀ (a3 a4 a5 a6 a7 : Int) (M : Mem) (r : Int × Mem), R280 a3 a4 a5 a6 a7 M = some r → Fr [178, 179, 180, 181] [(111, 0), (111, 1), (111, 107)] M r.2) {a3 a4 a5 a6 a7 : Int} {M : Mem} {r : Int × Mem} (h : k_Mo_warm_337 R241 R249 R280 a3 a4 a5 a6 a7 M = some r) : Fr [178, 179, 180, 181] [(111, 0), (111, 1), (111, 107)] M r.2 := by
  unfold k_Mo_warm_337 at h
  have hFM : Fr [178, 179, 180, 181] [(111, 0), (111, 1), (111, 107)] M M := Fr.rfl'
  obtain ⟨v1, ev1, h⟩ := blet_e h
  exact hFM.trans (hR280 a3 a4 a5 a6 v1 M r h)
theorem w_Mo_warm_280 {R241 : Int → Int → Mem → Res} {R249 : Int → Int → Int → Mem → Res} {R280 : Int → Int → Int → Int → Int → Mem → Res} (hR241 : ∀ (a3 a4 : Int) (M : Mem) (r : Int × Mem), R241 a3 a4 M = some r → Fr [178, 179, 180, 181] [(111, 0), (111, 1), (111, 107)] M r.2) (hR249 : ∀ (a3 a4 a5 : Int) (M : Mem) (r : Int × Mem), R249 a3 a4 a5 M = some r → Fr [178, 179, 180, 181] [(111, 0), (111, 1), (111, 107)] M r.2) (hR280 : ∀ (a3 a4 a5 a6 a7 : Int) (M : Mem) (r : Int × Mem), R280 a3 a4 a5 a6 a7 M = some r → Fr [178, 179, 180, 181] [(111, 0), (111, 1), (111, 107)] M r.2) {a3 a4 a5 a6 a7 : Int} {M : Mem} {r : Int × Mem} (h : k_Mo_warm_280 R241 R249 R280 a3 a4 a5 a6 a7 M = some r) : Fr [178, 179, 180, 181] [(111, 0), (111, 1), (111, 107)] M r.2 := by
  unfold k_Mo_warm_280 at h
  have hFM : Fr [178, 179, 180, 181] [(111, 0), (111, 1), (111, 107)] M M := Fr.rfl'
  rcases ite_e h with ⟨c1, h⟩ | ⟨c1, h⟩
  · skip
    obtain ⟨v2, M3, fv2, h⟩ := bcall_e h
    have hFM3 : Fr [178, 179, 180, 181] [(111, 0), (111, 1), (111, 107)] M M3 := hFM.trans ((w_Mo_canTurn fv2).mono (by simp) (by simp))
    rcases ite_e h with ⟨c4, h⟩ | ⟨c4, h⟩
    · skip
      exact hFM3.trans (w_Mo_warm_337 hR241 hR249 hR280 h)
    · skip
      obtain ⟨c5, h⟩ := chk_e h
      obtain ⟨v6, ev6, h⟩ := blet_e h
      obtain ⟨c7, h⟩ := chk_e h
      obtain ⟨v8, ev8, h⟩ := blet_e h
      obtain ⟨v9, ev9, h⟩ := blet_e h
      exact hFM3.trans (w_Mo_warm_337 hR241 hR249 hR280 h)
  · skip
    obtain ⟨c10, h⟩ := chk_e h
    obtain ⟨M11, eM11, h⟩ := blet_e h
    have hFM11 : Fr [178, 179, 180, 181] [(111, 0), (111, 1), (111, 107)] M M11 := by rw [eM11]; exact hFM.stoA (by simp)
    obtain ⟨v12, ev12, h⟩ := blet_e h
    exact hFM11.trans (hR249 a3 a4 v12 M11 r h)
theorem wl_Mo_warm_280 {R241 : Int → Int → Mem → Res} {R249 : Int → Int → Int → Mem → Res} (hR241 : ∀ (a3 a4 : Int) (M : Mem) (r : Int × Mem), R241 a3 a4 M = some r → Fr [178, 179, 180, 181] [(111, 0), (111, 1), (111, 107)] M r.2) (hR249 : ∀ (a3 a4 a5 : Int) (M : Mem) (r : Int × Mem), R249 a3 a4 a5 M = some r → Fr [178, 179, 180, 181] [(111, 0), (111, 1), (111, 107)] M r.2) : ∀ (n : Nat) (a3 a4 a5 a6 a7 : Int) (M : Mem) (r : Int × Mem), fix (fun _ _ _ _ _ _ => none) (k_Mo_warm_280 R241 R249) n a3 a4 a5 a6 a7 M = some r → Fr [178, 179, 180, 181] [(111, 0), (111, 1), (111, 107)] M r.2 := by
  intro n
  induction n with
  | zero => intro a3 a4 a5 a6 a7 M r h; exact nomatch (show (none : Res) = some r from h)
  | succ n ih => intro a3 a4 a5 a6 a7 M r h; exact w_Mo_warm_280 hR241 hR249 ih h
theorem w_Mo_warm_249 {R241 : Int → Int → Mem → Res} {R249 : Int → Int → Int → Mem → Res} (hR241 : ∀ (a3 a4 : Int) (M : Mem) (r : Int × Mem), R241 a3 a4 M = some r → Fr [178, 179, 180, 181] [(111, 0), (111, 1), (111, 107)] M r.2) (hR249 : ∀ (a3 a4 a5 : Int) (M : Mem) (r : Int × Mem), R249 a3 a4 a5 M = some r → Fr [178, 179, 180, 181] [(111, 0), (111, 1), (111, 107)] M r.2) {a3 a4 a5 : Int} {M : Mem} {r : Int × Mem} (h : k_Mo_warm_249 R241 R249 a3 a4 a5 M = some r) : Fr [178, 179, 180, 181] [(111, 0), (111, 1), (111, 107)] M r.2 := by
  unfold k_Mo_warm_249 at h
  have hFM : Fr [178, 179, 180, 181] [(111, 0), (111, 1), (111, 107)] M M := Fr.rfl'
  rcases ite_e h with ⟨c1, h⟩ | ⟨c1, h⟩
  · skip
    obtain ⟨c2, h⟩ := chk_e h
    obtain ⟨v3, ev3, h⟩ := blet_e h
    exact hFM.trans (wl_Mo_warm_280 hR241 hR249 FU a3 a4 a5 v3 0 M r h)
  · skip
    obtain ⟨v4, ev4, h⟩ := blet_e h
    exact hFM.trans (hR241 a3 v4 M r h)
theorem wl_Mo_warm_249 {R241 : Int → Int → Mem → Res} (hR241 : ∀ (a3 a4 : Int) (M : Mem) (r : Int × Mem), R241 a3 a4 M = some r → Fr [178, 179, 180, 181] [(111, 0), (111, 1), (111, 107)] M r.2) : ∀ (n : Nat) (a3 a4 a5 : Int) (M : Mem) (r : Int × Mem), fix (fun _ _ _ _ => none) (k_Mo_warm_249 R241) n a3 a4 a5 M = some r → Fr [178, 179, 180, 181] [(111, 0), (111, 1), (111, 107)] M r.2 := by
  intro n
  induction n with
  | zero => intro a3 a4 a5 M r h; exact nomatch (show (none : Res) = some r from h)
  | succ n ih => intro a3 a4 a5 M r h; exact w_Mo_warm_249 hR241 ih h
theorem w_Mo_warm_241 {R241 : Int → Int → Mem → Res} (hR241 : ∀ (a3 a4 : Int) (M : Mem) (r : Int × Mem), R241 a3 a4 M = some r → Fr [178, 179, 180, 181] [(111, 0), (111, 1), (111, 107)] M r.2) {a3 a4 : Int} {M : Mem} {r : Int × Mem} (h : k_Mo_warm_241 R241 a3 a4 M = some r) : Fr [178, 179, 180, 181] [(111, 0), (111, 1), (111, 107)] M r.2 := by
  unfold k_Mo_warm_241 at h
  have hFM : Fr [178, 179, 180, 181] [(111, 0), (111, 1), (111, 107)] M M := Fr.rfl'
  rcases ite_e h with ⟨c1, h⟩ | ⟨c1, h⟩
  · skip
    exact hFM.trans (wl_Mo_warm_377 FU a3 0 0 M r h)
  · skip
    exact hFM.trans (wl_Mo_warm_249 hR241 FU a3 a4 0 M r h)
theorem wl_Mo_warm_241  : ∀ (n : Nat) (a3 a4 : Int) (M : Mem) (r : Int × Mem), fix (fun _ _ _ => none) (k_Mo_warm_241) n a3 a4 M = some r → Fr [178, 179, 180, 181] [(111, 0), (111, 1), (111, 107)] M r.2 := by
  intro n
  induction n with
  | zero => intro a3 a4 M r h; exact nomatch (show (none : Res) = some r from h)
  | succ n ih => intro a3 a4 M r h; exact w_Mo_warm_241 ih h
theorem w_Mo_warm_211 {R211 : Int → Int → Mem → Res} (hR211 : ∀ (a3 a4 : Int) (M : Mem) (r : Int × Mem), R211 a3 a4 M = some r → Fr [178, 179, 180, 181] [(111, 0), (111, 1), (111, 107)] M r.2) {a3 a4 : Int} {M : Mem} {r : Int × Mem} (h : k_Mo_warm_211 R211 a3 a4 M = some r) : Fr [178, 179, 180, 181] [(111, 0), (111, 1), (111, 107)] M r.2 := by
  unfold k_Mo_warm_211 at h
  have hFM : Fr [178, 179, 180, 181] [(111, 0), (111, 1), (111, 107)] M M := Fr.rfl'
  rcases ite_e h with ⟨c1, h⟩ | ⟨c1, h⟩
  · skip
    obtain ⟨c2, h⟩ := chk_e h
    obtain ⟨M3, eM3, h⟩ := blet_e h
    have hFM3 : Fr [178, 179, 180, 181] [(111, 0), (111, 1), (111, 107)] M M3 := by rw [eM3]; exact hFM.stoA (by simp)
    obtain ⟨v4, ev4, h⟩ := blet_e h
    exact hFM3.trans (hR211 a3 v4 M3 r h)
  · skip
    exact hFM.trans (wl_Mo_warm_241 FU a3 19 M r h)
theorem wl_Mo_warm_211  : ∀ (n : Nat) (a3 a4 : Int) (M : Mem) (r : Int × Mem), fix (fun _ _ _ => none) (k_Mo_warm_211) n a3 a4 M = some r → Fr [178, 179, 180, 181] [(111, 0), (111, 1), (111, 107)] M r.2 := by
  intro n
  induction n with
  | zero => intro a3 a4 M r h; exact nomatch (show (none : Res) = some r from h)
  | succ n ih => intro a3 a4 M r h; exact w_Mo_warm_211 ih h
theorem w_Mo_warm_166 {R166 : Int → Int → Int → Int → Mem → Res} (hR166 : ∀ (a1 a2 a3 a4 : Int) (M : Mem) (r : Int × Mem), R166 a1 a2 a3 a4 M = some r → Fr [178, 179, 180, 181] [(111, 0), (111, 1), (111, 107)] M r.2) {a1 a2 a3 a4 : Int} {M : Mem} {r : Int × Mem} (h : k_Mo_warm_166 R166 a1 a2 a3 a4 M = some r) : Fr [178, 179, 180, 181] [(111, 0), (111, 1), (111, 107)] M r.2 := by
  unfold k_Mo_warm_166 at h
  have hFM : Fr [178, 179, 180, 181] [(111, 0), (111, 1), (111, 107)] M M := Fr.rfl'
  rcases ite_e h with ⟨c1, h⟩ | ⟨c1, h⟩
  · skip
    obtain ⟨v2, M3, fv2, h⟩ := bcall_e h
    have hFM3 : Fr [178, 179, 180, 181] [(111, 0), (111, 1), (111, 107)] M M3 := hFM.trans ((w_Mo_numberOf fv2).mono (by simp) (by simp))
    obtain ⟨c4, h⟩ := chk_e h
    obtain ⟨M5, eM5, h⟩ := blet_e h
    have hFM5 : Fr [178, 179, 180, 181] [(111, 0), (111, 1), (111, 107)] M M5 := by rw [eM5]; exact hFM3.stoA (by simp)
    obtain ⟨v6, M7, fv6, h⟩ := bcall_e h
    have hFM7 : Fr [178, 179, 180, 181] [(111, 0), (111, 1), (111, 107)] M M7 := hFM5.trans ((w_Mo_numberOf fv6).mono (by simp) (by simp))
    obtain ⟨c8, h⟩ := chk_e h
    obtain ⟨M9, eM9, h⟩ := blet_e h
    have hFM9 : Fr [178, 179, 180, 181] [(111, 0), (111, 1), (111, 107)] M M9 := by rw [eM9]; exact hFM7.stoA (by simp)
    obtain ⟨v10, ev10, h⟩ := blet_e h
    exact hFM9.trans (hR166 a1 a2 a3 v10 M9 r h)
  · skip
    exact hFM.trans (wl_Mo_warm_211 FU a3 0 M r h)
theorem wl_Mo_warm_166  : ∀ (n : Nat) (a1 a2 a3 a4 : Int) (M : Mem) (r : Int × Mem), fix (fun _ _ _ _ _ => none) (k_Mo_warm_166) n a1 a2 a3 a4 M = some r → Fr [178, 179, 180, 181] [(111, 0), (111, 1), (111, 107)] M r.2 := by
  intro n
  induction n with
  | zero => intro a1 a2 a3 a4 M r h; exact nomatch (show (none : Res) = some r from h)
  | succ n ih => intro a1 a2 a3 a4 M r h; exact w_Mo_warm_166 ih h
theorem w_Mo_warm_151  {M : Mem} {r : Int × Mem} (h : k_Mo_warm_151 M = some r) : Fr [178, 179, 180, 181] [(111, 0), (111, 1), (111, 107)] M r.2 := by
  unfold k_Mo_warm_151 at h
  have hFM : Fr [178, 179, 180, 181] [(111, 0), (111, 1), (111, 107)] M M := Fr.rfl'
  obtain ⟨v1, M2, fv1, h⟩ := bcall_e h
  have hFM2 : Fr [178, 179, 180, 181] [(111, 0), (111, 1), (111, 107)] M M2 := hFM.trans ((w_Mo_refuse fv1).mono (by simp) (by simp))
  cases h; exact hFM2
theorem w_Mo_warm_111 {R111 : Int → Int → Int → Int → Mem → Res} (hR111 : ∀ (a1 a2 a3 a4 : Int) (M : Mem) (r : Int × Mem), R111 a1 a2 a3 a4 M = some r → Fr [178, 179, 180, 181] [(111, 0), (111, 1), (111, 107)] M r.2) {a1 a2 a3 a4 : Int} {M : Mem} {r : Int × Mem} (h : k_Mo_warm_111 R111 a1 a2 a3 a4 M = some r) : Fr [178, 179, 180, 181] [(111, 0), (111, 1), (111, 107)] M r.2 := by
  unfold k_Mo_warm_111 at h
  have hFM : Fr [178, 179, 180, 181] [(111, 0), (111, 1), (111, 107)] M M := Fr.rfl'
  rcases ite_e h with ⟨c1, h⟩ | ⟨c1, h⟩
  · skip
    obtain ⟨v2, M3, fv2, h⟩ := bcall_e h
    have hFM3 : Fr [178, 179, 180, 181] [(111, 0), (111, 1), (111, 107)] M M3 := hFM.trans ((w_Mo_numberOf fv2).mono (by simp) (by simp))
    obtain ⟨v4, M5, fv4, h⟩ := bcall_e h
    have hFM5 : Fr [178, 179, 180, 181] [(111, 0), (111, 1), (111, 107)] M M5 := hFM3.trans ((w_Mo_isIn fv4).mono (by simp) (by simp))
    rcases ite_e h with ⟨c6, h⟩ | ⟨c6, h⟩
    · skip
      exact hFM5.trans (w_Mo_warm_151 h)
    · skip
      obtain ⟨v7, M8, fv7, h⟩ := bcall_e h
      have hFM8 : Fr [178, 179, 180, 181] [(111, 0), (111, 1), (111, 107)] M M8 := hFM5.trans ((w_Mo_numberOf fv7).mono (by simp) (by simp))
      obtain ⟨v9, M10, fv9, h⟩ := bcall_e h
      have hFM10 : Fr [178, 179, 180, 181] [(111, 0), (111, 1), (111, 107)] M M10 := hFM8.trans ((w_Mo_isIn fv9).mono (by simp) (by simp))
      rcases ite_e h with ⟨c11, h⟩ | ⟨c11, h⟩
      · skip
        exact hFM10.trans (w_Mo_warm_151 h)
      · skip
        obtain ⟨v12, ev12, h⟩ := blet_e h
        exact hFM10.trans (hR111 a1 a2 a3 v12 M10 r h)
  · skip
    exact hFM.trans (wl_Mo_warm_166 FU a1 a2 a3 0 M r h)
theorem wl_Mo_warm_111  : ∀ (n : Nat) (a1 a2 a3 a4 : Int) (M : Mem) (r : Int × Mem), fix (fun _ _ _ _ _ => none) (k_Mo_warm_111) n a1 a2 a3 a4 M = some r → Fr [178, 179, 180, 181] [(111, 0), (111, 1), (111, 107)] M r.2 := by
  intro n
  induction n with
  | zero => intro a1 a2 a3 a4 M r h; exact nomatch (show (none : Res) = some r from h)
  | succ n ih => intro a1 a2 a3 a4 M r h; exact w_Mo_warm_111 ih h
theorem w_Mo_warm_102  {M : Mem} {r : Int × Mem} (h : k_Mo_warm_102 M = some r) : Fr [178, 179, 180, 181] [(111, 0), (111, 1), (111, 107)] M r.2 := by
  unfold k_Mo_warm_102 at h
  have hFM : Fr [178, 179, 180, 181] [(111, 0), (111, 1), (111, 107)] M M := Fr.rfl'
  obtain ⟨v1, M2, fv1, h⟩ := bcall_e h
  have hFM2 : Fr [178, 179, 180, 181] [(111, 0), (111, 1), (111, 107)] M M2 := hFM.trans ((w_Mo_refuse fv1).mono (by simp) (by simp))
  cases h; exact hFM2
theorem w_Mo_warm_58  {M : Mem} {r : Int × Mem} (h : k_Mo_warm_58 M = some r) : Fr [178, 179, 180, 181] [(111, 0), (111, 1), (111, 107)] M r.2 := by
  unfold k_Mo_warm_58 at h
  have hFM : Fr [178, 179, 180, 181] [(111, 0), (111, 1), (111, 107)] M M := Fr.rfl'
  obtain ⟨v1, M2, fv1, h⟩ := bcall_e h
  have hFM2 : Fr [178, 179, 180, 181] [(111, 0), (111, 1), (111, 107)] M M2 := hFM.trans ((w_Mo_refuse fv1).mono (by simp) (by simp))
  cases h; exact hFM2
theorem w_Mo_warm_34  {M : Mem} {r : Int × Mem} (h : k_Mo_warm_34 M = some r) : Fr [178, 179, 180, 181] [(111, 0), (111, 1), (111, 107)] M r.2 := by
  unfold k_Mo_warm_34 at h
  have hFM : Fr [178, 179, 180, 181] [(111, 0), (111, 1), (111, 107)] M M := Fr.rfl'
  obtain ⟨v1, M2, fv1, h⟩ := bcall_e h
  have hFM2 : Fr [178, 179, 180, 181] [(111, 0), (111, 1), (111, 107)] M M2 := hFM.trans ((w_Mo_refuse fv1).mono (by simp) (by simp))
  cases h; exact hFM2
theorem w_Mo_warm {a1 a2 a3 : Int} {M : Mem} {r : Int × Mem} (h : d_Mo_warm a1 a2 a3 M = some r) : Fr [178, 179, 180, 181] [(111, 0), (111, 1), (111, 107)] M r.2 := by
  unfold d_Mo_warm at h
  have hFM : Fr [178, 179, 180, 181] [(111, 0), (111, 1), (111, 107)] M M := Fr.rfl'
  obtain ⟨M1, eM1, h⟩ := blet_e h
  have hFM1 : Fr [178, 179, 180, 181] [(111, 0), (111, 1), (111, 107)] M M1 := by rw [eM1]; exact hFM.stoF (by simp)
  obtain ⟨M2, eM2, h⟩ := blet_e h
  have hFM2 : Fr [178, 179, 180, 181] [(111, 0), (111, 1), (111, 107)] M M2 := by rw [eM2]; exact hFM1.stoF (by simp)
  obtain ⟨v3, M4, fv3, h⟩ := bcall_e h
  have hFM4 : Fr [178, 179, 180, 181] [(111, 0), (111, 1), (111, 107)] M M4 := hFM2.trans ((w_Mo_isIn fv3).mono (by simp) (by simp))
  rcases ite_e h with ⟨c5, h⟩ | ⟨c5, h⟩
  · skip
    exact hFM4.trans (w_Mo_warm_34 h)
  · skip
    obtain ⟨v6, M7, fv6, h⟩ := bcall_e h
    have hFM7 : Fr [178, 179, 180, 181] [(111, 0), (111, 1), (111, 107)] M M7 := hFM4.trans ((w_Mo_isIn fv6).mono (by simp) (by simp))
    rcases ite_e h with ⟨c8, h⟩ | ⟨c8, h⟩
    · skip
      exact hFM7.trans (w_Mo_warm_34 h)
    · skip
      obtain ⟨c9, h⟩ := chk_e h
      obtain ⟨v10, ev10, h⟩ := blet_e h
      rcases ite_e h with ⟨c11, h⟩ | ⟨c11, h⟩
      · skip
        exact hFM7.trans (w_Mo_warm_58 h)
      · skip
        obtain ⟨c12, h⟩ := chk_e h
        obtain ⟨v13, ev13, h⟩ := blet_e h
        rcases ite_e h with ⟨c14, h⟩ | ⟨c14, h⟩
        · skip
          exact hFM7.trans (w_Mo_warm_58 h)
        · skip
          obtain ⟨v15, M16, fv15, h⟩ := bcall_e h
          have hFM16 : Fr [178, 179, 180, 181] [(111, 0), (111, 1), (111, 107)] M M16 := hFM7.trans ((w_Mo_isIn fv15).mono (by simp) (by simp))
          rcases ite_e h with ⟨c17, h⟩ | ⟨c17, h⟩
          · skip
            obtain ⟨v18, M19, fv18, h⟩ := bcall_e h
            have hFM19 : Fr [178, 179, 180, 181] [(111, 0), (111, 1), (111, 107)] M M19 := hFM16.trans ((w_Mo_refuse fv18).mono (by simp) (by simp))
            cases h; exact hFM19
          · skip
            obtain ⟨c20, h⟩ := chk_e h
            obtain ⟨v21, ev21, h⟩ := blet_e h
            rcases ite_e h with ⟨c22, h⟩ | ⟨c22, h⟩
            · skip
              exact hFM16.trans (w_Mo_warm_102 h)
            · skip
              obtain ⟨c23, h⟩ := chk_e h
              obtain ⟨v24, ev24, h⟩ := blet_e h
              rcases ite_e h with ⟨c25, h⟩ | ⟨c25, h⟩
              · skip
                exact hFM16.trans (w_Mo_warm_102 h)
              · skip
                exact hFM16.trans (wl_Mo_warm_111 FU a1 a2 a3 0 M16 r h)
theorem w_Mo_turned_38  {M : Mem} {r : Int × Mem} (h : k_Mo_turned_38 M = some r) : Fr [] [(111, 0), (111, 1)] M r.2 := by
  unfold k_Mo_turned_38 at h
  have hFM : Fr [] [(111, 0), (111, 1)] M M := Fr.rfl'
  obtain ⟨v1, M2, fv1, h⟩ := bcall_e h
  have hFM2 : Fr [] [(111, 0), (111, 1)] M M2 := hFM.trans ((w_Mo_refuse fv1).mono (by simp) (by simp))
  cases h; exact hFM2
theorem w_Mo_turned {a1 : Int} {M : Mem} {r : Int × Mem} (h : d_Mo_turned a1 M = some r) : Fr [] [(111, 0), (111, 1)] M r.2 := by
  unfold d_Mo_turned at h
  have hFM : Fr [] [(111, 0), (111, 1)] M M := Fr.rfl'
  obtain ⟨M1, eM1, h⟩ := blet_e h
  have hFM1 : Fr [] [(111, 0), (111, 1)] M M1 := by rw [eM1]; exact hFM.stoF (by simp)
  obtain ⟨M2, eM2, h⟩ := blet_e h
  have hFM2 : Fr [] [(111, 0), (111, 1)] M M2 := by rw [eM2]; exact hFM1.stoF (by simp)
  obtain ⟨v3, ev3, h⟩ := blet_e h
  rcases ite_e h with ⟨c4, h⟩ | ⟨c4, h⟩
  · skip
    exact hFM2.trans (w_Mo_turned_38 h)
  · skip
    obtain ⟨v5, M6, fv5, h⟩ := bcall_e h
    have hFM6 : Fr [] [(111, 0), (111, 1)] M M6 := hFM2.trans ((w_Mo_isIn fv5).mono (by simp) (by simp))
    rcases ite_e h with ⟨c7, h⟩ | ⟨c7, h⟩
    · skip
      exact hFM6.trans (w_Mo_turned_38 h)
    · skip
      obtain ⟨c8, h⟩ := chk_e h
      obtain ⟨v9, ev9, h⟩ := blet_e h
      cases h; exact hFM6
theorem w_Mo_asksSend_273 {R273 : Int → Int → Int → Int → Mem → Res} (hR273 : ∀ (a3 a4 a6 a8 : Int) (M : Mem) (r : Int × Mem), R273 a3 a4 a6 a8 M = some r → Fr [] [] M r.2) {a3 a4 a6 a8 : Int} {M : Mem} {r : Int × Mem} (h : k_Mo_asksSend_273 R273 a3 a4 a6 a8 M = some r) : Fr [] [] M r.2 := by
  unfold k_Mo_asksSend_273 at h
  have hFM : Fr [] [] M M := Fr.rfl'
  rcases ite_e h with ⟨c1, h⟩ | ⟨c1, h⟩
  · skip
    obtain ⟨v2, M3, fv2, h⟩ := bcall_e h
    have hFM3 : Fr [] [] M M3 := hFM.trans ((w_Mo_numberOf fv2).mono (by simp) (by simp))
    obtain ⟨v4, ev4, h⟩ := blet_e h
    obtain ⟨v5, ev5, h⟩ := blet_e h
    exact hFM3.trans (hR273 a3 a4 v4 v5 M3 r h)
  · skip
    rcases ite_e h with ⟨c6, h⟩ | ⟨c6, h⟩
    · skip
      cases h; exact hFM
    · skip
      cases h; exact hFM
theorem wl_Mo_asksSend_273  : ∀ (n : Nat) (a3 a4 a6 a8 : Int) (M : Mem) (r : Int × Mem), fix (fun _ _ _ _ _ => none) (k_Mo_asksSend_273) n a3 a4 a6 a8 M = some r → Fr [] [] M r.2 := by
  intro n
  induction n with
  | zero => intro a3 a4 a6 a8 M r h; exact nomatch (show (none : Res) = some r from h)
  | succ n ih => intro a3 a4 a6 a8 M r h; exact w_Mo_asksSend_273 ih h
theorem w_Mo_asksSend_246 {R246 : Int → Int → Int → Int → Int → Int → Mem → Res} (hR246 : ∀ (a1 a2 a3 a4 a6 a8 : Int) (M : Mem) (r : Int × Mem), R246 a1 a2 a3 a4 a6 a8 M = some r → Fr [] [] M r.2) {a1 a2 a3 a4 a6 a8 : Int} {M : Mem} {r : Int × Mem} (h : k_Mo_asksSend_246 R246 a1 a2 a3 a4 a6 a8 M = some r) : Fr [] [] M r.2 := by
  unfold k_Mo_asksSend_246 at h
  have hFM : Fr [] [] M M := Fr.rfl'
  rcases ite_e h with ⟨c1, h⟩ | ⟨c1, h⟩
  · skip
    obtain ⟨v2, M3, fv2, h⟩ := bcall_e h
    have hFM3 : Fr [] [] M M3 := hFM.trans ((w_Mo_numberOf fv2).mono (by simp) (by simp))
    obtain ⟨v4, ev4, h⟩ := blet_e h
    obtain ⟨v5, ev5, h⟩ := blet_e h
    exact hFM3.trans (hR246 a1 a2 a3 a4 v4 v5 M3 r h)
  · skip
    exact hFM.trans (wl_Mo_asksSend_273 FU a3 a4 a6 0 M r h)
theorem wl_Mo_asksSend_246  : ∀ (n : Nat) (a1 a2 a3 a4 a6 a8 : Int) (M : Mem) (r : Int × Mem), fix (fun _ _ _ _ _ _ _ => none) (k_Mo_asksSend_246) n a1 a2 a3 a4 a6 a8 M = some r → Fr [] [] M r.2 := by
  intro n
  induction n with
  | zero => intro a1 a2 a3 a4 a6 a8 M r h; exact nomatch (show (none : Res) = some r from h)
  | succ n ih => intro a1 a2 a3 a4 a6 a8 M r h; exact w_Mo_asksSend_246 ih h
theorem w_Mo_asksSend_205 {R205 : Int → Int → Int → Int → Int → Int → Mem → Res} (hR205 : ∀ (a1 a2 a3 a4 a5 a6 : Int) (M : Mem) (r : Int × Mem), R205 a1 a2 a3 a4 a5 a6 M = some r → Fr [] [] M r.2) {a1 a2 a3 a4 a5 a6 : Int} {M : Mem} {r : Int × Mem} (h : k_Mo_asksSend_205 R205 a1 a2 a3 a4 a5 a6 M = some r) : Fr [] [] M r.2 := by
  unfold k_Mo_asksSend_205 at h
  have hFM : Fr [] [] M M := Fr.rfl'
  rcases ite_e h with ⟨c1, h⟩ | ⟨c1, h⟩
  · skip
    obtain ⟨v2, M3, fv2, h⟩ := bcall_e h
    have hFM3 : Fr [] [] M M3 := hFM.trans ((w_Mo_numberOf fv2).mono (by simp) (by simp))
    obtain ⟨v4, M5, fv4, h⟩ := bcall_e h
    have hFM5 : Fr [] [] M M5 := hFM3.trans ((w_Mo_isIn fv4).mono (by simp) (by simp))
    rcases ite_e h with ⟨c6, h⟩ | ⟨c6, h⟩
    · skip
      cases h; exact hFM5
    · skip
      obtain ⟨v7, ev7, h⟩ := blet_e h
      exact hFM5.trans (hR205 a1 a2 a3 a4 a5 v7 M5 r h)
  · skip
    exact hFM.trans (wl_Mo_asksSend_246 FU a1 a2 a3 a4 0 0 M r h)
theorem wl_Mo_asksSend_205  : ∀ (n : Nat) (a1 a2 a3 a4 a5 a6 : Int) (M : Mem) (r : Int × Mem), fix (fun _ _ _ _ _ _ _ => none) (k_Mo_asksSend_205) n a1 a2 a3 a4 a5 a6 M = some r → Fr [] [] M r.2 := by
  intro n
  induction n with
  | zero => intro a1 a2 a3 a4 a5 a6 M r h; exact nomatch (show (none : Res) = some r from h)
  | succ n ih => intro a1 a2 a3 a4 a5 a6 M r h; exact w_Mo_asksSend_205 ih h
theorem w_Mo_asksSend_170 {R170 : Int → Int → Int → Int → Int → Int → Mem → Res} (hR170 : ∀ (a1 a2 a3 a4 a5 a6 : Int) (M : Mem) (r : Int × Mem), R170 a1 a2 a3 a4 a5 a6 M = some r → Fr [] [] M r.2) {a1 a2 a3 a4 a5 a6 : Int} {M : Mem} {r : Int × Mem} (h : k_Mo_asksSend_170 R170 a1 a2 a3 a4 a5 a6 M = some r) : Fr [] [] M r.2 := by
  unfold k_Mo_asksSend_170 at h
  have hFM : Fr [] [] M M := Fr.rfl'
  rcases ite_e h with ⟨c1, h⟩ | ⟨c1, h⟩
  · skip
    obtain ⟨v2, M3, fv2, h⟩ := bcall_e h
    have hFM3 : Fr [] [] M M3 := hFM.trans ((w_Mo_numberOf fv2).mono (by simp) (by simp))
    obtain ⟨v4, M5, fv4, h⟩ := bcall_e h
    have hFM5 : Fr [] [] M M5 := hFM3.trans ((w_Mo_isIn fv4).mono (by simp) (by simp))
    rcases ite_e h with ⟨c6, h⟩ | ⟨c6, h⟩
    · skip
      cases h; exact hFM5
    · skip
      obtain ⟨v7, ev7, h⟩ := blet_e h
      exact hFM5.trans (hR170 a1 a2 a3 a4 a5 v7 M5 r h)
  · skip
    exact hFM.trans (wl_Mo_asksSend_205 FU a1 a2 a3 a4 a5 0 M r h)
theorem wl_Mo_asksSend_170  : ∀ (n : Nat) (a1 a2 a3 a4 a5 a6 : Int) (M : Mem) (r : Int × Mem), fix (fun _ _ _ _ _ _ _ => none) (k_Mo_asksSend_170) n a1 a2 a3 a4 a5 a6 M = some r → Fr [] [] M r.2 := by
  intro n
  induction n with
  | zero => intro a1 a2 a3 a4 a5 a6 M r h; exact nomatch (show (none : Res) = some r from h)
  | succ n ih => intro a1 a2 a3 a4 a5 a6 M r h; exact w_Mo_asksSend_170 ih h
theorem w_Mo_asksSend_136 {R136 : Int → Int → Int → Int → Int → Int → Mem → Res} (hR136 : ∀ (a1 a2 a3 a4 a5 a6 : Int) (M : Mem) (r : Int × Mem), R136 a1 a2 a3 a4 a5 a6 M = some r → Fr [] [] M r.2) {a1 a2 a3 a4 a5 a6 : Int} {M : Mem} {r : Int × Mem} (h : k_Mo_asksSend_136 R136 a1 a2 a3 a4 a5 a6 M = some r) : Fr [] [] M r.2 := by
  unfold k_Mo_asksSend_136 at h
  have hFM : Fr [] [] M M := Fr.rfl'
  rcases ite_e h with ⟨c1, h⟩ | ⟨c1, h⟩
  · skip
    obtain ⟨v2, M3, fv2, h⟩ := bcall_e h
    have hFM3 : Fr [] [] M M3 := hFM.trans ((w_Mo_numberOf fv2).mono (by simp) (by simp))
    obtain ⟨v4, M5, fv4, h⟩ := bcall_e h
    have hFM5 : Fr [] [] M M5 := hFM3.trans ((w_Mo_isIn fv4).mono (by simp) (by simp))
    rcases ite_e h with ⟨c6, h⟩ | ⟨c6, h⟩
    · skip
      cases h; exact hFM5
    · skip
      obtain ⟨v7, ev7, h⟩ := blet_e h
      exact hFM5.trans (hR136 a1 a2 a3 a4 a5 v7 M5 r h)
  · skip
    exact hFM.trans (wl_Mo_asksSend_170 FU a1 a2 a3 a4 a5 0 M r h)
theorem wl_Mo_asksSend_136  : ∀ (n : Nat) (a1 a2 a3 a4 a5 a6 : Int) (M : Mem) (r : Int × Mem), fix (fun _ _ _ _ _ _ _ => none) (k_Mo_asksSend_136) n a1 a2 a3 a4 a5 a6 M = some r → Fr [] [] M r.2 := by
  intro n
  induction n with
  | zero => intro a1 a2 a3 a4 a5 a6 M r h; exact nomatch (show (none : Res) = some r from h)
  | succ n ih => intro a1 a2 a3 a4 a5 a6 M r h; exact w_Mo_asksSend_136 ih h
theorem w_Mo_asksSend {a1 a2 a3 a4 a5 : Int} {M : Mem} {r : Int × Mem} (h : d_Mo_asksSend a1 a2 a3 a4 a5 M = some r) : Fr [] [] M r.2 := by
  unfold d_Mo_asksSend at h
  have hFM : Fr [] [] M M := Fr.rfl'
  obtain ⟨v1, M2, fv1, h⟩ := bcall_e h
  have hFM2 : Fr [] [] M M2 := hFM.trans ((w_Mo_isIn fv1).mono (by simp) (by simp))
  rcases ite_e h with ⟨c3, h⟩ | ⟨c3, h⟩
  · skip
    cases h; exact hFM2
  · skip
    obtain ⟨v4, M5, fv4, h⟩ := bcall_e h
    have hFM5 : Fr [] [] M M5 := hFM2.trans ((w_Mo_isIn fv4).mono (by simp) (by simp))
    rcases ite_e h with ⟨c6, h⟩ | ⟨c6, h⟩
    · skip
      cases h; exact hFM5
    · skip
      obtain ⟨v7, M8, fv7, h⟩ := bcall_e h
      have hFM8 : Fr [] [] M M8 := hFM5.trans ((w_Mo_isIn fv7).mono (by simp) (by simp))
      rcases ite_e h with ⟨c9, h⟩ | ⟨c9, h⟩
      · skip
        cases h; exact hFM8
      · skip
        obtain ⟨c10, h⟩ := chk_e h
        obtain ⟨v11, ev11, h⟩ := blet_e h
        rcases ite_e h with ⟨c12, h⟩ | ⟨c12, h⟩
        · skip
          cases h; exact hFM8
        · skip
          obtain ⟨c13, h⟩ := chk_e h
          obtain ⟨v14, ev14, h⟩ := blet_e h
          rcases ite_e h with ⟨c15, h⟩ | ⟨c15, h⟩
          · skip
            cases h; exact hFM8
          · skip
            obtain ⟨c16, h⟩ := chk_e h
            obtain ⟨v17, ev17, h⟩ := blet_e h
            rcases ite_e h with ⟨c18, h⟩ | ⟨c18, h⟩
            · skip
              cases h; exact hFM8
            · skip
              obtain ⟨v19, M20, fv19, h⟩ := bcall_e h
              have hFM20 : Fr [] [] M M20 := hFM8.trans ((w_Mo_isIn fv19).mono (by simp) (by simp))
              rcases ite_e h with ⟨c21, h⟩ | ⟨c21, h⟩
              · skip
                cases h; exact hFM20
              · skip
                obtain ⟨v22, M23, fv22, h⟩ := bcall_e h
                have hFM23 : Fr [] [] M M23 := hFM20.trans ((w_Mo_isIn fv22).mono (by simp) (by simp))
                rcases ite_e h with ⟨c24, h⟩ | ⟨c24, h⟩
                · skip
                  cases h; exact hFM23
                · skip
                  obtain ⟨c25, h⟩ := chk_e h
                  obtain ⟨v26, ev26, h⟩ := blet_e h
                  rcases ite_e h with ⟨c27, h⟩ | ⟨c27, h⟩
                  · skip
                    cases h; exact hFM23
                  · skip
                    obtain ⟨c28, h⟩ := chk_e h
                    obtain ⟨v29, ev29, h⟩ := blet_e h
                    rcases ite_e h with ⟨c30, h⟩ | ⟨c30, h⟩
                    · skip
                      cases h; exact hFM23
                    · skip
                      obtain ⟨c31, h⟩ := chk_e h
                      obtain ⟨v32, ev32, h⟩ := blet_e h
                      rcases ite_e h with ⟨c33, h⟩ | ⟨c33, h⟩
                      · skip
                        cases h; exact hFM23
                      · skip
                        exact hFM23.trans (wl_Mo_asksSend_136 FU a1 a2 a3 a4 a5 0 M23 r h)
theorem w_Mo_bushel_391 {R326 : Int → Int → Int → Int → Mem → Res} (hR326 : ∀ (a1 a2 a4 a5 : Int) (M : Mem) (r : Int × Mem), R326 a1 a2 a4 a5 M = some r → Fr [182, 183, 185, 186, 187] [] M r.2) {a1 a2 a4 a6 : Int} {M : Mem} {r : Int × Mem} (h : k_Mo_bushel_391 R326 a1 a2 a4 a6 M = some r) : Fr [182, 183, 185, 186, 187] [] M r.2 := by
  unfold k_Mo_bushel_391 at h
  have hFM : Fr [182, 183, 185, 186, 187] [] M M := Fr.rfl'
  exact hFM.trans (hR326 a1 a2 a4 a6 M r h)
theorem w_Mo_bushel_326 {R326 : Int → Int → Int → Int → Mem → Res} (hR326 : ∀ (a1 a2 a4 a5 : Int) (M : Mem) (r : Int × Mem), R326 a1 a2 a4 a5 M = some r → Fr [182, 183, 185, 186, 187] [] M r.2) {a1 a2 a4 a5 : Int} {M : Mem} {r : Int × Mem} (h : k_Mo_bushel_326 R326 a1 a2 a4 a5 M = some r) : Fr [182, 183, 185, 186, 187] [] M r.2 := by
  unfold k_Mo_bushel_326 at h
  have hFM : Fr [182, 183, 185, 186, 187] [] M M := Fr.rfl'
  obtain ⟨c1, h⟩ := chk_e h
  obtain ⟨v2, ev2, h⟩ := blet_e h
  rcases ite_e h with ⟨c3, h⟩ | ⟨c3, h⟩
  · skip
    obtain ⟨c4, h⟩ := chk_e h
    obtain ⟨v5, ev5, h⟩ := blet_e h
    obtain ⟨c6, h⟩ := chk_e h
    obtain ⟨M7, eM7, h⟩ := blet_e h
    have hFM7 : Fr [182, 183, 185, 186, 187] [] M M7 := by rw [eM7]; exact hFM.stoA (by simp)
    obtain ⟨c8, h⟩ := chk_e h
    obtain ⟨v9, ev9, h⟩ := blet_e h
    cases h; exact hFM7
  · skip
    obtain ⟨c10, h⟩ := chk_e h
    obtain ⟨v11, ev11, h⟩ := blet_e h
    rcases ite_e h with ⟨c12, h⟩ | ⟨c12, h⟩
    · skip
      obtain ⟨c13, h⟩ := chk_e h
      obtain ⟨v14, ev14, h⟩ := blet_e h
      obtain ⟨c15, h⟩ := chk_e h
      obtain ⟨M16, eM16, h⟩ := blet_e h
      have hFM16 : Fr [182, 183, 185, 186, 187] [] M M16 := by rw [eM16]; exact hFM.stoA (by simp)
      exact hFM16.trans (w_Mo_bushel_391 hR326 h)
    · skip
      obtain ⟨c17, h⟩ := chk_e h
      obtain ⟨v18, ev18, h⟩ := blet_e h
      obtain ⟨c19, h⟩ := chk_e h
      obtain ⟨M20, eM20, h⟩ := blet_e h
      have hFM20 : Fr [182, 183, 185, 186, 187] [] M M20 := by rw [eM20]; exact hFM.stoA (by simp)
      exact hFM20.trans (w_Mo_bushel_391 hR326 h)
theorem wl_Mo_bushel_326  : ∀ (n : Nat) (a1 a2 a4 a5 : Int) (M : Mem) (r : Int × Mem), fix (fun _ _ _ _ _ => none) (k_Mo_bushel_326) n a1 a2 a4 a5 M = some r → Fr [182, 183, 185, 186, 187] [] M r.2 := by
  intro n
  induction n with
  | zero => intro a1 a2 a4 a5 M r h; exact nomatch (show (none : Res) = some r from h)
  | succ n ih => intro a1 a2 a4 a5 M r h; exact w_Mo_bushel_326 ih h
theorem w_Mo_bushel_303 {R257 : Int → Int → Int → Int → Mem → Res} (hR257 : ∀ (a1 a2 a4 a5 : Int) (M : Mem) (r : Int × Mem), R257 a1 a2 a4 a5 M = some r → Fr [182, 183, 185, 186, 187] [] M r.2) {a1 a2 a4 a5 : Int} {M : Mem} {r : Int × Mem} (h : k_Mo_bushel_303 R257 a1 a2 a4 a5 M = some r) : Fr [182, 183, 185, 186, 187] [] M r.2 := by
  unfold k_Mo_bushel_303 at h
  have hFM : Fr [182, 183, 185, 186, 187] [] M M := Fr.rfl'
  obtain ⟨v1, ev1, h⟩ := blet_e h
  exact hFM.trans (hR257 a1 a2 a4 v1 M r h)
theorem w_Mo_bushel_299 {R257 : Int → Int → Int → Int → Mem → Res} (hR257 : ∀ (a1 a2 a4 a5 : Int) (M : Mem) (r : Int × Mem), R257 a1 a2 a4 a5 M = some r → Fr [182, 183, 185, 186, 187] [] M r.2) {a1 a2 a5 : Int} {M : Mem} {r : Int × Mem} (h : k_Mo_bushel_299 R257 a1 a2 a5 M = some r) : Fr [182, 183, 185, 186, 187] [] M r.2 := by
  unfold k_Mo_bushel_299 at h
  have hFM : Fr [182, 183, 185, 186, 187] [] M M := Fr.rfl'
  exact hFM.trans (w_Mo_bushel_303 hR257 h)
theorem w_Mo_bushel_257 {R257 : Int → Int → Int → Int → Mem → Res} (hR257 : ∀ (a1 a2 a4 a5 : Int) (M : Mem) (r : Int × Mem), R257 a1 a2 a4 a5 M = some r → Fr [182, 183, 185, 186, 187] [] M r.2) {a1 a2 a4 a5 : Int} {M : Mem} {r : Int × Mem} (h : k_Mo_bushel_257 R257 a1 a2 a4 a5 M = some r) : Fr [182, 183, 185, 186, 187] [] M r.2 := by
  unfold k_Mo_bushel_257 at h
  have hFM : Fr [182, 183, 185, 186, 187] [] M M := Fr.rfl'
  rcases ite_e h with ⟨c1, h⟩ | ⟨c1, h⟩
  · skip
    obtain ⟨c2, h⟩ := chk_e h
    obtain ⟨v3, ev3, h⟩ := blet_e h
    rcases ite_e h with ⟨c4, h⟩ | ⟨c4, h⟩
    · skip
      rcases ite_e h with ⟨c5, h⟩ | ⟨c5, h⟩
      · skip
        exact hFM.trans (w_Mo_bushel_299 hR257 h)
      · skip
        obtain ⟨c6, h⟩ := chk_e h
        obtain ⟨v7, ev7, h⟩ := blet_e h
        obtain ⟨c8, h⟩ := chk_e h
        obtain ⟨v9, ev9, h⟩ := blet_e h
        rcases ite_e h with ⟨c10, h⟩ | ⟨c10, h⟩
        · skip
          exact hFM.trans (w_Mo_bushel_299 hR257 h)
        · skip
          exact hFM.trans (w_Mo_bushel_303 hR257 h)
    · skip
      exact hFM.trans (w_Mo_bushel_303 hR257 h)
  · skip
    obtain ⟨c11, h⟩ := chk_e h
    obtain ⟨v12, ev12, h⟩ := blet_e h
    obtain ⟨c13, h⟩ := chk_e h
    obtain ⟨M14, eM14, h⟩ := blet_e h
    have hFM14 : Fr [182, 183, 185, 186, 187] [] M M14 := by rw [eM14]; exact hFM.stoA (by simp)
    obtain ⟨v15, ev15, h⟩ := blet_e h
    exact hFM14.trans (wl_Mo_bushel_326 FU a1 a2 a4 v15 M14 r h)
theorem wl_Mo_bushel_257  : ∀ (n : Nat) (a1 a2 a4 a5 : Int) (M : Mem) (r : Int × Mem), fix (fun _ _ _ _ _ => none) (k_Mo_bushel_257) n a1 a2 a4 a5 M = some r → Fr [182, 183, 185, 186, 187] [] M r.2 := by
  intro n
  induction n with
  | zero => intro a1 a2 a4 a5 M r h; exact nomatch (show (none : Res) = some r from h)
  | succ n ih => intro a1 a2 a4 a5 M r h; exact w_Mo_bushel_257 ih h
theorem w_Mo_bushel_239 {R60 : Int → Int → Int → Int → Mem → Res} {R69 : Int → Int → Int → Int → Int → Mem → Res} (hR60 : ∀ (a1 a2 a3 a4 : Int) (M : Mem) (r : Int × Mem), R60 a1 a2 a3 a4 M = some r → Fr [182, 183, 185, 186, 187] [] M r.2) (hR69 : ∀ (a1 a2 a3 a4 a5 : Int) (M : Mem) (r : Int × Mem), R69 a1 a2 a3 a4 a5 M = some r → Fr [182, 183, 185, 186, 187] [] M r.2) {a1 a2 a3 a4 a5 : Int} {M : Mem} {r : Int × Mem} (h : k_Mo_bushel_239 R60 R69 a1 a2 a3 a4 a5 M = some r) : Fr [182, 183, 185, 186, 187] [] M r.2 := by
  unfold k_Mo_bushel_239 at h
  have hFM : Fr [182, 183, 185, 186, 187] [] M M := Fr.rfl'
  obtain ⟨v1, ev1, h⟩ := blet_e h
  exact hFM.trans (hR69 a1 a2 a3 a4 v1 M r h)
theorem w_Mo_bushel_160 {R60 : Int → Int → Int → Int → Mem → Res} {R69 : Int → Int → Int → Int → Int → Mem → Res} (hR60 : ∀ (a1 a2 a3 a4 : Int) (M : Mem) (r : Int × Mem), R60 a1 a2 a3 a4 M = some r → Fr [182, 183, 185, 186, 187] [] M r.2) (hR69 : ∀ (a1 a2 a3 a4 a5 : Int) (M : Mem) (r : Int × Mem), R69 a1 a2 a3 a4 a5 M = some r → Fr [182, 183, 185, 186, 187] [] M r.2) {a1 a2 a3 a4 a5 a6 a7 : Int} {M : Mem} {r : Int × Mem} (h : k_Mo_bushel_160 R60 R69 a1 a2 a3 a4 a5 a6 a7 M = some r) : Fr [182, 183, 185, 186, 187] [] M r.2 := by
  unfold k_Mo_bushel_160 at h
  have hFM : Fr [182, 183, 185, 186, 187] [] M M := Fr.rfl'
  obtain ⟨c1, h⟩ := chk_e h
  obtain ⟨v2, ev2, h⟩ := blet_e h
  rcases ite_e h with ⟨c3, h⟩ | ⟨c3, h⟩
  · skip
    obtain ⟨c4, h⟩ := chk_e h
    obtain ⟨v5, ev5, h⟩ := blet_e h
    rcases ite_e h with ⟨c6, h⟩ | ⟨c6, h⟩
    · skip
      obtain ⟨c7, h⟩ := chk_e h
      obtain ⟨v8, ev8, h⟩ := blet_e h
      obtain ⟨c9, h⟩ := chk_e h
      obtain ⟨v10, ev10, h⟩ := blet_e h
      obtain ⟨c11, h⟩ := chk_e h
      obtain ⟨v12, ev12, h⟩ := blet_e h
      rcases ite_e h with ⟨c13, h⟩ | ⟨c13, h⟩
      · skip
        obtain ⟨c14, h⟩ := chk_e h
        obtain ⟨v15, ev15, h⟩ := blet_e h
        obtain ⟨c16, h⟩ := chk_e h
        obtain ⟨v17, ev17, h⟩ := blet_e h
        obtain ⟨c18, h⟩ := chk_e h
        obtain ⟨M19, eM19, h⟩ := blet_e h
        have hFM19 : Fr [182, 183, 185, 186, 187] [] M M19 := by rw [eM19]; exact hFM.stoA (by simp)
        obtain ⟨c20, h⟩ := chk_e h
        obtain ⟨M21, eM21, h⟩ := blet_e h
        have hFM21 : Fr [182, 183, 185, 186, 187] [] M M21 := by rw [eM21]; exact hFM19.stoA (by simp)
        exact hFM21.trans (w_Mo_bushel_239 hR60 hR69 h)
      · skip
        exact hFM.trans (w_Mo_bushel_239 hR60 hR69 h)
    · skip
      exact hFM.trans (w_Mo_bushel_239 hR60 hR69 h)
  · skip
    exact hFM.trans (w_Mo_bushel_239 hR60 hR69 h)
theorem w_Mo_bushel_69 {R60 : Int → Int → Int → Int → Mem → Res} {R69 : Int → Int → Int → Int → Int → Mem → Res} (hR60 : ∀ (a1 a2 a3 a4 : Int) (M : Mem) (r : Int × Mem), R60 a1 a2 a3 a4 M = some r → Fr [182, 183, 185, 186, 187] [] M r.2) (hR69 : ∀ (a1 a2 a3 a4 a5 : Int) (M : Mem) (r : Int × Mem), R69 a1 a2 a3 a4 a5 M = some r → Fr [182, 183, 185, 186, 187] [] M r.2) {a1 a2 a3 a4 a5 : Int} {M : Mem} {r : Int × Mem} (h : k_Mo_bushel_69 R60 R69 a1 a2 a3 a4 a5 M = some r) : Fr [182, 183, 185, 186, 187] [] M r.2 := by
  unfold k_Mo_bushel_69 at h
  have hFM : Fr [182, 183, 185, 186, 187] [] M M := Fr.rfl'
  rcases ite_e h with ⟨c1, h⟩ | ⟨c1, h⟩
  · skip
    obtain ⟨c2, h⟩ := chk_e h
    obtain ⟨v3, ev3, h⟩ := blet_e h
    obtain ⟨c4, h⟩ := chk_e h
    obtain ⟨v5, ev5, h⟩ := blet_e h
    obtain ⟨c6, h⟩ := chk_e h
    obtain ⟨v7, ev7, h⟩ := blet_e h
    rcases ite_e h with ⟨c8, h⟩ | ⟨c8, h⟩
    · skip
      obtain ⟨c9, h⟩ := chk_e h
      obtain ⟨v10, ev10, h⟩ := blet_e h
      obtain ⟨c11, h⟩ := chk_e h
      obtain ⟨v12, ev12, h⟩ := blet_e h
      obtain ⟨c13, h⟩ := chk_e h
      obtain ⟨v14, ev14, h⟩ := blet_e h
      rcases ite_e h with ⟨c15, h⟩ | ⟨c15, h⟩
      · skip
        obtain ⟨c16, h⟩ := chk_e h
        obtain ⟨v17, ev17, h⟩ := blet_e h
        obtain ⟨c18, h⟩ := chk_e h
        obtain ⟨v19, ev19, h⟩ := blet_e h
        obtain ⟨c20, h⟩ := chk_e h
        obtain ⟨M21, eM21, h⟩ := blet_e h
        have hFM21 : Fr [182, 183, 185, 186, 187] [] M M21 := by rw [eM21]; exact hFM.stoA (by simp)
        obtain ⟨c22, h⟩ := chk_e h
        obtain ⟨M23, eM23, h⟩ := blet_e h
        have hFM23 : Fr [182, 183, 185, 186, 187] [] M M23 := by rw [eM23]; exact hFM21.stoA (by simp)
        exact hFM23.trans (w_Mo_bushel_160 hR60 hR69 h)
      · skip
        exact hFM.trans (w_Mo_bushel_160 hR60 hR69 h)
    · skip
      exact hFM.trans (w_Mo_bushel_160 hR60 hR69 h)
  · skip
    obtain ⟨v24, ev24, h⟩ := blet_e h
    exact hFM.trans (hR60 a1 a2 a3 v24 M r h)
theorem wl_Mo_bushel_69 {R60 : Int → Int → Int → Int → Mem → Res} (hR60 : ∀ (a1 a2 a3 a4 : Int) (M : Mem) (r : Int × Mem), R60 a1 a2 a3 a4 M = some r → Fr [182, 183, 185, 186, 187] [] M r.2) : ∀ (n : Nat) (a1 a2 a3 a4 a5 : Int) (M : Mem) (r : Int × Mem), fix (fun _ _ _ _ _ _ => none) (k_Mo_bushel_69 R60) n a1 a2 a3 a4 a5 M = some r → Fr [182, 183, 185, 186, 187] [] M r.2 := by
  intro n
  induction n with
  | zero => intro a1 a2 a3 a4 a5 M r h; exact nomatch (show (none : Res) = some r from h)
  | succ n ih => intro a1 a2 a3 a4 a5 M r h; exact w_Mo_bushel_69 hR60 ih h
theorem w_Mo_bushel_60 {R60 : Int → Int → Int → Int → Mem → Res} (hR60 : ∀ (a1 a2 a3 a4 : Int) (M : Mem) (r : Int × Mem), R60 a1 a2 a3 a4 M = some r → Fr [182, 183, 185, 186, 187] [] M r.2) {a1 a2 a3 a4 : Int} {M : Mem} {r : Int × Mem} (h : k_Mo_bushel_60 R60 a1 a2 a3 a4 M = some r) : Fr [182, 183, 185, 186, 187] [] M r.2 := by
  unfold k_Mo_bushel_60 at h
  have hFM : Fr [182, 183, 185, 186, 187] [] M M := Fr.rfl'
  rcases ite_e h with ⟨c1, h⟩ | ⟨c1, h⟩
  · skip
    exact hFM.trans (wl_Mo_bushel_69 hR60 FU a1 a2 a3 a4 0 M r h)
  · skip
    exact hFM.trans (wl_Mo_bushel_257 FU a1 a2 (-1) 0 M r h)
theorem wl_Mo_bushel_60  : ∀ (n : Nat) (a1 a2 a3 a4 : Int) (M : Mem) (r : Int × Mem), fix (fun _ _ _ _ _ => none) (k_Mo_bushel_60) n a1 a2 a3 a4 M = some r → Fr [182, 183, 185, 186, 187] [] M r.2 := by
  intro n
  induction n with
  | zero => intro a1 a2 a3 a4 M r h; exact nomatch (show (none : Res) = some r from h)
  | succ n ih => intro a1 a2 a3 a4 M r h; exact w_Mo_bushel_60 ih h
theorem w_Mo_bushel_42 {R7 : Int → Int → Int → Int → Mem → Res} (hR7 : ∀ (a1 a2 a3 a4 : Int) (M : Mem) (r : Int × Mem), R7 a1 a2 a3 a4 M = some r → Fr [182, 183, 185, 186, 187] [] M r.2) {a1 a2 a3 a4 s1 s2 : Int} {M : Mem} {r : Int × Mem} (h : k_Mo_bushel_42 R7 a1 a2 a3 a4 s1 s2 M = some r) : Fr [182, 183, 185, 186, 187] [] M r.2 := by
  unfold k_Mo_bushel_42 at h
  have hFM : Fr [182, 183, 185, 186, 187] [] M M := Fr.rfl'
  obtain ⟨c1, h⟩ := chk_e h
  obtain ⟨M2, eM2, h⟩ := blet_e h
  have hFM2 : Fr [182, 183, 185, 186, 187] [] M M2 := by rw [eM2]; exact hFM.stoA (by simp)
  obtain ⟨c3, h⟩ := chk_e h
  obtain ⟨M4, eM4, h⟩ := blet_e h
  have hFM4 : Fr [182, 183, 185, 186, 187] [] M M4 := by rw [eM4]; exact hFM2.stoA (by simp)
  obtain ⟨v5, ev5, h⟩ := blet_e h
  exact hFM4.trans (hR7 a1 a2 a3 v5 M4 r h)
theorem w_Mo_bushel_39 {R7 : Int → Int → Int → Int → Mem → Res} (hR7 : ∀ (a1 a2 a3 a4 : Int) (M : Mem) (r : Int × Mem), R7 a1 a2 a3 a4 M = some r → Fr [182, 183, 185, 186, 187] [] M r.2) {a1 a2 a3 a4 s1 : Int} {M : Mem} {r : Int × Mem} (h : k_Mo_bushel_39 R7 a1 a2 a3 a4 s1 M = some r) : Fr [182, 183, 185, 186, 187] [] M r.2 := by
  unfold k_Mo_bushel_39 at h
  have hFM : Fr [182, 183, 185, 186, 187] [] M M := Fr.rfl'
  exact hFM.trans (w_Mo_bushel_42 hR7 h)
theorem w_Mo_bushel_7 {R7 : Int → Int → Int → Int → Mem → Res} (hR7 : ∀ (a1 a2 a3 a4 : Int) (M : Mem) (r : Int × Mem), R7 a1 a2 a3 a4 M = some r → Fr [182, 183, 185, 186, 187] [] M r.2) {a1 a2 a3 a4 : Int} {M : Mem} {r : Int × Mem} (h : k_Mo_bushel_7 R7 a1 a2 a3 a4 M = some r) : Fr [182, 183, 185, 186, 187] [] M r.2 := by
  unfold k_Mo_bushel_7 at h
  have hFM : Fr [182, 183, 185, 186, 187] [] M M := Fr.rfl'
  rcases ite_e h with ⟨c1, h⟩ | ⟨c1, h⟩
  · skip
    rcases ite_e h with ⟨c2, h⟩ | ⟨c2, h⟩
    · skip
      obtain ⟨c3, h⟩ := chk_e h
      obtain ⟨v4, ev4, h⟩ := blet_e h
      rcases ite_e h with ⟨c5, h⟩ | ⟨c5, h⟩
      · skip
        exact hFM.trans (w_Mo_bushel_42 hR7 h)
      · skip
        exact hFM.trans (w_Mo_bushel_39 hR7 h)
    · skip
      exact hFM.trans (w_Mo_bushel_39 hR7 h)
  · skip
    exact hFM.trans (wl_Mo_bushel_60 FU a1 a2 a3 0 M r h)
theorem wl_Mo_bushel_7  : ∀ (n : Nat) (a1 a2 a3 a4 : Int) (M : Mem) (r : Int × Mem), fix (fun _ _ _ _ _ => none) (k_Mo_bushel_7) n a1 a2 a3 a4 M = some r → Fr [182, 183, 185, 186, 187] [] M r.2 := by
  intro n
  induction n with
  | zero => intro a1 a2 a3 a4 M r h; exact nomatch (show (none : Res) = some r from h)
  | succ n ih => intro a1 a2 a3 a4 M r h; exact w_Mo_bushel_7 ih h
theorem w_Mo_bushel {a1 a2 : Int} {M : Mem} {r : Int × Mem} (h : d_Mo_bushel a1 a2 M = some r) : Fr [182, 183, 185, 186, 187] [] M r.2 := by
  unfold d_Mo_bushel at h
  have hFM : Fr [182, 183, 185, 186, 187] [] M M := Fr.rfl'
  obtain ⟨v1, ev1, h⟩ := blet_e h
  exact hFM.trans (wl_Mo_bushel_7 FU a1 a2 v1 0 M r h)
theorem w_Mo_send_153 {R153 : Int → Int → Int → Int → Int → Mem → Res} (hR153 : ∀ (a2 a4 a6 a7 a8 : Int) (M : Mem) (r : Int × Mem), R153 a2 a4 a6 a7 a8 M = some r → Fr [182, 183, 184, 185, 186, 187] [(111, 0), (111, 1)] M r.2) {a2 a4 a6 a7 a8 : Int} {M : Mem} {r : Int × Mem} (h : k_Mo_send_153 R153 a2 a4 a6 a7 a8 M = some r) : Fr [182, 183, 184, 185, 186, 187] [(111, 0), (111, 1)] M r.2 := by
  unfold k_Mo_send_153 at h
  have hFM : Fr [182, 183, 184, 185, 186, 187] [(111, 0), (111, 1)] M M := Fr.rfl'
  rcases ite_e h with ⟨c1, h⟩ | ⟨c1, h⟩
  · skip
    obtain ⟨v2, M3, fv2, h⟩ := bcall_e h
    have hFM3 : Fr [182, 183, 184, 185, 186, 187] [(111, 0), (111, 1)] M M3 := hFM.trans ((w_Mo_bushel fv2).mono (by simp) (by simp))
    obtain ⟨v4, ev4, h⟩ := blet_e h
    obtain ⟨v5, ev5, h⟩ := blet_e h
    exact hFM3.trans (hR153 a2 a4 a6 v4 v5 M3 r h)
  · skip
    cases h; exact hFM
theorem wl_Mo_send_153  : ∀ (n : Nat) (a2 a4 a6 a7 a8 : Int) (M : Mem) (r : Int × Mem), fix (fun _ _ _ _ _ _ => none) (k_Mo_send_153) n a2 a4 a6 a7 a8 M = some r → Fr [182, 183, 184, 185, 186, 187] [(111, 0), (111, 1)] M r.2 := by
  intro n
  induction n with
  | zero => intro a2 a4 a6 a7 a8 M r h; exact nomatch (show (none : Res) = some r from h)
  | succ n ih => intro a2 a4 a6 a7 a8 M r h; exact w_Mo_send_153 ih h
theorem w_Mo_send_108 {R108 : Int → Int → Int → Int → Int → Mem → Res} (hR108 : ∀ (a2 a4 a5 a6 a7 : Int) (M : Mem) (r : Int × Mem), R108 a2 a4 a5 a6 a7 M = some r → Fr [182, 183, 184, 185, 186, 187] [(111, 0), (111, 1)] M r.2) {a2 a4 a5 a6 a7 : Int} {M : Mem} {r : Int × Mem} (h : k_Mo_send_108 R108 a2 a4 a5 a6 a7 M = some r) : Fr [182, 183, 184, 185, 186, 187] [(111, 0), (111, 1)] M r.2 := by
  unfold k_Mo_send_108 at h
  have hFM : Fr [182, 183, 184, 185, 186, 187] [(111, 0), (111, 1)] M M := Fr.rfl'
  rcases ite_e h with ⟨c1, h⟩ | ⟨c1, h⟩
  · skip
    obtain ⟨v2, M3, fv2, h⟩ := bcall_e h
    have hFM3 : Fr [182, 183, 184, 185, 186, 187] [(111, 0), (111, 1)] M M3 := hFM.trans ((w_Mo_numberOf fv2).mono (by simp) (by simp))
    obtain ⟨c4, h⟩ := chk_e h
    obtain ⟨M5, eM5, h⟩ := blet_e h
    have hFM5 : Fr [182, 183, 184, 185, 186, 187] [(111, 0), (111, 1)] M M5 := by rw [eM5]; exact hFM3.stoA (by simp)
    obtain ⟨c6, h⟩ := chk_e h
    obtain ⟨M7, eM7, h⟩ := blet_e h
    have hFM7 : Fr [182, 183, 184, 185, 186, 187] [(111, 0), (111, 1)] M M7 := by rw [eM7]; exact hFM5.stoA (by simp)
    obtain ⟨v8, ev8, h⟩ := blet_e h
    exact hFM7.trans (hR108 a2 a4 a5 a6 v8 M7 r h)
  · skip
    exact hFM.trans (wl_Mo_send_153 FU a2 a4 a6 0 0 M r h)
theorem wl_Mo_send_108  : ∀ (n : Nat) (a2 a4 a5 a6 a7 : Int) (M : Mem) (r : Int × Mem), fix (fun _ _ _ _ _ _ => none) (k_Mo_send_108) n a2 a4 a5 a6 a7 M = some r → Fr [182, 183, 184, 185, 186, 187] [(111, 0), (111, 1)] M r.2 := by
  intro n
  induction n with
  | zero => intro a2 a4 a5 a6 a7 M r h; exact nomatch (show (none : Res) = some r from h)
  | succ n ih => intro a2 a4 a5 a6 a7 M r h; exact w_Mo_send_108 ih h
theorem w_Mo_send_65 {R65 : Int → Int → Int → Int → Int → Int → Mem → Res} (hR65 : ∀ (a2 a3 a4 a5 a6 a7 : Int) (M : Mem) (r : Int × Mem), R65 a2 a3 a4 a5 a6 a7 M = some r → Fr [182, 183, 184, 185, 186, 187] [(111, 0), (111, 1)] M r.2) {a2 a3 a4 a5 a6 a7 : Int} {M : Mem} {r : Int × Mem} (h : k_Mo_send_65 R65 a2 a3 a4 a5 a6 a7 M = some r) : Fr [182, 183, 184, 185, 186, 187] [(111, 0), (111, 1)] M r.2 := by
  unfold k_Mo_send_65 at h
  have hFM : Fr [182, 183, 184, 185, 186, 187] [(111, 0), (111, 1)] M M := Fr.rfl'
  rcases ite_e h with ⟨c1, h⟩ | ⟨c1, h⟩
  · skip
    obtain ⟨v2, M3, fv2, h⟩ := bcall_e h
    have hFM3 : Fr [182, 183, 184, 185, 186, 187] [(111, 0), (111, 1)] M M3 := hFM.trans ((w_Mo_numberOf fv2).mono (by simp) (by simp))
    obtain ⟨c4, h⟩ := chk_e h
    obtain ⟨M5, eM5, h⟩ := blet_e h
    have hFM5 : Fr [182, 183, 184, 185, 186, 187] [(111, 0), (111, 1)] M M5 := by rw [eM5]; exact hFM3.stoA (by simp)
    obtain ⟨c6, h⟩ := chk_e h
    obtain ⟨v7, ev7, h⟩ := blet_e h
    obtain ⟨v8, ev8, h⟩ := blet_e h
    obtain ⟨v9, ev9, h⟩ := blet_e h
    exact hFM5.trans (hR65 a2 a3 a4 a5 v8 v9 M5 r h)
  · skip
    exact hFM.trans (wl_Mo_send_108 FU a2 a4 a5 a6 0 M r h)
theorem wl_Mo_send_65  : ∀ (n : Nat) (a2 a3 a4 a5 a6 a7 : Int) (M : Mem) (r : Int × Mem), fix (fun _ _ _ _ _ _ _ => none) (k_Mo_send_65) n a2 a3 a4 a5 a6 a7 M = some r → Fr [182, 183, 184, 185, 186, 187] [(111, 0), (111, 1)] M r.2 := by
  intro n
  induction n with
  | zero => intro a2 a3 a4 a5 a6 a7 M r h; exact nomatch (show (none : Res) = some r from h)
  | succ n ih => intro a2 a3 a4 a5 a6 a7 M r h; exact w_Mo_send_65 ih h
theorem w_Mo_send_35 {R35 : Int → Int → Int → Int → Int → Int → Int → Mem → Res} (hR35 : ∀ (a1 a2 a3 a4 a5 a6 a7 : Int) (M : Mem) (r : Int × Mem), R35 a1 a2 a3 a4 a5 a6 a7 M = some r → Fr [182, 183, 184, 185, 186, 187] [(111, 0), (111, 1)] M r.2) {a1 a2 a3 a4 a5 a6 a7 : Int} {M : Mem} {r : Int × Mem} (h : k_Mo_send_35 R35 a1 a2 a3 a4 a5 a6 a7 M = some r) : Fr [182, 183, 184, 185, 186, 187] [(111, 0), (111, 1)] M r.2 := by
  unfold k_Mo_send_35 at h
  have hFM : Fr [182, 183, 184, 185, 186, 187] [(111, 0), (111, 1)] M M := Fr.rfl'
  rcases ite_e h with ⟨c1, h⟩ | ⟨c1, h⟩
  · skip
    obtain ⟨v2, M3, fv2, h⟩ := bcall_e h
    have hFM3 : Fr [182, 183, 184, 185, 186, 187] [(111, 0), (111, 1)] M M3 := hFM.trans ((w_Mo_numberOf fv2).mono (by simp) (by simp))
    obtain ⟨c4, h⟩ := chk_e h
    obtain ⟨M5, eM5, h⟩ := blet_e h
    have hFM5 : Fr [182, 183, 184, 185, 186, 187] [(111, 0), (111, 1)] M M5 := by rw [eM5]; exact hFM3.stoA (by simp)
    obtain ⟨v6, ev6, h⟩ := blet_e h
    exact hFM5.trans (hR35 a1 a2 a3 a4 a5 a6 v6 M5 r h)
  · skip
    exact hFM.trans (wl_Mo_send_65 FU a2 a3 a4 a5 a6 0 M r h)
theorem wl_Mo_send_35  : ∀ (n : Nat) (a1 a2 a3 a4 a5 a6 a7 : Int) (M : Mem) (r : Int × Mem), fix (fun _ _ _ _ _ _ _ _ => none) (k_Mo_send_35) n a1 a2 a3 a4 a5 a6 a7 M = some r → Fr [182, 183, 184, 185, 186, 187] [(111, 0), (111, 1)] M r.2 := by
  intro n
  induction n with
  | zero => intro a1 a2 a3 a4 a5 a6 a7 M r h; exact nomatch (show (none : Res) = some r from h)
  | succ n ih => intro a1 a2 a3 a4 a5 a6 a7 M r h; exact w_Mo_send_35 ih h
theorem w_Mo_send {a1 a2 a3 a4 a5 : Int} {M : Mem} {r : Int × Mem} (h : d_Mo_send a1 a2 a3 a4 a5 M = some r) : Fr [182, 183, 184, 185, 186, 187] [(111, 0), (111, 1)] M r.2 := by
  unfold d_Mo_send at h
  have hFM : Fr [182, 183, 184, 185, 186, 187] [(111, 0), (111, 1)] M M := Fr.rfl'
  obtain ⟨M1, eM1, h⟩ := blet_e h
  have hFM1 : Fr [182, 183, 184, 185, 186, 187] [(111, 0), (111, 1)] M M1 := by rw [eM1]; exact hFM.stoF (by simp)
  obtain ⟨v2, M3, fv2, h⟩ := bcall_e h
  have hFM3 : Fr [182, 183, 184, 185, 186, 187] [(111, 0), (111, 1)] M M3 := hFM1.trans ((w_Mo_asksSend fv2).mono (by simp) (by simp))
  obtain ⟨M4, eM4, h⟩ := blet_e h
  have hFM4 : Fr [182, 183, 184, 185, 186, 187] [(111, 0), (111, 1)] M M4 := by rw [eM4]; exact hFM3.stoF (by simp)
  obtain ⟨v5, ev5, h⟩ := blet_e h
  rcases ite_e h with ⟨c6, h⟩ | ⟨c6, h⟩
  · skip
    cases h; exact hFM4
  · skip
    exact hFM4.trans (wl_Mo_send_35 FU a1 a2 a3 a4 a5 0 0 M4 r h)
