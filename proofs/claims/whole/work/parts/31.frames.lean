theorem w_PP_alone_28  {a1 a2 a3 s1 s2 : Int} {M : Mem} {r : Int × Mem} (h : k_PP_alone_28 a1 a2 a3 s1 s2 M = some r) : Fr [76, 77, 78, 81, 82, 83, 84, 85, 86, 87] [(0, 0), (75, 3), (75, 10), (75, 14)] M r.2 := by
  unfold k_PP_alone_28 at h
  have hFM : Fr [76, 77, 78, 81, 82, 83, 84, 85, 86, 87] [(0, 0), (75, 3), (75, 10), (75, 14)] M M := Fr.rfl'
  obtain ⟨v1, M2, fv1, h⟩ := bcall_e h
  have hFM2 : Fr [76, 77, 78, 81, 82, 83, 84, 85, 86, 87] [(0, 0), (75, 3), (75, 10), (75, 14)] M M2 := hFM.trans ((w_PP_passes fv1).mono (by simp) (by simp))
  rcases ite_e h with ⟨c3, h⟩ | ⟨c3, h⟩
  · skip
    cases h; exact hFM2
  · skip
    obtain ⟨v4, M5, fv4, h⟩ := bcall_e h
    have hFM5 : Fr [76, 77, 78, 81, 82, 83, 84, 85, 86, 87] [(0, 0), (75, 3), (75, 10), (75, 14)] M M5 := hFM2.trans ((w_Pl_replay fv4).mono (by simp) (by simp))
    obtain ⟨v6, M7, fv6, h⟩ := bcall_e h
    have hFM7 : Fr [76, 77, 78, 81, 82, 83, 84, 85, 86, 87] [(0, 0), (75, 3), (75, 10), (75, 14)] M M7 := hFM5.trans ((w_Py_aloneOf fv6).mono (by simp) (by simp))
    cases h; exact hFM7
theorem w_PP_alone_27  {a1 a2 a3 s1 : Int} {M : Mem} {r : Int × Mem} (h : k_PP_alone_27 a1 a2 a3 s1 M = some r) : Fr [76, 77, 78, 81, 82, 83, 84, 85, 86, 87] [(0, 0), (75, 3), (75, 10), (75, 14)] M r.2 := by
  unfold k_PP_alone_27 at h
  have hFM : Fr [76, 77, 78, 81, 82, 83, 84, 85, 86, 87] [(0, 0), (75, 3), (75, 10), (75, 14)] M M := Fr.rfl'
  exact hFM.trans (w_PP_alone_28 h)
theorem w_PP_alone {a1 a2 a3 : Int} {M : Mem} {r : Int × Mem} (h : d_PP_alone a1 a2 a3 M = some r) : Fr [76, 77, 78, 81, 82, 83, 84, 85, 86, 87] [(0, 0), (75, 3), (75, 10), (75, 14)] M r.2 := by
  unfold d_PP_alone at h
  have hFM : Fr [76, 77, 78, 81, 82, 83, 84, 85, 86, 87] [(0, 0), (75, 3), (75, 10), (75, 14)] M M := Fr.rfl'
  obtain ⟨v1, M2, fv1, h⟩ := bcall_e h
  have hFM2 : Fr [76, 77, 78, 81, 82, 83, 84, 85, 86, 87] [(0, 0), (75, 3), (75, 10), (75, 14)] M M2 := hFM.trans ((w_Pr_hasFarm fv1).mono (by simp) (by simp))
  obtain ⟨v3, M4, fv3, h⟩ := bcall_e h
  have hFM4 : Fr [76, 77, 78, 81, 82, 83, 84, 85, 86, 87] [(0, 0), (75, 3), (75, 10), (75, 14)] M M4 := hFM2.trans ((w_PP_isYear fv3).mono (by simp) (by simp))
  rcases ite_e h with ⟨c5, h⟩ | ⟨c5, h⟩
  · skip
    exact hFM4.trans (w_PP_alone_27 h)
  · skip
    obtain ⟨v6, M7, fv6, h⟩ := bcall_e h
    have hFM7 : Fr [76, 77, 78, 81, 82, 83, 84, 85, 86, 87] [(0, 0), (75, 3), (75, 10), (75, 14)] M M7 := hFM4.trans ((w_PP_isWeek fv6).mono (by simp) (by simp))
    rcases ite_e h with ⟨c8, h⟩ | ⟨c8, h⟩
    · skip
      exact hFM7.trans (w_PP_alone_27 h)
    · skip
      exact hFM7.trans (w_PP_alone_28 h)
theorem w_PP_more_21  {a1 a2 s1 s2 : Int} {M : Mem} {r : Int × Mem} (h : k_PP_more_21 a1 a2 s1 s2 M = some r) : Fr [34, 35, 36, 37, 38, 76, 77, 78, 81, 82, 83, 84, 85, 86, 87, 90, 92, 93, 94, 95, 96, 97] [(0, 0), (32, 2), (32, 8), (75, 3), (75, 10), (75, 14)] M r.2 := by
  unfold k_PP_more_21 at h
  have hFM : Fr [34, 35, 36, 37, 38, 76, 77, 78, 81, 82, 83, 84, 85, 86, 87, 90, 92, 93, 94, 95, 96, 97] [(0, 0), (32, 2), (32, 8), (75, 3), (75, 10), (75, 14)] M M := Fr.rfl'
  obtain ⟨v1, M2, fv1, h⟩ := bcall_e h
  have hFM2 : Fr [34, 35, 36, 37, 38, 76, 77, 78, 81, 82, 83, 84, 85, 86, 87, 90, 92, 93, 94, 95, 96, 97] [(0, 0), (32, 2), (32, 8), (75, 3), (75, 10), (75, 14)] M M2 := hFM.trans ((w_PP_passes fv1).mono (by simp) (by simp))
  rcases ite_e h with ⟨c3, h⟩ | ⟨c3, h⟩
  · skip
    cases h; exact hFM2
  · skip
    obtain ⟨v4, M5, fv4, h⟩ := bcall_e h
    have hFM5 : Fr [34, 35, 36, 37, 38, 76, 77, 78, 81, 82, 83, 84, 85, 86, 87, 90, 92, 93, 94, 95, 96, 97] [(0, 0), (32, 2), (32, 8), (75, 3), (75, 10), (75, 14)] M M5 := hFM2.trans ((w_Py_reckon fv4).mono (by simp) (by simp))
    obtain ⟨v6, M7, fv6, h⟩ := bcall_e h
    have hFM7 : Fr [34, 35, 36, 37, 38, 76, 77, 78, 81, 82, 83, 84, 85, 86, 87, 90, 92, 93, 94, 95, 96, 97] [(0, 0), (32, 2), (32, 8), (75, 3), (75, 10), (75, 14)] M M7 := hFM5.trans ((w_Py_countBetterOff fv6).mono (by simp) (by simp))
    cases h; exact hFM7
theorem w_PP_more_20  {a1 a2 s1 : Int} {M : Mem} {r : Int × Mem} (h : k_PP_more_20 a1 a2 s1 M = some r) : Fr [34, 35, 36, 37, 38, 76, 77, 78, 81, 82, 83, 84, 85, 86, 87, 90, 92, 93, 94, 95, 96, 97] [(0, 0), (32, 2), (32, 8), (75, 3), (75, 10), (75, 14)] M r.2 := by
  unfold k_PP_more_20 at h
  have hFM : Fr [34, 35, 36, 37, 38, 76, 77, 78, 81, 82, 83, 84, 85, 86, 87, 90, 92, 93, 94, 95, 96, 97] [(0, 0), (32, 2), (32, 8), (75, 3), (75, 10), (75, 14)] M M := Fr.rfl'
  exact hFM.trans (w_PP_more_21 h)
theorem w_PP_more {a1 a2 : Int} {M : Mem} {r : Int × Mem} (h : d_PP_more a1 a2 M = some r) : Fr [34, 35, 36, 37, 38, 76, 77, 78, 81, 82, 83, 84, 85, 86, 87, 90, 92, 93, 94, 95, 96, 97] [(0, 0), (32, 2), (32, 8), (75, 3), (75, 10), (75, 14)] M r.2 := by
  unfold d_PP_more at h
  have hFM : Fr [34, 35, 36, 37, 38, 76, 77, 78, 81, 82, 83, 84, 85, 86, 87, 90, 92, 93, 94, 95, 96, 97] [(0, 0), (32, 2), (32, 8), (75, 3), (75, 10), (75, 14)] M M := Fr.rfl'
  obtain ⟨v1, M2, fv1, h⟩ := bcall_e h
  have hFM2 : Fr [34, 35, 36, 37, 38, 76, 77, 78, 81, 82, 83, 84, 85, 86, 87, 90, 92, 93, 94, 95, 96, 97] [(0, 0), (32, 2), (32, 8), (75, 3), (75, 10), (75, 14)] M M2 := hFM.trans ((w_PP_isYear fv1).mono (by simp) (by simp))
  rcases ite_e h with ⟨c3, h⟩ | ⟨c3, h⟩
  · skip
    exact hFM2.trans (w_PP_more_20 h)
  · skip
    obtain ⟨v4, M5, fv4, h⟩ := bcall_e h
    have hFM5 : Fr [34, 35, 36, 37, 38, 76, 77, 78, 81, 82, 83, 84, 85, 86, 87, 90, 92, 93, 94, 95, 96, 97] [(0, 0), (32, 2), (32, 8), (75, 3), (75, 10), (75, 14)] M M5 := hFM2.trans ((w_PP_isWeek fv4).mono (by simp) (by simp))
    rcases ite_e h with ⟨c6, h⟩ | ⟨c6, h⟩
    · skip
      exact hFM5.trans (w_PP_more_20 h)
    · skip
      exact hFM5.trans (w_PP_more_21 h)
theorem w_PP_vote {a1 a2 : Int} {M : Mem} {r : Int × Mem} (h : d_PP_vote a1 a2 M = some r) : Fr [12] [(0, 0)] M r.2 := by
  unfold d_PP_vote at h
  have hFM : Fr [12] [(0, 0)] M M := Fr.rfl'
  obtain ⟨v1, M2, fv1, h⟩ := bcall_e h
  have hFM2 : Fr [12] [(0, 0)] M M2 := hFM.trans ((w_Pr_hasFarm fv1).mono (by simp) (by simp))
  obtain ⟨v3, M4, fv3, h⟩ := bcall_e h
  have hFM4 : Fr [12] [(0, 0)] M M4 := hFM2.trans ((w_PP_isIn fv3).mono (by simp) (by simp))
  obtain ⟨v5, M6, fv5, h⟩ := bcall_e h
  have hFM6 : Fr [12] [(0, 0)] M M6 := hFM4.trans ((w_PP_passes fv5).mono (by simp) (by simp))
  rcases ite_e h with ⟨c7, h⟩ | ⟨c7, h⟩
  · skip
    cases h; exact hFM6
  · skip
    obtain ⟨c8, h⟩ := chk_e h
    obtain ⟨M9, eM9, h⟩ := blet_e h
    have hFM9 : Fr [12] [(0, 0)] M M9 := by rw [eM9]; exact hFM6.stoA (by simp)
    cases h; exact hFM9
theorem w_PP_result_70  {s0 : Int} {M : Mem} {r : Int × Mem} (h : k_PP_result_70 s0 M = some r) : Fr [34, 35, 36, 37, 38, 104, 105] [(0, 0), (32, 2), (32, 8)] M r.2 := by
  unfold k_PP_result_70 at h
  have hFM : Fr [34, 35, 36, 37, 38, 104, 105] [(0, 0), (32, 2), (32, 8)] M M := Fr.rfl'
  rcases ite_e h with ⟨c1, h⟩ | ⟨c1, h⟩
  · skip
    cases h; exact hFM
  · skip
    cases h; exact hFM
theorem w_PP_result_18  {a1 a2 s1 : Int} {M : Mem} {r : Int × Mem} (h : k_PP_result_18 a1 a2 s1 M = some r) : Fr [34, 35, 36, 37, 38, 104, 105] [(0, 0), (32, 2), (32, 8)] M r.2 := by
  unfold k_PP_result_18 at h
  have hFM : Fr [34, 35, 36, 37, 38, 104, 105] [(0, 0), (32, 2), (32, 8)] M M := Fr.rfl'
  obtain ⟨v1, M2, fv1, h⟩ := bcall_e h
  have hFM2 : Fr [34, 35, 36, 37, 38, 104, 105] [(0, 0), (32, 2), (32, 8)] M M2 := hFM.trans ((w_PP_isWeek fv1).mono (by simp) (by simp))
  obtain ⟨v3, M4, fv3, h⟩ := bcall_e h
  have hFM4 : Fr [34, 35, 36, 37, 38, 104, 105] [(0, 0), (32, 2), (32, 8)] M M4 := hFM2.trans ((w_PP_passes fv3).mono (by simp) (by simp))
  rcases ite_e h with ⟨c5, h⟩ | ⟨c5, h⟩
  · skip
    cases h; exact hFM4
  · skip
    obtain ⟨v6, M7, fv6, h⟩ := bcall_e h
    have hFM7 : Fr [34, 35, 36, 37, 38, 104, 105] [(0, 0), (32, 2), (32, 8)] M M7 := hFM4.trans ((w_Ba_count fv6).mono (by simp) (by simp))
    rcases ite_e h with ⟨c8, h⟩ | ⟨c8, h⟩
    · skip
      obtain ⟨v9, M10, fv9, h⟩ := bcall_e h
      have hFM10 : Fr [34, 35, 36, 37, 38, 104, 105] [(0, 0), (32, 2), (32, 8)] M M10 := hFM7.trans ((w_Ba_isWholeFor fv9).mono (by simp) (by simp))
      exact hFM10.trans (w_PP_result_70 h)
    · skip
      obtain ⟨c11, h⟩ := chk_e h
      obtain ⟨v12, ev12, h⟩ := blet_e h
      rcases ite_e h with ⟨c13, h⟩ | ⟨c13, h⟩
      · skip
        exact hFM7.trans (w_PP_result_70 h)
      · skip
        exact hFM7.trans (w_PP_result_70 h)
theorem w_PP_result_13  {a1 a2 : Int} {M : Mem} {r : Int × Mem} (h : k_PP_result_13 a1 a2 M = some r) : Fr [34, 35, 36, 37, 38, 104, 105] [(0, 0), (32, 2), (32, 8)] M r.2 := by
  unfold k_PP_result_13 at h
  have hFM : Fr [34, 35, 36, 37, 38, 104, 105] [(0, 0), (32, 2), (32, 8)] M M := Fr.rfl'
  exact hFM.trans (w_PP_result_18 h)
theorem w_PP_result {a1 a2 : Int} {M : Mem} {r : Int × Mem} (h : d_PP_result a1 a2 M = some r) : Fr [34, 35, 36, 37, 38, 104, 105] [(0, 0), (32, 2), (32, 8)] M r.2 := by
  unfold d_PP_result at h
  have hFM : Fr [34, 35, 36, 37, 38, 104, 105] [(0, 0), (32, 2), (32, 8)] M M := Fr.rfl'
  rcases ite_e h with ⟨c1, h⟩ | ⟨c1, h⟩
  · skip
    exact hFM.trans (w_PP_result_13 h)
  · skip
    obtain ⟨v2, M3, fv2, h⟩ := bcall_e h
    have hFM3 : Fr [34, 35, 36, 37, 38, 104, 105] [(0, 0), (32, 2), (32, 8)] M M3 := hFM.trans ((w_PP_isDistrict fv2).mono (by simp) (by simp))
    rcases ite_e h with ⟨c4, h⟩ | ⟨c4, h⟩
    · skip
      exact hFM3.trans (w_PP_result_18 h)
    · skip
      exact hFM3.trans (w_PP_result_13 h)
theorem w_PP_hangs {a1 : Int} {M : Mem} {r : Int × Mem} (h : d_PP_hangs a1 M = some r) : Fr [34, 35, 36, 37, 38, 104, 105, 106, 107, 108, 109, 110] [(0, 0), (32, 2), (32, 8)] M r.2 := by
  unfold d_PP_hangs at h
  have hFM : Fr [34, 35, 36, 37, 38, 104, 105, 106, 107, 108, 109, 110] [(0, 0), (32, 2), (32, 8)] M M := Fr.rfl'
  obtain ⟨v1, M2, fv1, h⟩ := bcall_e h
  have hFM2 : Fr [34, 35, 36, 37, 38, 104, 105, 106, 107, 108, 109, 110] [(0, 0), (32, 2), (32, 8)] M M2 := hFM.trans ((w_PP_isWeek fv1).mono (by simp) (by simp))
  obtain ⟨v3, M4, fv3, h⟩ := bcall_e h
  have hFM4 : Fr [34, 35, 36, 37, 38, 104, 105, 106, 107, 108, 109, 110] [(0, 0), (32, 2), (32, 8)] M M4 := hFM2.trans ((w_PP_passes fv3).mono (by simp) (by simp))
  rcases ite_e h with ⟨c5, h⟩ | ⟨c5, h⟩
  · skip
    cases h; exact hFM4
  · skip
    obtain ⟨v6, M7, fv6, h⟩ := bcall_e h
    have hFM7 : Fr [34, 35, 36, 37, 38, 104, 105, 106, 107, 108, 109, 110] [(0, 0), (32, 2), (32, 8)] M M7 := hFM4.trans ((w_Ba_count fv6).mono (by simp) (by simp))
    obtain ⟨v8, M9, fv8, h⟩ := bcall_e h
    have hFM9 : Fr [34, 35, 36, 37, 38, 104, 105, 106, 107, 108, 109, 110] [(0, 0), (32, 2), (32, 8)] M M9 := hFM7.trans ((w_Ba_leastSetThatTurns fv8).mono (by simp) (by simp))
    cases h; exact hFM9
theorem w_PP_statusOfWarm_96  {s0 : Int} {M : Mem} {r : Int × Mem} (h : k_PP_statusOfWarm_96 s0 M = some r) : Fr [] [] M r.2 := by
  unfold k_PP_statusOfWarm_96 at h
  have hFM : Fr [] [] M M := Fr.rfl'
  rcases ite_e h with ⟨c1, h⟩ | ⟨c1, h⟩
  · skip
    cases h; exact hFM
  · skip
    cases h; exact hFM
theorem w_PP_statusOfWarm_95  {M : Mem} {r : Int × Mem} (h : k_PP_statusOfWarm_95 M = some r) : Fr [] [] M r.2 := by
  unfold k_PP_statusOfWarm_95 at h
  have hFM : Fr [] [] M M := Fr.rfl'
  exact hFM.trans (w_PP_statusOfWarm_96 h)
theorem w_PP_statusOfWarm {a1 a2 a3 : Int} {M : Mem} {r : Int × Mem} (h : d_PP_statusOfWarm a1 a2 a3 M = some r) : Fr [] [] M r.2 := by
  unfold d_PP_statusOfWarm at h
  have hFM : Fr [] [] M M := Fr.rfl'
  obtain ⟨v1, M2, fv1, h⟩ := bcall_e h
  have hFM2 : Fr [] [] M M2 := hFM.trans ((w_Tr_statusOfTwo fv1).mono (by simp) (by simp))
  rcases ite_e h with ⟨c3, h⟩ | ⟨c3, h⟩
  · skip
    obtain ⟨v4, M5, fv4, h⟩ := bcall_e h
    have hFM5 : Fr [] [] M M5 := hFM2.trans ((w_PP_isIn fv4).mono (by simp) (by simp))
    rcases ite_e h with ⟨c6, h⟩ | ⟨c6, h⟩
    · skip
      cases h; exact hFM5
    · skip
      obtain ⟨c7, h⟩ := chk_e h
      obtain ⟨v8, ev8, h⟩ := blet_e h
      rcases ite_e h with ⟨c9, h⟩ | ⟨c9, h⟩
      · skip
        cases h; exact hFM5
      · skip
        obtain ⟨c10, h⟩ := chk_e h
        obtain ⟨v11, ev11, h⟩ := blet_e h
        rcases ite_e h with ⟨c12, h⟩ | ⟨c12, h⟩
        · skip
          cases h; exact hFM5
        · skip
          obtain ⟨v13, M14, fv13, h⟩ := bcall_e h
          have hFM14 : Fr [] [] M M14 := hFM5.trans ((w_Tr_areIn fv13).mono (by simp) (by simp))
          rcases ite_e h with ⟨c15, h⟩ | ⟨c15, h⟩
          · skip
            exact hFM14.trans (w_PP_statusOfWarm_95 h)
          · skip
            obtain ⟨v16, M17, fv16, h⟩ := bcall_e h
            have hFM17 : Fr [] [] M M17 := hFM14.trans ((w_Tr_areIn fv16).mono (by simp) (by simp))
            rcases ite_e h with ⟨c18, h⟩ | ⟨c18, h⟩
            · skip
              exact hFM17.trans (w_PP_statusOfWarm_95 h)
            · skip
              exact hFM17.trans (w_PP_statusOfWarm_96 h)
  · skip
    cases h; exact hFM2
theorem w_PP_warm_23 {R23 : Int → Int → Int → Int → Mem → Res} (hR23 : ∀ (a1 a2 a3 a4 : Int) (M : Mem) (r : Int × Mem), R23 a1 a2 a3 a4 M = some r → Fr [63, 64, 65, 66] [(0, 0), (62, 2)] M r.2) {a1 a2 a3 a4 : Int} {M : Mem} {r : Int × Mem} (h : k_PP_warm_23 R23 a1 a2 a3 a4 M = some r) : Fr [63, 64, 65, 66] [(0, 0), (62, 2)] M r.2 := by
  unfold k_PP_warm_23 at h
  have hFM : Fr [63, 64, 65, 66] [(0, 0), (62, 2)] M M := Fr.rfl'
  rcases ite_e h with ⟨c1, h⟩ | ⟨c1, h⟩
  · skip
    obtain ⟨v2, M3, fv2, h⟩ := bcall_e h
    have hFM3 : Fr [63, 64, 65, 66] [(0, 0), (62, 2)] M M3 := hFM.trans ((w_Tr_get fv2).mono (by simp) (by simp))
    obtain ⟨c4, h⟩ := chk_e h
    obtain ⟨M5, eM5, h⟩ := blet_e h
    have hFM5 : Fr [63, 64, 65, 66] [(0, 0), (62, 2)] M M5 := by rw [eM5]; exact hFM3.stoA (by simp)
    obtain ⟨v6, M7, fv6, h⟩ := bcall_e h
    have hFM7 : Fr [63, 64, 65, 66] [(0, 0), (62, 2)] M M7 := hFM5.trans ((w_Tr_get fv6).mono (by simp) (by simp))
    obtain ⟨c8, h⟩ := chk_e h
    obtain ⟨M9, eM9, h⟩ := blet_e h
    have hFM9 : Fr [63, 64, 65, 66] [(0, 0), (62, 2)] M M9 := by rw [eM9]; exact hFM7.stoA (by simp)
    obtain ⟨v10, ev10, h⟩ := blet_e h
    exact hFM9.trans (hR23 a1 a2 a3 v10 M9 r h)
  · skip
    obtain ⟨v11, M12, fv11, h⟩ := bcall_e h
    have hFM12 : Fr [63, 64, 65, 66] [(0, 0), (62, 2)] M M12 := hFM.trans ((w_Ya_planTurning fv11).mono (by simp) (by simp))
    cases h; exact hFM12
theorem wl_PP_warm_23  : ∀ (n : Nat) (a1 a2 a3 a4 : Int) (M : Mem) (r : Int × Mem), fix (fun _ _ _ _ _ => none) (k_PP_warm_23) n a1 a2 a3 a4 M = some r → Fr [63, 64, 65, 66] [(0, 0), (62, 2)] M r.2 := by
  intro n
  induction n with
  | zero => intro a1 a2 a3 a4 M r h; exact nomatch (show (none : Res) = some r from h)
  | succ n ih => intro a1 a2 a3 a4 M r h; exact w_PP_warm_23 ih h
theorem w_PP_warm {a1 a2 a3 : Int} {M : Mem} {r : Int × Mem} (h : d_PP_warm a1 a2 a3 M = some r) : Fr [63, 64, 65, 66] [(0, 0), (62, 2)] M r.2 := by
  unfold d_PP_warm at h
  have hFM : Fr [63, 64, 65, 66] [(0, 0), (62, 2)] M M := Fr.rfl'
  obtain ⟨v1, M2, fv1, h⟩ := bcall_e h
  have hFM2 : Fr [63, 64, 65, 66] [(0, 0), (62, 2)] M M2 := hFM.trans ((w_PP_statusOfWarm fv1).mono (by simp) (by simp))
  obtain ⟨M3, eM3, h⟩ := blet_e h
  have hFM3 : Fr [63, 64, 65, 66] [(0, 0), (62, 2)] M M3 := by rw [eM3]; exact hFM2.stoF (by simp)
  obtain ⟨v4, ev4, h⟩ := blet_e h
  rcases ite_e h with ⟨c5, h⟩ | ⟨c5, h⟩
  · skip
    exact hFM3.trans (wl_PP_warm_23 FU a1 a2 a3 0 M3 r h)
  · skip
    cases h; exact hFM3
theorem w_PP_turned_27  {a1 s1 : Int} {M : Mem} {r : Int × Mem} (h : k_PP_turned_27 a1 s1 M = some r) : Fr [] [(0, 0)] M r.2 := by
  unfold k_PP_turned_27 at h
  have hFM : Fr [] [(0, 0)] M M := Fr.rfl'
  obtain ⟨M1, eM1, h⟩ := blet_e h
  have hFM1 : Fr [] [(0, 0)] M M1 := by rw [eM1]; exact hFM.stoF (by simp)
  obtain ⟨v2, ev2, h⟩ := blet_e h
  rcases ite_e h with ⟨c3, h⟩ | ⟨c3, h⟩
  · skip
    obtain ⟨c4, h⟩ := chk_e h
    obtain ⟨v5, ev5, h⟩ := blet_e h
    cases h; exact hFM1
  · skip
    cases h; exact hFM1
theorem w_PP_turned_25  {a1 : Int} {M : Mem} {r : Int × Mem} (h : k_PP_turned_25 a1 M = some r) : Fr [] [(0, 0)] M r.2 := by
  unfold k_PP_turned_25 at h
  have hFM : Fr [] [(0, 0)] M M := Fr.rfl'
  exact hFM.trans (w_PP_turned_27 h)
theorem w_PP_turned {a1 : Int} {M : Mem} {r : Int × Mem} (h : d_PP_turned a1 M = some r) : Fr [] [(0, 0)] M r.2 := by
  unfold d_PP_turned at h
  have hFM : Fr [] [(0, 0)] M M := Fr.rfl'
  obtain ⟨v1, ev1, h⟩ := blet_e h
  rcases ite_e h with ⟨c2, h⟩ | ⟨c2, h⟩
  · skip
    exact hFM.trans (w_PP_turned_25 h)
  · skip
    obtain ⟨v3, M4, fv3, h⟩ := bcall_e h
    have hFM4 : Fr [] [(0, 0)] M M4 := hFM.trans ((w_PP_isIn fv3).mono (by simp) (by simp))
    rcases ite_e h with ⟨c5, h⟩ | ⟨c5, h⟩
    · skip
      exact hFM4.trans (w_PP_turned_25 h)
    · skip
      exact hFM4.trans (w_PP_turned_27 h)
theorem w_PP_statusOfSend_146  {a1 a2 a3 a4 s0 : Int} {M : Mem} {r : Int × Mem} (h : k_PP_statusOfSend_146 a1 a2 a3 a4 s0 M = some r) : Fr [] [] M r.2 := by
  unfold k_PP_statusOfSend_146 at h
  have hFM : Fr [] [] M M := Fr.rfl'
  rcases ite_e h with ⟨c1, h⟩ | ⟨c1, h⟩
  · skip
    cases h; exact hFM
  · skip
    obtain ⟨v2, M3, fv2, h⟩ := bcall_e h
    have hFM3 : Fr [] [] M M3 := hFM.trans ((w_Tr_totalOf fv2).mono (by simp) (by simp))
    obtain ⟨v4, M5, fv4, h⟩ := bcall_e h
    have hFM5 : Fr [] [] M M5 := hFM3.trans ((w_Tr_totalOf fv4).mono (by simp) (by simp))
    rcases ite_e h with ⟨c6, h⟩ | ⟨c6, h⟩
    · skip
      cases h; exact hFM5
    · skip
      cases h; exact hFM5
theorem w_PP_statusOfSend_145  {a1 a2 a3 a4 : Int} {M : Mem} {r : Int × Mem} (h : k_PP_statusOfSend_145 a1 a2 a3 a4 M = some r) : Fr [] [] M r.2 := by
  unfold k_PP_statusOfSend_145 at h
  have hFM : Fr [] [] M M := Fr.rfl'
  exact hFM.trans (w_PP_statusOfSend_146 h)
theorem w_PP_statusOfSend {a1 a2 a3 a4 a5 : Int} {M : Mem} {r : Int × Mem} (h : d_PP_statusOfSend a1 a2 a3 a4 a5 M = some r) : Fr [] [] M r.2 := by
  unfold d_PP_statusOfSend at h
  have hFM : Fr [] [] M M := Fr.rfl'
  obtain ⟨v1, M2, fv1, h⟩ := bcall_e h
  have hFM2 : Fr [] [] M M2 := hFM.trans ((w_Tr_statusOfThree fv1).mono (by simp) (by simp))
  rcases ite_e h with ⟨c3, h⟩ | ⟨c3, h⟩
  · skip
    obtain ⟨v4, M5, fv4, h⟩ := bcall_e h
    have hFM5 : Fr [] [] M M5 := hFM2.trans ((w_PP_isIn fv4).mono (by simp) (by simp))
    rcases ite_e h with ⟨c6, h⟩ | ⟨c6, h⟩
    · skip
      cases h; exact hFM5
    · skip
      obtain ⟨v7, M8, fv7, h⟩ := bcall_e h
      have hFM8 : Fr [] [] M M8 := hFM5.trans ((w_PP_isIn fv7).mono (by simp) (by simp))
      rcases ite_e h with ⟨c9, h⟩ | ⟨c9, h⟩
      · skip
        cases h; exact hFM8
      · skip
        obtain ⟨c10, h⟩ := chk_e h
        obtain ⟨v11, ev11, h⟩ := blet_e h
        rcases ite_e h with ⟨c12, h⟩ | ⟨c12, h⟩
        · skip
          cases h; exact hFM8
        · skip
          obtain ⟨c13, h⟩ := chk_e h
          obtain ⟨v14, ev14, h⟩ := blet_e h
          rcases ite_e h with ⟨c15, h⟩ | ⟨c15, h⟩
          · skip
            cases h; exact hFM8
          · skip
            obtain ⟨c16, h⟩ := chk_e h
            obtain ⟨v17, ev17, h⟩ := blet_e h
            rcases ite_e h with ⟨c18, h⟩ | ⟨c18, h⟩
            · skip
              cases h; exact hFM8
            · skip
              obtain ⟨v19, M20, fv19, h⟩ := bcall_e h
              have hFM20 : Fr [] [] M M20 := hFM8.trans ((w_Tr_areIn fv19).mono (by simp) (by simp))
              rcases ite_e h with ⟨c21, h⟩ | ⟨c21, h⟩
              · skip
                exact hFM20.trans (w_PP_statusOfSend_145 h)
              · skip
                obtain ⟨v22, M23, fv22, h⟩ := bcall_e h
                have hFM23 : Fr [] [] M M23 := hFM20.trans ((w_Tr_areIn fv22).mono (by simp) (by simp))
                rcases ite_e h with ⟨c24, h⟩ | ⟨c24, h⟩
                · skip
                  exact hFM23.trans (w_PP_statusOfSend_145 h)
                · skip
                  obtain ⟨v25, M26, fv25, h⟩ := bcall_e h
                  have hFM26 : Fr [] [] M M26 := hFM23.trans ((w_Tr_areIn fv25).mono (by simp) (by simp))
                  rcases ite_e h with ⟨c27, h⟩ | ⟨c27, h⟩
                  · skip
                    exact hFM26.trans (w_PP_statusOfSend_145 h)
                  · skip
                    exact hFM26.trans (w_PP_statusOfSend_146 h)
  · skip
    cases h; exact hFM2
theorem w_PP_send_100 {R100 : Int → Int → Int → Int → Mem → Res} (hR100 : ∀ (a2 a4 a5 a6 : Int) (M : Mem) (r : Int × Mem), R100 a2 a4 a5 a6 M = some r → Fr [67, 68, 69, 70, 71, 72, 73, 74] [(0, 0)] M r.2) {a2 a4 a5 a6 : Int} {M : Mem} {r : Int × Mem} (h : k_PP_send_100 R100 a2 a4 a5 a6 M = some r) : Fr [67, 68, 69, 70, 71, 72, 73, 74] [(0, 0)] M r.2 := by
  unfold k_PP_send_100 at h
  have hFM : Fr [67, 68, 69, 70, 71, 72, 73, 74] [(0, 0)] M M := Fr.rfl'
  rcases ite_e h with ⟨c1, h⟩ | ⟨c1, h⟩
  · skip
    obtain ⟨v2, M3, fv2, h⟩ := bcall_e h
    have hFM3 : Fr [67, 68, 69, 70, 71, 72, 73, 74] [(0, 0)] M M3 := hFM.trans ((w_Tr_get fv2).mono (by simp) (by simp))
    obtain ⟨c4, h⟩ := chk_e h
    obtain ⟨M5, eM5, h⟩ := blet_e h
    have hFM5 : Fr [67, 68, 69, 70, 71, 72, 73, 74] [(0, 0)] M M5 := by rw [eM5]; exact hFM3.stoA (by simp)
    obtain ⟨v6, ev6, h⟩ := blet_e h
    exact hFM5.trans (hR100 a2 a4 a5 v6 M5 r h)
  · skip
    obtain ⟨v7, M8, fv7, h⟩ := bcall_e h
    have hFM8 : Fr [67, 68, 69, 70, 71, 72, 73, 74] [(0, 0)] M M8 := hFM.trans ((w_Ya_leastCost fv7).mono (by simp) (by simp))
    cases h; exact hFM8
theorem wl_PP_send_100  : ∀ (n : Nat) (a2 a4 a5 a6 : Int) (M : Mem) (r : Int × Mem), fix (fun _ _ _ _ _ => none) (k_PP_send_100) n a2 a4 a5 a6 M = some r → Fr [67, 68, 69, 70, 71, 72, 73, 74] [(0, 0)] M r.2 := by
  intro n
  induction n with
  | zero => intro a2 a4 a5 a6 M r h; exact nomatch (show (none : Res) = some r from h)
  | succ n ih => intro a2 a4 a5 a6 M r h; exact w_PP_send_100 ih h
theorem w_PP_send_63 {R63 : Int → Int → Int → Int → Int → Mem → Res} (hR63 : ∀ (a2 a3 a4 a5 a6 : Int) (M : Mem) (r : Int × Mem), R63 a2 a3 a4 a5 a6 M = some r → Fr [67, 68, 69, 70, 71, 72, 73, 74] [(0, 0)] M r.2) {a2 a3 a4 a5 a6 : Int} {M : Mem} {r : Int × Mem} (h : k_PP_send_63 R63 a2 a3 a4 a5 a6 M = some r) : Fr [67, 68, 69, 70, 71, 72, 73, 74] [(0, 0)] M r.2 := by
  unfold k_PP_send_63 at h
  have hFM : Fr [67, 68, 69, 70, 71, 72, 73, 74] [(0, 0)] M M := Fr.rfl'
  rcases ite_e h with ⟨c1, h⟩ | ⟨c1, h⟩
  · skip
    obtain ⟨v2, M3, fv2, h⟩ := bcall_e h
    have hFM3 : Fr [67, 68, 69, 70, 71, 72, 73, 74] [(0, 0)] M M3 := hFM.trans ((w_Tr_get fv2).mono (by simp) (by simp))
    obtain ⟨c4, h⟩ := chk_e h
    obtain ⟨M5, eM5, h⟩ := blet_e h
    have hFM5 : Fr [67, 68, 69, 70, 71, 72, 73, 74] [(0, 0)] M M5 := by rw [eM5]; exact hFM3.stoA (by simp)
    obtain ⟨v6, ev6, h⟩ := blet_e h
    exact hFM5.trans (hR63 a2 a3 a4 a5 v6 M5 r h)
  · skip
    exact hFM.trans (wl_PP_send_100 FU a2 a4 a5 0 M r h)
theorem wl_PP_send_63  : ∀ (n : Nat) (a2 a3 a4 a5 a6 : Int) (M : Mem) (r : Int × Mem), fix (fun _ _ _ _ _ _ => none) (k_PP_send_63) n a2 a3 a4 a5 a6 M = some r → Fr [67, 68, 69, 70, 71, 72, 73, 74] [(0, 0)] M r.2 := by
  intro n
  induction n with
  | zero => intro a2 a3 a4 a5 a6 M r h; exact nomatch (show (none : Res) = some r from h)
  | succ n ih => intro a2 a3 a4 a5 a6 M r h; exact w_PP_send_63 ih h
theorem w_PP_send_27 {R27 : Int → Int → Int → Int → Int → Int → Mem → Res} (hR27 : ∀ (a1 a2 a3 a4 a5 a6 : Int) (M : Mem) (r : Int × Mem), R27 a1 a2 a3 a4 a5 a6 M = some r → Fr [67, 68, 69, 70, 71, 72, 73, 74] [(0, 0)] M r.2) {a1 a2 a3 a4 a5 a6 : Int} {M : Mem} {r : Int × Mem} (h : k_PP_send_27 R27 a1 a2 a3 a4 a5 a6 M = some r) : Fr [67, 68, 69, 70, 71, 72, 73, 74] [(0, 0)] M r.2 := by
  unfold k_PP_send_27 at h
  have hFM : Fr [67, 68, 69, 70, 71, 72, 73, 74] [(0, 0)] M M := Fr.rfl'
  rcases ite_e h with ⟨c1, h⟩ | ⟨c1, h⟩
  · skip
    obtain ⟨v2, M3, fv2, h⟩ := bcall_e h
    have hFM3 : Fr [67, 68, 69, 70, 71, 72, 73, 74] [(0, 0)] M M3 := hFM.trans ((w_Tr_get fv2).mono (by simp) (by simp))
    obtain ⟨c4, h⟩ := chk_e h
    obtain ⟨M5, eM5, h⟩ := blet_e h
    have hFM5 : Fr [67, 68, 69, 70, 71, 72, 73, 74] [(0, 0)] M M5 := by rw [eM5]; exact hFM3.stoA (by simp)
    obtain ⟨v6, ev6, h⟩ := blet_e h
    exact hFM5.trans (hR27 a1 a2 a3 a4 a5 v6 M5 r h)
  · skip
    exact hFM.trans (wl_PP_send_63 FU a2 a3 a4 a5 0 M r h)
theorem wl_PP_send_27  : ∀ (n : Nat) (a1 a2 a3 a4 a5 a6 : Int) (M : Mem) (r : Int × Mem), fix (fun _ _ _ _ _ _ _ => none) (k_PP_send_27) n a1 a2 a3 a4 a5 a6 M = some r → Fr [67, 68, 69, 70, 71, 72, 73, 74] [(0, 0)] M r.2 := by
  intro n
  induction n with
  | zero => intro a1 a2 a3 a4 a5 a6 M r h; exact nomatch (show (none : Res) = some r from h)
  | succ n ih => intro a1 a2 a3 a4 a5 a6 M r h; exact w_PP_send_27 ih h
theorem w_PP_send {a1 a2 a3 a4 a5 : Int} {M : Mem} {r : Int × Mem} (h : d_PP_send a1 a2 a3 a4 a5 M = some r) : Fr [67, 68, 69, 70, 71, 72, 73, 74] [(0, 0)] M r.2 := by
  unfold d_PP_send at h
  have hFM : Fr [67, 68, 69, 70, 71, 72, 73, 74] [(0, 0)] M M := Fr.rfl'
  obtain ⟨v1, M2, fv1, h⟩ := bcall_e h
  have hFM2 : Fr [67, 68, 69, 70, 71, 72, 73, 74] [(0, 0)] M M2 := hFM.trans ((w_PP_statusOfSend fv1).mono (by simp) (by simp))
  obtain ⟨M3, eM3, h⟩ := blet_e h
  have hFM3 : Fr [67, 68, 69, 70, 71, 72, 73, 74] [(0, 0)] M M3 := by rw [eM3]; exact hFM2.stoF (by simp)
  obtain ⟨v4, ev4, h⟩ := blet_e h
  rcases ite_e h with ⟨c5, h⟩ | ⟨c5, h⟩
  · skip
    exact hFM3.trans (wl_PP_send_27 FU a1 a2 a3 a4 a5 0 M3 r h)
  · skip
    cases h; exact hFM3
theorem w_Mo_status {M : Mem} {r : Int × Mem} (h : d_Mo_status M = some r) : Fr [] [(111, 1)] M r.2 := by
  unfold d_Mo_status at h
  have hFM : Fr [] [(111, 1)] M M := Fr.rfl'
  obtain ⟨M1, eM1, h⟩ := blet_e h
  have hFM1 : Fr [] [(111, 1)] M M1 := by rw [eM1]; exact hFM.stoF (by simp)
  obtain ⟨v2, ev2, h⟩ := blet_e h
  cases h; exact hFM1
theorem w_Mo_no {a1 : Int} {M : Mem} {r : Int × Mem} (h : d_Mo_no a1 M = some r) : Fr [] [(111, 0)] M r.2 := by
  unfold d_Mo_no at h
  have hFM : Fr [] [(111, 0)] M M := Fr.rfl'
  obtain ⟨M1, eM1, h⟩ := blet_e h
  have hFM1 : Fr [] [(111, 0)] M M1 := by rw [eM1]; exact hFM.stoF (by simp)
  cases h; exact hFM1
theorem w_Mo_tray_74 {R74 : Int → Int → Int → Mem → Res} (hR74 : ∀ (a1 a3 a4 : Int) (M : Mem) (r : Int × Mem), R74 a1 a3 a4 M = some r → Fr [112, 113, 114] [(111, 0), (111, 1)] M r.2) {a1 a3 a4 : Int} {M : Mem} {r : Int × Mem} (h : k_Mo_tray_74 R74 a1 a3 a4 M = some r) : Fr [112, 113, 114] [(111, 0), (111, 1)] M r.2 := by
  unfold k_Mo_tray_74 at h
  have hFM : Fr [112, 113, 114] [(111, 0), (111, 1)] M M := Fr.rfl'
  rcases ite_e h with ⟨c1, h⟩ | ⟨c1, h⟩
  · skip
    obtain ⟨c2, h⟩ := chk_e h
    obtain ⟨M3, eM3, h⟩ := blet_e h
    have hFM3 : Fr [112, 113, 114] [(111, 0), (111, 1)] M M3 := by rw [eM3]; exact hFM.stoA (by simp)
    obtain ⟨v4, ev4, h⟩ := blet_e h
    exact hFM3.trans (hR74 a1 a3 v4 M3 r h)
  · skip
    cases h; exact hFM
theorem wl_Mo_tray_74  : ∀ (n : Nat) (a1 a3 a4 : Int) (M : Mem) (r : Int × Mem), fix (fun _ _ _ _ => none) (k_Mo_tray_74) n a1 a3 a4 M = some r → Fr [112, 113, 114] [(111, 0), (111, 1)] M r.2 := by
  intro n
  induction n with
  | zero => intro a1 a3 a4 M r h; exact nomatch (show (none : Res) = some r from h)
  | succ n ih => intro a1 a3 a4 M r h; exact w_Mo_tray_74 ih h
theorem w_Mo_tray_28  {M : Mem} {r : Int × Mem} (h : k_Mo_tray_28 M = some r) : Fr [112, 113, 114] [(111, 0), (111, 1)] M r.2 := by
  unfold k_Mo_tray_28 at h
  have hFM : Fr [112, 113, 114] [(111, 0), (111, 1)] M M := Fr.rfl'
  obtain ⟨v1, M2, fv1, h⟩ := bcall_e h
  have hFM2 : Fr [112, 113, 114] [(111, 0), (111, 1)] M M2 := hFM.trans ((w_Mo_no fv1).mono (by simp) (by simp))
  obtain ⟨c3, h⟩ := chk_e h
  cases h; exact hFM2
theorem w_Mo_tray {a1 a2 a3 : Int} {M : Mem} {r : Int × Mem} (h : d_Mo_tray a1 a2 a3 M = some r) : Fr [112, 113, 114] [(111, 0), (111, 1)] M r.2 := by
  unfold d_Mo_tray at h
  have hFM : Fr [112, 113, 114] [(111, 0), (111, 1)] M M := Fr.rfl'
  obtain ⟨M1, eM1, h⟩ := blet_e h
  have hFM1 : Fr [112, 113, 114] [(111, 0), (111, 1)] M M1 := by rw [eM1]; exact hFM.stoF (by simp)
  obtain ⟨M2, eM2, h⟩ := blet_e h
  have hFM2 : Fr [112, 113, 114] [(111, 0), (111, 1)] M M2 := by rw [eM2]; exact hFM1.stoF (by simp)
  rcases ite_e h with ⟨c3, h⟩ | ⟨c3, h⟩
  · skip
    exact hFM2.trans (w_Mo_tray_28 h)
  · skip
    rcases ite_e h with ⟨c4, h⟩ | ⟨c4, h⟩
    · skip
      rcases ite_e h with ⟨c5, h⟩ | ⟨c5, h⟩
      · skip
        exact hFM2.trans (w_Mo_tray_28 h)
      · skip
        rcases ite_e h with ⟨c6, h⟩ | ⟨c6, h⟩
        · skip
          exact hFM2.trans (w_Mo_tray_28 h)
        · skip
          rcases ite_e h with ⟨c7, h⟩ | ⟨c7, h⟩
          · skip
            obtain ⟨v8, M9, fv8, h⟩ := bcall_e h
            have hFM9 : Fr [112, 113, 114] [(111, 0), (111, 1)] M M9 := hFM2.trans ((w_Mo_no fv8).mono (by simp) (by simp))
            obtain ⟨c10, h⟩ := chk_e h
            cases h; exact hFM9
          · skip
            rcases ite_e h with ⟨c11, h⟩ | ⟨c11, h⟩
            · skip
              obtain ⟨v12, M13, fv12, h⟩ := bcall_e h
              have hFM13 : Fr [112, 113, 114] [(111, 0), (111, 1)] M M13 := hFM2.trans ((w_Mo_no fv12).mono (by simp) (by simp))
              obtain ⟨c14, h⟩ := chk_e h
              cases h; exact hFM13
            · skip
              obtain ⟨c15, h⟩ := chk_e h
              obtain ⟨M16, eM16, h⟩ := blet_e h
              have hFM16 : Fr [112, 113, 114] [(111, 0), (111, 1)] M M16 := by rw [eM16]; exact hFM2.stoA (by simp)
              obtain ⟨c17, h⟩ := chk_e h
              obtain ⟨M18, eM18, h⟩ := blet_e h
              have hFM18 : Fr [112, 113, 114] [(111, 0), (111, 1)] M M18 := by rw [eM18]; exact hFM16.stoA (by simp)
              exact hFM18.trans (wl_Mo_tray_74 FU a1 a3 0 M18 r h)
    · skip
      exact hFM2.trans (w_Mo_tray_28 h)
theorem w_Mo_trayed_9  {M : Mem} {r : Int × Mem} (h : k_Mo_trayed_9 M = some r) : Fr [] [] M r.2 := by
  unfold k_Mo_trayed_9 at h
  have hFM : Fr [] [] M M := Fr.rfl'
  cases h; exact hFM
theorem w_Mo_trayed {a1 : Int} {M : Mem} {r : Int × Mem} (h : d_Mo_trayed a1 M = some r) : Fr [] [] M r.2 := by
  unfold d_Mo_trayed at h
  have hFM : Fr [] [] M M := Fr.rfl'
  rcases ite_e h with ⟨c1, h⟩ | ⟨c1, h⟩
  · skip
    exact hFM.trans (w_Mo_trayed_9 h)
  · skip
    rcases ite_e h with ⟨c2, h⟩ | ⟨c2, h⟩
    · skip
      obtain ⟨c3, h⟩ := chk_e h
      obtain ⟨v4, ev4, h⟩ := blet_e h
      rcases ite_e h with ⟨c5, h⟩ | ⟨c5, h⟩
      · skip
        cases h; exact hFM
      · skip
        cases h; exact hFM
    · skip
      exact hFM.trans (w_Mo_trayed_9 h)
theorem w_Mo_placed_28  {M : Mem} {r : Int × Mem} (h : k_Mo_placed_28 M = some r) : Fr [] [] M r.2 := by
  unfold k_Mo_placed_28 at h
  have hFM : Fr [] [] M M := Fr.rfl'
  cases h; exact hFM
theorem w_Mo_placed {a1 a2 : Int} {M : Mem} {r : Int × Mem} (h : d_Mo_placed a1 a2 M = some r) : Fr [] [] M r.2 := by
  unfold d_Mo_placed at h
  have hFM : Fr [] [] M M := Fr.rfl'
  obtain ⟨v1, M2, fv1, h⟩ := bcall_e h
  have hFM2 : Fr [] [] M M2 := hFM.trans ((w_Mo_trayed fv1).mono (by simp) (by simp))
  rcases ite_e h with ⟨c3, h⟩ | ⟨c3, h⟩
  · skip
    cases h; exact hFM2
  · skip
    rcases ite_e h with ⟨c4, h⟩ | ⟨c4, h⟩
    · skip
      exact hFM2.trans (w_Mo_placed_28 h)
    · skip
      obtain ⟨c5, h⟩ := chk_e h
      obtain ⟨v6, ev6, h⟩ := blet_e h
      rcases ite_e h with ⟨c7, h⟩ | ⟨c7, h⟩
      · skip
        cases h; exact hFM2
      · skip
        exact hFM2.trans (w_Mo_placed_28 h)
theorem w_Mo_cut0 {a0 a1 : Int} {M : Mem} {r : Int × Mem} (h : d_Mo_cut0 a0 a1 M = some r) : Fr [] [] M r.2 := by
  unfold d_Mo_cut0 at h
  have hFM : Fr [] [] M M := Fr.rfl'
  rcases ite_e h with ⟨c1, h⟩ | ⟨c1, h⟩
  · skip
    cases h; exact hFM
  · skip
    rcases ite_e h with ⟨c2, h⟩ | ⟨c2, h⟩
    · skip
      cases h; exact hFM
    · skip
      rcases ite_e h with ⟨c3, h⟩ | ⟨c3, h⟩
      · skip
        cases h; exact hFM
      · skip
        cases h; exact hFM
theorem w_Mo_write {a1 a2 a3 : Int} {M : Mem} {r : Int × Mem} (h : d_Mo_write a1 a2 a3 M = some r) : Fr [114] [(111, 0), (111, 1)] M r.2 := by
  unfold d_Mo_write at h
  have hFM : Fr [114] [(111, 0), (111, 1)] M M := Fr.rfl'
  obtain ⟨M1, eM1, h⟩ := blet_e h
  have hFM1 : Fr [114] [(111, 0), (111, 1)] M M1 := by rw [eM1]; exact hFM.stoF (by simp)
  obtain ⟨v2, M3, fv2, h⟩ := bcall_e h
  have hFM3 : Fr [114] [(111, 0), (111, 1)] M M3 := hFM1.trans ((w_Mo_placed fv2).mono (by simp) (by simp))
  obtain ⟨M4, eM4, h⟩ := blet_e h
  have hFM4 : Fr [114] [(111, 0), (111, 1)] M M4 := by rw [eM4]; exact hFM3.stoF (by simp)
  obtain ⟨v5, ev5, h⟩ := blet_e h
  rcases ite_e h with ⟨c6, h⟩ | ⟨c6, h⟩
  · skip
    cases h; exact hFM4
  · skip
    obtain ⟨c7, h⟩ := chk_e h
    obtain ⟨v8, ev8, h⟩ := blet_e h
    obtain ⟨v9, M10, fv9, h⟩ := bcall_e h
    have hFM10 : Fr [114] [(111, 0), (111, 1)] M M10 := hFM4.trans ((w_Mo_cut0 fv9).mono (by simp) (by simp))
    obtain ⟨c11, h⟩ := chk_e h
    obtain ⟨M12, eM12, h⟩ := blet_e h
    have hFM12 : Fr [114] [(111, 0), (111, 1)] M M12 := by rw [eM12]; exact hFM10.stoA (by simp)
    cases h; exact hFM12
theorem w_Mo_read {a1 a2 : Int} {M : Mem} {r : Int × Mem} (h : d_Mo_read a1 a2 M = some r) : Fr [] [(111, 0), (111, 1)] M r.2 := by
  unfold d_Mo_read at h
  have hFM : Fr [] [(111, 0), (111, 1)] M M := Fr.rfl'
  obtain ⟨M1, eM1, h⟩ := blet_e h
  have hFM1 : Fr [] [(111, 0), (111, 1)] M M1 := by rw [eM1]; exact hFM.stoF (by simp)
  obtain ⟨v2, M3, fv2, h⟩ := bcall_e h
  have hFM3 : Fr [] [(111, 0), (111, 1)] M M3 := hFM1.trans ((w_Mo_placed fv2).mono (by simp) (by simp))
  obtain ⟨M4, eM4, h⟩ := blet_e h
  have hFM4 : Fr [] [(111, 0), (111, 1)] M M4 := by rw [eM4]; exact hFM3.stoF (by simp)
  obtain ⟨v5, ev5, h⟩ := blet_e h
  rcases ite_e h with ⟨c6, h⟩ | ⟨c6, h⟩
  · skip
    cases h; exact hFM4
  · skip
    obtain ⟨c7, h⟩ := chk_e h
    obtain ⟨v8, ev8, h⟩ := blet_e h
    cases h; exact hFM4
theorem w_Mo_pour_182 {R158 : Int → Int → Int → Int → Int → Int → Int → Mem → Res} (hR158 : ∀ (a1 a2 a3 a4 a5 a6 a7 : Int) (M : Mem) (r : Int × Mem), R158 a1 a2 a3 a4 a5 a6 a7 M = some r → Fr [114] [(111, 0), (111, 1)] M r.2) {a1 a2 a3 a4 a5 a6 a7 s0 : Int} {M : Mem} {r : Int × Mem} (h : k_Mo_pour_182 R158 a1 a2 a3 a4 a5 a6 a7 s0 M = some r) : Fr [114] [(111, 0), (111, 1)] M r.2 := by
  unfold k_Mo_pour_182 at h
  have hFM : Fr [114] [(111, 0), (111, 1)] M M := Fr.rfl'
  obtain ⟨c1, h⟩ := chk_e h
  obtain ⟨v2, ev2, h⟩ := blet_e h
  obtain ⟨c3, h⟩ := chk_e h
  obtain ⟨M4, eM4, h⟩ := blet_e h
  have hFM4 : Fr [114] [(111, 0), (111, 1)] M M4 := by rw [eM4]; exact hFM.stoA (by simp)
  obtain ⟨v5, ev5, h⟩ := blet_e h
  exact hFM4.trans (hR158 a1 a2 a3 a4 a5 a6 v5 M4 r h)
theorem w_Mo_pour_158 {R158 : Int → Int → Int → Int → Int → Int → Int → Mem → Res} (hR158 : ∀ (a1 a2 a3 a4 a5 a6 a7 : Int) (M : Mem) (r : Int × Mem), R158 a1 a2 a3 a4 a5 a6 a7 M = some r → Fr [114] [(111, 0), (111, 1)] M r.2) {a1 a2 a3 a4 a5 a6 a7 : Int} {M : Mem} {r : Int × Mem} (h : k_Mo_pour_158 R158 a1 a2 a3 a4 a5 a6 a7 M = some r) : Fr [114] [(111, 0), (111, 1)] M r.2 := by
  unfold k_Mo_pour_158 at h
  have hFM : Fr [114] [(111, 0), (111, 1)] M M := Fr.rfl'
  rcases ite_e h with ⟨c1, h⟩ | ⟨c1, h⟩
  · skip
    rcases ite_e h with ⟨c2, h⟩ | ⟨c2, h⟩
    · skip
      exact hFM.trans (w_Mo_pour_182 hR158 h)
    · skip
      exact hFM.trans (w_Mo_pour_182 hR158 h)
  · skip
    cases h; exact hFM
theorem wl_Mo_pour_158  : ∀ (n : Nat) (a1 a2 a3 a4 a5 a6 a7 : Int) (M : Mem) (r : Int × Mem), fix (fun _ _ _ _ _ _ _ _ => none) (k_Mo_pour_158) n a1 a2 a3 a4 a5 a6 a7 M = some r → Fr [114] [(111, 0), (111, 1)] M r.2 := by
  intro n
  induction n with
  | zero => intro a1 a2 a3 a4 a5 a6 a7 M r h; exact nomatch (show (none : Res) = some r from h)
  | succ n ih => intro a1 a2 a3 a4 a5 a6 a7 M r h; exact w_Mo_pour_158 ih h
theorem w_Mo_pour_153  {a1 a2 a3 a4 a5 s0 : Int} {M : Mem} {r : Int × Mem} (h : k_Mo_pour_153 a1 a2 a3 a4 a5 s0 M = some r) : Fr [114] [(111, 0), (111, 1)] M r.2 := by
  unfold k_Mo_pour_153 at h
  have hFM : Fr [114] [(111, 0), (111, 1)] M M := Fr.rfl'
  exact hFM.trans (wl_Mo_pour_158 FU a1 a2 a3 a4 a5 s0 0 M r h)
theorem w_Mo_pour_136  {M : Mem} {r : Int × Mem} (h : k_Mo_pour_136 M = some r) : Fr [114] [(111, 0), (111, 1)] M r.2 := by
  unfold k_Mo_pour_136 at h
  have hFM : Fr [114] [(111, 0), (111, 1)] M M := Fr.rfl'
  obtain ⟨v1, M2, fv1, h⟩ := bcall_e h
  have hFM2 : Fr [114] [(111, 0), (111, 1)] M M2 := hFM.trans ((w_Mo_no fv1).mono (by simp) (by simp))
  obtain ⟨c3, h⟩ := chk_e h
  cases h; exact hFM2
theorem w_Mo_pour_52  {M : Mem} {r : Int × Mem} (h : k_Mo_pour_52 M = some r) : Fr [114] [(111, 0), (111, 1)] M r.2 := by
  unfold k_Mo_pour_52 at h
  have hFM : Fr [114] [(111, 0), (111, 1)] M M := Fr.rfl'
  obtain ⟨v1, M2, fv1, h⟩ := bcall_e h
  have hFM2 : Fr [114] [(111, 0), (111, 1)] M M2 := hFM.trans ((w_Mo_no fv1).mono (by simp) (by simp))
  obtain ⟨c3, h⟩ := chk_e h
  cases h; exact hFM2
theorem w_Mo_pour_28  {M : Mem} {r : Int × Mem} (h : k_Mo_pour_28 M = some r) : Fr [114] [(111, 0), (111, 1)] M r.2 := by
  unfold k_Mo_pour_28 at h
  have hFM : Fr [114] [(111, 0), (111, 1)] M M := Fr.rfl'
  obtain ⟨v1, M2, fv1, h⟩ := bcall_e h
  have hFM2 : Fr [114] [(111, 0), (111, 1)] M M2 := hFM.trans ((w_Mo_no fv1).mono (by simp) (by simp))
  obtain ⟨c3, h⟩ := chk_e h
  cases h; exact hFM2
theorem w_Mo_pour {a1 a2 a3 a4 a5 : Int} {M : Mem} {r : Int × Mem} (h : d_Mo_pour a1 a2 a3 a4 a5 M = some r) : Fr [114] [(111, 0), (111, 1)] M r.2 := by
  unfold d_Mo_pour at h
  have hFM : Fr [114] [(111, 0), (111, 1)] M M := Fr.rfl'
  obtain ⟨M1, eM1, h⟩ := blet_e h
  have hFM1 : Fr [114] [(111, 0), (111, 1)] M M1 := by rw [eM1]; exact hFM.stoF (by simp)
  obtain ⟨M2, eM2, h⟩ := blet_e h
  have hFM2 : Fr [114] [(111, 0), (111, 1)] M M2 := by rw [eM2]; exact hFM1.stoF (by simp)
  rcases ite_e h with ⟨c3, h⟩ | ⟨c3, h⟩
  · skip
    exact hFM2.trans (w_Mo_pour_28 h)
  · skip
    rcases ite_e h with ⟨c4, h⟩ | ⟨c4, h⟩
    · skip
      rcases ite_e h with ⟨c5, h⟩ | ⟨c5, h⟩
      · skip
        exact hFM2.trans (w_Mo_pour_28 h)
      · skip
        rcases ite_e h with ⟨c6, h⟩ | ⟨c6, h⟩
        · skip
          obtain ⟨c7, h⟩ := chk_e h
          obtain ⟨v8, ev8, h⟩ := blet_e h
          rcases ite_e h with ⟨c9, h⟩ | ⟨c9, h⟩
          · skip
            exact hFM2.trans (w_Mo_pour_52 h)
          · skip
            obtain ⟨c10, h⟩ := chk_e h
            obtain ⟨v11, ev11, h⟩ := blet_e h
            rcases ite_e h with ⟨c12, h⟩ | ⟨c12, h⟩
            · skip
              exact hFM2.trans (w_Mo_pour_52 h)
            · skip
              obtain ⟨c13, h⟩ := chk_e h
              obtain ⟨v14, ev14, h⟩ := blet_e h
              obtain ⟨c15, h⟩ := chk_e h
              obtain ⟨v16, ev16, h⟩ := blet_e h
              rcases ite_e h with ⟨c17, h⟩ | ⟨c17, h⟩
              · skip
                rcases ite_e h with ⟨c18, h⟩ | ⟨c18, h⟩
                · skip
                  obtain ⟨v19, M20, fv19, h⟩ := bcall_e h
                  have hFM20 : Fr [114] [(111, 0), (111, 1)] M M20 := hFM2.trans ((w_Mo_no fv19).mono (by simp) (by simp))
                  obtain ⟨c21, h⟩ := chk_e h
                  cases h; exact hFM20
                · skip
                  rcases ite_e h with ⟨c22, h⟩ | ⟨c22, h⟩
                  · skip
                    exact hFM2.trans (w_Mo_pour_136 h)
                  · skip
                    rcases ite_e h with ⟨c23, h⟩ | ⟨c23, h⟩
                    · skip
                      exact hFM2.trans (w_Mo_pour_136 h)
                    · skip
                      obtain ⟨c24, h⟩ := chk_e h
                      obtain ⟨v25, ev25, h⟩ := blet_e h
                      rcases ite_e h with ⟨c26, h⟩ | ⟨c26, h⟩
                      · skip
                        exact hFM2.trans (w_Mo_pour_136 h)
                      · skip
                        obtain ⟨c27, h⟩ := chk_e h
                        obtain ⟨v28, ev28, h⟩ := blet_e h
                        rcases ite_e h with ⟨c29, h⟩ | ⟨c29, h⟩
                        · skip
                          exact hFM2.trans (w_Mo_pour_136 h)
                        · skip
                          rcases ite_e h with ⟨c30, h⟩ | ⟨c30, h⟩
                          · skip
                            exact hFM2.trans (w_Mo_pour_153 h)
                          · skip
                            exact hFM2.trans (w_Mo_pour_153 h)
              · skip
                obtain ⟨v31, M32, fv31, h⟩ := bcall_e h
                have hFM32 : Fr [114] [(111, 0), (111, 1)] M M32 := hFM2.trans ((w_Mo_no fv31).mono (by simp) (by simp))
                obtain ⟨c33, h⟩ := chk_e h
                cases h; exact hFM32
        · skip
          exact hFM2.trans (w_Mo_pour_28 h)
    · skip
      exact hFM2.trans (w_Mo_pour_28 h)
theorem w_Mo_isIn {a0 a2 a4 : Int} {M : Mem} {r : Int × Mem} (h : d_Mo_isIn a0 a2 a4 M = some r) : Fr [] [] M r.2 := by
  unfold d_Mo_isIn at h
  have hFM : Fr [] [] M M := Fr.rfl'
  rcases ite_e h with ⟨c1, h⟩ | ⟨c1, h⟩
  · skip
    cases h; exact hFM
  · skip
    rcases ite_e h with ⟨c2, h⟩ | ⟨c2, h⟩
    · skip
      cases h; exact hFM
    · skip
      cases h; exact hFM
theorem w_Mo_refuse {a1 : Int} {M : Mem} {r : Int × Mem} (h : d_Mo_refuse a1 M = some r) : Fr [] [(111, 0)] M r.2 := by
  unfold d_Mo_refuse at h
  have hFM : Fr [] [(111, 0)] M M := Fr.rfl'
  obtain ⟨M1, eM1, h⟩ := blet_e h
  have hFM1 : Fr [] [(111, 0)] M M1 := by rw [eM1]; exact hFM.stoF (by simp)
  cases h; exact hFM1
theorem w_Mo_farm_52  {M : Mem} {r : Int × Mem} (h : k_Mo_farm_52 M = some r) : Fr [115, 116, 117] [(111, 0), (111, 1), (111, 5)] M r.2 := by
  unfold k_Mo_farm_52 at h
  have hFM : Fr [115, 116, 117] [(111, 0), (111, 1), (111, 5)] M M := Fr.rfl'
  obtain ⟨v1, M2, fv1, h⟩ := bcall_e h
  have hFM2 : Fr [115, 116, 117] [(111, 0), (111, 1), (111, 5)] M M2 := hFM.trans ((w_Mo_refuse fv1).mono (by simp) (by simp))
  cases h; exact hFM2
theorem w_Mo_farm {a1 a2 a3 : Int} {M : Mem} {r : Int × Mem} (h : d_Mo_farm a1 a2 a3 M = some r) : Fr [115, 116, 117] [(111, 0), (111, 1), (111, 5)] M r.2 := by
  unfold d_Mo_farm at h
  have hFM : Fr [115, 116, 117] [(111, 0), (111, 1), (111, 5)] M M := Fr.rfl'
  obtain ⟨M1, eM1, h⟩ := blet_e h
  have hFM1 : Fr [115, 116, 117] [(111, 0), (111, 1), (111, 5)] M M1 := by rw [eM1]; exact hFM.stoF (by simp)
  obtain ⟨M2, eM2, h⟩ := blet_e h
  have hFM2 : Fr [115, 116, 117] [(111, 0), (111, 1), (111, 5)] M M2 := by rw [eM2]; exact hFM1.stoF (by simp)
  obtain ⟨v3, M4, fv3, h⟩ := bcall_e h
  have hFM4 : Fr [115, 116, 117] [(111, 0), (111, 1), (111, 5)] M M4 := hFM2.trans ((w_Mo_isIn fv3).mono (by simp) (by simp))
  rcases ite_e h with ⟨c5, h⟩ | ⟨c5, h⟩
  · skip
    obtain ⟨v6, M7, fv6, h⟩ := bcall_e h
    have hFM7 : Fr [115, 116, 117] [(111, 0), (111, 1), (111, 5)] M M7 := hFM4.trans ((w_Mo_refuse fv6).mono (by simp) (by simp))
    cases h; exact hFM7
  · skip
    obtain ⟨v8, M9, fv8, h⟩ := bcall_e h
    have hFM9 : Fr [115, 116, 117] [(111, 0), (111, 1), (111, 5)] M M9 := hFM4.trans ((w_Mo_isIn fv8).mono (by simp) (by simp))
    rcases ite_e h with ⟨c10, h⟩ | ⟨c10, h⟩
    · skip
      exact hFM9.trans (w_Mo_farm_52 h)
    · skip
      obtain ⟨v11, M12, fv11, h⟩ := bcall_e h
      have hFM12 : Fr [115, 116, 117] [(111, 0), (111, 1), (111, 5)] M M12 := hFM9.trans ((w_Mo_isIn fv11).mono (by simp) (by simp))
      rcases ite_e h with ⟨c13, h⟩ | ⟨c13, h⟩
      · skip
        exact hFM12.trans (w_Mo_farm_52 h)
      · skip
        obtain ⟨v14, ev14, h⟩ := blet_e h
        rcases ite_e h with ⟨c15, h⟩ | ⟨c15, h⟩
        · skip
          obtain ⟨v16, M17, fv16, h⟩ := bcall_e h
          have hFM17 : Fr [115, 116, 117] [(111, 0), (111, 1), (111, 5)] M M17 := hFM12.trans ((w_Mo_refuse fv16).mono (by simp) (by simp))
          cases h; exact hFM17
        · skip
          obtain ⟨v18, ev18, h⟩ := blet_e h
          obtain ⟨c19, h⟩ := chk_e h
          obtain ⟨M20, eM20, h⟩ := blet_e h
          have hFM20 : Fr [115, 116, 117] [(111, 0), (111, 1), (111, 5)] M M20 := by rw [eM20]; exact hFM12.stoA (by simp)
          obtain ⟨v21, ev21, h⟩ := blet_e h
          obtain ⟨c22, h⟩ := chk_e h
          obtain ⟨M23, eM23, h⟩ := blet_e h
          have hFM23 : Fr [115, 116, 117] [(111, 0), (111, 1), (111, 5)] M M23 := by rw [eM23]; exact hFM20.stoA (by simp)
          obtain ⟨v24, ev24, h⟩ := blet_e h
          obtain ⟨c25, h⟩ := chk_e h
          obtain ⟨M26, eM26, h⟩ := blet_e h
          have hFM26 : Fr [115, 116, 117] [(111, 0), (111, 1), (111, 5)] M M26 := by rw [eM26]; exact hFM23.stoA (by simp)
          obtain ⟨v27, ev27, h⟩ := blet_e h
          obtain ⟨M28, eM28, h⟩ := blet_e h
          have hFM28 : Fr [115, 116, 117] [(111, 0), (111, 1), (111, 5)] M M28 := by rw [eM28]; exact hFM26.stoF (by simp)
          obtain ⟨v29, ev29, h⟩ := blet_e h
          cases h; exact hFM28
theorem w_Mo_elevator {a1 a2 : Int} {M : Mem} {r : Int × Mem} (h : d_Mo_elevator a1 a2 M = some r) : Fr [118, 119] [(111, 0), (111, 1), (111, 6)] M r.2 := by
  unfold d_Mo_elevator at h
  have hFM : Fr [118, 119] [(111, 0), (111, 1), (111, 6)] M M := Fr.rfl'
  obtain ⟨M1, eM1, h⟩ := blet_e h
  have hFM1 : Fr [118, 119] [(111, 0), (111, 1), (111, 6)] M M1 := by rw [eM1]; exact hFM.stoF (by simp)
  obtain ⟨M2, eM2, h⟩ := blet_e h
  have hFM2 : Fr [118, 119] [(111, 0), (111, 1), (111, 6)] M M2 := by rw [eM2]; exact hFM1.stoF (by simp)
  obtain ⟨v3, M4, fv3, h⟩ := bcall_e h
  have hFM4 : Fr [118, 119] [(111, 0), (111, 1), (111, 6)] M M4 := hFM2.trans ((w_Mo_isIn fv3).mono (by simp) (by simp))
  rcases ite_e h with ⟨c5, h⟩ | ⟨c5, h⟩
  · skip
    obtain ⟨v6, M7, fv6, h⟩ := bcall_e h
    have hFM7 : Fr [118, 119] [(111, 0), (111, 1), (111, 6)] M M7 := hFM4.trans ((w_Mo_refuse fv6).mono (by simp) (by simp))
    cases h; exact hFM7
  · skip
    obtain ⟨v8, M9, fv8, h⟩ := bcall_e h
    have hFM9 : Fr [118, 119] [(111, 0), (111, 1), (111, 6)] M M9 := hFM4.trans ((w_Mo_isIn fv8).mono (by simp) (by simp))
    rcases ite_e h with ⟨c10, h⟩ | ⟨c10, h⟩
    · skip
      obtain ⟨v11, M12, fv11, h⟩ := bcall_e h
      have hFM12 : Fr [118, 119] [(111, 0), (111, 1), (111, 6)] M M12 := hFM9.trans ((w_Mo_refuse fv11).mono (by simp) (by simp))
      cases h; exact hFM12
    · skip
      obtain ⟨v13, ev13, h⟩ := blet_e h
      rcases ite_e h with ⟨c14, h⟩ | ⟨c14, h⟩
      · skip
        obtain ⟨v15, M16, fv15, h⟩ := bcall_e h
        have hFM16 : Fr [118, 119] [(111, 0), (111, 1), (111, 6)] M M16 := hFM9.trans ((w_Mo_refuse fv15).mono (by simp) (by simp))
        cases h; exact hFM16
      · skip
        obtain ⟨v17, ev17, h⟩ := blet_e h
        obtain ⟨c18, h⟩ := chk_e h
        obtain ⟨M19, eM19, h⟩ := blet_e h
        have hFM19 : Fr [118, 119] [(111, 0), (111, 1), (111, 6)] M M19 := by rw [eM19]; exact hFM9.stoA (by simp)
        obtain ⟨v20, ev20, h⟩ := blet_e h
        obtain ⟨c21, h⟩ := chk_e h
        obtain ⟨M22, eM22, h⟩ := blet_e h
        have hFM22 : Fr [118, 119] [(111, 0), (111, 1), (111, 6)] M M22 := by rw [eM22]; exact hFM19.stoA (by simp)
        obtain ⟨v23, ev23, h⟩ := blet_e h
        obtain ⟨M24, eM24, h⟩ := blet_e h
        have hFM24 : Fr [118, 119] [(111, 0), (111, 1), (111, 6)] M M24 := by rw [eM24]; exact hFM22.stoF (by simp)
        obtain ⟨v25, ev25, h⟩ := blet_e h
        cases h; exact hFM24
theorem w_Mo_isFarm {a1 : Int} {M : Mem} {r : Int × Mem} (h : d_Mo_isFarm a1 M = some r) : Fr [] [] M r.2 := by
  unfold d_Mo_isFarm at h
  have hFM : Fr [] [] M M := Fr.rfl'
  obtain ⟨v1, ev1, h⟩ := blet_e h
  obtain ⟨v2, M3, fv2, h⟩ := bcall_e h
  have hFM3 : Fr [] [] M M3 := hFM.trans ((w_Mo_isIn fv2).mono (by simp) (by simp))
  obtain ⟨c4, h⟩ := chk_e h
  cases h; exact hFM3
theorem w_Mo_isElevator {a1 : Int} {M : Mem} {r : Int × Mem} (h : d_Mo_isElevator a1 M = some r) : Fr [] [] M r.2 := by
  unfold d_Mo_isElevator at h
  have hFM : Fr [] [] M M := Fr.rfl'
  obtain ⟨v1, ev1, h⟩ := blet_e h
  obtain ⟨v2, M3, fv2, h⟩ := bcall_e h
  have hFM3 : Fr [] [] M M3 := hFM.trans ((w_Mo_isIn fv2).mono (by simp) (by simp))
  obtain ⟨c4, h⟩ := chk_e h
  cases h; exact hFM3
theorem w_Mo_isDay {a0 : Int} {M : Mem} {r : Int × Mem} (h : d_Mo_isDay a0 M = some r) : Fr [] [] M r.2 := by
  unfold d_Mo_isDay at h
  have hFM : Fr [] [] M M := Fr.rfl'
  obtain ⟨v1, M2, fv1, h⟩ := bcall_e h
  have hFM2 : Fr [] [] M M2 := hFM.trans ((w_Mo_isIn fv1).mono (by simp) (by simp))
  obtain ⟨c3, h⟩ := chk_e h
  cases h; exact hFM2
theorem w_Mo_event_63  {M : Mem} {r : Int × Mem} (h : k_Mo_event_63 M = some r) : Fr [120, 121, 122, 123, 124, 125, 126, 127, 128, 129] [(111, 0), (111, 7), (111, 9), (111, 10)] M r.2 := by
  unfold k_Mo_event_63 at h
  have hFM : Fr [120, 121, 122, 123, 124, 125, 126, 127, 128, 129] [(111, 0), (111, 7), (111, 9), (111, 10)] M M := Fr.rfl'
  obtain ⟨v1, M2, fv1, h⟩ := bcall_e h
  have hFM2 : Fr [120, 121, 122, 123, 124, 125, 126, 127, 128, 129] [(111, 0), (111, 7), (111, 9), (111, 10)] M M2 := hFM.trans ((w_Mo_refuse fv1).mono (by simp) (by simp))
  cases h; exact hFM2
theorem w_Mo_event_23  {M : Mem} {r : Int × Mem} (h : k_Mo_event_23 M = some r) : Fr [120, 121, 122, 123, 124, 125, 126, 127, 128, 129] [(111, 0), (111, 7), (111, 9), (111, 10)] M r.2 := by
  unfold k_Mo_event_23 at h
  have hFM : Fr [120, 121, 122, 123, 124, 125, 126, 127, 128, 129] [(111, 0), (111, 7), (111, 9), (111, 10)] M M := Fr.rfl'
  obtain ⟨v1, M2, fv1, h⟩ := bcall_e h
  have hFM2 : Fr [120, 121, 122, 123, 124, 125, 126, 127, 128, 129] [(111, 0), (111, 7), (111, 9), (111, 10)] M M2 := hFM.trans ((w_Mo_refuse fv1).mono (by simp) (by simp))
  cases h; exact hFM2
theorem w_Mo_event {a1 a2 a3 a4 a5 a6 a7 a8 a9 a10 : Int} {M : Mem} {r : Int × Mem} (h : d_Mo_event a1 a2 a3 a4 a5 a6 a7 a8 a9 a10 M = some r) : Fr [120, 121, 122, 123, 124, 125, 126, 127, 128, 129] [(111, 0), (111, 7), (111, 9), (111, 10)] M r.2 := by
  unfold d_Mo_event at h
  have hFM : Fr [120, 121, 122, 123, 124, 125, 126, 127, 128, 129] [(111, 0), (111, 7), (111, 9), (111, 10)] M M := Fr.rfl'
  obtain ⟨v1, M2, fv1, h⟩ := bcall_e h
  have hFM2 : Fr [120, 121, 122, 123, 124, 125, 126, 127, 128, 129] [(111, 0), (111, 7), (111, 9), (111, 10)] M M2 := hFM.trans ((w_Mo_isDay fv1).mono (by simp) (by simp))
  rcases ite_e h with ⟨c3, h⟩ | ⟨c3, h⟩
  · skip
    exact hFM2.trans (w_Mo_event_23 h)
  · skip
    obtain ⟨v4, M5, fv4, h⟩ := bcall_e h
    have hFM5 : Fr [120, 121, 122, 123, 124, 125, 126, 127, 128, 129] [(111, 0), (111, 7), (111, 9), (111, 10)] M M5 := hFM2.trans ((w_Mo_isIn fv4).mono (by simp) (by simp))
    rcases ite_e h with ⟨c6, h⟩ | ⟨c6, h⟩
    · skip
      exact hFM5.trans (w_Mo_event_23 h)
    · skip
      obtain ⟨v7, ev7, h⟩ := blet_e h
      rcases ite_e h with ⟨c8, h⟩ | ⟨c8, h⟩
      · skip
        obtain ⟨v9, M10, fv9, h⟩ := bcall_e h
        have hFM10 : Fr [120, 121, 122, 123, 124, 125, 126, 127, 128, 129] [(111, 0), (111, 7), (111, 9), (111, 10)] M M10 := hFM5.trans ((w_Mo_refuse fv9).mono (by simp) (by simp))
        cases h; exact hFM10
      · skip
        obtain ⟨v11, ev11, h⟩ := blet_e h
        rcases ite_e h with ⟨c12, h⟩ | ⟨c12, h⟩
        · skip
          exact hFM5.trans (w_Mo_event_63 h)
        · skip
          obtain ⟨v13, ev13, h⟩ := blet_e h
          rcases ite_e h with ⟨c14, h⟩ | ⟨c14, h⟩
          · skip
            exact hFM5.trans (w_Mo_event_63 h)
          · skip
            obtain ⟨v15, ev15, h⟩ := blet_e h
            obtain ⟨c16, h⟩ := chk_e h
            obtain ⟨M17, eM17, h⟩ := blet_e h
            have hFM17 : Fr [120, 121, 122, 123, 124, 125, 126, 127, 128, 129] [(111, 0), (111, 7), (111, 9), (111, 10)] M M17 := by rw [eM17]; exact hFM5.stoA (by simp)
            obtain ⟨v18, ev18, h⟩ := blet_e h
            obtain ⟨c19, h⟩ := chk_e h
            obtain ⟨M20, eM20, h⟩ := blet_e h
            have hFM20 : Fr [120, 121, 122, 123, 124, 125, 126, 127, 128, 129] [(111, 0), (111, 7), (111, 9), (111, 10)] M M20 := by rw [eM20]; exact hFM17.stoA (by simp)
            obtain ⟨v21, ev21, h⟩ := blet_e h
            obtain ⟨c22, h⟩ := chk_e h
            obtain ⟨M23, eM23, h⟩ := blet_e h
            have hFM23 : Fr [120, 121, 122, 123, 124, 125, 126, 127, 128, 129] [(111, 0), (111, 7), (111, 9), (111, 10)] M M23 := by rw [eM23]; exact hFM20.stoA (by simp)
            obtain ⟨v24, ev24, h⟩ := blet_e h
            obtain ⟨c25, h⟩ := chk_e h
            obtain ⟨M26, eM26, h⟩ := blet_e h
            have hFM26 : Fr [120, 121, 122, 123, 124, 125, 126, 127, 128, 129] [(111, 0), (111, 7), (111, 9), (111, 10)] M M26 := by rw [eM26]; exact hFM23.stoA (by simp)
            obtain ⟨v27, ev27, h⟩ := blet_e h
            obtain ⟨c28, h⟩ := chk_e h
            obtain ⟨M29, eM29, h⟩ := blet_e h
            have hFM29 : Fr [120, 121, 122, 123, 124, 125, 126, 127, 128, 129] [(111, 0), (111, 7), (111, 9), (111, 10)] M M29 := by rw [eM29]; exact hFM26.stoA (by simp)
            obtain ⟨v30, ev30, h⟩ := blet_e h
            obtain ⟨c31, h⟩ := chk_e h
            obtain ⟨M32, eM32, h⟩ := blet_e h
            have hFM32 : Fr [120, 121, 122, 123, 124, 125, 126, 127, 128, 129] [(111, 0), (111, 7), (111, 9), (111, 10)] M M32 := by rw [eM32]; exact hFM29.stoA (by simp)
            obtain ⟨v33, ev33, h⟩ := blet_e h
            obtain ⟨c34, h⟩ := chk_e h
            obtain ⟨M35, eM35, h⟩ := blet_e h
            have hFM35 : Fr [120, 121, 122, 123, 124, 125, 126, 127, 128, 129] [(111, 0), (111, 7), (111, 9), (111, 10)] M M35 := by rw [eM35]; exact hFM32.stoA (by simp)
            obtain ⟨v36, ev36, h⟩ := blet_e h
            obtain ⟨c37, h⟩ := chk_e h
            obtain ⟨M38, eM38, h⟩ := blet_e h
            have hFM38 : Fr [120, 121, 122, 123, 124, 125, 126, 127, 128, 129] [(111, 0), (111, 7), (111, 9), (111, 10)] M M38 := by rw [eM38]; exact hFM35.stoA (by simp)
            obtain ⟨v39, ev39, h⟩ := blet_e h
            obtain ⟨c40, h⟩ := chk_e h
            obtain ⟨M41, eM41, h⟩ := blet_e h
            have hFM41 : Fr [120, 121, 122, 123, 124, 125, 126, 127, 128, 129] [(111, 0), (111, 7), (111, 9), (111, 10)] M M41 := by rw [eM41]; exact hFM38.stoA (by simp)
            obtain ⟨v42, ev42, h⟩ := blet_e h
            obtain ⟨c43, h⟩ := chk_e h
            obtain ⟨M44, eM44, h⟩ := blet_e h
            have hFM44 : Fr [120, 121, 122, 123, 124, 125, 126, 127, 128, 129] [(111, 0), (111, 7), (111, 9), (111, 10)] M M44 := by rw [eM44]; exact hFM41.stoA (by simp)
            obtain ⟨v45, ev45, h⟩ := blet_e h
            obtain ⟨M46, eM46, h⟩ := blet_e h
            have hFM46 : Fr [120, 121, 122, 123, 124, 125, 126, 127, 128, 129] [(111, 0), (111, 7), (111, 9), (111, 10)] M M46 := by rw [eM46]; exact hFM44.stoF (by simp)
            obtain ⟨M47, eM47, h⟩ := blet_e h
            have hFM47 : Fr [120, 121, 122, 123, 124, 125, 126, 127, 128, 129] [(111, 0), (111, 7), (111, 9), (111, 10)] M M47 := by rw [eM47]; exact hFM46.stoF (by simp)
            obtain ⟨M48, eM48, h⟩ := blet_e h
            have hFM48 : Fr [120, 121, 122, 123, 124, 125, 126, 127, 128, 129] [(111, 0), (111, 7), (111, 9), (111, 10)] M M48 := by rw [eM48]; exact hFM47.stoF (by simp)
            obtain ⟨v49, ev49, h⟩ := blet_e h
            cases h; exact hFM48
theorem w_Mo_load_57  {M : Mem} {r : Int × Mem} (h : k_Mo_load_57 M = some r) : Fr [120, 121, 122, 123, 124, 125, 126, 127, 128, 129] [(111, 0), (111, 1), (111, 7), (111, 9), (111, 10)] M r.2 := by
  unfold k_Mo_load_57 at h
  have hFM : Fr [120, 121, 122, 123, 124, 125, 126, 127, 128, 129] [(111, 0), (111, 1), (111, 7), (111, 9), (111, 10)] M M := Fr.rfl'
  obtain ⟨v1, M2, fv1, h⟩ := bcall_e h
  have hFM2 : Fr [120, 121, 122, 123, 124, 125, 126, 127, 128, 129] [(111, 0), (111, 1), (111, 7), (111, 9), (111, 10)] M M2 := hFM.trans ((w_Mo_refuse fv1).mono (by simp) (by simp))
  cases h; exact hFM2
theorem w_Mo_load_26  {M : Mem} {r : Int × Mem} (h : k_Mo_load_26 M = some r) : Fr [120, 121, 122, 123, 124, 125, 126, 127, 128, 129] [(111, 0), (111, 1), (111, 7), (111, 9), (111, 10)] M r.2 := by
  unfold k_Mo_load_26 at h
  have hFM : Fr [120, 121, 122, 123, 124, 125, 126, 127, 128, 129] [(111, 0), (111, 1), (111, 7), (111, 9), (111, 10)] M M := Fr.rfl'
  obtain ⟨v1, M2, fv1, h⟩ := bcall_e h
  have hFM2 : Fr [120, 121, 122, 123, 124, 125, 126, 127, 128, 129] [(111, 0), (111, 1), (111, 7), (111, 9), (111, 10)] M M2 := hFM.trans ((w_Mo_refuse fv1).mono (by simp) (by simp))
  cases h; exact hFM2
theorem w_Mo_load {a1 a2 a3 a4 a5 a6 : Int} {M : Mem} {r : Int × Mem} (h : d_Mo_load a1 a2 a3 a4 a5 a6 M = some r) : Fr [120, 121, 122, 123, 124, 125, 126, 127, 128, 129] [(111, 0), (111, 1), (111, 7), (111, 9), (111, 10)] M r.2 := by
  unfold d_Mo_load at h
  have hFM : Fr [120, 121, 122, 123, 124, 125, 126, 127, 128, 129] [(111, 0), (111, 1), (111, 7), (111, 9), (111, 10)] M M := Fr.rfl'
  obtain ⟨M1, eM1, h⟩ := blet_e h
  have hFM1 : Fr [120, 121, 122, 123, 124, 125, 126, 127, 128, 129] [(111, 0), (111, 1), (111, 7), (111, 9), (111, 10)] M M1 := by rw [eM1]; exact hFM.stoF (by simp)
  obtain ⟨M2, eM2, h⟩ := blet_e h
  have hFM2 : Fr [120, 121, 122, 123, 124, 125, 126, 127, 128, 129] [(111, 0), (111, 1), (111, 7), (111, 9), (111, 10)] M M2 := by rw [eM2]; exact hFM1.stoF (by simp)
  obtain ⟨v3, M4, fv3, h⟩ := bcall_e h
  have hFM4 : Fr [120, 121, 122, 123, 124, 125, 126, 127, 128, 129] [(111, 0), (111, 1), (111, 7), (111, 9), (111, 10)] M M4 := hFM2.trans ((w_Mo_isFarm fv3).mono (by simp) (by simp))
  rcases ite_e h with ⟨c5, h⟩ | ⟨c5, h⟩
  · skip
    exact hFM4.trans (w_Mo_load_26 h)
  · skip
    obtain ⟨v6, M7, fv6, h⟩ := bcall_e h
    have hFM7 : Fr [120, 121, 122, 123, 124, 125, 126, 127, 128, 129] [(111, 0), (111, 1), (111, 7), (111, 9), (111, 10)] M M7 := hFM4.trans ((w_Mo_isElevator fv6).mono (by simp) (by simp))
    rcases ite_e h with ⟨c8, h⟩ | ⟨c8, h⟩
    · skip
      exact hFM7.trans (w_Mo_load_26 h)
    · skip
      obtain ⟨v9, M10, fv9, h⟩ := bcall_e h
      have hFM10 : Fr [120, 121, 122, 123, 124, 125, 126, 127, 128, 129] [(111, 0), (111, 1), (111, 7), (111, 9), (111, 10)] M M10 := hFM7.trans ((w_Mo_isIn fv9).mono (by simp) (by simp))
      rcases ite_e h with ⟨c11, h⟩ | ⟨c11, h⟩
      · skip
        exact hFM10.trans (w_Mo_load_57 h)
      · skip
        obtain ⟨v12, M13, fv12, h⟩ := bcall_e h
        have hFM13 : Fr [120, 121, 122, 123, 124, 125, 126, 127, 128, 129] [(111, 0), (111, 1), (111, 7), (111, 9), (111, 10)] M M13 := hFM10.trans ((w_Mo_isIn fv12).mono (by simp) (by simp))
        rcases ite_e h with ⟨c14, h⟩ | ⟨c14, h⟩
        · skip
          exact hFM13.trans (w_Mo_load_57 h)
        · skip
          obtain ⟨v15, M16, fv15, h⟩ := bcall_e h
          have hFM16 : Fr [120, 121, 122, 123, 124, 125, 126, 127, 128, 129] [(111, 0), (111, 1), (111, 7), (111, 9), (111, 10)] M M16 := hFM13.trans ((w_Mo_event fv15).mono (by simp) (by simp))
          cases h; exact hFM16
theorem w_Mo_isGrade {a0 : Int} {M : Mem} {r : Int × Mem} (h : d_Mo_isGrade a0 M = some r) : Fr [] [] M r.2 := by
  unfold d_Mo_isGrade at h
  have hFM : Fr [] [] M M := Fr.rfl'
  obtain ⟨v1, M2, fv1, h⟩ := bcall_e h
  have hFM2 : Fr [] [] M M2 := hFM.trans ((w_Mo_isIn fv1).mono (by simp) (by simp))
  obtain ⟨c3, h⟩ := chk_e h
  cases h; exact hFM2
theorem w_Mo_isYear {a0 : Int} {M : Mem} {r : Int × Mem} (h : d_Mo_isYear a0 M = some r) : Fr [] [] M r.2 := by
  unfold d_Mo_isYear at h
  have hFM : Fr [] [] M M := Fr.rfl'
  obtain ⟨v1, M2, fv1, h⟩ := bcall_e h
  have hFM2 : Fr [] [] M M2 := hFM.trans ((w_Mo_isIn fv1).mono (by simp) (by simp))
  obtain ⟨c3, h⟩ := chk_e h
  cases h; exact hFM2
theorem w_Mo_car_62  {M : Mem} {r : Int × Mem} (h : k_Mo_car_62 M = some r) : Fr [120, 121, 122, 123, 124, 125, 126, 127, 128, 129] [(111, 0), (111, 1), (111, 7), (111, 9), (111, 10)] M r.2 := by
  unfold k_Mo_car_62 at h
  have hFM : Fr [120, 121, 122, 123, 124, 125, 126, 127, 128, 129] [(111, 0), (111, 1), (111, 7), (111, 9), (111, 10)] M M := Fr.rfl'
  obtain ⟨v1, M2, fv1, h⟩ := bcall_e h
  have hFM2 : Fr [120, 121, 122, 123, 124, 125, 126, 127, 128, 129] [(111, 0), (111, 1), (111, 7), (111, 9), (111, 10)] M M2 := hFM.trans ((w_Mo_refuse fv1).mono (by simp) (by simp))
  cases h; exact hFM2
theorem w_Mo_car_35  {M : Mem} {r : Int × Mem} (h : k_Mo_car_35 M = some r) : Fr [120, 121, 122, 123, 124, 125, 126, 127, 128, 129] [(111, 0), (111, 1), (111, 7), (111, 9), (111, 10)] M r.2 := by
  unfold k_Mo_car_35 at h
  have hFM : Fr [120, 121, 122, 123, 124, 125, 126, 127, 128, 129] [(111, 0), (111, 1), (111, 7), (111, 9), (111, 10)] M M := Fr.rfl'
  obtain ⟨v1, M2, fv1, h⟩ := bcall_e h
  have hFM2 : Fr [120, 121, 122, 123, 124, 125, 126, 127, 128, 129] [(111, 0), (111, 1), (111, 7), (111, 9), (111, 10)] M M2 := hFM.trans ((w_Mo_refuse fv1).mono (by simp) (by simp))
  cases h; exact hFM2
theorem w_Mo_car {a1 a2 a3 a4 a5 a6 a7 : Int} {M : Mem} {r : Int × Mem} (h : d_Mo_car a1 a2 a3 a4 a5 a6 a7 M = some r) : Fr [120, 121, 122, 123, 124, 125, 126, 127, 128, 129] [(111, 0), (111, 1), (111, 7), (111, 9), (111, 10)] M r.2 := by
  unfold d_Mo_car at h
  have hFM : Fr [120, 121, 122, 123, 124, 125, 126, 127, 128, 129] [(111, 0), (111, 1), (111, 7), (111, 9), (111, 10)] M M := Fr.rfl'
  obtain ⟨M1, eM1, h⟩ := blet_e h
  have hFM1 : Fr [120, 121, 122, 123, 124, 125, 126, 127, 128, 129] [(111, 0), (111, 1), (111, 7), (111, 9), (111, 10)] M M1 := by rw [eM1]; exact hFM.stoF (by simp)
  obtain ⟨M2, eM2, h⟩ := blet_e h
  have hFM2 : Fr [120, 121, 122, 123, 124, 125, 126, 127, 128, 129] [(111, 0), (111, 1), (111, 7), (111, 9), (111, 10)] M M2 := by rw [eM2]; exact hFM1.stoF (by simp)
  obtain ⟨v3, M4, fv3, h⟩ := bcall_e h
  have hFM4 : Fr [120, 121, 122, 123, 124, 125, 126, 127, 128, 129] [(111, 0), (111, 1), (111, 7), (111, 9), (111, 10)] M M4 := hFM2.trans ((w_Mo_isElevator fv3).mono (by simp) (by simp))
  rcases ite_e h with ⟨c5, h⟩ | ⟨c5, h⟩
  · skip
    exact hFM4.trans (w_Mo_car_35 h)
  · skip
    obtain ⟨v6, M7, fv6, h⟩ := bcall_e h
    have hFM7 : Fr [120, 121, 122, 123, 124, 125, 126, 127, 128, 129] [(111, 0), (111, 1), (111, 7), (111, 9), (111, 10)] M M7 := hFM4.trans ((w_Mo_isIn fv6).mono (by simp) (by simp))
    rcases ite_e h with ⟨c8, h⟩ | ⟨c8, h⟩
    · skip
      exact hFM7.trans (w_Mo_car_35 h)
    · skip
      obtain ⟨v9, M10, fv9, h⟩ := bcall_e h
      have hFM10 : Fr [120, 121, 122, 123, 124, 125, 126, 127, 128, 129] [(111, 0), (111, 1), (111, 7), (111, 9), (111, 10)] M M10 := hFM7.trans ((w_Mo_isGrade fv9).mono (by simp) (by simp))
      rcases ite_e h with ⟨c11, h⟩ | ⟨c11, h⟩
      · skip
        exact hFM10.trans (w_Mo_car_35 h)
      · skip
        obtain ⟨v12, M13, fv12, h⟩ := bcall_e h
        have hFM13 : Fr [120, 121, 122, 123, 124, 125, 126, 127, 128, 129] [(111, 0), (111, 1), (111, 7), (111, 9), (111, 10)] M M13 := hFM10.trans ((w_Mo_isYear fv12).mono (by simp) (by simp))
        rcases ite_e h with ⟨c14, h⟩ | ⟨c14, h⟩
        · skip
          exact hFM13.trans (w_Mo_car_62 h)
        · skip
          obtain ⟨v15, M16, fv15, h⟩ := bcall_e h
          have hFM16 : Fr [120, 121, 122, 123, 124, 125, 126, 127, 128, 129] [(111, 0), (111, 1), (111, 7), (111, 9), (111, 10)] M M16 := hFM13.trans ((w_Mo_isIn fv15).mono (by simp) (by simp))
          rcases ite_e h with ⟨c17, h⟩ | ⟨c17, h⟩
          · skip
            exact hFM16.trans (w_Mo_car_62 h)
          · skip
            obtain ⟨v18, M19, fv18, h⟩ := bcall_e h
            have hFM19 : Fr [120, 121, 122, 123, 124, 125, 126, 127, 128, 129] [(111, 0), (111, 1), (111, 7), (111, 9), (111, 10)] M M19 := hFM16.trans ((w_Mo_event fv18).mono (by simp) (by simp))
            cases h; exact hFM19
theorem w_Mo_sale_66  {M : Mem} {r : Int × Mem} (h : k_Mo_sale_66 M = some r) : Fr [120, 121, 122, 123, 124, 125, 126, 127, 128, 129] [(111, 0), (111, 1), (111, 7), (111, 9), (111, 10)] M r.2 := by
  unfold k_Mo_sale_66 at h
  have hFM : Fr [120, 121, 122, 123, 124, 125, 126, 127, 128, 129] [(111, 0), (111, 1), (111, 7), (111, 9), (111, 10)] M M := Fr.rfl'
  obtain ⟨v1, M2, fv1, h⟩ := bcall_e h
  have hFM2 : Fr [120, 121, 122, 123, 124, 125, 126, 127, 128, 129] [(111, 0), (111, 1), (111, 7), (111, 9), (111, 10)] M M2 := hFM.trans ((w_Mo_refuse fv1).mono (by simp) (by simp))
  cases h; exact hFM2
theorem w_Mo_sale_27  {M : Mem} {r : Int × Mem} (h : k_Mo_sale_27 M = some r) : Fr [120, 121, 122, 123, 124, 125, 126, 127, 128, 129] [(111, 0), (111, 1), (111, 7), (111, 9), (111, 10)] M r.2 := by
  unfold k_Mo_sale_27 at h
  have hFM : Fr [120, 121, 122, 123, 124, 125, 126, 127, 128, 129] [(111, 0), (111, 1), (111, 7), (111, 9), (111, 10)] M M := Fr.rfl'
  obtain ⟨v1, M2, fv1, h⟩ := bcall_e h
  have hFM2 : Fr [120, 121, 122, 123, 124, 125, 126, 127, 128, 129] [(111, 0), (111, 1), (111, 7), (111, 9), (111, 10)] M M2 := hFM.trans ((w_Mo_refuse fv1).mono (by simp) (by simp))
  cases h; exact hFM2
theorem w_Mo_sale {a1 a2 a3 a4 a5 a6 a7 : Int} {M : Mem} {r : Int × Mem} (h : d_Mo_sale a1 a2 a3 a4 a5 a6 a7 M = some r) : Fr [120, 121, 122, 123, 124, 125, 126, 127, 128, 129] [(111, 0), (111, 1), (111, 7), (111, 9), (111, 10)] M r.2 := by
  unfold d_Mo_sale at h
  have hFM : Fr [120, 121, 122, 123, 124, 125, 126, 127, 128, 129] [(111, 0), (111, 1), (111, 7), (111, 9), (111, 10)] M M := Fr.rfl'
  obtain ⟨M1, eM1, h⟩ := blet_e h
  have hFM1 : Fr [120, 121, 122, 123, 124, 125, 126, 127, 128, 129] [(111, 0), (111, 1), (111, 7), (111, 9), (111, 10)] M M1 := by rw [eM1]; exact hFM.stoF (by simp)
  obtain ⟨M2, eM2, h⟩ := blet_e h
  have hFM2 : Fr [120, 121, 122, 123, 124, 125, 126, 127, 128, 129] [(111, 0), (111, 1), (111, 7), (111, 9), (111, 10)] M M2 := by rw [eM2]; exact hFM1.stoF (by simp)
  obtain ⟨v3, M4, fv3, h⟩ := bcall_e h
  have hFM4 : Fr [120, 121, 122, 123, 124, 125, 126, 127, 128, 129] [(111, 0), (111, 1), (111, 7), (111, 9), (111, 10)] M M4 := hFM2.trans ((w_Mo_isIn fv3).mono (by simp) (by simp))
  rcases ite_e h with ⟨c5, h⟩ | ⟨c5, h⟩
  · skip
    exact hFM4.trans (w_Mo_sale_27 h)
  · skip
    obtain ⟨v6, M7, fv6, h⟩ := bcall_e h
    have hFM7 : Fr [120, 121, 122, 123, 124, 125, 126, 127, 128, 129] [(111, 0), (111, 1), (111, 7), (111, 9), (111, 10)] M M7 := hFM4.trans ((w_Mo_isGrade fv6).mono (by simp) (by simp))
    rcases ite_e h with ⟨c8, h⟩ | ⟨c8, h⟩
    · skip
      exact hFM7.trans (w_Mo_sale_27 h)
    · skip
      obtain ⟨v9, M10, fv9, h⟩ := bcall_e h
      have hFM10 : Fr [120, 121, 122, 123, 124, 125, 126, 127, 128, 129] [(111, 0), (111, 1), (111, 7), (111, 9), (111, 10)] M M10 := hFM7.trans ((w_Mo_isYear fv9).mono (by simp) (by simp))
      rcases ite_e h with ⟨c11, h⟩ | ⟨c11, h⟩
      · skip
        exact hFM10.trans (w_Mo_sale_66 h)
      · skip
        obtain ⟨v12, M13, fv12, h⟩ := bcall_e h
        have hFM13 : Fr [120, 121, 122, 123, 124, 125, 126, 127, 128, 129] [(111, 0), (111, 1), (111, 7), (111, 9), (111, 10)] M M13 := hFM10.trans ((w_Mo_isIn fv12).mono (by simp) (by simp))
        rcases ite_e h with ⟨c14, h⟩ | ⟨c14, h⟩
        · skip
          exact hFM13.trans (w_Mo_sale_66 h)
        · skip
          obtain ⟨v15, M16, fv15, h⟩ := bcall_e h
          have hFM16 : Fr [120, 121, 122, 123, 124, 125, 126, 127, 128, 129] [(111, 0), (111, 1), (111, 7), (111, 9), (111, 10)] M M16 := hFM13.trans ((w_Mo_isIn fv15).mono (by simp) (by simp))
          rcases ite_e h with ⟨c17, h⟩ | ⟨c17, h⟩
          · skip
            exact hFM16.trans (w_Mo_sale_66 h)
          · skip
            obtain ⟨v18, M19, fv18, h⟩ := bcall_e h
            have hFM19 : Fr [120, 121, 122, 123, 124, 125, 126, 127, 128, 129] [(111, 0), (111, 1), (111, 7), (111, 9), (111, 10)] M M19 := hFM16.trans ((w_Mo_event fv18).mono (by simp) (by simp))
            cases h; exact hFM19
theorem w_Mo_spoil_51  {M : Mem} {r : Int × Mem} (h : k_Mo_spoil_51 M = some r) : Fr [120, 121, 122, 123, 124, 125, 126, 127, 128, 129] [(111, 0), (111, 1), (111, 7), (111, 9), (111, 10)] M r.2 := by
  unfold k_Mo_spoil_51 at h
  have hFM : Fr [120, 121, 122, 123, 124, 125, 126, 127, 128, 129] [(111, 0), (111, 1), (111, 7), (111, 9), (111, 10)] M M := Fr.rfl'
  obtain ⟨v1, M2, fv1, h⟩ := bcall_e h
  have hFM2 : Fr [120, 121, 122, 123, 124, 125, 126, 127, 128, 129] [(111, 0), (111, 1), (111, 7), (111, 9), (111, 10)] M M2 := hFM.trans ((w_Mo_refuse fv1).mono (by simp) (by simp))
  cases h; exact hFM2
theorem w_Mo_spoil_25  {M : Mem} {r : Int × Mem} (h : k_Mo_spoil_25 M = some r) : Fr [120, 121, 122, 123, 124, 125, 126, 127, 128, 129] [(111, 0), (111, 1), (111, 7), (111, 9), (111, 10)] M r.2 := by
  unfold k_Mo_spoil_25 at h
  have hFM : Fr [120, 121, 122, 123, 124, 125, 126, 127, 128, 129] [(111, 0), (111, 1), (111, 7), (111, 9), (111, 10)] M M := Fr.rfl'
  obtain ⟨v1, M2, fv1, h⟩ := bcall_e h
  have hFM2 : Fr [120, 121, 122, 123, 124, 125, 126, 127, 128, 129] [(111, 0), (111, 1), (111, 7), (111, 9), (111, 10)] M M2 := hFM.trans ((w_Mo_refuse fv1).mono (by simp) (by simp))
  cases h; exact hFM2
theorem w_Mo_spoil {a1 a2 a3 a4 a5 a6 : Int} {M : Mem} {r : Int × Mem} (h : d_Mo_spoil a1 a2 a3 a4 a5 a6 M = some r) : Fr [120, 121, 122, 123, 124, 125, 126, 127, 128, 129] [(111, 0), (111, 1), (111, 7), (111, 9), (111, 10)] M r.2 := by
  unfold d_Mo_spoil at h
  have hFM : Fr [120, 121, 122, 123, 124, 125, 126, 127, 128, 129] [(111, 0), (111, 1), (111, 7), (111, 9), (111, 10)] M M := Fr.rfl'
  obtain ⟨M1, eM1, h⟩ := blet_e h
  have hFM1 : Fr [120, 121, 122, 123, 124, 125, 126, 127, 128, 129] [(111, 0), (111, 1), (111, 7), (111, 9), (111, 10)] M M1 := by rw [eM1]; exact hFM.stoF (by simp)
  obtain ⟨M2, eM2, h⟩ := blet_e h
  have hFM2 : Fr [120, 121, 122, 123, 124, 125, 126, 127, 128, 129] [(111, 0), (111, 1), (111, 7), (111, 9), (111, 10)] M M2 := by rw [eM2]; exact hFM1.stoF (by simp)
  obtain ⟨v3, M4, fv3, h⟩ := bcall_e h
  have hFM4 : Fr [120, 121, 122, 123, 124, 125, 126, 127, 128, 129] [(111, 0), (111, 1), (111, 7), (111, 9), (111, 10)] M M4 := hFM2.trans ((w_Mo_isElevator fv3).mono (by simp) (by simp))
  rcases ite_e h with ⟨c5, h⟩ | ⟨c5, h⟩
  · skip
    exact hFM4.trans (w_Mo_spoil_25 h)
  · skip
    obtain ⟨v6, M7, fv6, h⟩ := bcall_e h
    have hFM7 : Fr [120, 121, 122, 123, 124, 125, 126, 127, 128, 129] [(111, 0), (111, 1), (111, 7), (111, 9), (111, 10)] M M7 := hFM4.trans ((w_Mo_isGrade fv6).mono (by simp) (by simp))
    rcases ite_e h with ⟨c8, h⟩ | ⟨c8, h⟩
    · skip
      exact hFM7.trans (w_Mo_spoil_25 h)
    · skip
      obtain ⟨v9, M10, fv9, h⟩ := bcall_e h
      have hFM10 : Fr [120, 121, 122, 123, 124, 125, 126, 127, 128, 129] [(111, 0), (111, 1), (111, 7), (111, 9), (111, 10)] M M10 := hFM7.trans ((w_Mo_isYear fv9).mono (by simp) (by simp))
      rcases ite_e h with ⟨c11, h⟩ | ⟨c11, h⟩
      · skip
        exact hFM10.trans (w_Mo_spoil_51 h)
      · skip
        obtain ⟨v12, M13, fv12, h⟩ := bcall_e h
        have hFM13 : Fr [120, 121, 122, 123, 124, 125, 126, 127, 128, 129] [(111, 0), (111, 1), (111, 7), (111, 9), (111, 10)] M M13 := hFM10.trans ((w_Mo_isIn fv12).mono (by simp) (by simp))
        rcases ite_e h with ⟨c14, h⟩ | ⟨c14, h⟩
        · skip
          exact hFM13.trans (w_Mo_spoil_51 h)
        · skip
          obtain ⟨v15, M16, fv15, h⟩ := bcall_e h
          have hFM16 : Fr [120, 121, 122, 123, 124, 125, 126, 127, 128, 129] [(111, 0), (111, 1), (111, 7), (111, 9), (111, 10)] M M16 := hFM13.trans ((w_Mo_event fv15).mono (by simp) (by simp))
          cases h; exact hFM16
theorem w_Mo_isLoad {a1 : Int} {M : Mem} {r : Int × Mem} (h : d_Mo_isLoad a1 M = some r) : Fr [] [] M r.2 := by
  unfold d_Mo_isLoad at h
  have hFM : Fr [] [] M M := Fr.rfl'
  obtain ⟨v1, ev1, h⟩ := blet_e h
  obtain ⟨v2, M3, fv2, h⟩ := bcall_e h
  have hFM3 : Fr [] [] M M3 := hFM.trans ((w_Mo_isIn fv2).mono (by simp) (by simp))
  rcases ite_e h with ⟨c4, h⟩ | ⟨c4, h⟩
  · skip
    cases h; exact hFM3
  · skip
    obtain ⟨c5, h⟩ := chk_e h
    obtain ⟨v6, ev6, h⟩ := blet_e h
    rcases ite_e h with ⟨c7, h⟩ | ⟨c7, h⟩
    · skip
      cases h; exact hFM3
    · skip
      cases h; exact hFM3
theorem w_Mo_grading_37  {M : Mem} {r : Int × Mem} (h : k_Mo_grading_37 M = some r) : Fr [130, 131, 132, 133] [(111, 0), (111, 1), (111, 8), (111, 9)] M r.2 := by
  unfold k_Mo_grading_37 at h
  have hFM : Fr [130, 131, 132, 133] [(111, 0), (111, 1), (111, 8), (111, 9)] M M := Fr.rfl'
  obtain ⟨v1, M2, fv1, h⟩ := bcall_e h
  have hFM2 : Fr [130, 131, 132, 133] [(111, 0), (111, 1), (111, 8), (111, 9)] M M2 := hFM.trans ((w_Mo_no fv1).mono (by simp) (by simp))
  obtain ⟨c3, h⟩ := chk_e h
  cases h; exact hFM2
theorem w_Mo_grading {a1 a2 a3 a4 : Int} {M : Mem} {r : Int × Mem} (h : d_Mo_grading a1 a2 a3 a4 M = some r) : Fr [130, 131, 132, 133] [(111, 0), (111, 1), (111, 8), (111, 9)] M r.2 := by
  unfold d_Mo_grading at h
  have hFM : Fr [130, 131, 132, 133] [(111, 0), (111, 1), (111, 8), (111, 9)] M M := Fr.rfl'
  obtain ⟨M1, eM1, h⟩ := blet_e h
  have hFM1 : Fr [130, 131, 132, 133] [(111, 0), (111, 1), (111, 8), (111, 9)] M M1 := by rw [eM1]; exact hFM.stoF (by simp)
  obtain ⟨M2, eM2, h⟩ := blet_e h
  have hFM2 : Fr [130, 131, 132, 133] [(111, 0), (111, 1), (111, 8), (111, 9)] M M2 := by rw [eM2]; exact hFM1.stoF (by simp)
  obtain ⟨v3, M4, fv3, h⟩ := bcall_e h
  have hFM4 : Fr [130, 131, 132, 133] [(111, 0), (111, 1), (111, 8), (111, 9)] M M4 := hFM2.trans ((w_Mo_isLoad fv3).mono (by simp) (by simp))
  rcases ite_e h with ⟨c5, h⟩ | ⟨c5, h⟩
  · skip
    exact hFM4.trans (w_Mo_grading_37 h)
  · skip
    obtain ⟨v6, M7, fv6, h⟩ := bcall_e h
    have hFM7 : Fr [130, 131, 132, 133] [(111, 0), (111, 1), (111, 8), (111, 9)] M M7 := hFM4.trans ((w_Mo_isIn fv6).mono (by simp) (by simp))
    rcases ite_e h with ⟨c8, h⟩ | ⟨c8, h⟩
    · skip
      exact hFM7.trans (w_Mo_grading_37 h)
    · skip
      obtain ⟨v9, M10, fv9, h⟩ := bcall_e h
      have hFM10 : Fr [130, 131, 132, 133] [(111, 0), (111, 1), (111, 8), (111, 9)] M M10 := hFM7.trans ((w_Mo_isGrade fv9).mono (by simp) (by simp))
      rcases ite_e h with ⟨c11, h⟩ | ⟨c11, h⟩
      · skip
        exact hFM10.trans (w_Mo_grading_37 h)
      · skip
        obtain ⟨v12, M13, fv12, h⟩ := bcall_e h
        have hFM13 : Fr [130, 131, 132, 133] [(111, 0), (111, 1), (111, 8), (111, 9)] M M13 := hFM10.trans ((w_Mo_isDay fv12).mono (by simp) (by simp))
        rcases ite_e h with ⟨c14, h⟩ | ⟨c14, h⟩
        · skip
          obtain ⟨v15, M16, fv15, h⟩ := bcall_e h
          have hFM16 : Fr [130, 131, 132, 133] [(111, 0), (111, 1), (111, 8), (111, 9)] M M16 := hFM13.trans ((w_Mo_no fv15).mono (by simp) (by simp))
          obtain ⟨c17, h⟩ := chk_e h
          cases h; exact hFM16
        · skip
          obtain ⟨v18, ev18, h⟩ := blet_e h
          rcases ite_e h with ⟨c19, h⟩ | ⟨c19, h⟩
          · skip
            obtain ⟨v20, M21, fv20, h⟩ := bcall_e h
            have hFM21 : Fr [130, 131, 132, 133] [(111, 0), (111, 1), (111, 8), (111, 9)] M M21 := hFM13.trans ((w_Mo_no fv20).mono (by simp) (by simp))
            obtain ⟨c22, h⟩ := chk_e h
            cases h; exact hFM21
          · skip
            obtain ⟨v23, ev23, h⟩ := blet_e h
            rcases ite_e h with ⟨c24, h⟩ | ⟨c24, h⟩
            · skip
              obtain ⟨v25, M26, fv25, h⟩ := bcall_e h
              have hFM26 : Fr [130, 131, 132, 133] [(111, 0), (111, 1), (111, 8), (111, 9)] M M26 := hFM13.trans ((w_Mo_no fv25).mono (by simp) (by simp))
              obtain ⟨c27, h⟩ := chk_e h
              cases h; exact hFM26
            · skip
              obtain ⟨v28, ev28, h⟩ := blet_e h
              obtain ⟨c29, h⟩ := chk_e h
              obtain ⟨M30, eM30, h⟩ := blet_e h
              have hFM30 : Fr [130, 131, 132, 133] [(111, 0), (111, 1), (111, 8), (111, 9)] M M30 := by rw [eM30]; exact hFM13.stoA (by simp)
              obtain ⟨v31, ev31, h⟩ := blet_e h
              obtain ⟨c32, h⟩ := chk_e h
              obtain ⟨M33, eM33, h⟩ := blet_e h
              have hFM33 : Fr [130, 131, 132, 133] [(111, 0), (111, 1), (111, 8), (111, 9)] M M33 := by rw [eM33]; exact hFM30.stoA (by simp)
              obtain ⟨v34, ev34, h⟩ := blet_e h
              obtain ⟨c35, h⟩ := chk_e h
              obtain ⟨M36, eM36, h⟩ := blet_e h
              have hFM36 : Fr [130, 131, 132, 133] [(111, 0), (111, 1), (111, 8), (111, 9)] M M36 := by rw [eM36]; exact hFM33.stoA (by simp)
              obtain ⟨v37, ev37, h⟩ := blet_e h
              obtain ⟨c38, h⟩ := chk_e h
              obtain ⟨M39, eM39, h⟩ := blet_e h
              have hFM39 : Fr [130, 131, 132, 133] [(111, 0), (111, 1), (111, 8), (111, 9)] M M39 := by rw [eM39]; exact hFM36.stoA (by simp)
              obtain ⟨v40, ev40, h⟩ := blet_e h
              obtain ⟨M41, eM41, h⟩ := blet_e h
              have hFM41 : Fr [130, 131, 132, 133] [(111, 0), (111, 1), (111, 8), (111, 9)] M M41 := by rw [eM41]; exact hFM39.stoF (by simp)
              obtain ⟨M42, eM42, h⟩ := blet_e h
              have hFM42 : Fr [130, 131, 132, 133] [(111, 0), (111, 1), (111, 8), (111, 9)] M M42 := by rw [eM42]; exact hFM41.stoF (by simp)
              cases h; exact hFM42
theorem w_Mo_letNothing_2 {R2 : Int → Mem → Res} (hR2 : ∀ (a1 : Int) (M : Mem) (r : Int × Mem), R2 a1 M = some r → Fr [156] [] M r.2) {a1 : Int} {M : Mem} {r : Int × Mem} (h : k_Mo_letNothing_2 R2 a1 M = some r) : Fr [156] [] M r.2 := by
  unfold k_Mo_letNothing_2 at h
  have hFM : Fr [156] [] M M := Fr.rfl'
  rcases ite_e h with ⟨c1, h⟩ | ⟨c1, h⟩
  · skip
    obtain ⟨c2, h⟩ := chk_e h
    obtain ⟨M3, eM3, h⟩ := blet_e h
    have hFM3 : Fr [156] [] M M3 := by rw [eM3]; exact hFM.stoA (by simp)
    obtain ⟨v4, ev4, h⟩ := blet_e h
    exact hFM3.trans (hR2 v4 M3 r h)
  · skip
    cases h; exact hFM
theorem wl_Mo_letNothing_2  : ∀ (n : Nat) (a1 : Int) (M : Mem) (r : Int × Mem), fix (fun _ _ => none) (k_Mo_letNothing_2) n a1 M = some r → Fr [156] [] M r.2 := by
  intro n
  induction n with
  | zero => intro a1 M r h; exact nomatch (show (none : Res) = some r from h)
  | succ n ih => intro a1 M r h; exact w_Mo_letNothing_2 ih h
theorem w_Mo_letNothing {M : Mem} {r : Int × Mem} (h : d_Mo_letNothing M = some r) : Fr [156] [] M r.2 := by
  unfold d_Mo_letNothing at h
  have hFM : Fr [156] [] M M := Fr.rfl'
  exact hFM.trans (wl_Mo_letNothing_2 FU 0 M r h)
theorem w_Mo_net {a1 : Int} {M : Mem} {r : Int × Mem} (h : d_Mo_net a1 M = some r) : Fr [] [] M r.2 := by
  unfold d_Mo_net at h
  have hFM : Fr [] [] M M := Fr.rfl'
  obtain ⟨c1, h⟩ := chk_e h
  obtain ⟨v2, ev2, h⟩ := blet_e h
  obtain ⟨c3, h⟩ := chk_e h
  obtain ⟨v4, ev4, h⟩ := blet_e h
  obtain ⟨c5, h⟩ := chk_e h
  obtain ⟨v6, ev6, h⟩ := blet_e h
  cases h; exact hFM
theorem w_Mo_spelled_95  {a5 s0 : Int} {M : Mem} {r : Int × Mem} (h : k_Mo_spelled_95 a5 s0 M = some r) : Fr [] [] M r.2 := by
  unfold k_Mo_spelled_95 at h
  have hFM : Fr [] [] M M := Fr.rfl'
  rcases ite_e h with ⟨c1, h⟩ | ⟨c1, h⟩
  · skip
    cases h; exact hFM
  · skip
    cases h; exact hFM
theorem w_Mo_spelled_69  {a4 a5 s0 : Int} {M : Mem} {r : Int × Mem} (h : k_Mo_spelled_69 a4 a5 s0 M = some r) : Fr [] [] M r.2 := by
  unfold k_Mo_spelled_69 at h
  have hFM : Fr [] [] M M := Fr.rfl'
  rcases ite_e h with ⟨c1, h⟩ | ⟨c1, h⟩
  · skip
    exact hFM.trans (w_Mo_spelled_95 h)
  · skip
    exact hFM.trans (w_Mo_spelled_95 h)
theorem w_Mo_spelled_45  {a3 a4 a5 s0 : Int} {M : Mem} {r : Int × Mem} (h : k_Mo_spelled_45 a3 a4 a5 s0 M = some r) : Fr [] [] M r.2 := by
  unfold k_Mo_spelled_45 at h
  have hFM : Fr [] [] M M := Fr.rfl'
  rcases ite_e h with ⟨c1, h⟩ | ⟨c1, h⟩
  · skip
    exact hFM.trans (w_Mo_spelled_69 h)
  · skip
    exact hFM.trans (w_Mo_spelled_69 h)
theorem w_Mo_spelled {a0 a1 a2 a3 a4 a5 : Int} {M : Mem} {r : Int × Mem} (h : d_Mo_spelled a0 a1 a2 a3 a4 a5 M = some r) : Fr [] [] M r.2 := by
  unfold d_Mo_spelled at h
  have hFM : Fr [] [] M M := Fr.rfl'
  obtain ⟨v1, ev1, h⟩ := blet_e h
  obtain ⟨v2, ev2, h⟩ := blet_e h
  rcases ite_e h with ⟨c3, h⟩ | ⟨c3, h⟩
  · skip
    exact hFM.trans (w_Mo_spelled_45 h)
  · skip
    exact hFM.trans (w_Mo_spelled_45 h)
theorem w_Mo_force_43 {R4 : Int → Int → Int → Mem → Res} (hR4 : ∀ (a1 a2 a3 : Int) (M : Mem) (r : Int × Mem), R4 a1 a2 a3 M = some r → Fr [] [] M r.2) {a1 a2 a3 : Int} {M : Mem} {r : Int × Mem} (h : k_Mo_force_43 R4 a1 a2 a3 M = some r) : Fr [] [] M r.2 := by
  unfold k_Mo_force_43 at h
  have hFM : Fr [] [] M M := Fr.rfl'
  obtain ⟨v1, ev1, h⟩ := blet_e h
  exact hFM.trans (hR4 a1 a2 v1 M r h)
theorem w_Mo_force_41 {R4 : Int → Int → Int → Mem → Res} (hR4 : ∀ (a1 a2 a3 : Int) (M : Mem) (r : Int × Mem), R4 a1 a2 a3 M = some r → Fr [] [] M r.2) {a1 a3 : Int} {M : Mem} {r : Int × Mem} (h : k_Mo_force_41 R4 a1 a3 M = some r) : Fr [] [] M r.2 := by
  unfold k_Mo_force_41 at h
  have hFM : Fr [] [] M M := Fr.rfl'
  exact hFM.trans (w_Mo_force_43 hR4 h)
theorem w_Mo_force_4 {R4 : Int → Int → Int → Mem → Res} (hR4 : ∀ (a1 a2 a3 : Int) (M : Mem) (r : Int × Mem), R4 a1 a2 a3 M = some r → Fr [] [] M r.2) {a1 a2 a3 : Int} {M : Mem} {r : Int × Mem} (h : k_Mo_force_4 R4 a1 a2 a3 M = some r) : Fr [] [] M r.2 := by
  unfold k_Mo_force_4 at h
  have hFM : Fr [] [] M M := Fr.rfl'
  obtain ⟨v1, ev1, h⟩ := blet_e h
  rcases ite_e h with ⟨c2, h⟩ | ⟨c2, h⟩
  · skip
    obtain ⟨c3, h⟩ := chk_e h
    obtain ⟨v4, ev4, h⟩ := blet_e h
    rcases ite_e h with ⟨c5, h⟩ | ⟨c5, h⟩
    · skip
      exact hFM.trans (w_Mo_force_43 hR4 h)
    · skip
      rcases ite_e h with ⟨c6, h⟩ | ⟨c6, h⟩
      · skip
        exact hFM.trans (w_Mo_force_41 hR4 h)
      · skip
        obtain ⟨c7, h⟩ := chk_e h
        obtain ⟨v8, ev8, h⟩ := blet_e h
        obtain ⟨c9, h⟩ := chk_e h
        obtain ⟨v10, ev10, h⟩ := blet_e h
        rcases ite_e h with ⟨c11, h⟩ | ⟨c11, h⟩
        · skip
          exact hFM.trans (w_Mo_force_43 hR4 h)
        · skip
          exact hFM.trans (w_Mo_force_41 hR4 h)
  · skip
    cases h; exact hFM
theorem wl_Mo_force_4  : ∀ (n : Nat) (a1 a2 a3 : Int) (M : Mem) (r : Int × Mem), fix (fun _ _ _ _ => none) (k_Mo_force_4) n a1 a2 a3 M = some r → Fr [] [] M r.2 := by
  intro n
  induction n with
  | zero => intro a1 a2 a3 M r h; exact nomatch (show (none : Res) = some r from h)
  | succ n ih => intro a1 a2 a3 M r h; exact w_Mo_force_4 ih h
theorem w_Mo_force {a1 : Int} {M : Mem} {r : Int × Mem} (h : d_Mo_force a1 M = some r) : Fr [] [] M r.2 := by
  unfold d_Mo_force at h
  have hFM : Fr [] [] M M := Fr.rfl'
  exact hFM.trans (wl_Mo_force_4 FU a1 (-1) 0 M r h)
theorem w_Mo_push {a1 a3 : Int} {M : Mem} {r : Int × Mem} (h : d_Mo_push a1 a3 M = some r) : Fr [155, 158] [(111, 72)] M r.2 := by
  unfold d_Mo_push at h
  have hFM : Fr [155, 158] [(111, 72)] M M := Fr.rfl'
  obtain ⟨v1, ev1, h⟩ := blet_e h
  obtain ⟨c2, h⟩ := chk_e h
  obtain ⟨M3, eM3, h⟩ := blet_e h
  have hFM3 : Fr [155, 158] [(111, 72)] M M3 := by rw [eM3]; exact hFM.stoA (by simp)
  obtain ⟨v4, ev4, h⟩ := blet_e h
  obtain ⟨c5, h⟩ := chk_e h
  obtain ⟨M6, eM6, h⟩ := blet_e h
  have hFM6 : Fr [155, 158] [(111, 72)] M M6 := by rw [eM6]; exact hFM3.stoA (by simp)
  obtain ⟨v7, ev7, h⟩ := blet_e h
  obtain ⟨M8, eM8, h⟩ := blet_e h
  have hFM8 : Fr [155, 158] [(111, 72)] M M8 := by rw [eM8]; exact hFM6.stoF (by simp)
  cases h; exact hFM8
theorem w_Mo_both_318  {a8 s1 : Int} {M : Mem} {r : Int × Mem} (h : k_Mo_both_318 a8 s1 M = some r) : Fr [155, 158] [(111, 72)] M r.2 := by
  unfold k_Mo_both_318 at h
  have hFM : Fr [155, 158] [(111, 72)] M M := Fr.rfl'
  obtain ⟨v1, M2, fv1, h⟩ := bcall_e h
  have hFM2 : Fr [155, 158] [(111, 72)] M M2 := hFM.trans ((w_Mo_push fv1).mono (by simp) (by simp))
  cases h; exact hFM2
theorem w_Mo_both_223  {a1 a3 a5 s0 : Int} {M : Mem} {r : Int × Mem} (h : k_Mo_both_223 a1 a3 a5 s0 M = some r) : Fr [155, 158] [(111, 72)] M r.2 := by
  unfold k_Mo_both_223 at h
  have hFM : Fr [155, 158] [(111, 72)] M M := Fr.rfl'
  rcases ite_e h with ⟨c1, h⟩ | ⟨c1, h⟩
  · skip
    rcases ite_e h with ⟨c2, h⟩ | ⟨c2, h⟩
    · skip
      exact hFM.trans (w_Mo_both_318 h)
    · skip
      rcases ite_e h with ⟨c3, h⟩ | ⟨c3, h⟩
      · skip
        exact hFM.trans (w_Mo_both_318 h)
      · skip
        rcases ite_e h with ⟨c4, h⟩ | ⟨c4, h⟩
        · skip
          exact hFM.trans (w_Mo_both_318 h)
        · skip
          rcases ite_e h with ⟨c5, h⟩ | ⟨c5, h⟩
          · skip
            obtain ⟨c6, h⟩ := chk_e h
            exact hFM.trans (w_Mo_both_318 h)
          · skip
            rcases ite_e h with ⟨c7, h⟩ | ⟨c7, h⟩
            · skip
              obtain ⟨c8, h⟩ := chk_e h
              exact hFM.trans (w_Mo_both_318 h)
            · skip
              rcases ite_e h with ⟨c9, h⟩ | ⟨c9, h⟩
              · skip
                exact hFM.trans (w_Mo_both_318 h)
              · skip
                exact hFM.trans (w_Mo_both_318 h)
  · skip
    exact hFM.trans (w_Mo_both_318 h)
theorem w_Mo_both_222  {a1 a3 a5 : Int} {M : Mem} {r : Int × Mem} (h : k_Mo_both_222 a1 a3 a5 M = some r) : Fr [155, 158] [(111, 72)] M r.2 := by
  unfold k_Mo_both_222 at h
  have hFM : Fr [155, 158] [(111, 72)] M M := Fr.rfl'
  exact hFM.trans (w_Mo_both_223 h)
theorem w_Mo_both_218  {a1 a3 a5 : Int} {M : Mem} {r : Int × Mem} (h : k_Mo_both_218 a1 a3 a5 M = some r) : Fr [155, 158] [(111, 72)] M r.2 := by
  unfold k_Mo_both_218 at h
  have hFM : Fr [155, 158] [(111, 72)] M M := Fr.rfl'
  exact hFM.trans (w_Mo_both_223 h)
theorem w_Mo_both_211  {a1 a3 a5 : Int} {M : Mem} {r : Int × Mem} (h : k_Mo_both_211 a1 a3 a5 M = some r) : Fr [155, 158] [(111, 72)] M r.2 := by
  unfold k_Mo_both_211 at h
  have hFM : Fr [155, 158] [(111, 72)] M M := Fr.rfl'
  rcases ite_e h with ⟨c1, h⟩ | ⟨c1, h⟩
  · skip
    exact hFM.trans (w_Mo_both_218 h)
  · skip
    exact hFM.trans (w_Mo_both_222 h)
theorem w_Mo_both_189  {s1 : Int} {M : Mem} {r : Int × Mem} (h : k_Mo_both_189 s1 M = some r) : Fr [155, 158] [(111, 72)] M r.2 := by
  unfold k_Mo_both_189 at h
  have hFM : Fr [155, 158] [(111, 72)] M M := Fr.rfl'
  obtain ⟨v1, M2, fv1, h⟩ := bcall_e h
  have hFM2 : Fr [155, 158] [(111, 72)] M M2 := hFM.trans ((w_Mo_push fv1).mono (by simp) (by simp))
  cases h; exact hFM2
theorem w_Mo_both_188  {M : Mem} {r : Int × Mem} (h : k_Mo_both_188 M = some r) : Fr [155, 158] [(111, 72)] M r.2 := by
  unfold k_Mo_both_188 at h
  have hFM : Fr [155, 158] [(111, 72)] M M := Fr.rfl'
  exact hFM.trans (w_Mo_both_189 h)
theorem w_Mo_both_181  {s1 s2 : Int} {M : Mem} {r : Int × Mem} (h : k_Mo_both_181 s1 s2 M = some r) : Fr [155, 158] [(111, 72)] M r.2 := by
  unfold k_Mo_both_181 at h
  have hFM : Fr [155, 158] [(111, 72)] M M := Fr.rfl'
  rcases ite_e h with ⟨c1, h⟩ | ⟨c1, h⟩
  · skip
    exact hFM.trans (w_Mo_both_188 h)
  · skip
    exact hFM.trans (w_Mo_both_189 h)
theorem w_Mo_both_161  {a2 a7 s0 : Int} {M : Mem} {r : Int × Mem} (h : k_Mo_both_161 a2 a7 s0 M = some r) : Fr [155, 158] [(111, 72)] M r.2 := by
  unfold k_Mo_both_161 at h
  have hFM : Fr [155, 158] [(111, 72)] M M := Fr.rfl'
  rcases ite_e h with ⟨c1, h⟩ | ⟨c1, h⟩
  · skip
    rcases ite_e h with ⟨c2, h⟩ | ⟨c2, h⟩
    · skip
      exact hFM.trans (w_Mo_both_181 h)
    · skip
      exact hFM.trans (w_Mo_both_181 h)
  · skip
    exact hFM.trans (w_Mo_both_188 h)
theorem w_Mo_both_96  {s1 : Int} {M : Mem} {r : Int × Mem} (h : k_Mo_both_96 s1 M = some r) : Fr [155, 158] [(111, 72)] M r.2 := by
  unfold k_Mo_both_96 at h
  have hFM : Fr [155, 158] [(111, 72)] M M := Fr.rfl'
  obtain ⟨v1, M2, fv1, h⟩ := bcall_e h
  have hFM2 : Fr [155, 158] [(111, 72)] M M2 := hFM.trans ((w_Mo_push fv1).mono (by simp) (by simp))
  cases h; exact hFM2
theorem w_Mo_both_78  {a1 a3 a5 : Int} {M : Mem} {r : Int × Mem} (h : k_Mo_both_78 a1 a3 a5 M = some r) : Fr [155, 158] [(111, 72)] M r.2 := by
  unfold k_Mo_both_78 at h
  have hFM : Fr [155, 158] [(111, 72)] M M := Fr.rfl'
  rcases ite_e h with ⟨c1, h⟩ | ⟨c1, h⟩
  · skip
    exact hFM.trans (w_Mo_both_96 h)
  · skip
    exact hFM.trans (w_Mo_both_96 h)
theorem w_Mo_both_64  {a1 a2 a3 a5 s0 : Int} {M : Mem} {r : Int × Mem} (h : k_Mo_both_64 a1 a2 a3 a5 s0 M = some r) : Fr [155, 158] [(111, 72)] M r.2 := by
  unfold k_Mo_both_64 at h
  have hFM : Fr [155, 158] [(111, 72)] M M := Fr.rfl'
  rcases ite_e h with ⟨c1, h⟩ | ⟨c1, h⟩
  · skip
    exact hFM.trans (w_Mo_both_78 h)
  · skip
    rcases ite_e h with ⟨c2, h⟩ | ⟨c2, h⟩
    · skip
      exact hFM.trans (w_Mo_both_78 h)
    · skip
      rcases ite_e h with ⟨c3, h⟩ | ⟨c3, h⟩
      · skip
        rcases ite_e h with ⟨c4, h⟩ | ⟨c4, h⟩
        · skip
          rcases ite_e h with ⟨c5, h⟩ | ⟨c5, h⟩
          · skip
            exact hFM.trans (w_Mo_both_211 h)
          · skip
            rcases ite_e h with ⟨c6, h⟩ | ⟨c6, h⟩
            · skip
              exact hFM.trans (w_Mo_both_211 h)
            · skip
              exact hFM.trans (w_Mo_both_222 h)
        · skip
          exact hFM.trans (w_Mo_both_218 h)
      · skip
        rcases ite_e h with ⟨c7, h⟩ | ⟨c7, h⟩
        · skip
          rcases ite_e h with ⟨c8, h⟩ | ⟨c8, h⟩
          · skip
            exact hFM.trans (w_Mo_both_161 h)
          · skip
            exact hFM.trans (w_Mo_both_161 h)
        · skip
          rcases ite_e h with ⟨c9, h⟩ | ⟨c9, h⟩
          · skip
            rcases ite_e h with ⟨c10, h⟩ | ⟨c10, h⟩
            · skip
              exact hFM.trans (w_Mo_both_161 h)
            · skip
              exact hFM.trans (w_Mo_both_161 h)
          · skip
            rcases ite_e h with ⟨c11, h⟩ | ⟨c11, h⟩
            · skip
              exact hFM.trans (w_Mo_both_161 h)
            · skip
              exact hFM.trans (w_Mo_both_161 h)
theorem w_Mo_both_59  {a1 a2 a3 a5 : Int} {M : Mem} {r : Int × Mem} (h : k_Mo_both_59 a1 a2 a3 a5 M = some r) : Fr [155, 158] [(111, 72)] M r.2 := by
  unfold k_Mo_both_59 at h
  have hFM : Fr [155, 158] [(111, 72)] M M := Fr.rfl'
  exact hFM.trans (w_Mo_both_64 h)
theorem w_Mo_both {a1 a2 : Int} {M : Mem} {r : Int × Mem} (h : d_Mo_both a1 a2 M = some r) : Fr [155, 158] [(111, 72)] M r.2 := by
  unfold d_Mo_both at h
  have hFM : Fr [155, 158] [(111, 72)] M M := Fr.rfl'
  obtain ⟨v1, ev1, h⟩ := blet_e h
  obtain ⟨M2, eM2, h⟩ := blet_e h
  have hFM2 : Fr [155, 158] [(111, 72)] M M2 := by rw [eM2]; exact hFM.stoF (by simp)
  obtain ⟨v3, ev3, h⟩ := blet_e h
  obtain ⟨c4, h⟩ := chk_e h
  obtain ⟨v5, ev5, h⟩ := blet_e h
  obtain ⟨v6, ev6, h⟩ := blet_e h
  obtain ⟨c7, h⟩ := chk_e h
  obtain ⟨v8, ev8, h⟩ := blet_e h
  obtain ⟨v9, ev9, h⟩ := blet_e h
  obtain ⟨c10, h⟩ := chk_e h
  obtain ⟨v11, ev11, h⟩ := blet_e h
  rcases ite_e h with ⟨c12, h⟩ | ⟨c12, h⟩
  · skip
    obtain ⟨v13, ev13, h⟩ := blet_e h
    obtain ⟨c14, h⟩ := chk_e h
    obtain ⟨v15, ev15, h⟩ := blet_e h
    rcases ite_e h with ⟨c16, h⟩ | ⟨c16, h⟩
    · skip
      exact hFM2.trans (w_Mo_both_64 h)
    · skip
      exact hFM2.trans (w_Mo_both_59 h)
  · skip
    exact hFM2.trans (w_Mo_both_59 h)
theorem w_Mo_does {a1 a2 : Int} {M : Mem} {r : Int × Mem} (h : d_Mo_does a1 a2 M = some r) : Fr [155, 158] [(111, 72)] M r.2 := by
  unfold d_Mo_does at h
  have hFM : Fr [155, 158] [(111, 72)] M M := Fr.rfl'
  obtain ⟨v1, ev1, h⟩ := blet_e h
  obtain ⟨v2, ev2, h⟩ := blet_e h
  rcases ite_e h with ⟨c3, h⟩ | ⟨c3, h⟩
  · skip
    obtain ⟨v4, M5, fv4, h⟩ := bcall_e h
    have hFM5 : Fr [155, 158] [(111, 72)] M M5 := hFM.trans ((w_Mo_push fv4).mono (by simp) (by simp))
    cases h; exact hFM5
  · rcases ite_e h with ⟨c6, h⟩ | ⟨c6, h⟩
    · skip
      obtain ⟨c7, h⟩ := chk_e h
      obtain ⟨v8, ev8, h⟩ := blet_e h
      obtain ⟨v9, M10, fv9, h⟩ := bcall_e h
      have hFM10 : Fr [155, 158] [(111, 72)] M M10 := hFM.trans ((w_Mo_push fv9).mono (by simp) (by simp))
      cases h; exact hFM10
    · rcases ite_e h with ⟨c11, h⟩ | ⟨c11, h⟩
      · skip
        obtain ⟨c12, h⟩ := chk_e h
        obtain ⟨v13, ev13, h⟩ := blet_e h
        obtain ⟨c14, h⟩ := chk_e h
        obtain ⟨v15, ev15, h⟩ := blet_e h
        obtain ⟨v16, M17, fv16, h⟩ := bcall_e h
        have hFM17 : Fr [155, 158] [(111, 72)] M M17 := hFM.trans ((w_Mo_push fv16).mono (by simp) (by simp))
        cases h; exact hFM17
      · rcases ite_e h with ⟨c18, h⟩ | ⟨c18, h⟩
        · skip
          obtain ⟨v19, ev19, h⟩ := blet_e h
          obtain ⟨M20, eM20, h⟩ := blet_e h
          have hFM20 : Fr [155, 158] [(111, 72)] M M20 := by rw [eM20]; exact hFM.stoF (by simp)
          obtain ⟨v21, ev21, h⟩ := blet_e h
          obtain ⟨c22, h⟩ := chk_e h
          obtain ⟨v23, ev23, h⟩ := blet_e h
          rcases ite_e h with ⟨c24, h⟩ | ⟨c24, h⟩
          · skip
            cases h; exact hFM20
          · skip
            cases h; exact hFM20
        · rcases ite_e h with ⟨c25, h⟩ | ⟨c25, h⟩
          · skip
            cases h; exact hFM
          · skip
            obtain ⟨v26, M27, fv26, h⟩ := bcall_e h
            have hFM27 : Fr [155, 158] [(111, 72)] M M27 := hFM.trans ((w_Mo_both fv26).mono (by simp) (by simp))
            cases h; exact hFM27
theorem w_Mo_work_40 {R2 : Int → Int → Int → Mem → Res} {R40 : Int → Int → Int → Int → Int → Mem → Res} (hR2 : ∀ (a1 a2 a3 : Int) (M : Mem) (r : Int × Mem), R2 a1 a2 a3 M = some r → Fr [155, 157, 158, 159] [(111, 72)] M r.2) (hR40 : ∀ (a1 a2 a3 a4 a5 : Int) (M : Mem) (r : Int × Mem), R40 a1 a2 a3 a4 a5 M = some r → Fr [155, 157, 158, 159] [(111, 72)] M r.2) {a1 a2 a3 a4 a5 : Int} {M : Mem} {r : Int × Mem} (h : k_Mo_work_40 R2 R40 a1 a2 a3 a4 a5 M = some r) : Fr [155, 157, 158, 159] [(111, 72)] M r.2 := by
  unfold k_Mo_work_40 at h
  have hFM : Fr [155, 157, 158, 159] [(111, 72)] M M := Fr.rfl'
  rcases ite_e h with ⟨c1, h⟩ | ⟨c1, h⟩
  · skip
    obtain ⟨c2, h⟩ := chk_e h
    obtain ⟨v3, ev3, h⟩ := blet_e h
    obtain ⟨v4, M5, fv4, h⟩ := bcall_e h
    have hFM5 : Fr [155, 157, 158, 159] [(111, 72)] M M5 := hFM.trans ((w_Mo_does fv4).mono (by simp) (by simp))
    exact hFM5.trans (hR40 a1 a2 a3 v4 a5 M5 r h)
  · skip
    obtain ⟨v6, ev6, h⟩ := blet_e h
    obtain ⟨c7, h⟩ := chk_e h
    obtain ⟨M8, eM8, h⟩ := blet_e h
    have hFM8 : Fr [155, 157, 158, 159] [(111, 72)] M M8 := by rw [eM8]; exact hFM.stoA (by simp)
    obtain ⟨v9, ev9, h⟩ := blet_e h
    obtain ⟨c10, h⟩ := chk_e h
    obtain ⟨M11, eM11, h⟩ := blet_e h
    have hFM11 : Fr [155, 157, 158, 159] [(111, 72)] M M11 := by rw [eM11]; exact hFM8.stoA (by simp)
    obtain ⟨v12, ev12, h⟩ := blet_e h
    exact hFM11.trans (hR2 a1 a2 v12 M11 r h)
theorem wl_Mo_work_40 {R2 : Int → Int → Int → Mem → Res} (hR2 : ∀ (a1 a2 a3 : Int) (M : Mem) (r : Int × Mem), R2 a1 a2 a3 M = some r → Fr [155, 157, 158, 159] [(111, 72)] M r.2) : ∀ (n : Nat) (a1 a2 a3 a4 a5 : Int) (M : Mem) (r : Int × Mem), fix (fun _ _ _ _ _ _ => none) (k_Mo_work_40 R2) n a1 a2 a3 a4 a5 M = some r → Fr [155, 157, 158, 159] [(111, 72)] M r.2 := by
  intro n
  induction n with
  | zero => intro a1 a2 a3 a4 a5 M r h; exact nomatch (show (none : Res) = some r from h)
  | succ n ih => intro a1 a2 a3 a4 a5 M r h; exact w_Mo_work_40 hR2 ih h
theorem w_Mo_work_2 {R2 : Int → Int → Int → Mem → Res} (hR2 : ∀ (a1 a2 a3 : Int) (M : Mem) (r : Int × Mem), R2 a1 a2 a3 M = some r → Fr [155, 157, 158, 159] [(111, 72)] M r.2) {a1 a2 a3 : Int} {M : Mem} {r : Int × Mem} (h : k_Mo_work_2 R2 a1 a2 a3 M = some r) : Fr [155, 157, 158, 159] [(111, 72)] M r.2 := by
  unfold k_Mo_work_2 at h
  have hFM : Fr [155, 157, 158, 159] [(111, 72)] M M := Fr.rfl'
  rcases ite_e h with ⟨c1, h⟩ | ⟨c1, h⟩
  · skip
    cases h; exact hFM
  · skip
    obtain ⟨M2, eM2, h⟩ := blet_e h
    have hFM2 : Fr [155, 157, 158, 159] [(111, 72)] M M2 := by rw [eM2]; exact hFM.stoF (by simp)
    obtain ⟨c3, h⟩ := chk_e h
    obtain ⟨v4, ev4, h⟩ := blet_e h
    obtain ⟨c5, h⟩ := chk_e h
    obtain ⟨v6, ev6, h⟩ := blet_e h
    exact hFM2.trans (wl_Mo_work_40 hR2 FU a1 a2 a3 v4 v6 M2 r h)
theorem wl_Mo_work_2  : ∀ (n : Nat) (a1 a2 a3 : Int) (M : Mem) (r : Int × Mem), fix (fun _ _ _ _ => none) (k_Mo_work_2) n a1 a2 a3 M = some r → Fr [155, 157, 158, 159] [(111, 72)] M r.2 := by
  intro n
  induction n with
  | zero => intro a1 a2 a3 M r h; exact nomatch (show (none : Res) = some r from h)
  | succ n ih => intro a1 a2 a3 M r h; exact w_Mo_work_2 ih h
theorem w_Mo_work {a1 a2 : Int} {M : Mem} {r : Int × Mem} (h : d_Mo_work a1 a2 M = some r) : Fr [155, 157, 158, 159] [(111, 72)] M r.2 := by
  unfold d_Mo_work at h
  have hFM : Fr [155, 157, 158, 159] [(111, 72)] M M := Fr.rfl'
  exact hFM.trans (wl_Mo_work_2 FU a1 a2 0 M r h)
theorem w_Mo_told_63  {a4 a6 a7 : Int} {M : Mem} {r : Int × Mem} (h : k_Mo_told_63 a4 a6 a7 M = some r) : Fr [155, 157, 158, 159] [(111, 72), (111, 108)] M r.2 := by
  unfold k_Mo_told_63 at h
  have hFM : Fr [155, 157, 158, 159] [(111, 72), (111, 108)] M M := Fr.rfl'
  rcases ite_e h with ⟨c1, h⟩ | ⟨c1, h⟩
  · skip
    cases h; exact hFM
  · skip
    obtain ⟨v2, M3, fv2, h⟩ := bcall_e h
    have hFM3 : Fr [155, 157, 158, 159] [(111, 72), (111, 108)] M M3 := hFM.trans ((w_Mo_work fv2).mono (by simp) (by simp))
    obtain ⟨c4, h⟩ := chk_e h
    obtain ⟨v5, ev5, h⟩ := blet_e h
    obtain ⟨c6, h⟩ := chk_e h
    obtain ⟨M7, eM7, h⟩ := blet_e h
    have hFM7 : Fr [155, 157, 158, 159] [(111, 72), (111, 108)] M M7 := by rw [eM7]; exact hFM3.stoF (by simp)
    obtain ⟨v8, ev8, h⟩ := blet_e h
    rcases ite_e h with ⟨c9, h⟩ | ⟨c9, h⟩
    · skip
      obtain ⟨c10, h⟩ := chk_e h
      obtain ⟨v11, ev11, h⟩ := blet_e h
      cases h; exact hFM7
    · skip
      cases h; exact hFM7
theorem w_Mo_told_57 {R18 : Int → Int → Int → Int → Int → Mem → Res} (hR18 : ∀ (a1 a4 a6 a7 a8 : Int) (M : Mem) (r : Int × Mem), R18 a1 a4 a6 a7 a8 M = some r → Fr [155, 157, 158, 159] [(111, 72), (111, 108)] M r.2) {a1 a4 a6 a7 a8 : Int} {M : Mem} {r : Int × Mem} (h : k_Mo_told_57 R18 a1 a4 a6 a7 a8 M = some r) : Fr [155, 157, 158, 159] [(111, 72), (111, 108)] M r.2 := by
  unfold k_Mo_told_57 at h
  have hFM : Fr [155, 157, 158, 159] [(111, 72), (111, 108)] M M := Fr.rfl'
  obtain ⟨v1, ev1, h⟩ := blet_e h
  exact hFM.trans (hR18 a1 a4 a6 a7 v1 M r h)
theorem w_Mo_told_18 {R18 : Int → Int → Int → Int → Int → Mem → Res} (hR18 : ∀ (a1 a4 a6 a7 a8 : Int) (M : Mem) (r : Int × Mem), R18 a1 a4 a6 a7 a8 M = some r → Fr [155, 157, 158, 159] [(111, 72), (111, 108)] M r.2) {a1 a4 a6 a7 a8 : Int} {M : Mem} {r : Int × Mem} (h : k_Mo_told_18 R18 a1 a4 a6 a7 a8 M = some r) : Fr [155, 157, 158, 159] [(111, 72), (111, 108)] M r.2 := by
  unfold k_Mo_told_18 at h
  have hFM : Fr [155, 157, 158, 159] [(111, 72), (111, 108)] M M := Fr.rfl'
  rcases ite_e h with ⟨c1, h⟩ | ⟨c1, h⟩
  · skip
    exact hFM.trans (w_Mo_told_63 h)
  · skip
    obtain ⟨c2, h⟩ := chk_e h
    obtain ⟨v3, ev3, h⟩ := blet_e h
    rcases ite_e h with ⟨c4, h⟩ | ⟨c4, h⟩
    · skip
      obtain ⟨c5, h⟩ := chk_e h
      obtain ⟨v6, ev6, h⟩ := blet_e h
      rcases ite_e h with ⟨c7, h⟩ | ⟨c7, h⟩
      · skip
        exact hFM.trans (w_Mo_told_57 hR18 h)
      · skip
        exact hFM.trans (w_Mo_told_57 hR18 h)
    · skip
      exact hFM.trans (w_Mo_told_63 h)
theorem wl_Mo_told_18  : ∀ (n : Nat) (a1 a4 a6 a7 a8 : Int) (M : Mem) (r : Int × Mem), fix (fun _ _ _ _ _ _ => none) (k_Mo_told_18) n a1 a4 a6 a7 a8 M = some r → Fr [155, 157, 158, 159] [(111, 72), (111, 108)] M r.2 := by
  intro n
  induction n with
  | zero => intro a1 a4 a6 a7 a8 M r h; exact nomatch (show (none : Res) = some r from h)
  | succ n ih => intro a1 a4 a6 a7 a8 M r h; exact w_Mo_told_18 ih h
theorem w_Mo_told {a1 a3 a4 : Int} {M : Mem} {r : Int × Mem} (h : d_Mo_told a1 a3 a4 M = some r) : Fr [155, 157, 158, 159] [(111, 72), (111, 108)] M r.2 := by
  unfold d_Mo_told at h
  have hFM : Fr [155, 157, 158, 159] [(111, 72), (111, 108)] M M := Fr.rfl'
  obtain ⟨M1, eM1, h⟩ := blet_e h
  have hFM1 : Fr [155, 157, 158, 159] [(111, 72), (111, 108)] M M1 := by rw [eM1]; exact hFM.stoF (by simp)
  obtain ⟨v2, M3, fv2, h⟩ := bcall_e h
  have hFM3 : Fr [155, 157, 158, 159] [(111, 72), (111, 108)] M M3 := hFM1.trans ((w_Mo_force fv2).mono (by simp) (by simp))
  exact hFM3.trans (wl_Mo_told_18 FU a1 a4 v2 (-1) 0 M3 r h)
theorem w_Mo_cut1 {a0 a2 a4 : Int} {M : Mem} {r : Int × Mem} (h : d_Mo_cut1 a0 a2 a4 M = some r) : Fr [] [] M r.2 := by
  unfold d_Mo_cut1 at h
  have hFM : Fr [] [] M M := Fr.rfl'
  rcases ite_e h with ⟨c1, h⟩ | ⟨c1, h⟩
  · skip
    cases h; exact hFM
  · skip
    rcases ite_e h with ⟨c2, h⟩ | ⟨c2, h⟩
    · skip
      cases h; exact hFM
    · skip
      cases h; exact hFM
theorem w_Mo_gradeOf_203 {R11 : Int → Int → Int → Int → Int → Int → Mem → Res} (hR11 : ∀ (a1 a2 a3 a4 a5 a7 : Int) (M : Mem) (r : Int × Mem), R11 a1 a2 a3 a4 a5 a7 M = some r → Fr [155, 156, 157, 158, 159] [(111, 72), (111, 108)] M r.2) {a1 a2 a3 a4 a5 a7 : Int} {M : Mem} {r : Int × Mem} (h : k_Mo_gradeOf_203 R11 a1 a2 a3 a4 a5 a7 M = some r) : Fr [155, 156, 157, 158, 159] [(111, 72), (111, 108)] M r.2 := by
  unfold k_Mo_gradeOf_203 at h
  have hFM : Fr [155, 156, 157, 158, 159] [(111, 72), (111, 108)] M M := Fr.rfl'
  obtain ⟨v1, ev1, h⟩ := blet_e h
  exact hFM.trans (hR11 a1 a2 a3 a4 a5 v1 M r h)
theorem w_Mo_gradeOf_188 {R11 : Int → Int → Int → Int → Int → Int → Mem → Res} (hR11 : ∀ (a1 a2 a3 a4 a5 a7 : Int) (M : Mem) (r : Int × Mem), R11 a1 a2 a3 a4 a5 a7 M = some r → Fr [155, 156, 157, 158, 159] [(111, 72), (111, 108)] M r.2) {a1 a2 a7 a8 : Int} {M : Mem} {r : Int × Mem} (h : k_Mo_gradeOf_188 R11 a1 a2 a7 a8 M = some r) : Fr [155, 156, 157, 158, 159] [(111, 72), (111, 108)] M r.2 := by
  unfold k_Mo_gradeOf_188 at h
  have hFM : Fr [155, 156, 157, 158, 159] [(111, 72), (111, 108)] M M := Fr.rfl'
  obtain ⟨c1, h⟩ := chk_e h
  obtain ⟨v2, ev2, h⟩ := blet_e h
  exact hFM.trans (w_Mo_gradeOf_203 hR11 h)
theorem w_Mo_gradeOf_11 {R11 : Int → Int → Int → Int → Int → Int → Mem → Res} (hR11 : ∀ (a1 a2 a3 a4 a5 a7 : Int) (M : Mem) (r : Int × Mem), R11 a1 a2 a3 a4 a5 a7 M = some r → Fr [155, 156, 157, 158, 159] [(111, 72), (111, 108)] M r.2) {a1 a2 a3 a4 a5 a7 : Int} {M : Mem} {r : Int × Mem} (h : k_Mo_gradeOf_11 R11 a1 a2 a3 a4 a5 a7 M = some r) : Fr [155, 156, 157, 158, 159] [(111, 72), (111, 108)] M r.2 := by
  unfold k_Mo_gradeOf_11 at h
  have hFM : Fr [155, 156, 157, 158, 159] [(111, 72), (111, 108)] M M := Fr.rfl'
  obtain ⟨v1, ev1, h⟩ := blet_e h
  rcases ite_e h with ⟨c2, h⟩ | ⟨c2, h⟩
  · skip
    obtain ⟨c3, h⟩ := chk_e h
    obtain ⟨v4, ev4, h⟩ := blet_e h
    rcases ite_e h with ⟨c5, h⟩ | ⟨c5, h⟩
    · skip
      obtain ⟨c6, h⟩ := chk_e h
      obtain ⟨v7, ev7, h⟩ := blet_e h
      rcases ite_e h with ⟨c8, h⟩ | ⟨c8, h⟩
      · skip
        exact hFM.trans (w_Mo_gradeOf_203 hR11 h)
      · skip
        obtain ⟨v9, M10, fv9, h⟩ := bcall_e h
        have hFM10 : Fr [155, 156, 157, 158, 159] [(111, 72), (111, 108)] M M10 := hFM.trans ((w_Mo_letNothing fv9).mono (by simp) (by simp))
        obtain ⟨c11, h⟩ := chk_e h
        obtain ⟨v12, ev12, h⟩ := blet_e h
        obtain ⟨M13, eM13, h⟩ := blet_e h
        have hFM13 : Fr [155, 156, 157, 158, 159] [(111, 72), (111, 108)] M M13 := by rw [eM13]; exact hFM10.stoA (by simp)
        obtain ⟨c14, h⟩ := chk_e h
        obtain ⟨v15, ev15, h⟩ := blet_e h
        obtain ⟨M16, eM16, h⟩ := blet_e h
        have hFM16 : Fr [155, 156, 157, 158, 159] [(111, 72), (111, 108)] M M16 := by rw [eM16]; exact hFM13.stoA (by simp)
        obtain ⟨c17, h⟩ := chk_e h
        obtain ⟨v18, ev18, h⟩ := blet_e h
        obtain ⟨M19, eM19, h⟩ := blet_e h
        have hFM19 : Fr [155, 156, 157, 158, 159] [(111, 72), (111, 108)] M M19 := by rw [eM19]; exact hFM16.stoA (by simp)
        obtain ⟨c20, h⟩ := chk_e h
        obtain ⟨v21, ev21, h⟩ := blet_e h
        obtain ⟨M22, eM22, h⟩ := blet_e h
        have hFM22 : Fr [155, 156, 157, 158, 159] [(111, 72), (111, 108)] M M22 := by rw [eM22]; exact hFM19.stoA (by simp)
        obtain ⟨v23, M24, fv23, h⟩ := bcall_e h
        have hFM24 : Fr [155, 156, 157, 158, 159] [(111, 72), (111, 108)] M M24 := hFM22.trans ((w_Mo_net fv23).mono (by simp) (by simp))
        obtain ⟨M25, eM25, h⟩ := blet_e h
        have hFM25 : Fr [155, 156, 157, 158, 159] [(111, 72), (111, 108)] M M25 := by rw [eM25]; exact hFM24.stoA (by simp)
        obtain ⟨c26, h⟩ := chk_e h
        obtain ⟨v27, ev27, h⟩ := blet_e h
        obtain ⟨c28, h⟩ := chk_e h
        obtain ⟨v29, ev29, h⟩ := blet_e h
        obtain ⟨M30, eM30, h⟩ := blet_e h
        have hFM30 : Fr [155, 156, 157, 158, 159] [(111, 72), (111, 108)] M M30 := by rw [eM30]; exact hFM25.stoA (by simp)
        obtain ⟨v31, M32, fv31, h⟩ := bcall_e h
        have hFM32 : Fr [155, 156, 157, 158, 159] [(111, 72), (111, 108)] M M32 := hFM30.trans ((w_Mo_spelled fv31).mono (by simp) (by simp))
        obtain ⟨c33, h⟩ := chk_e h
        obtain ⟨v34, ev34, h⟩ := blet_e h
        obtain ⟨v35, M36, fv35, h⟩ := bcall_e h
        have hFM36 : Fr [155, 156, 157, 158, 159] [(111, 72), (111, 108)] M M36 := hFM32.trans ((w_Mo_told fv35).mono (by simp) (by simp))
        obtain ⟨v37, M38, fv37, h⟩ := bcall_e h
        have hFM38 : Fr [155, 156, 157, 158, 159] [(111, 72), (111, 108)] M M38 := hFM36.trans ((w_Mo_cut1 fv37).mono (by simp) (by simp))
        rcases ite_e h with ⟨c39, h⟩ | ⟨c39, h⟩
        · skip
          exact hFM38.trans (w_Mo_gradeOf_188 hR11 h)
        · skip
          rcases ite_e h with ⟨c40, h⟩ | ⟨c40, h⟩
          · skip
            exact hFM38.trans (w_Mo_gradeOf_203 hR11 h)
          · skip
            exact hFM38.trans (w_Mo_gradeOf_188 hR11 h)
    · skip
      exact hFM.trans (w_Mo_gradeOf_203 hR11 h)
  · skip
    cases h; exact hFM
theorem wl_Mo_gradeOf_11  : ∀ (n : Nat) (a1 a2 a3 a4 a5 a7 : Int) (M : Mem) (r : Int × Mem), fix (fun _ _ _ _ _ _ _ => none) (k_Mo_gradeOf_11) n a1 a2 a3 a4 a5 a7 M = some r → Fr [155, 156, 157, 158, 159] [(111, 72), (111, 108)] M r.2 := by
  intro n
  induction n with
  | zero => intro a1 a2 a3 a4 a5 a7 M r h; exact nomatch (show (none : Res) = some r from h)
  | succ n ih => intro a1 a2 a3 a4 a5 a7 M r h; exact w_Mo_gradeOf_11 ih h
theorem w_Mo_gradeOf {a1 a2 : Int} {M : Mem} {r : Int × Mem} (h : d_Mo_gradeOf a1 a2 M = some r) : Fr [155, 156, 157, 158, 159] [(111, 72), (111, 108)] M r.2 := by
  unfold d_Mo_gradeOf at h
  have hFM : Fr [155, 156, 157, 158, 159] [(111, 72), (111, 108)] M M := Fr.rfl'
  exact hFM.trans (wl_Mo_gradeOf_11 FU a1 a2 5 0 0 0 M r h)
theorem w_Mo_grade {a1 a2 : Int} {M : Mem} {r : Int × Mem} (h : d_Mo_grade a1 a2 M = some r) : Fr [155, 156, 157, 158, 159] [(111, 0), (111, 1), (111, 72), (111, 108)] M r.2 := by
  unfold d_Mo_grade at h
  have hFM : Fr [155, 156, 157, 158, 159] [(111, 0), (111, 1), (111, 72), (111, 108)] M M := Fr.rfl'
  obtain ⟨M1, eM1, h⟩ := blet_e h
  have hFM1 : Fr [155, 156, 157, 158, 159] [(111, 0), (111, 1), (111, 72), (111, 108)] M M1 := by rw [eM1]; exact hFM.stoF (by simp)
  obtain ⟨M2, eM2, h⟩ := blet_e h
  have hFM2 : Fr [155, 156, 157, 158, 159] [(111, 0), (111, 1), (111, 72), (111, 108)] M M2 := by rw [eM2]; exact hFM1.stoF (by simp)
  obtain ⟨v3, M4, fv3, h⟩ := bcall_e h
  have hFM4 : Fr [155, 156, 157, 158, 159] [(111, 0), (111, 1), (111, 72), (111, 108)] M M4 := hFM2.trans ((w_Mo_isLoad fv3).mono (by simp) (by simp))
  rcases ite_e h with ⟨c5, h⟩ | ⟨c5, h⟩
  · skip
    obtain ⟨v6, M7, fv6, h⟩ := bcall_e h
    have hFM7 : Fr [155, 156, 157, 158, 159] [(111, 0), (111, 1), (111, 72), (111, 108)] M M7 := hFM4.trans ((w_Mo_refuse fv6).mono (by simp) (by simp))
    cases h; exact hFM7
  · skip
    obtain ⟨v8, M9, fv8, h⟩ := bcall_e h
    have hFM9 : Fr [155, 156, 157, 158, 159] [(111, 0), (111, 1), (111, 72), (111, 108)] M M9 := hFM4.trans ((w_Mo_isDay fv8).mono (by simp) (by simp))
    rcases ite_e h with ⟨c10, h⟩ | ⟨c10, h⟩
    · skip
      obtain ⟨v11, M12, fv11, h⟩ := bcall_e h
      have hFM12 : Fr [155, 156, 157, 158, 159] [(111, 0), (111, 1), (111, 72), (111, 108)] M M12 := hFM9.trans ((w_Mo_refuse fv11).mono (by simp) (by simp))
      cases h; exact hFM12
    · skip
      obtain ⟨c13, h⟩ := chk_e h
      obtain ⟨v14, ev14, h⟩ := blet_e h
      rcases ite_e h with ⟨c15, h⟩ | ⟨c15, h⟩
      · skip
        obtain ⟨v16, M17, fv16, h⟩ := bcall_e h
        have hFM17 : Fr [155, 156, 157, 158, 159] [(111, 0), (111, 1), (111, 72), (111, 108)] M M17 := hFM9.trans ((w_Mo_refuse fv16).mono (by simp) (by simp))
        cases h; exact hFM17
      · skip
        obtain ⟨v18, M19, fv18, h⟩ := bcall_e h
        have hFM19 : Fr [155, 156, 157, 158, 159] [(111, 0), (111, 1), (111, 72), (111, 108)] M M19 := hFM9.trans ((w_Mo_gradeOf fv18).mono (by simp) (by simp))
        cases h; exact hFM19
theorem w_Mo_isWho_13  {M : Mem} {r : Int × Mem} (h : k_Mo_isWho_13 M = some r) : Fr [] [] M r.2 := by
  unfold k_Mo_isWho_13 at h
  have hFM : Fr [] [] M M := Fr.rfl'
  cases h; exact hFM
theorem w_Mo_isWho {a1 : Int} {M : Mem} {r : Int × Mem} (h : d_Mo_isWho a1 M = some r) : Fr [] [] M r.2 := by
  unfold d_Mo_isWho at h
  have hFM : Fr [] [] M M := Fr.rfl'
  rcases ite_e h with ⟨c1, h⟩ | ⟨c1, h⟩
  · skip
    exact hFM.trans (w_Mo_isWho_13 h)
  · skip
    obtain ⟨v2, M3, fv2, h⟩ := bcall_e h
    have hFM3 : Fr [] [] M M3 := hFM.trans ((w_Mo_isFarm fv2).mono (by simp) (by simp))
    rcases ite_e h with ⟨c4, h⟩ | ⟨c4, h⟩
    · skip
      cases h; exact hFM3
    · skip
      exact hFM3.trans (w_Mo_isWho_13 h)
theorem w_Mo_binAt {a0 a1 a2 : Int} {M : Mem} {r : Int × Mem} (h : d_Mo_binAt a0 a1 a2 M = some r) : Fr [] [] M r.2 := by
  unfold d_Mo_binAt at h
  have hFM : Fr [] [] M M := Fr.rfl'
  cases h; exact hFM
theorem w_Mo_inElevator_4 {R4 : Int → Int → Int → Mem → Res} (hR4 : ∀ (a1 a2 a3 : Int) (M : Mem) (r : Int × Mem), R4 a1 a2 a3 M = some r → Fr [] [] M r.2) {a1 a2 a3 : Int} {M : Mem} {r : Int × Mem} (h : k_Mo_inElevator_4 R4 a1 a2 a3 M = some r) : Fr [] [] M r.2 := by
  unfold k_Mo_inElevator_4 at h
  have hFM : Fr [] [] M M := Fr.rfl'
  rcases ite_e h with ⟨c1, h⟩ | ⟨c1, h⟩
  · skip
    obtain ⟨v2, M3, fv2, h⟩ := bcall_e h
    have hFM3 : Fr [] [] M M3 := hFM.trans ((w_Mo_binAt fv2).mono (by simp) (by simp))
    obtain ⟨c4, h⟩ := chk_e h
    obtain ⟨v5, ev5, h⟩ := blet_e h
    obtain ⟨v6, ev6, h⟩ := blet_e h
    obtain ⟨v7, ev7, h⟩ := blet_e h
    exact hFM3.trans (hR4 a1 v6 v7 M3 r h)
  · skip
    cases h; exact hFM
theorem wl_Mo_inElevator_4  : ∀ (n : Nat) (a1 a2 a3 : Int) (M : Mem) (r : Int × Mem), fix (fun _ _ _ _ => none) (k_Mo_inElevator_4) n a1 a2 a3 M = some r → Fr [] [] M r.2 := by
  intro n
  induction n with
  | zero => intro a1 a2 a3 M r h; exact nomatch (show (none : Res) = some r from h)
  | succ n ih => intro a1 a2 a3 M r h; exact w_Mo_inElevator_4 ih h
theorem w_Mo_inElevator {a1 : Int} {M : Mem} {r : Int × Mem} (h : d_Mo_inElevator a1 M = some r) : Fr [] [] M r.2 := by
  unfold d_Mo_inElevator at h
  have hFM : Fr [] [] M M := Fr.rfl'
  exact hFM.trans (wl_Mo_inElevator_4 FU a1 0 0 M r h)
theorem w_Mo_playLoad {a1 a2 : Int} {M : Mem} {r : Int × Mem} (h : d_Mo_playLoad a1 a2 M = some r) : Fr [134, 136, 138, 139, 140, 155, 156, 157, 158, 159] [(111, 72), (111, 108)] M r.2 := by
  unfold d_Mo_playLoad at h
  have hFM : Fr [134, 136, 138, 139, 140, 155, 156, 157, 158, 159] [(111, 72), (111, 108)] M M := Fr.rfl'
  obtain ⟨c1, h⟩ := chk_e h
  obtain ⟨v2, ev2, h⟩ := blet_e h
  obtain ⟨v3, M4, fv3, h⟩ := bcall_e h
  have hFM4 : Fr [134, 136, 138, 139, 140, 155, 156, 157, 158, 159] [(111, 72), (111, 108)] M M4 := hFM.trans ((w_Mo_gradeOf fv3).mono (by simp) (by simp))
  obtain ⟨c5, h⟩ := chk_e h
  obtain ⟨M6, eM6, h⟩ := blet_e h
  have hFM6 : Fr [134, 136, 138, 139, 140, 155, 156, 157, 158, 159] [(111, 72), (111, 108)] M M6 := by rw [eM6]; exact hFM4.stoA (by simp)
  obtain ⟨c7, h⟩ := chk_e h
  obtain ⟨v8, ev8, h⟩ := blet_e h
  obtain ⟨v9, M10, fv9, h⟩ := bcall_e h
  have hFM10 : Fr [134, 136, 138, 139, 140, 155, 156, 157, 158, 159] [(111, 72), (111, 108)] M M10 := hFM6.trans ((w_Mo_inElevator fv9).mono (by simp) (by simp))
  obtain ⟨v11, M12, fv11, h⟩ := bcall_e h
  have hFM12 : Fr [134, 136, 138, 139, 140, 155, 156, 157, 158, 159] [(111, 72), (111, 108)] M M12 := hFM10.trans ((w_Mo_net fv11).mono (by simp) (by simp))
  obtain ⟨c13, h⟩ := chk_e h
  obtain ⟨v14, ev14, h⟩ := blet_e h
  obtain ⟨c15, h⟩ := chk_e h
  obtain ⟨v16, ev16, h⟩ := blet_e h
  obtain ⟨c17, h⟩ := chk_e h
  obtain ⟨M18, eM18, h⟩ := blet_e h
  have hFM18 : Fr [134, 136, 138, 139, 140, 155, 156, 157, 158, 159] [(111, 72), (111, 108)] M M18 := by rw [eM18]; exact hFM12.stoA (by simp)
  obtain ⟨c19, h⟩ := chk_e h
  obtain ⟨v20, ev20, h⟩ := blet_e h
  obtain ⟨c21, h⟩ := chk_e h
  obtain ⟨v22, ev22, h⟩ := blet_e h
  obtain ⟨v23, M24, fv23, h⟩ := bcall_e h
  have hFM24 : Fr [134, 136, 138, 139, 140, 155, 156, 157, 158, 159] [(111, 72), (111, 108)] M M24 := hFM18.trans ((w_Mo_net fv23).mono (by simp) (by simp))
  obtain ⟨c25, h⟩ := chk_e h
  obtain ⟨M26, eM26, h⟩ := blet_e h
  have hFM26 : Fr [134, 136, 138, 139, 140, 155, 156, 157, 158, 159] [(111, 72), (111, 108)] M M26 := by rw [eM26]; exact hFM24.stoA (by simp)
  obtain ⟨c27, h⟩ := chk_e h
  obtain ⟨v28, ev28, h⟩ := blet_e h
  obtain ⟨c29, h⟩ := chk_e h
  obtain ⟨v30, ev30, h⟩ := blet_e h
  obtain ⟨c31, h⟩ := chk_e h
  obtain ⟨M32, eM32, h⟩ := blet_e h
  have hFM32 : Fr [134, 136, 138, 139, 140, 155, 156, 157, 158, 159] [(111, 72), (111, 108)] M M32 := by rw [eM32]; exact hFM26.stoA (by simp)
  obtain ⟨c33, h⟩ := chk_e h
  obtain ⟨v34, ev34, h⟩ := blet_e h
  obtain ⟨c35, h⟩ := chk_e h
  obtain ⟨v36, ev36, h⟩ := blet_e h
  obtain ⟨c37, h⟩ := chk_e h
  obtain ⟨v38, ev38, h⟩ := blet_e h
  obtain ⟨v39, M40, fv39, h⟩ := bcall_e h
  have hFM40 : Fr [134, 136, 138, 139, 140, 155, 156, 157, 158, 159] [(111, 72), (111, 108)] M M40 := hFM32.trans ((w_Mo_binAt fv39).mono (by simp) (by simp))
  obtain ⟨c41, h⟩ := chk_e h
  obtain ⟨v42, ev42, h⟩ := blet_e h
  obtain ⟨v43, M44, fv43, h⟩ := bcall_e h
  have hFM44 : Fr [134, 136, 138, 139, 140, 155, 156, 157, 158, 159] [(111, 72), (111, 108)] M M44 := hFM40.trans ((w_Mo_net fv43).mono (by simp) (by simp))
  obtain ⟨c45, h⟩ := chk_e h
  obtain ⟨v46, ev46, h⟩ := blet_e h
  obtain ⟨c47, h⟩ := chk_e h
  obtain ⟨M48, eM48, h⟩ := blet_e h
  have hFM48 : Fr [134, 136, 138, 139, 140, 155, 156, 157, 158, 159] [(111, 72), (111, 108)] M M48 := by rw [eM48]; exact hFM44.stoA (by simp)
  cases h; exact hFM48
theorem w_Mo_parts_172 {R119 : Int → Int → Mem → Res} {R138 : Int → Int → Int → Int → Mem → Res} (hR119 : ∀ (a3 a5 : Int) (M : Mem) (r : Int × Mem), R119 a3 a5 M = some r → Fr [144, 145] [] M r.2) (hR138 : ∀ (a3 a5 a7 a8 : Int) (M : Mem) (r : Int × Mem), R138 a3 a5 a7 a8 M = some r → Fr [144, 145] [] M r.2) {a3 a5 a8 s0 : Int} {M : Mem} {r : Int × Mem} (h : k_Mo_parts_172 R119 R138 a3 a5 a8 s0 M = some r) : Fr [144, 145] [] M r.2 := by
  unfold k_Mo_parts_172 at h
  have hFM : Fr [144, 145] [] M M := Fr.rfl'
  obtain ⟨v1, ev1, h⟩ := blet_e h
  exact hFM.trans (hR138 a3 a5 s0 v1 M r h)
theorem w_Mo_parts_138 {R119 : Int → Int → Mem → Res} {R138 : Int → Int → Int → Int → Mem → Res} (hR119 : ∀ (a3 a5 : Int) (M : Mem) (r : Int × Mem), R119 a3 a5 M = some r → Fr [144, 145] [] M r.2) (hR138 : ∀ (a3 a5 a7 a8 : Int) (M : Mem) (r : Int × Mem), R138 a3 a5 a7 a8 M = some r → Fr [144, 145] [] M r.2) {a3 a5 a7 a8 : Int} {M : Mem} {r : Int × Mem} (h : k_Mo_parts_138 R119 R138 a3 a5 a7 a8 M = some r) : Fr [144, 145] [] M r.2 := by
  unfold k_Mo_parts_138 at h
  have hFM : Fr [144, 145] [] M M := Fr.rfl'
  obtain ⟨v1, ev1, h⟩ := blet_e h
  rcases ite_e h with ⟨c2, h⟩ | ⟨c2, h⟩
  · skip
    obtain ⟨c3, h⟩ := chk_e h
    obtain ⟨v4, ev4, h⟩ := blet_e h
    obtain ⟨c5, h⟩ := chk_e h
    obtain ⟨v6, ev6, h⟩ := blet_e h
    rcases ite_e h with ⟨c7, h⟩ | ⟨c7, h⟩
    · skip
      exact hFM.trans (w_Mo_parts_172 hR119 hR138 h)
    · skip
      exact hFM.trans (w_Mo_parts_172 hR119 hR138 h)
  · skip
    obtain ⟨c8, h⟩ := chk_e h
    obtain ⟨v9, ev9, h⟩ := blet_e h
    obtain ⟨c10, h⟩ := chk_e h
    obtain ⟨M11, eM11, h⟩ := blet_e h
    have hFM11 : Fr [144, 145] [] M M11 := by rw [eM11]; exact hFM.stoA (by simp)
    obtain ⟨c12, h⟩ := chk_e h
    obtain ⟨M13, eM13, h⟩ := blet_e h
    have hFM13 : Fr [144, 145] [] M M13 := by rw [eM13]; exact hFM11.stoA (by simp)
    obtain ⟨v14, ev14, h⟩ := blet_e h
    exact hFM13.trans (hR119 a3 v14 M13 r h)
theorem wl_Mo_parts_138 {R119 : Int → Int → Mem → Res} (hR119 : ∀ (a3 a5 : Int) (M : Mem) (r : Int × Mem), R119 a3 a5 M = some r → Fr [144, 145] [] M r.2) : ∀ (n : Nat) (a3 a5 a7 a8 : Int) (M : Mem) (r : Int × Mem), fix (fun _ _ _ _ _ => none) (k_Mo_parts_138 R119) n a3 a5 a7 a8 M = some r → Fr [144, 145] [] M r.2 := by
  intro n
  induction n with
  | zero => intro a3 a5 a7 a8 M r h; exact nomatch (show (none : Res) = some r from h)
  | succ n ih => intro a3 a5 a7 a8 M r h; exact w_Mo_parts_138 hR119 ih h
theorem w_Mo_parts_119 {R119 : Int → Int → Mem → Res} (hR119 : ∀ (a3 a5 : Int) (M : Mem) (r : Int × Mem), R119 a3 a5 M = some r → Fr [144, 145] [] M r.2) {a3 a5 : Int} {M : Mem} {r : Int × Mem} (h : k_Mo_parts_119 R119 a3 a5 M = some r) : Fr [144, 145] [] M r.2 := by
  unfold k_Mo_parts_119 at h
  have hFM : Fr [144, 145] [] M M := Fr.rfl'
  rcases ite_e h with ⟨c1, h⟩ | ⟨c1, h⟩
  · skip
    rcases ite_e h with ⟨c2, h⟩ | ⟨c2, h⟩
    · skip
      exact hFM.trans (wl_Mo_parts_138 hR119 FU a3 a5 0 1 M r h)
    · skip
      cases h; exact hFM
  · skip
    cases h; exact hFM
theorem wl_Mo_parts_119  : ∀ (n : Nat) (a3 a5 : Int) (M : Mem) (r : Int × Mem), fix (fun _ _ _ => none) (k_Mo_parts_119) n a3 a5 M = some r → Fr [144, 145] [] M r.2 := by
  intro n
  induction n with
  | zero => intro a3 a5 M r h; exact nomatch (show (none : Res) = some r from h)
  | succ n ih => intro a3 a5 M r h; exact w_Mo_parts_119 ih h
theorem w_Mo_parts_100 {R36 : Int → Int → Int → Int → Mem → Res} (hR36 : ∀ (a1 a3 a5 a7 : Int) (M : Mem) (r : Int × Mem), R36 a1 a3 a5 a7 M = some r → Fr [144, 145] [] M r.2) {a1 a3 a5 a7 s1 s2 : Int} {M : Mem} {r : Int × Mem} (h : k_Mo_parts_100 R36 a1 a3 a5 a7 s1 s2 M = some r) : Fr [144, 145] [] M r.2 := by
  unfold k_Mo_parts_100 at h
  have hFM : Fr [144, 145] [] M M := Fr.rfl'
  obtain ⟨c1, h⟩ := chk_e h
  obtain ⟨M2, eM2, h⟩ := blet_e h
  have hFM2 : Fr [144, 145] [] M M2 := by rw [eM2]; exact hFM.stoA (by simp)
  obtain ⟨c3, h⟩ := chk_e h
  obtain ⟨v4, ev4, h⟩ := blet_e h
  obtain ⟨v5, ev5, h⟩ := blet_e h
  obtain ⟨v6, ev6, h⟩ := blet_e h
  exact hFM2.trans (hR36 a1 a3 v5 v6 M2 r h)
theorem w_Mo_parts_72 {R36 : Int → Int → Int → Int → Mem → Res} (hR36 : ∀ (a1 a3 a5 a7 : Int) (M : Mem) (r : Int × Mem), R36 a1 a3 a5 a7 M = some r → Fr [144, 145] [] M r.2) {a1 a3 a5 a7 s1 s2 : Int} {M : Mem} {r : Int × Mem} (h : k_Mo_parts_72 R36 a1 a3 a5 a7 s1 s2 M = some r) : Fr [144, 145] [] M r.2 := by
  unfold k_Mo_parts_72 at h
  have hFM : Fr [144, 145] [] M M := Fr.rfl'
  obtain ⟨c1, h⟩ := chk_e h
  obtain ⟨M2, eM2, h⟩ := blet_e h
  have hFM2 : Fr [144, 145] [] M M2 := by rw [eM2]; exact hFM.stoA (by simp)
  rcases ite_e h with ⟨c3, h⟩ | ⟨c3, h⟩
  · skip
    exact hFM2.trans (w_Mo_parts_100 hR36 h)
  · skip
    obtain ⟨c4, h⟩ := chk_e h
    obtain ⟨v5, ev5, h⟩ := blet_e h
    obtain ⟨c6, h⟩ := chk_e h
    exact hFM2.trans (w_Mo_parts_100 hR36 h)
theorem w_Mo_parts_36 {R36 : Int → Int → Int → Int → Mem → Res} (hR36 : ∀ (a1 a3 a5 a7 : Int) (M : Mem) (r : Int × Mem), R36 a1 a3 a5 a7 M = some r → Fr [144, 145] [] M r.2) {a1 a3 a5 a7 : Int} {M : Mem} {r : Int × Mem} (h : k_Mo_parts_36 R36 a1 a3 a5 a7 M = some r) : Fr [144, 145] [] M r.2 := by
  unfold k_Mo_parts_36 at h
  have hFM : Fr [144, 145] [] M M := Fr.rfl'
  obtain ⟨v1, ev1, h⟩ := blet_e h
  rcases ite_e h with ⟨c2, h⟩ | ⟨c2, h⟩
  · skip
    rcases ite_e h with ⟨c3, h⟩ | ⟨c3, h⟩
    · skip
      exact hFM.trans (w_Mo_parts_72 hR36 h)
    · skip
      obtain ⟨c4, h⟩ := chk_e h
      obtain ⟨v5, ev5, h⟩ := blet_e h
      obtain ⟨c6, h⟩ := chk_e h
      exact hFM.trans (w_Mo_parts_72 hR36 h)
  · skip
    exact hFM.trans (wl_Mo_parts_119 FU a3 a5 M r h)
theorem wl_Mo_parts_36  : ∀ (n : Nat) (a1 a3 a5 a7 : Int) (M : Mem) (r : Int × Mem), fix (fun _ _ _ _ _ => none) (k_Mo_parts_36) n a1 a3 a5 a7 M = some r → Fr [144, 145] [] M r.2 := by
  intro n
  induction n with
  | zero => intro a1 a3 a5 a7 M r h; exact nomatch (show (none : Res) = some r from h)
  | succ n ih => intro a1 a3 a5 a7 M r h; exact w_Mo_parts_36 ih h
theorem w_Mo_parts_5 {R5 : Int → Int → Int → Mem → Res} (hR5 : ∀ (a1 a3 a5 : Int) (M : Mem) (r : Int × Mem), R5 a1 a3 a5 M = some r → Fr [144, 145] [] M r.2) {a1 a3 a5 : Int} {M : Mem} {r : Int × Mem} (h : k_Mo_parts_5 R5 a1 a3 a5 M = some r) : Fr [144, 145] [] M r.2 := by
  unfold k_Mo_parts_5 at h
  have hFM : Fr [144, 145] [] M M := Fr.rfl'
  obtain ⟨v1, ev1, h⟩ := blet_e h
  rcases ite_e h with ⟨c2, h⟩ | ⟨c2, h⟩
  · skip
    obtain ⟨c3, h⟩ := chk_e h
    obtain ⟨v4, ev4, h⟩ := blet_e h
    obtain ⟨v5, ev5, h⟩ := blet_e h
    obtain ⟨v6, ev6, h⟩ := blet_e h
    exact hFM.trans (hR5 a1 v5 v6 M r h)
  · skip
    exact hFM.trans (wl_Mo_parts_36 FU a1 a3 a1 0 M r h)
theorem wl_Mo_parts_5  : ∀ (n : Nat) (a1 a3 a5 : Int) (M : Mem) (r : Int × Mem), fix (fun _ _ _ _ => none) (k_Mo_parts_5) n a1 a3 a5 M = some r → Fr [144, 145] [] M r.2 := by
  intro n
  induction n with
  | zero => intro a1 a3 a5 M r h; exact nomatch (show (none : Res) = some r from h)
  | succ n ih => intro a1 a3 a5 M r h; exact w_Mo_parts_5 ih h
theorem w_Mo_parts {a1 : Int} {M : Mem} {r : Int × Mem} (h : d_Mo_parts a1 M = some r) : Fr [144, 145] [] M r.2 := by
  unfold d_Mo_parts at h
  have hFM : Fr [144, 145] [] M M := Fr.rfl'
  exact hFM.trans (wl_Mo_parts_5 FU a1 0 0 M r h)
theorem w_Mo_takeBin_48 {R6 : Int → Int → Int → Int → Int → Mem → Res} (hR6 : ∀ (a1 a2 a3 a4 a5 : Int) (M : Mem) (r : Int × Mem), R6 a1 a2 a3 a4 a5 M = some r → Fr [143, 144, 145] [(111, 39)] M r.2) {a1 a2 a3 a4 a5 s1 s2 : Int} {M : Mem} {r : Int × Mem} (h : k_Mo_takeBin_48 R6 a1 a2 a3 a4 a5 s1 s2 M = some r) : Fr [143, 144, 145] [(111, 39)] M r.2 := by
  unfold k_Mo_takeBin_48 at h
  have hFM : Fr [143, 144, 145] [(111, 39)] M M := Fr.rfl'
  obtain ⟨c1, h⟩ := chk_e h
  obtain ⟨M2, eM2, h⟩ := blet_e h
  have hFM2 : Fr [143, 144, 145] [(111, 39)] M M2 := by rw [eM2]; exact hFM.stoA (by simp)
  obtain ⟨c3, h⟩ := chk_e h
  obtain ⟨v4, ev4, h⟩ := blet_e h
  obtain ⟨v5, ev5, h⟩ := blet_e h
  obtain ⟨v6, ev6, h⟩ := blet_e h
  exact hFM2.trans (hR6 a1 a2 a3 v5 v6 M2 r h)
theorem w_Mo_takeBin_6 {R6 : Int → Int → Int → Int → Int → Mem → Res} (hR6 : ∀ (a1 a2 a3 a4 a5 : Int) (M : Mem) (r : Int × Mem), R6 a1 a2 a3 a4 a5 M = some r → Fr [143, 144, 145] [(111, 39)] M r.2) {a1 a2 a3 a4 a5 : Int} {M : Mem} {r : Int × Mem} (h : k_Mo_takeBin_6 R6 a1 a2 a3 a4 a5 M = some r) : Fr [143, 144, 145] [(111, 39)] M r.2 := by
  unfold k_Mo_takeBin_6 at h
  have hFM : Fr [143, 144, 145] [(111, 39)] M M := Fr.rfl'
  obtain ⟨v1, ev1, h⟩ := blet_e h
  rcases ite_e h with ⟨c2, h⟩ | ⟨c2, h⟩
  · skip
    rcases ite_e h with ⟨c3, h⟩ | ⟨c3, h⟩
    · skip
      obtain ⟨c4, h⟩ := chk_e h
      obtain ⟨v5, ev5, h⟩ := blet_e h
      exact hFM.trans (w_Mo_takeBin_48 hR6 h)
    · skip
      obtain ⟨c6, h⟩ := chk_e h
      obtain ⟨v7, ev7, h⟩ := blet_e h
      exact hFM.trans (w_Mo_takeBin_48 hR6 h)
  · skip
    obtain ⟨v8, ev8, h⟩ := blet_e h
    obtain ⟨v9, ev9, h⟩ := blet_e h
    obtain ⟨M10, eM10, h⟩ := blet_e h
    have hFM10 : Fr [143, 144, 145] [(111, 39)] M M10 := by rw [eM10]; exact hFM.stoF (by simp)
    obtain ⟨v11, M12, fv11, h⟩ := bcall_e h
    have hFM12 : Fr [143, 144, 145] [(111, 39)] M M12 := hFM10.trans ((w_Mo_parts fv11).mono (by simp) (by simp))
    cases h; exact hFM12
theorem wl_Mo_takeBin_6  : ∀ (n : Nat) (a1 a2 a3 a4 a5 : Int) (M : Mem) (r : Int × Mem), fix (fun _ _ _ _ _ _ => none) (k_Mo_takeBin_6) n a1 a2 a3 a4 a5 M = some r → Fr [143, 144, 145] [(111, 39)] M r.2 := by
  intro n
  induction n with
  | zero => intro a1 a2 a3 a4 a5 M r h; exact nomatch (show (none : Res) = some r from h)
  | succ n ih => intro a1 a2 a3 a4 a5 M r h; exact w_Mo_takeBin_6 ih h
theorem w_Mo_takeBin {a1 a2 a3 : Int} {M : Mem} {r : Int × Mem} (h : d_Mo_takeBin a1 a2 a3 M = some r) : Fr [143, 144, 145] [(111, 39)] M r.2 := by
  unfold d_Mo_takeBin at h
  have hFM : Fr [143, 144, 145] [(111, 39)] M M := Fr.rfl'
  exact hFM.trans (wl_Mo_takeBin_6 FU a1 a2 a3 0 0 M r h)
theorem w_Mo_playOther_201 {R59 : Int → Int → Int → Int → Mem → Res} (hR59 : ∀ (a1 a2 a3 a4 : Int) (M : Mem) (r : Int × Mem), R59 a1 a2 a3 a4 M = some r → Fr [134, 135, 137, 141, 142, 143, 144, 145] [(111, 39)] M r.2) {a1 a2 a3 a4 s1 s2 s3 : Int} {M : Mem} {r : Int × Mem} (h : k_Mo_playOther_201 R59 a1 a2 a3 a4 s1 s2 s3 M = some r) : Fr [134, 135, 137, 141, 142, 143, 144, 145] [(111, 39)] M r.2 := by
  unfold k_Mo_playOther_201 at h
  have hFM : Fr [134, 135, 137, 141, 142, 143, 144, 145] [(111, 39)] M M := Fr.rfl'
  obtain ⟨c1, h⟩ := chk_e h
  obtain ⟨M2, eM2, h⟩ := blet_e h
  have hFM2 : Fr [134, 135, 137, 141, 142, 143, 144, 145] [(111, 39)] M M2 := by rw [eM2]; exact hFM.stoA (by simp)
  obtain ⟨v3, ev3, h⟩ := blet_e h
  exact hFM2.trans (hR59 a1 a2 a3 v3 M2 r h)
theorem w_Mo_playOther_175 {R59 : Int → Int → Int → Int → Mem → Res} (hR59 : ∀ (a1 a2 a3 a4 : Int) (M : Mem) (r : Int × Mem), R59 a1 a2 a3 a4 M = some r → Fr [134, 135, 137, 141, 142, 143, 144, 145] [(111, 39)] M r.2) {a1 a2 a3 a4 a5 s1 s2 s3 : Int} {M : Mem} {r : Int × Mem} (h : k_Mo_playOther_175 R59 a1 a2 a3 a4 a5 s1 s2 s3 M = some r) : Fr [134, 135, 137, 141, 142, 143, 144, 145] [(111, 39)] M r.2 := by
  unfold k_Mo_playOther_175 at h
  have hFM : Fr [134, 135, 137, 141, 142, 143, 144, 145] [(111, 39)] M M := Fr.rfl'
  obtain ⟨c1, h⟩ := chk_e h
  obtain ⟨M2, eM2, h⟩ := blet_e h
  have hFM2 : Fr [134, 135, 137, 141, 142, 143, 144, 145] [(111, 39)] M M2 := by rw [eM2]; exact hFM.stoA (by simp)
  obtain ⟨c3, h⟩ := chk_e h
  obtain ⟨v4, ev4, h⟩ := blet_e h
  obtain ⟨c5, h⟩ := chk_e h
  obtain ⟨v6, ev6, h⟩ := blet_e h
  rcases ite_e h with ⟨c7, h⟩ | ⟨c7, h⟩
  · skip
    exact hFM2.trans (w_Mo_playOther_201 hR59 h)
  · skip
    exact hFM2.trans (w_Mo_playOther_201 hR59 h)
theorem w_Mo_playOther_157 {R59 : Int → Int → Int → Int → Mem → Res} (hR59 : ∀ (a1 a2 a3 a4 : Int) (M : Mem) (r : Int × Mem), R59 a1 a2 a3 a4 M = some r → Fr [134, 135, 137, 141, 142, 143, 144, 145] [(111, 39)] M r.2) {a1 a2 a3 a4 a5 : Int} {M : Mem} {r : Int × Mem} (h : k_Mo_playOther_157 R59 a1 a2 a3 a4 a5 M = some r) : Fr [134, 135, 137, 141, 142, 143, 144, 145] [(111, 39)] M r.2 := by
  unfold k_Mo_playOther_157 at h
  have hFM : Fr [134, 135, 137, 141, 142, 143, 144, 145] [(111, 39)] M M := Fr.rfl'
  obtain ⟨c1, h⟩ := chk_e h
  obtain ⟨v2, ev2, h⟩ := blet_e h
  rcases ite_e h with ⟨c3, h⟩ | ⟨c3, h⟩
  · skip
    exact hFM.trans (w_Mo_playOther_175 hR59 h)
  · skip
    exact hFM.trans (w_Mo_playOther_175 hR59 h)
theorem w_Mo_playOther_113 {R59 : Int → Int → Int → Int → Mem → Res} (hR59 : ∀ (a1 a2 a3 a4 : Int) (M : Mem) (r : Int × Mem), R59 a1 a2 a3 a4 M = some r → Fr [134, 135, 137, 141, 142, 143, 144, 145] [(111, 39)] M r.2) {a1 a2 a3 a4 a5 : Int} {M : Mem} {r : Int × Mem} (h : k_Mo_playOther_113 R59 a1 a2 a3 a4 a5 M = some r) : Fr [134, 135, 137, 141, 142, 143, 144, 145] [(111, 39)] M r.2 := by
  unfold k_Mo_playOther_113 at h
  have hFM : Fr [134, 135, 137, 141, 142, 143, 144, 145] [(111, 39)] M M := Fr.rfl'
  obtain ⟨c1, h⟩ := chk_e h
  obtain ⟨v2, ev2, h⟩ := blet_e h
  rcases ite_e h with ⟨c3, h⟩ | ⟨c3, h⟩
  · skip
    obtain ⟨c4, h⟩ := chk_e h
    obtain ⟨v5, ev5, h⟩ := blet_e h
    obtain ⟨c6, h⟩ := chk_e h
    obtain ⟨v7, ev7, h⟩ := blet_e h
    obtain ⟨c8, h⟩ := chk_e h
    obtain ⟨v9, ev9, h⟩ := blet_e h
    obtain ⟨v10, M11, fv10, h⟩ := bcall_e h
    have hFM11 : Fr [134, 135, 137, 141, 142, 143, 144, 145] [(111, 39)] M M11 := hFM.trans ((w_Mo_binAt fv10).mono (by simp) (by simp))
    obtain ⟨c12, h⟩ := chk_e h
    obtain ⟨v13, ev13, h⟩ := blet_e h
    obtain ⟨c14, h⟩ := chk_e h
    obtain ⟨M15, eM15, h⟩ := blet_e h
    have hFM15 : Fr [134, 135, 137, 141, 142, 143, 144, 145] [(111, 39)] M M15 := by rw [eM15]; exact hFM11.stoA (by simp)
    exact hFM15.trans (w_Mo_playOther_157 hR59 h)
  · skip
    exact hFM.trans (w_Mo_playOther_157 hR59 h)
theorem w_Mo_playOther_59 {R59 : Int → Int → Int → Int → Mem → Res} (hR59 : ∀ (a1 a2 a3 a4 : Int) (M : Mem) (r : Int × Mem), R59 a1 a2 a3 a4 M = some r → Fr [134, 135, 137, 141, 142, 143, 144, 145] [(111, 39)] M r.2) {a1 a2 a3 a4 : Int} {M : Mem} {r : Int × Mem} (h : k_Mo_playOther_59 R59 a1 a2 a3 a4 M = some r) : Fr [134, 135, 137, 141, 142, 143, 144, 145] [(111, 39)] M r.2 := by
  unfold k_Mo_playOther_59 at h
  have hFM : Fr [134, 135, 137, 141, 142, 143, 144, 145] [(111, 39)] M M := Fr.rfl'
  obtain ⟨v1, ev1, h⟩ := blet_e h
  rcases ite_e h with ⟨c2, h⟩ | ⟨c2, h⟩
  · skip
    obtain ⟨c3, h⟩ := chk_e h
    obtain ⟨v4, ev4, h⟩ := blet_e h
    rcases ite_e h with ⟨c5, h⟩ | ⟨c5, h⟩
    · skip
      obtain ⟨c6, h⟩ := chk_e h
      obtain ⟨v7, ev7, h⟩ := blet_e h
      obtain ⟨c8, h⟩ := chk_e h
      obtain ⟨M9, eM9, h⟩ := blet_e h
      have hFM9 : Fr [134, 135, 137, 141, 142, 143, 144, 145] [(111, 39)] M M9 := by rw [eM9]; exact hFM.stoA (by simp)
      exact hFM9.trans (w_Mo_playOther_113 hR59 h)
    · skip
      obtain ⟨c10, h⟩ := chk_e h
      obtain ⟨v11, ev11, h⟩ := blet_e h
      obtain ⟨c12, h⟩ := chk_e h
      obtain ⟨M13, eM13, h⟩ := blet_e h
      have hFM13 : Fr [134, 135, 137, 141, 142, 143, 144, 145] [(111, 39)] M M13 := by rw [eM13]; exact hFM.stoA (by simp)
      exact hFM13.trans (w_Mo_playOther_113 hR59 h)
  · skip
    cases h; exact hFM
theorem wl_Mo_playOther_59  : ∀ (n : Nat) (a1 a2 a3 a4 : Int) (M : Mem) (r : Int × Mem), fix (fun _ _ _ _ _ => none) (k_Mo_playOther_59) n a1 a2 a3 a4 M = some r → Fr [134, 135, 137, 141, 142, 143, 144, 145] [(111, 39)] M r.2 := by
  intro n
  induction n with
  | zero => intro a1 a2 a3 a4 M r h; exact nomatch (show (none : Res) = some r from h)
  | succ n ih => intro a1 a2 a3 a4 M r h; exact w_Mo_playOther_59 ih h
theorem w_Mo_playOther_15  {a1 s0 : Int} {M : Mem} {r : Int × Mem} (h : k_Mo_playOther_15 a1 s0 M = some r) : Fr [134, 135, 137, 141, 142, 143, 144, 145] [(111, 39)] M r.2 := by
  unfold k_Mo_playOther_15 at h
  have hFM : Fr [134, 135, 137, 141, 142, 143, 144, 145] [(111, 39)] M M := Fr.rfl'
  obtain ⟨c1, h⟩ := chk_e h
  obtain ⟨v2, ev2, h⟩ := blet_e h
  obtain ⟨c3, h⟩ := chk_e h
  obtain ⟨v4, ev4, h⟩ := blet_e h
  obtain ⟨c5, h⟩ := chk_e h
  obtain ⟨v6, ev6, h⟩ := blet_e h
  obtain ⟨v7, M8, fv7, h⟩ := bcall_e h
  have hFM8 : Fr [134, 135, 137, 141, 142, 143, 144, 145] [(111, 39)] M M8 := hFM.trans ((w_Mo_binAt fv7).mono (by simp) (by simp))
  obtain ⟨c9, h⟩ := chk_e h
  obtain ⟨v10, ev10, h⟩ := blet_e h
  obtain ⟨v11, M12, fv11, h⟩ := bcall_e h
  have hFM12 : Fr [134, 135, 137, 141, 142, 143, 144, 145] [(111, 39)] M M12 := hFM8.trans ((w_Mo_takeBin fv11).mono (by simp) (by simp))
  obtain ⟨c13, h⟩ := chk_e h
  obtain ⟨M14, eM14, h⟩ := blet_e h
  have hFM14 : Fr [134, 135, 137, 141, 142, 143, 144, 145] [(111, 39)] M M14 := by rw [eM14]; exact hFM12.stoA (by simp)
  exact hFM14.trans (wl_Mo_playOther_59 FU a1 s0 v7 0 M14 r h)
theorem w_Mo_playOther {a1 : Int} {M : Mem} {r : Int × Mem} (h : d_Mo_playOther a1 M = some r) : Fr [134, 135, 137, 141, 142, 143, 144, 145] [(111, 39)] M r.2 := by
  unfold d_Mo_playOther at h
  have hFM : Fr [134, 135, 137, 141, 142, 143, 144, 145] [(111, 39)] M M := Fr.rfl'
  obtain ⟨c1, h⟩ := chk_e h
  obtain ⟨v2, ev2, h⟩ := blet_e h
  rcases ite_e h with ⟨c3, h⟩ | ⟨c3, h⟩
  · skip
    exact hFM.trans (w_Mo_playOther_15 h)
  · skip
    exact hFM.trans (w_Mo_playOther_15 h)
theorem w_Mo_play_151 {R93 : Int → Int → Mem → Res} (hR93 : ∀ (a1 a2 : Int) (M : Mem) (r : Int × Mem), R93 a1 a2 M = some r → Fr [134, 135, 136, 137, 138, 139, 140, 141, 142, 143, 144, 145, 155, 156, 157, 158, 159] [(111, 39), (111, 72), (111, 108)] M r.2) {a1 a2 : Int} {M : Mem} {r : Int × Mem} (h : k_Mo_play_151 R93 a1 a2 M = some r) : Fr [134, 135, 136, 137, 138, 139, 140, 141, 142, 143, 144, 145, 155, 156, 157, 158, 159] [(111, 39), (111, 72), (111, 108)] M r.2 := by
  unfold k_Mo_play_151 at h
  have hFM : Fr [134, 135, 136, 137, 138, 139, 140, 141, 142, 143, 144, 145, 155, 156, 157, 158, 159] [(111, 39), (111, 72), (111, 108)] M M := Fr.rfl'
  obtain ⟨v1, ev1, h⟩ := blet_e h
  exact hFM.trans (hR93 a1 v1 M r h)
theorem w_Mo_play_93 {R93 : Int → Int → Mem → Res} (hR93 : ∀ (a1 a2 : Int) (M : Mem) (r : Int × Mem), R93 a1 a2 M = some r → Fr [134, 135, 136, 137, 138, 139, 140, 141, 142, 143, 144, 145, 155, 156, 157, 158, 159] [(111, 39), (111, 72), (111, 108)] M r.2) {a1 a2 : Int} {M : Mem} {r : Int × Mem} (h : k_Mo_play_93 R93 a1 a2 M = some r) : Fr [134, 135, 136, 137, 138, 139, 140, 141, 142, 143, 144, 145, 155, 156, 157, 158, 159] [(111, 39), (111, 72), (111, 108)] M r.2 := by
  unfold k_Mo_play_93 at h
  have hFM : Fr [134, 135, 136, 137, 138, 139, 140, 141, 142, 143, 144, 145, 155, 156, 157, 158, 159] [(111, 39), (111, 72), (111, 108)] M M := Fr.rfl'
  obtain ⟨v1, ev1, h⟩ := blet_e h
  rcases ite_e h with ⟨c2, h⟩ | ⟨c2, h⟩
  · skip
    obtain ⟨c3, h⟩ := chk_e h
    obtain ⟨M4, eM4, h⟩ := blet_e h
    have hFM4 : Fr [134, 135, 136, 137, 138, 139, 140, 141, 142, 143, 144, 145, 155, 156, 157, 158, 159] [(111, 39), (111, 72), (111, 108)] M M4 := by rw [eM4]; exact hFM.stoA (by simp)
    obtain ⟨c5, h⟩ := chk_e h
    obtain ⟨M6, eM6, h⟩ := blet_e h
    have hFM6 : Fr [134, 135, 136, 137, 138, 139, 140, 141, 142, 143, 144, 145, 155, 156, 157, 158, 159] [(111, 39), (111, 72), (111, 108)] M M6 := by rw [eM6]; exact hFM4.stoA (by simp)
    obtain ⟨c7, h⟩ := chk_e h
    obtain ⟨v8, ev8, h⟩ := blet_e h
    rcases ite_e h with ⟨c9, h⟩ | ⟨c9, h⟩
    · skip
      exact hFM6.trans (w_Mo_play_151 hR93 h)
    · skip
      obtain ⟨c10, h⟩ := chk_e h
      obtain ⟨v11, ev11, h⟩ := blet_e h
      rcases ite_e h with ⟨c12, h⟩ | ⟨c12, h⟩
      · skip
        obtain ⟨v13, M14, fv13, h⟩ := bcall_e h
        have hFM14 : Fr [134, 135, 136, 137, 138, 139, 140, 141, 142, 143, 144, 145, 155, 156, 157, 158, 159] [(111, 39), (111, 72), (111, 108)] M M14 := hFM6.trans ((w_Mo_playLoad fv13).mono (by simp) (by simp))
        exact hFM14.trans (w_Mo_play_151 hR93 h)
      · skip
        obtain ⟨v15, M16, fv15, h⟩ := bcall_e h
        have hFM16 : Fr [134, 135, 136, 137, 138, 139, 140, 141, 142, 143, 144, 145, 155, 156, 157, 158, 159] [(111, 39), (111, 72), (111, 108)] M M16 := hFM6.trans ((w_Mo_playOther fv15).mono (by simp) (by simp))
        exact hFM16.trans (w_Mo_play_151 hR93 h)
  · skip
    cases h; exact hFM
theorem wl_Mo_play_93  : ∀ (n : Nat) (a1 a2 : Int) (M : Mem) (r : Int × Mem), fix (fun _ _ _ => none) (k_Mo_play_93) n a1 a2 M = some r → Fr [134, 135, 136, 137, 138, 139, 140, 141, 142, 143, 144, 145, 155, 156, 157, 158, 159] [(111, 39), (111, 72), (111, 108)] M r.2 := by
  intro n
  induction n with
  | zero => intro a1 a2 M r h; exact nomatch (show (none : Res) = some r from h)
  | succ n ih => intro a1 a2 M r h; exact w_Mo_play_93 ih h
theorem w_Mo_play_46 {R46 : Int → Int → Mem → Res} (hR46 : ∀ (a1 a2 : Int) (M : Mem) (r : Int × Mem), R46 a1 a2 M = some r → Fr [134, 135, 136, 137, 138, 139, 140, 141, 142, 143, 144, 145, 155, 156, 157, 158, 159] [(111, 39), (111, 72), (111, 108)] M r.2) {a1 a2 : Int} {M : Mem} {r : Int × Mem} (h : k_Mo_play_46 R46 a1 a2 M = some r) : Fr [134, 135, 136, 137, 138, 139, 140, 141, 142, 143, 144, 145, 155, 156, 157, 158, 159] [(111, 39), (111, 72), (111, 108)] M r.2 := by
  unfold k_Mo_play_46 at h
  have hFM : Fr [134, 135, 136, 137, 138, 139, 140, 141, 142, 143, 144, 145, 155, 156, 157, 158, 159] [(111, 39), (111, 72), (111, 108)] M M := Fr.rfl'
  rcases ite_e h with ⟨c1, h⟩ | ⟨c1, h⟩
  · skip
    obtain ⟨c2, h⟩ := chk_e h
    obtain ⟨M3, eM3, h⟩ := blet_e h
    have hFM3 : Fr [134, 135, 136, 137, 138, 139, 140, 141, 142, 143, 144, 145, 155, 156, 157, 158, 159] [(111, 39), (111, 72), (111, 108)] M M3 := by rw [eM3]; exact hFM.stoA (by simp)
    obtain ⟨c4, h⟩ := chk_e h
    obtain ⟨M5, eM5, h⟩ := blet_e h
    have hFM5 : Fr [134, 135, 136, 137, 138, 139, 140, 141, 142, 143, 144, 145, 155, 156, 157, 158, 159] [(111, 39), (111, 72), (111, 108)] M M5 := by rw [eM5]; exact hFM3.stoA (by simp)
    obtain ⟨c6, h⟩ := chk_e h
    obtain ⟨M7, eM7, h⟩ := blet_e h
    have hFM7 : Fr [134, 135, 136, 137, 138, 139, 140, 141, 142, 143, 144, 145, 155, 156, 157, 158, 159] [(111, 39), (111, 72), (111, 108)] M M7 := by rw [eM7]; exact hFM5.stoA (by simp)
    obtain ⟨c8, h⟩ := chk_e h
    obtain ⟨M9, eM9, h⟩ := blet_e h
    have hFM9 : Fr [134, 135, 136, 137, 138, 139, 140, 141, 142, 143, 144, 145, 155, 156, 157, 158, 159] [(111, 39), (111, 72), (111, 108)] M M9 := by rw [eM9]; exact hFM7.stoA (by simp)
    obtain ⟨v10, ev10, h⟩ := blet_e h
    exact hFM9.trans (hR46 a1 v10 M9 r h)
  · skip
    obtain ⟨M11, eM11, h⟩ := blet_e h
    have hFM11 : Fr [134, 135, 136, 137, 138, 139, 140, 141, 142, 143, 144, 145, 155, 156, 157, 158, 159] [(111, 39), (111, 72), (111, 108)] M M11 := by rw [eM11]; exact hFM.stoF (by simp)
    exact hFM11.trans (wl_Mo_play_93 FU a1 0 M11 r h)
theorem wl_Mo_play_46  : ∀ (n : Nat) (a1 a2 : Int) (M : Mem) (r : Int × Mem), fix (fun _ _ _ => none) (k_Mo_play_46) n a1 a2 M = some r → Fr [134, 135, 136, 137, 138, 139, 140, 141, 142, 143, 144, 145, 155, 156, 157, 158, 159] [(111, 39), (111, 72), (111, 108)] M r.2 := by
  intro n
  induction n with
  | zero => intro a1 a2 M r h; exact nomatch (show (none : Res) = some r from h)
  | succ n ih => intro a1 a2 M r h; exact w_Mo_play_46 ih h
theorem w_Mo_play_24 {R24 : Int → Int → Mem → Res} (hR24 : ∀ (a1 a2 : Int) (M : Mem) (r : Int × Mem), R24 a1 a2 M = some r → Fr [134, 135, 136, 137, 138, 139, 140, 141, 142, 143, 144, 145, 155, 156, 157, 158, 159] [(111, 39), (111, 72), (111, 108)] M r.2) {a1 a2 : Int} {M : Mem} {r : Int × Mem} (h : k_Mo_play_24 R24 a1 a2 M = some r) : Fr [134, 135, 136, 137, 138, 139, 140, 141, 142, 143, 144, 145, 155, 156, 157, 158, 159] [(111, 39), (111, 72), (111, 108)] M r.2 := by
  unfold k_Mo_play_24 at h
  have hFM : Fr [134, 135, 136, 137, 138, 139, 140, 141, 142, 143, 144, 145, 155, 156, 157, 158, 159] [(111, 39), (111, 72), (111, 108)] M M := Fr.rfl'
  rcases ite_e h with ⟨c1, h⟩ | ⟨c1, h⟩
  · skip
    obtain ⟨c2, h⟩ := chk_e h
    obtain ⟨M3, eM3, h⟩ := blet_e h
    have hFM3 : Fr [134, 135, 136, 137, 138, 139, 140, 141, 142, 143, 144, 145, 155, 156, 157, 158, 159] [(111, 39), (111, 72), (111, 108)] M M3 := by rw [eM3]; exact hFM.stoA (by simp)
    obtain ⟨v4, ev4, h⟩ := blet_e h
    exact hFM3.trans (hR24 a1 v4 M3 r h)
  · skip
    exact hFM.trans (wl_Mo_play_46 FU a1 0 M r h)
theorem wl_Mo_play_24  : ∀ (n : Nat) (a1 a2 : Int) (M : Mem) (r : Int × Mem), fix (fun _ _ _ => none) (k_Mo_play_24) n a1 a2 M = some r → Fr [134, 135, 136, 137, 138, 139, 140, 141, 142, 143, 144, 145, 155, 156, 157, 158, 159] [(111, 39), (111, 72), (111, 108)] M r.2 := by
  intro n
  induction n with
  | zero => intro a1 a2 M r h; exact nomatch (show (none : Res) = some r from h)
  | succ n ih => intro a1 a2 M r h; exact w_Mo_play_24 ih h
theorem w_Mo_play_2 {R2 : Int → Int → Mem → Res} (hR2 : ∀ (a1 a2 : Int) (M : Mem) (r : Int × Mem), R2 a1 a2 M = some r → Fr [134, 135, 136, 137, 138, 139, 140, 141, 142, 143, 144, 145, 155, 156, 157, 158, 159] [(111, 39), (111, 72), (111, 108)] M r.2) {a1 a2 : Int} {M : Mem} {r : Int × Mem} (h : k_Mo_play_2 R2 a1 a2 M = some r) : Fr [134, 135, 136, 137, 138, 139, 140, 141, 142, 143, 144, 145, 155, 156, 157, 158, 159] [(111, 39), (111, 72), (111, 108)] M r.2 := by
  unfold k_Mo_play_2 at h
  have hFM : Fr [134, 135, 136, 137, 138, 139, 140, 141, 142, 143, 144, 145, 155, 156, 157, 158, 159] [(111, 39), (111, 72), (111, 108)] M M := Fr.rfl'
  rcases ite_e h with ⟨c1, h⟩ | ⟨c1, h⟩
  · skip
    obtain ⟨c2, h⟩ := chk_e h
    obtain ⟨M3, eM3, h⟩ := blet_e h
    have hFM3 : Fr [134, 135, 136, 137, 138, 139, 140, 141, 142, 143, 144, 145, 155, 156, 157, 158, 159] [(111, 39), (111, 72), (111, 108)] M M3 := by rw [eM3]; exact hFM.stoA (by simp)
    obtain ⟨v4, ev4, h⟩ := blet_e h
    exact hFM3.trans (hR2 a1 v4 M3 r h)
  · skip
    exact hFM.trans (wl_Mo_play_24 FU a1 0 M r h)
theorem wl_Mo_play_2  : ∀ (n : Nat) (a1 a2 : Int) (M : Mem) (r : Int × Mem), fix (fun _ _ _ => none) (k_Mo_play_2) n a1 a2 M = some r → Fr [134, 135, 136, 137, 138, 139, 140, 141, 142, 143, 144, 145, 155, 156, 157, 158, 159] [(111, 39), (111, 72), (111, 108)] M r.2 := by
  intro n
  induction n with
  | zero => intro a1 a2 M r h; exact nomatch (show (none : Res) = some r from h)
  | succ n ih => intro a1 a2 M r h; exact w_Mo_play_2 ih h
theorem w_Mo_play {a1 : Int} {M : Mem} {r : Int × Mem} (h : d_Mo_play a1 M = some r) : Fr [134, 135, 136, 137, 138, 139, 140, 141, 142, 143, 144, 145, 155, 156, 157, 158, 159] [(111, 39), (111, 72), (111, 108)] M r.2 := by
  unfold d_Mo_play at h
  have hFM : Fr [134, 135, 136, 137, 138, 139, 140, 141, 142, 143, 144, 145, 155, 156, 157, 158, 159] [(111, 39), (111, 72), (111, 108)] M M := Fr.rfl'
  exact hFM.trans (wl_Mo_play_2 FU a1 0 M r h)
theorem w_Mo_bin_113 {R73 : Int → Int → Int → Int → Int → Int → Mem → Res} (hR73 : ∀ (a1 a2 a3 a4 a6 a7 : Int) (M : Mem) (r : Int × Mem), R73 a1 a2 a3 a4 a6 a7 M = some r → Fr [134, 135, 136, 137, 138, 139, 140, 141, 142, 143, 144, 145, 155, 156, 157, 158, 159] [(111, 0), (111, 1), (111, 39), (111, 72), (111, 108)] M r.2) {a1 a2 a3 a4 a7 s0 s1 : Int} {M : Mem} {r : Int × Mem} (h : k_Mo_bin_113 R73 a1 a2 a3 a4 a7 s0 s1 M = some r) : Fr [134, 135, 136, 137, 138, 139, 140, 141, 142, 143, 144, 145, 155, 156, 157, 158, 159] [(111, 0), (111, 1), (111, 39), (111, 72), (111, 108)] M r.2 := by
  unfold k_Mo_bin_113 at h
  have hFM : Fr [134, 135, 136, 137, 138, 139, 140, 141, 142, 143, 144, 145, 155, 156, 157, 158, 159] [(111, 0), (111, 1), (111, 39), (111, 72), (111, 108)] M M := Fr.rfl'
  obtain ⟨v1, ev1, h⟩ := blet_e h
  obtain ⟨v2, ev2, h⟩ := blet_e h
  exact hFM.trans (hR73 a1 a2 a3 a4 v1 v2 M r h)
theorem w_Mo_bin_95 {R73 : Int → Int → Int → Int → Int → Int → Mem → Res} (hR73 : ∀ (a1 a2 a3 a4 a6 a7 : Int) (M : Mem) (r : Int × Mem), R73 a1 a2 a3 a4 a6 a7 M = some r → Fr [134, 135, 136, 137, 138, 139, 140, 141, 142, 143, 144, 145, 155, 156, 157, 158, 159] [(111, 0), (111, 1), (111, 39), (111, 72), (111, 108)] M r.2) {a1 a2 a3 a4 a7 s0 : Int} {M : Mem} {r : Int × Mem} (h : k_Mo_bin_95 R73 a1 a2 a3 a4 a7 s0 M = some r) : Fr [134, 135, 136, 137, 138, 139, 140, 141, 142, 143, 144, 145, 155, 156, 157, 158, 159] [(111, 0), (111, 1), (111, 39), (111, 72), (111, 108)] M r.2 := by
  unfold k_Mo_bin_95 at h
  have hFM : Fr [134, 135, 136, 137, 138, 139, 140, 141, 142, 143, 144, 145, 155, 156, 157, 158, 159] [(111, 0), (111, 1), (111, 39), (111, 72), (111, 108)] M M := Fr.rfl'
  obtain ⟨v1, M2, fv1, h⟩ := bcall_e h
  have hFM2 : Fr [134, 135, 136, 137, 138, 139, 140, 141, 142, 143, 144, 145, 155, 156, 157, 158, 159] [(111, 0), (111, 1), (111, 39), (111, 72), (111, 108)] M M2 := hFM.trans ((w_Mo_binAt fv1).mono (by simp) (by simp))
  obtain ⟨c3, h⟩ := chk_e h
  obtain ⟨v4, ev4, h⟩ := blet_e h
  exact hFM2.trans (w_Mo_bin_113 hR73 h)
theorem w_Mo_bin_73 {R73 : Int → Int → Int → Int → Int → Int → Mem → Res} (hR73 : ∀ (a1 a2 a3 a4 a6 a7 : Int) (M : Mem) (r : Int × Mem), R73 a1 a2 a3 a4 a6 a7 M = some r → Fr [134, 135, 136, 137, 138, 139, 140, 141, 142, 143, 144, 145, 155, 156, 157, 158, 159] [(111, 0), (111, 1), (111, 39), (111, 72), (111, 108)] M r.2) {a1 a2 a3 a4 a6 a7 : Int} {M : Mem} {r : Int × Mem} (h : k_Mo_bin_73 R73 a1 a2 a3 a4 a6 a7 M = some r) : Fr [134, 135, 136, 137, 138, 139, 140, 141, 142, 143, 144, 145, 155, 156, 157, 158, 159] [(111, 0), (111, 1), (111, 39), (111, 72), (111, 108)] M r.2 := by
  unfold k_Mo_bin_73 at h
  have hFM : Fr [134, 135, 136, 137, 138, 139, 140, 141, 142, 143, 144, 145, 155, 156, 157, 158, 159] [(111, 0), (111, 1), (111, 39), (111, 72), (111, 108)] M M := Fr.rfl'
  rcases ite_e h with ⟨c1, h⟩ | ⟨c1, h⟩
  · skip
    rcases ite_e h with ⟨c2, h⟩ | ⟨c2, h⟩
    · skip
      exact hFM.trans (w_Mo_bin_95 hR73 h)
    · skip
      rcases ite_e h with ⟨c3, h⟩ | ⟨c3, h⟩
      · skip
        exact hFM.trans (w_Mo_bin_95 hR73 h)
      · skip
        exact hFM.trans (w_Mo_bin_113 hR73 h)
  · skip
    cases h; exact hFM
theorem wl_Mo_bin_73  : ∀ (n : Nat) (a1 a2 a3 a4 a6 a7 : Int) (M : Mem) (r : Int × Mem), fix (fun _ _ _ _ _ _ _ => none) (k_Mo_bin_73) n a1 a2 a3 a4 a6 a7 M = some r → Fr [134, 135, 136, 137, 138, 139, 140, 141, 142, 143, 144, 145, 155, 156, 157, 158, 159] [(111, 0), (111, 1), (111, 39), (111, 72), (111, 108)] M r.2 := by
  intro n
  induction n with
  | zero => intro a1 a2 a3 a4 a6 a7 M r h; exact nomatch (show (none : Res) = some r from h)
  | succ n ih => intro a1 a2 a3 a4 a6 a7 M r h; exact w_Mo_bin_73 ih h
theorem w_Mo_bin_55  {M : Mem} {r : Int × Mem} (h : k_Mo_bin_55 M = some r) : Fr [134, 135, 136, 137, 138, 139, 140, 141, 142, 143, 144, 145, 155, 156, 157, 158, 159] [(111, 0), (111, 1), (111, 39), (111, 72), (111, 108)] M r.2 := by
  unfold k_Mo_bin_55 at h
  have hFM : Fr [134, 135, 136, 137, 138, 139, 140, 141, 142, 143, 144, 145, 155, 156, 157, 158, 159] [(111, 0), (111, 1), (111, 39), (111, 72), (111, 108)] M M := Fr.rfl'
  obtain ⟨v1, M2, fv1, h⟩ := bcall_e h
  have hFM2 : Fr [134, 135, 136, 137, 138, 139, 140, 141, 142, 143, 144, 145, 155, 156, 157, 158, 159] [(111, 0), (111, 1), (111, 39), (111, 72), (111, 108)] M M2 := hFM.trans ((w_Mo_refuse fv1).mono (by simp) (by simp))
  cases h; exact hFM2
theorem w_Mo_bin_34  {M : Mem} {r : Int × Mem} (h : k_Mo_bin_34 M = some r) : Fr [134, 135, 136, 137, 138, 139, 140, 141, 142, 143, 144, 145, 155, 156, 157, 158, 159] [(111, 0), (111, 1), (111, 39), (111, 72), (111, 108)] M r.2 := by
  unfold k_Mo_bin_34 at h
  have hFM : Fr [134, 135, 136, 137, 138, 139, 140, 141, 142, 143, 144, 145, 155, 156, 157, 158, 159] [(111, 0), (111, 1), (111, 39), (111, 72), (111, 108)] M M := Fr.rfl'
  obtain ⟨v1, M2, fv1, h⟩ := bcall_e h
  have hFM2 : Fr [134, 135, 136, 137, 138, 139, 140, 141, 142, 143, 144, 145, 155, 156, 157, 158, 159] [(111, 0), (111, 1), (111, 39), (111, 72), (111, 108)] M M2 := hFM.trans ((w_Mo_refuse fv1).mono (by simp) (by simp))
  cases h; exact hFM2
theorem w_Mo_bin {a1 a2 a3 a4 a5 : Int} {M : Mem} {r : Int × Mem} (h : d_Mo_bin a1 a2 a3 a4 a5 M = some r) : Fr [134, 135, 136, 137, 138, 139, 140, 141, 142, 143, 144, 145, 155, 156, 157, 158, 159] [(111, 0), (111, 1), (111, 39), (111, 72), (111, 108)] M r.2 := by
  unfold d_Mo_bin at h
  have hFM : Fr [134, 135, 136, 137, 138, 139, 140, 141, 142, 143, 144, 145, 155, 156, 157, 158, 159] [(111, 0), (111, 1), (111, 39), (111, 72), (111, 108)] M M := Fr.rfl'
  obtain ⟨M1, eM1, h⟩ := blet_e h
  have hFM1 : Fr [134, 135, 136, 137, 138, 139, 140, 141, 142, 143, 144, 145, 155, 156, 157, 158, 159] [(111, 0), (111, 1), (111, 39), (111, 72), (111, 108)] M M1 := by rw [eM1]; exact hFM.stoF (by simp)
  obtain ⟨M2, eM2, h⟩ := blet_e h
  have hFM2 : Fr [134, 135, 136, 137, 138, 139, 140, 141, 142, 143, 144, 145, 155, 156, 157, 158, 159] [(111, 0), (111, 1), (111, 39), (111, 72), (111, 108)] M M2 := by rw [eM2]; exact hFM1.stoF (by simp)
  obtain ⟨v3, M4, fv3, h⟩ := bcall_e h
  have hFM4 : Fr [134, 135, 136, 137, 138, 139, 140, 141, 142, 143, 144, 145, 155, 156, 157, 158, 159] [(111, 0), (111, 1), (111, 39), (111, 72), (111, 108)] M M4 := hFM2.trans ((w_Mo_isElevator fv3).mono (by simp) (by simp))
  rcases ite_e h with ⟨c5, h⟩ | ⟨c5, h⟩
  · skip
    exact hFM4.trans (w_Mo_bin_34 h)
  · skip
    obtain ⟨v6, M7, fv6, h⟩ := bcall_e h
    have hFM7 : Fr [134, 135, 136, 137, 138, 139, 140, 141, 142, 143, 144, 145, 155, 156, 157, 158, 159] [(111, 0), (111, 1), (111, 39), (111, 72), (111, 108)] M M7 := hFM4.trans ((w_Mo_isGrade fv6).mono (by simp) (by simp))
    rcases ite_e h with ⟨c8, h⟩ | ⟨c8, h⟩
    · skip
      exact hFM7.trans (w_Mo_bin_34 h)
    · skip
      obtain ⟨v9, M10, fv9, h⟩ := bcall_e h
      have hFM10 : Fr [134, 135, 136, 137, 138, 139, 140, 141, 142, 143, 144, 145, 155, 156, 157, 158, 159] [(111, 0), (111, 1), (111, 39), (111, 72), (111, 108)] M M10 := hFM7.trans ((w_Mo_isWho fv9).mono (by simp) (by simp))
      rcases ite_e h with ⟨c11, h⟩ | ⟨c11, h⟩
      · skip
        exact hFM10.trans (w_Mo_bin_34 h)
      · skip
        obtain ⟨v12, M13, fv12, h⟩ := bcall_e h
        have hFM13 : Fr [134, 135, 136, 137, 138, 139, 140, 141, 142, 143, 144, 145, 155, 156, 157, 158, 159] [(111, 0), (111, 1), (111, 39), (111, 72), (111, 108)] M M13 := hFM10.trans ((w_Mo_isYear fv12).mono (by simp) (by simp))
        rcases ite_e h with ⟨c14, h⟩ | ⟨c14, h⟩
        · skip
          exact hFM13.trans (w_Mo_bin_55 h)
        · skip
          obtain ⟨v15, M16, fv15, h⟩ := bcall_e h
          have hFM16 : Fr [134, 135, 136, 137, 138, 139, 140, 141, 142, 143, 144, 145, 155, 156, 157, 158, 159] [(111, 0), (111, 1), (111, 39), (111, 72), (111, 108)] M M16 := hFM13.trans ((w_Mo_isDay fv15).mono (by simp) (by simp))
          rcases ite_e h with ⟨c17, h⟩ | ⟨c17, h⟩
          · skip
            exact hFM16.trans (w_Mo_bin_55 h)
          · skip
            obtain ⟨v18, M19, fv18, h⟩ := bcall_e h
            have hFM19 : Fr [134, 135, 136, 137, 138, 139, 140, 141, 142, 143, 144, 145, 155, 156, 157, 158, 159] [(111, 0), (111, 1), (111, 39), (111, 72), (111, 108)] M M19 := hFM16.trans ((w_Mo_play fv18).mono (by simp) (by simp))
            exact hFM19.trans (wl_Mo_bin_73 FU a1 a2 a3 a4 0 0 M19 r h)
theorem w_Mo_port_115 {R75 : Int → Int → Int → Int → Int → Int → Mem → Res} (hR75 : ∀ (a1 a2 a3 a4 a6 a7 : Int) (M : Mem) (r : Int × Mem), R75 a1 a2 a3 a4 a6 a7 M = some r → Fr [134, 135, 136, 137, 138, 139, 140, 141, 142, 143, 144, 145, 155, 156, 157, 158, 159] [(111, 0), (111, 1), (111, 39), (111, 72), (111, 108)] M r.2) {a1 a2 a3 a4 a7 s0 s1 : Int} {M : Mem} {r : Int × Mem} (h : k_Mo_port_115 R75 a1 a2 a3 a4 a7 s0 s1 M = some r) : Fr [134, 135, 136, 137, 138, 139, 140, 141, 142, 143, 144, 145, 155, 156, 157, 158, 159] [(111, 0), (111, 1), (111, 39), (111, 72), (111, 108)] M r.2 := by
  unfold k_Mo_port_115 at h
  have hFM : Fr [134, 135, 136, 137, 138, 139, 140, 141, 142, 143, 144, 145, 155, 156, 157, 158, 159] [(111, 0), (111, 1), (111, 39), (111, 72), (111, 108)] M M := Fr.rfl'
  obtain ⟨v1, ev1, h⟩ := blet_e h
  obtain ⟨v2, ev2, h⟩ := blet_e h
  exact hFM.trans (hR75 a1 a2 a3 a4 v1 v2 M r h)
theorem w_Mo_port_97 {R75 : Int → Int → Int → Int → Int → Int → Mem → Res} (hR75 : ∀ (a1 a2 a3 a4 a6 a7 : Int) (M : Mem) (r : Int × Mem), R75 a1 a2 a3 a4 a6 a7 M = some r → Fr [134, 135, 136, 137, 138, 139, 140, 141, 142, 143, 144, 145, 155, 156, 157, 158, 159] [(111, 0), (111, 1), (111, 39), (111, 72), (111, 108)] M r.2) {a1 a2 a3 a4 a7 s0 : Int} {M : Mem} {r : Int × Mem} (h : k_Mo_port_97 R75 a1 a2 a3 a4 a7 s0 M = some r) : Fr [134, 135, 136, 137, 138, 139, 140, 141, 142, 143, 144, 145, 155, 156, 157, 158, 159] [(111, 0), (111, 1), (111, 39), (111, 72), (111, 108)] M r.2 := by
  unfold k_Mo_port_97 at h
  have hFM : Fr [134, 135, 136, 137, 138, 139, 140, 141, 142, 143, 144, 145, 155, 156, 157, 158, 159] [(111, 0), (111, 1), (111, 39), (111, 72), (111, 108)] M M := Fr.rfl'
  obtain ⟨v1, M2, fv1, h⟩ := bcall_e h
  have hFM2 : Fr [134, 135, 136, 137, 138, 139, 140, 141, 142, 143, 144, 145, 155, 156, 157, 158, 159] [(111, 0), (111, 1), (111, 39), (111, 72), (111, 108)] M M2 := hFM.trans ((w_Mo_binAt fv1).mono (by simp) (by simp))
  obtain ⟨c3, h⟩ := chk_e h
  obtain ⟨v4, ev4, h⟩ := blet_e h
  exact hFM2.trans (w_Mo_port_115 hR75 h)
theorem w_Mo_port_75 {R75 : Int → Int → Int → Int → Int → Int → Mem → Res} (hR75 : ∀ (a1 a2 a3 a4 a6 a7 : Int) (M : Mem) (r : Int × Mem), R75 a1 a2 a3 a4 a6 a7 M = some r → Fr [134, 135, 136, 137, 138, 139, 140, 141, 142, 143, 144, 145, 155, 156, 157, 158, 159] [(111, 0), (111, 1), (111, 39), (111, 72), (111, 108)] M r.2) {a1 a2 a3 a4 a6 a7 : Int} {M : Mem} {r : Int × Mem} (h : k_Mo_port_75 R75 a1 a2 a3 a4 a6 a7 M = some r) : Fr [134, 135, 136, 137, 138, 139, 140, 141, 142, 143, 144, 145, 155, 156, 157, 158, 159] [(111, 0), (111, 1), (111, 39), (111, 72), (111, 108)] M r.2 := by
  unfold k_Mo_port_75 at h
  have hFM : Fr [134, 135, 136, 137, 138, 139, 140, 141, 142, 143, 144, 145, 155, 156, 157, 158, 159] [(111, 0), (111, 1), (111, 39), (111, 72), (111, 108)] M M := Fr.rfl'
  rcases ite_e h with ⟨c1, h⟩ | ⟨c1, h⟩
  · skip
    rcases ite_e h with ⟨c2, h⟩ | ⟨c2, h⟩
    · skip
      exact hFM.trans (w_Mo_port_97 hR75 h)
    · skip
      rcases ite_e h with ⟨c3, h⟩ | ⟨c3, h⟩
      · skip
        exact hFM.trans (w_Mo_port_97 hR75 h)
      · skip
        exact hFM.trans (w_Mo_port_115 hR75 h)
  · skip
    cases h; exact hFM
theorem wl_Mo_port_75  : ∀ (n : Nat) (a1 a2 a3 a4 a6 a7 : Int) (M : Mem) (r : Int × Mem), fix (fun _ _ _ _ _ _ _ => none) (k_Mo_port_75) n a1 a2 a3 a4 a6 a7 M = some r → Fr [134, 135, 136, 137, 138, 139, 140, 141, 142, 143, 144, 145, 155, 156, 157, 158, 159] [(111, 0), (111, 1), (111, 39), (111, 72), (111, 108)] M r.2 := by
  intro n
  induction n with
  | zero => intro a1 a2 a3 a4 a6 a7 M r h; exact nomatch (show (none : Res) = some r from h)
  | succ n ih => intro a1 a2 a3 a4 a6 a7 M r h; exact w_Mo_port_75 ih h
theorem w_Mo_port_57  {M : Mem} {r : Int × Mem} (h : k_Mo_port_57 M = some r) : Fr [134, 135, 136, 137, 138, 139, 140, 141, 142, 143, 144, 145, 155, 156, 157, 158, 159] [(111, 0), (111, 1), (111, 39), (111, 72), (111, 108)] M r.2 := by
  unfold k_Mo_port_57 at h
  have hFM : Fr [134, 135, 136, 137, 138, 139, 140, 141, 142, 143, 144, 145, 155, 156, 157, 158, 159] [(111, 0), (111, 1), (111, 39), (111, 72), (111, 108)] M M := Fr.rfl'
  obtain ⟨v1, M2, fv1, h⟩ := bcall_e h
  have hFM2 : Fr [134, 135, 136, 137, 138, 139, 140, 141, 142, 143, 144, 145, 155, 156, 157, 158, 159] [(111, 0), (111, 1), (111, 39), (111, 72), (111, 108)] M M2 := hFM.trans ((w_Mo_refuse fv1).mono (by simp) (by simp))
  cases h; exact hFM2
theorem w_Mo_port_36  {M : Mem} {r : Int × Mem} (h : k_Mo_port_36 M = some r) : Fr [134, 135, 136, 137, 138, 139, 140, 141, 142, 143, 144, 145, 155, 156, 157, 158, 159] [(111, 0), (111, 1), (111, 39), (111, 72), (111, 108)] M r.2 := by
  unfold k_Mo_port_36 at h
  have hFM : Fr [134, 135, 136, 137, 138, 139, 140, 141, 142, 143, 144, 145, 155, 156, 157, 158, 159] [(111, 0), (111, 1), (111, 39), (111, 72), (111, 108)] M M := Fr.rfl'
  obtain ⟨v1, M2, fv1, h⟩ := bcall_e h
  have hFM2 : Fr [134, 135, 136, 137, 138, 139, 140, 141, 142, 143, 144, 145, 155, 156, 157, 158, 159] [(111, 0), (111, 1), (111, 39), (111, 72), (111, 108)] M M2 := hFM.trans ((w_Mo_refuse fv1).mono (by simp) (by simp))
  cases h; exact hFM2
theorem w_Mo_port {a1 a2 a3 a4 a5 : Int} {M : Mem} {r : Int × Mem} (h : d_Mo_port a1 a2 a3 a4 a5 M = some r) : Fr [134, 135, 136, 137, 138, 139, 140, 141, 142, 143, 144, 145, 155, 156, 157, 158, 159] [(111, 0), (111, 1), (111, 39), (111, 72), (111, 108)] M r.2 := by
  unfold d_Mo_port at h
  have hFM : Fr [134, 135, 136, 137, 138, 139, 140, 141, 142, 143, 144, 145, 155, 156, 157, 158, 159] [(111, 0), (111, 1), (111, 39), (111, 72), (111, 108)] M M := Fr.rfl'
  obtain ⟨M1, eM1, h⟩ := blet_e h
  have hFM1 : Fr [134, 135, 136, 137, 138, 139, 140, 141, 142, 143, 144, 145, 155, 156, 157, 158, 159] [(111, 0), (111, 1), (111, 39), (111, 72), (111, 108)] M M1 := by rw [eM1]; exact hFM.stoF (by simp)
  obtain ⟨M2, eM2, h⟩ := blet_e h
  have hFM2 : Fr [134, 135, 136, 137, 138, 139, 140, 141, 142, 143, 144, 145, 155, 156, 157, 158, 159] [(111, 0), (111, 1), (111, 39), (111, 72), (111, 108)] M M2 := by rw [eM2]; exact hFM1.stoF (by simp)
  obtain ⟨v3, M4, fv3, h⟩ := bcall_e h
  have hFM4 : Fr [134, 135, 136, 137, 138, 139, 140, 141, 142, 143, 144, 145, 155, 156, 157, 158, 159] [(111, 0), (111, 1), (111, 39), (111, 72), (111, 108)] M M4 := hFM2.trans ((w_Mo_isIn fv3).mono (by simp) (by simp))
  rcases ite_e h with ⟨c5, h⟩ | ⟨c5, h⟩
  · skip
    exact hFM4.trans (w_Mo_port_36 h)
  · skip
    obtain ⟨v6, M7, fv6, h⟩ := bcall_e h
    have hFM7 : Fr [134, 135, 136, 137, 138, 139, 140, 141, 142, 143, 144, 145, 155, 156, 157, 158, 159] [(111, 0), (111, 1), (111, 39), (111, 72), (111, 108)] M M7 := hFM4.trans ((w_Mo_isGrade fv6).mono (by simp) (by simp))
    rcases ite_e h with ⟨c8, h⟩ | ⟨c8, h⟩
    · skip
      exact hFM7.trans (w_Mo_port_36 h)
    · skip
      obtain ⟨v9, M10, fv9, h⟩ := bcall_e h
      have hFM10 : Fr [134, 135, 136, 137, 138, 139, 140, 141, 142, 143, 144, 145, 155, 156, 157, 158, 159] [(111, 0), (111, 1), (111, 39), (111, 72), (111, 108)] M M10 := hFM7.trans ((w_Mo_isWho fv9).mono (by simp) (by simp))
      rcases ite_e h with ⟨c11, h⟩ | ⟨c11, h⟩
      · skip
        exact hFM10.trans (w_Mo_port_36 h)
      · skip
        obtain ⟨v12, M13, fv12, h⟩ := bcall_e h
        have hFM13 : Fr [134, 135, 136, 137, 138, 139, 140, 141, 142, 143, 144, 145, 155, 156, 157, 158, 159] [(111, 0), (111, 1), (111, 39), (111, 72), (111, 108)] M M13 := hFM10.trans ((w_Mo_isYear fv12).mono (by simp) (by simp))
        rcases ite_e h with ⟨c14, h⟩ | ⟨c14, h⟩
        · skip
          exact hFM13.trans (w_Mo_port_57 h)
        · skip
          obtain ⟨v15, M16, fv15, h⟩ := bcall_e h
          have hFM16 : Fr [134, 135, 136, 137, 138, 139, 140, 141, 142, 143, 144, 145, 155, 156, 157, 158, 159] [(111, 0), (111, 1), (111, 39), (111, 72), (111, 108)] M M16 := hFM13.trans ((w_Mo_isDay fv15).mono (by simp) (by simp))
          rcases ite_e h with ⟨c17, h⟩ | ⟨c17, h⟩
          · skip
            exact hFM16.trans (w_Mo_port_57 h)
          · skip
            obtain ⟨v18, M19, fv18, h⟩ := bcall_e h
            have hFM19 : Fr [134, 135, 136, 137, 138, 139, 140, 141, 142, 143, 144, 145, 155, 156, 157, 158, 159] [(111, 0), (111, 1), (111, 39), (111, 72), (111, 108)] M M19 := hFM16.trans ((w_Mo_play fv18).mono (by simp) (by simp))
            exact hFM19.trans (wl_Mo_port_75 FU a1 a2 a3 a4 0 0 M19 r h)
theorem w_Mo_sum_158 {R81 : Int → Int → Int → Int → Mem → Res} (hR81 : ∀ (a1 a2 a4 a5 : Int) (M : Mem) (r : Int × Mem), R81 a1 a2 a4 a5 M = some r → Fr [134, 135, 136, 137, 138, 139, 140, 141, 142, 143, 144, 145, 155, 156, 157, 158, 159] [(111, 0), (111, 1), (111, 39), (111, 72), (111, 108)] M r.2) {a1 a2 a4 a5 : Int} {M : Mem} {r : Int × Mem} (h : k_Mo_sum_158 R81 a1 a2 a4 a5 M = some r) : Fr [134, 135, 136, 137, 138, 139, 140, 141, 142, 143, 144, 145, 155, 156, 157, 158, 159] [(111, 0), (111, 1), (111, 39), (111, 72), (111, 108)] M r.2 := by
  unfold k_Mo_sum_158 at h
  have hFM : Fr [134, 135, 136, 137, 138, 139, 140, 141, 142, 143, 144, 145, 155, 156, 157, 158, 159] [(111, 0), (111, 1), (111, 39), (111, 72), (111, 108)] M M := Fr.rfl'
  obtain ⟨v1, ev1, h⟩ := blet_e h
  exact hFM.trans (hR81 a1 a2 a4 v1 M r h)
theorem w_Mo_sum_155 {R81 : Int → Int → Int → Int → Mem → Res} (hR81 : ∀ (a1 a2 a4 a5 : Int) (M : Mem) (r : Int × Mem), R81 a1 a2 a4 a5 M = some r → Fr [134, 135, 136, 137, 138, 139, 140, 141, 142, 143, 144, 145, 155, 156, 157, 158, 159] [(111, 0), (111, 1), (111, 39), (111, 72), (111, 108)] M r.2) {a1 a2 a5 s0 s1 : Int} {M : Mem} {r : Int × Mem} (h : k_Mo_sum_155 R81 a1 a2 a5 s0 s1 M = some r) : Fr [134, 135, 136, 137, 138, 139, 140, 141, 142, 143, 144, 145, 155, 156, 157, 158, 159] [(111, 0), (111, 1), (111, 39), (111, 72), (111, 108)] M r.2 := by
  unfold k_Mo_sum_155 at h
  have hFM : Fr [134, 135, 136, 137, 138, 139, 140, 141, 142, 143, 144, 145, 155, 156, 157, 158, 159] [(111, 0), (111, 1), (111, 39), (111, 72), (111, 108)] M M := Fr.rfl'
  obtain ⟨v1, ev1, h⟩ := blet_e h
  exact hFM.trans (w_Mo_sum_158 hR81 h)
theorem w_Mo_sum_102 {R81 : Int → Int → Int → Int → Mem → Res} (hR81 : ∀ (a1 a2 a4 a5 : Int) (M : Mem) (r : Int × Mem), R81 a1 a2 a4 a5 M = some r → Fr [134, 135, 136, 137, 138, 139, 140, 141, 142, 143, 144, 145, 155, 156, 157, 158, 159] [(111, 0), (111, 1), (111, 39), (111, 72), (111, 108)] M r.2) {a1 a2 a4 a5 : Int} {M : Mem} {r : Int × Mem} (h : k_Mo_sum_102 R81 a1 a2 a4 a5 M = some r) : Fr [134, 135, 136, 137, 138, 139, 140, 141, 142, 143, 144, 145, 155, 156, 157, 158, 159] [(111, 0), (111, 1), (111, 39), (111, 72), (111, 108)] M r.2 := by
  unfold k_Mo_sum_102 at h
  have hFM : Fr [134, 135, 136, 137, 138, 139, 140, 141, 142, 143, 144, 145, 155, 156, 157, 158, 159] [(111, 0), (111, 1), (111, 39), (111, 72), (111, 108)] M M := Fr.rfl'
  rcases ite_e h with ⟨c1, h⟩ | ⟨c1, h⟩
  · skip
    obtain ⟨c2, h⟩ := chk_e h
    obtain ⟨v3, ev3, h⟩ := blet_e h
    exact hFM.trans (w_Mo_sum_155 hR81 h)
  · skip
    rcases ite_e h with ⟨c4, h⟩ | ⟨c4, h⟩
    · skip
      obtain ⟨c5, h⟩ := chk_e h
      obtain ⟨v6, ev6, h⟩ := blet_e h
      exact hFM.trans (w_Mo_sum_155 hR81 h)
    · skip
      rcases ite_e h with ⟨c7, h⟩ | ⟨c7, h⟩
      · skip
        obtain ⟨c8, h⟩ := chk_e h
        obtain ⟨v9, ev9, h⟩ := blet_e h
        exact hFM.trans (w_Mo_sum_155 hR81 h)
      · skip
        obtain ⟨c10, h⟩ := chk_e h
        obtain ⟨v11, ev11, h⟩ := blet_e h
        exact hFM.trans (w_Mo_sum_155 hR81 h)
theorem w_Mo_sum_81 {R81 : Int → Int → Int → Int → Mem → Res} (hR81 : ∀ (a1 a2 a4 a5 : Int) (M : Mem) (r : Int × Mem), R81 a1 a2 a4 a5 M = some r → Fr [134, 135, 136, 137, 138, 139, 140, 141, 142, 143, 144, 145, 155, 156, 157, 158, 159] [(111, 0), (111, 1), (111, 39), (111, 72), (111, 108)] M r.2) {a1 a2 a4 a5 : Int} {M : Mem} {r : Int × Mem} (h : k_Mo_sum_81 R81 a1 a2 a4 a5 M = some r) : Fr [134, 135, 136, 137, 138, 139, 140, 141, 142, 143, 144, 145, 155, 156, 157, 158, 159] [(111, 0), (111, 1), (111, 39), (111, 72), (111, 108)] M r.2 := by
  unfold k_Mo_sum_81 at h
  have hFM : Fr [134, 135, 136, 137, 138, 139, 140, 141, 142, 143, 144, 145, 155, 156, 157, 158, 159] [(111, 0), (111, 1), (111, 39), (111, 72), (111, 108)] M M := Fr.rfl'
  rcases ite_e h with ⟨c1, h⟩ | ⟨c1, h⟩
  · skip
    rcases ite_e h with ⟨c2, h⟩ | ⟨c2, h⟩
    · skip
      exact hFM.trans (w_Mo_sum_102 hR81 h)
    · skip
      rcases ite_e h with ⟨c3, h⟩ | ⟨c3, h⟩
      · skip
        exact hFM.trans (w_Mo_sum_102 hR81 h)
      · skip
        exact hFM.trans (w_Mo_sum_158 hR81 h)
  · skip
    cases h; exact hFM
theorem wl_Mo_sum_81  : ∀ (n : Nat) (a1 a2 a4 a5 : Int) (M : Mem) (r : Int × Mem), fix (fun _ _ _ _ _ => none) (k_Mo_sum_81) n a1 a2 a4 a5 M = some r → Fr [134, 135, 136, 137, 138, 139, 140, 141, 142, 143, 144, 145, 155, 156, 157, 158, 159] [(111, 0), (111, 1), (111, 39), (111, 72), (111, 108)] M r.2 := by
  intro n
  induction n with
  | zero => intro a1 a2 a4 a5 M r h; exact nomatch (show (none : Res) = some r from h)
  | succ n ih => intro a1 a2 a4 a5 M r h; exact w_Mo_sum_81 ih h
theorem w_Mo_sum_54  {M : Mem} {r : Int × Mem} (h : k_Mo_sum_54 M = some r) : Fr [134, 135, 136, 137, 138, 139, 140, 141, 142, 143, 144, 145, 155, 156, 157, 158, 159] [(111, 0), (111, 1), (111, 39), (111, 72), (111, 108)] M r.2 := by
  unfold k_Mo_sum_54 at h
  have hFM : Fr [134, 135, 136, 137, 138, 139, 140, 141, 142, 143, 144, 145, 155, 156, 157, 158, 159] [(111, 0), (111, 1), (111, 39), (111, 72), (111, 108)] M M := Fr.rfl'
  obtain ⟨v1, M2, fv1, h⟩ := bcall_e h
  have hFM2 : Fr [134, 135, 136, 137, 138, 139, 140, 141, 142, 143, 144, 145, 155, 156, 157, 158, 159] [(111, 0), (111, 1), (111, 39), (111, 72), (111, 108)] M M2 := hFM.trans ((w_Mo_refuse fv1).mono (by simp) (by simp))
  cases h; exact hFM2
theorem w_Mo_sum_41  {a1 a2 a3 s0 s1 s2 : Int} {M : Mem} {r : Int × Mem} (h : k_Mo_sum_41 a1 a2 a3 s0 s1 s2 M = some r) : Fr [134, 135, 136, 137, 138, 139, 140, 141, 142, 143, 144, 145, 155, 156, 157, 158, 159] [(111, 0), (111, 1), (111, 39), (111, 72), (111, 108)] M r.2 := by
  unfold k_Mo_sum_41 at h
  have hFM : Fr [134, 135, 136, 137, 138, 139, 140, 141, 142, 143, 144, 145, 155, 156, 157, 158, 159] [(111, 0), (111, 1), (111, 39), (111, 72), (111, 108)] M M := Fr.rfl'
  obtain ⟨v1, M2, fv1, h⟩ := bcall_e h
  have hFM2 : Fr [134, 135, 136, 137, 138, 139, 140, 141, 142, 143, 144, 145, 155, 156, 157, 158, 159] [(111, 0), (111, 1), (111, 39), (111, 72), (111, 108)] M M2 := hFM.trans ((w_Mo_isIn fv1).mono (by simp) (by simp))
  rcases ite_e h with ⟨c3, h⟩ | ⟨c3, h⟩
  · skip
    exact hFM2.trans (w_Mo_sum_54 h)
  · skip
    obtain ⟨v4, M5, fv4, h⟩ := bcall_e h
    have hFM5 : Fr [134, 135, 136, 137, 138, 139, 140, 141, 142, 143, 144, 145, 155, 156, 157, 158, 159] [(111, 0), (111, 1), (111, 39), (111, 72), (111, 108)] M M5 := hFM2.trans ((w_Mo_isDay fv4).mono (by simp) (by simp))
    rcases ite_e h with ⟨c6, h⟩ | ⟨c6, h⟩
    · skip
      exact hFM5.trans (w_Mo_sum_54 h)
    · skip
      obtain ⟨v7, M8, fv7, h⟩ := bcall_e h
      have hFM8 : Fr [134, 135, 136, 137, 138, 139, 140, 141, 142, 143, 144, 145, 155, 156, 157, 158, 159] [(111, 0), (111, 1), (111, 39), (111, 72), (111, 108)] M M8 := hFM5.trans ((w_Mo_play fv7).mono (by simp) (by simp))
      rcases ite_e h with ⟨c9, h⟩ | ⟨c9, h⟩
      · skip
        obtain ⟨v10, ev10, h⟩ := blet_e h
        cases h; exact hFM8
      · skip
        exact hFM8.trans (wl_Mo_sum_81 FU a1 a2 0 0 M8 r h)
theorem w_Mo_sum {a1 a2 a3 : Int} {M : Mem} {r : Int × Mem} (h : d_Mo_sum a1 a2 a3 M = some r) : Fr [134, 135, 136, 137, 138, 139, 140, 141, 142, 143, 144, 145, 155, 156, 157, 158, 159] [(111, 0), (111, 1), (111, 39), (111, 72), (111, 108)] M r.2 := by
  unfold d_Mo_sum at h
  have hFM : Fr [134, 135, 136, 137, 138, 139, 140, 141, 142, 143, 144, 145, 155, 156, 157, 158, 159] [(111, 0), (111, 1), (111, 39), (111, 72), (111, 108)] M M := Fr.rfl'
  obtain ⟨M1, eM1, h⟩ := blet_e h
  have hFM1 : Fr [134, 135, 136, 137, 138, 139, 140, 141, 142, 143, 144, 145, 155, 156, 157, 158, 159] [(111, 0), (111, 1), (111, 39), (111, 72), (111, 108)] M M1 := by rw [eM1]; exact hFM.stoF (by simp)
  obtain ⟨M2, eM2, h⟩ := blet_e h
  have hFM2 : Fr [134, 135, 136, 137, 138, 139, 140, 141, 142, 143, 144, 145, 155, 156, 157, 158, 159] [(111, 0), (111, 1), (111, 39), (111, 72), (111, 108)] M M2 := by rw [eM2]; exact hFM1.stoF (by simp)
  obtain ⟨v3, M4, fv3, h⟩ := bcall_e h
  have hFM4 : Fr [134, 135, 136, 137, 138, 139, 140, 141, 142, 143, 144, 145, 155, 156, 157, 158, 159] [(111, 0), (111, 1), (111, 39), (111, 72), (111, 108)] M M4 := hFM2.trans ((w_Mo_isWho fv3).mono (by simp) (by simp))
  rcases ite_e h with ⟨c5, h⟩ | ⟨c5, h⟩
  · skip
    obtain ⟨v6, M7, fv6, h⟩ := bcall_e h
    have hFM7 : Fr [134, 135, 136, 137, 138, 139, 140, 141, 142, 143, 144, 145, 155, 156, 157, 158, 159] [(111, 0), (111, 1), (111, 39), (111, 72), (111, 108)] M M7 := hFM4.trans ((w_Mo_refuse fv6).mono (by simp) (by simp))
    cases h; exact hFM7
  · skip
    rcases ite_e h with ⟨c8, h⟩ | ⟨c8, h⟩
    · skip
      exact hFM4.trans (w_Mo_sum_41 h)
    · skip
      exact hFM4.trans (w_Mo_sum_41 h)
theorem w_Mo_lay_2 {R2 : Int → Int → Mem → Res} (hR2 : ∀ (a1 a2 : Int) (M : Mem) (r : Int × Mem), R2 a1 a2 M = some r → Fr [146] [(111, 44)] M r.2) {a1 a2 : Int} {M : Mem} {r : Int × Mem} (h : k_Mo_lay_2 R2 a1 a2 M = some r) : Fr [146] [(111, 44)] M r.2 := by
  unfold k_Mo_lay_2 at h
  have hFM : Fr [146] [(111, 44)] M M := Fr.rfl'
  rcases ite_e h with ⟨c1, h⟩ | ⟨c1, h⟩
  · skip
    cases h; exact hFM
  · skip
    obtain ⟨v2, ev2, h⟩ := blet_e h
    obtain ⟨c3, h⟩ := chk_e h
    obtain ⟨M4, eM4, h⟩ := blet_e h
    have hFM4 : Fr [146] [(111, 44)] M M4 := by rw [eM4]; exact hFM.stoA (by simp)
    obtain ⟨v5, ev5, h⟩ := blet_e h
    obtain ⟨M6, eM6, h⟩ := blet_e h
    have hFM6 : Fr [146] [(111, 44)] M M6 := by rw [eM6]; exact hFM4.stoF (by simp)
    obtain ⟨v7, ev7, h⟩ := blet_e h
    exact hFM6.trans (hR2 a1 v7 M6 r h)
theorem wl_Mo_lay_2  : ∀ (n : Nat) (a1 a2 : Int) (M : Mem) (r : Int × Mem), fix (fun _ _ _ => none) (k_Mo_lay_2) n a1 a2 M = some r → Fr [146] [(111, 44)] M r.2 := by
  intro n
  induction n with
  | zero => intro a1 a2 M r h; exact nomatch (show (none : Res) = some r from h)
  | succ n ih => intro a1 a2 M r h; exact w_Mo_lay_2 ih h
theorem w_Mo_lay {a1 : Int} {M : Mem} {r : Int × Mem} (h : d_Mo_lay a1 M = some r) : Fr [146] [(111, 44)] M r.2 := by
  unfold d_Mo_lay at h
  have hFM : Fr [146] [(111, 44)] M M := Fr.rfl'
  exact hFM.trans (wl_Mo_lay_2 FU a1 3 M r h)
theorem w_Mo_feed {a1 a2 a3 a4 a5 : Int} {M : Mem} {r : Int × Mem} (h : d_Mo_feed a1 a2 a3 a4 a5 M = some r) : Fr [146] [(111, 1), (111, 44)] M r.2 := by
  unfold d_Mo_feed at h
  have hFM : Fr [146] [(111, 1), (111, 44)] M M := Fr.rfl'
  obtain ⟨M1, eM1, h⟩ := blet_e h
  have hFM1 : Fr [146] [(111, 1), (111, 44)] M M1 := by rw [eM1]; exact hFM.stoF (by simp)
  obtain ⟨v2, ev2, h⟩ := blet_e h
  rcases ite_e h with ⟨c3, h⟩ | ⟨c3, h⟩
  · skip
    cases h; exact hFM1
  · skip
    obtain ⟨v4, M5, fv4, h⟩ := bcall_e h
    have hFM5 : Fr [146] [(111, 1), (111, 44)] M M5 := hFM1.trans ((w_Mo_lay fv4).mono (by simp) (by simp))
    obtain ⟨v6, M7, fv6, h⟩ := bcall_e h
    have hFM7 : Fr [146] [(111, 1), (111, 44)] M M7 := hFM5.trans ((w_Mo_lay fv6).mono (by simp) (by simp))
    obtain ⟨v8, M9, fv8, h⟩ := bcall_e h
    have hFM9 : Fr [146] [(111, 1), (111, 44)] M M9 := hFM7.trans ((w_Mo_lay fv8).mono (by simp) (by simp))
    obtain ⟨v10, M11, fv10, h⟩ := bcall_e h
    have hFM11 : Fr [146] [(111, 1), (111, 44)] M M11 := hFM9.trans ((w_Mo_lay fv10).mono (by simp) (by simp))
    obtain ⟨v12, M13, fv12, h⟩ := bcall_e h
    have hFM13 : Fr [146] [(111, 1), (111, 44)] M M13 := hFM11.trans ((w_Mo_lay fv12).mono (by simp) (by simp))
    obtain ⟨v14, ev14, h⟩ := blet_e h
    cases h; exact hFM13
theorem w_Mo_look {a1 : Int} {M : Mem} {r : Int × Mem} (h : d_Mo_look a1 M = some r) : Fr [] [] M r.2 := by
  unfold d_Mo_look at h
  have hFM : Fr [] [] M M := Fr.rfl'
  obtain ⟨v1, ev1, h⟩ := blet_e h
  rcases ite_e h with ⟨c2, h⟩ | ⟨c2, h⟩
  · skip
    obtain ⟨c3, h⟩ := chk_e h
    obtain ⟨v4, ev4, h⟩ := blet_e h
    cases h; exact hFM
  · skip
    cases h; exact hFM
theorem w_Mo_isLetter {a0 : Int} {M : Mem} {r : Int × Mem} (h : d_Mo_isLetter a0 M = some r) : Fr [] [] M r.2 := by
  unfold d_Mo_isLetter at h
  have hFM : Fr [] [] M M := Fr.rfl'
  rcases ite_e h with ⟨c1, h⟩ | ⟨c1, h⟩
  · skip
    cases h; exact hFM
  · skip
    rcases ite_e h with ⟨c2, h⟩ | ⟨c2, h⟩
    · skip
      cases h; exact hFM
    · skip
      cases h; exact hFM
theorem w_Mo_isDigit {a0 : Int} {M : Mem} {r : Int × Mem} (h : d_Mo_isDigit a0 M = some r) : Fr [] [] M r.2 := by
  unfold d_Mo_isDigit at h
  have hFM : Fr [] [] M M := Fr.rfl'
  rcases ite_e h with ⟨c1, h⟩ | ⟨c1, h⟩
  · skip
    cases h; exact hFM
  · skip
    rcases ite_e h with ⟨c2, h⟩ | ⟨c2, h⟩
    · skip
      cases h; exact hFM
    · skip
      cases h; exact hFM
theorem w_Mo_next_361  {s1 : Int} {M : Mem} {r : Int × Mem} (h : k_Mo_next_361 s1 M = some r) : Fr [] [(111, 50), (111, 51), (111, 52), (111, 53), (111, 54), (111, 55)] M r.2 := by
  unfold k_Mo_next_361 at h
  have hFM : Fr [] [(111, 50), (111, 51), (111, 52), (111, 53), (111, 54), (111, 55)] M M := Fr.rfl'
  obtain ⟨M1, eM1, h⟩ := blet_e h
  have hFM1 : Fr [] [(111, 50), (111, 51), (111, 52), (111, 53), (111, 54), (111, 55)] M M1 := by rw [eM1]; exact hFM.stoF (by simp)
  cases h; exact hFM1
theorem w_Mo_next_356  {M : Mem} {r : Int × Mem} (h : k_Mo_next_356 M = some r) : Fr [] [(111, 50), (111, 51), (111, 52), (111, 53), (111, 54), (111, 55)] M r.2 := by
  unfold k_Mo_next_356 at h
  have hFM : Fr [] [(111, 50), (111, 51), (111, 52), (111, 53), (111, 54), (111, 55)] M M := Fr.rfl'
  exact hFM.trans (w_Mo_next_361 h)
theorem w_Mo_next_294  {s1 : Int} {M : Mem} {r : Int × Mem} (h : k_Mo_next_294 s1 M = some r) : Fr [] [(111, 50), (111, 51), (111, 52), (111, 53), (111, 54), (111, 55)] M r.2 := by
  unfold k_Mo_next_294 at h
  have hFM : Fr [] [(111, 50), (111, 51), (111, 52), (111, 53), (111, 54), (111, 55)] M M := Fr.rfl'
  obtain ⟨M1, eM1, h⟩ := blet_e h
  have hFM1 : Fr [] [(111, 50), (111, 51), (111, 52), (111, 53), (111, 54), (111, 55)] M M1 := by rw [eM1]; exact hFM.stoF (by simp)
  cases h; exact hFM1
theorem w_Mo_next_261 {R210 : Mem → Res} (hR210 : ∀ (M : Mem) (r : Int × Mem), R210  M = some r → Fr [] [(111, 50), (111, 51), (111, 52), (111, 53), (111, 54), (111, 55)] M r.2) {M : Mem} {r : Int × Mem} (h : k_Mo_next_261 R210 M = some r) : Fr [] [(111, 50), (111, 51), (111, 52), (111, 53), (111, 54), (111, 55)] M r.2 := by
  unfold k_Mo_next_261 at h
  have hFM : Fr [] [(111, 50), (111, 51), (111, 52), (111, 53), (111, 54), (111, 55)] M M := Fr.rfl'
  obtain ⟨v1, ev1, h⟩ := blet_e h
  obtain ⟨M2, eM2, h⟩ := blet_e h
  have hFM2 : Fr [] [(111, 50), (111, 51), (111, 52), (111, 53), (111, 54), (111, 55)] M M2 := by rw [eM2]; exact hFM.stoF (by simp)
  exact hFM2.trans (hR210  M2 r h)
theorem w_Mo_next_210 {R210 : Mem → Res} (hR210 : ∀ (M : Mem) (r : Int × Mem), R210  M = some r → Fr [] [(111, 50), (111, 51), (111, 52), (111, 53), (111, 54), (111, 55)] M r.2) {M : Mem} {r : Int × Mem} (h : k_Mo_next_210 R210 M = some r) : Fr [] [(111, 50), (111, 51), (111, 52), (111, 53), (111, 54), (111, 55)] M r.2 := by
  unfold k_Mo_next_210 at h
  have hFM : Fr [] [(111, 50), (111, 51), (111, 52), (111, 53), (111, 54), (111, 55)] M M := Fr.rfl'
  obtain ⟨v1, ev1, h⟩ := blet_e h
  obtain ⟨v2, M3, fv2, h⟩ := bcall_e h
  have hFM3 : Fr [] [(111, 50), (111, 51), (111, 52), (111, 53), (111, 54), (111, 55)] M M3 := hFM.trans ((w_Mo_look fv2).mono (by simp) (by simp))
  obtain ⟨v4, M5, fv4, h⟩ := bcall_e h
  have hFM5 : Fr [] [(111, 50), (111, 51), (111, 52), (111, 53), (111, 54), (111, 55)] M M5 := hFM3.trans ((w_Mo_isDigit fv4).mono (by simp) (by simp))
  rcases ite_e h with ⟨c6, h⟩ | ⟨c6, h⟩
  · skip
    obtain ⟨v7, ev7, h⟩ := blet_e h
    obtain ⟨v8, ev8, h⟩ := blet_e h
    rcases ite_e h with ⟨c9, h⟩ | ⟨c9, h⟩
    · skip
      exact hFM5.trans (w_Mo_next_294 h)
    · skip
      exact hFM5.trans (w_Mo_next_294 h)
  · skip
    obtain ⟨v10, ev10, h⟩ := blet_e h
    obtain ⟨v11, ev11, h⟩ := blet_e h
    rcases ite_e h with ⟨c12, h⟩ | ⟨c12, h⟩
    · skip
      obtain ⟨v13, ev13, h⟩ := blet_e h
      obtain ⟨v14, ev14, h⟩ := blet_e h
      obtain ⟨v15, M16, fv15, h⟩ := bcall_e h
      have hFM16 : Fr [] [(111, 50), (111, 51), (111, 52), (111, 53), (111, 54), (111, 55)] M M16 := hFM5.trans ((w_Mo_look fv15).mono (by simp) (by simp))
      obtain ⟨M17, eM17, h⟩ := blet_e h
      have hFM17 : Fr [] [(111, 50), (111, 51), (111, 52), (111, 53), (111, 54), (111, 55)] M M17 := by rw [eM17]; exact hFM16.stoF (by simp)
      exact hFM17.trans (w_Mo_next_261 hR210 h)
    · skip
      exact hFM5.trans (w_Mo_next_261 hR210 h)
theorem wl_Mo_next_210  : ∀ (n : Nat) (M : Mem) (r : Int × Mem), fix (fun _ => none) (k_Mo_next_210) n M = some r → Fr [] [(111, 50), (111, 51), (111, 52), (111, 53), (111, 54), (111, 55)] M r.2 := by
  intro n
  induction n with
  | zero => intro M r h; exact nomatch (show (none : Res) = some r from h)
  | succ n ih => intro M r h; exact w_Mo_next_210 ih h
theorem w_Mo_next_166 {R109 : Mem → Res} (hR109 : ∀ (M : Mem) (r : Int × Mem), R109  M = some r → Fr [] [(111, 50), (111, 51), (111, 52), (111, 53), (111, 54), (111, 55)] M r.2) {s1 : Int} {M : Mem} {r : Int × Mem} (h : k_Mo_next_166 R109 s1 M = some r) : Fr [] [(111, 50), (111, 51), (111, 52), (111, 53), (111, 54), (111, 55)] M r.2 := by
  unfold k_Mo_next_166 at h
  have hFM : Fr [] [(111, 50), (111, 51), (111, 52), (111, 53), (111, 54), (111, 55)] M M := Fr.rfl'
  obtain ⟨M1, eM1, h⟩ := blet_e h
  have hFM1 : Fr [] [(111, 50), (111, 51), (111, 52), (111, 53), (111, 54), (111, 55)] M M1 := by rw [eM1]; exact hFM.stoF (by simp)
  obtain ⟨v2, ev2, h⟩ := blet_e h
  obtain ⟨M3, eM3, h⟩ := blet_e h
  have hFM3 : Fr [] [(111, 50), (111, 51), (111, 52), (111, 53), (111, 54), (111, 55)] M M3 := by rw [eM3]; exact hFM1.stoF (by simp)
  exact hFM3.trans (hR109  M3 r h)
theorem w_Mo_next_109 {R109 : Mem → Res} (hR109 : ∀ (M : Mem) (r : Int × Mem), R109  M = some r → Fr [] [(111, 50), (111, 51), (111, 52), (111, 53), (111, 54), (111, 55)] M r.2) {M : Mem} {r : Int × Mem} (h : k_Mo_next_109 R109 M = some r) : Fr [] [(111, 50), (111, 51), (111, 52), (111, 53), (111, 54), (111, 55)] M r.2 := by
  unfold k_Mo_next_109 at h
  have hFM : Fr [] [(111, 50), (111, 51), (111, 52), (111, 53), (111, 54), (111, 55)] M M := Fr.rfl'
  obtain ⟨v1, ev1, h⟩ := blet_e h
  obtain ⟨v2, M3, fv2, h⟩ := bcall_e h
  have hFM3 : Fr [] [(111, 50), (111, 51), (111, 52), (111, 53), (111, 54), (111, 55)] M M3 := hFM.trans ((w_Mo_look fv2).mono (by simp) (by simp))
  obtain ⟨v4, M5, fv4, h⟩ := bcall_e h
  have hFM5 : Fr [] [(111, 50), (111, 51), (111, 52), (111, 53), (111, 54), (111, 55)] M M5 := hFM3.trans ((w_Mo_isLetter fv4).mono (by simp) (by simp))
  rcases ite_e h with ⟨c6, h⟩ | ⟨c6, h⟩
  · skip
    obtain ⟨v7, ev7, h⟩ := blet_e h
    obtain ⟨v8, ev8, h⟩ := blet_e h
    obtain ⟨M9, eM9, h⟩ := blet_e h
    have hFM9 : Fr [] [(111, 50), (111, 51), (111, 52), (111, 53), (111, 54), (111, 55)] M M9 := by rw [eM9]; exact hFM5.stoF (by simp)
    cases h; exact hFM9
  · skip
    obtain ⟨v10, ev10, h⟩ := blet_e h
    obtain ⟨v11, ev11, h⟩ := blet_e h
    rcases ite_e h with ⟨c12, h⟩ | ⟨c12, h⟩
    · skip
      obtain ⟨v13, ev13, h⟩ := blet_e h
      obtain ⟨v14, ev14, h⟩ := blet_e h
      obtain ⟨v15, M16, fv15, h⟩ := bcall_e h
      have hFM16 : Fr [] [(111, 50), (111, 51), (111, 52), (111, 53), (111, 54), (111, 55)] M M16 := hFM5.trans ((w_Mo_look fv15).mono (by simp) (by simp))
      exact hFM16.trans (w_Mo_next_166 hR109 h)
    · skip
      exact hFM5.trans (w_Mo_next_166 hR109 h)
theorem wl_Mo_next_109  : ∀ (n : Nat) (M : Mem) (r : Int × Mem), fix (fun _ => none) (k_Mo_next_109) n M = some r → Fr [] [(111, 50), (111, 51), (111, 52), (111, 53), (111, 54), (111, 55)] M r.2 := by
  intro n
  induction n with
  | zero => intro M r h; exact nomatch (show (none : Res) = some r from h)
  | succ n ih => intro M r h; exact w_Mo_next_109 ih h
theorem w_Mo_next_58  {M : Mem} {r : Int × Mem} (h : k_Mo_next_58 M = some r) : Fr [] [(111, 50), (111, 51), (111, 52), (111, 53), (111, 54), (111, 55)] M r.2 := by
  unfold k_Mo_next_58 at h
  have hFM : Fr [] [(111, 50), (111, 51), (111, 52), (111, 53), (111, 54), (111, 55)] M M := Fr.rfl'
  obtain ⟨v1, ev1, h⟩ := blet_e h
  obtain ⟨M2, eM2, h⟩ := blet_e h
  have hFM2 : Fr [] [(111, 50), (111, 51), (111, 52), (111, 53), (111, 54), (111, 55)] M M2 := by rw [eM2]; exact hFM.stoF (by simp)
  obtain ⟨v3, ev3, h⟩ := blet_e h
  obtain ⟨v4, ev4, h⟩ := blet_e h
  rcases ite_e h with ⟨c5, h⟩ | ⟨c5, h⟩
  · skip
    obtain ⟨v6, ev6, h⟩ := blet_e h
    obtain ⟨v7, M8, fv7, h⟩ := bcall_e h
    have hFM8 : Fr [] [(111, 50), (111, 51), (111, 52), (111, 53), (111, 54), (111, 55)] M M8 := hFM2.trans ((w_Mo_look fv7).mono (by simp) (by simp))
    obtain ⟨v9, M10, fv9, h⟩ := bcall_e h
    have hFM10 : Fr [] [(111, 50), (111, 51), (111, 52), (111, 53), (111, 54), (111, 55)] M M10 := hFM8.trans ((w_Mo_isLetter fv9).mono (by simp) (by simp))
    rcases ite_e h with ⟨c11, h⟩ | ⟨c11, h⟩
    · skip
      obtain ⟨v12, M13, fv12, h⟩ := bcall_e h
      have hFM13 : Fr [] [(111, 50), (111, 51), (111, 52), (111, 53), (111, 54), (111, 55)] M M13 := hFM10.trans ((w_Mo_isDigit fv12).mono (by simp) (by simp))
      rcases ite_e h with ⟨c14, h⟩ | ⟨c14, h⟩
      · skip
        obtain ⟨v15, ev15, h⟩ := blet_e h
        obtain ⟨M16, eM16, h⟩ := blet_e h
        have hFM16 : Fr [] [(111, 50), (111, 51), (111, 52), (111, 53), (111, 54), (111, 55)] M M16 := by rw [eM16]; exact hFM13.stoF (by simp)
        obtain ⟨M17, eM17, h⟩ := blet_e h
        have hFM17 : Fr [] [(111, 50), (111, 51), (111, 52), (111, 53), (111, 54), (111, 55)] M M17 := by rw [eM17]; exact hFM16.stoF (by simp)
        obtain ⟨v18, M19, fv18, h⟩ := bcall_e h
        have hFM19 : Fr [] [(111, 50), (111, 51), (111, 52), (111, 53), (111, 54), (111, 55)] M M19 := hFM17.trans ((w_Mo_isIn fv18).mono (by simp) (by simp))
        rcases ite_e h with ⟨c20, h⟩ | ⟨c20, h⟩
        · skip
          obtain ⟨v21, M22, fv21, h⟩ := bcall_e h
          have hFM22 : Fr [] [(111, 50), (111, 51), (111, 52), (111, 53), (111, 54), (111, 55)] M M22 := hFM19.trans ((w_Mo_isIn fv21).mono (by simp) (by simp))
          rcases ite_e h with ⟨c23, h⟩ | ⟨c23, h⟩
          · skip
            rcases ite_e h with ⟨c24, h⟩ | ⟨c24, h⟩
            · skip
              exact hFM22.trans (w_Mo_next_356 h)
            · skip
              rcases ite_e h with ⟨c25, h⟩ | ⟨c25, h⟩
              · skip
                exact hFM22.trans (w_Mo_next_356 h)
              · skip
                exact hFM22.trans (w_Mo_next_361 h)
          · skip
            exact hFM22.trans (w_Mo_next_356 h)
        · skip
          exact hFM19.trans (w_Mo_next_356 h)
      · skip
        obtain ⟨M26, eM26, h⟩ := blet_e h
        have hFM26 : Fr [] [(111, 50), (111, 51), (111, 52), (111, 53), (111, 54), (111, 55)] M M26 := by rw [eM26]; exact hFM13.stoF (by simp)
        exact hFM26.trans (wl_Mo_next_210 FU  M26 r h)
    · skip
      obtain ⟨M27, eM27, h⟩ := blet_e h
      have hFM27 : Fr [] [(111, 50), (111, 51), (111, 52), (111, 53), (111, 54), (111, 55)] M M27 := by rw [eM27]; exact hFM10.stoF (by simp)
      obtain ⟨M28, eM28, h⟩ := blet_e h
      have hFM28 : Fr [] [(111, 50), (111, 51), (111, 52), (111, 53), (111, 54), (111, 55)] M M28 := by rw [eM28]; exact hFM27.stoF (by simp)
      exact hFM28.trans (wl_Mo_next_109 FU  M28 r h)
  · skip
    obtain ⟨M29, eM29, h⟩ := blet_e h
    have hFM29 : Fr [] [(111, 50), (111, 51), (111, 52), (111, 53), (111, 54), (111, 55)] M M29 := by rw [eM29]; exact hFM2.stoF (by simp)
    cases h; exact hFM29
theorem w_Mo_next_45 {R8 : Mem → Res} (hR8 : ∀ (M : Mem) (r : Int × Mem), R8  M = some r → Fr [] [(111, 50), (111, 51), (111, 52), (111, 53), (111, 54), (111, 55)] M r.2) {M : Mem} {r : Int × Mem} (h : k_Mo_next_45 R8 M = some r) : Fr [] [(111, 50), (111, 51), (111, 52), (111, 53), (111, 54), (111, 55)] M r.2 := by
  unfold k_Mo_next_45 at h
  have hFM : Fr [] [(111, 50), (111, 51), (111, 52), (111, 53), (111, 54), (111, 55)] M M := Fr.rfl'
  obtain ⟨v1, ev1, h⟩ := blet_e h
  obtain ⟨M2, eM2, h⟩ := blet_e h
  have hFM2 : Fr [] [(111, 50), (111, 51), (111, 52), (111, 53), (111, 54), (111, 55)] M M2 := by rw [eM2]; exact hFM.stoF (by simp)
  exact hFM2.trans (hR8  M2 r h)
theorem w_Mo_next_8 {R8 : Mem → Res} (hR8 : ∀ (M : Mem) (r : Int × Mem), R8  M = some r → Fr [] [(111, 50), (111, 51), (111, 52), (111, 53), (111, 54), (111, 55)] M r.2) {M : Mem} {r : Int × Mem} (h : k_Mo_next_8 R8 M = some r) : Fr [] [(111, 50), (111, 51), (111, 52), (111, 53), (111, 54), (111, 55)] M r.2 := by
  unfold k_Mo_next_8 at h
  have hFM : Fr [] [(111, 50), (111, 51), (111, 52), (111, 53), (111, 54), (111, 55)] M M := Fr.rfl'
  obtain ⟨v1, ev1, h⟩ := blet_e h
  obtain ⟨v2, ev2, h⟩ := blet_e h
  rcases ite_e h with ⟨c3, h⟩ | ⟨c3, h⟩
  · skip
    obtain ⟨v4, ev4, h⟩ := blet_e h
    obtain ⟨v5, M6, fv5, h⟩ := bcall_e h
    have hFM6 : Fr [] [(111, 50), (111, 51), (111, 52), (111, 53), (111, 54), (111, 55)] M M6 := hFM.trans ((w_Mo_look fv5).mono (by simp) (by simp))
    rcases ite_e h with ⟨c7, h⟩ | ⟨c7, h⟩
    · skip
      exact hFM6.trans (w_Mo_next_45 hR8 h)
    · skip
      obtain ⟨v8, ev8, h⟩ := blet_e h
      obtain ⟨v9, M10, fv9, h⟩ := bcall_e h
      have hFM10 : Fr [] [(111, 50), (111, 51), (111, 52), (111, 53), (111, 54), (111, 55)] M M10 := hFM6.trans ((w_Mo_look fv9).mono (by simp) (by simp))
      rcases ite_e h with ⟨c11, h⟩ | ⟨c11, h⟩
      · skip
        exact hFM10.trans (w_Mo_next_45 hR8 h)
      · skip
        exact hFM10.trans (w_Mo_next_58 h)
  · skip
    exact hFM.trans (w_Mo_next_58 h)
theorem wl_Mo_next_8  : ∀ (n : Nat) (M : Mem) (r : Int × Mem), fix (fun _ => none) (k_Mo_next_8) n M = some r → Fr [] [(111, 50), (111, 51), (111, 52), (111, 53), (111, 54), (111, 55)] M r.2 := by
  intro n
  induction n with
  | zero => intro M r h; exact nomatch (show (none : Res) = some r from h)
  | succ n ih => intro M r h; exact w_Mo_next_8 ih h
theorem w_Mo_next {M : Mem} {r : Int × Mem} (h : d_Mo_next M = some r) : Fr [] [(111, 50), (111, 51), (111, 52), (111, 53), (111, 54), (111, 55)] M r.2 := by
  unfold d_Mo_next at h
  have hFM : Fr [] [(111, 50), (111, 51), (111, 52), (111, 53), (111, 54), (111, 55)] M M := Fr.rfl'
  obtain ⟨v1, ev1, h⟩ := blet_e h
  obtain ⟨M2, eM2, h⟩ := blet_e h
  have hFM2 : Fr [] [(111, 50), (111, 51), (111, 52), (111, 53), (111, 54), (111, 55)] M M2 := by rw [eM2]; exact hFM.stoF (by simp)
  exact hFM2.trans (wl_Mo_next_8 FU  M2 r h)
theorem w_Mo_isWord {a1 : Int} {M : Mem} {r : Int × Mem} (h : d_Mo_isWord a1 M = some r) : Fr [] [] M r.2 := by
  unfold d_Mo_isWord at h
  have hFM : Fr [] [] M M := Fr.rfl'
  obtain ⟨v1, ev1, h⟩ := blet_e h
  rcases ite_e h with ⟨c2, h⟩ | ⟨c2, h⟩
  · skip
    obtain ⟨v3, ev3, h⟩ := blet_e h
    rcases ite_e h with ⟨c4, h⟩ | ⟨c4, h⟩
    · skip
      cases h; exact hFM
    · skip
      cases h; exact hFM
  · skip
    cases h; exact hFM
theorem w_Mo_variable {M : Mem} {r : Int × Mem} (h : d_Mo_variable M = some r) : Fr [] [] M r.2 := by
  unfold d_Mo_variable at h
  have hFM : Fr [] [] M M := Fr.rfl'
  obtain ⟨v1, M2, fv1, h⟩ := bcall_e h
  have hFM2 : Fr [] [] M M2 := hFM.trans ((w_Mo_spelled fv1).mono (by simp) (by simp))
  obtain ⟨v3, M4, fv3, h⟩ := bcall_e h
  have hFM4 : Fr [] [] M M4 := hFM2.trans ((w_Mo_isWord fv3).mono (by simp) (by simp))
  rcases ite_e h with ⟨c5, h⟩ | ⟨c5, h⟩
  · skip
    obtain ⟨v6, M7, fv6, h⟩ := bcall_e h
    have hFM7 : Fr [] [] M M7 := hFM4.trans ((w_Mo_isWord fv6).mono (by simp) (by simp))
    rcases ite_e h with ⟨c8, h⟩ | ⟨c8, h⟩
    · skip
      obtain ⟨v9, M10, fv9, h⟩ := bcall_e h
      have hFM10 : Fr [] [] M M10 := hFM7.trans ((w_Mo_spelled fv9).mono (by simp) (by simp))
      obtain ⟨v11, M12, fv11, h⟩ := bcall_e h
      have hFM12 : Fr [] [] M M12 := hFM10.trans ((w_Mo_isWord fv11).mono (by simp) (by simp))
      rcases ite_e h with ⟨c13, h⟩ | ⟨c13, h⟩
      · skip
        obtain ⟨v14, M15, fv14, h⟩ := bcall_e h
        have hFM15 : Fr [] [] M M15 := hFM12.trans ((w_Mo_spelled fv14).mono (by simp) (by simp))
        obtain ⟨v16, M17, fv16, h⟩ := bcall_e h
        have hFM17 : Fr [] [] M M17 := hFM15.trans ((w_Mo_isWord fv16).mono (by simp) (by simp))
        rcases ite_e h with ⟨c18, h⟩ | ⟨c18, h⟩
        · skip
          obtain ⟨v19, M20, fv19, h⟩ := bcall_e h
          have hFM20 : Fr [] [] M M20 := hFM17.trans ((w_Mo_isWord fv19).mono (by simp) (by simp))
          rcases ite_e h with ⟨c21, h⟩ | ⟨c21, h⟩
          · skip
            obtain ⟨v22, M23, fv22, h⟩ := bcall_e h
            have hFM23 : Fr [] [] M M23 := hFM20.trans ((w_Mo_spelled fv22).mono (by simp) (by simp))
            obtain ⟨v24, M25, fv24, h⟩ := bcall_e h
            have hFM25 : Fr [] [] M M25 := hFM23.trans ((w_Mo_isWord fv24).mono (by simp) (by simp))
            rcases ite_e h with ⟨c26, h⟩ | ⟨c26, h⟩
            · skip
              obtain ⟨v27, M28, fv27, h⟩ := bcall_e h
              have hFM28 : Fr [] [] M M28 := hFM25.trans ((w_Mo_spelled fv27).mono (by simp) (by simp))
              obtain ⟨v29, M30, fv29, h⟩ := bcall_e h
              have hFM30 : Fr [] [] M M30 := hFM28.trans ((w_Mo_isWord fv29).mono (by simp) (by simp))
              rcases ite_e h with ⟨c31, h⟩ | ⟨c31, h⟩
              · skip
                obtain ⟨v32, M33, fv32, h⟩ := bcall_e h
                have hFM33 : Fr [] [] M M33 := hFM30.trans ((w_Mo_isWord fv32).mono (by simp) (by simp))
                rcases ite_e h with ⟨c34, h⟩ | ⟨c34, h⟩
                · skip
                  obtain ⟨v35, M36, fv35, h⟩ := bcall_e h
                  have hFM36 : Fr [] [] M M36 := hFM33.trans ((w_Mo_spelled fv35).mono (by simp) (by simp))
                  obtain ⟨v37, M38, fv37, h⟩ := bcall_e h
                  have hFM38 : Fr [] [] M M38 := hFM36.trans ((w_Mo_isWord fv37).mono (by simp) (by simp))
                  rcases ite_e h with ⟨c39, h⟩ | ⟨c39, h⟩
                  · skip
                    obtain ⟨v40, M41, fv40, h⟩ := bcall_e h
                    have hFM41 : Fr [] [] M M41 := hFM38.trans ((w_Mo_spelled fv40).mono (by simp) (by simp))
                    obtain ⟨v42, M43, fv42, h⟩ := bcall_e h
                    have hFM43 : Fr [] [] M M43 := hFM41.trans ((w_Mo_isWord fv42).mono (by simp) (by simp))
                    rcases ite_e h with ⟨c44, h⟩ | ⟨c44, h⟩
                    · skip
                      obtain ⟨v45, M46, fv45, h⟩ := bcall_e h
                      have hFM46 : Fr [] [] M M46 := hFM43.trans ((w_Mo_spelled fv45).mono (by simp) (by simp))
                      obtain ⟨v47, M48, fv47, h⟩ := bcall_e h
                      have hFM48 : Fr [] [] M M48 := hFM46.trans ((w_Mo_isWord fv47).mono (by simp) (by simp))
                      rcases ite_e h with ⟨c49, h⟩ | ⟨c49, h⟩
                      · skip
                        cases h; exact hFM48
                      · skip
                        cases h; exact hFM48
                    · skip
                      cases h; exact hFM43
                  · skip
                    cases h; exact hFM38
                · skip
                  cases h; exact hFM33
              · skip
                cases h; exact hFM30
            · skip
              cases h; exact hFM25
          · skip
            cases h; exact hFM20
        · skip
          cases h; exact hFM17
      · skip
        cases h; exact hFM12
    · skip
      cases h; exact hFM7
  · skip
    cases h; exact hFM4
theorem w_Mo_isIf {M : Mem} {r : Int × Mem} (h : d_Mo_isIf M = some r) : Fr [] [] M r.2 := by
  unfold d_Mo_isIf at h
  have hFM : Fr [] [] M M := Fr.rfl'
  obtain ⟨v1, M2, fv1, h⟩ := bcall_e h
  have hFM2 : Fr [] [] M M2 := hFM.trans ((w_Mo_spelled fv1).mono (by simp) (by simp))
  obtain ⟨v3, M4, fv3, h⟩ := bcall_e h
  have hFM4 : Fr [] [] M M4 := hFM2.trans ((w_Mo_isWord fv3).mono (by simp) (by simp))
  obtain ⟨c5, h⟩ := chk_e h
  cases h; exact hFM4
theorem w_Mo_isThen {M : Mem} {r : Int × Mem} (h : d_Mo_isThen M = some r) : Fr [] [] M r.2 := by
  unfold d_Mo_isThen at h
  have hFM : Fr [] [] M M := Fr.rfl'
  obtain ⟨v1, M2, fv1, h⟩ := bcall_e h
  have hFM2 : Fr [] [] M M2 := hFM.trans ((w_Mo_spelled fv1).mono (by simp) (by simp))
  obtain ⟨v3, M4, fv3, h⟩ := bcall_e h
  have hFM4 : Fr [] [] M M4 := hFM2.trans ((w_Mo_isWord fv3).mono (by simp) (by simp))
  obtain ⟨c5, h⟩ := chk_e h
  cases h; exact hFM4
theorem w_Mo_isElse {M : Mem} {r : Int × Mem} (h : d_Mo_isElse M = some r) : Fr [] [] M r.2 := by
  unfold d_Mo_isElse at h
  have hFM : Fr [] [] M M := Fr.rfl'
  obtain ⟨v1, M2, fv1, h⟩ := bcall_e h
  have hFM2 : Fr [] [] M M2 := hFM.trans ((w_Mo_spelled fv1).mono (by simp) (by simp))
  obtain ⟨v3, M4, fv3, h⟩ := bcall_e h
  have hFM4 : Fr [] [] M M4 := hFM2.trans ((w_Mo_isWord fv3).mono (by simp) (by simp))
  obtain ⟨c5, h⟩ := chk_e h
  cases h; exact hFM4
theorem w_Mo_isAnd {M : Mem} {r : Int × Mem} (h : d_Mo_isAnd M = some r) : Fr [] [] M r.2 := by
  unfold d_Mo_isAnd at h
  have hFM : Fr [] [] M M := Fr.rfl'
  obtain ⟨v1, M2, fv1, h⟩ := bcall_e h
  have hFM2 : Fr [] [] M M2 := hFM.trans ((w_Mo_spelled fv1).mono (by simp) (by simp))
  obtain ⟨v3, M4, fv3, h⟩ := bcall_e h
  have hFM4 : Fr [] [] M M4 := hFM2.trans ((w_Mo_isWord fv3).mono (by simp) (by simp))
  obtain ⟨c5, h⟩ := chk_e h
  cases h; exact hFM4
theorem w_Mo_isOr {M : Mem} {r : Int × Mem} (h : d_Mo_isOr M = some r) : Fr [] [] M r.2 := by
  unfold d_Mo_isOr at h
  have hFM : Fr [] [] M M := Fr.rfl'
  obtain ⟨v1, M2, fv1, h⟩ := bcall_e h
  have hFM2 : Fr [] [] M M2 := hFM.trans ((w_Mo_spelled fv1).mono (by simp) (by simp))
  obtain ⟨v3, M4, fv3, h⟩ := bcall_e h
  have hFM4 : Fr [] [] M M4 := hFM2.trans ((w_Mo_isWord fv3).mono (by simp) (by simp))
  obtain ⟨c5, h⟩ := chk_e h
  cases h; exact hFM4
theorem w_Mo_isNot {M : Mem} {r : Int × Mem} (h : d_Mo_isNot M = some r) : Fr [] [] M r.2 := by
  unfold d_Mo_isNot at h
  have hFM : Fr [] [] M M := Fr.rfl'
  obtain ⟨v1, M2, fv1, h⟩ := bcall_e h
  have hFM2 : Fr [] [] M M2 := hFM.trans ((w_Mo_spelled fv1).mono (by simp) (by simp))
  obtain ⟨v3, M4, fv3, h⟩ := bcall_e h
  have hFM4 : Fr [] [] M M4 := hFM2.trans ((w_Mo_isWord fv3).mono (by simp) (by simp))
  obtain ⟨c5, h⟩ := chk_e h
  cases h; exact hFM4
theorem w_Mo_isLeast {M : Mem} {r : Int × Mem} (h : d_Mo_isLeast M = some r) : Fr [] [] M r.2 := by
  unfold d_Mo_isLeast at h
  have hFM : Fr [] [] M M := Fr.rfl'
  obtain ⟨v1, M2, fv1, h⟩ := bcall_e h
  have hFM2 : Fr [] [] M M2 := hFM.trans ((w_Mo_spelled fv1).mono (by simp) (by simp))
  obtain ⟨v3, M4, fv3, h⟩ := bcall_e h
  have hFM4 : Fr [] [] M M4 := hFM2.trans ((w_Mo_isWord fv3).mono (by simp) (by simp))
  obtain ⟨c5, h⟩ := chk_e h
  cases h; exact hFM4
theorem w_Mo_isMost {M : Mem} {r : Int × Mem} (h : d_Mo_isMost M = some r) : Fr [] [] M r.2 := by
  unfold d_Mo_isMost at h
  have hFM : Fr [] [] M M := Fr.rfl'
  obtain ⟨v1, M2, fv1, h⟩ := bcall_e h
  have hFM2 : Fr [] [] M M2 := hFM.trans ((w_Mo_spelled fv1).mono (by simp) (by simp))
  obtain ⟨v3, M4, fv3, h⟩ := bcall_e h
  have hFM4 : Fr [] [] M M4 := hFM2.trans ((w_Mo_isWord fv3).mono (by simp) (by simp))
  obtain ⟨c5, h⟩ := chk_e h
  cases h; exact hFM4
theorem w_Mo_isKept_56  {M : Mem} {r : Int × Mem} (h : k_Mo_isKept_56 M = some r) : Fr [] [] M r.2 := by
  unfold k_Mo_isKept_56 at h
  have hFM : Fr [] [] M M := Fr.rfl'
  cases h; exact hFM
theorem w_Mo_isKept {M : Mem} {r : Int × Mem} (h : d_Mo_isKept M = some r) : Fr [] [] M r.2 := by
  unfold d_Mo_isKept at h
  have hFM : Fr [] [] M M := Fr.rfl'
  obtain ⟨v1, M2, fv1, h⟩ := bcall_e h
  have hFM2 : Fr [] [] M M2 := hFM.trans ((w_Mo_isIf fv1).mono (by simp) (by simp))
  rcases ite_e h with ⟨c3, h⟩ | ⟨c3, h⟩
  · skip
    obtain ⟨v4, M5, fv4, h⟩ := bcall_e h
    have hFM5 : Fr [] [] M M5 := hFM2.trans ((w_Mo_isThen fv4).mono (by simp) (by simp))
    rcases ite_e h with ⟨c6, h⟩ | ⟨c6, h⟩
    · skip
      obtain ⟨v7, M8, fv7, h⟩ := bcall_e h
      have hFM8 : Fr [] [] M M8 := hFM5.trans ((w_Mo_isElse fv7).mono (by simp) (by simp))
      rcases ite_e h with ⟨c9, h⟩ | ⟨c9, h⟩
      · skip
        obtain ⟨v10, M11, fv10, h⟩ := bcall_e h
        have hFM11 : Fr [] [] M M11 := hFM8.trans ((w_Mo_isAnd fv10).mono (by simp) (by simp))
        rcases ite_e h with ⟨c12, h⟩ | ⟨c12, h⟩
        · skip
          obtain ⟨v13, M14, fv13, h⟩ := bcall_e h
          have hFM14 : Fr [] [] M M14 := hFM11.trans ((w_Mo_isOr fv13).mono (by simp) (by simp))
          rcases ite_e h with ⟨c15, h⟩ | ⟨c15, h⟩
          · skip
            obtain ⟨v16, M17, fv16, h⟩ := bcall_e h
            have hFM17 : Fr [] [] M M17 := hFM14.trans ((w_Mo_isNot fv16).mono (by simp) (by simp))
            rcases ite_e h with ⟨c18, h⟩ | ⟨c18, h⟩
            · skip
              obtain ⟨v19, M20, fv19, h⟩ := bcall_e h
              have hFM20 : Fr [] [] M M20 := hFM17.trans ((w_Mo_isLeast fv19).mono (by simp) (by simp))
              rcases ite_e h with ⟨c21, h⟩ | ⟨c21, h⟩
              · skip
                obtain ⟨v22, M23, fv22, h⟩ := bcall_e h
                have hFM23 : Fr [] [] M M23 := hFM20.trans ((w_Mo_isMost fv22).mono (by simp) (by simp))
                rcases ite_e h with ⟨c24, h⟩ | ⟨c24, h⟩
                · skip
                  cases h; exact hFM23
                · skip
                  exact hFM23.trans (w_Mo_isKept_56 h)
              · skip
                exact hFM20.trans (w_Mo_isKept_56 h)
            · skip
              exact hFM17.trans (w_Mo_isKept_56 h)
          · skip
            exact hFM14.trans (w_Mo_isKept_56 h)
        · skip
          exact hFM11.trans (w_Mo_isKept_56 h)
      · skip
        exact hFM8.trans (w_Mo_isKept_56 h)
    · skip
      exact hFM5.trans (w_Mo_isKept_56 h)
  · skip
    exact hFM2.trans (w_Mo_isKept_56 h)
theorem w_Mo_fail {a1 a2 : Int} {M : Mem} {r : Int × Mem} (h : d_Mo_fail a1 a2 M = some r) : Fr [] [(111, 48), (111, 49)] M r.2 := by
  unfold d_Mo_fail at h
  have hFM : Fr [] [(111, 48), (111, 49)] M M := Fr.rfl'
  obtain ⟨v1, ev1, h⟩ := blet_e h
  rcases ite_e h with ⟨c2, h⟩ | ⟨c2, h⟩
  · skip
    cases h; exact hFM
  · skip
    obtain ⟨M3, eM3, h⟩ := blet_e h
    have hFM3 : Fr [] [(111, 48), (111, 49)] M M3 := by rw [eM3]; exact hFM.stoF (by simp)
    obtain ⟨M4, eM4, h⟩ := blet_e h
    have hFM4 : Fr [] [(111, 48), (111, 49)] M M4 := by rw [eM4]; exact hFM3.stoF (by simp)
    cases h; exact hFM4
theorem w_Mo_wrong_14  {s1 : Int} {M : Mem} {r : Int × Mem} (h : k_Mo_wrong_14 s1 M = some r) : Fr [] [(111, 48), (111, 49)] M r.2 := by
  unfold k_Mo_wrong_14 at h
  have hFM : Fr [] [(111, 48), (111, 49)] M M := Fr.rfl'
  obtain ⟨v1, ev1, h⟩ := blet_e h
  obtain ⟨v2, M3, fv2, h⟩ := bcall_e h
  have hFM3 : Fr [] [(111, 48), (111, 49)] M M3 := hFM.trans ((w_Mo_fail fv2).mono (by simp) (by simp))
  cases h; exact hFM3
theorem w_Mo_wrong {M : Mem} {r : Int × Mem} (h : d_Mo_wrong M = some r) : Fr [] [(111, 48), (111, 49)] M r.2 := by
  unfold d_Mo_wrong at h
  have hFM : Fr [] [(111, 48), (111, 49)] M M := Fr.rfl'
  obtain ⟨v1, ev1, h⟩ := blet_e h
  rcases ite_e h with ⟨c2, h⟩ | ⟨c2, h⟩
  · skip
    exact hFM.trans (w_Mo_wrong_14 h)
  · skip
    exact hFM.trans (w_Mo_wrong_14 h)
theorem w_Mo_named_2 {R2 : Int → Mem → Res} (hR2 : ∀ (a1 : Int) (M : Mem) (r : Int × Mem), R2 a1 M = some r → Fr [] [] M r.2) {a1 : Int} {M : Mem} {r : Int × Mem} (h : k_Mo_named_2 R2 a1 M = some r) : Fr [] [] M r.2 := by
  unfold k_Mo_named_2 at h
  have hFM : Fr [] [] M M := Fr.rfl'
  obtain ⟨v1, ev1, h⟩ := blet_e h
  rcases ite_e h with ⟨c2, h⟩ | ⟨c2, h⟩
  · skip
    obtain ⟨v3, ev3, h⟩ := blet_e h
    rcases ite_e h with ⟨c4, h⟩ | ⟨c4, h⟩
    · skip
      cases h; exact hFM
    · skip
      obtain ⟨v5, ev5, h⟩ := blet_e h
      rcases ite_e h with ⟨c6, h⟩ | ⟨c6, h⟩
      · skip
        obtain ⟨c7, h⟩ := chk_e h
        obtain ⟨v8, ev8, h⟩ := blet_e h
        obtain ⟨v9, ev9, h⟩ := blet_e h
        rcases ite_e h with ⟨c10, h⟩ | ⟨c10, h⟩
        · skip
          cases h; exact hFM
        · skip
          obtain ⟨v11, ev11, h⟩ := blet_e h
          exact hFM.trans (hR2 v11 M r h)
      · skip
        cases h; exact hFM
  · skip
    cases h; exact hFM
theorem wl_Mo_named_2  : ∀ (n : Nat) (a1 : Int) (M : Mem) (r : Int × Mem), fix (fun _ _ => none) (k_Mo_named_2) n a1 M = some r → Fr [] [] M r.2 := by
  intro n
  induction n with
  | zero => intro a1 M r h; exact nomatch (show (none : Res) = some r from h)
  | succ n ih => intro a1 M r h; exact w_Mo_named_2 ih h
theorem w_Mo_named {M : Mem} {r : Int × Mem} (h : d_Mo_named M = some r) : Fr [] [] M r.2 := by
  unfold d_Mo_named at h
  have hFM : Fr [] [] M M := Fr.rfl'
  exact hFM.trans (wl_Mo_named_2 FU 0 M r h)
theorem w_Mo_isSign {a1 : Int} {M : Mem} {r : Int × Mem} (h : d_Mo_isSign a1 M = some r) : Fr [] [] M r.2 := by
  unfold d_Mo_isSign at h
  have hFM : Fr [] [] M M := Fr.rfl'
  obtain ⟨v1, ev1, h⟩ := blet_e h
  rcases ite_e h with ⟨c2, h⟩ | ⟨c2, h⟩
  · skip
    obtain ⟨v3, ev3, h⟩ := blet_e h
    rcases ite_e h with ⟨c4, h⟩ | ⟨c4, h⟩
    · skip
      cases h; exact hFM
    · skip
      cases h; exact hFM
  · skip
    cases h; exact hFM
theorem w_Mo_canBeginSum_46  {M : Mem} {r : Int × Mem} (h : k_Mo_canBeginSum_46 M = some r) : Fr [] [] M r.2 := by
  unfold k_Mo_canBeginSum_46 at h
  have hFM : Fr [] [] M M := Fr.rfl'
  cases h; exact hFM
theorem w_Mo_canBeginSum {M : Mem} {r : Int × Mem} (h : d_Mo_canBeginSum M = some r) : Fr [] [] M r.2 := by
  unfold d_Mo_canBeginSum at h
  have hFM : Fr [] [] M M := Fr.rfl'
  obtain ⟨v1, ev1, h⟩ := blet_e h
  rcases ite_e h with ⟨c2, h⟩ | ⟨c2, h⟩
  · skip
    exact hFM.trans (w_Mo_canBeginSum_46 h)
  · skip
    obtain ⟨v3, M4, fv3, h⟩ := bcall_e h
    have hFM4 : Fr [] [] M M4 := hFM.trans ((w_Mo_isSign fv3).mono (by simp) (by simp))
    rcases ite_e h with ⟨c5, h⟩ | ⟨c5, h⟩
    · skip
      obtain ⟨v6, M7, fv6, h⟩ := bcall_e h
      have hFM7 : Fr [] [] M M7 := hFM4.trans ((w_Mo_isLeast fv6).mono (by simp) (by simp))
      rcases ite_e h with ⟨c8, h⟩ | ⟨c8, h⟩
      · skip
        obtain ⟨v9, M10, fv9, h⟩ := bcall_e h
        have hFM10 : Fr [] [] M M10 := hFM7.trans ((w_Mo_isMost fv9).mono (by simp) (by simp))
        rcases ite_e h with ⟨c11, h⟩ | ⟨c11, h⟩
        · skip
          obtain ⟨v12, ev12, h⟩ := blet_e h
          rcases ite_e h with ⟨c13, h⟩ | ⟨c13, h⟩
          · skip
            obtain ⟨v14, M15, fv14, h⟩ := bcall_e h
            have hFM15 : Fr [] [] M M15 := hFM10.trans ((w_Mo_isKept fv14).mono (by simp) (by simp))
            rcases ite_e h with ⟨c16, h⟩ | ⟨c16, h⟩
            · skip
              exact hFM15.trans (w_Mo_canBeginSum_46 h)
            · skip
              cases h; exact hFM15
          · skip
            cases h; exact hFM10
        · skip
          exact hFM10.trans (w_Mo_canBeginSum_46 h)
      · skip
        exact hFM7.trans (w_Mo_canBeginSum_46 h)
    · skip
      exact hFM4.trans (w_Mo_canBeginSum_46 h)
theorem w_Mo_canBegin_14  {M : Mem} {r : Int × Mem} (h : k_Mo_canBegin_14 M = some r) : Fr [] [] M r.2 := by
  unfold k_Mo_canBegin_14 at h
  have hFM : Fr [] [] M M := Fr.rfl'
  cases h; exact hFM
theorem w_Mo_canBegin {M : Mem} {r : Int × Mem} (h : d_Mo_canBegin M = some r) : Fr [] [] M r.2 := by
  unfold d_Mo_canBegin at h
  have hFM : Fr [] [] M M := Fr.rfl'
  obtain ⟨v1, M2, fv1, h⟩ := bcall_e h
  have hFM2 : Fr [] [] M M2 := hFM.trans ((w_Mo_isIf fv1).mono (by simp) (by simp))
  rcases ite_e h with ⟨c3, h⟩ | ⟨c3, h⟩
  · skip
    obtain ⟨v4, M5, fv4, h⟩ := bcall_e h
    have hFM5 : Fr [] [] M M5 := hFM2.trans ((w_Mo_canBeginSum fv4).mono (by simp) (by simp))
    rcases ite_e h with ⟨c6, h⟩ | ⟨c6, h⟩
    · skip
      cases h; exact hFM5
    · skip
      exact hFM5.trans (w_Mo_canBegin_14 h)
  · skip
    exact hFM2.trans (w_Mo_canBegin_14 h)
theorem w_Mo_mark {a1 a2 : Int} {M : Mem} {r : Int × Mem} (h : d_Mo_mark a1 a2 M = some r) : Fr [152] [(111, 58)] M r.2 := by
  unfold d_Mo_mark at h
  have hFM : Fr [152] [(111, 58)] M M := Fr.rfl'
  obtain ⟨v1, ev1, h⟩ := blet_e h
  obtain ⟨c2, h⟩ := chk_e h
  obtain ⟨M3, eM3, h⟩ := blet_e h
  have hFM3 : Fr [152] [(111, 58)] M M3 := by rw [eM3]; exact hFM.stoA (by simp)
  obtain ⟨v4, ev4, h⟩ := blet_e h
  obtain ⟨M5, eM5, h⟩ := blet_e h
  have hFM5 : Fr [152] [(111, 58)] M M5 := by rw [eM5]; exact hFM3.stoF (by simp)
  cases h; exact hFM5
theorem w_Mo_readAtom_183 {SW : Int → Mem → Res} {SF : Int → Int → Mem → Res} (hSW : ∀ {a1 : Int} {M : Mem} {r : Int × Mem}, SW a1 M = some r → Fr [152] [(111, 48), (111, 49), (111, 50), (111, 51), (111, 52), (111, 53), (111, 54), (111, 55), (111, 58)] M r.2) (hSF : ∀ {a1 : Int} {a2 : Int} {M : Mem} {r : Int × Mem}, SF a1 a2 M = some r → Fr [152] [(111, 48), (111, 49), (111, 50), (111, 51), (111, 52), (111, 53), (111, 54), (111, 55), (111, 58)] M r.2)  {s1 s2 : Int} {M : Mem} {r : Int × Mem} (h : k_Mo_readAtom_183 SW SF s1 s2 M = some r) : Fr [152] [(111, 48), (111, 49), (111, 50), (111, 51), (111, 52), (111, 53), (111, 54), (111, 55), (111, 58)] M r.2 := by
  unfold k_Mo_readAtom_183 at h
  have hFM : Fr [152] [(111, 48), (111, 49), (111, 50), (111, 51), (111, 52), (111, 53), (111, 54), (111, 55), (111, 58)] M M := Fr.rfl'
  obtain ⟨v1, M2, fv1, h⟩ := bcall_e h
  have hFM2 : Fr [152] [(111, 48), (111, 49), (111, 50), (111, 51), (111, 52), (111, 53), (111, 54), (111, 55), (111, 58)] M M2 := hFM.trans ((w_Mo_mark fv1).mono (by simp) (by simp))
  obtain ⟨v3, M4, fv3, h⟩ := bcall_e h
  have hFM4 : Fr [152] [(111, 48), (111, 49), (111, 50), (111, 51), (111, 52), (111, 53), (111, 54), (111, 55), (111, 58)] M M4 := hFM2.trans ((w_Mo_next fv3).mono (by simp) (by simp))
  cases h; exact hFM4
theorem w_Mo_readAtom_174 {SW : Int → Mem → Res} {SF : Int → Int → Mem → Res} (hSW : ∀ {a1 : Int} {M : Mem} {r : Int × Mem}, SW a1 M = some r → Fr [152] [(111, 48), (111, 49), (111, 50), (111, 51), (111, 52), (111, 53), (111, 54), (111, 55), (111, 58)] M r.2) (hSF : ∀ {a1 : Int} {a2 : Int} {M : Mem} {r : Int × Mem}, SF a1 a2 M = some r → Fr [152] [(111, 48), (111, 49), (111, 50), (111, 51), (111, 52), (111, 53), (111, 54), (111, 55), (111, 58)] M r.2)  {a2 a3 s1 : Int} {M : Mem} {r : Int × Mem} (h : k_Mo_readAtom_174 SW SF a2 a3 s1 M = some r) : Fr [152] [(111, 48), (111, 49), (111, 50), (111, 51), (111, 52), (111, 53), (111, 54), (111, 55), (111, 58)] M r.2 := by
  unfold k_Mo_readAtom_174 at h
  have hFM : Fr [152] [(111, 48), (111, 49), (111, 50), (111, 51), (111, 52), (111, 53), (111, 54), (111, 55), (111, 58)] M M := Fr.rfl'
  rcases ite_e h with ⟨c1, h⟩ | ⟨c1, h⟩
  · skip
    exact hFM.trans (w_Mo_readAtom_183 hSW hSF h)
  · skip
    exact hFM.trans (w_Mo_readAtom_183 hSW hSF h)
theorem w_Mo_readAtom_164 {SW : Int → Mem → Res} {SF : Int → Int → Mem → Res} (hSW : ∀ {a1 : Int} {M : Mem} {r : Int × Mem}, SW a1 M = some r → Fr [152] [(111, 48), (111, 49), (111, 50), (111, 51), (111, 52), (111, 53), (111, 54), (111, 55), (111, 58)] M r.2) (hSF : ∀ {a1 : Int} {a2 : Int} {M : Mem} {r : Int × Mem}, SF a1 a2 M = some r → Fr [152] [(111, 48), (111, 49), (111, 50), (111, 51), (111, 52), (111, 53), (111, 54), (111, 55), (111, 58)] M r.2)  {a2 a3 : Int} {M : Mem} {r : Int × Mem} (h : k_Mo_readAtom_164 SW SF a2 a3 M = some r) : Fr [152] [(111, 48), (111, 49), (111, 50), (111, 51), (111, 52), (111, 53), (111, 54), (111, 55), (111, 58)] M r.2 := by
  unfold k_Mo_readAtom_164 at h
  have hFM : Fr [152] [(111, 48), (111, 49), (111, 50), (111, 51), (111, 52), (111, 53), (111, 54), (111, 55), (111, 58)] M M := Fr.rfl'
  rcases ite_e h with ⟨c1, h⟩ | ⟨c1, h⟩
  · skip
    exact hFM.trans (w_Mo_readAtom_174 hSW hSF h)
  · skip
    exact hFM.trans (w_Mo_readAtom_174 hSW hSF h)
theorem w_Mo_readAtom_159 {SW : Int → Mem → Res} {SF : Int → Int → Mem → Res} (hSW : ∀ {a1 : Int} {M : Mem} {r : Int × Mem}, SW a1 M = some r → Fr [152] [(111, 48), (111, 49), (111, 50), (111, 51), (111, 52), (111, 53), (111, 54), (111, 55), (111, 58)] M r.2) (hSF : ∀ {a1 : Int} {a2 : Int} {M : Mem} {r : Int × Mem}, SF a1 a2 M = some r → Fr [152] [(111, 48), (111, 49), (111, 50), (111, 51), (111, 52), (111, 53), (111, 54), (111, 55), (111, 58)] M r.2)  {M : Mem} {r : Int × Mem} (h : k_Mo_readAtom_159 SW SF M = some r) : Fr [152] [(111, 48), (111, 49), (111, 50), (111, 51), (111, 52), (111, 53), (111, 54), (111, 55), (111, 58)] M r.2 := by
  unfold k_Mo_readAtom_159 at h
  have hFM : Fr [152] [(111, 48), (111, 49), (111, 50), (111, 51), (111, 52), (111, 53), (111, 54), (111, 55), (111, 58)] M M := Fr.rfl'
  obtain ⟨v1, M2, fv1, h⟩ := bcall_e h
  have hFM2 : Fr [152] [(111, 48), (111, 49), (111, 50), (111, 51), (111, 52), (111, 53), (111, 54), (111, 55), (111, 58)] M M2 := hFM.trans ((w_Mo_wrong fv1).mono (by simp) (by simp))
  cases h; exact hFM2
theorem w_Mo_readAtom_112 {SW : Int → Mem → Res} {SF : Int → Int → Mem → Res} (hSW : ∀ {a1 : Int} {M : Mem} {r : Int × Mem}, SW a1 M = some r → Fr [152] [(111, 48), (111, 49), (111, 50), (111, 51), (111, 52), (111, 53), (111, 54), (111, 55), (111, 58)] M r.2) (hSF : ∀ {a1 : Int} {a2 : Int} {M : Mem} {r : Int × Mem}, SF a1 a2 M = some r → Fr [152] [(111, 48), (111, 49), (111, 50), (111, 51), (111, 52), (111, 53), (111, 54), (111, 55), (111, 58)] M r.2)  {s1 s2 : Int} {M : Mem} {r : Int × Mem} (h : k_Mo_readAtom_112 SW SF s1 s2 M = some r) : Fr [152] [(111, 48), (111, 49), (111, 50), (111, 51), (111, 52), (111, 53), (111, 54), (111, 55), (111, 58)] M r.2 := by
  unfold k_Mo_readAtom_112 at h
  have hFM : Fr [152] [(111, 48), (111, 49), (111, 50), (111, 51), (111, 52), (111, 53), (111, 54), (111, 55), (111, 58)] M M := Fr.rfl'
  obtain ⟨v1, M2, fv1, h⟩ := bcall_e h
  have hFM2 : Fr [152] [(111, 48), (111, 49), (111, 50), (111, 51), (111, 52), (111, 53), (111, 54), (111, 55), (111, 58)] M M2 := hFM.trans (hSF fv1)
  cases h; exact hFM2
theorem w_Mo_readAtom_96 {SW : Int → Mem → Res} {SF : Int → Int → Mem → Res} (hSW : ∀ {a1 : Int} {M : Mem} {r : Int × Mem}, SW a1 M = some r → Fr [152] [(111, 48), (111, 49), (111, 50), (111, 51), (111, 52), (111, 53), (111, 54), (111, 55), (111, 58)] M r.2) (hSF : ∀ {a1 : Int} {a2 : Int} {M : Mem} {r : Int × Mem}, SF a1 a2 M = some r → Fr [152] [(111, 48), (111, 49), (111, 50), (111, 51), (111, 52), (111, 53), (111, 54), (111, 55), (111, 58)] M r.2)  {a1 : Int} {M : Mem} {r : Int × Mem} (h : k_Mo_readAtom_96 SW SF a1 M = some r) : Fr [152] [(111, 48), (111, 49), (111, 50), (111, 51), (111, 52), (111, 53), (111, 54), (111, 55), (111, 58)] M r.2 := by
  unfold k_Mo_readAtom_96 at h
  have hFM : Fr [152] [(111, 48), (111, 49), (111, 50), (111, 51), (111, 52), (111, 53), (111, 54), (111, 55), (111, 58)] M M := Fr.rfl'
  obtain ⟨v1, M2, fv1, h⟩ := bcall_e h
  have hFM2 : Fr [152] [(111, 48), (111, 49), (111, 50), (111, 51), (111, 52), (111, 53), (111, 54), (111, 55), (111, 58)] M M2 := hFM.trans ((w_Mo_isLeast fv1).mono (by simp) (by simp))
  rcases ite_e h with ⟨c3, h⟩ | ⟨c3, h⟩
  · skip
    exact hFM2.trans (w_Mo_readAtom_112 hSW hSF h)
  · skip
    exact hFM2.trans (w_Mo_readAtom_112 hSW hSF h)
theorem w_Mo_readAtom_70 {SW : Int → Mem → Res} {SF : Int → Int → Mem → Res} (hSW : ∀ {a1 : Int} {M : Mem} {r : Int × Mem}, SW a1 M = some r → Fr [152] [(111, 48), (111, 49), (111, 50), (111, 51), (111, 52), (111, 53), (111, 54), (111, 55), (111, 58)] M r.2) (hSF : ∀ {a1 : Int} {a2 : Int} {M : Mem} {r : Int × Mem}, SF a1 a2 M = some r → Fr [152] [(111, 48), (111, 49), (111, 50), (111, 51), (111, 52), (111, 53), (111, 54), (111, 55), (111, 58)] M r.2)  {M : Mem} {r : Int × Mem} (h : k_Mo_readAtom_70 SW SF M = some r) : Fr [152] [(111, 48), (111, 49), (111, 50), (111, 51), (111, 52), (111, 53), (111, 54), (111, 55), (111, 58)] M r.2 := by
  unfold k_Mo_readAtom_70 at h
  have hFM : Fr [152] [(111, 48), (111, 49), (111, 50), (111, 51), (111, 52), (111, 53), (111, 54), (111, 55), (111, 58)] M M := Fr.rfl'
  obtain ⟨v1, ev1, h⟩ := blet_e h
  rcases ite_e h with ⟨c2, h⟩ | ⟨c2, h⟩
  · skip
    obtain ⟨v3, M4, fv3, h⟩ := bcall_e h
    have hFM4 : Fr [152] [(111, 48), (111, 49), (111, 50), (111, 51), (111, 52), (111, 53), (111, 54), (111, 55), (111, 58)] M M4 := hFM.trans ((w_Mo_next fv3).mono (by simp) (by simp))
    cases h; exact hFM4
  · skip
    cases h; exact hFM
theorem w_Mo_readAtom {SW : Int → Mem → Res} {SF : Int → Int → Mem → Res} (hSW : ∀ {a1 : Int} {M : Mem} {r : Int × Mem}, SW a1 M = some r → Fr [152] [(111, 48), (111, 49), (111, 50), (111, 51), (111, 52), (111, 53), (111, 54), (111, 55), (111, 58)] M r.2) (hSF : ∀ {a1 : Int} {a2 : Int} {M : Mem} {r : Int × Mem}, SF a1 a2 M = some r → Fr [152] [(111, 48), (111, 49), (111, 50), (111, 51), (111, 52), (111, 53), (111, 54), (111, 55), (111, 58)] M r.2) {a1 : Int} {M : Mem} {r : Int × Mem} (h : d_Mo_readAtom SW SF a1 M = some r) : Fr [152] [(111, 48), (111, 49), (111, 50), (111, 51), (111, 52), (111, 53), (111, 54), (111, 55), (111, 58)] M r.2 := by
  unfold d_Mo_readAtom at h
  have hFM : Fr [152] [(111, 48), (111, 49), (111, 50), (111, 51), (111, 52), (111, 53), (111, 54), (111, 55), (111, 58)] M M := Fr.rfl'
  obtain ⟨v1, ev1, h⟩ := blet_e h
  rcases ite_e h with ⟨c2, h⟩ | ⟨c2, h⟩
  · skip
    cases h; exact hFM
  · skip
    obtain ⟨v3, ev3, h⟩ := blet_e h
    rcases ite_e h with ⟨c4, h⟩ | ⟨c4, h⟩
    · skip
      obtain ⟨v5, ev5, h⟩ := blet_e h
      obtain ⟨v6, M7, fv6, h⟩ := bcall_e h
      have hFM7 : Fr [152] [(111, 48), (111, 49), (111, 50), (111, 51), (111, 52), (111, 53), (111, 54), (111, 55), (111, 58)] M M7 := hFM.trans ((w_Mo_mark fv6).mono (by simp) (by simp))
      obtain ⟨v8, M9, fv8, h⟩ := bcall_e h
      have hFM9 : Fr [152] [(111, 48), (111, 49), (111, 50), (111, 51), (111, 52), (111, 53), (111, 54), (111, 55), (111, 58)] M M9 := hFM7.trans ((w_Mo_next fv8).mono (by simp) (by simp))
      cases h; exact hFM9
    · skip
      obtain ⟨v10, M11, fv10, h⟩ := bcall_e h
      have hFM11 : Fr [152] [(111, 48), (111, 49), (111, 50), (111, 51), (111, 52), (111, 53), (111, 54), (111, 55), (111, 58)] M M11 := hFM.trans ((w_Mo_isSign fv10).mono (by simp) (by simp))
      rcases ite_e h with ⟨c12, h⟩ | ⟨c12, h⟩
      · skip
        obtain ⟨v13, M14, fv13, h⟩ := bcall_e h
        have hFM14 : Fr [152] [(111, 48), (111, 49), (111, 50), (111, 51), (111, 52), (111, 53), (111, 54), (111, 55), (111, 58)] M M14 := hFM11.trans ((w_Mo_isLeast fv13).mono (by simp) (by simp))
        rcases ite_e h with ⟨c15, h⟩ | ⟨c15, h⟩
        · skip
          obtain ⟨v16, M17, fv16, h⟩ := bcall_e h
          have hFM17 : Fr [152] [(111, 48), (111, 49), (111, 50), (111, 51), (111, 52), (111, 53), (111, 54), (111, 55), (111, 58)] M M17 := hFM14.trans ((w_Mo_isMost fv16).mono (by simp) (by simp))
          rcases ite_e h with ⟨c18, h⟩ | ⟨c18, h⟩
          · skip
            obtain ⟨v19, M20, fv19, h⟩ := bcall_e h
            have hFM20 : Fr [152] [(111, 48), (111, 49), (111, 50), (111, 51), (111, 52), (111, 53), (111, 54), (111, 55), (111, 58)] M M20 := hFM17.trans ((w_Mo_variable fv19).mono (by simp) (by simp))
            obtain ⟨v21, M22, fv21, h⟩ := bcall_e h
            have hFM22 : Fr [152] [(111, 48), (111, 49), (111, 50), (111, 51), (111, 52), (111, 53), (111, 54), (111, 55), (111, 58)] M M22 := hFM20.trans ((w_Mo_named fv21).mono (by simp) (by simp))
            rcases ite_e h with ⟨c23, h⟩ | ⟨c23, h⟩
            · skip
              rcases ite_e h with ⟨c24, h⟩ | ⟨c24, h⟩
              · skip
                obtain ⟨v25, ev25, h⟩ := blet_e h
                rcases ite_e h with ⟨c26, h⟩ | ⟨c26, h⟩
                · skip
                  obtain ⟨v27, M28, fv27, h⟩ := bcall_e h
                  have hFM28 : Fr [152] [(111, 48), (111, 49), (111, 50), (111, 51), (111, 52), (111, 53), (111, 54), (111, 55), (111, 58)] M M28 := hFM22.trans ((w_Mo_isKept fv27).mono (by simp) (by simp))
                  rcases ite_e h with ⟨c29, h⟩ | ⟨c29, h⟩
                  · skip
                    obtain ⟨v30, ev30, h⟩ := blet_e h
                    obtain ⟨v31, M32, fv31, h⟩ := bcall_e h
                    have hFM32 : Fr [152] [(111, 48), (111, 49), (111, 50), (111, 51), (111, 52), (111, 53), (111, 54), (111, 55), (111, 58)] M M32 := hFM28.trans ((w_Mo_fail fv31).mono (by simp) (by simp))
                    exact hFM32.trans (w_Mo_readAtom_159 hSW hSF h)
                  · skip
                    exact hFM28.trans (w_Mo_readAtom_159 hSW hSF h)
                · skip
                  exact hFM22.trans (w_Mo_readAtom_159 hSW hSF h)
              · skip
                exact hFM22.trans (w_Mo_readAtom_164 hSW hSF h)
            · skip
              exact hFM22.trans (w_Mo_readAtom_164 hSW hSF h)
          · skip
            exact hFM17.trans (w_Mo_readAtom_96 hSW hSF h)
        · skip
          exact hFM14.trans (w_Mo_readAtom_96 hSW hSF h)
      · skip
        obtain ⟨v33, M34, fv33, h⟩ := bcall_e h
        have hFM34 : Fr [152] [(111, 48), (111, 49), (111, 50), (111, 51), (111, 52), (111, 53), (111, 54), (111, 55), (111, 58)] M M34 := hFM11.trans ((w_Mo_next fv33).mono (by simp) (by simp))
        obtain ⟨v35, M36, fv35, h⟩ := bcall_e h
        have hFM36 : Fr [152] [(111, 48), (111, 49), (111, 50), (111, 51), (111, 52), (111, 53), (111, 54), (111, 55), (111, 58)] M M36 := hFM34.trans (hSW fv35)
        obtain ⟨v37, ev37, h⟩ := blet_e h
        rcases ite_e h with ⟨c38, h⟩ | ⟨c38, h⟩
        · skip
          obtain ⟨v39, M40, fv39, h⟩ := bcall_e h
          have hFM40 : Fr [152] [(111, 48), (111, 49), (111, 50), (111, 51), (111, 52), (111, 53), (111, 54), (111, 55), (111, 58)] M M40 := hFM36.trans ((w_Mo_isSign fv39).mono (by simp) (by simp))
          rcases ite_e h with ⟨c41, h⟩ | ⟨c41, h⟩
          · skip
            obtain ⟨v42, M43, fv42, h⟩ := bcall_e h
            have hFM43 : Fr [152] [(111, 48), (111, 49), (111, 50), (111, 51), (111, 52), (111, 53), (111, 54), (111, 55), (111, 58)] M M43 := hFM40.trans ((w_Mo_wrong fv42).mono (by simp) (by simp))
            exact hFM43.trans (w_Mo_readAtom_70 hSW hSF h)
          · skip
            exact hFM40.trans (w_Mo_readAtom_70 hSW hSF h)
        · skip
          exact hFM36.trans (w_Mo_readAtom_70 hSW hSF h)
theorem w_Mo_readItem_68 {SW : Int → Mem → Res} {SF : Int → Int → Mem → Res} (hSW : ∀ {a1 : Int} {M : Mem} {r : Int × Mem}, SW a1 M = some r → Fr [152] [(111, 48), (111, 49), (111, 50), (111, 51), (111, 52), (111, 53), (111, 54), (111, 55), (111, 58)] M r.2) (hSF : ∀ {a1 : Int} {a2 : Int} {M : Mem} {r : Int × Mem}, SF a1 a2 M = some r → Fr [152] [(111, 48), (111, 49), (111, 50), (111, 51), (111, 52), (111, 53), (111, 54), (111, 55), (111, 58)] M r.2) {R5 : Int → Mem → Res} (hR5 : ∀ (a1 : Int) (M : Mem) (r : Int × Mem), R5 a1 M = some r → Fr [152] [(111, 48), (111, 49), (111, 50), (111, 51), (111, 52), (111, 53), (111, 54), (111, 55), (111, 58)] M r.2) {a1 s0 : Int} {M : Mem} {r : Int × Mem} (h : k_Mo_readItem_68 SW SF R5 a1 s0 M = some r) : Fr [152] [(111, 48), (111, 49), (111, 50), (111, 51), (111, 52), (111, 53), (111, 54), (111, 55), (111, 58)] M r.2 := by
  unfold k_Mo_readItem_68 at h
  have hFM : Fr [152] [(111, 48), (111, 49), (111, 50), (111, 51), (111, 52), (111, 53), (111, 54), (111, 55), (111, 58)] M M := Fr.rfl'
  obtain ⟨v1, M2, fv1, h⟩ := bcall_e h
  have hFM2 : Fr [152] [(111, 48), (111, 49), (111, 50), (111, 51), (111, 52), (111, 53), (111, 54), (111, 55), (111, 58)] M M2 := hFM.trans ((w_Mo_next fv1).mono (by simp) (by simp))
  obtain ⟨v3, M4, fv3, h⟩ := bcall_e h
  have hFM4 : Fr [152] [(111, 48), (111, 49), (111, 50), (111, 51), (111, 52), (111, 53), (111, 54), (111, 55), (111, 58)] M M4 := hFM2.trans ((w_Mo_readAtom hSW hSF fv3).mono (by simp) (by simp))
  obtain ⟨v5, M6, fv5, h⟩ := bcall_e h
  have hFM6 : Fr [152] [(111, 48), (111, 49), (111, 50), (111, 51), (111, 52), (111, 53), (111, 54), (111, 55), (111, 58)] M M6 := hFM4.trans ((w_Mo_mark fv5).mono (by simp) (by simp))
  exact hFM6.trans (hR5 a1 M6 r h)
theorem w_Mo_readItem_39 {SW : Int → Mem → Res} {SF : Int → Int → Mem → Res} (hSW : ∀ {a1 : Int} {M : Mem} {r : Int × Mem}, SW a1 M = some r → Fr [152] [(111, 48), (111, 49), (111, 50), (111, 51), (111, 52), (111, 53), (111, 54), (111, 55), (111, 58)] M r.2) (hSF : ∀ {a1 : Int} {a2 : Int} {M : Mem} {r : Int × Mem}, SF a1 a2 M = some r → Fr [152] [(111, 48), (111, 49), (111, 50), (111, 51), (111, 52), (111, 53), (111, 54), (111, 55), (111, 58)] M r.2) {R5 : Int → Mem → Res} (hR5 : ∀ (a1 : Int) (M : Mem) (r : Int × Mem), R5 a1 M = some r → Fr [152] [(111, 48), (111, 49), (111, 50), (111, 51), (111, 52), (111, 53), (111, 54), (111, 55), (111, 58)] M r.2) {a1 : Int} {M : Mem} {r : Int × Mem} (h : k_Mo_readItem_39 SW SF R5 a1 M = some r) : Fr [152] [(111, 48), (111, 49), (111, 50), (111, 51), (111, 52), (111, 53), (111, 54), (111, 55), (111, 58)] M r.2 := by
  unfold k_Mo_readItem_39 at h
  have hFM : Fr [152] [(111, 48), (111, 49), (111, 50), (111, 51), (111, 52), (111, 53), (111, 54), (111, 55), (111, 58)] M M := Fr.rfl'
  obtain ⟨v1, M2, fv1, h⟩ := bcall_e h
  have hFM2 : Fr [152] [(111, 48), (111, 49), (111, 50), (111, 51), (111, 52), (111, 53), (111, 54), (111, 55), (111, 58)] M M2 := hFM.trans ((w_Mo_isSign fv1).mono (by simp) (by simp))
  rcases ite_e h with ⟨c3, h⟩ | ⟨c3, h⟩
  · skip
    obtain ⟨v4, M5, fv4, h⟩ := bcall_e h
    have hFM5 : Fr [152] [(111, 48), (111, 49), (111, 50), (111, 51), (111, 52), (111, 53), (111, 54), (111, 55), (111, 58)] M M5 := hFM2.trans ((w_Mo_isSign fv4).mono (by simp) (by simp))
    rcases ite_e h with ⟨c6, h⟩ | ⟨c6, h⟩
    · skip
      exact hFM5.trans (w_Mo_readItem_68 hSW hSF hR5 h)
    · skip
      exact hFM5.trans (w_Mo_readItem_68 hSW hSF hR5 h)
  · skip
    exact hFM2.trans (w_Mo_readItem_68 hSW hSF hR5 h)
theorem w_Mo_readItem_5 {SW : Int → Mem → Res} {SF : Int → Int → Mem → Res} (hSW : ∀ {a1 : Int} {M : Mem} {r : Int × Mem}, SW a1 M = some r → Fr [152] [(111, 48), (111, 49), (111, 50), (111, 51), (111, 52), (111, 53), (111, 54), (111, 55), (111, 58)] M r.2) (hSF : ∀ {a1 : Int} {a2 : Int} {M : Mem} {r : Int × Mem}, SF a1 a2 M = some r → Fr [152] [(111, 48), (111, 49), (111, 50), (111, 51), (111, 52), (111, 53), (111, 54), (111, 55), (111, 58)] M r.2) {R5 : Int → Mem → Res} (hR5 : ∀ (a1 : Int) (M : Mem) (r : Int × Mem), R5 a1 M = some r → Fr [152] [(111, 48), (111, 49), (111, 50), (111, 51), (111, 52), (111, 53), (111, 54), (111, 55), (111, 58)] M r.2) {a1 : Int} {M : Mem} {r : Int × Mem} (h : k_Mo_readItem_5 SW SF R5 a1 M = some r) : Fr [152] [(111, 48), (111, 49), (111, 50), (111, 51), (111, 52), (111, 53), (111, 54), (111, 55), (111, 58)] M r.2 := by
  unfold k_Mo_readItem_5 at h
  have hFM : Fr [152] [(111, 48), (111, 49), (111, 50), (111, 51), (111, 52), (111, 53), (111, 54), (111, 55), (111, 58)] M M := Fr.rfl'
  obtain ⟨v1, ev1, h⟩ := blet_e h
  rcases ite_e h with ⟨c2, h⟩ | ⟨c2, h⟩
  · skip
    obtain ⟨v3, M4, fv3, h⟩ := bcall_e h
    have hFM4 : Fr [152] [(111, 48), (111, 49), (111, 50), (111, 51), (111, 52), (111, 53), (111, 54), (111, 55), (111, 58)] M M4 := hFM.trans ((w_Mo_isSign fv3).mono (by simp) (by simp))
    rcases ite_e h with ⟨c5, h⟩ | ⟨c5, h⟩
    · skip
      obtain ⟨v6, M7, fv6, h⟩ := bcall_e h
      have hFM7 : Fr [152] [(111, 48), (111, 49), (111, 50), (111, 51), (111, 52), (111, 53), (111, 54), (111, 55), (111, 58)] M M7 := hFM4.trans ((w_Mo_isSign fv6).mono (by simp) (by simp))
      rcases ite_e h with ⟨c8, h⟩ | ⟨c8, h⟩
      · skip
        obtain ⟨v9, M10, fv9, h⟩ := bcall_e h
        have hFM10 : Fr [152] [(111, 48), (111, 49), (111, 50), (111, 51), (111, 52), (111, 53), (111, 54), (111, 55), (111, 58)] M M10 := hFM7.trans ((w_Mo_isSign fv9).mono (by simp) (by simp))
        rcases ite_e h with ⟨c11, h⟩ | ⟨c11, h⟩
        · skip
          cases h; exact hFM10
        · skip
          exact hFM10.trans (w_Mo_readItem_39 hSW hSF hR5 h)
      · skip
        exact hFM7.trans (w_Mo_readItem_39 hSW hSF hR5 h)
    · skip
      exact hFM4.trans (w_Mo_readItem_39 hSW hSF hR5 h)
  · skip
    cases h; exact hFM
theorem wl_Mo_readItem_5 {SW : Int → Mem → Res} {SF : Int → Int → Mem → Res} (hSW : ∀ {a1 : Int} {M : Mem} {r : Int × Mem}, SW a1 M = some r → Fr [152] [(111, 48), (111, 49), (111, 50), (111, 51), (111, 52), (111, 53), (111, 54), (111, 55), (111, 58)] M r.2) (hSF : ∀ {a1 : Int} {a2 : Int} {M : Mem} {r : Int × Mem}, SF a1 a2 M = some r → Fr [152] [(111, 48), (111, 49), (111, 50), (111, 51), (111, 52), (111, 53), (111, 54), (111, 55), (111, 58)] M r.2)  : ∀ (n : Nat) (a1 : Int) (M : Mem) (r : Int × Mem), fix (fun _ _ => none) (k_Mo_readItem_5 SW SF) n a1 M = some r → Fr [152] [(111, 48), (111, 49), (111, 50), (111, 51), (111, 52), (111, 53), (111, 54), (111, 55), (111, 58)] M r.2 := by
  intro n
  induction n with
  | zero => intro a1 M r h; exact nomatch (show (none : Res) = some r from h)
  | succ n ih => intro a1 M r h; exact w_Mo_readItem_5 hSW hSF ih h
theorem w_Mo_readItem {SW : Int → Mem → Res} {SF : Int → Int → Mem → Res} (hSW : ∀ {a1 : Int} {M : Mem} {r : Int × Mem}, SW a1 M = some r → Fr [152] [(111, 48), (111, 49), (111, 50), (111, 51), (111, 52), (111, 53), (111, 54), (111, 55), (111, 58)] M r.2) (hSF : ∀ {a1 : Int} {a2 : Int} {M : Mem} {r : Int × Mem}, SF a1 a2 M = some r → Fr [152] [(111, 48), (111, 49), (111, 50), (111, 51), (111, 52), (111, 53), (111, 54), (111, 55), (111, 58)] M r.2) {a1 : Int} {M : Mem} {r : Int × Mem} (h : d_Mo_readItem SW SF a1 M = some r) : Fr [152] [(111, 48), (111, 49), (111, 50), (111, 51), (111, 52), (111, 53), (111, 54), (111, 55), (111, 58)] M r.2 := by
  unfold d_Mo_readItem at h
  have hFM : Fr [152] [(111, 48), (111, 49), (111, 50), (111, 51), (111, 52), (111, 53), (111, 54), (111, 55), (111, 58)] M M := Fr.rfl'
  obtain ⟨v1, M2, fv1, h⟩ := bcall_e h
  have hFM2 : Fr [152] [(111, 48), (111, 49), (111, 50), (111, 51), (111, 52), (111, 53), (111, 54), (111, 55), (111, 58)] M M2 := hFM.trans ((w_Mo_readAtom hSW hSF fv1).mono (by simp) (by simp))
  exact hFM2.trans (wl_Mo_readItem_5 hSW hSF FU a1 M2 r h)
theorem w_Mo_readSum_44 {SW : Int → Mem → Res} {SF : Int → Int → Mem → Res} (hSW : ∀ {a1 : Int} {M : Mem} {r : Int × Mem}, SW a1 M = some r → Fr [152] [(111, 48), (111, 49), (111, 50), (111, 51), (111, 52), (111, 53), (111, 54), (111, 55), (111, 58)] M r.2) (hSF : ∀ {a1 : Int} {a2 : Int} {M : Mem} {r : Int × Mem}, SF a1 a2 M = some r → Fr [152] [(111, 48), (111, 49), (111, 50), (111, 51), (111, 52), (111, 53), (111, 54), (111, 55), (111, 58)] M r.2) {R5 : Int → Mem → Res} (hR5 : ∀ (a1 : Int) (M : Mem) (r : Int × Mem), R5 a1 M = some r → Fr [152] [(111, 48), (111, 49), (111, 50), (111, 51), (111, 52), (111, 53), (111, 54), (111, 55), (111, 58)] M r.2) {a1 s0 : Int} {M : Mem} {r : Int × Mem} (h : k_Mo_readSum_44 SW SF R5 a1 s0 M = some r) : Fr [152] [(111, 48), (111, 49), (111, 50), (111, 51), (111, 52), (111, 53), (111, 54), (111, 55), (111, 58)] M r.2 := by
  unfold k_Mo_readSum_44 at h
  have hFM : Fr [152] [(111, 48), (111, 49), (111, 50), (111, 51), (111, 52), (111, 53), (111, 54), (111, 55), (111, 58)] M M := Fr.rfl'
  obtain ⟨v1, M2, fv1, h⟩ := bcall_e h
  have hFM2 : Fr [152] [(111, 48), (111, 49), (111, 50), (111, 51), (111, 52), (111, 53), (111, 54), (111, 55), (111, 58)] M M2 := hFM.trans ((w_Mo_next fv1).mono (by simp) (by simp))
  obtain ⟨v3, M4, fv3, h⟩ := bcall_e h
  have hFM4 : Fr [152] [(111, 48), (111, 49), (111, 50), (111, 51), (111, 52), (111, 53), (111, 54), (111, 55), (111, 58)] M M4 := hFM2.trans ((w_Mo_readItem hSW hSF fv3).mono (by simp) (by simp))
  obtain ⟨v5, M6, fv5, h⟩ := bcall_e h
  have hFM6 : Fr [152] [(111, 48), (111, 49), (111, 50), (111, 51), (111, 52), (111, 53), (111, 54), (111, 55), (111, 58)] M M6 := hFM4.trans ((w_Mo_mark fv5).mono (by simp) (by simp))
  exact hFM6.trans (hR5 a1 M6 r h)
theorem w_Mo_readSum_30 {SW : Int → Mem → Res} {SF : Int → Int → Mem → Res} (hSW : ∀ {a1 : Int} {M : Mem} {r : Int × Mem}, SW a1 M = some r → Fr [152] [(111, 48), (111, 49), (111, 50), (111, 51), (111, 52), (111, 53), (111, 54), (111, 55), (111, 58)] M r.2) (hSF : ∀ {a1 : Int} {a2 : Int} {M : Mem} {r : Int × Mem}, SF a1 a2 M = some r → Fr [152] [(111, 48), (111, 49), (111, 50), (111, 51), (111, 52), (111, 53), (111, 54), (111, 55), (111, 58)] M r.2) {R5 : Int → Mem → Res} (hR5 : ∀ (a1 : Int) (M : Mem) (r : Int × Mem), R5 a1 M = some r → Fr [152] [(111, 48), (111, 49), (111, 50), (111, 51), (111, 52), (111, 53), (111, 54), (111, 55), (111, 58)] M r.2) {a1 : Int} {M : Mem} {r : Int × Mem} (h : k_Mo_readSum_30 SW SF R5 a1 M = some r) : Fr [152] [(111, 48), (111, 49), (111, 50), (111, 51), (111, 52), (111, 53), (111, 54), (111, 55), (111, 58)] M r.2 := by
  unfold k_Mo_readSum_30 at h
  have hFM : Fr [152] [(111, 48), (111, 49), (111, 50), (111, 51), (111, 52), (111, 53), (111, 54), (111, 55), (111, 58)] M M := Fr.rfl'
  obtain ⟨v1, M2, fv1, h⟩ := bcall_e h
  have hFM2 : Fr [152] [(111, 48), (111, 49), (111, 50), (111, 51), (111, 52), (111, 53), (111, 54), (111, 55), (111, 58)] M M2 := hFM.trans ((w_Mo_isSign fv1).mono (by simp) (by simp))
  rcases ite_e h with ⟨c3, h⟩ | ⟨c3, h⟩
  · skip
    exact hFM2.trans (w_Mo_readSum_44 hSW hSF hR5 h)
  · skip
    exact hFM2.trans (w_Mo_readSum_44 hSW hSF hR5 h)
theorem w_Mo_readSum_5 {SW : Int → Mem → Res} {SF : Int → Int → Mem → Res} (hSW : ∀ {a1 : Int} {M : Mem} {r : Int × Mem}, SW a1 M = some r → Fr [152] [(111, 48), (111, 49), (111, 50), (111, 51), (111, 52), (111, 53), (111, 54), (111, 55), (111, 58)] M r.2) (hSF : ∀ {a1 : Int} {a2 : Int} {M : Mem} {r : Int × Mem}, SF a1 a2 M = some r → Fr [152] [(111, 48), (111, 49), (111, 50), (111, 51), (111, 52), (111, 53), (111, 54), (111, 55), (111, 58)] M r.2) {R5 : Int → Mem → Res} (hR5 : ∀ (a1 : Int) (M : Mem) (r : Int × Mem), R5 a1 M = some r → Fr [152] [(111, 48), (111, 49), (111, 50), (111, 51), (111, 52), (111, 53), (111, 54), (111, 55), (111, 58)] M r.2) {a1 : Int} {M : Mem} {r : Int × Mem} (h : k_Mo_readSum_5 SW SF R5 a1 M = some r) : Fr [152] [(111, 48), (111, 49), (111, 50), (111, 51), (111, 52), (111, 53), (111, 54), (111, 55), (111, 58)] M r.2 := by
  unfold k_Mo_readSum_5 at h
  have hFM : Fr [152] [(111, 48), (111, 49), (111, 50), (111, 51), (111, 52), (111, 53), (111, 54), (111, 55), (111, 58)] M M := Fr.rfl'
  obtain ⟨v1, ev1, h⟩ := blet_e h
  rcases ite_e h with ⟨c2, h⟩ | ⟨c2, h⟩
  · skip
    obtain ⟨v3, M4, fv3, h⟩ := bcall_e h
    have hFM4 : Fr [152] [(111, 48), (111, 49), (111, 50), (111, 51), (111, 52), (111, 53), (111, 54), (111, 55), (111, 58)] M M4 := hFM.trans ((w_Mo_isSign fv3).mono (by simp) (by simp))
    rcases ite_e h with ⟨c5, h⟩ | ⟨c5, h⟩
    · skip
      obtain ⟨v6, M7, fv6, h⟩ := bcall_e h
      have hFM7 : Fr [152] [(111, 48), (111, 49), (111, 50), (111, 51), (111, 52), (111, 53), (111, 54), (111, 55), (111, 58)] M M7 := hFM4.trans ((w_Mo_isSign fv6).mono (by simp) (by simp))
      rcases ite_e h with ⟨c8, h⟩ | ⟨c8, h⟩
      · skip
        cases h; exact hFM7
      · skip
        exact hFM7.trans (w_Mo_readSum_30 hSW hSF hR5 h)
    · skip
      exact hFM4.trans (w_Mo_readSum_30 hSW hSF hR5 h)
  · skip
    cases h; exact hFM
theorem wl_Mo_readSum_5 {SW : Int → Mem → Res} {SF : Int → Int → Mem → Res} (hSW : ∀ {a1 : Int} {M : Mem} {r : Int × Mem}, SW a1 M = some r → Fr [152] [(111, 48), (111, 49), (111, 50), (111, 51), (111, 52), (111, 53), (111, 54), (111, 55), (111, 58)] M r.2) (hSF : ∀ {a1 : Int} {a2 : Int} {M : Mem} {r : Int × Mem}, SF a1 a2 M = some r → Fr [152] [(111, 48), (111, 49), (111, 50), (111, 51), (111, 52), (111, 53), (111, 54), (111, 55), (111, 58)] M r.2)  : ∀ (n : Nat) (a1 : Int) (M : Mem) (r : Int × Mem), fix (fun _ _ => none) (k_Mo_readSum_5 SW SF) n a1 M = some r → Fr [152] [(111, 48), (111, 49), (111, 50), (111, 51), (111, 52), (111, 53), (111, 54), (111, 55), (111, 58)] M r.2 := by
  intro n
  induction n with
  | zero => intro a1 M r h; exact nomatch (show (none : Res) = some r from h)
  | succ n ih => intro a1 M r h; exact w_Mo_readSum_5 hSW hSF ih h
theorem w_Mo_readSum {SW : Int → Mem → Res} {SF : Int → Int → Mem → Res} (hSW : ∀ {a1 : Int} {M : Mem} {r : Int × Mem}, SW a1 M = some r → Fr [152] [(111, 48), (111, 49), (111, 50), (111, 51), (111, 52), (111, 53), (111, 54), (111, 55), (111, 58)] M r.2) (hSF : ∀ {a1 : Int} {a2 : Int} {M : Mem} {r : Int × Mem}, SF a1 a2 M = some r → Fr [152] [(111, 48), (111, 49), (111, 50), (111, 51), (111, 52), (111, 53), (111, 54), (111, 55), (111, 58)] M r.2) {a1 : Int} {M : Mem} {r : Int × Mem} (h : d_Mo_readSum SW SF a1 M = some r) : Fr [152] [(111, 48), (111, 49), (111, 50), (111, 51), (111, 52), (111, 53), (111, 54), (111, 55), (111, 58)] M r.2 := by
  unfold d_Mo_readSum at h
  have hFM : Fr [152] [(111, 48), (111, 49), (111, 50), (111, 51), (111, 52), (111, 53), (111, 54), (111, 55), (111, 58)] M M := Fr.rfl'
  obtain ⟨v1, M2, fv1, h⟩ := bcall_e h
  have hFM2 : Fr [152] [(111, 48), (111, 49), (111, 50), (111, 51), (111, 52), (111, 53), (111, 54), (111, 55), (111, 58)] M M2 := hFM.trans ((w_Mo_readItem hSW hSF fv1).mono (by simp) (by simp))
  exact hFM2.trans (wl_Mo_readSum_5 hSW hSF FU a1 M2 r h)
theorem w_Mo_readOne_105 {SW : Int → Mem → Res} {SF : Int → Int → Mem → Res} (hSW : ∀ {a1 : Int} {M : Mem} {r : Int × Mem}, SW a1 M = some r → Fr [152] [(111, 48), (111, 49), (111, 50), (111, 51), (111, 52), (111, 53), (111, 54), (111, 55), (111, 58)] M r.2) (hSF : ∀ {a1 : Int} {a2 : Int} {M : Mem} {r : Int × Mem}, SF a1 a2 M = some r → Fr [152] [(111, 48), (111, 49), (111, 50), (111, 51), (111, 52), (111, 53), (111, 54), (111, 55), (111, 58)] M r.2)  {s1 s2 : Int} {M : Mem} {r : Int × Mem} (h : k_Mo_readOne_105 SW SF s1 s2 M = some r) : Fr [152] [(111, 48), (111, 49), (111, 50), (111, 51), (111, 52), (111, 53), (111, 54), (111, 55), (111, 58)] M r.2 := by
  unfold k_Mo_readOne_105 at h
  have hFM : Fr [152] [(111, 48), (111, 49), (111, 50), (111, 51), (111, 52), (111, 53), (111, 54), (111, 55), (111, 58)] M M := Fr.rfl'
  obtain ⟨v1, M2, fv1, h⟩ := bcall_e h
  have hFM2 : Fr [152] [(111, 48), (111, 49), (111, 50), (111, 51), (111, 52), (111, 53), (111, 54), (111, 55), (111, 58)] M M2 := hFM.trans ((w_Mo_mark fv1).mono (by simp) (by simp))
  cases h; exact hFM2
theorem w_Mo_readOne_77 {SW : Int → Mem → Res} {SF : Int → Int → Mem → Res} (hSW : ∀ {a1 : Int} {M : Mem} {r : Int × Mem}, SW a1 M = some r → Fr [152] [(111, 48), (111, 49), (111, 50), (111, 51), (111, 52), (111, 53), (111, 54), (111, 55), (111, 58)] M r.2) (hSF : ∀ {a1 : Int} {a2 : Int} {M : Mem} {r : Int × Mem}, SF a1 a2 M = some r → Fr [152] [(111, 48), (111, 49), (111, 50), (111, 51), (111, 52), (111, 53), (111, 54), (111, 55), (111, 58)] M r.2)  {a1 a2 a3 : Int} {M : Mem} {r : Int × Mem} (h : k_Mo_readOne_77 SW SF a1 a2 a3 M = some r) : Fr [152] [(111, 48), (111, 49), (111, 50), (111, 51), (111, 52), (111, 53), (111, 54), (111, 55), (111, 58)] M r.2 := by
  unfold k_Mo_readOne_77 at h
  have hFM : Fr [152] [(111, 48), (111, 49), (111, 50), (111, 51), (111, 52), (111, 53), (111, 54), (111, 55), (111, 58)] M M := Fr.rfl'
  obtain ⟨v1, ev1, h⟩ := blet_e h
  rcases ite_e h with ⟨c2, h⟩ | ⟨c2, h⟩
  · skip
    cases h; exact hFM
  · skip
    obtain ⟨v3, M4, fv3, h⟩ := bcall_e h
    have hFM4 : Fr [152] [(111, 48), (111, 49), (111, 50), (111, 51), (111, 52), (111, 53), (111, 54), (111, 55), (111, 58)] M M4 := hFM.trans ((w_Mo_next fv3).mono (by simp) (by simp))
    obtain ⟨v5, M6, fv5, h⟩ := bcall_e h
    have hFM6 : Fr [152] [(111, 48), (111, 49), (111, 50), (111, 51), (111, 52), (111, 53), (111, 54), (111, 55), (111, 58)] M M6 := hFM4.trans ((w_Mo_readSum hSW hSF fv5).mono (by simp) (by simp))
    rcases ite_e h with ⟨c7, h⟩ | ⟨c7, h⟩
    · skip
      exact hFM6.trans (w_Mo_readOne_105 hSW hSF h)
    · skip
      exact hFM6.trans (w_Mo_readOne_105 hSW hSF h)
theorem w_Mo_readOne_61 {SW : Int → Mem → Res} {SF : Int → Int → Mem → Res} (hSW : ∀ {a1 : Int} {M : Mem} {r : Int × Mem}, SW a1 M = some r → Fr [152] [(111, 48), (111, 49), (111, 50), (111, 51), (111, 52), (111, 53), (111, 54), (111, 55), (111, 58)] M r.2) (hSF : ∀ {a1 : Int} {a2 : Int} {M : Mem} {r : Int × Mem}, SF a1 a2 M = some r → Fr [152] [(111, 48), (111, 49), (111, 50), (111, 51), (111, 52), (111, 53), (111, 54), (111, 55), (111, 58)] M r.2)  {a1 a2 s0 : Int} {M : Mem} {r : Int × Mem} (h : k_Mo_readOne_61 SW SF a1 a2 s0 M = some r) : Fr [152] [(111, 48), (111, 49), (111, 50), (111, 51), (111, 52), (111, 53), (111, 54), (111, 55), (111, 58)] M r.2 := by
  unfold k_Mo_readOne_61 at h
  have hFM : Fr [152] [(111, 48), (111, 49), (111, 50), (111, 51), (111, 52), (111, 53), (111, 54), (111, 55), (111, 58)] M M := Fr.rfl'
  obtain ⟨v1, ev1, h⟩ := blet_e h
  rcases ite_e h with ⟨c2, h⟩ | ⟨c2, h⟩
  · skip
    rcases ite_e h with ⟨c3, h⟩ | ⟨c3, h⟩
    · skip
      obtain ⟨v4, M5, fv4, h⟩ := bcall_e h
      have hFM5 : Fr [152] [(111, 48), (111, 49), (111, 50), (111, 51), (111, 52), (111, 53), (111, 54), (111, 55), (111, 58)] M M5 := hFM.trans ((w_Mo_wrong fv4).mono (by simp) (by simp))
      exact hFM5.trans (w_Mo_readOne_77 hSW hSF h)
    · skip
      exact hFM.trans (w_Mo_readOne_77 hSW hSF h)
  · skip
    exact hFM.trans (w_Mo_readOne_77 hSW hSF h)
theorem w_Mo_readOne_13 {SW : Int → Mem → Res} {SF : Int → Int → Mem → Res} (hSW : ∀ {a1 : Int} {M : Mem} {r : Int × Mem}, SW a1 M = some r → Fr [152] [(111, 48), (111, 49), (111, 50), (111, 51), (111, 52), (111, 53), (111, 54), (111, 55), (111, 58)] M r.2) (hSF : ∀ {a1 : Int} {a2 : Int} {M : Mem} {r : Int × Mem}, SF a1 a2 M = some r → Fr [152] [(111, 48), (111, 49), (111, 50), (111, 51), (111, 52), (111, 53), (111, 54), (111, 55), (111, 58)] M r.2)  {a1 a2 : Int} {M : Mem} {r : Int × Mem} (h : k_Mo_readOne_13 SW SF a1 a2 M = some r) : Fr [152] [(111, 48), (111, 49), (111, 50), (111, 51), (111, 52), (111, 53), (111, 54), (111, 55), (111, 58)] M r.2 := by
  unfold k_Mo_readOne_13 at h
  have hFM : Fr [152] [(111, 48), (111, 49), (111, 50), (111, 51), (111, 52), (111, 53), (111, 54), (111, 55), (111, 58)] M M := Fr.rfl'
  obtain ⟨v1, M2, fv1, h⟩ := bcall_e h
  have hFM2 : Fr [152] [(111, 48), (111, 49), (111, 50), (111, 51), (111, 52), (111, 53), (111, 54), (111, 55), (111, 58)] M M2 := hFM.trans ((w_Mo_readSum hSW hSF fv1).mono (by simp) (by simp))
  obtain ⟨v3, M4, fv3, h⟩ := bcall_e h
  have hFM4 : Fr [152] [(111, 48), (111, 49), (111, 50), (111, 51), (111, 52), (111, 53), (111, 54), (111, 55), (111, 58)] M M4 := hFM2.trans ((w_Mo_isSign fv3).mono (by simp) (by simp))
  rcases ite_e h with ⟨c5, h⟩ | ⟨c5, h⟩
  · skip
    obtain ⟨v6, M7, fv6, h⟩ := bcall_e h
    have hFM7 : Fr [152] [(111, 48), (111, 49), (111, 50), (111, 51), (111, 52), (111, 53), (111, 54), (111, 55), (111, 58)] M M7 := hFM4.trans ((w_Mo_isSign fv6).mono (by simp) (by simp))
    rcases ite_e h with ⟨c8, h⟩ | ⟨c8, h⟩
    · skip
      obtain ⟨v9, M10, fv9, h⟩ := bcall_e h
      have hFM10 : Fr [152] [(111, 48), (111, 49), (111, 50), (111, 51), (111, 52), (111, 53), (111, 54), (111, 55), (111, 58)] M M10 := hFM7.trans ((w_Mo_isSign fv9).mono (by simp) (by simp))
      rcases ite_e h with ⟨c11, h⟩ | ⟨c11, h⟩
      · skip
        exact hFM10.trans (w_Mo_readOne_61 hSW hSF h)
      · skip
        exact hFM10.trans (w_Mo_readOne_61 hSW hSF h)
    · skip
      exact hFM7.trans (w_Mo_readOne_61 hSW hSF h)
  · skip
    exact hFM4.trans (w_Mo_readOne_61 hSW hSF h)
theorem w_Mo_readOne {SW : Int → Mem → Res} {SF : Int → Int → Mem → Res} (hSW : ∀ {a1 : Int} {M : Mem} {r : Int × Mem}, SW a1 M = some r → Fr [152] [(111, 48), (111, 49), (111, 50), (111, 51), (111, 52), (111, 53), (111, 54), (111, 55), (111, 58)] M r.2) (hSF : ∀ {a1 : Int} {a2 : Int} {M : Mem} {r : Int × Mem}, SF a1 a2 M = some r → Fr [152] [(111, 48), (111, 49), (111, 50), (111, 51), (111, 52), (111, 53), (111, 54), (111, 55), (111, 58)] M r.2) {a1 : Int} {M : Mem} {r : Int × Mem} (h : d_Mo_readOne SW SF a1 M = some r) : Fr [152] [(111, 48), (111, 49), (111, 50), (111, 51), (111, 52), (111, 53), (111, 54), (111, 55), (111, 58)] M r.2 := by
  unfold d_Mo_readOne at h
  have hFM : Fr [152] [(111, 48), (111, 49), (111, 50), (111, 51), (111, 52), (111, 53), (111, 54), (111, 55), (111, 58)] M M := Fr.rfl'
  obtain ⟨v1, M2, fv1, h⟩ := bcall_e h
  have hFM2 : Fr [152] [(111, 48), (111, 49), (111, 50), (111, 51), (111, 52), (111, 53), (111, 54), (111, 55), (111, 58)] M M2 := hFM.trans ((w_Mo_isNot fv1).mono (by simp) (by simp))
  rcases ite_e h with ⟨c3, h⟩ | ⟨c3, h⟩
  · skip
    exact hFM2.trans (w_Mo_readOne_13 hSW hSF h)
  · skip
    obtain ⟨v4, M5, fv4, h⟩ := bcall_e h
    have hFM5 : Fr [152] [(111, 48), (111, 49), (111, 50), (111, 51), (111, 52), (111, 53), (111, 54), (111, 55), (111, 58)] M M5 := hFM2.trans ((w_Mo_next fv4).mono (by simp) (by simp))
    exact hFM5.trans (w_Mo_readOne_13 hSW hSF h)
theorem w_Mo_readTest_67 {SW : Int → Mem → Res} {SF : Int → Int → Mem → Res} (hSW : ∀ {a1 : Int} {M : Mem} {r : Int × Mem}, SW a1 M = some r → Fr [152] [(111, 48), (111, 49), (111, 50), (111, 51), (111, 52), (111, 53), (111, 54), (111, 55), (111, 58)] M r.2) (hSF : ∀ {a1 : Int} {a2 : Int} {M : Mem} {r : Int × Mem}, SF a1 a2 M = some r → Fr [152] [(111, 48), (111, 49), (111, 50), (111, 51), (111, 52), (111, 53), (111, 54), (111, 55), (111, 58)] M r.2) {R18 : Int → Int → Mem → Res} (hR18 : ∀ (a1 a2 : Int) (M : Mem) (r : Int × Mem), R18 a1 a2 M = some r → Fr [152] [(111, 48), (111, 49), (111, 50), (111, 51), (111, 52), (111, 53), (111, 54), (111, 55), (111, 58)] M r.2) {a1 a2 s1 : Int} {M : Mem} {r : Int × Mem} (h : k_Mo_readTest_67 SW SF R18 a1 a2 s1 M = some r) : Fr [152] [(111, 48), (111, 49), (111, 50), (111, 51), (111, 52), (111, 53), (111, 54), (111, 55), (111, 58)] M r.2 := by
  unfold k_Mo_readTest_67 at h
  have hFM : Fr [152] [(111, 48), (111, 49), (111, 50), (111, 51), (111, 52), (111, 53), (111, 54), (111, 55), (111, 58)] M M := Fr.rfl'
  obtain ⟨v1, M2, fv1, h⟩ := bcall_e h
  have hFM2 : Fr [152] [(111, 48), (111, 49), (111, 50), (111, 51), (111, 52), (111, 53), (111, 54), (111, 55), (111, 58)] M M2 := hFM.trans ((w_Mo_mark fv1).mono (by simp) (by simp))
  exact hFM2.trans (hR18 a1 a2 M2 r h)
theorem w_Mo_readTest_46 {SW : Int → Mem → Res} {SF : Int → Int → Mem → Res} (hSW : ∀ {a1 : Int} {M : Mem} {r : Int × Mem}, SW a1 M = some r → Fr [152] [(111, 48), (111, 49), (111, 50), (111, 51), (111, 52), (111, 53), (111, 54), (111, 55), (111, 58)] M r.2) (hSF : ∀ {a1 : Int} {a2 : Int} {M : Mem} {r : Int × Mem}, SF a1 a2 M = some r → Fr [152] [(111, 48), (111, 49), (111, 50), (111, 51), (111, 52), (111, 53), (111, 54), (111, 55), (111, 58)] M r.2) {R18 : Int → Int → Mem → Res} (hR18 : ∀ (a1 a2 : Int) (M : Mem) (r : Int × Mem), R18 a1 a2 M = some r → Fr [152] [(111, 48), (111, 49), (111, 50), (111, 51), (111, 52), (111, 53), (111, 54), (111, 55), (111, 58)] M r.2) {a1 a2 : Int} {M : Mem} {r : Int × Mem} (h : k_Mo_readTest_46 SW SF R18 a1 a2 M = some r) : Fr [152] [(111, 48), (111, 49), (111, 50), (111, 51), (111, 52), (111, 53), (111, 54), (111, 55), (111, 58)] M r.2 := by
  unfold k_Mo_readTest_46 at h
  have hFM : Fr [152] [(111, 48), (111, 49), (111, 50), (111, 51), (111, 52), (111, 53), (111, 54), (111, 55), (111, 58)] M M := Fr.rfl'
  obtain ⟨v1, M2, fv1, h⟩ := bcall_e h
  have hFM2 : Fr [152] [(111, 48), (111, 49), (111, 50), (111, 51), (111, 52), (111, 53), (111, 54), (111, 55), (111, 58)] M M2 := hFM.trans ((w_Mo_next fv1).mono (by simp) (by simp))
  obtain ⟨v3, M4, fv3, h⟩ := bcall_e h
  have hFM4 : Fr [152] [(111, 48), (111, 49), (111, 50), (111, 51), (111, 52), (111, 53), (111, 54), (111, 55), (111, 58)] M M4 := hFM2.trans ((w_Mo_readOne hSW hSF fv3).mono (by simp) (by simp))
  rcases ite_e h with ⟨c5, h⟩ | ⟨c5, h⟩
  · skip
    exact hFM4.trans (w_Mo_readTest_67 hSW hSF hR18 h)
  · skip
    exact hFM4.trans (w_Mo_readTest_67 hSW hSF hR18 h)
theorem w_Mo_readTest_18 {SW : Int → Mem → Res} {SF : Int → Int → Mem → Res} (hSW : ∀ {a1 : Int} {M : Mem} {r : Int × Mem}, SW a1 M = some r → Fr [152] [(111, 48), (111, 49), (111, 50), (111, 51), (111, 52), (111, 53), (111, 54), (111, 55), (111, 58)] M r.2) (hSF : ∀ {a1 : Int} {a2 : Int} {M : Mem} {r : Int × Mem}, SF a1 a2 M = some r → Fr [152] [(111, 48), (111, 49), (111, 50), (111, 51), (111, 52), (111, 53), (111, 54), (111, 55), (111, 58)] M r.2) {R18 : Int → Int → Mem → Res} (hR18 : ∀ (a1 a2 : Int) (M : Mem) (r : Int × Mem), R18 a1 a2 M = some r → Fr [152] [(111, 48), (111, 49), (111, 50), (111, 51), (111, 52), (111, 53), (111, 54), (111, 55), (111, 58)] M r.2) {a1 a2 : Int} {M : Mem} {r : Int × Mem} (h : k_Mo_readTest_18 SW SF R18 a1 a2 M = some r) : Fr [152] [(111, 48), (111, 49), (111, 50), (111, 51), (111, 52), (111, 53), (111, 54), (111, 55), (111, 58)] M r.2 := by
  unfold k_Mo_readTest_18 at h
  have hFM : Fr [152] [(111, 48), (111, 49), (111, 50), (111, 51), (111, 52), (111, 53), (111, 54), (111, 55), (111, 58)] M M := Fr.rfl'
  obtain ⟨v1, ev1, h⟩ := blet_e h
  rcases ite_e h with ⟨c2, h⟩ | ⟨c2, h⟩
  · skip
    rcases ite_e h with ⟨c3, h⟩ | ⟨c3, h⟩
    · skip
      obtain ⟨v4, M5, fv4, h⟩ := bcall_e h
      have hFM5 : Fr [152] [(111, 48), (111, 49), (111, 50), (111, 51), (111, 52), (111, 53), (111, 54), (111, 55), (111, 58)] M M5 := hFM.trans ((w_Mo_isOr fv4).mono (by simp) (by simp))
      rcases ite_e h with ⟨c6, h⟩ | ⟨c6, h⟩
      · skip
        cases h; exact hFM5
      · skip
        exact hFM5.trans (w_Mo_readTest_46 hSW hSF hR18 h)
    · skip
      obtain ⟨v7, M8, fv7, h⟩ := bcall_e h
      have hFM8 : Fr [152] [(111, 48), (111, 49), (111, 50), (111, 51), (111, 52), (111, 53), (111, 54), (111, 55), (111, 58)] M M8 := hFM.trans ((w_Mo_isAnd fv7).mono (by simp) (by simp))
      rcases ite_e h with ⟨c9, h⟩ | ⟨c9, h⟩
      · skip
        cases h; exact hFM8
      · skip
        exact hFM8.trans (w_Mo_readTest_46 hSW hSF hR18 h)
  · skip
    cases h; exact hFM
theorem wl_Mo_readTest_18 {SW : Int → Mem → Res} {SF : Int → Int → Mem → Res} (hSW : ∀ {a1 : Int} {M : Mem} {r : Int × Mem}, SW a1 M = some r → Fr [152] [(111, 48), (111, 49), (111, 50), (111, 51), (111, 52), (111, 53), (111, 54), (111, 55), (111, 58)] M r.2) (hSF : ∀ {a1 : Int} {a2 : Int} {M : Mem} {r : Int × Mem}, SF a1 a2 M = some r → Fr [152] [(111, 48), (111, 49), (111, 50), (111, 51), (111, 52), (111, 53), (111, 54), (111, 55), (111, 58)] M r.2)  : ∀ (n : Nat) (a1 a2 : Int) (M : Mem) (r : Int × Mem), fix (fun _ _ _ => none) (k_Mo_readTest_18 SW SF) n a1 a2 M = some r → Fr [152] [(111, 48), (111, 49), (111, 50), (111, 51), (111, 52), (111, 53), (111, 54), (111, 55), (111, 58)] M r.2 := by
  intro n
  induction n with
  | zero => intro a1 a2 M r h; exact nomatch (show (none : Res) = some r from h)
  | succ n ih => intro a1 a2 M r h; exact w_Mo_readTest_18 hSW hSF ih h
theorem w_Mo_readTest {SW : Int → Mem → Res} {SF : Int → Int → Mem → Res} (hSW : ∀ {a1 : Int} {M : Mem} {r : Int × Mem}, SW a1 M = some r → Fr [152] [(111, 48), (111, 49), (111, 50), (111, 51), (111, 52), (111, 53), (111, 54), (111, 55), (111, 58)] M r.2) (hSF : ∀ {a1 : Int} {a2 : Int} {M : Mem} {r : Int × Mem}, SF a1 a2 M = some r → Fr [152] [(111, 48), (111, 49), (111, 50), (111, 51), (111, 52), (111, 53), (111, 54), (111, 55), (111, 58)] M r.2) {a1 : Int} {M : Mem} {r : Int × Mem} (h : d_Mo_readTest SW SF a1 M = some r) : Fr [152] [(111, 48), (111, 49), (111, 50), (111, 51), (111, 52), (111, 53), (111, 54), (111, 55), (111, 58)] M r.2 := by
  unfold d_Mo_readTest at h
  have hFM : Fr [152] [(111, 48), (111, 49), (111, 50), (111, 51), (111, 52), (111, 53), (111, 54), (111, 55), (111, 58)] M M := Fr.rfl'
  obtain ⟨v1, M2, fv1, h⟩ := bcall_e h
  have hFM2 : Fr [152] [(111, 48), (111, 49), (111, 50), (111, 51), (111, 52), (111, 53), (111, 54), (111, 55), (111, 58)] M M2 := hFM.trans ((w_Mo_readOne hSW hSF fv1).mono (by simp) (by simp))
  obtain ⟨v3, ev3, h⟩ := blet_e h
  rcases ite_e h with ⟨c4, h⟩ | ⟨c4, h⟩
  · skip
    cases h; exact hFM2
  · skip
    obtain ⟨v5, M6, fv5, h⟩ := bcall_e h
    have hFM6 : Fr [152] [(111, 48), (111, 49), (111, 50), (111, 51), (111, 52), (111, 53), (111, 54), (111, 55), (111, 58)] M M6 := hFM2.trans ((w_Mo_isAnd fv5).mono (by simp) (by simp))
    exact hFM6.trans (wl_Mo_readTest_18 hSW hSF FU a1 v5 M6 r h)
theorem w_Mo_readWhole_123 {SW : Int → Mem → Res} {SF : Int → Int → Mem → Res} (hSW : ∀ {a1 : Int} {M : Mem} {r : Int × Mem}, SW a1 M = some r → Fr [152] [(111, 48), (111, 49), (111, 50), (111, 51), (111, 52), (111, 53), (111, 54), (111, 55), (111, 58)] M r.2) (hSF : ∀ {a1 : Int} {a2 : Int} {M : Mem} {r : Int × Mem}, SF a1 a2 M = some r → Fr [152] [(111, 48), (111, 49), (111, 50), (111, 51), (111, 52), (111, 53), (111, 54), (111, 55), (111, 58)] M r.2)  {a1 a2 : Int} {M : Mem} {r : Int × Mem} (h : k_Mo_readWhole_123 SW SF a1 a2 M = some r) : Fr [152] [(111, 48), (111, 49), (111, 50), (111, 51), (111, 52), (111, 53), (111, 54), (111, 55), (111, 58)] M r.2 := by
  unfold k_Mo_readWhole_123 at h
  have hFM : Fr [152] [(111, 48), (111, 49), (111, 50), (111, 51), (111, 52), (111, 53), (111, 54), (111, 55), (111, 58)] M M := Fr.rfl'
  obtain ⟨v1, ev1, h⟩ := blet_e h
  rcases ite_e h with ⟨c2, h⟩ | ⟨c2, h⟩
  · skip
    cases h; exact hFM
  · skip
    obtain ⟨v3, ev3, h⟩ := blet_e h
    obtain ⟨v4, M5, fv4, h⟩ := bcall_e h
    have hFM5 : Fr [152] [(111, 48), (111, 49), (111, 50), (111, 51), (111, 52), (111, 53), (111, 54), (111, 55), (111, 58)] M M5 := hFM.trans ((w_Mo_mark fv4).mono (by simp) (by simp))
    obtain ⟨c6, h⟩ := chk_e h
    obtain ⟨v7, ev7, h⟩ := blet_e h
    obtain ⟨v8, ev8, h⟩ := blet_e h
    obtain ⟨c9, h⟩ := chk_e h
    obtain ⟨M10, eM10, h⟩ := blet_e h
    have hFM10 : Fr [152] [(111, 48), (111, 49), (111, 50), (111, 51), (111, 52), (111, 53), (111, 54), (111, 55), (111, 58)] M M10 := by rw [eM10]; exact hFM5.stoA (by simp)
    obtain ⟨v11, M12, fv11, h⟩ := bcall_e h
    have hFM12 : Fr [152] [(111, 48), (111, 49), (111, 50), (111, 51), (111, 52), (111, 53), (111, 54), (111, 55), (111, 58)] M M12 := hFM10.trans ((w_Mo_next fv11).mono (by simp) (by simp))
    obtain ⟨v13, M14, fv13, h⟩ := bcall_e h
    have hFM14 : Fr [152] [(111, 48), (111, 49), (111, 50), (111, 51), (111, 52), (111, 53), (111, 54), (111, 55), (111, 58)] M M14 := hFM12.trans (hSW fv13)
    obtain ⟨c15, h⟩ := chk_e h
    obtain ⟨v16, ev16, h⟩ := blet_e h
    obtain ⟨v17, ev17, h⟩ := blet_e h
    obtain ⟨c18, h⟩ := chk_e h
    obtain ⟨M19, eM19, h⟩ := blet_e h
    have hFM19 : Fr [152] [(111, 48), (111, 49), (111, 50), (111, 51), (111, 52), (111, 53), (111, 54), (111, 55), (111, 58)] M M19 := by rw [eM19]; exact hFM14.stoA (by simp)
    cases h; exact hFM19
theorem w_Mo_readWhole_74 {SW : Int → Mem → Res} {SF : Int → Int → Mem → Res} (hSW : ∀ {a1 : Int} {M : Mem} {r : Int × Mem}, SW a1 M = some r → Fr [152] [(111, 48), (111, 49), (111, 50), (111, 51), (111, 52), (111, 53), (111, 54), (111, 55), (111, 58)] M r.2) (hSF : ∀ {a1 : Int} {a2 : Int} {M : Mem} {r : Int × Mem}, SF a1 a2 M = some r → Fr [152] [(111, 48), (111, 49), (111, 50), (111, 51), (111, 52), (111, 53), (111, 54), (111, 55), (111, 58)] M r.2)  {a1 : Int} {M : Mem} {r : Int × Mem} (h : k_Mo_readWhole_74 SW SF a1 M = some r) : Fr [152] [(111, 48), (111, 49), (111, 50), (111, 51), (111, 52), (111, 53), (111, 54), (111, 55), (111, 58)] M r.2 := by
  unfold k_Mo_readWhole_74 at h
  have hFM : Fr [152] [(111, 48), (111, 49), (111, 50), (111, 51), (111, 52), (111, 53), (111, 54), (111, 55), (111, 58)] M M := Fr.rfl'
  obtain ⟨v1, ev1, h⟩ := blet_e h
  rcases ite_e h with ⟨c2, h⟩ | ⟨c2, h⟩
  · skip
    cases h; exact hFM
  · skip
    obtain ⟨v3, ev3, h⟩ := blet_e h
    obtain ⟨v4, M5, fv4, h⟩ := bcall_e h
    have hFM5 : Fr [152] [(111, 48), (111, 49), (111, 50), (111, 51), (111, 52), (111, 53), (111, 54), (111, 55), (111, 58)] M M5 := hFM.trans ((w_Mo_mark fv4).mono (by simp) (by simp))
    obtain ⟨v6, M7, fv6, h⟩ := bcall_e h
    have hFM7 : Fr [152] [(111, 48), (111, 49), (111, 50), (111, 51), (111, 52), (111, 53), (111, 54), (111, 55), (111, 58)] M M7 := hFM5.trans ((w_Mo_next fv6).mono (by simp) (by simp))
    obtain ⟨v8, M9, fv8, h⟩ := bcall_e h
    have hFM9 : Fr [152] [(111, 48), (111, 49), (111, 50), (111, 51), (111, 52), (111, 53), (111, 54), (111, 55), (111, 58)] M M9 := hFM7.trans (hSW fv8)
    obtain ⟨v10, ev10, h⟩ := blet_e h
    rcases ite_e h with ⟨c11, h⟩ | ⟨c11, h⟩
    · skip
      obtain ⟨v12, M13, fv12, h⟩ := bcall_e h
      have hFM13 : Fr [152] [(111, 48), (111, 49), (111, 50), (111, 51), (111, 52), (111, 53), (111, 54), (111, 55), (111, 58)] M M13 := hFM9.trans ((w_Mo_isElse fv12).mono (by simp) (by simp))
      rcases ite_e h with ⟨c14, h⟩ | ⟨c14, h⟩
      · skip
        obtain ⟨v15, M16, fv15, h⟩ := bcall_e h
        have hFM16 : Fr [152] [(111, 48), (111, 49), (111, 50), (111, 51), (111, 52), (111, 53), (111, 54), (111, 55), (111, 58)] M M16 := hFM13.trans ((w_Mo_wrong fv15).mono (by simp) (by simp))
        exact hFM16.trans (w_Mo_readWhole_123 hSW hSF h)
      · skip
        exact hFM13.trans (w_Mo_readWhole_123 hSW hSF h)
    · skip
      exact hFM9.trans (w_Mo_readWhole_123 hSW hSF h)
theorem w_Mo_readWhole_26 {SW : Int → Mem → Res} {SF : Int → Int → Mem → Res} (hSW : ∀ {a1 : Int} {M : Mem} {r : Int × Mem}, SW a1 M = some r → Fr [152] [(111, 48), (111, 49), (111, 50), (111, 51), (111, 52), (111, 53), (111, 54), (111, 55), (111, 58)] M r.2) (hSF : ∀ {a1 : Int} {a2 : Int} {M : Mem} {r : Int × Mem}, SF a1 a2 M = some r → Fr [152] [(111, 48), (111, 49), (111, 50), (111, 51), (111, 52), (111, 53), (111, 54), (111, 55), (111, 58)] M r.2)  {a1 : Int} {M : Mem} {r : Int × Mem} (h : k_Mo_readWhole_26 SW SF a1 M = some r) : Fr [152] [(111, 48), (111, 49), (111, 50), (111, 51), (111, 52), (111, 53), (111, 54), (111, 55), (111, 58)] M r.2 := by
  unfold k_Mo_readWhole_26 at h
  have hFM : Fr [152] [(111, 48), (111, 49), (111, 50), (111, 51), (111, 52), (111, 53), (111, 54), (111, 55), (111, 58)] M M := Fr.rfl'
  obtain ⟨v1, ev1, h⟩ := blet_e h
  rcases ite_e h with ⟨c2, h⟩ | ⟨c2, h⟩
  · skip
    cases h; exact hFM
  · skip
    obtain ⟨v3, M4, fv3, h⟩ := bcall_e h
    have hFM4 : Fr [152] [(111, 48), (111, 49), (111, 50), (111, 51), (111, 52), (111, 53), (111, 54), (111, 55), (111, 58)] M M4 := hFM.trans ((w_Mo_isIf fv3).mono (by simp) (by simp))
    rcases ite_e h with ⟨c5, h⟩ | ⟨c5, h⟩
    · skip
      obtain ⟨v6, M7, fv6, h⟩ := bcall_e h
      have hFM7 : Fr [152] [(111, 48), (111, 49), (111, 50), (111, 51), (111, 52), (111, 53), (111, 54), (111, 55), (111, 58)] M M7 := hFM4.trans ((w_Mo_readSum hSW hSF fv6).mono (by simp) (by simp))
      cases h; exact hFM7
    · skip
      obtain ⟨v8, M9, fv8, h⟩ := bcall_e h
      have hFM9 : Fr [152] [(111, 48), (111, 49), (111, 50), (111, 51), (111, 52), (111, 53), (111, 54), (111, 55), (111, 58)] M M9 := hFM4.trans ((w_Mo_next fv8).mono (by simp) (by simp))
      obtain ⟨v10, M11, fv10, h⟩ := bcall_e h
      have hFM11 : Fr [152] [(111, 48), (111, 49), (111, 50), (111, 51), (111, 52), (111, 53), (111, 54), (111, 55), (111, 58)] M M11 := hFM9.trans ((w_Mo_readTest hSW hSF fv10).mono (by simp) (by simp))
      obtain ⟨v12, ev12, h⟩ := blet_e h
      rcases ite_e h with ⟨c13, h⟩ | ⟨c13, h⟩
      · skip
        obtain ⟨v14, M15, fv14, h⟩ := bcall_e h
        have hFM15 : Fr [152] [(111, 48), (111, 49), (111, 50), (111, 51), (111, 52), (111, 53), (111, 54), (111, 55), (111, 58)] M M15 := hFM11.trans ((w_Mo_isThen fv14).mono (by simp) (by simp))
        rcases ite_e h with ⟨c16, h⟩ | ⟨c16, h⟩
        · skip
          obtain ⟨v17, M18, fv17, h⟩ := bcall_e h
          have hFM18 : Fr [152] [(111, 48), (111, 49), (111, 50), (111, 51), (111, 52), (111, 53), (111, 54), (111, 55), (111, 58)] M M18 := hFM15.trans ((w_Mo_wrong fv17).mono (by simp) (by simp))
          exact hFM18.trans (w_Mo_readWhole_74 hSW hSF h)
        · skip
          exact hFM15.trans (w_Mo_readWhole_74 hSW hSF h)
      · skip
        exact hFM11.trans (w_Mo_readWhole_74 hSW hSF h)
theorem w_Mo_readWhole_11 {SW : Int → Mem → Res} {SF : Int → Int → Mem → Res} (hSW : ∀ {a1 : Int} {M : Mem} {r : Int × Mem}, SW a1 M = some r → Fr [152] [(111, 48), (111, 49), (111, 50), (111, 51), (111, 52), (111, 53), (111, 54), (111, 55), (111, 58)] M r.2) (hSF : ∀ {a1 : Int} {a2 : Int} {M : Mem} {r : Int × Mem}, SF a1 a2 M = some r → Fr [152] [(111, 48), (111, 49), (111, 50), (111, 51), (111, 52), (111, 53), (111, 54), (111, 55), (111, 58)] M r.2)  {a1 : Int} {M : Mem} {r : Int × Mem} (h : k_Mo_readWhole_11 SW SF a1 M = some r) : Fr [152] [(111, 48), (111, 49), (111, 50), (111, 51), (111, 52), (111, 53), (111, 54), (111, 55), (111, 58)] M r.2 := by
  unfold k_Mo_readWhole_11 at h
  have hFM : Fr [152] [(111, 48), (111, 49), (111, 50), (111, 51), (111, 52), (111, 53), (111, 54), (111, 55), (111, 58)] M M := Fr.rfl'
  rcases ite_e h with ⟨c1, h⟩ | ⟨c1, h⟩
  · skip
    obtain ⟨v2, ev2, h⟩ := blet_e h
    obtain ⟨v3, M4, fv3, h⟩ := bcall_e h
    have hFM4 : Fr [152] [(111, 48), (111, 49), (111, 50), (111, 51), (111, 52), (111, 53), (111, 54), (111, 55), (111, 58)] M M4 := hFM.trans ((w_Mo_fail fv3).mono (by simp) (by simp))
    exact hFM4.trans (w_Mo_readWhole_26 hSW hSF h)
  · skip
    exact hFM.trans (w_Mo_readWhole_26 hSW hSF h)
theorem w_Mo_readWhole {SW : Int → Mem → Res} {SF : Int → Int → Mem → Res} (hSW : ∀ {a1 : Int} {M : Mem} {r : Int × Mem}, SW a1 M = some r → Fr [152] [(111, 48), (111, 49), (111, 50), (111, 51), (111, 52), (111, 53), (111, 54), (111, 55), (111, 58)] M r.2) (hSF : ∀ {a1 : Int} {a2 : Int} {M : Mem} {r : Int × Mem}, SF a1 a2 M = some r → Fr [152] [(111, 48), (111, 49), (111, 50), (111, 51), (111, 52), (111, 53), (111, 54), (111, 55), (111, 58)] M r.2) {a1 : Int} {M : Mem} {r : Int × Mem} (h : d_Mo_readWhole SW SF a1 M = some r) : Fr [152] [(111, 48), (111, 49), (111, 50), (111, 51), (111, 52), (111, 53), (111, 54), (111, 55), (111, 58)] M r.2 := by
  unfold d_Mo_readWhole at h
  have hFM : Fr [152] [(111, 48), (111, 49), (111, 50), (111, 51), (111, 52), (111, 53), (111, 54), (111, 55), (111, 58)] M M := Fr.rfl'
  obtain ⟨v1, M2, fv1, h⟩ := bcall_e h
  have hFM2 : Fr [152] [(111, 48), (111, 49), (111, 50), (111, 51), (111, 52), (111, 53), (111, 54), (111, 55), (111, 58)] M M2 := hFM.trans ((w_Mo_canBegin fv1).mono (by simp) (by simp))
  rcases ite_e h with ⟨c3, h⟩ | ⟨c3, h⟩
  · skip
    obtain ⟨v4, M5, fv4, h⟩ := bcall_e h
    have hFM5 : Fr [152] [(111, 48), (111, 49), (111, 50), (111, 51), (111, 52), (111, 53), (111, 54), (111, 55), (111, 58)] M M5 := hFM2.trans ((w_Mo_wrong fv4).mono (by simp) (by simp))
    exact hFM5.trans (w_Mo_readWhole_11 hSW hSF h)
  · skip
    exact hFM2.trans (w_Mo_readWhole_11 hSW hSF h)
theorem w_Mo_readDeeper_26 {SW : Int → Mem → Res} {SF : Int → Int → Mem → Res} (hSW : ∀ {a1 : Int} {M : Mem} {r : Int × Mem}, SW a1 M = some r → Fr [152] [(111, 48), (111, 49), (111, 50), (111, 51), (111, 52), (111, 53), (111, 54), (111, 55), (111, 58)] M r.2) (hSF : ∀ {a1 : Int} {a2 : Int} {M : Mem} {r : Int × Mem}, SF a1 a2 M = some r → Fr [152] [(111, 48), (111, 49), (111, 50), (111, 51), (111, 52), (111, 53), (111, 54), (111, 55), (111, 58)] M r.2)  {a1 : Int} {M : Mem} {r : Int × Mem} (h : k_Mo_readDeeper_26 SW SF a1 M = some r) : Fr [152] [(111, 48), (111, 49), (111, 50), (111, 51), (111, 52), (111, 53), (111, 54), (111, 55), (111, 58)] M r.2 := by
  unfold k_Mo_readDeeper_26 at h
  have hFM : Fr [152] [(111, 48), (111, 49), (111, 50), (111, 51), (111, 52), (111, 53), (111, 54), (111, 55), (111, 58)] M M := Fr.rfl'
  obtain ⟨v1, ev1, h⟩ := blet_e h
  rcases ite_e h with ⟨c2, h⟩ | ⟨c2, h⟩
  · skip
    obtain ⟨v3, M4, fv3, h⟩ := bcall_e h
    have hFM4 : Fr [152] [(111, 48), (111, 49), (111, 50), (111, 51), (111, 52), (111, 53), (111, 54), (111, 55), (111, 58)] M M4 := hFM.trans ((w_Mo_readSum hSW hSF fv3).mono (by simp) (by simp))
    cases h; exact hFM4
  · skip
    cases h; exact hFM
theorem w_Mo_readDeeper_11 {SW : Int → Mem → Res} {SF : Int → Int → Mem → Res} (hSW : ∀ {a1 : Int} {M : Mem} {r : Int × Mem}, SW a1 M = some r → Fr [152] [(111, 48), (111, 49), (111, 50), (111, 51), (111, 52), (111, 53), (111, 54), (111, 55), (111, 58)] M r.2) (hSF : ∀ {a1 : Int} {a2 : Int} {M : Mem} {r : Int × Mem}, SF a1 a2 M = some r → Fr [152] [(111, 48), (111, 49), (111, 50), (111, 51), (111, 52), (111, 53), (111, 54), (111, 55), (111, 58)] M r.2)  {a1 : Int} {M : Mem} {r : Int × Mem} (h : k_Mo_readDeeper_11 SW SF a1 M = some r) : Fr [152] [(111, 48), (111, 49), (111, 50), (111, 51), (111, 52), (111, 53), (111, 54), (111, 55), (111, 58)] M r.2 := by
  unfold k_Mo_readDeeper_11 at h
  have hFM : Fr [152] [(111, 48), (111, 49), (111, 50), (111, 51), (111, 52), (111, 53), (111, 54), (111, 55), (111, 58)] M M := Fr.rfl'
  rcases ite_e h with ⟨c1, h⟩ | ⟨c1, h⟩
  · skip
    obtain ⟨v2, ev2, h⟩ := blet_e h
    obtain ⟨v3, M4, fv3, h⟩ := bcall_e h
    have hFM4 : Fr [152] [(111, 48), (111, 49), (111, 50), (111, 51), (111, 52), (111, 53), (111, 54), (111, 55), (111, 58)] M M4 := hFM.trans ((w_Mo_fail fv3).mono (by simp) (by simp))
    exact hFM4.trans (w_Mo_readDeeper_26 hSW hSF h)
  · skip
    exact hFM.trans (w_Mo_readDeeper_26 hSW hSF h)
theorem w_Mo_readDeeper {SW : Int → Mem → Res} {SF : Int → Int → Mem → Res} (hSW : ∀ {a1 : Int} {M : Mem} {r : Int × Mem}, SW a1 M = some r → Fr [152] [(111, 48), (111, 49), (111, 50), (111, 51), (111, 52), (111, 53), (111, 54), (111, 55), (111, 58)] M r.2) (hSF : ∀ {a1 : Int} {a2 : Int} {M : Mem} {r : Int × Mem}, SF a1 a2 M = some r → Fr [152] [(111, 48), (111, 49), (111, 50), (111, 51), (111, 52), (111, 53), (111, 54), (111, 55), (111, 58)] M r.2) {a1 : Int} {M : Mem} {r : Int × Mem} (h : d_Mo_readDeeper SW SF a1 M = some r) : Fr [152] [(111, 48), (111, 49), (111, 50), (111, 51), (111, 52), (111, 53), (111, 54), (111, 55), (111, 58)] M r.2 := by
  unfold d_Mo_readDeeper at h
  have hFM : Fr [152] [(111, 48), (111, 49), (111, 50), (111, 51), (111, 52), (111, 53), (111, 54), (111, 55), (111, 58)] M M := Fr.rfl'
  obtain ⟨v1, M2, fv1, h⟩ := bcall_e h
  have hFM2 : Fr [152] [(111, 48), (111, 49), (111, 50), (111, 51), (111, 52), (111, 53), (111, 54), (111, 55), (111, 58)] M M2 := hFM.trans ((w_Mo_canBeginSum fv1).mono (by simp) (by simp))
  rcases ite_e h with ⟨c3, h⟩ | ⟨c3, h⟩
  · skip
    obtain ⟨v4, M5, fv4, h⟩ := bcall_e h
    have hFM5 : Fr [152] [(111, 48), (111, 49), (111, 50), (111, 51), (111, 52), (111, 53), (111, 54), (111, 55), (111, 58)] M M5 := hFM2.trans ((w_Mo_wrong fv4).mono (by simp) (by simp))
    exact hFM5.trans (w_Mo_readDeeper_11 hSW hSF h)
  · skip
    exact hFM2.trans (w_Mo_readDeeper_11 hSW hSF h)
theorem w_Mo_readFew_88 {SW : Int → Mem → Res} {SF : Int → Int → Mem → Res} (hSW : ∀ {a1 : Int} {M : Mem} {r : Int × Mem}, SW a1 M = some r → Fr [152] [(111, 48), (111, 49), (111, 50), (111, 51), (111, 52), (111, 53), (111, 54), (111, 55), (111, 58)] M r.2) (hSF : ∀ {a1 : Int} {a2 : Int} {M : Mem} {r : Int × Mem}, SF a1 a2 M = some r → Fr [152] [(111, 48), (111, 49), (111, 50), (111, 51), (111, 52), (111, 53), (111, 54), (111, 55), (111, 58)] M r.2)  {a2 : Int} {M : Mem} {r : Int × Mem} (h : k_Mo_readFew_88 SW SF a2 M = some r) : Fr [152] [(111, 48), (111, 49), (111, 50), (111, 51), (111, 52), (111, 53), (111, 54), (111, 55), (111, 58)] M r.2 := by
  unfold k_Mo_readFew_88 at h
  have hFM : Fr [152] [(111, 48), (111, 49), (111, 50), (111, 51), (111, 52), (111, 53), (111, 54), (111, 55), (111, 58)] M M := Fr.rfl'
  obtain ⟨v1, ev1, h⟩ := blet_e h
  rcases ite_e h with ⟨c2, h⟩ | ⟨c2, h⟩
  · skip
    cases h; exact hFM
  · skip
    obtain ⟨v3, M4, fv3, h⟩ := bcall_e h
    have hFM4 : Fr [152] [(111, 48), (111, 49), (111, 50), (111, 51), (111, 52), (111, 53), (111, 54), (111, 55), (111, 58)] M M4 := hFM.trans ((w_Mo_next fv3).mono (by simp) (by simp))
    obtain ⟨v5, M6, fv5, h⟩ := bcall_e h
    have hFM6 : Fr [152] [(111, 48), (111, 49), (111, 50), (111, 51), (111, 52), (111, 53), (111, 54), (111, 55), (111, 58)] M M6 := hFM4.trans ((w_Mo_mark fv5).mono (by simp) (by simp))
    cases h; exact hFM6
theorem w_Mo_readFew_49 {SW : Int → Mem → Res} {SF : Int → Int → Mem → Res} (hSW : ∀ {a1 : Int} {M : Mem} {r : Int × Mem}, SW a1 M = some r → Fr [152] [(111, 48), (111, 49), (111, 50), (111, 51), (111, 52), (111, 53), (111, 54), (111, 55), (111, 58)] M r.2) (hSF : ∀ {a1 : Int} {a2 : Int} {M : Mem} {r : Int × Mem}, SF a1 a2 M = some r → Fr [152] [(111, 48), (111, 49), (111, 50), (111, 51), (111, 52), (111, 53), (111, 54), (111, 55), (111, 58)] M r.2)  {a1 a2 : Int} {M : Mem} {r : Int × Mem} (h : k_Mo_readFew_49 SW SF a1 a2 M = some r) : Fr [152] [(111, 48), (111, 49), (111, 50), (111, 51), (111, 52), (111, 53), (111, 54), (111, 55), (111, 58)] M r.2 := by
  unfold k_Mo_readFew_49 at h
  have hFM : Fr [152] [(111, 48), (111, 49), (111, 50), (111, 51), (111, 52), (111, 53), (111, 54), (111, 55), (111, 58)] M M := Fr.rfl'
  obtain ⟨v1, ev1, h⟩ := blet_e h
  rcases ite_e h with ⟨c2, h⟩ | ⟨c2, h⟩
  · skip
    cases h; exact hFM
  · skip
    obtain ⟨v3, M4, fv3, h⟩ := bcall_e h
    have hFM4 : Fr [152] [(111, 48), (111, 49), (111, 50), (111, 51), (111, 52), (111, 53), (111, 54), (111, 55), (111, 58)] M M4 := hFM.trans ((w_Mo_next fv3).mono (by simp) (by simp))
    obtain ⟨v5, M6, fv5, h⟩ := bcall_e h
    have hFM6 : Fr [152] [(111, 48), (111, 49), (111, 50), (111, 51), (111, 52), (111, 53), (111, 54), (111, 55), (111, 58)] M M6 := hFM4.trans ((w_Mo_readDeeper hSW hSF fv5).mono (by simp) (by simp))
    obtain ⟨v7, ev7, h⟩ := blet_e h
    rcases ite_e h with ⟨c8, h⟩ | ⟨c8, h⟩
    · skip
      obtain ⟨v9, M10, fv9, h⟩ := bcall_e h
      have hFM10 : Fr [152] [(111, 48), (111, 49), (111, 50), (111, 51), (111, 52), (111, 53), (111, 54), (111, 55), (111, 58)] M M10 := hFM6.trans ((w_Mo_isSign fv9).mono (by simp) (by simp))
      rcases ite_e h with ⟨c11, h⟩ | ⟨c11, h⟩
      · skip
        obtain ⟨v12, M13, fv12, h⟩ := bcall_e h
        have hFM13 : Fr [152] [(111, 48), (111, 49), (111, 50), (111, 51), (111, 52), (111, 53), (111, 54), (111, 55), (111, 58)] M M13 := hFM10.trans ((w_Mo_wrong fv12).mono (by simp) (by simp))
        exact hFM13.trans (w_Mo_readFew_88 hSW hSF h)
      · skip
        exact hFM10.trans (w_Mo_readFew_88 hSW hSF h)
    · skip
      exact hFM6.trans (w_Mo_readFew_88 hSW hSF h)
theorem w_Mo_readFew {SW : Int → Mem → Res} {SF : Int → Int → Mem → Res} (hSW : ∀ {a1 : Int} {M : Mem} {r : Int × Mem}, SW a1 M = some r → Fr [152] [(111, 48), (111, 49), (111, 50), (111, 51), (111, 52), (111, 53), (111, 54), (111, 55), (111, 58)] M r.2) (hSF : ∀ {a1 : Int} {a2 : Int} {M : Mem} {r : Int × Mem}, SF a1 a2 M = some r → Fr [152] [(111, 48), (111, 49), (111, 50), (111, 51), (111, 52), (111, 53), (111, 54), (111, 55), (111, 58)] M r.2) {a1 a2 : Int} {M : Mem} {r : Int × Mem} (h : d_Mo_readFew SW SF a1 a2 M = some r) : Fr [152] [(111, 48), (111, 49), (111, 50), (111, 51), (111, 52), (111, 53), (111, 54), (111, 55), (111, 58)] M r.2 := by
  unfold d_Mo_readFew at h
  have hFM : Fr [152] [(111, 48), (111, 49), (111, 50), (111, 51), (111, 52), (111, 53), (111, 54), (111, 55), (111, 58)] M M := Fr.rfl'
  obtain ⟨v1, M2, fv1, h⟩ := bcall_e h
  have hFM2 : Fr [152] [(111, 48), (111, 49), (111, 50), (111, 51), (111, 52), (111, 53), (111, 54), (111, 55), (111, 58)] M M2 := hFM.trans ((w_Mo_next fv1).mono (by simp) (by simp))
  obtain ⟨v3, M4, fv3, h⟩ := bcall_e h
  have hFM4 : Fr [152] [(111, 48), (111, 49), (111, 50), (111, 51), (111, 52), (111, 53), (111, 54), (111, 55), (111, 58)] M M4 := hFM2.trans ((w_Mo_isSign fv3).mono (by simp) (by simp))
  rcases ite_e h with ⟨c5, h⟩ | ⟨c5, h⟩
  · skip
    obtain ⟨v6, M7, fv6, h⟩ := bcall_e h
    have hFM7 : Fr [152] [(111, 48), (111, 49), (111, 50), (111, 51), (111, 52), (111, 53), (111, 54), (111, 55), (111, 58)] M M7 := hFM4.trans ((w_Mo_wrong fv6).mono (by simp) (by simp))
    cases h; exact hFM7
  · skip
    obtain ⟨v8, M9, fv8, h⟩ := bcall_e h
    have hFM9 : Fr [152] [(111, 48), (111, 49), (111, 50), (111, 51), (111, 52), (111, 53), (111, 54), (111, 55), (111, 58)] M M9 := hFM4.trans ((w_Mo_next fv8).mono (by simp) (by simp))
    obtain ⟨v10, M11, fv10, h⟩ := bcall_e h
    have hFM11 : Fr [152] [(111, 48), (111, 49), (111, 50), (111, 51), (111, 52), (111, 53), (111, 54), (111, 55), (111, 58)] M M11 := hFM9.trans ((w_Mo_readDeeper hSW hSF fv10).mono (by simp) (by simp))
    obtain ⟨v12, ev12, h⟩ := blet_e h
    rcases ite_e h with ⟨c13, h⟩ | ⟨c13, h⟩
    · skip
      obtain ⟨v14, M15, fv14, h⟩ := bcall_e h
      have hFM15 : Fr [152] [(111, 48), (111, 49), (111, 50), (111, 51), (111, 52), (111, 53), (111, 54), (111, 55), (111, 58)] M M15 := hFM11.trans ((w_Mo_isSign fv14).mono (by simp) (by simp))
      rcases ite_e h with ⟨c16, h⟩ | ⟨c16, h⟩
      · skip
        obtain ⟨v17, M18, fv17, h⟩ := bcall_e h
        have hFM18 : Fr [152] [(111, 48), (111, 49), (111, 50), (111, 51), (111, 52), (111, 53), (111, 54), (111, 55), (111, 58)] M M18 := hFM15.trans ((w_Mo_wrong fv17).mono (by simp) (by simp))
        exact hFM18.trans (w_Mo_readFew_49 hSW hSF h)
      · skip
        exact hFM15.trans (w_Mo_readFew_49 hSW hSF h)
    · skip
      exact hFM11.trans (w_Mo_readFew_49 hSW hSF h)
theorem rwG_w : ∀ n : Nat, (∀ {a1 : Int} {M : Mem} {r : Int × Mem}, (rwG n).1 a1 M = some r → Fr [152] [(111, 48), (111, 49), (111, 50), (111, 51), (111, 52), (111, 53), (111, 54), (111, 55), (111, 58)] M r.2) ∧ (∀ {a1 : Int} {a2 : Int} {M : Mem} {r : Int × Mem}, (rwG n).2 a1 a2 M = some r → Fr [152] [(111, 48), (111, 49), (111, 50), (111, 51), (111, 52), (111, 53), (111, 54), (111, 55), (111, 58)] M r.2) := by
  intro n
  induction n with
  | zero => exact ⟨(fun h => nomatch (show (none : Res) = some _ from h)), (fun h => nomatch (show (none : Res) = some _ from h))⟩
  | succ n ih => exact ⟨fun h => w_Mo_readWhole ih.1 ih.2 h, fun h => w_Mo_readFew ih.1 ih.2 h⟩
theorem w_Mo_readWholeC {a1 : Int} {M : Mem} {r : Int × Mem} (h : d_Mo_readWholeC a1 M = some r) : Fr [152] [(111, 48), (111, 49), (111, 50), (111, 51), (111, 52), (111, 53), (111, 54), (111, 55), (111, 58)] M r.2 := (rwG_w 16).1 h
theorem w_Mo_readDef_130  {a1 : Int} {M : Mem} {r : Int × Mem} (h : k_Mo_readDef_130 a1 M = some r) : Fr [151, 152, 154] [(111, 48), (111, 49), (111, 50), (111, 51), (111, 52), (111, 53), (111, 54), (111, 55), (111, 57), (111, 58)] M r.2 := by
  unfold k_Mo_readDef_130 at h
  have hFM : Fr [151, 152, 154] [(111, 48), (111, 49), (111, 50), (111, 51), (111, 52), (111, 53), (111, 54), (111, 55), (111, 57), (111, 58)] M M := Fr.rfl'
  obtain ⟨v1, ev1, h⟩ := blet_e h
  rcases ite_e h with ⟨c2, h⟩ | ⟨c2, h⟩
  · skip
    cases h; exact hFM
  · skip
    obtain ⟨v3, M4, fv3, h⟩ := bcall_e h
    have hFM4 : Fr [151, 152, 154] [(111, 48), (111, 49), (111, 50), (111, 51), (111, 52), (111, 53), (111, 54), (111, 55), (111, 57), (111, 58)] M M4 := hFM.trans ((w_Mo_next fv3).mono (by simp) (by simp))
    obtain ⟨v5, ev5, h⟩ := blet_e h
    obtain ⟨c6, h⟩ := chk_e h
    obtain ⟨M7, eM7, h⟩ := blet_e h
    have hFM7 : Fr [151, 152, 154] [(111, 48), (111, 49), (111, 50), (111, 51), (111, 52), (111, 53), (111, 54), (111, 55), (111, 57), (111, 58)] M M7 := by rw [eM7]; exact hFM4.stoA (by simp)
    obtain ⟨v8, ev8, h⟩ := blet_e h
    obtain ⟨M9, eM9, h⟩ := blet_e h
    have hFM9 : Fr [151, 152, 154] [(111, 48), (111, 49), (111, 50), (111, 51), (111, 52), (111, 53), (111, 54), (111, 55), (111, 57), (111, 58)] M M9 := by rw [eM9]; exact hFM7.stoF (by simp)
    obtain ⟨v10, ev10, h⟩ := blet_e h
    obtain ⟨v11, ev11, h⟩ := blet_e h
    obtain ⟨c12, h⟩ := chk_e h
    obtain ⟨M13, eM13, h⟩ := blet_e h
    have hFM13 : Fr [151, 152, 154] [(111, 48), (111, 49), (111, 50), (111, 51), (111, 52), (111, 53), (111, 54), (111, 55), (111, 57), (111, 58)] M M13 := by rw [eM13]; exact hFM9.stoA (by simp)
    cases h; exact hFM13
theorem w_Mo_readDef_70  {M : Mem} {r : Int × Mem} (h : k_Mo_readDef_70 M = some r) : Fr [151, 152, 154] [(111, 48), (111, 49), (111, 50), (111, 51), (111, 52), (111, 53), (111, 54), (111, 55), (111, 57), (111, 58)] M r.2 := by
  unfold k_Mo_readDef_70 at h
  have hFM : Fr [151, 152, 154] [(111, 48), (111, 49), (111, 50), (111, 51), (111, 52), (111, 53), (111, 54), (111, 55), (111, 57), (111, 58)] M M := Fr.rfl'
  obtain ⟨v1, ev1, h⟩ := blet_e h
  rcases ite_e h with ⟨c2, h⟩ | ⟨c2, h⟩
  · skip
    cases h; exact hFM
  · skip
    obtain ⟨v3, ev3, h⟩ := blet_e h
    obtain ⟨v4, M5, fv4, h⟩ := bcall_e h
    have hFM5 : Fr [151, 152, 154] [(111, 48), (111, 49), (111, 50), (111, 51), (111, 52), (111, 53), (111, 54), (111, 55), (111, 57), (111, 58)] M M5 := hFM.trans ((w_Mo_next fv4).mono (by simp) (by simp))
    obtain ⟨v6, M7, fv6, h⟩ := bcall_e h
    have hFM7 : Fr [151, 152, 154] [(111, 48), (111, 49), (111, 50), (111, 51), (111, 52), (111, 53), (111, 54), (111, 55), (111, 57), (111, 58)] M M7 := hFM5.trans ((w_Mo_isSign fv6).mono (by simp) (by simp))
    rcases ite_e h with ⟨c8, h⟩ | ⟨c8, h⟩
    · skip
      obtain ⟨v9, M10, fv9, h⟩ := bcall_e h
      have hFM10 : Fr [151, 152, 154] [(111, 48), (111, 49), (111, 50), (111, 51), (111, 52), (111, 53), (111, 54), (111, 55), (111, 57), (111, 58)] M M10 := hFM7.trans ((w_Mo_wrong fv9).mono (by simp) (by simp))
      cases h; exact hFM10
    · skip
      obtain ⟨v11, M12, fv11, h⟩ := bcall_e h
      have hFM12 : Fr [151, 152, 154] [(111, 48), (111, 49), (111, 50), (111, 51), (111, 52), (111, 53), (111, 54), (111, 55), (111, 57), (111, 58)] M M12 := hFM7.trans ((w_Mo_next fv11).mono (by simp) (by simp))
      obtain ⟨v13, M14, fv13, h⟩ := bcall_e h
      have hFM14 : Fr [151, 152, 154] [(111, 48), (111, 49), (111, 50), (111, 51), (111, 52), (111, 53), (111, 54), (111, 55), (111, 57), (111, 58)] M M14 := hFM12.trans ((w_Mo_readWholeC fv13).mono (by simp) (by simp))
      obtain ⟨v15, ev15, h⟩ := blet_e h
      rcases ite_e h with ⟨c16, h⟩ | ⟨c16, h⟩
      · skip
        obtain ⟨v17, M18, fv17, h⟩ := bcall_e h
        have hFM18 : Fr [151, 152, 154] [(111, 48), (111, 49), (111, 50), (111, 51), (111, 52), (111, 53), (111, 54), (111, 55), (111, 57), (111, 58)] M M18 := hFM14.trans ((w_Mo_isSign fv17).mono (by simp) (by simp))
        rcases ite_e h with ⟨c19, h⟩ | ⟨c19, h⟩
        · skip
          obtain ⟨v20, M21, fv20, h⟩ := bcall_e h
          have hFM21 : Fr [151, 152, 154] [(111, 48), (111, 49), (111, 50), (111, 51), (111, 52), (111, 53), (111, 54), (111, 55), (111, 57), (111, 58)] M M21 := hFM18.trans ((w_Mo_wrong fv20).mono (by simp) (by simp))
          exact hFM21.trans (w_Mo_readDef_130 h)
        · skip
          exact hFM18.trans (w_Mo_readDef_130 h)
      · skip
        exact hFM14.trans (w_Mo_readDef_130 h)
theorem w_Mo_readDef_54  {M : Mem} {r : Int × Mem} (h : k_Mo_readDef_54 M = some r) : Fr [151, 152, 154] [(111, 48), (111, 49), (111, 50), (111, 51), (111, 52), (111, 53), (111, 54), (111, 55), (111, 57), (111, 58)] M r.2 := by
  unfold k_Mo_readDef_54 at h
  have hFM : Fr [151, 152, 154] [(111, 48), (111, 49), (111, 50), (111, 51), (111, 52), (111, 53), (111, 54), (111, 55), (111, 57), (111, 58)] M M := Fr.rfl'
  obtain ⟨v1, M2, fv1, h⟩ := bcall_e h
  have hFM2 : Fr [151, 152, 154] [(111, 48), (111, 49), (111, 50), (111, 51), (111, 52), (111, 53), (111, 54), (111, 55), (111, 57), (111, 58)] M M2 := hFM.trans ((w_Mo_named fv1).mono (by simp) (by simp))
  rcases ite_e h with ⟨c3, h⟩ | ⟨c3, h⟩
  · skip
    exact hFM2.trans (w_Mo_readDef_70 h)
  · skip
    obtain ⟨v4, ev4, h⟩ := blet_e h
    obtain ⟨v5, M6, fv5, h⟩ := bcall_e h
    have hFM6 : Fr [151, 152, 154] [(111, 48), (111, 49), (111, 50), (111, 51), (111, 52), (111, 53), (111, 54), (111, 55), (111, 57), (111, 58)] M M6 := hFM2.trans ((w_Mo_fail fv5).mono (by simp) (by simp))
    exact hFM6.trans (w_Mo_readDef_70 h)
theorem w_Mo_readDef_31  {M : Mem} {r : Int × Mem} (h : k_Mo_readDef_31 M = some r) : Fr [151, 152, 154] [(111, 48), (111, 49), (111, 50), (111, 51), (111, 52), (111, 53), (111, 54), (111, 55), (111, 57), (111, 58)] M r.2 := by
  unfold k_Mo_readDef_31 at h
  have hFM : Fr [151, 152, 154] [(111, 48), (111, 49), (111, 50), (111, 51), (111, 52), (111, 53), (111, 54), (111, 55), (111, 57), (111, 58)] M M := Fr.rfl'
  obtain ⟨v1, M2, fv1, h⟩ := bcall_e h
  have hFM2 : Fr [151, 152, 154] [(111, 48), (111, 49), (111, 50), (111, 51), (111, 52), (111, 53), (111, 54), (111, 55), (111, 57), (111, 58)] M M2 := hFM.trans ((w_Mo_wrong fv1).mono (by simp) (by simp))
  cases h; exact hFM2
theorem w_Mo_readDef {M : Mem} {r : Int × Mem} (h : d_Mo_readDef M = some r) : Fr [151, 152, 154] [(111, 48), (111, 49), (111, 50), (111, 51), (111, 52), (111, 53), (111, 54), (111, 55), (111, 57), (111, 58)] M r.2 := by
  unfold d_Mo_readDef at h
  have hFM : Fr [151, 152, 154] [(111, 48), (111, 49), (111, 50), (111, 51), (111, 52), (111, 53), (111, 54), (111, 55), (111, 57), (111, 58)] M M := Fr.rfl'
  obtain ⟨v1, ev1, h⟩ := blet_e h
  rcases ite_e h with ⟨c2, h⟩ | ⟨c2, h⟩
  · skip
    obtain ⟨v3, ev3, h⟩ := blet_e h
    rcases ite_e h with ⟨c4, h⟩ | ⟨c4, h⟩
    · skip
      exact hFM.trans (w_Mo_readDef_31 h)
    · skip
      obtain ⟨v5, M6, fv5, h⟩ := bcall_e h
      have hFM6 : Fr [151, 152, 154] [(111, 48), (111, 49), (111, 50), (111, 51), (111, 52), (111, 53), (111, 54), (111, 55), (111, 57), (111, 58)] M M6 := hFM.trans ((w_Mo_variable fv5).mono (by simp) (by simp))
      rcases ite_e h with ⟨c7, h⟩ | ⟨c7, h⟩
      · skip
        obtain ⟨v8, M9, fv8, h⟩ := bcall_e h
        have hFM9 : Fr [151, 152, 154] [(111, 48), (111, 49), (111, 50), (111, 51), (111, 52), (111, 53), (111, 54), (111, 55), (111, 57), (111, 58)] M M9 := hFM6.trans ((w_Mo_isKept fv8).mono (by simp) (by simp))
        rcases ite_e h with ⟨c10, h⟩ | ⟨c10, h⟩
        · skip
          obtain ⟨v11, ev11, h⟩ := blet_e h
          rcases ite_e h with ⟨c12, h⟩ | ⟨c12, h⟩
          · skip
            obtain ⟨v13, ev13, h⟩ := blet_e h
            obtain ⟨v14, M15, fv14, h⟩ := bcall_e h
            have hFM15 : Fr [151, 152, 154] [(111, 48), (111, 49), (111, 50), (111, 51), (111, 52), (111, 53), (111, 54), (111, 55), (111, 57), (111, 58)] M M15 := hFM9.trans ((w_Mo_fail fv14).mono (by simp) (by simp))
            exact hFM15.trans (w_Mo_readDef_54 h)
          · skip
            exact hFM9.trans (w_Mo_readDef_54 h)
        · skip
          exact hFM9.trans (w_Mo_readDef_31 h)
      · skip
        exact hFM6.trans (w_Mo_readDef_31 h)
  · skip
    exact hFM.trans (w_Mo_readDef_31 h)
theorem w_Mo_acts_228 {R228 : Int → Int → Mem → Res} (hR228 : ∀ (a2 a3 : Int) (M : Mem) (r : Int × Mem), R228 a2 a3 M = some r → Fr [147, 148, 149, 150, 151, 152, 153, 154] [(111, 0), (111, 1), (111, 44), (111, 45), (111, 46), (111, 47), (111, 48), (111, 49), (111, 50), (111, 51), (111, 52), (111, 53), (111, 54), (111, 55), (111, 56), (111, 57), (111, 58)] M r.2) {a2 a3 : Int} {M : Mem} {r : Int × Mem} (h : k_Mo_acts_228 R228 a2 a3 M = some r) : Fr [147, 148, 149, 150, 151, 152, 153, 154] [(111, 0), (111, 1), (111, 44), (111, 45), (111, 46), (111, 47), (111, 48), (111, 49), (111, 50), (111, 51), (111, 52), (111, 53), (111, 54), (111, 55), (111, 56), (111, 57), (111, 58)] M r.2 := by
  unfold k_Mo_acts_228 at h
  have hFM : Fr [147, 148, 149, 150, 151, 152, 153, 154] [(111, 0), (111, 1), (111, 44), (111, 45), (111, 46), (111, 47), (111, 48), (111, 49), (111, 50), (111, 51), (111, 52), (111, 53), (111, 54), (111, 55), (111, 56), (111, 57), (111, 58)] M M := Fr.rfl'
  obtain ⟨v1, ev1, h⟩ := blet_e h
  rcases ite_e h with ⟨c2, h⟩ | ⟨c2, h⟩
  · skip
    obtain ⟨v3, ev3, h⟩ := blet_e h
    obtain ⟨c4, h⟩ := chk_e h
    obtain ⟨v5, ev5, h⟩ := blet_e h
    obtain ⟨c6, h⟩ := chk_e h
    obtain ⟨M7, eM7, h⟩ := blet_e h
    have hFM7 : Fr [147, 148, 149, 150, 151, 152, 153, 154] [(111, 0), (111, 1), (111, 44), (111, 45), (111, 46), (111, 47), (111, 48), (111, 49), (111, 50), (111, 51), (111, 52), (111, 53), (111, 54), (111, 55), (111, 56), (111, 57), (111, 58)] M M7 := by rw [eM7]; exact hFM.stoA (by simp)
    obtain ⟨v8, ev8, h⟩ := blet_e h
    exact hFM7.trans (hR228 a2 v8 M7 r h)
  · skip
    obtain ⟨v9, ev9, h⟩ := blet_e h
    obtain ⟨v10, ev10, h⟩ := blet_e h
    obtain ⟨c11, h⟩ := chk_e h
    obtain ⟨M12, eM12, h⟩ := blet_e h
    have hFM12 : Fr [147, 148, 149, 150, 151, 152, 153, 154] [(111, 0), (111, 1), (111, 44), (111, 45), (111, 46), (111, 47), (111, 48), (111, 49), (111, 50), (111, 51), (111, 52), (111, 53), (111, 54), (111, 55), (111, 56), (111, 57), (111, 58)] M M12 := by rw [eM12]; exact hFM.stoA (by simp)
    obtain ⟨v13, ev13, h⟩ := blet_e h
    obtain ⟨c14, h⟩ := chk_e h
    obtain ⟨M15, eM15, h⟩ := blet_e h
    have hFM15 : Fr [147, 148, 149, 150, 151, 152, 153, 154] [(111, 0), (111, 1), (111, 44), (111, 45), (111, 46), (111, 47), (111, 48), (111, 49), (111, 50), (111, 51), (111, 52), (111, 53), (111, 54), (111, 55), (111, 56), (111, 57), (111, 58)] M M15 := by rw [eM15]; exact hFM12.stoA (by simp)
    obtain ⟨v16, ev16, h⟩ := blet_e h
    obtain ⟨M17, eM17, h⟩ := blet_e h
    have hFM17 : Fr [147, 148, 149, 150, 151, 152, 153, 154] [(111, 0), (111, 1), (111, 44), (111, 45), (111, 46), (111, 47), (111, 48), (111, 49), (111, 50), (111, 51), (111, 52), (111, 53), (111, 54), (111, 55), (111, 56), (111, 57), (111, 58)] M M17 := by rw [eM17]; exact hFM15.stoF (by simp)
    obtain ⟨v18, ev18, h⟩ := blet_e h
    cases h; exact hFM17
theorem wl_Mo_acts_228  : ∀ (n : Nat) (a2 a3 : Int) (M : Mem) (r : Int × Mem), fix (fun _ _ _ => none) (k_Mo_acts_228) n a2 a3 M = some r → Fr [147, 148, 149, 150, 151, 152, 153, 154] [(111, 0), (111, 1), (111, 44), (111, 45), (111, 46), (111, 47), (111, 48), (111, 49), (111, 50), (111, 51), (111, 52), (111, 53), (111, 54), (111, 55), (111, 56), (111, 57), (111, 58)] M r.2 := by
  intro n
  induction n with
  | zero => intro a2 a3 M r h; exact nomatch (show (none : Res) = some r from h)
  | succ n ih => intro a2 a3 M r h; exact w_Mo_acts_228 ih h
theorem w_Mo_acts_192 {R192 : Int → Int → Mem → Res} (hR192 : ∀ (a2 a3 : Int) (M : Mem) (r : Int × Mem), R192 a2 a3 M = some r → Fr [147, 148, 149, 150, 151, 152, 153, 154] [(111, 0), (111, 1), (111, 44), (111, 45), (111, 46), (111, 47), (111, 48), (111, 49), (111, 50), (111, 51), (111, 52), (111, 53), (111, 54), (111, 55), (111, 56), (111, 57), (111, 58)] M r.2) {a2 a3 : Int} {M : Mem} {r : Int × Mem} (h : k_Mo_acts_192 R192 a2 a3 M = some r) : Fr [147, 148, 149, 150, 151, 152, 153, 154] [(111, 0), (111, 1), (111, 44), (111, 45), (111, 46), (111, 47), (111, 48), (111, 49), (111, 50), (111, 51), (111, 52), (111, 53), (111, 54), (111, 55), (111, 56), (111, 57), (111, 58)] M r.2 := by
  unfold k_Mo_acts_192 at h
  have hFM : Fr [147, 148, 149, 150, 151, 152, 153, 154] [(111, 0), (111, 1), (111, 44), (111, 45), (111, 46), (111, 47), (111, 48), (111, 49), (111, 50), (111, 51), (111, 52), (111, 53), (111, 54), (111, 55), (111, 56), (111, 57), (111, 58)] M M := Fr.rfl'
  obtain ⟨v1, ev1, h⟩ := blet_e h
  rcases ite_e h with ⟨c2, h⟩ | ⟨c2, h⟩
  · skip
    exact hFM.trans (wl_Mo_acts_228 FU a2 0 M r h)
  · skip
    obtain ⟨v3, ev3, h⟩ := blet_e h
    obtain ⟨c4, h⟩ := chk_e h
    obtain ⟨v5, ev5, h⟩ := blet_e h
    obtain ⟨c6, h⟩ := chk_e h
    obtain ⟨M7, eM7, h⟩ := blet_e h
    have hFM7 : Fr [147, 148, 149, 150, 151, 152, 153, 154] [(111, 0), (111, 1), (111, 44), (111, 45), (111, 46), (111, 47), (111, 48), (111, 49), (111, 50), (111, 51), (111, 52), (111, 53), (111, 54), (111, 55), (111, 56), (111, 57), (111, 58)] M M7 := by rw [eM7]; exact hFM.stoA (by simp)
    obtain ⟨v8, ev8, h⟩ := blet_e h
    exact hFM7.trans (hR192 a2 v8 M7 r h)
theorem wl_Mo_acts_192  : ∀ (n : Nat) (a2 a3 : Int) (M : Mem) (r : Int × Mem), fix (fun _ _ _ => none) (k_Mo_acts_192) n a2 a3 M = some r → Fr [147, 148, 149, 150, 151, 152, 153, 154] [(111, 0), (111, 1), (111, 44), (111, 45), (111, 46), (111, 47), (111, 48), (111, 49), (111, 50), (111, 51), (111, 52), (111, 53), (111, 54), (111, 55), (111, 56), (111, 57), (111, 58)] M r.2 := by
  intro n
  induction n with
  | zero => intro a2 a3 M r h; exact nomatch (show (none : Res) = some r from h)
  | succ n ih => intro a2 a3 M r h; exact w_Mo_acts_192 ih h
theorem w_Mo_acts_155 {R155 : Int → Int → Mem → Res} (hR155 : ∀ (a2 a3 : Int) (M : Mem) (r : Int × Mem), R155 a2 a3 M = some r → Fr [147, 148, 149, 150, 151, 152, 153, 154] [(111, 0), (111, 1), (111, 44), (111, 45), (111, 46), (111, 47), (111, 48), (111, 49), (111, 50), (111, 51), (111, 52), (111, 53), (111, 54), (111, 55), (111, 56), (111, 57), (111, 58)] M r.2) {a2 a3 : Int} {M : Mem} {r : Int × Mem} (h : k_Mo_acts_155 R155 a2 a3 M = some r) : Fr [147, 148, 149, 150, 151, 152, 153, 154] [(111, 0), (111, 1), (111, 44), (111, 45), (111, 46), (111, 47), (111, 48), (111, 49), (111, 50), (111, 51), (111, 52), (111, 53), (111, 54), (111, 55), (111, 56), (111, 57), (111, 58)] M r.2 := by
  unfold k_Mo_acts_155 at h
  have hFM : Fr [147, 148, 149, 150, 151, 152, 153, 154] [(111, 0), (111, 1), (111, 44), (111, 45), (111, 46), (111, 47), (111, 48), (111, 49), (111, 50), (111, 51), (111, 52), (111, 53), (111, 54), (111, 55), (111, 56), (111, 57), (111, 58)] M M := Fr.rfl'
  obtain ⟨v1, ev1, h⟩ := blet_e h
  rcases ite_e h with ⟨c2, h⟩ | ⟨c2, h⟩
  · skip
    obtain ⟨v3, ev3, h⟩ := blet_e h
    obtain ⟨c4, h⟩ := chk_e h
    obtain ⟨v5, ev5, h⟩ := blet_e h
    obtain ⟨c6, h⟩ := chk_e h
    obtain ⟨M7, eM7, h⟩ := blet_e h
    have hFM7 : Fr [147, 148, 149, 150, 151, 152, 153, 154] [(111, 0), (111, 1), (111, 44), (111, 45), (111, 46), (111, 47), (111, 48), (111, 49), (111, 50), (111, 51), (111, 52), (111, 53), (111, 54), (111, 55), (111, 56), (111, 57), (111, 58)] M M7 := by rw [eM7]; exact hFM.stoA (by simp)
    obtain ⟨v8, ev8, h⟩ := blet_e h
    exact hFM7.trans (hR155 a2 v8 M7 r h)
  · skip
    exact hFM.trans (wl_Mo_acts_192 FU a2 0 M r h)
theorem wl_Mo_acts_155  : ∀ (n : Nat) (a2 a3 : Int) (M : Mem) (r : Int × Mem), fix (fun _ _ _ => none) (k_Mo_acts_155) n a2 a3 M = some r → Fr [147, 148, 149, 150, 151, 152, 153, 154] [(111, 0), (111, 1), (111, 44), (111, 45), (111, 46), (111, 47), (111, 48), (111, 49), (111, 50), (111, 51), (111, 52), (111, 53), (111, 54), (111, 55), (111, 56), (111, 57), (111, 58)] M r.2 := by
  intro n
  induction n with
  | zero => intro a2 a3 M r h; exact nomatch (show (none : Res) = some r from h)
  | succ n ih => intro a2 a3 M r h; exact w_Mo_acts_155 ih h
theorem w_Mo_acts_136  {a2 s1 : Int} {M : Mem} {r : Int × Mem} (h : k_Mo_acts_136 a2 s1 M = some r) : Fr [147, 148, 149, 150, 151, 152, 153, 154] [(111, 0), (111, 1), (111, 44), (111, 45), (111, 46), (111, 47), (111, 48), (111, 49), (111, 50), (111, 51), (111, 52), (111, 53), (111, 54), (111, 55), (111, 56), (111, 57), (111, 58)] M r.2 := by
  unfold k_Mo_acts_136 at h
  have hFM : Fr [147, 148, 149, 150, 151, 152, 153, 154] [(111, 0), (111, 1), (111, 44), (111, 45), (111, 46), (111, 47), (111, 48), (111, 49), (111, 50), (111, 51), (111, 52), (111, 53), (111, 54), (111, 55), (111, 56), (111, 57), (111, 58)] M M := Fr.rfl'
  obtain ⟨M1, eM1, h⟩ := blet_e h
  have hFM1 : Fr [147, 148, 149, 150, 151, 152, 153, 154] [(111, 0), (111, 1), (111, 44), (111, 45), (111, 46), (111, 47), (111, 48), (111, 49), (111, 50), (111, 51), (111, 52), (111, 53), (111, 54), (111, 55), (111, 56), (111, 57), (111, 58)] M M1 := by rw [eM1]; exact hFM.stoF (by simp)
  obtain ⟨v2, ev2, h⟩ := blet_e h
  rcases ite_e h with ⟨c3, h⟩ | ⟨c3, h⟩
  · skip
    obtain ⟨v4, M5, fv4, h⟩ := bcall_e h
    have hFM5 : Fr [147, 148, 149, 150, 151, 152, 153, 154] [(111, 0), (111, 1), (111, 44), (111, 45), (111, 46), (111, 47), (111, 48), (111, 49), (111, 50), (111, 51), (111, 52), (111, 53), (111, 54), (111, 55), (111, 56), (111, 57), (111, 58)] M M5 := hFM1.trans ((w_Mo_refuse fv4).mono (by simp) (by simp))
    cases h; exact hFM5
  · skip
    exact hFM1.trans (wl_Mo_acts_155 FU a2 0 M1 r h)
theorem w_Mo_acts_112  {a2 : Int} {M : Mem} {r : Int × Mem} (h : k_Mo_acts_112 a2 M = some r) : Fr [147, 148, 149, 150, 151, 152, 153, 154] [(111, 0), (111, 1), (111, 44), (111, 45), (111, 46), (111, 47), (111, 48), (111, 49), (111, 50), (111, 51), (111, 52), (111, 53), (111, 54), (111, 55), (111, 56), (111, 57), (111, 58)] M r.2 := by
  unfold k_Mo_acts_112 at h
  have hFM : Fr [147, 148, 149, 150, 151, 152, 153, 154] [(111, 0), (111, 1), (111, 44), (111, 45), (111, 46), (111, 47), (111, 48), (111, 49), (111, 50), (111, 51), (111, 52), (111, 53), (111, 54), (111, 55), (111, 56), (111, 57), (111, 58)] M M := Fr.rfl'
  obtain ⟨v1, ev1, h⟩ := blet_e h
  obtain ⟨M2, eM2, h⟩ := blet_e h
  have hFM2 : Fr [147, 148, 149, 150, 151, 152, 153, 154] [(111, 0), (111, 1), (111, 44), (111, 45), (111, 46), (111, 47), (111, 48), (111, 49), (111, 50), (111, 51), (111, 52), (111, 53), (111, 54), (111, 55), (111, 56), (111, 57), (111, 58)] M M2 := by rw [eM2]; exact hFM.stoF (by simp)
  obtain ⟨v3, ev3, h⟩ := blet_e h
  rcases ite_e h with ⟨c4, h⟩ | ⟨c4, h⟩
  · skip
    exact hFM2.trans (w_Mo_acts_136 h)
  · skip
    obtain ⟨v5, ev5, h⟩ := blet_e h
    exact hFM2.trans (w_Mo_acts_136 h)
theorem w_Mo_acts_91 {R91 : Int → Mem → Res} (hR91 : ∀ (a2 : Int) (M : Mem) (r : Int × Mem), R91 a2 M = some r → Fr [147, 148, 149, 150, 151, 152, 153, 154] [(111, 0), (111, 1), (111, 44), (111, 45), (111, 46), (111, 47), (111, 48), (111, 49), (111, 50), (111, 51), (111, 52), (111, 53), (111, 54), (111, 55), (111, 56), (111, 57), (111, 58)] M r.2) {a2 : Int} {M : Mem} {r : Int × Mem} (h : k_Mo_acts_91 R91 a2 M = some r) : Fr [147, 148, 149, 150, 151, 152, 153, 154] [(111, 0), (111, 1), (111, 44), (111, 45), (111, 46), (111, 47), (111, 48), (111, 49), (111, 50), (111, 51), (111, 52), (111, 53), (111, 54), (111, 55), (111, 56), (111, 57), (111, 58)] M r.2 := by
  unfold k_Mo_acts_91 at h
  have hFM : Fr [147, 148, 149, 150, 151, 152, 153, 154] [(111, 0), (111, 1), (111, 44), (111, 45), (111, 46), (111, 47), (111, 48), (111, 49), (111, 50), (111, 51), (111, 52), (111, 53), (111, 54), (111, 55), (111, 56), (111, 57), (111, 58)] M M := Fr.rfl'
  obtain ⟨v1, ev1, h⟩ := blet_e h
  rcases ite_e h with ⟨c2, h⟩ | ⟨c2, h⟩
  · skip
    obtain ⟨v3, ev3, h⟩ := blet_e h
    rcases ite_e h with ⟨c4, h⟩ | ⟨c4, h⟩
    · skip
      exact hFM.trans (w_Mo_acts_112 h)
    · skip
      obtain ⟨v5, M6, fv5, h⟩ := bcall_e h
      have hFM6 : Fr [147, 148, 149, 150, 151, 152, 153, 154] [(111, 0), (111, 1), (111, 44), (111, 45), (111, 46), (111, 47), (111, 48), (111, 49), (111, 50), (111, 51), (111, 52), (111, 53), (111, 54), (111, 55), (111, 56), (111, 57), (111, 58)] M M6 := hFM.trans ((w_Mo_readDef fv5).mono (by simp) (by simp))
      exact hFM6.trans (hR91 a2 M6 r h)
  · skip
    exact hFM.trans (w_Mo_acts_112 h)
theorem wl_Mo_acts_91  : ∀ (n : Nat) (a2 : Int) (M : Mem) (r : Int × Mem), fix (fun _ _ => none) (k_Mo_acts_91) n a2 M = some r → Fr [147, 148, 149, 150, 151, 152, 153, 154] [(111, 0), (111, 1), (111, 44), (111, 45), (111, 46), (111, 47), (111, 48), (111, 49), (111, 50), (111, 51), (111, 52), (111, 53), (111, 54), (111, 55), (111, 56), (111, 57), (111, 58)] M r.2 := by
  intro n
  induction n with
  | zero => intro a2 M r h; exact nomatch (show (none : Res) = some r from h)
  | succ n ih => intro a2 M r h; exact w_Mo_acts_91 ih h
theorem w_Mo_acts_29  {M : Mem} {r : Int × Mem} (h : k_Mo_acts_29 M = some r) : Fr [147, 148, 149, 150, 151, 152, 153, 154] [(111, 0), (111, 1), (111, 44), (111, 45), (111, 46), (111, 47), (111, 48), (111, 49), (111, 50), (111, 51), (111, 52), (111, 53), (111, 54), (111, 55), (111, 56), (111, 57), (111, 58)] M r.2 := by
  unfold k_Mo_acts_29 at h
  have hFM : Fr [147, 148, 149, 150, 151, 152, 153, 154] [(111, 0), (111, 1), (111, 44), (111, 45), (111, 46), (111, 47), (111, 48), (111, 49), (111, 50), (111, 51), (111, 52), (111, 53), (111, 54), (111, 55), (111, 56), (111, 57), (111, 58)] M M := Fr.rfl'
  obtain ⟨v1, M2, fv1, h⟩ := bcall_e h
  have hFM2 : Fr [147, 148, 149, 150, 151, 152, 153, 154] [(111, 0), (111, 1), (111, 44), (111, 45), (111, 46), (111, 47), (111, 48), (111, 49), (111, 50), (111, 51), (111, 52), (111, 53), (111, 54), (111, 55), (111, 56), (111, 57), (111, 58)] M M2 := hFM.trans ((w_Mo_refuse fv1).mono (by simp) (by simp))
  cases h; exact hFM2
theorem w_Mo_acts {a1 a2 : Int} {M : Mem} {r : Int × Mem} (h : d_Mo_acts a1 a2 M = some r) : Fr [147, 148, 149, 150, 151, 152, 153, 154] [(111, 0), (111, 1), (111, 44), (111, 45), (111, 46), (111, 47), (111, 48), (111, 49), (111, 50), (111, 51), (111, 52), (111, 53), (111, 54), (111, 55), (111, 56), (111, 57), (111, 58)] M r.2 := by
  unfold d_Mo_acts at h
  have hFM : Fr [147, 148, 149, 150, 151, 152, 153, 154] [(111, 0), (111, 1), (111, 44), (111, 45), (111, 46), (111, 47), (111, 48), (111, 49), (111, 50), (111, 51), (111, 52), (111, 53), (111, 54), (111, 55), (111, 56), (111, 57), (111, 58)] M M := Fr.rfl'
  obtain ⟨M1, eM1, h⟩ := blet_e h
  have hFM1 : Fr [147, 148, 149, 150, 151, 152, 153, 154] [(111, 0), (111, 1), (111, 44), (111, 45), (111, 46), (111, 47), (111, 48), (111, 49), (111, 50), (111, 51), (111, 52), (111, 53), (111, 54), (111, 55), (111, 56), (111, 57), (111, 58)] M M1 := by rw [eM1]; exact hFM.stoF (by simp)
  obtain ⟨M2, eM2, h⟩ := blet_e h
  have hFM2 : Fr [147, 148, 149, 150, 151, 152, 153, 154] [(111, 0), (111, 1), (111, 44), (111, 45), (111, 46), (111, 47), (111, 48), (111, 49), (111, 50), (111, 51), (111, 52), (111, 53), (111, 54), (111, 55), (111, 56), (111, 57), (111, 58)] M M2 := by rw [eM2]; exact hFM1.stoF (by simp)
  rcases ite_e h with ⟨c3, h⟩ | ⟨c3, h⟩
  · skip
    exact hFM2.trans (w_Mo_acts_29 h)
  · skip
    obtain ⟨v4, ev4, h⟩ := blet_e h
    rcases ite_e h with ⟨c5, h⟩ | ⟨c5, h⟩
    · skip
      exact hFM2.trans (w_Mo_acts_29 h)
    · skip
      obtain ⟨v6, M7, fv6, h⟩ := bcall_e h
      have hFM7 : Fr [147, 148, 149, 150, 151, 152, 153, 154] [(111, 0), (111, 1), (111, 44), (111, 45), (111, 46), (111, 47), (111, 48), (111, 49), (111, 50), (111, 51), (111, 52), (111, 53), (111, 54), (111, 55), (111, 56), (111, 57), (111, 58)] M M7 := hFM2.trans ((w_Mo_isDay fv6).mono (by simp) (by simp))
      rcases ite_e h with ⟨c8, h⟩ | ⟨c8, h⟩
      · skip
        exact hFM7.trans (w_Mo_acts_29 h)
      · skip
        obtain ⟨v9, ev9, h⟩ := blet_e h
        rcases ite_e h with ⟨c10, h⟩ | ⟨c10, h⟩
        · skip
          obtain ⟨v11, M12, fv11, h⟩ := bcall_e h
          have hFM12 : Fr [147, 148, 149, 150, 151, 152, 153, 154] [(111, 0), (111, 1), (111, 44), (111, 45), (111, 46), (111, 47), (111, 48), (111, 49), (111, 50), (111, 51), (111, 52), (111, 53), (111, 54), (111, 55), (111, 56), (111, 57), (111, 58)] M M12 := hFM7.trans ((w_Mo_refuse fv11).mono (by simp) (by simp))
          cases h; exact hFM12
        · skip
          obtain ⟨M13, eM13, h⟩ := blet_e h
          have hFM13 : Fr [147, 148, 149, 150, 151, 152, 153, 154] [(111, 0), (111, 1), (111, 44), (111, 45), (111, 46), (111, 47), (111, 48), (111, 49), (111, 50), (111, 51), (111, 52), (111, 53), (111, 54), (111, 55), (111, 56), (111, 57), (111, 58)] M M13 := by rw [eM13]; exact hFM7.stoF (by simp)
          obtain ⟨M14, eM14, h⟩ := blet_e h
          have hFM14 : Fr [147, 148, 149, 150, 151, 152, 153, 154] [(111, 0), (111, 1), (111, 44), (111, 45), (111, 46), (111, 47), (111, 48), (111, 49), (111, 50), (111, 51), (111, 52), (111, 53), (111, 54), (111, 55), (111, 56), (111, 57), (111, 58)] M M14 := by rw [eM14]; exact hFM13.stoF (by simp)
          obtain ⟨M15, eM15, h⟩ := blet_e h
          have hFM15 : Fr [147, 148, 149, 150, 151, 152, 153, 154] [(111, 0), (111, 1), (111, 44), (111, 45), (111, 46), (111, 47), (111, 48), (111, 49), (111, 50), (111, 51), (111, 52), (111, 53), (111, 54), (111, 55), (111, 56), (111, 57), (111, 58)] M M15 := by rw [eM15]; exact hFM14.stoF (by simp)
          obtain ⟨M16, eM16, h⟩ := blet_e h
          have hFM16 : Fr [147, 148, 149, 150, 151, 152, 153, 154] [(111, 0), (111, 1), (111, 44), (111, 45), (111, 46), (111, 47), (111, 48), (111, 49), (111, 50), (111, 51), (111, 52), (111, 53), (111, 54), (111, 55), (111, 56), (111, 57), (111, 58)] M M16 := by rw [eM16]; exact hFM15.stoF (by simp)
          obtain ⟨M17, eM17, h⟩ := blet_e h
          have hFM17 : Fr [147, 148, 149, 150, 151, 152, 153, 154] [(111, 0), (111, 1), (111, 44), (111, 45), (111, 46), (111, 47), (111, 48), (111, 49), (111, 50), (111, 51), (111, 52), (111, 53), (111, 54), (111, 55), (111, 56), (111, 57), (111, 58)] M M17 := by rw [eM17]; exact hFM16.stoF (by simp)
          obtain ⟨M18, eM18, h⟩ := blet_e h
          have hFM18 : Fr [147, 148, 149, 150, 151, 152, 153, 154] [(111, 0), (111, 1), (111, 44), (111, 45), (111, 46), (111, 47), (111, 48), (111, 49), (111, 50), (111, 51), (111, 52), (111, 53), (111, 54), (111, 55), (111, 56), (111, 57), (111, 58)] M M18 := by rw [eM18]; exact hFM17.stoF (by simp)
          obtain ⟨M19, eM19, h⟩ := blet_e h
          have hFM19 : Fr [147, 148, 149, 150, 151, 152, 153, 154] [(111, 0), (111, 1), (111, 44), (111, 45), (111, 46), (111, 47), (111, 48), (111, 49), (111, 50), (111, 51), (111, 52), (111, 53), (111, 54), (111, 55), (111, 56), (111, 57), (111, 58)] M M19 := by rw [eM19]; exact hFM18.stoA (by simp)
          obtain ⟨v20, M21, fv20, h⟩ := bcall_e h
          have hFM21 : Fr [147, 148, 149, 150, 151, 152, 153, 154] [(111, 0), (111, 1), (111, 44), (111, 45), (111, 46), (111, 47), (111, 48), (111, 49), (111, 50), (111, 51), (111, 52), (111, 53), (111, 54), (111, 55), (111, 56), (111, 57), (111, 58)] M M21 := hFM19.trans ((w_Mo_next fv20).mono (by simp) (by simp))
          exact hFM21.trans (wl_Mo_acts_91 FU a2 M21 r h)
theorem w_Mo_fault {a1 : Int} {M : Mem} {r : Int × Mem} (h : d_Mo_fault a1 M = some r) : Fr [] [(111, 1)] M r.2 := by
  unfold d_Mo_fault at h
  have hFM : Fr [] [(111, 1)] M M := Fr.rfl'
  obtain ⟨M1, eM1, h⟩ := blet_e h
  have hFM1 : Fr [] [(111, 1)] M M1 := by rw [eM1]; exact hFM.stoF (by simp)
  rcases ite_e h with ⟨c2, h⟩ | ⟨c2, h⟩
  · skip
    obtain ⟨v3, ev3, h⟩ := blet_e h
    cases h; exact hFM1
  · skip
    rcases ite_e h with ⟨c4, h⟩ | ⟨c4, h⟩
    · skip
      obtain ⟨v5, ev5, h⟩ := blet_e h
      cases h; exact hFM1
    · skip
      cases h; exact hFM1
theorem w_Mo_came_81 {R6 : Int → Int → Int → Int → Int → Mem → Res} (hR6 : ∀ (a1 a2 a3 a4 a6 : Int) (M : Mem) (r : Int × Mem), R6 a1 a2 a3 a4 a6 M = some r → Fr [] [] M r.2) {a1 a2 a3 a4 a6 : Int} {M : Mem} {r : Int × Mem} (h : k_Mo_came_81 R6 a1 a2 a3 a4 a6 M = some r) : Fr [] [] M r.2 := by
  unfold k_Mo_came_81 at h
  have hFM : Fr [] [] M M := Fr.rfl'
  obtain ⟨v1, ev1, h⟩ := blet_e h
  exact hFM.trans (hR6 a1 a2 a3 a4 v1 M r h)
theorem w_Mo_came_6 {R6 : Int → Int → Int → Int → Int → Mem → Res} (hR6 : ∀ (a1 a2 a3 a4 a6 : Int) (M : Mem) (r : Int × Mem), R6 a1 a2 a3 a4 a6 M = some r → Fr [] [] M r.2) {a1 a2 a3 a4 a6 : Int} {M : Mem} {r : Int × Mem} (h : k_Mo_came_6 R6 a1 a2 a3 a4 a6 M = some r) : Fr [] [] M r.2 := by
  unfold k_Mo_came_6 at h
  have hFM : Fr [] [] M M := Fr.rfl'
  obtain ⟨v1, ev1, h⟩ := blet_e h
  rcases ite_e h with ⟨c2, h⟩ | ⟨c2, h⟩
  · skip
    obtain ⟨c3, h⟩ := chk_e h
    obtain ⟨v4, ev4, h⟩ := blet_e h
    rcases ite_e h with ⟨c5, h⟩ | ⟨c5, h⟩
    · skip
      exact hFM.trans (w_Mo_came_81 hR6 h)
    · skip
      obtain ⟨c6, h⟩ := chk_e h
      obtain ⟨v7, ev7, h⟩ := blet_e h
      rcases ite_e h with ⟨c8, h⟩ | ⟨c8, h⟩
      · skip
        obtain ⟨c9, h⟩ := chk_e h
        obtain ⟨v10, ev10, h⟩ := blet_e h
        rcases ite_e h with ⟨c11, h⟩ | ⟨c11, h⟩
        · skip
          obtain ⟨c12, h⟩ := chk_e h
          obtain ⟨v13, ev13, h⟩ := blet_e h
          rcases ite_e h with ⟨c14, h⟩ | ⟨c14, h⟩
          · skip
            obtain ⟨c15, h⟩ := chk_e h
            obtain ⟨v16, ev16, h⟩ := blet_e h
            obtain ⟨c17, h⟩ := chk_e h
            obtain ⟨v18, ev18, h⟩ := blet_e h
            obtain ⟨v19, ev19, h⟩ := blet_e h
            exact hFM.trans (w_Mo_came_81 hR6 h)
          · skip
            exact hFM.trans (w_Mo_came_81 hR6 h)
        · skip
          exact hFM.trans (w_Mo_came_81 hR6 h)
      · skip
        exact hFM.trans (w_Mo_came_81 hR6 h)
  · skip
    cases h; exact hFM
theorem wl_Mo_came_6  : ∀ (n : Nat) (a1 a2 a3 a4 a6 : Int) (M : Mem) (r : Int × Mem), fix (fun _ _ _ _ _ _ => none) (k_Mo_came_6) n a1 a2 a3 a4 a6 M = some r → Fr [] [] M r.2 := by
  intro n
  induction n with
  | zero => intro a1 a2 a3 a4 a6 M r h; exact nomatch (show (none : Res) = some r from h)
  | succ n ih => intro a1 a2 a3 a4 a6 M r h; exact w_Mo_came_6 ih h
theorem w_Mo_came {a1 a2 a3 : Int} {M : Mem} {r : Int × Mem} (h : d_Mo_came a1 a2 a3 M = some r) : Fr [] [] M r.2 := by
  unfold d_Mo_came at h
  have hFM : Fr [] [] M M := Fr.rfl'
  exact hFM.trans (wl_Mo_came_6 FU a1 a2 a3 0 0 M r h)
theorem w_Mo_ofYear {a1 a3 a4 : Int} {M : Mem} {r : Int × Mem} (h : d_Mo_ofYear a1 a3 a4 M = some r) : Fr [155, 156, 157, 158, 159] [(111, 72), (111, 108)] M r.2 := by
  unfold d_Mo_ofYear at h
  have hFM : Fr [155, 156, 157, 158, 159] [(111, 72), (111, 108)] M M := Fr.rfl'
  obtain ⟨v1, M2, fv1, h⟩ := bcall_e h
  have hFM2 : Fr [155, 156, 157, 158, 159] [(111, 72), (111, 108)] M M2 := hFM.trans ((w_Mo_letNothing fv1).mono (by simp) (by simp))
  obtain ⟨M3, eM3, h⟩ := blet_e h
  have hFM3 : Fr [155, 156, 157, 158, 159] [(111, 72), (111, 108)] M M3 := by rw [eM3]; exact hFM2.stoA (by simp)
  obtain ⟨M4, eM4, h⟩ := blet_e h
  have hFM4 : Fr [155, 156, 157, 158, 159] [(111, 72), (111, 108)] M M4 := by rw [eM4]; exact hFM3.stoA (by simp)
  obtain ⟨v5, M6, fv5, h⟩ := bcall_e h
  have hFM6 : Fr [155, 156, 157, 158, 159] [(111, 72), (111, 108)] M M6 := hFM4.trans ((w_Mo_told fv5).mono (by simp) (by simp))
  obtain ⟨v7, M8, fv7, h⟩ := bcall_e h
  have hFM8 : Fr [155, 156, 157, 158, 159] [(111, 72), (111, 108)] M M8 := hFM6.trans ((w_Mo_cut1 fv7).mono (by simp) (by simp))
  cases h; exact hFM8
theorem w_Mo_kept {a1 a2 a3 : Int} {M : Mem} {r : Int × Mem} (h : d_Mo_kept a1 a2 a3 M = some r) : Fr [155, 156, 157, 158, 159] [(111, 72), (111, 108)] M r.2 := by
  unfold d_Mo_kept at h
  have hFM : Fr [155, 156, 157, 158, 159] [(111, 72), (111, 108)] M M := Fr.rfl'
  obtain ⟨v1, M2, fv1, h⟩ := bcall_e h
  have hFM2 : Fr [155, 156, 157, 158, 159] [(111, 72), (111, 108)] M M2 := hFM.trans ((w_Mo_came fv1).mono (by simp) (by simp))
  obtain ⟨v3, M4, fv3, h⟩ := bcall_e h
  have hFM4 : Fr [155, 156, 157, 158, 159] [(111, 72), (111, 108)] M M4 := hFM2.trans ((w_Mo_spelled fv3).mono (by simp) (by simp))
  obtain ⟨v5, M6, fv5, h⟩ := bcall_e h
  have hFM6 : Fr [155, 156, 157, 158, 159] [(111, 72), (111, 108)] M M6 := hFM4.trans ((w_Mo_ofYear fv5).mono (by simp) (by simp))
  cases h; exact hFM6
theorem w_Mo_bring_135 {R30 : Int → Int → Int → Int → Int → Mem → Res} (hR30 : ∀ (a1 a2 a3 a4 a6 : Int) (M : Mem) (r : Int × Mem), R30 a1 a2 a3 a4 a6 M = some r → Fr [160] [] M r.2) {a1 a2 a3 a4 a6 : Int} {M : Mem} {r : Int × Mem} (h : k_Mo_bring_135 R30 a1 a2 a3 a4 a6 M = some r) : Fr [160] [] M r.2 := by
  unfold k_Mo_bring_135 at h
  have hFM : Fr [160] [] M M := Fr.rfl'
  obtain ⟨v1, ev1, h⟩ := blet_e h
  exact hFM.trans (hR30 a1 a2 a3 a4 v1 M r h)
theorem w_Mo_bring_30 {R30 : Int → Int → Int → Int → Int → Mem → Res} (hR30 : ∀ (a1 a2 a3 a4 a6 : Int) (M : Mem) (r : Int × Mem), R30 a1 a2 a3 a4 a6 M = some r → Fr [160] [] M r.2) {a1 a2 a3 a4 a6 : Int} {M : Mem} {r : Int × Mem} (h : k_Mo_bring_30 R30 a1 a2 a3 a4 a6 M = some r) : Fr [160] [] M r.2 := by
  unfold k_Mo_bring_30 at h
  have hFM : Fr [160] [] M M := Fr.rfl'
  obtain ⟨v1, ev1, h⟩ := blet_e h
  rcases ite_e h with ⟨c2, h⟩ | ⟨c2, h⟩
  · skip
    obtain ⟨c3, h⟩ := chk_e h
    obtain ⟨v4, ev4, h⟩ := blet_e h
    rcases ite_e h with ⟨c5, h⟩ | ⟨c5, h⟩
    · skip
      exact hFM.trans (w_Mo_bring_135 hR30 h)
    · skip
      obtain ⟨c6, h⟩ := chk_e h
      obtain ⟨v7, ev7, h⟩ := blet_e h
      rcases ite_e h with ⟨c8, h⟩ | ⟨c8, h⟩
      · skip
        obtain ⟨c9, h⟩ := chk_e h
        obtain ⟨v10, ev10, h⟩ := blet_e h
        rcases ite_e h with ⟨c11, h⟩ | ⟨c11, h⟩
        · skip
          obtain ⟨c12, h⟩ := chk_e h
          obtain ⟨v13, ev13, h⟩ := blet_e h
          rcases ite_e h with ⟨c14, h⟩ | ⟨c14, h⟩
          · skip
            obtain ⟨c15, h⟩ := chk_e h
            obtain ⟨v16, ev16, h⟩ := blet_e h
            obtain ⟨c17, h⟩ := chk_e h
            obtain ⟨v18, ev18, h⟩ := blet_e h
            obtain ⟨v19, M20, fv19, h⟩ := bcall_e h
            have hFM20 : Fr [160] [] M M20 := hFM.trans ((w_Mo_net fv19).mono (by simp) (by simp))
            obtain ⟨c21, h⟩ := chk_e h
            obtain ⟨v22, ev22, h⟩ := blet_e h
            obtain ⟨c23, h⟩ := chk_e h
            obtain ⟨M24, eM24, h⟩ := blet_e h
            have hFM24 : Fr [160] [] M M24 := by rw [eM24]; exact hFM20.stoA (by simp)
            obtain ⟨v25, M26, fv25, h⟩ := bcall_e h
            have hFM26 : Fr [160] [] M M26 := hFM24.trans ((w_Mo_net fv25).mono (by simp) (by simp))
            obtain ⟨c27, h⟩ := chk_e h
            obtain ⟨v28, ev28, h⟩ := blet_e h
            obtain ⟨v29, ev29, h⟩ := blet_e h
            exact hFM26.trans (w_Mo_bring_135 hR30 h)
          · skip
            exact hFM.trans (w_Mo_bring_135 hR30 h)
        · skip
          exact hFM.trans (w_Mo_bring_135 hR30 h)
      · skip
        exact hFM.trans (w_Mo_bring_135 hR30 h)
  · skip
    cases h; exact hFM
theorem wl_Mo_bring_30  : ∀ (n : Nat) (a1 a2 a3 a4 a6 : Int) (M : Mem) (r : Int × Mem), fix (fun _ _ _ _ _ _ => none) (k_Mo_bring_30) n a1 a2 a3 a4 a6 M = some r → Fr [160] [] M r.2 := by
  intro n
  induction n with
  | zero => intro a1 a2 a3 a4 a6 M r h; exact nomatch (show (none : Res) = some r from h)
  | succ n ih => intro a1 a2 a3 a4 a6 M r h; exact w_Mo_bring_30 ih h
theorem w_Mo_bring_6 {R6 : Int → Int → Int → Int → Int → Mem → Res} (hR6 : ∀ (a1 a2 a3 a4 a6 : Int) (M : Mem) (r : Int × Mem), R6 a1 a2 a3 a4 a6 M = some r → Fr [160] [] M r.2) {a1 a2 a3 a4 a6 : Int} {M : Mem} {r : Int × Mem} (h : k_Mo_bring_6 R6 a1 a2 a3 a4 a6 M = some r) : Fr [160] [] M r.2 := by
  unfold k_Mo_bring_6 at h
  have hFM : Fr [160] [] M M := Fr.rfl'
  rcases ite_e h with ⟨c1, h⟩ | ⟨c1, h⟩
  · skip
    obtain ⟨c2, h⟩ := chk_e h
    obtain ⟨M3, eM3, h⟩ := blet_e h
    have hFM3 : Fr [160] [] M M3 := by rw [eM3]; exact hFM.stoA (by simp)
    obtain ⟨v4, ev4, h⟩ := blet_e h
    exact hFM3.trans (hR6 a1 a2 a3 a4 v4 M3 r h)
  · skip
    exact hFM.trans (wl_Mo_bring_30 FU a1 a2 a3 a4 0 M r h)
theorem wl_Mo_bring_6  : ∀ (n : Nat) (a1 a2 a3 a4 a6 : Int) (M : Mem) (r : Int × Mem), fix (fun _ _ _ _ _ _ => none) (k_Mo_bring_6) n a1 a2 a3 a4 a6 M = some r → Fr [160] [] M r.2 := by
  intro n
  induction n with
  | zero => intro a1 a2 a3 a4 a6 M r h; exact nomatch (show (none : Res) = some r from h)
  | succ n ih => intro a1 a2 a3 a4 a6 M r h; exact w_Mo_bring_6 ih h
theorem w_Mo_bring {a1 a2 a3 : Int} {M : Mem} {r : Int × Mem} (h : d_Mo_bring a1 a2 a3 M = some r) : Fr [160] [] M r.2 := by
  unfold d_Mo_bring at h
  have hFM : Fr [160] [] M M := Fr.rfl'
  exact hFM.trans (wl_Mo_bring_6 FU a1 a2 a3 0 0 M r h)
theorem w_Mo_paid_51  {M : Mem} {r : Int × Mem} (h : k_Mo_paid_51 M = some r) : Fr [134, 135, 136, 137, 138, 139, 140, 141, 142, 143, 144, 145, 155, 156, 157, 158, 159, 160] [(111, 0), (111, 1), (111, 39), (111, 72), (111, 108)] M r.2 := by
  unfold k_Mo_paid_51 at h
  have hFM : Fr [134, 135, 136, 137, 138, 139, 140, 141, 142, 143, 144, 145, 155, 156, 157, 158, 159, 160] [(111, 0), (111, 1), (111, 39), (111, 72), (111, 108)] M M := Fr.rfl'
  obtain ⟨v1, M2, fv1, h⟩ := bcall_e h
  have hFM2 : Fr [134, 135, 136, 137, 138, 139, 140, 141, 142, 143, 144, 145, 155, 156, 157, 158, 159, 160] [(111, 0), (111, 1), (111, 39), (111, 72), (111, 108)] M M2 := hFM.trans ((w_Mo_refuse fv1).mono (by simp) (by simp))
  cases h; exact hFM2
theorem w_Mo_paid {a1 a2 a3 a4 : Int} {M : Mem} {r : Int × Mem} (h : d_Mo_paid a1 a2 a3 a4 M = some r) : Fr [134, 135, 136, 137, 138, 139, 140, 141, 142, 143, 144, 145, 155, 156, 157, 158, 159, 160] [(111, 0), (111, 1), (111, 39), (111, 72), (111, 108)] M r.2 := by
  unfold d_Mo_paid at h
  have hFM : Fr [134, 135, 136, 137, 138, 139, 140, 141, 142, 143, 144, 145, 155, 156, 157, 158, 159, 160] [(111, 0), (111, 1), (111, 39), (111, 72), (111, 108)] M M := Fr.rfl'
  obtain ⟨M1, eM1, h⟩ := blet_e h
  have hFM1 : Fr [134, 135, 136, 137, 138, 139, 140, 141, 142, 143, 144, 145, 155, 156, 157, 158, 159, 160] [(111, 0), (111, 1), (111, 39), (111, 72), (111, 108)] M M1 := by rw [eM1]; exact hFM.stoF (by simp)
  obtain ⟨M2, eM2, h⟩ := blet_e h
  have hFM2 : Fr [134, 135, 136, 137, 138, 139, 140, 141, 142, 143, 144, 145, 155, 156, 157, 158, 159, 160] [(111, 0), (111, 1), (111, 39), (111, 72), (111, 108)] M M2 := by rw [eM2]; exact hFM1.stoF (by simp)
  obtain ⟨v3, M4, fv3, h⟩ := bcall_e h
  have hFM4 : Fr [134, 135, 136, 137, 138, 139, 140, 141, 142, 143, 144, 145, 155, 156, 157, 158, 159, 160] [(111, 0), (111, 1), (111, 39), (111, 72), (111, 108)] M M4 := hFM2.trans ((w_Mo_isGrade fv3).mono (by simp) (by simp))
  rcases ite_e h with ⟨c5, h⟩ | ⟨c5, h⟩
  · skip
    obtain ⟨v6, M7, fv6, h⟩ := bcall_e h
    have hFM7 : Fr [134, 135, 136, 137, 138, 139, 140, 141, 142, 143, 144, 145, 155, 156, 157, 158, 159, 160] [(111, 0), (111, 1), (111, 39), (111, 72), (111, 108)] M M7 := hFM4.trans ((w_Mo_refuse fv6).mono (by simp) (by simp))
    cases h; exact hFM7
  · skip
    obtain ⟨v8, M9, fv8, h⟩ := bcall_e h
    have hFM9 : Fr [134, 135, 136, 137, 138, 139, 140, 141, 142, 143, 144, 145, 155, 156, 157, 158, 159, 160] [(111, 0), (111, 1), (111, 39), (111, 72), (111, 108)] M M9 := hFM4.trans ((w_Mo_isYear fv8).mono (by simp) (by simp))
    rcases ite_e h with ⟨c10, h⟩ | ⟨c10, h⟩
    · skip
      exact hFM9.trans (w_Mo_paid_51 h)
    · skip
      obtain ⟨v11, M12, fv11, h⟩ := bcall_e h
      have hFM12 : Fr [134, 135, 136, 137, 138, 139, 140, 141, 142, 143, 144, 145, 155, 156, 157, 158, 159, 160] [(111, 0), (111, 1), (111, 39), (111, 72), (111, 108)] M M12 := hFM9.trans ((w_Mo_isIn fv11).mono (by simp) (by simp))
      rcases ite_e h with ⟨c13, h⟩ | ⟨c13, h⟩
      · skip
        exact hFM12.trans (w_Mo_paid_51 h)
      · skip
        obtain ⟨v14, M15, fv14, h⟩ := bcall_e h
        have hFM15 : Fr [134, 135, 136, 137, 138, 139, 140, 141, 142, 143, 144, 145, 155, 156, 157, 158, 159, 160] [(111, 0), (111, 1), (111, 39), (111, 72), (111, 108)] M M15 := hFM12.trans ((w_Mo_isDay fv14).mono (by simp) (by simp))
        rcases ite_e h with ⟨c16, h⟩ | ⟨c16, h⟩
        · skip
          exact hFM15.trans (w_Mo_paid_51 h)
        · skip
          obtain ⟨v17, M18, fv17, h⟩ := bcall_e h
          have hFM18 : Fr [134, 135, 136, 137, 138, 139, 140, 141, 142, 143, 144, 145, 155, 156, 157, 158, 159, 160] [(111, 0), (111, 1), (111, 39), (111, 72), (111, 108)] M M18 := hFM15.trans ((w_Mo_play fv17).mono (by simp) (by simp))
          rcases ite_e h with ⟨c19, h⟩ | ⟨c19, h⟩
          · skip
            obtain ⟨v20, M21, fv20, h⟩ := bcall_e h
            have hFM21 : Fr [134, 135, 136, 137, 138, 139, 140, 141, 142, 143, 144, 145, 155, 156, 157, 158, 159, 160] [(111, 0), (111, 1), (111, 39), (111, 72), (111, 108)] M M21 := hFM18.trans ((w_Mo_came fv20).mono (by simp) (by simp))
            cases h; exact hFM21
          · skip
            rcases ite_e h with ⟨c22, h⟩ | ⟨c22, h⟩
            · skip
              obtain ⟨v23, M24, fv23, h⟩ := bcall_e h
              have hFM24 : Fr [134, 135, 136, 137, 138, 139, 140, 141, 142, 143, 144, 145, 155, 156, 157, 158, 159, 160] [(111, 0), (111, 1), (111, 39), (111, 72), (111, 108)] M M24 := hFM18.trans ((w_Mo_kept fv23).mono (by simp) (by simp))
              cases h; exact hFM24
            · skip
              obtain ⟨v25, M26, fv25, h⟩ := bcall_e h
              have hFM26 : Fr [134, 135, 136, 137, 138, 139, 140, 141, 142, 143, 144, 145, 155, 156, 157, 158, 159, 160] [(111, 0), (111, 1), (111, 39), (111, 72), (111, 108)] M M26 := hFM18.trans ((w_Mo_bring fv25).mono (by simp) (by simp))
              cases h; exact hFM26
theorem w_Mo_asksFarm_26  {M : Mem} {r : Int × Mem} (h : k_Mo_asksFarm_26 M = some r) : Fr [] [] M r.2 := by
  unfold k_Mo_asksFarm_26 at h
  have hFM : Fr [] [] M M := Fr.rfl'
  cases h; exact hFM
theorem w_Mo_asksFarm {a1 a2 a3 : Int} {M : Mem} {r : Int × Mem} (h : d_Mo_asksFarm a1 a2 a3 M = some r) : Fr [] [] M r.2 := by
  unfold d_Mo_asksFarm at h
  have hFM : Fr [] [] M M := Fr.rfl'
  obtain ⟨v1, M2, fv1, h⟩ := bcall_e h
  have hFM2 : Fr [] [] M M2 := hFM.trans ((w_Mo_isFarm fv1).mono (by simp) (by simp))
  rcases ite_e h with ⟨c3, h⟩ | ⟨c3, h⟩
  · skip
    cases h; exact hFM2
  · skip
    obtain ⟨v4, M5, fv4, h⟩ := bcall_e h
    have hFM5 : Fr [] [] M M5 := hFM2.trans ((w_Mo_isYear fv4).mono (by simp) (by simp))
    rcases ite_e h with ⟨c6, h⟩ | ⟨c6, h⟩
    · skip
      exact hFM5.trans (w_Mo_asksFarm_26 h)
    · skip
      obtain ⟨v7, M8, fv7, h⟩ := bcall_e h
      have hFM8 : Fr [] [] M M8 := hFM5.trans ((w_Mo_isDay fv7).mono (by simp) (by simp))
      rcases ite_e h with ⟨c9, h⟩ | ⟨c9, h⟩
      · skip
        exact hFM8.trans (w_Mo_asksFarm_26 h)
      · skip
        cases h; exact hFM8
theorem w_Mo_pay_309 {R309 : Int → Mem → Res} (hR309 : ∀ (a5 : Int) (M : Mem) (r : Int × Mem), R309 a5 M = some r → Fr [134, 135, 136, 137, 138, 139, 140, 141, 142, 143, 144, 145, 155, 156, 157, 158, 159, 160, 161, 162, 163] [(111, 39), (111, 72), (111, 77), (111, 78), (111, 108)] M r.2) {a5 : Int} {M : Mem} {r : Int × Mem} (h : k_Mo_pay_309 R309 a5 M = some r) : Fr [134, 135, 136, 137, 138, 139, 140, 141, 142, 143, 144, 145, 155, 156, 157, 158, 159, 160, 161, 162, 163] [(111, 39), (111, 72), (111, 77), (111, 78), (111, 108)] M r.2 := by
  unfold k_Mo_pay_309 at h
  have hFM : Fr [134, 135, 136, 137, 138, 139, 140, 141, 142, 143, 144, 145, 155, 156, 157, 158, 159, 160, 161, 162, 163] [(111, 39), (111, 72), (111, 77), (111, 78), (111, 108)] M M := Fr.rfl'
  obtain ⟨v1, ev1, h⟩ := blet_e h
  rcases ite_e h with ⟨c2, h⟩ | ⟨c2, h⟩
  · skip
    obtain ⟨c3, h⟩ := chk_e h
    obtain ⟨v4, ev4, h⟩ := blet_e h
    obtain ⟨c5, h⟩ := chk_e h
    obtain ⟨M6, eM6, h⟩ := blet_e h
    have hFM6 : Fr [134, 135, 136, 137, 138, 139, 140, 141, 142, 143, 144, 145, 155, 156, 157, 158, 159, 160, 161, 162, 163] [(111, 39), (111, 72), (111, 77), (111, 78), (111, 108)] M M6 := by rw [eM6]; exact hFM.stoA (by simp)
    obtain ⟨v7, ev7, h⟩ := blet_e h
    exact hFM6.trans (hR309 v7 M6 r h)
  · skip
    cases h; exact hFM
theorem wl_Mo_pay_309  : ∀ (n : Nat) (a5 : Int) (M : Mem) (r : Int × Mem), fix (fun _ _ => none) (k_Mo_pay_309) n a5 M = some r → Fr [134, 135, 136, 137, 138, 139, 140, 141, 142, 143, 144, 145, 155, 156, 157, 158, 159, 160, 161, 162, 163] [(111, 39), (111, 72), (111, 77), (111, 78), (111, 108)] M r.2 := by
  intro n
  induction n with
  | zero => intro a5 M r h; exact nomatch (show (none : Res) = some r from h)
  | succ n ih => intro a5 M r h; exact w_Mo_pay_309 ih h
theorem w_Mo_pay_208 {R208 : Int → Int → Int → Mem → Res} (hR208 : ∀ (a1 a3 a5 : Int) (M : Mem) (r : Int × Mem), R208 a1 a3 a5 M = some r → Fr [134, 135, 136, 137, 138, 139, 140, 141, 142, 143, 144, 145, 155, 156, 157, 158, 159, 160, 161, 162, 163] [(111, 39), (111, 72), (111, 77), (111, 78), (111, 108)] M r.2) {a1 a3 a5 : Int} {M : Mem} {r : Int × Mem} (h : k_Mo_pay_208 R208 a1 a3 a5 M = some r) : Fr [134, 135, 136, 137, 138, 139, 140, 141, 142, 143, 144, 145, 155, 156, 157, 158, 159, 160, 161, 162, 163] [(111, 39), (111, 72), (111, 77), (111, 78), (111, 108)] M r.2 := by
  unfold k_Mo_pay_208 at h
  have hFM : Fr [134, 135, 136, 137, 138, 139, 140, 141, 142, 143, 144, 145, 155, 156, 157, 158, 159, 160, 161, 162, 163] [(111, 39), (111, 72), (111, 77), (111, 78), (111, 108)] M M := Fr.rfl'
  rcases ite_e h with ⟨c1, h⟩ | ⟨c1, h⟩
  · skip
    obtain ⟨c2, h⟩ := chk_e h
    obtain ⟨v3, ev3, h⟩ := blet_e h
    obtain ⟨v4, ev4, h⟩ := blet_e h
    obtain ⟨c5, h⟩ := chk_e h
    obtain ⟨v6, ev6, h⟩ := blet_e h
    obtain ⟨c7, h⟩ := chk_e h
    obtain ⟨M8, eM8, h⟩ := blet_e h
    have hFM8 : Fr [134, 135, 136, 137, 138, 139, 140, 141, 142, 143, 144, 145, 155, 156, 157, 158, 159, 160, 161, 162, 163] [(111, 39), (111, 72), (111, 77), (111, 78), (111, 108)] M M8 := by rw [eM8]; exact hFM.stoA (by simp)
    obtain ⟨v9, ev9, h⟩ := blet_e h
    exact hFM8.trans (hR208 a1 v4 v9 M8 r h)
  · skip
    obtain ⟨M10, eM10, h⟩ := blet_e h
    have hFM10 : Fr [134, 135, 136, 137, 138, 139, 140, 141, 142, 143, 144, 145, 155, 156, 157, 158, 159, 160, 161, 162, 163] [(111, 39), (111, 72), (111, 77), (111, 78), (111, 108)] M M10 := by rw [eM10]; exact hFM.stoF (by simp)
    obtain ⟨v11, ev11, h⟩ := blet_e h
    obtain ⟨v12, M13, fv12, h⟩ := bcall_e h
    have hFM13 : Fr [134, 135, 136, 137, 138, 139, 140, 141, 142, 143, 144, 145, 155, 156, 157, 158, 159, 160, 161, 162, 163] [(111, 39), (111, 72), (111, 77), (111, 78), (111, 108)] M M13 := hFM10.trans ((w_Mo_spelled fv12).mono (by simp) (by simp))
    obtain ⟨v14, M15, fv14, h⟩ := bcall_e h
    have hFM15 : Fr [134, 135, 136, 137, 138, 139, 140, 141, 142, 143, 144, 145, 155, 156, 157, 158, 159, 160, 161, 162, 163] [(111, 39), (111, 72), (111, 77), (111, 78), (111, 108)] M M15 := hFM13.trans ((w_Mo_ofYear fv14).mono (by simp) (by simp))
    obtain ⟨M16, eM16, h⟩ := blet_e h
    have hFM16 : Fr [134, 135, 136, 137, 138, 139, 140, 141, 142, 143, 144, 145, 155, 156, 157, 158, 159, 160, 161, 162, 163] [(111, 39), (111, 72), (111, 77), (111, 78), (111, 108)] M M16 := by rw [eM16]; exact hFM15.stoF (by simp)
    obtain ⟨v17, ev17, h⟩ := blet_e h
    obtain ⟨v18, ev18, h⟩ := blet_e h
    obtain ⟨v19, M20, fv19, h⟩ := bcall_e h
    have hFM20 : Fr [134, 135, 136, 137, 138, 139, 140, 141, 142, 143, 144, 145, 155, 156, 157, 158, 159, 160, 161, 162, 163] [(111, 39), (111, 72), (111, 77), (111, 78), (111, 108)] M M20 := hFM16.trans ((w_Mo_parts fv19).mono (by simp) (by simp))
    exact hFM20.trans (wl_Mo_pay_309 FU 0 M20 r h)
theorem wl_Mo_pay_208  : ∀ (n : Nat) (a1 a3 a5 : Int) (M : Mem) (r : Int × Mem), fix (fun _ _ _ _ => none) (k_Mo_pay_208) n a1 a3 a5 M = some r → Fr [134, 135, 136, 137, 138, 139, 140, 141, 142, 143, 144, 145, 155, 156, 157, 158, 159, 160, 161, 162, 163] [(111, 39), (111, 72), (111, 77), (111, 78), (111, 108)] M r.2 := by
  intro n
  induction n with
  | zero => intro a1 a3 a5 M r h; exact nomatch (show (none : Res) = some r from h)
  | succ n ih => intro a1 a3 a5 M r h; exact w_Mo_pay_208 ih h
theorem w_Mo_pay_134 {R42 : Int → Int → Int → Mem → Res} {R134 : Int → Int → Int → Int → Int → Mem → Res} (hR42 : ∀ (a1 a2 a3 : Int) (M : Mem) (r : Int × Mem), R42 a1 a2 a3 M = some r → Fr [134, 135, 136, 137, 138, 139, 140, 141, 142, 143, 144, 145, 155, 156, 157, 158, 159, 160, 161, 162, 163] [(111, 39), (111, 72), (111, 77), (111, 78), (111, 108)] M r.2) (hR134 : ∀ (a1 a2 a3 a6 a8 : Int) (M : Mem) (r : Int × Mem), R134 a1 a2 a3 a6 a8 M = some r → Fr [134, 135, 136, 137, 138, 139, 140, 141, 142, 143, 144, 145, 155, 156, 157, 158, 159, 160, 161, 162, 163] [(111, 39), (111, 72), (111, 77), (111, 78), (111, 108)] M r.2) {a1 a2 a3 a6 a8 : Int} {M : Mem} {r : Int × Mem} (h : k_Mo_pay_134 R42 R134 a1 a2 a3 a6 a8 M = some r) : Fr [134, 135, 136, 137, 138, 139, 140, 141, 142, 143, 144, 145, 155, 156, 157, 158, 159, 160, 161, 162, 163] [(111, 39), (111, 72), (111, 77), (111, 78), (111, 108)] M r.2 := by
  unfold k_Mo_pay_134 at h
  have hFM : Fr [134, 135, 136, 137, 138, 139, 140, 141, 142, 143, 144, 145, 155, 156, 157, 158, 159, 160, 161, 162, 163] [(111, 39), (111, 72), (111, 77), (111, 78), (111, 108)] M M := Fr.rfl'
  obtain ⟨v1, ev1, h⟩ := blet_e h
  rcases ite_e h with ⟨c2, h⟩ | ⟨c2, h⟩
  · skip
    obtain ⟨c3, h⟩ := chk_e h
    obtain ⟨v4, ev4, h⟩ := blet_e h
    obtain ⟨c5, h⟩ := chk_e h
    obtain ⟨v6, ev6, h⟩ := blet_e h
    obtain ⟨c7, h⟩ := chk_e h
    obtain ⟨M8, eM8, h⟩ := blet_e h
    have hFM8 : Fr [134, 135, 136, 137, 138, 139, 140, 141, 142, 143, 144, 145, 155, 156, 157, 158, 159, 160, 161, 162, 163] [(111, 39), (111, 72), (111, 77), (111, 78), (111, 108)] M M8 := by rw [eM8]; exact hFM.stoA (by simp)
    obtain ⟨c9, h⟩ := chk_e h
    obtain ⟨v10, ev10, h⟩ := blet_e h
    obtain ⟨c11, h⟩ := chk_e h
    obtain ⟨v12, ev12, h⟩ := blet_e h
    obtain ⟨c13, h⟩ := chk_e h
    obtain ⟨v14, ev14, h⟩ := blet_e h
    obtain ⟨c15, h⟩ := chk_e h
    obtain ⟨M16, eM16, h⟩ := blet_e h
    have hFM16 : Fr [134, 135, 136, 137, 138, 139, 140, 141, 142, 143, 144, 145, 155, 156, 157, 158, 159, 160, 161, 162, 163] [(111, 39), (111, 72), (111, 77), (111, 78), (111, 108)] M M16 := by rw [eM16]; exact hFM8.stoA (by simp)
    obtain ⟨v17, ev17, h⟩ := blet_e h
    exact hFM16.trans (hR134 a1 a2 a3 a6 v17 M16 r h)
  · skip
    obtain ⟨v18, ev18, h⟩ := blet_e h
    exact hFM.trans (hR42 a1 a2 v18 M r h)
theorem wl_Mo_pay_134 {R42 : Int → Int → Int → Mem → Res} (hR42 : ∀ (a1 a2 a3 : Int) (M : Mem) (r : Int × Mem), R42 a1 a2 a3 M = some r → Fr [134, 135, 136, 137, 138, 139, 140, 141, 142, 143, 144, 145, 155, 156, 157, 158, 159, 160, 161, 162, 163] [(111, 39), (111, 72), (111, 77), (111, 78), (111, 108)] M r.2) : ∀ (n : Nat) (a1 a2 a3 a6 a8 : Int) (M : Mem) (r : Int × Mem), fix (fun _ _ _ _ _ _ => none) (k_Mo_pay_134 R42) n a1 a2 a3 a6 a8 M = some r → Fr [134, 135, 136, 137, 138, 139, 140, 141, 142, 143, 144, 145, 155, 156, 157, 158, 159, 160, 161, 162, 163] [(111, 39), (111, 72), (111, 77), (111, 78), (111, 108)] M r.2 := by
  intro n
  induction n with
  | zero => intro a1 a2 a3 a6 a8 M r h; exact nomatch (show (none : Res) = some r from h)
  | succ n ih => intro a1 a2 a3 a6 a8 M r h; exact w_Mo_pay_134 hR42 ih h
theorem w_Mo_pay_98 {R42 : Int → Int → Int → Mem → Res} {R98 : Int → Int → Int → Int → Int → Int → Mem → Res} (hR42 : ∀ (a1 a2 a3 : Int) (M : Mem) (r : Int × Mem), R42 a1 a2 a3 M = some r → Fr [134, 135, 136, 137, 138, 139, 140, 141, 142, 143, 144, 145, 155, 156, 157, 158, 159, 160, 161, 162, 163] [(111, 39), (111, 72), (111, 77), (111, 78), (111, 108)] M r.2) (hR98 : ∀ (a1 a2 a3 a4 a6 a8 : Int) (M : Mem) (r : Int × Mem), R98 a1 a2 a3 a4 a6 a8 M = some r → Fr [134, 135, 136, 137, 138, 139, 140, 141, 142, 143, 144, 145, 155, 156, 157, 158, 159, 160, 161, 162, 163] [(111, 39), (111, 72), (111, 77), (111, 78), (111, 108)] M r.2) {a1 a2 a3 a4 a6 a8 : Int} {M : Mem} {r : Int × Mem} (h : k_Mo_pay_98 R42 R98 a1 a2 a3 a4 a6 a8 M = some r) : Fr [134, 135, 136, 137, 138, 139, 140, 141, 142, 143, 144, 145, 155, 156, 157, 158, 159, 160, 161, 162, 163] [(111, 39), (111, 72), (111, 77), (111, 78), (111, 108)] M r.2 := by
  unfold k_Mo_pay_98 at h
  have hFM : Fr [134, 135, 136, 137, 138, 139, 140, 141, 142, 143, 144, 145, 155, 156, 157, 158, 159, 160, 161, 162, 163] [(111, 39), (111, 72), (111, 77), (111, 78), (111, 108)] M M := Fr.rfl'
  rcases ite_e h with ⟨c1, h⟩ | ⟨c1, h⟩
  · skip
    obtain ⟨c2, h⟩ := chk_e h
    obtain ⟨v3, ev3, h⟩ := blet_e h
    obtain ⟨c4, h⟩ := chk_e h
    obtain ⟨M5, eM5, h⟩ := blet_e h
    have hFM5 : Fr [134, 135, 136, 137, 138, 139, 140, 141, 142, 143, 144, 145, 155, 156, 157, 158, 159, 160, 161, 162, 163] [(111, 39), (111, 72), (111, 77), (111, 78), (111, 108)] M M5 := by rw [eM5]; exact hFM.stoA (by simp)
    obtain ⟨v6, ev6, h⟩ := blet_e h
    exact hFM5.trans (hR98 a1 a2 a3 a4 a6 v6 M5 r h)
  · skip
    obtain ⟨v7, M8, fv7, h⟩ := bcall_e h
    have hFM8 : Fr [134, 135, 136, 137, 138, 139, 140, 141, 142, 143, 144, 145, 155, 156, 157, 158, 159, 160, 161, 162, 163] [(111, 39), (111, 72), (111, 77), (111, 78), (111, 108)] M M8 := hFM.trans ((w_Mo_parts fv7).mono (by simp) (by simp))
    exact hFM8.trans (wl_Mo_pay_134 hR42 FU a1 a2 a3 a6 0 M8 r h)
theorem wl_Mo_pay_98 {R42 : Int → Int → Int → Mem → Res} (hR42 : ∀ (a1 a2 a3 : Int) (M : Mem) (r : Int × Mem), R42 a1 a2 a3 M = some r → Fr [134, 135, 136, 137, 138, 139, 140, 141, 142, 143, 144, 145, 155, 156, 157, 158, 159, 160, 161, 162, 163] [(111, 39), (111, 72), (111, 77), (111, 78), (111, 108)] M r.2) : ∀ (n : Nat) (a1 a2 a3 a4 a6 a8 : Int) (M : Mem) (r : Int × Mem), fix (fun _ _ _ _ _ _ _ => none) (k_Mo_pay_98 R42) n a1 a2 a3 a4 a6 a8 M = some r → Fr [134, 135, 136, 137, 138, 139, 140, 141, 142, 143, 144, 145, 155, 156, 157, 158, 159, 160, 161, 162, 163] [(111, 39), (111, 72), (111, 77), (111, 78), (111, 108)] M r.2 := by
  intro n
  induction n with
  | zero => intro a1 a2 a3 a4 a6 a8 M r h; exact nomatch (show (none : Res) = some r from h)
  | succ n ih => intro a1 a2 a3 a4 a6 a8 M r h; exact w_Mo_pay_98 hR42 ih h
theorem w_Mo_pay_42 {R42 : Int → Int → Int → Mem → Res} (hR42 : ∀ (a1 a2 a3 : Int) (M : Mem) (r : Int × Mem), R42 a1 a2 a3 M = some r → Fr [134, 135, 136, 137, 138, 139, 140, 141, 142, 143, 144, 145, 155, 156, 157, 158, 159, 160, 161, 162, 163] [(111, 39), (111, 72), (111, 77), (111, 78), (111, 108)] M r.2) {a1 a2 a3 : Int} {M : Mem} {r : Int × Mem} (h : k_Mo_pay_42 R42 a1 a2 a3 M = some r) : Fr [134, 135, 136, 137, 138, 139, 140, 141, 142, 143, 144, 145, 155, 156, 157, 158, 159, 160, 161, 162, 163] [(111, 39), (111, 72), (111, 77), (111, 78), (111, 108)] M r.2 := by
  unfold k_Mo_pay_42 at h
  have hFM : Fr [134, 135, 136, 137, 138, 139, 140, 141, 142, 143, 144, 145, 155, 156, 157, 158, 159, 160, 161, 162, 163] [(111, 39), (111, 72), (111, 77), (111, 78), (111, 108)] M M := Fr.rfl'
  rcases ite_e h with ⟨c1, h⟩ | ⟨c1, h⟩
  · skip
    obtain ⟨v2, M3, fv2, h⟩ := bcall_e h
    have hFM3 : Fr [134, 135, 136, 137, 138, 139, 140, 141, 142, 143, 144, 145, 155, 156, 157, 158, 159, 160, 161, 162, 163] [(111, 39), (111, 72), (111, 77), (111, 78), (111, 108)] M M3 := hFM.trans ((w_Mo_came fv2).mono (by simp) (by simp))
    obtain ⟨v4, M5, fv4, h⟩ := bcall_e h
    have hFM5 : Fr [134, 135, 136, 137, 138, 139, 140, 141, 142, 143, 144, 145, 155, 156, 157, 158, 159, 160, 161, 162, 163] [(111, 39), (111, 72), (111, 77), (111, 78), (111, 108)] M M5 := hFM3.trans ((w_Mo_kept fv4).mono (by simp) (by simp))
    obtain ⟨v6, ev6, h⟩ := blet_e h
    obtain ⟨v7, M8, fv7, h⟩ := bcall_e h
    have hFM8 : Fr [134, 135, 136, 137, 138, 139, 140, 141, 142, 143, 144, 145, 155, 156, 157, 158, 159, 160, 161, 162, 163] [(111, 39), (111, 72), (111, 77), (111, 78), (111, 108)] M M8 := hFM5.trans ((w_Mo_spelled fv7).mono (by simp) (by simp))
    obtain ⟨v9, M10, fv9, h⟩ := bcall_e h
    have hFM10 : Fr [134, 135, 136, 137, 138, 139, 140, 141, 142, 143, 144, 145, 155, 156, 157, 158, 159, 160, 161, 162, 163] [(111, 39), (111, 72), (111, 77), (111, 78), (111, 108)] M M10 := hFM8.trans ((w_Mo_ofYear fv9).mono (by simp) (by simp))
    obtain ⟨v11, M12, fv11, h⟩ := bcall_e h
    have hFM12 : Fr [134, 135, 136, 137, 138, 139, 140, 141, 142, 143, 144, 145, 155, 156, 157, 158, 159, 160, 161, 162, 163] [(111, 39), (111, 72), (111, 77), (111, 78), (111, 108)] M M12 := hFM10.trans ((w_Mo_bring fv11).mono (by simp) (by simp))
    exact hFM12.trans (wl_Mo_pay_98 hR42 FU a1 a2 a3 v6 v9 0 M12 r h)
  · skip
    exact hFM.trans (wl_Mo_pay_208 FU a1 0 0 M r h)
theorem wl_Mo_pay_42  : ∀ (n : Nat) (a1 a2 a3 : Int) (M : Mem) (r : Int × Mem), fix (fun _ _ _ _ => none) (k_Mo_pay_42) n a1 a2 a3 M = some r → Fr [134, 135, 136, 137, 138, 139, 140, 141, 142, 143, 144, 145, 155, 156, 157, 158, 159, 160, 161, 162, 163] [(111, 39), (111, 72), (111, 77), (111, 78), (111, 108)] M r.2 := by
  intro n
  induction n with
  | zero => intro a1 a2 a3 M r h; exact nomatch (show (none : Res) = some r from h)
  | succ n ih => intro a1 a2 a3 M r h; exact w_Mo_pay_42 ih h
theorem w_Mo_pay_7 {R7 : Int → Int → Int → Mem → Res} (hR7 : ∀ (a1 a2 a3 : Int) (M : Mem) (r : Int × Mem), R7 a1 a2 a3 M = some r → Fr [134, 135, 136, 137, 138, 139, 140, 141, 142, 143, 144, 145, 155, 156, 157, 158, 159, 160, 161, 162, 163] [(111, 39), (111, 72), (111, 77), (111, 78), (111, 108)] M r.2) {a1 a2 a3 : Int} {M : Mem} {r : Int × Mem} (h : k_Mo_pay_7 R7 a1 a2 a3 M = some r) : Fr [134, 135, 136, 137, 138, 139, 140, 141, 142, 143, 144, 145, 155, 156, 157, 158, 159, 160, 161, 162, 163] [(111, 39), (111, 72), (111, 77), (111, 78), (111, 108)] M r.2 := by
  unfold k_Mo_pay_7 at h
  have hFM : Fr [134, 135, 136, 137, 138, 139, 140, 141, 142, 143, 144, 145, 155, 156, 157, 158, 159, 160, 161, 162, 163] [(111, 39), (111, 72), (111, 77), (111, 78), (111, 108)] M M := Fr.rfl'
  rcases ite_e h with ⟨c1, h⟩ | ⟨c1, h⟩
  · skip
    obtain ⟨c2, h⟩ := chk_e h
    obtain ⟨M3, eM3, h⟩ := blet_e h
    have hFM3 : Fr [134, 135, 136, 137, 138, 139, 140, 141, 142, 143, 144, 145, 155, 156, 157, 158, 159, 160, 161, 162, 163] [(111, 39), (111, 72), (111, 77), (111, 78), (111, 108)] M M3 := by rw [eM3]; exact hFM.stoA (by simp)
    obtain ⟨c4, h⟩ := chk_e h
    obtain ⟨M5, eM5, h⟩ := blet_e h
    have hFM5 : Fr [134, 135, 136, 137, 138, 139, 140, 141, 142, 143, 144, 145, 155, 156, 157, 158, 159, 160, 161, 162, 163] [(111, 39), (111, 72), (111, 77), (111, 78), (111, 108)] M M5 := by rw [eM5]; exact hFM3.stoA (by simp)
    obtain ⟨c6, h⟩ := chk_e h
    obtain ⟨M7, eM7, h⟩ := blet_e h
    have hFM7 : Fr [134, 135, 136, 137, 138, 139, 140, 141, 142, 143, 144, 145, 155, 156, 157, 158, 159, 160, 161, 162, 163] [(111, 39), (111, 72), (111, 77), (111, 78), (111, 108)] M M7 := by rw [eM7]; exact hFM5.stoA (by simp)
    obtain ⟨v8, ev8, h⟩ := blet_e h
    exact hFM7.trans (hR7 a1 a2 v8 M7 r h)
  · skip
    exact hFM.trans (wl_Mo_pay_42 FU a1 a2 0 M r h)
theorem wl_Mo_pay_7  : ∀ (n : Nat) (a1 a2 a3 : Int) (M : Mem) (r : Int × Mem), fix (fun _ _ _ _ => none) (k_Mo_pay_7) n a1 a2 a3 M = some r → Fr [134, 135, 136, 137, 138, 139, 140, 141, 142, 143, 144, 145, 155, 156, 157, 158, 159, 160, 161, 162, 163] [(111, 39), (111, 72), (111, 77), (111, 78), (111, 108)] M r.2 := by
  intro n
  induction n with
  | zero => intro a1 a2 a3 M r h; exact nomatch (show (none : Res) = some r from h)
  | succ n ih => intro a1 a2 a3 M r h; exact w_Mo_pay_7 ih h
theorem w_Mo_pay {a1 a2 : Int} {M : Mem} {r : Int × Mem} (h : d_Mo_pay a1 a2 M = some r) : Fr [134, 135, 136, 137, 138, 139, 140, 141, 142, 143, 144, 145, 155, 156, 157, 158, 159, 160, 161, 162, 163] [(111, 39), (111, 72), (111, 77), (111, 78), (111, 108)] M r.2 := by
  unfold d_Mo_pay at h
  have hFM : Fr [134, 135, 136, 137, 138, 139, 140, 141, 142, 143, 144, 145, 155, 156, 157, 158, 159, 160, 161, 162, 163] [(111, 39), (111, 72), (111, 77), (111, 78), (111, 108)] M M := Fr.rfl'
  obtain ⟨v1, M2, fv1, h⟩ := bcall_e h
  have hFM2 : Fr [134, 135, 136, 137, 138, 139, 140, 141, 142, 143, 144, 145, 155, 156, 157, 158, 159, 160, 161, 162, 163] [(111, 39), (111, 72), (111, 77), (111, 78), (111, 108)] M M2 := hFM.trans ((w_Mo_play fv1).mono (by simp) (by simp))
  exact hFM2.trans (wl_Mo_pay_7 FU a1 a2 0 M2 r h)
theorem w_Mo_last {a1 a2 a3 : Int} {M : Mem} {r : Int × Mem} (h : d_Mo_last a1 a2 a3 M = some r) : Fr [134, 135, 136, 137, 138, 139, 140, 141, 142, 143, 144, 145, 155, 156, 157, 158, 159, 160, 161, 162, 163] [(111, 0), (111, 1), (111, 39), (111, 72), (111, 77), (111, 78), (111, 108)] M r.2 := by
  unfold d_Mo_last at h
  have hFM : Fr [134, 135, 136, 137, 138, 139, 140, 141, 142, 143, 144, 145, 155, 156, 157, 158, 159, 160, 161, 162, 163] [(111, 0), (111, 1), (111, 39), (111, 72), (111, 77), (111, 78), (111, 108)] M M := Fr.rfl'
  obtain ⟨M1, eM1, h⟩ := blet_e h
  have hFM1 : Fr [134, 135, 136, 137, 138, 139, 140, 141, 142, 143, 144, 145, 155, 156, 157, 158, 159, 160, 161, 162, 163] [(111, 0), (111, 1), (111, 39), (111, 72), (111, 77), (111, 78), (111, 108)] M M1 := by rw [eM1]; exact hFM.stoF (by simp)
  obtain ⟨v2, M3, fv2, h⟩ := bcall_e h
  have hFM3 : Fr [134, 135, 136, 137, 138, 139, 140, 141, 142, 143, 144, 145, 155, 156, 157, 158, 159, 160, 161, 162, 163] [(111, 0), (111, 1), (111, 39), (111, 72), (111, 77), (111, 78), (111, 108)] M M3 := hFM1.trans ((w_Mo_asksFarm fv2).mono (by simp) (by simp))
  obtain ⟨M4, eM4, h⟩ := blet_e h
  have hFM4 : Fr [134, 135, 136, 137, 138, 139, 140, 141, 142, 143, 144, 145, 155, 156, 157, 158, 159, 160, 161, 162, 163] [(111, 0), (111, 1), (111, 39), (111, 72), (111, 77), (111, 78), (111, 108)] M M4 := by rw [eM4]; exact hFM3.stoF (by simp)
  obtain ⟨v5, ev5, h⟩ := blet_e h
  rcases ite_e h with ⟨c6, h⟩ | ⟨c6, h⟩
  · skip
    cases h; exact hFM4
  · skip
    obtain ⟨v7, M8, fv7, h⟩ := bcall_e h
    have hFM8 : Fr [134, 135, 136, 137, 138, 139, 140, 141, 142, 143, 144, 145, 155, 156, 157, 158, 159, 160, 161, 162, 163] [(111, 0), (111, 1), (111, 39), (111, 72), (111, 77), (111, 78), (111, 108)] M M8 := hFM4.trans ((w_Mo_pay fv7).mono (by simp) (by simp))
    obtain ⟨c9, h⟩ := chk_e h
    obtain ⟨v10, ev10, h⟩ := blet_e h
    cases h; exact hFM8
theorem w_Mo_first {a1 a2 a3 : Int} {M : Mem} {r : Int × Mem} (h : d_Mo_first a1 a2 a3 M = some r) : Fr [134, 135, 136, 137, 138, 139, 140, 141, 142, 143, 144, 145, 155, 156, 157, 158, 159, 160, 161, 162, 163] [(111, 0), (111, 1), (111, 39), (111, 72), (111, 77), (111, 78), (111, 108)] M r.2 := by
  unfold d_Mo_first at h
  have hFM : Fr [134, 135, 136, 137, 138, 139, 140, 141, 142, 143, 144, 145, 155, 156, 157, 158, 159, 160, 161, 162, 163] [(111, 0), (111, 1), (111, 39), (111, 72), (111, 77), (111, 78), (111, 108)] M M := Fr.rfl'
  obtain ⟨M1, eM1, h⟩ := blet_e h
  have hFM1 : Fr [134, 135, 136, 137, 138, 139, 140, 141, 142, 143, 144, 145, 155, 156, 157, 158, 159, 160, 161, 162, 163] [(111, 0), (111, 1), (111, 39), (111, 72), (111, 77), (111, 78), (111, 108)] M M1 := by rw [eM1]; exact hFM.stoF (by simp)
  obtain ⟨v2, M3, fv2, h⟩ := bcall_e h
  have hFM3 : Fr [134, 135, 136, 137, 138, 139, 140, 141, 142, 143, 144, 145, 155, 156, 157, 158, 159, 160, 161, 162, 163] [(111, 0), (111, 1), (111, 39), (111, 72), (111, 77), (111, 78), (111, 108)] M M3 := hFM1.trans ((w_Mo_asksFarm fv2).mono (by simp) (by simp))
  obtain ⟨M4, eM4, h⟩ := blet_e h
  have hFM4 : Fr [134, 135, 136, 137, 138, 139, 140, 141, 142, 143, 144, 145, 155, 156, 157, 158, 159, 160, 161, 162, 163] [(111, 0), (111, 1), (111, 39), (111, 72), (111, 77), (111, 78), (111, 108)] M M4 := by rw [eM4]; exact hFM3.stoF (by simp)
  obtain ⟨v5, ev5, h⟩ := blet_e h
  rcases ite_e h with ⟨c6, h⟩ | ⟨c6, h⟩
  · skip
    cases h; exact hFM4
  · skip
    obtain ⟨v7, M8, fv7, h⟩ := bcall_e h
    have hFM8 : Fr [134, 135, 136, 137, 138, 139, 140, 141, 142, 143, 144, 145, 155, 156, 157, 158, 159, 160, 161, 162, 163] [(111, 0), (111, 1), (111, 39), (111, 72), (111, 77), (111, 78), (111, 108)] M M8 := hFM4.trans ((w_Mo_pay fv7).mono (by simp) (by simp))
    obtain ⟨c9, h⟩ := chk_e h
    obtain ⟨v10, ev10, h⟩ := blet_e h
    cases h; exact hFM8
theorem w_Mo_below_34  {M : Mem} {r : Int × Mem} (h : k_Mo_below_34 M = some r) : Fr [134, 135, 136, 137, 138, 139, 140, 141, 142, 143, 144, 145, 155, 156, 157, 158, 159, 160, 161, 162, 163] [(111, 0), (111, 1), (111, 39), (111, 72), (111, 77), (111, 78), (111, 108)] M r.2 := by
  unfold k_Mo_below_34 at h
  have hFM : Fr [134, 135, 136, 137, 138, 139, 140, 141, 142, 143, 144, 145, 155, 156, 157, 158, 159, 160, 161, 162, 163] [(111, 0), (111, 1), (111, 39), (111, 72), (111, 77), (111, 78), (111, 108)] M M := Fr.rfl'
  obtain ⟨v1, M2, fv1, h⟩ := bcall_e h
  have hFM2 : Fr [134, 135, 136, 137, 138, 139, 140, 141, 142, 143, 144, 145, 155, 156, 157, 158, 159, 160, 161, 162, 163] [(111, 0), (111, 1), (111, 39), (111, 72), (111, 77), (111, 78), (111, 108)] M M2 := hFM.trans ((w_Mo_refuse fv1).mono (by simp) (by simp))
  cases h; exact hFM2
theorem w_Mo_below {a1 a2 a3 : Int} {M : Mem} {r : Int × Mem} (h : d_Mo_below a1 a2 a3 M = some r) : Fr [134, 135, 136, 137, 138, 139, 140, 141, 142, 143, 144, 145, 155, 156, 157, 158, 159, 160, 161, 162, 163] [(111, 0), (111, 1), (111, 39), (111, 72), (111, 77), (111, 78), (111, 108)] M r.2 := by
  unfold d_Mo_below at h
  have hFM : Fr [134, 135, 136, 137, 138, 139, 140, 141, 142, 143, 144, 145, 155, 156, 157, 158, 159, 160, 161, 162, 163] [(111, 0), (111, 1), (111, 39), (111, 72), (111, 77), (111, 78), (111, 108)] M M := Fr.rfl'
  obtain ⟨M1, eM1, h⟩ := blet_e h
  have hFM1 : Fr [134, 135, 136, 137, 138, 139, 140, 141, 142, 143, 144, 145, 155, 156, 157, 158, 159, 160, 161, 162, 163] [(111, 0), (111, 1), (111, 39), (111, 72), (111, 77), (111, 78), (111, 108)] M M1 := by rw [eM1]; exact hFM.stoF (by simp)
  obtain ⟨M2, eM2, h⟩ := blet_e h
  have hFM2 : Fr [134, 135, 136, 137, 138, 139, 140, 141, 142, 143, 144, 145, 155, 156, 157, 158, 159, 160, 161, 162, 163] [(111, 0), (111, 1), (111, 39), (111, 72), (111, 77), (111, 78), (111, 108)] M M2 := by rw [eM2]; exact hFM1.stoF (by simp)
  obtain ⟨v3, M4, fv3, h⟩ := bcall_e h
  have hFM4 : Fr [134, 135, 136, 137, 138, 139, 140, 141, 142, 143, 144, 145, 155, 156, 157, 158, 159, 160, 161, 162, 163] [(111, 0), (111, 1), (111, 39), (111, 72), (111, 77), (111, 78), (111, 108)] M M4 := hFM2.trans ((w_Mo_isYear fv3).mono (by simp) (by simp))
  rcases ite_e h with ⟨c5, h⟩ | ⟨c5, h⟩
  · skip
    exact hFM4.trans (w_Mo_below_34 h)
  · skip
    obtain ⟨v6, M7, fv6, h⟩ := bcall_e h
    have hFM7 : Fr [134, 135, 136, 137, 138, 139, 140, 141, 142, 143, 144, 145, 155, 156, 157, 158, 159, 160, 161, 162, 163] [(111, 0), (111, 1), (111, 39), (111, 72), (111, 77), (111, 78), (111, 108)] M M7 := hFM4.trans ((w_Mo_isIn fv6).mono (by simp) (by simp))
    rcases ite_e h with ⟨c8, h⟩ | ⟨c8, h⟩
    · skip
      exact hFM7.trans (w_Mo_below_34 h)
    · skip
      obtain ⟨v9, M10, fv9, h⟩ := bcall_e h
      have hFM10 : Fr [134, 135, 136, 137, 138, 139, 140, 141, 142, 143, 144, 145, 155, 156, 157, 158, 159, 160, 161, 162, 163] [(111, 0), (111, 1), (111, 39), (111, 72), (111, 77), (111, 78), (111, 108)] M M10 := hFM7.trans ((w_Mo_isDay fv9).mono (by simp) (by simp))
      rcases ite_e h with ⟨c11, h⟩ | ⟨c11, h⟩
      · skip
        exact hFM10.trans (w_Mo_below_34 h)
      · skip
        obtain ⟨v12, M13, fv12, h⟩ := bcall_e h
        have hFM13 : Fr [134, 135, 136, 137, 138, 139, 140, 141, 142, 143, 144, 145, 155, 156, 157, 158, 159, 160, 161, 162, 163] [(111, 0), (111, 1), (111, 39), (111, 72), (111, 77), (111, 78), (111, 108)] M M13 := hFM10.trans ((w_Mo_pay fv12).mono (by simp) (by simp))
        rcases ite_e h with ⟨c14, h⟩ | ⟨c14, h⟩
        · skip
          obtain ⟨v15, ev15, h⟩ := blet_e h
          cases h; exact hFM13
        · skip
          obtain ⟨v16, ev16, h⟩ := blet_e h
          cases h; exact hFM13
theorem w_Mo_owed {a1 a2 a3 : Int} {M : Mem} {r : Int × Mem} (h : d_Mo_owed a1 a2 a3 M = some r) : Fr [134, 135, 136, 137, 138, 139, 140, 141, 142, 143, 144, 145, 155, 156, 157, 158, 159, 160, 161, 162, 163] [(111, 0), (111, 1), (111, 39), (111, 72), (111, 77), (111, 78), (111, 108)] M r.2 := by
  unfold d_Mo_owed at h
  have hFM : Fr [134, 135, 136, 137, 138, 139, 140, 141, 142, 143, 144, 145, 155, 156, 157, 158, 159, 160, 161, 162, 163] [(111, 0), (111, 1), (111, 39), (111, 72), (111, 77), (111, 78), (111, 108)] M M := Fr.rfl'
  obtain ⟨M1, eM1, h⟩ := blet_e h
  have hFM1 : Fr [134, 135, 136, 137, 138, 139, 140, 141, 142, 143, 144, 145, 155, 156, 157, 158, 159, 160, 161, 162, 163] [(111, 0), (111, 1), (111, 39), (111, 72), (111, 77), (111, 78), (111, 108)] M M1 := by rw [eM1]; exact hFM.stoF (by simp)
  obtain ⟨v2, M3, fv2, h⟩ := bcall_e h
  have hFM3 : Fr [134, 135, 136, 137, 138, 139, 140, 141, 142, 143, 144, 145, 155, 156, 157, 158, 159, 160, 161, 162, 163] [(111, 0), (111, 1), (111, 39), (111, 72), (111, 77), (111, 78), (111, 108)] M M3 := hFM1.trans ((w_Mo_asksFarm fv2).mono (by simp) (by simp))
  obtain ⟨M4, eM4, h⟩ := blet_e h
  have hFM4 : Fr [134, 135, 136, 137, 138, 139, 140, 141, 142, 143, 144, 145, 155, 156, 157, 158, 159, 160, 161, 162, 163] [(111, 0), (111, 1), (111, 39), (111, 72), (111, 77), (111, 78), (111, 108)] M M4 := by rw [eM4]; exact hFM3.stoF (by simp)
  obtain ⟨v5, ev5, h⟩ := blet_e h
  rcases ite_e h with ⟨c6, h⟩ | ⟨c6, h⟩
  · skip
    cases h; exact hFM4
  · skip
    obtain ⟨v7, M8, fv7, h⟩ := bcall_e h
    have hFM8 : Fr [134, 135, 136, 137, 138, 139, 140, 141, 142, 143, 144, 145, 155, 156, 157, 158, 159, 160, 161, 162, 163] [(111, 0), (111, 1), (111, 39), (111, 72), (111, 77), (111, 78), (111, 108)] M M8 := hFM4.trans ((w_Mo_pay fv7).mono (by simp) (by simp))
    obtain ⟨c9, h⟩ := chk_e h
    obtain ⟨v10, ev10, h⟩ := blet_e h
    cases h; exact hFM8
theorem w_Mo_turnOf {a1 a2 a3 : Int} {M : Mem} {r : Int × Mem} (h : d_Mo_turnOf a1 a2 a3 M = some r) : Fr [155, 156, 157, 158, 159] [(111, 72), (111, 108)] M r.2 := by
  unfold d_Mo_turnOf at h
  have hFM : Fr [155, 156, 157, 158, 159] [(111, 72), (111, 108)] M M := Fr.rfl'
  obtain ⟨v1, M2, fv1, h⟩ := bcall_e h
  have hFM2 : Fr [155, 156, 157, 158, 159] [(111, 72), (111, 108)] M M2 := hFM.trans ((w_Mo_letNothing fv1).mono (by simp) (by simp))
  obtain ⟨M3, eM3, h⟩ := blet_e h
  have hFM3 : Fr [155, 156, 157, 158, 159] [(111, 72), (111, 108)] M M3 := by rw [eM3]; exact hFM2.stoA (by simp)
  obtain ⟨M4, eM4, h⟩ := blet_e h
  have hFM4 : Fr [155, 156, 157, 158, 159] [(111, 72), (111, 108)] M M4 := by rw [eM4]; exact hFM3.stoA (by simp)
  obtain ⟨c5, h⟩ := chk_e h
  obtain ⟨v6, ev6, h⟩ := blet_e h
  obtain ⟨M7, eM7, h⟩ := blet_e h
  have hFM7 : Fr [155, 156, 157, 158, 159] [(111, 72), (111, 108)] M M7 := by rw [eM7]; exact hFM4.stoA (by simp)
  obtain ⟨c8, h⟩ := chk_e h
  obtain ⟨v9, ev9, h⟩ := blet_e h
  obtain ⟨M10, eM10, h⟩ := blet_e h
  have hFM10 : Fr [155, 156, 157, 158, 159] [(111, 72), (111, 108)] M M10 := by rw [eM10]; exact hFM7.stoA (by simp)
  obtain ⟨M11, eM11, h⟩ := blet_e h
  have hFM11 : Fr [155, 156, 157, 158, 159] [(111, 72), (111, 108)] M M11 := by rw [eM11]; exact hFM10.stoA (by simp)
  obtain ⟨v12, M13, fv12, h⟩ := bcall_e h
  have hFM13 : Fr [155, 156, 157, 158, 159] [(111, 72), (111, 108)] M M13 := hFM11.trans ((w_Mo_spelled fv12).mono (by simp) (by simp))
  obtain ⟨v14, M15, fv14, h⟩ := bcall_e h
  have hFM15 : Fr [155, 156, 157, 158, 159] [(111, 72), (111, 108)] M M15 := hFM13.trans ((w_Mo_told fv14).mono (by simp) (by simp))
  obtain ⟨v16, M17, fv16, h⟩ := bcall_e h
  have hFM17 : Fr [155, 156, 157, 158, 159] [(111, 72), (111, 108)] M M17 := hFM15.trans ((w_Mo_cut1 fv16).mono (by simp) (by simp))
  cases h; exact hFM17
theorem w_Mo_turns_203  {a3 : Int} {M : Mem} {r : Int × Mem} (h : k_Mo_turns_203 a3 M = some r) : Fr [134, 135, 136, 137, 138, 139, 140, 141, 142, 143, 144, 145, 155, 156, 157, 158, 159, 188] [(111, 0), (111, 1), (111, 39), (111, 72), (111, 108)] M r.2 := by
  unfold k_Mo_turns_203 at h
  have hFM : Fr [134, 135, 136, 137, 138, 139, 140, 141, 142, 143, 144, 145, 155, 156, 157, 158, 159, 188] [(111, 0), (111, 1), (111, 39), (111, 72), (111, 108)] M M := Fr.rfl'
  obtain ⟨c1, h⟩ := chk_e h
  obtain ⟨v2, ev2, h⟩ := blet_e h
  cases h; exact hFM
theorem w_Mo_turns_172 {R81 : Int → Int → Int → Int → Mem → Res} {R96 : Int → Int → Int → Int → Int → Int → Int → Mem → Res} (hR81 : ∀ (a1 a2 a3 a4 : Int) (M : Mem) (r : Int × Mem), R81 a1 a2 a3 a4 M = some r → Fr [134, 135, 136, 137, 138, 139, 140, 141, 142, 143, 144, 145, 155, 156, 157, 158, 159, 188] [(111, 0), (111, 1), (111, 39), (111, 72), (111, 108)] M r.2) (hR96 : ∀ (a1 a2 a3 a4 a5 a6 a8 : Int) (M : Mem) (r : Int × Mem), R96 a1 a2 a3 a4 a5 a6 a8 M = some r → Fr [134, 135, 136, 137, 138, 139, 140, 141, 142, 143, 144, 145, 155, 156, 157, 158, 159, 188] [(111, 0), (111, 1), (111, 39), (111, 72), (111, 108)] M r.2) {a1 a2 a3 a4 a5 a6 a8 : Int} {M : Mem} {r : Int × Mem} (h : k_Mo_turns_172 R81 R96 a1 a2 a3 a4 a5 a6 a8 M = some r) : Fr [134, 135, 136, 137, 138, 139, 140, 141, 142, 143, 144, 145, 155, 156, 157, 158, 159, 188] [(111, 0), (111, 1), (111, 39), (111, 72), (111, 108)] M r.2 := by
  unfold k_Mo_turns_172 at h
  have hFM : Fr [134, 135, 136, 137, 138, 139, 140, 141, 142, 143, 144, 145, 155, 156, 157, 158, 159, 188] [(111, 0), (111, 1), (111, 39), (111, 72), (111, 108)] M M := Fr.rfl'
  obtain ⟨v1, ev1, h⟩ := blet_e h
  exact hFM.trans (hR96 a1 a2 a3 a4 a5 a6 v1 M r h)
theorem w_Mo_turns_164 {R81 : Int → Int → Int → Int → Mem → Res} {R96 : Int → Int → Int → Int → Int → Int → Int → Mem → Res} (hR81 : ∀ (a1 a2 a3 a4 : Int) (M : Mem) (r : Int × Mem), R81 a1 a2 a3 a4 M = some r → Fr [134, 135, 136, 137, 138, 139, 140, 141, 142, 143, 144, 145, 155, 156, 157, 158, 159, 188] [(111, 0), (111, 1), (111, 39), (111, 72), (111, 108)] M r.2) (hR96 : ∀ (a1 a2 a3 a4 a5 a6 a8 : Int) (M : Mem) (r : Int × Mem), R96 a1 a2 a3 a4 a5 a6 a8 M = some r → Fr [134, 135, 136, 137, 138, 139, 140, 141, 142, 143, 144, 145, 155, 156, 157, 158, 159, 188] [(111, 0), (111, 1), (111, 39), (111, 72), (111, 108)] M r.2) {a1 a2 a3 a4 a8 a10 : Int} {M : Mem} {r : Int × Mem} (h : k_Mo_turns_164 R81 R96 a1 a2 a3 a4 a8 a10 M = some r) : Fr [134, 135, 136, 137, 138, 139, 140, 141, 142, 143, 144, 145, 155, 156, 157, 158, 159, 188] [(111, 0), (111, 1), (111, 39), (111, 72), (111, 108)] M r.2 := by
  unfold k_Mo_turns_164 at h
  have hFM : Fr [134, 135, 136, 137, 138, 139, 140, 141, 142, 143, 144, 145, 155, 156, 157, 158, 159, 188] [(111, 0), (111, 1), (111, 39), (111, 72), (111, 108)] M M := Fr.rfl'
  exact hFM.trans (w_Mo_turns_172 hR81 hR96 h)
theorem w_Mo_turns_96 {R81 : Int → Int → Int → Int → Mem → Res} {R96 : Int → Int → Int → Int → Int → Int → Int → Mem → Res} (hR81 : ∀ (a1 a2 a3 a4 : Int) (M : Mem) (r : Int × Mem), R81 a1 a2 a3 a4 M = some r → Fr [134, 135, 136, 137, 138, 139, 140, 141, 142, 143, 144, 145, 155, 156, 157, 158, 159, 188] [(111, 0), (111, 1), (111, 39), (111, 72), (111, 108)] M r.2) (hR96 : ∀ (a1 a2 a3 a4 a5 a6 a8 : Int) (M : Mem) (r : Int × Mem), R96 a1 a2 a3 a4 a5 a6 a8 M = some r → Fr [134, 135, 136, 137, 138, 139, 140, 141, 142, 143, 144, 145, 155, 156, 157, 158, 159, 188] [(111, 0), (111, 1), (111, 39), (111, 72), (111, 108)] M r.2) {a1 a2 a3 a4 a5 a6 a8 : Int} {M : Mem} {r : Int × Mem} (h : k_Mo_turns_96 R81 R96 a1 a2 a3 a4 a5 a6 a8 M = some r) : Fr [134, 135, 136, 137, 138, 139, 140, 141, 142, 143, 144, 145, 155, 156, 157, 158, 159, 188] [(111, 0), (111, 1), (111, 39), (111, 72), (111, 108)] M r.2 := by
  unfold k_Mo_turns_96 at h
  have hFM : Fr [134, 135, 136, 137, 138, 139, 140, 141, 142, 143, 144, 145, 155, 156, 157, 158, 159, 188] [(111, 0), (111, 1), (111, 39), (111, 72), (111, 108)] M M := Fr.rfl'
  obtain ⟨v1, ev1, h⟩ := blet_e h
  rcases ite_e h with ⟨c2, h⟩ | ⟨c2, h⟩
  · skip
    obtain ⟨v3, M4, fv3, h⟩ := bcall_e h
    have hFM4 : Fr [134, 135, 136, 137, 138, 139, 140, 141, 142, 143, 144, 145, 155, 156, 157, 158, 159, 188] [(111, 0), (111, 1), (111, 39), (111, 72), (111, 108)] M M4 := hFM.trans ((w_Mo_inElevator fv3).mono (by simp) (by simp))
    obtain ⟨c5, h⟩ := chk_e h
    obtain ⟨v6, ev6, h⟩ := blet_e h
    obtain ⟨v7, ev7, h⟩ := blet_e h
    rcases ite_e h with ⟨c8, h⟩ | ⟨c8, h⟩
    · skip
      exact hFM4.trans (w_Mo_turns_172 hR81 hR96 h)
    · skip
      obtain ⟨v9, M10, fv9, h⟩ := bcall_e h
      have hFM10 : Fr [134, 135, 136, 137, 138, 139, 140, 141, 142, 143, 144, 145, 155, 156, 157, 158, 159, 188] [(111, 0), (111, 1), (111, 39), (111, 72), (111, 108)] M M10 := hFM4.trans ((w_Mo_turnOf fv9).mono (by simp) (by simp))
      rcases ite_e h with ⟨c11, h⟩ | ⟨c11, h⟩
      · skip
        exact hFM10.trans (w_Mo_turns_164 hR81 hR96 h)
      · skip
        rcases ite_e h with ⟨c12, h⟩ | ⟨c12, h⟩
        · skip
          exact hFM10.trans (w_Mo_turns_164 hR81 hR96 h)
        · skip
          exact hFM10.trans (w_Mo_turns_172 hR81 hR96 h)
  · skip
    rcases ite_e h with ⟨c13, h⟩ | ⟨c13, h⟩
    · skip
      exact hFM.trans (w_Mo_turns_203 h)
    · skip
      obtain ⟨c14, h⟩ := chk_e h
      obtain ⟨v15, ev15, h⟩ := blet_e h
      obtain ⟨c16, h⟩ := chk_e h
      obtain ⟨M17, eM17, h⟩ := blet_e h
      have hFM17 : Fr [134, 135, 136, 137, 138, 139, 140, 141, 142, 143, 144, 145, 155, 156, 157, 158, 159, 188] [(111, 0), (111, 1), (111, 39), (111, 72), (111, 108)] M M17 := by rw [eM17]; exact hFM.stoA (by simp)
      obtain ⟨v18, ev18, h⟩ := blet_e h
      exact hFM17.trans (hR81 a1 a2 a3 v18 M17 r h)
theorem wl_Mo_turns_96 {R81 : Int → Int → Int → Int → Mem → Res} (hR81 : ∀ (a1 a2 a3 a4 : Int) (M : Mem) (r : Int × Mem), R81 a1 a2 a3 a4 M = some r → Fr [134, 135, 136, 137, 138, 139, 140, 141, 142, 143, 144, 145, 155, 156, 157, 158, 159, 188] [(111, 0), (111, 1), (111, 39), (111, 72), (111, 108)] M r.2) : ∀ (n : Nat) (a1 a2 a3 a4 a5 a6 a8 : Int) (M : Mem) (r : Int × Mem), fix (fun _ _ _ _ _ _ _ _ => none) (k_Mo_turns_96 R81) n a1 a2 a3 a4 a5 a6 a8 M = some r → Fr [134, 135, 136, 137, 138, 139, 140, 141, 142, 143, 144, 145, 155, 156, 157, 158, 159, 188] [(111, 0), (111, 1), (111, 39), (111, 72), (111, 108)] M r.2 := by
  intro n
  induction n with
  | zero => intro a1 a2 a3 a4 a5 a6 a8 M r h; exact nomatch (show (none : Res) = some r from h)
  | succ n ih => intro a1 a2 a3 a4 a5 a6 a8 M r h; exact w_Mo_turns_96 hR81 ih h
theorem w_Mo_turns_81 {R81 : Int → Int → Int → Int → Mem → Res} (hR81 : ∀ (a1 a2 a3 a4 : Int) (M : Mem) (r : Int × Mem), R81 a1 a2 a3 a4 M = some r → Fr [134, 135, 136, 137, 138, 139, 140, 141, 142, 143, 144, 145, 155, 156, 157, 158, 159, 188] [(111, 0), (111, 1), (111, 39), (111, 72), (111, 108)] M r.2) {a1 a2 a3 a4 : Int} {M : Mem} {r : Int × Mem} (h : k_Mo_turns_81 R81 a1 a2 a3 a4 M = some r) : Fr [134, 135, 136, 137, 138, 139, 140, 141, 142, 143, 144, 145, 155, 156, 157, 158, 159, 188] [(111, 0), (111, 1), (111, 39), (111, 72), (111, 108)] M r.2 := by
  unfold k_Mo_turns_81 at h
  have hFM : Fr [134, 135, 136, 137, 138, 139, 140, 141, 142, 143, 144, 145, 155, 156, 157, 158, 159, 188] [(111, 0), (111, 1), (111, 39), (111, 72), (111, 108)] M M := Fr.rfl'
  rcases ite_e h with ⟨c1, h⟩ | ⟨c1, h⟩
  · skip
    exact hFM.trans (wl_Mo_turns_96 hR81 FU a1 a2 a3 a4 (-1) 0 0 M r h)
  · skip
    exact hFM.trans (w_Mo_turns_203 h)
theorem wl_Mo_turns_81  : ∀ (n : Nat) (a1 a2 a3 a4 : Int) (M : Mem) (r : Int × Mem), fix (fun _ _ _ _ _ => none) (k_Mo_turns_81) n a1 a2 a3 a4 M = some r → Fr [134, 135, 136, 137, 138, 139, 140, 141, 142, 143, 144, 145, 155, 156, 157, 158, 159, 188] [(111, 0), (111, 1), (111, 39), (111, 72), (111, 108)] M r.2 := by
  intro n
  induction n with
  | zero => intro a1 a2 a3 a4 M r h; exact nomatch (show (none : Res) = some r from h)
  | succ n ih => intro a1 a2 a3 a4 M r h; exact w_Mo_turns_81 ih h
theorem w_Mo_turns_57 {R57 : Int → Int → Int → Int → Mem → Res} (hR57 : ∀ (a1 a2 a3 a4 : Int) (M : Mem) (r : Int × Mem), R57 a1 a2 a3 a4 M = some r → Fr [134, 135, 136, 137, 138, 139, 140, 141, 142, 143, 144, 145, 155, 156, 157, 158, 159, 188] [(111, 0), (111, 1), (111, 39), (111, 72), (111, 108)] M r.2) {a1 a2 a3 a4 : Int} {M : Mem} {r : Int × Mem} (h : k_Mo_turns_57 R57 a1 a2 a3 a4 M = some r) : Fr [134, 135, 136, 137, 138, 139, 140, 141, 142, 143, 144, 145, 155, 156, 157, 158, 159, 188] [(111, 0), (111, 1), (111, 39), (111, 72), (111, 108)] M r.2 := by
  unfold k_Mo_turns_57 at h
  have hFM : Fr [134, 135, 136, 137, 138, 139, 140, 141, 142, 143, 144, 145, 155, 156, 157, 158, 159, 188] [(111, 0), (111, 1), (111, 39), (111, 72), (111, 108)] M M := Fr.rfl'
  rcases ite_e h with ⟨c1, h⟩ | ⟨c1, h⟩
  · skip
    obtain ⟨c2, h⟩ := chk_e h
    obtain ⟨M3, eM3, h⟩ := blet_e h
    have hFM3 : Fr [134, 135, 136, 137, 138, 139, 140, 141, 142, 143, 144, 145, 155, 156, 157, 158, 159, 188] [(111, 0), (111, 1), (111, 39), (111, 72), (111, 108)] M M3 := by rw [eM3]; exact hFM.stoA (by simp)
    obtain ⟨v4, ev4, h⟩ := blet_e h
    exact hFM3.trans (hR57 a1 a2 a3 v4 M3 r h)
  · skip
    exact hFM.trans (wl_Mo_turns_81 FU a1 a2 a3 0 M r h)
theorem wl_Mo_turns_57  : ∀ (n : Nat) (a1 a2 a3 a4 : Int) (M : Mem) (r : Int × Mem), fix (fun _ _ _ _ _ => none) (k_Mo_turns_57) n a1 a2 a3 a4 M = some r → Fr [134, 135, 136, 137, 138, 139, 140, 141, 142, 143, 144, 145, 155, 156, 157, 158, 159, 188] [(111, 0), (111, 1), (111, 39), (111, 72), (111, 108)] M r.2 := by
  intro n
  induction n with
  | zero => intro a1 a2 a3 a4 M r h; exact nomatch (show (none : Res) = some r from h)
  | succ n ih => intro a1 a2 a3 a4 M r h; exact w_Mo_turns_57 ih h
theorem w_Mo_turns_43  {M : Mem} {r : Int × Mem} (h : k_Mo_turns_43 M = some r) : Fr [134, 135, 136, 137, 138, 139, 140, 141, 142, 143, 144, 145, 155, 156, 157, 158, 159, 188] [(111, 0), (111, 1), (111, 39), (111, 72), (111, 108)] M r.2 := by
  unfold k_Mo_turns_43 at h
  have hFM : Fr [134, 135, 136, 137, 138, 139, 140, 141, 142, 143, 144, 145, 155, 156, 157, 158, 159, 188] [(111, 0), (111, 1), (111, 39), (111, 72), (111, 108)] M M := Fr.rfl'
  obtain ⟨v1, M2, fv1, h⟩ := bcall_e h
  have hFM2 : Fr [134, 135, 136, 137, 138, 139, 140, 141, 142, 143, 144, 145, 155, 156, 157, 158, 159, 188] [(111, 0), (111, 1), (111, 39), (111, 72), (111, 108)] M M2 := hFM.trans ((w_Mo_refuse fv1).mono (by simp) (by simp))
  cases h; exact hFM2
theorem w_Mo_turns {a1 a2 a3 : Int} {M : Mem} {r : Int × Mem} (h : d_Mo_turns a1 a2 a3 M = some r) : Fr [134, 135, 136, 137, 138, 139, 140, 141, 142, 143, 144, 145, 155, 156, 157, 158, 159, 188] [(111, 0), (111, 1), (111, 39), (111, 72), (111, 108)] M r.2 := by
  unfold d_Mo_turns at h
  have hFM : Fr [134, 135, 136, 137, 138, 139, 140, 141, 142, 143, 144, 145, 155, 156, 157, 158, 159, 188] [(111, 0), (111, 1), (111, 39), (111, 72), (111, 108)] M M := Fr.rfl'
  obtain ⟨M1, eM1, h⟩ := blet_e h
  have hFM1 : Fr [134, 135, 136, 137, 138, 139, 140, 141, 142, 143, 144, 145, 155, 156, 157, 158, 159, 188] [(111, 0), (111, 1), (111, 39), (111, 72), (111, 108)] M M1 := by rw [eM1]; exact hFM.stoF (by simp)
  obtain ⟨M2, eM2, h⟩ := blet_e h
  have hFM2 : Fr [134, 135, 136, 137, 138, 139, 140, 141, 142, 143, 144, 145, 155, 156, 157, 158, 159, 188] [(111, 0), (111, 1), (111, 39), (111, 72), (111, 108)] M M2 := by rw [eM2]; exact hFM1.stoF (by simp)
  obtain ⟨v3, M4, fv3, h⟩ := bcall_e h
  have hFM4 : Fr [134, 135, 136, 137, 138, 139, 140, 141, 142, 143, 144, 145, 155, 156, 157, 158, 159, 188] [(111, 0), (111, 1), (111, 39), (111, 72), (111, 108)] M M4 := hFM2.trans ((w_Mo_isElevator fv3).mono (by simp) (by simp))
  rcases ite_e h with ⟨c5, h⟩ | ⟨c5, h⟩
  · skip
    obtain ⟨v6, M7, fv6, h⟩ := bcall_e h
    have hFM7 : Fr [134, 135, 136, 137, 138, 139, 140, 141, 142, 143, 144, 145, 155, 156, 157, 158, 159, 188] [(111, 0), (111, 1), (111, 39), (111, 72), (111, 108)] M M7 := hFM4.trans ((w_Mo_refuse fv6).mono (by simp) (by simp))
    cases h; exact hFM7
  · skip
    obtain ⟨v8, M9, fv8, h⟩ := bcall_e h
    have hFM9 : Fr [134, 135, 136, 137, 138, 139, 140, 141, 142, 143, 144, 145, 155, 156, 157, 158, 159, 188] [(111, 0), (111, 1), (111, 39), (111, 72), (111, 108)] M M9 := hFM4.trans ((w_Mo_isDay fv8).mono (by simp) (by simp))
    rcases ite_e h with ⟨c10, h⟩ | ⟨c10, h⟩
    · skip
      exact hFM9.trans (w_Mo_turns_43 h)
    · skip
      obtain ⟨v11, M12, fv11, h⟩ := bcall_e h
      have hFM12 : Fr [134, 135, 136, 137, 138, 139, 140, 141, 142, 143, 144, 145, 155, 156, 157, 158, 159, 188] [(111, 0), (111, 1), (111, 39), (111, 72), (111, 108)] M M12 := hFM9.trans ((w_Mo_isIn fv11).mono (by simp) (by simp))
      rcases ite_e h with ⟨c13, h⟩ | ⟨c13, h⟩
      · skip
        exact hFM12.trans (w_Mo_turns_43 h)
      · skip
        obtain ⟨v14, M15, fv14, h⟩ := bcall_e h
        have hFM15 : Fr [134, 135, 136, 137, 138, 139, 140, 141, 142, 143, 144, 145, 155, 156, 157, 158, 159, 188] [(111, 0), (111, 1), (111, 39), (111, 72), (111, 108)] M M15 := hFM12.trans ((w_Mo_play fv14).mono (by simp) (by simp))
        exact hFM15.trans (wl_Mo_turns_57 FU a1 a2 a3 0 M15 r h)
