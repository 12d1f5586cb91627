/-! the model's face over its table -/
theorem ix5 {i j : Int} (h0 : 0 ≤ i) (h2 : 0 ≤ j) : (5 * i + j).toNat = 5 * i.toNat + j.toNat := by omega
section MODEL
variable {A : Nat → Nat → Int} {F : Nat → Int} {q : List Int × Nat} {i j v n : Int} {Q : AR → Prop} {J M : Nat}
theorem m_thrown : Ew 112 [vR 48] (mk A F q) Q ↔ Q (.inl (some (.inl (F 768))), mk A F q) := by
  unfold Ew
  rw [rc_112 g_48_0, lc_112]
  simp (disch := omega) only [r112_0, r112_1, r112_4, Cn_n, Cn_v, Cn_x, dp_0, dp_1, dp_2, dp_3, dp_4, okv_n, okv_i, okv_r, eq_self, true_and, and_true, Option.some.injEq, exists_eq_left', rgT, ixT, ixU, ↓if_pos, ↓if_neg, Int.toNat_natCast, bT0, bT1, g_48_0, s_48_0, g_48_1, s_48_1, g_48_2, s_48_2, g_48_3, g_48_4, g_48_5, g_48_6, g_48_7, s_48_7, g_48_8, g_48_9, g_48_10, g_48_11, g_48_12, g_48_13]
theorem m_holds : Ew 113 [vR 48, .inl 0] (mk A F q) Q ↔ Q (.inl (some (.inl 1)), mk A (uf F 768 0) q) := by
  unfold Ew
  rw [rc_113 g_48_0 rfl, lc_113]
  simp (disch := omega) only [r113_0, r113_1, r113_2, r113_5, r113_6, r113_9, r113_10, r113_13, r113_14, Cn_n, Cn_v, Cn_x, dp_0, dp_1, dp_2, dp_3, dp_4, okv_n, okv_i, okv_r, eq_self, true_and, and_true, Option.some.injEq, exists_eq_left', rgT, ixT, ixU, ↓if_pos, ↓if_neg, Int.toNat_natCast, bT0, bT1, g_48_0, s_48_0, g_48_1, s_48_1, g_48_2, s_48_2, g_48_3, g_48_4, g_48_5, g_48_6, g_48_7, s_48_7, g_48_8, g_48_9, g_48_10, g_48_11, g_48_12, g_48_13]
theorem m_holdsx (hv : rg v) (h : v ≠ 0) : Ew 113 [vR 48, .inl v] (mk A F q) Q ↔ Q (.inl (some (.inl 0)), mk A (uf F 768 v) q) := by
  have h9 := hv.1
  have h8 := hv.2
  unfold Ew
  rw [rc_113 g_48_0 rfl, lc_113]
  simp (disch := omega) only [r113_0, r113_1, r113_2, r113_5, r113_6, r113_9, r113_10, r113_13, r113_14, Cn_n, Cn_v, Cn_x, dp_0, dp_1, dp_2, dp_3, dp_4, okv_n, okv_i, okv_r, eq_self, true_and, and_true, Option.some.injEq, exists_eq_left', rgT, ixT, ixU, ↓if_pos, ↓if_neg, Int.toNat_natCast, bT0, bT1, g_48_0, s_48_0, g_48_1, s_48_1, g_48_2, s_48_2, g_48_3, g_48_4, g_48_5, g_48_6, g_48_7, s_48_7, g_48_8, g_48_9, g_48_10, g_48_11, g_48_12, g_48_13]
theorem m_isJob (hJ : F 769 = J) (hJ5 : J ≤ 5) (h0 : 0 ≤ i) (h1 : i < J) : Ew 114 [vR 48, .inl i] (mk A F q) Q ↔ Q (.inl (some (.inl 1)), mk A F q) := by
  unfold Ew
  rw [rc_114 g_48_0 rfl, lc_114]
  simp (disch := omega) only [r114_0, r114_1, r114_4, r114_5, r114_6, r114_9, r114_12, r114_13, r114_16, r114_17, Cn_n, Cn_v, Cn_x, dp_0, dp_1, dp_2, dp_3, dp_4, okv_n, okv_i, okv_r, eq_self, true_and, and_true, Option.some.injEq, exists_eq_left', rgT, ixT, ixU, ↓if_pos, ↓if_neg, Int.toNat_natCast, bT0, bT1, g_48_0, s_48_0, g_48_1, s_48_1, g_48_2, s_48_2, g_48_3, g_48_4, g_48_5, g_48_6, g_48_7, s_48_7, g_48_8, g_48_9, g_48_10, g_48_11, g_48_12, g_48_13]
theorem m_isJobx (hJ : F 769 = J) (hJ5 : J ≤ 5) (hi : rg i) (h0 : i < 0 ∨ J ≤ i) : Ew 114 [vR 48, .inl i] (mk A F q) Q ↔ Q (.inl (some (.inl 0)), mk A F q) := by
  have h9 := hi.1
  have h8 := hi.2
  unfold Ew
  rw [rc_114 g_48_0 rfl, lc_114]
  by_cases c1 : i < 0
  · simp (disch := omega) only [r114_0, r114_1, r114_4, r114_5, r114_6, r114_9, r114_12, r114_13, r114_16, r114_17, Cn_n, Cn_v, Cn_x, dp_0, dp_1, dp_2, dp_3, dp_4, okv_n, okv_i, okv_r, eq_self, true_and, and_true, Option.some.injEq, exists_eq_left', rgT, ixT, ixU, ↓if_pos, ↓if_neg, Int.toNat_natCast, bT0, bT1, g_48_0, s_48_0, g_48_1, s_48_1, g_48_2, s_48_2, g_48_3, g_48_4, g_48_5, g_48_6, g_48_7, s_48_7, g_48_8, g_48_9, g_48_10, g_48_11, g_48_12, g_48_13]
  · simp (disch := omega) only [r114_0, r114_1, r114_4, r114_5, r114_6, r114_9, r114_12, r114_13, r114_16, r114_17, Cn_n, Cn_v, Cn_x, dp_0, dp_1, dp_2, dp_3, dp_4, okv_n, okv_i, okv_r, eq_self, true_and, and_true, Option.some.injEq, exists_eq_left', rgT, ixT, ixU, ↓if_pos, ↓if_neg, Int.toNat_natCast, bT0, bT1, g_48_0, s_48_0, g_48_1, s_48_1, g_48_2, s_48_2, g_48_3, g_48_4, g_48_5, g_48_6, g_48_7, s_48_7, g_48_8, g_48_9, g_48_10, g_48_11, g_48_12, g_48_13]
theorem m_isMac (hM : F 770 = M) (hM5 : M ≤ 5) (h0 : 0 ≤ i) (h1 : i < M) : Ew 115 [vR 48, .inl i] (mk A F q) Q ↔ Q (.inl (some (.inl 1)), mk A F q) := by
  unfold Ew
  rw [rc_115 g_48_0 rfl, lc_115]
  simp (disch := omega) only [r115_0, r115_1, r115_4, r115_5, r115_6, r115_9, r115_12, r115_13, r115_16, r115_17, Cn_n, Cn_v, Cn_x, dp_0, dp_1, dp_2, dp_3, dp_4, okv_n, okv_i, okv_r, eq_self, true_and, and_true, Option.some.injEq, exists_eq_left', rgT, ixT, ixU, ↓if_pos, ↓if_neg, Int.toNat_natCast, bT0, bT1, g_48_0, s_48_0, g_48_1, s_48_1, g_48_2, s_48_2, g_48_3, g_48_4, g_48_5, g_48_6, g_48_7, s_48_7, g_48_8, g_48_9, g_48_10, g_48_11, g_48_12, g_48_13]
theorem m_isMacx (hM : F 770 = M) (hM5 : M ≤ 5) (hi : rg i) (h0 : i < 0 ∨ M ≤ i) : Ew 115 [vR 48, .inl i] (mk A F q) Q ↔ Q (.inl (some (.inl 0)), mk A F q) := by
  have h9 := hi.1
  have h8 := hi.2
  unfold Ew
  rw [rc_115 g_48_0 rfl, lc_115]
  by_cases c1 : i < 0
  · simp (disch := omega) only [r115_0, r115_1, r115_4, r115_5, r115_6, r115_9, r115_12, r115_13, r115_16, r115_17, Cn_n, Cn_v, Cn_x, dp_0, dp_1, dp_2, dp_3, dp_4, okv_n, okv_i, okv_r, eq_self, true_and, and_true, Option.some.injEq, exists_eq_left', rgT, ixT, ixU, ↓if_pos, ↓if_neg, Int.toNat_natCast, bT0, bT1, g_48_0, s_48_0, g_48_1, s_48_1, g_48_2, s_48_2, g_48_3, g_48_4, g_48_5, g_48_6, g_48_7, s_48_7, g_48_8, g_48_9, g_48_10, g_48_11, g_48_12, g_48_13]
  · simp (disch := omega) only [r115_0, r115_1, r115_4, r115_5, r115_6, r115_9, r115_12, r115_13, r115_16, r115_17, Cn_n, Cn_v, Cn_x, dp_0, dp_1, dp_2, dp_3, dp_4, okv_n, okv_i, okv_r, eq_self, true_and, and_true, Option.some.injEq, exists_eq_left', rgT, ixT, ixU, ↓if_pos, ↓if_neg, Int.toNat_natCast, bT0, bT1, g_48_0, s_48_0, g_48_1, s_48_1, g_48_2, s_48_2, g_48_3, g_48_4, g_48_5, g_48_6, g_48_7, s_48_7, g_48_8, g_48_9, g_48_10, g_48_11, g_48_12, g_48_13]
theorem m_isTime (h0 : 0 ≤ v) (h1 : v ≤ 99) : Ew 122 [.inl v] (mk A F q) Q ↔ Q (.inl (some (.inl 1)), mk A F q) := by
  unfold Ew
  rw [rc_122 rfl, lc_122]
  simp (disch := omega) only [r122_0, r122_1, r122_4, r122_5, r122_7, r122_10, r122_11, r122_14, r122_15, Cn_n, Cn_v, Cn_x, dp_0, dp_1, dp_2, dp_3, dp_4, okv_n, okv_i, okv_r, eq_self, true_and, and_true, Option.some.injEq, exists_eq_left', rgT, ixT, ixU, ↓if_pos, ↓if_neg, Int.toNat_natCast, bT0, bT1]
theorem m_isTimex (hi : rg v) (h0 : v < 0 ∨ 99 < v) : Ew 122 [.inl v] (mk A F q) Q ↔ Q (.inl (some (.inl 0)), mk A F q) := by
  have h9 := hi.1
  have h8 := hi.2
  unfold Ew
  rw [rc_122 rfl, lc_122]
  by_cases c1 : v < 0
  · simp (disch := omega) only [r122_0, r122_1, r122_4, r122_5, r122_7, r122_10, r122_11, r122_14, r122_15, Cn_n, Cn_v, Cn_x, dp_0, dp_1, dp_2, dp_3, dp_4, okv_n, okv_i, okv_r, eq_self, true_and, and_true, Option.some.injEq, exists_eq_left', rgT, ixT, ixU, ↓if_pos, ↓if_neg, Int.toNat_natCast, bT0, bT1]
  · simp (disch := omega) only [r122_0, r122_1, r122_4, r122_5, r122_7, r122_10, r122_11, r122_14, r122_15, Cn_n, Cn_v, Cn_x, dp_0, dp_1, dp_2, dp_3, dp_4, okv_n, okv_i, okv_r, eq_self, true_and, and_true, Option.some.injEq, exists_eq_left', rgT, ixT, ixU, ↓if_pos, ↓if_neg, Int.toNat_natCast, bT0, bT1]
theorem m_at (h0 : 0 ≤ i) (h1 : i < 5) (h2 : 0 ≤ j) (h3 : j < 5) : Ew 116 [vR 48, .inl i, .inl j] (mk A F q) Q ↔ Q (.inl (some (.inl (A 49 (5 * i.toNat + j.toNat)))), mk A F q) := by
  unfold Ew
  rw [rc_116 g_48_0 rfl rfl, lc_116]
  simp (disch := omega) only [r116_0, r116_1, r116_4, r116_5, r116_6, r116_7, r116_8, r116_9, r116_10, Cn_n, Cn_v, Cn_x, dp_0, dp_1, dp_2, dp_3, dp_4, okv_n, okv_i, okv_r, eq_self, true_and, and_true, Option.some.injEq, exists_eq_left', rgT, ixT, ixU, ↓if_pos, ↓if_neg, Int.toNat_natCast, bT0, bT1, g_48_0, s_48_0, g_48_1, s_48_1, g_48_2, s_48_2, g_48_3, g_48_4, g_48_5, g_48_6, g_48_7, s_48_7, g_48_8, g_48_9, g_48_10, g_48_11, g_48_12, g_48_13, a_49, b_49, d_49, tab_len, tab_get, ix5]
theorem m_ofJob (hM : F 770 = M) (hM5 : M ≤ 5) (h0 : 0 ≤ i) (h1 : i < 5) : Ew 117 [vR 48, .inl i] (mk A F q) Q ↔ Q (.inl (some (.inl (rowS (A 49) M i.toNat))), mk A F q) := by
  refine Ew_iff ⟨rc_117 g_48_0 rfl, ?_⟩
  rw [lc_117]
  simp only [r117_0, r117_1, r117_2, r117_3, r117_5, r117_6, r117_9, r117_12, r117_13, r117_14, r117_15, r117_16, r117_19, r117_20, r117_21, r117_24, r117_27, r117_28, Cn_n, Cn_v, Cn_x, dp_0, dp_1, dp_2, dp_3, dp_4, okv_n, okv_i, okv_r, eq_self, true_and, and_true, Option.some.injEq, exists_eq_left']
  have key := Rn_for (fun n => Wp 117 4 [some (vR 48), some (.inl i), some (.inl (isum (fun m => A 49 (5 * i.toNat + m)) n)), some (.inl (n : Int))] [] (mk A F q) (fun r => r = (.inl (some (.inl (rowS (A 49) M i.toNat))), mk A F q))) M (fun n hn ih => ?_) ?_
  · exact key
  · rw [r117_4]
    simp (disch := omega) only [r117_0, r117_1, r117_2, r117_3, r117_5, r117_6, r117_9, r117_12, r117_13, r117_14, r117_15, r117_16, r117_19, r117_20, r117_21, r117_24, r117_27, r117_28, Cn_n, Cn_v, Cn_x, dp_0, dp_1, dp_2, dp_3, dp_4, okv_n, okv_i, okv_r, eq_self, true_and, and_true, Option.some.injEq, exists_eq_left', rgT, ixT, ixU, ↓if_pos, ↓if_neg, Int.toNat_natCast, bT0, bT1, g_48_0, s_48_0, g_48_1, s_48_1, g_48_2, s_48_2, g_48_3, g_48_4, g_48_5, g_48_6, g_48_7, s_48_7, g_48_8, g_48_9, g_48_10, g_48_11, g_48_12, g_48_13, m_at]
    exact ih
  · rw [r117_4]
    simp (disch := omega) only [r117_0, r117_1, r117_2, r117_3, r117_5, r117_6, r117_9, r117_12, r117_13, r117_14, r117_15, r117_16, r117_19, r117_20, r117_21, r117_24, r117_27, r117_28, Cn_n, Cn_v, Cn_x, dp_0, dp_1, dp_2, dp_3, dp_4, okv_n, okv_i, okv_r, eq_self, true_and, and_true, Option.some.injEq, exists_eq_left', rgT, ixT, ixU, ↓if_pos, ↓if_neg, Int.toNat_natCast, bT0, bT1, g_48_0, s_48_0, g_48_1, s_48_1, g_48_2, s_48_2, g_48_3, g_48_4, g_48_5, g_48_6, g_48_7, s_48_7, g_48_8, g_48_9, g_48_10, g_48_11, g_48_12, g_48_13]
    rfl
theorem m_ofMac (hJ : F 769 = J) (hJ5 : J ≤ 5) (h0 : 0 ≤ i) (h1 : i < 5) : Ew 118 [vR 48, .inl i] (mk A F q) Q ↔ Q (.inl (some (.inl (colS (A 49) J i.toNat))), mk A F q) := by
  refine Ew_iff ⟨rc_118 g_48_0 rfl, ?_⟩
  rw [lc_118]
  simp only [r118_0, r118_1, r118_2, r118_3, r118_5, r118_6, r118_9, r118_12, r118_13, r118_14, r118_15, r118_16, r118_19, r118_20, r118_21, r118_24, r118_27, r118_28, Cn_n, Cn_v, Cn_x, dp_0, dp_1, dp_2, dp_3, dp_4, okv_n, okv_i, okv_r, eq_self, true_and, and_true, Option.some.injEq, exists_eq_left']
  have key := Rn_for (fun n => Wp 118 4 [some (vR 48), some (.inl i), some (.inl (isum (fun m => A 49 (5 * m + i.toNat)) n)), some (.inl (n : Int))] [] (mk A F q) (fun r => r = (.inl (some (.inl (colS (A 49) J i.toNat))), mk A F q))) J (fun n hn ih => ?_) ?_
  · exact key
  · rw [r118_4]
    simp (disch := omega) only [r118_0, r118_1, r118_2, r118_3, r118_5, r118_6, r118_9, r118_12, r118_13, r118_14, r118_15, r118_16, r118_19, r118_20, r118_21, r118_24, r118_27, r118_28, Cn_n, Cn_v, Cn_x, dp_0, dp_1, dp_2, dp_3, dp_4, okv_n, okv_i, okv_r, eq_self, true_and, and_true, Option.some.injEq, exists_eq_left', rgT, ixT, ixU, ↓if_pos, ↓if_neg, Int.toNat_natCast, bT0, bT1, g_48_0, s_48_0, g_48_1, s_48_1, g_48_2, s_48_2, g_48_3, g_48_4, g_48_5, g_48_6, g_48_7, s_48_7, g_48_8, g_48_9, g_48_10, g_48_11, g_48_12, g_48_13, m_at]
    exact ih
  · rw [r118_4]
    simp (disch := omega) only [r118_0, r118_1, r118_2, r118_3, r118_5, r118_6, r118_9, r118_12, r118_13, r118_14, r118_15, r118_16, r118_19, r118_20, r118_21, r118_24, r118_27, r118_28, Cn_n, Cn_v, Cn_x, dp_0, dp_1, dp_2, dp_3, dp_4, okv_n, okv_i, okv_r, eq_self, true_and, and_true, Option.some.injEq, exists_eq_left', rgT, ixT, ixU, ↓if_pos, ↓if_neg, Int.toNat_natCast, bT0, bT1, g_48_0, s_48_0, g_48_1, s_48_1, g_48_2, s_48_2, g_48_3, g_48_4, g_48_5, g_48_6, g_48_7, s_48_7, g_48_8, g_48_9, g_48_10, g_48_11, g_48_12, g_48_13]
    rfl
theorem m_all (hJ : F 769 = J) (hM : F 770 = M) (hJ5 : J ≤ 5) (hM5 : M ≤ 5) : Ew 119 [vR 48] (mk A F q) Q ↔ Q (.inl (some (.inl (allS (A 49) J M))), mk A F q) := by
  refine Ew_iff ⟨rc_119 g_48_0, ?_⟩
  rw [lc_119]
  simp only [r119_0, r119_1, r119_2, r119_3, r119_5, r119_6, r119_9, r119_12, r119_13, r119_14, r119_15, r119_18, r119_19, r119_20, r119_23, r119_26, r119_27, Cn_n, Cn_v, Cn_x, dp_0, dp_1, dp_2, dp_3, dp_4, okv_n, okv_i, okv_r, eq_self, true_and, and_true, Option.some.injEq, exists_eq_left']
  have key := Rn_for (fun n => Wp 119 4 [some (vR 48), some (.inl (isum (fun j => rowS (A 49) M j) n)), some (.inl (n : Int))] [] (mk A F q) (fun r => r = (.inl (some (.inl (allS (A 49) J M))), mk A F q))) J (fun n hn ih => ?_) ?_
  · exact key
  · rw [r119_4]
    simp (disch := omega) only [r119_0, r119_1, r119_2, r119_3, r119_5, r119_6, r119_9, r119_12, r119_13, r119_14, r119_15, r119_18, r119_19, r119_20, r119_23, r119_26, r119_27, Cn_n, Cn_v, Cn_x, dp_0, dp_1, dp_2, dp_3, dp_4, okv_n, okv_i, okv_r, eq_self, true_and, and_true, Option.some.injEq, exists_eq_left', rgT, ixT, ixU, ↓if_pos, ↓if_neg, Int.toNat_natCast, bT0, bT1, g_48_0, s_48_0, g_48_1, s_48_1, g_48_2, s_48_2, g_48_3, g_48_4, g_48_5, g_48_6, g_48_7, s_48_7, g_48_8, g_48_9, g_48_10, g_48_11, g_48_12, g_48_13, m_ofJob hM]
    exact ih
  · rw [r119_4]
    simp (disch := omega) only [r119_0, r119_1, r119_2, r119_3, r119_5, r119_6, r119_9, r119_12, r119_13, r119_14, r119_15, r119_18, r119_19, r119_20, r119_23, r119_26, r119_27, Cn_n, Cn_v, Cn_x, dp_0, dp_1, dp_2, dp_3, dp_4, okv_n, okv_i, okv_r, eq_self, true_and, and_true, Option.some.injEq, exists_eq_left', rgT, ixT, ixU, ↓if_pos, ↓if_neg, Int.toNat_natCast, bT0, bT1, g_48_0, s_48_0, g_48_1, s_48_1, g_48_2, s_48_2, g_48_3, g_48_4, g_48_5, g_48_6, g_48_7, s_48_7, g_48_8, g_48_9, g_48_10, g_48_11, g_48_12, g_48_13]
    rfl
/-- the greatest sum, jobs and machines by turns -/
def ma (t : Nat → Int) (J M : Nat) (b : Int) (k : Nat) : Int := if k < J ∧ b < rowS t M k then rowS t M k else b
def mb (t : Nat → Int) (J M : Nat) (b : Int) (k : Nat) : Int := if k < M ∧ b < colS t J k then colS t J k else b
def mm (t : Nat → Int) (J M : Nat) : Nat → Int
  | 0 => 0
  | k + 1 => mb t J M (ma t J M (mm t J M k) k) k
theorem ma_ge {t : Nat → Int} {b : Int} {k : Nat} : b ≤ ma t J M b k ∧ (k < J → rowS t M k ≤ ma t J M b k) := by
  unfold ma
  by_cases h : k < J ∧ b < rowS t M k
  · rw [if_pos h]; exact ⟨by omega, fun _ => by omega⟩
  · rw [if_neg h]; exact ⟨by omega, fun _ => by omega⟩
theorem mb_ge {t : Nat → Int} {b : Int} {k : Nat} : b ≤ mb t J M b k ∧ (k < M → colS t J k ≤ mb t J M b k) := by
  unfold mb
  by_cases h : k < M ∧ b < colS t J k
  · rw [if_pos h]; exact ⟨by omega, fun _ => by omega⟩
  · rw [if_neg h]; exact ⟨by omega, fun _ => by omega⟩
theorem mm_ge {t : Nat → Int} : ∀ {n : Nat}, 0 ≤ mm t J M n ∧ (∀ k, k < n → k < J → rowS t M k ≤ mm t J M n) ∧ (∀ k, k < n → k < M → colS t J k ≤ mm t J M n)
  | 0 => ⟨Int.le_refl _, fun k hk => absurd hk (Nat.not_lt_zero k), fun k hk => absurd hk (Nat.not_lt_zero k)⟩
  | n + 1 => by
    obtain ⟨h1, h2, h3⟩ := mm_ge (t := t) (n := n)
    have h4 := @ma_ge J M t (mm t J M n) n
    have h5 := @mb_ge J M t (ma t J M (mm t J M n) n) n
    simp only [mm]
    refine ⟨by omega, fun k hk hk2 => ?_, fun k hk hk2 => ?_⟩
    · by_cases hkn : k = n
      · subst hkn; have := h4.2 hk2; omega
      · have := h2 k (by omega) hk2; omega
    · by_cases hkn : k = n
      · subst hkn; exact h5.2 hk2
      · have := h3 k (by omega) hk2; omega
theorem mm_le {t : Nat → Int} {B : Int} (h0 : 0 ≤ B) (h1 : ∀ k, k < J → rowS t M k ≤ B) (h2 : ∀ k, k < M → colS t J k ≤ B) : ∀ {n : Nat}, mm t J M n ≤ B
  | 0 => h0
  | n + 1 => by
    have h3 := mm_le h0 h1 h2 (n := n)
    have h4 : ma t J M (mm t J M n) n ≤ B := by
      unfold ma
      split
      · rename_i h; exact h1 n h.1
      · exact h3
    simp only [mm]
    unfold mb
    split
    · rename_i h; exact h2 n h.1
    · exact h4
theorem bnd_ge {t : Nat → Int} : 0 ≤ bnd t J M ∧ (∀ k, k < J → rowS t M k ≤ bnd t J M) ∧ (∀ k, k < M → colS t J k ≤ bnd t J M) := by
  have h1 := @imax_ge (fun j => rowS t M j) 0 J
  have h2 := @imax_ge (fun m => colS t J m) (imax (fun j => rowS t M j) 0 J) M
  unfold bnd
  refine ⟨by omega, fun k hk => ?_, fun k hk => h2.2 k hk⟩
  have := h1.2 k hk
  omega
theorem bnd_le {t : Nat → Int} {B : Int} (h0 : 0 ≤ B) (h1 : ∀ k, k < J → rowS t M k ≤ B) (h2 : ∀ k, k < M → colS t J k ≤ B) : bnd t J M ≤ B := by
  unfold bnd
  rcases @imax_is (fun m => colS t J m) (imax (fun j => rowS t M j) 0 J) M with h | ⟨i9, hi, h⟩
  · rw [h]
    rcases @imax_is (fun j => rowS t M j) 0 J with h | ⟨i9, hi, h⟩
    · rw [h]; exact h0
    · rw [h]; exact h1 i9 hi
  · rw [h]; exact h2 i9 hi
theorem mm_bnd {t : Nat → Int} (hJ5 : J ≤ 5) (hM5 : M ≤ 5) : mm t J M 5 = bnd t J M := by
  obtain ⟨h1, h2, h3⟩ := @mm_ge J M t 5
  obtain ⟨g1, g2, g3⟩ := @bnd_ge J M t
  exact Int.le_antisymm (mm_le g1 g2 g3) (bnd_le h1 (fun k hk => h2 k (by omega) hk) (fun k hk => h3 k (by omega) hk))
theorem m_most (hJ : F 769 = J) (hM : F 770 = M) (hJ5 : J ≤ 5) (hM5 : M ≤ 5) (ht : TOK (A 49)) : Ew 120 [vR 48] (mk A F q) Q ↔ Q (.inl (some (.inl (bnd (A 49) J M))), mk A F q) := by
  refine Ew_iff ⟨rc_120 g_48_0, ?_⟩
  rw [lc_120]
  simp only [r120_0, r120_1, r120_2, r120_3, r120_5, r120_6, r120_9, r120_10, r120_11, r120_14, r120_17, r120_18, r120_19, r120_22, r120_23, r120_26, r120_27, r120_28, r120_31, r120_34, r120_35, r120_36, r120_37, r120_38, r120_41, r120_44, r120_45, r120_46, r120_49, r120_50, r120_53, r120_54, r120_55, r120_58, r120_61, r120_62, r120_63, r120_66, r120_69, r120_70, Cn_n, Cn_v, Cn_x, dp_0, dp_1, dp_2, dp_3, dp_4, okv_n, okv_i, okv_r, eq_self, true_and, and_true, Option.some.injEq, exists_eq_left']
  have bb9 := bnd_bd ht hJ5 hM5
  have gg9 := @bnd_ge J M (A 49)
  have key := Rn_for (fun n => Wp 120 4 [some (vR 48), some (.inl (mm (A 49) J M n)), some (.inl (n : Int))] [] (mk A F q) (fun r => r = (.inl (some (.inl (bnd (A 49) J M))), mk A F q))) 5 (fun n hn ih => ?_) ?_
  · exact key
  · have b0 := (@mm_ge J M (A 49) n).1
    have b9 : mm (A 49) J M n ≤ 495 := by
      have := @mm_le J M (A 49) _ gg9.1 gg9.2.1 gg9.2.2 n
      omega
    have b1 := rowS_bd ht hM5 (show n < 5 by omega)
    have b2 := colS_bd ht hJ5 (show n < 5 by omega)
    have e2 : mm (A 49) J M (n + 1) = mb (A 49) J M (ma (A 49) J M (mm (A 49) J M n) n) n := rfl
    have b3 : 0 ≤ ma (A 49) J M (mm (A 49) J M n) n ∧ ma (A 49) J M (mm (A 49) J M n) n ≤ 495 := by
      unfold ma
      split <;> omega
    have part2 : Wp 120 36 [some (vR 48), some (.inl (ma (A 49) J M (mm (A 49) J M n) n)), some (.inl (n : Int))] [] (mk A F q) (fun r => r = (.inl (some (.inl (bnd (A 49) J M))), mk A F q)) := by
      by_cases c2 : n < M
      · by_cases c3 : ma (A 49) J M (mm (A 49) J M n) n < colS (A 49) J n
        · have e3 : mm (A 49) J M (n + 1) = colS (A 49) J n := by rw [e2]; unfold mb; rw [if_pos ⟨c2, c3⟩]
          rw [e3] at ih
          simp (disch := omega) only [r120_0, r120_1, r120_2, r120_3, r120_5, r120_6, r120_9, r120_10, r120_11, r120_14, r120_17, r120_18, r120_19, r120_22, r120_23, r120_26, r120_27, r120_28, r120_31, r120_34, r120_35, r120_36, r120_37, r120_38, r120_41, r120_44, r120_45, r120_46, r120_49, r120_50, r120_53, r120_54, r120_55, r120_58, r120_61, r120_62, r120_63, r120_66, r120_69, r120_70, Cn_n, Cn_v, Cn_x, dp_0, dp_1, dp_2, dp_3, dp_4, okv_n, okv_i, okv_r, eq_self, true_and, and_true, Option.some.injEq, exists_eq_left', rgT, ixT, ixU, ↓if_pos, ↓if_neg, Int.toNat_natCast, bT0, bT1, g_48_0, s_48_0, g_48_1, s_48_1, g_48_2, s_48_2, g_48_3, g_48_4, g_48_5, g_48_6, g_48_7, s_48_7, g_48_8, g_48_9, g_48_10, g_48_11, g_48_12, g_48_13, m_ofMac hJ]
          exact ih
        · have e3 : mm (A 49) J M (n + 1) = ma (A 49) J M (mm (A 49) J M n) n := by rw [e2]; unfold mb; rw [if_neg (by omega)]
          rw [e3] at ih
          simp (disch := omega) only [r120_0, r120_1, r120_2, r120_3, r120_5, r120_6, r120_9, r120_10, r120_11, r120_14, r120_17, r120_18, r120_19, r120_22, r120_23, r120_26, r120_27, r120_28, r120_31, r120_34, r120_35, r120_36, r120_37, r120_38, r120_41, r120_44, r120_45, r120_46, r120_49, r120_50, r120_53, r120_54, r120_55, r120_58, r120_61, r120_62, r120_63, r120_66, r120_69, r120_70, Cn_n, Cn_v, Cn_x, dp_0, dp_1, dp_2, dp_3, dp_4, okv_n, okv_i, okv_r, eq_self, true_and, and_true, Option.some.injEq, exists_eq_left', rgT, ixT, ixU, ↓if_pos, ↓if_neg, Int.toNat_natCast, bT0, bT1, g_48_0, s_48_0, g_48_1, s_48_1, g_48_2, s_48_2, g_48_3, g_48_4, g_48_5, g_48_6, g_48_7, s_48_7, g_48_8, g_48_9, g_48_10, g_48_11, g_48_12, g_48_13, m_ofMac hJ]
          exact ih
      · have e3 : mm (A 49) J M (n + 1) = ma (A 49) J M (mm (A 49) J M n) n := by rw [e2]; unfold mb; rw [if_neg (by omega)]
        rw [e3] at ih
        simp (disch := omega) only [r120_0, r120_1, r120_2, r120_3, r120_5, r120_6, r120_9, r120_10, r120_11, r120_14, r120_17, r120_18, r120_19, r120_22, r120_23, r120_26, r120_27, r120_28, r120_31, r120_34, r120_35, r120_36, r120_37, r120_38, r120_41, r120_44, r120_45, r120_46, r120_49, r120_50, r120_53, r120_54, r120_55, r120_58, r120_61, r120_62, r120_63, r120_66, r120_69, r120_70, Cn_n, Cn_v, Cn_x, dp_0, dp_1, dp_2, dp_3, dp_4, okv_n, okv_i, okv_r, eq_self, true_and, and_true, Option.some.injEq, exists_eq_left', rgT, ixT, ixU, ↓if_pos, ↓if_neg, Int.toNat_natCast, bT0, bT1, g_48_0, s_48_0, g_48_1, s_48_1, g_48_2, s_48_2, g_48_3, g_48_4, g_48_5, g_48_6, g_48_7, s_48_7, g_48_8, g_48_9, g_48_10, g_48_11, g_48_12, g_48_13, m_ofMac hJ]
        exact ih
    rw [r120_4]
    by_cases c2 : n < J
    · by_cases c3 : mm (A 49) J M n < rowS (A 49) M n
      · have e3 : ma (A 49) J M (mm (A 49) J M n) n = rowS (A 49) M n := by unfold ma; rw [if_pos ⟨c2, c3⟩]
        rw [e3] at part2
        simp (disch := omega) only [r120_5, r120_6, r120_9, r120_10, r120_11, r120_14, r120_17, r120_18, r120_19, r120_22, r120_23, r120_26, r120_27, r120_28, r120_31, r120_34, r120_35, Cn_n, Cn_v, Cn_x, dp_0, dp_1, dp_2, dp_3, dp_4, okv_n, okv_i, okv_r, eq_self, true_and, and_true, Option.some.injEq, exists_eq_left', rgT, ixT, ixU, ↓if_pos, ↓if_neg, Int.toNat_natCast, bT0, bT1, g_48_0, s_48_0, g_48_1, s_48_1, g_48_2, s_48_2, g_48_3, g_48_4, g_48_5, g_48_6, g_48_7, s_48_7, g_48_8, g_48_9, g_48_10, g_48_11, g_48_12, g_48_13, m_ofJob hM]
        exact part2
      · have e3 : ma (A 49) J M (mm (A 49) J M n) n = mm (A 49) J M n := by unfold ma; rw [if_neg (by omega)]
        rw [e3] at part2
        simp (disch := omega) only [r120_5, r120_6, r120_9, r120_10, r120_11, r120_14, r120_17, r120_18, r120_19, r120_22, r120_23, r120_26, r120_27, r120_28, r120_31, r120_34, r120_35, Cn_n, Cn_v, Cn_x, dp_0, dp_1, dp_2, dp_3, dp_4, okv_n, okv_i, okv_r, eq_self, true_and, and_true, Option.some.injEq, exists_eq_left', rgT, ixT, ixU, ↓if_pos, ↓if_neg, Int.toNat_natCast, bT0, bT1, g_48_0, s_48_0, g_48_1, s_48_1, g_48_2, s_48_2, g_48_3, g_48_4, g_48_5, g_48_6, g_48_7, s_48_7, g_48_8, g_48_9, g_48_10, g_48_11, g_48_12, g_48_13, m_ofJob hM]
        exact part2
    · have e3 : ma (A 49) J M (mm (A 49) J M n) n = mm (A 49) J M n := by unfold ma; rw [if_neg (by omega)]
      rw [e3] at part2
      simp (disch := omega) only [r120_5, r120_6, r120_9, r120_10, r120_11, r120_14, r120_17, r120_18, r120_19, r120_22, r120_23, r120_26, r120_27, r120_28, r120_31, r120_34, r120_35, Cn_n, Cn_v, Cn_x, dp_0, dp_1, dp_2, dp_3, dp_4, okv_n, okv_i, okv_r, eq_self, true_and, and_true, Option.some.injEq, exists_eq_left', rgT, ixT, ixU, ↓if_pos, ↓if_neg, Int.toNat_natCast, bT0, bT1, g_48_0, s_48_0, g_48_1, s_48_1, g_48_2, s_48_2, g_48_3, g_48_4, g_48_5, g_48_6, g_48_7, s_48_7, g_48_8, g_48_9, g_48_10, g_48_11, g_48_12, g_48_13, m_ofJob hM]
      exact part2
  · rw [r120_4, mm_bnd hJ5 hM5]
    simp (disch := omega) only [r120_0, r120_1, r120_2, r120_3, r120_5, r120_6, r120_9, r120_10, r120_11, r120_14, r120_17, r120_18, r120_19, r120_22, r120_23, r120_26, r120_27, r120_28, r120_31, r120_34, r120_35, r120_36, r120_37, r120_38, r120_41, r120_44, r120_45, r120_46, r120_49, r120_50, r120_53, r120_54, r120_55, r120_58, r120_61, r120_62, r120_63, r120_66, r120_69, r120_70, Cn_n, Cn_v, Cn_x, dp_0, dp_1, dp_2, dp_3, dp_4, okv_n, okv_i, okv_r, eq_self, true_and, and_true, Option.some.injEq, exists_eq_left', rgT, ixT, ixU, ↓if_pos, ↓if_neg, Int.toNat_natCast, bT0, bT1, g_48_0, s_48_0, g_48_1, s_48_1, g_48_2, s_48_2, g_48_3, g_48_4, g_48_5, g_48_6, g_48_7, s_48_7, g_48_8, g_48_9, g_48_10, g_48_11, g_48_12, g_48_13]
end MODEL
