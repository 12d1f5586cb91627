/-! the model's questions about dispatching -/
section DISM
variable {A : Nat → Nat → Int} {F : Nat → Int} {q : List Int × Nat} {i j v now : Int} {Q : AR → Prop} {J M m n : Nat}
theorem md_dense (ht : TOK (A 49)) (hJ : F 769 = J) (hM : F 770 = M) (hJ5 : J ≤ 5) (hM5 : M ≤ 5) : Ew 155 [vR 48, .inl 1] (mk A F q) Q ↔ Q (.inl (some (.inl (imax (dclo (A 49) J M false 26 0 ds0).2.2 0 5))), mk (hmd A (dclo (A 49) J M false 26 0 ds0).1 (dclo (A 49) J M false 26 0 ds0).2.1 (dclo (A 49) J M false 26 0 ds0).2.2) F q) := by
  have h9 := @md_go A F q Q J M false ht hJ hM hJ5 hM5 (fun h => by cases h)
  simp only [Bool.false_eq_true, if_false] at h9
  exact h9
theorem md_alter (ht : TOK (A 49)) (hJ : F 769 = J) (hM : F 770 = M) (hJ5 : J ≤ 5) (hM2 : M ≤ 2) : Ew 155 [vR 48, .inl 0] (mk A F q) Q ↔ Q (.inl (some (.inl (imax (dclo (A 49) J M true 26 0 ds0).2.2 0 5))), mk (hmd A (dclo (A 49) J M true 26 0 ds0).1 (dclo (A 49) J M true 26 0 ds0).2.1 (dclo (A 49) J M true 26 0 ds0).2.2) F q) := by
  have h9 := @md_go A F q Q J M true ht hJ hM hJ5 (by omega) (fun _ => hM2)
  simp only [if_true] at h9
  exact h9
theorem m_denseLength (ht : TOK (A 49)) (hJ : F 769 = J) (hM : F 770 = M) (hJ5 : J ≤ 5) (hM5 : M ≤ 5) : Ew 156 [vR 48] (mk A F q) Q ↔ Q (.inl (some (.inl (imax (dclo (A 49) J M false 26 0 ds0).2.2 0 5))), mk (hmd A (dclo (A 49) J M false 26 0 ds0).1 (dclo (A 49) J M false 26 0 ds0).2.1 (dclo (A 49) J M false 26 0 ds0).2.2) (uf F 768 0) q) := by
  unfold Ew
  rw [rc_156 g_48_0, lc_156]
  simp (disch := omega) only [r156_0, r156_1, r156_2, r156_5, r156_6, r156_7, r156_10, Cn_n, Cn_v, Cn_x, dp_0, dp_1, dp_2, dp_3, dp_4, okv_n, okv_i, okv_r, eq_self, true_and, and_true, Option.some.injEq, exists_eq_left', rgT, ixT, ixU, ↓if_pos, ↓if_neg, Int.toNat_natCast, bT0, bT1, g_48_0, s_48_0, g_48_1, s_48_1, g_48_2, s_48_2, g_48_3, g_48_4, g_48_5, g_48_6, g_48_7, s_48_7, g_48_8, g_48_9, g_48_10, g_48_11, g_48_12, g_48_13, md_dense ht (mJ8 hJ) (mM8 hM) hJ5 hM5]
theorem m_denseStart (ht : TOK (A 49)) (hJ : F 769 = J) (hM : F 770 = M) (hJ5 : J ≤ 5) (hM5 : M ≤ 5) (h0 : 0 ≤ i) (h1 : i < J) (h2 : 0 ≤ j) (h3 : j < M) : Ew 157 [vR 48, .inl i, .inl j] (mk A F q) Q ↔ Q (.inl (some (.inl ((dclo (A 49) J M false 26 0 ds0).1 (5 * i.toNat + j.toNat)))), mk (hmd A (dclo (A 49) J M false 26 0 ds0).1 (dclo (A 49) J M false 26 0 ds0).2.1 (dclo (A 49) J M false 26 0 ds0).2.2) (uf F 768 0) q) := by
  unfold Ew
  rw [rc_157 g_48_0 rfl rfl, lc_157]
  simp (disch := omega) only [r157_0, r157_1, r157_2, r157_3, r157_6, r157_9, r157_10, r157_11, r157_12, r157_13, r157_16, r157_17, r157_18, r157_21, r157_22, r157_23, r157_24, r157_25, r157_26, r157_27, Cn_n, Cn_v, Cn_x, dp_0, dp_1, dp_2, dp_3, dp_4, okv_n, okv_i, okv_r, eq_self, true_and, and_true, Option.some.injEq, exists_eq_left', rgT, ixT, ixU, ↓if_pos, ↓if_neg, Int.toNat_natCast, bT0, bT1, g_48_0, s_48_0, g_48_1, s_48_1, g_48_2, s_48_2, g_48_3, g_48_4, g_48_5, g_48_6, g_48_7, s_48_7, g_48_8, g_48_9, g_48_10, g_48_11, g_48_12, g_48_13, a_54, b_54, d_54, m_isPlace hJ hM, md_dense ht (mJ8 hJ) (mM8 hM) hJ5 hM5, hm_54, tab_len, tab_get, ix5]
theorem m_denseStartx (hJ : F 769 = J) (hM : F 770 = M) (hJ5 : J ≤ 5) (hM5 : M ≤ 5) (hi : rg i) (hj : rg j) (h0 : i < 0 ∨ J ≤ i ∨ j < 0 ∨ M ≤ j) : Ew 157 [vR 48, .inl i, .inl j] (mk A F q) Q ↔ Q (.inl (some (.inl 0)), mk A (uf F 768 1) q) := by
  unfold Ew
  rw [rc_157 g_48_0 rfl rfl, lc_157]
  simp (disch := omega) only [r157_0, r157_1, r157_2, r157_3, r157_6, r157_9, r157_10, r157_11, r157_12, r157_13, r157_16, r157_17, r157_18, r157_21, r157_22, r157_23, r157_24, r157_25, r157_26, r157_27, Cn_n, Cn_v, Cn_x, dp_0, dp_1, dp_2, dp_3, dp_4, okv_n, okv_i, okv_r, eq_self, true_and, and_true, Option.some.injEq, exists_eq_left', rgT, ixT, ixU, ↓if_pos, ↓if_neg, Int.toNat_natCast, bT0, bT1, g_48_0, s_48_0, g_48_1, s_48_1, g_48_2, s_48_2, g_48_3, g_48_4, g_48_5, g_48_6, g_48_7, s_48_7, g_48_8, g_48_9, g_48_10, g_48_11, g_48_12, g_48_13, m_isPlacex hJ hM hJ5 hM5 hi hj]
theorem m_alterLength (ht : TOK (A 49)) (hJ : F 769 = J) (hM : F 770 = M) (hJ5 : J ≤ 5) (hM5 : M = 2) : Ew 158 [vR 48] (mk A F q) Q ↔ Q (.inl (some (.inl (imax (dclo (A 49) J M true 26 0 ds0).2.2 0 5))), mk (hmd A (dclo (A 49) J M true 26 0 ds0).1 (dclo (A 49) J M true 26 0 ds0).2.1 (dclo (A 49) J M true 26 0 ds0).2.2) (uf F 768 0) q) := by
  unfold Ew
  rw [rc_158 g_48_0, lc_158]
  simp (disch := omega) only [r158_0, r158_1, r158_2, r158_5, r158_6, r158_9, r158_10, r158_13, r158_14, r158_17, r158_20, r158_21, r158_22, r158_25, r158_28, r158_29, Cn_n, Cn_v, Cn_x, dp_0, dp_1, dp_2, dp_3, dp_4, okv_n, okv_i, okv_r, eq_self, true_and, and_true, Option.some.injEq, exists_eq_left', rgT, ixT, ixU, ↓if_pos, ↓if_neg, Int.toNat_natCast, bT0, bT1, g_48_0, s_48_0, g_48_1, s_48_1, g_48_2, s_48_2, g_48_3, g_48_4, g_48_5, g_48_6, g_48_7, s_48_7, g_48_8, g_48_9, g_48_10, g_48_11, g_48_12, g_48_13, m_holds, md_alter ht (mJ8 hJ) (mM8 hM) hJ5 (show M ≤ 2 by omega)]
theorem m_alterLengthx (hM : F 770 = M) (hM5 : M ≤ 5) (h : M ≠ 2) : Ew 158 [vR 48] (mk A F q) Q ↔ Q (.inl (some (.inl 0)), mk A (uf F 768 1) q) := by
  have o1 : rg 1 := ⟨by decide, by decide⟩
  have o2 : (1 : Int) ≠ 0 := by decide
  unfold Ew
  rw [rc_158 g_48_0, lc_158]
  simp (disch := omega) only [r158_0, r158_1, r158_2, r158_5, r158_6, r158_9, r158_10, r158_13, r158_14, r158_17, r158_20, r158_21, r158_22, r158_25, r158_28, r158_29, Cn_n, Cn_v, Cn_x, dp_0, dp_1, dp_2, dp_3, dp_4, okv_n, okv_i, okv_r, eq_self, true_and, and_true, Option.some.injEq, exists_eq_left', rgT, ixT, ixU, ↓if_pos, ↓if_neg, Int.toNat_natCast, bT0, bT1, g_48_0, s_48_0, g_48_1, s_48_1, g_48_2, s_48_2, g_48_3, g_48_4, g_48_5, g_48_6, g_48_7, s_48_7, g_48_8, g_48_9, g_48_10, g_48_11, g_48_12, g_48_13, m_holdsx o1 o2]
theorem m_alterStart (ht : TOK (A 49)) (hJ : F 769 = J) (hM : F 770 = M) (hJ5 : J ≤ 5) (hM5 : M = 2) (h0 : 0 ≤ i) (h1 : i < J) (h2 : 0 ≤ j) (h3 : j < M) : Ew 159 [vR 48, .inl i, .inl j] (mk A F q) Q ↔ Q (.inl (some (.inl ((dclo (A 49) J M true 26 0 ds0).1 (5 * i.toNat + j.toNat)))), mk (hmd A (dclo (A 49) J M true 26 0 ds0).1 (dclo (A 49) J M true 26 0 ds0).2.1 (dclo (A 49) J M true 26 0 ds0).2.2) (uf F 768 0) q) := by
  unfold Ew
  rw [rc_159 g_48_0 rfl rfl, lc_159]
  simp (disch := omega) only [r159_0, r159_1, r159_2, r159_5, r159_8, r159_9, r159_10, r159_13, r159_16, r159_17, r159_20, r159_21, r159_22, r159_23, r159_24, r159_27, r159_28, r159_31, r159_32, r159_35, r159_36, r159_39, r159_40, r159_43, r159_44, r159_47, r159_50, r159_51, r159_52, r159_53, r159_54, r159_57, r159_59, r159_60, r159_63, r159_64, r159_65, r159_66, r159_67, r159_68, r159_69, Cn_n, Cn_v, Cn_x, dp_0, dp_1, dp_2, dp_3, dp_4, okv_n, okv_i, okv_r, eq_self, true_and, and_true, Option.some.injEq, exists_eq_left', rgT, ixT, ixU, ↓if_pos, ↓if_neg, Int.toNat_natCast, bT0, bT1, g_48_0, s_48_0, g_48_1, s_48_1, g_48_2, s_48_2, g_48_3, g_48_4, g_48_5, g_48_6, g_48_7, s_48_7, g_48_8, g_48_9, g_48_10, g_48_11, g_48_12, g_48_13, a_54, b_54, d_54, m_isJob hJ, m_isMac hM, m_holds, md_alter ht (mJ8 hJ) (mM8 hM) hJ5 (show M ≤ 2 by omega), hm_54, tab_len, tab_get, ix5]
theorem m_alterStartx (hJ : F 769 = J) (hM : F 770 = M) (hJ5 : J ≤ 5) (hM5 : M ≤ 5) (hi : rg i) (hj : rg j) (h0 : i < 0 ∨ J ≤ i ∨ j < 0 ∨ M ≤ j) : Ew 159 [vR 48, .inl i, .inl j] (mk A F q) Q ↔ Q (.inl (some (.inl 0)), mk A (uf F 768 1) q) := by
  have o1 : rg 1 := ⟨by decide, by decide⟩
  have o2 : (1 : Int) ≠ 0 := by decide
  unfold Ew
  rw [rc_159 g_48_0 rfl rfl, lc_159]
  by_cases k1 : 0 ≤ i ∧ i < J
  · simp (disch := omega) only [r159_0, r159_1, r159_2, r159_5, r159_8, r159_9, r159_10, r159_13, r159_16, r159_17, r159_20, r159_21, r159_22, r159_23, r159_24, r159_27, r159_28, r159_31, r159_32, r159_35, r159_36, r159_39, r159_40, r159_43, r159_44, r159_47, r159_50, r159_51, r159_52, r159_53, r159_54, r159_57, r159_59, r159_60, r159_63, r159_64, r159_65, r159_66, r159_67, r159_68, r159_69, Cn_n, Cn_v, Cn_x, dp_0, dp_1, dp_2, dp_3, dp_4, okv_n, okv_i, okv_r, eq_self, true_and, and_true, Option.some.injEq, exists_eq_left', rgT, ixT, ixU, ↓if_pos, ↓if_neg, Int.toNat_natCast, bT0, bT1, g_48_0, s_48_0, g_48_1, s_48_1, g_48_2, s_48_2, g_48_3, g_48_4, g_48_5, g_48_6, g_48_7, s_48_7, g_48_8, g_48_9, g_48_10, g_48_11, g_48_12, g_48_13, m_isJob hJ, m_isMacx hM hM5 hj, m_holdsx o1 o2]
  · simp (disch := omega) only [r159_0, r159_1, r159_2, r159_5, r159_8, r159_9, r159_10, r159_13, r159_16, r159_17, r159_20, r159_21, r159_22, r159_23, r159_24, r159_27, r159_28, r159_31, r159_32, r159_35, r159_36, r159_39, r159_40, r159_43, r159_44, r159_47, r159_50, r159_51, r159_52, r159_53, r159_54, r159_57, r159_59, r159_60, r159_63, r159_64, r159_65, r159_66, r159_67, r159_68, r159_69, Cn_n, Cn_v, Cn_x, dp_0, dp_1, dp_2, dp_3, dp_4, okv_n, okv_i, okv_r, eq_self, true_and, and_true, Option.some.injEq, exists_eq_left', rgT, ixT, ixU, ↓if_pos, ↓if_neg, Int.toNat_natCast, bT0, bT1, g_48_0, s_48_0, g_48_1, s_48_1, g_48_2, s_48_2, g_48_3, g_48_4, g_48_5, g_48_6, g_48_7, s_48_7, g_48_8, g_48_9, g_48_10, g_48_11, g_48_12, g_48_13, m_isJobx hJ hJ5 hi, m_holdsx o1 o2]
theorem m_alterStarty (hJ : F 769 = J) (hM : F 770 = M) (hJ5 : J ≤ 5) (hM5 : M ≤ 5) (h0 : 0 ≤ i) (h1 : i < J) (h2 : 0 ≤ j) (h3 : j < M) (h : M ≠ 2) : Ew 159 [vR 48, .inl i, .inl j] (mk A F q) Q ↔ Q (.inl (some (.inl 0)), mk A (uf F 768 2) q) := by
  have o1 : rg 2 := ⟨by decide, by decide⟩
  have o2 : (2 : Int) ≠ 0 := by decide
  unfold Ew
  rw [rc_159 g_48_0 rfl rfl, lc_159]
  simp (disch := omega) only [r159_0, r159_1, r159_2, r159_5, r159_8, r159_9, r159_10, r159_13, r159_16, r159_17, r159_20, r159_21, r159_22, r159_23, r159_24, r159_27, r159_28, r159_31, r159_32, r159_35, r159_36, r159_39, r159_40, r159_43, r159_44, r159_47, r159_50, r159_51, r159_52, r159_53, r159_54, r159_57, r159_59, r159_60, r159_63, r159_64, r159_65, r159_66, r159_67, r159_68, r159_69, Cn_n, Cn_v, Cn_x, dp_0, dp_1, dp_2, dp_3, dp_4, okv_n, okv_i, okv_r, eq_self, true_and, and_true, Option.some.injEq, exists_eq_left', rgT, ixT, ixU, ↓if_pos, ↓if_neg, Int.toNat_natCast, bT0, bT1, g_48_0, s_48_0, g_48_1, s_48_1, g_48_2, s_48_2, g_48_3, g_48_4, g_48_5, g_48_6, g_48_7, s_48_7, g_48_8, g_48_9, g_48_10, g_48_11, g_48_12, g_48_13, m_isJob hJ, m_isMac hM, m_holdsx o1 o2]
end DISM
