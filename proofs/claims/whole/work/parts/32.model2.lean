/-! the model's commands and questions over its table -/
theorem mk_49 {A : Nat → Nat → Int} {F : Nat → Int} {q : List Int × Nat} {f g : Nat → Int} (h : ∀ k, k < 25 → f k = g k) : mk (ua A 49 f) F q = mk (ua A 49 g) F q := by
  rw [← b_49 (f := f), ← b_49 (f := g), tab_congr h]
theorem d_49u {A : Nat → Nat → Int} {F : Nat → Int} {q : List Int × Nat} {f : Nat → Int} {i : Nat} {v : Int} : sa (mk (ua A 49 f) F q) 49 0 ((tab 25 f).set i v) = mk (ua A 49 (uq f i v)) F q := by
  have h9 := @d_49 (ua A 49 f) F q i v
  rw [ua_s] at h9
  rw [h9, u2, ua_s, ua_ua]
section MODEL
variable {A : Nat → Nat → Int} {F : Nat → Int} {q : List Int × Nat} {i j v n : Int} {Q : AR → Prop} {J M : Nat}
theorem mJ8 {v : Int} (hJ : F 769 = J) : uf F 768 v 769 = J := by rw [uf_n (by decide)]; exact hJ
theorem mM8 {v : Int} (hM : F 770 = M) : uf F 768 v 770 = M := by rw [uf_n (by decide)]; exact hM
theorem m_jobs : Ew 127 [vR 48] (mk A F q) Q ↔ Q (.inl (some (.inl (F 769))), mk A (uf F 768 0) q) := by
  have e1 : uf F 768 0 769 = F 769 := uf_n (by decide)
  unfold Ew
  rw [rc_127 g_48_0, lc_127]
  simp (disch := omega) only [r127_0, r127_1, r127_2, r127_5, r127_6, r127_9, Cn_n, Cn_v, Cn_x, dp_0, dp_1, dp_2, dp_3, dp_4, okv_n, okv_i, okv_r, eq_self, true_and, and_true, Option.some.injEq, exists_eq_left', rgT, ixT, ixU, ↓if_pos, ↓if_neg, Int.toNat_natCast, bT0, bT1, g_48_0, s_48_0, g_48_1, s_48_1, g_48_2, s_48_2, g_48_3, g_48_4, g_48_5, g_48_6, g_48_7, s_48_7, g_48_8, g_48_9, g_48_10, g_48_11, g_48_12, g_48_13, e1]
theorem m_machines : Ew 128 [vR 48] (mk A F q) Q ↔ Q (.inl (some (.inl (F 770))), mk A (uf F 768 0) q) := by
  have e1 : uf F 768 0 770 = F 770 := uf_n (by decide)
  unfold Ew
  rw [rc_128 g_48_0, lc_128]
  simp (disch := omega) only [r128_0, r128_1, r128_2, r128_5, r128_6, r128_9, Cn_n, Cn_v, Cn_x, dp_0, dp_1, dp_2, dp_3, dp_4, okv_n, okv_i, okv_r, eq_self, true_and, and_true, Option.some.injEq, exists_eq_left', rgT, ixT, ixU, ↓if_pos, ↓if_neg, Int.toNat_natCast, bT0, bT1, g_48_0, s_48_0, g_48_1, s_48_1, g_48_2, s_48_2, g_48_3, g_48_4, g_48_5, g_48_6, g_48_7, s_48_7, g_48_8, g_48_9, g_48_10, g_48_11, g_48_12, g_48_13, e1]
theorem m_isPlace (hJ : F 769 = J) (hM : F 770 = M) (hJ5 : J ≤ 5) (hM5 : M ≤ 5) (h0 : 0 ≤ i) (h1 : i < J) (h2 : 0 ≤ j) (h3 : j < M) : Ew 129 [vR 48, .inl i, .inl j] (mk A F q) Q ↔ Q (.inl (some (.inl 1)), mk A (uf F 768 0) q) := by
  unfold Ew
  rw [rc_129 g_48_0 rfl rfl, lc_129]
  simp (disch := omega) only [r129_0, r129_1, r129_2, r129_3, r129_6, r129_9, r129_10, r129_11, r129_14, r129_17, r129_18, r129_21, r129_22, r129_25, Cn_n, Cn_v, Cn_x, dp_0, dp_1, dp_2, dp_3, dp_4, okv_n, okv_i, okv_r, eq_self, true_and, and_true, Option.some.injEq, exists_eq_left', rgT, ixT, ixU, ↓if_pos, ↓if_neg, Int.toNat_natCast, bT0, bT1, g_48_0, s_48_0, g_48_1, s_48_1, g_48_2, s_48_2, g_48_3, g_48_4, g_48_5, g_48_6, g_48_7, s_48_7, g_48_8, g_48_9, g_48_10, g_48_11, g_48_12, g_48_13, m_isJob hJ, m_isMac hM, m_holds]
theorem m_isPlacex (hJ : F 769 = J) (hM : F 770 = M) (hJ5 : J ≤ 5) (hM5 : M ≤ 5) (hi : rg i) (hj : rg j) (h0 : i < 0 ∨ J ≤ i ∨ j < 0 ∨ M ≤ j) : Ew 129 [vR 48, .inl i, .inl j] (mk A F q) Q ↔ Q (.inl (some (.inl 0)), mk A (uf F 768 1) q) := by
  have o1 : rg 1 := ⟨by decide, by decide⟩
  have o2 : (1 : Int) ≠ 0 := by decide
  unfold Ew
  rw [rc_129 g_48_0 rfl rfl, lc_129]
  by_cases c1 : 0 ≤ i ∧ i < J
  · simp (disch := omega) only [r129_0, r129_1, r129_2, r129_3, r129_6, r129_9, r129_10, r129_11, r129_14, r129_17, r129_18, r129_21, r129_22, r129_25, Cn_n, Cn_v, Cn_x, dp_0, dp_1, dp_2, dp_3, dp_4, okv_n, okv_i, okv_r, eq_self, true_and, and_true, Option.some.injEq, exists_eq_left', rgT, ixT, ixU, ↓if_pos, ↓if_neg, Int.toNat_natCast, bT0, bT1, g_48_0, s_48_0, g_48_1, s_48_1, g_48_2, s_48_2, g_48_3, g_48_4, g_48_5, g_48_6, g_48_7, s_48_7, g_48_8, g_48_9, g_48_10, g_48_11, g_48_12, g_48_13, m_isJob hJ, m_isMacx hM hM5 hj, m_holdsx o1 o2]
  · simp (disch := omega) only [r129_0, r129_1, r129_2, r129_3, r129_6, r129_9, r129_10, r129_11, r129_14, r129_17, r129_18, r129_21, r129_22, r129_25, Cn_n, Cn_v, Cn_x, dp_0, dp_1, dp_2, dp_3, dp_4, okv_n, okv_i, okv_r, eq_self, true_and, and_true, Option.some.injEq, exists_eq_left', rgT, ixT, ixU, ↓if_pos, ↓if_neg, Int.toNat_natCast, bT0, bT1, g_48_0, s_48_0, g_48_1, s_48_1, g_48_2, s_48_2, g_48_3, g_48_4, g_48_5, g_48_6, g_48_7, s_48_7, g_48_8, g_48_9, g_48_10, g_48_11, g_48_12, g_48_13, m_isJobx hJ hJ5 hi, m_holdsx o1 o2]
theorem m_time (hJ : F 769 = J) (hM : F 770 = M) (hJ5 : J ≤ 5) (hM5 : M ≤ 5) (h0 : 0 ≤ i) (h1 : i < J) (h2 : 0 ≤ j) (h3 : j < M) : Ew 130 [vR 48, .inl i, .inl j] (mk A F q) Q ↔ Q (.inl (some (.inl (A 49 (5 * i.toNat + j.toNat)))), mk A (uf F 768 0) q) := by
  unfold Ew
  rw [rc_130 g_48_0 rfl rfl, lc_130]
  simp (disch := omega) only [r130_0, r130_1, r130_2, r130_3, r130_6, r130_9, r130_10, r130_11, r130_12, r130_15, r130_18, r130_19, Cn_n, Cn_v, Cn_x, dp_0, dp_1, dp_2, dp_3, dp_4, okv_n, okv_i, okv_r, eq_self, true_and, and_true, Option.some.injEq, exists_eq_left', rgT, ixT, ixU, ↓if_pos, ↓if_neg, Int.toNat_natCast, bT0, bT1, g_48_0, s_48_0, g_48_1, s_48_1, g_48_2, s_48_2, g_48_3, g_48_4, g_48_5, g_48_6, g_48_7, s_48_7, g_48_8, g_48_9, g_48_10, g_48_11, g_48_12, g_48_13, m_isPlace hJ hM, m_at]
theorem m_timex (hJ : F 769 = J) (hM : F 770 = M) (hJ5 : J ≤ 5) (hM5 : M ≤ 5) (hi : rg i) (hj : rg j) (h0 : i < 0 ∨ J ≤ i ∨ j < 0 ∨ M ≤ j) : Ew 130 [vR 48, .inl i, .inl j] (mk A F q) Q ↔ Q (.inl (some (.inl 0)), mk A (uf F 768 1) q) := by
  unfold Ew
  rw [rc_130 g_48_0 rfl rfl, lc_130]
  simp (disch := omega) only [r130_0, r130_1, r130_2, r130_3, r130_6, r130_9, r130_10, r130_11, r130_12, r130_15, r130_18, r130_19, Cn_n, Cn_v, Cn_x, dp_0, dp_1, dp_2, dp_3, dp_4, okv_n, okv_i, okv_r, eq_self, true_and, and_true, Option.some.injEq, exists_eq_left', rgT, ixT, ixU, ↓if_pos, ↓if_neg, Int.toNat_natCast, bT0, bT1, g_48_0, s_48_0, g_48_1, s_48_1, g_48_2, s_48_2, g_48_3, g_48_4, g_48_5, g_48_6, g_48_7, s_48_7, g_48_8, g_48_9, g_48_10, g_48_11, g_48_12, g_48_13, m_isPlacex hJ hM hJ5 hM5 hi hj]
theorem m_jobTotal (hJ : F 769 = J) (hM : F 770 = M) (hJ5 : J ≤ 5) (hM5 : M ≤ 5) (h0 : 0 ≤ i) (h1 : i < J) : Ew 131 [vR 48, .inl i] (mk A F q) Q ↔ Q (.inl (some (.inl (rowS (A 49) M i.toNat))), mk A (uf F 768 0) q) := by
  unfold Ew
  rw [rc_131 g_48_0 rfl, lc_131]
  simp (disch := omega) only [r131_0, r131_1, r131_2, r131_3, r131_6, r131_9, r131_10, r131_13, r131_14, r131_17, r131_20, r131_21, r131_22, r131_25, r131_28, r131_29, Cn_n, Cn_v, Cn_x, dp_0, dp_1, dp_2, dp_3, dp_4, okv_n, okv_i, okv_r, eq_self, true_and, and_true, Option.some.injEq, exists_eq_left', rgT, ixT, ixU, ↓if_pos, ↓if_neg, Int.toNat_natCast, bT0, bT1, g_48_0, s_48_0, g_48_1, s_48_1, g_48_2, s_48_2, g_48_3, g_48_4, g_48_5, g_48_6, g_48_7, s_48_7, g_48_8, g_48_9, g_48_10, g_48_11, g_48_12, g_48_13, m_isJob hJ, m_holds, m_ofJob (mM8 hM)]
theorem m_jobTotalx (hJ : F 769 = J) (hJ5 : J ≤ 5) (hi : rg i) (h0 : i < 0 ∨ J ≤ i) : Ew 131 [vR 48, .inl i] (mk A F q) Q ↔ Q (.inl (some (.inl 0)), mk A (uf F 768 1) q) := by
  have o1 : rg 1 := ⟨by decide, by decide⟩
  have o2 : (1 : Int) ≠ 0 := by decide
  unfold Ew
  rw [rc_131 g_48_0 rfl, lc_131]
  simp (disch := omega) only [r131_0, r131_1, r131_2, r131_3, r131_6, r131_9, r131_10, r131_13, r131_14, r131_17, r131_20, r131_21, r131_22, r131_25, r131_28, r131_29, Cn_n, Cn_v, Cn_x, dp_0, dp_1, dp_2, dp_3, dp_4, okv_n, okv_i, okv_r, eq_self, true_and, and_true, Option.some.injEq, exists_eq_left', rgT, ixT, ixU, ↓if_pos, ↓if_neg, Int.toNat_natCast, bT0, bT1, g_48_0, s_48_0, g_48_1, s_48_1, g_48_2, s_48_2, g_48_3, g_48_4, g_48_5, g_48_6, g_48_7, s_48_7, g_48_8, g_48_9, g_48_10, g_48_11, g_48_12, g_48_13, m_isJobx hJ hJ5 hi, m_holdsx o1 o2]
theorem m_machineTotal (hJ : F 769 = J) (hM : F 770 = M) (hJ5 : J ≤ 5) (hM5 : M ≤ 5) (h0 : 0 ≤ i) (h1 : i < M) : Ew 132 [vR 48, .inl i] (mk A F q) Q ↔ Q (.inl (some (.inl (colS (A 49) J i.toNat))), mk A (uf F 768 0) q) := by
  unfold Ew
  rw [rc_132 g_48_0 rfl, lc_132]
  simp (disch := omega) only [r132_0, r132_1, r132_2, r132_3, r132_6, r132_9, r132_10, r132_13, r132_14, r132_17, r132_20, r132_21, r132_22, r132_25, r132_28, r132_29, Cn_n, Cn_v, Cn_x, dp_0, dp_1, dp_2, dp_3, dp_4, okv_n, okv_i, okv_r, eq_self, true_and, and_true, Option.some.injEq, exists_eq_left', rgT, ixT, ixU, ↓if_pos, ↓if_neg, Int.toNat_natCast, bT0, bT1, g_48_0, s_48_0, g_48_1, s_48_1, g_48_2, s_48_2, g_48_3, g_48_4, g_48_5, g_48_6, g_48_7, s_48_7, g_48_8, g_48_9, g_48_10, g_48_11, g_48_12, g_48_13, m_isMac hM, m_holds, m_ofMac (mJ8 hJ)]
theorem m_machineTotalx (hM : F 770 = M) (hM5 : M ≤ 5) (hi : rg i) (h0 : i < 0 ∨ M ≤ i) : Ew 132 [vR 48, .inl i] (mk A F q) Q ↔ Q (.inl (some (.inl 0)), mk A (uf F 768 1) q) := by
  have o1 : rg 1 := ⟨by decide, by decide⟩
  have o2 : (1 : Int) ≠ 0 := by decide
  unfold Ew
  rw [rc_132 g_48_0 rfl, lc_132]
  simp (disch := omega) only [r132_0, r132_1, r132_2, r132_3, r132_6, r132_9, r132_10, r132_13, r132_14, r132_17, r132_20, r132_21, r132_22, r132_25, r132_28, r132_29, Cn_n, Cn_v, Cn_x, dp_0, dp_1, dp_2, dp_3, dp_4, okv_n, okv_i, okv_r, eq_self, true_and, and_true, Option.some.injEq, exists_eq_left', rgT, ixT, ixU, ↓if_pos, ↓if_neg, Int.toNat_natCast, bT0, bT1, g_48_0, s_48_0, g_48_1, s_48_1, g_48_2, s_48_2, g_48_3, g_48_4, g_48_5, g_48_6, g_48_7, s_48_7, g_48_8, g_48_9, g_48_10, g_48_11, g_48_12, g_48_13, m_isMacx hM hM5 hi, m_holdsx o1 o2]
theorem m_total (hJ : F 769 = J) (hM : F 770 = M) (hJ5 : J ≤ 5) (hM5 : M ≤ 5) : Ew 133 [vR 48] (mk A F q) Q ↔ Q (.inl (some (.inl (allS (A 49) J M))), mk A (uf F 768 0) q) := by
  unfold Ew
  rw [rc_133 g_48_0, lc_133]
  simp (disch := omega) only [r133_0, r133_1, r133_2, r133_5, r133_6, r133_9, Cn_n, Cn_v, Cn_x, dp_0, dp_1, dp_2, dp_3, dp_4, okv_n, okv_i, okv_r, eq_self, true_and, and_true, Option.some.injEq, exists_eq_left', rgT, ixT, ixU, ↓if_pos, ↓if_neg, Int.toNat_natCast, bT0, bT1, g_48_0, s_48_0, g_48_1, s_48_1, g_48_2, s_48_2, g_48_3, g_48_4, g_48_5, g_48_6, g_48_7, s_48_7, g_48_8, g_48_9, g_48_10, g_48_11, g_48_12, g_48_13, m_all (mJ8 hJ) (mM8 hM)]
theorem m_bound (hJ : F 769 = J) (hM : F 770 = M) (hJ5 : J ≤ 5) (hM5 : M ≤ 5) (ht : TOK (A 49)) : Ew 134 [vR 48] (mk A F q) Q ↔ Q (.inl (some (.inl (bnd (A 49) J M))), mk A (uf F 768 0) q) := by
  unfold Ew
  rw [rc_134 g_48_0, lc_134]
  simp (disch := omega) only [r134_0, r134_1, r134_2, r134_5, r134_6, r134_9, Cn_n, Cn_v, Cn_x, dp_0, dp_1, dp_2, dp_3, dp_4, okv_n, okv_i, okv_r, eq_self, true_and, and_true, Option.some.injEq, exists_eq_left', rgT, ixT, ixU, ↓if_pos, ↓if_neg, Int.toNat_natCast, bT0, bT1, g_48_0, s_48_0, g_48_1, s_48_1, g_48_2, s_48_2, g_48_3, g_48_4, g_48_5, g_48_6, g_48_7, s_48_7, g_48_8, g_48_9, g_48_10, g_48_11, g_48_12, g_48_13, m_most (mJ8 hJ) (mM8 hM) hJ5 hM5 ht]
theorem m_boundByFlow (hJ : F 769 = J) (hM : F 770 = M) (hJ5 : J ≤ 5) (hM5 : M ≤ 5) (ht : TOK (A 49)) : Ew 135 [vR 48] (mk A F q) Q ↔ Q (.inl (some (.inl (bnd (A 49) J M))), mk A (uf F 768 0) q) := by
  unfold Ew
  rw [rc_135 g_48_0, lc_135]
  simp (disch := omega) only [r135_0, r135_1, r135_2, r135_5, r135_6, r135_9, Cn_n, Cn_v, Cn_x, dp_0, dp_1, dp_2, dp_3, dp_4, okv_n, okv_i, okv_r, eq_self, true_and, and_true, Option.some.injEq, exists_eq_left', rgT, ixT, ixU, ↓if_pos, ↓if_neg, Int.toNat_natCast, bT0, bT1, g_48_0, s_48_0, g_48_1, s_48_1, g_48_2, s_48_2, g_48_3, g_48_4, g_48_5, g_48_6, g_48_7, s_48_7, g_48_8, g_48_9, g_48_10, g_48_11, g_48_12, g_48_13, m_most (mJ8 hJ) (mM8 hM) hJ5 hM5 ht]
theorem m_entry (hJ : F 769 = J) (hM : F 770 = M) (hJ5 : J ≤ 5) (hM5 : M ≤ 5) (ht : TOK (A 49)) (h0 : 0 ≤ i) (h1 : i < J + M) (h2 : 0 ≤ j) (h3 : j < J + M) : Ew 136 [vR 48, .inl i, .inl j] (mk A F q) Q ↔ Q (.inl (some (.inl (fe (A 49) J M i.toNat j.toNat))), mk A F q) := by
  obtain ⟨r, rfl⟩ : ∃ r : Nat, i = r := ⟨i.toNat, by omega⟩
  obtain ⟨c, rfl⟩ : ∃ c : Nat, j = c := ⟨j.toNat, by omega⟩
  simp only [Int.toNat_natCast]
  unfold Ew
  rw [rc_136 g_48_0 rfl rfl, lc_136]
  unfold fe
  by_cases k1 : r < J
  · rw [if_pos k1]
    by_cases k2 : c < M
    · rw [if_pos k2]
      simp (disch := omega) only [r136_0, r136_1, r136_2, r136_5, r136_8, r136_9, r136_10, r136_13, r136_16, r136_17, r136_18, r136_19, r136_22, r136_25, r136_26, r136_27, r136_30, r136_31, r136_32, r136_35, r136_36, r136_39, r136_40, r136_41, r136_44, r136_45, r136_48, r136_49, r136_50, r136_51, r136_52, r136_55, r136_58, r136_59, r136_60, r136_63, r136_64, r136_65, r136_68, r136_69, r136_72, r136_73, r136_74, r136_77, r136_78, r136_81, r136_82, r136_85, r136_86, r136_87, r136_88, r136_91, r136_92, r136_93, r136_94, r136_97, r136_98, r136_101, Cn_n, Cn_v, Cn_x, dp_0, dp_1, dp_2, dp_3, dp_4, okv_n, okv_i, okv_r, eq_self, true_and, and_true, Option.some.injEq, exists_eq_left', rgT, ixT, ixU, ↓if_pos, ↓if_neg, Int.toNat_natCast, bT0, bT1, g_48_0, s_48_0, g_48_1, s_48_1, g_48_2, s_48_2, g_48_3, g_48_4, g_48_5, g_48_6, g_48_7, s_48_7, g_48_8, g_48_9, g_48_10, g_48_11, g_48_12, g_48_13, m_at]
    · rw [if_neg k2]
      by_cases k3 : r = c - M
      · rw [if_pos k3]
        simp (disch := omega) only [r136_0, r136_1, r136_2, r136_5, r136_8, r136_9, r136_10, r136_13, r136_16, r136_17, r136_18, r136_19, r136_22, r136_25, r136_26, r136_27, r136_30, r136_31, r136_32, r136_35, r136_36, r136_39, r136_40, r136_41, r136_44, r136_45, r136_48, r136_49, r136_50, r136_51, r136_52, r136_55, r136_58, r136_59, r136_60, r136_63, r136_64, r136_65, r136_68, r136_69, r136_72, r136_73, r136_74, r136_77, r136_78, r136_81, r136_82, r136_85, r136_86, r136_87, r136_88, r136_91, r136_92, r136_93, r136_94, r136_97, r136_98, r136_101, Cn_n, Cn_v, Cn_x, dp_0, dp_1, dp_2, dp_3, dp_4, okv_n, okv_i, okv_r, eq_self, true_and, and_true, Option.some.injEq, exists_eq_left', rgT, ixT, ixU, ↓if_pos, ↓if_neg, Int.toNat_natCast, bT0, bT1, g_48_0, s_48_0, g_48_1, s_48_1, g_48_2, s_48_2, g_48_3, g_48_4, g_48_5, g_48_6, g_48_7, s_48_7, g_48_8, g_48_9, g_48_10, g_48_11, g_48_12, g_48_13, m_most hJ hM hJ5 hM5 ht, m_ofJob hM]
      · rw [if_neg k3]
        simp (disch := omega) only [r136_0, r136_1, r136_2, r136_5, r136_8, r136_9, r136_10, r136_13, r136_16, r136_17, r136_18, r136_19, r136_22, r136_25, r136_26, r136_27, r136_30, r136_31, r136_32, r136_35, r136_36, r136_39, r136_40, r136_41, r136_44, r136_45, r136_48, r136_49, r136_50, r136_51, r136_52, r136_55, r136_58, r136_59, r136_60, r136_63, r136_64, r136_65, r136_68, r136_69, r136_72, r136_73, r136_74, r136_77, r136_78, r136_81, r136_82, r136_85, r136_86, r136_87, r136_88, r136_91, r136_92, r136_93, r136_94, r136_97, r136_98, r136_101, Cn_n, Cn_v, Cn_x, dp_0, dp_1, dp_2, dp_3, dp_4, okv_n, okv_i, okv_r, eq_self, true_and, and_true, Option.some.injEq, exists_eq_left', rgT, ixT, ixU, ↓if_pos, ↓if_neg, Int.toNat_natCast, bT0, bT1, g_48_0, s_48_0, g_48_1, s_48_1, g_48_2, s_48_2, g_48_3, g_48_4, g_48_5, g_48_6, g_48_7, s_48_7, g_48_8, g_48_9, g_48_10, g_48_11, g_48_12, g_48_13]
  · rw [if_neg k1]
    by_cases k2 : c < M
    · rw [if_pos k2]
      by_cases k3 : r - J = c
      · rw [if_pos k3]
        simp (disch := omega) only [r136_0, r136_1, r136_2, r136_5, r136_8, r136_9, r136_10, r136_13, r136_16, r136_17, r136_18, r136_19, r136_22, r136_25, r136_26, r136_27, r136_30, r136_31, r136_32, r136_35, r136_36, r136_39, r136_40, r136_41, r136_44, r136_45, r136_48, r136_49, r136_50, r136_51, r136_52, r136_55, r136_58, r136_59, r136_60, r136_63, r136_64, r136_65, r136_68, r136_69, r136_72, r136_73, r136_74, r136_77, r136_78, r136_81, r136_82, r136_85, r136_86, r136_87, r136_88, r136_91, r136_92, r136_93, r136_94, r136_97, r136_98, r136_101, Cn_n, Cn_v, Cn_x, dp_0, dp_1, dp_2, dp_3, dp_4, okv_n, okv_i, okv_r, eq_self, true_and, and_true, Option.some.injEq, exists_eq_left', rgT, ixT, ixU, ↓if_pos, ↓if_neg, Int.toNat_natCast, bT0, bT1, g_48_0, s_48_0, g_48_1, s_48_1, g_48_2, s_48_2, g_48_3, g_48_4, g_48_5, g_48_6, g_48_7, s_48_7, g_48_8, g_48_9, g_48_10, g_48_11, g_48_12, g_48_13, m_most hJ hM hJ5 hM5 ht, m_ofMac hJ]
      · rw [if_neg k3]
        simp (disch := omega) only [r136_0, r136_1, r136_2, r136_5, r136_8, r136_9, r136_10, r136_13, r136_16, r136_17, r136_18, r136_19, r136_22, r136_25, r136_26, r136_27, r136_30, r136_31, r136_32, r136_35, r136_36, r136_39, r136_40, r136_41, r136_44, r136_45, r136_48, r136_49, r136_50, r136_51, r136_52, r136_55, r136_58, r136_59, r136_60, r136_63, r136_64, r136_65, r136_68, r136_69, r136_72, r136_73, r136_74, r136_77, r136_78, r136_81, r136_82, r136_85, r136_86, r136_87, r136_88, r136_91, r136_92, r136_93, r136_94, r136_97, r136_98, r136_101, Cn_n, Cn_v, Cn_x, dp_0, dp_1, dp_2, dp_3, dp_4, okv_n, okv_i, okv_r, eq_self, true_and, and_true, Option.some.injEq, exists_eq_left', rgT, ixT, ixU, ↓if_pos, ↓if_neg, Int.toNat_natCast, bT0, bT1, g_48_0, s_48_0, g_48_1, s_48_1, g_48_2, s_48_2, g_48_3, g_48_4, g_48_5, g_48_6, g_48_7, s_48_7, g_48_8, g_48_9, g_48_10, g_48_11, g_48_12, g_48_13]
    · rw [if_neg k2]
      have e1 : ((c : Int) - F 770).toNat = c - M := by omega
      have e2 : ((r : Int) - F 769).toNat = r - J := by omega
      simp (disch := omega) only [r136_0, r136_1, r136_2, r136_5, r136_8, r136_9, r136_10, r136_13, r136_16, r136_17, r136_18, r136_19, r136_22, r136_25, r136_26, r136_27, r136_30, r136_31, r136_32, r136_35, r136_36, r136_39, r136_40, r136_41, r136_44, r136_45, r136_48, r136_49, r136_50, r136_51, r136_52, r136_55, r136_58, r136_59, r136_60, r136_63, r136_64, r136_65, r136_68, r136_69, r136_72, r136_73, r136_74, r136_77, r136_78, r136_81, r136_82, r136_85, r136_86, r136_87, r136_88, r136_91, r136_92, r136_93, r136_94, r136_97, r136_98, r136_101, Cn_n, Cn_v, Cn_x, dp_0, dp_1, dp_2, dp_3, dp_4, okv_n, okv_i, okv_r, eq_self, true_and, and_true, Option.some.injEq, exists_eq_left', rgT, ixT, ixU, ↓if_pos, ↓if_neg, Int.toNat_natCast, bT0, bT1, g_48_0, s_48_0, g_48_1, s_48_1, g_48_2, s_48_2, g_48_3, g_48_4, g_48_5, g_48_6, g_48_7, s_48_7, g_48_8, g_48_9, g_48_10, g_48_11, g_48_12, g_48_13, m_at, e1, e2]
theorem m_filled (hJ : F 769 = J) (hM : F 770 = M) (hJ5 : J ≤ 5) (hM5 : M ≤ 5) (ht : TOK (A 49)) (h0 : 0 ≤ i) (h1 : i < J + M) (h2 : 0 ≤ j) (h3 : j < J + M) : Ew 137 [vR 48, .inl i, .inl j] (mk A F q) Q ↔ Q (.inl (some (.inl (fe (A 49) J M i.toNat j.toNat))), mk A (uf F 768 0) q) := by
  unfold Ew
  rw [rc_137 g_48_0 rfl rfl, lc_137]
  simp (disch := omega) only [r137_0, r137_1, r137_4, r137_5, r137_8, r137_9, r137_10, r137_11, r137_12, r137_15, r137_16, r137_17, r137_20, r137_21, r137_24, r137_25, r137_26, r137_29, r137_30, r137_33, r137_34, r137_37, r137_40, r137_41, r137_42, r137_43, r137_46, r137_49, r137_50, Cn_n, Cn_v, Cn_x, dp_0, dp_1, dp_2, dp_3, dp_4, okv_n, okv_i, okv_r, eq_self, true_and, and_true, Option.some.injEq, exists_eq_left', rgT, ixT, ixU, ↓if_pos, ↓if_neg, Int.toNat_natCast, bT0, bT1, g_48_0, s_48_0, g_48_1, s_48_1, g_48_2, s_48_2, g_48_3, g_48_4, g_48_5, g_48_6, g_48_7, s_48_7, g_48_8, g_48_9, g_48_10, g_48_11, g_48_12, g_48_13, m_holds, m_entry (mJ8 hJ) (mM8 hM) hJ5 hM5 ht]
theorem m_filledx (hJ : F 769 = J) (hM : F 770 = M) (hJ5 : J ≤ 5) (hM5 : M ≤ 5) (hi : rg i) (hj : rg j) (h0 : i < 0 ∨ (J : Int) + M ≤ i ∨ j < 0 ∨ (J : Int) + M ≤ j) : Ew 137 [vR 48, .inl i, .inl j] (mk A F q) Q ↔ Q (.inl (some (.inl 0)), mk A (uf F 768 1) q) := by
  have o1 : rg 1 := ⟨by decide, by decide⟩
  have o2 : (1 : Int) ≠ 0 := by decide
  obtain ⟨h9, h8⟩ := hi
  obtain ⟨h7, h6⟩ := hj
  unfold Ew
  rw [rc_137 g_48_0 rfl rfl, lc_137]
  by_cases k1 : i < 0
  · simp (disch := omega) only [r137_0, r137_1, r137_4, r137_5, r137_8, r137_9, r137_10, r137_11, r137_12, r137_15, r137_16, r137_17, r137_20, r137_21, r137_24, r137_25, r137_26, r137_29, r137_30, r137_33, r137_34, r137_37, r137_40, r137_41, r137_42, r137_43, r137_46, r137_49, r137_50, Cn_n, Cn_v, Cn_x, dp_0, dp_1, dp_2, dp_3, dp_4, okv_n, okv_i, okv_r, eq_self, true_and, and_true, Option.some.injEq, exists_eq_left', rgT, ixT, ixU, ↓if_pos, ↓if_neg, Int.toNat_natCast, bT0, bT1, g_48_0, s_48_0, g_48_1, s_48_1, g_48_2, s_48_2, g_48_3, g_48_4, g_48_5, g_48_6, g_48_7, s_48_7, g_48_8, g_48_9, g_48_10, g_48_11, g_48_12, g_48_13, m_holdsx o1 o2]
  · by_cases k2 : (J : Int) + M ≤ i
    · simp (disch := omega) only [r137_0, r137_1, r137_4, r137_5, r137_8, r137_9, r137_10, r137_11, r137_12, r137_15, r137_16, r137_17, r137_20, r137_21, r137_24, r137_25, r137_26, r137_29, r137_30, r137_33, r137_34, r137_37, r137_40, r137_41, r137_42, r137_43, r137_46, r137_49, r137_50, Cn_n, Cn_v, Cn_x, dp_0, dp_1, dp_2, dp_3, dp_4, okv_n, okv_i, okv_r, eq_self, true_and, and_true, Option.some.injEq, exists_eq_left', rgT, ixT, ixU, ↓if_pos, ↓if_neg, Int.toNat_natCast, bT0, bT1, g_48_0, s_48_0, g_48_1, s_48_1, g_48_2, s_48_2, g_48_3, g_48_4, g_48_5, g_48_6, g_48_7, s_48_7, g_48_8, g_48_9, g_48_10, g_48_11, g_48_12, g_48_13, m_holdsx o1 o2]
    · by_cases k3 : j < 0
      · simp (disch := omega) only [r137_0, r137_1, r137_4, r137_5, r137_8, r137_9, r137_10, r137_11, r137_12, r137_15, r137_16, r137_17, r137_20, r137_21, r137_24, r137_25, r137_26, r137_29, r137_30, r137_33, r137_34, r137_37, r137_40, r137_41, r137_42, r137_43, r137_46, r137_49, r137_50, Cn_n, Cn_v, Cn_x, dp_0, dp_1, dp_2, dp_3, dp_4, okv_n, okv_i, okv_r, eq_self, true_and, and_true, Option.some.injEq, exists_eq_left', rgT, ixT, ixU, ↓if_pos, ↓if_neg, Int.toNat_natCast, bT0, bT1, g_48_0, s_48_0, g_48_1, s_48_1, g_48_2, s_48_2, g_48_3, g_48_4, g_48_5, g_48_6, g_48_7, s_48_7, g_48_8, g_48_9, g_48_10, g_48_11, g_48_12, g_48_13, m_holdsx o1 o2]
      · simp (disch := omega) only [r137_0, r137_1, r137_4, r137_5, r137_8, r137_9, r137_10, r137_11, r137_12, r137_15, r137_16, r137_17, r137_20, r137_21, r137_24, r137_25, r137_26, r137_29, r137_30, r137_33, r137_34, r137_37, r137_40, r137_41, r137_42, r137_43, r137_46, r137_49, r137_50, Cn_n, Cn_v, Cn_x, dp_0, dp_1, dp_2, dp_3, dp_4, okv_n, okv_i, okv_r, eq_self, true_and, and_true, Option.some.injEq, exists_eq_left', rgT, ixT, ixU, ↓if_pos, ↓if_neg, Int.toNat_natCast, bT0, bT1, g_48_0, s_48_0, g_48_1, s_48_1, g_48_2, s_48_2, g_48_3, g_48_4, g_48_5, g_48_6, g_48_7, s_48_7, g_48_8, g_48_9, g_48_10, g_48_11, g_48_12, g_48_13, m_holdsx o1 o2]
/-- as many places as are cleared -/
def zf (t : Nat → Int) (n : Nat) : Nat → Int := fun k => if k < n then 0 else t k
theorem zf_0 {t : Nat → Int} : zf t 0 = t := by
  funext k
  simp [zf]
theorem zf_s {t : Nat → Int} {n : Nat} : uq (zf t n) n 0 = zf t (n + 1) := by
  funext k
  unfold uq zf
  by_cases hk : k = n
  · rw [if_pos hk, if_pos (by omega)]
  · rw [if_neg hk]
    by_cases h2 : k < n
    · rw [if_pos h2, if_pos (by omega)]
    · rw [if_neg h2, if_neg (by omega)]
theorem m_setSize (hJ : F 769 = J) (hM : F 770 = M) (hJ5 : J ≤ 5) (hM5 : M ≤ 5) (h0 : 1 ≤ i) (h1 : i ≤ 5) (h2 : 1 ≤ j) (h3 : j ≤ 5) : Ew 121 [vR 48, .inl i, .inl j] (mk A F q) Q ↔ Q (.inl (some (.inl (allS (A 49) J M))), mk (ua A 49 (fun _ => 0)) (uf (uf (uf F 768 0) 769 i) 770 j) q) := by
  refine Ew_iff ⟨rc_121 g_48_0 rfl rfl, ?_⟩
  rw [lc_121]
  simp (disch := omega) only [r121_0, r121_1, r121_2, r121_3, r121_6, r121_7, r121_8, r121_11, r121_12, r121_13, r121_16, r121_17, r121_18, r121_21, r121_22, r121_25, r121_26, r121_29, r121_32, r121_33, r121_34, r121_35, r121_38, r121_39, r121_40, r121_41, r121_44, r121_45, r121_46, r121_49, r121_50, r121_54, r121_56, r121_59, r121_60, r121_63, r121_65, r121_66, r121_67, r121_70, r121_73, r121_74, Cn_n, Cn_v, Cn_x, dp_0, dp_1, dp_2, dp_3, dp_4, okv_n, okv_i, okv_r, eq_self, true_and, and_true, Option.some.injEq, exists_eq_left', rgT, ixT, ixU, ↓if_pos, ↓if_neg, Int.toNat_natCast, bT0, bT1, g_48_0, s_48_0, g_48_1, s_48_1, g_48_2, s_48_2, g_48_3, g_48_4, g_48_5, g_48_6, g_48_7, s_48_7, g_48_8, g_48_9, g_48_10, g_48_11, g_48_12, g_48_13, m_holds, m_all (mJ8 hJ) (mM8 hM)]
  have key := Rn_for (fun n => Wp 121 52 [some (vR 48), some (.inl i), some (.inl j), some (.inl (allS (A 49) J M)), some (.inl (n : Int))] [] (mk (ua A 49 (zf (A 49) n)) (uf (uf (uf F 768 0) 769 i) 770 j) q) (fun r => r = (.inl (some (.inl (allS (A 49) J M))), mk (ua A 49 (fun _ => 0)) (uf (uf (uf F 768 0) 769 i) 770 j) q))) 25 (fun n hn ih => ?_) ?_
  · rw [zf_0, ua_id] at key
    exact key
  · rw [r121_52]
    simp (disch := omega) only [r121_0, r121_1, r121_2, r121_3, r121_6, r121_7, r121_8, r121_11, r121_12, r121_13, r121_16, r121_17, r121_18, r121_21, r121_22, r121_25, r121_26, r121_29, r121_32, r121_33, r121_34, r121_35, r121_38, r121_39, r121_40, r121_41, r121_44, r121_45, r121_46, r121_49, r121_50, r121_54, r121_56, r121_59, r121_60, r121_63, r121_65, r121_66, r121_67, r121_70, r121_73, r121_74, Cn_n, Cn_v, Cn_x, dp_0, dp_1, dp_2, dp_3, dp_4, okv_n, okv_i, okv_r, eq_self, true_and, and_true, Option.some.injEq, exists_eq_left', rgT, ixT, ixU, ↓if_pos, ↓if_neg, Int.toNat_natCast, bT0, bT1, g_48_0, s_48_0, g_48_1, s_48_1, g_48_2, s_48_2, g_48_3, g_48_4, g_48_5, g_48_6, g_48_7, s_48_7, g_48_8, g_48_9, g_48_10, g_48_11, g_48_12, g_48_13, a_49, b_49, d_49, tab_len, u2, ua_s, ua_ua, d_49u, zf_s]
    exact ih
  · rw [r121_52]
    simp (disch := omega) only [r121_0, r121_1, r121_2, r121_3, r121_6, r121_7, r121_8, r121_11, r121_12, r121_13, r121_16, r121_17, r121_18, r121_21, r121_22, r121_25, r121_26, r121_29, r121_32, r121_33, r121_34, r121_35, r121_38, r121_39, r121_40, r121_41, r121_44, r121_45, r121_46, r121_49, r121_50, r121_54, r121_56, r121_59, r121_60, r121_63, r121_65, r121_66, r121_67, r121_70, r121_73, r121_74, Cn_n, Cn_v, Cn_x, dp_0, dp_1, dp_2, dp_3, dp_4, okv_n, okv_i, okv_r, eq_self, true_and, and_true, Option.some.injEq, exists_eq_left', rgT, ixT, ixU, ↓if_pos, ↓if_neg, Int.toNat_natCast, bT0, bT1, g_48_0, s_48_0, g_48_1, s_48_1, g_48_2, s_48_2, g_48_3, g_48_4, g_48_5, g_48_6, g_48_7, s_48_7, g_48_8, g_48_9, g_48_10, g_48_11, g_48_12, g_48_13]
    rw [mk_49 (g := fun _ => 0)]
    intro k hk
    unfold zf
    rw [if_pos hk]
theorem m_setSizex (hi : rg i) (hj : rg j) (h0 : i < 1 ∨ 5 < i ∨ j < 1 ∨ 5 < j) : Ew 121 [vR 48, .inl i, .inl j] (mk A F q) Q ↔ Q (.inl (some (.inl 0)), mk A (uf F 768 1) q) := by
  have o1 : rg 1 := ⟨by decide, by decide⟩
  have o2 : (1 : Int) ≠ 0 := by decide
  obtain ⟨h9, h8⟩ := hi
  obtain ⟨h7, h6⟩ := hj
  unfold Ew
  rw [rc_121 g_48_0 rfl rfl, lc_121]
  by_cases k1 : i < 1
  · simp (disch := omega) only [r121_0, r121_1, r121_2, r121_3, r121_6, r121_7, r121_8, r121_11, r121_12, r121_13, r121_16, r121_17, r121_18, r121_21, r121_22, r121_25, r121_26, r121_29, r121_32, r121_33, r121_34, r121_35, r121_38, r121_39, r121_40, r121_41, r121_44, r121_45, r121_46, r121_49, r121_50, r121_54, r121_56, r121_59, r121_60, r121_63, r121_65, r121_66, r121_67, r121_70, r121_73, r121_74, Cn_n, Cn_v, Cn_x, dp_0, dp_1, dp_2, dp_3, dp_4, okv_n, okv_i, okv_r, eq_self, true_and, and_true, Option.some.injEq, exists_eq_left', rgT, ixT, ixU, ↓if_pos, ↓if_neg, Int.toNat_natCast, bT0, bT1, g_48_0, s_48_0, g_48_1, s_48_1, g_48_2, s_48_2, g_48_3, g_48_4, g_48_5, g_48_6, g_48_7, s_48_7, g_48_8, g_48_9, g_48_10, g_48_11, g_48_12, g_48_13, m_holdsx o1 o2]
  · by_cases k2 : 5 < i
    · simp (disch := omega) only [r121_0, r121_1, r121_2, r121_3, r121_6, r121_7, r121_8, r121_11, r121_12, r121_13, r121_16, r121_17, r121_18, r121_21, r121_22, r121_25, r121_26, r121_29, r121_32, r121_33, r121_34, r121_35, r121_38, r121_39, r121_40, r121_41, r121_44, r121_45, r121_46, r121_49, r121_50, r121_54, r121_56, r121_59, r121_60, r121_63, r121_65, r121_66, r121_67, r121_70, r121_73, r121_74, Cn_n, Cn_v, Cn_x, dp_0, dp_1, dp_2, dp_3, dp_4, okv_n, okv_i, okv_r, eq_self, true_and, and_true, Option.some.injEq, exists_eq_left', rgT, ixT, ixU, ↓if_pos, ↓if_neg, Int.toNat_natCast, bT0, bT1, g_48_0, s_48_0, g_48_1, s_48_1, g_48_2, s_48_2, g_48_3, g_48_4, g_48_5, g_48_6, g_48_7, s_48_7, g_48_8, g_48_9, g_48_10, g_48_11, g_48_12, g_48_13, m_holdsx o1 o2]
    · by_cases k3 : j < 1
      · simp (disch := omega) only [r121_0, r121_1, r121_2, r121_3, r121_6, r121_7, r121_8, r121_11, r121_12, r121_13, r121_16, r121_17, r121_18, r121_21, r121_22, r121_25, r121_26, r121_29, r121_32, r121_33, r121_34, r121_35, r121_38, r121_39, r121_40, r121_41, r121_44, r121_45, r121_46, r121_49, r121_50, r121_54, r121_56, r121_59, r121_60, r121_63, r121_65, r121_66, r121_67, r121_70, r121_73, r121_74, Cn_n, Cn_v, Cn_x, dp_0, dp_1, dp_2, dp_3, dp_4, okv_n, okv_i, okv_r, eq_self, true_and, and_true, Option.some.injEq, exists_eq_left', rgT, ixT, ixU, ↓if_pos, ↓if_neg, Int.toNat_natCast, bT0, bT1, g_48_0, s_48_0, g_48_1, s_48_1, g_48_2, s_48_2, g_48_3, g_48_4, g_48_5, g_48_6, g_48_7, s_48_7, g_48_8, g_48_9, g_48_10, g_48_11, g_48_12, g_48_13, m_holdsx o1 o2]
      · simp (disch := omega) only [r121_0, r121_1, r121_2, r121_3, r121_6, r121_7, r121_8, r121_11, r121_12, r121_13, r121_16, r121_17, r121_18, r121_21, r121_22, r121_25, r121_26, r121_29, r121_32, r121_33, r121_34, r121_35, r121_38, r121_39, r121_40, r121_41, r121_44, r121_45, r121_46, r121_49, r121_50, r121_54, r121_56, r121_59, r121_60, r121_63, r121_65, r121_66, r121_67, r121_70, r121_73, r121_74, Cn_n, Cn_v, Cn_x, dp_0, dp_1, dp_2, dp_3, dp_4, okv_n, okv_i, okv_r, eq_self, true_and, and_true, Option.some.injEq, exists_eq_left', rgT, ixT, ixU, ↓if_pos, ↓if_neg, Int.toNat_natCast, bT0, bT1, g_48_0, s_48_0, g_48_1, s_48_1, g_48_2, s_48_2, g_48_3, g_48_4, g_48_5, g_48_6, g_48_7, s_48_7, g_48_8, g_48_9, g_48_10, g_48_11, g_48_12, g_48_13, m_holdsx o1 o2]
theorem m_set (hJ : F 769 = J) (hM : F 770 = M) (hJ5 : J ≤ 5) (hM5 : M ≤ 5) (h0 : 0 ≤ i) (h1 : i < J) (h2 : 0 ≤ j) (h3 : j < M) (h4 : 0 ≤ v) (h5 : v ≤ 99) : Ew 123 [vR 48, .inl i, .inl j, .inl v] (mk A F q) Q ↔ Q (.inl (some (.inl (A 49 (5 * i.toNat + j.toNat)))), mk (u2 A 49 (5 * i.toNat + j.toNat) v) (uf F 768 0) q) := by
  unfold Ew
  rw [rc_123 g_48_0 rfl rfl rfl, lc_123]
  simp (disch := omega) only [r123_0, r123_1, r123_2, r123_3, r123_6, r123_9, r123_10, r123_11, r123_14, r123_17, r123_18, r123_21, r123_22, r123_25, r123_28, r123_29, r123_32, r123_33, r123_36, r123_39, r123_40, r123_41, r123_42, r123_43, r123_44, r123_47, r123_49, r123_50, r123_53, r123_54, r123_55, r123_56, r123_57, r123_58, r123_59, r123_60, r123_62, Cn_n, Cn_v, Cn_x, dp_0, dp_1, dp_2, dp_3, dp_4, okv_n, okv_i, okv_r, eq_self, true_and, and_true, Option.some.injEq, exists_eq_left', rgT, ixT, ixU, ↓if_pos, ↓if_neg, Int.toNat_natCast, bT0, bT1, g_48_0, s_48_0, g_48_1, s_48_1, g_48_2, s_48_2, g_48_3, g_48_4, g_48_5, g_48_6, g_48_7, s_48_7, g_48_8, g_48_9, g_48_10, g_48_11, g_48_12, g_48_13, a_49, b_49, d_49, m_isJob hJ, m_isMac hM, m_isTime, m_holds, m_at, tab_len, ix5]
theorem m_setx (hJ : F 769 = J) (hM : F 770 = M) (hJ5 : J ≤ 5) (hM5 : M ≤ 5) (hi : rg i) (hj : rg j) (h0 : i < 0 ∨ J ≤ i ∨ j < 0 ∨ M ≤ j) : Ew 123 [vR 48, .inl i, .inl j, .inl v] (mk A F q) Q ↔ Q (.inl (some (.inl 0)), mk A (uf F 768 1) q) := by
  have o1 : rg 1 := ⟨by decide, by decide⟩
  have o2 : (1 : Int) ≠ 0 := by decide
  unfold Ew
  rw [rc_123 g_48_0 rfl rfl rfl, lc_123]
  by_cases k1 : 0 ≤ i ∧ i < J
  · simp (disch := omega) only [r123_0, r123_1, r123_2, r123_3, r123_6, r123_9, r123_10, r123_11, r123_14, r123_17, r123_18, r123_21, r123_22, r123_25, r123_28, r123_29, r123_32, r123_33, r123_36, r123_39, r123_40, r123_41, r123_42, r123_43, r123_44, r123_47, r123_49, r123_50, r123_53, r123_54, r123_55, r123_56, r123_57, r123_58, r123_59, r123_60, r123_62, Cn_n, Cn_v, Cn_x, dp_0, dp_1, dp_2, dp_3, dp_4, okv_n, okv_i, okv_r, eq_self, true_and, and_true, Option.some.injEq, exists_eq_left', rgT, ixT, ixU, ↓if_pos, ↓if_neg, Int.toNat_natCast, bT0, bT1, g_48_0, s_48_0, g_48_1, s_48_1, g_48_2, s_48_2, g_48_3, g_48_4, g_48_5, g_48_6, g_48_7, s_48_7, g_48_8, g_48_9, g_48_10, g_48_11, g_48_12, g_48_13, m_isJob hJ, m_isMacx hM hM5 hj, m_holdsx o1 o2]
  · simp (disch := omega) only [r123_0, r123_1, r123_2, r123_3, r123_6, r123_9, r123_10, r123_11, r123_14, r123_17, r123_18, r123_21, r123_22, r123_25, r123_28, r123_29, r123_32, r123_33, r123_36, r123_39, r123_40, r123_41, r123_42, r123_43, r123_44, r123_47, r123_49, r123_50, r123_53, r123_54, r123_55, r123_56, r123_57, r123_58, r123_59, r123_60, r123_62, Cn_n, Cn_v, Cn_x, dp_0, dp_1, dp_2, dp_3, dp_4, okv_n, okv_i, okv_r, eq_self, true_and, and_true, Option.some.injEq, exists_eq_left', rgT, ixT, ixU, ↓if_pos, ↓if_neg, Int.toNat_natCast, bT0, bT1, g_48_0, s_48_0, g_48_1, s_48_1, g_48_2, s_48_2, g_48_3, g_48_4, g_48_5, g_48_6, g_48_7, s_48_7, g_48_8, g_48_9, g_48_10, g_48_11, g_48_12, g_48_13, m_isJobx hJ hJ5 hi, m_holdsx o1 o2]
theorem m_sety (hJ : F 769 = J) (hM : F 770 = M) (hJ5 : J ≤ 5) (hM5 : M ≤ 5) (h0 : 0 ≤ i) (h1 : i < J) (h2 : 0 ≤ j) (h3 : j < M) (hv : rg v) (h4 : v < 0 ∨ 99 < v) : Ew 123 [vR 48, .inl i, .inl j, .inl v] (mk A F q) Q ↔ Q (.inl (some (.inl 0)), mk A (uf F 768 2) q) := by
  have o1 : rg 2 := ⟨by decide, by decide⟩
  have o2 : (2 : Int) ≠ 0 := by decide
  unfold Ew
  rw [rc_123 g_48_0 rfl rfl rfl, lc_123]
  simp (disch := omega) only [r123_0, r123_1, r123_2, r123_3, r123_6, r123_9, r123_10, r123_11, r123_14, r123_17, r123_18, r123_21, r123_22, r123_25, r123_28, r123_29, r123_32, r123_33, r123_36, r123_39, r123_40, r123_41, r123_42, r123_43, r123_44, r123_47, r123_49, r123_50, r123_53, r123_54, r123_55, r123_56, r123_57, r123_58, r123_59, r123_60, r123_62, Cn_n, Cn_v, Cn_x, dp_0, dp_1, dp_2, dp_3, dp_4, okv_n, okv_i, okv_r, eq_self, true_and, and_true, Option.some.injEq, exists_eq_left', rgT, ixT, ixU, ↓if_pos, ↓if_neg, Int.toNat_natCast, bT0, bT1, g_48_0, s_48_0, g_48_1, s_48_1, g_48_2, s_48_2, g_48_3, g_48_4, g_48_5, g_48_6, g_48_7, s_48_7, g_48_8, g_48_9, g_48_10, g_48_11, g_48_12, g_48_13, m_isJob hJ, m_isMac hM, m_isTimex hv, m_holdsx o1 o2]
theorem stj_t {t : Nat → Int} {a n : Nat} {s d : Int} (hn : n < 5) (h0 : 0 ≤ s) (h1 : 0 ≤ d) : uq (stj t a s d n) (5 * a + n) ((s + n * d).tmod 100) = stj t a s d (n + 1) := by
  have h2 : 0 ≤ (n : Int) * d := Int.mul_nonneg (by omega) h1
  rw [Int.tmod_eq_emod_of_nonneg (by omega)]
  exact stj_s hn
theorem m_setJob (hJ : F 769 = J) (hM : F 770 = M) (hJ5 : J ≤ 5) (hM5 : M ≤ 5) (h0 : 0 ≤ i) (h1 : i < J) (h2 : 0 ≤ j) (h3 : j ≤ 99) (h4 : 0 ≤ v) (h5 : v ≤ 99) : Ew 124 [vR 48, .inl i, .inl j, .inl v] (mk A F q) Q ↔ Q (.inl (some (.inl (rowS (stj (A 49) i.toNat j v M) M i.toNat))), mk (ua A 49 (stj (A 49) i.toNat j v M)) (uf F 768 0) q) := by
  refine Ew_iff ⟨rc_124 g_48_0 rfl rfl rfl, ?_⟩
  rw [lc_124]
  simp (disch := omega) only [r124_0, r124_1, r124_2, r124_3, r124_6, r124_9, r124_10, r124_13, r124_14, r124_17, r124_20, r124_21, r124_24, r124_27, r124_28, r124_31, r124_32, r124_35, r124_38, r124_39, r124_40, r124_41, r124_45, r124_46, r124_49, r124_52, r124_53, r124_56, r124_57, r124_58, r124_59, r124_61, r124_62, r124_63, r124_65, r124_66, r124_67, r124_68, r124_70, r124_71, r124_72, r124_75, r124_78, r124_79, r124_80, r124_83, Cn_n, Cn_v, Cn_x, dp_0, dp_1, dp_2, dp_3, dp_4, okv_n, okv_i, okv_r, eq_self, true_and, and_true, Option.some.injEq, exists_eq_left', rgT, ixT, ixU, ↓if_pos, ↓if_neg, Int.toNat_natCast, bT0, bT1, g_48_0, s_48_0, g_48_1, s_48_1, g_48_2, s_48_2, g_48_3, g_48_4, g_48_5, g_48_6, g_48_7, s_48_7, g_48_8, g_48_9, g_48_10, g_48_11, g_48_12, g_48_13, m_isJob hJ, m_isTime, m_holds]
  have hM8 := @mM8 F M 0 hM
  have key := Rn_for (fun n => Wp 124 43 [some (vR 48), some (.inl i), some (.inl j), some (.inl v), some (.inl (n : Int))] [] (mk (ua A 49 (stj (A 49) i.toNat j v n)) (uf F 768 0) q) (fun r => r = (.inl (some (.inl (rowS (stj (A 49) i.toNat j v M) M i.toNat))), mk (ua A 49 (stj (A 49) i.toNat j v M)) (uf F 768 0) q))) M (fun n hn ih => ?_) ?_
  · rw [stj_0, ua_id] at key
    exact key
  · have b1 : 0 ≤ (n : Int) * v := Int.mul_nonneg (by omega) h4
    have b2 : (n : Int) * v ≤ 5 * 99 := Int.mul_le_mul (by omega) h5 h4 (by omega)
    rw [r124_43]
    simp (disch := omega) only [r124_0, r124_1, r124_2, r124_3, r124_6, r124_9, r124_10, r124_13, r124_14, r124_17, r124_20, r124_21, r124_24, r124_27, r124_28, r124_31, r124_32, r124_35, r124_38, r124_39, r124_40, r124_41, r124_45, r124_46, r124_49, r124_52, r124_53, r124_56, r124_57, r124_58, r124_59, r124_61, r124_62, r124_63, r124_65, r124_66, r124_67, r124_68, r124_70, r124_71, r124_72, r124_75, r124_78, r124_79, r124_80, r124_83, Cn_n, Cn_v, Cn_x, dp_0, dp_1, dp_2, dp_3, dp_4, okv_n, okv_i, okv_r, eq_self, true_and, and_true, Option.some.injEq, exists_eq_left', rgT, ixT, ixU, ↓if_pos, ↓if_neg, Int.toNat_natCast, bT0, bT1, g_48_0, s_48_0, g_48_1, s_48_1, g_48_2, s_48_2, g_48_3, g_48_4, g_48_5, g_48_6, g_48_7, s_48_7, g_48_8, g_48_9, g_48_10, g_48_11, g_48_12, g_48_13, a_49, b_49, d_49, tab_len, ix5, u2, ua_s, ua_ua, d_49u, stj_t]
    exact ⟨by decide, ih⟩
  · rw [r124_43]
    simp (disch := omega) only [r124_0, r124_1, r124_2, r124_3, r124_6, r124_9, r124_10, r124_13, r124_14, r124_17, r124_20, r124_21, r124_24, r124_27, r124_28, r124_31, r124_32, r124_35, r124_38, r124_39, r124_40, r124_41, r124_45, r124_46, r124_49, r124_52, r124_53, r124_56, r124_57, r124_58, r124_59, r124_61, r124_62, r124_63, r124_65, r124_66, r124_67, r124_68, r124_70, r124_71, r124_72, r124_75, r124_78, r124_79, r124_80, r124_83, Cn_n, Cn_v, Cn_x, dp_0, dp_1, dp_2, dp_3, dp_4, okv_n, okv_i, okv_r, eq_self, true_and, and_true, Option.some.injEq, exists_eq_left', rgT, ixT, ixU, ↓if_pos, ↓if_neg, Int.toNat_natCast, bT0, bT1, g_48_0, s_48_0, g_48_1, s_48_1, g_48_2, s_48_2, g_48_3, g_48_4, g_48_5, g_48_6, g_48_7, s_48_7, g_48_8, g_48_9, g_48_10, g_48_11, g_48_12, g_48_13, m_ofJob hM8, ua_s]
theorem m_setJobx (hJ : F 769 = J) (hJ5 : J ≤ 5) (hi : rg i) (h0 : i < 0 ∨ J ≤ i) : Ew 124 [vR 48, .inl i, .inl j, .inl v] (mk A F q) Q ↔ Q (.inl (some (.inl 0)), mk A (uf F 768 1) q) := by
  have o1 : rg 1 := ⟨by decide, by decide⟩
  have o2 : (1 : Int) ≠ 0 := by decide
  unfold Ew
  rw [rc_124 g_48_0 rfl rfl rfl, lc_124]
  simp (disch := omega) only [r124_0, r124_1, r124_2, r124_3, r124_6, r124_9, r124_10, r124_13, r124_14, r124_17, r124_20, r124_21, r124_24, r124_27, r124_28, r124_31, r124_32, r124_35, r124_38, r124_39, r124_40, r124_41, r124_45, r124_46, r124_49, r124_52, r124_53, r124_56, r124_57, r124_58, r124_59, r124_61, r124_62, r124_63, r124_65, r124_66, r124_67, r124_68, r124_70, r124_71, r124_72, r124_75, r124_78, r124_79, r124_80, r124_83, Cn_n, Cn_v, Cn_x, dp_0, dp_1, dp_2, dp_3, dp_4, okv_n, okv_i, okv_r, eq_self, true_and, and_true, Option.some.injEq, exists_eq_left', rgT, ixT, ixU, ↓if_pos, ↓if_neg, Int.toNat_natCast, bT0, bT1, g_48_0, s_48_0, g_48_1, s_48_1, g_48_2, s_48_2, g_48_3, g_48_4, g_48_5, g_48_6, g_48_7, s_48_7, g_48_8, g_48_9, g_48_10, g_48_11, g_48_12, g_48_13, m_isJobx hJ hJ5 hi, m_holdsx o1 o2]
theorem m_setJoby (hJ : F 769 = J) (hJ5 : J ≤ 5) (h0 : 0 ≤ i) (h1 : i < J) (hj : rg j) (hv : rg v) (h4 : j < 0 ∨ 99 < j ∨ v < 0 ∨ 99 < v) : Ew 124 [vR 48, .inl i, .inl j, .inl v] (mk A F q) Q ↔ Q (.inl (some (.inl 0)), mk A (uf F 768 2) q) := by
  have o1 : rg 2 := ⟨by decide, by decide⟩
  have o2 : (2 : Int) ≠ 0 := by decide
  unfold Ew
  rw [rc_124 g_48_0 rfl rfl rfl, lc_124]
  by_cases k1 : 0 ≤ j ∧ j ≤ 99
  · simp (disch := omega) only [r124_0, r124_1, r124_2, r124_3, r124_6, r124_9, r124_10, r124_13, r124_14, r124_17, r124_20, r124_21, r124_24, r124_27, r124_28, r124_31, r124_32, r124_35, r124_38, r124_39, r124_40, r124_41, r124_45, r124_46, r124_49, r124_52, r124_53, r124_56, r124_57, r124_58, r124_59, r124_61, r124_62, r124_63, r124_65, r124_66, r124_67, r124_68, r124_70, r124_71, r124_72, r124_75, r124_78, r124_79, r124_80, r124_83, Cn_n, Cn_v, Cn_x, dp_0, dp_1, dp_2, dp_3, dp_4, okv_n, okv_i, okv_r, eq_self, true_and, and_true, Option.some.injEq, exists_eq_left', rgT, ixT, ixU, ↓if_pos, ↓if_neg, Int.toNat_natCast, bT0, bT1, g_48_0, s_48_0, g_48_1, s_48_1, g_48_2, s_48_2, g_48_3, g_48_4, g_48_5, g_48_6, g_48_7, s_48_7, g_48_8, g_48_9, g_48_10, g_48_11, g_48_12, g_48_13, m_isJob hJ, m_isTime, m_isTimex hv, m_holdsx o1 o2]
  · simp (disch := omega) only [r124_0, r124_1, r124_2, r124_3, r124_6, r124_9, r124_10, r124_13, r124_14, r124_17, r124_20, r124_21, r124_24, r124_27, r124_28, r124_31, r124_32, r124_35, r124_38, r124_39, r124_40, r124_41, r124_45, r124_46, r124_49, r124_52, r124_53, r124_56, r124_57, r124_58, r124_59, r124_61, r124_62, r124_63, r124_65, r124_66, r124_67, r124_68, r124_70, r124_71, r124_72, r124_75, r124_78, r124_79, r124_80, r124_83, Cn_n, Cn_v, Cn_x, dp_0, dp_1, dp_2, dp_3, dp_4, okv_n, okv_i, okv_r, eq_self, true_and, and_true, Option.some.injEq, exists_eq_left', rgT, ixT, ixU, ↓if_pos, ↓if_neg, Int.toNat_natCast, bT0, bT1, g_48_0, s_48_0, g_48_1, s_48_1, g_48_2, s_48_2, g_48_3, g_48_4, g_48_5, g_48_6, g_48_7, s_48_7, g_48_8, g_48_9, g_48_10, g_48_11, g_48_12, g_48_13, m_isJob hJ, m_isTimex hj, m_holdsx o1 o2]
theorem m_swap (hJ : F 769 = J) (hM : F 770 = M) (hJ5 : J ≤ 5) (hM5 : M ≤ 5) (h0 : 0 ≤ i) (h1 : i < J) (h2 : 0 ≤ j) (h3 : j < J) : Ew 125 [vR 48, .inl i, .inl j] (mk A F q) Q ↔ Q (.inl (some (.inl (rowS (swp (A 49) i.toNat j.toNat M) M i.toNat))), mk (ua A 49 (swp (A 49) i.toNat j.toNat M)) (uf F 768 0) q) := by
  refine Ew_iff ⟨rc_125 g_48_0 rfl rfl, ?_⟩
  rw [lc_125]
  simp (disch := omega) only [r125_0, r125_1, r125_2, r125_3, r125_6, r125_9, r125_10, r125_11, r125_14, r125_17, r125_18, r125_21, r125_22, r125_25, r125_28, r125_29, r125_30, r125_31, r125_33, r125_34, r125_37, r125_40, r125_41, r125_42, r125_43, r125_46, r125_48, r125_49, r125_52, r125_53, r125_54, r125_55, r125_56, r125_57, r125_58, r125_59, r125_60, r125_63, r125_64, r125_65, r125_68, r125_69, r125_70, r125_71, r125_72, r125_73, r125_75, r125_76, r125_79, r125_82, r125_83, r125_84, r125_87, Cn_n, Cn_v, Cn_x, dp_0, dp_1, dp_2, dp_3, dp_4, okv_n, okv_i, okv_r, eq_self, true_and, and_true, Option.some.injEq, exists_eq_left', rgT, ixT, ixU, ↓if_pos, ↓if_neg, Int.toNat_natCast, bT0, bT1, g_48_0, s_48_0, g_48_1, s_48_1, g_48_2, s_48_2, g_48_3, g_48_4, g_48_5, g_48_6, g_48_7, s_48_7, g_48_8, g_48_9, g_48_10, g_48_11, g_48_12, g_48_13, m_isJob hJ, m_holds]
  have hM8 := @mM8 F M 0 hM
  suffices key : ∀ n d : Nat, n + d = M → ∀ x4 : Option AV, okv x4 = true → Wp 125 32 [some (vR 48), some (.inl i), some (.inl j), some (.inl (n : Int)), x4] [] (mk (ua A 49 (swp (A 49) i.toNat j.toNat n)) (uf F 768 0) q) (fun r => r = (.inl (some (.inl (rowS (swp (A 49) i.toNat j.toNat M) M i.toNat))), mk (ua A 49 (swp (A 49) i.toNat j.toNat M)) (uf F 768 0) q)) by
    have k0 := key 0 M (by omega) none rfl
    rw [swp_0, ua_id] at k0
    exact k0
  intro n d
  induction d generalizing n with
  | zero =>
    intro hn x4 h4
    obtain rfl : n = M := by omega
    rw [r125_32]
    simp (disch := omega) only [r125_0, r125_1, r125_2, r125_3, r125_6, r125_9, r125_10, r125_11, r125_14, r125_17, r125_18, r125_21, r125_22, r125_25, r125_28, r125_29, r125_30, r125_31, r125_33, r125_34, r125_37, r125_40, r125_41, r125_42, r125_43, r125_46, r125_48, r125_49, r125_52, r125_53, r125_54, r125_55, r125_56, r125_57, r125_58, r125_59, r125_60, r125_63, r125_64, r125_65, r125_68, r125_69, r125_70, r125_71, r125_72, r125_73, r125_75, r125_76, r125_79, r125_82, r125_83, r125_84, r125_87, Cn_n, Cn_v, Cn_x, dp_0, dp_1, dp_2, dp_3, dp_4, okv_n, okv_i, okv_r, eq_self, true_and, and_true, Option.some.injEq, exists_eq_left', rgT, ixT, ixU, ↓if_pos, ↓if_neg, Int.toNat_natCast, bT0, bT1, g_48_0, s_48_0, g_48_1, s_48_1, g_48_2, s_48_2, g_48_3, g_48_4, g_48_5, g_48_6, g_48_7, s_48_7, g_48_8, g_48_9, g_48_10, g_48_11, g_48_12, g_48_13, m_ofJob hM8, ua_s]
  | succ d ih =>
    intro hn x4 h4
    rw [r125_32]
    simp (disch := omega) only [r125_0, r125_1, r125_2, r125_3, r125_6, r125_9, r125_10, r125_11, r125_14, r125_17, r125_18, r125_21, r125_22, r125_25, r125_28, r125_29, r125_30, r125_31, r125_33, r125_34, r125_37, r125_40, r125_41, r125_42, r125_43, r125_46, r125_48, r125_49, r125_52, r125_53, r125_54, r125_55, r125_56, r125_57, r125_58, r125_59, r125_60, r125_63, r125_64, r125_65, r125_68, r125_69, r125_70, r125_71, r125_72, r125_73, r125_75, r125_76, r125_79, r125_82, r125_83, r125_84, r125_87, Cn_n, Cn_v, Cn_x, dp_0, dp_1, dp_2, dp_3, dp_4, okv_n, okv_i, okv_r, eq_self, true_and, and_true, Option.some.injEq, exists_eq_left', rgT, ixT, ixU, ↓if_pos, ↓if_neg, Int.toNat_natCast, bT0, bT1, g_48_0, s_48_0, g_48_1, s_48_1, g_48_2, s_48_2, g_48_3, g_48_4, g_48_5, g_48_6, g_48_7, s_48_7, g_48_8, g_48_9, g_48_10, g_48_11, g_48_12, g_48_13, a_49, b_49, d_49, h4, m_at, tab_len, ix5, u2, ua_s, ua_ua, d_49u]
    rw [swp_s (by omega)]
    exact ih (n + 1) (by omega) _ rfl
theorem m_swapx (hJ : F 769 = J) (hJ5 : J ≤ 5) (hi : rg i) (hj : rg j) (h0 : i < 0 ∨ J ≤ i ∨ j < 0 ∨ J ≤ j) : Ew 125 [vR 48, .inl i, .inl j] (mk A F q) Q ↔ Q (.inl (some (.inl 0)), mk A (uf F 768 1) q) := by
  have o1 : rg 1 := ⟨by decide, by decide⟩
  have o2 : (1 : Int) ≠ 0 := by decide
  unfold Ew
  rw [rc_125 g_48_0 rfl rfl, lc_125]
  by_cases k1 : 0 ≤ i ∧ i < J
  · simp (disch := omega) only [r125_0, r125_1, r125_2, r125_3, r125_6, r125_9, r125_10, r125_11, r125_14, r125_17, r125_18, r125_21, r125_22, r125_25, r125_28, r125_29, r125_30, r125_31, r125_33, r125_34, r125_37, r125_40, r125_41, r125_42, r125_43, r125_46, r125_48, r125_49, r125_52, r125_53, r125_54, r125_55, r125_56, r125_57, r125_58, r125_59, r125_60, r125_63, r125_64, r125_65, r125_68, r125_69, r125_70, r125_71, r125_72, r125_73, r125_75, r125_76, r125_79, r125_82, r125_83, r125_84, r125_87, Cn_n, Cn_v, Cn_x, dp_0, dp_1, dp_2, dp_3, dp_4, okv_n, okv_i, okv_r, eq_self, true_and, and_true, Option.some.injEq, exists_eq_left', rgT, ixT, ixU, ↓if_pos, ↓if_neg, Int.toNat_natCast, bT0, bT1, g_48_0, s_48_0, g_48_1, s_48_1, g_48_2, s_48_2, g_48_3, g_48_4, g_48_5, g_48_6, g_48_7, s_48_7, g_48_8, g_48_9, g_48_10, g_48_11, g_48_12, g_48_13, m_isJob hJ, m_isJobx hJ hJ5 hj, m_holdsx o1 o2]
  · simp (disch := omega) only [r125_0, r125_1, r125_2, r125_3, r125_6, r125_9, r125_10, r125_11, r125_14, r125_17, r125_18, r125_21, r125_22, r125_25, r125_28, r125_29, r125_30, r125_31, r125_33, r125_34, r125_37, r125_40, r125_41, r125_42, r125_43, r125_46, r125_48, r125_49, r125_52, r125_53, r125_54, r125_55, r125_56, r125_57, r125_58, r125_59, r125_60, r125_63, r125_64, r125_65, r125_68, r125_69, r125_70, r125_71, r125_72, r125_73, r125_75, r125_76, r125_79, r125_82, r125_83, r125_84, r125_87, Cn_n, Cn_v, Cn_x, dp_0, dp_1, dp_2, dp_3, dp_4, okv_n, okv_i, okv_r, eq_self, true_and, and_true, Option.some.injEq, exists_eq_left', rgT, ixT, ixU, ↓if_pos, ↓if_neg, Int.toNat_natCast, bT0, bT1, g_48_0, s_48_0, g_48_1, s_48_1, g_48_2, s_48_2, g_48_3, g_48_4, g_48_5, g_48_6, g_48_7, s_48_7, g_48_8, g_48_9, g_48_10, g_48_11, g_48_12, g_48_13, m_isJobx hJ hJ5 hi, m_holdsx o1 o2]
theorem m_turn (hJ : F 769 = J) (hM : F 770 = M) (hJ5 : J ≤ 5) (hM5 : M ≤ 5) (ht : TOK (A 49)) : Ew 126 [vR 48] (mk A F q) Q ↔ Q (.inl (some (.inl (bnd (trn (A 49) 5 0) M J))), mk (ua A 49 (trn (A 49) 5 0)) (uf (uf (uf F 768 0) 769 (F 770)) 770 (F 769)) q) := by
  refine Ew_iff ⟨rc_126 g_48_0, ?_⟩
  rw [lc_126]
  simp only [r126_0, r126_1, r126_2, r126_5, r126_6, r126_8, r126_9, r126_12, r126_13, r126_15, r126_16, r126_19, r126_20, r126_23, r126_24, r126_25, r126_26, r126_27, r126_28, r126_29, r126_30, r126_31, r126_34, r126_35, r126_36, r126_37, r126_38, r126_39, r126_40, r126_43, r126_44, r126_45, r126_46, r126_47, r126_48, r126_49, r126_50, r126_51, r126_54, r126_55, r126_56, r126_57, r126_58, r126_59, r126_60, r126_61, r126_64, r126_67, r126_70, r126_73, r126_74, r126_77, r126_78, r126_79, r126_80, r126_83, r126_86, r126_87, r126_88, r126_91, r126_92, r126_95, Cn_n, Cn_v, Cn_x, dp_0, dp_1, dp_2, dp_3, dp_4, okv_n, okv_i, okv_r, eq_self, true_and, and_true, Option.some.injEq, exists_eq_left', rgT, ixT, ixU, ↓if_pos, ↓if_neg, Int.toNat_natCast, bT0, bT1, g_48_0, s_48_0, g_48_1, s_48_1, g_48_2, s_48_2, g_48_3, g_48_4, g_48_5, g_48_6, g_48_7, s_48_7, g_48_8, g_48_9, g_48_10, g_48_11, g_48_12, g_48_13]
  have e769 : uf F 768 0 769 = F 769 := uf_n (by decide)
  have e770 : uf F 768 0 770 = F 770 := uf_n (by decide)
  have e7 : uf (uf F 768 0) 769 (F 770) 770 = F 770 := by rw [uf_n (by decide), uf_n (by decide)]
  have h8 : uf (uf (uf F 768 0) 769 (F 770)) 770 (F 769) 769 = (M : Int) := by rw [uf_n (by decide), uf_s]; exact hM
  have h9 : uf (uf (uf F 768 0) 769 (F 770)) 770 (F 769) 770 = (J : Int) := by rw [uf_s]; exact hJ
  have h7 : TOK (ua A 49 (trn (A 49) 5 0) 49) := by rw [ua_s]; exact trn_ok ht
  suffices key : ∀ (a : Nat) (d : Nat), a + d = 5 → ∀ x2 x3 : Option AV, okv x2 = true → okv x3 = true → Wp 126 7 [some (vR 48), some (.inl (a : Int)), x2, x3] [] (mk (ua A 49 (trn (A 49) a 0)) (uf F 768 0) q) (fun r => r = (.inl (some (.inl (bnd (trn (A 49) 5 0) M J))), mk (ua A 49 (trn (A 49) 5 0)) (uf (uf (uf F 768 0) 769 (F 770)) 770 (F 769)) q)) by
    have k0 := key 0 5 (by omega) none none rfl rfl
    rw [trn_0, ua_id] at k0
    exact k0
  intro a d
  induction d generalizing a with
  | zero =>
    intro ha x2 x3 h2 h3
    obtain rfl : a = 5 := by omega
    rw [r126_7]
    simp (disch := omega) only [r126_0, r126_1, r126_2, r126_5, r126_6, r126_8, r126_9, r126_12, r126_13, r126_15, r126_16, r126_19, r126_20, r126_23, r126_24, r126_25, r126_26, r126_27, r126_28, r126_29, r126_30, r126_31, r126_34, r126_35, r126_36, r126_37, r126_38, r126_39, r126_40, r126_43, r126_44, r126_45, r126_46, r126_47, r126_48, r126_49, r126_50, r126_51, r126_54, r126_55, r126_56, r126_57, r126_58, r126_59, r126_60, r126_61, r126_64, r126_67, r126_70, r126_73, r126_74, r126_77, r126_78, r126_79, r126_80, r126_83, r126_86, r126_87, r126_88, r126_91, r126_92, r126_95, Cn_n, Cn_v, Cn_x, dp_0, dp_1, dp_2, dp_3, dp_4, okv_n, okv_i, okv_r, eq_self, true_and, and_true, Option.some.injEq, exists_eq_left', rgT, ixT, ixU, ↓if_pos, ↓if_neg, Int.toNat_natCast, bT0, bT1, g_48_0, s_48_0, g_48_1, s_48_1, g_48_2, s_48_2, g_48_3, g_48_4, g_48_5, g_48_6, g_48_7, s_48_7, g_48_8, g_48_9, g_48_10, g_48_11, g_48_12, g_48_13, h2, h3, e769, e770, e7]
    rw [m_most h8 h9 hM5 hJ5 h7, ua_s]
    simp only [r126_0, r126_1, r126_2, r126_5, r126_6, r126_8, r126_9, r126_12, r126_13, r126_15, r126_16, r126_19, r126_20, r126_23, r126_24, r126_25, r126_26, r126_27, r126_28, r126_29, r126_30, r126_31, r126_34, r126_35, r126_36, r126_37, r126_38, r126_39, r126_40, r126_43, r126_44, r126_45, r126_46, r126_47, r126_48, r126_49, r126_50, r126_51, r126_54, r126_55, r126_56, r126_57, r126_58, r126_59, r126_60, r126_61, r126_64, r126_67, r126_70, r126_73, r126_74, r126_77, r126_78, r126_79, r126_80, r126_83, r126_86, r126_87, r126_88, r126_91, r126_92, r126_95, Cn_n, Cn_v, Cn_x, dp_0, dp_1, dp_2, dp_3, dp_4, okv_n, okv_i, okv_r, eq_self, true_and, and_true, Option.some.injEq, exists_eq_left']
  | succ d ih =>
    intro ha x2 x3 h2 h3
    rw [r126_7]
    simp (disch := omega) only [r126_0, r126_1, r126_2, r126_5, r126_6, r126_8, r126_9, r126_12, r126_13, r126_15, r126_16, r126_19, r126_20, r126_23, r126_24, r126_25, r126_26, r126_27, r126_28, r126_29, r126_30, r126_31, r126_34, r126_35, r126_36, r126_37, r126_38, r126_39, r126_40, r126_43, r126_44, r126_45, r126_46, r126_47, r126_48, r126_49, r126_50, r126_51, r126_54, r126_55, r126_56, r126_57, r126_58, r126_59, r126_60, r126_61, r126_64, r126_67, r126_70, r126_73, r126_74, r126_77, r126_78, r126_79, r126_80, r126_83, r126_86, r126_87, r126_88, r126_91, r126_92, r126_95, Cn_n, Cn_v, Cn_x, dp_0, dp_1, dp_2, dp_3, dp_4, okv_n, okv_i, okv_r, eq_self, true_and, and_true, Option.some.injEq, exists_eq_left', rgT, ixT, ixU, ↓if_pos, ↓if_neg, Int.toNat_natCast, bT0, bT1, g_48_0, s_48_0, g_48_1, s_48_1, g_48_2, s_48_2, g_48_3, g_48_4, g_48_5, g_48_6, g_48_7, s_48_7, g_48_8, g_48_9, g_48_10, g_48_11, g_48_12, g_48_13, h2, h3]
    suffices key2 : ∀ (b : Nat) (d2 : Nat), b + d2 = a → ∀ x3 : Option AV, okv x3 = true → Wp 126 14 [some (vR 48), some (.inl (a : Int)), some (.inl (b : Int)), x3] [] (mk (ua A 49 (trn (A 49) a b)) (uf F 768 0) q) (fun r => r = (.inl (some (.inl (bnd (trn (A 49) 5 0) M J))), mk (ua A 49 (trn (A 49) 5 0)) (uf (uf (uf F 768 0) 769 (F 770)) 770 (F 769)) q)) by
      exact key2 0 a (by omega) x3 h3
    intro b d2
    induction d2 generalizing b with
    | zero =>
      intro hb x3 h3
      obtain rfl : b = a := by omega
      rw [r126_14]
      simp (disch := omega) only [r126_0, r126_1, r126_2, r126_5, r126_6, r126_8, r126_9, r126_12, r126_13, r126_15, r126_16, r126_19, r126_20, r126_23, r126_24, r126_25, r126_26, r126_27, r126_28, r126_29, r126_30, r126_31, r126_34, r126_35, r126_36, r126_37, r126_38, r126_39, r126_40, r126_43, r126_44, r126_45, r126_46, r126_47, r126_48, r126_49, r126_50, r126_51, r126_54, r126_55, r126_56, r126_57, r126_58, r126_59, r126_60, r126_61, r126_64, r126_67, r126_70, r126_73, r126_74, r126_77, r126_78, r126_79, r126_80, r126_83, r126_86, r126_87, r126_88, r126_91, r126_92, r126_95, Cn_n, Cn_v, Cn_x, dp_0, dp_1, dp_2, dp_3, dp_4, okv_n, okv_i, okv_r, eq_self, true_and, and_true, Option.some.injEq, exists_eq_left', rgT, ixT, ixU, ↓if_pos, ↓if_neg, Int.toNat_natCast, bT0, bT1, g_48_0, s_48_0, g_48_1, s_48_1, g_48_2, s_48_2, g_48_3, g_48_4, g_48_5, g_48_6, g_48_7, s_48_7, g_48_8, g_48_9, g_48_10, g_48_11, g_48_12, g_48_13, h3]
      rw [trn_r]
      exact ih (b + 1) (by omega) _ _ rfl h3
    | succ d2 ih2 =>
      intro hb x3 h3
      rw [r126_14]
      simp (disch := omega) only [r126_0, r126_1, r126_2, r126_5, r126_6, r126_8, r126_9, r126_12, r126_13, r126_15, r126_16, r126_19, r126_20, r126_23, r126_24, r126_25, r126_26, r126_27, r126_28, r126_29, r126_30, r126_31, r126_34, r126_35, r126_36, r126_37, r126_38, r126_39, r126_40, r126_43, r126_44, r126_45, r126_46, r126_47, r126_48, r126_49, r126_50, r126_51, r126_54, r126_55, r126_56, r126_57, r126_58, r126_59, r126_60, r126_61, r126_64, r126_67, r126_70, r126_73, r126_74, r126_77, r126_78, r126_79, r126_80, r126_83, r126_86, r126_87, r126_88, r126_91, r126_92, r126_95, Cn_n, Cn_v, Cn_x, dp_0, dp_1, dp_2, dp_3, dp_4, okv_n, okv_i, okv_r, eq_self, true_and, and_true, Option.some.injEq, exists_eq_left', rgT, ixT, ixU, ↓if_pos, ↓if_neg, Int.toNat_natCast, bT0, bT1, g_48_0, s_48_0, g_48_1, s_48_1, g_48_2, s_48_2, g_48_3, g_48_4, g_48_5, g_48_6, g_48_7, s_48_7, g_48_8, g_48_9, g_48_10, g_48_11, g_48_12, g_48_13, a_49, b_49, d_49, h3, tab_len, tab_get, ix5, u2, ua_s, ua_ua, d_49u]
      rw [trn_s (by omega) (by omega)]
      exact ih2 (b + 1) (by omega) _ rfl
end MODEL
