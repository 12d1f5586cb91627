/-! the shop's face over the table -/
/-- the room that an exception takes -/
def bp (q : List Int × Nat) : List Int × Nat := (q.1, q.2 + 7)
theorem thr_mk {A : Nat → Nat → Int} {F : Nat → Int} {q : List Int × Nat} : ((mk A F q).1, (mk A F q).2.1, (mk A F q).2.2 + 7) = mk A F (bp q) := rfl
section SHOP
variable {A : Nat → Nat → Int} {F : Nat → Int} {q : List Int × Nat} {i j v n : Int} {Q : AR → Prop} {J M : Nat}
theorem n_ix (hi : rg i) (hn : rg n) (h0 : 0 ≤ i) (h1 : i < n) : Ew 109 [.inl i, .inl n] (mk A F q) Q ↔ Q (.inl none, mk A F q) := by
  unfold Ew
  rw [rc_109 rfl rfl, lc_109]
  simp (disch := omega) only [r109_0, r109_1, r109_4, r109_5, r109_6, r109_9, r109_19, Cn_n, Cn_v, Cn_x, dp_0, dp_1, dp_2, dp_3, dp_4, okv_n, okv_i, okv_r, eq_self, true_and, and_true, Option.some.injEq, exists_eq_left', rgT, ixT, ixU, ↓if_pos, ↓if_neg, Int.toNat_natCast, bT0, bT1]
theorem n_ixx (hi : rg i) (hn : rg n) (h0 : i < 0 ∨ n ≤ i) : Ew 109 [.inl i, .inl n] (mk A F q) Q ↔ Q (.inr 0, mk A F (bp q)) := by
  unfold Ew
  rw [rc_109 rfl rfl, lc_109]
  by_cases c1 : i < 0
  · simp (disch := omega) only [r109_0, r109_1, r109_4, r109_5, r109_6, r109_9, r109_19, Cn_n, Cn_v, Cn_x, dp_0, dp_1, dp_2, dp_3, dp_4, okv_n, okv_i, okv_r, eq_self, true_and, and_true, Option.some.injEq, exists_eq_left', rgT, ixT, ixU, ↓if_pos, ↓if_neg, Int.toNat_natCast, bT0, bT1, thr_mk]
  · simp (disch := omega) only [r109_0, r109_1, r109_4, r109_5, r109_6, r109_9, r109_19, Cn_n, Cn_v, Cn_x, dp_0, dp_1, dp_2, dp_3, dp_4, okv_n, okv_i, okv_r, eq_self, true_and, and_true, Option.some.injEq, exists_eq_left', rgT, ixT, ixU, ↓if_pos, ↓if_neg, Int.toNat_natCast, bT0, bT1, thr_mk]
theorem n_rg {lo hi : Int} (hi' : rg i) (hl : rg lo) (hh : rg hi) (h0 : lo ≤ i) (h1 : i ≤ hi) : Ew 110 [.inl i, .inl lo, .inl hi] (mk A F q) Q ↔ Q (.inl none, mk A F q) := by
  unfold Ew
  rw [rc_110 rfl rfl rfl, lc_110]
  simp (disch := omega) only [r110_0, r110_1, r110_2, r110_5, r110_6, r110_7, r110_10, r110_20, Cn_n, Cn_v, Cn_x, dp_0, dp_1, dp_2, dp_3, dp_4, okv_n, okv_i, okv_r, eq_self, true_and, and_true, Option.some.injEq, exists_eq_left', rgT, ixT, ixU, ↓if_pos, ↓if_neg, Int.toNat_natCast, bT0, bT1]
theorem n_rgx {lo hi : Int} (hi' : rg i) (hl : rg lo) (hh : rg hi) (h0 : i < lo ∨ hi < i) : Ew 110 [.inl i, .inl lo, .inl hi] (mk A F q) Q ↔ Q (.inr 1, mk A F (bp q)) := by
  unfold Ew
  rw [rc_110 rfl rfl rfl, lc_110]
  by_cases c1 : i < lo
  · simp (disch := omega) only [r110_0, r110_1, r110_2, r110_5, r110_6, r110_7, r110_10, r110_20, Cn_n, Cn_v, Cn_x, dp_0, dp_1, dp_2, dp_3, dp_4, okv_n, okv_i, okv_r, eq_self, true_and, and_true, Option.some.injEq, exists_eq_left', rgT, ixT, ixU, ↓if_pos, ↓if_neg, Int.toNat_natCast, bT0, bT1, thr_mk]
  · simp (disch := omega) only [r110_0, r110_1, r110_2, r110_5, r110_6, r110_7, r110_10, r110_20, Cn_n, Cn_v, Cn_x, dp_0, dp_1, dp_2, dp_3, dp_4, okv_n, okv_i, okv_r, eq_self, true_and, and_true, Option.some.injEq, exists_eq_left', rgT, ixT, ixU, ↓if_pos, ↓if_neg, Int.toNat_natCast, bT0, bT1, thr_mk]
theorem n_job (hJ : F 17 = J) (hJ5 : J ≤ 5) (hi : rg i) (h0 : 0 ≤ i) (h1 : i < J) : Ew 106 [vR 0, .inl i] (mk A F q) Q ↔ Q (.inl none, mk A F q) := by
  unfold Ew
  rw [rc_106 g_0_0 rfl, lc_106]
  simp (disch := omega) only [r106_0, r106_1, r106_2, r106_5, r106_8, r106_11, Cn_n, Cn_v, Cn_x, dp_0, dp_1, dp_2, dp_3, dp_4, okv_n, okv_i, okv_r, eq_self, true_and, and_true, Option.some.injEq, exists_eq_left', rgT, ixT, ixU, ↓if_pos, ↓if_neg, Int.toNat_natCast, bT0, bT1, g_0_0, g_0_1, g_0_2, g_0_3, g_0_4, t_jobs, n_ix]
theorem n_jobx (hJ : F 17 = J) (hJ5 : J ≤ 5) (hi : rg i) (h0 : i < 0 ∨ J ≤ i) : Ew 106 [vR 0, .inl i] (mk A F q) Q ↔ Q (.inr 0, mk A F (bp q)) := by
  unfold Ew
  rw [rc_106 g_0_0 rfl, lc_106]
  simp (disch := omega) only [r106_0, r106_1, r106_2, r106_5, r106_8, r106_11, Cn_n, Cn_v, Cn_x, dp_0, dp_1, dp_2, dp_3, dp_4, okv_n, okv_i, okv_r, eq_self, true_and, and_true, Option.some.injEq, exists_eq_left', rgT, ixT, ixU, ↓if_pos, ↓if_neg, Int.toNat_natCast, bT0, bT1, g_0_0, g_0_1, g_0_2, g_0_3, g_0_4, t_jobs, n_ixx]
theorem n_mac (hM : F 18 = M) (hM5 : M ≤ 5) (hi : rg i) (h0 : 0 ≤ i) (h1 : i < M) : Ew 107 [vR 0, .inl i] (mk A F q) Q ↔ Q (.inl none, mk A F q) := by
  unfold Ew
  rw [rc_107 g_0_0 rfl, lc_107]
  simp (disch := omega) only [r107_0, r107_1, r107_2, r107_5, r107_8, r107_11, Cn_n, Cn_v, Cn_x, dp_0, dp_1, dp_2, dp_3, dp_4, okv_n, okv_i, okv_r, eq_self, true_and, and_true, Option.some.injEq, exists_eq_left', rgT, ixT, ixU, ↓if_pos, ↓if_neg, Int.toNat_natCast, bT0, bT1, g_0_0, g_0_1, g_0_2, g_0_3, g_0_4, t_machs, n_ix]
theorem n_macx (hM : F 18 = M) (hM5 : M ≤ 5) (hi : rg i) (h0 : i < 0 ∨ M ≤ i) : Ew 107 [vR 0, .inl i] (mk A F q) Q ↔ Q (.inr 0, mk A F (bp q)) := by
  unfold Ew
  rw [rc_107 g_0_0 rfl, lc_107]
  simp (disch := omega) only [r107_0, r107_1, r107_2, r107_5, r107_8, r107_11, Cn_n, Cn_v, Cn_x, dp_0, dp_1, dp_2, dp_3, dp_4, okv_n, okv_i, okv_r, eq_self, true_and, and_true, Option.some.injEq, exists_eq_left', rgT, ixT, ixU, ↓if_pos, ↓if_neg, Int.toNat_natCast, bT0, bT1, g_0_0, g_0_1, g_0_2, g_0_3, g_0_4, t_machs, n_ixx]
theorem n_two (hM : F 18 = 2) : Ew 108 [vR 0] (mk A F q) Q ↔ Q (.inl none, mk A F q) := by
  unfold Ew
  rw [rc_108 g_0_0, lc_108]
  simp (disch := omega) only [r108_0, r108_1, r108_4, r108_7, r108_8, r108_11, r108_21, Cn_n, Cn_v, Cn_x, dp_0, dp_1, dp_2, dp_3, dp_4, okv_n, okv_i, okv_r, eq_self, true_and, and_true, Option.some.injEq, exists_eq_left', rgT, ixT, ixU, ↓if_pos, ↓if_neg, Int.toNat_natCast, bT0, bT1, g_0_0, g_0_1, g_0_2, g_0_3, g_0_4, t_machs]
theorem n_twox (hM : F 18 = M) (hM5 : M ≤ 5) (h : M ≠ 2) : Ew 108 [vR 0] (mk A F q) Q ↔ Q (.inr 2, mk A F (bp q)) := by
  unfold Ew
  rw [rc_108 g_0_0, lc_108]
  simp (disch := omega) only [r108_0, r108_1, r108_4, r108_7, r108_8, r108_11, r108_21, Cn_n, Cn_v, Cn_x, dp_0, dp_1, dp_2, dp_3, dp_4, okv_n, okv_i, okv_r, eq_self, true_and, and_true, Option.some.injEq, exists_eq_left', rgT, ixT, ixU, ↓if_pos, ↓if_neg, Int.toNat_natCast, bT0, bT1, g_0_0, g_0_1, g_0_2, g_0_3, g_0_4, t_machs, thr_mk]
theorem p_forget : Ew 43 [vR 4] (mk A F q) Q ↔ Q (.inl none, mk A (uf F 72 0) q) := by
  unfold Ew
  rw [rc_43 g_4_0, lc_43]
  simp (disch := omega) only [r43_0, r43_1, r43_2, r43_5, Cn_n, Cn_v, Cn_x, dp_0, dp_1, dp_2, dp_3, dp_4, okv_n, okv_i, okv_r, eq_self, true_and, and_true, Option.some.injEq, exists_eq_left', rgT, ixT, ixU, ↓if_pos, ↓if_neg, Int.toNat_natCast, bT0, bT1, g_4_0, g_4_1, g_4_2, g_4_3, g_4_4, g_4_5, g_4_6, g_4_7, g_4_8, s_4_8, g_4_9, s_4_9, g_4_10, s_4_10, g_4_11, s_4_11, g_4_12, s_4_12]
theorem o_jobs : Ew 81 [vR 0] (mk A F q) Q ↔ Q (.inl (some (.inl (F 17))), mk A F q) := by
  unfold Ew
  rw [rc_81 g_0_0, lc_81]
  simp (disch := omega) only [r81_0, r81_1, r81_4, r81_7, Cn_n, Cn_v, Cn_x, dp_0, dp_1, dp_2, dp_3, dp_4, okv_n, okv_i, okv_r, eq_self, true_and, and_true, Option.some.injEq, exists_eq_left', rgT, ixT, ixU, ↓if_pos, ↓if_neg, Int.toNat_natCast, bT0, bT1, g_0_0, g_0_1, g_0_2, g_0_3, g_0_4, t_jobs]
theorem o_machines : Ew 82 [vR 0] (mk A F q) Q ↔ Q (.inl (some (.inl (F 18))), mk A F q) := by
  unfold Ew
  rw [rc_82 g_0_0, lc_82]
  simp (disch := omega) only [r82_0, r82_1, r82_4, r82_7, Cn_n, Cn_v, Cn_x, dp_0, dp_1, dp_2, dp_3, dp_4, okv_n, okv_i, okv_r, eq_self, true_and, and_true, Option.some.injEq, exists_eq_left', rgT, ixT, ixU, ↓if_pos, ↓if_neg, Int.toNat_natCast, bT0, bT1, g_0_0, g_0_1, g_0_2, g_0_3, g_0_4, t_machs]
theorem o_time (hJ : F 17 = J) (hM : F 18 = M) (hJ5 : J ≤ 5) (hM5 : M ≤ 5) (h0 : 0 ≤ i) (h1 : i < J) (h2 : 0 ≤ j) (h3 : j < M) : Ew 83 [vR 0, .inl i, .inl j] (mk A F q) Q ↔ Q (.inl (some (.inl (A 3 (5 * i.toNat + j.toNat)))), mk A F q) := by
  unfold Ew
  rw [rc_83 g_0_0 rfl rfl, lc_83]
  simp (disch := omega) only [r83_0, r83_1, r83_2, r83_5, r83_6, r83_7, r83_10, r83_11, r83_14, r83_15, r83_16, r83_19, Cn_n, Cn_v, Cn_x, dp_0, dp_1, dp_2, dp_3, dp_4, okv_n, okv_i, okv_r, eq_self, true_and, and_true, Option.some.injEq, exists_eq_left', rgT, ixT, ixU, ↓if_pos, ↓if_neg, Int.toNat_natCast, bT0, bT1, g_0_0, g_0_1, g_0_2, g_0_3, g_0_4, n_job hJ hJ5, n_mac hM hM5, t_time]
theorem o_timex (hJ : F 17 = J) (hM : F 18 = M) (hJ5 : J ≤ 5) (hM5 : M ≤ 5) (hi : rg i) (hj : rg j) (h0 : i < 0 ∨ J ≤ i ∨ j < 0 ∨ M ≤ j) : Ew 83 [vR 0, .inl i, .inl j] (mk A F q) Q ↔ Q (.inr 0, mk A F (bp q)) := by
  unfold Ew
  rw [rc_83 g_0_0 rfl rfl, lc_83]
  by_cases c1 : 0 ≤ i ∧ i < J
  · simp (disch := omega) only [r83_0, r83_1, r83_2, r83_5, r83_6, r83_7, r83_10, r83_11, r83_14, r83_15, r83_16, r83_19, Cn_n, Cn_v, Cn_x, dp_0, dp_1, dp_2, dp_3, dp_4, okv_n, okv_i, okv_r, eq_self, true_and, and_true, Option.some.injEq, exists_eq_left', rgT, ixT, ixU, ↓if_pos, ↓if_neg, Int.toNat_natCast, bT0, bT1, g_0_0, g_0_1, g_0_2, g_0_3, g_0_4, n_job hJ hJ5, n_macx hM hM5]
  · simp (disch := omega) only [r83_0, r83_1, r83_2, r83_5, r83_6, r83_7, r83_10, r83_11, r83_14, r83_15, r83_16, r83_19, Cn_n, Cn_v, Cn_x, dp_0, dp_1, dp_2, dp_3, dp_4, okv_n, okv_i, okv_r, eq_self, true_and, and_true, Option.some.injEq, exists_eq_left', rgT, ixT, ixU, ↓if_pos, ↓if_neg, Int.toNat_natCast, bT0, bT1, g_0_0, g_0_1, g_0_2, g_0_3, g_0_4, n_jobx hJ hJ5]
theorem o_jobTotal (hJ : F 17 = J) (hM : F 18 = M) (hJ5 : J ≤ 5) (hM5 : M ≤ 5) (h0 : 0 ≤ i) (h1 : i < J) : Ew 84 [vR 0, .inl i] (mk A F q) Q ↔ Q (.inl (some (.inl (rowS (A 3) M i.toNat))), mk A F q) := by
  unfold Ew
  rw [rc_84 g_0_0 rfl, lc_84]
  simp (disch := omega) only [r84_0, r84_1, r84_2, r84_5, r84_6, r84_9, r84_10, r84_13, Cn_n, Cn_v, Cn_x, dp_0, dp_1, dp_2, dp_3, dp_4, okv_n, okv_i, okv_r, eq_self, true_and, and_true, Option.some.injEq, exists_eq_left', rgT, ixT, ixU, ↓if_pos, ↓if_neg, Int.toNat_natCast, bT0, bT1, g_0_0, g_0_1, g_0_2, g_0_3, g_0_4, n_job hJ hJ5, t_row hM hM5]
theorem o_jobTotalx (hJ : F 17 = J) (hJ5 : J ≤ 5) (hi : rg i) (h0 : i < 0 ∨ J ≤ i) : Ew 84 [vR 0, .inl i] (mk A F q) Q ↔ Q (.inr 0, mk A F (bp q)) := by
  unfold Ew
  rw [rc_84 g_0_0 rfl, lc_84]
  simp (disch := omega) only [r84_0, r84_1, r84_2, r84_5, r84_6, r84_9, r84_10, r84_13, Cn_n, Cn_v, Cn_x, dp_0, dp_1, dp_2, dp_3, dp_4, okv_n, okv_i, okv_r, eq_self, true_and, and_true, Option.some.injEq, exists_eq_left', rgT, ixT, ixU, ↓if_pos, ↓if_neg, Int.toNat_natCast, bT0, bT1, g_0_0, g_0_1, g_0_2, g_0_3, g_0_4, n_jobx hJ hJ5]
theorem o_machineTotal (hJ : F 17 = J) (hM : F 18 = M) (hJ5 : J ≤ 5) (hM5 : M ≤ 5) (h0 : 0 ≤ i) (h1 : i < M) : Ew 85 [vR 0, .inl i] (mk A F q) Q ↔ Q (.inl (some (.inl (colS (A 3) J i.toNat))), mk A F q) := by
  unfold Ew
  rw [rc_85 g_0_0 rfl, lc_85]
  simp (disch := omega) only [r85_0, r85_1, r85_2, r85_5, r85_6, r85_9, r85_10, r85_13, Cn_n, Cn_v, Cn_x, dp_0, dp_1, dp_2, dp_3, dp_4, okv_n, okv_i, okv_r, eq_self, true_and, and_true, Option.some.injEq, exists_eq_left', rgT, ixT, ixU, ↓if_pos, ↓if_neg, Int.toNat_natCast, bT0, bT1, g_0_0, g_0_1, g_0_2, g_0_3, g_0_4, n_mac hM hM5, t_col hJ hJ5]
theorem o_machineTotalx (hM : F 18 = M) (hM5 : M ≤ 5) (hi : rg i) (h0 : i < 0 ∨ M ≤ i) : Ew 85 [vR 0, .inl i] (mk A F q) Q ↔ Q (.inr 0, mk A F (bp q)) := by
  unfold Ew
  rw [rc_85 g_0_0 rfl, lc_85]
  simp (disch := omega) only [r85_0, r85_1, r85_2, r85_5, r85_6, r85_9, r85_10, r85_13, Cn_n, Cn_v, Cn_x, dp_0, dp_1, dp_2, dp_3, dp_4, okv_n, okv_i, okv_r, eq_self, true_and, and_true, Option.some.injEq, exists_eq_left', rgT, ixT, ixU, ↓if_pos, ↓if_neg, Int.toNat_natCast, bT0, bT1, g_0_0, g_0_1, g_0_2, g_0_3, g_0_4, n_macx hM hM5]
theorem o_total (hJ : F 17 = J) (hM : F 18 = M) (hJ5 : J ≤ 5) (hM5 : M ≤ 5) : Ew 86 [vR 0] (mk A F q) Q ↔ Q (.inl (some (.inl (allS (A 3) J M))), mk A F q) := by
  unfold Ew
  rw [rc_86 g_0_0, lc_86]
  simp (disch := omega) only [r86_0, r86_1, r86_4, r86_7, Cn_n, Cn_v, Cn_x, dp_0, dp_1, dp_2, dp_3, dp_4, okv_n, okv_i, okv_r, eq_self, true_and, and_true, Option.some.injEq, exists_eq_left', rgT, ixT, ixU, ↓if_pos, ↓if_neg, Int.toNat_natCast, bT0, bT1, g_0_0, g_0_1, g_0_2, g_0_3, g_0_4, t_all hJ hM hJ5 hM5]
theorem o_bound (hJ : F 17 = J) (hM : F 18 = M) (hJ5 : J ≤ 5) (hM5 : M ≤ 5) (ht : TOK (A 3)) : Ew 87 [vR 0] (mk A F q) Q ↔ Q (.inl (some (.inl (bnd (A 3) J M))), mk A F q) := by
  unfold Ew
  rw [rc_87 g_0_0, lc_87]
  simp (disch := omega) only [r87_0, r87_1, r87_4, r87_7, Cn_n, Cn_v, Cn_x, dp_0, dp_1, dp_2, dp_3, dp_4, okv_n, okv_i, okv_r, eq_self, true_and, and_true, Option.some.injEq, exists_eq_left', rgT, ixT, ixU, ↓if_pos, ↓if_neg, Int.toNat_natCast, bT0, bT1, g_0_0, g_0_1, g_0_2, g_0_3, g_0_4, t_most hJ hM hJ5 hM5 ht]
theorem o_filled (hJ : F 17 = J) (hM : F 18 = M) (hJ5 : J ≤ 5) (hM5 : M ≤ 5) (ht : TOK (A 3)) (h0 : 0 ≤ i) (h1 : i < J + M) (h2 : 0 ≤ j) (h3 : j < J + M) : Ew 89 [vR 0, .inl i, .inl j] (mk A F q) Q ↔ Q (.inl (some (.inl (fe (A 3) J M i.toNat j.toNat))), mk A F q) := by
  unfold Ew
  rw [rc_89 g_0_0 rfl rfl, lc_89]
  simp (disch := omega) only [r89_0, r89_1, r89_4, r89_7, r89_8, r89_11, r89_14, r89_15, r89_16, r89_17, r89_18, r89_21, r89_22, r89_23, r89_26, r89_27, r89_30, r89_31, r89_32, r89_35, Cn_n, Cn_v, Cn_x, dp_0, dp_1, dp_2, dp_3, dp_4, okv_n, okv_i, okv_r, eq_self, true_and, and_true, Option.some.injEq, exists_eq_left', rgT, ixT, ixU, ↓if_pos, ↓if_neg, Int.toNat_natCast, bT0, bT1, g_0_0, g_0_1, g_0_2, g_0_3, g_0_4, t_jobs, t_machs, n_ix, t_fill hJ hM hJ5 hM5 ht]
theorem o_filledx (hJ : F 17 = J) (hM : F 18 = M) (hJ5 : J ≤ 5) (hM5 : M ≤ 5) (hi : rg i) (hj : rg j) (h0 : i < 0 ∨ J + M ≤ i ∨ j < 0 ∨ J + M ≤ j) : Ew 89 [vR 0, .inl i, .inl j] (mk A F q) Q ↔ Q (.inr 0, mk A F (bp q)) := by
  unfold Ew
  rw [rc_89 g_0_0 rfl rfl, lc_89]
  by_cases c1 : 0 ≤ i ∧ i < J + M
  · simp (disch := omega) only [r89_0, r89_1, r89_4, r89_7, r89_8, r89_11, r89_14, r89_15, r89_16, r89_17, r89_18, r89_21, r89_22, r89_23, r89_26, r89_27, r89_30, r89_31, r89_32, r89_35, Cn_n, Cn_v, Cn_x, dp_0, dp_1, dp_2, dp_3, dp_4, okv_n, okv_i, okv_r, eq_self, true_and, and_true, Option.some.injEq, exists_eq_left', rgT, ixT, ixU, ↓if_pos, ↓if_neg, Int.toNat_natCast, bT0, bT1, g_0_0, g_0_1, g_0_2, g_0_3, g_0_4, t_jobs, t_machs, n_ix, n_ixx]
  · simp (disch := omega) only [r89_0, r89_1, r89_4, r89_7, r89_8, r89_11, r89_14, r89_15, r89_16, r89_17, r89_18, r89_21, r89_22, r89_23, r89_26, r89_27, r89_30, r89_31, r89_32, r89_35, Cn_n, Cn_v, Cn_x, dp_0, dp_1, dp_2, dp_3, dp_4, okv_n, okv_i, okv_r, eq_self, true_and, and_true, Option.some.injEq, exists_eq_left', rgT, ixT, ixU, ↓if_pos, ↓if_neg, Int.toNat_natCast, bT0, bT1, g_0_0, g_0_1, g_0_2, g_0_3, g_0_4, t_jobs, t_machs, n_ixx]
theorem o_setSize (hJ : F 17 = J) (hM : F 18 = M) (hJ5 : J ≤ 5) (hM5 : M ≤ 5) (h0 : 1 ≤ i) (h1 : i ≤ 5) (h2 : 1 ≤ j) (h3 : j ≤ 5) : Ew 76 [vR 0, .inl i, .inl j] (mk A F q) Q ↔ Q (.inl (some (.inl (allS (A 3) J M))), mk (ua A 3 (fun _ => 0)) (uf (uf (uf F 17 i) 18 j) 72 0) q) := by
  unfold Ew
  rw [rc_76 g_0_0 rfl rfl, lc_76]
  simp (disch := omega) only [r76_0, r76_1, r76_2, r76_3, r76_6, r76_7, r76_8, r76_9, r76_12, r76_13, r76_16, r76_19, r76_20, r76_21, r76_24, r76_25, r76_26, r76_29, r76_30, r76_33, r76_36, r76_37, Cn_n, Cn_v, Cn_x, dp_0, dp_1, dp_2, dp_3, dp_4, okv_n, okv_i, okv_r, eq_self, true_and, and_true, Option.some.injEq, exists_eq_left', rgT, ixT, ixU, ↓if_pos, ↓if_neg, Int.toNat_natCast, bT0, bT1, g_0_0, g_0_1, g_0_2, g_0_3, g_0_4, n_rg, t_all hJ hM hJ5 hM5, t_resize, p_forget]
theorem o_setSizex (hi : rg i) (hj : rg j) (h0 : i < 1 ∨ 5 < i ∨ j < 1 ∨ 5 < j) : Ew 76 [vR 0, .inl i, .inl j] (mk A F q) Q ↔ Q (.inr 1, mk A F (bp q)) := by
  unfold Ew
  rw [rc_76 g_0_0 rfl rfl, lc_76]
  by_cases c1 : 1 ≤ i ∧ i ≤ 5
  · simp (disch := omega) only [r76_0, r76_1, r76_2, r76_3, r76_6, r76_7, r76_8, r76_9, r76_12, r76_13, r76_16, r76_19, r76_20, r76_21, r76_24, r76_25, r76_26, r76_29, r76_30, r76_33, r76_36, r76_37, Cn_n, Cn_v, Cn_x, dp_0, dp_1, dp_2, dp_3, dp_4, okv_n, okv_i, okv_r, eq_self, true_and, and_true, Option.some.injEq, exists_eq_left', rgT, ixT, ixU, ↓if_pos, ↓if_neg, Int.toNat_natCast, bT0, bT1, g_0_0, g_0_1, g_0_2, g_0_3, g_0_4, n_rg, n_rgx]
  · simp (disch := omega) only [r76_0, r76_1, r76_2, r76_3, r76_6, r76_7, r76_8, r76_9, r76_12, r76_13, r76_16, r76_19, r76_20, r76_21, r76_24, r76_25, r76_26, r76_29, r76_30, r76_33, r76_36, r76_37, Cn_n, Cn_v, Cn_x, dp_0, dp_1, dp_2, dp_3, dp_4, okv_n, okv_i, okv_r, eq_self, true_and, and_true, Option.some.injEq, exists_eq_left', rgT, ixT, ixU, ↓if_pos, ↓if_neg, Int.toNat_natCast, bT0, bT1, g_0_0, g_0_1, g_0_2, g_0_3, g_0_4, n_rgx]
theorem o_set (hJ : F 17 = J) (hM : F 18 = M) (hJ5 : J ≤ 5) (hM5 : M ≤ 5) (h0 : 0 ≤ i) (h1 : i < J) (h2 : 0 ≤ j) (h3 : j < M) (h4 : 0 ≤ v) (h5 : v ≤ 99) : Ew 77 [vR 0, .inl i, .inl j, .inl v] (mk A F q) Q ↔ Q (.inl (some (.inl (A 3 (5 * i.toNat + j.toNat)))), mk (u2 A 3 (5 * i.toNat + j.toNat) v) (uf F 72 0) q) := by
  unfold Ew
  rw [rc_77 g_0_0 rfl rfl rfl, lc_77]
  simp (disch := omega) only [r77_0, r77_1, r77_2, r77_5, r77_6, r77_7, r77_10, r77_11, r77_12, r77_14, r77_17, r77_18, r77_21, r77_22, r77_23, r77_26, r77_28, r77_29, r77_32, r77_33, r77_34, r77_35, r77_38, r77_39, r77_42, r77_45, r77_47, Cn_n, Cn_v, Cn_x, dp_0, dp_1, dp_2, dp_3, dp_4, okv_n, okv_i, okv_r, eq_self, true_and, and_true, Option.some.injEq, exists_eq_left', rgT, ixT, ixU, ↓if_pos, ↓if_neg, Int.toNat_natCast, bT0, bT1, g_0_0, g_0_1, g_0_2, g_0_3, g_0_4, n_rg, n_job hJ hJ5, n_mac hM hM5, t_time, t_put, p_forget]
theorem o_setx (hJ : F 17 = J) (hM : F 18 = M) (hJ5 : J ≤ 5) (hM5 : M ≤ 5) (hi : rg i) (hj : rg j) (h0 : i < 0 ∨ J ≤ i ∨ j < 0 ∨ M ≤ j) : Ew 77 [vR 0, .inl i, .inl j, .inl v] (mk A F q) Q ↔ Q (.inr 0, mk A F (bp q)) := by
  unfold Ew
  rw [rc_77 g_0_0 rfl rfl rfl, lc_77]
  by_cases c1 : 0 ≤ i ∧ i < J
  · simp (disch := omega) only [r77_0, r77_1, r77_2, r77_5, r77_6, r77_7, r77_10, r77_11, r77_12, r77_14, r77_17, r77_18, r77_21, r77_22, r77_23, r77_26, r77_28, r77_29, r77_32, r77_33, r77_34, r77_35, r77_38, r77_39, r77_42, r77_45, r77_47, Cn_n, Cn_v, Cn_x, dp_0, dp_1, dp_2, dp_3, dp_4, okv_n, okv_i, okv_r, eq_self, true_and, and_true, Option.some.injEq, exists_eq_left', rgT, ixT, ixU, ↓if_pos, ↓if_neg, Int.toNat_natCast, bT0, bT1, g_0_0, g_0_1, g_0_2, g_0_3, g_0_4, n_job hJ hJ5, n_macx hM hM5]
  · simp (disch := omega) only [r77_0, r77_1, r77_2, r77_5, r77_6, r77_7, r77_10, r77_11, r77_12, r77_14, r77_17, r77_18, r77_21, r77_22, r77_23, r77_26, r77_28, r77_29, r77_32, r77_33, r77_34, r77_35, r77_38, r77_39, r77_42, r77_45, r77_47, Cn_n, Cn_v, Cn_x, dp_0, dp_1, dp_2, dp_3, dp_4, okv_n, okv_i, okv_r, eq_self, true_and, and_true, Option.some.injEq, exists_eq_left', rgT, ixT, ixU, ↓if_pos, ↓if_neg, Int.toNat_natCast, bT0, bT1, g_0_0, g_0_1, g_0_2, g_0_3, g_0_4, n_jobx hJ hJ5]
theorem o_sety (hJ : F 17 = J) (hM : F 18 = M) (hJ5 : J ≤ 5) (hM5 : M ≤ 5) (h0 : 0 ≤ i) (h1 : i < J) (h2 : 0 ≤ j) (h3 : j < M) (hv : rg v) (h4 : v < 0 ∨ 99 < v) : Ew 77 [vR 0, .inl i, .inl j, .inl v] (mk A F q) Q ↔ Q (.inr 1, mk A F (bp q)) := by
  unfold Ew
  rw [rc_77 g_0_0 rfl rfl rfl, lc_77]
  simp (disch := omega) only [r77_0, r77_1, r77_2, r77_5, r77_6, r77_7, r77_10, r77_11, r77_12, r77_14, r77_17, r77_18, r77_21, r77_22, r77_23, r77_26, r77_28, r77_29, r77_32, r77_33, r77_34, r77_35, r77_38, r77_39, r77_42, r77_45, r77_47, Cn_n, Cn_v, Cn_x, dp_0, dp_1, dp_2, dp_3, dp_4, okv_n, okv_i, okv_r, eq_self, true_and, and_true, Option.some.injEq, exists_eq_left', rgT, ixT, ixU, ↓if_pos, ↓if_neg, Int.toNat_natCast, bT0, bT1, g_0_0, g_0_1, g_0_2, g_0_3, g_0_4, n_rgx, n_job hJ hJ5, n_mac hM hM5]
theorem o_swap (hJ : F 17 = J) (hM : F 18 = M) (hJ5 : J ≤ 5) (hM5 : M ≤ 5) (h0 : 0 ≤ i) (h1 : i < J) (h2 : 0 ≤ j) (h3 : j < J) : Ew 79 [vR 0, .inl i, .inl j] (mk A F q) Q ↔ Q (.inl (some (.inl (rowS (swp (A 3) i.toNat j.toNat M) M i.toNat))), mk (ua A 3 (swp (A 3) i.toNat j.toNat M)) (uf F 72 0) q) := by
  have hM2 : uf F 72 0 18 = M := by rw [uf_n (by decide)]; exact hM
  unfold Ew
  rw [rc_79 g_0_0 rfl rfl, lc_79]
  simp (disch := omega) only [r79_0, r79_1, r79_2, r79_5, r79_6, r79_7, r79_10, r79_11, r79_14, r79_15, r79_16, r79_19, r79_20, r79_23, r79_26, r79_27, r79_30, r79_31, r79_34, Cn_n, Cn_v, Cn_x, dp_0, dp_1, dp_2, dp_3, dp_4, okv_n, okv_i, okv_r, eq_self, true_and, and_true, Option.some.injEq, exists_eq_left', rgT, ixT, ixU, ↓if_pos, ↓if_neg, Int.toNat_natCast, bT0, bT1, g_0_0, g_0_1, g_0_2, g_0_3, g_0_4, n_job hJ hJ5, t_swap hM hM5, p_forget, t_row hM2 hM5, ua_s]
theorem o_swapx (hJ : F 17 = J) (hJ5 : J ≤ 5) (hi : rg i) (hj : rg j) (h0 : i < 0 ∨ J ≤ i ∨ j < 0 ∨ J ≤ j) : Ew 79 [vR 0, .inl i, .inl j] (mk A F q) Q ↔ Q (.inr 0, mk A F (bp q)) := by
  unfold Ew
  rw [rc_79 g_0_0 rfl rfl, lc_79]
  by_cases c1 : 0 ≤ i ∧ i < J
  · simp (disch := omega) only [r79_0, r79_1, r79_2, r79_5, r79_6, r79_7, r79_10, r79_11, r79_14, r79_15, r79_16, r79_19, r79_20, r79_23, r79_26, r79_27, r79_30, r79_31, r79_34, Cn_n, Cn_v, Cn_x, dp_0, dp_1, dp_2, dp_3, dp_4, okv_n, okv_i, okv_r, eq_self, true_and, and_true, Option.some.injEq, exists_eq_left', rgT, ixT, ixU, ↓if_pos, ↓if_neg, Int.toNat_natCast, bT0, bT1, g_0_0, g_0_1, g_0_2, g_0_3, g_0_4, n_job hJ hJ5, n_jobx hJ hJ5]
  · simp (disch := omega) only [r79_0, r79_1, r79_2, r79_5, r79_6, r79_7, r79_10, r79_11, r79_14, r79_15, r79_16, r79_19, r79_20, r79_23, r79_26, r79_27, r79_30, r79_31, r79_34, Cn_n, Cn_v, Cn_x, dp_0, dp_1, dp_2, dp_3, dp_4, okv_n, okv_i, okv_r, eq_self, true_and, and_true, Option.some.injEq, exists_eq_left', rgT, ixT, ixU, ↓if_pos, ↓if_neg, Int.toNat_natCast, bT0, bT1, g_0_0, g_0_1, g_0_2, g_0_3, g_0_4, n_jobx hJ hJ5]
theorem trn_ok {t : Nat → Int} (ht : TOK t) : TOK (trn t 5 0) := by
  intro k hk
  unfold trn
  rw [if_neg (by omega)]
  split
  · exact ht _ (by omega)
  · exact ht _ hk
theorem o_turn (hJ : F 17 = J) (hM : F 18 = M) (hJ5 : J ≤ 5) (hM5 : M ≤ 5) (ht : TOK (A 3)) : Ew 80 [vR 0] (mk A F q) Q ↔ Q (.inl (some (.inl (bnd (trn (A 3) 5 0) M J))), mk (ua A 3 (trn (A 3) 5 0)) (uf (uf (uf F 17 (F 18)) 18 (F 17)) 72 0) q) := by
  have h1 : uf (uf (uf F 17 (F 18)) 18 (F 17)) 72 0 17 = (M : Int) := by rw [uf_n (by decide), uf_n (by decide), uf_s]; exact hM
  have h2 : uf (uf (uf F 17 (F 18)) 18 (F 17)) 72 0 18 = (J : Int) := by rw [uf_n (by decide), uf_s]; exact hJ
  have h3 : TOK (ua A 3 (trn (A 3) 5 0) 3) := by rw [ua_s]; exact trn_ok ht
  unfold Ew
  rw [rc_80 g_0_0, lc_80]
  simp (disch := omega) only [r80_0, r80_1, r80_4, r80_7, r80_8, r80_11, r80_14, r80_15, r80_18, r80_21, Cn_n, Cn_v, Cn_x, dp_0, dp_1, dp_2, dp_3, dp_4, okv_n, okv_i, okv_r, eq_self, true_and, and_true, Option.some.injEq, exists_eq_left', rgT, ixT, ixU, ↓if_pos, ↓if_neg, Int.toNat_natCast, bT0, bT1, g_0_0, g_0_1, g_0_2, g_0_3, g_0_4, t_turn, p_forget]
  rw [t_most h1 h2 hM5 hJ5 h3]
  simp (disch := omega) only [r80_0, r80_1, r80_4, r80_7, r80_8, r80_11, r80_14, r80_15, r80_18, r80_21, Cn_n, Cn_v, Cn_x, dp_0, dp_1, dp_2, dp_3, dp_4, okv_n, okv_i, okv_r, eq_self, true_and, and_true, Option.some.injEq, exists_eq_left', rgT, ixT, ixU, ↓if_pos, ↓if_neg, Int.toNat_natCast, bT0, bT1, g_0_0, g_0_1, g_0_2, g_0_3, g_0_4, ua_s]
/-- a job's times by start and step, as far as a machine -/
def stj (t : Nat → Int) (a : Nat) (s d : Int) (n : Nat) : Nat → Int := fun k => if k / 5 = a ∧ k % 5 < n then (s + (k % 5 : Nat) * d) % 100 else t k
theorem stj_0 {t : Nat → Int} {a : Nat} {s d : Int} : stj t a s d 0 = t := by
  funext k
  simp [stj]
theorem stj_s {t : Nat → Int} {a n : Nat} {s d : Int} (hn : n < 5) : uq (stj t a s d n) (5 * a + n) ((s + n * d) % 100) = stj t a s d (n + 1) := by
  funext k
  unfold uq stj
  by_cases hk : k = 5 * a + n
  · rw [if_pos hk, if_pos (by omega)]
    rw [show k % 5 = n by omega]
  · rw [if_neg hk]
    by_cases h2 : k / 5 = a ∧ k % 5 < n
    · rw [if_pos h2, if_pos (by omega)]
    · rw [if_neg h2, if_neg (by omega)]
theorem stj_n {s d : Int} (n : Nat) (h0 : 0 ≤ s) (h1 : 0 ≤ d) : ((s + n * d) % 100 + d).tmod 100 = (s + (n + 1 : Nat) * d) % 100 := by
  have e1 : 0 ≤ (s + n * d) % 100 := Int.emod_nonneg _ (by decide)
  rw [Int.tmod_eq_emod_of_nonneg (by omega), Int.emod_add_emod]
  congr 1
  rw [Int.natCast_add, Int.add_mul]
  simp
  omega
theorem o_setJob (hJ : F 17 = J) (hM : F 18 = M) (hJ5 : J ≤ 5) (hM5 : M ≤ 5) (h0 : 0 ≤ i) (h1 : i < J) (h2 : 0 ≤ j) (h3 : j ≤ 99) (h4 : 0 ≤ v) (h5 : v ≤ 99) : Ew 78 [vR 0, .inl i, .inl j, .inl v] (mk A F q) Q ↔ Q (.inl (some (.inl (rowS (stj (A 3) i.toNat j v M) M i.toNat))), mk (ua A 3 (stj (A 3) i.toNat j v M)) (uf F 72 0) q) := by
  have hM2 : uf F 72 0 18 = M := by rw [uf_n (by decide)]; exact hM
  refine Ew_iff ⟨rc_78 g_0_0 rfl rfl rfl, ?_⟩
  rw [lc_78]
  simp (disch := omega) only [r78_0, r78_1, r78_2, r78_5, r78_6, r78_7, r78_9, r78_12, r78_13, r78_14, r78_16, r78_19, r78_20, r78_22, r78_23, r78_27, r78_28, r78_31, r78_34, r78_37, r78_38, r78_41, r78_42, r78_44, r78_46, r78_49, r78_51, r78_52, r78_53, r78_55, r78_56, r78_58, r78_61, r78_64, r78_65, r78_68, r78_71, r78_72, r78_75, r78_76, r78_79, Cn_n, Cn_v, Cn_x, dp_0, dp_1, dp_2, dp_3, dp_4, okv_n, okv_i, okv_r, eq_self, true_and, and_true, Option.some.injEq, exists_eq_left', rgT, ixT, ixU, ↓if_pos, ↓if_neg, Int.toNat_natCast, bT0, bT1, g_0_0, g_0_1, g_0_2, g_0_3, g_0_4, n_job hJ hJ5, n_rg]
  have key := Rn_for (fun n => Wp 78 25 [some (vR 0), some (.inl i), some (.inl j), some (.inl v), some (.inl ((j + n * v) % 100)), some (.inl (n : Int))] [] (mk (ua A 3 (stj (A 3) i.toNat j v n)) F q) (fun r => r = (.inl (some (.inl (rowS (stj (A 3) i.toNat j v M) M i.toNat))), mk (ua A 3 (stj (A 3) i.toNat j v M)) (uf F 72 0) q))) M (fun n hn ih => ?_) ?_
  · rw [stj_0, ua_id] at key
    have e1 : (j + ((0 : Nat) : Int) * v) % 100 = j := by
      rw [show j + ((0 : Nat) : Int) * v = j by simp]
      omega
    rw [e1] at key
    exact key
  · have b1 : 0 ≤ (j + n * v) % 100 := Int.emod_nonneg _ (by decide)
    have b2 : (j + n * v) % 100 < 100 := Int.emod_lt_of_pos _ (by decide)
    rw [r78_25]
    simp (disch := omega) only [r78_0, r78_1, r78_2, r78_5, r78_6, r78_7, r78_9, r78_12, r78_13, r78_14, r78_16, r78_19, r78_20, r78_22, r78_23, r78_27, r78_28, r78_31, r78_34, r78_37, r78_38, r78_41, r78_42, r78_44, r78_46, r78_49, r78_51, r78_52, r78_53, r78_55, r78_56, r78_58, r78_61, r78_64, r78_65, r78_68, r78_71, r78_72, r78_75, r78_76, r78_79, Cn_n, Cn_v, Cn_x, dp_0, dp_1, dp_2, dp_3, dp_4, okv_n, okv_i, okv_r, eq_self, true_and, and_true, Option.some.injEq, exists_eq_left', rgT, ixT, ixU, ↓if_pos, ↓if_neg, Int.toNat_natCast, bT0, bT1, g_0_0, g_0_1, g_0_2, g_0_3, g_0_4, t_machs, t_put]
    rw [stj_n n h2 h4]
    simp only [u2, ua_s, ua_ua]
    rw [stj_s (by omega)]
    exact ⟨by decide, ih⟩
  · rw [r78_25]
    simp (disch := omega) only [r78_0, r78_1, r78_2, r78_5, r78_6, r78_7, r78_9, r78_12, r78_13, r78_14, r78_16, r78_19, r78_20, r78_22, r78_23, r78_27, r78_28, r78_31, r78_34, r78_37, r78_38, r78_41, r78_42, r78_44, r78_46, r78_49, r78_51, r78_52, r78_53, r78_55, r78_56, r78_58, r78_61, r78_64, r78_65, r78_68, r78_71, r78_72, r78_75, r78_76, r78_79, Cn_n, Cn_v, Cn_x, dp_0, dp_1, dp_2, dp_3, dp_4, okv_n, okv_i, okv_r, eq_self, true_and, and_true, Option.some.injEq, exists_eq_left', rgT, ixT, ixU, ↓if_pos, ↓if_neg, Int.toNat_natCast, bT0, bT1, g_0_0, g_0_1, g_0_2, g_0_3, g_0_4, t_machs, p_forget, t_row hM2 hM5, ua_s]
theorem o_setJobx (hJ : F 17 = J) (hJ5 : J ≤ 5) (hi : rg i) (h0 : i < 0 ∨ J ≤ i) : Ew 78 [vR 0, .inl i, .inl j, .inl v] (mk A F q) Q ↔ Q (.inr 0, mk A F (bp q)) := by
  unfold Ew
  rw [rc_78 g_0_0 rfl rfl rfl, lc_78]
  simp (disch := omega) only [r78_0, r78_1, r78_2, r78_5, r78_6, r78_7, r78_9, r78_12, r78_13, r78_14, r78_16, r78_19, r78_20, r78_22, r78_23, r78_27, r78_28, r78_31, r78_34, r78_37, r78_38, r78_41, r78_42, r78_44, r78_46, r78_49, r78_51, r78_52, r78_53, r78_55, r78_56, r78_58, r78_61, r78_64, r78_65, r78_68, r78_71, r78_72, r78_75, r78_76, r78_79, Cn_n, Cn_v, Cn_x, dp_0, dp_1, dp_2, dp_3, dp_4, okv_n, okv_i, okv_r, eq_self, true_and, and_true, Option.some.injEq, exists_eq_left', rgT, ixT, ixU, ↓if_pos, ↓if_neg, Int.toNat_natCast, bT0, bT1, g_0_0, g_0_1, g_0_2, g_0_3, g_0_4, n_jobx hJ hJ5]
theorem o_setJoby (hJ : F 17 = J) (hJ5 : J ≤ 5) (h0 : 0 ≤ i) (h1 : i < J) (hj : rg j) (hv : rg v) (h4 : j < 0 ∨ 99 < j ∨ v < 0 ∨ 99 < v) : Ew 78 [vR 0, .inl i, .inl j, .inl v] (mk A F q) Q ↔ Q (.inr 1, mk A F (bp q)) := by
  unfold Ew
  rw [rc_78 g_0_0 rfl rfl rfl, lc_78]
  by_cases c1 : 0 ≤ j ∧ j ≤ 99
  · simp (disch := omega) only [r78_0, r78_1, r78_2, r78_5, r78_6, r78_7, r78_9, r78_12, r78_13, r78_14, r78_16, r78_19, r78_20, r78_22, r78_23, r78_27, r78_28, r78_31, r78_34, r78_37, r78_38, r78_41, r78_42, r78_44, r78_46, r78_49, r78_51, r78_52, r78_53, r78_55, r78_56, r78_58, r78_61, r78_64, r78_65, r78_68, r78_71, r78_72, r78_75, r78_76, r78_79, Cn_n, Cn_v, Cn_x, dp_0, dp_1, dp_2, dp_3, dp_4, okv_n, okv_i, okv_r, eq_self, true_and, and_true, Option.some.injEq, exists_eq_left', rgT, ixT, ixU, ↓if_pos, ↓if_neg, Int.toNat_natCast, bT0, bT1, g_0_0, g_0_1, g_0_2, g_0_3, g_0_4, n_job hJ hJ5, n_rg, n_rgx]
  · simp (disch := omega) only [r78_0, r78_1, r78_2, r78_5, r78_6, r78_7, r78_9, r78_12, r78_13, r78_14, r78_16, r78_19, r78_20, r78_22, r78_23, r78_27, r78_28, r78_31, r78_34, r78_37, r78_38, r78_41, r78_42, r78_44, r78_46, r78_49, r78_51, r78_52, r78_53, r78_55, r78_56, r78_58, r78_61, r78_64, r78_65, r78_68, r78_71, r78_72, r78_75, r78_76, r78_79, Cn_n, Cn_v, Cn_x, dp_0, dp_1, dp_2, dp_3, dp_4, okv_n, okv_i, okv_r, eq_self, true_and, and_true, Option.some.injEq, exists_eq_left', rgT, ixT, ixU, ↓if_pos, ↓if_neg, Int.toNat_natCast, bT0, bT1, g_0_0, g_0_1, g_0_2, g_0_3, g_0_4, n_job hJ hJ5, n_rgx]
end SHOP
