/-! the model's face over its rounding -/
abbrev SAG (A A1 : Nat → Nat → Int) : Prop := ∀ k, k ≠ 57 → k ≠ 58 → A1 k = A k
section MR4
variable {A : Nat → Nat → Int} {F : Nat → Int} {q : List Int × Nat} {Q : AR → Prop} {J M : Nat} {d i j : Int} {G f : Nat → Int} {U : Nat → Nat → Int}
theorem sag_gf : SAG A (ua (ua A 57 G) 58 f) := fun k h1 h2 => by rw [ua_n h2, ua_n h1]
theorem m_isDiv (h0 : 1 ≤ d) (h1 : d ≤ 100) : Ew 169 [.inl d] (mk A F q) Q ↔ Q (.inl (some (.inl 1)), mk A F q) := by
  unfold Ew
  rw [rc_169 rfl, lc_169]
  simp (disch := omega) only [r169_0, r169_1, r169_2, r169_5, r169_6, r169_8, r169_11, r169_12, r169_15, r169_16, Cn_n, Cn_v, Cn_x, dp_0, dp_1, dp_2, dp_3, dp_4, okv_n, okv_i, okv_r, eq_self, true_and, and_true, Option.some.injEq, exists_eq_left', rgT, ixT, ixU, ↓if_pos, ↓if_neg, Int.toNat_natCast, bT0, bT1]
theorem m_isDivx (hd : rg d) (h0 : d < 1 ∨ 100 < d) : Ew 169 [.inl d] (mk A F q) Q ↔ Q (.inl (some (.inl 0)), mk A F q) := by
  obtain ⟨h9, h8⟩ := hd
  unfold Ew
  rw [rc_169 rfl, lc_169]
  by_cases c1 : d < 1
  · simp (disch := omega) only [r169_0, r169_1, r169_2, r169_5, r169_6, r169_8, r169_11, r169_12, r169_15, r169_16, Cn_n, Cn_v, Cn_x, dp_0, dp_1, dp_2, dp_3, dp_4, okv_n, okv_i, okv_r, eq_self, true_and, and_true, Option.some.injEq, exists_eq_left', rgT, ixT, ixU, ↓if_pos, ↓if_neg, Int.toNat_natCast, bT0, bT1]
  · simp (disch := omega) only [r169_0, r169_1, r169_2, r169_5, r169_6, r169_8, r169_11, r169_12, r169_15, r169_16, Cn_n, Cn_v, Cn_x, dp_0, dp_1, dp_2, dp_3, dp_4, okv_n, okv_i, okv_r, eq_self, true_and, and_true, Option.some.injEq, exists_eq_left', rgT, ixT, ixU, ↓if_pos, ↓if_neg, Int.toNat_natCast, bT0, bT1]
theorem m_upNow (hJ : F 769 = J) (hM : F 770 = M) (hJ5 : J ≤ 5) (hM5 : M ≤ 5) (hf : ∀ j, j < J → ∀ m, m < M → A 58 (5 * j + m) = U j m ∧ (U j m = 0 ∨ U j m = 1)) : Ew 171 [vR 48] (mk A F q) Q ↔ Q (.inl (some (.inl (isum (fun j => isum (U j) M) J))), mk A F q) := by
  refine Ew_iff ⟨rc_171 g_48_0, ?_⟩
  rw [lc_171]
  simp only [r171_0, r171_1, r171_2, r171_3, r171_5, r171_6, r171_9, r171_12, r171_13, r171_15, r171_16, r171_19, r171_22, r171_23, r171_24, r171_27, r171_28, r171_29, r171_30, r171_31, r171_32, r171_33, r171_36, r171_37, r171_40, r171_41, r171_42, r171_43, r171_46, r171_49, r171_52, r171_55, r171_56, Cn_n, Cn_v, Cn_x, dp_0, dp_1, dp_2, dp_3, dp_4, okv_n, okv_i, okv_r, eq_self, true_and, and_true, Option.some.injEq, exists_eq_left']
  suffices key : ∀ x j : Nat, j + x = J → ∀ a : Int, a = isum (fun j => isum (U j) M) j → ∀ x3 : Option AV, Wp 171 4 [some (vR 48), some (.inl a), some (.inl (j : Int)), x3] [] (mk A F q) (fun r => r = (.inl (some (.inl (isum (fun j => isum (U j) M) J))), mk A F q)) by
    exact key J 0 (by omega) 0 rfl none
  intro x
  induction x with
  | zero =>
    intro j hj a ha x3
    obtain rfl : j = J := by omega
    rw [← ha, r171_4]
    simp (disch := omega) only [r171_0, r171_1, r171_2, r171_3, r171_5, r171_6, r171_9, r171_12, r171_13, r171_15, r171_16, r171_19, r171_22, r171_23, r171_24, r171_27, r171_28, r171_29, r171_30, r171_31, r171_32, r171_33, r171_36, r171_37, r171_40, r171_41, r171_42, r171_43, r171_46, r171_49, r171_52, r171_55, r171_56, Cn_n, Cn_v, Cn_x, dp_0, dp_1, dp_2, dp_3, dp_4, okv_n, okv_i, okv_r, eq_self, true_and, and_true, Option.some.injEq, exists_eq_left', rgT, ixT, ixU, ↓if_pos, ↓if_neg, Int.toNat_natCast, bT0, bT1, g_48_0, s_48_0, g_48_1, s_48_1, g_48_2, s_48_2, g_48_3, g_48_4, g_48_5, g_48_6, g_48_7, s_48_7, g_48_8, g_48_9, g_48_10, g_48_11, g_48_12, g_48_13]
  | succ x ih =>
    intro j hj a ha x3
    rw [r171_4]
    simp (disch := omega) only [r171_0, r171_1, r171_2, r171_3, r171_5, r171_6, r171_9, r171_12, r171_13, r171_15, r171_16, r171_19, r171_22, r171_23, r171_24, r171_27, r171_28, r171_29, r171_30, r171_31, r171_32, r171_33, r171_36, r171_37, r171_40, r171_41, r171_42, r171_43, r171_46, r171_49, r171_52, r171_55, r171_56, Cn_n, Cn_v, Cn_x, dp_0, dp_1, dp_2, dp_3, dp_4, okv_n, okv_i, okv_r, eq_self, true_and, and_true, Option.some.injEq, exists_eq_left', rgT, ixT, ixU, ↓if_pos, ↓if_neg, Int.toNat_natCast, bT0, bT1, g_48_0, s_48_0, g_48_1, s_48_1, g_48_2, s_48_2, g_48_3, g_48_4, g_48_5, g_48_6, g_48_7, s_48_7, g_48_8, g_48_9, g_48_10, g_48_11, g_48_12, g_48_13]
    suffices key2 : ∀ x m : Nat, m + x = M → ∀ b : Int, b = a + isum (U j) m → Wp 171 14 [some (vR 48), some (.inl b), some (.inl (j : Int)), some (.inl (m : Int))] [] (mk A F q) (fun r => r = (.inl (some (.inl (isum (fun j => isum (U j) M) J))), mk A F q)) by
      exact key2 M 0 (by omega) a (by simp only [isum, Int.add_zero])
    intro x2
    induction x2 with
    | zero =>
      intro m hm b hb
      obtain rfl : m = M := by omega
      rw [r171_14]
      simp (disch := omega) only [r171_0, r171_1, r171_2, r171_3, r171_5, r171_6, r171_9, r171_12, r171_13, r171_15, r171_16, r171_19, r171_22, r171_23, r171_24, r171_27, r171_28, r171_29, r171_30, r171_31, r171_32, r171_33, r171_36, r171_37, r171_40, r171_41, r171_42, r171_43, r171_46, r171_49, r171_52, r171_55, r171_56, Cn_n, Cn_v, Cn_x, dp_0, dp_1, dp_2, dp_3, dp_4, okv_n, okv_i, okv_r, eq_self, true_and, and_true, Option.some.injEq, exists_eq_left', rgT, ixT, ixU, ↓if_pos, ↓if_neg, Int.toNat_natCast, bT0, bT1, g_48_0, s_48_0, g_48_1, s_48_1, g_48_2, s_48_2, g_48_3, g_48_4, g_48_5, g_48_6, g_48_7, s_48_7, g_48_8, g_48_9, g_48_10, g_48_11, g_48_12, g_48_13]
      exact ih (j + 1) (by omega) b (by rw [hb, ha]; rfl) _
    | succ x2 ih2 =>
      intro m hm b hb
      obtain ⟨e1, e2⟩ := hf j (by omega) m (by omega)
      have ix : (5 * (j : Int) + (m : Int)).toNat = 5 * j + m := by omega
      have ihm := ih2 (m + 1) (by omega)
      rw [r171_14]
      rcases e2 with e2 | e2
      · rw [e2] at e1
        simp (disch := omega) only [r171_0, r171_1, r171_2, r171_3, r171_5, r171_6, r171_9, r171_12, r171_13, r171_15, r171_16, r171_19, r171_22, r171_23, r171_24, r171_27, r171_28, r171_29, r171_30, r171_31, r171_32, r171_33, r171_36, r171_37, r171_40, r171_41, r171_42, r171_43, r171_46, r171_49, r171_52, r171_55, r171_56, Cn_n, Cn_v, Cn_x, dp_0, dp_1, dp_2, dp_3, dp_4, okv_n, okv_i, okv_r, eq_self, true_and, and_true, Option.some.injEq, exists_eq_left', rgT, ixT, ixU, ↓if_pos, ↓if_neg, Int.toNat_natCast, bT0, bT1, g_48_0, s_48_0, g_48_1, s_48_1, g_48_2, s_48_2, g_48_3, g_48_4, g_48_5, g_48_6, g_48_7, s_48_7, g_48_8, g_48_9, g_48_10, g_48_11, g_48_12, g_48_13, a_58, b_58, d_58, tab_len, tab_get, ix, e1]
        exact ihm _ (by rw [hb]; simp only [isum]; rw [e2]; omega)
      · rw [e2] at e1
        simp (disch := omega) only [r171_0, r171_1, r171_2, r171_3, r171_5, r171_6, r171_9, r171_12, r171_13, r171_15, r171_16, r171_19, r171_22, r171_23, r171_24, r171_27, r171_28, r171_29, r171_30, r171_31, r171_32, r171_33, r171_36, r171_37, r171_40, r171_41, r171_42, r171_43, r171_46, r171_49, r171_52, r171_55, r171_56, Cn_n, Cn_v, Cn_x, dp_0, dp_1, dp_2, dp_3, dp_4, okv_n, okv_i, okv_r, eq_self, true_and, and_true, Option.some.injEq, exists_eq_left', rgT, ixT, ixU, ↓if_pos, ↓if_neg, Int.toNat_natCast, bT0, bT1, g_48_0, s_48_0, g_48_1, s_48_1, g_48_2, s_48_2, g_48_3, g_48_4, g_48_5, g_48_6, g_48_7, s_48_7, g_48_8, g_48_9, g_48_10, g_48_11, g_48_12, g_48_13, a_58, b_58, d_58, tab_len, tab_get, ix, e1]
        exact ihm _ (by rw [hb]; simp only [isum]; rw [e2]; omega)
theorem m_rounded (hJ : F 769 = J) (hM : F 770 = M) (hJ5 : J ≤ 5) (hM5 : M ≤ 5) (ht : TOK (A 49)) (h0 : 0 ≤ i) (h1 : i < J) (h2 : 0 ≤ j) (h3 : j < M) (hd : 1 ≤ d) (hd1 : d ≤ 100) (hU : RDG (A 49) d J M U)
    (hQ : ∀ A1, SAG A A1 → Q (.inl (some (.inl (dq (A 49) d i.toNat j.toNat + U i.toNat j.toNat))), mk A1 (uf F 768 0) q)) : Ew 170 [vR 48, .inl i, .inl j, .inl d] (mk A F q) Q := by
  refine ⟨rc_170 g_48_0 rfl rfl rfl, ?_⟩
  rw [lc_170]
  obtain ⟨x, rfl⟩ : ∃ x : Nat, i = x := ⟨i.toNat, by omega⟩
  obtain ⟨y, rfl⟩ : ∃ y : Nat, j = y := ⟨j.toNat, by omega⟩
  simp only [Int.toNat_natCast] at hQ
  simp (disch := omega) only [r170_0, r170_1, r170_2, r170_5, r170_8, r170_9, r170_10, r170_13, r170_16, r170_17, r170_20, r170_21, r170_23, r170_24, r170_26, r170_29, r170_30, r170_33, r170_34, r170_37, r170_40, r170_41, r170_44, r170_45, r170_48, r170_51, r170_52, r170_53, r170_54, r170_55, r170_58, r170_59, r170_60, r170_61, r170_64, r170_65, r170_66, r170_67, r170_70, r170_71, r170_72, r170_73, r170_74, r170_75, r170_76, r170_79, r170_80, r170_83, r170_84, r170_85, Cn_n, Cn_v, Cn_x, dp_0, dp_1, dp_2, dp_3, dp_4, okv_n, okv_i, okv_r, eq_self, true_and, and_true, Option.some.injEq, exists_eq_left', rgT, ixT, ixU, ↓if_pos, ↓if_neg, Int.toNat_natCast, bT0, bT1, g_48_0, s_48_0, g_48_1, s_48_1, g_48_2, s_48_2, g_48_3, g_48_4, g_48_5, g_48_6, g_48_7, s_48_7, g_48_8, g_48_9, g_48_10, g_48_11, g_48_12, g_48_13, m_isJob hJ, m_isMac hM, m_isDiv, m_holds]
  refine m_rounds rfl (mJ8 hJ) (mM8 hM) hJ5 hM5 (by omega) ht hd hd1 hU (fun G f hf => ?_)
  have e3 : (0 < d) = True := eq_true (by omega)
  have b1 := ht (5 * x + y) (by omega)
  have e1 : (A 49 (5 * x + y)).tdiv d = dq (A 49) d x y := Int.tdiv_eq_ediv_of_nonneg b1.1
  have e4 : ua (ua A 57 G) 58 f 49 = A 49 := by rw [ua_n (by decide), ua_n (by decide)]
  have e5 : ua (ua A 57 G) 58 f 58 = f := ua_s
  have ix : (5 * (x : Int) + (y : Int)).toNat = 5 * x + y := by omega
  have e6 := hf x (by omega) y (by omega)
  have hq := hQ _ (@sag_gf A G f)
  rcases (hU.1.1 x (by omega) y (by omega)).1 with e2 | e2
  · rw [e2] at e6 hq
    simp (disch := omega) only [r170_0, r170_1, r170_2, r170_5, r170_8, r170_9, r170_10, r170_13, r170_16, r170_17, r170_20, r170_21, r170_23, r170_24, r170_26, r170_29, r170_30, r170_33, r170_34, r170_37, r170_40, r170_41, r170_44, r170_45, r170_48, r170_51, r170_52, r170_53, r170_54, r170_55, r170_58, r170_59, r170_60, r170_61, r170_64, r170_65, r170_66, r170_67, r170_70, r170_71, r170_72, r170_73, r170_74, r170_75, r170_76, r170_79, r170_80, r170_83, r170_84, r170_85, Cn_n, Cn_v, Cn_x, dp_0, dp_1, dp_2, dp_3, dp_4, okv_n, okv_i, okv_r, eq_self, true_and, and_true, Option.some.injEq, exists_eq_left', rgT, ixT, ixU, ↓if_pos, ↓if_neg, Int.toNat_natCast, bT0, bT1, g_48_0, s_48_0, g_48_1, s_48_1, g_48_2, s_48_2, g_48_3, g_48_4, g_48_5, g_48_6, g_48_7, s_48_7, g_48_8, g_48_9, g_48_10, g_48_11, g_48_12, g_48_13, a_58, b_58, d_58, m_at, e4, e5, e1, e3, tab_len, tab_get, ix, e6]
    exact hq
  · rw [e2] at e6 hq
    simp (disch := omega) only [r170_0, r170_1, r170_2, r170_5, r170_8, r170_9, r170_10, r170_13, r170_16, r170_17, r170_20, r170_21, r170_23, r170_24, r170_26, r170_29, r170_30, r170_33, r170_34, r170_37, r170_40, r170_41, r170_44, r170_45, r170_48, r170_51, r170_52, r170_53, r170_54, r170_55, r170_58, r170_59, r170_60, r170_61, r170_64, r170_65, r170_66, r170_67, r170_70, r170_71, r170_72, r170_73, r170_74, r170_75, r170_76, r170_79, r170_80, r170_83, r170_84, r170_85, Cn_n, Cn_v, Cn_x, dp_0, dp_1, dp_2, dp_3, dp_4, okv_n, okv_i, okv_r, eq_self, true_and, and_true, Option.some.injEq, exists_eq_left', rgT, ixT, ixU, ↓if_pos, ↓if_neg, Int.toNat_natCast, bT0, bT1, g_48_0, s_48_0, g_48_1, s_48_1, g_48_2, s_48_2, g_48_3, g_48_4, g_48_5, g_48_6, g_48_7, s_48_7, g_48_8, g_48_9, g_48_10, g_48_11, g_48_12, g_48_13, a_58, b_58, d_58, m_at, e4, e5, e1, e3, tab_len, tab_get, ix, e6]
    exact hq
theorem m_roundedx (hJ : F 769 = J) (hM : F 770 = M) (hJ5 : J ≤ 5) (hM5 : M ≤ 5) (hi : rg i) (hj : rg j) (h0 : i < 0 ∨ J ≤ i ∨ j < 0 ∨ M ≤ j) : Ew 170 [vR 48, .inl i, .inl j, .inl d] (mk A F q) Q ↔ Q (.inl (some (.inl 0)), mk A (uf F 768 1) q) := by
  have o1 : rg 1 := ⟨by decide, by decide⟩
  have o2 : (1 : Int) ≠ 0 := by decide
  unfold Ew
  rw [rc_170 g_48_0 rfl rfl rfl, lc_170]
  by_cases c1 : 0 ≤ i ∧ i < J
  · simp (disch := omega) only [r170_0, r170_1, r170_2, r170_5, r170_8, r170_9, r170_10, r170_13, r170_16, r170_17, r170_20, r170_21, r170_23, r170_24, r170_26, r170_29, r170_30, r170_33, r170_34, r170_37, r170_40, r170_41, r170_44, r170_45, r170_48, r170_51, r170_52, r170_53, r170_54, r170_55, r170_58, r170_59, r170_60, r170_61, r170_64, r170_65, r170_66, r170_67, r170_70, r170_71, r170_72, r170_73, r170_74, r170_75, r170_76, r170_79, r170_80, r170_83, r170_84, r170_85, Cn_n, Cn_v, Cn_x, dp_0, dp_1, dp_2, dp_3, dp_4, okv_n, okv_i, okv_r, eq_self, true_and, and_true, Option.some.injEq, exists_eq_left', rgT, ixT, ixU, ↓if_pos, ↓if_neg, Int.toNat_natCast, bT0, bT1, g_48_0, s_48_0, g_48_1, s_48_1, g_48_2, s_48_2, g_48_3, g_48_4, g_48_5, g_48_6, g_48_7, s_48_7, g_48_8, g_48_9, g_48_10, g_48_11, g_48_12, g_48_13, m_isJob hJ, m_isMacx hM hM5 hj, m_holdsx o1 o2]
  · simp (disch := omega) only [r170_0, r170_1, r170_2, r170_5, r170_8, r170_9, r170_10, r170_13, r170_16, r170_17, r170_20, r170_21, r170_23, r170_24, r170_26, r170_29, r170_30, r170_33, r170_34, r170_37, r170_40, r170_41, r170_44, r170_45, r170_48, r170_51, r170_52, r170_53, r170_54, r170_55, r170_58, r170_59, r170_60, r170_61, r170_64, r170_65, r170_66, r170_67, r170_70, r170_71, r170_72, r170_73, r170_74, r170_75, r170_76, r170_79, r170_80, r170_83, r170_84, r170_85, Cn_n, Cn_v, Cn_x, dp_0, dp_1, dp_2, dp_3, dp_4, okv_n, okv_i, okv_r, eq_self, true_and, and_true, Option.some.injEq, exists_eq_left', rgT, ixT, ixU, ↓if_pos, ↓if_neg, Int.toNat_natCast, bT0, bT1, g_48_0, s_48_0, g_48_1, s_48_1, g_48_2, s_48_2, g_48_3, g_48_4, g_48_5, g_48_6, g_48_7, s_48_7, g_48_8, g_48_9, g_48_10, g_48_11, g_48_12, g_48_13, m_isJobx hJ hJ5 hi, m_holdsx o1 o2]
theorem m_roundedy (hJ : F 769 = J) (hM : F 770 = M) (hJ5 : J ≤ 5) (hM5 : M ≤ 5) (h0 : 0 ≤ i) (h1 : i < J) (h2 : 0 ≤ j) (h3 : j < M) (hd : rg d) (h4 : d < 1 ∨ 100 < d) : Ew 170 [vR 48, .inl i, .inl j, .inl d] (mk A F q) Q ↔ Q (.inl (some (.inl 0)), mk A (uf F 768 2) q) := by
  have o1 : rg 2 := ⟨by decide, by decide⟩
  have o2 : (2 : Int) ≠ 0 := by decide
  unfold Ew
  rw [rc_170 g_48_0 rfl rfl rfl, lc_170]
  simp (disch := omega) only [r170_0, r170_1, r170_2, r170_5, r170_8, r170_9, r170_10, r170_13, r170_16, r170_17, r170_20, r170_21, r170_23, r170_24, r170_26, r170_29, r170_30, r170_33, r170_34, r170_37, r170_40, r170_41, r170_44, r170_45, r170_48, r170_51, r170_52, r170_53, r170_54, r170_55, r170_58, r170_59, r170_60, r170_61, r170_64, r170_65, r170_66, r170_67, r170_70, r170_71, r170_72, r170_73, r170_74, r170_75, r170_76, r170_79, r170_80, r170_83, r170_84, r170_85, Cn_n, Cn_v, Cn_x, dp_0, dp_1, dp_2, dp_3, dp_4, okv_n, okv_i, okv_r, eq_self, true_and, and_true, Option.some.injEq, exists_eq_left', rgT, ixT, ixU, ↓if_pos, ↓if_neg, Int.toNat_natCast, bT0, bT1, g_48_0, s_48_0, g_48_1, s_48_1, g_48_2, s_48_2, g_48_3, g_48_4, g_48_5, g_48_6, g_48_7, s_48_7, g_48_8, g_48_9, g_48_10, g_48_11, g_48_12, g_48_13, m_isJob hJ, m_isMac hM, m_isDivx hd, m_holdsx o1 o2]
theorem m_roundedTotal (hJ : F 769 = J) (hM : F 770 = M) (hJ5 : J ≤ 5) (hM5 : M ≤ 5) (hJ1 : 1 ≤ J) (ht : TOK (A 49)) (hd : 1 ≤ d) (hd1 : d ≤ 100) (hU : RDG (A 49) d J M U)
    (hQ : ∀ A1, SAG A A1 → Q (.inl (some (.inl (dna (A 49) d J M + isum (fun j => isum (U j) M) J))), mk A1 (uf F 768 0) q)) : Ew 172 [vR 48, .inl d] (mk A F q) Q := by
  refine ⟨rc_172 g_48_0 rfl, ?_⟩
  rw [lc_172]
  simp (disch := omega) only [r172_0, r172_1, r172_2, r172_5, r172_8, r172_9, r172_12, r172_13, r172_16, r172_19, r172_20, r172_21, r172_22, r172_23, r172_26, r172_27, r172_30, r172_31, r172_32, r172_34, r172_35, r172_38, r172_41, r172_42, r172_43, r172_44, r172_45, r172_48, r172_49, r172_50, r172_53, r172_56, r172_57, Cn_n, Cn_v, Cn_x, dp_0, dp_1, dp_2, dp_3, dp_4, okv_n, okv_i, okv_r, eq_self, true_and, and_true, Option.some.injEq, exists_eq_left', rgT, ixT, ixU, ↓if_pos, ↓if_neg, Int.toNat_natCast, bT0, bT1, g_48_0, s_48_0, g_48_1, s_48_1, g_48_2, s_48_2, g_48_3, g_48_4, g_48_5, g_48_6, g_48_7, s_48_7, g_48_8, g_48_9, g_48_10, g_48_11, g_48_12, g_48_13, m_isDiv, m_holds]
  refine m_rounds rfl (mJ8 hJ) (mM8 hM) hJ5 hM5 hJ1 ht hd hd1 hU (fun G f hf => ?_)
  have e4 : ua (ua A 57 G) 58 f 49 = A 49 := by rw [ua_n (by decide), ua_n (by decide)]
  have e5 : ua (ua A 57 G) 58 f 58 = f := ua_s
  have hq := hQ _ (@sag_gf A G f)
  have up := fun Q => @m_upNow (ua (ua A 57 G) 58 f) (uf F 768 0) q Q J M U (mJ8 hJ) (mM8 hM) hJ5 hM5 (fun j hj m hm => ⟨by rw [e5]; exact hf j hj m hm, (hU.1.1 j hj m hm).1⟩)
  simp (disch := omega) only [r172_0, r172_1, r172_2, r172_5, r172_8, r172_9, r172_12, r172_13, r172_16, r172_19, r172_20, r172_21, r172_22, r172_23, r172_26, r172_27, r172_30, r172_31, r172_32, r172_34, r172_35, r172_38, r172_41, r172_42, r172_43, r172_44, r172_45, r172_48, r172_49, r172_50, r172_53, r172_56, r172_57, Cn_n, Cn_v, Cn_x, dp_0, dp_1, dp_2, dp_3, dp_4, okv_n, okv_i, okv_r, eq_self, true_and, and_true, Option.some.injEq, exists_eq_left', rgT, ixT, ixU, ↓if_pos, ↓if_neg, Int.toNat_natCast, bT0, bT1, g_48_0, s_48_0, g_48_1, s_48_1, g_48_2, s_48_2, g_48_3, g_48_4, g_48_5, g_48_6, g_48_7, s_48_7, g_48_8, g_48_9, g_48_10, g_48_11, g_48_12, g_48_13, up]
  have hJ8 : uf F 768 0 769 = J := mJ8 hJ
  suffices key : ∀ x j : Nat, j + x = J → ∀ a : Int, a = isum (fun j => isum (U j) M) J + isum (dnr (A 49) d M) j → Wp 172 33 [some (vR 48), some (.inl d), some (.inl a), some (.inl (j : Int))] [] (mk (ua (ua A 57 G) 58 f) (uf F 768 0) q) Q by
    exact key J 0 (by omega) _ (by simp only [isum, Int.add_zero])
  intro x
  induction x with
  | zero =>
    intro j hj a ha
    obtain rfl : j = J := by omega
    have e6 : a = dna (A 49) d j M + isum (fun j => isum (U j) M) j := by rw [ha, Int.add_comm]; rfl
    rw [← e6] at hq
    rw [r172_33]
    simp (disch := omega) only [r172_0, r172_1, r172_2, r172_5, r172_8, r172_9, r172_12, r172_13, r172_16, r172_19, r172_20, r172_21, r172_22, r172_23, r172_26, r172_27, r172_30, r172_31, r172_32, r172_34, r172_35, r172_38, r172_41, r172_42, r172_43, r172_44, r172_45, r172_48, r172_49, r172_50, r172_53, r172_56, r172_57, Cn_n, Cn_v, Cn_x, dp_0, dp_1, dp_2, dp_3, dp_4, okv_n, okv_i, okv_r, eq_self, true_and, and_true, Option.some.injEq, exists_eq_left', rgT, ixT, ixU, ↓if_pos, ↓if_neg, Int.toNat_natCast, bT0, bT1, g_48_0, s_48_0, g_48_1, s_48_1, g_48_2, s_48_2, g_48_3, g_48_4, g_48_5, g_48_6, g_48_7, s_48_7, g_48_8, g_48_9, g_48_10, g_48_11, g_48_12, g_48_13, hJ8]
    exact hq
  | succ x ih =>
    intro j hj a ha
    rw [r172_33]
    simp (disch := omega) only [r172_0, r172_1, r172_2, r172_5, r172_8, r172_9, r172_12, r172_13, r172_16, r172_19, r172_20, r172_21, r172_22, r172_23, r172_26, r172_27, r172_30, r172_31, r172_32, r172_34, r172_35, r172_38, r172_41, r172_42, r172_43, r172_44, r172_45, r172_48, r172_49, r172_50, r172_53, r172_56, r172_57, Cn_n, Cn_v, Cn_x, dp_0, dp_1, dp_2, dp_3, dp_4, okv_n, okv_i, okv_r, eq_self, true_and, and_true, Option.some.injEq, exists_eq_left', rgT, ixT, ixU, ↓if_pos, ↓if_neg, Int.toNat_natCast, bT0, bT1, g_48_0, s_48_0, g_48_1, s_48_1, g_48_2, s_48_2, g_48_3, g_48_4, g_48_5, g_48_6, g_48_7, s_48_7, g_48_8, g_48_9, g_48_10, g_48_11, g_48_12, g_48_13, hJ8, m_downsJ e4 (mM8 hM) hM5 ht hd hd1 (show j < 5 by omega)]
    exact ih (j + 1) (by omega) _ (by rw [ha, Int.add_assoc]; rfl)
theorem m_roundedTotalx (hd : rg d) (h4 : d < 1 ∨ 100 < d) : Ew 172 [vR 48, .inl d] (mk A F q) Q ↔ Q (.inl (some (.inl 0)), mk A (uf F 768 1) q) := by
  have o1 : rg 1 := ⟨by decide, by decide⟩
  have o2 : (1 : Int) ≠ 0 := by decide
  unfold Ew
  rw [rc_172 g_48_0 rfl, lc_172]
  simp (disch := omega) only [r172_0, r172_1, r172_2, r172_5, r172_8, r172_9, r172_12, r172_13, r172_16, r172_19, r172_20, r172_21, r172_22, r172_23, r172_26, r172_27, r172_30, r172_31, r172_32, r172_34, r172_35, r172_38, r172_41, r172_42, r172_43, r172_44, r172_45, r172_48, r172_49, r172_50, r172_53, r172_56, r172_57, Cn_n, Cn_v, Cn_x, dp_0, dp_1, dp_2, dp_3, dp_4, okv_n, okv_i, okv_r, eq_self, true_and, and_true, Option.some.injEq, exists_eq_left', rgT, ixT, ixU, ↓if_pos, ↓if_neg, Int.toNat_natCast, bT0, bT1, g_48_0, s_48_0, g_48_1, s_48_1, g_48_2, s_48_2, g_48_3, g_48_4, g_48_5, g_48_6, g_48_7, s_48_7, g_48_8, g_48_9, g_48_10, g_48_11, g_48_12, g_48_13, m_isDivx hd, m_holdsx o1 o2]
theorem m_roundedUp (hJ : F 769 = J) (hM : F 770 = M) (hJ5 : J ≤ 5) (hM5 : M ≤ 5) (hJ1 : 1 ≤ J) (ht : TOK (A 49)) (hd : 1 ≤ d) (hd1 : d ≤ 100) (hU : RDG (A 49) d J M U)
    (hQ : ∀ A1, SAG A A1 → Q (.inl (some (.inl (isum (fun j => isum (U j) M) J))), mk A1 (uf F 768 0) q)) : Ew 173 [vR 48, .inl d] (mk A F q) Q := by
  refine ⟨rc_173 g_48_0 rfl, ?_⟩
  rw [lc_173]
  simp (disch := omega) only [r173_0, r173_1, r173_2, r173_5, r173_8, r173_9, r173_12, r173_13, r173_16, r173_19, r173_20, r173_21, r173_22, r173_23, r173_26, r173_27, r173_30, Cn_n, Cn_v, Cn_x, dp_0, dp_1, dp_2, dp_3, dp_4, okv_n, okv_i, okv_r, eq_self, true_and, and_true, Option.some.injEq, exists_eq_left', rgT, ixT, ixU, ↓if_pos, ↓if_neg, Int.toNat_natCast, bT0, bT1, g_48_0, s_48_0, g_48_1, s_48_1, g_48_2, s_48_2, g_48_3, g_48_4, g_48_5, g_48_6, g_48_7, s_48_7, g_48_8, g_48_9, g_48_10, g_48_11, g_48_12, g_48_13, m_isDiv, m_holds]
  refine m_rounds rfl (mJ8 hJ) (mM8 hM) hJ5 hM5 hJ1 ht hd hd1 hU (fun G f hf => ?_)
  have e5 : ua (ua A 57 G) 58 f 58 = f := ua_s
  have hq := hQ _ (@sag_gf A G f)
  have up := fun Q => @m_upNow (ua (ua A 57 G) 58 f) (uf F 768 0) q Q J M U (mJ8 hJ) (mM8 hM) hJ5 hM5 (fun j hj m hm => ⟨by rw [e5]; exact hf j hj m hm, (hU.1.1 j hj m hm).1⟩)
  simp (disch := omega) only [r173_0, r173_1, r173_2, r173_5, r173_8, r173_9, r173_12, r173_13, r173_16, r173_19, r173_20, r173_21, r173_22, r173_23, r173_26, r173_27, r173_30, Cn_n, Cn_v, Cn_x, dp_0, dp_1, dp_2, dp_3, dp_4, okv_n, okv_i, okv_r, eq_self, true_and, and_true, Option.some.injEq, exists_eq_left', rgT, ixT, ixU, ↓if_pos, ↓if_neg, Int.toNat_natCast, bT0, bT1, g_48_0, s_48_0, g_48_1, s_48_1, g_48_2, s_48_2, g_48_3, g_48_4, g_48_5, g_48_6, g_48_7, s_48_7, g_48_8, g_48_9, g_48_10, g_48_11, g_48_12, g_48_13, up]
  exact hq
theorem m_roundedUpx (hd : rg d) (h4 : d < 1 ∨ 100 < d) : Ew 173 [vR 48, .inl d] (mk A F q) Q ↔ Q (.inl (some (.inl 0)), mk A (uf F 768 1) q) := by
  have o1 : rg 1 := ⟨by decide, by decide⟩
  have o2 : (1 : Int) ≠ 0 := by decide
  unfold Ew
  rw [rc_173 g_48_0 rfl, lc_173]
  simp (disch := omega) only [r173_0, r173_1, r173_2, r173_5, r173_8, r173_9, r173_12, r173_13, r173_16, r173_19, r173_20, r173_21, r173_22, r173_23, r173_26, r173_27, r173_30, Cn_n, Cn_v, Cn_x, dp_0, dp_1, dp_2, dp_3, dp_4, okv_n, okv_i, okv_r, eq_self, true_and, and_true, Option.some.injEq, exists_eq_left', rgT, ixT, ixU, ↓if_pos, ↓if_neg, Int.toNat_natCast, bT0, bT1, g_48_0, s_48_0, g_48_1, s_48_1, g_48_2, s_48_2, g_48_3, g_48_4, g_48_5, g_48_6, g_48_7, s_48_7, g_48_8, g_48_9, g_48_10, g_48_11, g_48_12, g_48_13, m_isDivx hd, m_holdsx o1 o2]
end MR4
