/-! the model's face over its slices -/
abbrev MPR (A : Nat → Nat → Int) (F : Nat → Int) (J M N : Nat) (Ws : Nat → Nat → Int) (sg : Nat → Nat → Nat) (ln : Nat → Int) : Prop := F 769 = (J : Int) ∧ F 770 = (M : Int) ∧ J ≤ 5 ∧ M ≤ 5 ∧ 1 ≤ J ∧ TOK (A 49) ∧ SEQ (A 49) J M N Ws sg ln
section MFACE
variable {A : Nat → Nat → Int} {F : Nat → Int} {q : List Int × Nat} {Q : AR → Prop} {J M N : Nat} {Ws : Nat → Nat → Int} {sg : Nat → Nat → Nat} {ln : Nat → Int} {i v t : Int}
theorem MPR_8 {w : Int} (h : MPR A F J M N Ws sg ln) : MPR A (uf F 768 w) J M N Ws sg ln := ⟨mJ8 h.1, mM8 h.2.1, h.2.2⟩
theorem MV_8 {A1 : Nat → Nat → Int} {w : Int} (h : MV A1 F J M N sg ln) : MV A1 (uf F 768 w) J M N sg ln := ⟨by rw [uf_n (by decide)]; exact h.1, mJ8 h.2.1, mM8 h.2.2.1, h.2.2.2⟩
theorem mq_apart (h : MPR A F J M N Ws sg ln) (hQ : ∀ A1, SAX A A1 → MV A1 (uf F 775 N) J M N sg ln → Q (.inl none, mk A1 (uf F 775 N) q)) : Ew 140 [vR 48] (mk A F q) Q := by
  obtain ⟨hJ, hM, hJ5, hM5, hJ1, ht, hs⟩ := h
  have hbd := bnd_bd ht hJ5 hM5
  refine mx_apart hJ hM hJ5 hM5 hJ1 ht hs (fun A1 g1 g2 => hQ A1 g1 ⟨uf_s, ?_, ?_, hs.2.2.2, hJ5, hM5, g2, SEQ_pos (by omega) hs.2.1, by rw [hs.2.2.1]; omega, fun k hk r hr => ((hs.2.1 k hk).1.1.1 r hr).1⟩)
  · rw [uf_n (by decide)]; exact hJ
  · rw [uf_n (by decide)]; exact hM
theorem m_slices (h : MPR A F J M N Ws sg ln) (hQ : ∀ A1, SAX A A1 → Q (.inl (some (.inl (N : Int))), mk A1 (uf (uf F 768 0) 775 N) q)) : Ew 143 [vR 48] (mk A F q) Q := by
  refine ⟨rc_143 g_48_0, ?_⟩
  rw [lc_143]
  simp only [r143_0, r143_1, r143_2, r143_5, r143_6, r143_9, r143_10, r143_13, Cn_n, Cn_v, Cn_x, dp_0, dp_1, dp_2, dp_3, dp_4, okv_n, okv_i, okv_r, eq_self, true_and, and_true, Option.some.injEq, exists_eq_left', rgT, ixT, ixU, ↓if_pos, ↓if_neg, Int.toNat_natCast, bT0, bT1, g_48_0, s_48_0, g_48_1, s_48_1, g_48_2, s_48_2, g_48_3, g_48_4, g_48_5, g_48_6, g_48_7, s_48_7, g_48_8, g_48_9, g_48_10, g_48_11, g_48_12, g_48_13]
  refine mq_apart (MPR_8 h) (fun A1 g1 g2 => ?_)
  simp only [r143_0, r143_1, r143_2, r143_5, r143_6, r143_9, r143_10, r143_13, Cn_n, Cn_v, Cn_x, dp_0, dp_1, dp_2, dp_3, dp_4, okv_n, okv_i, okv_r, eq_self, true_and, and_true, Option.some.injEq, exists_eq_left', rgT, ixT, ixU, ↓if_pos, ↓if_neg, Int.toNat_natCast, bT0, bT1, g_48_0, s_48_0, g_48_1, s_48_1, g_48_2, s_48_2, g_48_3, g_48_4, g_48_5, g_48_6, g_48_7, s_48_7, g_48_8, g_48_9, g_48_10, g_48_11, g_48_12, g_48_13, g2.1]
  exact hQ _ g1
theorem m_isSlice (h : MPR A F J M N Ws sg ln) (hi : rg i) (h1 : 0 ≤ i → i < N → ∀ A1, SAX A A1 → MV A1 (uf F 775 N) J M N sg ln → Q (.inl (some (.inl 1)), mk A1 (uf F 775 N) q)) (h0 : (i < 0 ∨ (N : Int) ≤ i) → ∀ A1, SAX A A1 → MV A1 (uf F 775 N) J M N sg ln → Q (.inl (some (.inl 0)), mk A1 (uf F 775 N) q)) : Ew 144 [vR 48, .inl i] (mk A F q) Q := by
  obtain ⟨i1, i2⟩ := hi
  refine ⟨rc_144 g_48_0 rfl, ?_⟩
  rw [lc_144]
  simp only [r144_0, r144_1, r144_4, r144_5, r144_8, r144_9, r144_10, r144_13, r144_16, r144_17, r144_20, r144_21, Cn_n, Cn_v, Cn_x, dp_0, dp_1, dp_2, dp_3, dp_4, okv_n, okv_i, okv_r, eq_self, true_and, and_true, Option.some.injEq, exists_eq_left', rgT, ixT, ixU, ↓if_pos, ↓if_neg, Int.toNat_natCast, bT0, bT1, g_48_0, s_48_0, g_48_1, s_48_1, g_48_2, s_48_2, g_48_3, g_48_4, g_48_5, g_48_6, g_48_7, s_48_7, g_48_8, g_48_9, g_48_10, g_48_11, g_48_12, g_48_13]
  refine mq_apart h (fun A1 g1 g2 => ?_)
  have e1 := g2.1
  have e2 := g2.2.2.2.1
  by_cases c1 : i < 0
  · simp (disch := omega) only [r144_0, r144_1, r144_4, r144_5, r144_8, r144_9, r144_10, r144_13, r144_16, r144_17, r144_20, r144_21, Cn_n, Cn_v, Cn_x, dp_0, dp_1, dp_2, dp_3, dp_4, okv_n, okv_i, okv_r, eq_self, true_and, and_true, Option.some.injEq, exists_eq_left', rgT, ixT, ixU, ↓if_pos, ↓if_neg, Int.toNat_natCast, bT0, bT1, g_48_0, s_48_0, g_48_1, s_48_1, g_48_2, s_48_2, g_48_3, g_48_4, g_48_5, g_48_6, g_48_7, s_48_7, g_48_8, g_48_9, g_48_10, g_48_11, g_48_12, g_48_13, e1]
    exact h0 (by omega) A1 g1 g2
  · by_cases c2 : i < N
    · simp (disch := omega) only [r144_0, r144_1, r144_4, r144_5, r144_8, r144_9, r144_10, r144_13, r144_16, r144_17, r144_20, r144_21, Cn_n, Cn_v, Cn_x, dp_0, dp_1, dp_2, dp_3, dp_4, okv_n, okv_i, okv_r, eq_self, true_and, and_true, Option.some.injEq, exists_eq_left', rgT, ixT, ixU, ↓if_pos, ↓if_neg, Int.toNat_natCast, bT0, bT1, g_48_0, s_48_0, g_48_1, s_48_1, g_48_2, s_48_2, g_48_3, g_48_4, g_48_5, g_48_6, g_48_7, s_48_7, g_48_8, g_48_9, g_48_10, g_48_11, g_48_12, g_48_13, e1]
      exact h1 (by omega) c2 A1 g1 g2
    · simp (disch := omega) only [r144_0, r144_1, r144_4, r144_5, r144_8, r144_9, r144_10, r144_13, r144_16, r144_17, r144_20, r144_21, Cn_n, Cn_v, Cn_x, dp_0, dp_1, dp_2, dp_3, dp_4, okv_n, okv_i, okv_r, eq_self, true_and, and_true, Option.some.injEq, exists_eq_left', rgT, ixT, ixU, ↓if_pos, ↓if_neg, Int.toNat_natCast, bT0, bT1, g_48_0, s_48_0, g_48_1, s_48_1, g_48_2, s_48_2, g_48_3, g_48_4, g_48_5, g_48_6, g_48_7, s_48_7, g_48_8, g_48_9, g_48_10, g_48_11, g_48_12, g_48_13, e1]
      exact h0 (by omega) A1 g1 g2
theorem m_sliceStart (h : MPR A F J M N Ws sg ln) (hi : rg i) (h1 : 0 ≤ i → i < N → ∀ A1, SAX A A1 → Q (.inl (some (.inl (isum ln i.toNat))), mk A1 (uf (uf F 775 N) 768 0) q)) (h0 : (i < 0 ∨ (N : Int) ≤ i) → ∀ A1, SAX A A1 → Q (.inl (some (.inl 0)), mk A1 (uf (uf F 775 N) 768 1) q)) : Ew 145 [vR 48, .inl i] (mk A F q) Q := by
  have o1 : rg 1 := ⟨by decide, by decide⟩
  have o2 : (1 : Int) ≠ 0 := by decide
  refine ⟨rc_145 g_48_0 rfl, ?_⟩
  rw [lc_145]
  simp only [r145_0, r145_1, r145_2, r145_3, r145_6, r145_9, r145_10, r145_13, r145_14, r145_17, r145_20, r145_21, r145_22, r145_25, r145_28, r145_29, Cn_n, Cn_v, Cn_x, dp_0, dp_1, dp_2, dp_3, dp_4, okv_n, okv_i, okv_r, eq_self, true_and, and_true, Option.some.injEq, exists_eq_left', rgT, ixT, ixU, ↓if_pos, ↓if_neg, Int.toNat_natCast, bT0, bT1, g_48_0, s_48_0, g_48_1, s_48_1, g_48_2, s_48_2, g_48_3, g_48_4, g_48_5, g_48_6, g_48_7, s_48_7, g_48_8, g_48_9, g_48_10, g_48_11, g_48_12, g_48_13]
  refine m_isSlice h hi (fun c1 c2 A1 g1 g2 => ?_) (fun c1 A1 g1 g2 => ?_)
  · obtain ⟨k, rfl⟩ : ∃ k : Nat, i = k := ⟨i.toNat, by omega⟩
    simp (disch := omega) only [r145_0, r145_1, r145_2, r145_3, r145_6, r145_9, r145_10, r145_13, r145_14, r145_17, r145_20, r145_21, r145_22, r145_25, r145_28, r145_29, Cn_n, Cn_v, Cn_x, dp_0, dp_1, dp_2, dp_3, dp_4, okv_n, okv_i, okv_r, eq_self, true_and, and_true, Option.some.injEq, exists_eq_left', rgT, ixT, ixU, ↓if_pos, ↓if_neg, Int.toNat_natCast, bT0, bT1, g_48_0, s_48_0, g_48_1, s_48_1, g_48_2, s_48_2, g_48_3, g_48_4, g_48_5, g_48_6, g_48_7, s_48_7, g_48_8, g_48_9, g_48_10, g_48_11, g_48_12, g_48_13, m_holds, mp_start (MV_8 g2) (show k ≤ N by omega)]
    exact h1 c1 c2 A1 g1
  · simp (disch := omega) only [r145_0, r145_1, r145_2, r145_3, r145_6, r145_9, r145_10, r145_13, r145_14, r145_17, r145_20, r145_21, r145_22, r145_25, r145_28, r145_29, Cn_n, Cn_v, Cn_x, dp_0, dp_1, dp_2, dp_3, dp_4, okv_n, okv_i, okv_r, eq_self, true_and, and_true, Option.some.injEq, exists_eq_left', rgT, ixT, ixU, ↓if_pos, ↓if_neg, Int.toNat_natCast, bT0, bT1, g_48_0, s_48_0, g_48_1, s_48_1, g_48_2, s_48_2, g_48_3, g_48_4, g_48_5, g_48_6, g_48_7, s_48_7, g_48_8, g_48_9, g_48_10, g_48_11, g_48_12, g_48_13, m_holdsx o1 o2]
    exact h0 c1 A1 g1
theorem m_sliceLength (h : MPR A F J M N Ws sg ln) (hi : rg i) (h1 : 0 ≤ i → i < N → ∀ A1, SAX A A1 → Q (.inl (some (.inl (ln i.toNat))), mk A1 (uf (uf F 775 N) 768 0) q)) (h0 : (i < 0 ∨ (N : Int) ≤ i) → ∀ A1, SAX A A1 → Q (.inl (some (.inl 0)), mk A1 (uf (uf F 775 N) 768 1) q)) : Ew 146 [vR 48, .inl i] (mk A F q) Q := by
  have o1 : rg 1 := ⟨by decide, by decide⟩
  have o2 : (1 : Int) ≠ 0 := by decide
  refine ⟨rc_146 g_48_0 rfl, ?_⟩
  rw [lc_146]
  simp only [r146_0, r146_1, r146_2, r146_3, r146_6, r146_9, r146_10, r146_13, r146_14, r146_17, r146_20, r146_21, r146_24, r146_25, r146_26, r146_29, r146_30, Cn_n, Cn_v, Cn_x, dp_0, dp_1, dp_2, dp_3, dp_4, okv_n, okv_i, okv_r, eq_self, true_and, and_true, Option.some.injEq, exists_eq_left', rgT, ixT, ixU, ↓if_pos, ↓if_neg, Int.toNat_natCast, bT0, bT1, g_48_0, s_48_0, g_48_1, s_48_1, g_48_2, s_48_2, g_48_3, g_48_4, g_48_5, g_48_6, g_48_7, s_48_7, g_48_8, g_48_9, g_48_10, g_48_11, g_48_12, g_48_13]
  refine m_isSlice h hi (fun c1 c2 A1 g1 g2 => ?_) (fun c1 A1 g1 g2 => ?_)
  · obtain ⟨k, rfl⟩ : ∃ k : Nat, i = k := ⟨i.toNat, by omega⟩
    have e1 := (g2.2.2.2.2.2.2.1 k (by omega)).1
    have e2 := g2.2.2.2.1
    simp (disch := omega) only [r146_0, r146_1, r146_2, r146_3, r146_6, r146_9, r146_10, r146_13, r146_14, r146_17, r146_20, r146_21, r146_24, r146_25, r146_26, r146_29, r146_30, Cn_n, Cn_v, Cn_x, dp_0, dp_1, dp_2, dp_3, dp_4, okv_n, okv_i, okv_r, eq_self, true_and, and_true, Option.some.injEq, exists_eq_left', rgT, ixT, ixU, ↓if_pos, ↓if_neg, Int.toNat_natCast, bT0, bT1, g_48_0, s_48_0, g_48_1, s_48_1, g_48_2, s_48_2, g_48_3, g_48_4, g_48_5, g_48_6, g_48_7, s_48_7, g_48_8, g_48_9, g_48_10, g_48_11, g_48_12, g_48_13, a_51, b_51, d_51, m_holds, tab_len, tab_get, e1]
    exact h1 c1 c2 A1 g1
  · simp (disch := omega) only [r146_0, r146_1, r146_2, r146_3, r146_6, r146_9, r146_10, r146_13, r146_14, r146_17, r146_20, r146_21, r146_24, r146_25, r146_26, r146_29, r146_30, Cn_n, Cn_v, Cn_x, dp_0, dp_1, dp_2, dp_3, dp_4, okv_n, okv_i, okv_r, eq_self, true_and, and_true, Option.some.injEq, exists_eq_left', rgT, ixT, ixU, ↓if_pos, ↓if_neg, Int.toNat_natCast, bT0, bT1, g_48_0, s_48_0, g_48_1, s_48_1, g_48_2, s_48_2, g_48_3, g_48_4, g_48_5, g_48_6, g_48_7, s_48_7, g_48_8, g_48_9, g_48_10, g_48_11, g_48_12, g_48_13, m_holdsx o1 o2]
    exact h0 c1 A1 g1
theorem m_machineIn (h : MPR A F J M N Ws sg ln) (hi : rg i) (hv : rg v) (h1 : 0 ≤ i → i < N → 0 ≤ v → v < J → ∀ A1, SAX A A1 → Q (.inl (some (.inl (mo sg M i.toNat v.toNat))), mk A1 (uf (uf F 775 N) 768 0) q)) (h0 : (i < 0 ∨ (N : Int) ≤ i ∨ v < 0 ∨ (J : Int) ≤ v) → ∀ A1, SAX A A1 → Q (.inl (some (.inl 0)), mk A1 (uf (uf F 775 N) 768 1) q)) : Ew 147 [vR 48, .inl i, .inl v] (mk A F q) Q := by
  have o1 : rg 1 := ⟨by decide, by decide⟩
  have o2 : (1 : Int) ≠ 0 := by decide
  refine ⟨rc_147 g_48_0 rfl rfl, ?_⟩
  rw [lc_147]
  simp only [r147_0, r147_1, r147_2, r147_3, r147_6, r147_9, r147_10, r147_11, r147_14, r147_17, r147_18, r147_21, r147_22, r147_25, r147_28, r147_29, r147_30, r147_31, r147_34, r147_37, r147_38, Cn_n, Cn_v, Cn_x, dp_0, dp_1, dp_2, dp_3, dp_4, okv_n, okv_i, okv_r, eq_self, true_and, and_true, Option.some.injEq, exists_eq_left', rgT, ixT, ixU, ↓if_pos, ↓if_neg, Int.toNat_natCast, bT0, bT1, g_48_0, s_48_0, g_48_1, s_48_1, g_48_2, s_48_2, g_48_3, g_48_4, g_48_5, g_48_6, g_48_7, s_48_7, g_48_8, g_48_9, g_48_10, g_48_11, g_48_12, g_48_13]
  refine m_isSlice h hi (fun c1 c2 A1 g1 g2 => ?_) (fun c1 A1 g1 g2 => ?_)
  · have hJ1 := g2.2.1
    have hJ5 := g2.2.2.2.2.1
    by_cases c3 : 0 ≤ v ∧ v < J
    · obtain ⟨k, rfl⟩ : ∃ k : Nat, i = k := ⟨i.toNat, by omega⟩
      obtain ⟨j, rfl⟩ : ∃ j : Nat, v = j := ⟨v.toNat, by omega⟩
      simp (disch := omega) only [r147_0, r147_1, r147_2, r147_3, r147_6, r147_9, r147_10, r147_11, r147_14, r147_17, r147_18, r147_21, r147_22, r147_25, r147_28, r147_29, r147_30, r147_31, r147_34, r147_37, r147_38, Cn_n, Cn_v, Cn_x, dp_0, dp_1, dp_2, dp_3, dp_4, okv_n, okv_i, okv_r, eq_self, true_and, and_true, Option.some.injEq, exists_eq_left', rgT, ixT, ixU, ↓if_pos, ↓if_neg, Int.toNat_natCast, bT0, bT1, g_48_0, s_48_0, g_48_1, s_48_1, g_48_2, s_48_2, g_48_3, g_48_4, g_48_5, g_48_6, g_48_7, s_48_7, g_48_8, g_48_9, g_48_10, g_48_11, g_48_12, g_48_13, m_isJob hJ1, m_holds, mp_on (MV_8 g2) (show k < N by omega) (show j < J by omega)]
      exact h1 c1 c2 c3.1 c3.2 A1 g1
    · simp (disch := omega) only [r147_0, r147_1, r147_2, r147_3, r147_6, r147_9, r147_10, r147_11, r147_14, r147_17, r147_18, r147_21, r147_22, r147_25, r147_28, r147_29, r147_30, r147_31, r147_34, r147_37, r147_38, Cn_n, Cn_v, Cn_x, dp_0, dp_1, dp_2, dp_3, dp_4, okv_n, okv_i, okv_r, eq_self, true_and, and_true, Option.some.injEq, exists_eq_left', rgT, ixT, ixU, ↓if_pos, ↓if_neg, Int.toNat_natCast, bT0, bT1, g_48_0, s_48_0, g_48_1, s_48_1, g_48_2, s_48_2, g_48_3, g_48_4, g_48_5, g_48_6, g_48_7, s_48_7, g_48_8, g_48_9, g_48_10, g_48_11, g_48_12, g_48_13, m_isJobx hJ1 hJ5 hv, m_holdsx o1 o2]
      exact h0 (by omega) A1 g1
  · simp (disch := omega) only [r147_0, r147_1, r147_2, r147_3, r147_6, r147_9, r147_10, r147_11, r147_14, r147_17, r147_18, r147_21, r147_22, r147_25, r147_28, r147_29, r147_30, r147_31, r147_34, r147_37, r147_38, Cn_n, Cn_v, Cn_x, dp_0, dp_1, dp_2, dp_3, dp_4, okv_n, okv_i, okv_r, eq_self, true_and, and_true, Option.some.injEq, exists_eq_left', rgT, ixT, ixU, ↓if_pos, ↓if_neg, Int.toNat_natCast, bT0, bT1, g_48_0, s_48_0, g_48_1, s_48_1, g_48_2, s_48_2, g_48_3, g_48_4, g_48_5, g_48_6, g_48_7, s_48_7, g_48_8, g_48_9, g_48_10, g_48_11, g_48_12, g_48_13, m_holdsx o1 o2]
    exact h0 (by omega) A1 g1
theorem m_finishOf (h : MPR A F J M N Ws sg ln) (hi : rg i) (c1 : 0 ≤ i) (c2 : i < J) (h1 : ∀ A1, SAX A A1 → Q (.inl (some (.inl (fi sg ln M i.toNat N))), mk A1 (uf (uf F 768 0) 775 N) q)) : Ew 151 [vR 48, .inl i] (mk A F q) Q := by
  refine ⟨rc_151 g_48_0 rfl, ?_⟩
  rw [lc_151]
  have hJ := h.1
  have hJ5 := h.2.2.1
  obtain ⟨j, rfl⟩ : ∃ j : Nat, i = j := ⟨i.toNat, by omega⟩
  simp (disch := omega) only [r151_0, r151_1, r151_2, r151_3, r151_6, r151_9, r151_10, r151_13, r151_14, r151_17, r151_20, r151_21, r151_22, r151_23, r151_26, r151_27, r151_28, r151_31, Cn_n, Cn_v, Cn_x, dp_0, dp_1, dp_2, dp_3, dp_4, okv_n, okv_i, okv_r, eq_self, true_and, and_true, Option.some.injEq, exists_eq_left', rgT, ixT, ixU, ↓if_pos, ↓if_neg, Int.toNat_natCast, bT0, bT1, g_48_0, s_48_0, g_48_1, s_48_1, g_48_2, s_48_2, g_48_3, g_48_4, g_48_5, g_48_6, g_48_7, s_48_7, g_48_8, g_48_9, g_48_10, g_48_11, g_48_12, g_48_13, m_isJob hJ, m_holds]
  refine mq_apart (MPR_8 h) (fun A1 g1 g2 => ?_)
  simp (disch := omega) only [r151_0, r151_1, r151_2, r151_3, r151_6, r151_9, r151_10, r151_13, r151_14, r151_17, r151_20, r151_21, r151_22, r151_23, r151_26, r151_27, r151_28, r151_31, Cn_n, Cn_v, Cn_x, dp_0, dp_1, dp_2, dp_3, dp_4, okv_n, okv_i, okv_r, eq_self, true_and, and_true, Option.some.injEq, exists_eq_left', rgT, ixT, ixU, ↓if_pos, ↓if_neg, Int.toNat_natCast, bT0, bT1, g_48_0, s_48_0, g_48_1, s_48_1, g_48_2, s_48_2, g_48_3, g_48_4, g_48_5, g_48_6, g_48_7, s_48_7, g_48_8, g_48_9, g_48_10, g_48_11, g_48_12, g_48_13, mp_finish g2 (show j < J by omega)]
  exact h1 A1 g1
theorem m_finishOfx (h : MPR A F J M N Ws sg ln) (hi : rg i) (c1 : i < 0 ∨ (J : Int) ≤ i) : Ew 151 [vR 48, .inl i] (mk A F q) Q ↔ Q (.inl (some (.inl 0)), mk A (uf F 768 1) q) := by
  have o1 : rg 1 := ⟨by decide, by decide⟩
  have o2 : (1 : Int) ≠ 0 := by decide
  unfold Ew
  rw [rc_151 g_48_0 rfl, lc_151]
  have hJ := h.1
  have hJ5 := h.2.2.1
  simp (disch := omega) only [r151_0, r151_1, r151_2, r151_3, r151_6, r151_9, r151_10, r151_13, r151_14, r151_17, r151_20, r151_21, r151_22, r151_23, r151_26, r151_27, r151_28, r151_31, Cn_n, Cn_v, Cn_x, dp_0, dp_1, dp_2, dp_3, dp_4, okv_n, okv_i, okv_r, eq_self, true_and, and_true, Option.some.injEq, exists_eq_left', rgT, ixT, ixU, ↓if_pos, ↓if_neg, Int.toNat_natCast, bT0, bT1, g_48_0, s_48_0, g_48_1, s_48_1, g_48_2, s_48_2, g_48_3, g_48_4, g_48_5, g_48_6, g_48_7, s_48_7, g_48_8, g_48_9, g_48_10, g_48_11, g_48_12, g_48_13, m_isJobx hJ hJ5 hi, m_holdsx o1 o2]
end MFACE
