/-! done in the model -/
section MFACE
variable {A : Nat → Nat → Int} {F : Nat → Int} {q : List Int × Nat} {Q : AR → Prop} {J M N : Nat} {Ws : Nat → Nat → Int} {sg : Nat → Nat → Nat} {ln : Nat → Int} {i v t : Int}
theorem m_done (h : MPR A F J M N Ws sg ln) (ht : rg t) (c0 : 0 ≤ i) (c3 : i < J) (c1 : 0 ≤ v) (c2 : v < M) (h1 : ∀ A1, SAX A A1 → Q (.inl (some (.inl (isum (dn sg ln M i.toNat v t) N))), mk A1 (uf (uf F 768 0) 775 N) q)) : Ew 149 [vR 48, .inl i, .inl v, .inl t] (mk A F q) Q := by
  obtain ⟨t1, t2⟩ := ht
  refine ⟨rc_149 g_48_0 rfl rfl rfl, ?_⟩
  rw [lc_149]
  obtain ⟨j, rfl⟩ : ∃ j : Nat, i = j := ⟨i.toNat, by omega⟩
  rw [Int.toNat_natCast] at h1
  have hjJ : j < J := by omega
  have hJ := h.1
  have hM := h.2.1
  have hJ5 := h.2.2.1
  have hM5 := h.2.2.2.1
  simp (disch := omega) only [r149_0, r149_1, r149_2, r149_3, r149_6, r149_9, r149_10, r149_11, r149_12, r149_15, r149_16, r149_18, r149_19, r149_23, r149_24, r149_27, r149_30, r149_31, r149_33, r149_36, r149_38, r149_39, r149_41, r149_42, r149_43, r149_46, r149_47, r149_50, r149_51, r149_53, r149_54, r149_55, r149_58, r149_61, r149_62, r149_64, r149_66, r149_67, r149_69, r149_70, r149_73, r149_74, r149_77, r149_79, r149_81, r149_84, r149_86, r149_88, r149_89, r149_92, r149_93, r149_94, r149_96, r149_99, r149_102, r149_104, Cn_n, Cn_v, Cn_x, dp_0, dp_1, dp_2, dp_3, dp_4, okv_n, okv_i, okv_r, eq_self, true_and, and_true, Option.some.injEq, exists_eq_left', rgT, ixT, ixU, ↓if_pos, ↓if_neg, Int.toNat_natCast, bT0, bT1, g_48_0, s_48_0, g_48_1, s_48_1, g_48_2, s_48_2, g_48_3, g_48_4, g_48_5, g_48_6, g_48_7, s_48_7, g_48_8, g_48_9, g_48_10, g_48_11, g_48_12, g_48_13, m_isPlace hJ hM hJ5 hM5]
  refine mq_apart (MPR_8 h) (fun A1 g1 g2 => ?_)
  simp (disch := omega) only [r149_0, r149_1, r149_2, r149_3, r149_6, r149_9, r149_10, r149_11, r149_12, r149_15, r149_16, r149_18, r149_19, r149_23, r149_24, r149_27, r149_30, r149_31, r149_33, r149_36, r149_38, r149_39, r149_41, r149_42, r149_43, r149_46, r149_47, r149_50, r149_51, r149_53, r149_54, r149_55, r149_58, r149_61, r149_62, r149_64, r149_66, r149_67, r149_69, r149_70, r149_73, r149_74, r149_77, r149_79, r149_81, r149_84, r149_86, r149_88, r149_89, r149_92, r149_93, r149_94, r149_96, r149_99, r149_102, r149_104, Cn_n, Cn_v, Cn_x, dp_0, dp_1, dp_2, dp_3, dp_4, okv_n, okv_i, okv_r, eq_self, true_and, and_true, Option.some.injEq, exists_eq_left', rgT, ixT, ixU, ↓if_pos, ↓if_neg, Int.toNat_natCast, bT0, bT1, g_48_0, s_48_0, g_48_1, s_48_1, g_48_2, s_48_2, g_48_3, g_48_4, g_48_5, g_48_6, g_48_7, s_48_7, g_48_8, g_48_9, g_48_10, g_48_11, g_48_12, g_48_13]
  have hfin := h1 A1 g1
  generalize uf (uf F 768 0) 775 (N : Int) = F1 at g2 hfin ⊢
  have g9 := g2
  obtain ⟨p1, p2, p3, p4, p5, p6, p7, p8, p9, pa⟩ := g2
  suffices key : ∀ d x : Nat, x + d = N → ∀ a : Int, a = isum (dn sg ln M j v t) x → ∀ x6 x7 : Option AV, okv x6 = true → okv x7 = true → Wp 149 21 [some (vR 48), some (.inl (j : Int)), some (.inl v), some (.inl t), some (.inl a), some (.inl (x : Int)), x6, x7] [] (mk A1 F1 q) Q by
    exact key N 0 (by omega) _ rfl none none rfl rfl
  intro d
  induction d with
  | zero =>
    intro x hx a ha x6 x7 h6 h7
    obtain rfl : x = N := by omega
    subst ha
    rw [r149_21]
    simp (disch := omega) only [r149_0, r149_1, r149_2, r149_3, r149_6, r149_9, r149_10, r149_11, r149_12, r149_15, r149_16, r149_18, r149_19, r149_23, r149_24, r149_27, r149_30, r149_31, r149_33, r149_36, r149_38, r149_39, r149_41, r149_42, r149_43, r149_46, r149_47, r149_50, r149_51, r149_53, r149_54, r149_55, r149_58, r149_61, r149_62, r149_64, r149_66, r149_67, r149_69, r149_70, r149_73, r149_74, r149_77, r149_79, r149_81, r149_84, r149_86, r149_88, r149_89, r149_92, r149_93, r149_94, r149_96, r149_99, r149_102, r149_104, Cn_n, Cn_v, Cn_x, dp_0, dp_1, dp_2, dp_3, dp_4, okv_n, okv_i, okv_r, eq_self, true_and, and_true, Option.some.injEq, exists_eq_left', rgT, ixT, ixU, ↓if_pos, ↓if_neg, Int.toNat_natCast, bT0, bT1, g_48_0, s_48_0, g_48_1, s_48_1, g_48_2, s_48_2, g_48_3, g_48_4, g_48_5, g_48_6, g_48_7, s_48_7, g_48_8, g_48_9, g_48_10, g_48_11, g_48_12, g_48_13]
    exact hfin
  | succ d ih =>
    intro x hx a ha x6 x7 h6 h7
    have b1 := st_bd p8 p9 (show x < N by omega)
    have b2 := @mo_bd sg M x j
    have ihx := ih (x + 1) (by omega)
    have e9 : isum (dn sg ln M j v t) (x + 1) = isum (dn sg ln M j v t) x + dn sg ln M j v t x := rfl
    rw [r149_21]
    by_cases k1 : mo sg M x j = v
    · by_cases k2 : isum ln x < t
      · by_cases k3 : ln x < t - isum ln x
        · have e5 : dn sg ln M j v t x = ln x := by unfold dn; rw [if_pos ⟨k1, k2⟩, if_pos k3]
          simp (disch := omega) only [r149_0, r149_1, r149_2, r149_3, r149_6, r149_9, r149_10, r149_11, r149_12, r149_15, r149_16, r149_18, r149_19, r149_23, r149_24, r149_27, r149_30, r149_31, r149_33, r149_36, r149_38, r149_39, r149_41, r149_42, r149_43, r149_46, r149_47, r149_50, r149_51, r149_53, r149_54, r149_55, r149_58, r149_61, r149_62, r149_64, r149_66, r149_67, r149_69, r149_70, r149_73, r149_74, r149_77, r149_79, r149_81, r149_84, r149_86, r149_88, r149_89, r149_92, r149_93, r149_94, r149_96, r149_99, r149_102, r149_104, Cn_n, Cn_v, Cn_x, dp_0, dp_1, dp_2, dp_3, dp_4, okv_n, okv_i, okv_r, eq_self, true_and, and_true, Option.some.injEq, exists_eq_left', rgT, ixT, ixU, ↓if_pos, ↓if_neg, Int.toNat_natCast, bT0, bT1, g_48_0, s_48_0, g_48_1, s_48_1, g_48_2, s_48_2, g_48_3, g_48_4, g_48_5, g_48_6, g_48_7, s_48_7, g_48_8, g_48_9, g_48_10, g_48_11, g_48_12, g_48_13, h6, h7, mp_start g9 (show x ≤ N by omega), mp_start1 g9 (show x < N by omega), mp_on g9 (show x < N by omega) hjJ]
          exact ihx _ (by omega) _ _ rfl rfl
        · have e5 : dn sg ln M j v t x = t - isum ln x := by unfold dn; rw [if_pos ⟨k1, k2⟩, if_neg k3]
          simp (disch := omega) only [r149_0, r149_1, r149_2, r149_3, r149_6, r149_9, r149_10, r149_11, r149_12, r149_15, r149_16, r149_18, r149_19, r149_23, r149_24, r149_27, r149_30, r149_31, r149_33, r149_36, r149_38, r149_39, r149_41, r149_42, r149_43, r149_46, r149_47, r149_50, r149_51, r149_53, r149_54, r149_55, r149_58, r149_61, r149_62, r149_64, r149_66, r149_67, r149_69, r149_70, r149_73, r149_74, r149_77, r149_79, r149_81, r149_84, r149_86, r149_88, r149_89, r149_92, r149_93, r149_94, r149_96, r149_99, r149_102, r149_104, Cn_n, Cn_v, Cn_x, dp_0, dp_1, dp_2, dp_3, dp_4, okv_n, okv_i, okv_r, eq_self, true_and, and_true, Option.some.injEq, exists_eq_left', rgT, ixT, ixU, ↓if_pos, ↓if_neg, Int.toNat_natCast, bT0, bT1, g_48_0, s_48_0, g_48_1, s_48_1, g_48_2, s_48_2, g_48_3, g_48_4, g_48_5, g_48_6, g_48_7, s_48_7, g_48_8, g_48_9, g_48_10, g_48_11, g_48_12, g_48_13, h6, h7, mp_start g9 (show x ≤ N by omega), mp_start1 g9 (show x < N by omega), mp_on g9 (show x < N by omega) hjJ]
          exact ihx _ (by omega) _ _ rfl rfl
      · have e5 : dn sg ln M j v t x = 0 := by unfold dn; rw [if_neg (by omega)]
        simp (disch := omega) only [r149_0, r149_1, r149_2, r149_3, r149_6, r149_9, r149_10, r149_11, r149_12, r149_15, r149_16, r149_18, r149_19, r149_23, r149_24, r149_27, r149_30, r149_31, r149_33, r149_36, r149_38, r149_39, r149_41, r149_42, r149_43, r149_46, r149_47, r149_50, r149_51, r149_53, r149_54, r149_55, r149_58, r149_61, r149_62, r149_64, r149_66, r149_67, r149_69, r149_70, r149_73, r149_74, r149_77, r149_79, r149_81, r149_84, r149_86, r149_88, r149_89, r149_92, r149_93, r149_94, r149_96, r149_99, r149_102, r149_104, Cn_n, Cn_v, Cn_x, dp_0, dp_1, dp_2, dp_3, dp_4, okv_n, okv_i, okv_r, eq_self, true_and, and_true, Option.some.injEq, exists_eq_left', rgT, ixT, ixU, ↓if_pos, ↓if_neg, Int.toNat_natCast, bT0, bT1, g_48_0, s_48_0, g_48_1, s_48_1, g_48_2, s_48_2, g_48_3, g_48_4, g_48_5, g_48_6, g_48_7, s_48_7, g_48_8, g_48_9, g_48_10, g_48_11, g_48_12, g_48_13, h6, h7, mp_start g9 (show x ≤ N by omega), mp_start1 g9 (show x < N by omega), mp_on g9 (show x < N by omega) hjJ]
        exact ihx _ (by omega) _ _ rfl rfl
    · have e5 : dn sg ln M j v t x = 0 := by unfold dn; rw [if_neg (by omega)]
      by_cases k2 : isum ln x + ln x < t
      · simp (disch := omega) only [r149_0, r149_1, r149_2, r149_3, r149_6, r149_9, r149_10, r149_11, r149_12, r149_15, r149_16, r149_18, r149_19, r149_23, r149_24, r149_27, r149_30, r149_31, r149_33, r149_36, r149_38, r149_39, r149_41, r149_42, r149_43, r149_46, r149_47, r149_50, r149_51, r149_53, r149_54, r149_55, r149_58, r149_61, r149_62, r149_64, r149_66, r149_67, r149_69, r149_70, r149_73, r149_74, r149_77, r149_79, r149_81, r149_84, r149_86, r149_88, r149_89, r149_92, r149_93, r149_94, r149_96, r149_99, r149_102, r149_104, Cn_n, Cn_v, Cn_x, dp_0, dp_1, dp_2, dp_3, dp_4, okv_n, okv_i, okv_r, eq_self, true_and, and_true, Option.some.injEq, exists_eq_left', rgT, ixT, ixU, ↓if_pos, ↓if_neg, Int.toNat_natCast, bT0, bT1, g_48_0, s_48_0, g_48_1, s_48_1, g_48_2, s_48_2, g_48_3, g_48_4, g_48_5, g_48_6, g_48_7, s_48_7, g_48_8, g_48_9, g_48_10, g_48_11, g_48_12, g_48_13, h6, h7, mp_start g9 (show x ≤ N by omega), mp_start1 g9 (show x < N by omega), mp_on g9 (show x < N by omega) hjJ]
        exact ihx _ (by omega) _ _ rfl rfl
      · simp (disch := omega) only [r149_0, r149_1, r149_2, r149_3, r149_6, r149_9, r149_10, r149_11, r149_12, r149_15, r149_16, r149_18, r149_19, r149_23, r149_24, r149_27, r149_30, r149_31, r149_33, r149_36, r149_38, r149_39, r149_41, r149_42, r149_43, r149_46, r149_47, r149_50, r149_51, r149_53, r149_54, r149_55, r149_58, r149_61, r149_62, r149_64, r149_66, r149_67, r149_69, r149_70, r149_73, r149_74, r149_77, r149_79, r149_81, r149_84, r149_86, r149_88, r149_89, r149_92, r149_93, r149_94, r149_96, r149_99, r149_102, r149_104, Cn_n, Cn_v, Cn_x, dp_0, dp_1, dp_2, dp_3, dp_4, okv_n, okv_i, okv_r, eq_self, true_and, and_true, Option.some.injEq, exists_eq_left', rgT, ixT, ixU, ↓if_pos, ↓if_neg, Int.toNat_natCast, bT0, bT1, g_48_0, s_48_0, g_48_1, s_48_1, g_48_2, s_48_2, g_48_3, g_48_4, g_48_5, g_48_6, g_48_7, s_48_7, g_48_8, g_48_9, g_48_10, g_48_11, g_48_12, g_48_13, h6, h7, mp_start g9 (show x ≤ N by omega), mp_start1 g9 (show x < N by omega), mp_on g9 (show x < N by omega) hjJ]
        exact ihx _ (by omega) _ _ rfl rfl
theorem m_donex (h : MPR A F J M N Ws sg ln) (hi : rg i) (hv : rg v) (c0 : i < 0 ∨ (J : Int) ≤ i ∨ v < 0 ∨ (M : Int) ≤ v) : Ew 149 [vR 48, .inl i, .inl v, .inl t] (mk A F q) Q ↔ Q (.inl (some (.inl 0)), mk A (uf F 768 1) q) := by
  unfold Ew
  rw [rc_149 g_48_0 rfl rfl rfl, lc_149]
  have hJ := h.1
  have hM := h.2.1
  have hJ5 := h.2.2.1
  have hM5 := h.2.2.2.1
  simp (disch := omega) only [r149_0, r149_1, r149_2, r149_3, r149_6, r149_9, r149_10, r149_11, r149_12, r149_15, r149_16, r149_18, r149_19, r149_23, r149_24, r149_27, r149_30, r149_31, r149_33, r149_36, r149_38, r149_39, r149_41, r149_42, r149_43, r149_46, r149_47, r149_50, r149_51, r149_53, r149_54, r149_55, r149_58, r149_61, r149_62, r149_64, r149_66, r149_67, r149_69, r149_70, r149_73, r149_74, r149_77, r149_79, r149_81, r149_84, r149_86, r149_88, r149_89, r149_92, r149_93, r149_94, r149_96, r149_99, r149_102, r149_104, Cn_n, Cn_v, Cn_x, dp_0, dp_1, dp_2, dp_3, dp_4, okv_n, okv_i, okv_r, eq_self, true_and, and_true, Option.some.injEq, exists_eq_left', rgT, ixT, ixU, ↓if_pos, ↓if_neg, Int.toNat_natCast, bT0, bT1, g_48_0, s_48_0, g_48_1, s_48_1, g_48_2, s_48_2, g_48_3, g_48_4, g_48_5, g_48_6, g_48_7, s_48_7, g_48_8, g_48_9, g_48_10, g_48_11, g_48_12, g_48_13, m_isPlacex hJ hM hJ5 hM5 hi hv]
end MFACE
