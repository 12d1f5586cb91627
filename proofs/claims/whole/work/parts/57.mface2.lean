/-! the model's face over its slices, loops -/
section MFACE
variable {A : Nat → Nat → Int} {F : Nat → Int} {q : List Int × Nat} {Q : AR → Prop} {J M N : Nat} {Ws : Nat → Nat → Int} {sg : Nat → Nat → Nat} {ln : Nat → Int} {i v t : Int}
theorem mp_start1 {k : Nat} (h : MV A F J M N sg ln) (hk : k < N) : Ew 141 [vR 48, .inl ((k : Int) + 1)] (mk A F q) Q ↔ Q (.inl (some (.inl (isum ln k + ln k))), mk A F q) := @mp_start A F q Q J M N (k + 1) sg ln h (by omega)
theorem m_jobAt (h : MPR A F J M N Ws sg ln) (ht : rg t) (hv : rg v) (c1 : 0 ≤ v) (c2 : v < M) (h1 : ∀ A1, SAX A A1 → Q (.inl (some (.inl (ja sg ln J M t v N))), mk A1 (uf (uf F 768 0) 775 N) q)) : Ew 148 [vR 48, .inl t, .inl v] (mk A F q) Q := by
  obtain ⟨t1, t2⟩ := ht
  refine ⟨rc_148 g_48_0 rfl rfl, ?_⟩
  rw [lc_148]
  have hM := h.2.1
  have hM5 := h.2.2.2.1
  simp (disch := omega) only [r148_0, r148_1, r148_2, r148_3, r148_6, r148_9, r148_10, r148_13, r148_14, r148_17, r148_20, r148_21, r148_22, r148_23, r148_26, r148_27, r148_28, r148_29, r148_33, r148_34, r148_37, r148_40, r148_41, r148_43, r148_46, r148_47, r148_50, r148_51, r148_52, r148_54, r148_55, r148_56, r148_59, r148_62, r148_63, r148_66, r148_67, r148_69, r148_70, r148_74, r148_75, r148_78, r148_81, r148_83, r148_86, r148_87, r148_89, r148_91, r148_94, r148_95, r148_98, r148_100, r148_103, r148_104, r148_105, r148_108, r148_111, r148_114, r148_117, r148_118, Cn_n, Cn_v, Cn_x, dp_0, dp_1, dp_2, dp_3, dp_4, okv_n, okv_i, okv_r, eq_self, true_and, and_true, Option.some.injEq, exists_eq_left', rgT, ixT, ixU, ↓if_pos, ↓if_neg, Int.toNat_natCast, bT0, bT1, g_48_0, s_48_0, g_48_1, s_48_1, g_48_2, s_48_2, g_48_3, g_48_4, g_48_5, g_48_6, g_48_7, s_48_7, g_48_8, g_48_9, g_48_10, g_48_11, g_48_12, g_48_13, m_isMac hM, m_holds]
  refine mq_apart (MPR_8 h) (fun A1 g1 g2 => ?_)
  simp (disch := omega) only [r148_0, r148_1, r148_2, r148_3, r148_6, r148_9, r148_10, r148_13, r148_14, r148_17, r148_20, r148_21, r148_22, r148_23, r148_26, r148_27, r148_28, r148_29, r148_33, r148_34, r148_37, r148_40, r148_41, r148_43, r148_46, r148_47, r148_50, r148_51, r148_52, r148_54, r148_55, r148_56, r148_59, r148_62, r148_63, r148_66, r148_67, r148_69, r148_70, r148_74, r148_75, r148_78, r148_81, r148_83, r148_86, r148_87, r148_89, r148_91, r148_94, r148_95, r148_98, r148_100, r148_103, r148_104, r148_105, r148_108, r148_111, r148_114, r148_117, r148_118, Cn_n, Cn_v, Cn_x, dp_0, dp_1, dp_2, dp_3, dp_4, okv_n, okv_i, okv_r, eq_self, true_and, and_true, Option.some.injEq, exists_eq_left', rgT, ixT, ixU, ↓if_pos, ↓if_neg, Int.toNat_natCast, bT0, bT1, g_48_0, s_48_0, g_48_1, s_48_1, g_48_2, s_48_2, g_48_3, g_48_4, g_48_5, g_48_6, g_48_7, s_48_7, g_48_8, g_48_9, g_48_10, g_48_11, g_48_12, g_48_13]
  have hfin := h1 A1 g1
  generalize uf (uf F 768 0) 775 (N : Int) = F1 at g2 hfin ⊢
  have g9 := g2
  obtain ⟨p1, p2, p3, p4, p5, p6, p7, p8, p9, pa⟩ := g2
  suffices key : ∀ d x : Nat, x + d = N → ∀ a : Int, a = ja sg ln J M t v x → ∀ x5 x6 : Option AV, okv x5 = true → okv x6 = true → Wp 148 31 [some (vR 48), some (.inl t), some (.inl v), some (.inl a), some (.inl (x : Int)), x5, x6] [] (mk A1 F1 q) Q by
    exact key N 0 (by omega) _ rfl none none rfl rfl
  intro d
  induction d with
  | zero =>
    intro x hx a ha x5 x6 h5 h6
    obtain rfl : x = N := by omega
    subst ha
    rw [r148_31]
    simp (disch := omega) only [r148_0, r148_1, r148_2, r148_3, r148_6, r148_9, r148_10, r148_13, r148_14, r148_17, r148_20, r148_21, r148_22, r148_23, r148_26, r148_27, r148_28, r148_29, r148_33, r148_34, r148_37, r148_40, r148_41, r148_43, r148_46, r148_47, r148_50, r148_51, r148_52, r148_54, r148_55, r148_56, r148_59, r148_62, r148_63, r148_66, r148_67, r148_69, r148_70, r148_74, r148_75, r148_78, r148_81, r148_83, r148_86, r148_87, r148_89, r148_91, r148_94, r148_95, r148_98, r148_100, r148_103, r148_104, r148_105, r148_108, r148_111, r148_114, r148_117, r148_118, Cn_n, Cn_v, Cn_x, dp_0, dp_1, dp_2, dp_3, dp_4, okv_n, okv_i, okv_r, eq_self, true_and, and_true, Option.some.injEq, exists_eq_left', rgT, ixT, ixU, ↓if_pos, ↓if_neg, Int.toNat_natCast, bT0, bT1, g_48_0, s_48_0, g_48_1, s_48_1, g_48_2, s_48_2, g_48_3, g_48_4, g_48_5, g_48_6, g_48_7, s_48_7, g_48_8, g_48_9, g_48_10, g_48_11, g_48_12, g_48_13]
    exact hfin
  | succ d ih =>
    intro x hx a ha x5 x6 h5 h6
    have b1 := st_bd p8 p9 (show x < N by omega)
    have ihx := ih (x + 1) (by omega)
    have e9 : ja sg ln J M t v (x + 1) = if isum ln x ≤ t ∧ t < isum ln x + ln x then jl (mo sg M x) v (ja sg ln J M t v x) J else ja sg ln J M t v x := rfl
    rw [← ha] at e9
    have off : (isum ln x ≤ t ∧ t < isum ln x + ln x → False) → Wp 148 72 [some (vR 48), some (.inl t), some (.inl v), some (.inl a), some (.inl (x : Int)), some (.inl 0), some (.inl 0)] [] (mk A1 F1 q) Q := by
      intro hoff
      rw [if_neg hoff] at e9
      rw [r148_72]
      by_cases hJ0 : 0 < J
      · simp (disch := omega) only [r148_0, r148_1, r148_2, r148_3, r148_6, r148_9, r148_10, r148_13, r148_14, r148_17, r148_20, r148_21, r148_22, r148_23, r148_26, r148_27, r148_28, r148_29, r148_33, r148_34, r148_37, r148_40, r148_41, r148_43, r148_46, r148_47, r148_50, r148_51, r148_52, r148_54, r148_55, r148_56, r148_59, r148_62, r148_63, r148_66, r148_67, r148_69, r148_70, r148_74, r148_75, r148_78, r148_81, r148_83, r148_86, r148_87, r148_89, r148_91, r148_94, r148_95, r148_98, r148_100, r148_103, r148_104, r148_105, r148_108, r148_111, r148_114, r148_117, r148_118, Cn_n, Cn_v, Cn_x, dp_0, dp_1, dp_2, dp_3, dp_4, okv_n, okv_i, okv_r, eq_self, true_and, and_true, Option.some.injEq, exists_eq_left', rgT, ixT, ixU, ↓if_pos, ↓if_neg, Int.toNat_natCast, bT0, bT1, g_48_0, s_48_0, g_48_1, s_48_1, g_48_2, s_48_2, g_48_3, g_48_4, g_48_5, g_48_6, g_48_7, s_48_7, g_48_8, g_48_9, g_48_10, g_48_11, g_48_12, g_48_13]
        exact ihx _ e9.symm _ _ rfl rfl
      · simp (disch := omega) only [r148_0, r148_1, r148_2, r148_3, r148_6, r148_9, r148_10, r148_13, r148_14, r148_17, r148_20, r148_21, r148_22, r148_23, r148_26, r148_27, r148_28, r148_29, r148_33, r148_34, r148_37, r148_40, r148_41, r148_43, r148_46, r148_47, r148_50, r148_51, r148_52, r148_54, r148_55, r148_56, r148_59, r148_62, r148_63, r148_66, r148_67, r148_69, r148_70, r148_74, r148_75, r148_78, r148_81, r148_83, r148_86, r148_87, r148_89, r148_91, r148_94, r148_95, r148_98, r148_100, r148_103, r148_104, r148_105, r148_108, r148_111, r148_114, r148_117, r148_118, Cn_n, Cn_v, Cn_x, dp_0, dp_1, dp_2, dp_3, dp_4, okv_n, okv_i, okv_r, eq_self, true_and, and_true, Option.some.injEq, exists_eq_left', rgT, ixT, ixU, ↓if_pos, ↓if_neg, Int.toNat_natCast, bT0, bT1, g_48_0, s_48_0, g_48_1, s_48_1, g_48_2, s_48_2, g_48_3, g_48_4, g_48_5, g_48_6, g_48_7, s_48_7, g_48_8, g_48_9, g_48_10, g_48_11, g_48_12, g_48_13]
        exact ihx _ e9.symm _ _ rfl rfl
    rw [r148_31]
    by_cases k1 : isum ln x ≤ t
    · by_cases k2 : t < isum ln x + ln x
      · rw [if_pos ⟨k1, k2⟩] at e9
        simp (disch := omega) only [r148_0, r148_1, r148_2, r148_3, r148_6, r148_9, r148_10, r148_13, r148_14, r148_17, r148_20, r148_21, r148_22, r148_23, r148_26, r148_27, r148_28, r148_29, r148_33, r148_34, r148_37, r148_40, r148_41, r148_43, r148_46, r148_47, r148_50, r148_51, r148_52, r148_54, r148_55, r148_56, r148_59, r148_62, r148_63, r148_66, r148_67, r148_69, r148_70, r148_74, r148_75, r148_78, r148_81, r148_83, r148_86, r148_87, r148_89, r148_91, r148_94, r148_95, r148_98, r148_100, r148_103, r148_104, r148_105, r148_108, r148_111, r148_114, r148_117, r148_118, Cn_n, Cn_v, Cn_x, dp_0, dp_1, dp_2, dp_3, dp_4, okv_n, okv_i, okv_r, eq_self, true_and, and_true, Option.some.injEq, exists_eq_left', rgT, ixT, ixU, ↓if_pos, ↓if_neg, Int.toNat_natCast, bT0, bT1, g_48_0, s_48_0, g_48_1, s_48_1, g_48_2, s_48_2, g_48_3, g_48_4, g_48_5, g_48_6, g_48_7, s_48_7, g_48_8, g_48_9, g_48_10, g_48_11, g_48_12, g_48_13, h5, h6, mp_start g9 (show x ≤ N by omega), mp_start1 g9 (show x < N by omega)]
        suffices key2 : ∀ d2 y : Nat, y + d2 = J → ∀ b : Int, b = jl (mo sg M x) v a y → Wp 148 72 [some (vR 48), some (.inl t), some (.inl v), some (.inl b), some (.inl (x : Int)), some (.inl 1), some (.inl (y : Int))] [] (mk A1 F1 q) Q by
          exact key2 J 0 (by omega) a rfl
        intro d2
        induction d2 with
        | zero =>
          intro y hy b hb
          obtain rfl : y = J := by omega
          rw [r148_72]
          simp (disch := omega) only [r148_0, r148_1, r148_2, r148_3, r148_6, r148_9, r148_10, r148_13, r148_14, r148_17, r148_20, r148_21, r148_22, r148_23, r148_26, r148_27, r148_28, r148_29, r148_33, r148_34, r148_37, r148_40, r148_41, r148_43, r148_46, r148_47, r148_50, r148_51, r148_52, r148_54, r148_55, r148_56, r148_59, r148_62, r148_63, r148_66, r148_67, r148_69, r148_70, r148_74, r148_75, r148_78, r148_81, r148_83, r148_86, r148_87, r148_89, r148_91, r148_94, r148_95, r148_98, r148_100, r148_103, r148_104, r148_105, r148_108, r148_111, r148_114, r148_117, r148_118, Cn_n, Cn_v, Cn_x, dp_0, dp_1, dp_2, dp_3, dp_4, okv_n, okv_i, okv_r, eq_self, true_and, and_true, Option.some.injEq, exists_eq_left', rgT, ixT, ixU, ↓if_pos, ↓if_neg, Int.toNat_natCast, bT0, bT1, g_48_0, s_48_0, g_48_1, s_48_1, g_48_2, s_48_2, g_48_3, g_48_4, g_48_5, g_48_6, g_48_7, s_48_7, g_48_8, g_48_9, g_48_10, g_48_11, g_48_12, g_48_13]
          exact ihx b (by rw [e9]; exact hb) _ _ rfl rfl
        | succ d2 ih2 =>
          intro y hy b hb
          have b2 := @mo_bd sg M x y
          have e8 : jl (mo sg M x) v a (y + 1) = if mo sg M x y = v then (y : Int) else jl (mo sg M x) v a y := rfl
          rw [r148_72]
          by_cases k3 : mo sg M x y = v
          · rw [if_pos k3] at e8
            simp (disch := omega) only [r148_0, r148_1, r148_2, r148_3, r148_6, r148_9, r148_10, r148_13, r148_14, r148_17, r148_20, r148_21, r148_22, r148_23, r148_26, r148_27, r148_28, r148_29, r148_33, r148_34, r148_37, r148_40, r148_41, r148_43, r148_46, r148_47, r148_50, r148_51, r148_52, r148_54, r148_55, r148_56, r148_59, r148_62, r148_63, r148_66, r148_67, r148_69, r148_70, r148_74, r148_75, r148_78, r148_81, r148_83, r148_86, r148_87, r148_89, r148_91, r148_94, r148_95, r148_98, r148_100, r148_103, r148_104, r148_105, r148_108, r148_111, r148_114, r148_117, r148_118, Cn_n, Cn_v, Cn_x, dp_0, dp_1, dp_2, dp_3, dp_4, okv_n, okv_i, okv_r, eq_self, true_and, and_true, Option.some.injEq, exists_eq_left', rgT, ixT, ixU, ↓if_pos, ↓if_neg, Int.toNat_natCast, bT0, bT1, g_48_0, s_48_0, g_48_1, s_48_1, g_48_2, s_48_2, g_48_3, g_48_4, g_48_5, g_48_6, g_48_7, s_48_7, g_48_8, g_48_9, g_48_10, g_48_11, g_48_12, g_48_13, mp_on g9 (show x < N by omega) (show y < J by omega)]
            exact ih2 (y + 1) (by omega) _ e8.symm
          · rw [if_neg k3] at e8
            simp (disch := omega) only [r148_0, r148_1, r148_2, r148_3, r148_6, r148_9, r148_10, r148_13, r148_14, r148_17, r148_20, r148_21, r148_22, r148_23, r148_26, r148_27, r148_28, r148_29, r148_33, r148_34, r148_37, r148_40, r148_41, r148_43, r148_46, r148_47, r148_50, r148_51, r148_52, r148_54, r148_55, r148_56, r148_59, r148_62, r148_63, r148_66, r148_67, r148_69, r148_70, r148_74, r148_75, r148_78, r148_81, r148_83, r148_86, r148_87, r148_89, r148_91, r148_94, r148_95, r148_98, r148_100, r148_103, r148_104, r148_105, r148_108, r148_111, r148_114, r148_117, r148_118, Cn_n, Cn_v, Cn_x, dp_0, dp_1, dp_2, dp_3, dp_4, okv_n, okv_i, okv_r, eq_self, true_and, and_true, Option.some.injEq, exists_eq_left', rgT, ixT, ixU, ↓if_pos, ↓if_neg, Int.toNat_natCast, bT0, bT1, g_48_0, s_48_0, g_48_1, s_48_1, g_48_2, s_48_2, g_48_3, g_48_4, g_48_5, g_48_6, g_48_7, s_48_7, g_48_8, g_48_9, g_48_10, g_48_11, g_48_12, g_48_13, mp_on g9 (show x < N by omega) (show y < J by omega)]
            exact ih2 (y + 1) (by omega) _ (by rw [e8]; exact hb)
      · simp (disch := omega) only [r148_0, r148_1, r148_2, r148_3, r148_6, r148_9, r148_10, r148_13, r148_14, r148_17, r148_20, r148_21, r148_22, r148_23, r148_26, r148_27, r148_28, r148_29, r148_33, r148_34, r148_37, r148_40, r148_41, r148_43, r148_46, r148_47, r148_50, r148_51, r148_52, r148_54, r148_55, r148_56, r148_59, r148_62, r148_63, r148_66, r148_67, r148_69, r148_70, r148_74, r148_75, r148_78, r148_81, r148_83, r148_86, r148_87, r148_89, r148_91, r148_94, r148_95, r148_98, r148_100, r148_103, r148_104, r148_105, r148_108, r148_111, r148_114, r148_117, r148_118, Cn_n, Cn_v, Cn_x, dp_0, dp_1, dp_2, dp_3, dp_4, okv_n, okv_i, okv_r, eq_self, true_and, and_true, Option.some.injEq, exists_eq_left', rgT, ixT, ixU, ↓if_pos, ↓if_neg, Int.toNat_natCast, bT0, bT1, g_48_0, s_48_0, g_48_1, s_48_1, g_48_2, s_48_2, g_48_3, g_48_4, g_48_5, g_48_6, g_48_7, s_48_7, g_48_8, g_48_9, g_48_10, g_48_11, g_48_12, g_48_13, h5, h6, mp_start g9 (show x ≤ N by omega), mp_start1 g9 (show x < N by omega)]
        exact off (by omega)
    · simp (disch := omega) only [r148_0, r148_1, r148_2, r148_3, r148_6, r148_9, r148_10, r148_13, r148_14, r148_17, r148_20, r148_21, r148_22, r148_23, r148_26, r148_27, r148_28, r148_29, r148_33, r148_34, r148_37, r148_40, r148_41, r148_43, r148_46, r148_47, r148_50, r148_51, r148_52, r148_54, r148_55, r148_56, r148_59, r148_62, r148_63, r148_66, r148_67, r148_69, r148_70, r148_74, r148_75, r148_78, r148_81, r148_83, r148_86, r148_87, r148_89, r148_91, r148_94, r148_95, r148_98, r148_100, r148_103, r148_104, r148_105, r148_108, r148_111, r148_114, r148_117, r148_118, Cn_n, Cn_v, Cn_x, dp_0, dp_1, dp_2, dp_3, dp_4, okv_n, okv_i, okv_r, eq_self, true_and, and_true, Option.some.injEq, exists_eq_left', rgT, ixT, ixU, ↓if_pos, ↓if_neg, Int.toNat_natCast, bT0, bT1, g_48_0, s_48_0, g_48_1, s_48_1, g_48_2, s_48_2, g_48_3, g_48_4, g_48_5, g_48_6, g_48_7, s_48_7, g_48_8, g_48_9, g_48_10, g_48_11, g_48_12, g_48_13, h5, h6, mp_start g9 (show x ≤ N by omega), mp_start1 g9 (show x < N by omega)]
      exact off (by omega)
theorem m_jobAtx (h : MPR A F J M N Ws sg ln) (hv : rg v) (c1 : v < 0 ∨ (M : Int) ≤ v) : Ew 148 [vR 48, .inl t, .inl v] (mk A F q) Q ↔ Q (.inl (some (.inl 0)), mk A (uf F 768 1) q) := by
  have o1 : rg 1 := ⟨by decide, by decide⟩
  have o2 : (1 : Int) ≠ 0 := by decide
  unfold Ew
  rw [rc_148 g_48_0 rfl rfl, lc_148]
  have hM := h.2.1
  have hM5 := h.2.2.2.1
  simp (disch := omega) only [r148_0, r148_1, r148_2, r148_3, r148_6, r148_9, r148_10, r148_13, r148_14, r148_17, r148_20, r148_21, r148_22, r148_23, r148_26, r148_27, r148_28, r148_29, r148_33, r148_34, r148_37, r148_40, r148_41, r148_43, r148_46, r148_47, r148_50, r148_51, r148_52, r148_54, r148_55, r148_56, r148_59, r148_62, r148_63, r148_66, r148_67, r148_69, r148_70, r148_74, r148_75, r148_78, r148_81, r148_83, r148_86, r148_87, r148_89, r148_91, r148_94, r148_95, r148_98, r148_100, r148_103, r148_104, r148_105, r148_108, r148_111, r148_114, r148_117, r148_118, Cn_n, Cn_v, Cn_x, dp_0, dp_1, dp_2, dp_3, dp_4, okv_n, okv_i, okv_r, eq_self, true_and, and_true, Option.some.injEq, exists_eq_left', rgT, ixT, ixU, ↓if_pos, ↓if_neg, Int.toNat_natCast, bT0, bT1, g_48_0, s_48_0, g_48_1, s_48_1, g_48_2, s_48_2, g_48_3, g_48_4, g_48_5, g_48_6, g_48_7, s_48_7, g_48_8, g_48_9, g_48_10, g_48_11, g_48_12, g_48_13, m_isMacx hM hM5 hv, m_holdsx o1 o2]
end MFACE
