/-! interruptions in the model -/
theorem isum_tail {f : Nat → Int} {a : Nat} : ∀ {n : Nat}, a ≤ n → (∀ i, a ≤ i → i < n → f i = 0) → isum f n = isum f a
  | 0, h, _ => by
    obtain rfl : a = 0 := by omega
    rfl
  | n + 1, h, h2 => by
    by_cases han : a = n + 1
    · rw [han]
    · simp only [isum]
      rw [isum_tail (n := n) (by omega) (fun i h3 h4 => h2 i h3 (by omega)), h2 n (by omega) (by omega), Int.add_zero]
theorem brk_end {sg : Nat → Nat → Nat} {M N k j : Nat} (h : N ≤ k + 2) : brk sg M N k j = false := by
  unfold brk
  rw [show N - (k + 2) = 0 by omega]
  simp [anyc]
theorem brk_swap {sg : Nat → Nat → Nat} {J M N : Nat} : isum (fun k => isum (fun j => bi (brk sg M N k j)) J) N = isum (fun j => isum (fun k => bi (brk sg M N k j)) (N - 2)) J := by
  rw [isum_swap]
  apply isum_congr
  intro j hj
  exact isum_tail (by omega) (fun i h1 h2 => by rw [brk_end (by omega), bi_f])
section MFACE
variable {A : Nat → Nat → Int} {F : Nat → Int} {q : List Int × Nat} {Q : AR → Prop} {J M N : Nat} {Ws : Nat → Nat → Int} {sg : Nat → Nat → Nat} {ln : Nat → Int} {i v t : Int}
theorem m_interruptions (h : MPR A F J M N Ws sg ln) (h1 : ∀ A1, SAX A A1 → Q (.inl (some (.inl (isum (fun k => isum (fun j => bi (brk sg M N k j)) J) N))), mk A1 (uf (uf F 768 0) 775 N) q)) : Ew 152 [vR 48] (mk A F q) Q := by
  refine ⟨rc_152 g_48_0, ?_⟩
  rw [lc_152]
  simp (disch := omega) only [r152_0, r152_1, r152_2, r152_5, r152_6, r152_9, r152_10, r152_11, r152_12, r152_14, r152_15, r152_18, r152_21, r152_22, r152_24, r152_25, r152_26, r152_27, r152_30, r152_33, r152_34, r152_36, r152_37, r152_38, r152_39, r152_43, r152_44, r152_47, r152_50, r152_52, r152_55, r152_56, r152_58, r152_59, r152_62, r152_63, r152_64, r152_65, r152_68, r152_71, r152_72, r152_75, r152_76, r152_78, r152_81, r152_84, r152_85, r152_86, r152_87, r152_88, r152_91, r152_92, r152_95, r152_96, r152_97, r152_98, r152_99, r152_100, r152_103, r152_104, r152_105, r152_106, r152_109, r152_112, r152_114, r152_117, r152_118, r152_121, r152_122, r152_123, r152_124, r152_127, r152_130, r152_133, r152_136, r152_137, Cn_n, Cn_v, Cn_x, dp_0, dp_1, dp_2, dp_3, dp_4, okv_n, okv_i, okv_r, eq_self, true_and, and_true, Option.some.injEq, exists_eq_left', rgT, ixT, ixU, ↓if_pos, ↓if_neg, Int.toNat_natCast, bT0, bT1, g_48_0, s_48_0, g_48_1, s_48_1, g_48_2, s_48_2, g_48_3, g_48_4, g_48_5, g_48_6, g_48_7, s_48_7, g_48_8, g_48_9, g_48_10, g_48_11, g_48_12, g_48_13]
  refine mq_apart (MPR_8 h) (fun A1 g1 g2 => ?_)
  simp (disch := omega) only [r152_0, r152_1, r152_2, r152_5, r152_6, r152_9, r152_10, r152_11, r152_12, r152_14, r152_15, r152_18, r152_21, r152_22, r152_24, r152_25, r152_26, r152_27, r152_30, r152_33, r152_34, r152_36, r152_37, r152_38, r152_39, r152_43, r152_44, r152_47, r152_50, r152_52, r152_55, r152_56, r152_58, r152_59, r152_62, r152_63, r152_64, r152_65, r152_68, r152_71, r152_72, r152_75, r152_76, r152_78, r152_81, r152_84, r152_85, r152_86, r152_87, r152_88, r152_91, r152_92, r152_95, r152_96, r152_97, r152_98, r152_99, r152_100, r152_103, r152_104, r152_105, r152_106, r152_109, r152_112, r152_114, r152_117, r152_118, r152_121, r152_122, r152_123, r152_124, r152_127, r152_130, r152_133, r152_136, r152_137, Cn_n, Cn_v, Cn_x, dp_0, dp_1, dp_2, dp_3, dp_4, okv_n, okv_i, okv_r, eq_self, true_and, and_true, Option.some.injEq, exists_eq_left', rgT, ixT, ixU, ↓if_pos, ↓if_neg, Int.toNat_natCast, bT0, bT1, g_48_0, s_48_0, g_48_1, s_48_1, g_48_2, s_48_2, g_48_3, g_48_4, g_48_5, g_48_6, g_48_7, s_48_7, g_48_8, g_48_9, g_48_10, g_48_11, g_48_12, g_48_13]
  have hfin := h1 A1 g1
  rw [brk_swap] at hfin
  generalize uf (uf F 768 0) 775 (N : Int) = F1 at g2 hfin ⊢
  have g9 := g2
  obtain ⟨p1, p2, p3, p4, p5, p6, p7, p8, p9, pa⟩ := g2
  suffices key : ∀ d x : Nat, x + d = J → ∀ a : Int, a = isum (fun j => isum (fun k => bi (brk sg M N k j)) (N - 2)) x → ∀ x3 x4 x5 : Option AV, okv x3 = true → okv x4 = true → okv x5 = true → Wp 152 13 [some (vR 48), some (.inl a), some (.inl (x : Int)), x3, x4, x5] [] (mk A1 F1 q) Q by
    exact key J 0 (by omega) _ rfl none none none rfl rfl rfl
  intro d
  induction d with
  | zero =>
    intro x hx a ha x3 x4 x5 h3 h4 h5
    obtain rfl : x = J := by omega
    subst ha
    rw [r152_13]
    simp (disch := omega) only [r152_0, r152_1, r152_2, r152_5, r152_6, r152_9, r152_10, r152_11, r152_12, r152_14, r152_15, r152_18, r152_21, r152_22, r152_24, r152_25, r152_26, r152_27, r152_30, r152_33, r152_34, r152_36, r152_37, r152_38, r152_39, r152_43, r152_44, r152_47, r152_50, r152_52, r152_55, r152_56, r152_58, r152_59, r152_62, r152_63, r152_64, r152_65, r152_68, r152_71, r152_72, r152_75, r152_76, r152_78, r152_81, r152_84, r152_85, r152_86, r152_87, r152_88, r152_91, r152_92, r152_95, r152_96, r152_97, r152_98, r152_99, r152_100, r152_103, r152_104, r152_105, r152_106, r152_109, r152_112, r152_114, r152_117, r152_118, r152_121, r152_122, r152_123, r152_124, r152_127, r152_130, r152_133, r152_136, r152_137, Cn_n, Cn_v, Cn_x, dp_0, dp_1, dp_2, dp_3, dp_4, okv_n, okv_i, okv_r, eq_self, true_and, and_true, Option.some.injEq, exists_eq_left', rgT, ixT, ixU, ↓if_pos, ↓if_neg, Int.toNat_natCast, bT0, bT1, g_48_0, s_48_0, g_48_1, s_48_1, g_48_2, s_48_2, g_48_3, g_48_4, g_48_5, g_48_6, g_48_7, s_48_7, g_48_8, g_48_9, g_48_10, g_48_11, g_48_12, g_48_13]
    exact hfin
  | succ d ih =>
    intro x hx a ha x3 x4 x5 h3 h4 h5
    have ihx := ih (x + 1) (by omega)
    rw [r152_13]
    simp (disch := omega) only [r152_0, r152_1, r152_2, r152_5, r152_6, r152_9, r152_10, r152_11, r152_12, r152_14, r152_15, r152_18, r152_21, r152_22, r152_24, r152_25, r152_26, r152_27, r152_30, r152_33, r152_34, r152_36, r152_37, r152_38, r152_39, r152_43, r152_44, r152_47, r152_50, r152_52, r152_55, r152_56, r152_58, r152_59, r152_62, r152_63, r152_64, r152_65, r152_68, r152_71, r152_72, r152_75, r152_76, r152_78, r152_81, r152_84, r152_85, r152_86, r152_87, r152_88, r152_91, r152_92, r152_95, r152_96, r152_97, r152_98, r152_99, r152_100, r152_103, r152_104, r152_105, r152_106, r152_109, r152_112, r152_114, r152_117, r152_118, r152_121, r152_122, r152_123, r152_124, r152_127, r152_130, r152_133, r152_136, r152_137, Cn_n, Cn_v, Cn_x, dp_0, dp_1, dp_2, dp_3, dp_4, okv_n, okv_i, okv_r, eq_self, true_and, and_true, Option.some.injEq, exists_eq_left', rgT, ixT, ixU, ↓if_pos, ↓if_neg, Int.toNat_natCast, bT0, bT1, g_48_0, s_48_0, g_48_1, s_48_1, g_48_2, s_48_2, g_48_3, g_48_4, g_48_5, g_48_6, g_48_7, s_48_7, g_48_8, g_48_9, g_48_10, g_48_11, g_48_12, g_48_13, h3, h4, h5]
    suffices key2 : ∀ d2 k : Nat, k + d2 = N - 2 → ∀ b : Int, b = a + isum (fun k => bi (brk sg M N k x)) k → ∀ x4 x5 : Option AV, okv x4 = true → okv x5 = true → Wp 152 23 [some (vR 48), some (.inl b), some (.inl (x : Int)), some (.inl (k : Int)), x4, x5] [] (mk A1 F1 q) Q by
      exact key2 (N - 2) 0 (by omega) a (by simp only [isum]; omega) _ _ h4 h5
    intro d2
    induction d2 with
    | zero =>
      intro k hk b hb x4 x5 h4 h5
      have hk2 : k = N - 2 := by omega
      subst hk2
      have hbb : b = isum (fun j => isum (fun k => bi (brk sg M N k j)) (N - 2)) (x + 1) := by simp only [isum]; omega
      rw [r152_23]
      by_cases hn2 : 2 ≤ N
      · simp (disch := omega) only [r152_0, r152_1, r152_2, r152_5, r152_6, r152_9, r152_10, r152_11, r152_12, r152_14, r152_15, r152_18, r152_21, r152_22, r152_24, r152_25, r152_26, r152_27, r152_30, r152_33, r152_34, r152_36, r152_37, r152_38, r152_39, r152_43, r152_44, r152_47, r152_50, r152_52, r152_55, r152_56, r152_58, r152_59, r152_62, r152_63, r152_64, r152_65, r152_68, r152_71, r152_72, r152_75, r152_76, r152_78, r152_81, r152_84, r152_85, r152_86, r152_87, r152_88, r152_91, r152_92, r152_95, r152_96, r152_97, r152_98, r152_99, r152_100, r152_103, r152_104, r152_105, r152_106, r152_109, r152_112, r152_114, r152_117, r152_118, r152_121, r152_122, r152_123, r152_124, r152_127, r152_130, r152_133, r152_136, r152_137, Cn_n, Cn_v, Cn_x, dp_0, dp_1, dp_2, dp_3, dp_4, okv_n, okv_i, okv_r, eq_self, true_and, and_true, Option.some.injEq, exists_eq_left', rgT, ixT, ixU, ↓if_pos, ↓if_neg, Int.toNat_natCast, bT0, bT1, g_48_0, s_48_0, g_48_1, s_48_1, g_48_2, s_48_2, g_48_3, g_48_4, g_48_5, g_48_6, g_48_7, s_48_7, g_48_8, g_48_9, g_48_10, g_48_11, g_48_12, g_48_13, h4, h5]
        exact ihx b hbb _ _ _ rfl h4 h5
      · simp (disch := omega) only [r152_0, r152_1, r152_2, r152_5, r152_6, r152_9, r152_10, r152_11, r152_12, r152_14, r152_15, r152_18, r152_21, r152_22, r152_24, r152_25, r152_26, r152_27, r152_30, r152_33, r152_34, r152_36, r152_37, r152_38, r152_39, r152_43, r152_44, r152_47, r152_50, r152_52, r152_55, r152_56, r152_58, r152_59, r152_62, r152_63, r152_64, r152_65, r152_68, r152_71, r152_72, r152_75, r152_76, r152_78, r152_81, r152_84, r152_85, r152_86, r152_87, r152_88, r152_91, r152_92, r152_95, r152_96, r152_97, r152_98, r152_99, r152_100, r152_103, r152_104, r152_105, r152_106, r152_109, r152_112, r152_114, r152_117, r152_118, r152_121, r152_122, r152_123, r152_124, r152_127, r152_130, r152_133, r152_136, r152_137, Cn_n, Cn_v, Cn_x, dp_0, dp_1, dp_2, dp_3, dp_4, okv_n, okv_i, okv_r, eq_self, true_and, and_true, Option.some.injEq, exists_eq_left', rgT, ixT, ixU, ↓if_pos, ↓if_neg, Int.toNat_natCast, bT0, bT1, g_48_0, s_48_0, g_48_1, s_48_1, g_48_2, s_48_2, g_48_3, g_48_4, g_48_5, g_48_6, g_48_7, s_48_7, g_48_8, g_48_9, g_48_10, g_48_11, g_48_12, g_48_13, h4, h5]
        exact ihx b hbb _ _ _ rfl h4 h5
    | succ d2 ih2 =>
      intro k hk b hb x4 x5 h4 h5
      have ih9 := ih2 (k + 1) (by omega)
      have e9 : isum (fun k => bi (brk sg M N k x)) (k + 1) = isum (fun k => bi (brk sg M N k x)) k + bi (brk sg M N k x) := rfl
      rw [r152_23]
      simp (disch := omega) only [r152_0, r152_1, r152_2, r152_5, r152_6, r152_9, r152_10, r152_11, r152_12, r152_14, r152_15, r152_18, r152_21, r152_22, r152_24, r152_25, r152_26, r152_27, r152_30, r152_33, r152_34, r152_36, r152_37, r152_38, r152_39, r152_43, r152_44, r152_47, r152_50, r152_52, r152_55, r152_56, r152_58, r152_59, r152_62, r152_63, r152_64, r152_65, r152_68, r152_71, r152_72, r152_75, r152_76, r152_78, r152_81, r152_84, r152_85, r152_86, r152_87, r152_88, r152_91, r152_92, r152_95, r152_96, r152_97, r152_98, r152_99, r152_100, r152_103, r152_104, r152_105, r152_106, r152_109, r152_112, r152_114, r152_117, r152_118, r152_121, r152_122, r152_123, r152_124, r152_127, r152_130, r152_133, r152_136, r152_137, Cn_n, Cn_v, Cn_x, dp_0, dp_1, dp_2, dp_3, dp_4, okv_n, okv_i, okv_r, eq_self, true_and, and_true, Option.some.injEq, exists_eq_left', rgT, ixT, ixU, ↓if_pos, ↓if_neg, Int.toNat_natCast, bT0, bT1, g_48_0, s_48_0, g_48_1, s_48_1, g_48_2, s_48_2, g_48_3, g_48_4, g_48_5, g_48_6, g_48_7, s_48_7, g_48_8, g_48_9, g_48_10, g_48_11, g_48_12, g_48_13, h4, h5]
      have b0 := @mo_bd sg M k x
      have b1 := @mo_bd sg M (k + 1) x
      have hxJ : x < J := by omega
      have on1 := fun Q : AR → Prop => @mp_on A1 F1 q Q J M N (k + 1) x sg ln g9 (by omega) hxJ
      have ex1 : ((k + 1 : Nat) : Int) = (k : Int) + 1 := by omega
      rw [ex1] at on1
      suffices key3 : ∀ d3 y : Nat, y + d3 = N - (k + 2) → ∀ w : Bool, w = anyc (fun i => decide (mo sg M (k + 2 + i) x = mo sg M k x)) y → ∀ z : Int, z = ((k + 2 + y : Nat) : Int) → Wp 152 41 [some (vR 48), some (.inl b), some (.inl (x : Int)), some (.inl (k : Int)), some (.inl (bi w)), some (.inl z)] [] (mk A1 F1 q) Q by
        exact key3 (N - (k + 2)) 0 (by omega) false rfl _ (by omega)
      intro d3
      induction d3 with
      | zero =>
        intro y hy w hw z hz
        obtain rfl : y = N - (k + 2) := by omega
        have hbk : brk sg M N k x = (decide (mo sg M k x ≠ -1) && (decide (mo sg M (k + 1) x ≠ mo sg M k x) && w)) := by
          unfold brk
          rw [← hw, decide_eq_true (show k + 1 < N by omega), Bool.true_and]
        rw [r152_41]
        by_cases c1 : mo sg M k x = -1
        · rw [hbk, decide_eq_false (p := mo sg M k x ≠ -1) (fun h => h c1), Bool.false_and, bi_f] at e9
          simp (disch := omega) only [r152_0, r152_1, r152_2, r152_5, r152_6, r152_9, r152_10, r152_11, r152_12, r152_14, r152_15, r152_18, r152_21, r152_22, r152_24, r152_25, r152_26, r152_27, r152_30, r152_33, r152_34, r152_36, r152_37, r152_38, r152_39, r152_43, r152_44, r152_47, r152_50, r152_52, r152_55, r152_56, r152_58, r152_59, r152_62, r152_63, r152_64, r152_65, r152_68, r152_71, r152_72, r152_75, r152_76, r152_78, r152_81, r152_84, r152_85, r152_86, r152_87, r152_88, r152_91, r152_92, r152_95, r152_96, r152_97, r152_98, r152_99, r152_100, r152_103, r152_104, r152_105, r152_106, r152_109, r152_112, r152_114, r152_117, r152_118, r152_121, r152_122, r152_123, r152_124, r152_127, r152_130, r152_133, r152_136, r152_137, Cn_n, Cn_v, Cn_x, dp_0, dp_1, dp_2, dp_3, dp_4, okv_n, okv_i, okv_r, eq_self, true_and, and_true, Option.some.injEq, exists_eq_left', rgT, ixT, ixU, ↓if_pos, ↓if_neg, Int.toNat_natCast, bT0, bT1, g_48_0, s_48_0, g_48_1, s_48_1, g_48_2, s_48_2, g_48_3, g_48_4, g_48_5, g_48_6, g_48_7, s_48_7, g_48_8, g_48_9, g_48_10, g_48_11, g_48_12, g_48_13, mp_on g9 (show k < N by omega) hxJ, on1]
          exact ih9 _ (by omega) _ _ rfl rfl
        · rw [hbk, decide_eq_true c1, Bool.true_and] at e9
          by_cases c2 : mo sg M (k + 1) x = mo sg M k x
          · rw [decide_eq_false (p := mo sg M (k + 1) x ≠ mo sg M k x) (fun h => h c2), Bool.false_and, bi_f] at e9
            simp (disch := omega) only [r152_0, r152_1, r152_2, r152_5, r152_6, r152_9, r152_10, r152_11, r152_12, r152_14, r152_15, r152_18, r152_21, r152_22, r152_24, r152_25, r152_26, r152_27, r152_30, r152_33, r152_34, r152_36, r152_37, r152_38, r152_39, r152_43, r152_44, r152_47, r152_50, r152_52, r152_55, r152_56, r152_58, r152_59, r152_62, r152_63, r152_64, r152_65, r152_68, r152_71, r152_72, r152_75, r152_76, r152_78, r152_81, r152_84, r152_85, r152_86, r152_87, r152_88, r152_91, r152_92, r152_95, r152_96, r152_97, r152_98, r152_99, r152_100, r152_103, r152_104, r152_105, r152_106, r152_109, r152_112, r152_114, r152_117, r152_118, r152_121, r152_122, r152_123, r152_124, r152_127, r152_130, r152_133, r152_136, r152_137, Cn_n, Cn_v, Cn_x, dp_0, dp_1, dp_2, dp_3, dp_4, okv_n, okv_i, okv_r, eq_self, true_and, and_true, Option.some.injEq, exists_eq_left', rgT, ixT, ixU, ↓if_pos, ↓if_neg, Int.toNat_natCast, bT0, bT1, g_48_0, s_48_0, g_48_1, s_48_1, g_48_2, s_48_2, g_48_3, g_48_4, g_48_5, g_48_6, g_48_7, s_48_7, g_48_8, g_48_9, g_48_10, g_48_11, g_48_12, g_48_13, mp_on g9 (show k < N by omega) hxJ, on1]
            exact ih9 _ (by omega) _ _ rfl rfl
          · rw [decide_eq_true c2, Bool.true_and] at e9
            cases w
            · rw [bi_f] at e9 ⊢
              simp (disch := omega) only [r152_0, r152_1, r152_2, r152_5, r152_6, r152_9, r152_10, r152_11, r152_12, r152_14, r152_15, r152_18, r152_21, r152_22, r152_24, r152_25, r152_26, r152_27, r152_30, r152_33, r152_34, r152_36, r152_37, r152_38, r152_39, r152_43, r152_44, r152_47, r152_50, r152_52, r152_55, r152_56, r152_58, r152_59, r152_62, r152_63, r152_64, r152_65, r152_68, r152_71, r152_72, r152_75, r152_76, r152_78, r152_81, r152_84, r152_85, r152_86, r152_87, r152_88, r152_91, r152_92, r152_95, r152_96, r152_97, r152_98, r152_99, r152_100, r152_103, r152_104, r152_105, r152_106, r152_109, r152_112, r152_114, r152_117, r152_118, r152_121, r152_122, r152_123, r152_124, r152_127, r152_130, r152_133, r152_136, r152_137, Cn_n, Cn_v, Cn_x, dp_0, dp_1, dp_2, dp_3, dp_4, okv_n, okv_i, okv_r, eq_self, true_and, and_true, Option.some.injEq, exists_eq_left', rgT, ixT, ixU, ↓if_pos, ↓if_neg, Int.toNat_natCast, bT0, bT1, g_48_0, s_48_0, g_48_1, s_48_1, g_48_2, s_48_2, g_48_3, g_48_4, g_48_5, g_48_6, g_48_7, s_48_7, g_48_8, g_48_9, g_48_10, g_48_11, g_48_12, g_48_13, mp_on g9 (show k < N by omega) hxJ, on1]
              exact ih9 _ (by omega) _ _ rfl rfl
            · rw [bi_t] at e9 ⊢
              simp (disch := omega) only [r152_0, r152_1, r152_2, r152_5, r152_6, r152_9, r152_10, r152_11, r152_12, r152_14, r152_15, r152_18, r152_21, r152_22, r152_24, r152_25, r152_26, r152_27, r152_30, r152_33, r152_34, r152_36, r152_37, r152_38, r152_39, r152_43, r152_44, r152_47, r152_50, r152_52, r152_55, r152_56, r152_58, r152_59, r152_62, r152_63, r152_64, r152_65, r152_68, r152_71, r152_72, r152_75, r152_76, r152_78, r152_81, r152_84, r152_85, r152_86, r152_87, r152_88, r152_91, r152_92, r152_95, r152_96, r152_97, r152_98, r152_99, r152_100, r152_103, r152_104, r152_105, r152_106, r152_109, r152_112, r152_114, r152_117, r152_118, r152_121, r152_122, r152_123, r152_124, r152_127, r152_130, r152_133, r152_136, r152_137, Cn_n, Cn_v, Cn_x, dp_0, dp_1, dp_2, dp_3, dp_4, okv_n, okv_i, okv_r, eq_self, true_and, and_true, Option.some.injEq, exists_eq_left', rgT, ixT, ixU, ↓if_pos, ↓if_neg, Int.toNat_natCast, bT0, bT1, g_48_0, s_48_0, g_48_1, s_48_1, g_48_2, s_48_2, g_48_3, g_48_4, g_48_5, g_48_6, g_48_7, s_48_7, g_48_8, g_48_9, g_48_10, g_48_11, g_48_12, g_48_13, mp_on g9 (show k < N by omega) hxJ, on1]
              exact ih9 _ (by omega) _ _ rfl rfl
      | succ d3 ih3 =>
        intro y hy w hw z hz
        subst hz
        have b3 := @mo_bd sg M (k + 2 + y) x
        have ih8 := ih3 (y + 1) (by omega)
        simp only [anyc] at ih8
        rw [← hw] at ih8
        rw [r152_41]
        cases w
        · rw [bi_f]
          by_cases c4 : mo sg M (k + 2 + y) x = mo sg M k x
          · rw [decide_eq_true c4] at ih8
            simp (disch := omega) only [r152_0, r152_1, r152_2, r152_5, r152_6, r152_9, r152_10, r152_11, r152_12, r152_14, r152_15, r152_18, r152_21, r152_22, r152_24, r152_25, r152_26, r152_27, r152_30, r152_33, r152_34, r152_36, r152_37, r152_38, r152_39, r152_43, r152_44, r152_47, r152_50, r152_52, r152_55, r152_56, r152_58, r152_59, r152_62, r152_63, r152_64, r152_65, r152_68, r152_71, r152_72, r152_75, r152_76, r152_78, r152_81, r152_84, r152_85, r152_86, r152_87, r152_88, r152_91, r152_92, r152_95, r152_96, r152_97, r152_98, r152_99, r152_100, r152_103, r152_104, r152_105, r152_106, r152_109, r152_112, r152_114, r152_117, r152_118, r152_121, r152_122, r152_123, r152_124, r152_127, r152_130, r152_133, r152_136, r152_137, Cn_n, Cn_v, Cn_x, dp_0, dp_1, dp_2, dp_3, dp_4, okv_n, okv_i, okv_r, eq_self, true_and, and_true, Option.some.injEq, exists_eq_left', rgT, ixT, ixU, ↓if_pos, ↓if_neg, Int.toNat_natCast, bT0, bT1, g_48_0, s_48_0, g_48_1, s_48_1, g_48_2, s_48_2, g_48_3, g_48_4, g_48_5, g_48_6, g_48_7, s_48_7, g_48_8, g_48_9, g_48_10, g_48_11, g_48_12, g_48_13, mp_on g9 (show k < N by omega) hxJ, mp_on g9 (show k + 2 + y < N by omega) hxJ]
            exact ih8 true rfl _ (by omega)
          · rw [decide_eq_false c4] at ih8
            simp (disch := omega) only [r152_0, r152_1, r152_2, r152_5, r152_6, r152_9, r152_10, r152_11, r152_12, r152_14, r152_15, r152_18, r152_21, r152_22, r152_24, r152_25, r152_26, r152_27, r152_30, r152_33, r152_34, r152_36, r152_37, r152_38, r152_39, r152_43, r152_44, r152_47, r152_50, r152_52, r152_55, r152_56, r152_58, r152_59, r152_62, r152_63, r152_64, r152_65, r152_68, r152_71, r152_72, r152_75, r152_76, r152_78, r152_81, r152_84, r152_85, r152_86, r152_87, r152_88, r152_91, r152_92, r152_95, r152_96, r152_97, r152_98, r152_99, r152_100, r152_103, r152_104, r152_105, r152_106, r152_109, r152_112, r152_114, r152_117, r152_118, r152_121, r152_122, r152_123, r152_124, r152_127, r152_130, r152_133, r152_136, r152_137, Cn_n, Cn_v, Cn_x, dp_0, dp_1, dp_2, dp_3, dp_4, okv_n, okv_i, okv_r, eq_self, true_and, and_true, Option.some.injEq, exists_eq_left', rgT, ixT, ixU, ↓if_pos, ↓if_neg, Int.toNat_natCast, bT0, bT1, g_48_0, s_48_0, g_48_1, s_48_1, g_48_2, s_48_2, g_48_3, g_48_4, g_48_5, g_48_6, g_48_7, s_48_7, g_48_8, g_48_9, g_48_10, g_48_11, g_48_12, g_48_13, mp_on g9 (show k < N by omega) hxJ, mp_on g9 (show k + 2 + y < N by omega) hxJ]
            exact ih8 false rfl _ (by omega)
        · rw [bi_t]
          simp (disch := omega) only [r152_0, r152_1, r152_2, r152_5, r152_6, r152_9, r152_10, r152_11, r152_12, r152_14, r152_15, r152_18, r152_21, r152_22, r152_24, r152_25, r152_26, r152_27, r152_30, r152_33, r152_34, r152_36, r152_37, r152_38, r152_39, r152_43, r152_44, r152_47, r152_50, r152_52, r152_55, r152_56, r152_58, r152_59, r152_62, r152_63, r152_64, r152_65, r152_68, r152_71, r152_72, r152_75, r152_76, r152_78, r152_81, r152_84, r152_85, r152_86, r152_87, r152_88, r152_91, r152_92, r152_95, r152_96, r152_97, r152_98, r152_99, r152_100, r152_103, r152_104, r152_105, r152_106, r152_109, r152_112, r152_114, r152_117, r152_118, r152_121, r152_122, r152_123, r152_124, r152_127, r152_130, r152_133, r152_136, r152_137, Cn_n, Cn_v, Cn_x, dp_0, dp_1, dp_2, dp_3, dp_4, okv_n, okv_i, okv_r, eq_self, true_and, and_true, Option.some.injEq, exists_eq_left', rgT, ixT, ixU, ↓if_pos, ↓if_neg, Int.toNat_natCast, bT0, bT1, g_48_0, s_48_0, g_48_1, s_48_1, g_48_2, s_48_2, g_48_3, g_48_4, g_48_5, g_48_6, g_48_7, s_48_7, g_48_8, g_48_9, g_48_10, g_48_11, g_48_12, g_48_13]
          exact ih8 true rfl _ (by omega)
end MFACE
