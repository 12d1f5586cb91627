/-! the filled table; swapping; turning over -/
def fe (t : Nat → Int) (J M r c : Nat) : Int := if r < J then (if c < M then t (5 * r + c) else if r = c - M then bnd t J M - rowS t M r else 0) else if c < M then (if r - J = c then bnd t J M - colS t J c else 0) else t (5 * (c - M) + (r - J))
section TABLE
variable {A : Nat → Nat → Int} {F : Nat → Int} {q : List Int × Nat} {i j v : Int} {Q : AR → Prop} {J M : Nat}
theorem t_fill (hJ : F 17 = J) (hM : F 18 = M) (hJ5 : J ≤ 5) (hM5 : M ≤ 5) (ht : TOK (A 3)) (h0 : 0 ≤ i) (h1 : i < J + M) (h2 : 0 ≤ j) (h3 : j < J + M) : Ew 74 [vR 1, .inl i, .inl j] (mk A F q) Q ↔ Q (.inl (some (.inl (fe (A 3) J M i.toNat j.toNat))), mk A F q) := by
  obtain ⟨r, rfl⟩ : ∃ r : Nat, i = r := ⟨i.toNat, by omega⟩
  obtain ⟨c, rfl⟩ : ∃ c : Nat, j = c := ⟨j.toNat, by omega⟩
  simp only [Int.toNat_natCast]
  unfold Ew
  rw [rc_74 g_1_0 rfl rfl, lc_74]
  unfold fe
  by_cases c1 : r < J
  · rw [if_pos c1]
    by_cases c2 : c < M
    · rw [if_pos c2]
      simp (disch := omega) only [r74_0, r74_1, r74_2, r74_5, r74_8, r74_9, r74_12, r74_13, r74_14, r74_15, r74_16, r74_19, r74_22, r74_23, r74_26, r74_27, r74_29, r74_30, r74_31, r74_34, r74_35, r74_37, r74_38, r74_39, r74_42, r74_43, r74_45, r74_46, r74_49, r74_51, r74_54, r74_55, r74_58, r74_59, r74_60, r74_63, r74_64, r74_65, r74_68, r74_69, r74_71, r74_74, r74_75, r74_78, r74_79, r74_80, r74_83, r74_84, r74_87, r74_88, r74_89, r74_91, r74_94, r74_96, r74_97, r74_100, r74_101, r74_104, r74_105, r74_106, r74_109, r74_110, r74_113, r74_114, r74_115, r74_116, r74_119, r74_121, r74_123, r74_126, Cn_n, Cn_v, Cn_x, dp_0, dp_1, dp_2, dp_3, dp_4, okv_n, okv_i, okv_r, eq_self, true_and, and_true, Option.some.injEq, exists_eq_left', rgT, ixT, ixU, ↓if_pos, ↓if_neg, Int.toNat_natCast, bT0, bT1, g_1_0, g_1_1, s_1_1, g_1_2, s_1_2, gget_2]
    · rw [if_neg c2]
      by_cases c3 : r = c - M
      · rw [if_pos c3]
        simp (disch := omega) only [r74_0, r74_1, r74_2, r74_5, r74_8, r74_9, r74_12, r74_13, r74_14, r74_15, r74_16, r74_19, r74_22, r74_23, r74_26, r74_27, r74_29, r74_30, r74_31, r74_34, r74_35, r74_37, r74_38, r74_39, r74_42, r74_43, r74_45, r74_46, r74_49, r74_51, r74_54, r74_55, r74_58, r74_59, r74_60, r74_63, r74_64, r74_65, r74_68, r74_69, r74_71, r74_74, r74_75, r74_78, r74_79, r74_80, r74_83, r74_84, r74_87, r74_88, r74_89, r74_91, r74_94, r74_96, r74_97, r74_100, r74_101, r74_104, r74_105, r74_106, r74_109, r74_110, r74_113, r74_114, r74_115, r74_116, r74_119, r74_121, r74_123, r74_126, Cn_n, Cn_v, Cn_x, dp_0, dp_1, dp_2, dp_3, dp_4, okv_n, okv_i, okv_r, eq_self, true_and, and_true, Option.some.injEq, exists_eq_left', rgT, ixT, ixU, ↓if_pos, ↓if_neg, Int.toNat_natCast, bT0, bT1, g_1_0, g_1_1, s_1_1, g_1_2, s_1_2, t_most hJ hM hJ5 hM5 ht, t_row hM hM5]
      · rw [if_neg c3]
        simp (disch := omega) only [r74_0, r74_1, r74_2, r74_5, r74_8, r74_9, r74_12, r74_13, r74_14, r74_15, r74_16, r74_19, r74_22, r74_23, r74_26, r74_27, r74_29, r74_30, r74_31, r74_34, r74_35, r74_37, r74_38, r74_39, r74_42, r74_43, r74_45, r74_46, r74_49, r74_51, r74_54, r74_55, r74_58, r74_59, r74_60, r74_63, r74_64, r74_65, r74_68, r74_69, r74_71, r74_74, r74_75, r74_78, r74_79, r74_80, r74_83, r74_84, r74_87, r74_88, r74_89, r74_91, r74_94, r74_96, r74_97, r74_100, r74_101, r74_104, r74_105, r74_106, r74_109, r74_110, r74_113, r74_114, r74_115, r74_116, r74_119, r74_121, r74_123, r74_126, Cn_n, Cn_v, Cn_x, dp_0, dp_1, dp_2, dp_3, dp_4, okv_n, okv_i, okv_r, eq_self, true_and, and_true, Option.some.injEq, exists_eq_left', rgT, ixT, ixU, ↓if_pos, ↓if_neg, Int.toNat_natCast, bT0, bT1, g_1_0, g_1_1, s_1_1, g_1_2, s_1_2]
  · rw [if_neg c1]
    by_cases c2 : c < M
    · rw [if_pos c2]
      by_cases c3 : r - J = c
      · rw [if_pos c3]
        simp (disch := omega) only [r74_0, r74_1, r74_2, r74_5, r74_8, r74_9, r74_12, r74_13, r74_14, r74_15, r74_16, r74_19, r74_22, r74_23, r74_26, r74_27, r74_29, r74_30, r74_31, r74_34, r74_35, r74_37, r74_38, r74_39, r74_42, r74_43, r74_45, r74_46, r74_49, r74_51, r74_54, r74_55, r74_58, r74_59, r74_60, r74_63, r74_64, r74_65, r74_68, r74_69, r74_71, r74_74, r74_75, r74_78, r74_79, r74_80, r74_83, r74_84, r74_87, r74_88, r74_89, r74_91, r74_94, r74_96, r74_97, r74_100, r74_101, r74_104, r74_105, r74_106, r74_109, r74_110, r74_113, r74_114, r74_115, r74_116, r74_119, r74_121, r74_123, r74_126, Cn_n, Cn_v, Cn_x, dp_0, dp_1, dp_2, dp_3, dp_4, okv_n, okv_i, okv_r, eq_self, true_and, and_true, Option.some.injEq, exists_eq_left', rgT, ixT, ixU, ↓if_pos, ↓if_neg, Int.toNat_natCast, bT0, bT1, g_1_0, g_1_1, s_1_1, g_1_2, s_1_2, t_most hJ hM hJ5 hM5 ht, t_col hJ hJ5]
      · rw [if_neg c3]
        simp (disch := omega) only [r74_0, r74_1, r74_2, r74_5, r74_8, r74_9, r74_12, r74_13, r74_14, r74_15, r74_16, r74_19, r74_22, r74_23, r74_26, r74_27, r74_29, r74_30, r74_31, r74_34, r74_35, r74_37, r74_38, r74_39, r74_42, r74_43, r74_45, r74_46, r74_49, r74_51, r74_54, r74_55, r74_58, r74_59, r74_60, r74_63, r74_64, r74_65, r74_68, r74_69, r74_71, r74_74, r74_75, r74_78, r74_79, r74_80, r74_83, r74_84, r74_87, r74_88, r74_89, r74_91, r74_94, r74_96, r74_97, r74_100, r74_101, r74_104, r74_105, r74_106, r74_109, r74_110, r74_113, r74_114, r74_115, r74_116, r74_119, r74_121, r74_123, r74_126, Cn_n, Cn_v, Cn_x, dp_0, dp_1, dp_2, dp_3, dp_4, okv_n, okv_i, okv_r, eq_self, true_and, and_true, Option.some.injEq, exists_eq_left', rgT, ixT, ixU, ↓if_pos, ↓if_neg, Int.toNat_natCast, bT0, bT1, g_1_0, g_1_1, s_1_1, g_1_2, s_1_2]
    · rw [if_neg c2]
      have e1 : ((c : Int) - F 18).toNat = c - M := by omega
      have e2 : ((r : Int) - F 17).toNat = r - J := by omega
      simp (disch := omega) only [r74_0, r74_1, r74_2, r74_5, r74_8, r74_9, r74_12, r74_13, r74_14, r74_15, r74_16, r74_19, r74_22, r74_23, r74_26, r74_27, r74_29, r74_30, r74_31, r74_34, r74_35, r74_37, r74_38, r74_39, r74_42, r74_43, r74_45, r74_46, r74_49, r74_51, r74_54, r74_55, r74_58, r74_59, r74_60, r74_63, r74_64, r74_65, r74_68, r74_69, r74_71, r74_74, r74_75, r74_78, r74_79, r74_80, r74_83, r74_84, r74_87, r74_88, r74_89, r74_91, r74_94, r74_96, r74_97, r74_100, r74_101, r74_104, r74_105, r74_106, r74_109, r74_110, r74_113, r74_114, r74_115, r74_116, r74_119, r74_121, r74_123, r74_126, Cn_n, Cn_v, Cn_x, dp_0, dp_1, dp_2, dp_3, dp_4, okv_n, okv_i, okv_r, eq_self, true_and, and_true, Option.some.injEq, exists_eq_left', rgT, ixT, ixU, ↓if_pos, ↓if_neg, Int.toNat_natCast, bT0, bT1, g_1_0, g_1_1, s_1_1, g_1_2, s_1_2, gget_2, e1, e2]
/-- rows swapped as far as a machine -/
def swp (t : Nat → Int) (a b n : Nat) : Nat → Int := fun k => if k % 5 < n then (if k / 5 = a then t (5 * b + k % 5) else if k / 5 = b then t (5 * a + k % 5) else t k) else t k
theorem swp_0 {t : Nat → Int} {a b : Nat} : swp t a b 0 = t := by
  funext k
  simp [swp]
theorem swp_s {t : Nat → Int} {a b n : Nat} (hn : n < 5) : uq (uq (swp t a b n) (5 * a + n) (swp t a b n (5 * b + n))) (5 * b + n) (swp t a b n (5 * a + n)) = swp t a b (n + 1) := by
  have e1 : ∀ x : Nat, swp t a b n (5 * x + n) = t (5 * x + n) := by
    intro x
    unfold swp
    rw [if_neg (by omega)]
  funext k
  rw [e1, e1]
  unfold uq swp
  by_cases hk : k % 5 = n
  · rw [if_pos (show k % 5 < n + 1 by omega), hk]
    by_cases ha : k / 5 = a
    · by_cases hb : k / 5 = b
      · have hab : a = b := by omega
        subst hab
        rw [if_pos (show k = 5 * a + n by omega), if_pos ha]
      · rw [if_neg (show ¬ k = 5 * b + n by omega), if_pos (show k = 5 * a + n by omega), if_pos ha]
    · by_cases hb : k / 5 = b
      · rw [if_pos (show k = 5 * b + n by omega), if_neg ha, if_pos hb]
      · rw [if_neg (show ¬ k = 5 * b + n by omega), if_neg (show ¬ k = 5 * a + n by omega), if_neg (by omega), if_neg ha, if_neg hb]
  · rw [if_neg (show ¬ k = 5 * b + n by omega), if_neg (show ¬ k = 5 * a + n by omega)]
    by_cases hk2 : k % 5 < n
    · rw [if_pos hk2, if_pos (show k % 5 < n + 1 by omega)]
    · rw [if_neg hk2, if_neg (show ¬ k % 5 < n + 1 by omega)]
theorem t_swap (hM : F 18 = M) (hM5 : M ≤ 5) (h0 : 0 ≤ i) (h1 : i < 5) (h2 : 0 ≤ j) (h3 : j < 5) : Ew 68 [vR 1, .inl i, .inl j] (mk A F q) Q ↔ Q (.inl none, mk (ua A 3 (swp (A 3) i.toNat j.toNat M)) F q) := by
  refine Ew_iff ⟨rc_68 g_1_0 rfl rfl, ?_⟩
  rw [lc_68]
  simp only [r68_0, r68_1, r68_3, r68_4, r68_7, r68_10, r68_11, r68_14, r68_15, r68_16, r68_19, r68_21, r68_22, r68_25, r68_26, r68_27, r68_28, r68_31, r68_32, r68_33, r68_36, r68_39, r68_40, r68_43, r68_44, r68_45, r68_47, r68_50, r68_53, r68_56, Cn_n, Cn_v, Cn_x, dp_0, dp_1, dp_2, dp_3, dp_4, okv_n, okv_i, okv_r, eq_self, true_and, and_true, Option.some.injEq, exists_eq_left']
  suffices key : ∀ (n : Nat) (d : Nat), n + d = M → ∀ x4 : Option AV, (okv x4 = true) → Wp 68 2 [some (vR 1), some (.inl i), some (.inl j), some (.inl (n : Int)), x4] [] (mk (ua A 3 (swp (A 3) i.toNat j.toNat n)) F q) (fun r => r = (.inl none, mk (ua A 3 (swp (A 3) i.toNat j.toNat M)) F q)) by
    have k0 := key 0 M (by omega) none rfl
    rw [swp_0, ua_id] at k0
    exact k0
  intro n d
  induction d generalizing n with
  | zero =>
    intro hn x4 _
    rw [r68_2]
    simp (disch := omega) only [r68_0, r68_1, r68_3, r68_4, r68_7, r68_10, r68_11, r68_14, r68_15, r68_16, r68_19, r68_21, r68_22, r68_25, r68_26, r68_27, r68_28, r68_31, r68_32, r68_33, r68_36, r68_39, r68_40, r68_43, r68_44, r68_45, r68_47, r68_50, r68_53, r68_56, Cn_n, Cn_v, Cn_x, dp_0, dp_1, dp_2, dp_3, dp_4, okv_n, okv_i, okv_r, eq_self, true_and, and_true, Option.some.injEq, exists_eq_left', rgT, ixT, ixU, ↓if_pos, ↓if_neg, Int.toNat_natCast, bT0, bT1, g_1_0, g_1_1, s_1_1, g_1_2, s_1_2]
    rw [show n = M by omega]
  | succ d ih =>
    intro hn x4 h4
    rw [r68_2]
    simp (disch := omega) only [r68_0, r68_1, r68_3, r68_4, r68_7, r68_10, r68_11, r68_14, r68_15, r68_16, r68_19, r68_21, r68_22, r68_25, r68_26, r68_27, r68_28, r68_31, r68_32, r68_33, r68_36, r68_39, r68_40, r68_43, r68_44, r68_45, r68_47, r68_50, r68_53, r68_56, Cn_n, Cn_v, Cn_x, dp_0, dp_1, dp_2, dp_3, dp_4, okv_n, okv_i, okv_r, eq_self, true_and, and_true, Option.some.injEq, exists_eq_left', rgT, ixT, ixU, ↓if_pos, ↓if_neg, Int.toNat_natCast, bT0, bT1, g_1_0, g_1_1, s_1_1, g_1_2, s_1_2, gget_2, gput_2, u2, ua_s, ua_ua]
    have hk := swp_s (t := A 3) (a := i.toNat) (b := j.toNat) (show n < 5 by omega)
    skip
    rw [hk]
    exact ih (n + 1) (by omega) _ rfl
/-- turned over up to row a, in it up to column b -/
def trn (t : Nat → Int) (a b : Nat) : Nat → Int := fun k => if 25 ≤ k then t k else (if max (k / 5) (k % 5) < a ∨ max (k / 5) (k % 5) = a ∧ min (k / 5) (k % 5) < b then t (5 * (k % 5) + k / 5) else t k)
theorem trn_0 {t : Nat → Int} : trn t 0 0 = t := by
  funext k
  unfold trn
  split
  · rfl
  · rw [if_neg (by omega)]
theorem trn_r {t : Nat → Int} {a : Nat} : trn t a a = trn t (a + 1) 0 := by
  funext k
  unfold trn
  split
  · rfl
  · by_cases h : max (k / 5) (k % 5) < a ∨ max (k / 5) (k % 5) = a ∧ min (k / 5) (k % 5) < a
    · rw [if_pos h, if_pos (by omega)]
    · rw [if_neg h]
      split
      · have e1 : k / 5 = a := by omega
        have e2 : k % 5 = a := by omega
        rw [show 5 * (k % 5) + k / 5 = k by omega]
      · rfl
theorem trn_s {t : Nat → Int} {a b : Nat} (ha : a < 5) (hb : b < a) : uq (uq (trn t a b) (5 * a + b) (trn t a b (5 * b + a))) (5 * b + a) (trn t a b (5 * a + b)) = trn t a (b + 1) := by
  have e1 : trn t a b (5 * b + a) = t (5 * b + a) := by
    unfold trn
    rw [if_neg (by omega), if_neg (by omega)]
  have e2 : trn t a b (5 * a + b) = t (5 * a + b) := by
    unfold trn
    rw [if_neg (by omega), if_neg (by omega)]
  rw [e1, e2]
  funext k
  unfold uq trn
  by_cases hk1 : k = 5 * b + a
  · rw [if_pos hk1, if_neg (by omega), if_pos (by omega)]
    congr 1
    omega
  · rw [if_neg hk1]
    by_cases hk2 : k = 5 * a + b
    · rw [if_pos hk2, if_neg (by omega), if_pos (by omega)]
      congr 1
      omega
    · rw [if_neg hk2]
      split
      · rfl
      · by_cases h : max (k / 5) (k % 5) < a ∨ max (k / 5) (k % 5) = a ∧ min (k / 5) (k % 5) < b
        · rw [if_pos h, if_pos (by omega)]
        · rw [if_neg h, if_neg (by omega)]
theorem t_turn : Ew 69 [vR 1] (mk A F q) Q ↔ Q (.inl none, mk (ua A 3 (trn (A 3) 5 0)) (uf (uf F 17 (F 18)) 18 (F 17)) q) := by
  refine Ew_iff ⟨rc_69 g_1_0, ?_⟩
  rw [lc_69]
  simp only [r69_0, r69_1, r69_3, r69_4, r69_7, r69_8, r69_10, r69_11, r69_14, r69_15, r69_18, r69_19, r69_20, r69_23, r69_24, r69_25, r69_28, r69_29, r69_30, r69_31, r69_34, r69_35, r69_36, r69_39, r69_42, r69_43, r69_46, r69_47, r69_48, r69_49, r69_52, r69_55, r69_58, r69_61, r69_64, r69_65, r69_68, r69_69, r69_70, r69_71, r69_74, r69_77, r69_78, r69_79, r69_82, Cn_n, Cn_v, Cn_x, dp_0, dp_1, dp_2, dp_3, dp_4, okv_n, okv_i, okv_r, eq_self, true_and, and_true, Option.some.injEq, exists_eq_left']
  suffices key : ∀ (a : Nat) (d : Nat), a + d = 5 → ∀ x2 x3 : Option AV, okv x2 = true → okv x3 = true → Wp 69 2 [some (vR 1), some (.inl (a : Int)), x2, x3] [] (mk (ua A 3 (trn (A 3) a 0)) F q) (fun r => r = (.inl none, mk (ua A 3 (trn (A 3) 5 0)) (uf (uf F 17 (F 18)) 18 (F 17)) q)) by
    have k0 := key 0 5 (by omega) none none rfl rfl
    rw [trn_0, ua_id] at k0
    exact k0
  intro a d
  induction d generalizing a with
  | zero =>
    intro ha x2 x3 h2 h3
    obtain rfl : a = 5 := by omega
    rw [r69_2]
    simp (disch := omega) only [r69_0, r69_1, r69_3, r69_4, r69_7, r69_8, r69_10, r69_11, r69_14, r69_15, r69_18, r69_19, r69_20, r69_23, r69_24, r69_25, r69_28, r69_29, r69_30, r69_31, r69_34, r69_35, r69_36, r69_39, r69_42, r69_43, r69_46, r69_47, r69_48, r69_49, r69_52, r69_55, r69_58, r69_61, r69_64, r69_65, r69_68, r69_69, r69_70, r69_71, r69_74, r69_77, r69_78, r69_79, r69_82, Cn_n, Cn_v, Cn_x, dp_0, dp_1, dp_2, dp_3, dp_4, okv_n, okv_i, okv_r, eq_self, true_and, and_true, Option.some.injEq, exists_eq_left', rgT, ixT, ixU, ↓if_pos, ↓if_neg, Int.toNat_natCast, bT0, bT1, g_1_0, g_1_1, s_1_1, g_1_2, s_1_2]
  | succ d ih =>
    intro ha x2 x3 h2 h3
    rw [r69_2]
    simp (disch := omega) only [r69_0, r69_1, r69_3, r69_4, r69_7, r69_8, r69_10, r69_11, r69_14, r69_15, r69_18, r69_19, r69_20, r69_23, r69_24, r69_25, r69_28, r69_29, r69_30, r69_31, r69_34, r69_35, r69_36, r69_39, r69_42, r69_43, r69_46, r69_47, r69_48, r69_49, r69_52, r69_55, r69_58, r69_61, r69_64, r69_65, r69_68, r69_69, r69_70, r69_71, r69_74, r69_77, r69_78, r69_79, r69_82, Cn_n, Cn_v, Cn_x, dp_0, dp_1, dp_2, dp_3, dp_4, okv_n, okv_i, okv_r, eq_self, true_and, and_true, Option.some.injEq, exists_eq_left', rgT, ixT, ixU, ↓if_pos, ↓if_neg, Int.toNat_natCast, bT0, bT1, g_1_0, g_1_1, s_1_1, g_1_2, s_1_2]
    suffices key2 : ∀ (b : Nat) (d2 : Nat), b + d2 = a → ∀ x3 : Option AV, okv x3 = true → Wp 69 9 [some (vR 1), some (.inl (a : Int)), some (.inl (b : Int)), x3] [] (mk (ua A 3 (trn (A 3) a b)) F q) (fun r => r = (.inl none, mk (ua A 3 (trn (A 3) 5 0)) (uf (uf F 17 (F 18)) 18 (F 17)) q)) by
      exact key2 0 a (by omega) x3 h3
    intro b d2
    induction d2 generalizing b with
    | zero =>
      intro hb x3 h3
      obtain rfl : b = a := by omega
      rw [r69_9]
      simp (disch := omega) only [r69_0, r69_1, r69_3, r69_4, r69_7, r69_8, r69_10, r69_11, r69_14, r69_15, r69_18, r69_19, r69_20, r69_23, r69_24, r69_25, r69_28, r69_29, r69_30, r69_31, r69_34, r69_35, r69_36, r69_39, r69_42, r69_43, r69_46, r69_47, r69_48, r69_49, r69_52, r69_55, r69_58, r69_61, r69_64, r69_65, r69_68, r69_69, r69_70, r69_71, r69_74, r69_77, r69_78, r69_79, r69_82, Cn_n, Cn_v, Cn_x, dp_0, dp_1, dp_2, dp_3, dp_4, okv_n, okv_i, okv_r, eq_self, true_and, and_true, Option.some.injEq, exists_eq_left', rgT, ixT, ixU, ↓if_pos, ↓if_neg, Int.toNat_natCast, bT0, bT1, g_1_0, g_1_1, s_1_1, g_1_2, s_1_2]
      rw [trn_r]
      exact ih (b + 1) (by omega) _ _ rfl h3
    | succ d2 ih2 =>
      intro hb x3 h3
      rw [r69_9]
      simp (disch := omega) only [r69_0, r69_1, r69_3, r69_4, r69_7, r69_8, r69_10, r69_11, r69_14, r69_15, r69_18, r69_19, r69_20, r69_23, r69_24, r69_25, r69_28, r69_29, r69_30, r69_31, r69_34, r69_35, r69_36, r69_39, r69_42, r69_43, r69_46, r69_47, r69_48, r69_49, r69_52, r69_55, r69_58, r69_61, r69_64, r69_65, r69_68, r69_69, r69_70, r69_71, r69_74, r69_77, r69_78, r69_79, r69_82, Cn_n, Cn_v, Cn_x, dp_0, dp_1, dp_2, dp_3, dp_4, okv_n, okv_i, okv_r, eq_self, true_and, and_true, Option.some.injEq, exists_eq_left', rgT, ixT, ixU, ↓if_pos, ↓if_neg, Int.toNat_natCast, bT0, bT1, g_1_0, g_1_1, s_1_1, g_1_2, s_1_2, gget_2, gput_2, u2, ua_s, ua_ua]
      have hk := trn_s (t := A 3) (a := a) (b := b) (by omega) (by omega)
      skip
      rw [hk]
      exact ih2 (b + 1) (by omega) _ rfl
end TABLE
