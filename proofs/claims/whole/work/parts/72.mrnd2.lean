/-! the model's rounding in the machine -/
theorem bTb {v : Bool} : b01 (bi v) = True := by
  cases v
  · exact bT0
  · exact bT1
theorem td6 {n : Nat} : ((n : Nat) : Int).tdiv 6 = ((n / 6 : Nat) : Int) := by rw [Int.tdiv_eq_ediv_of_nonneg (by omega)]; omega
theorem tm6 {n : Nat} : ((n : Nat) : Int).tmod 6 = ((n % 6 : Nat) : Int) := by rw [Int.tmod_eq_emod_of_nonneg (by omega)]; omega
theorem l06 : (0 : Int) < 6 := by decide
theorem bi_bd {b : Bool} : 0 ≤ bi b ∧ bi b ≤ 1 := by cases b <;> decide
theorem mny_bd {M s : Nat} : ∀ {m : Nat}, 0 ≤ mny M s m ∧ mny M s m ≤ m
  | 0 => ⟨Int.le_refl _, Int.le_refl _⟩
  | m + 1 => by
    have h1 := mny_bd (M := M) (s := s) (m := m)
    have h2 := @bi_bd (bt M s m)
    simp only [mny]
    omega
theorem dig_lt {c m : Nat} : dig c m < 6 := Nat.mod_lt _ (by decide)
theorem cdl_dig : ∀ {M c : Nat}, c < 6 ^ M → cdl (dig c) M = c
  | 0, c, h => by
    have : (6 : Nat) ^ 0 = 1 := rfl
    simp only [cdl]
    omega
  | M + 1, c, h => by
    have h1 := cdl_dig (M := M) (c := c / 6) (by rw [Nat.pow_succ] at h; omega)
    have h2 : cdl (fun m => dig c (m + 1)) M = cdl (dig (c / 6)) M := cdl_congr (fun m hm => by
      unfold dig
      rw [Nat.pow_succ, Nat.mul_comm (6 ^ m) 6, ← Nat.div_div_eq_div_mul])
    rw [cdl_cons, h2, h1]
    unfold dig
    rw [Nat.pow_zero, Nat.div_one]
    omega
theorem bec_lt {t : Nat → Int} {d : Int} {M j s c : Nat} (hc : c < 6 ^ M) (h : bec t d M j s c ≠ -1) : ∃ z : Nat, bec t d M j s c = (z : Int) ∧ z < 6 ^ M := by
  unfold bec at h ⊢
  by_cases k : okb t d M j s c M = true ∧ mbb (rowS t M j) (dnr t d M j) (mny M s M) d = true
  · rw [if_pos k]
    refine ⟨_, rfl, ?_⟩
    have e := @thn_cdl M s (dig c) M
    rw [cdl_dig hc] at e
    have e2 := @cdl_add (dig c) (fun y => (bt M s y).toNat) M
    rw [cdl_dig hc] at e2
    rw [e, ← e2]
    refine cdl_lt (fun y hy => ?_)
    have h1 := allb_iff.mp k.1 y hy
    have h2 := @dig_lt c y
    cases hb : bt M s y
    · simp only [Bool.toNat_false]; omega
    · rw [hb] at h1
      simp only [Bool.not_true, Bool.false_or, Bool.and_eq_true, decide_eq_true_eq] at h1
      simp only [Bool.toNat_true]
      omega
  · rw [if_neg k] at h
    exact absurd rfl h
section MRM
variable {A : Nat → Nat → Int} {F : Nat → Int} {q : List Int × Nat} {Q : AR → Prop} {J M : Nat} {t : Nat → Int} {d : Int}
theorem dnr_bd (hd : 1 ≤ d) (ht : TOK t) (hM5 : M ≤ 5) {j : Nat} (hj : j < 5) : 0 ≤ dnr t d M j ∧ dnr t d M j ≤ 495 := by
  have h1 := @lj_bd t d M hd ht hM5 j hj
  have h2 := rowS_bd ht hM5 hj
  have h3 := Int.ediv_le_self d h2.1
  unfold ljf at h1
  omega
theorem dnc_bd (hd : 1 ≤ d) (ht : TOK t) (hJ5 : J ≤ 5) {m : Nat} (hm : m < 5) : 0 ≤ dnc t d J m ∧ dnc t d J m ≤ 495 := by
  have h1 := @lm_bd t d J hd ht hJ5 m hm
  have h2 := colS_bd ht hJ5 hm
  have h3 := Int.ediv_le_self d h2.1
  unfold lmf at h1
  omega
theorem m_mayBe {s dn k : Int} (hs : 0 ≤ s) (hs1 : s ≤ 100000) (hn : 0 ≤ dn) (hn1 : dn ≤ 100000) (hk : 0 ≤ k) (hk1 : k ≤ 100000) (hd : 1 ≤ d) (hd1 : d ≤ 100) : Ew 160 [.inl s, .inl dn, .inl k, .inl d] (mk A F q) Q ↔ Q (.inl (some (.inl (bi (mbb s dn k d)))), mk A F q) := by
  have e1 : s.tdiv d = s / d := Int.tdiv_eq_ediv_of_nonneg hs
  have e2 : (s + d - 1).tdiv d = (s + d - 1) / d := Int.tdiv_eq_ediv_of_nonneg (by omega)
  have e3 : (0 < d) = True := eq_true (by omega)
  have b1 := Int.ediv_nonneg hs (show 0 ≤ d by omega)
  have b2 := Int.ediv_le_self d hs
  have b3 := Int.ediv_nonneg (show 0 ≤ s + d - 1 by omega) (show 0 ≤ d by omega)
  have b4 := Int.ediv_le_self d (show 0 ≤ s + d - 1 by omega)
  unfold Ew
  rw [rc_160 rfl rfl rfl rfl, lc_160]
  unfold mbb
  by_cases c1 : dn + k = s / d
  · rw [decide_eq_true c1, Bool.true_or, bi_t]
    simp (disch := omega) only [r160_0, r160_1, r160_2, r160_3, r160_5, r160_7, r160_8, r160_9, r160_10, r160_13, r160_15, r160_16, r160_17, r160_18, r160_19, r160_20, r160_21, r160_22, r160_25, r160_26, r160_29, r160_30, Cn_n, Cn_v, Cn_x, dp_0, dp_1, dp_2, dp_3, dp_4, okv_n, okv_i, okv_r, eq_self, true_and, and_true, Option.some.injEq, exists_eq_left', rgT, ixT, ixU, ↓if_pos, ↓if_neg, Int.toNat_natCast, bT0, bT1, e1, e2, e3]
  · rw [decide_eq_false c1, Bool.false_or]
    by_cases c2 : dn + k = (s + d - 1) / d
    · rw [decide_eq_true c2, bi_t]
      simp (disch := omega) only [r160_0, r160_1, r160_2, r160_3, r160_5, r160_7, r160_8, r160_9, r160_10, r160_13, r160_15, r160_16, r160_17, r160_18, r160_19, r160_20, r160_21, r160_22, r160_25, r160_26, r160_29, r160_30, Cn_n, Cn_v, Cn_x, dp_0, dp_1, dp_2, dp_3, dp_4, okv_n, okv_i, okv_r, eq_self, true_and, and_true, Option.some.injEq, exists_eq_left', rgT, ixT, ixU, ↓if_pos, ↓if_neg, Int.toNat_natCast, bT0, bT1, e1, e2, e3]
    · rw [decide_eq_false c2, bi_f]
      simp (disch := omega) only [r160_0, r160_1, r160_2, r160_3, r160_5, r160_7, r160_8, r160_9, r160_10, r160_13, r160_15, r160_16, r160_17, r160_18, r160_19, r160_20, r160_21, r160_22, r160_25, r160_26, r160_29, r160_30, Cn_n, Cn_v, Cn_x, dp_0, dp_1, dp_2, dp_3, dp_4, okv_n, okv_i, okv_r, eq_self, true_and, and_true, Option.some.injEq, exists_eq_left', rgT, ixT, ixU, ↓if_pos, ↓if_neg, Int.toNat_natCast, bT0, bT1, e1, e2, e3]
theorem m_downsJ (hA : A 49 = t) (hM : F 770 = M) (hM5 : M ≤ 5) (ht : TOK t) (hd : 1 ≤ d) (hd1 : d ≤ 100) {j : Nat} (hj : j < 5) : Ew 161 [vR 48, .inl (j : Int), .inl d] (mk A F q) Q ↔ Q (.inl (some (.inl (dnr t d M j))), mk A F q) := by
  have e3 : (0 < d) = True := eq_true (by omega)
  refine Ew_iff ⟨rc_161 g_48_0 rfl rfl, ?_⟩
  rw [lc_161]
  simp only [r161_0, r161_1, r161_2, r161_3, r161_7, r161_8, r161_11, r161_14, r161_15, r161_16, r161_17, r161_19, r161_22, r161_23, r161_24, r161_25, r161_26, r161_29, r161_32, r161_33, Cn_n, Cn_v, Cn_x, dp_0, dp_1, dp_2, dp_3, dp_4, okv_n, okv_i, okv_r, eq_self, true_and, and_true, Option.some.injEq, exists_eq_left']
  have key := Rn_for (fun n => Wp 161 5 [some (vR 48), some (.inl (j : Int)), some (.inl d), some (.inl (isum (dq t d j) n)), some (.inl (n : Int))] [] (mk A F q) (fun r => r = (.inl (some (.inl (dnr t d M j))), mk A F q))) M (fun n hn ih => ?_) ?_
  · exact key
  · have b1 := ht (5 * j + n) (by omega)
    have e1 : (t (5 * j + n)).tdiv d = dq t d j n := Int.tdiv_eq_ediv_of_nonneg b1.1
    rw [r161_5]
    simp (disch := omega) only [r161_0, r161_1, r161_2, r161_3, r161_7, r161_8, r161_11, r161_14, r161_15, r161_16, r161_17, r161_19, r161_22, r161_23, r161_24, r161_25, r161_26, r161_29, r161_32, r161_33, Cn_n, Cn_v, Cn_x, dp_0, dp_1, dp_2, dp_3, dp_4, okv_n, okv_i, okv_r, eq_self, true_and, and_true, Option.some.injEq, exists_eq_left', rgT, ixT, ixU, ↓if_pos, ↓if_neg, Int.toNat_natCast, bT0, bT1, g_48_0, s_48_0, g_48_1, s_48_1, g_48_2, s_48_2, g_48_3, g_48_4, g_48_5, g_48_6, g_48_7, s_48_7, g_48_8, g_48_9, g_48_10, g_48_11, g_48_12, g_48_13, m_at, hA, e1, e3]
    exact ih
  · rw [r161_5]
    simp (disch := omega) only [r161_0, r161_1, r161_2, r161_3, r161_7, r161_8, r161_11, r161_14, r161_15, r161_16, r161_17, r161_19, r161_22, r161_23, r161_24, r161_25, r161_26, r161_29, r161_32, r161_33, Cn_n, Cn_v, Cn_x, dp_0, dp_1, dp_2, dp_3, dp_4, okv_n, okv_i, okv_r, eq_self, true_and, and_true, Option.some.injEq, exists_eq_left', rgT, ixT, ixU, ↓if_pos, ↓if_neg, Int.toNat_natCast, bT0, bT1, g_48_0, s_48_0, g_48_1, s_48_1, g_48_2, s_48_2, g_48_3, g_48_4, g_48_5, g_48_6, g_48_7, s_48_7, g_48_8, g_48_9, g_48_10, g_48_11, g_48_12, g_48_13]
    rfl
theorem m_downsM (hA : A 49 = t) (hJ : F 769 = J) (hJ5 : J ≤ 5) (ht : TOK t) (hd : 1 ≤ d) (hd1 : d ≤ 100) {m : Nat} (hm : m < 5) : Ew 162 [vR 48, .inl (m : Int), .inl d] (mk A F q) Q ↔ Q (.inl (some (.inl (dnc t d J m))), mk A F q) := by
  have e3 : (0 < d) = True := eq_true (by omega)
  refine Ew_iff ⟨rc_162 g_48_0 rfl rfl, ?_⟩
  rw [lc_162]
  simp only [r162_0, r162_1, r162_2, r162_3, r162_7, r162_8, r162_11, r162_14, r162_15, r162_16, r162_18, r162_19, r162_22, r162_23, r162_24, r162_25, r162_26, r162_29, r162_32, r162_33, Cn_n, Cn_v, Cn_x, dp_0, dp_1, dp_2, dp_3, dp_4, okv_n, okv_i, okv_r, eq_self, true_and, and_true, Option.some.injEq, exists_eq_left']
  have key := Rn_for (fun n => Wp 162 5 [some (vR 48), some (.inl (m : Int)), some (.inl d), some (.inl (isum (fun j => dq t d j m) n)), some (.inl (n : Int))] [] (mk A F q) (fun r => r = (.inl (some (.inl (dnc t d J m))), mk A F q))) J (fun n hn ih => ?_) ?_
  · exact key
  · have b1 := ht (5 * n + m) (by omega)
    have e1 : (t (5 * n + m)).tdiv d = dq t d n m := Int.tdiv_eq_ediv_of_nonneg b1.1
    rw [r162_5]
    simp (disch := omega) only [r162_0, r162_1, r162_2, r162_3, r162_7, r162_8, r162_11, r162_14, r162_15, r162_16, r162_18, r162_19, r162_22, r162_23, r162_24, r162_25, r162_26, r162_29, r162_32, r162_33, Cn_n, Cn_v, Cn_x, dp_0, dp_1, dp_2, dp_3, dp_4, okv_n, okv_i, okv_r, eq_self, true_and, and_true, Option.some.injEq, exists_eq_left', rgT, ixT, ixU, ↓if_pos, ↓if_neg, Int.toNat_natCast, bT0, bT1, g_48_0, s_48_0, g_48_1, s_48_1, g_48_2, s_48_2, g_48_3, g_48_4, g_48_5, g_48_6, g_48_7, s_48_7, g_48_8, g_48_9, g_48_10, g_48_11, g_48_12, g_48_13, m_at, hA, e1, e3]
    exact ih
  · rw [r162_5]
    simp (disch := omega) only [r162_0, r162_1, r162_2, r162_3, r162_7, r162_8, r162_11, r162_14, r162_15, r162_16, r162_18, r162_19, r162_22, r162_23, r162_24, r162_25, r162_26, r162_29, r162_32, r162_33, Cn_n, Cn_v, Cn_x, dp_0, dp_1, dp_2, dp_3, dp_4, okv_n, okv_i, okv_r, eq_self, true_and, and_true, Option.some.injEq, exists_eq_left', rgT, ixT, ixU, ↓if_pos, ↓if_neg, Int.toNat_natCast, bT0, bT1, g_48_0, s_48_0, g_48_1, s_48_1, g_48_2, s_48_2, g_48_3, g_48_4, g_48_5, g_48_6, g_48_7, s_48_7, g_48_8, g_48_9, g_48_10, g_48_11, g_48_12, g_48_13]
    rfl
theorem m_digit {c m : Nat} (hc : c < 100000) (hm : m ≤ 100) : Ew 163 [vR 48, .inl (c : Int), .inl (m : Int)] (mk A F q) Q ↔ Q (.inl (some (.inl (dig c m : Int))), mk A F q) := by
  refine Ew_iff ⟨rc_163 g_48_0 rfl rfl, ?_⟩
  rw [lc_163]
  simp only [r163_0, r163_1, r163_2, r163_3, r163_7, r163_8, r163_11, r163_12, r163_14, r163_15, r163_16, r163_19, r163_22, r163_23, r163_25, r163_26, Cn_n, Cn_v, Cn_x, dp_0, dp_1, dp_2, dp_3, dp_4, okv_n, okv_i, okv_r, eq_self, true_and, and_true, Option.some.injEq, exists_eq_left']
  suffices key : ∀ x k : Nat, k + x = m → ∀ r : Nat, r = c / 6 ^ k → Wp 163 5 [some (vR 48), some (.inl (c : Int)), some (.inl (m : Int)), some (.inl (r : Int)), some (.inl (k : Int))] [] (mk A F q) (fun r => r = (.inl (some (.inl (dig c m : Int))), mk A F q)) by
    exact key m 0 (by omega) c (by rw [Nat.pow_zero, Nat.div_one])
  intro x
  induction x with
  | zero =>
    intro k hk r hr
    obtain rfl : k = m := by omega
    have hrc : r ≤ c := by rw [hr]; exact Nat.div_le_self _ _
    have e9 : dig c k = r % 6 := by rw [hr]; rfl
    rw [r163_5, e9]
    simp (disch := omega) only [r163_0, r163_1, r163_2, r163_3, r163_7, r163_8, r163_11, r163_12, r163_14, r163_15, r163_16, r163_19, r163_22, r163_23, r163_25, r163_26, Cn_n, Cn_v, Cn_x, dp_0, dp_1, dp_2, dp_3, dp_4, okv_n, okv_i, okv_r, eq_self, true_and, and_true, Option.some.injEq, exists_eq_left', rgT, ixT, ixU, ↓if_pos, ↓if_neg, Int.toNat_natCast, bT0, bT1, tm6, l06]
  | succ x ih =>
    intro k hk r hr
    have hrc : r ≤ c := by rw [hr]; exact Nat.div_le_self _ _
    rw [r163_5]
    simp (disch := omega) only [r163_0, r163_1, r163_2, r163_3, r163_7, r163_8, r163_11, r163_12, r163_14, r163_15, r163_16, r163_19, r163_22, r163_23, r163_25, r163_26, Cn_n, Cn_v, Cn_x, dp_0, dp_1, dp_2, dp_3, dp_4, okv_n, okv_i, okv_r, eq_self, true_and, and_true, Option.some.injEq, exists_eq_left', rgT, ixT, ixU, ↓if_pos, ↓if_neg, Int.toNat_natCast, bT0, bT1, td6, l06]
    exact ih (k + 1) (by omega) (r / 6) (by rw [hr, Nat.pow_succ, Nat.div_div_eq_div_mul])
theorem m_becomes (hA : A 49 = t) (hM : F 770 = M) (hM5 : M ≤ 5) (ht : TOK t) (hd : 1 ≤ d) (hd1 : d ≤ 100) {j s c : Nat} (hj : j < 5) (hs : s < 1024) (hc : c < 10000) : Ew 164 [vR 48, .inl (j : Int), .inl (s : Int), .inl (c : Int), .inl d] (mk A F q) Q ↔ Q (.inl (some (.inl (bec t d M j s c))), mk A F q) := by
  have e3 : (0 < d) = True := eq_true (by omega)
  have htA : TOK (A 49) := by rw [hA]; exact ht
  refine Ew_iff ⟨rc_164 g_48_0 rfl rfl rfl rfl, ?_⟩
  rw [lc_164]
  simp only [r164_0, r164_1, r164_3, r164_4, r164_6, r164_7, r164_9, r164_10, r164_14, r164_15, r164_18, r164_21, r164_22, r164_23, r164_26, r164_27, r164_28, r164_30, r164_31, r164_32, r164_33, r164_34, r164_35, r164_38, r164_39, r164_42, r164_43, r164_45, r164_47, r164_50, r164_51, r164_52, r164_54, r164_57, r164_59, r164_60, r164_63, r164_64, r164_65, r164_67, r164_70, r164_71, r164_74, r164_75, r164_76, r164_78, r164_80, r164_83, r164_85, r164_88, r164_89, r164_90, r164_92, r164_94, r164_96, r164_99, r164_100, r164_103, r164_104, r164_105, r164_107, r164_109, r164_111, r164_112, r164_114, r164_117, r164_120, r164_121, r164_122, r164_125, r164_126, r164_127, r164_129, r164_132, r164_134, r164_136, r164_139, r164_142, r164_144, r164_147, r164_148, Cn_n, Cn_v, Cn_x, dp_0, dp_1, dp_2, dp_3, dp_4, okv_n, okv_i, okv_r, eq_self, true_and, and_true, Option.some.injEq, exists_eq_left']
  suffices key : ∀ x m : Nat, m + x = M → okb t d M j s c m = true → ∀ a b p : Int, a = (thn M s c m : Nat) → b = mny M s m → p = (6 ^ m : Nat) → ∀ x9 : Option AV, Wp 164 12 [some (vR 48), some (.inl (j : Int)), some (.inl (s : Int)), some (.inl (c : Int)), some (.inl d), some (.inl a), some (.inl b), some (.inl p), some (.inl (m : Int)), x9] [] (mk A F q) (fun r => r = (.inl (some (.inl (bec t d M j s c))), mk A F q)) by
    exact key M 0 (by omega) rfl c 0 1 rfl rfl rfl none
  intro x
  induction x with
  | zero =>
    intro m hm hok a b p ha hb hp x9
    obtain rfl : m = M := by omega
    have bR := rowS_bd ht hM5 hj
    have bD := @dnr_bd m t d hd ht hM5 j hj
    have bN := @mny_bd m s m
    rw [← hb] at bN
    have e0 : bec t d m j s c = if mbb (rowS t m j) (dnr t d m j) b d = true then a else -1 := by
      unfold bec
      rw [← hb, ← ha]
      by_cases k : mbb (rowS t m j) (dnr t d m j) b d = true
      · rw [if_pos ⟨hok, k⟩, if_pos k]
      · rw [if_neg (fun z => k z.2), if_neg k]
    rw [r164_12]
    cases k : mbb (rowS t m j) (dnr t d m j) b d
    · rw [k, if_neg (by decide)] at e0
      simp (disch := omega) only [r164_0, r164_1, r164_3, r164_4, r164_6, r164_7, r164_9, r164_10, r164_14, r164_15, r164_18, r164_21, r164_22, r164_23, r164_26, r164_27, r164_28, r164_30, r164_31, r164_32, r164_33, r164_34, r164_35, r164_38, r164_39, r164_42, r164_43, r164_45, r164_47, r164_50, r164_51, r164_52, r164_54, r164_57, r164_59, r164_60, r164_63, r164_64, r164_65, r164_67, r164_70, r164_71, r164_74, r164_75, r164_76, r164_78, r164_80, r164_83, r164_85, r164_88, r164_89, r164_90, r164_92, r164_94, r164_96, r164_99, r164_100, r164_103, r164_104, r164_105, r164_107, r164_109, r164_111, r164_112, r164_114, r164_117, r164_120, r164_121, r164_122, r164_125, r164_126, r164_127, r164_129, r164_132, r164_134, r164_136, r164_139, r164_142, r164_144, r164_147, r164_148, Cn_n, Cn_v, Cn_x, dp_0, dp_1, dp_2, dp_3, dp_4, okv_n, okv_i, okv_r, eq_self, true_and, and_true, Option.some.injEq, exists_eq_left', rgT, ixT, ixU, ↓if_pos, ↓if_neg, Int.toNat_natCast, bT0, bT1, g_48_0, s_48_0, g_48_1, s_48_1, g_48_2, s_48_2, g_48_3, g_48_4, g_48_5, g_48_6, g_48_7, s_48_7, g_48_8, g_48_9, g_48_10, g_48_11, g_48_12, g_48_13, m_ofJob hM hM5, hA, m_downsJ hA hM hM5 ht hd hd1 hj, m_mayBe, k, bi_f, e0]
    · rw [k, if_pos rfl] at e0
      simp (disch := omega) only [r164_0, r164_1, r164_3, r164_4, r164_6, r164_7, r164_9, r164_10, r164_14, r164_15, r164_18, r164_21, r164_22, r164_23, r164_26, r164_27, r164_28, r164_30, r164_31, r164_32, r164_33, r164_34, r164_35, r164_38, r164_39, r164_42, r164_43, r164_45, r164_47, r164_50, r164_51, r164_52, r164_54, r164_57, r164_59, r164_60, r164_63, r164_64, r164_65, r164_67, r164_70, r164_71, r164_74, r164_75, r164_76, r164_78, r164_80, r164_83, r164_85, r164_88, r164_89, r164_90, r164_92, r164_94, r164_96, r164_99, r164_100, r164_103, r164_104, r164_105, r164_107, r164_109, r164_111, r164_112, r164_114, r164_117, r164_120, r164_121, r164_122, r164_125, r164_126, r164_127, r164_129, r164_132, r164_134, r164_136, r164_139, r164_142, r164_144, r164_147, r164_148, Cn_n, Cn_v, Cn_x, dp_0, dp_1, dp_2, dp_3, dp_4, okv_n, okv_i, okv_r, eq_self, true_and, and_true, Option.some.injEq, exists_eq_left', rgT, ixT, ixU, ↓if_pos, ↓if_neg, Int.toNat_natCast, bT0, bT1, g_48_0, s_48_0, g_48_1, s_48_1, g_48_2, s_48_2, g_48_3, g_48_4, g_48_5, g_48_6, g_48_7, s_48_7, g_48_8, g_48_9, g_48_10, g_48_11, g_48_12, g_48_13, m_ofJob hM hM5, hA, m_downsJ hA hM hM5 ht hd hd1 hj, m_mayBe, k, bi_t, e0]
  | succ x ih =>
    intro m hm hok a b p ha hb hp x9
    have eM : (M : Int) - 1 - (m : Int) = ((M - 1 - m : Nat) : Int) := by omega
    have sh := @shr_x s (M - 1 - m) hs (by omega)
    have b1 := ht (5 * j + m) (by omega)
    have em : (t (5 * j + m)).tmod d = t (5 * j + m) % d := Int.tmod_eq_emod_of_nonneg b1.1
    have eb := em_ge hd (t (5 * j + m))
    have dl := @dig_lt c m
    have hok1 : okb t d M j s c (m + 1) = (okb t d M j s c m && (!(bt M s m) || (decide (t (5 * j + m) % d ≠ 0) && decide (dig c m ≠ 5)))) := rfl
    have th1 : thn M s c (m + 1) = thn M s c m + (if bt M s m = true then 6 ^ m else 0) := rfl
    have mn1 : mny M s (m + 1) = mny M s m + bi (bt M s m) := rfl
    have hp1 : p * 6 = (6 ^ (m + 1) : Nat) := by rw [hp, Nat.pow_succ, Int.natCast_mul]; rfl
    have hbt2 : bt M s m = s.testBit (M - 1 - m) := rfl
    rw [hok, Bool.true_and] at hok1
    have hbad : okb t d M j s c (m + 1) = false → bec t d M j s c = -1 := by
      intro h
      unfold bec
      rw [if_neg]
      rintro ⟨h1, -⟩
      have h2 : okb t d M j s c (m + 1) = true := allb_iff.mpr (fun y hy => allb_iff.mp h1 y (by omega))
      rw [h] at h2
      cases h2
    rw [r164_12]
    cases hbt : s.testBit (M - 1 - m)
    · rw [hbt, bi_f] at sh
      rw [hbt] at hbt2
      rw [hbt2] at hok1 mn1
      rw [if_neg (by rw [hbt2]; decide)] at th1
      rw [bi_f] at mn1
      simp (disch := omega) only [r164_0, r164_1, r164_3, r164_4, r164_6, r164_7, r164_9, r164_10, r164_14, r164_15, r164_18, r164_21, r164_22, r164_23, r164_26, r164_27, r164_28, r164_30, r164_31, r164_32, r164_33, r164_34, r164_35, r164_38, r164_39, r164_42, r164_43, r164_45, r164_47, r164_50, r164_51, r164_52, r164_54, r164_57, r164_59, r164_60, r164_63, r164_64, r164_65, r164_67, r164_70, r164_71, r164_74, r164_75, r164_76, r164_78, r164_80, r164_83, r164_85, r164_88, r164_89, r164_90, r164_92, r164_94, r164_96, r164_99, r164_100, r164_103, r164_104, r164_105, r164_107, r164_109, r164_111, r164_112, r164_114, r164_117, r164_120, r164_121, r164_122, r164_125, r164_126, r164_127, r164_129, r164_132, r164_134, r164_136, r164_139, r164_142, r164_144, r164_147, r164_148, Cn_n, Cn_v, Cn_x, dp_0, dp_1, dp_2, dp_3, dp_4, okv_n, okv_i, okv_r, eq_self, true_and, and_true, Option.some.injEq, exists_eq_left', rgT, ixT, ixU, ↓if_pos, ↓if_neg, Int.toNat_natCast, bT0, bT1, g_48_0, s_48_0, g_48_1, s_48_1, g_48_2, s_48_2, g_48_3, g_48_4, g_48_5, g_48_6, g_48_7, s_48_7, g_48_8, g_48_9, g_48_10, g_48_11, g_48_12, g_48_13, hM, eM, sh]
      exact ih (m + 1) (by omega) hok1 _ _ _ (by omega) (by omega) hp1 _
    · rw [hbt, bi_t] at sh
      rw [hbt] at hbt2
      rw [hbt2] at hok1 mn1
      rw [if_pos hbt2] at th1
      rw [bi_t] at mn1
      simp only [Bool.not_true, Bool.false_or] at hok1
      by_cases c1 : t (5 * j + m) % d = 0
      · rw [decide_eq_false (fun h => h c1), Bool.false_and] at hok1
        have e0 := hbad hok1
        simp (disch := omega) only [r164_0, r164_1, r164_3, r164_4, r164_6, r164_7, r164_9, r164_10, r164_14, r164_15, r164_18, r164_21, r164_22, r164_23, r164_26, r164_27, r164_28, r164_30, r164_31, r164_32, r164_33, r164_34, r164_35, r164_38, r164_39, r164_42, r164_43, r164_45, r164_47, r164_50, r164_51, r164_52, r164_54, r164_57, r164_59, r164_60, r164_63, r164_64, r164_65, r164_67, r164_70, r164_71, r164_74, r164_75, r164_76, r164_78, r164_80, r164_83, r164_85, r164_88, r164_89, r164_90, r164_92, r164_94, r164_96, r164_99, r164_100, r164_103, r164_104, r164_105, r164_107, r164_109, r164_111, r164_112, r164_114, r164_117, r164_120, r164_121, r164_122, r164_125, r164_126, r164_127, r164_129, r164_132, r164_134, r164_136, r164_139, r164_142, r164_144, r164_147, r164_148, Cn_n, Cn_v, Cn_x, dp_0, dp_1, dp_2, dp_3, dp_4, okv_n, okv_i, okv_r, eq_self, true_and, and_true, Option.some.injEq, exists_eq_left', rgT, ixT, ixU, ↓if_pos, ↓if_neg, Int.toNat_natCast, bT0, bT1, g_48_0, s_48_0, g_48_1, s_48_1, g_48_2, s_48_2, g_48_3, g_48_4, g_48_5, g_48_6, g_48_7, s_48_7, g_48_8, g_48_9, g_48_10, g_48_11, g_48_12, g_48_13, hM, eM, sh, m_at, hA, em, e3, e0]
      · rw [decide_eq_true c1, Bool.true_and] at hok1
        by_cases c2 : dig c m = 5
        · rw [decide_eq_false (fun h => h c2)] at hok1
          have e0 := hbad hok1
          simp (disch := omega) only [r164_0, r164_1, r164_3, r164_4, r164_6, r164_7, r164_9, r164_10, r164_14, r164_15, r164_18, r164_21, r164_22, r164_23, r164_26, r164_27, r164_28, r164_30, r164_31, r164_32, r164_33, r164_34, r164_35, r164_38, r164_39, r164_42, r164_43, r164_45, r164_47, r164_50, r164_51, r164_52, r164_54, r164_57, r164_59, r164_60, r164_63, r164_64, r164_65, r164_67, r164_70, r164_71, r164_74, r164_75, r164_76, r164_78, r164_80, r164_83, r164_85, r164_88, r164_89, r164_90, r164_92, r164_94, r164_96, r164_99, r164_100, r164_103, r164_104, r164_105, r164_107, r164_109, r164_111, r164_112, r164_114, r164_117, r164_120, r164_121, r164_122, r164_125, r164_126, r164_127, r164_129, r164_132, r164_134, r164_136, r164_139, r164_142, r164_144, r164_147, r164_148, Cn_n, Cn_v, Cn_x, dp_0, dp_1, dp_2, dp_3, dp_4, okv_n, okv_i, okv_r, eq_self, true_and, and_true, Option.some.injEq, exists_eq_left', rgT, ixT, ixU, ↓if_pos, ↓if_neg, Int.toNat_natCast, bT0, bT1, g_48_0, s_48_0, g_48_1, s_48_1, g_48_2, s_48_2, g_48_3, g_48_4, g_48_5, g_48_6, g_48_7, s_48_7, g_48_8, g_48_9, g_48_10, g_48_11, g_48_12, g_48_13, hM, eM, sh, m_at, hA, em, e3, m_digit, e0]
        · rw [decide_eq_true c2] at hok1
          simp (disch := omega) only [r164_0, r164_1, r164_3, r164_4, r164_6, r164_7, r164_9, r164_10, r164_14, r164_15, r164_18, r164_21, r164_22, r164_23, r164_26, r164_27, r164_28, r164_30, r164_31, r164_32, r164_33, r164_34, r164_35, r164_38, r164_39, r164_42, r164_43, r164_45, r164_47, r164_50, r164_51, r164_52, r164_54, r164_57, r164_59, r164_60, r164_63, r164_64, r164_65, r164_67, r164_70, r164_71, r164_74, r164_75, r164_76, r164_78, r164_80, r164_83, r164_85, r164_88, r164_89, r164_90, r164_92, r164_94, r164_96, r164_99, r164_100, r164_103, r164_104, r164_105, r164_107, r164_109, r164_111, r164_112, r164_114, r164_117, r164_120, r164_121, r164_122, r164_125, r164_126, r164_127, r164_129, r164_132, r164_134, r164_136, r164_139, r164_142, r164_144, r164_147, r164_148, Cn_n, Cn_v, Cn_x, dp_0, dp_1, dp_2, dp_3, dp_4, okv_n, okv_i, okv_r, eq_self, true_and, and_true, Option.some.injEq, exists_eq_left', rgT, ixT, ixU, ↓if_pos, ↓if_neg, Int.toNat_natCast, bT0, bT1, g_48_0, s_48_0, g_48_1, s_48_1, g_48_2, s_48_2, g_48_3, g_48_4, g_48_5, g_48_6, g_48_7, s_48_7, g_48_8, g_48_9, g_48_10, g_48_11, g_48_12, g_48_13, hM, eM, sh, m_at, hA, em, e3, m_digit]
          exact ih (m + 1) (by omega) hok1 _ _ _ (by omega) (by omega) hp1 _
theorem m_areRight (hA : A 49 = t) (hJ : F 769 = J) (hM : F 770 = M) (hJ5 : J ≤ 5) (hM5 : M ≤ 5) (ht : TOK t) (hd : 1 ≤ d) (hd1 : d ≤ 100) {c : Nat} (hc : c < 10000) : Ew 165 [vR 48, .inl (c : Int), .inl d] (mk A F q) Q ↔ Q (.inl (some (.inl (bi (arr t d J M c)))), mk A F q) := by
  refine Ew_iff ⟨rc_165 g_48_0 rfl rfl, ?_⟩
  rw [lc_165]
  simp only [r165_0, r165_1, r165_2, r165_3, r165_5, r165_6, r165_8, r165_9, r165_13, r165_14, r165_17, r165_20, r165_21, r165_22, r165_24, r165_27, r165_29, r165_30, r165_33, r165_34, r165_36, r165_39, r165_40, r165_42, r165_43, r165_46, r165_48, r165_49, r165_52, r165_55, r165_56, r165_59, r165_60, r165_61, r165_63, r165_64, r165_66, r165_67, r165_70, r165_71, r165_73, r165_75, r165_77, r165_78, r165_80, r165_83, r165_86, r165_87, r165_90, r165_91, r165_94, r165_96, r165_98, r165_99, r165_102, r165_105, r165_106, r165_109, r165_110, Cn_n, Cn_v, Cn_x, dp_0, dp_1, dp_2, dp_3, dp_4, okv_n, okv_i, okv_r, eq_self, true_and, and_true, Option.some.injEq, exists_eq_left']
  suffices key : ∀ x m : Nat, m + x = M → ∀ w : Bool, w = allb (fun m => mbb (colS t J m) (dnc t d J m) (dig c m : Int) d) m → ∀ a b : Int, a = isum (dnc t d J) m → b = isum (fun m => (dig c m : Int)) m → ∀ x7 : Option AV, Wp 165 11 [some (vR 48), some (.inl (c : Int)), some (.inl d), some (.inl (bi w)), some (.inl a), some (.inl b), some (.inl (m : Int)), x7] [] (mk A F q) (fun r => r = (.inl (some (.inl (bi (arr t d J M c)))), mk A F q)) by
    exact key M 0 (by omega) true rfl 0 0 rfl rfl none
  intro x
  induction x with
  | zero =>
    intro m hm w hw a b ha hb x7
    obtain rfl : m = M := by omega
    have bA := allS_bd ht hJ5 hM5
    have b1 := isum_ge (f := dnc t d J) (n := m) (fun i hi => (dnc_bd hd ht hJ5 (by omega)).1)
    have b2 := isum_le (f := dnc t d J) (b := 495) (n := m) (fun i hi => (dnc_bd hd ht hJ5 (by omega)).2)
    have b3 := isum_ge (f := fun m => (dig c m : Int)) (n := m) (fun i hi => by omega)
    have b4 := isum_le (f := fun m => (dig c m : Int)) (b := 5) (n := m) (fun i hi => by have := @dig_lt c i; omega)
    have e0 : arr t d J m c = (w && mbb (allS t J m) a b d) := by rw [hw, ha, hb]; rfl
    rw [← ha] at b1 b2
    rw [← hb] at b3 b4
    rw [r165_11]
    cases w
    · rw [Bool.false_and] at e0
      rw [bi_f, e0, bi_f]
      simp (disch := omega) only [r165_0, r165_1, r165_2, r165_3, r165_5, r165_6, r165_8, r165_9, r165_13, r165_14, r165_17, r165_20, r165_21, r165_22, r165_24, r165_27, r165_29, r165_30, r165_33, r165_34, r165_36, r165_39, r165_40, r165_42, r165_43, r165_46, r165_48, r165_49, r165_52, r165_55, r165_56, r165_59, r165_60, r165_61, r165_63, r165_64, r165_66, r165_67, r165_70, r165_71, r165_73, r165_75, r165_77, r165_78, r165_80, r165_83, r165_86, r165_87, r165_90, r165_91, r165_94, r165_96, r165_98, r165_99, r165_102, r165_105, r165_106, r165_109, r165_110, Cn_n, Cn_v, Cn_x, dp_0, dp_1, dp_2, dp_3, dp_4, okv_n, okv_i, okv_r, eq_self, true_and, and_true, Option.some.injEq, exists_eq_left', rgT, ixT, ixU, ↓if_pos, ↓if_neg, Int.toNat_natCast, bT0, bT1, g_48_0, s_48_0, g_48_1, s_48_1, g_48_2, s_48_2, g_48_3, g_48_4, g_48_5, g_48_6, g_48_7, s_48_7, g_48_8, g_48_9, g_48_10, g_48_11, g_48_12, g_48_13]
    · rw [Bool.true_and] at e0
      rw [bi_t, e0]
      cases k : mbb (allS t J m) a b d
      · simp (disch := omega) only [r165_0, r165_1, r165_2, r165_3, r165_5, r165_6, r165_8, r165_9, r165_13, r165_14, r165_17, r165_20, r165_21, r165_22, r165_24, r165_27, r165_29, r165_30, r165_33, r165_34, r165_36, r165_39, r165_40, r165_42, r165_43, r165_46, r165_48, r165_49, r165_52, r165_55, r165_56, r165_59, r165_60, r165_61, r165_63, r165_64, r165_66, r165_67, r165_70, r165_71, r165_73, r165_75, r165_77, r165_78, r165_80, r165_83, r165_86, r165_87, r165_90, r165_91, r165_94, r165_96, r165_98, r165_99, r165_102, r165_105, r165_106, r165_109, r165_110, Cn_n, Cn_v, Cn_x, dp_0, dp_1, dp_2, dp_3, dp_4, okv_n, okv_i, okv_r, eq_self, true_and, and_true, Option.some.injEq, exists_eq_left', rgT, ixT, ixU, ↓if_pos, ↓if_neg, Int.toNat_natCast, bT0, bT1, g_48_0, s_48_0, g_48_1, s_48_1, g_48_2, s_48_2, g_48_3, g_48_4, g_48_5, g_48_6, g_48_7, s_48_7, g_48_8, g_48_9, g_48_10, g_48_11, g_48_12, g_48_13, m_all hJ hM hJ5 hM5, hA, m_mayBe, k, bi_f]
      · simp (disch := omega) only [r165_0, r165_1, r165_2, r165_3, r165_5, r165_6, r165_8, r165_9, r165_13, r165_14, r165_17, r165_20, r165_21, r165_22, r165_24, r165_27, r165_29, r165_30, r165_33, r165_34, r165_36, r165_39, r165_40, r165_42, r165_43, r165_46, r165_48, r165_49, r165_52, r165_55, r165_56, r165_59, r165_60, r165_61, r165_63, r165_64, r165_66, r165_67, r165_70, r165_71, r165_73, r165_75, r165_77, r165_78, r165_80, r165_83, r165_86, r165_87, r165_90, r165_91, r165_94, r165_96, r165_98, r165_99, r165_102, r165_105, r165_106, r165_109, r165_110, Cn_n, Cn_v, Cn_x, dp_0, dp_1, dp_2, dp_3, dp_4, okv_n, okv_i, okv_r, eq_self, true_and, and_true, Option.some.injEq, exists_eq_left', rgT, ixT, ixU, ↓if_pos, ↓if_neg, Int.toNat_natCast, bT0, bT1, g_48_0, s_48_0, g_48_1, s_48_1, g_48_2, s_48_2, g_48_3, g_48_4, g_48_5, g_48_6, g_48_7, s_48_7, g_48_8, g_48_9, g_48_10, g_48_11, g_48_12, g_48_13, m_all hJ hM hJ5 hM5, hA, m_mayBe, k, bi_t]
  | succ x ih =>
    intro m hm w hw a b ha hb x7
    have bC := colS_bd ht hJ5 (show m < 5 by omega)
    have bD := @dnc_bd J t d hd ht hJ5 m (by omega)
    have dl := @dig_lt c m
    have ihm := fun w h => ih (m + 1) (by omega) w h (a + dnc t d J m) (b + (dig c m : Int)) (by rw [ha]; rfl) (by rw [hb]; rfl) (some (.inl (dig c m : Int)))
    simp only [allb] at ihm
    rw [← hw] at ihm
    rw [r165_11]
    cases w
    · have g := ihm false (by rw [Bool.false_and])
      rw [bi_f] at g ⊢
      simp (disch := omega) only [r165_0, r165_1, r165_2, r165_3, r165_5, r165_6, r165_8, r165_9, r165_13, r165_14, r165_17, r165_20, r165_21, r165_22, r165_24, r165_27, r165_29, r165_30, r165_33, r165_34, r165_36, r165_39, r165_40, r165_42, r165_43, r165_46, r165_48, r165_49, r165_52, r165_55, r165_56, r165_59, r165_60, r165_61, r165_63, r165_64, r165_66, r165_67, r165_70, r165_71, r165_73, r165_75, r165_77, r165_78, r165_80, r165_83, r165_86, r165_87, r165_90, r165_91, r165_94, r165_96, r165_98, r165_99, r165_102, r165_105, r165_106, r165_109, r165_110, Cn_n, Cn_v, Cn_x, dp_0, dp_1, dp_2, dp_3, dp_4, okv_n, okv_i, okv_r, eq_self, true_and, and_true, Option.some.injEq, exists_eq_left', rgT, ixT, ixU, ↓if_pos, ↓if_neg, Int.toNat_natCast, bT0, bT1, g_48_0, s_48_0, g_48_1, s_48_1, g_48_2, s_48_2, g_48_3, g_48_4, g_48_5, g_48_6, g_48_7, s_48_7, g_48_8, g_48_9, g_48_10, g_48_11, g_48_12, g_48_13, m_digit, m_downsM hA hJ hJ5 ht hd hd1 (show m < 5 by omega)]
      exact g
    · cases k : mbb (colS t J m) (dnc t d J m) (dig c m : Int) d
      · have g := ihm false (by rw [Bool.true_and, k])
        rw [bi_f] at g
        rw [bi_t]
        simp (disch := omega) only [r165_0, r165_1, r165_2, r165_3, r165_5, r165_6, r165_8, r165_9, r165_13, r165_14, r165_17, r165_20, r165_21, r165_22, r165_24, r165_27, r165_29, r165_30, r165_33, r165_34, r165_36, r165_39, r165_40, r165_42, r165_43, r165_46, r165_48, r165_49, r165_52, r165_55, r165_56, r165_59, r165_60, r165_61, r165_63, r165_64, r165_66, r165_67, r165_70, r165_71, r165_73, r165_75, r165_77, r165_78, r165_80, r165_83, r165_86, r165_87, r165_90, r165_91, r165_94, r165_96, r165_98, r165_99, r165_102, r165_105, r165_106, r165_109, r165_110, Cn_n, Cn_v, Cn_x, dp_0, dp_1, dp_2, dp_3, dp_4, okv_n, okv_i, okv_r, eq_self, true_and, and_true, Option.some.injEq, exists_eq_left', rgT, ixT, ixU, ↓if_pos, ↓if_neg, Int.toNat_natCast, bT0, bT1, g_48_0, s_48_0, g_48_1, s_48_1, g_48_2, s_48_2, g_48_3, g_48_4, g_48_5, g_48_6, g_48_7, s_48_7, g_48_8, g_48_9, g_48_10, g_48_11, g_48_12, g_48_13, m_digit, m_ofMac hJ hJ5, hA, m_downsM hA hJ hJ5 ht hd hd1 (show m < 5 by omega), m_mayBe, k, bi_f]
        exact g
      · have g := ihm true (by rw [Bool.true_and, k])
        rw [bi_t] at g ⊢
        simp (disch := omega) only [r165_0, r165_1, r165_2, r165_3, r165_5, r165_6, r165_8, r165_9, r165_13, r165_14, r165_17, r165_20, r165_21, r165_22, r165_24, r165_27, r165_29, r165_30, r165_33, r165_34, r165_36, r165_39, r165_40, r165_42, r165_43, r165_46, r165_48, r165_49, r165_52, r165_55, r165_56, r165_59, r165_60, r165_61, r165_63, r165_64, r165_66, r165_67, r165_70, r165_71, r165_73, r165_75, r165_77, r165_78, r165_80, r165_83, r165_86, r165_87, r165_90, r165_91, r165_94, r165_96, r165_98, r165_99, r165_102, r165_105, r165_106, r165_109, r165_110, Cn_n, Cn_v, Cn_x, dp_0, dp_1, dp_2, dp_3, dp_4, okv_n, okv_i, okv_r, eq_self, true_and, and_true, Option.some.injEq, exists_eq_left', rgT, ixT, ixU, ↓if_pos, ↓if_neg, Int.toNat_natCast, bT0, bT1, g_48_0, s_48_0, g_48_1, s_48_1, g_48_2, s_48_2, g_48_3, g_48_4, g_48_5, g_48_6, g_48_7, s_48_7, g_48_8, g_48_9, g_48_10, g_48_11, g_48_12, g_48_13, m_digit, m_ofMac hJ hJ5, hA, m_downsM hA hJ hJ5 ht hd hd1 (show m < 5 by omega), m_mayBe, k, bi_t]
        exact g
theorem m_countings (hM : F 770 = M) (hM5 : M ≤ 5) : Ew 166 [vR 48] (mk A F q) Q ↔ Q (.inl (some (.inl ((6 ^ M : Nat) : Int))), mk A F q) := by
  refine Ew_iff ⟨rc_166 g_48_0, ?_⟩
  rw [lc_166]
  simp only [r166_0, r166_1, r166_2, r166_3, r166_5, r166_6, r166_9, r166_12, r166_13, r166_15, r166_16, r166_17, r166_20, r166_23, r166_24, Cn_n, Cn_v, Cn_x, dp_0, dp_1, dp_2, dp_3, dp_4, okv_n, okv_i, okv_r, eq_self, true_and, and_true, Option.some.injEq, exists_eq_left']
  suffices key : ∀ x m : Nat, m + x = M → ∀ a : Int, a = (6 ^ m : Nat) → Wp 166 4 [some (vR 48), some (.inl a), some (.inl (m : Int))] [] (mk A F q) (fun r => r = (.inl (some (.inl ((6 ^ M : Nat) : Int))), mk A F q)) by
    exact key M 0 (by omega) 1 rfl
  intro x
  induction x with
  | zero =>
    intro m hm a ha
    obtain rfl : m = M := by omega
    rw [r166_4, ← ha]
    simp (disch := omega) only [r166_0, r166_1, r166_2, r166_3, r166_5, r166_6, r166_9, r166_12, r166_13, r166_15, r166_16, r166_17, r166_20, r166_23, r166_24, Cn_n, Cn_v, Cn_x, dp_0, dp_1, dp_2, dp_3, dp_4, okv_n, okv_i, okv_r, eq_self, true_and, and_true, Option.some.injEq, exists_eq_left', rgT, ixT, ixU, ↓if_pos, ↓if_neg, Int.toNat_natCast, bT0, bT1, g_48_0, s_48_0, g_48_1, s_48_1, g_48_2, s_48_2, g_48_3, g_48_4, g_48_5, g_48_6, g_48_7, s_48_7, g_48_8, g_48_9, g_48_10, g_48_11, g_48_12, g_48_13]
  | succ x ih =>
    intro m hm a ha
    rw [r166_4]
    simp (disch := omega) only [r166_0, r166_1, r166_2, r166_3, r166_5, r166_6, r166_9, r166_12, r166_13, r166_15, r166_16, r166_17, r166_20, r166_23, r166_24, Cn_n, Cn_v, Cn_x, dp_0, dp_1, dp_2, dp_3, dp_4, okv_n, okv_i, okv_r, eq_self, true_and, and_true, Option.some.injEq, exists_eq_left', rgT, ixT, ixU, ↓if_pos, ↓if_neg, Int.toNat_natCast, bT0, bT1, g_48_0, s_48_0, g_48_1, s_48_1, g_48_2, s_48_2, g_48_3, g_48_4, g_48_5, g_48_6, g_48_7, s_48_7, g_48_8, g_48_9, g_48_10, g_48_11, g_48_12, g_48_13]
    exact ih (m + 1) (by omega) _ (by rw [ha, Nat.pow_succ, Int.natCast_mul]; rfl)
theorem m_areCounts {c k : Nat} (hM : F 770 = M) (hM5 : M ≤ 5) (hc : c < 10000) (hk : k ≤ 100) : Ew 167 [vR 48, .inl (c : Int), .inl (k : Int)] (mk A F q) Q ↔ Q (.inl (some (.inl (bi (allb (fun m => decide (dig c m ≤ k)) M)))), mk A F q) := by
  refine Ew_iff ⟨rc_167 g_48_0 rfl rfl, ?_⟩
  rw [lc_167]
  simp only [r167_0, r167_1, r167_2, r167_3, r167_7, r167_8, r167_11, r167_14, r167_15, r167_18, r167_19, r167_20, r167_22, r167_25, r167_26, r167_29, r167_30, r167_33, r167_34, r167_35, r167_38, r167_41, r167_42, Cn_n, Cn_v, Cn_x, dp_0, dp_1, dp_2, dp_3, dp_4, okv_n, okv_i, okv_r, eq_self, true_and, and_true, Option.some.injEq, exists_eq_left']
  suffices key : ∀ x m : Nat, m + x = M → ∀ w : Bool, w = allb (fun m => decide (dig c m ≤ k)) m → Wp 167 5 [some (vR 48), some (.inl (c : Int)), some (.inl (k : Int)), some (.inl (bi w)), some (.inl (m : Int))] [] (mk A F q) (fun r => r = (.inl (some (.inl (bi (allb (fun m => decide (dig c m ≤ k)) M)))), mk A F q)) by
    exact key M 0 (by omega) true rfl
  intro x
  induction x with
  | zero =>
    intro m hm w hw
    obtain rfl : m = M := by omega
    rw [r167_5, ← hw]
    simp (disch := omega) only [r167_0, r167_1, r167_2, r167_3, r167_7, r167_8, r167_11, r167_14, r167_15, r167_18, r167_19, r167_20, r167_22, r167_25, r167_26, r167_29, r167_30, r167_33, r167_34, r167_35, r167_38, r167_41, r167_42, Cn_n, Cn_v, Cn_x, dp_0, dp_1, dp_2, dp_3, dp_4, okv_n, okv_i, okv_r, eq_self, true_and, and_true, Option.some.injEq, exists_eq_left', rgT, ixT, ixU, ↓if_pos, ↓if_neg, Int.toNat_natCast, bT0, bT1, g_48_0, s_48_0, g_48_1, s_48_1, g_48_2, s_48_2, g_48_3, g_48_4, g_48_5, g_48_6, g_48_7, s_48_7, g_48_8, g_48_9, g_48_10, g_48_11, g_48_12, g_48_13, bTb]
  | succ x ih =>
    intro m hm w hw
    have dl := @dig_lt c m
    have ihm := ih (m + 1) (by omega)
    simp only [allb] at ihm
    rw [← hw] at ihm
    rw [r167_5]
    cases w
    · have g := ihm false (by rw [Bool.false_and])
      rw [bi_f] at g ⊢
      simp (disch := omega) only [r167_0, r167_1, r167_2, r167_3, r167_7, r167_8, r167_11, r167_14, r167_15, r167_18, r167_19, r167_20, r167_22, r167_25, r167_26, r167_29, r167_30, r167_33, r167_34, r167_35, r167_38, r167_41, r167_42, Cn_n, Cn_v, Cn_x, dp_0, dp_1, dp_2, dp_3, dp_4, okv_n, okv_i, okv_r, eq_self, true_and, and_true, Option.some.injEq, exists_eq_left', rgT, ixT, ixU, ↓if_pos, ↓if_neg, Int.toNat_natCast, bT0, bT1, g_48_0, s_48_0, g_48_1, s_48_1, g_48_2, s_48_2, g_48_3, g_48_4, g_48_5, g_48_6, g_48_7, s_48_7, g_48_8, g_48_9, g_48_10, g_48_11, g_48_12, g_48_13]
      exact g
    · by_cases k1 : dig c m ≤ k
      · have g := ihm true (by rw [Bool.true_and, decide_eq_true k1])
        rw [bi_t] at g ⊢
        simp (disch := omega) only [r167_0, r167_1, r167_2, r167_3, r167_7, r167_8, r167_11, r167_14, r167_15, r167_18, r167_19, r167_20, r167_22, r167_25, r167_26, r167_29, r167_30, r167_33, r167_34, r167_35, r167_38, r167_41, r167_42, Cn_n, Cn_v, Cn_x, dp_0, dp_1, dp_2, dp_3, dp_4, okv_n, okv_i, okv_r, eq_self, true_and, and_true, Option.some.injEq, exists_eq_left', rgT, ixT, ixU, ↓if_pos, ↓if_neg, Int.toNat_natCast, bT0, bT1, g_48_0, s_48_0, g_48_1, s_48_1, g_48_2, s_48_2, g_48_3, g_48_4, g_48_5, g_48_6, g_48_7, s_48_7, g_48_8, g_48_9, g_48_10, g_48_11, g_48_12, g_48_13, m_digit]
        exact g
      · have g := ihm false (by rw [Bool.true_and, decide_eq_false k1])
        rw [bi_f] at g
        rw [bi_t]
        simp (disch := omega) only [r167_0, r167_1, r167_2, r167_3, r167_7, r167_8, r167_11, r167_14, r167_15, r167_18, r167_19, r167_20, r167_22, r167_25, r167_26, r167_29, r167_30, r167_33, r167_34, r167_35, r167_38, r167_41, r167_42, Cn_n, Cn_v, Cn_x, dp_0, dp_1, dp_2, dp_3, dp_4, okv_n, okv_i, okv_r, eq_self, true_and, and_true, Option.some.injEq, exists_eq_left', rgT, ixT, ixU, ↓if_pos, ↓if_neg, Int.toNat_natCast, bT0, bT1, g_48_0, s_48_0, g_48_1, s_48_1, g_48_2, s_48_2, g_48_3, g_48_4, g_48_5, g_48_6, g_48_7, s_48_7, g_48_8, g_48_9, g_48_10, g_48_11, g_48_12, g_48_13, m_digit]
        exact g
end MRM
