/-! the shop's face over its rounding -/
section RFACE
variable {A : Nat → Nat → Int} {F : Nat → Int} {q : List Int × Nat} {Q : AR → Prop} {J M : Nat} {R rf qu dn up : Nat → Int} {d v i j : Int}
theorem re_entry (h0 : 0 ≤ i) (h1 : i < 5) (h2 : 0 ≤ j) (h3 : j < 5) : Ew 35 [vR 36, .inl i, .inl j] (mk (hnb (hrd A dn up) R rf qu) F q) Q ↔ Q (.inl (some (.inl (dn (5 * i.toNat + j.toNat) + up (5 * i.toNat + j.toNat)))), mk (hnb (hrd A dn up) R rf qu) F q) := by
  unfold Ew
  rw [rc_35 g_36_0 rfl rfl, lc_35]
  simp (disch := omega) only [r35_0, r35_1, r35_4, r35_5, r35_6, r35_9, r35_10, r35_13, r35_14, r35_15, r35_18, r35_19, Cn_n, Cn_v, Cn_x, dp_0, dp_1, dp_2, dp_3, dp_4, okv_n, okv_i, okv_r, eq_self, true_and, and_true, Option.some.injEq, exists_eq_left', rgT, ixT, ixU, ↓if_pos, ↓if_neg, Int.toNat_natCast, bT0, bT1, g_36_0, g_36_1, g_36_2, g_36_3, s_36_3, g_36_4, s_36_4, g_36_5, s_36_5, g_36_6, s_36_6, g_36_7, s_36_7, gget_44, gget_46, hr_45, hr_47]
theorem re_sum : Ew 36 [vR 36] (mk (hnb (hrd A dn up) R rf qu) F q) Q ↔ Q (.inl (some (.inl (isum (fun j => isum (fun m => dn (5 * j + m) + up (5 * j + m)) 5) 5))), mk (hnb (hrd A dn up) R rf qu) F q) := by
  refine Ew_iff ⟨rc_36 g_36_0, ?_⟩
  rw [lc_36]
  simp only [r36_0, r36_1, r36_2, r36_3, r36_5, r36_6, r36_9, r36_10, r36_12, r36_13, r36_16, r36_17, r36_18, r36_19, r36_20, r36_23, r36_24, r36_25, r36_28, r36_31, r36_34, r36_37, r36_38, Cn_n, Cn_v, Cn_x, dp_0, dp_1, dp_2, dp_3, dp_4, okv_n, okv_i, okv_r, eq_self, true_and, and_true, Option.some.injEq, exists_eq_left']
  suffices key : ∀ x j : Nat, j + x = 5 → ∀ a : Int, a = isum (fun j => isum (fun m => dn (5 * j + m) + up (5 * j + m)) 5) j → ∀ x3 : Option AV, Wp 36 4 [some (vR 36), some (.inl a), some (.inl (j : Int)), x3] [] (mk (hnb (hrd A dn up) R rf qu) F q) (fun r => r = (.inl (some (.inl (isum (fun j => isum (fun m => dn (5 * j + m) + up (5 * j + m)) 5) 5))), mk (hnb (hrd A dn up) R rf qu) F q)) by
    exact key 5 0 rfl 0 rfl none
  intro x
  induction x with
  | zero =>
    intro j hj a ha x3
    obtain rfl : j = 5 := by omega
    rw [← ha, r36_4]
    simp (disch := omega) only [r36_0, r36_1, r36_2, r36_3, r36_5, r36_6, r36_9, r36_10, r36_12, r36_13, r36_16, r36_17, r36_18, r36_19, r36_20, r36_23, r36_24, r36_25, r36_28, r36_31, r36_34, r36_37, r36_38, Cn_n, Cn_v, Cn_x, dp_0, dp_1, dp_2, dp_3, dp_4, okv_n, okv_i, okv_r, eq_self, true_and, and_true, Option.some.injEq, exists_eq_left', rgT, ixT, ixU, ↓if_pos, ↓if_neg, Int.toNat_natCast, bT0, bT1]
  | succ x ih =>
    intro j hj a ha x3
    rw [r36_4]
    simp (disch := omega) only [r36_0, r36_1, r36_2, r36_3, r36_5, r36_6, r36_9, r36_10, r36_12, r36_13, r36_16, r36_17, r36_18, r36_19, r36_20, r36_23, r36_24, r36_25, r36_28, r36_31, r36_34, r36_37, r36_38, Cn_n, Cn_v, Cn_x, dp_0, dp_1, dp_2, dp_3, dp_4, okv_n, okv_i, okv_r, eq_self, true_and, and_true, Option.some.injEq, exists_eq_left', rgT, ixT, ixU, ↓if_pos, ↓if_neg, Int.toNat_natCast, bT0, bT1]
    suffices key2 : ∀ x m : Nat, m + x = 5 → ∀ b : Int, b = a + isum (fun m => dn (5 * j + m) + up (5 * j + m)) m → Wp 36 11 [some (vR 36), some (.inl b), some (.inl (j : Int)), some (.inl (m : Int))] [] (mk (hnb (hrd A dn up) R rf qu) F q) (fun r => r = (.inl (some (.inl (isum (fun j => isum (fun m => dn (5 * j + m) + up (5 * j + m)) 5) 5))), mk (hnb (hrd A dn up) R rf qu) F q)) by
      exact key2 5 0 rfl a (by simp only [isum, Int.add_zero])
    intro x2
    induction x2 with
    | zero =>
      intro m hm b hb
      obtain rfl : m = 5 := by omega
      rw [r36_11]
      simp (disch := omega) only [r36_0, r36_1, r36_2, r36_3, r36_5, r36_6, r36_9, r36_10, r36_12, r36_13, r36_16, r36_17, r36_18, r36_19, r36_20, r36_23, r36_24, r36_25, r36_28, r36_31, r36_34, r36_37, r36_38, Cn_n, Cn_v, Cn_x, dp_0, dp_1, dp_2, dp_3, dp_4, okv_n, okv_i, okv_r, eq_self, true_and, and_true, Option.some.injEq, exists_eq_left', rgT, ixT, ixU, ↓if_pos, ↓if_neg, Int.toNat_natCast, bT0, bT1]
      exact ih (j + 1) (by omega) b (by rw [hb, ha]; rfl) _
    | succ x2 ih2 =>
      intro m hm b hb
      rw [r36_11]
      simp (disch := omega) only [r36_0, r36_1, r36_2, r36_3, r36_5, r36_6, r36_9, r36_10, r36_12, r36_13, r36_16, r36_17, r36_18, r36_19, r36_20, r36_23, r36_24, r36_25, r36_28, r36_31, r36_34, r36_37, r36_38, Cn_n, Cn_v, Cn_x, dp_0, dp_1, dp_2, dp_3, dp_4, okv_n, okv_i, okv_r, eq_self, true_and, and_true, Option.some.injEq, exists_eq_left', rgT, ixT, ixU, ↓if_pos, ↓if_neg, Int.toNat_natCast, bT0, bT1, re_entry]
      exact ih2 (m + 1) (by omega) _ (by rw [hb, Int.add_assoc]; rfl)
theorem re_up : Ew 37 [vR 36] (mk (hnb (hrd A dn up) R rf qu) F q) Q ↔ Q (.inl (some (.inl (isum (fun j => isum (fun m => up (5 * j + m)) 5) 5))), mk (hnb (hrd A dn up) R rf qu) F q) := by
  refine Ew_iff ⟨rc_37 g_36_0, ?_⟩
  rw [lc_37]
  simp only [r37_0, r37_1, r37_2, r37_3, r37_5, r37_6, r37_9, r37_10, r37_12, r37_13, r37_16, r37_17, r37_18, r37_21, r37_22, r37_23, r37_26, r37_27, r37_28, r37_31, r37_34, r37_37, r37_40, r37_41, Cn_n, Cn_v, Cn_x, dp_0, dp_1, dp_2, dp_3, dp_4, okv_n, okv_i, okv_r, eq_self, true_and, and_true, Option.some.injEq, exists_eq_left']
  suffices key : ∀ x j : Nat, j + x = 5 → ∀ a : Int, a = isum (fun j => isum (fun m => up (5 * j + m)) 5) j → ∀ x3 : Option AV, Wp 37 4 [some (vR 36), some (.inl a), some (.inl (j : Int)), x3] [] (mk (hnb (hrd A dn up) R rf qu) F q) (fun r => r = (.inl (some (.inl (isum (fun j => isum (fun m => up (5 * j + m)) 5) 5))), mk (hnb (hrd A dn up) R rf qu) F q)) by
    exact key 5 0 rfl 0 rfl none
  intro x
  induction x with
  | zero =>
    intro j hj a ha x3
    obtain rfl : j = 5 := by omega
    rw [← ha, r37_4]
    simp (disch := omega) only [r37_0, r37_1, r37_2, r37_3, r37_5, r37_6, r37_9, r37_10, r37_12, r37_13, r37_16, r37_17, r37_18, r37_21, r37_22, r37_23, r37_26, r37_27, r37_28, r37_31, r37_34, r37_37, r37_40, r37_41, Cn_n, Cn_v, Cn_x, dp_0, dp_1, dp_2, dp_3, dp_4, okv_n, okv_i, okv_r, eq_self, true_and, and_true, Option.some.injEq, exists_eq_left', rgT, ixT, ixU, ↓if_pos, ↓if_neg, Int.toNat_natCast, bT0, bT1]
  | succ x ih =>
    intro j hj a ha x3
    rw [r37_4]
    simp (disch := omega) only [r37_0, r37_1, r37_2, r37_3, r37_5, r37_6, r37_9, r37_10, r37_12, r37_13, r37_16, r37_17, r37_18, r37_21, r37_22, r37_23, r37_26, r37_27, r37_28, r37_31, r37_34, r37_37, r37_40, r37_41, Cn_n, Cn_v, Cn_x, dp_0, dp_1, dp_2, dp_3, dp_4, okv_n, okv_i, okv_r, eq_self, true_and, and_true, Option.some.injEq, exists_eq_left', rgT, ixT, ixU, ↓if_pos, ↓if_neg, Int.toNat_natCast, bT0, bT1]
    suffices key2 : ∀ x m : Nat, m + x = 5 → ∀ b : Int, b = a + isum (fun m => up (5 * j + m)) m → Wp 37 11 [some (vR 36), some (.inl b), some (.inl (j : Int)), some (.inl (m : Int))] [] (mk (hnb (hrd A dn up) R rf qu) F q) (fun r => r = (.inl (some (.inl (isum (fun j => isum (fun m => up (5 * j + m)) 5) 5))), mk (hnb (hrd A dn up) R rf qu) F q)) by
      exact key2 5 0 rfl a (by simp only [isum, Int.add_zero])
    intro x2
    induction x2 with
    | zero =>
      intro m hm b hb
      obtain rfl : m = 5 := by omega
      rw [r37_11]
      simp (disch := omega) only [r37_0, r37_1, r37_2, r37_3, r37_5, r37_6, r37_9, r37_10, r37_12, r37_13, r37_16, r37_17, r37_18, r37_21, r37_22, r37_23, r37_26, r37_27, r37_28, r37_31, r37_34, r37_37, r37_40, r37_41, Cn_n, Cn_v, Cn_x, dp_0, dp_1, dp_2, dp_3, dp_4, okv_n, okv_i, okv_r, eq_self, true_and, and_true, Option.some.injEq, exists_eq_left', rgT, ixT, ixU, ↓if_pos, ↓if_neg, Int.toNat_natCast, bT0, bT1]
      exact ih (j + 1) (by omega) b (by rw [hb, ha]; rfl) _
    | succ x2 ih2 =>
      intro m hm b hb
      rw [r37_11]
      simp (disch := omega) only [r37_0, r37_1, r37_2, r37_3, r37_5, r37_6, r37_9, r37_10, r37_12, r37_13, r37_16, r37_17, r37_18, r37_21, r37_22, r37_23, r37_26, r37_27, r37_28, r37_31, r37_34, r37_37, r37_40, r37_41, Cn_n, Cn_v, Cn_x, dp_0, dp_1, dp_2, dp_3, dp_4, okv_n, okv_i, okv_r, eq_self, true_and, and_true, Option.some.injEq, exists_eq_left', rgT, ixT, ixU, ↓if_pos, ↓if_neg, Int.toNat_natCast, bT0, bT1, g_36_0, g_36_1, g_36_2, g_36_3, s_36_3, g_36_4, s_36_4, g_36_5, s_36_5, g_36_6, s_36_6, g_36_7, s_36_7, gget_46, hr_47]
      exact ih2 (m + 1) (by omega) _ (by rw [hb, Int.add_assoc]; rfl)
theorem hr_sar : SAR A (hnb (hrd A dn up) R rf qu) := by
  intro k h1 h2 h3 h4 h5
  rw [hb_n h1 h2 h3]
  unfold hrd
  rw [ua_n h5, ua_n h4]
theorem o_rounded (hJ : F 17 = J) (hM : F 18 = M) (hJ5 : J ≤ 5) (hM5 : M ≤ 5) (ht : TOK (A 3)) (h0 : 0 ≤ i) (h1 : i < J) (h2 : 0 ≤ j) (h3 : j < M) (hd : 1 ≤ d) (hd1 : d ≤ 100)
    (hQ : ∀ A1 F1 U, SAR A A1 → SFR F F1 → RDG (A 3) d J M U → Q (.inl (some (.inl (dq (A 3) d i.toNat j.toNat + U i.toNat j.toNat))), mk A1 F1 q)) : Ew 102 [vR 0, .inl i, .inl j, .inl d] (mk A F q) Q := by
  refine ⟨rc_102 g_0_0 rfl rfl rfl, ?_⟩
  rw [lc_102]
  obtain ⟨x, rfl⟩ : ∃ x : Nat, i = x := ⟨i.toNat, by omega⟩
  obtain ⟨y, rfl⟩ : ∃ y : Nat, j = y := ⟨j.toNat, by omega⟩
  simp only [Int.toNat_natCast] at hQ
  simp (disch := omega) only [r102_0, r102_1, r102_2, r102_5, r102_6, r102_7, r102_10, r102_11, r102_12, r102_14, r102_17, r102_18, r102_21, r102_22, r102_25, r102_26, r102_29, r102_30, r102_33, r102_34, r102_35, r102_38, Cn_n, Cn_v, Cn_x, dp_0, dp_1, dp_2, dp_3, dp_4, okv_n, okv_i, okv_r, eq_self, true_and, and_true, Option.some.injEq, exists_eq_left', rgT, ixT, ixU, ↓if_pos, ↓if_neg, Int.toNat_natCast, bT0, bT1, g_0_0, g_0_1, g_0_2, g_0_3, g_0_4, n_job hJ hJ5, n_mac hM hM5, n_rg]
  refine rd_make hJ hM hJ5 hM5 ht hd hd1 (fun F1 R1 rf1 qu1 f g1 g2 g3 g4 => ?_)
  have e1 : rdp (A 3) d M J 0 (5 * x + y) = dq (A 3) d x y := rdp_at (by omega) (by omega) hM5
  simp (disch := omega) only [r102_0, r102_1, r102_2, r102_5, r102_6, r102_7, r102_10, r102_11, r102_12, r102_14, r102_17, r102_18, r102_21, r102_22, r102_25, r102_26, r102_29, r102_30, r102_33, r102_34, r102_35, r102_38, Cn_n, Cn_v, Cn_x, dp_0, dp_1, dp_2, dp_3, dp_4, okv_n, okv_i, okv_r, eq_self, true_and, and_true, Option.some.injEq, exists_eq_left', rgT, ixT, ixU, ↓if_pos, ↓if_neg, Int.toNat_natCast, bT0, bT1, g_0_0, g_0_1, g_0_2, g_0_3, g_0_4, re_entry, e1]
  exact hQ _ _ (fun j m => f (5 * j + m)) hr_sar g1 ⟨g2, fun j hj m hm u hu hp => g3 j hj m hm (by omega) u hu hp⟩
theorem o_roundedx (hJ : F 17 = J) (hM : F 18 = M) (hJ5 : J ≤ 5) (hM5 : M ≤ 5) (hi : rg i) (hj : rg j) (h0 : i < 0 ∨ J ≤ i ∨ j < 0 ∨ M ≤ j) : Ew 102 [vR 0, .inl i, .inl j, .inl d] (mk A F q) Q ↔ Q (.inr 0, mk A F (bp q)) := by
  unfold Ew
  rw [rc_102 g_0_0 rfl rfl rfl, lc_102]
  by_cases c1 : 0 ≤ i ∧ i < J
  · simp (disch := omega) only [r102_0, r102_1, r102_2, r102_5, r102_6, r102_7, r102_10, r102_11, r102_12, r102_14, r102_17, r102_18, r102_21, r102_22, r102_25, r102_26, r102_29, r102_30, r102_33, r102_34, r102_35, r102_38, Cn_n, Cn_v, Cn_x, dp_0, dp_1, dp_2, dp_3, dp_4, okv_n, okv_i, okv_r, eq_self, true_and, and_true, Option.some.injEq, exists_eq_left', rgT, ixT, ixU, ↓if_pos, ↓if_neg, Int.toNat_natCast, bT0, bT1, g_0_0, g_0_1, g_0_2, g_0_3, g_0_4, n_job hJ hJ5, n_macx hM hM5]
  · simp (disch := omega) only [r102_0, r102_1, r102_2, r102_5, r102_6, r102_7, r102_10, r102_11, r102_12, r102_14, r102_17, r102_18, r102_21, r102_22, r102_25, r102_26, r102_29, r102_30, r102_33, r102_34, r102_35, r102_38, Cn_n, Cn_v, Cn_x, dp_0, dp_1, dp_2, dp_3, dp_4, okv_n, okv_i, okv_r, eq_self, true_and, and_true, Option.some.injEq, exists_eq_left', rgT, ixT, ixU, ↓if_pos, ↓if_neg, Int.toNat_natCast, bT0, bT1, g_0_0, g_0_1, g_0_2, g_0_3, g_0_4, n_jobx hJ hJ5]
theorem o_roundedy (hJ : F 17 = J) (hM : F 18 = M) (hJ5 : J ≤ 5) (hM5 : M ≤ 5) (h0 : 0 ≤ i) (h1 : i < J) (h2 : 0 ≤ j) (h3 : j < M) (hd : rg d) (h4 : d < 1 ∨ 100 < d) : Ew 102 [vR 0, .inl i, .inl j, .inl d] (mk A F q) Q ↔ Q (.inr 1, mk A F (bp q)) := by
  unfold Ew
  rw [rc_102 g_0_0 rfl rfl rfl, lc_102]
  simp (disch := omega) only [r102_0, r102_1, r102_2, r102_5, r102_6, r102_7, r102_10, r102_11, r102_12, r102_14, r102_17, r102_18, r102_21, r102_22, r102_25, r102_26, r102_29, r102_30, r102_33, r102_34, r102_35, r102_38, Cn_n, Cn_v, Cn_x, dp_0, dp_1, dp_2, dp_3, dp_4, okv_n, okv_i, okv_r, eq_self, true_and, and_true, Option.some.injEq, exists_eq_left', rgT, ixT, ixU, ↓if_pos, ↓if_neg, Int.toNat_natCast, bT0, bT1, g_0_0, g_0_1, g_0_2, g_0_3, g_0_4, n_rgx, n_job hJ hJ5, n_mac hM hM5]
theorem o_roundedTotal (hJ : F 17 = J) (hM : F 18 = M) (hJ5 : J ≤ 5) (hM5 : M ≤ 5) (ht : TOK (A 3)) (hd : 1 ≤ d) (hd1 : d ≤ 100)
    (hQ : ∀ A1 F1 U, SAR A A1 → SFR F F1 → RDG (A 3) d J M U → Q (.inl (some (.inl (dna (A 3) d J M + isum (fun j => isum (U j) M) J))), mk A1 F1 q)) : Ew 103 [vR 0, .inl d] (mk A F q) Q := by
  refine ⟨rc_103 g_0_0 rfl, ?_⟩
  rw [lc_103]
  simp (disch := omega) only [r103_0, r103_1, r103_2, r103_4, r103_7, r103_8, r103_11, r103_12, r103_15, r103_16, r103_19, r103_20, r103_23, r103_26, Cn_n, Cn_v, Cn_x, dp_0, dp_1, dp_2, dp_3, dp_4, okv_n, okv_i, okv_r, eq_self, true_and, and_true, Option.some.injEq, exists_eq_left', rgT, ixT, ixU, ↓if_pos, ↓if_neg, Int.toNat_natCast, bT0, bT1, g_0_0, g_0_1, g_0_2, g_0_3, g_0_4, n_rg]
  refine rd_make hJ hM hJ5 hM5 ht hd hd1 (fun F1 R1 rf1 qu1 f g1 g2 g3 g4 => ?_)
  have e1 : isum (fun j => isum (fun m => rdp (A 3) d M J 0 (5 * j + m) + f (5 * j + m)) 5) 5 = dna (A 3) d J M + isum (fun j => isum (fun m => f (5 * j + m)) M) J := by
    rw [isum55 (g := fun j m => rdp (A 3) d M J 0 (5 * j + m) + f (5 * j + m)) hJ5 hM5 (fun j m hm h => by rw [rdp_z hm h, g4 j m hm h]; rfl)]
    unfold dna
    rw [← isum_add]
    refine isum_congr (fun j hj => ?_)
    unfold dnr
    rw [← isum_add]
    refine isum_congr (fun m hm => ?_)
    rw [rdp_at hj hm hM5]
  simp (disch := omega) only [r103_0, r103_1, r103_2, r103_4, r103_7, r103_8, r103_11, r103_12, r103_15, r103_16, r103_19, r103_20, r103_23, r103_26, Cn_n, Cn_v, Cn_x, dp_0, dp_1, dp_2, dp_3, dp_4, okv_n, okv_i, okv_r, eq_self, true_and, and_true, Option.some.injEq, exists_eq_left', rgT, ixT, ixU, ↓if_pos, ↓if_neg, Int.toNat_natCast, bT0, bT1, g_0_0, g_0_1, g_0_2, g_0_3, g_0_4, re_sum, e1]
  exact hQ _ _ (fun j m => f (5 * j + m)) hr_sar g1 ⟨g2, fun j hj m hm u hu hp => g3 j hj m hm (by omega) u hu hp⟩
theorem o_roundedTotalx (hd : rg d) (h4 : d < 1 ∨ 100 < d) : Ew 103 [vR 0, .inl d] (mk A F q) Q ↔ Q (.inr 1, mk A F (bp q)) := by
  unfold Ew
  rw [rc_103 g_0_0 rfl, lc_103]
  simp (disch := omega) only [r103_0, r103_1, r103_2, r103_4, r103_7, r103_8, r103_11, r103_12, r103_15, r103_16, r103_19, r103_20, r103_23, r103_26, Cn_n, Cn_v, Cn_x, dp_0, dp_1, dp_2, dp_3, dp_4, okv_n, okv_i, okv_r, eq_self, true_and, and_true, Option.some.injEq, exists_eq_left', rgT, ixT, ixU, ↓if_pos, ↓if_neg, Int.toNat_natCast, bT0, bT1, g_0_0, g_0_1, g_0_2, g_0_3, g_0_4, n_rgx]
theorem o_roundedUp (hJ : F 17 = J) (hM : F 18 = M) (hJ5 : J ≤ 5) (hM5 : M ≤ 5) (ht : TOK (A 3)) (hd : 1 ≤ d) (hd1 : d ≤ 100)
    (hQ : ∀ A1 F1 U, SAR A A1 → SFR F F1 → RDG (A 3) d J M U → Q (.inl (some (.inl (isum (fun j => isum (U j) M) J))), mk A1 F1 q)) : Ew 104 [vR 0, .inl d] (mk A F q) Q := by
  refine ⟨rc_104 g_0_0 rfl, ?_⟩
  rw [lc_104]
  simp (disch := omega) only [r104_0, r104_1, r104_2, r104_4, r104_7, r104_8, r104_11, r104_12, r104_15, r104_16, r104_19, r104_20, r104_23, r104_26, Cn_n, Cn_v, Cn_x, dp_0, dp_1, dp_2, dp_3, dp_4, okv_n, okv_i, okv_r, eq_self, true_and, and_true, Option.some.injEq, exists_eq_left', rgT, ixT, ixU, ↓if_pos, ↓if_neg, Int.toNat_natCast, bT0, bT1, g_0_0, g_0_1, g_0_2, g_0_3, g_0_4, n_rg]
  refine rd_make hJ hM hJ5 hM5 ht hd hd1 (fun F1 R1 rf1 qu1 f g1 g2 g3 g4 => ?_)
  have e1 : isum (fun j => isum (fun m => f (5 * j + m)) 5) 5 = isum (fun j => isum (fun m => f (5 * j + m)) M) J := isum55 (g := fun j m => f (5 * j + m)) hJ5 hM5 g4
  simp (disch := omega) only [r104_0, r104_1, r104_2, r104_4, r104_7, r104_8, r104_11, r104_12, r104_15, r104_16, r104_19, r104_20, r104_23, r104_26, Cn_n, Cn_v, Cn_x, dp_0, dp_1, dp_2, dp_3, dp_4, okv_n, okv_i, okv_r, eq_self, true_and, and_true, Option.some.injEq, exists_eq_left', rgT, ixT, ixU, ↓if_pos, ↓if_neg, Int.toNat_natCast, bT0, bT1, g_0_0, g_0_1, g_0_2, g_0_3, g_0_4, re_up, e1]
  exact hQ _ _ (fun j m => f (5 * j + m)) hr_sar g1 ⟨g2, fun j hj m hm u hu hp => g3 j hj m hm (by omega) u hu hp⟩
theorem o_roundedUpx (hd : rg d) (h4 : d < 1 ∨ 100 < d) : Ew 104 [vR 0, .inl d] (mk A F q) Q ↔ Q (.inr 1, mk A F (bp q)) := by
  unfold Ew
  rw [rc_104 g_0_0 rfl, lc_104]
  simp (disch := omega) only [r104_0, r104_1, r104_2, r104_4, r104_7, r104_8, r104_11, r104_12, r104_15, r104_16, r104_19, r104_20, r104_23, r104_26, Cn_n, Cn_v, Cn_x, dp_0, dp_1, dp_2, dp_3, dp_4, okv_n, okv_i, okv_r, eq_self, true_and, and_true, Option.some.injEq, exists_eq_left', rgT, ixT, ixU, ↓if_pos, ↓if_neg, Int.toNat_natCast, bT0, bT1, g_0_0, g_0_1, g_0_2, g_0_3, g_0_4, n_rgx]
end RFACE
