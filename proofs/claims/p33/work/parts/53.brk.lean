/-! interruptions in the shop -/
def brk (sg : Nat → Nat → Nat) (M N k j : Nat) : Bool := decide (mo sg M k j ≠ -1) && (decide (k + 1 < N) && (decide (mo sg M (k + 1) j ≠ mo sg M k j) && anyc (fun i => decide (mo sg M (k + 2 + i) j = mo sg M k j)) (N - (k + 2))))
theorem anyc_no {p : Nat → Bool} {n : Nat} (h : ∀ i, i < n → p i = false) : anyc p n = false := by
  cases h9 : anyc p n
  · rfl
  · obtain ⟨c, h1, h2⟩ := anyc_iff.mp h9
    rw [h c h1] at h2
    cases h2
section BRK
variable {A : Nat → Nat → Int} {F : Nat → Int} {q : List Int × Nat} {Q : AR → Prop} {J M N k j : Nat} {sg : Nat → Nat → Nat} {ln : Nat → Int}
theorem pl_broken (hp : PV A F J M N sg ln) (hk : k < N) (hj : j < J) : Ew 61 [vR 4, .inl (k : Int), .inl (j : Int)] (mk A F q) Q ↔ Q (.inl (some (.inl (bi (brk sg M N k j)))), mk A F q) := by
  obtain ⟨p1, p2, p3, p4, p5, p6, p7, p8⟩ := hp
  refine Ew_iff ⟨rc_61 g_4_0 rfl rfl, ?_⟩
  rw [lc_61]
  have em : ∀ x, x < N → A 20 (5 * x + j) = mo sg M x j := fun x hx => (p6 x hx).2.2 j hj
  have e1 := em k hk
  have b1 := @mo_bd sg M k j
  have ix1 : ((k : Int) + 1).toNat = k + 1 := by omega
  by_cases c1 : mo sg M k j = -1
  · have e9 : brk sg M N k j = false := by unfold brk; rw [decide_eq_false (fun h => h c1)]; rfl
    rw [e9, bi_f]
    simp (disch := omega) only [r61_0, r61_1, r61_4, r61_5, r61_6, r61_9, r61_10, r61_11, r61_12, r61_15, r61_16, r61_17, r61_18, r61_19, r61_22, r61_25, r61_26, r61_29, r61_30, r61_31, r61_32, r61_33, r61_36, r61_37, r61_40, r61_41, r61_42, r61_43, r61_44, r61_45, r61_49, r61_50, r61_53, r61_56, r61_57, r61_60, r61_62, r61_63, r61_66, r61_67, r61_70, r61_71, r61_72, r61_75, r61_78, r61_79, Cn_n, Cn_v, Cn_x, dp_0, dp_1, dp_2, dp_3, dp_4, okv_n, okv_i, okv_r, eq_self, true_and, and_true, Option.some.injEq, exists_eq_left', rgT, ixT, ixU, ↓if_pos, ↓if_neg, Int.toNat_natCast, bT0, bT1, g_4_0, g_4_1, g_4_2, g_4_3, g_4_4, g_4_5, g_4_6, g_4_7, g_4_8, s_4_8, g_4_9, s_4_9, g_4_10, s_4_10, g_4_11, s_4_11, g_4_12, s_4_12, gget_19, e1]
  · by_cases c2 : k + 1 < N
    · have e2 := em (k + 1) c2
      have b2 := @mo_bd sg M (k + 1) j
      by_cases c3 : mo sg M (k + 1) j = mo sg M k j
      · have e9 : brk sg M N k j = false := by unfold brk; rw [decide_eq_false (p := mo sg M (k + 1) j ≠ mo sg M k j) (fun h => h c3)]; simp
        rw [e9, bi_f]
        simp (disch := omega) only [r61_0, r61_1, r61_4, r61_5, r61_6, r61_9, r61_10, r61_11, r61_12, r61_15, r61_16, r61_17, r61_18, r61_19, r61_22, r61_25, r61_26, r61_29, r61_30, r61_31, r61_32, r61_33, r61_36, r61_37, r61_40, r61_41, r61_42, r61_43, r61_44, r61_45, r61_49, r61_50, r61_53, r61_56, r61_57, r61_60, r61_62, r61_63, r61_66, r61_67, r61_70, r61_71, r61_72, r61_75, r61_78, r61_79, Cn_n, Cn_v, Cn_x, dp_0, dp_1, dp_2, dp_3, dp_4, okv_n, okv_i, okv_r, eq_self, true_and, and_true, Option.some.injEq, exists_eq_left', rgT, ixT, ixU, ↓if_pos, ↓if_neg, Int.toNat_natCast, bT0, bT1, g_4_0, g_4_1, g_4_2, g_4_3, g_4_4, g_4_5, g_4_6, g_4_7, g_4_8, s_4_8, g_4_9, s_4_9, g_4_10, s_4_10, g_4_11, s_4_11, g_4_12, s_4_12, gget_19, e1, e2, ix1]
      · have e9 : brk sg M N k j = anyc (fun i => decide (mo sg M (k + 2 + i) j = mo sg M k j)) (N - (k + 2)) := by
          unfold brk
          rw [decide_eq_true c1, decide_eq_true c2, decide_eq_true c3]
          rfl
        rw [e9]
        simp (disch := omega) only [r61_0, r61_1, r61_4, r61_5, r61_6, r61_9, r61_10, r61_11, r61_12, r61_15, r61_16, r61_17, r61_18, r61_19, r61_22, r61_25, r61_26, r61_29, r61_30, r61_31, r61_32, r61_33, r61_36, r61_37, r61_40, r61_41, r61_42, r61_43, r61_44, r61_45, r61_49, r61_50, r61_53, r61_56, r61_57, r61_60, r61_62, r61_63, r61_66, r61_67, r61_70, r61_71, r61_72, r61_75, r61_78, r61_79, Cn_n, Cn_v, Cn_x, dp_0, dp_1, dp_2, dp_3, dp_4, okv_n, okv_i, okv_r, eq_self, true_and, and_true, Option.some.injEq, exists_eq_left', rgT, ixT, ixU, ↓if_pos, ↓if_neg, Int.toNat_natCast, bT0, bT1, g_4_0, g_4_1, g_4_2, g_4_3, g_4_4, g_4_5, g_4_6, g_4_7, g_4_8, s_4_8, g_4_9, s_4_9, g_4_10, s_4_10, g_4_11, s_4_11, g_4_12, s_4_12, gget_19, e1, e2, ix1]
        suffices key : ∀ d x : Nat, x + d = N - (k + 2) → (∀ i, i < x → mo sg M (k + 2 + i) j ≠ mo sg M k j) → ∀ y : Int, y = ((k + 2 + x : Nat) : Int) → Wp 61 47 [some (vR 4), some (.inl (k : Int)), some (.inl (j : Int)), some (.inl (mo sg M k j)), some (.inl y)] [] (mk A F q) (fun r => r = (.inl (some (.inl (bi (anyc (fun i => decide (mo sg M (k + 2 + i) j = mo sg M k j)) (N - (k + 2)))))), mk A F q)) by
          exact key (N - (k + 2)) 0 (by omega) (fun i hi => absurd hi (Nat.not_lt_zero i)) _ (by omega)
        intro d
        induction d with
        | zero =>
          intro x hx hno y hy
          rw [r61_47, anyc_no (fun i hi => decide_eq_false (hno i (by omega))), bi_f]
          simp (disch := omega) only [r61_0, r61_1, r61_4, r61_5, r61_6, r61_9, r61_10, r61_11, r61_12, r61_15, r61_16, r61_17, r61_18, r61_19, r61_22, r61_25, r61_26, r61_29, r61_30, r61_31, r61_32, r61_33, r61_36, r61_37, r61_40, r61_41, r61_42, r61_43, r61_44, r61_45, r61_49, r61_50, r61_53, r61_56, r61_57, r61_60, r61_62, r61_63, r61_66, r61_67, r61_70, r61_71, r61_72, r61_75, r61_78, r61_79, Cn_n, Cn_v, Cn_x, dp_0, dp_1, dp_2, dp_3, dp_4, okv_n, okv_i, okv_r, eq_self, true_and, and_true, Option.some.injEq, exists_eq_left', rgT, ixT, ixU, ↓if_pos, ↓if_neg, Int.toNat_natCast, bT0, bT1, g_4_0, g_4_1, g_4_2, g_4_3, g_4_4, g_4_5, g_4_6, g_4_7, g_4_8, s_4_8, g_4_9, s_4_9, g_4_10, s_4_10, g_4_11, s_4_11, g_4_12, s_4_12]
        | succ d ih =>
          intro x hx hno y hy
          subst hy
          have e3 := em (k + 2 + x) (by omega)
          have b3 := @mo_bd sg M (k + 2 + x) j
          rw [r61_47]
          by_cases c4 : mo sg M (k + 2 + x) j = mo sg M k j
          · rw [anyc_iff.mpr ⟨x, by omega, decide_eq_true c4⟩, bi_t]
            simp (disch := omega) only [r61_0, r61_1, r61_4, r61_5, r61_6, r61_9, r61_10, r61_11, r61_12, r61_15, r61_16, r61_17, r61_18, r61_19, r61_22, r61_25, r61_26, r61_29, r61_30, r61_31, r61_32, r61_33, r61_36, r61_37, r61_40, r61_41, r61_42, r61_43, r61_44, r61_45, r61_49, r61_50, r61_53, r61_56, r61_57, r61_60, r61_62, r61_63, r61_66, r61_67, r61_70, r61_71, r61_72, r61_75, r61_78, r61_79, Cn_n, Cn_v, Cn_x, dp_0, dp_1, dp_2, dp_3, dp_4, okv_n, okv_i, okv_r, eq_self, true_and, and_true, Option.some.injEq, exists_eq_left', rgT, ixT, ixU, ↓if_pos, ↓if_neg, Int.toNat_natCast, bT0, bT1, g_4_0, g_4_1, g_4_2, g_4_3, g_4_4, g_4_5, g_4_6, g_4_7, g_4_8, s_4_8, g_4_9, s_4_9, g_4_10, s_4_10, g_4_11, s_4_11, g_4_12, s_4_12, gget_19, e3]
          · simp (disch := omega) only [r61_0, r61_1, r61_4, r61_5, r61_6, r61_9, r61_10, r61_11, r61_12, r61_15, r61_16, r61_17, r61_18, r61_19, r61_22, r61_25, r61_26, r61_29, r61_30, r61_31, r61_32, r61_33, r61_36, r61_37, r61_40, r61_41, r61_42, r61_43, r61_44, r61_45, r61_49, r61_50, r61_53, r61_56, r61_57, r61_60, r61_62, r61_63, r61_66, r61_67, r61_70, r61_71, r61_72, r61_75, r61_78, r61_79, Cn_n, Cn_v, Cn_x, dp_0, dp_1, dp_2, dp_3, dp_4, okv_n, okv_i, okv_r, eq_self, true_and, and_true, Option.some.injEq, exists_eq_left', rgT, ixT, ixU, ↓if_pos, ↓if_neg, Int.toNat_natCast, bT0, bT1, g_4_0, g_4_1, g_4_2, g_4_3, g_4_4, g_4_5, g_4_6, g_4_7, g_4_8, s_4_8, g_4_9, s_4_9, g_4_10, s_4_10, g_4_11, s_4_11, g_4_12, s_4_12, gget_19, e3]
            refine ih (x + 1) (by omega) (fun i hi => ?_) _ (by omega)
            by_cases hix : i = x
            · subst hix; exact c4
            · exact hno i (by omega)
    · have e9 : brk sg M N k j = false := by unfold brk; rw [decide_eq_false c2]; simp
      rw [e9, bi_f]
      simp (disch := omega) only [r61_0, r61_1, r61_4, r61_5, r61_6, r61_9, r61_10, r61_11, r61_12, r61_15, r61_16, r61_17, r61_18, r61_19, r61_22, r61_25, r61_26, r61_29, r61_30, r61_31, r61_32, r61_33, r61_36, r61_37, r61_40, r61_41, r61_42, r61_43, r61_44, r61_45, r61_49, r61_50, r61_53, r61_56, r61_57, r61_60, r61_62, r61_63, r61_66, r61_67, r61_70, r61_71, r61_72, r61_75, r61_78, r61_79, Cn_n, Cn_v, Cn_x, dp_0, dp_1, dp_2, dp_3, dp_4, okv_n, okv_i, okv_r, eq_self, true_and, and_true, Option.some.injEq, exists_eq_left', rgT, ixT, ixU, ↓if_pos, ↓if_neg, Int.toNat_natCast, bT0, bT1, g_4_0, g_4_1, g_4_2, g_4_3, g_4_4, g_4_5, g_4_6, g_4_7, g_4_8, s_4_8, g_4_9, s_4_9, g_4_10, s_4_10, g_4_11, s_4_11, g_4_12, s_4_12, gget_19, e1]
theorem pl_breaks (hp : PV A F J M N sg ln) : Ew 60 [vR 4] (mk A F q) Q ↔ Q (.inl (some (.inl (isum (fun k => isum (fun j => bi (brk sg M N k j)) J) N))), mk A F q) := by
  have hp9 := hp
  obtain ⟨p1, p2, p3, p4, p5, p6, p7, p8⟩ := hp
  refine Ew_iff ⟨rc_60 g_4_0, ?_⟩
  rw [lc_60]
  simp only [r60_0, r60_1, r60_2, r60_3, r60_5, r60_6, r60_9, r60_12, r60_13, r60_15, r60_16, r60_19, r60_22, r60_23, r60_24, r60_25, r60_28, r60_31, r60_34, r60_37, r60_40, r60_43, r60_46, r60_47, Cn_n, Cn_v, Cn_x, dp_0, dp_1, dp_2, dp_3, dp_4, okv_n, okv_i, okv_r, eq_self, true_and, and_true, Option.some.injEq, exists_eq_left']
  suffices key : ∀ d x : Nat, x + d = N → ∀ a : Int, a = isum (fun k => isum (fun j => bi (brk sg M N k j)) J) x → ∀ x3 : Option AV, okv x3 = true → Wp 60 4 [some (vR 4), some (.inl a), some (.inl (x : Int)), x3] [] (mk A F q) (fun r => r = (.inl (some (.inl (isum (fun k => isum (fun j => bi (brk sg M N k j)) J) N))), mk A F q)) by
    exact key N 0 (by omega) 0 rfl none rfl
  intro d
  induction d with
  | zero =>
    intro x hx a ha x3 h3
    obtain rfl : x = N := by omega
    subst ha
    rw [r60_4]
    simp (disch := omega) only [r60_0, r60_1, r60_2, r60_3, r60_5, r60_6, r60_9, r60_12, r60_13, r60_15, r60_16, r60_19, r60_22, r60_23, r60_24, r60_25, r60_28, r60_31, r60_34, r60_37, r60_40, r60_43, r60_46, r60_47, Cn_n, Cn_v, Cn_x, dp_0, dp_1, dp_2, dp_3, dp_4, okv_n, okv_i, okv_r, eq_self, true_and, and_true, Option.some.injEq, exists_eq_left', rgT, ixT, ixU, ↓if_pos, ↓if_neg, Int.toNat_natCast, bT0, bT1, g_4_0, g_4_1, g_4_2, g_4_3, g_4_4, g_4_5, g_4_6, g_4_7, g_4_8, s_4_8, g_4_9, s_4_9, g_4_10, s_4_10, g_4_11, s_4_11, g_4_12, s_4_12]
  | succ d ih =>
    intro x hx a ha x3 h3
    rw [r60_4]
    simp (disch := omega) only [r60_0, r60_1, r60_2, r60_3, r60_5, r60_6, r60_9, r60_12, r60_13, r60_15, r60_16, r60_19, r60_22, r60_23, r60_24, r60_25, r60_28, r60_31, r60_34, r60_37, r60_40, r60_43, r60_46, r60_47, Cn_n, Cn_v, Cn_x, dp_0, dp_1, dp_2, dp_3, dp_4, okv_n, okv_i, okv_r, eq_self, true_and, and_true, Option.some.injEq, exists_eq_left', rgT, ixT, ixU, ↓if_pos, ↓if_neg, Int.toNat_natCast, bT0, bT1, g_4_0, g_4_1, g_4_2, g_4_3, g_4_4, g_4_5, g_4_6, g_4_7, g_4_8, s_4_8, g_4_9, s_4_9, g_4_10, s_4_10, g_4_11, s_4_11, g_4_12, s_4_12, h3]
    suffices key2 : ∀ d2 y : Nat, y + d2 = J → ∀ b : Int, b = a + isum (fun j => bi (brk sg M N x j)) y → Wp 60 14 [some (vR 4), some (.inl b), some (.inl (x : Int)), some (.inl (y : Int))] [] (mk A F q) (fun r => r = (.inl (some (.inl (isum (fun k => isum (fun j => bi (brk sg M N k j)) J) N))), mk A F q)) by
      exact key2 J 0 (by omega) a (by simp only [isum]; omega)
    intro d2
    induction d2 with
    | zero =>
      intro y hy b hb
      obtain rfl : y = J := by omega
      rw [r60_14]
      simp (disch := omega) only [r60_0, r60_1, r60_2, r60_3, r60_5, r60_6, r60_9, r60_12, r60_13, r60_15, r60_16, r60_19, r60_22, r60_23, r60_24, r60_25, r60_28, r60_31, r60_34, r60_37, r60_40, r60_43, r60_46, r60_47, Cn_n, Cn_v, Cn_x, dp_0, dp_1, dp_2, dp_3, dp_4, okv_n, okv_i, okv_r, eq_self, true_and, and_true, Option.some.injEq, exists_eq_left', rgT, ixT, ixU, ↓if_pos, ↓if_neg, Int.toNat_natCast, bT0, bT1, g_4_0, g_4_1, g_4_2, g_4_3, g_4_4, g_4_5, g_4_6, g_4_7, g_4_8, s_4_8, g_4_9, s_4_9, g_4_10, s_4_10, g_4_11, s_4_11, g_4_12, s_4_12]
      exact ih (x + 1) (by omega) _ (by simp only [isum]; omega) _ rfl
    | succ d2 ih2 =>
      intro y hy b hb
      have e9 : isum (fun j => bi (brk sg M N x j)) (y + 1) = isum (fun j => bi (brk sg M N x j)) y + bi (brk sg M N x y) := rfl
      have ih9 := ih2 (y + 1) (by omega)
      rw [r60_14]
      cases hb9 : brk sg M N x y
      · rw [hb9, bi_f] at e9
        simp (disch := omega) only [r60_0, r60_1, r60_2, r60_3, r60_5, r60_6, r60_9, r60_12, r60_13, r60_15, r60_16, r60_19, r60_22, r60_23, r60_24, r60_25, r60_28, r60_31, r60_34, r60_37, r60_40, r60_43, r60_46, r60_47, Cn_n, Cn_v, Cn_x, dp_0, dp_1, dp_2, dp_3, dp_4, okv_n, okv_i, okv_r, eq_self, true_and, and_true, Option.some.injEq, exists_eq_left', rgT, ixT, ixU, ↓if_pos, ↓if_neg, Int.toNat_natCast, bT0, bT1, g_4_0, g_4_1, g_4_2, g_4_3, g_4_4, g_4_5, g_4_6, g_4_7, g_4_8, s_4_8, g_4_9, s_4_9, g_4_10, s_4_10, g_4_11, s_4_11, g_4_12, s_4_12, pl_broken hp9 (show x < N by omega) (show y < J by omega), hb9, bi_f]
        exact ih9 _ (by omega)
      · rw [hb9, bi_t] at e9
        simp (disch := omega) only [r60_0, r60_1, r60_2, r60_3, r60_5, r60_6, r60_9, r60_12, r60_13, r60_15, r60_16, r60_19, r60_22, r60_23, r60_24, r60_25, r60_28, r60_31, r60_34, r60_37, r60_40, r60_43, r60_46, r60_47, Cn_n, Cn_v, Cn_x, dp_0, dp_1, dp_2, dp_3, dp_4, okv_n, okv_i, okv_r, eq_self, true_and, and_true, Option.some.injEq, exists_eq_left', rgT, ixT, ixU, ↓if_pos, ↓if_neg, Int.toNat_natCast, bT0, bT1, g_4_0, g_4_1, g_4_2, g_4_3, g_4_4, g_4_5, g_4_6, g_4_7, g_4_8, s_4_8, g_4_9, s_4_9, g_4_10, s_4_10, g_4_11, s_4_11, g_4_12, s_4_12, pl_broken hp9 (show x < N by omega) (show y < J by omega), hb9, bi_t]
        exact ih9 _ (by omega)
end BRK
