/-! the plan's questions in the model -/
abbrev MV (A : Nat → Nat → Int) (F : Nat → Int) (J M N : Nat) (sg : Nat → Nat → Nat) (ln : Nat → Int) : Prop := F 775 = (N : Int) ∧ F 769 = (J : Int) ∧ F 770 = (M : Int) ∧ N ≤ 60 ∧ J ≤ 5 ∧ M ≤ 5 ∧ (∀ k, k < N → A 51 k = ln k ∧ ∀ r, r < J + M → A 52 (10 * k + r) = (sg k r : Int)) ∧ (∀ k, k < N → 0 < ln k) ∧ isum ln N ≤ 495 ∧ (∀ k, k < N → ∀ r, r < J + M → sg k r < J + M)
section MPLAN
variable {A : Nat → Nat → Int} {F : Nat → Int} {q : List Int × Nat} {Q : AR → Prop} {J M N k j : Nat} {sg : Nat → Nat → Nat} {ln : Nat → Int} {i v m t : Int}
theorem mp_start (h : MV A F J M N sg ln) (hk : k ≤ N) : Ew 141 [vR 48, .inl (k : Int)] (mk A F q) Q ↔ Q (.inl (some (.inl (isum ln k))), mk A F q) := by
  obtain ⟨p1, p2, p3, p4, p5, p6, p7, p8, p9, pa⟩ := h
  refine Ew_iff ⟨rc_141 g_48_0 rfl, ?_⟩
  rw [lc_141]
  simp only [r141_0, r141_1, r141_2, r141_3, r141_5, r141_6, r141_9, r141_10, r141_11, r141_14, r141_15, r141_16, r141_17, r141_18, r141_21, r141_24, r141_25, Cn_n, Cn_v, Cn_x, dp_0, dp_1, dp_2, dp_3, dp_4, okv_n, okv_i, okv_r, eq_self, true_and, and_true, Option.some.injEq, exists_eq_left']
  have key := Rn_for (fun n => Wp 141 4 [some (vR 48), some (.inl (k : Int)), some (.inl (isum ln n)), some (.inl (n : Int))] [] (mk A F q) (fun r => r = (.inl (some (.inl (isum ln k))), mk A F q))) k (fun n hn ih => ?_) ?_
  · exact key
  · have e1 := (p7 n (by omega)).1
    rw [r141_4]
    simp (disch := omega) only [r141_0, r141_1, r141_2, r141_3, r141_5, r141_6, r141_9, r141_10, r141_11, r141_14, r141_15, r141_16, r141_17, r141_18, r141_21, r141_24, r141_25, Cn_n, Cn_v, Cn_x, dp_0, dp_1, dp_2, dp_3, dp_4, okv_n, okv_i, okv_r, eq_self, true_and, and_true, Option.some.injEq, exists_eq_left', rgT, ixT, ixU, ↓if_pos, ↓if_neg, Int.toNat_natCast, bT0, bT1, g_48_0, s_48_0, g_48_1, s_48_1, g_48_2, s_48_2, g_48_3, g_48_4, g_48_5, g_48_6, g_48_7, s_48_7, g_48_8, g_48_9, g_48_10, g_48_11, g_48_12, g_48_13, a_51, b_51, d_51, tab_len, tab_get, e1]
    exact ih
  · rw [r141_4]
    simp (disch := omega) only [r141_0, r141_1, r141_2, r141_3, r141_5, r141_6, r141_9, r141_10, r141_11, r141_14, r141_15, r141_16, r141_17, r141_18, r141_21, r141_24, r141_25, Cn_n, Cn_v, Cn_x, dp_0, dp_1, dp_2, dp_3, dp_4, okv_n, okv_i, okv_r, eq_self, true_and, and_true, Option.some.injEq, exists_eq_left', rgT, ixT, ixU, ↓if_pos, ↓if_neg, Int.toNat_natCast, bT0, bT1]
theorem mp_on (h : MV A F J M N sg ln) (hk : k < N) (hj : j < J) : Ew 142 [vR 48, .inl (k : Int), .inl (j : Int)] (mk A F q) Q ↔ Q (.inl (some (.inl (mo sg M k j))), mk A F q) := by
  obtain ⟨p1, p2, p3, p4, p5, p6, p7, p8, p9, pa⟩ := h
  have e1 := (p7 k hk).2 j (by omega)
  have b1 := pa k hk j (by omega)
  have ix1 : (10 * (k : Int) + (j : Int)).toNat = 10 * k + j := by omega
  unfold Ew
  rw [rc_142 g_48_0 rfl rfl, lc_142]
  unfold mo
  by_cases h9 : (sg k j : Int) < M
  · rw [if_pos h9]
    simp (disch := omega) only [r142_0, r142_1, r142_4, r142_6, r142_7, r142_8, r142_9, r142_10, r142_11, r142_12, r142_13, r142_14, r142_17, r142_20, r142_21, r142_24, r142_25, Cn_n, Cn_v, Cn_x, dp_0, dp_1, dp_2, dp_3, dp_4, okv_n, okv_i, okv_r, eq_self, true_and, and_true, Option.some.injEq, exists_eq_left', rgT, ixT, ixU, ↓if_pos, ↓if_neg, Int.toNat_natCast, bT0, bT1, g_48_0, s_48_0, g_48_1, s_48_1, g_48_2, s_48_2, g_48_3, g_48_4, g_48_5, g_48_6, g_48_7, s_48_7, g_48_8, g_48_9, g_48_10, g_48_11, g_48_12, g_48_13, a_52, b_52, d_52, tab_len, tab_get, ix1, e1]
  · rw [if_neg h9]
    simp (disch := omega) only [r142_0, r142_1, r142_4, r142_6, r142_7, r142_8, r142_9, r142_10, r142_11, r142_12, r142_13, r142_14, r142_17, r142_20, r142_21, r142_24, r142_25, Cn_n, Cn_v, Cn_x, dp_0, dp_1, dp_2, dp_3, dp_4, okv_n, okv_i, okv_r, eq_self, true_and, and_true, Option.some.injEq, exists_eq_left', rgT, ixT, ixU, ↓if_pos, ↓if_neg, Int.toNat_natCast, bT0, bT1, g_48_0, s_48_0, g_48_1, s_48_1, g_48_2, s_48_2, g_48_3, g_48_4, g_48_5, g_48_6, g_48_7, s_48_7, g_48_8, g_48_9, g_48_10, g_48_11, g_48_12, g_48_13, a_52, b_52, d_52, tab_len, tab_get, ix1, e1]
theorem mp_finish (h : MV A F J M N sg ln) (hj : j < J) : Ew 150 [vR 48, .inl (j : Int)] (mk A F q) Q ↔ Q (.inl (some (.inl (fi sg ln M j N))), mk A F q) := by
  have h9 := h
  obtain ⟨p1, p2, p3, p4, p5, p6, p7, p8, p9, pa⟩ := h
  refine Ew_iff ⟨rc_150 g_48_0 rfl, ?_⟩
  rw [lc_150]
  simp only [r150_0, r150_1, r150_2, r150_3, r150_5, r150_6, r150_9, r150_12, r150_13, r150_14, r150_15, r150_18, r150_19, r150_22, r150_23, r150_26, r150_27, r150_28, r150_29, r150_30, r150_33, r150_34, r150_37, r150_40, r150_41, Cn_n, Cn_v, Cn_x, dp_0, dp_1, dp_2, dp_3, dp_4, okv_n, okv_i, okv_r, eq_self, true_and, and_true, Option.some.injEq, exists_eq_left']
  suffices key : ∀ d x : Nat, x + d = N → ∀ a : Int, a = fi sg ln M j x → Wp 150 4 [some (vR 48), some (.inl (j : Int)), some (.inl a), some (.inl (x : Int))] [] (mk A F q) (fun r => r = (.inl (some (.inl (fi sg ln M j N))), mk A F q)) by
    exact key N 0 (by omega) 0 rfl
  intro d
  induction d with
  | zero =>
    intro x hx a ha
    obtain rfl : x = N := by omega
    subst ha
    rw [r150_4]
    simp (disch := omega) only [r150_0, r150_1, r150_2, r150_3, r150_5, r150_6, r150_9, r150_12, r150_13, r150_14, r150_15, r150_18, r150_19, r150_22, r150_23, r150_26, r150_27, r150_28, r150_29, r150_30, r150_33, r150_34, r150_37, r150_40, r150_41, Cn_n, Cn_v, Cn_x, dp_0, dp_1, dp_2, dp_3, dp_4, okv_n, okv_i, okv_r, eq_self, true_and, and_true, Option.some.injEq, exists_eq_left', rgT, ixT, ixU, ↓if_pos, ↓if_neg, Int.toNat_natCast, bT0, bT1, g_48_0, s_48_0, g_48_1, s_48_1, g_48_2, s_48_2, g_48_3, g_48_4, g_48_5, g_48_6, g_48_7, s_48_7, g_48_8, g_48_9, g_48_10, g_48_11, g_48_12, g_48_13]
  | succ d ih =>
    intro x hx a ha
    have b1 := @mo_bd sg M x j
    have ihx := ih (x + 1) (by omega)
    have e9 : fi sg ln M j (x + 1) = if mo sg M x j = -1 then fi sg ln M j x else isum ln x + ln x := rfl
    have st := fun Q : AR → Prop => @mp_start A F q Q J M N (x + 1) sg ln h9 (by omega)
    have ex : ((x + 1 : Nat) : Int) = (x : Int) + 1 := by omega
    rw [ex] at st
    rw [r150_4]
    by_cases k1 : mo sg M x j = -1
    · rw [if_pos k1] at e9
      simp (disch := omega) only [r150_0, r150_1, r150_2, r150_3, r150_5, r150_6, r150_9, r150_12, r150_13, r150_14, r150_15, r150_18, r150_19, r150_22, r150_23, r150_26, r150_27, r150_28, r150_29, r150_30, r150_33, r150_34, r150_37, r150_40, r150_41, Cn_n, Cn_v, Cn_x, dp_0, dp_1, dp_2, dp_3, dp_4, okv_n, okv_i, okv_r, eq_self, true_and, and_true, Option.some.injEq, exists_eq_left', rgT, ixT, ixU, ↓if_pos, ↓if_neg, Int.toNat_natCast, bT0, bT1, g_48_0, s_48_0, g_48_1, s_48_1, g_48_2, s_48_2, g_48_3, g_48_4, g_48_5, g_48_6, g_48_7, s_48_7, g_48_8, g_48_9, g_48_10, g_48_11, g_48_12, g_48_13, mp_on h9 (show x < N by omega) hj]
      exact ihx _ (by omega)
    · rw [if_neg k1] at e9
      simp (disch := omega) only [r150_0, r150_1, r150_2, r150_3, r150_5, r150_6, r150_9, r150_12, r150_13, r150_14, r150_15, r150_18, r150_19, r150_22, r150_23, r150_26, r150_27, r150_28, r150_29, r150_30, r150_33, r150_34, r150_37, r150_40, r150_41, Cn_n, Cn_v, Cn_x, dp_0, dp_1, dp_2, dp_3, dp_4, okv_n, okv_i, okv_r, eq_self, true_and, and_true, Option.some.injEq, exists_eq_left', rgT, ixT, ixU, ↓if_pos, ↓if_neg, Int.toNat_natCast, bT0, bT1, g_48_0, s_48_0, g_48_1, s_48_1, g_48_2, s_48_2, g_48_3, g_48_4, g_48_5, g_48_6, g_48_7, s_48_7, g_48_8, g_48_9, g_48_10, g_48_11, g_48_12, g_48_13, mp_on h9 (show x < N by omega) hj, st]
      exact ihx _ e9.symm
end MPLAN
