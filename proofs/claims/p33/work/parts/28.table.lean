/-! the table -/
def isum (f : Nat → Int) : Nat → Int
  | 0 => 0
  | n + 1 => isum f n + f n
def imax (f : Nat → Int) (a : Int) : Nat → Int
  | 0 => a
  | n + 1 => if imax f a n < f n then f n else imax f a n
theorem isum_congr {f g : Nat → Int} : ∀ {n : Nat}, (∀ i, i < n → f i = g i) → isum f n = isum g n
  | 0, _ => rfl
  | n + 1, h => by
    simp only [isum]
    rw [isum_congr (fun i hi => h i (by omega)), h n (by omega)]
theorem isum_ge {f : Nat → Int} : ∀ {n : Nat}, (∀ i, i < n → 0 ≤ f i) → 0 ≤ isum f n
  | 0, _ => Int.le_refl _
  | n + 1, h => by
    simp only [isum]
    have h1 := isum_ge (n := n) (fun i hi => h i (by omega))
    have h2 := h n (by omega)
    omega
theorem isum_le {f : Nat → Int} {b : Int} : ∀ {n : Nat}, (∀ i, i < n → f i ≤ b) → isum f n ≤ b * n
  | 0, _ => by simp [isum]
  | n + 1, h => by
    simp only [isum]
    have h1 := isum_le (n := n) (fun i hi => h i (by omega))
    have h2 := h n (by omega)
    have h3 : b * ((n + 1 : Nat) : Int) = b * n + b := by rw [Int.natCast_add]; simp [Int.mul_add]
    omega
theorem imax_congr {f g : Nat → Int} {a : Int} : ∀ {n : Nat}, (∀ i, i < n → f i = g i) → imax f a n = imax g a n
  | 0, _ => rfl
  | n + 1, h => by
    simp only [imax]
    rw [imax_congr (fun i hi => h i (by omega)), h n (by omega)]
theorem imax_bd {f : Nat → Int} {a lo hi : Int} (h0 : lo ≤ a) (h1 : a ≤ hi) : ∀ {n : Nat}, (∀ i, i < n → f i ≤ hi) → lo ≤ imax f a n ∧ imax f a n ≤ hi
  | 0, _ => ⟨h0, h1⟩
  | n + 1, h => by
    have h2 := imax_bd h0 h1 (n := n) (fun i hi => h i (by omega))
    have h3 := h n (by omega)
    simp only [imax]
    split <;> omega
theorem imax_ge {f : Nat → Int} {a : Int} : ∀ {n : Nat}, a ≤ imax f a n ∧ ∀ i, i < n → f i ≤ imax f a n
  | 0 => ⟨Int.le_refl _, fun i hi => absurd hi (Nat.not_lt_zero i)⟩
  | n + 1 => by
    obtain ⟨h1, h2⟩ := imax_ge (f := f) (a := a) (n := n)
    simp only [imax]
    refine ⟨by split <;> omega, fun i hi => ?_⟩
    by_cases hin : i = n
    · subst hin; split <;> omega
    · have := h2 i (by omega)
      split <;> omega
theorem imax_is {f : Nat → Int} {a : Int} : ∀ {n : Nat}, imax f a n = a ∨ ∃ i, i < n ∧ imax f a n = f i
  | 0 => Or.inl rfl
  | n + 1 => by
    simp only [imax]
    split
    · exact Or.inr ⟨n, by omega, rfl⟩
    · rcases imax_is (f := f) (a := a) (n := n) with h | ⟨i, hi, h⟩
      · exact Or.inl h
      · exact Or.inr ⟨i, by omega, h⟩
def TOK (t : Nat → Int) : Prop := ∀ k, k < 25 → 0 ≤ t k ∧ t k ≤ 99
def rowS (t : Nat → Int) (M j : Nat) : Int := isum (fun m => t (5 * j + m)) M
def colS (t : Nat → Int) (J m : Nat) : Int := isum (fun j => t (5 * j + m)) J
def allS (t : Nat → Int) (J M : Nat) : Int := isum (fun j => rowS t M j) J
def bnd (t : Nat → Int) (J M : Nat) : Int := imax (fun m => colS t J m) (imax (fun j => rowS t M j) 0 J) M
theorem rowS_bd {t : Nat → Int} {M j : Nat} (ht : TOK t) (hM : M ≤ 5) (hj : j < 5) : 0 ≤ rowS t M j ∧ rowS t M j ≤ 495 := by
  have h1 := isum_ge (f := fun m => t (5 * j + m)) (n := M) (fun i hi => (ht _ (by omega)).1)
  have h2 := isum_le (f := fun m => t (5 * j + m)) (b := 99) (n := M) (fun i hi => (ht _ (by omega)).2)
  exact ⟨h1, by unfold rowS; omega⟩
theorem colS_bd {t : Nat → Int} {J m : Nat} (ht : TOK t) (hJ : J ≤ 5) (hm : m < 5) : 0 ≤ colS t J m ∧ colS t J m ≤ 495 := by
  have h1 := isum_ge (f := fun j => t (5 * j + m)) (n := J) (fun i hi => (ht _ (by omega)).1)
  have h2 := isum_le (f := fun j => t (5 * j + m)) (b := 99) (n := J) (fun i hi => (ht _ (by omega)).2)
  exact ⟨h1, by unfold colS; omega⟩
theorem allS_bd {t : Nat → Int} {J M : Nat} (ht : TOK t) (hJ : J ≤ 5) (hM : M ≤ 5) : 0 ≤ allS t J M ∧ allS t J M ≤ 2475 := by
  have h1 := isum_ge (f := fun j => rowS t M j) (n := J) (fun i hi => (rowS_bd ht hM (by omega)).1)
  have h2 := isum_le (f := fun j => rowS t M j) (b := 495) (n := J) (fun i hi => (rowS_bd ht hM (by omega)).2)
  exact ⟨h1, by unfold allS; omega⟩
theorem bnd_bd {t : Nat → Int} {J M : Nat} (ht : TOK t) (hJ : J ≤ 5) (hM : M ≤ 5) : 0 ≤ bnd t J M ∧ bnd t J M ≤ 495 := by
  have h1 := imax_bd (f := fun j => rowS t M j) (a := 0) (lo := 0) (hi := 495) (Int.le_refl _) (by omega) (n := J) (fun i hi => (rowS_bd ht hM (by omega)).2)
  exact imax_bd (f := fun m => colS t J m) h1.1 h1.2 (n := M) (fun i hi => (colS_bd ht hJ (by omega)).2)
section TABLE
variable {A : Nat → Nat → Int} {F : Nat → Int} {q : List Int × Nat} {i j v : Int} {Q : AR → Prop} {J M : Nat}
theorem t_jobs : Ew 64 [vR 1] (mk A F q) Q ↔ Q (.inl (some (.inl (F 17))), mk A F q) := by
  unfold Ew
  rw [rc_64 g_1_0, lc_64]
  simp only [r64_0, r64_1, r64_4, Cn_n, Cn_v, Cn_x, dp_0, dp_1, dp_2, dp_3, dp_4, okv_n, okv_i, okv_r, eq_self, true_and, and_true, Option.some.injEq, exists_eq_left', g_1_0, g_1_1, s_1_1, g_1_2, s_1_2]
theorem t_machs : Ew 65 [vR 1] (mk A F q) Q ↔ Q (.inl (some (.inl (F 18))), mk A F q) := by
  unfold Ew
  rw [rc_65 g_1_0, lc_65]
  simp only [r65_0, r65_1, r65_4, Cn_n, Cn_v, Cn_x, dp_0, dp_1, dp_2, dp_3, dp_4, okv_n, okv_i, okv_r, eq_self, true_and, and_true, Option.some.injEq, exists_eq_left', g_1_0, g_1_1, s_1_1, g_1_2, s_1_2]
theorem t_time (h0 : 0 ≤ i) (h1 : i < 5) (h2 : 0 ≤ j) (h3 : j < 5) : Ew 66 [vR 1, .inl i, .inl j] (mk A F q) Q ↔ Q (.inl (some (.inl (A 3 (5 * i.toNat + j.toNat)))), mk A F q) := by
  unfold Ew
  rw [rc_66 g_1_0 rfl rfl, lc_66]
  simp (disch := omega) only [r66_0, r66_1, r66_4, r66_5, r66_6, r66_9, Cn_n, Cn_v, Cn_x, dp_0, dp_1, dp_2, dp_3, dp_4, okv_n, okv_i, okv_r, eq_self, true_and, and_true, Option.some.injEq, exists_eq_left', rgT, ixT, ixU, ↓if_pos, ↓if_neg, Int.toNat_natCast, bT0, bT1, g_1_0, g_1_1, s_1_1, g_1_2, s_1_2, gget_2]
theorem t_put (h0 : 0 ≤ i) (h1 : i < 5) (h2 : 0 ≤ j) (h3 : j < 5) : Ew 67 [vR 1, .inl i, .inl j, .inl v] (mk A F q) Q ↔ Q (.inl none, mk (u2 A 3 (5 * i.toNat + j.toNat) v) F q) := by
  unfold Ew
  rw [rc_67 g_1_0 rfl rfl rfl, lc_67]
  simp (disch := omega) only [r67_0, r67_1, r67_4, r67_5, r67_6, r67_7, r67_10, Cn_n, Cn_v, Cn_x, dp_0, dp_1, dp_2, dp_3, dp_4, okv_n, okv_i, okv_r, eq_self, true_and, and_true, Option.some.injEq, exists_eq_left', rgT, ixT, ixU, ↓if_pos, ↓if_neg, Int.toNat_natCast, bT0, bT1, g_1_0, g_1_1, s_1_1, g_1_2, s_1_2, gput_2]
theorem t_resize : Ew 63 [vR 1, .inl i, .inl j] (mk A F q) Q ↔ Q (.inl none, mk (ua A 3 (fun _ => 0)) (uf (uf F 17 i) 18 j) q) := by
  unfold Ew
  rw [rc_63 g_1_0 rfl rfl, lc_63]
  simp (disch := omega) only [r63_0, r63_1, r63_2, r63_5, r63_6, r63_7, r63_10, r63_11, r63_14, r63_15, r63_18, Cn_n, Cn_v, Cn_x, dp_0, dp_1, dp_2, dp_3, dp_4, okv_n, okv_i, okv_r, eq_self, true_and, and_true, Option.some.injEq, exists_eq_left', rgT, ixT, ixU, ↓if_pos, ↓if_neg, Int.toNat_natCast, bT0, bT1, g_1_0, g_1_1, s_1_1, g_1_2, s_1_2, gfill_2]
theorem t_row (hM : F 18 = M) (hM5 : M ≤ 5) (h0 : 0 ≤ i) (h1 : i < 5) : Ew 70 [vR 1, .inl i] (mk A F q) Q ↔ Q (.inl (some (.inl (rowS (A 3) M i.toNat))), mk A F q) := by
  refine Ew_iff ⟨rc_70 g_1_0 rfl, ?_⟩
  rw [lc_70]
  simp only [r70_0, r70_1, r70_2, r70_3, r70_5, r70_6, r70_9, r70_12, r70_13, r70_14, r70_17, r70_18, r70_19, r70_22, r70_23, r70_24, r70_27, r70_30, r70_31, Cn_n, Cn_v, Cn_x, dp_0, dp_1, dp_2, dp_3, dp_4, okv_n, okv_i, okv_r, eq_self, true_and, and_true, Option.some.injEq, exists_eq_left']
  have key := Rn_for (fun n => Wp 70 4 [some (vR 1), some (.inl i), some (.inl (isum (fun m => A 3 (5 * i.toNat + m)) n)), some (.inl (n : Int))] [] (mk A F q) (fun r => r = (.inl (some (.inl (rowS (A 3) M i.toNat))), mk A F q))) M (fun n hn ih => ?_) ?_
  · exact key
  · rw [r70_4]
    simp (disch := omega) only [r70_0, r70_1, r70_2, r70_3, r70_5, r70_6, r70_9, r70_12, r70_13, r70_14, r70_17, r70_18, r70_19, r70_22, r70_23, r70_24, r70_27, r70_30, r70_31, Cn_n, Cn_v, Cn_x, dp_0, dp_1, dp_2, dp_3, dp_4, okv_n, okv_i, okv_r, eq_self, true_and, and_true, Option.some.injEq, exists_eq_left', rgT, ixT, ixU, ↓if_pos, ↓if_neg, Int.toNat_natCast, bT0, bT1, g_1_0, g_1_1, s_1_1, g_1_2, s_1_2, gget_2]
    exact ih
  · rw [r70_4]
    simp (disch := omega) only [r70_0, r70_1, r70_2, r70_3, r70_5, r70_6, r70_9, r70_12, r70_13, r70_14, r70_17, r70_18, r70_19, r70_22, r70_23, r70_24, r70_27, r70_30, r70_31, Cn_n, Cn_v, Cn_x, dp_0, dp_1, dp_2, dp_3, dp_4, okv_n, okv_i, okv_r, eq_self, true_and, and_true, Option.some.injEq, exists_eq_left', rgT, ixT, ixU, ↓if_pos, ↓if_neg, Int.toNat_natCast, bT0, bT1, g_1_0, g_1_1, s_1_1, g_1_2, s_1_2]
    rfl
theorem t_col (hJ : F 17 = J) (hJ5 : J ≤ 5) (h0 : 0 ≤ i) (h1 : i < 5) : Ew 71 [vR 1, .inl i] (mk A F q) Q ↔ Q (.inl (some (.inl (colS (A 3) J i.toNat))), mk A F q) := by
  refine Ew_iff ⟨rc_71 g_1_0 rfl, ?_⟩
  rw [lc_71]
  simp only [r71_0, r71_1, r71_2, r71_3, r71_5, r71_6, r71_9, r71_12, r71_13, r71_14, r71_17, r71_18, r71_19, r71_22, r71_23, r71_24, r71_27, r71_30, r71_31, Cn_n, Cn_v, Cn_x, dp_0, dp_1, dp_2, dp_3, dp_4, okv_n, okv_i, okv_r, eq_self, true_and, and_true, Option.some.injEq, exists_eq_left']
  have key := Rn_for (fun n => Wp 71 4 [some (vR 1), some (.inl i), some (.inl (isum (fun m => A 3 (5 * m + i.toNat)) n)), some (.inl (n : Int))] [] (mk A F q) (fun r => r = (.inl (some (.inl (colS (A 3) J i.toNat))), mk A F q))) J (fun n hn ih => ?_) ?_
  · exact key
  · rw [r71_4]
    simp (disch := omega) only [r71_0, r71_1, r71_2, r71_3, r71_5, r71_6, r71_9, r71_12, r71_13, r71_14, r71_17, r71_18, r71_19, r71_22, r71_23, r71_24, r71_27, r71_30, r71_31, Cn_n, Cn_v, Cn_x, dp_0, dp_1, dp_2, dp_3, dp_4, okv_n, okv_i, okv_r, eq_self, true_and, and_true, Option.some.injEq, exists_eq_left', rgT, ixT, ixU, ↓if_pos, ↓if_neg, Int.toNat_natCast, bT0, bT1, g_1_0, g_1_1, s_1_1, g_1_2, s_1_2, gget_2]
    exact ih
  · rw [r71_4]
    simp (disch := omega) only [r71_0, r71_1, r71_2, r71_3, r71_5, r71_6, r71_9, r71_12, r71_13, r71_14, r71_17, r71_18, r71_19, r71_22, r71_23, r71_24, r71_27, r71_30, r71_31, Cn_n, Cn_v, Cn_x, dp_0, dp_1, dp_2, dp_3, dp_4, okv_n, okv_i, okv_r, eq_self, true_and, and_true, Option.some.injEq, exists_eq_left', rgT, ixT, ixU, ↓if_pos, ↓if_neg, Int.toNat_natCast, bT0, bT1, g_1_0, g_1_1, s_1_1, g_1_2, s_1_2]
    rfl
theorem t_all (hJ : F 17 = J) (hM : F 18 = M) (hJ5 : J ≤ 5) (hM5 : M ≤ 5) : Ew 72 [vR 1] (mk A F q) Q ↔ Q (.inl (some (.inl (allS (A 3) J M))), mk A F q) := by
  refine Ew_iff ⟨rc_72 g_1_0, ?_⟩
  rw [lc_72]
  simp only [r72_0, r72_1, r72_2, r72_3, r72_5, r72_6, r72_9, r72_12, r72_13, r72_14, r72_15, r72_18, r72_19, r72_20, r72_23, r72_26, r72_27, Cn_n, Cn_v, Cn_x, dp_0, dp_1, dp_2, dp_3, dp_4, okv_n, okv_i, okv_r, eq_self, true_and, and_true, Option.some.injEq, exists_eq_left']
  have key := Rn_for (fun n => Wp 72 4 [some (vR 1), some (.inl (isum (fun j => rowS (A 3) M j) n)), some (.inl (n : Int))] [] (mk A F q) (fun r => r = (.inl (some (.inl (allS (A 3) J M))), mk A F q))) J (fun n hn ih => ?_) ?_
  · exact key
  · rw [r72_4]
    simp (disch := omega) only [r72_0, r72_1, r72_2, r72_3, r72_5, r72_6, r72_9, r72_12, r72_13, r72_14, r72_15, r72_18, r72_19, r72_20, r72_23, r72_26, r72_27, Cn_n, Cn_v, Cn_x, dp_0, dp_1, dp_2, dp_3, dp_4, okv_n, okv_i, okv_r, eq_self, true_and, and_true, Option.some.injEq, exists_eq_left', rgT, ixT, ixU, ↓if_pos, ↓if_neg, Int.toNat_natCast, bT0, bT1, g_1_0, g_1_1, s_1_1, g_1_2, s_1_2, t_row hM hM5]
    exact ih
  · rw [r72_4]
    simp (disch := omega) only [r72_0, r72_1, r72_2, r72_3, r72_5, r72_6, r72_9, r72_12, r72_13, r72_14, r72_15, r72_18, r72_19, r72_20, r72_23, r72_26, r72_27, Cn_n, Cn_v, Cn_x, dp_0, dp_1, dp_2, dp_3, dp_4, okv_n, okv_i, okv_r, eq_self, true_and, and_true, Option.some.injEq, exists_eq_left', rgT, ixT, ixU, ↓if_pos, ↓if_neg, Int.toNat_natCast, bT0, bT1, g_1_0, g_1_1, s_1_1, g_1_2, s_1_2]
    rfl
theorem t_most (hJ : F 17 = J) (hM : F 18 = M) (hJ5 : J ≤ 5) (hM5 : M ≤ 5) (ht : TOK (A 3)) : Ew 73 [vR 1] (mk A F q) Q ↔ Q (.inl (some (.inl (bnd (A 3) J M))), mk A F q) := by
  refine Ew_iff ⟨rc_73 g_1_0, ?_⟩
  rw [lc_73]
  simp only [r73_0, r73_1, r73_2, r73_3, r73_5, r73_6, r73_9, r73_12, r73_13, r73_14, r73_15, r73_18, r73_21, r73_22, r73_25, r73_28, r73_29, r73_31, r73_32, r73_35, r73_38, r73_39, r73_40, r73_41, r73_44, r73_47, r73_48, r73_51, r73_54, r73_55, Cn_n, Cn_v, Cn_x, dp_0, dp_1, dp_2, dp_3, dp_4, okv_n, okv_i, okv_r, eq_self, true_and, and_true, Option.some.injEq, exists_eq_left']
  have k1 := fun n (hn : n ≤ J) => imax_bd (f := fun j => rowS (A 3) M j) (a := 0) (lo := 0) (hi := 495) (Int.le_refl _) (by omega) (n := n) (fun i hi => (rowS_bd ht hM5 (by omega)).2)
  have key2 := Rn_for (fun n => Wp 73 30 [some (vR 1), some (.inl (imax (fun m => colS (A 3) J m) (imax (fun j => rowS (A 3) M j) 0 J) n)), some (.inl (n : Int))] [] (mk A F q) (fun r => r = (.inl (some (.inl (bnd (A 3) J M))), mk A F q))) M (fun n hn ih => ?_) ?_
  · have key := Rn_for (fun n => Wp 73 4 [some (vR 1), some (.inl (imax (fun j => rowS (A 3) M j) 0 n)), some (.inl (n : Int))] [] (mk A F q) (fun r => r = (.inl (some (.inl (bnd (A 3) J M))), mk A F q))) J (fun n hn ih => ?_) ?_
    · exact key
    · have b1 := k1 n (by omega)
      have b2 := rowS_bd ht hM5 (show n < 5 by omega)
      rw [r73_4]
      simp (disch := omega) only [r73_0, r73_1, r73_2, r73_3, r73_5, r73_6, r73_9, r73_12, r73_13, r73_14, r73_15, r73_18, r73_21, r73_22, r73_25, r73_28, r73_29, r73_31, r73_32, r73_35, r73_38, r73_39, r73_40, r73_41, r73_44, r73_47, r73_48, r73_51, r73_54, r73_55, Cn_n, Cn_v, Cn_x, dp_0, dp_1, dp_2, dp_3, dp_4, okv_n, okv_i, okv_r, eq_self, true_and, and_true, Option.some.injEq, exists_eq_left', rgT, ixT, ixU, ↓if_pos, ↓if_neg, Int.toNat_natCast, bT0, bT1, g_1_0, g_1_1, s_1_1, g_1_2, s_1_2, t_row hM hM5]
      exact ih
    · rw [r73_4]
      simp (disch := omega) only [r73_0, r73_1, r73_2, r73_3, r73_5, r73_6, r73_9, r73_12, r73_13, r73_14, r73_15, r73_18, r73_21, r73_22, r73_25, r73_28, r73_29, r73_31, r73_32, r73_35, r73_38, r73_39, r73_40, r73_41, r73_44, r73_47, r73_48, r73_51, r73_54, r73_55, Cn_n, Cn_v, Cn_x, dp_0, dp_1, dp_2, dp_3, dp_4, okv_n, okv_i, okv_r, eq_self, true_and, and_true, Option.some.injEq, exists_eq_left', rgT, ixT, ixU, ↓if_pos, ↓if_neg, Int.toNat_natCast, bT0, bT1, g_1_0, g_1_1, s_1_1, g_1_2, s_1_2]
      exact key2
  · have b1 := imax_bd (f := fun m => colS (A 3) J m) (k1 J (Nat.le_refl J)).1 (k1 J (Nat.le_refl J)).2 (n := n) (fun i hi => (colS_bd ht hJ5 (by omega)).2)
    have b2 := colS_bd ht hJ5 (show n < 5 by omega)
    rw [r73_30]
    simp (disch := omega) only [r73_0, r73_1, r73_2, r73_3, r73_5, r73_6, r73_9, r73_12, r73_13, r73_14, r73_15, r73_18, r73_21, r73_22, r73_25, r73_28, r73_29, r73_31, r73_32, r73_35, r73_38, r73_39, r73_40, r73_41, r73_44, r73_47, r73_48, r73_51, r73_54, r73_55, Cn_n, Cn_v, Cn_x, dp_0, dp_1, dp_2, dp_3, dp_4, okv_n, okv_i, okv_r, eq_self, true_and, and_true, Option.some.injEq, exists_eq_left', rgT, ixT, ixU, ↓if_pos, ↓if_neg, Int.toNat_natCast, bT0, bT1, g_1_0, g_1_1, s_1_1, g_1_2, s_1_2, t_col hJ hJ5]
    exact ih
  · rw [r73_30]
    simp (disch := omega) only [r73_0, r73_1, r73_2, r73_3, r73_5, r73_6, r73_9, r73_12, r73_13, r73_14, r73_15, r73_18, r73_21, r73_22, r73_25, r73_28, r73_29, r73_31, r73_32, r73_35, r73_38, r73_39, r73_40, r73_41, r73_44, r73_47, r73_48, r73_51, r73_54, r73_55, Cn_n, Cn_v, Cn_x, dp_0, dp_1, dp_2, dp_3, dp_4, okv_n, okv_i, okv_r, eq_self, true_and, and_true, Option.some.injEq, exists_eq_left', rgT, ixT, ixU, ↓if_pos, ↓if_neg, Int.toNat_natCast, bT0, bT1, g_1_0, g_1_1, s_1_1, g_1_2, s_1_2]
    rfl
end TABLE
