/-! the plan's questions in the shop -/
def mo (sg : Nat → Nat → Nat) (M k j : Nat) : Int := if (sg k j : Int) < M then (sg k j : Int) else -1
/-- the last place with a value, else a -/
def jl (f : Nat → Int) (m a : Int) : Nat → Int
  | 0 => a
  | n + 1 => if f n = m then (n : Int) else jl f m a n
theorem jl_no {f : Nat → Int} {m a : Int} : ∀ {n : Nat}, (∀ i, i < n → f i ≠ m) → jl f m a n = a
  | 0, _ => rfl
  | n + 1, h => by
    simp only [jl]
    rw [if_neg (h n (by omega)), jl_no (n := n) (fun i hi => h i (by omega))]
theorem jl_at {f : Nat → Int} {m a : Int} {j : Nat} : ∀ {n : Nat}, j < n → f j = m → (∀ i, i < n → f i = m → i = j) → jl f m a n = j
  | 0, hj, _, _ => absurd hj (Nat.not_lt_zero j)
  | n + 1, hj, h1, h2 => by
    simp only [jl]
    by_cases h : f n = m
    · rw [if_pos h, h2 n (by omega) h]
    · rw [if_neg h]
      have : j ≠ n := fun h9 => h (h9 ▸ h1)
      exact jl_at (n := n) (by omega) h1 (fun i hi => h2 i (by omega))
/-- the job on a machine at a time -/
def ja (sg : Nat → Nat → Nat) (ln : Nat → Int) (J M : Nat) (t m : Int) : Nat → Int
  | 0 => -1
  | k + 1 => if isum ln k ≤ t ∧ t < isum ln k + ln k then jl (mo sg M k) m (ja sg ln J M t m k) J else ja sg ln J M t m k
/-- the work of a slice up to a time -/
def dn (sg : Nat → Nat → Nat) (ln : Nat → Int) (M j : Nat) (m t : Int) (k : Nat) : Int := if mo sg M k j = m ∧ isum ln k < t then (if ln k < t - isum ln k then ln k else t - isum ln k) else 0
/-- the last end of a job -/
def fi (sg : Nat → Nat → Nat) (ln : Nat → Int) (M j : Nat) : Nat → Int
  | 0 => 0
  | k + 1 => if mo sg M k j = -1 then fi sg ln M j k else isum ln k + ln k
theorem fi_dn {sg : Nat → Nat → Nat} {ln : Nat → Int} {M j k : Nat} : ∀ {n : Nat}, k ≤ n → (∀ i, k ≤ i → i < n → mo sg M i j = -1) → fi sg ln M j n = fi sg ln M j k
  | 0, hk, _ => by
    obtain rfl : k = 0 := by omega
    rfl
  | n + 1, hk, h => by
    by_cases hkn : k = n + 1
    · rw [hkn]
    · simp only [fi]
      rw [if_pos (h n (by omega) (by omega)), fi_dn (n := n) (by omega) (fun i h1 h2 => h i h1 (by omega))]
abbrev PV (A : Nat → Nat → Int) (F : Nat → Int) (J M N : Nat) (sg : Nat → Nat → Nat) (ln : Nat → Int) : Prop := F 76 = (N : Int) ∧ F 73 = (J : Int) ∧ N ≤ 60 ∧ J ≤ 5 ∧ M ≤ 5 ∧ RECp A J M N sg ln ∧ (∀ k, k < N → 0 < ln k) ∧ isum ln N ≤ 495
theorem mo_bd {sg : Nat → Nat → Nat} {M k j : Nat} : -1 ≤ mo sg M k j ∧ (mo sg M k j < M ∨ mo sg M k j = -1) := by
  unfold mo
  split <;> omega
theorem st_bd {ln : Nat → Int} {N : Nat} (hpos : ∀ k, k < N → 0 < ln k) (hs : isum ln N ≤ 495) {k : Nat} (hk : k < N) : 0 ≤ isum ln k ∧ 0 < ln k ∧ isum ln k + ln k ≤ 495 := by
  have h1 := isum_ge (f := ln) (n := k) (fun i hi => by have := hpos i (by omega); omega)
  refine ⟨h1, hpos k hk, ?_⟩
  by_cases hkn : k + 1 = N
  · rw [← hkn] at hs
    exact hs
  · have h2 := isum_lt hpos (show k + 1 < N by omega)
    have h3 : isum ln (k + 1) = isum ln k + ln k := rfl
    omega
section PLAN
variable {A : Nat → Nat → Int} {F : Nat → Int} {q : List Int × Nat} {Q : AR → Prop} {J M N k j : Nat} {sg : Nat → Nat → Nat} {ln : Nat → Int} {i v m t : Int}
theorem pl_count : Ew 52 [vR 4] (mk A F q) Q ↔ Q (.inl (some (.inl (F 76))), mk A F q) := by
  unfold Ew
  rw [rc_52 g_4_0, lc_52]
  simp (disch := omega) only [r52_0, r52_1, r52_4, Cn_n, Cn_v, Cn_x, dp_0, dp_1, dp_2, dp_3, dp_4, okv_n, okv_i, okv_r, eq_self, true_and, and_true, Option.some.injEq, exists_eq_left', rgT, ixT, ixU, ↓if_pos, ↓if_neg, Int.toNat_natCast, bT0, bT1, g_4_0, g_4_1, g_4_2, g_4_3, g_4_4, g_4_5, g_4_6, g_4_7, g_4_8, s_4_8, g_4_9, s_4_9, g_4_10, s_4_10, g_4_11, s_4_11, g_4_12, s_4_12]
theorem pl_start (h0 : 0 ≤ i) (h1 : i < 60) : Ew 53 [vR 4, .inl i] (mk A F q) Q ↔ Q (.inl (some (.inl (A 16 i.toNat))), mk A F q) := by
  unfold Ew
  rw [rc_53 g_4_0 rfl, lc_53]
  simp (disch := omega) only [r53_0, r53_1, r53_4, r53_5, r53_8, Cn_n, Cn_v, Cn_x, dp_0, dp_1, dp_2, dp_3, dp_4, okv_n, okv_i, okv_r, eq_self, true_and, and_true, Option.some.injEq, exists_eq_left', rgT, ixT, ixU, ↓if_pos, ↓if_neg, Int.toNat_natCast, bT0, bT1, g_4_0, g_4_1, g_4_2, g_4_3, g_4_4, g_4_5, g_4_6, g_4_7, g_4_8, s_4_8, g_4_9, s_4_9, g_4_10, s_4_10, g_4_11, s_4_11, g_4_12, s_4_12, rget_15]
theorem pl_length (h0 : 0 ≤ i) (h1 : i < 60) : Ew 54 [vR 4, .inl i] (mk A F q) Q ↔ Q (.inl (some (.inl (A 18 i.toNat))), mk A F q) := by
  unfold Ew
  rw [rc_54 g_4_0 rfl, lc_54]
  simp (disch := omega) only [r54_0, r54_1, r54_4, r54_5, r54_8, Cn_n, Cn_v, Cn_x, dp_0, dp_1, dp_2, dp_3, dp_4, okv_n, okv_i, okv_r, eq_self, true_and, and_true, Option.some.injEq, exists_eq_left', rgT, ixT, ixU, ↓if_pos, ↓if_neg, Int.toNat_natCast, bT0, bT1, g_4_0, g_4_1, g_4_2, g_4_3, g_4_4, g_4_5, g_4_6, g_4_7, g_4_8, s_4_8, g_4_9, s_4_9, g_4_10, s_4_10, g_4_11, s_4_11, g_4_12, s_4_12, rget_17]
theorem pl_machine (h0 : 0 ≤ i) (h1 : i < 60) (h2 : 0 ≤ v) (h3 : v < 5) : Ew 55 [vR 4, .inl i, .inl v] (mk A F q) Q ↔ Q (.inl (some (.inl (A 20 (5 * i.toNat + v.toNat)))), mk A F q) := by
  unfold Ew
  rw [rc_55 g_4_0 rfl rfl, lc_55]
  simp (disch := omega) only [r55_0, r55_1, r55_4, r55_5, r55_6, r55_9, Cn_n, Cn_v, Cn_x, dp_0, dp_1, dp_2, dp_3, dp_4, okv_n, okv_i, okv_r, eq_self, true_and, and_true, Option.some.injEq, exists_eq_left', rgT, ixT, ixU, ↓if_pos, ↓if_neg, Int.toNat_natCast, bT0, bT1, g_4_0, g_4_1, g_4_2, g_4_3, g_4_4, g_4_5, g_4_6, g_4_7, g_4_8, s_4_8, g_4_9, s_4_9, g_4_10, s_4_10, g_4_11, s_4_11, g_4_12, s_4_12, gget_19]
theorem pl_inSlice (hp : PV A F J M N sg ln) (hk : k < N) (hm : 0 ≤ m ∧ m ≤ 100) (hinj : ∀ i, i < J → ∀ x, x < J → mo sg M k i = m → mo sg M k x = m → i = x) : Ew 57 [vR 4, .inl (k : Int), .inl m] (mk A F q) Q ↔ Q (.inl (some (.inl (jl (mo sg M k) m (-1) J))), mk A F q) := by
  obtain ⟨p1, p2, p3, p4, p5, p6, p7, p8⟩ := hp
  refine Ew_iff ⟨rc_57 g_4_0 rfl rfl, ?_⟩
  rw [lc_57]
  simp only [r57_0, r57_1, r57_3, r57_4, r57_7, r57_10, r57_11, r57_14, r57_15, r57_16, r57_19, r57_20, r57_23, r57_24, r57_25, r57_28, r57_31, r57_32, Cn_n, Cn_v, Cn_x, dp_0, dp_1, dp_2, dp_3, dp_4, okv_n, okv_i, okv_r, eq_self, true_and, and_true, Option.some.injEq, exists_eq_left']
  suffices key : ∀ d x : Nat, x + d = J → (∀ i, i < x → mo sg M k i ≠ m) → Wp 57 2 [some (vR 4), some (.inl (k : Int)), some (.inl m), some (.inl (x : Int))] [] (mk A F q) (fun r => r = (.inl (some (.inl (jl (mo sg M k) m (-1) J))), mk A F q)) by
    exact key J 0 (by omega) (fun i hi => absurd hi (Nat.not_lt_zero i))
  intro d
  induction d with
  | zero =>
    intro x hx hno
    obtain rfl : x = J := by omega
    rw [r57_2, jl_no hno]
    simp (disch := omega) only [r57_0, r57_1, r57_3, r57_4, r57_7, r57_10, r57_11, r57_14, r57_15, r57_16, r57_19, r57_20, r57_23, r57_24, r57_25, r57_28, r57_31, r57_32, Cn_n, Cn_v, Cn_x, dp_0, dp_1, dp_2, dp_3, dp_4, okv_n, okv_i, okv_r, eq_self, true_and, and_true, Option.some.injEq, exists_eq_left', rgT, ixT, ixU, ↓if_pos, ↓if_neg, Int.toNat_natCast, bT0, bT1, g_4_0, g_4_1, g_4_2, g_4_3, g_4_4, g_4_5, g_4_6, g_4_7, g_4_8, s_4_8, g_4_9, s_4_9, g_4_10, s_4_10, g_4_11, s_4_11, g_4_12, s_4_12]
  | succ d ih =>
    intro x hx hno
    have e1 : A 20 (5 * k + x) = mo sg M k x := (p6 k hk).2.2 x (by omega)
    have b1 := @mo_bd sg M k x
    rw [r57_2]
    by_cases h9 : mo sg M k x = m
    · rw [jl_at (show x < J by omega) h9 (fun i hi h => hinj i hi x (by omega) h h9)]
      simp (disch := omega) only [r57_0, r57_1, r57_3, r57_4, r57_7, r57_10, r57_11, r57_14, r57_15, r57_16, r57_19, r57_20, r57_23, r57_24, r57_25, r57_28, r57_31, r57_32, Cn_n, Cn_v, Cn_x, dp_0, dp_1, dp_2, dp_3, dp_4, okv_n, okv_i, okv_r, eq_self, true_and, and_true, Option.some.injEq, exists_eq_left', rgT, ixT, ixU, ↓if_pos, ↓if_neg, Int.toNat_natCast, bT0, bT1, g_4_0, g_4_1, g_4_2, g_4_3, g_4_4, g_4_5, g_4_6, g_4_7, g_4_8, s_4_8, g_4_9, s_4_9, g_4_10, s_4_10, g_4_11, s_4_11, g_4_12, s_4_12, gget_19, e1]
    · simp (disch := omega) only [r57_0, r57_1, r57_3, r57_4, r57_7, r57_10, r57_11, r57_14, r57_15, r57_16, r57_19, r57_20, r57_23, r57_24, r57_25, r57_28, r57_31, r57_32, Cn_n, Cn_v, Cn_x, dp_0, dp_1, dp_2, dp_3, dp_4, okv_n, okv_i, okv_r, eq_self, true_and, and_true, Option.some.injEq, exists_eq_left', rgT, ixT, ixU, ↓if_pos, ↓if_neg, Int.toNat_natCast, bT0, bT1, g_4_0, g_4_1, g_4_2, g_4_3, g_4_4, g_4_5, g_4_6, g_4_7, g_4_8, s_4_8, g_4_9, s_4_9, g_4_10, s_4_10, g_4_11, s_4_11, g_4_12, s_4_12, gget_19, e1]
      refine ih (x + 1) (by omega) (fun i hi => ?_)
      by_cases hix : i = x
      · subst hix; exact h9
      · exact hno i (by omega)
theorem ja_no : ∀ {n : Nat}, (∀ k, k < n → ¬ (isum ln k ≤ t ∧ t < isum ln k + ln k)) → ja sg ln J M t m n = -1
  | 0, _ => rfl
  | n + 1, h => by
    simp only [ja]
    rw [if_neg (h n (by omega)), ja_no (n := n) (fun k hk => h k (by omega))]
theorem ja_up (hpos : ∀ k, k < N → 0 < ln k) (hk : k < N) (ht : t < isum ln k + ln k) : ∀ {n : Nat}, k + 1 ≤ n → n ≤ N → ja sg ln J M t m n = ja sg ln J M t m (k + 1)
  | 0, h, _ => absurd h (Nat.not_succ_le_zero k)
  | n + 1, h, hn => by
    by_cases hkn : k = n
    · rw [hkn]
    · have h9 : isum ln (k + 1) = isum ln k + ln k := rfl
      have h8 : isum ln (k + 1) ≤ isum ln n := by
        by_cases h7 : k + 1 = n
        · rw [h7]; exact Int.le_refl _
        · exact Int.le_of_lt (isum_lt (fun i hi => hpos i (by omega)) (by omega))
      rw [ja, if_neg (by omega), ja_up hpos hk ht (n := n) (by omega) (by omega)]
theorem pl_jobOn (hp : PV A F J M N sg ln) (hm : 0 ≤ m ∧ m ≤ 100) (ht : rg t) (hinj : ∀ k, k < N → ∀ i, i < J → ∀ x, x < J → mo sg M k i = m → mo sg M k x = m → i = x) : Ew 56 [vR 4, .inl m, .inl t] (mk A F q) Q ↔ Q (.inl (some (.inl (ja sg ln J M t m N))), mk A F q) := by
  have hp9 := hp
  obtain ⟨p1, p2, p3, p4, p5, p6, p7, p8⟩ := hp
  obtain ⟨t1, t2⟩ := ht
  refine Ew_iff ⟨rc_56 g_4_0 rfl rfl, ?_⟩
  rw [lc_56]
  simp only [r56_0, r56_1, r56_3, r56_4, r56_7, r56_10, r56_11, r56_14, r56_15, r56_18, r56_20, r56_22, r56_23, r56_26, r56_27, r56_29, r56_30, r56_33, r56_34, r56_37, r56_38, r56_41, r56_42, r56_43, r56_44, r56_47, r56_48, r56_51, r56_54, r56_55, Cn_n, Cn_v, Cn_x, dp_0, dp_1, dp_2, dp_3, dp_4, okv_n, okv_i, okv_r, eq_self, true_and, and_true, Option.some.injEq, exists_eq_left']
  suffices key : ∀ d x : Nat, x + d = N → (∀ k, k < x → ¬ (isum ln k ≤ t ∧ t < isum ln k + ln k)) → ∀ x4 : Option AV, okv x4 = true → Wp 56 2 [some (vR 4), some (.inl m), some (.inl t), some (.inl (x : Int)), x4] [] (mk A F q) (fun r => r = (.inl (some (.inl (ja sg ln J M t m N))), mk A F q)) by
    exact key N 0 (by omega) (fun i hi => absurd hi (Nat.not_lt_zero i)) none rfl
  intro d
  induction d with
  | zero =>
    intro x hx hno x4 h4
    obtain rfl : x = N := by omega
    rw [r56_2, ja_no hno]
    simp (disch := omega) only [r56_0, r56_1, r56_3, r56_4, r56_7, r56_10, r56_11, r56_14, r56_15, r56_18, r56_20, r56_22, r56_23, r56_26, r56_27, r56_29, r56_30, r56_33, r56_34, r56_37, r56_38, r56_41, r56_42, r56_43, r56_44, r56_47, r56_48, r56_51, r56_54, r56_55, Cn_n, Cn_v, Cn_x, dp_0, dp_1, dp_2, dp_3, dp_4, okv_n, okv_i, okv_r, eq_self, true_and, and_true, Option.some.injEq, exists_eq_left', rgT, ixT, ixU, ↓if_pos, ↓if_neg, Int.toNat_natCast, bT0, bT1, g_4_0, g_4_1, g_4_2, g_4_3, g_4_4, g_4_5, g_4_6, g_4_7, g_4_8, s_4_8, g_4_9, s_4_9, g_4_10, s_4_10, g_4_11, s_4_11, g_4_12, s_4_12]
  | succ d ih =>
    intro x hx hno x4 h4
    obtain ⟨e1, e2, -⟩ := p6 x (by omega)
    have b1 := st_bd p7 p8 (show x < N by omega)
    rw [r56_2]
    by_cases h9 : isum ln x ≤ t
    · by_cases h8 : t < isum ln x + ln x
      · rw [ja_up p7 (show x < N by omega) h8 (show x + 1 ≤ N by omega) (Nat.le_refl N)]
        simp only [ja]
        rw [if_pos ⟨h9, h8⟩, ja_no hno]
        simp (disch := omega) only [r56_0, r56_1, r56_3, r56_4, r56_7, r56_10, r56_11, r56_14, r56_15, r56_18, r56_20, r56_22, r56_23, r56_26, r56_27, r56_29, r56_30, r56_33, r56_34, r56_37, r56_38, r56_41, r56_42, r56_43, r56_44, r56_47, r56_48, r56_51, r56_54, r56_55, Cn_n, Cn_v, Cn_x, dp_0, dp_1, dp_2, dp_3, dp_4, okv_n, okv_i, okv_r, eq_self, true_and, and_true, Option.some.injEq, exists_eq_left', rgT, ixT, ixU, ↓if_pos, ↓if_neg, Int.toNat_natCast, bT0, bT1, g_4_0, g_4_1, g_4_2, g_4_3, g_4_4, g_4_5, g_4_6, g_4_7, g_4_8, s_4_8, g_4_9, s_4_9, g_4_10, s_4_10, g_4_11, s_4_11, g_4_12, s_4_12, rget_15, rget_17, e1, e2, h4, pl_inSlice hp9 (show x < N by omega) hm (hinj x (by omega))]
      · simp (disch := omega) only [r56_0, r56_1, r56_3, r56_4, r56_7, r56_10, r56_11, r56_14, r56_15, r56_18, r56_20, r56_22, r56_23, r56_26, r56_27, r56_29, r56_30, r56_33, r56_34, r56_37, r56_38, r56_41, r56_42, r56_43, r56_44, r56_47, r56_48, r56_51, r56_54, r56_55, Cn_n, Cn_v, Cn_x, dp_0, dp_1, dp_2, dp_3, dp_4, okv_n, okv_i, okv_r, eq_self, true_and, and_true, Option.some.injEq, exists_eq_left', rgT, ixT, ixU, ↓if_pos, ↓if_neg, Int.toNat_natCast, bT0, bT1, g_4_0, g_4_1, g_4_2, g_4_3, g_4_4, g_4_5, g_4_6, g_4_7, g_4_8, s_4_8, g_4_9, s_4_9, g_4_10, s_4_10, g_4_11, s_4_11, g_4_12, s_4_12, rget_15, rget_17, e1, e2, h4]
        refine ih (x + 1) (by omega) (fun i hi => ?_) _ rfl
        by_cases hix : i = x
        · subst hix; omega
        · exact hno i (by omega)
    · simp (disch := omega) only [r56_0, r56_1, r56_3, r56_4, r56_7, r56_10, r56_11, r56_14, r56_15, r56_18, r56_20, r56_22, r56_23, r56_26, r56_27, r56_29, r56_30, r56_33, r56_34, r56_37, r56_38, r56_41, r56_42, r56_43, r56_44, r56_47, r56_48, r56_51, r56_54, r56_55, Cn_n, Cn_v, Cn_x, dp_0, dp_1, dp_2, dp_3, dp_4, okv_n, okv_i, okv_r, eq_self, true_and, and_true, Option.some.injEq, exists_eq_left', rgT, ixT, ixU, ↓if_pos, ↓if_neg, Int.toNat_natCast, bT0, bT1, g_4_0, g_4_1, g_4_2, g_4_3, g_4_4, g_4_5, g_4_6, g_4_7, g_4_8, s_4_8, g_4_9, s_4_9, g_4_10, s_4_10, g_4_11, s_4_11, g_4_12, s_4_12, rget_15, rget_17, e1, e2, h4]
      refine ih (x + 1) (by omega) (fun i hi => ?_) _ rfl
      by_cases hix : i = x
      · subst hix; omega
      · exact hno i (by omega)
theorem pl_worked (hp : PV A F J M N sg ln) (hj : j < J) (hm : 0 ≤ m ∧ m ≤ 100) (ht : rg t) : Ew 58 [vR 4, .inl t, .inl (j : Int), .inl m] (mk A F q) Q ↔ Q (.inl (some (.inl (isum (dn sg ln M j m t) N))), mk A F q) := by
  obtain ⟨p1, p2, p3, p4, p5, p6, p7, p8⟩ := hp
  obtain ⟨t1, t2⟩ := ht
  refine Ew_iff ⟨rc_58 g_4_0 rfl rfl rfl, ?_⟩
  rw [lc_58]
  simp only [r58_0, r58_1, r58_3, r58_4, r58_8, r58_9, r58_12, r58_15, r58_16, r58_19, r58_21, r58_24, r58_26, r58_27, r58_30, r58_32, r58_33, r58_36, r58_37, r58_40, r58_41, r58_43, r58_46, r58_48, r58_49, r58_51, r58_52, r58_53, r58_56, r58_58, r58_61, r58_64, r58_65, r58_67, r58_70, r58_73, r58_75, Cn_n, Cn_v, Cn_x, dp_0, dp_1, dp_2, dp_3, dp_4, okv_n, okv_i, okv_r, eq_self, true_and, and_true, Option.some.injEq, exists_eq_left']
  suffices key : ∀ d x : Nat, x + d = N → ∀ a : Int, a = isum (dn sg ln M j m t) x → ∀ x6 : Option AV, okv x6 = true → Wp 58 6 [some (vR 4), some (.inl t), some (.inl (j : Int)), some (.inl m), some (.inl a), some (.inl (x : Int)), x6] [] (mk A F q) (fun r => r = (.inl (some (.inl (isum (dn sg ln M j m t) N))), mk A F q)) by
    exact key N 0 (by omega) 0 rfl none rfl
  intro d
  induction d with
  | zero =>
    intro x hx a ha x6 h6
    obtain rfl : x = N := by omega
    subst ha
    rw [r58_6]
    simp (disch := omega) only [r58_0, r58_1, r58_3, r58_4, r58_8, r58_9, r58_12, r58_15, r58_16, r58_19, r58_21, r58_24, r58_26, r58_27, r58_30, r58_32, r58_33, r58_36, r58_37, r58_40, r58_41, r58_43, r58_46, r58_48, r58_49, r58_51, r58_52, r58_53, r58_56, r58_58, r58_61, r58_64, r58_65, r58_67, r58_70, r58_73, r58_75, Cn_n, Cn_v, Cn_x, dp_0, dp_1, dp_2, dp_3, dp_4, okv_n, okv_i, okv_r, eq_self, true_and, and_true, Option.some.injEq, exists_eq_left', rgT, ixT, ixU, ↓if_pos, ↓if_neg, Int.toNat_natCast, bT0, bT1, g_4_0, g_4_1, g_4_2, g_4_3, g_4_4, g_4_5, g_4_6, g_4_7, g_4_8, s_4_8, g_4_9, s_4_9, g_4_10, s_4_10, g_4_11, s_4_11, g_4_12, s_4_12]
  | succ d ih =>
    intro x hx a ha x6 h6
    obtain ⟨e1, e2, e3⟩ := p6 x (by omega)
    have e4 : A 20 (5 * x + j) = mo sg M x j := e3 j hj
    have b1 := st_bd p7 p8 (show x < N by omega)
    have b2 := @mo_bd sg M x j
    have ihx := ih (x + 1) (by omega)
    have e9 : isum (dn sg ln M j m t) (x + 1) = isum (dn sg ln M j m t) x + dn sg ln M j m t x := rfl
    rw [r58_6]
    by_cases h9 : mo sg M x j = m
    · by_cases h8 : isum ln x < t
      · by_cases h7 : ln x < t - isum ln x
        · have e5 : dn sg ln M j m t x = ln x := by unfold dn; rw [if_pos ⟨h9, h8⟩, if_pos h7]
          simp (disch := omega) only [r58_0, r58_1, r58_3, r58_4, r58_8, r58_9, r58_12, r58_15, r58_16, r58_19, r58_21, r58_24, r58_26, r58_27, r58_30, r58_32, r58_33, r58_36, r58_37, r58_40, r58_41, r58_43, r58_46, r58_48, r58_49, r58_51, r58_52, r58_53, r58_56, r58_58, r58_61, r58_64, r58_65, r58_67, r58_70, r58_73, r58_75, Cn_n, Cn_v, Cn_x, dp_0, dp_1, dp_2, dp_3, dp_4, okv_n, okv_i, okv_r, eq_self, true_and, and_true, Option.some.injEq, exists_eq_left', rgT, ixT, ixU, ↓if_pos, ↓if_neg, Int.toNat_natCast, bT0, bT1, g_4_0, g_4_1, g_4_2, g_4_3, g_4_4, g_4_5, g_4_6, g_4_7, g_4_8, s_4_8, g_4_9, s_4_9, g_4_10, s_4_10, g_4_11, s_4_11, g_4_12, s_4_12, rget_15, rget_17, gget_19, e1, e2, e4, h6]
          exact ihx _ (by omega) _ rfl
        · have e5 : dn sg ln M j m t x = t - isum ln x := by unfold dn; rw [if_pos ⟨h9, h8⟩, if_neg h7]
          simp (disch := omega) only [r58_0, r58_1, r58_3, r58_4, r58_8, r58_9, r58_12, r58_15, r58_16, r58_19, r58_21, r58_24, r58_26, r58_27, r58_30, r58_32, r58_33, r58_36, r58_37, r58_40, r58_41, r58_43, r58_46, r58_48, r58_49, r58_51, r58_52, r58_53, r58_56, r58_58, r58_61, r58_64, r58_65, r58_67, r58_70, r58_73, r58_75, Cn_n, Cn_v, Cn_x, dp_0, dp_1, dp_2, dp_3, dp_4, okv_n, okv_i, okv_r, eq_self, true_and, and_true, Option.some.injEq, exists_eq_left', rgT, ixT, ixU, ↓if_pos, ↓if_neg, Int.toNat_natCast, bT0, bT1, g_4_0, g_4_1, g_4_2, g_4_3, g_4_4, g_4_5, g_4_6, g_4_7, g_4_8, s_4_8, g_4_9, s_4_9, g_4_10, s_4_10, g_4_11, s_4_11, g_4_12, s_4_12, rget_15, rget_17, gget_19, e1, e2, e4, h6]
          exact ihx _ (by omega) _ rfl
      · have e5 : dn sg ln M j m t x = 0 := by unfold dn; rw [if_neg (by omega)]
        simp (disch := omega) only [r58_0, r58_1, r58_3, r58_4, r58_8, r58_9, r58_12, r58_15, r58_16, r58_19, r58_21, r58_24, r58_26, r58_27, r58_30, r58_32, r58_33, r58_36, r58_37, r58_40, r58_41, r58_43, r58_46, r58_48, r58_49, r58_51, r58_52, r58_53, r58_56, r58_58, r58_61, r58_64, r58_65, r58_67, r58_70, r58_73, r58_75, Cn_n, Cn_v, Cn_x, dp_0, dp_1, dp_2, dp_3, dp_4, okv_n, okv_i, okv_r, eq_self, true_and, and_true, Option.some.injEq, exists_eq_left', rgT, ixT, ixU, ↓if_pos, ↓if_neg, Int.toNat_natCast, bT0, bT1, g_4_0, g_4_1, g_4_2, g_4_3, g_4_4, g_4_5, g_4_6, g_4_7, g_4_8, s_4_8, g_4_9, s_4_9, g_4_10, s_4_10, g_4_11, s_4_11, g_4_12, s_4_12, rget_15, rget_17, gget_19, e1, e2, e4, h6]
        exact ihx _ (by omega) _ rfl
    · have e5 : dn sg ln M j m t x = 0 := by unfold dn; rw [if_neg (by omega)]
      simp (disch := omega) only [r58_0, r58_1, r58_3, r58_4, r58_8, r58_9, r58_12, r58_15, r58_16, r58_19, r58_21, r58_24, r58_26, r58_27, r58_30, r58_32, r58_33, r58_36, r58_37, r58_40, r58_41, r58_43, r58_46, r58_48, r58_49, r58_51, r58_52, r58_53, r58_56, r58_58, r58_61, r58_64, r58_65, r58_67, r58_70, r58_73, r58_75, Cn_n, Cn_v, Cn_x, dp_0, dp_1, dp_2, dp_3, dp_4, okv_n, okv_i, okv_r, eq_self, true_and, and_true, Option.some.injEq, exists_eq_left', rgT, ixT, ixU, ↓if_pos, ↓if_neg, Int.toNat_natCast, bT0, bT1, g_4_0, g_4_1, g_4_2, g_4_3, g_4_4, g_4_5, g_4_6, g_4_7, g_4_8, s_4_8, g_4_9, s_4_9, g_4_10, s_4_10, g_4_11, s_4_11, g_4_12, s_4_12, rget_15, rget_17, gget_19, e1, e2, e4, h6]
      exact ihx _ (by omega) _ rfl
theorem pl_last (hp : PV A F J M N sg ln) (hj : j < J) : Ew 59 [vR 4, .inl (j : Int)] (mk A F q) Q ↔ Q (.inl (some (.inl (fi sg ln M j N))), mk A F q) := by
  obtain ⟨p1, p2, p3, p4, p5, p6, p7, p8⟩ := hp
  refine Ew_iff ⟨rc_59 g_4_0 rfl, ?_⟩
  rw [lc_59]
  simp only [r59_0, r59_1, r59_4, r59_5, r59_6, r59_8, r59_11, r59_12, r59_15, r59_16, r59_17, r59_20, r59_21, r59_24, r59_25, r59_28, r59_29, r59_32, r59_33, r59_36, r59_37, r59_40, r59_41, r59_42, r59_45, r59_48, r59_49, Cn_n, Cn_v, Cn_x, dp_0, dp_1, dp_2, dp_3, dp_4, okv_n, okv_i, okv_r, eq_self, true_and, and_true, Option.some.injEq, exists_eq_left', g_4_0, g_4_1, g_4_2, g_4_3, g_4_4, g_4_5, g_4_6, g_4_7, g_4_8, s_4_8, g_4_9, s_4_9, g_4_10, s_4_10, g_4_11, s_4_11, g_4_12, s_4_12, p1]
  suffices key : ∀ x : Nat, x ≤ N → (∀ i, x ≤ i → i < N → mo sg M i j = -1) → ∀ y : Int, y = (x : Int) - 1 → Wp 59 7 [some (vR 4), some (.inl (j : Int)), some (.inl y)] [] (mk A F q) (fun r => r = (.inl (some (.inl (fi sg ln M j N))), mk A F q)) by
    exact key N (Nat.le_refl N) (fun i h1 h2 => by omega) _ rfl
  intro x
  induction x with
  | zero =>
    intro hx hno y hy
    have e0 : fi sg ln M j N = 0 := fi_dn (Nat.zero_le N) hno
    rw [r59_7, e0]
    simp (disch := omega) only [r59_0, r59_1, r59_4, r59_5, r59_6, r59_8, r59_11, r59_12, r59_15, r59_16, r59_17, r59_20, r59_21, r59_24, r59_25, r59_28, r59_29, r59_32, r59_33, r59_36, r59_37, r59_40, r59_41, r59_42, r59_45, r59_48, r59_49, Cn_n, Cn_v, Cn_x, dp_0, dp_1, dp_2, dp_3, dp_4, okv_n, okv_i, okv_r, eq_self, true_and, and_true, Option.some.injEq, exists_eq_left', rgT, ixT, ixU, ↓if_pos, ↓if_neg, Int.toNat_natCast, bT0, bT1, g_4_0, g_4_1, g_4_2, g_4_3, g_4_4, g_4_5, g_4_6, g_4_7, g_4_8, s_4_8, g_4_9, s_4_9, g_4_10, s_4_10, g_4_11, s_4_11, g_4_12, s_4_12]
  | succ x ih =>
    intro hx hno y hy
    have hy2 : y = (x : Int) := by omega
    subst hy2
    obtain ⟨e1, e2, e3⟩ := p6 x (by omega)
    have e4 : A 20 (5 * x + j) = mo sg M x j := e3 j hj
    have b1 := st_bd p7 p8 (show x < N by omega)
    have b2 := @mo_bd sg M x j
    rw [r59_7]
    by_cases h9 : mo sg M x j = -1
    · simp (disch := omega) only [r59_0, r59_1, r59_4, r59_5, r59_6, r59_8, r59_11, r59_12, r59_15, r59_16, r59_17, r59_20, r59_21, r59_24, r59_25, r59_28, r59_29, r59_32, r59_33, r59_36, r59_37, r59_40, r59_41, r59_42, r59_45, r59_48, r59_49, Cn_n, Cn_v, Cn_x, dp_0, dp_1, dp_2, dp_3, dp_4, okv_n, okv_i, okv_r, eq_self, true_and, and_true, Option.some.injEq, exists_eq_left', rgT, ixT, ixU, ↓if_pos, ↓if_neg, Int.toNat_natCast, bT0, bT1, g_4_0, g_4_1, g_4_2, g_4_3, g_4_4, g_4_5, g_4_6, g_4_7, g_4_8, s_4_8, g_4_9, s_4_9, g_4_10, s_4_10, g_4_11, s_4_11, g_4_12, s_4_12, gget_19, e4]
      refine ih (by omega) (fun i h1 h2 => ?_) _ (by omega)
      by_cases hix : i = x
      · subst hix; exact h9
      · exact hno i (by omega) h2
    · have e0 : fi sg ln M j N = isum ln x + ln x := by
        rw [fi_dn hx hno]
        simp only [fi]
        rw [if_neg h9]
      rw [e0]
      simp (disch := omega) only [r59_0, r59_1, r59_4, r59_5, r59_6, r59_8, r59_11, r59_12, r59_15, r59_16, r59_17, r59_20, r59_21, r59_24, r59_25, r59_28, r59_29, r59_32, r59_33, r59_36, r59_37, r59_40, r59_41, r59_42, r59_45, r59_48, r59_49, Cn_n, Cn_v, Cn_x, dp_0, dp_1, dp_2, dp_3, dp_4, okv_n, okv_i, okv_r, eq_self, true_and, and_true, Option.some.injEq, exists_eq_left', rgT, ixT, ixU, ↓if_pos, ↓if_neg, Int.toNat_natCast, bT0, bT1, g_4_0, g_4_1, g_4_2, g_4_3, g_4_4, g_4_5, g_4_6, g_4_7, g_4_8, s_4_8, g_4_9, s_4_9, g_4_10, s_4_10, g_4_11, s_4_11, g_4_12, s_4_12, rget_15, rget_17, gget_19, e1, e2, e4]
end PLAN
