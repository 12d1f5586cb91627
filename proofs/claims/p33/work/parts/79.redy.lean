/-! the plan's questions where the plan is ready -/
abbrev RDY (A : Nat → Nat → Int) (F : Nat → Int) (J M N : Nat) (Ws : Nat → Nat → Int) (sg : Nat → Nat → Nat) (ln : Nat → Int) : Prop := F 72 = 1 ∧ F 17 = (J : Int) ∧ F 18 = (M : Int) ∧ F 74 = (M : Int) ∧ SEQ (A 3) J M N Ws sg ln ∧ PV A F J M N sg ln
theorem tdn {a n : Nat} : ((a : Nat) : Int).tdiv (n : Int) = ((a / n : Nat) : Int) := by
  rw [Int.tdiv_eq_ediv_of_nonneg (by omega)]
  rfl
theorem tmn {a n : Nat} : ((a : Nat) : Int).tmod (n : Int) = ((a % n : Nat) : Int) := by
  rw [Int.tmod_eq_emod_of_nonneg (by omega)]
  rfl
section REDY
variable {A : Nat → Nat → Int} {F : Nat → Int} {q : List Int × Nat} {Q : AR → Prop} {J M N k j m : Nat} {Ws : Nat → Nat → Int} {sg : Nat → Nat → Nat} {ln : Nat → Int} {v : Int}
theorem RDY_of {A1 : Nat → Nat → Int} {F1 : Nat → Int} (h : PRE A F J M) (g : PPO A A1 F F1 J M N Ws sg ln) : RDY A1 F1 J M N Ws sg ln ∧ A1 3 = A 3 := by
  have e3 : A1 3 = A 3 := g.1 3 (by decide) (by decide) (by decide) (by decide) (by decide) (by decide) (by decide) (by decide)
  obtain ⟨N9, Ws9, sg9, ln9, -, -, -, hM9, -⟩ := g.2.2.2.2.1
  refine ⟨⟨g.2.2.2.2.2, ?_, ?_, hM9, ?_, g.2.2.2.1⟩, e3⟩
  · rw [g.2.1 17 (by decide) (by decide) (by decide) (by decide) (by decide)]; exact h.2.1
  · rw [g.2.1 18 (by decide) (by decide) (by decide) (by decide) (by decide)]; exact h.2.2.1
  · rw [e3]; exact g.2.2.1
theorem RDY_pre (h : RDY A F J M N Ws sg ln) (hJ1 : 1 ≤ J) (ht : TOK (A 3)) : PRE A F J M := by
  obtain ⟨h1, h2, h3, h5, h4, p1, p2, p3, p4, p5, p6, p7, p8⟩ := h
  exact ⟨Or.inr ⟨h1, N, Ws, sg, ln, h4, p1, p2, h5, p6⟩, h2, h3, p4, p5, hJ1, ht⟩
theorem y_slices (h : RDY A F J M N Ws sg ln) : Ew 90 [vR 0] (mk A F q) Q ↔ Q (.inl (some (.inl (N : Int))), mk A F q) := by
  unfold Ew
  rw [rc_90 g_0_0, lc_90]
  simp only [r90_0, r90_1, r90_4, r90_5, r90_8, r90_11, r90_12, r90_15, r90_18, Cn_n, Cn_v, Cn_x, dp_0, dp_1, dp_2, dp_3, dp_4, okv_n, okv_i, okv_r, eq_self, true_and, and_true, Option.some.injEq, exists_eq_left', rgT, ixT, ixU, ↓if_pos, ↓if_neg, Int.toNat_natCast, bT0, bT1, g_0_0, g_0_1, g_0_2, g_0_3, g_0_4, sp_prepare1 h.1, pl_count, h.2.2.2.2.2.1]
theorem y_start (h : RDY A F J M N Ws sg ln) (hk : k < N) : Ew 91 [vR 0, .inl (k : Int)] (mk A F q) Q ↔ Q (.inl (some (.inl (isum ln k))), mk A F q) := by
  obtain ⟨h1, h2, h3, h5, h4, p1, p2, p3, p4, p5, p6, p7, p8⟩ := h
  have e1 := (p6 k hk).1
  unfold Ew
  rw [rc_91 g_0_0 rfl, lc_91]
  simp (disch := omega) only [r91_0, r91_1, r91_4, r91_5, r91_8, r91_11, r91_12, r91_13, r91_16, r91_19, r91_22, r91_23, r91_26, r91_27, r91_30, Cn_n, Cn_v, Cn_x, dp_0, dp_1, dp_2, dp_3, dp_4, okv_n, okv_i, okv_r, eq_self, true_and, and_true, Option.some.injEq, exists_eq_left', rgT, ixT, ixU, ↓if_pos, ↓if_neg, Int.toNat_natCast, bT0, bT1, g_0_0, g_0_1, g_0_2, g_0_3, g_0_4, sp_prepare1 h1, pl_count, p1, n_ix, pl_start, e1]
theorem y_length (h : RDY A F J M N Ws sg ln) (hk : k < N) : Ew 92 [vR 0, .inl (k : Int)] (mk A F q) Q ↔ Q (.inl (some (.inl (ln k))), mk A F q) := by
  obtain ⟨h1, h2, h3, h5, h4, p1, p2, p3, p4, p5, p6, p7, p8⟩ := h
  have e1 := (p6 k hk).2.1
  unfold Ew
  rw [rc_92 g_0_0 rfl, lc_92]
  simp (disch := omega) only [r92_0, r92_1, r92_4, r92_5, r92_8, r92_11, r92_12, r92_13, r92_16, r92_19, r92_22, r92_23, r92_26, r92_27, r92_30, Cn_n, Cn_v, Cn_x, dp_0, dp_1, dp_2, dp_3, dp_4, okv_n, okv_i, okv_r, eq_self, true_and, and_true, Option.some.injEq, exists_eq_left', rgT, ixT, ixU, ↓if_pos, ↓if_neg, Int.toNat_natCast, bT0, bT1, g_0_0, g_0_1, g_0_2, g_0_3, g_0_4, sp_prepare1 h1, pl_count, p1, n_ix, pl_length, e1]
theorem y_machine (h : RDY A F J M N Ws sg ln) (hk : k < N) (hj : j < J) : Ew 93 [vR 0, .inl (k : Int), .inl (j : Int)] (mk A F q) Q ↔ Q (.inl (some (.inl (mo sg M k j))), mk A F q) := by
  obtain ⟨h1, h2, h3, h5, h4, p1, p2, p3, p4, p5, p6, p7, p8⟩ := h
  have e1 : A 20 (5 * k + j) = mo sg M k j := (p6 k hk).2.2 j hj
  unfold Ew
  rw [rc_93 g_0_0 rfl rfl, lc_93]
  simp (disch := omega) only [r93_0, r93_1, r93_4, r93_5, r93_8, r93_11, r93_12, r93_13, r93_16, r93_19, r93_22, r93_23, r93_24, r93_27, r93_28, r93_31, r93_32, r93_33, r93_36, Cn_n, Cn_v, Cn_x, dp_0, dp_1, dp_2, dp_3, dp_4, okv_n, okv_i, okv_r, eq_self, true_and, and_true, Option.some.injEq, exists_eq_left', rgT, ixT, ixU, ↓if_pos, ↓if_neg, Int.toNat_natCast, bT0, bT1, g_0_0, g_0_1, g_0_2, g_0_3, g_0_4, sp_prepare1 h1, pl_count, p1, n_ix, n_job h2 p4, pl_machine, e1]
theorem y_jobAt (h : RDY A F J M N Ws sg ln) (hv : rg v) (hm : m < M) : Ew 94 [vR 0, .inl v, .inl (m : Int)] (mk A F q) Q ↔ Q (.inl (some (.inl (ja sg ln J M v (m : Int) N))), mk A F q) := by
  have hp := h.2.2.2.2.2
  have hs := h.2.2.2.2.1
  obtain ⟨h1, h2, h3, h5, h4, p1, p2, p3, p4, p5, p6, p7, p8⟩ := h
  unfold Ew
  rw [rc_94 g_0_0 rfl rfl, lc_94]
  simp (disch := omega) only [r94_0, r94_1, r94_2, r94_5, r94_6, r94_9, r94_10, r94_13, r94_16, r94_17, r94_20, r94_21, r94_22, r94_25, Cn_n, Cn_v, Cn_x, dp_0, dp_1, dp_2, dp_3, dp_4, okv_n, okv_i, okv_r, eq_self, true_and, and_true, Option.some.injEq, exists_eq_left', rgT, ixT, ixU, ↓if_pos, ↓if_neg, Int.toNat_natCast, bT0, bT1, g_0_0, g_0_1, g_0_2, g_0_3, g_0_4, sp_prepare1 h1, n_mac h3 p5, pl_jobOn hp (show (0 : Int) ≤ (m : Int) ∧ (m : Int) ≤ 100 by omega) hv (mo_inj hs (show (0 : Int) ≤ (m : Int) by omega))]
theorem y_done (h : RDY A F J M N Ws sg ln) (hv : rg v) (hj : j < J) (hm : m < M) : Ew 95 [vR 0, .inl (j : Int), .inl (m : Int), .inl v] (mk A F q) Q ↔ Q (.inl (some (.inl (isum (dn sg ln M j (m : Int) v) N))), mk A F q) := by
  have hp := h.2.2.2.2.2
  obtain ⟨h1, h2, h3, h5, h4, p1, p2, p3, p4, p5, p6, p7, p8⟩ := h
  unfold Ew
  rw [rc_95 g_0_0 rfl rfl rfl, lc_95]
  simp (disch := omega) only [r95_0, r95_1, r95_2, r95_5, r95_6, r95_7, r95_10, r95_11, r95_14, r95_15, r95_18, r95_21, r95_22, r95_25, r95_26, r95_27, r95_28, r95_31, Cn_n, Cn_v, Cn_x, dp_0, dp_1, dp_2, dp_3, dp_4, okv_n, okv_i, okv_r, eq_self, true_and, and_true, Option.some.injEq, exists_eq_left', rgT, ixT, ixU, ↓if_pos, ↓if_neg, Int.toNat_natCast, bT0, bT1, g_0_0, g_0_1, g_0_2, g_0_3, g_0_4, sp_prepare1 h1, n_job h2 p4, n_mac h3 p5, pl_worked hp hj (show (0 : Int) ≤ (m : Int) ∧ (m : Int) ≤ 100 by omega) hv]
theorem y_finish (h : RDY A F J M N Ws sg ln) (hj : j < J) : Ew 96 [vR 0, .inl (j : Int)] (mk A F q) Q ↔ Q (.inl (some (.inl (fi sg ln M j N))), mk A F q) := by
  have hp := h.2.2.2.2.2
  obtain ⟨h1, h2, h3, h5, h4, p1, p2, p3, p4, p5, p6, p7, p8⟩ := h
  unfold Ew
  rw [rc_96 g_0_0 rfl, lc_96]
  simp (disch := omega) only [r96_0, r96_1, r96_2, r96_5, r96_6, r96_9, r96_10, r96_13, r96_16, r96_17, r96_20, r96_21, r96_24, Cn_n, Cn_v, Cn_x, dp_0, dp_1, dp_2, dp_3, dp_4, okv_n, okv_i, okv_r, eq_self, true_and, and_true, Option.some.injEq, exists_eq_left', rgT, ixT, ixU, ↓if_pos, ↓if_neg, Int.toNat_natCast, bT0, bT1, g_0_0, g_0_1, g_0_2, g_0_3, g_0_4, sp_prepare1 h1, n_job h2 p4, pl_last hp hj]
theorem y_breaks (h : RDY A F J M N Ws sg ln) : Ew 97 [vR 0] (mk A F q) Q ↔ Q (.inl (some (.inl (isum (fun k => isum (fun j => bi (brk sg M N k j)) J) N))), mk A F q) := by
  have hp := h.2.2.2.2.2
  unfold Ew
  rw [rc_97 g_0_0, lc_97]
  simp (disch := omega) only [r97_0, r97_1, r97_4, r97_5, r97_8, r97_11, r97_12, r97_15, r97_18, Cn_n, Cn_v, Cn_x, dp_0, dp_1, dp_2, dp_3, dp_4, okv_n, okv_i, okv_r, eq_self, true_and, and_true, Option.some.injEq, exists_eq_left', rgT, ixT, ixU, ↓if_pos, ↓if_neg, Int.toNat_natCast, bT0, bT1, g_0_0, g_0_1, g_0_2, g_0_3, g_0_4, sp_prepare1 h.1, pl_breaks hp]
theorem y_mean (h : RDY A F J M N Ws sg ln) (hJ1 : 1 ≤ J) (hq : Q (.inl (some (.inr (.inr (.inl (mnd (isum (fun j => fi sg ln M j N) J) J))))), mk A F q)) : Ew 105 [vR 0] (mk A F q) Q := by
  have hp := h.2.2.2.2.2
  have g9 := hp
  obtain ⟨h1, h2, h3, h5, h4, p1, p2, p3, p4, p5, p6, p7, p8⟩ := h
  have hb := @fs_bd M N sg ln p7 p8 J p4
  have hnan := (mnd_ok hb.1 hb.2 (show (1 : Int) ≤ (J : Int) by omega) (by omega)).1
  unfold mnd at hnan hq
  refine ⟨rc_105 g_0_0, ?_⟩
  rw [lc_105]
  simp (disch := omega) only [r105_0, r105_1, r105_4, r105_5, r105_8, r105_11, r105_12, r105_15, r105_18, r105_19, r105_20, r105_21, r105_22, r105_24, r105_25, r105_28, r105_29, r105_30, r105_33, r105_34, r105_37, r105_38, r105_39, r105_42, r105_45, r105_46, r105_47, r105_50, r105_51, r105_54, r105_55, r105_56, r105_57, r105_58, r105_59, Cn_n, Cn_v, Cn_x, dp_0, dp_1, dp_2, dp_3, dp_4, okv_n, okv_i, okv_r, eq_self, true_and, and_true, Option.some.injEq, exists_eq_left', rgT, ixT, ixU, ↓if_pos, ↓if_neg, Int.toNat_natCast, bT0, bT1, g_0_0, g_0_1, g_0_2, g_0_3, g_0_4, sp_prepare1 h1, t_jobs, h2]
  suffices key : ∀ d x : Nat, x + d = J → ∀ a : Int, a = isum (fun j => fi sg ln M j N) x → Wp 105 23 [some (vR 0), some (.inl (J : Int)), some (.inl a), some (.inl (x : Int))] [] (mk A F q) Q by
    exact key J 0 (by omega) 0 rfl
  intro d
  induction d with
  | zero =>
    intro x hx a ha
    obtain rfl : x = J := by omega
    rw [← ha] at hnan hq hb
    rw [r105_23]
    simp (disch := omega) only [r105_0, r105_1, r105_4, r105_5, r105_8, r105_11, r105_12, r105_15, r105_18, r105_19, r105_20, r105_21, r105_22, r105_24, r105_25, r105_28, r105_29, r105_30, r105_33, r105_34, r105_37, r105_38, r105_39, r105_42, r105_45, r105_46, r105_47, r105_50, r105_51, r105_54, r105_55, r105_56, r105_57, r105_58, r105_59, Cn_n, Cn_v, Cn_x, dp_0, dp_1, dp_2, dp_3, dp_4, okv_n, okv_i, okv_r, eq_self, true_and, and_true, Option.some.injEq, exists_eq_left', rgT, ixT, ixU, ↓if_pos, ↓if_neg, Int.toNat_natCast, bT0, bT1, g_0_0, g_0_1, g_0_2, g_0_3, g_0_4, hnan]
    exact hq
  | succ d ih =>
    intro x hx a ha
    have e9 : isum (fun j => fi sg ln M j N) (x + 1) = isum (fun j => fi sg ln M j N) x + fi sg ln M x N := rfl
    rw [r105_23]
    simp (disch := omega) only [r105_0, r105_1, r105_4, r105_5, r105_8, r105_11, r105_12, r105_15, r105_18, r105_19, r105_20, r105_21, r105_22, r105_24, r105_25, r105_28, r105_29, r105_30, r105_33, r105_34, r105_37, r105_38, r105_39, r105_42, r105_45, r105_46, r105_47, r105_50, r105_51, r105_54, r105_55, r105_56, r105_57, r105_58, r105_59, Cn_n, Cn_v, Cn_x, dp_0, dp_1, dp_2, dp_3, dp_4, okv_n, okv_i, okv_r, eq_self, true_and, and_true, Option.some.injEq, exists_eq_left', rgT, ixT, ixU, ↓if_pos, ↓if_neg, Int.toNat_natCast, bT0, bT1, g_0_0, g_0_1, g_0_2, g_0_3, g_0_4, pl_last g9 (show x < J by omega)]
    exact ih (x + 1) (by omega) _ (by omega)
end REDY
