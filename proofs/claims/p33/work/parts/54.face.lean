/-! the shop's face over its plan -/
abbrev PPO (A A1 : Nat → Nat → Int) (F F1 : Nat → Int) (J M N : Nat) (Ws : Nat → Nat → Int) (sg : Nat → Nat → Nat) (ln : Nat → Int) : Prop := SAM A A1 ∧ SAF F F1 ∧ SEQ (A 3) J M N Ws sg ln ∧ PV A1 F1 J M N sg ln ∧ PLN A1 F1 (A 3) J M ∧ F1 72 = 1
abbrev PRE (A : Nat → Nat → Int) (F : Nat → Int) (J M : Nat) : Prop := (F 72 = 0 ∨ (F 72 = 1 ∧ PLN A F (A 3) J M)) ∧ F 17 = (J : Int) ∧ F 18 = (M : Int) ∧ J ≤ 5 ∧ M ≤ 5 ∧ 1 ≤ J ∧ TOK (A 3)
/-- a machine has one job in a slice -/
theorem mo_inj {t : Nat → Int} {J M N : Nat} {Ws : Nat → Nat → Int} {sg : Nat → Nat → Nat} {ln : Nat → Int} (hs : SEQ t J M N Ws sg ln) {m : Int} (hm : 0 ≤ m) : ∀ k, k < N → ∀ i, i < J → ∀ x, x < J → mo sg M k i = m → mo sg M k x = m → i = x := by
  intro k hk i hi x hx h1 h2
  have hp := (hs.2.1 k hk).1.1
  refine hp.2 i (by omega) x (by omega) ?_
  unfold mo at h1 h2
  split at h1
  · split at h2
    · omega
    · omega
  · omega
section FACE
variable {A : Nat → Nat → Int} {F : Nat → Int} {q : List Int × Nat} {Q : AR → Prop} {J M : Nat} {i v t : Int}
theorem sp_prep (h : PRE A F J M) (hQ : ∀ A1 F1 N Ws sg ln, PPO A A1 F F1 J M N Ws sg ln → Q (.inl none, mk A1 F1 q)) : Ew 44 [vR 4, vR 1] (mk A F q) Q := by
  obtain ⟨h1, hJ, hM, hJ5, hM5, hJ1, ht⟩ := h
  have hbd := bnd_bd ht hJ5 hM5
  rcases h1 with h1 | ⟨h1, h2⟩
  · refine sp_prepare0 h1 hJ hM hJ5 hM5 hJ1 ht (fun A1 F1 g1 g2 g3 g4 => ?_)
    have g9 := g3
    obtain ⟨N, Ws, sg, ln, s1, s2, s3, s4, s5⟩ := g3
    exact hQ A1 F1 N Ws sg ln ⟨g1, g2, s1, ⟨s2, s3, s1.2.2.2, hJ5, hM5, s5, SEQ_pos (by omega) s1.2.1, by rw [s1.2.2.1]; omega⟩, g9, g4⟩
  · rw [sp_prepare1 h1]
    have g9 := h2
    obtain ⟨N, Ws, sg, ln, s1, s2, s3, s4, s5⟩ := h2
    exact hQ A F N Ws sg ln ⟨fun _ _ _ _ _ _ _ _ _ => rfl, fun _ _ _ _ _ _ => rfl, s1, ⟨s2, s3, s1.2.2.2, hJ5, hM5, s5, SEQ_pos (by omega) s1.2.1, by rw [s1.2.2.1]; omega⟩, g9, h1⟩
theorem o_slices (h : PRE A F J M) (hQ : ∀ A1 F1 N Ws sg ln, PPO A A1 F F1 J M N Ws sg ln → Q (.inl (some (.inl (N : Int))), mk A1 F1 q)) : Ew 90 [vR 0] (mk A F q) Q := by
  refine ⟨rc_90 g_0_0, ?_⟩
  rw [lc_90]
  simp only [r90_0, r90_1, r90_4, r90_5, r90_8, r90_11, r90_12, r90_15, r90_18, Cn_n, Cn_v, Cn_x, dp_0, dp_1, dp_2, dp_3, dp_4, okv_n, okv_i, okv_r, eq_self, true_and, and_true, Option.some.injEq, exists_eq_left', rgT, ixT, ixU, ↓if_pos, ↓if_neg, Int.toNat_natCast, bT0, bT1, g_0_0, g_0_1, g_0_2, g_0_3, g_0_4]
  refine sp_prep h (fun A1 F1 N Ws sg ln g => ?_)
  simp only [r90_0, r90_1, r90_4, r90_5, r90_8, r90_11, r90_12, r90_15, r90_18, Cn_n, Cn_v, Cn_x, dp_0, dp_1, dp_2, dp_3, dp_4, okv_n, okv_i, okv_r, eq_self, true_and, and_true, Option.some.injEq, exists_eq_left', rgT, ixT, ixU, ↓if_pos, ↓if_neg, Int.toNat_natCast, bT0, bT1, g_0_0, g_0_1, g_0_2, g_0_3, g_0_4, pl_count, g.2.2.2.1.1]
  exact hQ _ _ _ _ _ _ g
theorem o_sliceStart (h : PRE A F J M) (hi : rg i) (hQ : ∀ A1 F1 N Ws sg ln, PPO A A1 F F1 J M N Ws sg ln → 0 ≤ i → i < N → Q (.inl (some (.inl (isum ln i.toNat))), mk A1 F1 q)) (hX : ∀ A1 F1 N Ws sg ln, PPO A A1 F F1 J M N Ws sg ln → (i < 0 ∨ (N : Int) ≤ i) → Q (.inr 0, mk A1 F1 (bp q))) : Ew 91 [vR 0, .inl i] (mk A F q) Q := by
  refine ⟨rc_91 g_0_0 rfl, ?_⟩
  rw [lc_91]
  simp only [r91_0, r91_1, r91_4, r91_5, r91_8, r91_11, r91_12, r91_13, r91_16, r91_19, r91_22, r91_23, r91_26, r91_27, r91_30, Cn_n, Cn_v, Cn_x, dp_0, dp_1, dp_2, dp_3, dp_4, okv_n, okv_i, okv_r, eq_self, true_and, and_true, Option.some.injEq, exists_eq_left', rgT, ixT, ixU, ↓if_pos, ↓if_neg, Int.toNat_natCast, bT0, bT1, g_0_0, g_0_1, g_0_2, g_0_3, g_0_4]
  refine sp_prep h (fun A1 F1 N Ws sg ln g => ?_)
  obtain ⟨p1, p2, p3, p4, p5, p6, p7, p8⟩ := g.2.2.2.1
  have hN : rg (N : Int) := ⟨by omega, by omega⟩
  by_cases k1 : 0 ≤ i ∧ i < N
  · obtain ⟨k, rfl⟩ : ∃ k : Nat, i = k := ⟨i.toNat, by omega⟩
    have e1 := (p6 k (by omega)).1
    simp (disch := omega) only [r91_0, r91_1, r91_4, r91_5, r91_8, r91_11, r91_12, r91_13, r91_16, r91_19, r91_22, r91_23, r91_26, r91_27, r91_30, Cn_n, Cn_v, Cn_x, dp_0, dp_1, dp_2, dp_3, dp_4, okv_n, okv_i, okv_r, eq_self, true_and, and_true, Option.some.injEq, exists_eq_left', rgT, ixT, ixU, ↓if_pos, ↓if_neg, Int.toNat_natCast, bT0, bT1, g_0_0, g_0_1, g_0_2, g_0_3, g_0_4, pl_count, p1, n_ix hi hN, pl_start, e1]
    have := hQ _ _ _ _ _ _ g k1.1 k1.2
    rw [Int.toNat_natCast] at this
    exact this
  · simp (disch := omega) only [r91_0, r91_1, r91_4, r91_5, r91_8, r91_11, r91_12, r91_13, r91_16, r91_19, r91_22, r91_23, r91_26, r91_27, r91_30, Cn_n, Cn_v, Cn_x, dp_0, dp_1, dp_2, dp_3, dp_4, okv_n, okv_i, okv_r, eq_self, true_and, and_true, Option.some.injEq, exists_eq_left', rgT, ixT, ixU, ↓if_pos, ↓if_neg, Int.toNat_natCast, bT0, bT1, g_0_0, g_0_1, g_0_2, g_0_3, g_0_4, pl_count, p1, n_ixx hi hN]
    exact hX _ _ _ _ _ _ g (by omega)
theorem o_sliceLength (h : PRE A F J M) (hi : rg i) (hQ : ∀ A1 F1 N Ws sg ln, PPO A A1 F F1 J M N Ws sg ln → 0 ≤ i → i < N → Q (.inl (some (.inl (ln i.toNat))), mk A1 F1 q)) (hX : ∀ A1 F1 N Ws sg ln, PPO A A1 F F1 J M N Ws sg ln → (i < 0 ∨ (N : Int) ≤ i) → Q (.inr 0, mk A1 F1 (bp q))) : Ew 92 [vR 0, .inl i] (mk A F q) Q := by
  refine ⟨rc_92 g_0_0 rfl, ?_⟩
  rw [lc_92]
  simp only [r92_0, r92_1, r92_4, r92_5, r92_8, r92_11, r92_12, r92_13, r92_16, r92_19, r92_22, r92_23, r92_26, r92_27, r92_30, Cn_n, Cn_v, Cn_x, dp_0, dp_1, dp_2, dp_3, dp_4, okv_n, okv_i, okv_r, eq_self, true_and, and_true, Option.some.injEq, exists_eq_left', rgT, ixT, ixU, ↓if_pos, ↓if_neg, Int.toNat_natCast, bT0, bT1, g_0_0, g_0_1, g_0_2, g_0_3, g_0_4]
  refine sp_prep h (fun A1 F1 N Ws sg ln g => ?_)
  obtain ⟨p1, p2, p3, p4, p5, p6, p7, p8⟩ := g.2.2.2.1
  have hN : rg (N : Int) := ⟨by omega, by omega⟩
  by_cases k1 : 0 ≤ i ∧ i < N
  · obtain ⟨k, rfl⟩ : ∃ k : Nat, i = k := ⟨i.toNat, by omega⟩
    have e1 := (p6 k (by omega)).2.1
    simp (disch := omega) only [r92_0, r92_1, r92_4, r92_5, r92_8, r92_11, r92_12, r92_13, r92_16, r92_19, r92_22, r92_23, r92_26, r92_27, r92_30, Cn_n, Cn_v, Cn_x, dp_0, dp_1, dp_2, dp_3, dp_4, okv_n, okv_i, okv_r, eq_self, true_and, and_true, Option.some.injEq, exists_eq_left', rgT, ixT, ixU, ↓if_pos, ↓if_neg, Int.toNat_natCast, bT0, bT1, g_0_0, g_0_1, g_0_2, g_0_3, g_0_4, pl_count, p1, n_ix hi hN, pl_length, e1]
    have := hQ _ _ _ _ _ _ g k1.1 k1.2
    rw [Int.toNat_natCast] at this
    exact this
  · simp (disch := omega) only [r92_0, r92_1, r92_4, r92_5, r92_8, r92_11, r92_12, r92_13, r92_16, r92_19, r92_22, r92_23, r92_26, r92_27, r92_30, Cn_n, Cn_v, Cn_x, dp_0, dp_1, dp_2, dp_3, dp_4, okv_n, okv_i, okv_r, eq_self, true_and, and_true, Option.some.injEq, exists_eq_left', rgT, ixT, ixU, ↓if_pos, ↓if_neg, Int.toNat_natCast, bT0, bT1, g_0_0, g_0_1, g_0_2, g_0_3, g_0_4, pl_count, p1, n_ixx hi hN]
    exact hX _ _ _ _ _ _ g (by omega)
theorem o_machineIn (h : PRE A F J M) (hi : rg i) (hv : rg v) (hQ : ∀ A1 F1 N Ws sg ln, PPO A A1 F F1 J M N Ws sg ln → 0 ≤ i → i < N → 0 ≤ v → v < J → Q (.inl (some (.inl (mo sg M i.toNat v.toNat))), mk A1 F1 q)) (hX : ∀ A1 F1 N Ws sg ln, PPO A A1 F F1 J M N Ws sg ln → (i < 0 ∨ (N : Int) ≤ i ∨ v < 0 ∨ (J : Int) ≤ v) → Q (.inr 0, mk A1 F1 (bp q))) : Ew 93 [vR 0, .inl i, .inl v] (mk A F q) Q := by
  refine ⟨rc_93 g_0_0 rfl rfl, ?_⟩
  rw [lc_93]
  simp only [r93_0, r93_1, r93_4, r93_5, r93_8, r93_11, r93_12, r93_13, r93_16, r93_19, r93_22, r93_23, r93_24, r93_27, r93_28, r93_31, r93_32, r93_33, r93_36, Cn_n, Cn_v, Cn_x, dp_0, dp_1, dp_2, dp_3, dp_4, okv_n, okv_i, okv_r, eq_self, true_and, and_true, Option.some.injEq, exists_eq_left', rgT, ixT, ixU, ↓if_pos, ↓if_neg, Int.toNat_natCast, bT0, bT1, g_0_0, g_0_1, g_0_2, g_0_3, g_0_4]
  refine sp_prep h (fun A1 F1 N Ws sg ln g => ?_)
  obtain ⟨p1, p2, p3, p4, p5, p6, p7, p8⟩ := g.2.2.2.1
  have hN : rg (N : Int) := ⟨by omega, by omega⟩
  have hJ1 : F1 17 = J := by rw [g.2.1 17 (by decide) (by decide) (by decide) (by decide) (by decide)]; exact h.2.1
  by_cases k1 : 0 ≤ i ∧ i < N
  · by_cases k2 : 0 ≤ v ∧ v < J
    · obtain ⟨k, rfl⟩ : ∃ k : Nat, i = k := ⟨i.toNat, by omega⟩
      obtain ⟨j, rfl⟩ : ∃ j : Nat, v = j := ⟨v.toNat, by omega⟩
      have e1 : A1 20 (5 * k + j) = mo sg M k j := (p6 k (by omega)).2.2 j (by omega)
      simp (disch := omega) only [r93_0, r93_1, r93_4, r93_5, r93_8, r93_11, r93_12, r93_13, r93_16, r93_19, r93_22, r93_23, r93_24, r93_27, r93_28, r93_31, r93_32, r93_33, r93_36, Cn_n, Cn_v, Cn_x, dp_0, dp_1, dp_2, dp_3, dp_4, okv_n, okv_i, okv_r, eq_self, true_and, and_true, Option.some.injEq, exists_eq_left', rgT, ixT, ixU, ↓if_pos, ↓if_neg, Int.toNat_natCast, bT0, bT1, g_0_0, g_0_1, g_0_2, g_0_3, g_0_4, pl_count, p1, n_ix hi hN, n_job hJ1 p4 hv, pl_machine, e1]
      have := hQ _ _ _ _ _ _ g k1.1 k1.2 k2.1 k2.2
      rw [Int.toNat_natCast, Int.toNat_natCast] at this
      exact this
    · simp (disch := omega) only [r93_0, r93_1, r93_4, r93_5, r93_8, r93_11, r93_12, r93_13, r93_16, r93_19, r93_22, r93_23, r93_24, r93_27, r93_28, r93_31, r93_32, r93_33, r93_36, Cn_n, Cn_v, Cn_x, dp_0, dp_1, dp_2, dp_3, dp_4, okv_n, okv_i, okv_r, eq_self, true_and, and_true, Option.some.injEq, exists_eq_left', rgT, ixT, ixU, ↓if_pos, ↓if_neg, Int.toNat_natCast, bT0, bT1, g_0_0, g_0_1, g_0_2, g_0_3, g_0_4, pl_count, p1, n_ix hi hN, n_jobx hJ1 p4 hv]
      exact hX _ _ _ _ _ _ g (by omega)
  · simp (disch := omega) only [r93_0, r93_1, r93_4, r93_5, r93_8, r93_11, r93_12, r93_13, r93_16, r93_19, r93_22, r93_23, r93_24, r93_27, r93_28, r93_31, r93_32, r93_33, r93_36, Cn_n, Cn_v, Cn_x, dp_0, dp_1, dp_2, dp_3, dp_4, okv_n, okv_i, okv_r, eq_self, true_and, and_true, Option.some.injEq, exists_eq_left', rgT, ixT, ixU, ↓if_pos, ↓if_neg, Int.toNat_natCast, bT0, bT1, g_0_0, g_0_1, g_0_2, g_0_3, g_0_4, pl_count, p1, n_ixx hi hN]
    exact hX _ _ _ _ _ _ g (by omega)
theorem o_jobAt (h : PRE A F J M) (ht : rg t) (hv : rg v) (h0 : 0 ≤ v) (h1 : v < M) (hQ : ∀ A1 F1 N Ws sg ln, PPO A A1 F F1 J M N Ws sg ln → Q (.inl (some (.inl (ja sg ln J M t v N))), mk A1 F1 q)) : Ew 94 [vR 0, .inl t, .inl v] (mk A F q) Q := by
  refine ⟨rc_94 g_0_0 rfl rfl, ?_⟩
  rw [lc_94]
  have hM := h.2.2.1
  have hM5 := h.2.2.2.2.1
  simp (disch := omega) only [r94_0, r94_1, r94_2, r94_5, r94_6, r94_9, r94_10, r94_13, r94_16, r94_17, r94_20, r94_21, r94_22, r94_25, Cn_n, Cn_v, Cn_x, dp_0, dp_1, dp_2, dp_3, dp_4, okv_n, okv_i, okv_r, eq_self, true_and, and_true, Option.some.injEq, exists_eq_left', rgT, ixT, ixU, ↓if_pos, ↓if_neg, Int.toNat_natCast, bT0, bT1, g_0_0, g_0_1, g_0_2, g_0_3, g_0_4, n_mac hM hM5 hv]
  refine sp_prep h (fun A1 F1 N Ws sg ln g => ?_)
  simp (disch := omega) only [r94_0, r94_1, r94_2, r94_5, r94_6, r94_9, r94_10, r94_13, r94_16, r94_17, r94_20, r94_21, r94_22, r94_25, Cn_n, Cn_v, Cn_x, dp_0, dp_1, dp_2, dp_3, dp_4, okv_n, okv_i, okv_r, eq_self, true_and, and_true, Option.some.injEq, exists_eq_left', rgT, ixT, ixU, ↓if_pos, ↓if_neg, Int.toNat_natCast, bT0, bT1, g_0_0, g_0_1, g_0_2, g_0_3, g_0_4, pl_jobOn g.2.2.2.1 (show 0 ≤ v ∧ v ≤ 100 by omega) ht (mo_inj g.2.2.1 h0)]
  exact hQ _ _ _ _ _ _ g
theorem o_jobAtx (h : PRE A F J M) (hv : rg v) (h0 : v < 0 ∨ (M : Int) ≤ v) : Ew 94 [vR 0, .inl t, .inl v] (mk A F q) Q ↔ Q (.inr 0, mk A F (bp q)) := by
  unfold Ew
  rw [rc_94 g_0_0 rfl rfl, lc_94]
  have hM := h.2.2.1
  have hM5 := h.2.2.2.2.1
  simp (disch := omega) only [r94_0, r94_1, r94_2, r94_5, r94_6, r94_9, r94_10, r94_13, r94_16, r94_17, r94_20, r94_21, r94_22, r94_25, Cn_n, Cn_v, Cn_x, dp_0, dp_1, dp_2, dp_3, dp_4, okv_n, okv_i, okv_r, eq_self, true_and, and_true, Option.some.injEq, exists_eq_left', rgT, ixT, ixU, ↓if_pos, ↓if_neg, Int.toNat_natCast, bT0, bT1, g_0_0, g_0_1, g_0_2, g_0_3, g_0_4, n_macx hM hM5 hv]
theorem o_done (h : PRE A F J M) (ht : rg t) (hi : rg i) (hv : rg v) (h0 : 0 ≤ i) (h1 : i < J) (h2 : 0 ≤ v) (h3 : v < M) (hQ : ∀ A1 F1 N Ws sg ln, PPO A A1 F F1 J M N Ws sg ln → Q (.inl (some (.inl (isum (dn sg ln M i.toNat v t) N))), mk A1 F1 q)) : Ew 95 [vR 0, .inl i, .inl v, .inl t] (mk A F q) Q := by
  refine ⟨rc_95 g_0_0 rfl rfl rfl, ?_⟩
  rw [lc_95]
  have hJ := h.2.1
  have hJ5 := h.2.2.2.1
  have hM := h.2.2.1
  have hM5 := h.2.2.2.2.1
  obtain ⟨j, rfl⟩ : ∃ j : Nat, i = j := ⟨i.toNat, by omega⟩
  simp (disch := omega) only [r95_0, r95_1, r95_2, r95_5, r95_6, r95_7, r95_10, r95_11, r95_14, r95_15, r95_18, r95_21, r95_22, r95_25, r95_26, r95_27, r95_28, r95_31, Cn_n, Cn_v, Cn_x, dp_0, dp_1, dp_2, dp_3, dp_4, okv_n, okv_i, okv_r, eq_self, true_and, and_true, Option.some.injEq, exists_eq_left', rgT, ixT, ixU, ↓if_pos, ↓if_neg, Int.toNat_natCast, bT0, bT1, g_0_0, g_0_1, g_0_2, g_0_3, g_0_4, n_job hJ hJ5 hi, n_mac hM hM5 hv]
  refine sp_prep h (fun A1 F1 N Ws sg ln g => ?_)
  simp (disch := omega) only [r95_0, r95_1, r95_2, r95_5, r95_6, r95_7, r95_10, r95_11, r95_14, r95_15, r95_18, r95_21, r95_22, r95_25, r95_26, r95_27, r95_28, r95_31, Cn_n, Cn_v, Cn_x, dp_0, dp_1, dp_2, dp_3, dp_4, okv_n, okv_i, okv_r, eq_self, true_and, and_true, Option.some.injEq, exists_eq_left', rgT, ixT, ixU, ↓if_pos, ↓if_neg, Int.toNat_natCast, bT0, bT1, g_0_0, g_0_1, g_0_2, g_0_3, g_0_4, pl_worked g.2.2.2.1 (show j < J by omega) (show 0 ≤ v ∧ v ≤ 100 by omega) ht]
  exact hQ _ _ _ _ _ _ g
theorem o_donex (h : PRE A F J M) (hi : rg i) (hv : rg v) (h0 : i < 0 ∨ (J : Int) ≤ i ∨ v < 0 ∨ (M : Int) ≤ v) : Ew 95 [vR 0, .inl i, .inl v, .inl t] (mk A F q) Q ↔ Q (.inr 0, mk A F (bp q)) := by
  unfold Ew
  rw [rc_95 g_0_0 rfl rfl rfl, lc_95]
  have hJ := h.2.1
  have hJ5 := h.2.2.2.1
  have hM := h.2.2.1
  have hM5 := h.2.2.2.2.1
  by_cases k1 : 0 ≤ i ∧ i < J
  · simp (disch := omega) only [r95_0, r95_1, r95_2, r95_5, r95_6, r95_7, r95_10, r95_11, r95_14, r95_15, r95_18, r95_21, r95_22, r95_25, r95_26, r95_27, r95_28, r95_31, Cn_n, Cn_v, Cn_x, dp_0, dp_1, dp_2, dp_3, dp_4, okv_n, okv_i, okv_r, eq_self, true_and, and_true, Option.some.injEq, exists_eq_left', rgT, ixT, ixU, ↓if_pos, ↓if_neg, Int.toNat_natCast, bT0, bT1, g_0_0, g_0_1, g_0_2, g_0_3, g_0_4, n_job hJ hJ5 hi, n_macx hM hM5 hv]
  · simp (disch := omega) only [r95_0, r95_1, r95_2, r95_5, r95_6, r95_7, r95_10, r95_11, r95_14, r95_15, r95_18, r95_21, r95_22, r95_25, r95_26, r95_27, r95_28, r95_31, Cn_n, Cn_v, Cn_x, dp_0, dp_1, dp_2, dp_3, dp_4, okv_n, okv_i, okv_r, eq_self, true_and, and_true, Option.some.injEq, exists_eq_left', rgT, ixT, ixU, ↓if_pos, ↓if_neg, Int.toNat_natCast, bT0, bT1, g_0_0, g_0_1, g_0_2, g_0_3, g_0_4, n_jobx hJ hJ5 hi]
theorem o_finishOf (h : PRE A F J M) (hi : rg i) (h0 : 0 ≤ i) (h1 : i < J) (hQ : ∀ A1 F1 N Ws sg ln, PPO A A1 F F1 J M N Ws sg ln → Q (.inl (some (.inl (fi sg ln M i.toNat N))), mk A1 F1 q)) : Ew 96 [vR 0, .inl i] (mk A F q) Q := by
  refine ⟨rc_96 g_0_0 rfl, ?_⟩
  rw [lc_96]
  have hJ := h.2.1
  have hJ5 := h.2.2.2.1
  obtain ⟨j, rfl⟩ : ∃ j : Nat, i = j := ⟨i.toNat, by omega⟩
  simp (disch := omega) only [r96_0, r96_1, r96_2, r96_5, r96_6, r96_9, r96_10, r96_13, r96_16, r96_17, r96_20, r96_21, r96_24, Cn_n, Cn_v, Cn_x, dp_0, dp_1, dp_2, dp_3, dp_4, okv_n, okv_i, okv_r, eq_self, true_and, and_true, Option.some.injEq, exists_eq_left', rgT, ixT, ixU, ↓if_pos, ↓if_neg, Int.toNat_natCast, bT0, bT1, g_0_0, g_0_1, g_0_2, g_0_3, g_0_4, n_job hJ hJ5 hi]
  refine sp_prep h (fun A1 F1 N Ws sg ln g => ?_)
  simp (disch := omega) only [r96_0, r96_1, r96_2, r96_5, r96_6, r96_9, r96_10, r96_13, r96_16, r96_17, r96_20, r96_21, r96_24, Cn_n, Cn_v, Cn_x, dp_0, dp_1, dp_2, dp_3, dp_4, okv_n, okv_i, okv_r, eq_self, true_and, and_true, Option.some.injEq, exists_eq_left', rgT, ixT, ixU, ↓if_pos, ↓if_neg, Int.toNat_natCast, bT0, bT1, g_0_0, g_0_1, g_0_2, g_0_3, g_0_4, pl_last g.2.2.2.1 (show j < J by omega)]
  exact hQ _ _ _ _ _ _ g
theorem o_finishOfx (h : PRE A F J M) (hi : rg i) (h0 : i < 0 ∨ (J : Int) ≤ i) : Ew 96 [vR 0, .inl i] (mk A F q) Q ↔ Q (.inr 0, mk A F (bp q)) := by
  unfold Ew
  rw [rc_96 g_0_0 rfl, lc_96]
  have hJ := h.2.1
  have hJ5 := h.2.2.2.1
  simp (disch := omega) only [r96_0, r96_1, r96_2, r96_5, r96_6, r96_9, r96_10, r96_13, r96_16, r96_17, r96_20, r96_21, r96_24, Cn_n, Cn_v, Cn_x, dp_0, dp_1, dp_2, dp_3, dp_4, okv_n, okv_i, okv_r, eq_self, true_and, and_true, Option.some.injEq, exists_eq_left', rgT, ixT, ixU, ↓if_pos, ↓if_neg, Int.toNat_natCast, bT0, bT1, g_0_0, g_0_1, g_0_2, g_0_3, g_0_4, n_jobx hJ hJ5 hi]
theorem o_interruptions (h : PRE A F J M) (hQ : ∀ A1 F1 N Ws sg ln, PPO A A1 F F1 J M N Ws sg ln → Q (.inl (some (.inl (isum (fun k => isum (fun j => bi (brk sg M N k j)) J) N))), mk A1 F1 q)) : Ew 97 [vR 0] (mk A F q) Q := by
  refine ⟨rc_97 g_0_0, ?_⟩
  rw [lc_97]
  simp (disch := omega) only [r97_0, r97_1, r97_4, r97_5, r97_8, r97_11, r97_12, r97_15, r97_18, Cn_n, Cn_v, Cn_x, dp_0, dp_1, dp_2, dp_3, dp_4, okv_n, okv_i, okv_r, eq_self, true_and, and_true, Option.some.injEq, exists_eq_left', rgT, ixT, ixU, ↓if_pos, ↓if_neg, Int.toNat_natCast, bT0, bT1, g_0_0, g_0_1, g_0_2, g_0_3, g_0_4]
  refine sp_prep h (fun A1 F1 N Ws sg ln g => ?_)
  simp (disch := omega) only [r97_0, r97_1, r97_4, r97_5, r97_8, r97_11, r97_12, r97_15, r97_18, Cn_n, Cn_v, Cn_x, dp_0, dp_1, dp_2, dp_3, dp_4, okv_n, okv_i, okv_r, eq_self, true_and, and_true, Option.some.injEq, exists_eq_left', rgT, ixT, ixU, ↓if_pos, ↓if_neg, Int.toNat_natCast, bT0, bT1, g_0_0, g_0_1, g_0_2, g_0_3, g_0_4, pl_breaks g.2.2.2.1]
  exact hQ _ _ _ _ _ _ g
end FACE
