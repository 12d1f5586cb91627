/-! dispatching in the shop, to its end -/
def ds0 : DS := (fun _ => -1, fun _ => 0, fun _ => 0)
theorem ds0_DR : DR ds0 := ⟨fun _ => ⟨Int.le_refl _, (by decide : (-1 : Int) ≤ 100000)⟩, fun _ => ⟨Int.le_refl _, (by decide : (0 : Int) ≤ 100000)⟩, fun _ => ⟨Int.le_refl _, (by decide : (0 : Int) ≤ 100000)⟩⟩
theorem ds0_DI {t : Nat → Int} {J M : Nat} : DI t J M 0 0 ds0 := ⟨fun _ _ m hm => absurd hm (Nat.not_lt_zero m), fun _ _ h => absurd h (by decide : ¬ (0 : Int) < 0), fun _ => ⟨Int.le_refl _, (by decide : (0 : Int) ≤ 0 + 99)⟩, fun _ _ => rfl⟩
section DISP
variable {A : Nat → Nat → Int} {F : Nat → Int} {q : List Int × Nat} {i j v now : Int} {Q : AR → Prop} {J M m n : Nat} {s : DS} {al : Bool}
theorem dd_go (ht : TOK (A 3)) (hJ : F 17 = J) (hM : F 18 = M) (hJ5 : J ≤ 5) (hM5 : M ≤ 5) (hal : al = true → M ≤ 2) : Ew 3 [vR 21, vR 1, .inl (if al then 1 else 0)] (mk A F q) Q ↔ Q (.inl none, mk (hs A (dclo (A 3) J M al 26 0 ds0)) F q) := by
  refine Ew_iff ⟨rc_3 g_21_0 rfl rfl, ?_⟩
  rw [lc_3]
  simp only [r3_0, r3_1, r3_4, r3_5, r3_8, r3_9, r3_12, r3_13, r3_16, r3_17, r3_20, r3_21, r3_24, r3_25, r3_26, r3_27, r3_31, r3_33, r3_36, r3_37, r3_38, r3_41, r3_42, r3_46, r3_47, r3_50, r3_53, r3_54, r3_57, r3_59, r3_62, r3_63, r3_66, r3_67, r3_69, r3_70, r3_71, r3_72, r3_74, r3_75, r3_76, r3_79, r3_80, r3_83, r3_86, r3_89, r3_90, r3_91, r3_94, r3_95, r3_98, r3_101, Cn_n, Cn_v, Cn_x, dp_0, dp_1, dp_2, dp_3, dp_4, okv_n, okv_i, okv_r, eq_self, true_and, and_true, Option.some.injEq, exists_eq_left', rgT, ixT, ixU, ↓if_pos, ↓if_neg, Int.toNat_natCast, bT0, bT1, g_21_0, g_21_1, g_21_2, gfill_22, rfill_24, rfill_26]
  suffices key : ∀ f tm : Nat, tm + f = 26 → ∀ (now : Int) (s : DS), DR s → (now = -1 ∨ (0 ≤ now ∧ now ≤ 99 * tm ∧ DI (A 3) J M now 0 s)) → ∀ x5 : Option AV, okv x5 = true → Wp 3 29 [some (vR 21), some (vR 1), some (.inl (if al then 1 else 0)), some (.inl now), some (.inl (tm : Int)), x5] [] (mk (hs A s) F q) (fun r => r = (.inl none, mk (hs A (dclo (A 3) J M al f now s)) F q)) by
    exact key 26 0 (by omega) 0 ds0 ds0_DR (Or.inr ⟨Int.le_refl _, by omega, ds0_DI⟩) none rfl
  intro f
  induction f with
  | zero =>
    intro tm htm now s hd hnow x5 h5
    rw [r3_29]
    simp (disch := omega) only [r3_0, r3_1, r3_4, r3_5, r3_8, r3_9, r3_12, r3_13, r3_16, r3_17, r3_20, r3_21, r3_24, r3_25, r3_26, r3_27, r3_31, r3_33, r3_36, r3_37, r3_38, r3_41, r3_42, r3_46, r3_47, r3_50, r3_53, r3_54, r3_57, r3_59, r3_62, r3_63, r3_66, r3_67, r3_69, r3_70, r3_71, r3_72, r3_74, r3_75, r3_76, r3_79, r3_80, r3_83, r3_86, r3_89, r3_90, r3_91, r3_94, r3_95, r3_98, r3_101, Cn_n, Cn_v, Cn_x, dp_0, dp_1, dp_2, dp_3, dp_4, okv_n, okv_i, okv_r, eq_self, true_and, and_true, Option.some.injEq, exists_eq_left', rgT, ixT, ixU, ↓if_pos, ↓if_neg, Int.toNat_natCast, bT0, bT1, dclo]
  | succ f ih =>
    intro tm htm now s hd hnow x5 h5
    rw [r3_29]
    rcases hnow with hn1 | ⟨hn0, hn9, hi⟩
    · simp (disch := omega) only [r3_0, r3_1, r3_4, r3_5, r3_8, r3_9, r3_12, r3_13, r3_16, r3_17, r3_20, r3_21, r3_24, r3_25, r3_26, r3_27, r3_31, r3_33, r3_36, r3_37, r3_38, r3_41, r3_42, r3_46, r3_47, r3_50, r3_53, r3_54, r3_57, r3_59, r3_62, r3_63, r3_66, r3_67, r3_69, r3_70, r3_71, r3_72, r3_74, r3_75, r3_76, r3_79, r3_80, r3_83, r3_86, r3_89, r3_90, r3_91, r3_94, r3_95, r3_98, r3_101, Cn_n, Cn_v, Cn_x, dp_0, dp_1, dp_2, dp_3, dp_4, okv_n, okv_i, okv_r, eq_self, true_and, and_true, Option.some.injEq, exists_eq_left', rgT, ixT, ixU, ↓if_pos, ↓if_neg, Int.toNat_natCast, bT0, bT1, dclo]
    · have e9 : dclo (A 3) J M al (f + 1) now s = dclo (A 3) J M al f (dnx (drnd (A 3) J al now s M).2.2 now 5) (drnd (A 3) J al now s M) := by
        simp only [dclo]
        rw [if_neg (by omega)]
      rw [e9]
      simp (disch := omega) only [r3_0, r3_1, r3_4, r3_5, r3_8, r3_9, r3_12, r3_13, r3_16, r3_17, r3_20, r3_21, r3_24, r3_25, r3_26, r3_27, r3_31, r3_33, r3_36, r3_37, r3_38, r3_41, r3_42, r3_46, r3_47, r3_50, r3_53, r3_54, r3_57, r3_59, r3_62, r3_63, r3_66, r3_67, r3_69, r3_70, r3_71, r3_72, r3_74, r3_75, r3_76, r3_79, r3_80, r3_83, r3_86, r3_89, r3_90, r3_91, r3_94, r3_95, r3_98, r3_101, Cn_n, Cn_v, Cn_x, dp_0, dp_1, dp_2, dp_3, dp_4, okv_n, okv_i, okv_r, eq_self, true_and, and_true, Option.some.injEq, exists_eq_left', rgT, ixT, ixU, ↓if_pos, ↓if_neg, Int.toNat_natCast, bT0, bT1]
      have key := Rn_for (fun n => Wp 3 44 [some (vR 21), some (vR 1), some (.inl (if al then 1 else 0)), some (.inl now), some (.inl (tm : Int)), some (.inl (n : Int))] [] (mk (hs A (drnd (A 3) J al now s n)) F q) (fun r => r = (.inl none, mk (hs A (dclo (A 3) J M al f (dnx (drnd (A 3) J al now s M).2.2 now 5) (drnd (A 3) J al now s M))) F q))) M (fun n hn ih2 => ?_) ?_
      · exact key
      · have d9 := drnd_DR (al := al) ht hJ5 hn0 (by omega) hd (n := n) (by omega)
        have e8 : drnd (A 3) J al now s (n + 1) = dstp (A 3) J al now n (drnd (A 3) J al now s n) := rfl
        rw [e8] at ih2
        generalize drnd (A 3) J al now s n = s9 at d9 ih2 ⊢
        have b1 := d9.2.2 n
        have hal2 : al = true → n ≤ 1 := fun h => by have := hal h; omega
        rw [r3_44]
        unfold dstp at ih2
        by_cases k1 : s9.2.2 n ≤ now
        · rw [if_pos k1] at ih2
          obtain ⟨-, -, h2⟩ := @dcho_is (A 3) al now s9 n ht J hJ5
          rcases h2 with ⟨g1, -⟩ | ⟨c, g1, g2, g3, g4⟩
          · rw [g1] at ih2
            unfold dbeg at ih2
            rw [if_pos rfl] at ih2
            simp (disch := omega) only [r3_0, r3_1, r3_4, r3_5, r3_8, r3_9, r3_12, r3_13, r3_16, r3_17, r3_20, r3_21, r3_24, r3_25, r3_26, r3_27, r3_31, r3_33, r3_36, r3_37, r3_38, r3_41, r3_42, r3_46, r3_47, r3_50, r3_53, r3_54, r3_57, r3_59, r3_62, r3_63, r3_66, r3_67, r3_69, r3_70, r3_71, r3_72, r3_74, r3_75, r3_76, r3_79, r3_80, r3_83, r3_86, r3_89, r3_90, r3_91, r3_94, r3_95, r3_98, r3_101, Cn_n, Cn_v, Cn_x, dp_0, dp_1, dp_2, dp_3, dp_4, okv_n, okv_i, okv_r, eq_self, true_and, and_true, Option.some.injEq, exists_eq_left', rgT, ixT, ixU, ↓if_pos, ↓if_neg, Int.toNat_natCast, bT0, bT1, g_21_0, g_21_1, g_21_2, t_machs, rget_26, hs_27, hs_3, dd_choose d9 ht hJ hJ5 (show n < 5 by omega) hal2, g1, dd_begin0]
            exact ih2
          · rw [g1] at ih2
            unfold dbeg at ih2
            rw [if_neg (show ¬ ((c : Int) = -1) by omega), Int.toNat_natCast] at ih2
            simp (disch := omega) only [r3_0, r3_1, r3_4, r3_5, r3_8, r3_9, r3_12, r3_13, r3_16, r3_17, r3_20, r3_21, r3_24, r3_25, r3_26, r3_27, r3_31, r3_33, r3_36, r3_37, r3_38, r3_41, r3_42, r3_46, r3_47, r3_50, r3_53, r3_54, r3_57, r3_59, r3_62, r3_63, r3_66, r3_67, r3_69, r3_70, r3_71, r3_72, r3_74, r3_75, r3_76, r3_79, r3_80, r3_83, r3_86, r3_89, r3_90, r3_91, r3_94, r3_95, r3_98, r3_101, Cn_n, Cn_v, Cn_x, dp_0, dp_1, dp_2, dp_3, dp_4, okv_n, okv_i, okv_r, eq_self, true_and, and_true, Option.some.injEq, exists_eq_left', rgT, ixT, ixU, ↓if_pos, ↓if_neg, Int.toNat_natCast, bT0, bT1, g_21_0, g_21_1, g_21_2, t_machs, rget_26, hs_27, hs_3, dd_choose d9 ht hJ hJ5 (show n < 5 by omega) hal2, g1, dd_begin1 (show n < 5 by omega) (show c < 5 by omega)]
            exact ih2
        · rw [if_neg k1] at ih2
          simp (disch := omega) only [r3_0, r3_1, r3_4, r3_5, r3_8, r3_9, r3_12, r3_13, r3_16, r3_17, r3_20, r3_21, r3_24, r3_25, r3_26, r3_27, r3_31, r3_33, r3_36, r3_37, r3_38, r3_41, r3_42, r3_46, r3_47, r3_50, r3_53, r3_54, r3_57, r3_59, r3_62, r3_63, r3_66, r3_67, r3_69, r3_70, r3_71, r3_72, r3_74, r3_75, r3_76, r3_79, r3_80, r3_83, r3_86, r3_89, r3_90, r3_91, r3_94, r3_95, r3_98, r3_101, Cn_n, Cn_v, Cn_x, dp_0, dp_1, dp_2, dp_3, dp_4, okv_n, okv_i, okv_r, eq_self, true_and, and_true, Option.some.injEq, exists_eq_left', rgT, ixT, ixU, ↓if_pos, ↓if_neg, Int.toNat_natCast, bT0, bT1, g_21_0, g_21_1, g_21_2, t_machs, rget_26, hs_27, hs_3]
          exact ih2
      · have d9 := drnd_DR (al := al) ht hJ5 hn0 (by omega) hd hM5
        obtain ⟨i9, -⟩ := drnd_ok (al := al) ht hJ5 hM5 hn0 hi (Nat.le_refl M)
        rw [r3_44]
        simp (disch := omega) only [r3_0, r3_1, r3_4, r3_5, r3_8, r3_9, r3_12, r3_13, r3_16, r3_17, r3_20, r3_21, r3_24, r3_25, r3_26, r3_27, r3_31, r3_33, r3_36, r3_37, r3_38, r3_41, r3_42, r3_46, r3_47, r3_50, r3_53, r3_54, r3_57, r3_59, r3_62, r3_63, r3_66, r3_67, r3_69, r3_70, r3_71, r3_72, r3_74, r3_75, r3_76, r3_79, r3_80, r3_83, r3_86, r3_89, r3_90, r3_91, r3_94, r3_95, r3_98, r3_101, Cn_n, Cn_v, Cn_x, dp_0, dp_1, dp_2, dp_3, dp_4, okv_n, okv_i, okv_r, eq_self, true_and, and_true, Option.some.injEq, exists_eq_left', rgT, ixT, ixU, ↓if_pos, ↓if_neg, Int.toNat_natCast, bT0, bT1, g_21_0, g_21_1, g_21_2, t_machs, dd_next d9]
        refine ih (tm + 1) (by omega) _ _ d9 ?_ _ rfl
        rcases @dnx_is now (drnd (A 3) J al now s M).2.2 hn0 5 with ⟨g1, -⟩ | ⟨g1, ⟨m9, g2, g3⟩, -⟩
        · exact Or.inl g1
        · have := (i9.2.2.1 m9).2
          exact Or.inr ⟨by omega, by omega, DI_up i9 g1⟩
theorem dclo_DR {t : Nat → Int} (ht : TOK t) (hJ5 : J ≤ 5) (hM5 : M ≤ 5) : ∀ {f : Nat} {now : Int} {s : DS}, DR s → now ≤ 99 * (26 - f) → f ≤ 26 → (now = -1 ∨ (0 ≤ now ∧ DI t J M now 0 s)) → DR (dclo t J M al f now s)
  | 0, _, _, hd, _, _, _ => hd
  | f + 1, now, s, hd, hn9, hf, hnow => by
    simp only [dclo]
    split
    · exact hd
    · rename_i hne
      rcases hnow with h | ⟨hn0, hi⟩
      · exact absurd h hne
      · have d9 := drnd_DR (al := al) ht hJ5 hn0 (by omega) hd hM5
        obtain ⟨i9, -⟩ := drnd_ok (al := al) ht hJ5 hM5 hn0 hi (Nat.le_refl M)
        rcases @dnx_is now (drnd t J al now s M).2.2 hn0 5 with ⟨g1, -⟩ | ⟨g1, ⟨m9, g2, g3⟩, -⟩
        · exact dclo_DR ht hJ5 hM5 d9 (by omega) (by omega) (Or.inl g1)
        · have := (i9.2.2.1 m9).2
          exact dclo_DR ht hJ5 hM5 d9 (by omega) (by omega) (Or.inr ⟨by omega, DI_up i9 g1⟩)
theorem dfin_DR {t : Nat → Int} (ht : TOK t) (hJ5 : J ≤ 5) (hM5 : M ≤ 5) : DR (dclo t J M al 26 0 ds0) := dclo_DR ht hJ5 hM5 ds0_DR (by omega) (Nat.le_refl _) (Or.inr ⟨Int.le_refl _, ds0_DI⟩)
theorem dd_dense (ht : TOK (A 3)) (hJ : F 17 = J) (hM : F 18 = M) (hJ5 : J ≤ 5) (hM5 : M ≤ 5) : Ew 1 [vR 21, vR 1] (mk A F q) Q ↔ Q (.inl none, mk (hs A (dclo (A 3) J M false 26 0 ds0)) F q) := by
  have h9 := fun Q => @dd_go A F q Q J M false ht hJ hM hJ5 hM5 (fun h => by cases h)
  simp only [Bool.false_eq_true, if_false] at h9
  unfold Ew
  rw [rc_1 g_21_0 rfl, lc_1]
  simp (disch := omega) only [r1_0, r1_1, r1_2, r1_3, r1_6, Cn_n, Cn_v, Cn_x, dp_0, dp_1, dp_2, dp_3, dp_4, okv_n, okv_i, okv_r, eq_self, true_and, and_true, Option.some.injEq, exists_eq_left', rgT, ixT, ixU, ↓if_pos, ↓if_neg, Int.toNat_natCast, bT0, bT1, h9]
theorem dd_alter (ht : TOK (A 3)) (hJ : F 17 = J) (hM : F 18 = M) (hJ5 : J ≤ 5) (hM2 : M ≤ 2) : Ew 2 [vR 21, vR 1] (mk A F q) Q ↔ Q (.inl none, mk (hs A (dclo (A 3) J M true 26 0 ds0)) F q) := by
  have h9 := fun Q => @dd_go A F q Q J M true ht hJ hM hJ5 (by omega) (fun _ => hM2)
  simp only [if_true] at h9
  unfold Ew
  rw [rc_2 g_21_0 rfl, lc_2]
  simp (disch := omega) only [r2_0, r2_1, r2_2, r2_3, r2_6, Cn_n, Cn_v, Cn_x, dp_0, dp_1, dp_2, dp_3, dp_4, okv_n, okv_i, okv_r, eq_self, true_and, and_true, Option.some.injEq, exists_eq_left', rgT, ixT, ixU, ↓if_pos, ↓if_neg, Int.toNat_natCast, bT0, bT1, h9]
theorem dd_begin (h0 : 0 ≤ i) (h1 : i < 5) (h2 : 0 ≤ j) (h3 : j < 5) : Ew 8 [vR 21, .inl i, .inl j] (mk (hs A s) F q) Q ↔ Q (.inl (some (.inl (s.1 (5 * i.toNat + j.toNat)))), mk (hs A s) F q) := by
  unfold Ew
  rw [rc_8 g_21_0 rfl rfl, lc_8]
  simp (disch := omega) only [r8_0, r8_1, r8_4, r8_5, r8_6, r8_9, Cn_n, Cn_v, Cn_x, dp_0, dp_1, dp_2, dp_3, dp_4, okv_n, okv_i, okv_r, eq_self, true_and, and_true, Option.some.injEq, exists_eq_left', rgT, ixT, ixU, ↓if_pos, ↓if_neg, Int.toNat_natCast, bT0, bT1, g_21_0, g_21_1, g_21_2, gget_22, hs_23]
theorem o_denseLength (ht : TOK (A 3)) (hJ : F 17 = J) (hM : F 18 = M) (hJ5 : J ≤ 5) (hM5 : M ≤ 5) : Ew 98 [vR 0] (mk A F q) Q ↔ Q (.inl (some (.inl (imax (dclo (A 3) J M false 26 0 ds0).2.2 0 5))), mk (hs A (dclo (A 3) J M false 26 0 ds0)) F q) := by
  unfold Ew
  rw [rc_98 g_0_0, lc_98]
  simp (disch := omega) only [r98_0, r98_1, r98_4, r98_5, r98_8, r98_11, r98_12, r98_15, r98_18, Cn_n, Cn_v, Cn_x, dp_0, dp_1, dp_2, dp_3, dp_4, okv_n, okv_i, okv_r, eq_self, true_and, and_true, Option.some.injEq, exists_eq_left', rgT, ixT, ixU, ↓if_pos, ↓if_neg, Int.toNat_natCast, bT0, bT1, g_0_0, g_0_1, g_0_2, g_0_3, g_0_4, dd_dense ht hJ hM hJ5 hM5, dd_last (dfin_DR ht hJ5 hM5)]
theorem o_denseStart (ht : TOK (A 3)) (hJ : F 17 = J) (hM : F 18 = M) (hJ5 : J ≤ 5) (hM5 : M ≤ 5) (h0 : 0 ≤ i) (h1 : i < J) (h2 : 0 ≤ j) (h3 : j < M) : Ew 99 [vR 0, .inl i, .inl j] (mk A F q) Q ↔ Q (.inl (some (.inl ((dclo (A 3) J M false 26 0 ds0).1 (5 * i.toNat + j.toNat)))), mk (hs A (dclo (A 3) J M false 26 0 ds0)) F q) := by
  unfold Ew
  rw [rc_99 g_0_0 rfl rfl, lc_99]
  simp (disch := omega) only [r99_0, r99_1, r99_2, r99_5, r99_6, r99_7, r99_10, r99_11, r99_14, r99_15, r99_18, r99_21, r99_22, r99_25, r99_26, r99_27, r99_30, Cn_n, Cn_v, Cn_x, dp_0, dp_1, dp_2, dp_3, dp_4, okv_n, okv_i, okv_r, eq_self, true_and, and_true, Option.some.injEq, exists_eq_left', rgT, ixT, ixU, ↓if_pos, ↓if_neg, Int.toNat_natCast, bT0, bT1, g_0_0, g_0_1, g_0_2, g_0_3, g_0_4, n_job hJ hJ5, n_mac hM hM5, dd_dense ht hJ hM hJ5 hM5, dd_begin]
theorem o_denseStartx (hJ : F 17 = J) (hM : F 18 = M) (hJ5 : J ≤ 5) (hM5 : M ≤ 5) (hi : rg i) (hj : rg j) (h0 : i < 0 ∨ J ≤ i ∨ j < 0 ∨ M ≤ j) : Ew 99 [vR 0, .inl i, .inl j] (mk A F q) Q ↔ Q (.inr 0, mk A F (bp q)) := by
  unfold Ew
  rw [rc_99 g_0_0 rfl rfl, lc_99]
  by_cases k1 : 0 ≤ i ∧ i < J
  · simp (disch := omega) only [r99_0, r99_1, r99_2, r99_5, r99_6, r99_7, r99_10, r99_11, r99_14, r99_15, r99_18, r99_21, r99_22, r99_25, r99_26, r99_27, r99_30, Cn_n, Cn_v, Cn_x, dp_0, dp_1, dp_2, dp_3, dp_4, okv_n, okv_i, okv_r, eq_self, true_and, and_true, Option.some.injEq, exists_eq_left', rgT, ixT, ixU, ↓if_pos, ↓if_neg, Int.toNat_natCast, bT0, bT1, g_0_0, g_0_1, g_0_2, g_0_3, g_0_4, n_job hJ hJ5, n_macx hM hM5]
  · simp (disch := omega) only [r99_0, r99_1, r99_2, r99_5, r99_6, r99_7, r99_10, r99_11, r99_14, r99_15, r99_18, r99_21, r99_22, r99_25, r99_26, r99_27, r99_30, Cn_n, Cn_v, Cn_x, dp_0, dp_1, dp_2, dp_3, dp_4, okv_n, okv_i, okv_r, eq_self, true_and, and_true, Option.some.injEq, exists_eq_left', rgT, ixT, ixU, ↓if_pos, ↓if_neg, Int.toNat_natCast, bT0, bT1, g_0_0, g_0_1, g_0_2, g_0_3, g_0_4, n_jobx hJ hJ5]
theorem o_alterLength (ht : TOK (A 3)) (hJ : F 17 = J) (hM : F 18 = M) (hJ5 : J ≤ 5) (hM5 : M = 2) : Ew 100 [vR 0] (mk A F q) Q ↔ Q (.inl (some (.inl (imax (dclo (A 3) J M true 26 0 ds0).2.2 0 5))), mk (hs A (dclo (A 3) J M true 26 0 ds0)) F q) := by
  unfold Ew
  rw [rc_100 g_0_0, lc_100]
  simp (disch := omega) only [r100_0, r100_1, r100_4, r100_5, r100_8, r100_9, r100_12, r100_15, r100_16, r100_19, r100_22, Cn_n, Cn_v, Cn_x, dp_0, dp_1, dp_2, dp_3, dp_4, okv_n, okv_i, okv_r, eq_self, true_and, and_true, Option.some.injEq, exists_eq_left', rgT, ixT, ixU, ↓if_pos, ↓if_neg, Int.toNat_natCast, bT0, bT1, g_0_0, g_0_1, g_0_2, g_0_3, g_0_4, n_two, dd_alter ht hJ hM hJ5 (show M ≤ 2 by omega), dd_last (dfin_DR ht hJ5 (show M ≤ 5 by omega))]
theorem o_alterLengthx (hM : F 18 = M) (hM5 : M ≤ 5) (h : M ≠ 2) : Ew 100 [vR 0] (mk A F q) Q ↔ Q (.inr 2, mk A F (bp q)) := by
  unfold Ew
  rw [rc_100 g_0_0, lc_100]
  simp (disch := omega) only [r100_0, r100_1, r100_4, r100_5, r100_8, r100_9, r100_12, r100_15, r100_16, r100_19, r100_22, Cn_n, Cn_v, Cn_x, dp_0, dp_1, dp_2, dp_3, dp_4, okv_n, okv_i, okv_r, eq_self, true_and, and_true, Option.some.injEq, exists_eq_left', rgT, ixT, ixU, ↓if_pos, ↓if_neg, Int.toNat_natCast, bT0, bT1, g_0_0, g_0_1, g_0_2, g_0_3, g_0_4, n_twox hM hM5 h]
theorem o_alterStart (ht : TOK (A 3)) (hJ : F 17 = J) (hM : F 18 = M) (hJ5 : J ≤ 5) (hM5 : M = 2) (h0 : 0 ≤ i) (h1 : i < J) (h2 : 0 ≤ j) (h3 : j < M) : Ew 101 [vR 0, .inl i, .inl j] (mk A F q) Q ↔ Q (.inl (some (.inl ((dclo (A 3) J M true 26 0 ds0).1 (5 * i.toNat + j.toNat)))), mk (hs A (dclo (A 3) J M true 26 0 ds0)) F q) := by
  unfold Ew
  rw [rc_101 g_0_0 rfl rfl, lc_101]
  simp (disch := omega) only [r101_0, r101_1, r101_2, r101_5, r101_6, r101_7, r101_10, r101_11, r101_14, r101_15, r101_18, r101_19, r101_22, r101_25, r101_26, r101_29, r101_30, r101_31, r101_34, Cn_n, Cn_v, Cn_x, dp_0, dp_1, dp_2, dp_3, dp_4, okv_n, okv_i, okv_r, eq_self, true_and, and_true, Option.some.injEq, exists_eq_left', rgT, ixT, ixU, ↓if_pos, ↓if_neg, Int.toNat_natCast, bT0, bT1, g_0_0, g_0_1, g_0_2, g_0_3, g_0_4, n_job hJ hJ5, n_mac hM (show M ≤ 5 by omega), n_two, dd_alter ht hJ hM hJ5 (show M ≤ 2 by omega), dd_begin]
theorem o_alterStartx (hJ : F 17 = J) (hM : F 18 = M) (hJ5 : J ≤ 5) (hM5 : M ≤ 5) (hi : rg i) (hj : rg j) (h0 : i < 0 ∨ J ≤ i ∨ j < 0 ∨ M ≤ j) : Ew 101 [vR 0, .inl i, .inl j] (mk A F q) Q ↔ Q (.inr 0, mk A F (bp q)) := by
  unfold Ew
  rw [rc_101 g_0_0 rfl rfl, lc_101]
  by_cases k1 : 0 ≤ i ∧ i < J
  · simp (disch := omega) only [r101_0, r101_1, r101_2, r101_5, r101_6, r101_7, r101_10, r101_11, r101_14, r101_15, r101_18, r101_19, r101_22, r101_25, r101_26, r101_29, r101_30, r101_31, r101_34, Cn_n, Cn_v, Cn_x, dp_0, dp_1, dp_2, dp_3, dp_4, okv_n, okv_i, okv_r, eq_self, true_and, and_true, Option.some.injEq, exists_eq_left', rgT, ixT, ixU, ↓if_pos, ↓if_neg, Int.toNat_natCast, bT0, bT1, g_0_0, g_0_1, g_0_2, g_0_3, g_0_4, n_job hJ hJ5, n_macx hM hM5]
  · simp (disch := omega) only [r101_0, r101_1, r101_2, r101_5, r101_6, r101_7, r101_10, r101_11, r101_14, r101_15, r101_18, r101_19, r101_22, r101_25, r101_26, r101_29, r101_30, r101_31, r101_34, Cn_n, Cn_v, Cn_x, dp_0, dp_1, dp_2, dp_3, dp_4, okv_n, okv_i, okv_r, eq_self, true_and, and_true, Option.some.injEq, exists_eq_left', rgT, ixT, ixU, ↓if_pos, ↓if_neg, Int.toNat_natCast, bT0, bT1, g_0_0, g_0_1, g_0_2, g_0_3, g_0_4, n_jobx hJ hJ5]
theorem o_alterStarty (hJ : F 17 = J) (hM : F 18 = M) (hJ5 : J ≤ 5) (hM5 : M ≤ 5) (h0 : 0 ≤ i) (h1 : i < J) (h2 : 0 ≤ j) (h3 : j < M) (h : M ≠ 2) : Ew 101 [vR 0, .inl i, .inl j] (mk A F q) Q ↔ Q (.inr 2, mk A F (bp q)) := by
  unfold Ew
  rw [rc_101 g_0_0 rfl rfl, lc_101]
  simp (disch := omega) only [r101_0, r101_1, r101_2, r101_5, r101_6, r101_7, r101_10, r101_11, r101_14, r101_15, r101_18, r101_19, r101_22, r101_25, r101_26, r101_29, r101_30, r101_31, r101_34, Cn_n, Cn_v, Cn_x, dp_0, dp_1, dp_2, dp_3, dp_4, okv_n, okv_i, okv_r, eq_self, true_and, and_true, Option.some.injEq, exists_eq_left', rgT, ixT, ixU, ↓if_pos, ↓if_neg, Int.toNat_natCast, bT0, bT1, g_0_0, g_0_1, g_0_2, g_0_3, g_0_4, n_job hJ hJ5, n_mac hM hM5, n_twox hM hM5 h]
end DISP
