/-! the rounding is made in the shop -/
def sq1 (t : Nat → Int) (d : Int) (J M p a b : Nat) : Int := ebk 1 (1 + J) M (cpe t d) J a b + rbk 0 1 p (fun j => ujf t d M j - ljf t d M j) a b + rbk (1 + J + M + 1) 1 p (ljf t d M) a b + pbk 0 (1 + J + M + 2) (isum (ljf t d M) p) a b
def sq2 (t : Nat → Int) (d : Int) (J M r a b : Nat) : Int := sq1 t d J M J a b + cbk (1 + J + M) (1 + J) r (fun m => umf t d J m - lmf t d J m) a b + pbk (1 + J + M + 1) (1 + J + M) (isum (lmf t d J) r) a b + cbk (1 + J + M + 2) (1 + J) r (lmf t d J) a b
theorem isum55 {g : Nat → Nat → Int} {J M : Nat} (hJ5 : J ≤ 5) (hM5 : M ≤ 5) (h : ∀ j m, m < 5 → (J ≤ j ∨ M ≤ m) → g j m = 0) : isum (fun j => isum (g j) 5) 5 = isum (fun j => isum (g j) M) J := by
  rw [isum_tail (f := fun j => isum (g j) 5) hJ5 (fun i h1 h2 => ?_)]
  · exact isum_congr (fun j hj => isum_tail (f := g j) hM5 (fun i h1 h2 => h j i h2 (Or.inr h1)))
  · rw [isum_congr (g := fun _ => 0) (fun m hm => h i m hm (Or.inl h1)), isum_zero]
abbrev RDG (t : Nat → Int) (d : Int) (J M : Nat) (U : Nat → Nat → Int) : Prop := VR t d J M U ∧ ∀ j, j < J → ∀ m, m < M → ∀ u, VR t d J M u → (∀ j2, j2 < J → ∀ m2, m2 < M → (j2 < j ∨ (j2 = j ∧ m2 < m)) → u j2 m2 = U j2 m2) → U j m ≤ u j m
abbrev SAR (A A1 : Nat → Nat → Int) : Prop := ∀ k, k ≠ 39 → k ≠ 41 → k ≠ 43 → k ≠ 45 → k ≠ 47 → A1 k = A k
abbrev SFR (F F1 : Nat → Int) : Prop := ∀ k, k ≠ 579 → k ≠ 580 → k ≠ 581 → k ≠ 582 → k ≠ 583 → k ≠ 595 → F1 k = F k
theorem stl_bd {t : Nat → Int} {d : Int} {J M j0 m0 : Nat} {R0 R f : Nat → Int} (hd : 1 ≤ d) (ht : TOK t) (hJ5 : J ≤ 5) (hM5 : M ≤ 5) (hE : EQN R0 (rne t d J M)) (hs : STL t d J M R0 R f j0 m0) : ∀ a, a < J + M + 4 → ∀ b, b < J + M + 4 → 0 ≤ R (14 * a + b) ∧ R (14 * a + b) + R (14 * b + a) ≤ 100000 := by
  intro a ha b hb
  obtain ⟨Rh, h1, h2, h3⟩ := hs
  have x1 := h1.1 a ha b hb
  have x2 := h1.1 b hb a ha
  have x3 := h1.2.1 a ha b hb
  have x4 := @rne_bd t d J M hd ht hJ5 hM5 a b
  have x5 := @rne_bd t d J M hd ht hJ5 hM5 b a
  rw [hE a b (by omega), hE b a (by omega)] at x3
  have y : ∀ x, x < J + M + 4 → ∀ y, y < J + M + 4 → 0 ≤ Rh (14 * x + y) → 0 ≤ R (14 * x + y) ∧ R (14 * x + y) ≤ Rh (14 * x + y) := by
    intro x hx y hy h
    by_cases c : MSK J M j0 m0 x y
    · rw [(h2 x hx y hy).1 c]; omega
    · rw [(h2 x hx y hy).2 c]; omega
  have y1 := y a ha b hb x1
  have y2 := y b hb a ha x2
  omega
theorem k_eu {t : Nat → Int} {d : Int} {M j : Nat} : (rowS t M j + d - 1) / d - dnr t d M j = ujf t d M j := rfl
theorem k_el {t : Nat → Int} {d : Int} {M j : Nat} : rowS t M j / d - dnr t d M j = ljf t d M j := rfl
theorem k_mu {t : Nat → Int} {d : Int} {J m : Nat} : (colS t J m + d - 1) / d - dnc t d J m = umf t d J m := rfl
theorem k_ml {t : Nat → Int} {d : Int} {J m : Nat} : colS t J m / d - dnc t d J m = lmf t d J m := rfl
theorem k_au {t : Nat → Int} {d : Int} {J M : Nat} : (allS t J M + d - 1) / d - dna t d J M = uaf t d J M := rfl
theorem k_al {t : Nat → Int} {d : Int} {J M : Nat} : allS t J M / d - dna t d J M = laf t d J M := rfl
section RMAKE
variable {A : Nat → Nat → Int} {F : Nat → Int} {q : List Int × Nat} {Q : AR → Prop} {J M : Nat} {R R0 rf qu dn up f : Nat → Int} {d v i j lf : Int} {k a b : Nat}
theorem FRR_J {F1 : Nat → Int} (h : FRR F F1 J M lf) : F1 17 = F 17 := h.1 17 (by decide) (by decide) (by decide) (by decide) (by decide) (by decide)
theorem FRR_M {F1 : Nat → Int} (h : FRR F F1 J M lf) : F1 18 = F 18 := h.1 18 (by decide) (by decide) (by decide) (by decide) (by decide) (by decide)
set_option maxHeartbeats 8000000 in
theorem rd_bound {F1 : Nat → Int} (hJ : F 17 = J) (hM : F 18 = M) (hJ5 : J ≤ 5) (hM5 : M ≤ 5) (ht : TOK (A 3)) (hd : 1 ≤ d) (hd1 : d ≤ 100) (hF : FRR F F1 J M 0) (hdn : ∀ j, j < J → ∀ m, m < M → dn (5 * j + m) = dq (A 3) d j m)
    (hE : EQN R (fun a b => ebk 1 (1 + J) M (cpe (A 3) d) J a b))
    (hQ : ∀ F2 R1, FRR F F2 J M (LFv (A 3) d J M) → EQN R1 (rne (A 3) d J M) → Q (.inl none, mk (hnb (hrd A dn up) R1 rf qu) F2 q)) : Ew 31 [vR 36, vR 1, .inl d] (mk (hnb (hrd A dn up) R rf qu) F1 q) Q := by
  have hJM10 : J + M ≤ 10 := by omega
  have bA := allS_bd ht hJ5 hM5
  refine ⟨rc_31 g_36_0 rfl rfl, ?_⟩
  rw [lc_31]
  simp (disch := omega) only [r31_0, r31_1, r31_2, r31_3, r31_7, r31_8, r31_11, r31_14, r31_15, r31_17, r31_18, r31_22, r31_23, r31_26, r31_29, r31_31, r31_32, r31_35, r31_37, r31_39, r31_42, r31_43, r31_45, r31_48, r31_51, r31_52, r31_54, r31_55, r31_56, r31_57, r31_58, r31_59, r31_61, r31_62, r31_63, r31_65, r31_68, r31_70, r31_71, r31_74, r31_77, r31_80, r31_81, r31_85, r31_86, r31_89, r31_92, r31_93, r31_95, r31_96, r31_100, r31_101, r31_104, r31_107, r31_109, r31_110, r31_113, r31_115, r31_117, r31_120, r31_121, r31_123, r31_126, r31_129, r31_130, r31_131, r31_134, r31_136, r31_137, r31_138, r31_141, r31_142, r31_144, r31_147, r31_149, r31_150, r31_153, r31_156, r31_159, r31_160, r31_161, r31_164, r31_165, r31_166, r31_169, r31_170, r31_171, r31_174, Cn_n, Cn_v, Cn_x, dp_0, dp_1, dp_2, dp_3, dp_4, okv_n, okv_i, okv_r, eq_self, true_and, and_true, Option.some.injEq, exists_eq_left', rgT, ixT, ixU, ↓if_pos, ↓if_neg, Int.toNat_natCast, bT0, bT1, g_36_0, g_36_1, g_36_2, g_36_3, s_36_3, g_36_4, s_36_4, g_36_5, s_36_5, g_36_6, s_36_6, g_36_7, s_36_7]
  suffices key : ∀ x j : Nat, j + x = J → ∀ R2, EQN R2 (sq1 (A 3) d J M j) → ∀ F2, FRR F F2 J M (isum (ljf (A 3) d M) j) → ∀ w : Int, w = isum (dnr (A 3) d M) j → ∀ x5 x6 : Option AV, Wp 31 5 [some (vR 36), some (vR 1), some (.inl d), some (.inl w), some (.inl (j : Int)), x5, x6] [] (mk (hnb (hrd A dn up) R2 rf qu) F2 q) Q by
    exact key J 0 (by omega) _ (EQN_c hE (fun a b => by simp only [sq1, rbk_0, isum, pbk_z]; omega)) F1 hF 0 rfl none none
  intro x
  induction x with
  | zero =>
    intro j hj R2 hE F2 hF w hw x5 x6
    obtain rfl : j = J := by omega
    have hJ2 : F2 17 = j := by rw [FRR_J hF]; exact hJ
    rw [r31_5]
    simp (disch := omega) only [r31_0, r31_1, r31_2, r31_3, r31_7, r31_8, r31_11, r31_14, r31_15, r31_17, r31_18, r31_22, r31_23, r31_26, r31_29, r31_31, r31_32, r31_35, r31_37, r31_39, r31_42, r31_43, r31_45, r31_48, r31_51, r31_52, r31_54, r31_55, r31_56, r31_57, r31_58, r31_59, r31_61, r31_62, r31_63, r31_65, r31_68, r31_70, r31_71, r31_74, r31_77, r31_80, r31_81, r31_85, r31_86, r31_89, r31_92, r31_93, r31_95, r31_96, r31_100, r31_101, r31_104, r31_107, r31_109, r31_110, r31_113, r31_115, r31_117, r31_120, r31_121, r31_123, r31_126, r31_129, r31_130, r31_131, r31_134, r31_136, r31_137, r31_138, r31_141, r31_142, r31_144, r31_147, r31_149, r31_150, r31_153, r31_156, r31_159, r31_160, r31_161, r31_164, r31_165, r31_166, r31_169, r31_170, r31_171, r31_174, Cn_n, Cn_v, Cn_x, dp_0, dp_1, dp_2, dp_3, dp_4, okv_n, okv_i, okv_r, eq_self, true_and, and_true, Option.some.injEq, exists_eq_left', rgT, ixT, ixU, ↓if_pos, ↓if_neg, Int.toNat_natCast, bT0, bT1, g_36_0, g_36_1, g_36_2, g_36_3, s_36_3, g_36_4, s_36_4, g_36_5, s_36_5, g_36_6, s_36_6, g_36_7, s_36_7, t_jobs, hJ2]
    suffices key2 : ∀ x m : Nat, m + x = M → ∀ R2, EQN R2 (sq2 (A 3) d j M m) → ∀ F2, FRR F F2 j M (isum (ljf (A 3) d M) j + isum (lmf (A 3) d j) m) → ∀ x5 x6 : Option AV, Wp 31 83 [some (vR 36), some (vR 1), some (.inl d), some (.inl w), some (.inl (m : Int)), x5, x6] [] (mk (hnb (hrd A dn up) R2 rf qu) F2 q) Q by
      exact key2 M 0 (by omega) R2 (EQN_c hE (fun a b => by simp only [sq2, cbk_0, isum, pbk_z]; omega)) F2 (by simp only [isum, Int.add_zero]; exact hF) x5 x6
    clear hE hF F2 hJ2 R2 x5 x6
    intro x
    induction x with
    | zero =>
      intro m hm R2 hE F2 hF x5 x6
      obtain rfl : m = M := by omega
      have hJ2 : F2 17 = j := by rw [FRR_J hF]; exact hJ
      have hM2 : F2 18 = m := by rw [FRR_M hF]; exact hM
      have h580 := hF.2.2.1
      have h581 := hF.2.2.2.1
      have h582 := hF.2.2.2.2.1
      have hwd : w = dna (A 3) d j m := hw
      subst hwd
      have q0 : EQN (adE (adE (adE R2 (1 + j + m) 0 (uaf (A 3) d j m - laf (A 3) d j m)) (1 + j + m + 1) 0 (laf (A 3) d j m)) (1 + j + m) (1 + j + m + 2) (laf (A 3) d j m)) (rne (A 3) d j m) := EQN_ad (EQN_ad (EQN_ad hE (by omega) (fun a b => rfl)) (by omega) (fun a b => rfl)) (by omega) (fun a b => rfl)
      rw [r31_83]
      simp (disch := omega) only [r31_0, r31_1, r31_2, r31_3, r31_7, r31_8, r31_11, r31_14, r31_15, r31_17, r31_18, r31_22, r31_23, r31_26, r31_29, r31_31, r31_32, r31_35, r31_37, r31_39, r31_42, r31_43, r31_45, r31_48, r31_51, r31_52, r31_54, r31_55, r31_56, r31_57, r31_58, r31_59, r31_61, r31_62, r31_63, r31_65, r31_68, r31_70, r31_71, r31_74, r31_77, r31_80, r31_81, r31_85, r31_86, r31_89, r31_92, r31_93, r31_95, r31_96, r31_100, r31_101, r31_104, r31_107, r31_109, r31_110, r31_113, r31_115, r31_117, r31_120, r31_121, r31_123, r31_126, r31_129, r31_130, r31_131, r31_134, r31_136, r31_137, r31_138, r31_141, r31_142, r31_144, r31_147, r31_149, r31_150, r31_153, r31_156, r31_159, r31_160, r31_161, r31_164, r31_165, r31_166, r31_169, r31_170, r31_171, r31_174, Cn_n, Cn_v, Cn_x, dp_0, dp_1, dp_2, dp_3, dp_4, okv_n, okv_i, okv_r, eq_self, true_and, and_true, Option.some.injEq, exists_eq_left', rgT, ixT, ixU, ↓if_pos, ↓if_neg, Int.toNat_natCast, bT0, bT1, g_36_0, g_36_1, g_36_2, g_36_3, s_36_3, g_36_4, s_36_4, g_36_5, s_36_5, g_36_6, s_36_6, g_36_7, s_36_7, t_machs, hM2, h580, t_all hJ2 hM2 hJ5 hM5, hr_3, rb_edge (J := j) (M := m) hd hd1 h581 h582 hJM10, tn0, tn2, k_au, k_al]
      exact hQ _ _ (FRR_add hF) q0
    | succ x ih =>
      intro m hm R2 hE F2 hF x5 x6
      have hJ2 : F2 17 = j := by rw [FRR_J hF]; exact hJ
      have hM2 : F2 18 = M := by rw [FRR_M hF]; exact hM
      have h579 := hF.2.1
      have h580 := hF.2.2.1
      have h581 := hF.2.2.2.1
      have h582 := hF.2.2.2.2.1
      have bC := colS_bd ht hJ5 (show m < 5 by omega)
      have q0 : EQN (adE (adE (adE R2 (1 + j + m) (1 + j + M) (umf (A 3) d j m - lmf (A 3) d j m)) (1 + j + M + 1) (1 + j + M) (lmf (A 3) d j m)) (1 + j + m) (1 + j + M + 2) (lmf (A 3) d j m)) (sq2 (A 3) d j M (m + 1)) := EQN_ad (EQN_ad (EQN_ad hE (by omega) (fun a b => rfl)) (by omega) (fun a b => rfl)) (by omega) (fun a b => by
        have z := @pbk_add (1 + j + M + 1) (1 + j + M) a b (isum (lmf (A 3) d j) m) (lmf (A 3) d j m)
        simp only [sq2, cbk_s, isum]
        omega)
      have ihm := ih (m + 1) (by omega) _ q0
      rw [r31_83]
      simp (disch := omega) only [r31_0, r31_1, r31_2, r31_3, r31_7, r31_8, r31_11, r31_14, r31_15, r31_17, r31_18, r31_22, r31_23, r31_26, r31_29, r31_31, r31_32, r31_35, r31_37, r31_39, r31_42, r31_43, r31_45, r31_48, r31_51, r31_52, r31_54, r31_55, r31_56, r31_57, r31_58, r31_59, r31_61, r31_62, r31_63, r31_65, r31_68, r31_70, r31_71, r31_74, r31_77, r31_80, r31_81, r31_85, r31_86, r31_89, r31_92, r31_93, r31_95, r31_96, r31_100, r31_101, r31_104, r31_107, r31_109, r31_110, r31_113, r31_115, r31_117, r31_120, r31_121, r31_123, r31_126, r31_129, r31_130, r31_131, r31_134, r31_136, r31_137, r31_138, r31_141, r31_142, r31_144, r31_147, r31_149, r31_150, r31_153, r31_156, r31_159, r31_160, r31_161, r31_164, r31_165, r31_166, r31_169, r31_170, r31_171, r31_174, Cn_n, Cn_v, Cn_x, dp_0, dp_1, dp_2, dp_3, dp_4, okv_n, okv_i, okv_r, eq_self, true_and, and_true, Option.some.injEq, exists_eq_left', rgT, ixT, ixU, ↓if_pos, ↓if_neg, Int.toNat_natCast, bT0, bT1, g_36_0, g_36_1, g_36_2, g_36_3, s_36_3, g_36_4, s_36_4, g_36_5, s_36_5, g_36_6, s_36_6, g_36_7, s_36_7, t_machs, hM2]
      suffices key3 : ∀ x y : Nat, y + x = j → ∀ w2 : Int, w2 = isum (fun j => dq (A 3) d j m) y → Wp 31 98 [some (vR 36), some (vR 1), some (.inl d), some (.inl w), some (.inl (m : Int)), some (.inl w2), some (.inl (y : Int))] [] (mk (hnb (hrd A dn up) R2 rf qu) F2 q) Q by
        exact key3 j 0 (by omega) 0 rfl
      intro x3
      induction x3 with
      | zero =>
        intro y hy w2 hw2
        obtain rfl : y = j := by omega
        have hwd : w2 = dnc (A 3) d y m := hw2
        subst hwd
        rw [r31_98]
        simp (disch := omega) only [r31_0, r31_1, r31_2, r31_3, r31_7, r31_8, r31_11, r31_14, r31_15, r31_17, r31_18, r31_22, r31_23, r31_26, r31_29, r31_31, r31_32, r31_35, r31_37, r31_39, r31_42, r31_43, r31_45, r31_48, r31_51, r31_52, r31_54, r31_55, r31_56, r31_57, r31_58, r31_59, r31_61, r31_62, r31_63, r31_65, r31_68, r31_70, r31_71, r31_74, r31_77, r31_80, r31_81, r31_85, r31_86, r31_89, r31_92, r31_93, r31_95, r31_96, r31_100, r31_101, r31_104, r31_107, r31_109, r31_110, r31_113, r31_115, r31_117, r31_120, r31_121, r31_123, r31_126, r31_129, r31_130, r31_131, r31_134, r31_136, r31_137, r31_138, r31_141, r31_142, r31_144, r31_147, r31_149, r31_150, r31_153, r31_156, r31_159, r31_160, r31_161, r31_164, r31_165, r31_166, r31_169, r31_170, r31_171, r31_174, Cn_n, Cn_v, Cn_x, dp_0, dp_1, dp_2, dp_3, dp_4, okv_n, okv_i, okv_r, eq_self, true_and, and_true, Option.some.injEq, exists_eq_left', rgT, ixT, ixU, ↓if_pos, ↓if_neg, Int.toNat_natCast, bT0, bT1, g_36_0, g_36_1, g_36_2, g_36_3, s_36_3, g_36_4, s_36_4, g_36_5, s_36_5, g_36_6, s_36_6, g_36_7, s_36_7, t_jobs, hJ2, h579, h580, t_col hJ2 hJ5, hr_3, rb_edge (J := y) (M := M) hd hd1 h581 h582 hJM10, tn2, k_mu, k_ml]
        exact ihm _ (by
          have := FRR_add (x := lmf (A 3) d y m) hF
          rw [Int.add_assoc] at this
          exact this) _ _
      | succ x3 ih3 =>
        intro y hy w2 hw2
        have e1 := hdn y (by omega) m (by omega)
        rw [r31_98]
        simp (disch := omega) only [r31_0, r31_1, r31_2, r31_3, r31_7, r31_8, r31_11, r31_14, r31_15, r31_17, r31_18, r31_22, r31_23, r31_26, r31_29, r31_31, r31_32, r31_35, r31_37, r31_39, r31_42, r31_43, r31_45, r31_48, r31_51, r31_52, r31_54, r31_55, r31_56, r31_57, r31_58, r31_59, r31_61, r31_62, r31_63, r31_65, r31_68, r31_70, r31_71, r31_74, r31_77, r31_80, r31_81, r31_85, r31_86, r31_89, r31_92, r31_93, r31_95, r31_96, r31_100, r31_101, r31_104, r31_107, r31_109, r31_110, r31_113, r31_115, r31_117, r31_120, r31_121, r31_123, r31_126, r31_129, r31_130, r31_131, r31_134, r31_136, r31_137, r31_138, r31_141, r31_142, r31_144, r31_147, r31_149, r31_150, r31_153, r31_156, r31_159, r31_160, r31_161, r31_164, r31_165, r31_166, r31_169, r31_170, r31_171, r31_174, Cn_n, Cn_v, Cn_x, dp_0, dp_1, dp_2, dp_3, dp_4, okv_n, okv_i, okv_r, eq_self, true_and, and_true, Option.some.injEq, exists_eq_left', rgT, ixT, ixU, ↓if_pos, ↓if_neg, Int.toNat_natCast, bT0, bT1, g_36_0, g_36_1, g_36_2, g_36_3, s_36_3, g_36_4, s_36_4, g_36_5, s_36_5, g_36_6, s_36_6, g_36_7, s_36_7, t_jobs, hJ2, gget_44, hr_45, e1]
        exact ih3 (y + 1) (by omega) _ (by rw [hw2]; rfl)
  | succ x ih =>
    intro j hj R2 hE F2 hF w hw x5 x6
    have hJ2 : F2 17 = J := by rw [FRR_J hF]; exact hJ
    have hM2 : F2 18 = M := by rw [FRR_M hF]; exact hM
    have h581 := hF.2.2.2.1
    have h582 := hF.2.2.2.2.1
    have bR := rowS_bd ht hM5 (show j < 5 by omega)
    have q0 : EQN (adE (adE (adE R2 0 (1 + j) (ujf (A 3) d M j - ljf (A 3) d M j)) (1 + J + M + 1) (1 + j) (ljf (A 3) d M j)) 0 (1 + J + M + 2) (ljf (A 3) d M j)) (sq1 (A 3) d J M (j + 1)) := EQN_ad (EQN_ad (EQN_ad hE (by omega) (fun a b => rfl)) (by omega) (fun a b => rfl)) (by omega) (fun a b => by
      have z := @pbk_add 0 (1 + J + M + 2) a b (isum (ljf (A 3) d M) j) (ljf (A 3) d M j)
      simp only [sq1, rbk_s, isum]
      omega)
    have ihm := ih (j + 1) (by omega) _ q0
    rw [r31_5]
    simp (disch := omega) only [r31_0, r31_1, r31_2, r31_3, r31_7, r31_8, r31_11, r31_14, r31_15, r31_17, r31_18, r31_22, r31_23, r31_26, r31_29, r31_31, r31_32, r31_35, r31_37, r31_39, r31_42, r31_43, r31_45, r31_48, r31_51, r31_52, r31_54, r31_55, r31_56, r31_57, r31_58, r31_59, r31_61, r31_62, r31_63, r31_65, r31_68, r31_70, r31_71, r31_74, r31_77, r31_80, r31_81, r31_85, r31_86, r31_89, r31_92, r31_93, r31_95, r31_96, r31_100, r31_101, r31_104, r31_107, r31_109, r31_110, r31_113, r31_115, r31_117, r31_120, r31_121, r31_123, r31_126, r31_129, r31_130, r31_131, r31_134, r31_136, r31_137, r31_138, r31_141, r31_142, r31_144, r31_147, r31_149, r31_150, r31_153, r31_156, r31_159, r31_160, r31_161, r31_164, r31_165, r31_166, r31_169, r31_170, r31_171, r31_174, Cn_n, Cn_v, Cn_x, dp_0, dp_1, dp_2, dp_3, dp_4, okv_n, okv_i, okv_r, eq_self, true_and, and_true, Option.some.injEq, exists_eq_left', rgT, ixT, ixU, ↓if_pos, ↓if_neg, Int.toNat_natCast, bT0, bT1, g_36_0, g_36_1, g_36_2, g_36_3, s_36_3, g_36_4, s_36_4, g_36_5, s_36_5, g_36_6, s_36_6, g_36_7, s_36_7, t_jobs, hJ2]
    suffices key3 : ∀ x y : Nat, y + x = M → ∀ w2 : Int, w2 = isum (dq (A 3) d j) y → Wp 31 20 [some (vR 36), some (vR 1), some (.inl d), some (.inl w), some (.inl (j : Int)), some (.inl w2), some (.inl (y : Int))] [] (mk (hnb (hrd A dn up) R2 rf qu) F2 q) Q by
      exact key3 M 0 (by omega) 0 rfl
    intro x3
    induction x3 with
    | zero =>
      intro y hy w2 hw2
      obtain rfl : y = M := by omega
      have hwd : w2 = dnr (A 3) d y j := hw2
      subst hwd
      rw [r31_20]
      simp (disch := omega) only [r31_0, r31_1, r31_2, r31_3, r31_7, r31_8, r31_11, r31_14, r31_15, r31_17, r31_18, r31_22, r31_23, r31_26, r31_29, r31_31, r31_32, r31_35, r31_37, r31_39, r31_42, r31_43, r31_45, r31_48, r31_51, r31_52, r31_54, r31_55, r31_56, r31_57, r31_58, r31_59, r31_61, r31_62, r31_63, r31_65, r31_68, r31_70, r31_71, r31_74, r31_77, r31_80, r31_81, r31_85, r31_86, r31_89, r31_92, r31_93, r31_95, r31_96, r31_100, r31_101, r31_104, r31_107, r31_109, r31_110, r31_113, r31_115, r31_117, r31_120, r31_121, r31_123, r31_126, r31_129, r31_130, r31_131, r31_134, r31_136, r31_137, r31_138, r31_141, r31_142, r31_144, r31_147, r31_149, r31_150, r31_153, r31_156, r31_159, r31_160, r31_161, r31_164, r31_165, r31_166, r31_169, r31_170, r31_171, r31_174, Cn_n, Cn_v, Cn_x, dp_0, dp_1, dp_2, dp_3, dp_4, okv_n, okv_i, okv_r, eq_self, true_and, and_true, Option.some.injEq, exists_eq_left', rgT, ixT, ixU, ↓if_pos, ↓if_neg, Int.toNat_natCast, bT0, bT1, g_36_0, g_36_1, g_36_2, g_36_3, s_36_3, g_36_4, s_36_4, g_36_5, s_36_5, g_36_6, s_36_6, g_36_7, s_36_7, t_machs, hM2, t_row hM2 hM5, hr_3, rb_edge (J := J) (M := y) hd hd1 h581 h582 hJM10, tn0, tn1, k_eu, k_el]
      exact ihm _ (FRR_add hF) _ (by rw [hw]; rfl) _ _
    | succ x3 ih3 =>
      intro y hy w2 hw2
      have e1 := hdn j (by omega) y (by omega)
      rw [r31_20]
      simp (disch := omega) only [r31_0, r31_1, r31_2, r31_3, r31_7, r31_8, r31_11, r31_14, r31_15, r31_17, r31_18, r31_22, r31_23, r31_26, r31_29, r31_31, r31_32, r31_35, r31_37, r31_39, r31_42, r31_43, r31_45, r31_48, r31_51, r31_52, r31_54, r31_55, r31_56, r31_57, r31_58, r31_59, r31_61, r31_62, r31_63, r31_65, r31_68, r31_70, r31_71, r31_74, r31_77, r31_80, r31_81, r31_85, r31_86, r31_89, r31_92, r31_93, r31_95, r31_96, r31_100, r31_101, r31_104, r31_107, r31_109, r31_110, r31_113, r31_115, r31_117, r31_120, r31_121, r31_123, r31_126, r31_129, r31_130, r31_131, r31_134, r31_136, r31_137, r31_138, r31_141, r31_142, r31_144, r31_147, r31_149, r31_150, r31_153, r31_156, r31_159, r31_160, r31_161, r31_164, r31_165, r31_166, r31_169, r31_170, r31_171, r31_174, Cn_n, Cn_v, Cn_x, dp_0, dp_1, dp_2, dp_3, dp_4, okv_n, okv_i, okv_r, eq_self, true_and, and_true, Option.some.injEq, exists_eq_left', rgT, ixT, ixU, ↓if_pos, ↓if_neg, Int.toNat_natCast, bT0, bT1, g_36_0, g_36_1, g_36_2, g_36_3, s_36_3, g_36_4, s_36_4, g_36_5, s_36_5, g_36_6, s_36_6, g_36_7, s_36_7, t_machs, hM2, gget_44, hr_45, e1]
      exact ih3 (y + 1) (by omega) _ (by rw [hw2]; rfl)
theorem rs_settle (hi : i = (a : Int)) (hj : j = (b : Int)) (hn : F 595 = ((J + M + 4 : Nat) : Int)) (hJM : J + M ≤ 10) (ha : a < J + M + 4) (hb : b < J + M + 4) (hab : a ≠ b) (hB : ∀ x, x < J + M + 4 → ∀ y, y < J + M + 4 → 0 ≤ R (14 * x + y) ∧ R (14 * x + y) + R (14 * y + x) ≤ 100000)
    (hQ : ∀ R2 rf2 qu2 v, 0 ≤ v → v ≤ R (14 * b + a) → FLW (J + M + 4) (uq (uq R (14 * a + b) 0) (14 * b + a) 0) R2 a b v → (v = 0 → R2 = uq (uq R (14 * a + b) 0) (14 * b + a) 0) → (v = R (14 * b + a) ∨ ∃ S, CUT (J + M + 4) R2 a b S) → Q (.inl (some (.inl (R (14 * b + a) - v))), mk (hnb A R2 rf2 qu2) F q)) :
    Ew 33 [vR 36, .inl i, .inl j] (mk (hnb A R rf qu) F q) Q := by
  subst hi hj
  have h1 := hB a ha b hb
  have h2 := hB b hb a ha
  refine ⟨rc_33 g_36_0 rfl rfl, ?_⟩
  rw [lc_33]
  simp (disch := omega) only [r33_0, r33_1, r33_4, r33_5, r33_6, r33_9, r33_10, r33_11, r33_14, r33_15, r33_16, r33_19, r33_20, r33_21, r33_24, r33_25, r33_26, r33_27, r33_30, r33_31, Cn_n, Cn_v, Cn_x, dp_0, dp_1, dp_2, dp_3, dp_4, okv_n, okv_i, okv_r, eq_self, true_and, and_true, Option.some.injEq, exists_eq_left', rgT, ixT, ixU, ↓if_pos, ↓if_neg, Int.toNat_natCast, bT0, bT1, g_36_0, g_36_1, g_36_2, g_36_3, s_36_3, g_36_4, s_36_4, g_36_5, s_36_5, g_36_6, s_36_6, g_36_7, s_36_7, nb_room, nb_shut]
  refine nb_pushi (s := a) (t := b) rfl rfl hn (by omega) (fun x hx y hy => ?_) ha hb hab h2.1 (by omega) (fun R3 rf3 qu3 v v0 v1 v2 v3 v4 => ?_)
  · have g1 := hB x hx y hy
    have g2 := hB y hy x hx
    have key : ∀ z, 0 ≤ R z → 0 ≤ uq (uq R (14 * a + b) 0) (14 * b + a) 0 z ∧ uq (uq R (14 * a + b) 0) (14 * b + a) 0 z ≤ R z := by
      intro z hz
      unfold uq
      split
      · omega
      · split <;> omega
    have k1 := key _ g1.1
    have k2 := key _ g2.1
    omega
  · simp (disch := omega) only [r33_0, r33_1, r33_4, r33_5, r33_6, r33_9, r33_10, r33_11, r33_14, r33_15, r33_16, r33_19, r33_20, r33_21, r33_24, r33_25, r33_26, r33_27, r33_30, r33_31, Cn_n, Cn_v, Cn_x, dp_0, dp_1, dp_2, dp_3, dp_4, okv_n, okv_i, okv_r, eq_self, true_and, and_true, Option.some.injEq, exists_eq_left', rgT, ixT, ixU, ↓if_pos, ↓if_neg, Int.toNat_natCast, bT0, bT1, g_36_0, g_36_1, g_36_2, g_36_3, s_36_3, g_36_4, s_36_4, g_36_5, s_36_5, g_36_6, s_36_6, g_36_7, s_36_7]
    exact hQ _ _ _ _ v0 v1 v2 v3 v4
theorem rd_make0 (hJ : F 17 = J) (hM : F 18 = M) (hJ5 : J ≤ 5) (hM5 : M ≤ 5) (ht : TOK (A 3)) (hd : 1 ≤ d) (hd1 : d ≤ 100)
    (hQ : ∀ F1 R1 rf1 qu1 f, FRR F F1 J M (LFv (A 3) d J M) → VR (A 3) d J M (fun j m => f (5 * j + m)) → LEX (A 3) d J M f J 0 → (∀ j m, m < 5 → (J ≤ j ∨ M ≤ m) → f (5 * j + m) = 0) → Q (.inl none, mk (hnb (hrd A (rdp (A 3) d M J 0) f) R1 rf1 qu1) F1 q)) : Ew 27 [vR 36, vR 1, .inl d] (mk (hnb (hrd A dn up) R rf qu) F q) Q := by
  have bL := LFv_bd hd ht hJ5 hM5
  refine ⟨rc_27 g_36_0 rfl rfl, ?_⟩
  rw [lc_27]
  simp (disch := omega) only [r27_0, r27_1, r27_2, r27_3, r27_6, r27_7, r27_8, r27_11, r27_12, r27_13, r27_14, r27_17, r27_18, r27_19, r27_20, r27_23, r27_24, r27_27, r27_28, r27_31, r27_32, r27_35, r27_36, r27_39, r27_42, r27_43, r27_44, r27_46, r27_47, r27_50, r27_53, r27_54, r27_58, r27_59, r27_62, r27_65, r27_66, r27_69, r27_70, r27_72, r27_73, r27_74, r27_75, r27_76, r27_77, r27_80, r27_82, r27_83, r27_86, r27_89, r27_92, r27_95, r27_98, r27_101, Cn_n, Cn_v, Cn_x, dp_0, dp_1, dp_2, dp_3, dp_4, okv_n, okv_i, okv_r, eq_self, true_and, and_true, Option.some.injEq, exists_eq_left', rgT, ixT, ixU, ↓if_pos, ↓if_neg, Int.toNat_natCast, bT0, bT1, g_36_0, g_36_1, g_36_2, g_36_3, s_36_3, g_36_4, s_36_4, g_36_5, s_36_5, g_36_6, s_36_6, g_36_7, s_36_7, rd_down hJ hM hJ5 hM5 ht hd hd1]
  refine rd_lay hJ hM hJ5 hM5 (fun F1 hF1 => ?_)
  simp (disch := omega) only [r27_0, r27_1, r27_2, r27_3, r27_6, r27_7, r27_8, r27_11, r27_12, r27_13, r27_14, r27_17, r27_18, r27_19, r27_20, r27_23, r27_24, r27_27, r27_28, r27_31, r27_32, r27_35, r27_36, r27_39, r27_42, r27_43, r27_44, r27_46, r27_47, r27_50, r27_53, r27_54, r27_58, r27_59, r27_62, r27_65, r27_66, r27_69, r27_70, r27_72, r27_73, r27_74, r27_75, r27_76, r27_77, r27_80, r27_82, r27_83, r27_86, r27_89, r27_92, r27_95, r27_98, r27_101, Cn_n, Cn_v, Cn_x, dp_0, dp_1, dp_2, dp_3, dp_4, okv_n, okv_i, okv_r, eq_self, true_and, and_true, Option.some.injEq, exists_eq_left', rgT, ixT, ixU, ↓if_pos, ↓if_neg, Int.toNat_natCast, bT0, bT1, g_36_0, g_36_1, g_36_2, g_36_3, s_36_3, g_36_4, s_36_4, g_36_5, s_36_5, g_36_6, s_36_6, g_36_7, s_36_7]
  refine rd_open hJ hM hJ5 hM5 ht hd hF1 (fun j hj m hm => rdp_at hj hm hM5) (fun R1 hE1 => ?_)
  simp (disch := omega) only [r27_0, r27_1, r27_2, r27_3, r27_6, r27_7, r27_8, r27_11, r27_12, r27_13, r27_14, r27_17, r27_18, r27_19, r27_20, r27_23, r27_24, r27_27, r27_28, r27_31, r27_32, r27_35, r27_36, r27_39, r27_42, r27_43, r27_44, r27_46, r27_47, r27_50, r27_53, r27_54, r27_58, r27_59, r27_62, r27_65, r27_66, r27_69, r27_70, r27_72, r27_73, r27_74, r27_75, r27_76, r27_77, r27_80, r27_82, r27_83, r27_86, r27_89, r27_92, r27_95, r27_98, r27_101, Cn_n, Cn_v, Cn_x, dp_0, dp_1, dp_2, dp_3, dp_4, okv_n, okv_i, okv_r, eq_self, true_and, and_true, Option.some.injEq, exists_eq_left', rgT, ixT, ixU, ↓if_pos, ↓if_neg, Int.toNat_natCast, bT0, bT1, g_36_0, g_36_1, g_36_2, g_36_3, s_36_3, g_36_4, s_36_4, g_36_5, s_36_5, g_36_6, s_36_6, g_36_7, s_36_7]
  refine rd_bound hJ hM hJ5 hM5 ht hd hd1 hF1 (fun j hj m hm => rdp_at hj hm hM5) hE1 (fun F2 R0 hF hE => ?_)
  have hJ2 : F2 17 = J := by rw [FRR_J hF]; exact hJ
  have hM2 : F2 18 = M := by rw [FRR_M hF]; exact hM
  have h579 := hF.2.1
  have h581 := hF.2.2.2.1
  have h582 := hF.2.2.2.2.1
  have h583 := hF.2.2.2.2.2.1
  have h595 := hF.2.2.2.2.2.2
  simp (disch := omega) only [r27_0, r27_1, r27_2, r27_3, r27_6, r27_7, r27_8, r27_11, r27_12, r27_13, r27_14, r27_17, r27_18, r27_19, r27_20, r27_23, r27_24, r27_27, r27_28, r27_31, r27_32, r27_35, r27_36, r27_39, r27_42, r27_43, r27_44, r27_46, r27_47, r27_50, r27_53, r27_54, r27_58, r27_59, r27_62, r27_65, r27_66, r27_69, r27_70, r27_72, r27_73, r27_74, r27_75, r27_76, r27_77, r27_80, r27_82, r27_83, r27_86, r27_89, r27_92, r27_95, r27_98, r27_101, Cn_n, Cn_v, Cn_x, dp_0, dp_1, dp_2, dp_3, dp_4, okv_n, okv_i, okv_r, eq_self, true_and, and_true, Option.some.injEq, exists_eq_left', rgT, ixT, ixU, ↓if_pos, ↓if_neg, Int.toNat_natCast, bT0, bT1, g_36_0, g_36_1, g_36_2, g_36_3, s_36_3, g_36_4, s_36_4, g_36_5, s_36_5, g_36_6, s_36_6, g_36_7, s_36_7, h581, h582, h583]
  refine nb_pushi (s := 1 + J + M + 1) (t := 1 + J + M + 2) (by omega) (by omega) h595 (by omega) (fun x hx y hy => ?_) (by omega) (by omega) (by omega) bL.1 (by omega) (fun R3 rf3 qu3 v v0 v1 v2 v3 v4 => ?_)
  · have x1 := @rne_bd (A 3) d J M hd ht hJ5 hM5 x y
    have x2 := @rne_bd (A 3) d J M hd ht hJ5 hM5 y x
    rw [hE x y (by omega), hE y x (by omega)]
    omega
  have hvL : v = LFv (A 3) d J M := by
    rcases v4 with h | ⟨S, hS⟩
    · exact h
    · have := rn_full hd ht hJ5 hM5 hE v2 hS
      omega
  subst hvL
  have st0 : STL (A 3) d J M R0 R3 (fun _ => 0) 0 0 := ⟨R3, v2, fun a ha b hb => ⟨fun h => by omega, fun _ => rfl⟩, fun j hj m hm h => by omega⟩
  have lx0 : LEX (A 3) d J M (fun _ => 0) 0 0 := fun j hj m hm h => by omega
  simp (disch := omega) only [r27_0, r27_1, r27_2, r27_3, r27_6, r27_7, r27_8, r27_11, r27_12, r27_13, r27_14, r27_17, r27_18, r27_19, r27_20, r27_23, r27_24, r27_27, r27_28, r27_31, r27_32, r27_35, r27_36, r27_39, r27_42, r27_43, r27_44, r27_46, r27_47, r27_50, r27_53, r27_54, r27_58, r27_59, r27_62, r27_65, r27_66, r27_69, r27_70, r27_72, r27_73, r27_74, r27_75, r27_76, r27_77, r27_80, r27_82, r27_83, r27_86, r27_89, r27_92, r27_95, r27_98, r27_101, Cn_n, Cn_v, Cn_x, dp_0, dp_1, dp_2, dp_3, dp_4, okv_n, okv_i, okv_r, eq_self, true_and, and_true, Option.some.injEq, exists_eq_left', rgT, ixT, ixU, ↓if_pos, ↓if_neg, Int.toNat_natCast, bT0, bT1, g_36_0, g_36_1, g_36_2, g_36_3, s_36_3, g_36_4, s_36_4, g_36_5, s_36_5, g_36_6, s_36_6, g_36_7, s_36_7]
  suffices key : ∀ x j : Nat, j + x = J → ∀ R3 rf3 qu3 f, STL (A 3) d J M R0 R3 f j 0 → LEX (A 3) d J M f j 0 → (∀ j m, m < 5 → (J ≤ j ∨ M ≤ m) → f (5 * j + m) = 0) → ∀ x4 : Option AV, Wp 27 45 [some (vR 36), some (vR 1), some (.inl d), some (.inl (j : Int)), x4] [] (mk (hnb (hrd A (rdp (A 3) d M J 0) f) R3 rf3 qu3) F2 q) Q by
    exact key J 0 (by omega) R3 rf3 qu3 _ st0 lx0 (fun _ _ _ _ => rfl) none
  clear st0 lx0 v0 v1 v2 v3 v4 R3 rf3 qu3
  intro x
  induction x with
  | zero =>
    intro j hj R3 rf3 qu3 f hs hl hz x4
    obtain rfl : j = J := by omega
    rw [r27_45]
    simp (disch := omega) only [r27_0, r27_1, r27_2, r27_3, r27_6, r27_7, r27_8, r27_11, r27_12, r27_13, r27_14, r27_17, r27_18, r27_19, r27_20, r27_23, r27_24, r27_27, r27_28, r27_31, r27_32, r27_35, r27_36, r27_39, r27_42, r27_43, r27_44, r27_46, r27_47, r27_50, r27_53, r27_54, r27_58, r27_59, r27_62, r27_65, r27_66, r27_69, r27_70, r27_72, r27_73, r27_74, r27_75, r27_76, r27_77, r27_80, r27_82, r27_83, r27_86, r27_89, r27_92, r27_95, r27_98, r27_101, Cn_n, Cn_v, Cn_x, dp_0, dp_1, dp_2, dp_3, dp_4, okv_n, okv_i, okv_r, eq_self, true_and, and_true, Option.some.injEq, exists_eq_left', rgT, ixT, ixU, ↓if_pos, ↓if_neg, Int.toNat_natCast, bT0, bT1, g_36_0, g_36_1, g_36_2, g_36_3, s_36_3, g_36_4, s_36_4, g_36_5, s_36_5, g_36_6, s_36_6, g_36_7, s_36_7, t_jobs, hJ2]
    exact hQ _ _ _ _ _ hF (stl_end hd hJ5 hM5 hE hs) hl hz
  | succ x ih =>
    intro j hj R3 rf3 qu3 f hs hl hz x4
    rw [r27_45]
    simp (disch := omega) only [r27_0, r27_1, r27_2, r27_3, r27_6, r27_7, r27_8, r27_11, r27_12, r27_13, r27_14, r27_17, r27_18, r27_19, r27_20, r27_23, r27_24, r27_27, r27_28, r27_31, r27_32, r27_35, r27_36, r27_39, r27_42, r27_43, r27_44, r27_46, r27_47, r27_50, r27_53, r27_54, r27_58, r27_59, r27_62, r27_65, r27_66, r27_69, r27_70, r27_72, r27_73, r27_74, r27_75, r27_76, r27_77, r27_80, r27_82, r27_83, r27_86, r27_89, r27_92, r27_95, r27_98, r27_101, Cn_n, Cn_v, Cn_x, dp_0, dp_1, dp_2, dp_3, dp_4, okv_n, okv_i, okv_r, eq_self, true_and, and_true, Option.some.injEq, exists_eq_left', rgT, ixT, ixU, ↓if_pos, ↓if_neg, Int.toNat_natCast, bT0, bT1, g_36_0, g_36_1, g_36_2, g_36_3, s_36_3, g_36_4, s_36_4, g_36_5, s_36_5, g_36_6, s_36_6, g_36_7, s_36_7, t_jobs, hJ2]
    suffices key2 : ∀ x m : Nat, m + x = M → ∀ R3 rf3 qu3 f, STL (A 3) d J M R0 R3 f j m → LEX (A 3) d J M f j m → (∀ j m, m < 5 → (J ≤ j ∨ M ≤ m) → f (5 * j + m) = 0) → Wp 27 56 [some (vR 36), some (vR 1), some (.inl d), some (.inl (j : Int)), some (.inl (m : Int))] [] (mk (hnb (hrd A (rdp (A 3) d M J 0) f) R3 rf3 qu3) F2 q) Q by
      exact key2 M 0 (by omega) R3 rf3 qu3 f hs hl hz
    clear hs hl hz R3 rf3 qu3 f x4
    intro x2
    induction x2 with
    | zero =>
      intro m hm R3 rf3 qu3 f hs hl hz
      obtain rfl : m = M := by omega
      rw [r27_56]
      simp (disch := omega) only [r27_0, r27_1, r27_2, r27_3, r27_6, r27_7, r27_8, r27_11, r27_12, r27_13, r27_14, r27_17, r27_18, r27_19, r27_20, r27_23, r27_24, r27_27, r27_28, r27_31, r27_32, r27_35, r27_36, r27_39, r27_42, r27_43, r27_44, r27_46, r27_47, r27_50, r27_53, r27_54, r27_58, r27_59, r27_62, r27_65, r27_66, r27_69, r27_70, r27_72, r27_73, r27_74, r27_75, r27_76, r27_77, r27_80, r27_82, r27_83, r27_86, r27_89, r27_92, r27_95, r27_98, r27_101, Cn_n, Cn_v, Cn_x, dp_0, dp_1, dp_2, dp_3, dp_4, okv_n, okv_i, okv_r, eq_self, true_and, and_true, Option.some.injEq, exists_eq_left', rgT, ixT, ixU, ↓if_pos, ↓if_neg, Int.toNat_natCast, bT0, bT1, g_36_0, g_36_1, g_36_2, g_36_3, s_36_3, g_36_4, s_36_4, g_36_5, s_36_5, g_36_6, s_36_6, g_36_7, s_36_7, t_machs, hM2]
      exact ih (j + 1) (by omega) _ _ _ _ (stl_row hs) (lex_row hl) hz _
    | succ x2 ih2 =>
      intro m hm R3 rf3 qu3 f hs hl hz
      rw [r27_56]
      simp (disch := omega) only [r27_0, r27_1, r27_2, r27_3, r27_6, r27_7, r27_8, r27_11, r27_12, r27_13, r27_14, r27_17, r27_18, r27_19, r27_20, r27_23, r27_24, r27_27, r27_28, r27_31, r27_32, r27_35, r27_36, r27_39, r27_42, r27_43, r27_44, r27_46, r27_47, r27_50, r27_53, r27_54, r27_58, r27_59, r27_62, r27_65, r27_66, r27_69, r27_70, r27_72, r27_73, r27_74, r27_75, r27_76, r27_77, r27_80, r27_82, r27_83, r27_86, r27_89, r27_92, r27_95, r27_98, r27_101, Cn_n, Cn_v, Cn_x, dp_0, dp_1, dp_2, dp_3, dp_4, okv_n, okv_i, okv_r, eq_self, true_and, and_true, Option.some.injEq, exists_eq_left', rgT, ixT, ixU, ↓if_pos, ↓if_neg, Int.toNat_natCast, bT0, bT1, g_36_0, g_36_1, g_36_2, g_36_3, s_36_3, g_36_4, s_36_4, g_36_5, s_36_5, g_36_6, s_36_6, g_36_7, s_36_7, t_machs, hM2, h579]
      refine rs_settle (a := 1 + j) (b := 1 + J + m) (J := J) (M := M) (by omega) (by omega) h595 (by omega) (by omega) (by omega) (by omega) (stl_bd hd ht hJ5 hM5 hE hs) (fun R4 rf4 qu4 v v0 v1 v2 v3 v4 => ?_)
      simp (disch := omega) only [r27_0, r27_1, r27_2, r27_3, r27_6, r27_7, r27_8, r27_11, r27_12, r27_13, r27_14, r27_17, r27_18, r27_19, r27_20, r27_23, r27_24, r27_27, r27_28, r27_31, r27_32, r27_35, r27_36, r27_39, r27_42, r27_43, r27_44, r27_46, r27_47, r27_50, r27_53, r27_54, r27_58, r27_59, r27_62, r27_65, r27_66, r27_69, r27_70, r27_72, r27_73, r27_74, r27_75, r27_76, r27_77, r27_80, r27_82, r27_83, r27_86, r27_89, r27_92, r27_95, r27_98, r27_101, Cn_n, Cn_v, Cn_x, dp_0, dp_1, dp_2, dp_3, dp_4, okv_n, okv_i, okv_r, eq_self, true_and, and_true, Option.some.injEq, exists_eq_left', rgT, ixT, ixU, ↓if_pos, ↓if_neg, Int.toNat_natCast, bT0, bT1, g_36_0, g_36_1, g_36_2, g_36_3, s_36_3, g_36_4, s_36_4, g_36_5, s_36_5, g_36_6, s_36_6, g_36_7, s_36_7, gput_46, hr_u47]
      obtain ⟨s1, s2⟩ := stl_step hd ht hJ5 hM5 hE (show j < J by omega) (show m < M by omega) hs hl rfl rfl v0 v1 v2 v3 v4
      refine ih2 (m + 1) (by omega) _ _ _ _ s1 s2 (fun j2 m2 hm2 h => ?_)
      rw [uq_n (by omega)]
      exact hz j2 m2 hm2 h
theorem rd_make (hJ : F 17 = J) (hM : F 18 = M) (hJ5 : J ≤ 5) (hM5 : M ≤ 5) (ht : TOK (A 3)) (hd : 1 ≤ d) (hd1 : d ≤ 100)
    (hQ : ∀ F1 R1 rf1 qu1 f, SFR F F1 → VR (A 3) d J M (fun j m => f (5 * j + m)) → LEX (A 3) d J M f J 0 → (∀ j m, m < 5 → (J ≤ j ∨ M ≤ m) → f (5 * j + m) = 0) → Q (.inl none, mk (hnb (hrd A (rdp (A 3) d M J 0) f) R1 rf1 qu1) F1 q)) : Ew 27 [vR 36, vR 1, .inl d] (mk A F q) Q := by
  have h := @rd_make0 A F q Q J M (A 39) (A 41) (A 43) (A 45) (A 47) d hJ hM hJ5 hM5 ht hd hd1 (fun F1 R1 rf1 qu1 f h1 h2 h3 h4 => hQ F1 R1 rf1 qu1 f h1.1 h2 h3 h4)
  rw [hr_id] at h
  exact h
end RMAKE
