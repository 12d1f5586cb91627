/-! the law's totals -/
section LTOT
variable {A : Nat → Nat → Int} {F : Nat → Int} {q : List Int × Nat} {Q : AR → Prop} {J M : Nat} {t : Nat → Int}
theorem fe_all (ht : TOK t) (hJ5 : J ≤ 5) (hM5 : M ≤ 5) : BALN (fun k => fe t J M (k / 10) (k % 10)) (J + M) (bnd t J M) := fe_BALN ht hJ5 hM5 (fun r hr c hc => by
  show fe t J M ((10 * r + c) / 10) ((10 * r + c) % 10) = fe t J M r c
  rw [show (10 * r + c) / 10 = r by omega, show (10 * r + c) % 10 = c by omega])
theorem fe_0 (ht : TOK t) (hJ5 : J ≤ 5) (hM5 : M ≤ 5) {r c : Nat} (hr : r < J + M) (hc : c < J + M) : 0 ≤ fe t J M r c ∧ fe t J M r c ≤ bnd t J M := by
  have h1 : 0 ≤ fe t J M ((10 * r + c) / 10) ((10 * r + c) % 10) := (fe_all ht hJ5 hM5).1 r hr c hc
  have h2 : fe t J M ((10 * r + c) / 10) ((10 * r + c) % 10) ≤ bnd t J M := BALN_le (fe_all ht hJ5 hM5) hr hc
  rw [show (10 * r + c) / 10 = r by omega, show (10 * r + c) % 10 = c by omega] at h1 h2
  exact ⟨h1, h2⟩
theorem fe_r (ht : TOK t) (hJ5 : J ≤ 5) (hM5 : M ≤ 5) {r : Nat} (hr : r < J + M) : isum (fun c => fe t J M r c) (J + M) = bnd t J M := by
  refine (isum_congr (fun c hc => ?_)).trans ((fe_all ht hJ5 hM5).2.1 r hr)
  show fe t J M r c = fe t J M ((10 * r + c) / 10) ((10 * r + c) % 10)
  rw [show (10 * r + c) / 10 = r by omega, show (10 * r + c) % 10 = c by omega]
theorem fe_c (ht : TOK t) (hJ5 : J ≤ 5) (hM5 : M ≤ 5) {r : Nat} (hr : r < J + M) : isum (fun c => fe t J M c r) (J + M) = bnd t J M := by
  refine (isum_congr (fun c hc => ?_)).trans ((fe_all ht hJ5 hM5).2.2 r hr)
  show fe t J M c r = fe t J M ((10 * c + r) / 10) ((10 * c + r) % 10)
  rw [show (10 * c + r) / 10 = c by omega, show (10 * c + r) % 10 = r by omega]
theorem l_totals (hJ : F 17 = J) (hM : F 18 = M) (hJ5 : J ≤ 5) (hM5 : M ≤ 5) (ht : TOK (A 3))
    (hQ : ∀ F1 R1 rf1 qu1, SAN F F1 → Q (.inl (some (.inl 1)), mk (hna A R1 rf1 qu1) F1 q)) : Ew 113 [vR 0] (mk A F q) Q := by
  have bB := bnd_bd ht hJ5 hM5
  refine ⟨rc_113 rfl, ?_⟩
  rw [lc_113]
  simp (disch := omega) only [r113_0, r113_1, r113_2, r113_3, r113_4, r113_5, r113_8, r113_9, r113_12, r113_13, r113_14, r113_15, r113_19, r113_20, r113_23, r113_24, r113_26, r113_27, r113_29, r113_30, r113_34, r113_35, r113_38, r113_40, r113_41, r113_43, r113_45, r113_48, r113_49, r113_51, r113_53, r113_54, r113_56, r113_58, r113_61, r113_62, r113_64, r113_65, r113_68, r113_69, r113_71, r113_73, r113_76, r113_79, r113_80, r113_83, r113_84, r113_85, r113_88, r113_91, r113_92, r113_95, r113_97, r113_98, r113_101, r113_104, r113_106, r113_107, r113_110, r113_113, r113_114, r113_117, r113_118, r113_119, r113_122, r113_125, r113_126, r113_130, r113_131, r113_134, r113_137, r113_138, r113_140, r113_143, r113_144, r113_147, r113_148, r113_150, r113_153, r113_156, r113_157, r113_158, r113_161, r113_164, r113_165, r113_169, r113_170, r113_173, r113_176, r113_177, r113_179, r113_182, r113_183, r113_186, r113_187, r113_189, r113_192, r113_195, r113_196, r113_197, r113_200, r113_203, r113_204, r113_207, r113_208, r113_211, r113_212, r113_215, r113_216, r113_219, r113_220, r113_223, r113_224, r113_227, r113_228, Cn_n, Cn_v, Cn_x, dp_0, dp_1, dp_2, dp_3, dp_4, okv_n, okv_i, okv_r, eq_self, true_and, and_true, Option.some.injEq, exists_eq_left', rgT, ixT, ixU, ↓if_pos, ↓if_neg, Int.toNat_natCast, bT0, bT1, o_jobs, o_machines, hJ, hM]
  suffices k3 : ∀ d x : Nat, x + d = M → ∀ a : Int, a = imax (fun m => colS (A 3) J m) (imax (fun j => rowS (A 3) M j) 0 J) x → ∀ x5 x6 x7 : Option AV, Wp 113 167 [some (vR 0), some (.inl a), some (.inl 1), some (.inl ((J : Int) + (M : Int))), some (.inl (x : Int)), x5, x6, x7] [] (mk A F q) Q by
    suffices k2 : ∀ d x : Nat, x + d = J → ∀ a : Int, a = imax (fun j => rowS (A 3) M j) 0 x → ∀ x5 x6 x7 : Option AV, Wp 113 128 [some (vR 0), some (.inl a), some (.inl 1), some (.inl ((J : Int) + (M : Int))), some (.inl (x : Int)), x5, x6, x7] [] (mk A F q) Q by
      suffices k1 : ∀ d r : Nat, r + d = J + M → ∀ x5 x6 x7 : Option AV, Wp 113 17 [some (vR 0), some (.inl 0), some (.inl 1), some (.inl ((J : Int) + (M : Int))), some (.inl (r : Int)), x5, x6, x7] [] (mk A F q) Q by
        exact k1 (J + M) 0 (by omega) _ _ _
      intro d
      induction d with
      | zero =>
        intro r hr x5 x6 x7
        rw [r113_17]
        simp (disch := omega) only [r113_0, r113_1, r113_2, r113_3, r113_4, r113_5, r113_8, r113_9, r113_12, r113_13, r113_14, r113_15, r113_19, r113_20, r113_23, r113_24, r113_26, r113_27, r113_29, r113_30, r113_34, r113_35, r113_38, r113_40, r113_41, r113_43, r113_45, r113_48, r113_49, r113_51, r113_53, r113_54, r113_56, r113_58, r113_61, r113_62, r113_64, r113_65, r113_68, r113_69, r113_71, r113_73, r113_76, r113_79, r113_80, r113_83, r113_84, r113_85, r113_88, r113_91, r113_92, r113_95, r113_97, r113_98, r113_101, r113_104, r113_106, r113_107, r113_110, r113_113, r113_114, r113_117, r113_118, r113_119, r113_122, r113_125, r113_126, r113_130, r113_131, r113_134, r113_137, r113_138, r113_140, r113_143, r113_144, r113_147, r113_148, r113_150, r113_153, r113_156, r113_157, r113_158, r113_161, r113_164, r113_165, r113_169, r113_170, r113_173, r113_176, r113_177, r113_179, r113_182, r113_183, r113_186, r113_187, r113_189, r113_192, r113_195, r113_196, r113_197, r113_200, r113_203, r113_204, r113_207, r113_208, r113_211, r113_212, r113_215, r113_216, r113_219, r113_220, r113_223, r113_224, r113_227, r113_228, Cn_n, Cn_v, Cn_x, dp_0, dp_1, dp_2, dp_3, dp_4, okv_n, okv_i, okv_r, eq_self, true_and, and_true, Option.some.injEq, exists_eq_left', rgT, ixT, ixU, ↓if_pos, ↓if_neg, Int.toNat_natCast, bT0, bT1]
        exact k2 J 0 (by omega) 0 rfl _ _ _
      | succ d ih =>
        intro r hr x5 x6 x7
        have hr9 : r < J + M := by omega
        have er := fe_r ht hJ5 hM5 hr9
        have ec := fe_c ht hJ5 hM5 hr9
        rw [r113_17]
        simp (disch := omega) only [r113_0, r113_1, r113_2, r113_3, r113_4, r113_5, r113_8, r113_9, r113_12, r113_13, r113_14, r113_15, r113_19, r113_20, r113_23, r113_24, r113_26, r113_27, r113_29, r113_30, r113_34, r113_35, r113_38, r113_40, r113_41, r113_43, r113_45, r113_48, r113_49, r113_51, r113_53, r113_54, r113_56, r113_58, r113_61, r113_62, r113_64, r113_65, r113_68, r113_69, r113_71, r113_73, r113_76, r113_79, r113_80, r113_83, r113_84, r113_85, r113_88, r113_91, r113_92, r113_95, r113_97, r113_98, r113_101, r113_104, r113_106, r113_107, r113_110, r113_113, r113_114, r113_117, r113_118, r113_119, r113_122, r113_125, r113_126, r113_130, r113_131, r113_134, r113_137, r113_138, r113_140, r113_143, r113_144, r113_147, r113_148, r113_150, r113_153, r113_156, r113_157, r113_158, r113_161, r113_164, r113_165, r113_169, r113_170, r113_173, r113_176, r113_177, r113_179, r113_182, r113_183, r113_186, r113_187, r113_189, r113_192, r113_195, r113_196, r113_197, r113_200, r113_203, r113_204, r113_207, r113_208, r113_211, r113_212, r113_215, r113_216, r113_219, r113_220, r113_223, r113_224, r113_227, r113_228, Cn_n, Cn_v, Cn_x, dp_0, dp_1, dp_2, dp_3, dp_4, okv_n, okv_i, okv_r, eq_self, true_and, and_true, Option.some.injEq, exists_eq_left', rgT, ixT, ixU, ↓if_pos, ↓if_neg, Int.toNat_natCast, bT0, bT1]
        suffices k0 : ∀ e c : Nat, c + e = J + M → ∀ a b : Int, a = isum (fun c => fe (A 3) J M r c) c → b = isum (fun c => fe (A 3) J M c r) c → Wp 113 32 [some (vR 0), some (.inl 0), some (.inl 1), some (.inl ((J : Int) + (M : Int))), some (.inl (r : Int)), some (.inl a), some (.inl b), some (.inl (c : Int))] [] (mk A F q) Q by
          exact k0 (J + M) 0 (by omega) 0 0 rfl rfl
        intro e
        induction e with
        | zero =>
          intro c hc a b ha hb
          obtain rfl : c = J + M := by omega
          rw [er] at ha
          rw [ec] at hb
          rw [r113_32]
          simp (disch := omega) only [r113_0, r113_1, r113_2, r113_3, r113_4, r113_5, r113_8, r113_9, r113_12, r113_13, r113_14, r113_15, r113_19, r113_20, r113_23, r113_24, r113_26, r113_27, r113_29, r113_30, r113_34, r113_35, r113_38, r113_40, r113_41, r113_43, r113_45, r113_48, r113_49, r113_51, r113_53, r113_54, r113_56, r113_58, r113_61, r113_62, r113_64, r113_65, r113_68, r113_69, r113_71, r113_73, r113_76, r113_79, r113_80, r113_83, r113_84, r113_85, r113_88, r113_91, r113_92, r113_95, r113_97, r113_98, r113_101, r113_104, r113_106, r113_107, r113_110, r113_113, r113_114, r113_117, r113_118, r113_119, r113_122, r113_125, r113_126, r113_130, r113_131, r113_134, r113_137, r113_138, r113_140, r113_143, r113_144, r113_147, r113_148, r113_150, r113_153, r113_156, r113_157, r113_158, r113_161, r113_164, r113_165, r113_169, r113_170, r113_173, r113_176, r113_177, r113_179, r113_182, r113_183, r113_186, r113_187, r113_189, r113_192, r113_195, r113_196, r113_197, r113_200, r113_203, r113_204, r113_207, r113_208, r113_211, r113_212, r113_215, r113_216, r113_219, r113_220, r113_223, r113_224, r113_227, r113_228, Cn_n, Cn_v, Cn_x, dp_0, dp_1, dp_2, dp_3, dp_4, okv_n, okv_i, okv_r, eq_self, true_and, and_true, Option.some.injEq, exists_eq_left', rgT, ixT, ixU, ↓if_pos, ↓if_neg, Int.toNat_natCast, bT0, bT1, o_bound hJ hM hJ5 hM5 ht]
          exact ih (r + 1) (by omega) _ _ _
        | succ e ih2 =>
          intro c hc a b ha hb
          have hc9 : c < J + M := by omega
          have g1 := fe_0 ht hJ5 hM5 hr9 hc9
          have g2 := fe_0 ht hJ5 hM5 hc9 hr9
          rw [r113_32]
          simp (disch := omega) only [r113_0, r113_1, r113_2, r113_3, r113_4, r113_5, r113_8, r113_9, r113_12, r113_13, r113_14, r113_15, r113_19, r113_20, r113_23, r113_24, r113_26, r113_27, r113_29, r113_30, r113_34, r113_35, r113_38, r113_40, r113_41, r113_43, r113_45, r113_48, r113_49, r113_51, r113_53, r113_54, r113_56, r113_58, r113_61, r113_62, r113_64, r113_65, r113_68, r113_69, r113_71, r113_73, r113_76, r113_79, r113_80, r113_83, r113_84, r113_85, r113_88, r113_91, r113_92, r113_95, r113_97, r113_98, r113_101, r113_104, r113_106, r113_107, r113_110, r113_113, r113_114, r113_117, r113_118, r113_119, r113_122, r113_125, r113_126, r113_130, r113_131, r113_134, r113_137, r113_138, r113_140, r113_143, r113_144, r113_147, r113_148, r113_150, r113_153, r113_156, r113_157, r113_158, r113_161, r113_164, r113_165, r113_169, r113_170, r113_173, r113_176, r113_177, r113_179, r113_182, r113_183, r113_186, r113_187, r113_189, r113_192, r113_195, r113_196, r113_197, r113_200, r113_203, r113_204, r113_207, r113_208, r113_211, r113_212, r113_215, r113_216, r113_219, r113_220, r113_223, r113_224, r113_227, r113_228, Cn_n, Cn_v, Cn_x, dp_0, dp_1, dp_2, dp_3, dp_4, okv_n, okv_i, okv_r, eq_self, true_and, and_true, Option.some.injEq, exists_eq_left', rgT, ixT, ixU, ↓if_pos, ↓if_neg, Int.toNat_natCast, bT0, bT1, o_filled hJ hM hJ5 hM5 ht]
          exact ih2 (c + 1) (by omega) _ _ (by rw [ha]; rfl) (by rw [hb]; rfl)
    intro d
    induction d with
    | zero =>
      intro x hx a ha x5 x6 x7
      have hxJ : x = J := by omega
      rw [hxJ] at ha
      rw [r113_128]
      simp (disch := omega) only [r113_0, r113_1, r113_2, r113_3, r113_4, r113_5, r113_8, r113_9, r113_12, r113_13, r113_14, r113_15, r113_19, r113_20, r113_23, r113_24, r113_26, r113_27, r113_29, r113_30, r113_34, r113_35, r113_38, r113_40, r113_41, r113_43, r113_45, r113_48, r113_49, r113_51, r113_53, r113_54, r113_56, r113_58, r113_61, r113_62, r113_64, r113_65, r113_68, r113_69, r113_71, r113_73, r113_76, r113_79, r113_80, r113_83, r113_84, r113_85, r113_88, r113_91, r113_92, r113_95, r113_97, r113_98, r113_101, r113_104, r113_106, r113_107, r113_110, r113_113, r113_114, r113_117, r113_118, r113_119, r113_122, r113_125, r113_126, r113_130, r113_131, r113_134, r113_137, r113_138, r113_140, r113_143, r113_144, r113_147, r113_148, r113_150, r113_153, r113_156, r113_157, r113_158, r113_161, r113_164, r113_165, r113_169, r113_170, r113_173, r113_176, r113_177, r113_179, r113_182, r113_183, r113_186, r113_187, r113_189, r113_192, r113_195, r113_196, r113_197, r113_200, r113_203, r113_204, r113_207, r113_208, r113_211, r113_212, r113_215, r113_216, r113_219, r113_220, r113_223, r113_224, r113_227, r113_228, Cn_n, Cn_v, Cn_x, dp_0, dp_1, dp_2, dp_3, dp_4, okv_n, okv_i, okv_r, eq_self, true_and, and_true, Option.some.injEq, exists_eq_left', rgT, ixT, ixU, ↓if_pos, ↓if_neg, Int.toNat_natCast, bT0, bT1, o_jobs, hJ]
      exact k3 M 0 (by omega) a ha _ _ _
    | succ d ih =>
      intro x hx a ha x5 x6 x7
      have hx9 : x < J := by omega
      have g1 := rowS_bd ht hM5 (show x < 5 by omega)
      have g2 := imax_bd (f := fun j => rowS (A 3) M j) (a := 0) (lo := 0) (hi := 495) (Int.le_refl _) (by omega) (n := x) (fun i hi => (rowS_bd ht hM5 (by omega)).2)
      rw [← ha] at g2
      have e9 : imax (fun j => rowS (A 3) M j) 0 (x + 1) = if a < rowS (A 3) M x then rowS (A 3) M x else a := by rw [ha]; rfl
      rw [r113_128]
      by_cases c1 : a < rowS (A 3) M x
      · rw [if_pos c1] at e9
        simp (disch := omega) only [r113_0, r113_1, r113_2, r113_3, r113_4, r113_5, r113_8, r113_9, r113_12, r113_13, r113_14, r113_15, r113_19, r113_20, r113_23, r113_24, r113_26, r113_27, r113_29, r113_30, r113_34, r113_35, r113_38, r113_40, r113_41, r113_43, r113_45, r113_48, r113_49, r113_51, r113_53, r113_54, r113_56, r113_58, r113_61, r113_62, r113_64, r113_65, r113_68, r113_69, r113_71, r113_73, r113_76, r113_79, r113_80, r113_83, r113_84, r113_85, r113_88, r113_91, r113_92, r113_95, r113_97, r113_98, r113_101, r113_104, r113_106, r113_107, r113_110, r113_113, r113_114, r113_117, r113_118, r113_119, r113_122, r113_125, r113_126, r113_130, r113_131, r113_134, r113_137, r113_138, r113_140, r113_143, r113_144, r113_147, r113_148, r113_150, r113_153, r113_156, r113_157, r113_158, r113_161, r113_164, r113_165, r113_169, r113_170, r113_173, r113_176, r113_177, r113_179, r113_182, r113_183, r113_186, r113_187, r113_189, r113_192, r113_195, r113_196, r113_197, r113_200, r113_203, r113_204, r113_207, r113_208, r113_211, r113_212, r113_215, r113_216, r113_219, r113_220, r113_223, r113_224, r113_227, r113_228, Cn_n, Cn_v, Cn_x, dp_0, dp_1, dp_2, dp_3, dp_4, okv_n, okv_i, okv_r, eq_self, true_and, and_true, Option.some.injEq, exists_eq_left', rgT, ixT, ixU, ↓if_pos, ↓if_neg, Int.toNat_natCast, bT0, bT1, o_jobs, hJ, o_jobTotal hJ hM hJ5 hM5]
        exact ih (x + 1) (by omega) _ e9.symm _ _ _
      · rw [if_neg c1] at e9
        simp (disch := omega) only [r113_0, r113_1, r113_2, r113_3, r113_4, r113_5, r113_8, r113_9, r113_12, r113_13, r113_14, r113_15, r113_19, r113_20, r113_23, r113_24, r113_26, r113_27, r113_29, r113_30, r113_34, r113_35, r113_38, r113_40, r113_41, r113_43, r113_45, r113_48, r113_49, r113_51, r113_53, r113_54, r113_56, r113_58, r113_61, r113_62, r113_64, r113_65, r113_68, r113_69, r113_71, r113_73, r113_76, r113_79, r113_80, r113_83, r113_84, r113_85, r113_88, r113_91, r113_92, r113_95, r113_97, r113_98, r113_101, r113_104, r113_106, r113_107, r113_110, r113_113, r113_114, r113_117, r113_118, r113_119, r113_122, r113_125, r113_126, r113_130, r113_131, r113_134, r113_137, r113_138, r113_140, r113_143, r113_144, r113_147, r113_148, r113_150, r113_153, r113_156, r113_157, r113_158, r113_161, r113_164, r113_165, r113_169, r113_170, r113_173, r113_176, r113_177, r113_179, r113_182, r113_183, r113_186, r113_187, r113_189, r113_192, r113_195, r113_196, r113_197, r113_200, r113_203, r113_204, r113_207, r113_208, r113_211, r113_212, r113_215, r113_216, r113_219, r113_220, r113_223, r113_224, r113_227, r113_228, Cn_n, Cn_v, Cn_x, dp_0, dp_1, dp_2, dp_3, dp_4, okv_n, okv_i, okv_r, eq_self, true_and, and_true, Option.some.injEq, exists_eq_left', rgT, ixT, ixU, ↓if_pos, ↓if_neg, Int.toNat_natCast, bT0, bT1, o_jobs, hJ, o_jobTotal hJ hM hJ5 hM5]
        exact ih (x + 1) (by omega) _ e9.symm _ _ _
  intro d
  induction d with
  | zero =>
    intro x hx a ha x5 x6 x7
    have hxM : x = M := by omega
    rw [hxM] at ha
    have ea : a = bnd (A 3) J M := ha
    rw [r113_167]
    simp (disch := omega) only [r113_0, r113_1, r113_2, r113_3, r113_4, r113_5, r113_8, r113_9, r113_12, r113_13, r113_14, r113_15, r113_19, r113_20, r113_23, r113_24, r113_26, r113_27, r113_29, r113_30, r113_34, r113_35, r113_38, r113_40, r113_41, r113_43, r113_45, r113_48, r113_49, r113_51, r113_53, r113_54, r113_56, r113_58, r113_61, r113_62, r113_64, r113_65, r113_68, r113_69, r113_71, r113_73, r113_76, r113_79, r113_80, r113_83, r113_84, r113_85, r113_88, r113_91, r113_92, r113_95, r113_97, r113_98, r113_101, r113_104, r113_106, r113_107, r113_110, r113_113, r113_114, r113_117, r113_118, r113_119, r113_122, r113_125, r113_126, r113_130, r113_131, r113_134, r113_137, r113_138, r113_140, r113_143, r113_144, r113_147, r113_148, r113_150, r113_153, r113_156, r113_157, r113_158, r113_161, r113_164, r113_165, r113_169, r113_170, r113_173, r113_176, r113_177, r113_179, r113_182, r113_183, r113_186, r113_187, r113_189, r113_192, r113_195, r113_196, r113_197, r113_200, r113_203, r113_204, r113_207, r113_208, r113_211, r113_212, r113_215, r113_216, r113_219, r113_220, r113_223, r113_224, r113_227, r113_228, Cn_n, Cn_v, Cn_x, dp_0, dp_1, dp_2, dp_3, dp_4, okv_n, okv_i, okv_r, eq_self, true_and, and_true, Option.some.injEq, exists_eq_left', rgT, ixT, ixU, ↓if_pos, ↓if_neg, Int.toNat_natCast, bT0, bT1, o_machines, hM, o_bound hJ hM hJ5 hM5 ht]
    refine o_boundByFlow hJ hM hJ5 hM5 ht (fun F1 R1 rf1 qu1 hs => ?_)
    simp (disch := omega) only [r113_0, r113_1, r113_2, r113_3, r113_4, r113_5, r113_8, r113_9, r113_12, r113_13, r113_14, r113_15, r113_19, r113_20, r113_23, r113_24, r113_26, r113_27, r113_29, r113_30, r113_34, r113_35, r113_38, r113_40, r113_41, r113_43, r113_45, r113_48, r113_49, r113_51, r113_53, r113_54, r113_56, r113_58, r113_61, r113_62, r113_64, r113_65, r113_68, r113_69, r113_71, r113_73, r113_76, r113_79, r113_80, r113_83, r113_84, r113_85, r113_88, r113_91, r113_92, r113_95, r113_97, r113_98, r113_101, r113_104, r113_106, r113_107, r113_110, r113_113, r113_114, r113_117, r113_118, r113_119, r113_122, r113_125, r113_126, r113_130, r113_131, r113_134, r113_137, r113_138, r113_140, r113_143, r113_144, r113_147, r113_148, r113_150, r113_153, r113_156, r113_157, r113_158, r113_161, r113_164, r113_165, r113_169, r113_170, r113_173, r113_176, r113_177, r113_179, r113_182, r113_183, r113_186, r113_187, r113_189, r113_192, r113_195, r113_196, r113_197, r113_200, r113_203, r113_204, r113_207, r113_208, r113_211, r113_212, r113_215, r113_216, r113_219, r113_220, r113_223, r113_224, r113_227, r113_228, Cn_n, Cn_v, Cn_x, dp_0, dp_1, dp_2, dp_3, dp_4, okv_n, okv_i, okv_r, eq_self, true_and, and_true, Option.some.injEq, exists_eq_left', rgT, ixT, ixU, ↓if_pos, ↓if_neg, Int.toNat_natCast, bT0, bT1]
    exact hQ F1 R1 rf1 qu1 hs
  | succ d ih =>
    intro x hx a ha x5 x6 x7
    have hx9 : x < M := by omega
    have g1 := colS_bd ht hJ5 (show x < 5 by omega)
    have g0 := imax_bd (f := fun j => rowS (A 3) M j) (a := 0) (lo := 0) (hi := 495) (Int.le_refl _) (by omega) (n := J) (fun i hi => (rowS_bd ht hM5 (by omega)).2)
    have g2 := imax_bd (f := fun m => colS (A 3) J m) g0.1 g0.2 (n := x) (fun i hi => (colS_bd ht hJ5 (by omega)).2)
    rw [← ha] at g2
    have e9 : imax (fun m => colS (A 3) J m) (imax (fun j => rowS (A 3) M j) 0 J) (x + 1) = if a < colS (A 3) J x then colS (A 3) J x else a := by rw [ha]; rfl
    rw [r113_167]
    by_cases c1 : a < colS (A 3) J x
    · rw [if_pos c1] at e9
      simp (disch := omega) only [r113_0, r113_1, r113_2, r113_3, r113_4, r113_5, r113_8, r113_9, r113_12, r113_13, r113_14, r113_15, r113_19, r113_20, r113_23, r113_24, r113_26, r113_27, r113_29, r113_30, r113_34, r113_35, r113_38, r113_40, r113_41, r113_43, r113_45, r113_48, r113_49, r113_51, r113_53, r113_54, r113_56, r113_58, r113_61, r113_62, r113_64, r113_65, r113_68, r113_69, r113_71, r113_73, r113_76, r113_79, r113_80, r113_83, r113_84, r113_85, r113_88, r113_91, r113_92, r113_95, r113_97, r113_98, r113_101, r113_104, r113_106, r113_107, r113_110, r113_113, r113_114, r113_117, r113_118, r113_119, r113_122, r113_125, r113_126, r113_130, r113_131, r113_134, r113_137, r113_138, r113_140, r113_143, r113_144, r113_147, r113_148, r113_150, r113_153, r113_156, r113_157, r113_158, r113_161, r113_164, r113_165, r113_169, r113_170, r113_173, r113_176, r113_177, r113_179, r113_182, r113_183, r113_186, r113_187, r113_189, r113_192, r113_195, r113_196, r113_197, r113_200, r113_203, r113_204, r113_207, r113_208, r113_211, r113_212, r113_215, r113_216, r113_219, r113_220, r113_223, r113_224, r113_227, r113_228, Cn_n, Cn_v, Cn_x, dp_0, dp_1, dp_2, dp_3, dp_4, okv_n, okv_i, okv_r, eq_self, true_and, and_true, Option.some.injEq, exists_eq_left', rgT, ixT, ixU, ↓if_pos, ↓if_neg, Int.toNat_natCast, bT0, bT1, o_machines, hM, o_machineTotal hJ hM hJ5 hM5]
      exact ih (x + 1) (by omega) _ e9.symm _ _ _
    · rw [if_neg c1] at e9
      simp (disch := omega) only [r113_0, r113_1, r113_2, r113_3, r113_4, r113_5, r113_8, r113_9, r113_12, r113_13, r113_14, r113_15, r113_19, r113_20, r113_23, r113_24, r113_26, r113_27, r113_29, r113_30, r113_34, r113_35, r113_38, r113_40, r113_41, r113_43, r113_45, r113_48, r113_49, r113_51, r113_53, r113_54, r113_56, r113_58, r113_61, r113_62, r113_64, r113_65, r113_68, r113_69, r113_71, r113_73, r113_76, r113_79, r113_80, r113_83, r113_84, r113_85, r113_88, r113_91, r113_92, r113_95, r113_97, r113_98, r113_101, r113_104, r113_106, r113_107, r113_110, r113_113, r113_114, r113_117, r113_118, r113_119, r113_122, r113_125, r113_126, r113_130, r113_131, r113_134, r113_137, r113_138, r113_140, r113_143, r113_144, r113_147, r113_148, r113_150, r113_153, r113_156, r113_157, r113_158, r113_161, r113_164, r113_165, r113_169, r113_170, r113_173, r113_176, r113_177, r113_179, r113_182, r113_183, r113_186, r113_187, r113_189, r113_192, r113_195, r113_196, r113_197, r113_200, r113_203, r113_204, r113_207, r113_208, r113_211, r113_212, r113_215, r113_216, r113_219, r113_220, r113_223, r113_224, r113_227, r113_228, Cn_n, Cn_v, Cn_x, dp_0, dp_1, dp_2, dp_3, dp_4, okv_n, okv_i, okv_r, eq_self, true_and, and_true, Option.some.injEq, exists_eq_left', rgT, ixT, ixU, ↓if_pos, ↓if_neg, Int.toNat_natCast, bT0, bT1, o_machines, hM, o_machineTotal hJ hM hJ5 hM5]
      exact ih (x + 1) (by omega) _ e9.symm _ _ _
end LTOT
