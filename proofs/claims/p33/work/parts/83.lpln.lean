/-! the law's plans without interruptions -/
section LPLN
variable {A B : Nat → Nat → Int} {F : Nat → Int} {q : List Int × Nat} {Q : AR → Prop} {J M : Nat} {t b : Nat → Int} {L z : Int} {s : DS}
theorem hs_hs {s2 : DS} : hs (hs A s) s2 = hs A s2 := by
  have e9 : hs (hs A s) s2 = ua (ua (ua (hs A s) 23 s2.1) 25 s2.2.1) 27 s2.2.2 := rfl
  rw [e9, hs_f23, hs_f25, hs_f27]
theorem op_lt {i : Nat} (hM1 : 1 ≤ M) (hi : i < J * M) : i / M < J ∧ i % M < M := ⟨Nat.div_lt_of_lt_mul (by rw [Nat.mul_comm]; exact hi), Nat.mod_lt _ hM1⟩
theorem op_ne {i y : Nat} (h : y < i) : ¬ (i / M = y / M ∧ i % M = y % M) := by
  rintro ⟨h1, h2⟩
  have e1 := Nat.div_add_mod i M
  have e2 := Nat.div_add_mod y M
  rw [h1, h2] at e1
  omega
theorem op_25 {i : Nat} (hJ5 : J ≤ 5) (hM5 : M ≤ 5) (hi : i < J * M) : i < 25 := Nat.lt_of_lt_of_le hi (Nat.mul_le_mul hJ5 hM5)
theorem PF_end (hM1 : 1 ≤ M) (h : PFx t J M b L) : imax (fun i => b (5 * (i / M) + i % M) + t (5 * (i / M) + i % M)) 0 (J * M) = L := by
  obtain ⟨p1, p2, p3, p4, p6, p7, p8⟩ := h
  obtain ⟨x1, x2⟩ := @imax_ge (fun i => b (5 * (i / M) + i % M) + t (5 * (i / M) + i % M)) 0 (J * M)
  refine Int.le_antisymm ?_ ?_
  · rcases @imax_is (fun i => b (5 * (i / M) + i % M) + t (5 * (i / M) + i % M)) 0 (J * M) with h | ⟨i, hi, h⟩
    · rw [h]; exact p6
    · rw [h]
      obtain ⟨g1, g2⟩ := op_lt hM1 hi
      rcases p1 (i / M) g1 (i % M) g2 with g | g
      · show b (5 * (i / M) + i % M) + t (5 * (i / M) + i % M) ≤ L
        rw [g.1, g.2]
        omega
      · exact p7 (i / M) g1 (i % M) g2 g.1
  · rcases p8 with h | ⟨j, m, hj, hm, h1, h2⟩
    · rw [h]; exact x1
    · have e1 : (M * j + m) / M = j := by rw [Nat.mul_add_div hM1, Nat.div_eq_of_lt hm, Nat.add_zero]
      have e2 : (M * j + m) % M = m := by rw [Nat.mul_add_mod, Nat.mod_eq_of_lt hm]
      have e3 : M * j + m < J * M := by
        have g1 : M * (j + 1) ≤ M * J := Nat.mul_le_mul_left M hj
        rw [Nat.mul_succ] at g1
        rw [Nat.mul_comm J M]
        omega
      have g2 : b (5 * ((M * j + m) / M) + (M * j + m) % M) + t (5 * ((M * j + m) / M) + (M * j + m) % M) ≤ imax (fun i => b (5 * (i / M) + i % M) + t (5 * (i / M) + i % M)) 0 (J * M) := x2 (M * j + m) e3
      rw [e1, e2] at g2
      omega
theorem l_begd (hJ : F 17 = J) (hM : F 18 = M) (hJ5 : J ≤ 5) (hM5 : M ≤ 5) (hM1 : 1 ≤ M) (ht : TOK (A 3)) {i : Nat} (hi : i < J * M) : Ew 115 [vR 0, .inl 1, .inl (i : Int)] (mk A F q) Q ↔ Q (.inl (some (.inl ((dclo (A 3) J M false 26 0 ds0).1 (5 * (i / M) + i % M)))), mk (hs A (dclo (A 3) J M false 26 0 ds0)) F q) := by
  obtain ⟨g1, g2⟩ := op_lt hM1 hi
  have g3 := op_25 hJ5 hM5 hi
  have hMp := eq_true (show (0 : Int) < (M : Int) by omega)
  generalize ha : i / M = a at g1 ⊢
  generalize hb : i % M = c at g2 ⊢
  unfold Ew
  rw [rc_115 rfl rfl rfl, lc_115]
  simp (disch := omega) only [r115_0, r115_1, r115_2, r115_5, r115_6, r115_7, r115_8, r115_9, r115_12, r115_13, r115_15, r115_16, r115_19, r115_20, r115_21, r115_23, r115_26, r115_29, r115_30, r115_31, r115_33, r115_36, Cn_n, Cn_v, Cn_x, dp_0, dp_1, dp_2, dp_3, dp_4, okv_n, okv_i, okv_r, eq_self, true_and, and_true, Option.some.injEq, exists_eq_left', rgT, ixT, ixU, ↓if_pos, ↓if_neg, Int.toNat_natCast, bT0, bT1, o_machines, hM, hMp, tdn, tmn, ha, hb, o_denseStart ht hJ hM hJ5 hM5]
theorem l_bega (hJ : F 17 = J) (hM : F 18 = M) (hJ5 : J ≤ 5) (hM2 : M = 2) (ht : TOK (A 3)) {i : Nat} (hi : i < J * M) : Ew 115 [vR 0, .inl 0, .inl (i : Int)] (mk A F q) Q ↔ Q (.inl (some (.inl ((dclo (A 3) J M true 26 0 ds0).1 (5 * (i / M) + i % M)))), mk (hs A (dclo (A 3) J M true 26 0 ds0)) F q) := by
  obtain ⟨g1, g2⟩ := op_lt (by omega) hi
  have g3 := op_25 hJ5 (show M ≤ 5 by omega) hi
  have hMp := eq_true (show (0 : Int) < (M : Int) by omega)
  generalize ha : i / M = a at g1 ⊢
  generalize hb : i % M = c at g2 ⊢
  unfold Ew
  rw [rc_115 rfl rfl rfl, lc_115]
  simp (disch := omega) only [r115_0, r115_1, r115_2, r115_5, r115_6, r115_7, r115_8, r115_9, r115_12, r115_13, r115_15, r115_16, r115_19, r115_20, r115_21, r115_23, r115_26, r115_29, r115_30, r115_31, r115_33, r115_36, Cn_n, Cn_v, Cn_x, dp_0, dp_1, dp_2, dp_3, dp_4, okv_n, okv_i, okv_r, eq_self, true_and, and_true, Option.some.injEq, exists_eq_left', rgT, ixT, ixU, ↓if_pos, ↓if_neg, Int.toNat_natCast, bT0, bT1, o_machines, hM, hMp, tdn, tmn, ha, hb, o_alterStart ht hJ hM hJ5 hM2]
theorem l_plan0 (hJ : F 17 = J) (hM : F 18 = M) (hJ5 : J ≤ 5) (hM5 : M ≤ 5) (hM1 : 1 ≤ M) (ht : TOK (A 3)) (hz : z = 0 ∨ z = 1) (hd : DR s) (hp : PFx (A 3) J M s.1 L)
    (hbeg : ∀ {C : Nat → Nat → Int} {Q : AR → Prop} {i : Nat}, C 3 = A 3 → i < J * M → (Ew 115 [vR 0, .inl z, .inl (i : Int)] (mk C F q) Q ↔ Q (.inl (some (.inl (s.1 (5 * (i / M) + i % M)))), mk (hs C s) F q)))
    (hend : ∀ C : Nat → Nat → Int, C 3 = A 3 → hs C s = hs A s → ∀ x5 x6 x7 x8 x9 x10 x11 : Option AV, Wp 116 245 [some (vR 0), some (.inl z), some (.inl ((J : Int) * (M : Int))), some (.inl L), some (.inl 1), x5, x6, x7, x8, x9, x10, x11] [] (mk C F q) Q) : Ew 116 [vR 0, .inl z] (mk A F q) Q := by
  have hMp := eq_true (show (0 : Int) < (M : Int) by omega)
  have hJM : (J : Int) * (M : Int) = ((J * M : Nat) : Int) := by rw [Int.natCast_mul]
  have hJM25 : J * M ≤ 25 := Nat.mul_le_mul hJ5 hM5
  have hE := PF_end hM1 hp
  obtain ⟨p1, p2, p3, p4, p6, p7, p8⟩ := hp
  have hfb : ∀ i, -1 ≤ s.1 (5 * (i / M) + i % M) ∧ s.1 (5 * (i / M) + i % M) ≤ 100000 := fun i => hd.1 _
  have hft : ∀ i, i < J * M → 0 ≤ A 3 (5 * (i / M) + i % M) ∧ A 3 (5 * (i / M) + i % M) ≤ 99 := fun i hi => by
    obtain ⟨g1, g2⟩ := op_lt hM1 hi
    exact ht _ (by omega)
  refine ⟨rc_116 rfl rfl, ?_⟩
  rw [lc_116]
  simp (disch := omega) only [r116_0, r116_1, r116_4, r116_5, r116_8, r116_9, r116_10, r116_11, r116_12, r116_13, r116_15, r116_16, r116_20, r116_21, r116_24, r116_26, r116_29, r116_30, r116_31, r116_33, r116_36, r116_38, r116_40, r116_41, r116_43, r116_44, r116_47, r116_48, r116_50, r116_51, r116_54, r116_55, r116_58, r116_59, r116_61, r116_63, r116_64, r116_67, r116_68, r116_71, r116_72, r116_74, r116_76, r116_79, r116_80, r116_83, r116_84, r116_87, r116_88, r116_91, r116_92, r116_94, r116_96, r116_97, r116_100, r116_102, r116_105, r116_106, r116_107, r116_108, r116_112, r116_114, r116_117, r116_119, r116_122, r116_124, r116_125, r116_128, r116_130, r116_131, r116_134, r116_135, r116_137, r116_138, r116_141, r116_142, r116_145, r116_147, r116_148, r116_151, r116_152, r116_154, r116_155, r116_158, r116_159, r116_162, r116_163, r116_166, r116_167, r116_169, r116_170, r116_171, r116_173, r116_176, r116_178, r116_180, r116_181, r116_183, r116_184, r116_187, r116_188, r116_190, r116_191, r116_194, r116_195, r116_198, r116_199, r116_201, r116_203, r116_206, r116_208, r116_209, r116_212, r116_214, r116_216, r116_219, r116_221, r116_223, r116_226, r116_227, r116_230, r116_231, r116_233, r116_236, r116_239, r116_242, r116_245, r116_246, r116_249, r116_250, r116_253, r116_256, r116_257, r116_260, r116_262, r116_264, r116_267, r116_269, r116_270, r116_273, r116_275, r116_276, r116_279, r116_282, r116_283, r116_286, r116_288, r116_289, r116_290, r116_293, r116_294, r116_296, r116_299, r116_300, r116_303, r116_304, r116_305, r116_308, r116_311, r116_313, r116_314, r116_317, r116_320, r116_321, r116_324, r116_325, Cn_n, Cn_v, Cn_x, dp_0, dp_1, dp_2, dp_3, dp_4, okv_n, okv_i, okv_r, eq_self, true_and, and_true, Option.some.injEq, exists_eq_left', rgT, ixT, ixU, ↓if_pos, ↓if_neg, Int.toNat_natCast, bT0, bT1, o_jobs, o_machines, hJ, hM]
  rw [hJM] at hend ⊢
  generalize hT : J * M = T at hend hJM25 hE hft hbeg ⊢
  suffices key : ∀ d i : Nat, i + d = T → ∀ C : Nat → Nat → Int, C 3 = A 3 → hs C s = hs A s → ∀ e : Int, e = imax (fun i => s.1 (5 * (i / M) + i % M) + A 3 (5 * (i / M) + i % M)) 0 i → ∀ x6 x7 x8 x9 x10 x11 : Option AV, Wp 116 18 [some (vR 0), some (.inl z), some (.inl (T : Int)), some (.inl e), some (.inl 1), some (.inl (i : Int)), x6, x7, x8, x9, x10, x11] [] (mk C F q) Q by
    exact key T 0 (by omega) A rfl rfl 0 rfl _ _ _ _ _ _
  intro d
  induction d with
  | zero =>
    intro i hi C hC hCs e he x6 x7 x8 x9 x10 x11
    have hiT : i = T := by omega
    rw [hiT, hE] at he
    rw [r116_18]
    simp (disch := omega) only [r116_20, r116_21, Cn_n, Cn_v, Cn_x, dp_0, dp_1, dp_2, dp_3, dp_4, okv_n, okv_i, okv_r, eq_self, true_and, and_true, Option.some.injEq, exists_eq_left', rgT, ixT, ixU, ↓if_pos, ↓if_neg, Int.toNat_natCast, bT0, bT1]
    rw [he]
    exact hend C hC hCs _ _ _ _ _ _ _
  | succ d ih =>
    intro i hi C hC hCs e he x6 x7 x8 x9 x10 x11
    have hi9 : i < T := by omega
    obtain ⟨g1, g2⟩ := op_lt hM1 (show i < J * M by rw [hT]; exact hi9)
    have b1 := hfb i
    have b2 := hft i hi9
    have pi := p1 (i / M) g1 (i % M) g2
    have be := imax_bd (f := fun i => s.1 (5 * (i / M) + i % M) + A 3 (5 * (i / M) + i % M)) (a := 0) (lo := 0) (hi := 100099) (Int.le_refl _) (by omega) (n := i) (fun y hy => by
      have c1 := hfb y
      have c2 := hft y (by omega)
      omega)
    rw [← he] at be
    have e9 : imax (fun i => s.1 (5 * (i / M) + i % M) + A 3 (5 * (i / M) + i % M)) 0 (i + 1) = if e < s.1 (5 * (i / M) + i % M) + A 3 (5 * (i / M) + i % M) then s.1 (5 * (i / M) + i % M) + A 3 (5 * (i / M) + i % M) else e := by rw [he]; rfl
    have hne : ∀ y, y < i → ¬ (i / M = y / M ∧ i % M = y % M) := fun y hy => op_ne hy
    have ihn := fun e' he' => ih (i + 1) (by omega) (hs C s) (by rw [hs_3, hC]) (by rw [hs_hs, hCs]) e' he'
    have hbi0 : ∀ {Q : AR → Prop}, Ew 115 [vR 0, .inl z, .inl (i : Int)] (mk C F q) Q ↔ Q (.inl (some (.inl (s.1 (5 * (i / M) + i % M)))), mk (hs C s) F q) := hbeg hC hi9
    generalize imax (fun i => s.1 (5 * (i / M) + i % M) + A 3 (5 * (i / M) + i % M)) 0 (i + 1) = en at e9 ihn
    have ihn := fun x6 x7 x8 x9 x10 x11 => ihn en rfl x6 x7 x8 x9 x10 x11
    suffices inner : ∀ x9 x10 x11 : Option AV, Wp 116 110 [some (vR 0), some (.inl z), some (.inl (T : Int)), some (.inl en), some (.inl 1), some (.inl (i : Int)), some (.inl (s.1 (5 * (i / M) + i % M))), some (.inl (s.1 (5 * (i / M) + i % M) + A 3 (5 * (i / M) + i % M))), some (.inl ((0 : Nat) : Int)), x9, x10, x11] [] (mk (hs C s) F q) Q by
      generalize ha : i / M = a at g1 b1 b2 pi e9 inner hbi0
      generalize hb : i % M = c at g2 b1 b2 pi e9 inner hbi0
      rw [r116_18]
      by_cases c1 : e < s.1 (5 * a + c) + A 3 (5 * a + c)
      · rw [if_pos c1] at e9
        rcases pi with g | g
        · omega
        · simp (disch := omega) only [r116_20, r116_21, r116_24, r116_26, r116_29, r116_30, r116_31, r116_33, r116_36, r116_38, r116_40, r116_41, r116_43, r116_44, r116_47, r116_48, r116_50, r116_51, r116_54, r116_55, r116_58, r116_59, r116_61, r116_63, r116_64, r116_67, r116_68, r116_71, r116_72, r116_74, r116_76, r116_79, r116_80, r116_83, r116_84, r116_87, r116_88, r116_91, r116_92, r116_94, r116_96, r116_97, r116_100, r116_102, r116_105, r116_106, r116_107, r116_108, Cn_n, Cn_v, Cn_x, dp_0, dp_1, dp_2, dp_3, dp_4, okv_n, okv_i, okv_r, eq_self, true_and, and_true, Option.some.injEq, exists_eq_left', rgT, ixT, ixU, ↓if_pos, ↓if_neg, Int.toNat_natCast, bT0, bT1, hbi0, o_machines, hM, hMp, tdn, tmn, ha, hb, o_time hJ hM hJ5 hM5, hs_3, hC]
          rw [e9] at inner
          exact inner _ _ _
      · rw [if_neg c1] at e9
        rcases pi with g | g
        · simp (disch := omega) only [r116_20, r116_21, r116_24, r116_26, r116_29, r116_30, r116_31, r116_33, r116_36, r116_38, r116_40, r116_41, r116_43, r116_44, r116_47, r116_48, r116_50, r116_51, r116_54, r116_55, r116_58, r116_59, r116_61, r116_63, r116_64, r116_67, r116_68, r116_71, r116_72, r116_74, r116_76, r116_79, r116_80, r116_83, r116_84, r116_87, r116_88, r116_91, r116_92, r116_94, r116_96, r116_97, r116_100, r116_102, r116_105, r116_106, r116_107, r116_108, Cn_n, Cn_v, Cn_x, dp_0, dp_1, dp_2, dp_3, dp_4, okv_n, okv_i, okv_r, eq_self, true_and, and_true, Option.some.injEq, exists_eq_left', rgT, ixT, ixU, ↓if_pos, ↓if_neg, Int.toNat_natCast, bT0, bT1, hbi0, o_machines, hM, hMp, tdn, tmn, ha, hb, o_time hJ hM hJ5 hM5, hs_3, hC]
          rw [e9] at inner
          exact inner _ _ _
        · simp (disch := omega) only [r116_20, r116_21, r116_24, r116_26, r116_29, r116_30, r116_31, r116_33, r116_36, r116_38, r116_40, r116_41, r116_43, r116_44, r116_47, r116_48, r116_50, r116_51, r116_54, r116_55, r116_58, r116_59, r116_61, r116_63, r116_64, r116_67, r116_68, r116_71, r116_72, r116_74, r116_76, r116_79, r116_80, r116_83, r116_84, r116_87, r116_88, r116_91, r116_92, r116_94, r116_96, r116_97, r116_100, r116_102, r116_105, r116_106, r116_107, r116_108, Cn_n, Cn_v, Cn_x, dp_0, dp_1, dp_2, dp_3, dp_4, okv_n, okv_i, okv_r, eq_self, true_and, and_true, Option.some.injEq, exists_eq_left', rgT, ixT, ixU, ↓if_pos, ↓if_neg, Int.toNat_natCast, bT0, bT1, hbi0, o_machines, hM, hMp, tdn, tmn, ha, hb, o_time hJ hM hJ5 hM5, hs_3, hC]
          rw [e9] at inner
          exact inner _ _ _
    by_cases hneg : s.1 (5 * (i / M) + i % M) = -1
    · intro x9 x10 x11
      rw [r116_110]
      by_cases c0 : 0 < i
      · simp (disch := omega) only [r116_112, r116_114, r116_117, r116_119, r116_122, r116_124, r116_125, r116_128, r116_130, r116_131, r116_134, r116_135, r116_137, r116_138, r116_141, r116_142, r116_145, r116_147, r116_148, r116_151, r116_152, r116_154, r116_155, r116_158, r116_159, r116_162, r116_163, r116_166, r116_167, r116_169, r116_170, r116_171, r116_173, r116_176, r116_178, r116_180, r116_181, r116_183, r116_184, r116_187, r116_188, r116_190, r116_191, r116_194, r116_195, r116_198, r116_199, r116_201, r116_203, r116_206, r116_208, r116_209, r116_212, r116_214, r116_216, r116_219, r116_221, r116_223, r116_226, r116_227, r116_230, r116_231, r116_233, r116_236, r116_239, r116_242, Cn_n, Cn_v, Cn_x, dp_0, dp_1, dp_2, dp_3, dp_4, okv_n, okv_i, okv_r, eq_self, true_and, and_true, Option.some.injEq, exists_eq_left', rgT, ixT, ixU, ↓if_pos, ↓if_neg, Int.toNat_natCast, bT0, bT1, hneg]
        exact ihn _ _ _ _ _ _
      · simp (disch := omega) only [r116_112, r116_114, r116_117, r116_119, r116_122, r116_124, r116_125, r116_128, r116_130, r116_131, r116_134, r116_135, r116_137, r116_138, r116_141, r116_142, r116_145, r116_147, r116_148, r116_151, r116_152, r116_154, r116_155, r116_158, r116_159, r116_162, r116_163, r116_166, r116_167, r116_169, r116_170, r116_171, r116_173, r116_176, r116_178, r116_180, r116_181, r116_183, r116_184, r116_187, r116_188, r116_190, r116_191, r116_194, r116_195, r116_198, r116_199, r116_201, r116_203, r116_206, r116_208, r116_209, r116_212, r116_214, r116_216, r116_219, r116_221, r116_223, r116_226, r116_227, r116_230, r116_231, r116_233, r116_236, r116_239, r116_242, Cn_n, Cn_v, Cn_x, dp_0, dp_1, dp_2, dp_3, dp_4, okv_n, okv_i, okv_r, eq_self, true_and, and_true, Option.some.injEq, exists_eq_left', rgT, ixT, ixU, ↓if_pos, ↓if_neg, Int.toNat_natCast, bT0, bT1, hneg]
        exact ihn _ _ _ _ _ _
    · suffices k2 : ∀ d2 y : Nat, y + d2 = i → ∀ x9 x10 x11 : Option AV, Wp 116 110 [some (vR 0), some (.inl z), some (.inl (T : Int)), some (.inl en), some (.inl 1), some (.inl (i : Int)), some (.inl (s.1 (5 * (i / M) + i % M))), some (.inl (s.1 (5 * (i / M) + i % M) + A 3 (5 * (i / M) + i % M))), some (.inl (y : Int)), x9, x10, x11] [] (mk (hs C s) F q) Q by
        intro x9 x10 x11
        exact k2 i 0 (by omega) x9 x10 x11
      intro d2
      induction d2 with
      | zero =>
        intro y hy x9 x10 x11
        rw [r116_110]
        simp (disch := omega) only [r116_112, r116_114, r116_117, r116_119, r116_122, r116_124, r116_125, r116_128, r116_130, r116_131, r116_134, r116_135, r116_137, r116_138, r116_141, r116_142, r116_145, r116_147, r116_148, r116_151, r116_152, r116_154, r116_155, r116_158, r116_159, r116_162, r116_163, r116_166, r116_167, r116_169, r116_170, r116_171, r116_173, r116_176, r116_178, r116_180, r116_181, r116_183, r116_184, r116_187, r116_188, r116_190, r116_191, r116_194, r116_195, r116_198, r116_199, r116_201, r116_203, r116_206, r116_208, r116_209, r116_212, r116_214, r116_216, r116_219, r116_221, r116_223, r116_226, r116_227, r116_230, r116_231, r116_233, r116_236, r116_239, r116_242, Cn_n, Cn_v, Cn_x, dp_0, dp_1, dp_2, dp_3, dp_4, okv_n, okv_i, okv_r, eq_self, true_and, and_true, Option.some.injEq, exists_eq_left', rgT, ixT, ixU, ↓if_pos, ↓if_neg, Int.toNat_natCast, bT0, bT1]
        exact ihn _ _ _ _ _ _
      | succ d2 ih2 =>
        intro y hy x9 x10 x11
        have hy9 : y < i := by omega
        have hyT : y < T := by omega
        obtain ⟨k1, k2⟩ := op_lt hM1 (show y < J * M by rw [hT]; exact hyT)
        have c1 := hfb y
        have c2 := hft y hyT
        have py := p1 (y / M) k1 (y % M) k2
        have hno := hne y hy9
        have hby : ∀ {Q : AR → Prop}, Ew 115 [vR 0, .inl z, .inl (y : Int)] (mk (hs C s) F q) Q ↔ Q (.inl (some (.inl (s.1 (5 * (y / M) + y % M)))), mk (hs C s) F q) := by
          intro Q
          have h9 := hbeg (C := hs C s) (Q := Q) (by rw [hs_3, hC]) hyT
          rw [hs_hs] at h9
          exact h9
        have ih3 := ih2 (y + 1) (by omega)
        generalize ha : i / M = a at g1 b1 b2 pi hneg hno ih3 ⊢
        generalize hb : i % M = c at g2 b1 b2 pi hneg hno ih3 ⊢
        generalize ha2 : y / M = a2 at k1 c1 c2 py hno hby
        generalize hb2 : y % M = c2' at k2 c1 c2 py hno hby
        have hord : (a = a2 ∨ c = c2') → s.1 (5 * a2 + c2') ≠ -1 → s.1 (5 * a2 + c2') + A 3 (5 * a2 + c2') ≤ s.1 (5 * a + c) ∨ s.1 (5 * a + c) + A 3 (5 * a + c) ≤ s.1 (5 * a2 + c2') := by
          intro h8 hy1
          have pi1 : 0 < A 3 (5 * a + c) := by omega
          have py1 : 0 < A 3 (5 * a2 + c2') := by omega
          by_cases h7 : a = a2
          · have h6 : c ≠ c2' := fun h5 => hno ⟨h7, h5⟩
            rw [← h7] at py1 ⊢
            have := p2 a g1 c g2 c2' k2 h6 pi1 py1
            omega
          · have h6 : c = c2' := by omega
            rw [← h6] at py1 ⊢
            have := p3 c g2 a g1 a2 k1 h7 pi1 py1
            omega
        rw [r116_110]
        by_cases e1 : a = a2
        · by_cases e3 : s.1 (5 * a2 + c2') = -1
          · simp (disch := omega) only [r116_112, r116_114, r116_117, r116_119, r116_122, r116_124, r116_125, r116_128, r116_130, r116_131, r116_134, r116_135, r116_137, r116_138, r116_141, r116_142, r116_145, r116_147, r116_148, r116_151, r116_152, r116_154, r116_155, r116_158, r116_159, r116_162, r116_163, r116_166, r116_167, r116_169, r116_170, r116_171, r116_173, r116_176, r116_178, r116_180, r116_181, r116_183, r116_184, r116_187, r116_188, r116_190, r116_191, r116_194, r116_195, r116_198, r116_199, r116_201, r116_203, r116_206, r116_208, r116_209, r116_212, r116_214, r116_216, r116_219, r116_221, r116_223, r116_226, r116_227, r116_230, r116_231, r116_233, r116_236, Cn_n, Cn_v, Cn_x, dp_0, dp_1, dp_2, dp_3, dp_4, okv_n, okv_i, okv_r, eq_self, true_and, and_true, Option.some.injEq, exists_eq_left', rgT, ixT, ixU, ↓if_pos, ↓if_neg, Int.toNat_natCast, bT0, bT1, hby, o_machines, hM, hMp, tdn, tmn, ha, hb, ha2, hb2, o_time hJ hM hJ5 hM5, hs_3, hC]
            exact ih3 _ _ _
          · rcases hord (Or.inl e1) e3 with o1 | o1
            · simp (disch := omega) only [r116_112, r116_114, r116_117, r116_119, r116_122, r116_124, r116_125, r116_128, r116_130, r116_131, r116_134, r116_135, r116_137, r116_138, r116_141, r116_142, r116_145, r116_147, r116_148, r116_151, r116_152, r116_154, r116_155, r116_158, r116_159, r116_162, r116_163, r116_166, r116_167, r116_169, r116_170, r116_171, r116_173, r116_176, r116_178, r116_180, r116_181, r116_183, r116_184, r116_187, r116_188, r116_190, r116_191, r116_194, r116_195, r116_198, r116_199, r116_201, r116_203, r116_206, r116_208, r116_209, r116_212, r116_214, r116_216, r116_219, r116_221, r116_223, r116_226, r116_227, r116_230, r116_231, r116_233, r116_236, Cn_n, Cn_v, Cn_x, dp_0, dp_1, dp_2, dp_3, dp_4, okv_n, okv_i, okv_r, eq_self, true_and, and_true, Option.some.injEq, exists_eq_left', rgT, ixT, ixU, ↓if_pos, ↓if_neg, Int.toNat_natCast, bT0, bT1, hby, o_machines, hM, hMp, tdn, tmn, ha, hb, ha2, hb2, o_time hJ hM hJ5 hM5, hs_3, hC]
              exact ih3 _ _ _
            · simp (disch := omega) only [r116_112, r116_114, r116_117, r116_119, r116_122, r116_124, r116_125, r116_128, r116_130, r116_131, r116_134, r116_135, r116_137, r116_138, r116_141, r116_142, r116_145, r116_147, r116_148, r116_151, r116_152, r116_154, r116_155, r116_158, r116_159, r116_162, r116_163, r116_166, r116_167, r116_169, r116_170, r116_171, r116_173, r116_176, r116_178, r116_180, r116_181, r116_183, r116_184, r116_187, r116_188, r116_190, r116_191, r116_194, r116_195, r116_198, r116_199, r116_201, r116_203, r116_206, r116_208, r116_209, r116_212, r116_214, r116_216, r116_219, r116_221, r116_223, r116_226, r116_227, r116_230, r116_231, r116_233, r116_236, Cn_n, Cn_v, Cn_x, dp_0, dp_1, dp_2, dp_3, dp_4, okv_n, okv_i, okv_r, eq_self, true_and, and_true, Option.some.injEq, exists_eq_left', rgT, ixT, ixU, ↓if_pos, ↓if_neg, Int.toNat_natCast, bT0, bT1, hby, o_machines, hM, hMp, tdn, tmn, ha, hb, ha2, hb2, o_time hJ hM hJ5 hM5, hs_3, hC]
              exact ih3 _ _ _
        · by_cases e2 : c = c2'
          · by_cases e3 : s.1 (5 * a2 + c2') = -1
            · simp (disch := omega) only [r116_112, r116_114, r116_117, r116_119, r116_122, r116_124, r116_125, r116_128, r116_130, r116_131, r116_134, r116_135, r116_137, r116_138, r116_141, r116_142, r116_145, r116_147, r116_148, r116_151, r116_152, r116_154, r116_155, r116_158, r116_159, r116_162, r116_163, r116_166, r116_167, r116_169, r116_170, r116_171, r116_173, r116_176, r116_178, r116_180, r116_181, r116_183, r116_184, r116_187, r116_188, r116_190, r116_191, r116_194, r116_195, r116_198, r116_199, r116_201, r116_203, r116_206, r116_208, r116_209, r116_212, r116_214, r116_216, r116_219, r116_221, r116_223, r116_226, r116_227, r116_230, r116_231, r116_233, r116_236, Cn_n, Cn_v, Cn_x, dp_0, dp_1, dp_2, dp_3, dp_4, okv_n, okv_i, okv_r, eq_self, true_and, and_true, Option.some.injEq, exists_eq_left', rgT, ixT, ixU, ↓if_pos, ↓if_neg, Int.toNat_natCast, bT0, bT1, hby, o_machines, hM, hMp, tdn, tmn, ha, hb, ha2, hb2, o_time hJ hM hJ5 hM5, hs_3, hC]
              exact ih3 _ _ _
            · rcases hord (Or.inr e2) e3 with o1 | o1
              · simp (disch := omega) only [r116_112, r116_114, r116_117, r116_119, r116_122, r116_124, r116_125, r116_128, r116_130, r116_131, r116_134, r116_135, r116_137, r116_138, r116_141, r116_142, r116_145, r116_147, r116_148, r116_151, r116_152, r116_154, r116_155, r116_158, r116_159, r116_162, r116_163, r116_166, r116_167, r116_169, r116_170, r116_171, r116_173, r116_176, r116_178, r116_180, r116_181, r116_183, r116_184, r116_187, r116_188, r116_190, r116_191, r116_194, r116_195, r116_198, r116_199, r116_201, r116_203, r116_206, r116_208, r116_209, r116_212, r116_214, r116_216, r116_219, r116_221, r116_223, r116_226, r116_227, r116_230, r116_231, r116_233, r116_236, Cn_n, Cn_v, Cn_x, dp_0, dp_1, dp_2, dp_3, dp_4, okv_n, okv_i, okv_r, eq_self, true_and, and_true, Option.some.injEq, exists_eq_left', rgT, ixT, ixU, ↓if_pos, ↓if_neg, Int.toNat_natCast, bT0, bT1, hby, o_machines, hM, hMp, tdn, tmn, ha, hb, ha2, hb2, o_time hJ hM hJ5 hM5, hs_3, hC]
                exact ih3 _ _ _
              · simp (disch := omega) only [r116_112, r116_114, r116_117, r116_119, r116_122, r116_124, r116_125, r116_128, r116_130, r116_131, r116_134, r116_135, r116_137, r116_138, r116_141, r116_142, r116_145, r116_147, r116_148, r116_151, r116_152, r116_154, r116_155, r116_158, r116_159, r116_162, r116_163, r116_166, r116_167, r116_169, r116_170, r116_171, r116_173, r116_176, r116_178, r116_180, r116_181, r116_183, r116_184, r116_187, r116_188, r116_190, r116_191, r116_194, r116_195, r116_198, r116_199, r116_201, r116_203, r116_206, r116_208, r116_209, r116_212, r116_214, r116_216, r116_219, r116_221, r116_223, r116_226, r116_227, r116_230, r116_231, r116_233, r116_236, Cn_n, Cn_v, Cn_x, dp_0, dp_1, dp_2, dp_3, dp_4, okv_n, okv_i, okv_r, eq_self, true_and, and_true, Option.some.injEq, exists_eq_left', rgT, ixT, ixU, ↓if_pos, ↓if_neg, Int.toNat_natCast, bT0, bT1, hby, o_machines, hM, hMp, tdn, tmn, ha, hb, ha2, hb2, o_time hJ hM hJ5 hM5, hs_3, hC]
                exact ih3 _ _ _
          · simp (disch := omega) only [r116_112, r116_114, r116_117, r116_119, r116_122, r116_124, r116_125, r116_128, r116_130, r116_131, r116_134, r116_135, r116_137, r116_138, r116_141, r116_142, r116_145, r116_147, r116_148, r116_151, r116_152, r116_154, r116_155, r116_158, r116_159, r116_162, r116_163, r116_166, r116_167, r116_169, r116_170, r116_171, r116_173, r116_176, r116_178, r116_180, r116_181, r116_183, r116_184, r116_187, r116_188, r116_190, r116_191, r116_194, r116_195, r116_198, r116_199, r116_201, r116_203, r116_206, r116_208, r116_209, r116_212, r116_214, r116_216, r116_219, r116_221, r116_223, r116_226, r116_227, r116_230, r116_231, r116_233, r116_236, Cn_n, Cn_v, Cn_x, dp_0, dp_1, dp_2, dp_3, dp_4, okv_n, okv_i, okv_r, eq_self, true_and, and_true, Option.some.injEq, exists_eq_left', rgT, ixT, ixU, ↓if_pos, ↓if_neg, Int.toNat_natCast, bT0, bT1, hby, o_machines, hM, hMp, tdn, tmn, ha, hb, ha2, hb2, o_time hJ hM hJ5 hM5, hs_3, hC]
            exact ih3 _ _ _
theorem PF_two (ht : TOK t) (hJ5 : J ≤ 5) (hM2 : M = 2) (h : PFx t J M b L) (p5 : PF5 t J b) : L ≤ bnd t J M := by
  subst hM2
  exact PF_alter ht hJ5 h p5
theorem l_pland (hJ : F 17 = J) (hM : F 18 = M) (hJ5 : J ≤ 5) (hM5 : M ≤ 5) (hM1 : 1 ≤ M) (ht : TOK (A 3)) (hQ : ∀ s, Q (.inl (some (.inl 1)), mk (hs A s) F q)) : Ew 116 [vR 0, .inl 1] (mk A F q) Q := by
  have hp := (fin_PF (al := false) ht hJ5 hM5).1
  have hge := PF_ge ht hJ5 hM5 hp
  have hle := PF_dense ht hJ5 hM5 hp
  have hd : DR (dclo (A 3) J M false 26 0 ds0) := dfin_DR ht hJ5 hM5
  have bB := bnd_bd ht hJ5 hM5
  refine l_plan0 (z := 1) (s := dclo (A 3) J M false 26 0 ds0) hJ hM hJ5 hM5 hM1 ht (Or.inr rfl) hd hp (fun {C Q i} hC hi => ?_) (fun C hC hCs x5 x6 x7 x8 x9 x10 x11 => ?_)
  · have h9 := l_begd (A := C) (q := q) (Q := Q) hJ hM hJ5 hM5 hM1 (by rw [hC]; exact ht) hi
    rw [hC] at h9
    exact h9
  · have htC : TOK (C 3) := by rw [hC]; exact ht
    have htA : TOK (hs A (dclo (A 3) J M false 26 0 ds0) 3) := by rw [hs_3]; exact ht
    have hqs := hQ (dclo (A 3) J M false 26 0 ds0)
    generalize hL : imax (dclo (A 3) J M false 26 0 ds0).2.2 0 5 = L at hp hge hle ⊢
    by_cases c1 : 0 < L
    · rw [if_pos c1] at hle
      simp (disch := omega) only [r116_0, r116_1, r116_4, r116_5, r116_8, r116_9, r116_10, r116_11, r116_12, r116_13, r116_15, r116_16, r116_20, r116_21, r116_24, r116_26, r116_29, r116_30, r116_31, r116_33, r116_36, r116_38, r116_40, r116_41, r116_43, r116_44, r116_47, r116_48, r116_50, r116_51, r116_54, r116_55, r116_58, r116_59, r116_61, r116_63, r116_64, r116_67, r116_68, r116_71, r116_72, r116_74, r116_76, r116_79, r116_80, r116_83, r116_84, r116_87, r116_88, r116_91, r116_92, r116_94, r116_96, r116_97, r116_100, r116_102, r116_105, r116_106, r116_107, r116_108, r116_112, r116_114, r116_117, r116_119, r116_122, r116_124, r116_125, r116_128, r116_130, r116_131, r116_134, r116_135, r116_137, r116_138, r116_141, r116_142, r116_145, r116_147, r116_148, r116_151, r116_152, r116_154, r116_155, r116_158, r116_159, r116_162, r116_163, r116_166, r116_167, r116_169, r116_170, r116_171, r116_173, r116_176, r116_178, r116_180, r116_181, r116_183, r116_184, r116_187, r116_188, r116_190, r116_191, r116_194, r116_195, r116_198, r116_199, r116_201, r116_203, r116_206, r116_208, r116_209, r116_212, r116_214, r116_216, r116_219, r116_221, r116_223, r116_226, r116_227, r116_230, r116_231, r116_233, r116_236, r116_239, r116_242, r116_245, r116_246, r116_249, r116_250, r116_253, r116_256, r116_257, r116_260, r116_262, r116_264, r116_267, r116_269, r116_270, r116_273, r116_275, r116_276, r116_279, r116_282, r116_283, r116_286, r116_288, r116_289, r116_290, r116_293, r116_294, r116_296, r116_299, r116_300, r116_303, r116_304, r116_305, r116_308, r116_311, r116_313, r116_314, r116_317, r116_320, r116_321, r116_324, r116_325, Cn_n, Cn_v, Cn_x, dp_0, dp_1, dp_2, dp_3, dp_4, okv_n, okv_i, okv_r, eq_self, true_and, and_true, Option.some.injEq, exists_eq_left', rgT, ixT, ixU, ↓if_pos, ↓if_neg, Int.toNat_natCast, bT0, bT1, o_denseLength htC hJ hM hJ5 hM5, hC, hCs, hL, o_bound hJ hM hJ5 hM5 htA, hs_3]
      exact hqs
    · rw [if_neg c1] at hle
      simp (disch := omega) only [r116_0, r116_1, r116_4, r116_5, r116_8, r116_9, r116_10, r116_11, r116_12, r116_13, r116_15, r116_16, r116_20, r116_21, r116_24, r116_26, r116_29, r116_30, r116_31, r116_33, r116_36, r116_38, r116_40, r116_41, r116_43, r116_44, r116_47, r116_48, r116_50, r116_51, r116_54, r116_55, r116_58, r116_59, r116_61, r116_63, r116_64, r116_67, r116_68, r116_71, r116_72, r116_74, r116_76, r116_79, r116_80, r116_83, r116_84, r116_87, r116_88, r116_91, r116_92, r116_94, r116_96, r116_97, r116_100, r116_102, r116_105, r116_106, r116_107, r116_108, r116_112, r116_114, r116_117, r116_119, r116_122, r116_124, r116_125, r116_128, r116_130, r116_131, r116_134, r116_135, r116_137, r116_138, r116_141, r116_142, r116_145, r116_147, r116_148, r116_151, r116_152, r116_154, r116_155, r116_158, r116_159, r116_162, r116_163, r116_166, r116_167, r116_169, r116_170, r116_171, r116_173, r116_176, r116_178, r116_180, r116_181, r116_183, r116_184, r116_187, r116_188, r116_190, r116_191, r116_194, r116_195, r116_198, r116_199, r116_201, r116_203, r116_206, r116_208, r116_209, r116_212, r116_214, r116_216, r116_219, r116_221, r116_223, r116_226, r116_227, r116_230, r116_231, r116_233, r116_236, r116_239, r116_242, r116_245, r116_246, r116_249, r116_250, r116_253, r116_256, r116_257, r116_260, r116_262, r116_264, r116_267, r116_269, r116_270, r116_273, r116_275, r116_276, r116_279, r116_282, r116_283, r116_286, r116_288, r116_289, r116_290, r116_293, r116_294, r116_296, r116_299, r116_300, r116_303, r116_304, r116_305, r116_308, r116_311, r116_313, r116_314, r116_317, r116_320, r116_321, r116_324, r116_325, Cn_n, Cn_v, Cn_x, dp_0, dp_1, dp_2, dp_3, dp_4, okv_n, okv_i, okv_r, eq_self, true_and, and_true, Option.some.injEq, exists_eq_left', rgT, ixT, ixU, ↓if_pos, ↓if_neg, Int.toNat_natCast, bT0, bT1, o_denseLength htC hJ hM hJ5 hM5, hC, hCs, hL, o_bound hJ hM hJ5 hM5 htA, hs_3]
      exact hqs
theorem l_plana (hJ : F 17 = J) (hM : F 18 = M) (hJ5 : J ≤ 5) (hM2 : M = 2) (ht : TOK (A 3)) (hQ : ∀ s, Q (.inl (some (.inl 1)), mk (hs A s) F q)) : Ew 116 [vR 0, .inl 0] (mk A F q) Q := by
  have hM5 : M ≤ 5 := by omega
  have hp := (fin_PF (al := true) ht hJ5 hM5).1
  have hge := PF_ge ht hJ5 hM5 hp
  have hle := PF_two ht hJ5 hM2 hp ((fin_PF (al := true) ht hJ5 hM5).2 rfl hM2)
  have hd : DR (dclo (A 3) J M true 26 0 ds0) := dfin_DR ht hJ5 hM5
  have bB := bnd_bd ht hJ5 hM5
  refine l_plan0 (z := 0) (s := dclo (A 3) J M true 26 0 ds0) hJ hM hJ5 hM5 (by omega) ht (Or.inl rfl) hd hp (fun {C Q i} hC hi => ?_) (fun C hC hCs x5 x6 x7 x8 x9 x10 x11 => ?_)
  · have h9 := l_bega (A := C) (q := q) (Q := Q) hJ hM hJ5 hM2 (by rw [hC]; exact ht) hi
    rw [hC] at h9
    exact h9
  · have htC : TOK (C 3) := by rw [hC]; exact ht
    have htA : TOK (hs A (dclo (A 3) J M true 26 0 ds0) 3) := by rw [hs_3]; exact ht
    have hqs := hQ (dclo (A 3) J M true 26 0 ds0)
    generalize hL : imax (dclo (A 3) J M true 26 0 ds0).2.2 0 5 = L at hp hge hle ⊢
    simp (disch := omega) only [r116_0, r116_1, r116_4, r116_5, r116_8, r116_9, r116_10, r116_11, r116_12, r116_13, r116_15, r116_16, r116_20, r116_21, r116_24, r116_26, r116_29, r116_30, r116_31, r116_33, r116_36, r116_38, r116_40, r116_41, r116_43, r116_44, r116_47, r116_48, r116_50, r116_51, r116_54, r116_55, r116_58, r116_59, r116_61, r116_63, r116_64, r116_67, r116_68, r116_71, r116_72, r116_74, r116_76, r116_79, r116_80, r116_83, r116_84, r116_87, r116_88, r116_91, r116_92, r116_94, r116_96, r116_97, r116_100, r116_102, r116_105, r116_106, r116_107, r116_108, r116_112, r116_114, r116_117, r116_119, r116_122, r116_124, r116_125, r116_128, r116_130, r116_131, r116_134, r116_135, r116_137, r116_138, r116_141, r116_142, r116_145, r116_147, r116_148, r116_151, r116_152, r116_154, r116_155, r116_158, r116_159, r116_162, r116_163, r116_166, r116_167, r116_169, r116_170, r116_171, r116_173, r116_176, r116_178, r116_180, r116_181, r116_183, r116_184, r116_187, r116_188, r116_190, r116_191, r116_194, r116_195, r116_198, r116_199, r116_201, r116_203, r116_206, r116_208, r116_209, r116_212, r116_214, r116_216, r116_219, r116_221, r116_223, r116_226, r116_227, r116_230, r116_231, r116_233, r116_236, r116_239, r116_242, r116_245, r116_246, r116_249, r116_250, r116_253, r116_256, r116_257, r116_260, r116_262, r116_264, r116_267, r116_269, r116_270, r116_273, r116_275, r116_276, r116_279, r116_282, r116_283, r116_286, r116_288, r116_289, r116_290, r116_293, r116_294, r116_296, r116_299, r116_300, r116_303, r116_304, r116_305, r116_308, r116_311, r116_313, r116_314, r116_317, r116_320, r116_321, r116_324, r116_325, Cn_n, Cn_v, Cn_x, dp_0, dp_1, dp_2, dp_3, dp_4, okv_n, okv_i, okv_r, eq_self, true_and, and_true, Option.some.injEq, exists_eq_left', rgT, ixT, ixU, ↓if_pos, ↓if_neg, Int.toNat_natCast, bT0, bT1, o_alterLength htC hJ hM hJ5 hM2, hC, hCs, hL, o_bound hJ hM hJ5 hM5 htA, hs_3]
    exact hqs
end LPLN
