/-! the law, case by case -/
abbrev INV (A : Nat → Nat → Int) (F : Nat → Int) (J M : Nat) (t : Nat → Int) : Prop := OH A F J M t ∧ MH A F J M t ∧ BD J M t
theorem kk_SPv {P : Prop} {v0 k v : Int} (h : SPv P v0 k v) : 0 ≤ k ∧ k ≤ 2 := by
  rcases h with ⟨-, h, -⟩ | ⟨-, h⟩ <;> omega
theorem kk_SP3 {P D : Prop} {v0 k v : Int} (h : SP3 P D v0 k v) : 0 ≤ k ∧ k ≤ 2 := by
  rcases h with ⟨-, -, h, -⟩ | ⟨-, h⟩ | ⟨-, -, h⟩ <;> omega
section KK
variable {J M J2 M2 : Nat} {t t2 : Nat → Int} {a b c k v : Int} {P : Prop} {PN : Nat → Prop} {val : Nat → (Nat → Nat → Nat) → (Nat → Int) → Int}
theorem kk_SPr (h : SPr J M t a b c k v) : 0 ≤ k ∧ k ≤ 2 := by
  rcases h with ⟨-, -, h, -⟩ | ⟨-, h⟩ | ⟨-, -, h⟩ <;> omega
theorem kk_SPt (h : SPt J M t c k v) : 0 ≤ k ∧ k ≤ 2 := by
  rcases h with ⟨-, h, -⟩ | ⟨-, h⟩ <;> omega
theorem kk_SPu (h : SPu J M t c k v) : 0 ≤ k ∧ k ≤ 2 := by
  rcases h with ⟨-, h, -⟩ | ⟨-, h⟩ <;> omega
theorem kk_SPp (h : SPp J M t PN val k v) : 0 ≤ k ∧ k ≤ 2 := by
  obtain ⟨N, Ws, sg, ln, -, h⟩ := h
  rcases h with ⟨-, h, -⟩ | ⟨-, h⟩ <;> omega
theorem kk_SPo (h : SPo J M t P val k v) : 0 ≤ k ∧ k ≤ 2 := by
  rcases h with ⟨-, h, -⟩ | ⟨-, h⟩ <;> omega
theorem kk_SPz (h : SPz J M t a b k v J2 M2 t2) : 0 ≤ k ∧ k ≤ 2 := by
  rcases h with ⟨-, h, -⟩ | ⟨-, h, -⟩ <;> omega
theorem kk_SPs (h : SPs J M t a b c k v J2 M2 t2) : 0 ≤ k ∧ k ≤ 2 := by
  rcases h with ⟨-, -, h, -⟩ | ⟨-, h, -⟩ | ⟨-, -, h, -⟩ <;> omega
theorem kk_SPj (h : SPj J M t a b c k v J2 M2 t2) : 0 ≤ k ∧ k ≤ 2 := by
  rcases h with ⟨-, -, h, -⟩ | ⟨-, h, -⟩ | ⟨-, -, h, -⟩ <;> omega
theorem kk_SPw (h : SPw J M t a b k v J2 M2 t2) : 0 ≤ k ∧ k ≤ 2 := by
  rcases h with ⟨-, h, -⟩ | ⟨-, h, -⟩ <;> omega
end KK
section LAWC
variable {A A1 : Nat → Nat → Int} {F F1 : Nat → Int} {q : List Int × Nat} {Q : AR → Prop} {J M : Nat} {t : Nat → Int} {i : Int} {x5 x6 x7 x8 : Option AV}
theorem MH_fr (h : MH A F J M t) (oa : OFr A A1) (of : FFr F F1) : MH A1 F1 J M t := ⟨by rw [oa 49 (by decide) (by decide)]; exact h.1, by rw [of 769 (by decide)]; exact h.2.1, by rw [of 770 (by decide)]; exact h.2.2⟩
theorem OH_mr (h : OH A F J M t) (ma : MFr A A1) (mg : MGr F F1) : OH A1 F1 J M t := OH_fr h (ma 3 (Or.inl (by decide))) (ma 16 (Or.inl (by decide))) (ma 18 (Or.inl (by decide))) (ma 20 (Or.inl (by decide))) (fun k hk => mg k (by omega))
theorem QFr_r : QFr q q := ⟨rfl, by omega⟩
theorem lwc_0 (hI : INV A F J M t) (hi0 : 0 ≤ i) (hi3 : i + 3 < q.1.length) (hlen : q.1.length ≤ 2048) (hr : ∀ n, rg (q.1.getD n 0)) (hn : ∀ A1 F1 J1 M1 t1 q1 x5 x6 x7 x8, INV A1 F1 J1 M1 t1 → QFr q q1 → Wp 195 1630 [some vS, some (vR 0), some (vR 48), some (vR 59), some (.inl i), x5, x6, x7, x8] [] (mk A1 F1 q1) Q) : Wp 195 172 [some vS, some (vR 0), some (vR 48), some (vR 59), some (.inl i), x5, x6, x7, x8] [] (mk A F q) Q := by
  obtain ⟨oh, mh, bd⟩ := hI
  obtain ⟨a, ea⟩ : ∃ z, q.1.getD (i + 1).toNat 0 = z := ⟨_, rfl⟩
  have ra : rg a := by rw [← ea]; exact hr _
  obtain ⟨b, eb⟩ : ∃ z, q.1.getD (i + 2).toNat 0 = z := ⟨_, rfl⟩
  have rb : rg b := by rw [← eb]; exact hr _
  simp (disch := omega) only [r195_172, r195_173, r195_174, r195_176, r195_177, r195_178, r195_179, r195_180, r195_182, r195_183, r195_184, r195_185, r195_186, Cn_n, Cn_v, Cn_x, dp_0, dp_1, dp_2, dp_3, dp_4, okv_n, okv_i, okv_r, eq_self, true_and, and_true, Option.some.injEq, exists_eq_left', rgT, ixT, ixU, ↓if_pos, ↓if_neg, Int.toNat_natCast, bT0, bT1, q_1, ea, eb]
  refine zs_setSize oh bd ra rb (fun J2 M2 t2 A1 F1 q1 k v sp oh1 oa of hq hv => ?_)
  have mh1 := MH_fr mh oa of
  have hq1 := hq.1
  have hk := kk_SPz sp
  simp (disch := omega) only [r195_189, r195_191, r195_192, r195_193, r195_195, r195_196, r195_197, r195_198, r195_199, r195_201, r195_202, r195_203, r195_204, Cn_n, Cn_v, Cn_x, dp_0, dp_1, dp_2, dp_3, dp_4, okv_n, okv_i, okv_r, eq_self, true_and, and_true, Option.some.injEq, exists_eq_left', rgT, ixT, ixU, ↓if_pos, ↓if_neg, Int.toNat_natCast, bT0, bT1, q_1, hq1, ea, eb]
  refine zm_setSize mh1 bd ra rb sp (fun A2 F2 z mh2 ma mg h768 hb rz => ?_)
  have hin : INV A2 F2 J2 M2 t2 := ⟨OH_mr oh1 ma mg, mh2, bd_setSize bd sp⟩
  obtain ⟨z1, z2⟩ := rz
  by_cases hk0 : k = 0
  · have e59 : A2 59 0 = z := by rw [ma 59 (Or.inr rfl), hb hk0]; exact hv hk0
    simp (disch := omega) only [r195_207, r195_209, r195_210, r195_213, r195_215, r195_218, r195_219, r195_220, r195_222, r195_225, r195_226, r195_227, r195_228, r195_230, r195_231, r195_232, r195_235, r195_236, r195_237, Cn_n, Cn_v, Cn_x, dp_0, dp_1, dp_2, dp_3, dp_4, okv_n, okv_i, okv_r, eq_self, true_and, and_true, Option.some.injEq, exists_eq_left', rgT, ixT, ixU, ↓if_pos, ↓if_neg, Int.toNat_natCast, bT0, bT1, a_59, b_59, d_59, tab_len, tab_get, tn0, m_thrown, h768, e59]
    exact hn _ _ _ _ _ _ _ _ _ _ hin hq
  · simp (disch := omega) only [r195_207, r195_209, r195_210, r195_213, r195_215, r195_218, r195_219, r195_220, r195_222, r195_225, r195_226, r195_227, r195_228, r195_230, r195_231, r195_232, r195_235, r195_236, r195_237, Cn_n, Cn_v, Cn_x, dp_0, dp_1, dp_2, dp_3, dp_4, okv_n, okv_i, okv_r, eq_self, true_and, and_true, Option.some.injEq, exists_eq_left', rgT, ixT, ixU, ↓if_pos, ↓if_neg, Int.toNat_natCast, bT0, bT1, a_59, b_59, d_59, tab_len, tab_get, tn0, m_thrown, h768]
    exact hn _ _ _ _ _ _ _ _ _ _ hin hq
theorem lwc_1 (hI : INV A F J M t) (hi0 : 0 ≤ i) (hi3 : i + 3 < q.1.length) (hlen : q.1.length ≤ 2048) (hr : ∀ n, rg (q.1.getD n 0)) (hn : ∀ A1 F1 J1 M1 t1 q1 x5 x6 x7 x8, INV A1 F1 J1 M1 t1 → QFr q q1 → Wp 195 1630 [some vS, some (vR 0), some (vR 48), some (vR 59), some (.inl i), x5, x6, x7, x8] [] (mk A1 F1 q1) Q) : Wp 195 240 [some vS, some (vR 0), some (vR 48), some (vR 59), some (.inl i), x5, x6, x7, x8] [] (mk A F q) Q := by
  obtain ⟨oh, mh, bd⟩ := hI
  obtain ⟨a, ea⟩ : ∃ z, q.1.getD (i + 1).toNat 0 = z := ⟨_, rfl⟩
  have ra : rg a := by rw [← ea]; exact hr _
  obtain ⟨b, eb⟩ : ∃ z, q.1.getD (i + 2).toNat 0 = z := ⟨_, rfl⟩
  have rb : rg b := by rw [← eb]; exact hr _
  obtain ⟨c, ec⟩ : ∃ z, q.1.getD (i + 3).toNat 0 = z := ⟨_, rfl⟩
  have rc : rg c := by rw [← ec]; exact hr _
  simp (disch := omega) only [r195_240, r195_241, r195_242, r195_244, r195_245, r195_246, r195_247, r195_248, r195_250, r195_251, r195_252, r195_253, r195_254, r195_256, r195_257, r195_258, r195_259, r195_260, Cn_n, Cn_v, Cn_x, dp_0, dp_1, dp_2, dp_3, dp_4, okv_n, okv_i, okv_r, eq_self, true_and, and_true, Option.some.injEq, exists_eq_left', rgT, ixT, ixU, ↓if_pos, ↓if_neg, Int.toNat_natCast, bT0, bT1, q_1, ea, eb, ec]
  refine zs_set oh bd ra rb rc (fun J2 M2 t2 A1 F1 q1 k v sp oh1 oa of hq hv => ?_)
  have mh1 := MH_fr mh oa of
  have hq1 := hq.1
  have hk := kk_SPs sp
  simp (disch := omega) only [r195_263, r195_265, r195_266, r195_267, r195_269, r195_270, r195_271, r195_272, r195_273, r195_275, r195_276, r195_277, r195_278, r195_279, r195_281, r195_282, r195_283, r195_284, Cn_n, Cn_v, Cn_x, dp_0, dp_1, dp_2, dp_3, dp_4, okv_n, okv_i, okv_r, eq_self, true_and, and_true, Option.some.injEq, exists_eq_left', rgT, ixT, ixU, ↓if_pos, ↓if_neg, Int.toNat_natCast, bT0, bT1, q_1, hq1, ea, eb, ec]
  refine zm_set mh1 bd ra rb rc sp (fun A2 F2 z mh2 ma mg h768 hb rz => ?_)
  have hin : INV A2 F2 J2 M2 t2 := ⟨OH_mr oh1 ma mg, mh2, bd_set bd sp⟩
  obtain ⟨z1, z2⟩ := rz
  by_cases hk0 : k = 0
  · have e59 : A2 59 0 = z := by rw [ma 59 (Or.inr rfl), hb hk0]; exact hv hk0
    simp (disch := omega) only [r195_287, r195_289, r195_290, r195_293, r195_295, r195_298, r195_299, r195_300, r195_302, r195_305, r195_306, r195_307, r195_308, r195_310, r195_311, r195_312, r195_315, r195_316, r195_317, Cn_n, Cn_v, Cn_x, dp_0, dp_1, dp_2, dp_3, dp_4, okv_n, okv_i, okv_r, eq_self, true_and, and_true, Option.some.injEq, exists_eq_left', rgT, ixT, ixU, ↓if_pos, ↓if_neg, Int.toNat_natCast, bT0, bT1, a_59, b_59, d_59, tab_len, tab_get, tn0, m_thrown, h768, e59]
    exact hn _ _ _ _ _ _ _ _ _ _ hin hq
  · simp (disch := omega) only [r195_287, r195_289, r195_290, r195_293, r195_295, r195_298, r195_299, r195_300, r195_302, r195_305, r195_306, r195_307, r195_308, r195_310, r195_311, r195_312, r195_315, r195_316, r195_317, Cn_n, Cn_v, Cn_x, dp_0, dp_1, dp_2, dp_3, dp_4, okv_n, okv_i, okv_r, eq_self, true_and, and_true, Option.some.injEq, exists_eq_left', rgT, ixT, ixU, ↓if_pos, ↓if_neg, Int.toNat_natCast, bT0, bT1, a_59, b_59, d_59, tab_len, tab_get, tn0, m_thrown, h768]
    exact hn _ _ _ _ _ _ _ _ _ _ hin hq
theorem lwc_2 (hI : INV A F J M t) (hi0 : 0 ≤ i) (hi3 : i + 3 < q.1.length) (hlen : q.1.length ≤ 2048) (hr : ∀ n, rg (q.1.getD n 0)) (hn : ∀ A1 F1 J1 M1 t1 q1 x5 x6 x7 x8, INV A1 F1 J1 M1 t1 → QFr q q1 → Wp 195 1630 [some vS, some (vR 0), some (vR 48), some (vR 59), some (.inl i), x5, x6, x7, x8] [] (mk A1 F1 q1) Q) : Wp 195 320 [some vS, some (vR 0), some (vR 48), some (vR 59), some (.inl i), x5, x6, x7, x8] [] (mk A F q) Q := by
  obtain ⟨oh, mh, bd⟩ := hI
  obtain ⟨a, ea⟩ : ∃ z, q.1.getD (i + 1).toNat 0 = z := ⟨_, rfl⟩
  have ra : rg a := by rw [← ea]; exact hr _
  obtain ⟨b, eb⟩ : ∃ z, q.1.getD (i + 2).toNat 0 = z := ⟨_, rfl⟩
  have rb : rg b := by rw [← eb]; exact hr _
  obtain ⟨c, ec⟩ : ∃ z, q.1.getD (i + 3).toNat 0 = z := ⟨_, rfl⟩
  have rc : rg c := by rw [← ec]; exact hr _
  simp (disch := omega) only [r195_320, r195_321, r195_322, r195_324, r195_325, r195_326, r195_327, r195_328, r195_330, r195_331, r195_332, r195_333, r195_334, r195_336, r195_337, r195_338, r195_339, r195_340, Cn_n, Cn_v, Cn_x, dp_0, dp_1, dp_2, dp_3, dp_4, okv_n, okv_i, okv_r, eq_self, true_and, and_true, Option.some.injEq, exists_eq_left', rgT, ixT, ixU, ↓if_pos, ↓if_neg, Int.toNat_natCast, bT0, bT1, q_1, ea, eb, ec]
  refine zs_setJob oh bd ra rb rc (fun J2 M2 t2 A1 F1 q1 k v sp oh1 oa of hq hv => ?_)
  have mh1 := MH_fr mh oa of
  have hq1 := hq.1
  have hk := kk_SPj sp
  simp (disch := omega) only [r195_343, r195_345, r195_346, r195_347, r195_349, r195_350, r195_351, r195_352, r195_353, r195_355, r195_356, r195_357, r195_358, r195_359, r195_361, r195_362, r195_363, r195_364, Cn_n, Cn_v, Cn_x, dp_0, dp_1, dp_2, dp_3, dp_4, okv_n, okv_i, okv_r, eq_self, true_and, and_true, Option.some.injEq, exists_eq_left', rgT, ixT, ixU, ↓if_pos, ↓if_neg, Int.toNat_natCast, bT0, bT1, q_1, hq1, ea, eb, ec]
  refine zm_setJob mh1 bd ra rb rc sp (fun A2 F2 z mh2 ma mg h768 hb rz => ?_)
  have hin : INV A2 F2 J2 M2 t2 := ⟨OH_mr oh1 ma mg, mh2, bd_setJob bd sp⟩
  obtain ⟨z1, z2⟩ := rz
  by_cases hk0 : k = 0
  · have e59 : A2 59 0 = z := by rw [ma 59 (Or.inr rfl), hb hk0]; exact hv hk0
    simp (disch := omega) only [r195_367, r195_369, r195_370, r195_373, r195_375, r195_378, r195_379, r195_380, r195_382, r195_385, r195_386, r195_387, r195_388, r195_390, r195_391, r195_392, r195_395, r195_396, r195_397, Cn_n, Cn_v, Cn_x, dp_0, dp_1, dp_2, dp_3, dp_4, okv_n, okv_i, okv_r, eq_self, true_and, and_true, Option.some.injEq, exists_eq_left', rgT, ixT, ixU, ↓if_pos, ↓if_neg, Int.toNat_natCast, bT0, bT1, a_59, b_59, d_59, tab_len, tab_get, tn0, m_thrown, h768, e59]
    exact hn _ _ _ _ _ _ _ _ _ _ hin hq
  · simp (disch := omega) only [r195_367, r195_369, r195_370, r195_373, r195_375, r195_378, r195_379, r195_380, r195_382, r195_385, r195_386, r195_387, r195_388, r195_390, r195_391, r195_392, r195_395, r195_396, r195_397, Cn_n, Cn_v, Cn_x, dp_0, dp_1, dp_2, dp_3, dp_4, okv_n, okv_i, okv_r, eq_self, true_and, and_true, Option.some.injEq, exists_eq_left', rgT, ixT, ixU, ↓if_pos, ↓if_neg, Int.toNat_natCast, bT0, bT1, a_59, b_59, d_59, tab_len, tab_get, tn0, m_thrown, h768]
    exact hn _ _ _ _ _ _ _ _ _ _ hin hq
theorem lwc_3 (hI : INV A F J M t) (hi0 : 0 ≤ i) (hi3 : i + 3 < q.1.length) (hlen : q.1.length ≤ 2048) (hr : ∀ n, rg (q.1.getD n 0)) (hn : ∀ A1 F1 J1 M1 t1 q1 x5 x6 x7 x8, INV A1 F1 J1 M1 t1 → QFr q q1 → Wp 195 1630 [some vS, some (vR 0), some (vR 48), some (vR 59), some (.inl i), x5, x6, x7, x8] [] (mk A1 F1 q1) Q) : Wp 195 400 [some vS, some (vR 0), some (vR 48), some (vR 59), some (.inl i), x5, x6, x7, x8] [] (mk A F q) Q := by
  obtain ⟨oh, mh, bd⟩ := hI
  obtain ⟨a, ea⟩ : ∃ z, q.1.getD (i + 1).toNat 0 = z := ⟨_, rfl⟩
  have ra : rg a := by rw [← ea]; exact hr _
  obtain ⟨b, eb⟩ : ∃ z, q.1.getD (i + 2).toNat 0 = z := ⟨_, rfl⟩
  have rb : rg b := by rw [← eb]; exact hr _
  simp (disch := omega) only [r195_400, r195_401, r195_402, r195_404, r195_405, r195_406, r195_407, r195_408, r195_410, r195_411, r195_412, r195_413, r195_414, Cn_n, Cn_v, Cn_x, dp_0, dp_1, dp_2, dp_3, dp_4, okv_n, okv_i, okv_r, eq_self, true_and, and_true, Option.some.injEq, exists_eq_left', rgT, ixT, ixU, ↓if_pos, ↓if_neg, Int.toNat_natCast, bT0, bT1, q_1, ea, eb]
  refine zs_swap oh bd ra rb (fun J2 M2 t2 A1 F1 q1 k v sp oh1 oa of hq hv => ?_)
  have mh1 := MH_fr mh oa of
  have hq1 := hq.1
  have hk := kk_SPw sp
  simp (disch := omega) only [r195_417, r195_419, r195_420, r195_421, r195_423, r195_424, r195_425, r195_426, r195_427, r195_429, r195_430, r195_431, r195_432, Cn_n, Cn_v, Cn_x, dp_0, dp_1, dp_2, dp_3, dp_4, okv_n, okv_i, okv_r, eq_self, true_and, and_true, Option.some.injEq, exists_eq_left', rgT, ixT, ixU, ↓if_pos, ↓if_neg, Int.toNat_natCast, bT0, bT1, q_1, hq1, ea, eb]
  refine zm_swap mh1 bd ra rb sp (fun A2 F2 z mh2 ma mg h768 hb rz => ?_)
  have hin : INV A2 F2 J2 M2 t2 := ⟨OH_mr oh1 ma mg, mh2, bd_swap bd sp⟩
  obtain ⟨z1, z2⟩ := rz
  by_cases hk0 : k = 0
  · have e59 : A2 59 0 = z := by rw [ma 59 (Or.inr rfl), hb hk0]; exact hv hk0
    simp (disch := omega) only [r195_435, r195_437, r195_438, r195_441, r195_443, r195_446, r195_447, r195_448, r195_450, r195_453, r195_454, r195_455, r195_456, r195_458, r195_459, r195_460, r195_463, r195_464, r195_465, Cn_n, Cn_v, Cn_x, dp_0, dp_1, dp_2, dp_3, dp_4, okv_n, okv_i, okv_r, eq_self, true_and, and_true, Option.some.injEq, exists_eq_left', rgT, ixT, ixU, ↓if_pos, ↓if_neg, Int.toNat_natCast, bT0, bT1, a_59, b_59, d_59, tab_len, tab_get, tn0, m_thrown, h768, e59]
    exact hn _ _ _ _ _ _ _ _ _ _ hin hq
  · simp (disch := omega) only [r195_435, r195_437, r195_438, r195_441, r195_443, r195_446, r195_447, r195_448, r195_450, r195_453, r195_454, r195_455, r195_456, r195_458, r195_459, r195_460, r195_463, r195_464, r195_465, Cn_n, Cn_v, Cn_x, dp_0, dp_1, dp_2, dp_3, dp_4, okv_n, okv_i, okv_r, eq_self, true_and, and_true, Option.some.injEq, exists_eq_left', rgT, ixT, ixU, ↓if_pos, ↓if_neg, Int.toNat_natCast, bT0, bT1, a_59, b_59, d_59, tab_len, tab_get, tn0, m_thrown, h768]
    exact hn _ _ _ _ _ _ _ _ _ _ hin hq
theorem lwc_4 (hI : INV A F J M t) (hi0 : 0 ≤ i) (hi3 : i + 3 < q.1.length) (hlen : q.1.length ≤ 2048) (hr : ∀ n, rg (q.1.getD n 0)) (hn : ∀ A1 F1 J1 M1 t1 q1 x5 x6 x7 x8, INV A1 F1 J1 M1 t1 → QFr q q1 → Wp 195 1630 [some vS, some (vR 0), some (vR 48), some (vR 59), some (.inl i), x5, x6, x7, x8] [] (mk A1 F1 q1) Q) : Wp 195 468 [some vS, some (vR 0), some (vR 48), some (vR 59), some (.inl i), x5, x6, x7, x8] [] (mk A F q) Q := by
  obtain ⟨oh, mh, bd⟩ := hI
  simp (disch := omega) only [r195_468, r195_469, Cn_n, Cn_v, Cn_x, dp_0, dp_1, dp_2, dp_3, dp_4, okv_n, okv_i, okv_r, eq_self, true_and, and_true, Option.some.injEq, exists_eq_left', rgT, ixT, ixU, ↓if_pos, ↓if_neg, Int.toNat_natCast, bT0, bT1]
  refine zs_turn oh bd (fun A1 F1 v sp oh1 oa of rv => ?_)
  have mh1 := MH_fr mh oa of
  simp (disch := omega) only [r195_472, r195_473, Cn_n, Cn_v, Cn_x, dp_0, dp_1, dp_2, dp_3, dp_4, okv_n, okv_i, okv_r, eq_self, true_and, and_true, Option.some.injEq, exists_eq_left', rgT, ixT, ixU, ↓if_pos, ↓if_neg, Int.toNat_natCast, bT0, bT1]
  refine zm_turn mh1 bd sp (fun A2 F2 mh2 ma mg => ?_)
  have hin : INV A2 F2 _ _ _ := ⟨OH_mr oh1 ma mg, mh2, bd_turn bd⟩
  obtain ⟨z1, z2⟩ := rv
  simp (disch := omega) only [r195_476, r195_479, r195_480, Cn_n, Cn_v, Cn_x, dp_0, dp_1, dp_2, dp_3, dp_4, okv_n, okv_i, okv_r, eq_self, true_and, and_true, Option.some.injEq, exists_eq_left', rgT, ixT, ixU, ↓if_pos, ↓if_neg, Int.toNat_natCast, bT0, bT1]
  exact hn _ _ _ _ _ _ _ _ _ _ hin QFr_r
theorem lwc_5 (hI : INV A F J M t) (hi0 : 0 ≤ i) (hi3 : i + 3 < q.1.length) (hlen : q.1.length ≤ 2048) (hr : ∀ n, rg (q.1.getD n 0)) (hn : ∀ A1 F1 J1 M1 t1 q1 x5 x6 x7 x8, INV A1 F1 J1 M1 t1 → QFr q q1 → Wp 195 1630 [some vS, some (vR 0), some (vR 48), some (vR 59), some (.inl i), x5, x6, x7, x8] [] (mk A1 F1 q1) Q) : Wp 195 481 [some vS, some (vR 0), some (vR 48), some (vR 59), some (.inl i), x5, x6, x7, x8] [] (mk A F q) Q := by
  obtain ⟨oh, mh, bd⟩ := hI
  simp (disch := omega) only [r195_481, r195_482, Cn_n, Cn_v, Cn_x, dp_0, dp_1, dp_2, dp_3, dp_4, okv_n, okv_i, okv_r, eq_self, true_and, and_true, Option.some.injEq, exists_eq_left', rgT, ixT, ixU, ↓if_pos, ↓if_neg, Int.toNat_natCast, bT0, bT1]
  refine zs_jobs oh bd (fun A1 F1 v sp oh1 oa of rv => ?_)
  have mh1 := MH_fr mh oa of
  simp (disch := omega) only [r195_485, r195_486, Cn_n, Cn_v, Cn_x, dp_0, dp_1, dp_2, dp_3, dp_4, okv_n, okv_i, okv_r, eq_self, true_and, and_true, Option.some.injEq, exists_eq_left', rgT, ixT, ixU, ↓if_pos, ↓if_neg, Int.toNat_natCast, bT0, bT1]
  refine zm_jobs mh1 sp (fun A2 F2 mh2 ma mg => ?_)
  have hin : INV A2 F2 _ _ _ := ⟨OH_mr oh1 ma mg, mh2, bd⟩
  obtain ⟨z1, z2⟩ := rv
  simp (disch := omega) only [r195_489, r195_492, r195_493, Cn_n, Cn_v, Cn_x, dp_0, dp_1, dp_2, dp_3, dp_4, okv_n, okv_i, okv_r, eq_self, true_and, and_true, Option.some.injEq, exists_eq_left', rgT, ixT, ixU, ↓if_pos, ↓if_neg, Int.toNat_natCast, bT0, bT1]
  exact hn _ _ _ _ _ _ _ _ _ _ hin QFr_r
theorem lwc_6 (hI : INV A F J M t) (hi0 : 0 ≤ i) (hi3 : i + 3 < q.1.length) (hlen : q.1.length ≤ 2048) (hr : ∀ n, rg (q.1.getD n 0)) (hn : ∀ A1 F1 J1 M1 t1 q1 x5 x6 x7 x8, INV A1 F1 J1 M1 t1 → QFr q q1 → Wp 195 1630 [some vS, some (vR 0), some (vR 48), some (vR 59), some (.inl i), x5, x6, x7, x8] [] (mk A1 F1 q1) Q) : Wp 195 494 [some vS, some (vR 0), some (vR 48), some (vR 59), some (.inl i), x5, x6, x7, x8] [] (mk A F q) Q := by
  obtain ⟨oh, mh, bd⟩ := hI
  simp (disch := omega) only [r195_494, r195_495, Cn_n, Cn_v, Cn_x, dp_0, dp_1, dp_2, dp_3, dp_4, okv_n, okv_i, okv_r, eq_self, true_and, and_true, Option.some.injEq, exists_eq_left', rgT, ixT, ixU, ↓if_pos, ↓if_neg, Int.toNat_natCast, bT0, bT1]
  refine zs_machines oh bd (fun A1 F1 v sp oh1 oa of rv => ?_)
  have mh1 := MH_fr mh oa of
  simp (disch := omega) only [r195_498, r195_499, Cn_n, Cn_v, Cn_x, dp_0, dp_1, dp_2, dp_3, dp_4, okv_n, okv_i, okv_r, eq_self, true_and, and_true, Option.some.injEq, exists_eq_left', rgT, ixT, ixU, ↓if_pos, ↓if_neg, Int.toNat_natCast, bT0, bT1]
  refine zm_machines mh1 sp (fun A2 F2 mh2 ma mg => ?_)
  have hin : INV A2 F2 _ _ _ := ⟨OH_mr oh1 ma mg, mh2, bd⟩
  obtain ⟨z1, z2⟩ := rv
  simp (disch := omega) only [r195_502, r195_505, r195_506, Cn_n, Cn_v, Cn_x, dp_0, dp_1, dp_2, dp_3, dp_4, okv_n, okv_i, okv_r, eq_self, true_and, and_true, Option.some.injEq, exists_eq_left', rgT, ixT, ixU, ↓if_pos, ↓if_neg, Int.toNat_natCast, bT0, bT1]
  exact hn _ _ _ _ _ _ _ _ _ _ hin QFr_r
theorem lwc_7 (hI : INV A F J M t) (hi0 : 0 ≤ i) (hi3 : i + 3 < q.1.length) (hlen : q.1.length ≤ 2048) (hr : ∀ n, rg (q.1.getD n 0)) (hn : ∀ A1 F1 J1 M1 t1 q1 x5 x6 x7 x8, INV A1 F1 J1 M1 t1 → QFr q q1 → Wp 195 1630 [some vS, some (vR 0), some (vR 48), some (vR 59), some (.inl i), x5, x6, x7, x8] [] (mk A1 F1 q1) Q) : Wp 195 507 [some vS, some (vR 0), some (vR 48), some (vR 59), some (.inl i), x5, x6, x7, x8] [] (mk A F q) Q := by
  obtain ⟨oh, mh, bd⟩ := hI
  obtain ⟨a, ea⟩ : ∃ z, q.1.getD (i + 1).toNat 0 = z := ⟨_, rfl⟩
  have ra : rg a := by rw [← ea]; exact hr _
  obtain ⟨b, eb⟩ : ∃ z, q.1.getD (i + 2).toNat 0 = z := ⟨_, rfl⟩
  have rb : rg b := by rw [← eb]; exact hr _
  simp (disch := omega) only [r195_507, r195_508, r195_509, r195_511, r195_512, r195_513, r195_514, r195_515, r195_517, r195_518, r195_519, r195_520, r195_521, Cn_n, Cn_v, Cn_x, dp_0, dp_1, dp_2, dp_3, dp_4, okv_n, okv_i, okv_r, eq_self, true_and, and_true, Option.some.injEq, exists_eq_left', rgT, ixT, ixU, ↓if_pos, ↓if_neg, Int.toNat_natCast, bT0, bT1, q_1, ea, eb]
  refine zs_time oh bd ra rb (fun A1 F1 q1 k v sp oh1 oa of hq hv => ?_)
  have mh1 := MH_fr mh oa of
  have hq1 := hq.1
  have hk := kk_SPv sp
  simp (disch := omega) only [r195_524, r195_526, r195_527, r195_528, r195_530, r195_531, r195_532, r195_533, r195_534, r195_536, r195_537, r195_538, r195_539, Cn_n, Cn_v, Cn_x, dp_0, dp_1, dp_2, dp_3, dp_4, okv_n, okv_i, okv_r, eq_self, true_and, and_true, Option.some.injEq, exists_eq_left', rgT, ixT, ixU, ↓if_pos, ↓if_neg, Int.toNat_natCast, bT0, bT1, q_1, hq1, ea, eb]
  refine zm_time mh1 bd ra rb sp (fun A2 F2 z mh2 ma mg h768 hb rz => ?_)
  have hin : INV A2 F2 J M t := ⟨OH_mr oh1 ma mg, mh2, bd⟩
  obtain ⟨z1, z2⟩ := rz
  by_cases hk0 : k = 0
  · have e59 : A2 59 0 = z := by rw [ma 59 (Or.inr rfl), hb hk0]; exact hv hk0
    simp (disch := omega) only [r195_542, r195_544, r195_545, r195_548, r195_550, r195_553, r195_554, r195_555, r195_557, r195_560, r195_561, r195_562, r195_563, r195_565, r195_566, r195_567, r195_570, r195_571, r195_572, Cn_n, Cn_v, Cn_x, dp_0, dp_1, dp_2, dp_3, dp_4, okv_n, okv_i, okv_r, eq_self, true_and, and_true, Option.some.injEq, exists_eq_left', rgT, ixT, ixU, ↓if_pos, ↓if_neg, Int.toNat_natCast, bT0, bT1, a_59, b_59, d_59, tab_len, tab_get, tn0, m_thrown, h768, e59]
    exact hn _ _ _ _ _ _ _ _ _ _ hin hq
  · simp (disch := omega) only [r195_542, r195_544, r195_545, r195_548, r195_550, r195_553, r195_554, r195_555, r195_557, r195_560, r195_561, r195_562, r195_563, r195_565, r195_566, r195_567, r195_570, r195_571, r195_572, Cn_n, Cn_v, Cn_x, dp_0, dp_1, dp_2, dp_3, dp_4, okv_n, okv_i, okv_r, eq_self, true_and, and_true, Option.some.injEq, exists_eq_left', rgT, ixT, ixU, ↓if_pos, ↓if_neg, Int.toNat_natCast, bT0, bT1, a_59, b_59, d_59, tab_len, tab_get, tn0, m_thrown, h768]
    exact hn _ _ _ _ _ _ _ _ _ _ hin hq
theorem lwc_8 (hI : INV A F J M t) (hi0 : 0 ≤ i) (hi3 : i + 3 < q.1.length) (hlen : q.1.length ≤ 2048) (hr : ∀ n, rg (q.1.getD n 0)) (hn : ∀ A1 F1 J1 M1 t1 q1 x5 x6 x7 x8, INV A1 F1 J1 M1 t1 → QFr q q1 → Wp 195 1630 [some vS, some (vR 0), some (vR 48), some (vR 59), some (.inl i), x5, x6, x7, x8] [] (mk A1 F1 q1) Q) : Wp 195 575 [some vS, some (vR 0), some (vR 48), some (vR 59), some (.inl i), x5, x6, x7, x8] [] (mk A F q) Q := by
  obtain ⟨oh, mh, bd⟩ := hI
  obtain ⟨a, ea⟩ : ∃ z, q.1.getD (i + 1).toNat 0 = z := ⟨_, rfl⟩
  have ra : rg a := by rw [← ea]; exact hr _
  simp (disch := omega) only [r195_575, r195_576, r195_577, r195_579, r195_580, r195_581, r195_582, r195_583, Cn_n, Cn_v, Cn_x, dp_0, dp_1, dp_2, dp_3, dp_4, okv_n, okv_i, okv_r, eq_self, true_and, and_true, Option.some.injEq, exists_eq_left', rgT, ixT, ixU, ↓if_pos, ↓if_neg, Int.toNat_natCast, bT0, bT1, q_1, ea]
  refine zs_jobTotal oh bd ra (fun A1 F1 q1 k v sp oh1 oa of hq hv => ?_)
  have mh1 := MH_fr mh oa of
  have hq1 := hq.1
  have hk := kk_SPv sp
  simp (disch := omega) only [r195_586, r195_588, r195_589, r195_590, r195_592, r195_593, r195_594, r195_595, Cn_n, Cn_v, Cn_x, dp_0, dp_1, dp_2, dp_3, dp_4, okv_n, okv_i, okv_r, eq_self, true_and, and_true, Option.some.injEq, exists_eq_left', rgT, ixT, ixU, ↓if_pos, ↓if_neg, Int.toNat_natCast, bT0, bT1, q_1, hq1, ea]
  refine zm_jobTotal mh1 bd ra sp (fun A2 F2 z mh2 ma mg h768 hb rz => ?_)
  have hin : INV A2 F2 J M t := ⟨OH_mr oh1 ma mg, mh2, bd⟩
  obtain ⟨z1, z2⟩ := rz
  by_cases hk0 : k = 0
  · have e59 : A2 59 0 = z := by rw [ma 59 (Or.inr rfl), hb hk0]; exact hv hk0
    simp (disch := omega) only [r195_598, r195_600, r195_601, r195_604, r195_606, r195_609, r195_610, r195_611, r195_613, r195_616, r195_617, r195_618, r195_619, r195_621, r195_622, r195_623, r195_626, r195_627, r195_628, Cn_n, Cn_v, Cn_x, dp_0, dp_1, dp_2, dp_3, dp_4, okv_n, okv_i, okv_r, eq_self, true_and, and_true, Option.some.injEq, exists_eq_left', rgT, ixT, ixU, ↓if_pos, ↓if_neg, Int.toNat_natCast, bT0, bT1, a_59, b_59, d_59, tab_len, tab_get, tn0, m_thrown, h768, e59]
    exact hn _ _ _ _ _ _ _ _ _ _ hin hq
  · simp (disch := omega) only [r195_598, r195_600, r195_601, r195_604, r195_606, r195_609, r195_610, r195_611, r195_613, r195_616, r195_617, r195_618, r195_619, r195_621, r195_622, r195_623, r195_626, r195_627, r195_628, Cn_n, Cn_v, Cn_x, dp_0, dp_1, dp_2, dp_3, dp_4, okv_n, okv_i, okv_r, eq_self, true_and, and_true, Option.some.injEq, exists_eq_left', rgT, ixT, ixU, ↓if_pos, ↓if_neg, Int.toNat_natCast, bT0, bT1, a_59, b_59, d_59, tab_len, tab_get, tn0, m_thrown, h768]
    exact hn _ _ _ _ _ _ _ _ _ _ hin hq
theorem lwc_9 (hI : INV A F J M t) (hi0 : 0 ≤ i) (hi3 : i + 3 < q.1.length) (hlen : q.1.length ≤ 2048) (hr : ∀ n, rg (q.1.getD n 0)) (hn : ∀ A1 F1 J1 M1 t1 q1 x5 x6 x7 x8, INV A1 F1 J1 M1 t1 → QFr q q1 → Wp 195 1630 [some vS, some (vR 0), some (vR 48), some (vR 59), some (.inl i), x5, x6, x7, x8] [] (mk A1 F1 q1) Q) : Wp 195 631 [some vS, some (vR 0), some (vR 48), some (vR 59), some (.inl i), x5, x6, x7, x8] [] (mk A F q) Q := by
  obtain ⟨oh, mh, bd⟩ := hI
  obtain ⟨a, ea⟩ : ∃ z, q.1.getD (i + 1).toNat 0 = z := ⟨_, rfl⟩
  have ra : rg a := by rw [← ea]; exact hr _
  simp (disch := omega) only [r195_631, r195_632, r195_633, r195_635, r195_636, r195_637, r195_638, r195_639, Cn_n, Cn_v, Cn_x, dp_0, dp_1, dp_2, dp_3, dp_4, okv_n, okv_i, okv_r, eq_self, true_and, and_true, Option.some.injEq, exists_eq_left', rgT, ixT, ixU, ↓if_pos, ↓if_neg, Int.toNat_natCast, bT0, bT1, q_1, ea]
  refine zs_machineTotal oh bd ra (fun A1 F1 q1 k v sp oh1 oa of hq hv => ?_)
  have mh1 := MH_fr mh oa of
  have hq1 := hq.1
  have hk := kk_SPv sp
  simp (disch := omega) only [r195_642, r195_644, r195_645, r195_646, r195_648, r195_649, r195_650, r195_651, Cn_n, Cn_v, Cn_x, dp_0, dp_1, dp_2, dp_3, dp_4, okv_n, okv_i, okv_r, eq_self, true_and, and_true, Option.some.injEq, exists_eq_left', rgT, ixT, ixU, ↓if_pos, ↓if_neg, Int.toNat_natCast, bT0, bT1, q_1, hq1, ea]
  refine zm_machineTotal mh1 bd ra sp (fun A2 F2 z mh2 ma mg h768 hb rz => ?_)
  have hin : INV A2 F2 J M t := ⟨OH_mr oh1 ma mg, mh2, bd⟩
  obtain ⟨z1, z2⟩ := rz
  by_cases hk0 : k = 0
  · have e59 : A2 59 0 = z := by rw [ma 59 (Or.inr rfl), hb hk0]; exact hv hk0
    simp (disch := omega) only [r195_654, r195_656, r195_657, r195_660, r195_662, r195_665, r195_666, r195_667, r195_669, r195_672, r195_673, r195_674, r195_675, r195_677, r195_678, r195_679, r195_682, r195_683, r195_684, Cn_n, Cn_v, Cn_x, dp_0, dp_1, dp_2, dp_3, dp_4, okv_n, okv_i, okv_r, eq_self, true_and, and_true, Option.some.injEq, exists_eq_left', rgT, ixT, ixU, ↓if_pos, ↓if_neg, Int.toNat_natCast, bT0, bT1, a_59, b_59, d_59, tab_len, tab_get, tn0, m_thrown, h768, e59]
    exact hn _ _ _ _ _ _ _ _ _ _ hin hq
  · simp (disch := omega) only [r195_654, r195_656, r195_657, r195_660, r195_662, r195_665, r195_666, r195_667, r195_669, r195_672, r195_673, r195_674, r195_675, r195_677, r195_678, r195_679, r195_682, r195_683, r195_684, Cn_n, Cn_v, Cn_x, dp_0, dp_1, dp_2, dp_3, dp_4, okv_n, okv_i, okv_r, eq_self, true_and, and_true, Option.some.injEq, exists_eq_left', rgT, ixT, ixU, ↓if_pos, ↓if_neg, Int.toNat_natCast, bT0, bT1, a_59, b_59, d_59, tab_len, tab_get, tn0, m_thrown, h768]
    exact hn _ _ _ _ _ _ _ _ _ _ hin hq
theorem lwc_10 (hI : INV A F J M t) (hi0 : 0 ≤ i) (hi3 : i + 3 < q.1.length) (hlen : q.1.length ≤ 2048) (hr : ∀ n, rg (q.1.getD n 0)) (hn : ∀ A1 F1 J1 M1 t1 q1 x5 x6 x7 x8, INV A1 F1 J1 M1 t1 → QFr q q1 → Wp 195 1630 [some vS, some (vR 0), some (vR 48), some (vR 59), some (.inl i), x5, x6, x7, x8] [] (mk A1 F1 q1) Q) : Wp 195 687 [some vS, some (vR 0), some (vR 48), some (vR 59), some (.inl i), x5, x6, x7, x8] [] (mk A F q) Q := by
  obtain ⟨oh, mh, bd⟩ := hI
  simp (disch := omega) only [r195_687, r195_688, Cn_n, Cn_v, Cn_x, dp_0, dp_1, dp_2, dp_3, dp_4, okv_n, okv_i, okv_r, eq_self, true_and, and_true, Option.some.injEq, exists_eq_left', rgT, ixT, ixU, ↓if_pos, ↓if_neg, Int.toNat_natCast, bT0, bT1]
  refine zs_total oh bd (fun A1 F1 v sp oh1 oa of rv => ?_)
  have mh1 := MH_fr mh oa of
  simp (disch := omega) only [r195_691, r195_692, Cn_n, Cn_v, Cn_x, dp_0, dp_1, dp_2, dp_3, dp_4, okv_n, okv_i, okv_r, eq_self, true_and, and_true, Option.some.injEq, exists_eq_left', rgT, ixT, ixU, ↓if_pos, ↓if_neg, Int.toNat_natCast, bT0, bT1]
  refine zm_total mh1 bd sp (fun A2 F2 mh2 ma mg => ?_)
  have hin : INV A2 F2 _ _ _ := ⟨OH_mr oh1 ma mg, mh2, bd⟩
  obtain ⟨z1, z2⟩ := rv
  simp (disch := omega) only [r195_695, r195_698, r195_699, Cn_n, Cn_v, Cn_x, dp_0, dp_1, dp_2, dp_3, dp_4, okv_n, okv_i, okv_r, eq_self, true_and, and_true, Option.some.injEq, exists_eq_left', rgT, ixT, ixU, ↓if_pos, ↓if_neg, Int.toNat_natCast, bT0, bT1]
  exact hn _ _ _ _ _ _ _ _ _ _ hin QFr_r
theorem lwc_11 (hI : INV A F J M t) (hi0 : 0 ≤ i) (hi3 : i + 3 < q.1.length) (hlen : q.1.length ≤ 2048) (hr : ∀ n, rg (q.1.getD n 0)) (hn : ∀ A1 F1 J1 M1 t1 q1 x5 x6 x7 x8, INV A1 F1 J1 M1 t1 → QFr q q1 → Wp 195 1630 [some vS, some (vR 0), some (vR 48), some (vR 59), some (.inl i), x5, x6, x7, x8] [] (mk A1 F1 q1) Q) : Wp 195 700 [some vS, some (vR 0), some (vR 48), some (vR 59), some (.inl i), x5, x6, x7, x8] [] (mk A F q) Q := by
  obtain ⟨oh, mh, bd⟩ := hI
  simp (disch := omega) only [r195_700, r195_701, Cn_n, Cn_v, Cn_x, dp_0, dp_1, dp_2, dp_3, dp_4, okv_n, okv_i, okv_r, eq_self, true_and, and_true, Option.some.injEq, exists_eq_left', rgT, ixT, ixU, ↓if_pos, ↓if_neg, Int.toNat_natCast, bT0, bT1]
  refine zs_bound oh bd (fun A1 F1 v sp oh1 oa of rv => ?_)
  have mh1 := MH_fr mh oa of
  simp (disch := omega) only [r195_704, r195_705, Cn_n, Cn_v, Cn_x, dp_0, dp_1, dp_2, dp_3, dp_4, okv_n, okv_i, okv_r, eq_self, true_and, and_true, Option.some.injEq, exists_eq_left', rgT, ixT, ixU, ↓if_pos, ↓if_neg, Int.toNat_natCast, bT0, bT1]
  refine zm_bound mh1 bd sp (fun A2 F2 mh2 ma mg => ?_)
  have hin : INV A2 F2 _ _ _ := ⟨OH_mr oh1 ma mg, mh2, bd⟩
  obtain ⟨z1, z2⟩ := rv
  simp (disch := omega) only [r195_708, r195_711, r195_712, Cn_n, Cn_v, Cn_x, dp_0, dp_1, dp_2, dp_3, dp_4, okv_n, okv_i, okv_r, eq_self, true_and, and_true, Option.some.injEq, exists_eq_left', rgT, ixT, ixU, ↓if_pos, ↓if_neg, Int.toNat_natCast, bT0, bT1]
  exact hn _ _ _ _ _ _ _ _ _ _ hin QFr_r
theorem lwc_12 (hI : INV A F J M t) (hi0 : 0 ≤ i) (hi3 : i + 3 < q.1.length) (hlen : q.1.length ≤ 2048) (hr : ∀ n, rg (q.1.getD n 0)) (hn : ∀ A1 F1 J1 M1 t1 q1 x5 x6 x7 x8, INV A1 F1 J1 M1 t1 → QFr q q1 → Wp 195 1630 [some vS, some (vR 0), some (vR 48), some (vR 59), some (.inl i), x5, x6, x7, x8] [] (mk A1 F1 q1) Q) : Wp 195 713 [some vS, some (vR 0), some (vR 48), some (vR 59), some (.inl i), x5, x6, x7, x8] [] (mk A F q) Q := by
  obtain ⟨oh, mh, bd⟩ := hI
  simp (disch := omega) only [r195_713, r195_714, Cn_n, Cn_v, Cn_x, dp_0, dp_1, dp_2, dp_3, dp_4, okv_n, okv_i, okv_r, eq_self, true_and, and_true, Option.some.injEq, exists_eq_left', rgT, ixT, ixU, ↓if_pos, ↓if_neg, Int.toNat_natCast, bT0, bT1]
  refine zs_boundByFlow oh bd (fun A1 F1 v sp oh1 oa of rv => ?_)
  have mh1 := MH_fr mh oa of
  simp (disch := omega) only [r195_717, r195_718, Cn_n, Cn_v, Cn_x, dp_0, dp_1, dp_2, dp_3, dp_4, okv_n, okv_i, okv_r, eq_self, true_and, and_true, Option.some.injEq, exists_eq_left', rgT, ixT, ixU, ↓if_pos, ↓if_neg, Int.toNat_natCast, bT0, bT1]
  refine zm_boundByFlow mh1 bd sp (fun A2 F2 mh2 ma mg => ?_)
  have hin : INV A2 F2 _ _ _ := ⟨OH_mr oh1 ma mg, mh2, bd⟩
  obtain ⟨z1, z2⟩ := rv
  simp (disch := omega) only [r195_721, r195_724, r195_725, Cn_n, Cn_v, Cn_x, dp_0, dp_1, dp_2, dp_3, dp_4, okv_n, okv_i, okv_r, eq_self, true_and, and_true, Option.some.injEq, exists_eq_left', rgT, ixT, ixU, ↓if_pos, ↓if_neg, Int.toNat_natCast, bT0, bT1]
  exact hn _ _ _ _ _ _ _ _ _ _ hin QFr_r
theorem lwc_13 (hI : INV A F J M t) (hi0 : 0 ≤ i) (hi3 : i + 3 < q.1.length) (hlen : q.1.length ≤ 2048) (hr : ∀ n, rg (q.1.getD n 0)) (hn : ∀ A1 F1 J1 M1 t1 q1 x5 x6 x7 x8, INV A1 F1 J1 M1 t1 → QFr q q1 → Wp 195 1630 [some vS, some (vR 0), some (vR 48), some (vR 59), some (.inl i), x5, x6, x7, x8] [] (mk A1 F1 q1) Q) : Wp 195 726 [some vS, some (vR 0), some (vR 48), some (vR 59), some (.inl i), x5, x6, x7, x8] [] (mk A F q) Q := by
  obtain ⟨oh, mh, bd⟩ := hI
  obtain ⟨a, ea⟩ : ∃ z, q.1.getD (i + 1).toNat 0 = z := ⟨_, rfl⟩
  have ra : rg a := by rw [← ea]; exact hr _
  obtain ⟨b, eb⟩ : ∃ z, q.1.getD (i + 2).toNat 0 = z := ⟨_, rfl⟩
  have rb : rg b := by rw [← eb]; exact hr _
  simp (disch := omega) only [r195_726, r195_727, r195_728, r195_730, r195_731, r195_732, r195_733, r195_734, r195_736, r195_737, r195_738, r195_739, r195_740, Cn_n, Cn_v, Cn_x, dp_0, dp_1, dp_2, dp_3, dp_4, okv_n, okv_i, okv_r, eq_self, true_and, and_true, Option.some.injEq, exists_eq_left', rgT, ixT, ixU, ↓if_pos, ↓if_neg, Int.toNat_natCast, bT0, bT1, q_1, ea, eb]
  refine zs_filled oh bd ra rb (fun A1 F1 q1 k v sp oh1 oa of hq hv => ?_)
  have mh1 := MH_fr mh oa of
  have hq1 := hq.1
  have hk := kk_SPv sp
  simp (disch := omega) only [r195_743, r195_745, r195_746, r195_747, r195_749, r195_750, r195_751, r195_752, r195_753, r195_755, r195_756, r195_757, r195_758, Cn_n, Cn_v, Cn_x, dp_0, dp_1, dp_2, dp_3, dp_4, okv_n, okv_i, okv_r, eq_self, true_and, and_true, Option.some.injEq, exists_eq_left', rgT, ixT, ixU, ↓if_pos, ↓if_neg, Int.toNat_natCast, bT0, bT1, q_1, hq1, ea, eb]
  refine zm_filled mh1 bd ra rb sp (fun A2 F2 z mh2 ma mg h768 hb rz => ?_)
  have hin : INV A2 F2 J M t := ⟨OH_mr oh1 ma mg, mh2, bd⟩
  obtain ⟨z1, z2⟩ := rz
  by_cases hk0 : k = 0
  · have e59 : A2 59 0 = z := by rw [ma 59 (Or.inr rfl), hb hk0]; exact hv hk0
    simp (disch := omega) only [r195_761, r195_763, r195_764, r195_767, r195_769, r195_772, r195_773, r195_774, r195_776, r195_779, r195_780, r195_781, r195_782, r195_784, r195_785, r195_786, r195_789, r195_790, r195_791, Cn_n, Cn_v, Cn_x, dp_0, dp_1, dp_2, dp_3, dp_4, okv_n, okv_i, okv_r, eq_self, true_and, and_true, Option.some.injEq, exists_eq_left', rgT, ixT, ixU, ↓if_pos, ↓if_neg, Int.toNat_natCast, bT0, bT1, a_59, b_59, d_59, tab_len, tab_get, tn0, m_thrown, h768, e59]
    exact hn _ _ _ _ _ _ _ _ _ _ hin hq
  · simp (disch := omega) only [r195_761, r195_763, r195_764, r195_767, r195_769, r195_772, r195_773, r195_774, r195_776, r195_779, r195_780, r195_781, r195_782, r195_784, r195_785, r195_786, r195_789, r195_790, r195_791, Cn_n, Cn_v, Cn_x, dp_0, dp_1, dp_2, dp_3, dp_4, okv_n, okv_i, okv_r, eq_self, true_and, and_true, Option.some.injEq, exists_eq_left', rgT, ixT, ixU, ↓if_pos, ↓if_neg, Int.toNat_natCast, bT0, bT1, a_59, b_59, d_59, tab_len, tab_get, tn0, m_thrown, h768]
    exact hn _ _ _ _ _ _ _ _ _ _ hin hq
theorem lwc_14 (hI : INV A F J M t) (hi0 : 0 ≤ i) (hi3 : i + 3 < q.1.length) (hlen : q.1.length ≤ 2048) (hr : ∀ n, rg (q.1.getD n 0)) (hn : ∀ A1 F1 J1 M1 t1 q1 x5 x6 x7 x8, INV A1 F1 J1 M1 t1 → QFr q q1 → Wp 195 1630 [some vS, some (vR 0), some (vR 48), some (vR 59), some (.inl i), x5, x6, x7, x8] [] (mk A1 F1 q1) Q) : Wp 195 794 [some vS, some (vR 0), some (vR 48), some (vR 59), some (.inl i), x5, x6, x7, x8] [] (mk A F q) Q := by
  obtain ⟨oh, mh, bd⟩ := hI
  simp (disch := omega) only [r195_794, r195_795, Cn_n, Cn_v, Cn_x, dp_0, dp_1, dp_2, dp_3, dp_4, okv_n, okv_i, okv_r, eq_self, true_and, and_true, Option.some.injEq, exists_eq_left', rgT, ixT, ixU, ↓if_pos, ↓if_neg, Int.toNat_natCast, bT0, bT1]
  refine zs_slices oh bd (fun A1 F1 v sp oh1 oa of rv => ?_)
  have mh1 := MH_fr mh oa of
  simp (disch := omega) only [r195_798, r195_799, Cn_n, Cn_v, Cn_x, dp_0, dp_1, dp_2, dp_3, dp_4, okv_n, okv_i, okv_r, eq_self, true_and, and_true, Option.some.injEq, exists_eq_left', rgT, ixT, ixU, ↓if_pos, ↓if_neg, Int.toNat_natCast, bT0, bT1]
  refine zm_slices mh1 bd sp (fun A2 F2 mh2 ma mg => ?_)
  have hin : INV A2 F2 _ _ _ := ⟨OH_mr oh1 ma mg, mh2, bd⟩
  obtain ⟨z1, z2⟩ := rv
  simp (disch := omega) only [r195_802, r195_805, r195_806, Cn_n, Cn_v, Cn_x, dp_0, dp_1, dp_2, dp_3, dp_4, okv_n, okv_i, okv_r, eq_self, true_and, and_true, Option.some.injEq, exists_eq_left', rgT, ixT, ixU, ↓if_pos, ↓if_neg, Int.toNat_natCast, bT0, bT1]
  exact hn _ _ _ _ _ _ _ _ _ _ hin QFr_r
theorem lwc_15 (hI : INV A F J M t) (hi0 : 0 ≤ i) (hi3 : i + 3 < q.1.length) (hlen : q.1.length ≤ 2048) (hr : ∀ n, rg (q.1.getD n 0)) (hn : ∀ A1 F1 J1 M1 t1 q1 x5 x6 x7 x8, INV A1 F1 J1 M1 t1 → QFr q q1 → Wp 195 1630 [some vS, some (vR 0), some (vR 48), some (vR 59), some (.inl i), x5, x6, x7, x8] [] (mk A1 F1 q1) Q) : Wp 195 807 [some vS, some (vR 0), some (vR 48), some (vR 59), some (.inl i), x5, x6, x7, x8] [] (mk A F q) Q := by
  obtain ⟨oh, mh, bd⟩ := hI
  obtain ⟨a, ea⟩ : ∃ z, q.1.getD (i + 1).toNat 0 = z := ⟨_, rfl⟩
  have ra : rg a := by rw [← ea]; exact hr _
  simp (disch := omega) only [r195_807, r195_808, r195_809, r195_811, r195_812, r195_813, r195_814, r195_815, Cn_n, Cn_v, Cn_x, dp_0, dp_1, dp_2, dp_3, dp_4, okv_n, okv_i, okv_r, eq_self, true_and, and_true, Option.some.injEq, exists_eq_left', rgT, ixT, ixU, ↓if_pos, ↓if_neg, Int.toNat_natCast, bT0, bT1, q_1, ea]
  refine zs_sliceStart oh bd ra (fun A1 F1 q1 k v sp oh1 oa of hq hv => ?_)
  have mh1 := MH_fr mh oa of
  have hq1 := hq.1
  have hk := kk_SPp sp
  simp (disch := omega) only [r195_818, r195_820, r195_821, r195_822, r195_824, r195_825, r195_826, r195_827, Cn_n, Cn_v, Cn_x, dp_0, dp_1, dp_2, dp_3, dp_4, okv_n, okv_i, okv_r, eq_self, true_and, and_true, Option.some.injEq, exists_eq_left', rgT, ixT, ixU, ↓if_pos, ↓if_neg, Int.toNat_natCast, bT0, bT1, q_1, hq1, ea]
  refine zm_sliceStart mh1 bd ra sp (fun A2 F2 z mh2 ma mg h768 hb rz => ?_)
  have hin : INV A2 F2 J M t := ⟨OH_mr oh1 ma mg, mh2, bd⟩
  obtain ⟨z1, z2⟩ := rz
  by_cases hk0 : k = 0
  · have e59 : A2 59 0 = z := by rw [ma 59 (Or.inr rfl), hb hk0]; exact hv hk0
    simp (disch := omega) only [r195_830, r195_832, r195_833, r195_836, r195_838, r195_841, r195_842, r195_843, r195_845, r195_848, r195_849, r195_850, r195_851, r195_853, r195_854, r195_855, r195_858, r195_859, r195_860, Cn_n, Cn_v, Cn_x, dp_0, dp_1, dp_2, dp_3, dp_4, okv_n, okv_i, okv_r, eq_self, true_and, and_true, Option.some.injEq, exists_eq_left', rgT, ixT, ixU, ↓if_pos, ↓if_neg, Int.toNat_natCast, bT0, bT1, a_59, b_59, d_59, tab_len, tab_get, tn0, m_thrown, h768, e59]
    exact hn _ _ _ _ _ _ _ _ _ _ hin hq
  · simp (disch := omega) only [r195_830, r195_832, r195_833, r195_836, r195_838, r195_841, r195_842, r195_843, r195_845, r195_848, r195_849, r195_850, r195_851, r195_853, r195_854, r195_855, r195_858, r195_859, r195_860, Cn_n, Cn_v, Cn_x, dp_0, dp_1, dp_2, dp_3, dp_4, okv_n, okv_i, okv_r, eq_self, true_and, and_true, Option.some.injEq, exists_eq_left', rgT, ixT, ixU, ↓if_pos, ↓if_neg, Int.toNat_natCast, bT0, bT1, a_59, b_59, d_59, tab_len, tab_get, tn0, m_thrown, h768]
    exact hn _ _ _ _ _ _ _ _ _ _ hin hq
theorem lwc_16 (hI : INV A F J M t) (hi0 : 0 ≤ i) (hi3 : i + 3 < q.1.length) (hlen : q.1.length ≤ 2048) (hr : ∀ n, rg (q.1.getD n 0)) (hn : ∀ A1 F1 J1 M1 t1 q1 x5 x6 x7 x8, INV A1 F1 J1 M1 t1 → QFr q q1 → Wp 195 1630 [some vS, some (vR 0), some (vR 48), some (vR 59), some (.inl i), x5, x6, x7, x8] [] (mk A1 F1 q1) Q) : Wp 195 863 [some vS, some (vR 0), some (vR 48), some (vR 59), some (.inl i), x5, x6, x7, x8] [] (mk A F q) Q := by
  obtain ⟨oh, mh, bd⟩ := hI
  obtain ⟨a, ea⟩ : ∃ z, q.1.getD (i + 1).toNat 0 = z := ⟨_, rfl⟩
  have ra : rg a := by rw [← ea]; exact hr _
  simp (disch := omega) only [r195_863, r195_864, r195_865, r195_867, r195_868, r195_869, r195_870, r195_871, Cn_n, Cn_v, Cn_x, dp_0, dp_1, dp_2, dp_3, dp_4, okv_n, okv_i, okv_r, eq_self, true_and, and_true, Option.some.injEq, exists_eq_left', rgT, ixT, ixU, ↓if_pos, ↓if_neg, Int.toNat_natCast, bT0, bT1, q_1, ea]
  refine zs_sliceLength oh bd ra (fun A1 F1 q1 k v sp oh1 oa of hq hv => ?_)
  have mh1 := MH_fr mh oa of
  have hq1 := hq.1
  have hk := kk_SPp sp
  simp (disch := omega) only [r195_874, r195_876, r195_877, r195_878, r195_880, r195_881, r195_882, r195_883, Cn_n, Cn_v, Cn_x, dp_0, dp_1, dp_2, dp_3, dp_4, okv_n, okv_i, okv_r, eq_self, true_and, and_true, Option.some.injEq, exists_eq_left', rgT, ixT, ixU, ↓if_pos, ↓if_neg, Int.toNat_natCast, bT0, bT1, q_1, hq1, ea]
  refine zm_sliceLength mh1 bd ra sp (fun A2 F2 z mh2 ma mg h768 hb rz => ?_)
  have hin : INV A2 F2 J M t := ⟨OH_mr oh1 ma mg, mh2, bd⟩
  obtain ⟨z1, z2⟩ := rz
  by_cases hk0 : k = 0
  · have e59 : A2 59 0 = z := by rw [ma 59 (Or.inr rfl), hb hk0]; exact hv hk0
    simp (disch := omega) only [r195_886, r195_888, r195_889, r195_892, r195_894, r195_897, r195_898, r195_899, r195_901, r195_904, r195_905, r195_906, r195_907, r195_909, r195_910, r195_911, r195_914, r195_915, r195_916, Cn_n, Cn_v, Cn_x, dp_0, dp_1, dp_2, dp_3, dp_4, okv_n, okv_i, okv_r, eq_self, true_and, and_true, Option.some.injEq, exists_eq_left', rgT, ixT, ixU, ↓if_pos, ↓if_neg, Int.toNat_natCast, bT0, bT1, a_59, b_59, d_59, tab_len, tab_get, tn0, m_thrown, h768, e59]
    exact hn _ _ _ _ _ _ _ _ _ _ hin hq
  · simp (disch := omega) only [r195_886, r195_888, r195_889, r195_892, r195_894, r195_897, r195_898, r195_899, r195_901, r195_904, r195_905, r195_906, r195_907, r195_909, r195_910, r195_911, r195_914, r195_915, r195_916, Cn_n, Cn_v, Cn_x, dp_0, dp_1, dp_2, dp_3, dp_4, okv_n, okv_i, okv_r, eq_self, true_and, and_true, Option.some.injEq, exists_eq_left', rgT, ixT, ixU, ↓if_pos, ↓if_neg, Int.toNat_natCast, bT0, bT1, a_59, b_59, d_59, tab_len, tab_get, tn0, m_thrown, h768]
    exact hn _ _ _ _ _ _ _ _ _ _ hin hq
theorem lwc_17 (hI : INV A F J M t) (hi0 : 0 ≤ i) (hi3 : i + 3 < q.1.length) (hlen : q.1.length ≤ 2048) (hr : ∀ n, rg (q.1.getD n 0)) (hn : ∀ A1 F1 J1 M1 t1 q1 x5 x6 x7 x8, INV A1 F1 J1 M1 t1 → QFr q q1 → Wp 195 1630 [some vS, some (vR 0), some (vR 48), some (vR 59), some (.inl i), x5, x6, x7, x8] [] (mk A1 F1 q1) Q) : Wp 195 919 [some vS, some (vR 0), some (vR 48), some (vR 59), some (.inl i), x5, x6, x7, x8] [] (mk A F q) Q := by
  obtain ⟨oh, mh, bd⟩ := hI
  obtain ⟨a, ea⟩ : ∃ z, q.1.getD (i + 1).toNat 0 = z := ⟨_, rfl⟩
  have ra : rg a := by rw [← ea]; exact hr _
  obtain ⟨b, eb⟩ : ∃ z, q.1.getD (i + 2).toNat 0 = z := ⟨_, rfl⟩
  have rb : rg b := by rw [← eb]; exact hr _
  simp (disch := omega) only [r195_919, r195_920, r195_921, r195_923, r195_924, r195_925, r195_926, r195_927, r195_929, r195_930, r195_931, r195_932, r195_933, Cn_n, Cn_v, Cn_x, dp_0, dp_1, dp_2, dp_3, dp_4, okv_n, okv_i, okv_r, eq_self, true_and, and_true, Option.some.injEq, exists_eq_left', rgT, ixT, ixU, ↓if_pos, ↓if_neg, Int.toNat_natCast, bT0, bT1, q_1, ea, eb]
  refine zs_machineIn oh bd ra rb (fun A1 F1 q1 k v sp oh1 oa of hq hv => ?_)
  have mh1 := MH_fr mh oa of
  have hq1 := hq.1
  have hk := kk_SPp sp
  simp (disch := omega) only [r195_936, r195_938, r195_939, r195_940, r195_942, r195_943, r195_944, r195_945, r195_946, r195_948, r195_949, r195_950, r195_951, Cn_n, Cn_v, Cn_x, dp_0, dp_1, dp_2, dp_3, dp_4, okv_n, okv_i, okv_r, eq_self, true_and, and_true, Option.some.injEq, exists_eq_left', rgT, ixT, ixU, ↓if_pos, ↓if_neg, Int.toNat_natCast, bT0, bT1, q_1, hq1, ea, eb]
  refine zm_machineIn mh1 bd ra rb sp (fun A2 F2 z mh2 ma mg h768 hb rz => ?_)
  have hin : INV A2 F2 J M t := ⟨OH_mr oh1 ma mg, mh2, bd⟩
  obtain ⟨z1, z2⟩ := rz
  by_cases hk0 : k = 0
  · have e59 : A2 59 0 = z := by rw [ma 59 (Or.inr rfl), hb hk0]; exact hv hk0
    simp (disch := omega) only [r195_954, r195_956, r195_957, r195_960, r195_962, r195_965, r195_966, r195_967, r195_969, r195_972, r195_973, r195_974, r195_975, r195_977, r195_978, r195_979, r195_982, r195_983, r195_984, Cn_n, Cn_v, Cn_x, dp_0, dp_1, dp_2, dp_3, dp_4, okv_n, okv_i, okv_r, eq_self, true_and, and_true, Option.some.injEq, exists_eq_left', rgT, ixT, ixU, ↓if_pos, ↓if_neg, Int.toNat_natCast, bT0, bT1, a_59, b_59, d_59, tab_len, tab_get, tn0, m_thrown, h768, e59]
    exact hn _ _ _ _ _ _ _ _ _ _ hin hq
  · simp (disch := omega) only [r195_954, r195_956, r195_957, r195_960, r195_962, r195_965, r195_966, r195_967, r195_969, r195_972, r195_973, r195_974, r195_975, r195_977, r195_978, r195_979, r195_982, r195_983, r195_984, Cn_n, Cn_v, Cn_x, dp_0, dp_1, dp_2, dp_3, dp_4, okv_n, okv_i, okv_r, eq_self, true_and, and_true, Option.some.injEq, exists_eq_left', rgT, ixT, ixU, ↓if_pos, ↓if_neg, Int.toNat_natCast, bT0, bT1, a_59, b_59, d_59, tab_len, tab_get, tn0, m_thrown, h768]
    exact hn _ _ _ _ _ _ _ _ _ _ hin hq
theorem lwc_18 (hI : INV A F J M t) (hi0 : 0 ≤ i) (hi3 : i + 3 < q.1.length) (hlen : q.1.length ≤ 2048) (hr : ∀ n, rg (q.1.getD n 0)) (hn : ∀ A1 F1 J1 M1 t1 q1 x5 x6 x7 x8, INV A1 F1 J1 M1 t1 → QFr q q1 → Wp 195 1630 [some vS, some (vR 0), some (vR 48), some (vR 59), some (.inl i), x5, x6, x7, x8] [] (mk A1 F1 q1) Q) : Wp 195 987 [some vS, some (vR 0), some (vR 48), some (vR 59), some (.inl i), x5, x6, x7, x8] [] (mk A F q) Q := by
  obtain ⟨oh, mh, bd⟩ := hI
  obtain ⟨a, ea⟩ : ∃ z, q.1.getD (i + 1).toNat 0 = z := ⟨_, rfl⟩
  have ra : rg a := by rw [← ea]; exact hr _
  obtain ⟨b, eb⟩ : ∃ z, q.1.getD (i + 2).toNat 0 = z := ⟨_, rfl⟩
  have rb : rg b := by rw [← eb]; exact hr _
  simp (disch := omega) only [r195_987, r195_988, r195_989, r195_991, r195_992, r195_993, r195_994, r195_995, r195_997, r195_998, r195_999, r195_1000, r195_1001, Cn_n, Cn_v, Cn_x, dp_0, dp_1, dp_2, dp_3, dp_4, okv_n, okv_i, okv_r, eq_self, true_and, and_true, Option.some.injEq, exists_eq_left', rgT, ixT, ixU, ↓if_pos, ↓if_neg, Int.toNat_natCast, bT0, bT1, q_1, ea, eb]
  refine zs_jobAt oh bd ra rb (fun A1 F1 q1 k v sp oh1 oa of hq hv => ?_)
  have mh1 := MH_fr mh oa of
  have hq1 := hq.1
  have hk := kk_SPo sp
  simp (disch := omega) only [r195_1004, r195_1006, r195_1007, r195_1008, r195_1010, r195_1011, r195_1012, r195_1013, r195_1014, r195_1016, r195_1017, r195_1018, r195_1019, Cn_n, Cn_v, Cn_x, dp_0, dp_1, dp_2, dp_3, dp_4, okv_n, okv_i, okv_r, eq_self, true_and, and_true, Option.some.injEq, exists_eq_left', rgT, ixT, ixU, ↓if_pos, ↓if_neg, Int.toNat_natCast, bT0, bT1, q_1, hq1, ea, eb]
  refine zm_jobAt mh1 bd ra rb sp (fun A2 F2 z mh2 ma mg h768 hb rz => ?_)
  have hin : INV A2 F2 J M t := ⟨OH_mr oh1 ma mg, mh2, bd⟩
  obtain ⟨z1, z2⟩ := rz
  by_cases hk0 : k = 0
  · have e59 : A2 59 0 = z := by rw [ma 59 (Or.inr rfl), hb hk0]; exact hv hk0
    simp (disch := omega) only [r195_1022, r195_1024, r195_1025, r195_1028, r195_1030, r195_1033, r195_1034, r195_1035, r195_1037, r195_1040, r195_1041, r195_1042, r195_1043, r195_1045, r195_1046, r195_1047, r195_1050, r195_1051, r195_1052, Cn_n, Cn_v, Cn_x, dp_0, dp_1, dp_2, dp_3, dp_4, okv_n, okv_i, okv_r, eq_self, true_and, and_true, Option.some.injEq, exists_eq_left', rgT, ixT, ixU, ↓if_pos, ↓if_neg, Int.toNat_natCast, bT0, bT1, a_59, b_59, d_59, tab_len, tab_get, tn0, m_thrown, h768, e59]
    exact hn _ _ _ _ _ _ _ _ _ _ hin hq
  · simp (disch := omega) only [r195_1022, r195_1024, r195_1025, r195_1028, r195_1030, r195_1033, r195_1034, r195_1035, r195_1037, r195_1040, r195_1041, r195_1042, r195_1043, r195_1045, r195_1046, r195_1047, r195_1050, r195_1051, r195_1052, Cn_n, Cn_v, Cn_x, dp_0, dp_1, dp_2, dp_3, dp_4, okv_n, okv_i, okv_r, eq_self, true_and, and_true, Option.some.injEq, exists_eq_left', rgT, ixT, ixU, ↓if_pos, ↓if_neg, Int.toNat_natCast, bT0, bT1, a_59, b_59, d_59, tab_len, tab_get, tn0, m_thrown, h768]
    exact hn _ _ _ _ _ _ _ _ _ _ hin hq
theorem lwc_19 (hI : INV A F J M t) (hi0 : 0 ≤ i) (hi3 : i + 3 < q.1.length) (hlen : q.1.length ≤ 2048) (hr : ∀ n, rg (q.1.getD n 0)) (hn : ∀ A1 F1 J1 M1 t1 q1 x5 x6 x7 x8, INV A1 F1 J1 M1 t1 → QFr q q1 → Wp 195 1630 [some vS, some (vR 0), some (vR 48), some (vR 59), some (.inl i), x5, x6, x7, x8] [] (mk A1 F1 q1) Q) : Wp 195 1055 [some vS, some (vR 0), some (vR 48), some (vR 59), some (.inl i), x5, x6, x7, x8] [] (mk A F q) Q := by
  obtain ⟨oh, mh, bd⟩ := hI
  obtain ⟨a, ea⟩ : ∃ z, q.1.getD (i + 1).toNat 0 = z := ⟨_, rfl⟩
  have ra : rg a := by rw [← ea]; exact hr _
  obtain ⟨b, eb⟩ : ∃ z, q.1.getD (i + 2).toNat 0 = z := ⟨_, rfl⟩
  have rb : rg b := by rw [← eb]; exact hr _
  obtain ⟨c, ec⟩ : ∃ z, q.1.getD (i + 3).toNat 0 = z := ⟨_, rfl⟩
  have rc : rg c := by rw [← ec]; exact hr _
  simp (disch := omega) only [r195_1055, r195_1056, r195_1057, r195_1059, r195_1060, r195_1061, r195_1062, r195_1063, r195_1065, r195_1066, r195_1067, r195_1068, r195_1069, r195_1071, r195_1072, r195_1073, r195_1074, r195_1075, Cn_n, Cn_v, Cn_x, dp_0, dp_1, dp_2, dp_3, dp_4, okv_n, okv_i, okv_r, eq_self, true_and, and_true, Option.some.injEq, exists_eq_left', rgT, ixT, ixU, ↓if_pos, ↓if_neg, Int.toNat_natCast, bT0, bT1, q_1, ea, eb, ec]
  refine zs_done oh bd ra rb rc (fun A1 F1 q1 k v sp oh1 oa of hq hv => ?_)
  have mh1 := MH_fr mh oa of
  have hq1 := hq.1
  have hk := kk_SPo sp
  simp (disch := omega) only [r195_1078, r195_1080, r195_1081, r195_1082, r195_1084, r195_1085, r195_1086, r195_1087, r195_1088, r195_1090, r195_1091, r195_1092, r195_1093, r195_1094, r195_1096, r195_1097, r195_1098, r195_1099, Cn_n, Cn_v, Cn_x, dp_0, dp_1, dp_2, dp_3, dp_4, okv_n, okv_i, okv_r, eq_self, true_and, and_true, Option.some.injEq, exists_eq_left', rgT, ixT, ixU, ↓if_pos, ↓if_neg, Int.toNat_natCast, bT0, bT1, q_1, hq1, ea, eb, ec]
  refine zm_done mh1 bd ra rb rc sp (fun A2 F2 z mh2 ma mg h768 hb rz => ?_)
  have hin : INV A2 F2 J M t := ⟨OH_mr oh1 ma mg, mh2, bd⟩
  obtain ⟨z1, z2⟩ := rz
  by_cases hk0 : k = 0
  · have e59 : A2 59 0 = z := by rw [ma 59 (Or.inr rfl), hb hk0]; exact hv hk0
    simp (disch := omega) only [r195_1102, r195_1104, r195_1105, r195_1108, r195_1110, r195_1113, r195_1114, r195_1115, r195_1117, r195_1120, r195_1121, r195_1122, r195_1123, r195_1125, r195_1126, r195_1127, r195_1130, r195_1131, r195_1132, Cn_n, Cn_v, Cn_x, dp_0, dp_1, dp_2, dp_3, dp_4, okv_n, okv_i, okv_r, eq_self, true_and, and_true, Option.some.injEq, exists_eq_left', rgT, ixT, ixU, ↓if_pos, ↓if_neg, Int.toNat_natCast, bT0, bT1, a_59, b_59, d_59, tab_len, tab_get, tn0, m_thrown, h768, e59]
    exact hn _ _ _ _ _ _ _ _ _ _ hin hq
  · simp (disch := omega) only [r195_1102, r195_1104, r195_1105, r195_1108, r195_1110, r195_1113, r195_1114, r195_1115, r195_1117, r195_1120, r195_1121, r195_1122, r195_1123, r195_1125, r195_1126, r195_1127, r195_1130, r195_1131, r195_1132, Cn_n, Cn_v, Cn_x, dp_0, dp_1, dp_2, dp_3, dp_4, okv_n, okv_i, okv_r, eq_self, true_and, and_true, Option.some.injEq, exists_eq_left', rgT, ixT, ixU, ↓if_pos, ↓if_neg, Int.toNat_natCast, bT0, bT1, a_59, b_59, d_59, tab_len, tab_get, tn0, m_thrown, h768]
    exact hn _ _ _ _ _ _ _ _ _ _ hin hq
theorem lwc_20 (hI : INV A F J M t) (hi0 : 0 ≤ i) (hi3 : i + 3 < q.1.length) (hlen : q.1.length ≤ 2048) (hr : ∀ n, rg (q.1.getD n 0)) (hn : ∀ A1 F1 J1 M1 t1 q1 x5 x6 x7 x8, INV A1 F1 J1 M1 t1 → QFr q q1 → Wp 195 1630 [some vS, some (vR 0), some (vR 48), some (vR 59), some (.inl i), x5, x6, x7, x8] [] (mk A1 F1 q1) Q) : Wp 195 1135 [some vS, some (vR 0), some (vR 48), some (vR 59), some (.inl i), x5, x6, x7, x8] [] (mk A F q) Q := by
  obtain ⟨oh, mh, bd⟩ := hI
  obtain ⟨a, ea⟩ : ∃ z, q.1.getD (i + 1).toNat 0 = z := ⟨_, rfl⟩
  have ra : rg a := by rw [← ea]; exact hr _
  simp (disch := omega) only [r195_1135, r195_1136, r195_1137, r195_1139, r195_1140, r195_1141, r195_1142, r195_1143, Cn_n, Cn_v, Cn_x, dp_0, dp_1, dp_2, dp_3, dp_4, okv_n, okv_i, okv_r, eq_self, true_and, and_true, Option.some.injEq, exists_eq_left', rgT, ixT, ixU, ↓if_pos, ↓if_neg, Int.toNat_natCast, bT0, bT1, q_1, ea]
  refine zs_finishOf oh bd ra (fun A1 F1 q1 k v sp oh1 oa of hq hv => ?_)
  have mh1 := MH_fr mh oa of
  have hq1 := hq.1
  have hk := kk_SPo sp
  simp (disch := omega) only [r195_1146, r195_1148, r195_1149, r195_1150, r195_1152, r195_1153, r195_1154, r195_1155, Cn_n, Cn_v, Cn_x, dp_0, dp_1, dp_2, dp_3, dp_4, okv_n, okv_i, okv_r, eq_self, true_and, and_true, Option.some.injEq, exists_eq_left', rgT, ixT, ixU, ↓if_pos, ↓if_neg, Int.toNat_natCast, bT0, bT1, q_1, hq1, ea]
  refine zm_finishOf mh1 bd ra sp (fun A2 F2 z mh2 ma mg h768 hb rz => ?_)
  have hin : INV A2 F2 J M t := ⟨OH_mr oh1 ma mg, mh2, bd⟩
  obtain ⟨z1, z2⟩ := rz
  by_cases hk0 : k = 0
  · have e59 : A2 59 0 = z := by rw [ma 59 (Or.inr rfl), hb hk0]; exact hv hk0
    simp (disch := omega) only [r195_1158, r195_1160, r195_1161, r195_1164, r195_1166, r195_1169, r195_1170, r195_1171, r195_1173, r195_1176, r195_1177, r195_1178, r195_1179, r195_1181, r195_1182, r195_1183, r195_1186, r195_1187, r195_1188, Cn_n, Cn_v, Cn_x, dp_0, dp_1, dp_2, dp_3, dp_4, okv_n, okv_i, okv_r, eq_self, true_and, and_true, Option.some.injEq, exists_eq_left', rgT, ixT, ixU, ↓if_pos, ↓if_neg, Int.toNat_natCast, bT0, bT1, a_59, b_59, d_59, tab_len, tab_get, tn0, m_thrown, h768, e59]
    exact hn _ _ _ _ _ _ _ _ _ _ hin hq
  · simp (disch := omega) only [r195_1158, r195_1160, r195_1161, r195_1164, r195_1166, r195_1169, r195_1170, r195_1171, r195_1173, r195_1176, r195_1177, r195_1178, r195_1179, r195_1181, r195_1182, r195_1183, r195_1186, r195_1187, r195_1188, Cn_n, Cn_v, Cn_x, dp_0, dp_1, dp_2, dp_3, dp_4, okv_n, okv_i, okv_r, eq_self, true_and, and_true, Option.some.injEq, exists_eq_left', rgT, ixT, ixU, ↓if_pos, ↓if_neg, Int.toNat_natCast, bT0, bT1, a_59, b_59, d_59, tab_len, tab_get, tn0, m_thrown, h768]
    exact hn _ _ _ _ _ _ _ _ _ _ hin hq
theorem lwc_21 (hI : INV A F J M t) (hi0 : 0 ≤ i) (hi3 : i + 3 < q.1.length) (hlen : q.1.length ≤ 2048) (hr : ∀ n, rg (q.1.getD n 0)) (hn : ∀ A1 F1 J1 M1 t1 q1 x5 x6 x7 x8, INV A1 F1 J1 M1 t1 → QFr q q1 → Wp 195 1630 [some vS, some (vR 0), some (vR 48), some (vR 59), some (.inl i), x5, x6, x7, x8] [] (mk A1 F1 q1) Q) : Wp 195 1191 [some vS, some (vR 0), some (vR 48), some (vR 59), some (.inl i), x5, x6, x7, x8] [] (mk A F q) Q := by
  obtain ⟨oh, mh, bd⟩ := hI
  simp (disch := omega) only [r195_1191, r195_1192, Cn_n, Cn_v, Cn_x, dp_0, dp_1, dp_2, dp_3, dp_4, okv_n, okv_i, okv_r, eq_self, true_and, and_true, Option.some.injEq, exists_eq_left', rgT, ixT, ixU, ↓if_pos, ↓if_neg, Int.toNat_natCast, bT0, bT1]
  refine zs_interruptions oh bd (fun A1 F1 v sp oh1 oa of rv => ?_)
  have mh1 := MH_fr mh oa of
  simp (disch := omega) only [r195_1195, r195_1196, Cn_n, Cn_v, Cn_x, dp_0, dp_1, dp_2, dp_3, dp_4, okv_n, okv_i, okv_r, eq_self, true_and, and_true, Option.some.injEq, exists_eq_left', rgT, ixT, ixU, ↓if_pos, ↓if_neg, Int.toNat_natCast, bT0, bT1]
  refine zm_interruptions mh1 bd sp (fun A2 F2 mh2 ma mg => ?_)
  have hin : INV A2 F2 _ _ _ := ⟨OH_mr oh1 ma mg, mh2, bd⟩
  obtain ⟨z1, z2⟩ := rv
  simp (disch := omega) only [r195_1199, r195_1202, r195_1203, Cn_n, Cn_v, Cn_x, dp_0, dp_1, dp_2, dp_3, dp_4, okv_n, okv_i, okv_r, eq_self, true_and, and_true, Option.some.injEq, exists_eq_left', rgT, ixT, ixU, ↓if_pos, ↓if_neg, Int.toNat_natCast, bT0, bT1]
  exact hn _ _ _ _ _ _ _ _ _ _ hin QFr_r
theorem lwc_22 (hI : INV A F J M t) (hi0 : 0 ≤ i) (hi3 : i + 3 < q.1.length) (hlen : q.1.length ≤ 2048) (hr : ∀ n, rg (q.1.getD n 0)) (hn : ∀ A1 F1 J1 M1 t1 q1 x5 x6 x7 x8, INV A1 F1 J1 M1 t1 → QFr q q1 → Wp 195 1630 [some vS, some (vR 0), some (vR 48), some (vR 59), some (.inl i), x5, x6, x7, x8] [] (mk A1 F1 q1) Q) : Wp 195 1204 [some vS, some (vR 0), some (vR 48), some (vR 59), some (.inl i), x5, x6, x7, x8] [] (mk A F q) Q := by
  obtain ⟨oh, mh, bd⟩ := hI
  simp (disch := omega) only [r195_1204, r195_1205, Cn_n, Cn_v, Cn_x, dp_0, dp_1, dp_2, dp_3, dp_4, okv_n, okv_i, okv_r, eq_self, true_and, and_true, Option.some.injEq, exists_eq_left', rgT, ixT, ixU, ↓if_pos, ↓if_neg, Int.toNat_natCast, bT0, bT1]
  refine zs_denseLength oh bd (fun A1 F1 v sp oh1 oa of rv => ?_)
  have mh1 := MH_fr mh oa of
  simp (disch := omega) only [r195_1208, r195_1209, Cn_n, Cn_v, Cn_x, dp_0, dp_1, dp_2, dp_3, dp_4, okv_n, okv_i, okv_r, eq_self, true_and, and_true, Option.some.injEq, exists_eq_left', rgT, ixT, ixU, ↓if_pos, ↓if_neg, Int.toNat_natCast, bT0, bT1]
  refine zm_denseLength mh1 bd sp (fun A2 F2 mh2 ma mg => ?_)
  have hin : INV A2 F2 _ _ _ := ⟨OH_mr oh1 ma mg, mh2, bd⟩
  obtain ⟨z1, z2⟩ := rv
  simp (disch := omega) only [r195_1212, r195_1215, r195_1216, Cn_n, Cn_v, Cn_x, dp_0, dp_1, dp_2, dp_3, dp_4, okv_n, okv_i, okv_r, eq_self, true_and, and_true, Option.some.injEq, exists_eq_left', rgT, ixT, ixU, ↓if_pos, ↓if_neg, Int.toNat_natCast, bT0, bT1]
  exact hn _ _ _ _ _ _ _ _ _ _ hin QFr_r
theorem lwc_23 (hI : INV A F J M t) (hi0 : 0 ≤ i) (hi3 : i + 3 < q.1.length) (hlen : q.1.length ≤ 2048) (hr : ∀ n, rg (q.1.getD n 0)) (hn : ∀ A1 F1 J1 M1 t1 q1 x5 x6 x7 x8, INV A1 F1 J1 M1 t1 → QFr q q1 → Wp 195 1630 [some vS, some (vR 0), some (vR 48), some (vR 59), some (.inl i), x5, x6, x7, x8] [] (mk A1 F1 q1) Q) : Wp 195 1217 [some vS, some (vR 0), some (vR 48), some (vR 59), some (.inl i), x5, x6, x7, x8] [] (mk A F q) Q := by
  obtain ⟨oh, mh, bd⟩ := hI
  obtain ⟨a, ea⟩ : ∃ z, q.1.getD (i + 1).toNat 0 = z := ⟨_, rfl⟩
  have ra : rg a := by rw [← ea]; exact hr _
  obtain ⟨b, eb⟩ : ∃ z, q.1.getD (i + 2).toNat 0 = z := ⟨_, rfl⟩
  have rb : rg b := by rw [← eb]; exact hr _
  simp (disch := omega) only [r195_1217, r195_1218, r195_1219, r195_1221, r195_1222, r195_1223, r195_1224, r195_1225, r195_1227, r195_1228, r195_1229, r195_1230, r195_1231, Cn_n, Cn_v, Cn_x, dp_0, dp_1, dp_2, dp_3, dp_4, okv_n, okv_i, okv_r, eq_self, true_and, and_true, Option.some.injEq, exists_eq_left', rgT, ixT, ixU, ↓if_pos, ↓if_neg, Int.toNat_natCast, bT0, bT1, q_1, ea, eb]
  refine zs_denseStart oh bd ra rb (fun A1 F1 q1 k v sp oh1 oa of hq hv => ?_)
  have mh1 := MH_fr mh oa of
  have hq1 := hq.1
  have hk := kk_SPv sp
  simp (disch := omega) only [r195_1234, r195_1236, r195_1237, r195_1238, r195_1240, r195_1241, r195_1242, r195_1243, r195_1244, r195_1246, r195_1247, r195_1248, r195_1249, Cn_n, Cn_v, Cn_x, dp_0, dp_1, dp_2, dp_3, dp_4, okv_n, okv_i, okv_r, eq_self, true_and, and_true, Option.some.injEq, exists_eq_left', rgT, ixT, ixU, ↓if_pos, ↓if_neg, Int.toNat_natCast, bT0, bT1, q_1, hq1, ea, eb]
  refine zm_denseStart mh1 bd ra rb sp (fun A2 F2 z mh2 ma mg h768 hb rz => ?_)
  have hin : INV A2 F2 J M t := ⟨OH_mr oh1 ma mg, mh2, bd⟩
  obtain ⟨z1, z2⟩ := rz
  by_cases hk0 : k = 0
  · have e59 : A2 59 0 = z := by rw [ma 59 (Or.inr rfl), hb hk0]; exact hv hk0
    simp (disch := omega) only [r195_1252, r195_1254, r195_1255, r195_1258, r195_1260, r195_1263, r195_1264, r195_1265, r195_1267, r195_1270, r195_1271, r195_1272, r195_1273, r195_1275, r195_1276, r195_1277, r195_1280, r195_1281, r195_1282, Cn_n, Cn_v, Cn_x, dp_0, dp_1, dp_2, dp_3, dp_4, okv_n, okv_i, okv_r, eq_self, true_and, and_true, Option.some.injEq, exists_eq_left', rgT, ixT, ixU, ↓if_pos, ↓if_neg, Int.toNat_natCast, bT0, bT1, a_59, b_59, d_59, tab_len, tab_get, tn0, m_thrown, h768, e59]
    exact hn _ _ _ _ _ _ _ _ _ _ hin hq
  · simp (disch := omega) only [r195_1252, r195_1254, r195_1255, r195_1258, r195_1260, r195_1263, r195_1264, r195_1265, r195_1267, r195_1270, r195_1271, r195_1272, r195_1273, r195_1275, r195_1276, r195_1277, r195_1280, r195_1281, r195_1282, Cn_n, Cn_v, Cn_x, dp_0, dp_1, dp_2, dp_3, dp_4, okv_n, okv_i, okv_r, eq_self, true_and, and_true, Option.some.injEq, exists_eq_left', rgT, ixT, ixU, ↓if_pos, ↓if_neg, Int.toNat_natCast, bT0, bT1, a_59, b_59, d_59, tab_len, tab_get, tn0, m_thrown, h768]
    exact hn _ _ _ _ _ _ _ _ _ _ hin hq
theorem lwc_24 (hI : INV A F J M t) (hi0 : 0 ≤ i) (hi3 : i + 3 < q.1.length) (hlen : q.1.length ≤ 2048) (hr : ∀ n, rg (q.1.getD n 0)) (hn : ∀ A1 F1 J1 M1 t1 q1 x5 x6 x7 x8, INV A1 F1 J1 M1 t1 → QFr q q1 → Wp 195 1630 [some vS, some (vR 0), some (vR 48), some (vR 59), some (.inl i), x5, x6, x7, x8] [] (mk A1 F1 q1) Q) : Wp 195 1285 [some vS, some (vR 0), some (vR 48), some (vR 59), some (.inl i), x5, x6, x7, x8] [] (mk A F q) Q := by
  obtain ⟨oh, mh, bd⟩ := hI
  simp (disch := omega) only [r195_1285, r195_1286, r195_1287, Cn_n, Cn_v, Cn_x, dp_0, dp_1, dp_2, dp_3, dp_4, okv_n, okv_i, okv_r, eq_self, true_and, and_true, Option.some.injEq, exists_eq_left', rgT, ixT, ixU, ↓if_pos, ↓if_neg, Int.toNat_natCast, bT0, bT1, q_1]
  refine zs_alterLength oh bd (fun A1 F1 q1 k v sp oh1 oa of hq hv => ?_)
  have mh1 := MH_fr mh oa of
  have hq1 := hq.1
  have hk := kk_SPv sp
  simp (disch := omega) only [r195_1290, r195_1292, r195_1293, Cn_n, Cn_v, Cn_x, dp_0, dp_1, dp_2, dp_3, dp_4, okv_n, okv_i, okv_r, eq_self, true_and, and_true, Option.some.injEq, exists_eq_left', rgT, ixT, ixU, ↓if_pos, ↓if_neg, Int.toNat_natCast, bT0, bT1, q_1, hq1]
  refine zm_alterLength mh1 bd sp (fun A2 F2 z mh2 ma mg h768 hb rz => ?_)
  have hin : INV A2 F2 J M t := ⟨OH_mr oh1 ma mg, mh2, bd⟩
  obtain ⟨z1, z2⟩ := rz
  by_cases hk0 : k = 0
  · have e59 : A2 59 0 = z := by rw [ma 59 (Or.inr rfl), hb hk0]; exact hv hk0
    simp (disch := omega) only [r195_1296, r195_1298, r195_1299, r195_1302, r195_1304, r195_1307, r195_1308, r195_1309, r195_1311, r195_1314, r195_1315, r195_1316, r195_1317, r195_1319, r195_1320, r195_1321, r195_1324, r195_1325, r195_1326, Cn_n, Cn_v, Cn_x, dp_0, dp_1, dp_2, dp_3, dp_4, okv_n, okv_i, okv_r, eq_self, true_and, and_true, Option.some.injEq, exists_eq_left', rgT, ixT, ixU, ↓if_pos, ↓if_neg, Int.toNat_natCast, bT0, bT1, a_59, b_59, d_59, tab_len, tab_get, tn0, m_thrown, h768, e59]
    exact hn _ _ _ _ _ _ _ _ _ _ hin hq
  · simp (disch := omega) only [r195_1296, r195_1298, r195_1299, r195_1302, r195_1304, r195_1307, r195_1308, r195_1309, r195_1311, r195_1314, r195_1315, r195_1316, r195_1317, r195_1319, r195_1320, r195_1321, r195_1324, r195_1325, r195_1326, Cn_n, Cn_v, Cn_x, dp_0, dp_1, dp_2, dp_3, dp_4, okv_n, okv_i, okv_r, eq_self, true_and, and_true, Option.some.injEq, exists_eq_left', rgT, ixT, ixU, ↓if_pos, ↓if_neg, Int.toNat_natCast, bT0, bT1, a_59, b_59, d_59, tab_len, tab_get, tn0, m_thrown, h768]
    exact hn _ _ _ _ _ _ _ _ _ _ hin hq
theorem lwc_25 (hI : INV A F J M t) (hi0 : 0 ≤ i) (hi3 : i + 3 < q.1.length) (hlen : q.1.length ≤ 2048) (hr : ∀ n, rg (q.1.getD n 0)) (hn : ∀ A1 F1 J1 M1 t1 q1 x5 x6 x7 x8, INV A1 F1 J1 M1 t1 → QFr q q1 → Wp 195 1630 [some vS, some (vR 0), some (vR 48), some (vR 59), some (.inl i), x5, x6, x7, x8] [] (mk A1 F1 q1) Q) : Wp 195 1329 [some vS, some (vR 0), some (vR 48), some (vR 59), some (.inl i), x5, x6, x7, x8] [] (mk A F q) Q := by
  obtain ⟨oh, mh, bd⟩ := hI
  obtain ⟨a, ea⟩ : ∃ z, q.1.getD (i + 1).toNat 0 = z := ⟨_, rfl⟩
  have ra : rg a := by rw [← ea]; exact hr _
  obtain ⟨b, eb⟩ : ∃ z, q.1.getD (i + 2).toNat 0 = z := ⟨_, rfl⟩
  have rb : rg b := by rw [← eb]; exact hr _
  simp (disch := omega) only [r195_1329, r195_1330, r195_1331, r195_1333, r195_1334, r195_1335, r195_1336, r195_1337, r195_1339, r195_1340, r195_1341, r195_1342, r195_1343, Cn_n, Cn_v, Cn_x, dp_0, dp_1, dp_2, dp_3, dp_4, okv_n, okv_i, okv_r, eq_self, true_and, and_true, Option.some.injEq, exists_eq_left', rgT, ixT, ixU, ↓if_pos, ↓if_neg, Int.toNat_natCast, bT0, bT1, q_1, ea, eb]
  refine zs_alterStart oh bd ra rb (fun A1 F1 q1 k v sp oh1 oa of hq hv => ?_)
  have mh1 := MH_fr mh oa of
  have hq1 := hq.1
  have hk := kk_SP3 sp
  simp (disch := omega) only [r195_1346, r195_1348, r195_1349, r195_1350, r195_1352, r195_1353, r195_1354, r195_1355, r195_1356, r195_1358, r195_1359, r195_1360, r195_1361, Cn_n, Cn_v, Cn_x, dp_0, dp_1, dp_2, dp_3, dp_4, okv_n, okv_i, okv_r, eq_self, true_and, and_true, Option.some.injEq, exists_eq_left', rgT, ixT, ixU, ↓if_pos, ↓if_neg, Int.toNat_natCast, bT0, bT1, q_1, hq1, ea, eb]
  refine zm_alterStart mh1 bd ra rb sp (fun A2 F2 z mh2 ma mg h768 hb rz => ?_)
  have hin : INV A2 F2 J M t := ⟨OH_mr oh1 ma mg, mh2, bd⟩
  obtain ⟨z1, z2⟩ := rz
  by_cases hk0 : k = 0
  · have e59 : A2 59 0 = z := by rw [ma 59 (Or.inr rfl), hb hk0]; exact hv hk0
    simp (disch := omega) only [r195_1364, r195_1366, r195_1367, r195_1370, r195_1372, r195_1375, r195_1376, r195_1377, r195_1379, r195_1382, r195_1383, r195_1384, r195_1385, r195_1387, r195_1388, r195_1389, r195_1392, r195_1393, r195_1394, Cn_n, Cn_v, Cn_x, dp_0, dp_1, dp_2, dp_3, dp_4, okv_n, okv_i, okv_r, eq_self, true_and, and_true, Option.some.injEq, exists_eq_left', rgT, ixT, ixU, ↓if_pos, ↓if_neg, Int.toNat_natCast, bT0, bT1, a_59, b_59, d_59, tab_len, tab_get, tn0, m_thrown, h768, e59]
    exact hn _ _ _ _ _ _ _ _ _ _ hin hq
  · simp (disch := omega) only [r195_1364, r195_1366, r195_1367, r195_1370, r195_1372, r195_1375, r195_1376, r195_1377, r195_1379, r195_1382, r195_1383, r195_1384, r195_1385, r195_1387, r195_1388, r195_1389, r195_1392, r195_1393, r195_1394, Cn_n, Cn_v, Cn_x, dp_0, dp_1, dp_2, dp_3, dp_4, okv_n, okv_i, okv_r, eq_self, true_and, and_true, Option.some.injEq, exists_eq_left', rgT, ixT, ixU, ↓if_pos, ↓if_neg, Int.toNat_natCast, bT0, bT1, a_59, b_59, d_59, tab_len, tab_get, tn0, m_thrown, h768]
    exact hn _ _ _ _ _ _ _ _ _ _ hin hq
theorem lwc_26 (hI : INV A F J M t) (hi0 : 0 ≤ i) (hi3 : i + 3 < q.1.length) (hlen : q.1.length ≤ 2048) (hr : ∀ n, rg (q.1.getD n 0)) (hn : ∀ A1 F1 J1 M1 t1 q1 x5 x6 x7 x8, INV A1 F1 J1 M1 t1 → QFr q q1 → Wp 195 1630 [some vS, some (vR 0), some (vR 48), some (vR 59), some (.inl i), x5, x6, x7, x8] [] (mk A1 F1 q1) Q) : Wp 195 1397 [some vS, some (vR 0), some (vR 48), some (vR 59), some (.inl i), x5, x6, x7, x8] [] (mk A F q) Q := by
  obtain ⟨oh, mh, bd⟩ := hI
  obtain ⟨a, ea⟩ : ∃ z, q.1.getD (i + 1).toNat 0 = z := ⟨_, rfl⟩
  have ra : rg a := by rw [← ea]; exact hr _
  obtain ⟨b, eb⟩ : ∃ z, q.1.getD (i + 2).toNat 0 = z := ⟨_, rfl⟩
  have rb : rg b := by rw [← eb]; exact hr _
  obtain ⟨c, ec⟩ : ∃ z, q.1.getD (i + 3).toNat 0 = z := ⟨_, rfl⟩
  have rc : rg c := by rw [← ec]; exact hr _
  simp (disch := omega) only [r195_1397, r195_1398, r195_1399, r195_1401, r195_1402, r195_1403, r195_1404, r195_1405, r195_1407, r195_1408, r195_1409, r195_1410, r195_1411, r195_1413, r195_1414, r195_1415, r195_1416, r195_1417, Cn_n, Cn_v, Cn_x, dp_0, dp_1, dp_2, dp_3, dp_4, okv_n, okv_i, okv_r, eq_self, true_and, and_true, Option.some.injEq, exists_eq_left', rgT, ixT, ixU, ↓if_pos, ↓if_neg, Int.toNat_natCast, bT0, bT1, q_1, ea, eb, ec]
  refine zs_rounded oh bd ra rb rc (fun A1 F1 q1 k v sp oh1 oa of hq hv => ?_)
  have mh1 := MH_fr mh oa of
  have hq1 := hq.1
  have hk := kk_SPr sp
  simp (disch := omega) only [r195_1420, r195_1422, r195_1423, r195_1424, r195_1426, r195_1427, r195_1428, r195_1429, r195_1430, r195_1432, r195_1433, r195_1434, r195_1435, r195_1436, r195_1438, r195_1439, r195_1440, r195_1441, Cn_n, Cn_v, Cn_x, dp_0, dp_1, dp_2, dp_3, dp_4, okv_n, okv_i, okv_r, eq_self, true_and, and_true, Option.some.injEq, exists_eq_left', rgT, ixT, ixU, ↓if_pos, ↓if_neg, Int.toNat_natCast, bT0, bT1, q_1, hq1, ea, eb, ec]
  refine zm_rounded mh1 bd ra rb rc sp (fun A2 F2 z mh2 ma mg h768 hb rz => ?_)
  have hin : INV A2 F2 J M t := ⟨OH_mr oh1 ma mg, mh2, bd⟩
  obtain ⟨z1, z2⟩ := rz
  by_cases hk0 : k = 0
  · have e59 : A2 59 0 = z := by rw [ma 59 (Or.inr rfl), hb hk0]; exact hv hk0
    simp (disch := omega) only [r195_1444, r195_1446, r195_1447, r195_1450, r195_1452, r195_1455, r195_1456, r195_1457, r195_1459, r195_1462, r195_1463, r195_1464, r195_1465, r195_1467, r195_1468, r195_1469, r195_1472, r195_1473, r195_1474, Cn_n, Cn_v, Cn_x, dp_0, dp_1, dp_2, dp_3, dp_4, okv_n, okv_i, okv_r, eq_self, true_and, and_true, Option.some.injEq, exists_eq_left', rgT, ixT, ixU, ↓if_pos, ↓if_neg, Int.toNat_natCast, bT0, bT1, a_59, b_59, d_59, tab_len, tab_get, tn0, m_thrown, h768, e59]
    exact hn _ _ _ _ _ _ _ _ _ _ hin hq
  · simp (disch := omega) only [r195_1444, r195_1446, r195_1447, r195_1450, r195_1452, r195_1455, r195_1456, r195_1457, r195_1459, r195_1462, r195_1463, r195_1464, r195_1465, r195_1467, r195_1468, r195_1469, r195_1472, r195_1473, r195_1474, Cn_n, Cn_v, Cn_x, dp_0, dp_1, dp_2, dp_3, dp_4, okv_n, okv_i, okv_r, eq_self, true_and, and_true, Option.some.injEq, exists_eq_left', rgT, ixT, ixU, ↓if_pos, ↓if_neg, Int.toNat_natCast, bT0, bT1, a_59, b_59, d_59, tab_len, tab_get, tn0, m_thrown, h768]
    exact hn _ _ _ _ _ _ _ _ _ _ hin hq
theorem lwc_27 (hI : INV A F J M t) (hi0 : 0 ≤ i) (hi3 : i + 3 < q.1.length) (hlen : q.1.length ≤ 2048) (hr : ∀ n, rg (q.1.getD n 0)) (hn : ∀ A1 F1 J1 M1 t1 q1 x5 x6 x7 x8, INV A1 F1 J1 M1 t1 → QFr q q1 → Wp 195 1630 [some vS, some (vR 0), some (vR 48), some (vR 59), some (.inl i), x5, x6, x7, x8] [] (mk A1 F1 q1) Q) : Wp 195 1477 [some vS, some (vR 0), some (vR 48), some (vR 59), some (.inl i), x5, x6, x7, x8] [] (mk A F q) Q := by
  obtain ⟨oh, mh, bd⟩ := hI
  obtain ⟨a, ea⟩ : ∃ z, q.1.getD (i + 1).toNat 0 = z := ⟨_, rfl⟩
  have ra : rg a := by rw [← ea]; exact hr _
  simp (disch := omega) only [r195_1477, r195_1478, r195_1479, r195_1481, r195_1482, r195_1483, r195_1484, r195_1485, Cn_n, Cn_v, Cn_x, dp_0, dp_1, dp_2, dp_3, dp_4, okv_n, okv_i, okv_r, eq_self, true_and, and_true, Option.some.injEq, exists_eq_left', rgT, ixT, ixU, ↓if_pos, ↓if_neg, Int.toNat_natCast, bT0, bT1, q_1, ea]
  refine zs_roundedTotal oh bd ra (fun A1 F1 q1 k v sp oh1 oa of hq hv => ?_)
  have mh1 := MH_fr mh oa of
  have hq1 := hq.1
  have hk := kk_SPt sp
  simp (disch := omega) only [r195_1488, r195_1490, r195_1491, r195_1492, r195_1494, r195_1495, r195_1496, r195_1497, Cn_n, Cn_v, Cn_x, dp_0, dp_1, dp_2, dp_3, dp_4, okv_n, okv_i, okv_r, eq_self, true_and, and_true, Option.some.injEq, exists_eq_left', rgT, ixT, ixU, ↓if_pos, ↓if_neg, Int.toNat_natCast, bT0, bT1, q_1, hq1, ea]
  refine zm_roundedTotal mh1 bd ra sp (fun A2 F2 z mh2 ma mg h768 hb rz => ?_)
  have hin : INV A2 F2 J M t := ⟨OH_mr oh1 ma mg, mh2, bd⟩
  obtain ⟨z1, z2⟩ := rz
  by_cases hk0 : k = 0
  · have e59 : A2 59 0 = z := by rw [ma 59 (Or.inr rfl), hb hk0]; exact hv hk0
    simp (disch := omega) only [r195_1500, r195_1502, r195_1503, r195_1506, r195_1508, r195_1511, r195_1512, r195_1513, r195_1515, r195_1518, r195_1519, r195_1520, r195_1521, r195_1523, r195_1524, r195_1525, r195_1528, r195_1529, r195_1530, Cn_n, Cn_v, Cn_x, dp_0, dp_1, dp_2, dp_3, dp_4, okv_n, okv_i, okv_r, eq_self, true_and, and_true, Option.some.injEq, exists_eq_left', rgT, ixT, ixU, ↓if_pos, ↓if_neg, Int.toNat_natCast, bT0, bT1, a_59, b_59, d_59, tab_len, tab_get, tn0, m_thrown, h768, e59]
    exact hn _ _ _ _ _ _ _ _ _ _ hin hq
  · simp (disch := omega) only [r195_1500, r195_1502, r195_1503, r195_1506, r195_1508, r195_1511, r195_1512, r195_1513, r195_1515, r195_1518, r195_1519, r195_1520, r195_1521, r195_1523, r195_1524, r195_1525, r195_1528, r195_1529, r195_1530, Cn_n, Cn_v, Cn_x, dp_0, dp_1, dp_2, dp_3, dp_4, okv_n, okv_i, okv_r, eq_self, true_and, and_true, Option.some.injEq, exists_eq_left', rgT, ixT, ixU, ↓if_pos, ↓if_neg, Int.toNat_natCast, bT0, bT1, a_59, b_59, d_59, tab_len, tab_get, tn0, m_thrown, h768]
    exact hn _ _ _ _ _ _ _ _ _ _ hin hq
theorem lwc_28 (hI : INV A F J M t) (hi0 : 0 ≤ i) (hi3 : i + 3 < q.1.length) (hlen : q.1.length ≤ 2048) (hr : ∀ n, rg (q.1.getD n 0)) (hn : ∀ A1 F1 J1 M1 t1 q1 x5 x6 x7 x8, INV A1 F1 J1 M1 t1 → QFr q q1 → Wp 195 1630 [some vS, some (vR 0), some (vR 48), some (vR 59), some (.inl i), x5, x6, x7, x8] [] (mk A1 F1 q1) Q) : Wp 195 1533 [some vS, some (vR 0), some (vR 48), some (vR 59), some (.inl i), x5, x6, x7, x8] [] (mk A F q) Q := by
  obtain ⟨oh, mh, bd⟩ := hI
  obtain ⟨a, ea⟩ : ∃ z, q.1.getD (i + 1).toNat 0 = z := ⟨_, rfl⟩
  have ra : rg a := by rw [← ea]; exact hr _
  simp (disch := omega) only [r195_1533, r195_1534, r195_1535, r195_1537, r195_1538, r195_1539, r195_1540, r195_1541, Cn_n, Cn_v, Cn_x, dp_0, dp_1, dp_2, dp_3, dp_4, okv_n, okv_i, okv_r, eq_self, true_and, and_true, Option.some.injEq, exists_eq_left', rgT, ixT, ixU, ↓if_pos, ↓if_neg, Int.toNat_natCast, bT0, bT1, q_1, ea]
  refine zs_roundedUp oh bd ra (fun A1 F1 q1 k v sp oh1 oa of hq hv => ?_)
  have mh1 := MH_fr mh oa of
  have hq1 := hq.1
  have hk := kk_SPu sp
  simp (disch := omega) only [r195_1544, r195_1546, r195_1547, r195_1548, r195_1550, r195_1551, r195_1552, r195_1553, Cn_n, Cn_v, Cn_x, dp_0, dp_1, dp_2, dp_3, dp_4, okv_n, okv_i, okv_r, eq_self, true_and, and_true, Option.some.injEq, exists_eq_left', rgT, ixT, ixU, ↓if_pos, ↓if_neg, Int.toNat_natCast, bT0, bT1, q_1, hq1, ea]
  refine zm_roundedUp mh1 bd ra sp (fun A2 F2 z mh2 ma mg h768 hb rz => ?_)
  have hin : INV A2 F2 J M t := ⟨OH_mr oh1 ma mg, mh2, bd⟩
  obtain ⟨z1, z2⟩ := rz
  by_cases hk0 : k = 0
  · have e59 : A2 59 0 = z := by rw [ma 59 (Or.inr rfl), hb hk0]; exact hv hk0
    simp (disch := omega) only [r195_1556, r195_1558, r195_1559, r195_1562, r195_1564, r195_1567, r195_1568, r195_1569, r195_1571, r195_1574, r195_1575, r195_1576, r195_1577, r195_1579, r195_1580, r195_1581, r195_1584, r195_1585, r195_1586, Cn_n, Cn_v, Cn_x, dp_0, dp_1, dp_2, dp_3, dp_4, okv_n, okv_i, okv_r, eq_self, true_and, and_true, Option.some.injEq, exists_eq_left', rgT, ixT, ixU, ↓if_pos, ↓if_neg, Int.toNat_natCast, bT0, bT1, a_59, b_59, d_59, tab_len, tab_get, tn0, m_thrown, h768, e59]
    exact hn _ _ _ _ _ _ _ _ _ _ hin hq
  · simp (disch := omega) only [r195_1556, r195_1558, r195_1559, r195_1562, r195_1564, r195_1567, r195_1568, r195_1569, r195_1571, r195_1574, r195_1575, r195_1576, r195_1577, r195_1579, r195_1580, r195_1581, r195_1584, r195_1585, r195_1586, Cn_n, Cn_v, Cn_x, dp_0, dp_1, dp_2, dp_3, dp_4, okv_n, okv_i, okv_r, eq_self, true_and, and_true, Option.some.injEq, exists_eq_left', rgT, ixT, ixU, ↓if_pos, ↓if_neg, Int.toNat_natCast, bT0, bT1, a_59, b_59, d_59, tab_len, tab_get, tn0, m_thrown, h768]
    exact hn _ _ _ _ _ _ _ _ _ _ hin hq
theorem lwc_29 (hI : INV A F J M t) (hi0 : 0 ≤ i) (hi3 : i + 3 < q.1.length) (hlen : q.1.length ≤ 2048) (hr : ∀ n, rg (q.1.getD n 0)) (hn : ∀ A1 F1 J1 M1 t1 q1 x5 x6 x7 x8, INV A1 F1 J1 M1 t1 → QFr q q1 → Wp 195 1630 [some vS, some (vR 0), some (vR 48), some (vR 59), some (.inl i), x5, x6, x7, x8] [] (mk A1 F1 q1) Q) : Wp 195 1589 [some vS, some (vR 0), some (vR 48), some (vR 59), some (.inl i), x5, x6, x7, x8] [] (mk A F q) Q := by
  obtain ⟨oh, mh, bd⟩ := hI
  simp (disch := omega) only [r195_1589, r195_1590, Cn_n, Cn_v, Cn_x, dp_0, dp_1, dp_2, dp_3, dp_4, okv_n, okv_i, okv_r, eq_self, true_and, and_true, Option.some.injEq, exists_eq_left', rgT, ixT, ixU, ↓if_pos, ↓if_neg, Int.toNat_natCast, bT0, bT1]
  refine zs_mean oh bd (fun A1 F1 d sp hd oh1 oa of => ?_)
  have mh1 := MH_fr mh oa of
  simp (disch := omega) only [r195_1593, r195_1595, r195_1596, Cn_n, Cn_v, Cn_x, dp_0, dp_1, dp_2, dp_3, dp_4, okv_n, okv_i, okv_r, eq_self, true_and, and_true, Option.some.injEq, exists_eq_left', rgT, ixT, ixU, ↓if_pos, ↓if_neg, Int.toNat_natCast, bT0, bT1]
  refine zm_mean mh1 bd sp (fun A2 F2 mh2 ma mg => ?_)
  have hin : INV A2 F2 _ _ _ := ⟨OH_mr oh1 ma mg, mh2, bd⟩
  simp (disch := omega) only [r195_1599, r195_1601, r195_1603, r195_1605, r195_1606, r195_1609, r195_1611, r195_1613, r195_1614, r195_1617, r195_1619, r195_1621, r195_1622, r195_1625, r195_1626, r195_1627, Cn_n, Cn_v, Cn_x, dp_0, dp_1, dp_2, dp_3, dp_4, okv_n, okv_i, okv_r, eq_self, true_and, and_true, Option.some.injEq, exists_eq_left', rgT, ixT, ixU, ↓if_pos, ↓if_neg, Int.toNat_natCast, bT0, bT1, hd]
  exact hn _ _ _ _ _ _ _ _ _ _ hin QFr_r
end LAWC
