/-! a network in the shop: cell 29 -/
def hna (A : Nat → Nat → Int) (R rf qu : Nat → Int) : Nat → Nat → Int := ua (ua (ua A 31 R) 33 rf) 35 qu
section NET
variable {A : Nat → Nat → Int} {F : Nat → Int} {q : List Int × Nat} {Q : AR → Prop} {n s t a b i : Nat} {R rf qu f : Nat → Int} {v am : Int}
theorem ha_H : hna A R rf qu 31 = R := by unfold hna; rw [ua_n (by decide), ua_n (by decide), ua_s]
theorem ha_R : hna A R rf qu 33 = rf := by unfold hna; rw [ua_n (by decide), ua_s]
theorem ha_U : hna A R rf qu 35 = qu := by unfold hna; rw [ua_s]
theorem ha_n {l : Nat} (h1 : l ≠ 31) (h2 : l ≠ 33) (h3 : l ≠ 35) : hna A R rf qu l = A l := by unfold hna; rw [ua_n h3, ua_n h2, ua_n h1]
theorem ha_fH : ua (hna A R rf qu) 31 f = hna A f rf qu := by
  unfold hna
  rw [ua_c (k := 35) (by decide), ua_c (k := 33) (by decide), ua_ua]
theorem ha_fR : ua (hna A R rf qu) 33 f = hna A R f qu := by
  unfold hna
  rw [ua_c (k := 35) (by decide), ua_ua]
theorem ha_fU : ua (hna A R rf qu) 35 f = hna A R rf f := by
  unfold hna
  rw [ua_ua]
theorem ha_uR : u2 (hna A R rf qu) 33 i v = hna A R (uq rf i v) qu := by unfold u2; rw [ha_fR, ha_R]
theorem ha_uU : u2 (hna A R rf qu) 35 i v = hna A R rf (uq qu i v) := by unfold u2; rw [ha_fU, ha_U]
theorem ha_uH : u2 (hna A R rf qu) 31 i v = hna A (uq R i v) rf qu := by unfold u2; rw [ha_fH, ha_H]
theorem ha_e : hna A (uq R (14 * a + b) (R (14 * a + b) + v)) rf qu = hna A (adE R a b v) rf qu := rfl
theorem ha_id : hna A (A 31) (A 33) (A 35) = A := by
  unfold hna
  rw [ua_id, ua_id, ua_id]
theorem na_search (hn : F 467 = n) (hn14 : n ≤ 14) (hR : ∀ a, a < n → ∀ b, b < n → 0 ≤ R (14 * a + b) ∧ R (14 * a + b) ≤ 100000) (hs : s < n) (ht : t < n) (hst : s ≠ t)
    (hwin : ∀ rf1 qu1 len p, PTH n R s rf1 len p → p 0 = t → 1 ≤ len → len ≤ n → Q (.inl (some (.inl 1)), mk (hna A R rf1 qu1) F q))
    (hfail : ∀ rf1 qu1 S, CUT n R s t S → Q (.inl (some (.inl 0)), mk (hna A R rf1 qu1) F q)) :
    Ew 24 [vR 29, .inl (s : Int), .inl (t : Int)] (mk (hna A R rf qu) F q) Q := by
  have hR0 : ∀ a, a < n → ∀ b, b < n → 0 ≤ R (14 * a + b) := fun a ha b hb => (hR a ha b hb).1
  refine ⟨rc_24 g_29_0 rfl rfl, ?_⟩
  rw [lc_24]
  simp (disch := omega) only [r24_0, r24_1, r24_4, r24_5, r24_8, r24_9, r24_12, r24_13, r24_14, r24_17, r24_18, r24_21, r24_22, r24_23, r24_26, r24_27, r24_28, r24_29, r24_33, r24_34, r24_37, r24_39, r24_40, r24_43, r24_46, r24_47, r24_50, r24_52, r24_55, r24_57, r24_58, r24_62, r24_63, r24_66, r24_69, r24_70, r24_73, r24_75, r24_78, r24_79, r24_82, r24_83, r24_86, r24_88, r24_90, r24_93, r24_96, r24_99, r24_100, r24_103, r24_105, r24_107, r24_110, r24_112, r24_113, r24_116, r24_117, r24_118, r24_119, r24_122, r24_123, r24_125, r24_128, r24_131, r24_134, r24_137, r24_140, r24_143, r24_144, Cn_n, Cn_v, Cn_x, dp_0, dp_1, dp_2, dp_3, dp_4, okv_n, okv_i, okv_r, eq_self, true_and, and_true, Option.some.injEq, exists_eq_left', rgT, ixT, ixU, ↓if_pos, ↓if_neg, Int.toNat_natCast, bT0, bT1, g_29_0, g_29_1, g_29_2, g_29_3, s_29_3, rfill_32, rput_32, rput_34, ha_fR, ha_uR, ha_uU]
  suffices key : ∀ (d nx k : Nat) (rf qu : Nat → Int), nx + d = n → NB n R s t rf qu k nx 0 → ∀ x5 x6 : Option AV, okv x5 = true → okv x6 = true → Wp 24 31 [some (vR 29), some (.inl (s : Int)), some (.inl (t : Int)), some (.inl (k : Int)), some (.inl (nx : Int)), x5, x6] [] (mk (hna A R rf qu) F q) Q by
    exact key n 0 1 _ _ (by omega) (NB_init hs hst (fun c hc => by rw [uq_n hc]) uq_s uq_s) _ _ rfl rfl
  intro d
  induction d with
  | zero =>
    intro nx k rf qu hd hb x5 x6 h5 h6
    have hkn := NB_k hb
    rw [r24_31]
    simp (disch := omega) only [r24_0, r24_1, r24_4, r24_5, r24_8, r24_9, r24_12, r24_13, r24_14, r24_17, r24_18, r24_21, r24_22, r24_23, r24_26, r24_27, r24_28, r24_29, r24_33, r24_34, r24_37, r24_39, r24_40, r24_43, r24_46, r24_47, r24_50, r24_52, r24_55, r24_57, r24_58, r24_62, r24_63, r24_66, r24_69, r24_70, r24_73, r24_75, r24_78, r24_79, r24_82, r24_83, r24_86, r24_88, r24_90, r24_93, r24_96, r24_99, r24_100, r24_103, r24_105, r24_107, r24_110, r24_112, r24_113, r24_116, r24_117, r24_118, r24_119, r24_122, r24_123, r24_125, r24_128, r24_131, r24_134, r24_137, r24_140, r24_143, r24_144, Cn_n, Cn_v, Cn_x, dp_0, dp_1, dp_2, dp_3, dp_4, okv_n, okv_i, okv_r, eq_self, true_and, and_true, Option.some.injEq, exists_eq_left', rgT, ixT, ixU, ↓if_pos, ↓if_neg, Int.toNat_natCast, bT0, bT1, g_29_0, g_29_1, g_29_2, g_29_3, s_29_3]
    exact hfail _ _ _ (NB_fail hb (by omega) hR0)
  | succ d ih =>
    intro nx k rf qu hd hb x5 x6 h5 h6
    have hkn := NB_k hb
    rw [r24_31]
    by_cases h9 : nx < k
    · have hq2 := hb.2.1 nx h9
      obtain ⟨r, hr⟩ : ∃ r : Nat, qu nx = r := ⟨(qu nx).toNat, by omega⟩
      simp (disch := omega) only [r24_0, r24_1, r24_4, r24_5, r24_8, r24_9, r24_12, r24_13, r24_14, r24_17, r24_18, r24_21, r24_22, r24_23, r24_26, r24_27, r24_28, r24_29, r24_33, r24_34, r24_37, r24_39, r24_40, r24_43, r24_46, r24_47, r24_50, r24_52, r24_55, r24_57, r24_58, r24_62, r24_63, r24_66, r24_69, r24_70, r24_73, r24_75, r24_78, r24_79, r24_82, r24_83, r24_86, r24_88, r24_90, r24_93, r24_96, r24_99, r24_100, r24_103, r24_105, r24_107, r24_110, r24_112, r24_113, r24_116, r24_117, r24_118, r24_119, r24_122, r24_123, r24_125, r24_128, r24_131, r24_134, r24_137, r24_140, r24_143, r24_144, Cn_n, Cn_v, Cn_x, dp_0, dp_1, dp_2, dp_3, dp_4, okv_n, okv_i, okv_r, eq_self, true_and, and_true, Option.some.injEq, exists_eq_left', rgT, ixT, ixU, ↓if_pos, ↓if_neg, Int.toNat_natCast, bT0, bT1, g_29_0, g_29_1, g_29_2, g_29_3, s_29_3, h5, h6, rget_34, ha_U, hr]
      suffices key2 : ∀ (d2 col k : Nat) (rf qu : Nat → Int), col + d2 = n → nx < k → qu nx = r → NB n R s t rf qu k nx col → Wp 24 60 [some (vR 29), some (.inl (s : Int)), some (.inl (t : Int)), some (.inl (k : Int)), some (.inl (nx : Int)), some (.inl (r : Int)), some (.inl (col : Int))] [] (mk (hna A R rf qu) F q) Q by
        exact key2 n 0 k rf qu (by omega) h9 hr hb
      clear hb h9 hr hkn hq2 k rf qu h5 h6 x5 x6
      intro d2
      induction d2 with
      | zero =>
        intro col k rf qu hc hk hr hb
        obtain rfl : col = n := by omega
        rw [r24_60]
        simp (disch := omega) only [r24_0, r24_1, r24_4, r24_5, r24_8, r24_9, r24_12, r24_13, r24_14, r24_17, r24_18, r24_21, r24_22, r24_23, r24_26, r24_27, r24_28, r24_29, r24_33, r24_34, r24_37, r24_39, r24_40, r24_43, r24_46, r24_47, r24_50, r24_52, r24_55, r24_57, r24_58, r24_62, r24_63, r24_66, r24_69, r24_70, r24_73, r24_75, r24_78, r24_79, r24_82, r24_83, r24_86, r24_88, r24_90, r24_93, r24_96, r24_99, r24_100, r24_103, r24_105, r24_107, r24_110, r24_112, r24_113, r24_116, r24_117, r24_118, r24_119, r24_122, r24_123, r24_125, r24_128, r24_131, r24_134, r24_137, r24_140, r24_143, r24_144, Cn_n, Cn_v, Cn_x, dp_0, dp_1, dp_2, dp_3, dp_4, okv_n, okv_i, okv_r, eq_self, true_and, and_true, Option.some.injEq, exists_eq_left', rgT, ixT, ixU, ↓if_pos, ↓if_neg, Int.toNat_natCast, bT0, bT1, g_29_0, g_29_1, g_29_2, g_29_3, s_29_3]
        exact ih (nx + 1) k rf qu (by omega) (NB_next hb) _ _ rfl rfl
      | succ d2 ih2 =>
        intro col k rf qu hc hk hr hb
        have hkn := NB_k hb
        have hq2 := hb.2.1 nx hk
        have w9 := hR r (by omega) col (by omega)
        have hrf := hb.2.2.2.2.2.2.2 col (by omega)
        rw [r24_60]
        by_cases k2 : rf col = -1
        · by_cases k3 : R (14 * r + col) ≤ 0
          · have sk := NB_skip hb (Or.inr (by rw [hr, Int.toNat_natCast]; exact k3))
            simp (disch := omega) only [r24_0, r24_1, r24_4, r24_5, r24_8, r24_9, r24_12, r24_13, r24_14, r24_17, r24_18, r24_21, r24_22, r24_23, r24_26, r24_27, r24_28, r24_29, r24_33, r24_34, r24_37, r24_39, r24_40, r24_43, r24_46, r24_47, r24_50, r24_52, r24_55, r24_57, r24_58, r24_62, r24_63, r24_66, r24_69, r24_70, r24_73, r24_75, r24_78, r24_79, r24_82, r24_83, r24_86, r24_88, r24_90, r24_93, r24_96, r24_99, r24_100, r24_103, r24_105, r24_107, r24_110, r24_112, r24_113, r24_116, r24_117, r24_118, r24_119, r24_122, r24_123, r24_125, r24_128, r24_131, r24_134, r24_137, r24_140, r24_143, r24_144, Cn_n, Cn_v, Cn_x, dp_0, dp_1, dp_2, dp_3, dp_4, okv_n, okv_i, okv_r, eq_self, true_and, and_true, Option.some.injEq, exists_eq_left', rgT, ixT, ixU, ↓if_pos, ↓if_neg, Int.toNat_natCast, bT0, bT1, g_29_0, g_29_1, g_29_2, g_29_3, s_29_3, rget_32, ha_R, gget_30, ha_H]
            exact ih2 (col + 1) k rf qu (by omega) hk hr sk
          · have hw : 0 < R (14 * (qu nx).toNat + col) := by rw [hr, Int.toNat_natCast]; omega
            by_cases k4 : col = t
            · subst k4
              obtain ⟨len, p, z1, z2, z3, z4⟩ := NB_path hb hk ht hw
              rw [hr] at z4
              simp (disch := omega) only [r24_0, r24_1, r24_4, r24_5, r24_8, r24_9, r24_12, r24_13, r24_14, r24_17, r24_18, r24_21, r24_22, r24_23, r24_26, r24_27, r24_28, r24_29, r24_33, r24_34, r24_37, r24_39, r24_40, r24_43, r24_46, r24_47, r24_50, r24_52, r24_55, r24_57, r24_58, r24_62, r24_63, r24_66, r24_69, r24_70, r24_73, r24_75, r24_78, r24_79, r24_82, r24_83, r24_86, r24_88, r24_90, r24_93, r24_96, r24_99, r24_100, r24_103, r24_105, r24_107, r24_110, r24_112, r24_113, r24_116, r24_117, r24_118, r24_119, r24_122, r24_123, r24_125, r24_128, r24_131, r24_134, r24_137, r24_140, r24_143, r24_144, Cn_n, Cn_v, Cn_x, dp_0, dp_1, dp_2, dp_3, dp_4, okv_n, okv_i, okv_r, eq_self, true_and, and_true, Option.some.injEq, exists_eq_left', rgT, ixT, ixU, ↓if_pos, ↓if_neg, Int.toNat_natCast, bT0, bT1, g_29_0, g_29_1, g_29_2, g_29_3, s_29_3, rget_32, ha_R, gget_30, ha_H, rput_32, ha_uR]
              exact hwin _ _ _ _ z4 z1 z2 z3
            · have ps := NB_push hb hk (by omega) k4 k2 hw
              have hk1 := NB_k ps
              rw [hr] at ps
              simp (disch := omega) only [r24_0, r24_1, r24_4, r24_5, r24_8, r24_9, r24_12, r24_13, r24_14, r24_17, r24_18, r24_21, r24_22, r24_23, r24_26, r24_27, r24_28, r24_29, r24_33, r24_34, r24_37, r24_39, r24_40, r24_43, r24_46, r24_47, r24_50, r24_52, r24_55, r24_57, r24_58, r24_62, r24_63, r24_66, r24_69, r24_70, r24_73, r24_75, r24_78, r24_79, r24_82, r24_83, r24_86, r24_88, r24_90, r24_93, r24_96, r24_99, r24_100, r24_103, r24_105, r24_107, r24_110, r24_112, r24_113, r24_116, r24_117, r24_118, r24_119, r24_122, r24_123, r24_125, r24_128, r24_131, r24_134, r24_137, r24_140, r24_143, r24_144, Cn_n, Cn_v, Cn_x, dp_0, dp_1, dp_2, dp_3, dp_4, okv_n, okv_i, okv_r, eq_self, true_and, and_true, Option.some.injEq, exists_eq_left', rgT, ixT, ixU, ↓if_pos, ↓if_neg, Int.toNat_natCast, bT0, bT1, g_29_0, g_29_1, g_29_2, g_29_3, s_29_3, rget_32, ha_R, gget_30, ha_H, rput_32, ha_uR, rput_34, ha_uU]
              exact ih2 (col + 1) (k + 1) _ _ (by omega) (by omega) (by rw [uq_n (by omega)]; exact hr) ps
        · have sk := NB_skip hb (Or.inl k2)
          simp (disch := omega) only [r24_0, r24_1, r24_4, r24_5, r24_8, r24_9, r24_12, r24_13, r24_14, r24_17, r24_18, r24_21, r24_22, r24_23, r24_26, r24_27, r24_28, r24_29, r24_33, r24_34, r24_37, r24_39, r24_40, r24_43, r24_46, r24_47, r24_50, r24_52, r24_55, r24_57, r24_58, r24_62, r24_63, r24_66, r24_69, r24_70, r24_73, r24_75, r24_78, r24_79, r24_82, r24_83, r24_86, r24_88, r24_90, r24_93, r24_96, r24_99, r24_100, r24_103, r24_105, r24_107, r24_110, r24_112, r24_113, r24_116, r24_117, r24_118, r24_119, r24_122, r24_123, r24_125, r24_128, r24_131, r24_134, r24_137, r24_140, r24_143, r24_144, Cn_n, Cn_v, Cn_x, dp_0, dp_1, dp_2, dp_3, dp_4, okv_n, okv_i, okv_r, eq_self, true_and, and_true, Option.some.injEq, exists_eq_left', rgT, ixT, ixU, ↓if_pos, ↓if_neg, Int.toNat_natCast, bT0, bT1, g_29_0, g_29_1, g_29_2, g_29_3, s_29_3, rget_32, ha_R]
          exact ih2 (col + 1) k rf qu (by omega) hk hr sk
    · simp (disch := omega) only [r24_0, r24_1, r24_4, r24_5, r24_8, r24_9, r24_12, r24_13, r24_14, r24_17, r24_18, r24_21, r24_22, r24_23, r24_26, r24_27, r24_28, r24_29, r24_33, r24_34, r24_37, r24_39, r24_40, r24_43, r24_46, r24_47, r24_50, r24_52, r24_55, r24_57, r24_58, r24_62, r24_63, r24_66, r24_69, r24_70, r24_73, r24_75, r24_78, r24_79, r24_82, r24_83, r24_86, r24_88, r24_90, r24_93, r24_96, r24_99, r24_100, r24_103, r24_105, r24_107, r24_110, r24_112, r24_113, r24_116, r24_117, r24_118, r24_119, r24_122, r24_123, r24_125, r24_128, r24_131, r24_134, r24_137, r24_140, r24_143, r24_144, Cn_n, Cn_v, Cn_x, dp_0, dp_1, dp_2, dp_3, dp_4, okv_n, okv_i, okv_r, eq_self, true_and, and_true, Option.some.injEq, exists_eq_left', rgT, ixT, ixU, ↓if_pos, ↓if_neg, Int.toNat_natCast, bT0, bT1, g_29_0, g_29_1, g_29_2, g_29_3, s_29_3]
      exact hfail _ _ _ (NB_fail hb (by omega) hR0)
theorem na_send {len : Nat} {p : Nat → Nat} (hn : F 467 = n) (hn14 : n ≤ 14) (hR : ∀ a, a < n → ∀ b, b < n → 0 ≤ R (14 * a + b) ∧ R (14 * a + b) ≤ 100000) (hp : PTH n R s rf len p) (hp0 : p 0 = t) (hl : 1 ≤ len) (hln : len ≤ n) (ha1 : 1 ≤ am) (ha2 : am ≤ 100000)
    (hQ : ∀ R1 m, 1 ≤ m → m ≤ am → FLW n R R1 s t m → Q (.inl (some (.inl m)), mk (hna A R1 rf qu) F q)) :
    Ew 25 [vR 29, .inl (s : Int), .inl (t : Int), .inl am] (mk (hna A R rf qu) F q) Q := by
  have hR0 : ∀ a, a < n → ∀ b, b < n → 0 ≤ R (14 * a + b) := fun a ha b hb => (hR a ha b hb).1
  have hp9 := hp
  obtain ⟨p1, p2, p3, p4⟩ := hp
  refine ⟨rc_25 g_29_0 rfl rfl rfl, ?_⟩
  rw [lc_25]
  simp (disch := omega) only [r25_0, r25_1, r25_3, r25_4, r25_6, r25_7, r25_11, r25_12, r25_15, r25_18, r25_20, r25_21, r25_24, r25_25, r25_28, r25_30, r25_33, r25_35, r25_37, r25_38, r25_41, r25_43, r25_45, r25_48, r25_51, r25_53, r25_55, r25_57, r25_60, r25_63, r25_64, r25_66, r25_67, r25_71, r25_72, r25_75, r25_78, r25_80, r25_81, r25_84, r25_85, r25_88, r25_90, r25_93, r25_95, r25_96, r25_99, r25_101, r25_103, r25_105, r25_106, r25_109, r25_110, r25_113, r25_115, r25_117, r25_119, r25_122, r25_124, r25_126, r25_129, r25_132, r25_134, Cn_n, Cn_v, Cn_x, dp_0, dp_1, dp_2, dp_3, dp_4, okv_n, okv_i, okv_r, eq_self, true_and, and_true, Option.some.injEq, exists_eq_left', rgT, ixT, ixU, ↓if_pos, ↓if_neg, Int.toNat_natCast, bT0, bT1, g_29_0, g_29_1, g_29_2, g_29_3, s_29_3]
  suffices key : ∀ (d x : Nat), x + d = len → ∀ m : Int, 1 ≤ m → m ≤ am → (∀ y, y < x → m ≤ R (14 * p (y + 1) + p y)) → ∀ nd : Nat, nd = p x → ∀ x7 : Option AV, okv x7 = true → Wp 25 9 [some (vR 29), some (.inl (s : Int)), some (.inl (t : Int)), some (.inl am), some (.inl m), some (.inl (nd : Int)), some (.inl (x : Int)), x7] [] (mk (hna A R rf qu) F q) Q by
    exact key len 0 (by omega) am ha1 (Int.le_refl _) (fun y hy => absurd hy (Nat.not_lt_zero y)) t hp0.symm none rfl
  intro d
  induction d with
  | zero =>
    intro x hx m hm1 hm2 hmy nd hnd x7 h7
    obtain rfl : x = len := by omega
    have e0 : nd = s := by rw [hnd, p1]
    subst e0
    have hs14 := p3 x (Nat.le_refl _)
    have ht14 := p3 0 (by omega)
    rw [r25_9]
    have hfl := PTH_flow hn14 hR0 hp9 (show 0 ≤ m by omega) hmy
    have go : ∀ (d y : Nat), y + d = x → ∀ nd2 : Nat, nd2 = p y → ∀ x7 : Option AV, okv x7 = true → Wp 25 69 [some (vR 29), some (.inl (nd : Int)), some (.inl (t : Int)), some (.inl am), some (.inl m), some (.inl (nd2 : Int)), some (.inl (y : Int)), x7] [] (mk (hna A (rxp R p m y) rf qu) F q) Q := by
      intro d
      induction d with
      | zero =>
        intro y hy nd2 hnd2 x7 h7
        obtain rfl : y = x := by omega
        have e0 : nd2 = nd := by rw [hnd2, p1]
        subst e0
        have hfin := (hfl y (Nat.le_refl _)).1
        rw [p1, hp0] at hfin
        have hq := hQ _ _ hm1 hm2 hfin
        rw [r25_69]
        by_cases c1 : y < n
        · simp (disch := omega) only [r25_0, r25_1, r25_3, r25_4, r25_6, r25_7, r25_11, r25_12, r25_15, r25_18, r25_20, r25_21, r25_24, r25_25, r25_28, r25_30, r25_33, r25_35, r25_37, r25_38, r25_41, r25_43, r25_45, r25_48, r25_51, r25_53, r25_55, r25_57, r25_60, r25_63, r25_64, r25_66, r25_67, r25_71, r25_72, r25_75, r25_78, r25_80, r25_81, r25_84, r25_85, r25_88, r25_90, r25_93, r25_95, r25_96, r25_99, r25_101, r25_103, r25_105, r25_106, r25_109, r25_110, r25_113, r25_115, r25_117, r25_119, r25_122, r25_124, r25_126, r25_129, r25_132, r25_134, Cn_n, Cn_v, Cn_x, dp_0, dp_1, dp_2, dp_3, dp_4, okv_n, okv_i, okv_r, eq_self, true_and, and_true, Option.some.injEq, exists_eq_left', rgT, ixT, ixU, ↓if_pos, ↓if_neg, Int.toNat_natCast, bT0, bT1, g_29_0, g_29_1, g_29_2, g_29_3, s_29_3, h7]
          exact hq
        · simp (disch := omega) only [r25_0, r25_1, r25_3, r25_4, r25_6, r25_7, r25_11, r25_12, r25_15, r25_18, r25_20, r25_21, r25_24, r25_25, r25_28, r25_30, r25_33, r25_35, r25_37, r25_38, r25_41, r25_43, r25_45, r25_48, r25_51, r25_53, r25_55, r25_57, r25_60, r25_63, r25_64, r25_66, r25_67, r25_71, r25_72, r25_75, r25_78, r25_80, r25_81, r25_84, r25_85, r25_88, r25_90, r25_93, r25_95, r25_96, r25_99, r25_101, r25_103, r25_105, r25_106, r25_109, r25_110, r25_113, r25_115, r25_117, r25_119, r25_122, r25_124, r25_126, r25_129, r25_132, r25_134, Cn_n, Cn_v, Cn_x, dp_0, dp_1, dp_2, dp_3, dp_4, okv_n, okv_i, okv_r, eq_self, true_and, and_true, Option.some.injEq, exists_eq_left', rgT, ixT, ixU, ↓if_pos, ↓if_neg, Int.toNat_natCast, bT0, bT1, g_29_0, g_29_1, g_29_2, g_29_3, s_29_3, h7]
          exact hq
      | succ d ih =>
        intro y hy nd2 hnd2 x7 h7
        have hy14 := p3 y (by omega)
        have hz14 := p3 (y + 1) (by omega)
        have hne : nd2 ≠ nd := by
          rw [hnd2, ← p1]
          exact p4 y x (by omega) (Nat.le_refl _)
        have e1 := (p2 y (by omega)).1
        rw [← hnd2] at e1 hy14
        generalize hz : p (y + 1) = z at e1 hz14
        have ihy := ih (y + 1) (by omega) z hz.symm (some (.inl (z : Int))) rfl
        rw [rxp, hz, ← hnd2] at ihy
        rw [r25_69]
        simp (disch := omega) only [r25_0, r25_1, r25_3, r25_4, r25_6, r25_7, r25_11, r25_12, r25_15, r25_18, r25_20, r25_21, r25_24, r25_25, r25_28, r25_30, r25_33, r25_35, r25_37, r25_38, r25_41, r25_43, r25_45, r25_48, r25_51, r25_53, r25_55, r25_57, r25_60, r25_63, r25_64, r25_66, r25_67, r25_71, r25_72, r25_75, r25_78, r25_80, r25_81, r25_84, r25_85, r25_88, r25_90, r25_93, r25_95, r25_96, r25_99, r25_101, r25_103, r25_105, r25_106, r25_109, r25_110, r25_113, r25_115, r25_117, r25_119, r25_122, r25_124, r25_126, r25_129, r25_132, r25_134, Cn_n, Cn_v, Cn_x, dp_0, dp_1, dp_2, dp_3, dp_4, okv_n, okv_i, okv_r, eq_self, true_and, and_true, Option.some.injEq, exists_eq_left', rgT, ixT, ixU, ↓if_pos, ↓if_neg, Int.toNat_natCast, bT0, bT1, g_29_0, g_29_1, g_29_2, g_29_3, s_29_3, h7, rget_32, ha_R, e1, gadd_30, ha_H, ha_uH, ha_e]
        exact ihy
    have g0 := go x 0 (by omega) t hp0.symm x7 h7
    simp only [rxp] at g0
    by_cases c1 : x < n
    · simp (disch := omega) only [r25_0, r25_1, r25_3, r25_4, r25_6, r25_7, r25_11, r25_12, r25_15, r25_18, r25_20, r25_21, r25_24, r25_25, r25_28, r25_30, r25_33, r25_35, r25_37, r25_38, r25_41, r25_43, r25_45, r25_48, r25_51, r25_53, r25_55, r25_57, r25_60, r25_63, r25_64, r25_66, r25_67, r25_71, r25_72, r25_75, r25_78, r25_80, r25_81, r25_84, r25_85, r25_88, r25_90, r25_93, r25_95, r25_96, r25_99, r25_101, r25_103, r25_105, r25_106, r25_109, r25_110, r25_113, r25_115, r25_117, r25_119, r25_122, r25_124, r25_126, r25_129, r25_132, r25_134, Cn_n, Cn_v, Cn_x, dp_0, dp_1, dp_2, dp_3, dp_4, okv_n, okv_i, okv_r, eq_self, true_and, and_true, Option.some.injEq, exists_eq_left', rgT, ixT, ixU, ↓if_pos, ↓if_neg, Int.toNat_natCast, bT0, bT1, g_29_0, g_29_1, g_29_2, g_29_3, s_29_3, h7]
      exact g0
    · simp (disch := omega) only [r25_0, r25_1, r25_3, r25_4, r25_6, r25_7, r25_11, r25_12, r25_15, r25_18, r25_20, r25_21, r25_24, r25_25, r25_28, r25_30, r25_33, r25_35, r25_37, r25_38, r25_41, r25_43, r25_45, r25_48, r25_51, r25_53, r25_55, r25_57, r25_60, r25_63, r25_64, r25_66, r25_67, r25_71, r25_72, r25_75, r25_78, r25_80, r25_81, r25_84, r25_85, r25_88, r25_90, r25_93, r25_95, r25_96, r25_99, r25_101, r25_103, r25_105, r25_106, r25_109, r25_110, r25_113, r25_115, r25_117, r25_119, r25_122, r25_124, r25_126, r25_129, r25_132, r25_134, Cn_n, Cn_v, Cn_x, dp_0, dp_1, dp_2, dp_3, dp_4, okv_n, okv_i, okv_r, eq_self, true_and, and_true, Option.some.injEq, exists_eq_left', rgT, ixT, ixU, ↓if_pos, ↓if_neg, Int.toNat_natCast, bT0, bT1, g_29_0, g_29_1, g_29_2, g_29_3, s_29_3, h7]
      exact g0
  | succ d ih =>
    intro x hx m hm1 hm2 hmy nd hnd x7 h7
    have hy14 := p3 x (by omega)
    have hz14 := p3 (x + 1) (by omega)
    have hs14 := p3 len (by omega)
    have hne : nd ≠ s := by
      rw [hnd, ← p1]
      exact p4 x len (by omega) (Nat.le_refl _)
    obtain ⟨e1, e2⟩ := p2 x (by omega)
    have hRz := hR _ hz14 _ hy14
    have hmy1 : ∀ m2 : Int, m2 ≤ m → m2 ≤ R (14 * p (x + 1) + p x) → ∀ y, y < x + 1 → m2 ≤ R (14 * p (y + 1) + p y) := by
      intro m2 h1 h2 y hy
      by_cases hyx : y = x
      · subst hyx; exact h2
      · have := hmy y (by omega); omega
    rw [← hnd] at e1 e2 hy14 hRz hmy1
    generalize hz : p (x + 1) = z at e1 e2 hz14 hRz hmy1
    have ihx := ih (x + 1) (by omega)
    rw [r25_9]
    by_cases c1 : R (14 * z + nd) < m
    · simp (disch := omega) only [r25_0, r25_1, r25_3, r25_4, r25_6, r25_7, r25_11, r25_12, r25_15, r25_18, r25_20, r25_21, r25_24, r25_25, r25_28, r25_30, r25_33, r25_35, r25_37, r25_38, r25_41, r25_43, r25_45, r25_48, r25_51, r25_53, r25_55, r25_57, r25_60, r25_63, r25_64, r25_66, r25_67, r25_71, r25_72, r25_75, r25_78, r25_80, r25_81, r25_84, r25_85, r25_88, r25_90, r25_93, r25_95, r25_96, r25_99, r25_101, r25_103, r25_105, r25_106, r25_109, r25_110, r25_113, r25_115, r25_117, r25_119, r25_122, r25_124, r25_126, r25_129, r25_132, r25_134, Cn_n, Cn_v, Cn_x, dp_0, dp_1, dp_2, dp_3, dp_4, okv_n, okv_i, okv_r, eq_self, true_and, and_true, Option.some.injEq, exists_eq_left', rgT, ixT, ixU, ↓if_pos, ↓if_neg, Int.toNat_natCast, bT0, bT1, g_29_0, g_29_1, g_29_2, g_29_3, s_29_3, h7, rget_32, ha_R, e1, gget_30, ha_H]
      exact ihx _ (by omega) (by omega) (hmy1 _ (by omega) (Int.le_refl _)) z hz.symm _ rfl
    · simp (disch := omega) only [r25_0, r25_1, r25_3, r25_4, r25_6, r25_7, r25_11, r25_12, r25_15, r25_18, r25_20, r25_21, r25_24, r25_25, r25_28, r25_30, r25_33, r25_35, r25_37, r25_38, r25_41, r25_43, r25_45, r25_48, r25_51, r25_53, r25_55, r25_57, r25_60, r25_63, r25_64, r25_66, r25_67, r25_71, r25_72, r25_75, r25_78, r25_80, r25_81, r25_84, r25_85, r25_88, r25_90, r25_93, r25_95, r25_96, r25_99, r25_101, r25_103, r25_105, r25_106, r25_109, r25_110, r25_113, r25_115, r25_117, r25_119, r25_122, r25_124, r25_126, r25_129, r25_132, r25_134, Cn_n, Cn_v, Cn_x, dp_0, dp_1, dp_2, dp_3, dp_4, okv_n, okv_i, okv_r, eq_self, true_and, and_true, Option.some.injEq, exists_eq_left', rgT, ixT, ixU, ↓if_pos, ↓if_neg, Int.toNat_natCast, bT0, bT1, g_29_0, g_29_1, g_29_2, g_29_3, s_29_3, h7, rget_32, ha_R, e1, gget_30, ha_H]
      exact ihx _ hm1 hm2 (hmy1 _ (Int.le_refl _) (by omega)) z hz.symm _ rfl
theorem na_push (hn : F 467 = n) (hn14 : n ≤ 14) (hB : ∀ a, a < n → ∀ b, b < n → 0 ≤ R (14 * a + b) ∧ R (14 * a + b) + R (14 * b + a) ≤ 100000) (hs : s < n) (ht : t < n) (hst : s ≠ t) (ha0 : 0 ≤ am) (ha2 : am ≤ 100000)
    (hQ : ∀ R1 rf1 qu1 v, 0 ≤ v → v ≤ am → FLW n R R1 s t v → (v = 0 → R1 = R) → (v = am ∨ ∃ S, CUT n R1 s t S) → Q (.inl (some (.inl v)), mk (hna A R1 rf1 qu1) F q)) :
    Ew 23 [vR 29, .inl (s : Int), .inl (t : Int), .inl am] (mk (hna A R rf qu) F q) Q := by
  refine ⟨rc_23 g_29_0 rfl rfl rfl, ?_⟩
  rw [lc_23]
  simp (disch := omega) only [r23_0, r23_1, r23_3, r23_4, r23_8, r23_9, r23_12, r23_14, r23_15, r23_18, r23_19, r23_20, r23_21, r23_24, r23_27, r23_29, r23_30, r23_32, r23_33, r23_34, r23_35, r23_36, r23_38, r23_39, r23_42, r23_43, r23_45, r23_48, r23_51, r23_53, Cn_n, Cn_v, Cn_x, dp_0, dp_1, dp_2, dp_3, dp_4, okv_n, okv_i, okv_r, eq_self, true_and, and_true, Option.some.injEq, exists_eq_left', rgT, ixT, ixU, ↓if_pos, ↓if_neg, Int.toNat_natCast, bT0, bT1, g_29_0, g_29_1, g_29_2, g_29_3, s_29_3]
  suffices key : ∀ (d : Nat) (v x : Int) (R1 rf1 qu1 : Nat → Int), am - v ≤ d → 0 ≤ x → x ≤ v → v ≤ am → FLW n R R1 s t v → (v = 0 → R1 = R) → Wp 23 6 [some (vR 29), some (.inl (s : Int)), some (.inl (t : Int)), some (.inl am), some (.inl v), some (.inl x)] [] (mk (hna A R1 rf1 qu1) F q) Q by
    exact key am.toNat 0 0 R rf qu (by omega) (Int.le_refl _) (Int.le_refl _) ha0 (FLW_0 (fun a ha b hb => (hB a ha b hb).1)) (fun _ => rfl)
  intro d
  induction d with
  | zero =>
    intro v x R1 rf1 qu1 hd hx0 hxv hva hfl hv0
    have hva2 : v = am := by omega
    have hq := hQ R1 rf1 qu1 v (by omega) hva hfl hv0 (Or.inl hva2)
    rw [r23_6]
    by_cases c1 : x < am
    · simp (disch := omega) only [r23_0, r23_1, r23_3, r23_4, r23_8, r23_9, r23_12, r23_14, r23_15, r23_18, r23_19, r23_20, r23_21, r23_24, r23_27, r23_29, r23_30, r23_32, r23_33, r23_34, r23_35, r23_36, r23_38, r23_39, r23_42, r23_43, r23_45, r23_48, r23_51, r23_53, Cn_n, Cn_v, Cn_x, dp_0, dp_1, dp_2, dp_3, dp_4, okv_n, okv_i, okv_r, eq_self, true_and, and_true, Option.some.injEq, exists_eq_left', rgT, ixT, ixU, ↓if_pos, ↓if_neg, Int.toNat_natCast, bT0, bT1, g_29_0, g_29_1, g_29_2, g_29_3, s_29_3]
      exact hq
    · simp (disch := omega) only [r23_0, r23_1, r23_3, r23_4, r23_8, r23_9, r23_12, r23_14, r23_15, r23_18, r23_19, r23_20, r23_21, r23_24, r23_27, r23_29, r23_30, r23_32, r23_33, r23_34, r23_35, r23_36, r23_38, r23_39, r23_42, r23_43, r23_45, r23_48, r23_51, r23_53, Cn_n, Cn_v, Cn_x, dp_0, dp_1, dp_2, dp_3, dp_4, okv_n, okv_i, okv_r, eq_self, true_and, and_true, Option.some.injEq, exists_eq_left', rgT, ixT, ixU, ↓if_pos, ↓if_neg, Int.toNat_natCast, bT0, bT1, g_29_0, g_29_1, g_29_2, g_29_3, s_29_3]
      exact hq
  | succ d ih =>
    intro v x R1 rf1 qu1 hd hx0 hxv hva hfl hv0
    by_cases c0 : v = am
    · have hq := hQ R1 rf1 qu1 v (by omega) hva hfl hv0 (Or.inl c0)
      rw [r23_6]
      by_cases c1 : x < am
      · simp (disch := omega) only [r23_0, r23_1, r23_3, r23_4, r23_8, r23_9, r23_12, r23_14, r23_15, r23_18, r23_19, r23_20, r23_21, r23_24, r23_27, r23_29, r23_30, r23_32, r23_33, r23_34, r23_35, r23_36, r23_38, r23_39, r23_42, r23_43, r23_45, r23_48, r23_51, r23_53, Cn_n, Cn_v, Cn_x, dp_0, dp_1, dp_2, dp_3, dp_4, okv_n, okv_i, okv_r, eq_self, true_and, and_true, Option.some.injEq, exists_eq_left', rgT, ixT, ixU, ↓if_pos, ↓if_neg, Int.toNat_natCast, bT0, bT1, g_29_0, g_29_1, g_29_2, g_29_3, s_29_3]
        exact hq
      · simp (disch := omega) only [r23_0, r23_1, r23_3, r23_4, r23_8, r23_9, r23_12, r23_14, r23_15, r23_18, r23_19, r23_20, r23_21, r23_24, r23_27, r23_29, r23_30, r23_32, r23_33, r23_34, r23_35, r23_36, r23_38, r23_39, r23_42, r23_43, r23_45, r23_48, r23_51, r23_53, Cn_n, Cn_v, Cn_x, dp_0, dp_1, dp_2, dp_3, dp_4, okv_n, okv_i, okv_r, eq_self, true_and, and_true, Option.some.injEq, exists_eq_left', rgT, ixT, ixU, ↓if_pos, ↓if_neg, Int.toNat_natCast, bT0, bT1, g_29_0, g_29_1, g_29_2, g_29_3, s_29_3]
        exact hq
    · have hR1 : ∀ a, a < n → ∀ b, b < n → 0 ≤ R1 (14 * a + b) ∧ R1 (14 * a + b) ≤ 100000 := by
        intro a ha b hb
        have h1 := hfl.1 a ha b hb
        have h2 := hfl.1 b hb a ha
        have h3 := hfl.2.1 a ha b hb
        have h4 := hB a ha b hb
        omega
      rw [r23_6]
      simp (disch := omega) only [r23_0, r23_1, r23_3, r23_4, r23_8, r23_9, r23_12, r23_14, r23_15, r23_18, r23_19, r23_20, r23_21, r23_24, r23_27, r23_29, r23_30, r23_32, r23_33, r23_34, r23_35, r23_36, r23_38, r23_39, r23_42, r23_43, r23_45, r23_48, r23_51, r23_53, Cn_n, Cn_v, Cn_x, dp_0, dp_1, dp_2, dp_3, dp_4, okv_n, okv_i, okv_r, eq_self, true_and, and_true, Option.some.injEq, exists_eq_left', rgT, ixT, ixU, ↓if_pos, ↓if_neg, Int.toNat_natCast, bT0, bT1, g_29_0, g_29_1, g_29_2, g_29_3, s_29_3]
      refine na_search hn hn14 hR1 hs ht hst (fun rf2 qu2 len p hp hp0 hl hln => ?_) (fun rf2 qu2 S hS => ?_)
      · simp (disch := omega) only [r23_0, r23_1, r23_3, r23_4, r23_8, r23_9, r23_12, r23_14, r23_15, r23_18, r23_19, r23_20, r23_21, r23_24, r23_27, r23_29, r23_30, r23_32, r23_33, r23_34, r23_35, r23_36, r23_38, r23_39, r23_42, r23_43, r23_45, r23_48, r23_51, r23_53, Cn_n, Cn_v, Cn_x, dp_0, dp_1, dp_2, dp_3, dp_4, okv_n, okv_i, okv_r, eq_self, true_and, and_true, Option.some.injEq, exists_eq_left', rgT, ixT, ixU, ↓if_pos, ↓if_neg, Int.toNat_natCast, bT0, bT1, g_29_0, g_29_1, g_29_2, g_29_3, s_29_3]
        refine na_send hn hn14 hR1 hp hp0 hl hln (by omega) (by omega) (fun R2 m hm1 hm2 hfl2 => ?_)
        simp (disch := omega) only [r23_0, r23_1, r23_3, r23_4, r23_8, r23_9, r23_12, r23_14, r23_15, r23_18, r23_19, r23_20, r23_21, r23_24, r23_27, r23_29, r23_30, r23_32, r23_33, r23_34, r23_35, r23_36, r23_38, r23_39, r23_42, r23_43, r23_45, r23_48, r23_51, r23_53, Cn_n, Cn_v, Cn_x, dp_0, dp_1, dp_2, dp_3, dp_4, okv_n, okv_i, okv_r, eq_self, true_and, and_true, Option.some.injEq, exists_eq_left', rgT, ixT, ixU, ↓if_pos, ↓if_neg, Int.toNat_natCast, bT0, bT1, g_29_0, g_29_1, g_29_2, g_29_3, s_29_3]
        exact ih (v + m) (x + 1) R2 rf2 qu2 (by omega) (by omega) (by omega) (by omega) (FLW_trans hfl hfl2) (fun h => by omega)
      · simp (disch := omega) only [r23_0, r23_1, r23_3, r23_4, r23_8, r23_9, r23_12, r23_14, r23_15, r23_18, r23_19, r23_20, r23_21, r23_24, r23_27, r23_29, r23_30, r23_32, r23_33, r23_34, r23_35, r23_36, r23_38, r23_39, r23_42, r23_43, r23_45, r23_48, r23_51, r23_53, Cn_n, Cn_v, Cn_x, dp_0, dp_1, dp_2, dp_3, dp_4, okv_n, okv_i, okv_r, eq_self, true_and, and_true, Option.some.injEq, exists_eq_left', rgT, ixT, ixU, ↓if_pos, ↓if_neg, Int.toNat_natCast, bT0, bT1, g_29_0, g_29_1, g_29_2, g_29_3, s_29_3]
        exact hQ R1 rf2 qu2 v (by omega) hva hfl hv0 (Or.inr ⟨S, hS⟩)
theorem na_clear {i : Int} (h0 : 0 ≤ i) (h1 : i ≤ 14) : Ew 19 [vR 29, .inl i] (mk (hna A R rf qu) F q) Q ↔ Q (.inl none, mk (hna A (fun _ => 0) rf qu) (uf F 467 i) q) := by
  unfold Ew
  rw [rc_19 g_29_0 rfl, lc_19]
  by_cases c1 : 14 < i
  · omega
  · simp (disch := omega) only [r19_0, r19_1, r19_2, r19_4, r19_7, r19_10, r19_11, r19_14, r19_15, r19_18, Cn_n, Cn_v, Cn_x, dp_0, dp_1, dp_2, dp_3, dp_4, okv_n, okv_i, okv_r, eq_self, true_and, and_true, Option.some.injEq, exists_eq_left', rgT, ixT, ixU, ↓if_pos, ↓if_neg, Int.toNat_natCast, bT0, bT1, g_29_0, g_29_1, g_29_2, g_29_3, s_29_3, gfill_30, ha_fH]
theorem na_widen (ha : a < 14) (hb : b < 14) : Ew 20 [vR 29, .inl (a : Int), .inl (b : Int), .inl v] (mk (hna A R rf qu) F q) Q ↔ Q (.inl none, mk (hna A (adE R a b v) rf qu) F q) := by
  unfold Ew
  rw [rc_20 g_29_0 rfl rfl rfl, lc_20]
  simp (disch := omega) only [r20_0, r20_1, r20_4, r20_5, r20_6, r20_7, r20_10, Cn_n, Cn_v, Cn_x, dp_0, dp_1, dp_2, dp_3, dp_4, okv_n, okv_i, okv_r, eq_self, true_and, and_true, Option.some.injEq, exists_eq_left', rgT, ixT, ixU, ↓if_pos, ↓if_neg, Int.toNat_natCast, bT0, bT1, g_29_0, g_29_1, g_29_2, g_29_3, s_29_3, gadd_30, ha_H, ha_uH, ha_e]
end NET
section NET2
variable {A : Nat → Nat → Int} {F : Nat → Int} {q : List Int × Nat} {Q : AR → Prop} {n s t : Nat} {R rf qu : Nat → Int} {v am i j : Int}
theorem ha_3 : hna A R rf qu 3 = A 3 := ha_n (by decide) (by decide) (by decide)
theorem na_wid (h0 : 0 ≤ i) (h1 : i < 14) (h2 : 0 ≤ j) (h3 : j < 14) : Ew 20 [vR 29, .inl i, .inl j, .inl v] (mk (hna A R rf qu) F q) Q ↔ Q (.inl none, mk (hna A (adE R i.toNat j.toNat v) rf qu) F q) := by
  have e := @na_widen A F q Q i.toNat j.toNat R rf qu v (by omega) (by omega)
  rw [show ((i.toNat : Nat) : Int) = i by omega, show ((j.toNat : Nat) : Int) = j by omega] at e
  exact e
theorem na_pushi (hi : i = (s : Int)) (hj : j = (t : Int)) (hn : F 467 = n) (hn14 : n ≤ 14) (hB : ∀ a, a < n → ∀ b, b < n → 0 ≤ R (14 * a + b) ∧ R (14 * a + b) + R (14 * b + a) ≤ 100000) (hs : s < n) (ht : t < n) (hst : s ≠ t) (ha0 : 0 ≤ am) (ha2 : am ≤ 100000)
    (hQ : ∀ R1 rf1 qu1 v, 0 ≤ v → v ≤ am → FLW n R R1 s t v → (v = 0 → R1 = R) → (v = am ∨ ∃ S, CUT n R1 s t S) → Q (.inl (some (.inl v)), mk (hna A R1 rf1 qu1) F q)) :
    Ew 23 [vR 29, .inl i, .inl j, .inl am] (mk (hna A R rf qu) F q) Q := by
  subst hi hj
  exact na_push hn hn14 hB hs ht hst ha0 ha2 hQ
end NET2
section NET3
variable {A : Nat → Nat → Int} {F : Nat → Int} {q : List Int × Nat} {Q : AR → Prop} {R rf qu : Nat → Int} {i j : Int}
theorem na_room (h0 : 0 ≤ i) (h1 : i < 14) (h2 : 0 ≤ j) (h3 : j < 14) : Ew 21 [vR 29, .inl i, .inl j] (mk (hna A R rf qu) F q) Q ↔ Q (.inl (some (.inl (R (14 * i.toNat + j.toNat)))), mk (hna A R rf qu) F q) := by
  unfold Ew
  rw [rc_21 g_29_0 rfl rfl, lc_21]
  simp (disch := omega) only [r21_0, r21_1, r21_4, r21_5, r21_6, r21_9, Cn_n, Cn_v, Cn_x, dp_0, dp_1, dp_2, dp_3, dp_4, okv_n, okv_i, okv_r, eq_self, true_and, and_true, Option.some.injEq, exists_eq_left', rgT, ixT, ixU, ↓if_pos, ↓if_neg, Int.toNat_natCast, bT0, bT1, g_29_0, g_29_1, g_29_2, g_29_3, s_29_3, gget_30, ha_H]
theorem na_shut (h0 : 0 ≤ i) (h1 : i < 14) (h2 : 0 ≤ j) (h3 : j < 14) : Ew 22 [vR 29, .inl i, .inl j] (mk (hna A R rf qu) F q) Q ↔ Q (.inl none, mk (hna A (uq (uq R (14 * i.toNat + j.toNat) 0) (14 * j.toNat + i.toNat) 0) rf qu) F q) := by
  unfold Ew
  rw [rc_22 g_29_0 rfl rfl, lc_22]
  simp (disch := omega) only [r22_0, r22_1, r22_4, r22_5, r22_6, r22_7, r22_10, r22_11, r22_14, r22_15, r22_16, r22_17, r22_20, Cn_n, Cn_v, Cn_x, dp_0, dp_1, dp_2, dp_3, dp_4, okv_n, okv_i, okv_r, eq_self, true_and, and_true, Option.some.injEq, exists_eq_left', rgT, ixT, ixU, ↓if_pos, ↓if_neg, Int.toNat_natCast, bT0, bT1, g_29_0, g_29_1, g_29_2, g_29_3, s_29_3, gput_30, ha_H, ha_uH]
end NET3
