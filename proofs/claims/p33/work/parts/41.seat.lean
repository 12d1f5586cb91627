/-! the search for a column in the shop -/
def hpl (A : Nat → Nat → Int) (cr rc rf qu : Nat → Int) : Nat → Nat → Int := ua (ua (ua (ua A 8 cr) 10 rc) 12 rf) 14 qu
section SEAT
variable {A : Nat → Nat → Int} {F : Nat → Int} {q : List Int × Nat} {Q : AR → Prop} {n : Nat} {cr rc : Nat → Int} {fm : Int} {row : Nat} {rf qu f : Nat → Int} {k nx col : Nat} {i : Nat} {v : Int}
theorem hp_8 : hpl A cr rc rf qu 8 = cr := by unfold hpl; rw [ua_n (by decide), ua_n (by decide), ua_n (by decide), ua_s]
theorem hp_10 : hpl A cr rc rf qu 10 = rc := by unfold hpl; rw [ua_n (by decide), ua_n (by decide), ua_s]
theorem hp_12 : hpl A cr rc rf qu 12 = rf := by unfold hpl; rw [ua_n (by decide), ua_s]
theorem hp_14 : hpl A cr rc rf qu 14 = qu := by unfold hpl; rw [ua_s]
theorem hp_n {l : Nat} (h1 : l ≠ 8) (h2 : l ≠ 10) (h3 : l ≠ 12) (h4 : l ≠ 14) : hpl A cr rc rf qu l = A l := by unfold hpl; rw [ua_n h4, ua_n h3, ua_n h2, ua_n h1]
theorem hp_6 : hpl A cr rc rf qu 6 = A 6 := hp_n (by decide) (by decide) (by decide) (by decide)
theorem hp_f8 : ua (hpl A cr rc rf qu) 8 f = hpl A f rc rf qu := by
  unfold hpl
  rw [ua_c (k := 14) (by decide), ua_c (k := 12) (by decide), ua_c (k := 10) (by decide), ua_ua]
theorem hp_f10 : ua (hpl A cr rc rf qu) 10 f = hpl A cr f rf qu := by
  unfold hpl
  rw [ua_c (k := 14) (by decide), ua_c (k := 12) (by decide), ua_ua]
theorem hp_f12 : ua (hpl A cr rc rf qu) 12 f = hpl A cr rc f qu := by
  unfold hpl
  rw [ua_c (k := 14) (by decide), ua_ua]
theorem hp_f14 : ua (hpl A cr rc rf qu) 14 f = hpl A cr rc rf f := by
  unfold hpl
  rw [ua_ua]
theorem hp_u8 : u2 (hpl A cr rc rf qu) 8 i v = hpl A (uq cr i v) rc rf qu := by unfold u2; rw [hp_f8, hp_8]
theorem hp_u10 : u2 (hpl A cr rc rf qu) 10 i v = hpl A cr (uq rc i v) rf qu := by unfold u2; rw [hp_f10, hp_10]
theorem hp_u12 : u2 (hpl A cr rc rf qu) 12 i v = hpl A cr rc (uq rf i v) qu := by unfold u2; rw [hp_f12, hp_12]
theorem hp_u14 : u2 (hpl A cr rc rf qu) 14 i v = hpl A cr rc rf (uq qu i v) := by unfold u2; rw [hp_f14, hp_14]
theorem hp_id : hpl A (A 8) (A 10) (A 12) (A 14) = A := by
  unfold hpl
  rw [ua_id, ua_id, ua_id, ua_id]
theorem sp_chain {cr0 : Nat → Int} {x2 : Int} (hn : F 75 = n) (hn10 : n ≤ 10) (hrow : row < n) (hcr : cr0 row = -1) (hq : QS (A 6) n cr0 fm row rf qu k) (hk : k ≤ n) (hwin : ∀ cr' rc', WIN (A 6) n cr0 fm row cr' rc' → Q (.inl none, mk (hpl A cr' rc' rf qu) F q)) : ∀ (d i c mv : Nat) (cr rc : Nat → Int), i ≤ d → i < k → mv + i < n → CHN (A 6) n cr0 fm row rf qu i c cr rc → ∀ x5 x6 : Option AV, okv x5 = true → okv x6 = true → Wp 48 5 [some (vR 4), some (.inl (row : Int)), some (.inl x2), some (.inl (c : Int)), some (.inl (mv : Int)), x5, x6] [] (mk (hpl A cr rc rf qu) F q) Q := by
  intro d
  induction d with
  | zero =>
    intro i c mv cr rc hid hik hmv hch x5 x6 h5 h6
    obtain rfl : i = 0 := by omega
    have e1 : rf c = row := by rw [hch.2.2.1]; exact hq.1
    have hc := hch.2.1
    have hw := CHN_end hq hcr hik hch hq.1
    rw [r48_5]
    simp (disch := omega) only [r48_0, r48_1, r48_2, r48_3, r48_7, r48_8, r48_11, r48_14, r48_15, r48_18, r48_19, r48_22, r48_24, r48_25, r48_28, r48_30, r48_33, r48_35, r48_36, r48_39, r48_41, r48_42, r48_45, r48_46, r48_49, r48_50, r48_52, r48_55, r48_57, r48_58, r48_61, r48_62, r48_64, r48_65, r48_68, r48_71, Cn_n, Cn_v, Cn_x, dp_0, dp_1, dp_2, dp_3, dp_4, okv_n, okv_i, okv_r, eq_self, true_and, and_true, Option.some.injEq, exists_eq_left', rgT, ixT, ixU, ↓if_pos, ↓if_neg, Int.toNat_natCast, bT0, bT1, g_4_0, g_4_1, g_4_2, g_4_3, g_4_4, g_4_5, g_4_6, g_4_7, g_4_8, s_4_8, g_4_9, s_4_9, g_4_10, s_4_10, g_4_11, s_4_11, g_4_12, s_4_12, h5, h6, rget_11, rget_7, rput_7, rput_9, hp_8, hp_12, hp_u8, hp_u10, e1]
    exact hwin _ _ hw
  | succ d ih =>
    intro i c mv cr rc hid hik hmv hch x5 x6 h5 h6
    have hc := hch.2.1
    have hq2 := hq.2.1 i hik
    obtain ⟨r, hr⟩ : ∃ r : Nat, qu i = r := ⟨(qu i).toNat, by omega⟩
    have e1 : rf c = (r : Int) := by rw [hch.2.2.1]; exact hr
    by_cases h9 : qu i = row
    · have hw := CHN_end hq hcr hik hch h9
      have e2 : r = row := by omega
      subst e2
      rw [r48_5]
      simp (disch := omega) only [r48_0, r48_1, r48_2, r48_3, r48_7, r48_8, r48_11, r48_14, r48_15, r48_18, r48_19, r48_22, r48_24, r48_25, r48_28, r48_30, r48_33, r48_35, r48_36, r48_39, r48_41, r48_42, r48_45, r48_46, r48_49, r48_50, r48_52, r48_55, r48_57, r48_58, r48_61, r48_62, r48_64, r48_65, r48_68, r48_71, Cn_n, Cn_v, Cn_x, dp_0, dp_1, dp_2, dp_3, dp_4, okv_n, okv_i, okv_r, eq_self, true_and, and_true, Option.some.injEq, exists_eq_left', rgT, ixT, ixU, ↓if_pos, ↓if_neg, Int.toNat_natCast, bT0, bT1, g_4_0, g_4_1, g_4_2, g_4_3, g_4_4, g_4_5, g_4_6, g_4_7, g_4_8, s_4_8, g_4_9, s_4_9, g_4_10, s_4_10, g_4_11, s_4_11, g_4_12, s_4_12, h5, h6, rget_11, rget_7, rput_7, rput_9, hp_8, hp_12, hp_u8, hp_u10, e1]
      exact hwin _ _ hw
    · obtain ⟨i2, y, y1, y2, y3, y4⟩ := CHN_step hq hik hch h9
      rw [hr, Int.toNat_natCast] at y2 y4
      rw [r48_5]
      simp (disch := omega) only [r48_0, r48_1, r48_2, r48_3, r48_7, r48_8, r48_11, r48_14, r48_15, r48_18, r48_19, r48_22, r48_24, r48_25, r48_28, r48_30, r48_33, r48_35, r48_36, r48_39, r48_41, r48_42, r48_45, r48_46, r48_49, r48_50, r48_52, r48_55, r48_57, r48_58, r48_61, r48_62, r48_64, r48_65, r48_68, r48_71, Cn_n, Cn_v, Cn_x, dp_0, dp_1, dp_2, dp_3, dp_4, okv_n, okv_i, okv_r, eq_self, true_and, and_true, Option.some.injEq, exists_eq_left', rgT, ixT, ixU, ↓if_pos, ↓if_neg, Int.toNat_natCast, bT0, bT1, g_4_0, g_4_1, g_4_2, g_4_3, g_4_4, g_4_5, g_4_6, g_4_7, g_4_8, s_4_8, g_4_9, s_4_9, g_4_10, s_4_10, g_4_11, s_4_11, g_4_12, s_4_12, h5, h6, rget_11, rget_7, rput_7, rput_9, hp_8, hp_12, hp_u8, hp_u10, e1, y2]
      exact ih i2 y (mv + 1) _ _ (by omega) (by omega) (by omega) y4 (some (.inl (r : Int))) (some (.inl (y : Int))) rfl rfl
theorem sp_seat (hn : F 75 = n) (hn10 : n ≤ 10) (hW : ∀ r, r < n → ∀ c, c < n → 0 ≤ A 6 (10 * r + c) ∧ A 6 (10 * r + c) ≤ 100000) (hp : PMT (A 6) n cr rc) (hrow : row < n) (hcr : cr row = -1) (hf : fm < row) (hf1 : -1 ≤ fm)
    (hwin : ∀ cr' rc' rf' qu', WIN (A 6) n cr fm row cr' rc' → Q (.inl (some (.inl 1)), mk (hpl A cr' rc' rf' qu') F q))
    (hfail : ∀ rf' qu' k nx col, BF (A 6) n cr rc fm row rf' qu' k nx col → k ≤ nx → Q (.inl (some (.inl 0)), mk (hpl A cr rc rf' qu') F q)) :
    Ew 47 [vR 4, .inl (row : Int), .inl fm] (mk (hpl A cr rc rf qu) F q) Q := by
  refine ⟨rc_47 g_4_0 rfl rfl, ?_⟩
  rw [lc_47]
  simp (disch := omega) only [r47_0, r47_1, r47_4, r47_5, r47_8, r47_9, r47_12, r47_13, r47_14, r47_17, r47_18, r47_19, r47_20, r47_24, r47_25, r47_28, r47_30, r47_31, r47_34, r47_37, r47_38, r47_41, r47_43, r47_46, r47_48, r47_49, r47_53, r47_54, r47_57, r47_60, r47_61, r47_64, r47_66, r47_69, r47_71, r47_73, r47_74, r47_77, r47_79, r47_80, r47_83, r47_84, r47_87, r47_88, r47_90, r47_92, r47_95, r47_96, r47_99, r47_101, r47_104, r47_105, r47_108, r47_109, r47_112, r47_114, r47_116, r47_119, r47_122, r47_125, r47_126, r47_129, r47_131, r47_133, r47_136, r47_138, r47_139, r47_142, r47_143, r47_144, r47_146, r47_149, r47_150, r47_151, r47_152, r47_155, r47_156, r47_158, r47_161, r47_164, r47_167, r47_170, r47_173, r47_176, r47_177, Cn_n, Cn_v, Cn_x, dp_0, dp_1, dp_2, dp_3, dp_4, okv_n, okv_i, okv_r, eq_self, true_and, and_true, Option.some.injEq, exists_eq_left', rgT, ixT, ixU, ↓if_pos, ↓if_neg, Int.toNat_natCast, bT0, bT1, g_4_0, g_4_1, g_4_2, g_4_3, g_4_4, g_4_5, g_4_6, g_4_7, g_4_8, s_4_8, g_4_9, s_4_9, g_4_10, s_4_10, g_4_11, s_4_11, g_4_12, s_4_12, rfill_11, rput_13, hp_f12, hp_u14]
  suffices key : ∀ (d nx k : Nat) (rf qu : Nat → Int), nx + d = n → BF (A 6) n cr rc fm row rf qu k nx 0 → ∀ x5 x6 x7 x8 : Option AV, okv x5 = true → okv x6 = true → okv x7 = true → okv x8 = true → Wp 47 22 [some (vR 4), some (.inl (row : Int)), some (.inl fm), some (.inl (k : Int)), some (.inl (nx : Int)), x5, x6, x7, x8] [] (mk (hpl A cr rc rf qu) F q) Q by
    exact key n 0 1 _ _ (by omega) (BF_init hrow hf (fun _ => rfl) uq_s) _ _ _ _ rfl rfl rfl rfl
  intro d
  induction d with
  | zero =>
    intro nx k rf qu hd hb x5 x6 x7 x8 h5 h6 h7 h8
    have hkn := BF_k hb
    rw [r47_22]
    have h9 : ¬ nx < k := by omega
    simp (disch := omega) only [r47_0, r47_1, r47_4, r47_5, r47_8, r47_9, r47_12, r47_13, r47_14, r47_17, r47_18, r47_19, r47_20, r47_24, r47_25, r47_28, r47_30, r47_31, r47_34, r47_37, r47_38, r47_41, r47_43, r47_46, r47_48, r47_49, r47_53, r47_54, r47_57, r47_60, r47_61, r47_64, r47_66, r47_69, r47_71, r47_73, r47_74, r47_77, r47_79, r47_80, r47_83, r47_84, r47_87, r47_88, r47_90, r47_92, r47_95, r47_96, r47_99, r47_101, r47_104, r47_105, r47_108, r47_109, r47_112, r47_114, r47_116, r47_119, r47_122, r47_125, r47_126, r47_129, r47_131, r47_133, r47_136, r47_138, r47_139, r47_142, r47_143, r47_144, r47_146, r47_149, r47_150, r47_151, r47_152, r47_155, r47_156, r47_158, r47_161, r47_164, r47_167, r47_170, r47_173, r47_176, r47_177, Cn_n, Cn_v, Cn_x, dp_0, dp_1, dp_2, dp_3, dp_4, okv_n, okv_i, okv_r, eq_self, true_and, and_true, Option.some.injEq, exists_eq_left', rgT, ixT, ixU, ↓if_pos, ↓if_neg, Int.toNat_natCast, bT0, bT1, g_4_0, g_4_1, g_4_2, g_4_3, g_4_4, g_4_5, g_4_6, g_4_7, g_4_8, s_4_8, g_4_9, s_4_9, g_4_10, s_4_10, g_4_11, s_4_11, g_4_12, s_4_12]
    exact hfail _ _ _ _ _ hb (by omega)
  | succ d ih =>
    intro nx k rf qu hd hb x5 x6 x7 x8 h5 h6 h7 h8
    have hkn := BF_k hb
    rw [r47_22]
    by_cases h9 : nx < k
    · have hq2 := hb.2.1 nx h9
      obtain ⟨r, hr⟩ : ∃ r : Nat, qu nx = r := ⟨(qu nx).toNat, by omega⟩
      simp (disch := omega) only [r47_0, r47_1, r47_4, r47_5, r47_8, r47_9, r47_12, r47_13, r47_14, r47_17, r47_18, r47_19, r47_20, r47_24, r47_25, r47_28, r47_30, r47_31, r47_34, r47_37, r47_38, r47_41, r47_43, r47_46, r47_48, r47_49, r47_53, r47_54, r47_57, r47_60, r47_61, r47_64, r47_66, r47_69, r47_71, r47_73, r47_74, r47_77, r47_79, r47_80, r47_83, r47_84, r47_87, r47_88, r47_90, r47_92, r47_95, r47_96, r47_99, r47_101, r47_104, r47_105, r47_108, r47_109, r47_112, r47_114, r47_116, r47_119, r47_122, r47_125, r47_126, r47_129, r47_131, r47_133, r47_136, r47_138, r47_139, r47_142, r47_143, r47_144, r47_146, r47_149, r47_150, r47_151, r47_152, r47_155, r47_156, r47_158, r47_161, r47_164, r47_167, r47_170, r47_173, r47_176, r47_177, Cn_n, Cn_v, Cn_x, dp_0, dp_1, dp_2, dp_3, dp_4, okv_n, okv_i, okv_r, eq_self, true_and, and_true, Option.some.injEq, exists_eq_left', rgT, ixT, ixU, ↓if_pos, ↓if_neg, Int.toNat_natCast, bT0, bT1, g_4_0, g_4_1, g_4_2, g_4_3, g_4_4, g_4_5, g_4_6, g_4_7, g_4_8, s_4_8, g_4_9, s_4_9, g_4_10, s_4_10, g_4_11, s_4_11, g_4_12, s_4_12, h5, h6, h7, h8, rget_13, hp_14, hr]
      suffices key2 : ∀ (d2 col k : Nat) (rf qu : Nat → Int), col + d2 = n → nx < k → qu nx = r → BF (A 6) n cr rc fm row rf qu k nx col → ∀ x7 x8 : Option AV, okv x7 = true → okv x8 = true → Wp 47 51 [some (vR 4), some (.inl (row : Int)), some (.inl fm), some (.inl (k : Int)), some (.inl (nx : Int)), some (.inl (r : Int)), some (.inl (col : Int)), x7, x8] [] (mk (hpl A cr rc rf qu) F q) Q by
        exact key2 n 0 k rf qu (by omega) h9 hr hb x7 x8 h7 h8
      clear hb h9 hr hkn hq2 k rf qu h5 h6 h7 h8 x5 x6 x7 x8
      intro d2
      induction d2 with
      | zero =>
        intro col k rf qu hc hk hr hb x7 x8 h7 h8
        obtain rfl : col = n := by omega
        rw [r47_51]
        simp (disch := omega) only [r47_0, r47_1, r47_4, r47_5, r47_8, r47_9, r47_12, r47_13, r47_14, r47_17, r47_18, r47_19, r47_20, r47_24, r47_25, r47_28, r47_30, r47_31, r47_34, r47_37, r47_38, r47_41, r47_43, r47_46, r47_48, r47_49, r47_53, r47_54, r47_57, r47_60, r47_61, r47_64, r47_66, r47_69, r47_71, r47_73, r47_74, r47_77, r47_79, r47_80, r47_83, r47_84, r47_87, r47_88, r47_90, r47_92, r47_95, r47_96, r47_99, r47_101, r47_104, r47_105, r47_108, r47_109, r47_112, r47_114, r47_116, r47_119, r47_122, r47_125, r47_126, r47_129, r47_131, r47_133, r47_136, r47_138, r47_139, r47_142, r47_143, r47_144, r47_146, r47_149, r47_150, r47_151, r47_152, r47_155, r47_156, r47_158, r47_161, r47_164, r47_167, r47_170, r47_173, r47_176, r47_177, Cn_n, Cn_v, Cn_x, dp_0, dp_1, dp_2, dp_3, dp_4, okv_n, okv_i, okv_r, eq_self, true_and, and_true, Option.some.injEq, exists_eq_left', rgT, ixT, ixU, ↓if_pos, ↓if_neg, Int.toNat_natCast, bT0, bT1, g_4_0, g_4_1, g_4_2, g_4_3, g_4_4, g_4_5, g_4_6, g_4_7, g_4_8, s_4_8, g_4_9, s_4_9, g_4_10, s_4_10, g_4_11, s_4_11, g_4_12, s_4_12, h7, h8]
        exact ih (nx + 1) k rf qu (by omega) (BF_next hb) _ _ _ _ rfl rfl h7 h8
      | succ d2 ih2 =>
        intro col k rf qu hc hk hr hb x7 x8 h7 h8
        have hkn := BF_k hb
        have hq2 := hb.2.1 nx hk
        have w9 := hW r (by omega) col (by omega)
        have hrc : -1 ≤ rc col ∧ rc col < n := by
          rcases hp.2 col (by omega) with h | h
          · omega
          · omega
        have hrf : -1 ≤ rf col ∧ rf col < n := by
          by_cases h : rf col = -1
          · omega
          · obtain ⟨⟨i3, z1, z2, z3⟩, -⟩ := hb.2.2.1 col (by omega) h
            have := hb.2.1 i3 z1
            omega
        rw [r47_51]
        by_cases k1 : rc col ≠ -1 ∧ rc col ≤ fm
        · simp (disch := omega) only [r47_0, r47_1, r47_4, r47_5, r47_8, r47_9, r47_12, r47_13, r47_14, r47_17, r47_18, r47_19, r47_20, r47_24, r47_25, r47_28, r47_30, r47_31, r47_34, r47_37, r47_38, r47_41, r47_43, r47_46, r47_48, r47_49, r47_53, r47_54, r47_57, r47_60, r47_61, r47_64, r47_66, r47_69, r47_71, r47_73, r47_74, r47_77, r47_79, r47_80, r47_83, r47_84, r47_87, r47_88, r47_90, r47_92, r47_95, r47_96, r47_99, r47_101, r47_104, r47_105, r47_108, r47_109, r47_112, r47_114, r47_116, r47_119, r47_122, r47_125, r47_126, r47_129, r47_131, r47_133, r47_136, r47_138, r47_139, r47_142, r47_143, r47_144, r47_146, r47_149, r47_150, r47_151, r47_152, r47_155, r47_156, r47_158, r47_161, r47_164, r47_167, r47_170, r47_173, r47_176, r47_177, Cn_n, Cn_v, Cn_x, dp_0, dp_1, dp_2, dp_3, dp_4, okv_n, okv_i, okv_r, eq_self, true_and, and_true, Option.some.injEq, exists_eq_left', rgT, ixT, ixU, ↓if_pos, ↓if_neg, Int.toNat_natCast, bT0, bT1, g_4_0, g_4_1, g_4_2, g_4_3, g_4_4, g_4_5, g_4_6, g_4_7, g_4_8, s_4_8, g_4_9, s_4_9, g_4_10, s_4_10, g_4_11, s_4_11, g_4_12, s_4_12, h7, h8, rget_9, hp_10]
          exact ih2 (col + 1) k rf qu (by omega) hk hr (BF_skip hb (Or.inl k1)) _ _ rfl rfl
        · by_cases k2 : rf col = -1
          · by_cases k3 : A 6 (10 * r + col) ≤ 0
            · have sk := BF_skip hb (Or.inr (Or.inr (by rw [hr, Int.toNat_natCast]; exact k3)))
              by_cases k4 : rc col = -1
              · simp (disch := omega) only [r47_0, r47_1, r47_4, r47_5, r47_8, r47_9, r47_12, r47_13, r47_14, r47_17, r47_18, r47_19, r47_20, r47_24, r47_25, r47_28, r47_30, r47_31, r47_34, r47_37, r47_38, r47_41, r47_43, r47_46, r47_48, r47_49, r47_53, r47_54, r47_57, r47_60, r47_61, r47_64, r47_66, r47_69, r47_71, r47_73, r47_74, r47_77, r47_79, r47_80, r47_83, r47_84, r47_87, r47_88, r47_90, r47_92, r47_95, r47_96, r47_99, r47_101, r47_104, r47_105, r47_108, r47_109, r47_112, r47_114, r47_116, r47_119, r47_122, r47_125, r47_126, r47_129, r47_131, r47_133, r47_136, r47_138, r47_139, r47_142, r47_143, r47_144, r47_146, r47_149, r47_150, r47_151, r47_152, r47_155, r47_156, r47_158, r47_161, r47_164, r47_167, r47_170, r47_173, r47_176, r47_177, Cn_n, Cn_v, Cn_x, dp_0, dp_1, dp_2, dp_3, dp_4, okv_n, okv_i, okv_r, eq_self, true_and, and_true, Option.some.injEq, exists_eq_left', rgT, ixT, ixU, ↓if_pos, ↓if_neg, Int.toNat_natCast, bT0, bT1, g_4_0, g_4_1, g_4_2, g_4_3, g_4_4, g_4_5, g_4_6, g_4_7, g_4_8, s_4_8, g_4_9, s_4_9, g_4_10, s_4_10, g_4_11, s_4_11, g_4_12, s_4_12, h7, h8, rget_9, hp_10, rget_11, hp_12, gget_5, hp_6]
                exact ih2 (col + 1) k rf qu (by omega) hk hr sk _ _ rfl rfl
              · simp (disch := omega) only [r47_0, r47_1, r47_4, r47_5, r47_8, r47_9, r47_12, r47_13, r47_14, r47_17, r47_18, r47_19, r47_20, r47_24, r47_25, r47_28, r47_30, r47_31, r47_34, r47_37, r47_38, r47_41, r47_43, r47_46, r47_48, r47_49, r47_53, r47_54, r47_57, r47_60, r47_61, r47_64, r47_66, r47_69, r47_71, r47_73, r47_74, r47_77, r47_79, r47_80, r47_83, r47_84, r47_87, r47_88, r47_90, r47_92, r47_95, r47_96, r47_99, r47_101, r47_104, r47_105, r47_108, r47_109, r47_112, r47_114, r47_116, r47_119, r47_122, r47_125, r47_126, r47_129, r47_131, r47_133, r47_136, r47_138, r47_139, r47_142, r47_143, r47_144, r47_146, r47_149, r47_150, r47_151, r47_152, r47_155, r47_156, r47_158, r47_161, r47_164, r47_167, r47_170, r47_173, r47_176, r47_177, Cn_n, Cn_v, Cn_x, dp_0, dp_1, dp_2, dp_3, dp_4, okv_n, okv_i, okv_r, eq_self, true_and, and_true, Option.some.injEq, exists_eq_left', rgT, ixT, ixU, ↓if_pos, ↓if_neg, Int.toNat_natCast, bT0, bT1, g_4_0, g_4_1, g_4_2, g_4_3, g_4_4, g_4_5, g_4_6, g_4_7, g_4_8, s_4_8, g_4_9, s_4_9, g_4_10, s_4_10, g_4_11, s_4_11, g_4_12, s_4_12, h7, h8, rget_9, hp_10, rget_11, hp_12, gget_5, hp_6]
                exact ih2 (col + 1) k rf qu (by omega) hk hr sk _ _ rfl rfl
            · have hw : 0 < A 6 (10 * (qu nx).toNat + col) := by rw [hr, Int.toNat_natCast]; omega
              by_cases k4 : rc col = -1
              · have win := BF_win hp hb hk (by omega) k4 hw k2
                rw [hr] at win
                have hch := sp_chain (A := A) (F := F) (q := q) (Q := fun x => Cn 47 149 [some (vR 4), some (.inl (row : Int)), some (.inl fm), some (.inl (k : Int)), some (.inl (nx : Int)), some (.inl (r : Int)), some (.inl (col : Int)), some (.inl (rc col)), some (.inl 0)] [] x Q) (x2 := (col : Int)) hn hn10 hrow hcr win.1 hkn (fun cr' rc' hw9 => by
                  simp only [r47_0, r47_1, r47_4, r47_5, r47_8, r47_9, r47_12, r47_13, r47_14, r47_17, r47_18, r47_19, r47_20, r47_24, r47_25, r47_28, r47_30, r47_31, r47_34, r47_37, r47_38, r47_41, r47_43, r47_46, r47_48, r47_49, r47_53, r47_54, r47_57, r47_60, r47_61, r47_64, r47_66, r47_69, r47_71, r47_73, r47_74, r47_77, r47_79, r47_80, r47_83, r47_84, r47_87, r47_88, r47_90, r47_92, r47_95, r47_96, r47_99, r47_101, r47_104, r47_105, r47_108, r47_109, r47_112, r47_114, r47_116, r47_119, r47_122, r47_125, r47_126, r47_129, r47_131, r47_133, r47_136, r47_138, r47_139, r47_142, r47_143, r47_144, r47_146, r47_149, r47_150, r47_151, r47_152, r47_155, r47_156, r47_158, r47_161, r47_164, r47_167, r47_170, r47_173, r47_176, r47_177, Cn_n, Cn_v, Cn_x, dp_0, dp_1, dp_2, dp_3, dp_4, okv_n, okv_i, okv_r, eq_self, true_and, and_true, Option.some.injEq, exists_eq_left', rgT, ixT, ixU, ↓if_pos, ↓if_neg, Int.toNat_natCast, bT0, bT1]
                  exact hwin _ _ _ _ hw9) nx nx col 0 cr rc (Nat.le_refl _) hk (by omega) (by
                    have := win.2
                    rw [← hr] at this ⊢
                    exact this) none none rfl rfl
                have hch2 : Ew 48 [vR 4, .inl (row : Int), .inl (col : Int)] (mk (hpl A cr rc (uq rf col (r : Int)) qu) F q) (fun x => Cn 47 149 [some (vR 4), some (.inl (row : Int)), some (.inl fm), some (.inl (k : Int)), some (.inl (nx : Int)), some (.inl (r : Int)), some (.inl (col : Int)), some (.inl (rc col)), some (.inl 0)] [] x Q) := by
                  refine ⟨rc_48 g_4_0 rfl rfl, ?_⟩
                  rw [lc_48]
                  simp only [r48_0, r48_1, r48_2, r48_3, r48_7, r48_8, r48_11, r48_14, r48_15, r48_18, r48_19, r48_22, r48_24, r48_25, r48_28, r48_30, r48_33, r48_35, r48_36, r48_39, r48_41, r48_42, r48_45, r48_46, r48_49, r48_50, r48_52, r48_55, r48_57, r48_58, r48_61, r48_62, r48_64, r48_65, r48_68, r48_71, Cn_n, Cn_v, Cn_x, dp_0, dp_1, dp_2, dp_3, dp_4, okv_n, okv_i, okv_r, eq_self, true_and, and_true, Option.some.injEq, exists_eq_left']
                  exact hch
                simp (disch := omega) only [r47_0, r47_1, r47_4, r47_5, r47_8, r47_9, r47_12, r47_13, r47_14, r47_17, r47_18, r47_19, r47_20, r47_24, r47_25, r47_28, r47_30, r47_31, r47_34, r47_37, r47_38, r47_41, r47_43, r47_46, r47_48, r47_49, r47_53, r47_54, r47_57, r47_60, r47_61, r47_64, r47_66, r47_69, r47_71, r47_73, r47_74, r47_77, r47_79, r47_80, r47_83, r47_84, r47_87, r47_88, r47_90, r47_92, r47_95, r47_96, r47_99, r47_101, r47_104, r47_105, r47_108, r47_109, r47_112, r47_114, r47_116, r47_119, r47_122, r47_125, r47_126, r47_129, r47_131, r47_133, r47_136, r47_138, r47_139, r47_142, r47_143, r47_144, r47_146, r47_149, r47_150, r47_151, r47_152, r47_155, r47_156, r47_158, r47_161, r47_164, r47_167, r47_170, r47_173, r47_176, r47_177, Cn_n, Cn_v, Cn_x, dp_0, dp_1, dp_2, dp_3, dp_4, okv_n, okv_i, okv_r, eq_self, true_and, and_true, Option.some.injEq, exists_eq_left', rgT, ixT, ixU, ↓if_pos, ↓if_neg, Int.toNat_natCast, bT0, bT1, g_4_0, g_4_1, g_4_2, g_4_3, g_4_4, g_4_5, g_4_6, g_4_7, g_4_8, s_4_8, g_4_9, s_4_9, g_4_10, s_4_10, g_4_11, s_4_11, g_4_12, s_4_12, h7, h8, rget_9, hp_10, rget_11, hp_12, gget_5, hp_6, rput_11, hp_u12]
                exact hch2
              · have ps := BF_push hp hcr hb hk (by omega) (by omega) (by omega) k2 hw
                have hk1 := BF_k ps
                rw [hr] at ps
                simp (disch := omega) only [r47_0, r47_1, r47_4, r47_5, r47_8, r47_9, r47_12, r47_13, r47_14, r47_17, r47_18, r47_19, r47_20, r47_24, r47_25, r47_28, r47_30, r47_31, r47_34, r47_37, r47_38, r47_41, r47_43, r47_46, r47_48, r47_49, r47_53, r47_54, r47_57, r47_60, r47_61, r47_64, r47_66, r47_69, r47_71, r47_73, r47_74, r47_77, r47_79, r47_80, r47_83, r47_84, r47_87, r47_88, r47_90, r47_92, r47_95, r47_96, r47_99, r47_101, r47_104, r47_105, r47_108, r47_109, r47_112, r47_114, r47_116, r47_119, r47_122, r47_125, r47_126, r47_129, r47_131, r47_133, r47_136, r47_138, r47_139, r47_142, r47_143, r47_144, r47_146, r47_149, r47_150, r47_151, r47_152, r47_155, r47_156, r47_158, r47_161, r47_164, r47_167, r47_170, r47_173, r47_176, r47_177, Cn_n, Cn_v, Cn_x, dp_0, dp_1, dp_2, dp_3, dp_4, okv_n, okv_i, okv_r, eq_self, true_and, and_true, Option.some.injEq, exists_eq_left', rgT, ixT, ixU, ↓if_pos, ↓if_neg, Int.toNat_natCast, bT0, bT1, g_4_0, g_4_1, g_4_2, g_4_3, g_4_4, g_4_5, g_4_6, g_4_7, g_4_8, s_4_8, g_4_9, s_4_9, g_4_10, s_4_10, g_4_11, s_4_11, g_4_12, s_4_12, h7, h8, rget_9, hp_10, rget_11, hp_12, gget_5, hp_6, rput_11, hp_u12, rput_13, hp_u14]
                exact ih2 (col + 1) (k + 1) _ _ (by omega) (by omega) (by rw [uq_n (by omega)]; exact hr) ps (some (.inl (rc col))) (some (.inl 0)) rfl rfl
          · have sk := BF_skip hb (Or.inr (Or.inl k2))
            by_cases k4 : rc col = -1
            · simp (disch := omega) only [r47_0, r47_1, r47_4, r47_5, r47_8, r47_9, r47_12, r47_13, r47_14, r47_17, r47_18, r47_19, r47_20, r47_24, r47_25, r47_28, r47_30, r47_31, r47_34, r47_37, r47_38, r47_41, r47_43, r47_46, r47_48, r47_49, r47_53, r47_54, r47_57, r47_60, r47_61, r47_64, r47_66, r47_69, r47_71, r47_73, r47_74, r47_77, r47_79, r47_80, r47_83, r47_84, r47_87, r47_88, r47_90, r47_92, r47_95, r47_96, r47_99, r47_101, r47_104, r47_105, r47_108, r47_109, r47_112, r47_114, r47_116, r47_119, r47_122, r47_125, r47_126, r47_129, r47_131, r47_133, r47_136, r47_138, r47_139, r47_142, r47_143, r47_144, r47_146, r47_149, r47_150, r47_151, r47_152, r47_155, r47_156, r47_158, r47_161, r47_164, r47_167, r47_170, r47_173, r47_176, r47_177, Cn_n, Cn_v, Cn_x, dp_0, dp_1, dp_2, dp_3, dp_4, okv_n, okv_i, okv_r, eq_self, true_and, and_true, Option.some.injEq, exists_eq_left', rgT, ixT, ixU, ↓if_pos, ↓if_neg, Int.toNat_natCast, bT0, bT1, g_4_0, g_4_1, g_4_2, g_4_3, g_4_4, g_4_5, g_4_6, g_4_7, g_4_8, s_4_8, g_4_9, s_4_9, g_4_10, s_4_10, g_4_11, s_4_11, g_4_12, s_4_12, h7, h8, rget_9, hp_10, rget_11, hp_12]
              exact ih2 (col + 1) k rf qu (by omega) hk hr sk _ _ rfl rfl
            · simp (disch := omega) only [r47_0, r47_1, r47_4, r47_5, r47_8, r47_9, r47_12, r47_13, r47_14, r47_17, r47_18, r47_19, r47_20, r47_24, r47_25, r47_28, r47_30, r47_31, r47_34, r47_37, r47_38, r47_41, r47_43, r47_46, r47_48, r47_49, r47_53, r47_54, r47_57, r47_60, r47_61, r47_64, r47_66, r47_69, r47_71, r47_73, r47_74, r47_77, r47_79, r47_80, r47_83, r47_84, r47_87, r47_88, r47_90, r47_92, r47_95, r47_96, r47_99, r47_101, r47_104, r47_105, r47_108, r47_109, r47_112, r47_114, r47_116, r47_119, r47_122, r47_125, r47_126, r47_129, r47_131, r47_133, r47_136, r47_138, r47_139, r47_142, r47_143, r47_144, r47_146, r47_149, r47_150, r47_151, r47_152, r47_155, r47_156, r47_158, r47_161, r47_164, r47_167, r47_170, r47_173, r47_176, r47_177, Cn_n, Cn_v, Cn_x, dp_0, dp_1, dp_2, dp_3, dp_4, okv_n, okv_i, okv_r, eq_self, true_and, and_true, Option.some.injEq, exists_eq_left', rgT, ixT, ixU, ↓if_pos, ↓if_neg, Int.toNat_natCast, bT0, bT1, g_4_0, g_4_1, g_4_2, g_4_3, g_4_4, g_4_5, g_4_6, g_4_7, g_4_8, s_4_8, g_4_9, s_4_9, g_4_10, s_4_10, g_4_11, s_4_11, g_4_12, s_4_12, h7, h8, rget_9, hp_10, rget_11, hp_12]
              exact ih2 (col + 1) k rf qu (by omega) hk hr sk _ _ rfl rfl
    · simp (disch := omega) only [r47_0, r47_1, r47_4, r47_5, r47_8, r47_9, r47_12, r47_13, r47_14, r47_17, r47_18, r47_19, r47_20, r47_24, r47_25, r47_28, r47_30, r47_31, r47_34, r47_37, r47_38, r47_41, r47_43, r47_46, r47_48, r47_49, r47_53, r47_54, r47_57, r47_60, r47_61, r47_64, r47_66, r47_69, r47_71, r47_73, r47_74, r47_77, r47_79, r47_80, r47_83, r47_84, r47_87, r47_88, r47_90, r47_92, r47_95, r47_96, r47_99, r47_101, r47_104, r47_105, r47_108, r47_109, r47_112, r47_114, r47_116, r47_119, r47_122, r47_125, r47_126, r47_129, r47_131, r47_133, r47_136, r47_138, r47_139, r47_142, r47_143, r47_144, r47_146, r47_149, r47_150, r47_151, r47_152, r47_155, r47_156, r47_158, r47_161, r47_164, r47_167, r47_170, r47_173, r47_176, r47_177, Cn_n, Cn_v, Cn_x, dp_0, dp_1, dp_2, dp_3, dp_4, okv_n, okv_i, okv_r, eq_self, true_and, and_true, Option.some.injEq, exists_eq_left', rgT, ixT, ixU, ↓if_pos, ↓if_neg, Int.toNat_natCast, bT0, bT1, g_4_0, g_4_1, g_4_2, g_4_3, g_4_4, g_4_5, g_4_6, g_4_7, g_4_8, s_4_8, g_4_9, s_4_9, g_4_10, s_4_10, g_4_11, s_4_11, g_4_12, s_4_12]
      exact hfail _ _ _ _ _ hb (by omega)
end SEAT
