/-! the model takes the filled table apart, to its end -/
theorem uf_self {F : Nat → Int} {k : Nat} {v : Int} (h : F k = v) : uf F k v = F := by
  rw [← h, uf_id]
section APART
variable {A : Nat → Nat → Int} {F : Nat → Int} {q : List Int × Nat} {Q : AR → Prop} {J M n s : Nat}
theorem mx_rows {sg : Nat → Nat} {W : Nat → Int} {lf : Int} (hn : n ≤ 10) (h50 : A 50 = W) (hC : ∀ x, x < 2 ^ n → A 53 x = bi (ext W n (n - pcn 10 x) x)) (hl : ISLF W n sg) (hW : ∀ r, r < n → ∀ c, c < n → 0 ≤ W (10 * r + c) ∧ W (10 * r + c) ≤ 100000) (hs : F 775 = s) (hs60 : s < 60) (hlf : 0 ≤ lf ∧ lf ≤ 100000)
    (hk : ∀ (C : Nat → Int) (m : Nat) (x6 : Option AV), okv x6 = true → (∀ i, i < n → C (10 * s + i) = (sg i : Int)) → (∀ x, x < 10 * s → C x = A 52 x) → Wp 140 200 [some (vR 48), some (.inl (n : Int)), some (.inl lf), some (.inl (m : Int)), some (.inl (imn (fun r => W (10 * r + sg r)) lf n)), some (.inl (n : Int)), x6] [] (mk (ua A 52 C) F q) Q) :
    ∀ (d r : Nat) (C : Nat → Int), r + d = n → (∀ i, i < r → C (10 * s + i) = (sg i : Int)) → (∀ x, x < 10 * s → C x = A 52 x) → ∀ x6 : Option AV, okv x6 = true → Wp 140 77 [some (vR 48), some (.inl (n : Int)), some (.inl lf), some (.inl (msk sg r : Int)), some (.inl (imn (fun r => W (10 * r + sg r)) lf r)), some (.inl (r : Int)), x6] [] (mk (ua A 52 C) F q) Q := by
  have hP : 2 ^ n ≤ 1024 := two_le ⟨n, by omega⟩
  intro d
  induction d with
  | zero =>
    intro r C hr hC1 hC2 x6 h6
    obtain rfl : r = n := by omega
    rw [r140_77]
    simp (disch := omega) only [r140_79, r140_80, Cn_n, Cn_v, Cn_x, dp_0, dp_1, dp_2, dp_3, dp_4, okv_n, okv_i, okv_r, eq_self, true_and, and_true, Option.some.injEq, exists_eq_left', rgT, ixT, ixU, ↓if_pos, ↓if_neg, Int.toNat_natCast, bT0, bT1]
    exact hk C _ x6 h6 hC1 hC2
  | succ d ih =>
    intro r C hr hC1 hC2 x6 h6
    have m1 := msk_lt hn (fun r hr => (hl.1.1 r hr).1) (r := r) (by omega)
    have s9 := (hl.1.1 r (by omega)).1
    have w9 := hW r (by omega) (sg r) s9
    have i9 : 0 ≤ imn (fun r => W (10 * r + sg r)) lf r ∧ imn (fun r => W (10 * r + sg r)) lf r ≤ 100000 := by
      rcases @imn_is (fun r => W (10 * r + sg r)) lf r with h | ⟨i, hi, h⟩
      · omega
      · rw [h]; exact hW i (by omega) (sg i) (hl.1.1 i (by omega)).1
    rw [r140_77]
    simp (disch := omega) only [r140_79, r140_80, r140_83, r140_84, Cn_n, Cn_v, Cn_x, dp_0, dp_1, dp_2, dp_3, dp_4, okv_n, okv_i, okv_r, eq_self, true_and, and_true, Option.some.injEq, exists_eq_left', rgT, ixT, ixU, ↓if_pos, ↓if_neg, Int.toNat_natCast, bT0, bT1, h6]
    have e50 : ua A 52 C 50 = W := by rw [ua_n (by decide)]; exact h50
    refine mx_find (A := ua A 52 C) hn e50 (fun x hx => by rw [ua_n (by decide)]; exact hC x hx) hl hW (by omega) ?_ (sg r) 0 (by omega)
    have ix1 : (10 * (s : Int) + (r : Int)).toNat = 10 * s + r := by omega
    have ix2 : (10 * (r : Int) + (sg r : Int)).toNat = 10 * r + sg r := by omega
    have e52 : ∀ f, ua A 52 f 50 = W := fun f => by rw [ua_n (by decide)]; exact h50
    have ih9 := ih (r + 1) (uq C (10 * s + r) (sg r : Int)) (by omega) (fun i hi => by
      by_cases hir : i = r
      · subst hir; rw [uq_s]
      · rw [uq_n (by omega)]; exact hC1 i (by omega)) (fun x hx => by rw [uq_n (by omega)]; exact hC2 x hx)
    simp only [imn] at ih9
    have e9 : msk sg (r + 1) = msk sg r ||| 2 ^ sg r := rfl
    rw [e9] at ih9
    by_cases k1 : W (10 * r + sg r) < imn (fun r => W (10 * r + sg r)) lf r
    · rw [if_pos k1] at ih9
      simp (disch := omega) only [r140_132, r140_133, r140_134, r140_136, r140_137, r140_138, r140_139, r140_140, r140_143, r140_145, r140_146, r140_149, r140_150, r140_152, r140_153, r140_155, r140_156, r140_157, r140_160, r140_162, r140_164, r140_165, r140_167, r140_168, r140_169, r140_171, r140_174, r140_175, r140_178, r140_180, r140_182, r140_183, r140_185, r140_186, r140_187, r140_190, r140_192, r140_194, r140_197, Cn_n, Cn_v, Cn_x, dp_0, dp_1, dp_2, dp_3, dp_4, okv_n, okv_i, okv_r, eq_self, true_and, and_true, Option.some.injEq, exists_eq_left', rgT, ixT, ixU, ↓if_pos, ↓if_neg, Int.toNat_natCast, bT0, bT1, g_48_0, s_48_0, g_48_1, s_48_1, g_48_2, s_48_2, g_48_3, g_48_4, g_48_5, g_48_6, g_48_7, s_48_7, g_48_8, g_48_9, g_48_10, g_48_11, g_48_12, g_48_13, a_50, b_50, d_50, a_52, b_52, d_52, shl_x, or_x, hs, ix1, ix2, tab_len, tab_get, ua_s, d_52u, e52]
      exact ih9 _ rfl
    · rw [if_neg k1] at ih9
      simp (disch := omega) only [r140_132, r140_133, r140_134, r140_136, r140_137, r140_138, r140_139, r140_140, r140_143, r140_145, r140_146, r140_149, r140_150, r140_152, r140_153, r140_155, r140_156, r140_157, r140_160, r140_162, r140_164, r140_165, r140_167, r140_168, r140_169, r140_171, r140_174, r140_175, r140_178, r140_180, r140_182, r140_183, r140_185, r140_186, r140_187, r140_190, r140_192, r140_194, r140_197, Cn_n, Cn_v, Cn_x, dp_0, dp_1, dp_2, dp_3, dp_4, okv_n, okv_i, okv_r, eq_self, true_and, and_true, Option.some.injEq, exists_eq_left', rgT, ixT, ixU, ↓if_pos, ↓if_neg, Int.toNat_natCast, bT0, bT1, g_48_0, s_48_0, g_48_1, s_48_1, g_48_2, s_48_2, g_48_3, g_48_4, g_48_5, g_48_6, g_48_7, s_48_7, g_48_8, g_48_9, g_48_10, g_48_11, g_48_12, g_48_13, a_50, b_50, d_50, a_52, b_52, d_52, shl_x, or_x, hs, ix1, ix2, tab_len, tab_get, ua_s, d_52u, e52]
      exact ih9 _ rfl
theorem mx_sub {sg : Nat → Nat} {W : Nat → Int} {lf l : Int} {x3 x6 : Option AV} (hn : n ≤ 10) (hsg : ∀ i, i < n → sg i < n) (h52 : ∀ i, i < n → A 52 (10 * s + i) = (sg i : Int)) (hs : F 775 = s) (hs60 : s < 60) :
    Wp 140 246 [some (vR 48), some (.inl (n : Int)), some (.inl lf), x3, some (.inl l), some (.inl (n : Int)), x6] [] (mk (ua A 50 (tko W sg l n)) F q) Q →
    ∀ (d r : Nat), r + d = n → Wp 140 203 [some (vR 48), some (.inl (n : Int)), some (.inl lf), x3, some (.inl l), some (.inl (r : Int)), x6] [] (mk (ua A 50 (tko W sg l r)) F q) Q := by
  intro hk d
  induction d with
  | zero =>
    intro r hr
    obtain rfl : r = n := by omega
    rw [r140_203]
    simp (disch := omega) only [r140_205, r140_206, Cn_n, Cn_v, Cn_x, dp_0, dp_1, dp_2, dp_3, dp_4, okv_n, okv_i, okv_r, eq_self, true_and, and_true, Option.some.injEq, exists_eq_left', rgT, ixT, ixU, ↓if_pos, ↓if_neg, Int.toNat_natCast, bT0, bT1]
    exact hk
  | succ d ih =>
    intro r hr
    have s9 := hsg r (by omega)
    have h9 := h52 r (by omega)
    have ix1 : (10 * (s : Int) + (r : Int)).toNat = 10 * s + r := by omega
    have ix2 : (10 * (r : Int) + (sg r : Int)).toNat = 10 * r + sg r := by omega
    have e52 : ∀ f, ua A 50 f 52 = A 52 := fun f => ua_n (by decide)
    have ih9 := ih (r + 1) (by omega)
    rw [← tko_s (show sg r < 10 by omega)] at ih9
    have e7 : tko W sg l r (10 * r + sg r) + -l = tko W sg l r (10 * r + sg r) - l := by omega
    rw [e7] at ih9
    rw [r140_203]
    simp (disch := omega) only [r140_205, r140_206, r140_209, r140_210, r140_213, r140_215, r140_217, r140_218, r140_219, r140_222, r140_224, r140_225, r140_228, r140_229, r140_231, r140_232, r140_233, r140_234, r140_235, r140_236, r140_238, r140_239, r140_240, r140_243, Cn_n, Cn_v, Cn_x, dp_0, dp_1, dp_2, dp_3, dp_4, okv_n, okv_i, okv_r, eq_self, true_and, and_true, Option.some.injEq, exists_eq_left', rgT, ixT, ixU, ↓if_pos, ↓if_neg, Int.toNat_natCast, bT0, bT1, g_48_0, s_48_0, g_48_1, s_48_1, g_48_2, s_48_2, g_48_3, g_48_4, g_48_5, g_48_6, g_48_7, s_48_7, g_48_8, g_48_9, g_48_10, g_48_11, g_48_12, g_48_13, a_50, b_50, d_50, a_52, b_52, d_52, hs, ix1, ix2, tab_len, tab_get, ua_s, d_50u, e52, h9]
    exact ih9
end APART
