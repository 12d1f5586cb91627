/-! dispatching in the model -/
def hmd (A : Nat → Nat → Int) (b jf mf : Nat → Int) : Nat → Nat → Int := ua (ua (ua A 54 b) 55 mf) 56 jf
theorem dlc_one {t b : Nat → Int} {J M c m : Nat} {now : Int} (hc : c < J) (hm : m < M) (hJ5 : J ≤ 5) (hM5 : M ≤ 5) (h0 : 0 ≤ now) (hb : b (5 * c + m) = -1) (ht : 0 < t (5 * c + m)) : dlc t J M (uq b (5 * c + m) now) + 1 = dlc t J M b := by
  unfold dlc
  refine ncnt_one (k := 5 * c + m) ?_ ?_ (by omega) (fun i hi9 hik => ?_)
  · cases h9 : dwa t J M (uq b (5 * c + m) now) (5 * c + m)
    · rfl
    · have := (dwa_iff.mp h9).2.2.2
      rw [uq_s] at this
      omega
  · exact dwa_iff.mpr ⟨by omega, by omega, ht, hb⟩
  · unfold dwa
    rw [uq_n hik]
theorem imax_uq {f : Nat → Int} {a e : Int} {m n : Nat} (hm : m < n) (he : f m ≤ e) : imax (uq f m e) a n = if imax f a n < e then e else imax f a n := by
  obtain ⟨x1, x2⟩ := @imax_ge (uq f m e) a n
  obtain ⟨y1, y2⟩ := @imax_ge f a n
  have x3 := x2 m hm
  rw [uq_s] at x3
  have x4 : imax f a n ≤ imax (uq f m e) a n := by
    rcases @imax_is f a n with h | ⟨k, hk, h⟩
    · omega
    · by_cases hkm : k = m
      · subst hkm; omega
      · have := x2 k hk
        rw [uq_n hkm] at this
        omega
  rcases @imax_is (uq f m e) a n with h | ⟨k, hk, h⟩
  · split <;> omega
  · by_cases hkm : k = m
    · subst hkm
      rw [uq_s] at h
      split <;> omega
    · rw [uq_n hkm] at h
      have := y2 k hk
      split <;> omega
theorem td5 {n : Nat} : ((n : Nat) : Int).tdiv 5 = ((n / 5 : Nat) : Int) := by rw [Int.tdiv_eq_ediv_of_nonneg (by omega)]; omega
theorem tm5 {n : Nat} : ((n : Nat) : Int).tmod 5 = ((n % 5 : Nat) : Int) := by rw [Int.tmod_eq_emod_of_nonneg (by omega)]; omega
theorem om2 {m : Nat} (h : m ≤ 1) : 1 - (m : Int) = ((1 - m : Nat) : Int) := by omega
theorem dwt_ne {t b : Nat → Int} {k : Nat} (h : dwt t b k ≠ 0) : b k = -1 ∧ dwt t b k = t k := by
  unfold dwt at h ⊢
  by_cases hb : b k = -1
  · exact ⟨hb, if_pos hb⟩
  · rw [if_neg hb] at h; exact absurd rfl h
section DISM
variable {A : Nat → Nat → Int} {F : Nat → Int} {q : List Int × Nat} {i j v now : Int} {Q : AR → Prop} {J M m n : Nat} {s : DS} {al : Bool} {b jf mf : Nat → Int}
theorem hm_54 : hmd A b jf mf 54 = b := by unfold hmd; rw [ua_n (by decide), ua_n (by decide), ua_s]
theorem hm_55 : hmd A b jf mf 55 = mf := by unfold hmd; rw [ua_n (by decide), ua_s]
theorem hm_56 : hmd A b jf mf 56 = jf := by unfold hmd; rw [ua_s]
theorem hm_n {k : Nat} (h1 : k ≠ 54) (h2 : k ≠ 55) (h3 : k ≠ 56) : hmd A b jf mf k = A k := by unfold hmd; rw [ua_n h3, ua_n h2, ua_n h1]
theorem hm_49 : hmd A b jf mf 49 = A 49 := hm_n (by decide) (by decide) (by decide)
theorem hm_f54 {f : Nat → Int} : ua (hmd A b jf mf) 54 f = hmd A f jf mf := by
  unfold hmd
  rw [ua_c (k := 56) (by decide), ua_c (k := 55) (by decide), ua_ua]
theorem hm_f55 {f : Nat → Int} : ua (hmd A b jf mf) 55 f = hmd A b jf f := by
  unfold hmd
  rw [ua_c (k := 56) (by decide), ua_ua]
theorem hm_f56 {f : Nat → Int} : ua (hmd A b jf mf) 56 f = hmd A b f mf := by
  unfold hmd
  rw [ua_ua]
theorem d_54h {k : Nat} : sa (mk (hmd A b jf mf) F q) 54 0 ((tab 25 b).set k v) = mk (hmd A (uq b k v) jf mf) F q := by
  have h9 := @d_54 (hmd A b jf mf) F q k v
  rw [hm_54] at h9
  rw [h9, u2, hm_54, hm_f54]
theorem d_55h {k : Nat} : sa (mk (hmd A b jf mf) F q) 55 0 ((tab 5 mf).set k v) = mk (hmd A b jf (uq mf k v)) F q := by
  have h9 := @d_55 (hmd A b jf mf) F q k v
  rw [hm_55] at h9
  rw [h9, u2, hm_55, hm_f55]
theorem d_56h {k : Nat} : sa (mk (hmd A b jf mf) F q) 56 0 ((tab 5 jf).set k v) = mk (hmd A b (uq jf k v) mf) F q := by
  have h9 := @d_56 (hmd A b jf mf) F q k v
  rw [hm_56] at h9
  rw [h9, u2, hm_56, hm_f56]
theorem hm_id : hmd A (A 54) (A 56) (A 55) = A := by
  unfold hmd
  rw [ua_id, ua_id, ua_id]
theorem mk_54h {f : Nat → Int} (h : ∀ k, k < 25 → b k = f k) : mk (hmd A b jf mf) F q = mk (hmd A f jf mf) F q := by
  have h1 := @b_54 (hmd A b jf mf) F q b
  have h2 := @b_54 (hmd A b jf mf) F q f
  rw [hm_f54] at h1 h2
  rw [← h1, ← h2, tab_congr h]
theorem mk_55h {f : Nat → Int} (h : ∀ k, k < 5 → mf k = f k) : mk (hmd A b jf mf) F q = mk (hmd A b jf f) F q := by
  have h1 := @b_55 (hmd A b jf mf) F q mf
  have h2 := @b_55 (hmd A b jf mf) F q f
  rw [hm_f55] at h1 h2
  rw [← h1, ← h2, tab_congr h]
theorem mk_56h {f : Nat → Int} (h : ∀ k, k < 5 → jf k = f k) : mk (hmd A b jf mf) F q = mk (hmd A b f mf) F q := by
  have h1 := @b_56 (hmd A b jf mf) F q jf
  have h2 := @b_56 (hmd A b jf mf) F q f
  rw [hm_f56] at h1 h2
  rw [← h1, ← h2, tab_congr h]
theorem mw_1 {j : Nat} (hb : ∀ k, -1 ≤ b k ∧ b k ≤ 100000) (ht : TOK (A 49)) (h1 : j < 5) (h3 : m < 5) (hw : dwt (A 49) b (5 * j + m) ≠ 0) : Ew 153 [vR 48, .inl (j : Int), .inl (m : Int)] (mk (hmd A b jf mf) F q) Q ↔ Q (.inl (some (.inl 1)), mk (hmd A b jf mf) F q) := by
  have k1 := hb (5 * j + m)
  have k2 := dwt_ne hw
  have k3 := ht (5 * j + m) (by omega)
  unfold Ew
  rw [rc_153 g_48_0 rfl rfl, lc_153]
  simp (disch := omega) only [r153_0, r153_1, r153_2, r153_3, r153_6, r153_9, r153_10, r153_13, r153_14, r153_15, r153_16, r153_17, r153_18, r153_19, r153_20, r153_23, r153_24, r153_27, r153_28, Cn_n, Cn_v, Cn_x, dp_0, dp_1, dp_2, dp_3, dp_4, okv_n, okv_i, okv_r, eq_self, true_and, and_true, Option.some.injEq, exists_eq_left', rgT, ixT, ixU, ↓if_pos, ↓if_neg, Int.toNat_natCast, bT0, bT1, g_48_0, s_48_0, g_48_1, s_48_1, g_48_2, s_48_2, g_48_3, g_48_4, g_48_5, g_48_6, g_48_7, s_48_7, g_48_8, g_48_9, g_48_10, g_48_11, g_48_12, g_48_13, a_54, b_54, d_54, m_at, hm_49, hm_54, tab_len, tab_get, ix5]
theorem mw_0 {j : Nat} (hb : ∀ k, -1 ≤ b k ∧ b k ≤ 100000) (ht : TOK (A 49)) (h1 : j < 5) (h3 : m < 5) (hw : dwt (A 49) b (5 * j + m) = 0) : Ew 153 [vR 48, .inl (j : Int), .inl (m : Int)] (mk (hmd A b jf mf) F q) Q ↔ Q (.inl (some (.inl 0)), mk (hmd A b jf mf) F q) := by
  have k1 := hb (5 * j + m)
  have k3 := ht (5 * j + m) (by omega)
  unfold Ew
  rw [rc_153 g_48_0 rfl rfl, lc_153]
  by_cases c1 : A 49 (5 * j + m) ≤ 0
  · simp (disch := omega) only [r153_0, r153_1, r153_2, r153_3, r153_6, r153_9, r153_10, r153_13, r153_14, r153_15, r153_16, r153_17, r153_18, r153_19, r153_20, r153_23, r153_24, r153_27, r153_28, Cn_n, Cn_v, Cn_x, dp_0, dp_1, dp_2, dp_3, dp_4, okv_n, okv_i, okv_r, eq_self, true_and, and_true, Option.some.injEq, exists_eq_left', rgT, ixT, ixU, ↓if_pos, ↓if_neg, Int.toNat_natCast, bT0, bT1, g_48_0, s_48_0, g_48_1, s_48_1, g_48_2, s_48_2, g_48_3, g_48_4, g_48_5, g_48_6, g_48_7, s_48_7, g_48_8, g_48_9, g_48_10, g_48_11, g_48_12, g_48_13, a_54, b_54, d_54, m_at, hm_49, hm_54, tab_len, tab_get, ix5]
  · have c2 : b (5 * j + m) ≠ -1 := by
      intro h
      unfold dwt at hw
      rw [if_pos h] at hw
      omega
    simp (disch := omega) only [r153_0, r153_1, r153_2, r153_3, r153_6, r153_9, r153_10, r153_13, r153_14, r153_15, r153_16, r153_17, r153_18, r153_19, r153_20, r153_23, r153_24, r153_27, r153_28, Cn_n, Cn_v, Cn_x, dp_0, dp_1, dp_2, dp_3, dp_4, okv_n, okv_i, okv_r, eq_self, true_and, and_true, Option.some.injEq, exists_eq_left', rgT, ixT, ixU, ↓if_pos, ↓if_neg, Int.toNat_natCast, bT0, bT1, g_48_0, s_48_0, g_48_1, s_48_1, g_48_2, s_48_2, g_48_3, g_48_4, g_48_5, g_48_6, g_48_7, s_48_7, g_48_8, g_48_9, g_48_10, g_48_11, g_48_12, g_48_13, a_54, b_54, d_54, m_at, hm_49, hm_54, tab_len, tab_get, ix5]
theorem md_chosen (hd : DR s) (ht : TOK (A 49)) (hJ : F 769 = J) (hJ5 : J ≤ 5) (hm : m < 5) (hal : al = true → m ≤ 1) (hn0 : 0 ≤ now) (hn1 : now ≤ 50000) : Ew 154 [vR 48, .inl (m : Int), .inl now, .inl (if al then 0 else 1)] (mk (hmd A s.1 s.2.1 s.2.2) F q) Q ↔ Q (.inl (some (.inl (dcho (A 49) m now al s J).1)), mk (hmd A s.1 s.2.1 s.2.2) F q) := by
  refine Ew_iff ⟨rc_154 g_48_0 rfl rfl rfl, ?_⟩
  rw [lc_154]
  simp only [r154_0, r154_1, r154_3, r154_4, r154_6, r154_7, r154_11, r154_12, r154_15, r154_18, r154_19, r154_22, r154_23, r154_25, r154_26, r154_27, r154_28, r154_31, r154_34, r154_35, r154_37, r154_38, r154_39, r154_40, r154_43, r154_46, r154_47, r154_49, r154_50, r154_52, r154_53, r154_56, r154_59, r154_60, r154_63, r154_65, r154_66, r154_67, r154_70, r154_72, r154_74, r154_77, r154_79, r154_81, r154_83, r154_85, r154_88, r154_91, r154_93, Cn_n, Cn_v, Cn_x, dp_0, dp_1, dp_2, dp_3, dp_4, okv_n, okv_i, okv_r, eq_self, true_and, and_true, Option.some.injEq, exists_eq_left']
  suffices key : ∀ n d : Nat, n + d = J → ∀ (a1 a2 : Int), dcho (A 49) m now al s n = (a1, a2) → ∀ x8 : Option AV, okv x8 = true → Wp 154 9 [some (vR 48), some (.inl (m : Int)), some (.inl now), some (.inl (if al then 0 else 1)), some (.inl a1), some (.inl a2), some (.inl (n : Int)), x8] [] (mk (hmd A s.1 s.2.1 s.2.2) F q) (fun r => r = (.inl (some (.inl (dcho (A 49) m now al s J).1)), mk (hmd A s.1 s.2.1 s.2.2) F q)) by
    exact key 0 J (by omega) _ _ rfl none rfl
  intro n d
  induction d generalizing n with
  | zero =>
    intro hn a1 a2 ha x8 h8
    obtain rfl : n = J := by omega
    rw [r154_9, ha]
    simp (disch := omega) only [r154_0, r154_1, r154_3, r154_4, r154_6, r154_7, r154_11, r154_12, r154_15, r154_18, r154_19, r154_22, r154_23, r154_25, r154_26, r154_27, r154_28, r154_31, r154_34, r154_35, r154_37, r154_38, r154_39, r154_40, r154_43, r154_46, r154_47, r154_49, r154_50, r154_52, r154_53, r154_56, r154_59, r154_60, r154_63, r154_65, r154_66, r154_67, r154_70, r154_72, r154_74, r154_77, r154_79, r154_81, r154_83, r154_85, r154_88, r154_91, r154_93, Cn_n, Cn_v, Cn_x, dp_0, dp_1, dp_2, dp_3, dp_4, okv_n, okv_i, okv_r, eq_self, true_and, and_true, Option.some.injEq, exists_eq_left', rgT, ixT, ixU, ↓if_pos, ↓if_neg, Int.toNat_natCast, bT0, bT1, g_48_0, s_48_0, g_48_1, s_48_1, g_48_2, s_48_2, g_48_3, g_48_4, g_48_5, g_48_6, g_48_7, s_48_7, g_48_8, g_48_9, g_48_10, g_48_11, g_48_12, g_48_13]
  | succ d ih =>
    intro hn a1 a2 ha x8 h8
    have b1 := hd.2.1 n
    have b2 := @dwt_bd (A 49) ht s.1 (5 * n + m) (by omega)
    have b3 := @dwg_bd (A 49) al m ht s.1 n (by omega)
    have b4 := @dcho_is (A 49) al now s m ht n (by omega)
    have b5 := b4.1
    have b6 := b4.2.1
    have e9 : dcho (A 49) m now al s (n + 1) = if s.2.1 n ≤ now ∧ dwt (A 49) s.1 (5 * n + m) ≠ 0 ∧ (dcho (A 49) m now al s n).2 < dwg (A 49) s.1 al n m then ((n : Int), dwg (A 49) s.1 al n m) else dcho (A 49) m now al s n := rfl
    rw [ha] at e9 b5 b6
    simp only [] at b5 b6
    have ihn := ih (n + 1) (by omega)
    have part2 : Wp 154 49 [some (vR 48), some (.inl (m : Int)), some (.inl now), some (.inl (if al then 0 else 1)), some (.inl a1), some (.inl a2), some (.inl (n : Int)), some (.inl (dwg (A 49) s.1 al n m))] [] (mk (hmd A s.1 s.2.1 s.2.2) F q) (fun r => r = (.inl (some (.inl (dcho (A 49) m now al s J).1)), mk (hmd A s.1 s.2.1 s.2.2) F q)) := by
      by_cases k2 : dwt (A 49) s.1 (5 * n + m) = 0
      · rw [if_neg (by omega)] at e9
        simp (disch := omega) only [r154_0, r154_1, r154_3, r154_4, r154_6, r154_7, r154_11, r154_12, r154_15, r154_18, r154_19, r154_22, r154_23, r154_25, r154_26, r154_27, r154_28, r154_31, r154_34, r154_35, r154_37, r154_38, r154_39, r154_40, r154_43, r154_46, r154_47, r154_49, r154_50, r154_52, r154_53, r154_56, r154_59, r154_60, r154_63, r154_65, r154_66, r154_67, r154_70, r154_72, r154_74, r154_77, r154_79, r154_81, r154_83, r154_85, r154_88, r154_91, r154_93, Cn_n, Cn_v, Cn_x, dp_0, dp_1, dp_2, dp_3, dp_4, okv_n, okv_i, okv_r, eq_self, true_and, and_true, Option.some.injEq, exists_eq_left', rgT, ixT, ixU, ↓if_pos, ↓if_neg, Int.toNat_natCast, bT0, bT1, g_48_0, s_48_0, g_48_1, s_48_1, g_48_2, s_48_2, g_48_3, g_48_4, g_48_5, g_48_6, g_48_7, s_48_7, g_48_8, g_48_9, g_48_10, g_48_11, g_48_12, g_48_13, mw_0 hd.1 ht (show n < 5 by omega) hm k2]
        exact ihn _ _ e9 _ rfl
      · by_cases k1 : s.2.1 n ≤ now
        · by_cases k3 : a2 < dwg (A 49) s.1 al n m
          · rw [if_pos ⟨k1, k2, k3⟩] at e9
            simp (disch := omega) only [r154_0, r154_1, r154_3, r154_4, r154_6, r154_7, r154_11, r154_12, r154_15, r154_18, r154_19, r154_22, r154_23, r154_25, r154_26, r154_27, r154_28, r154_31, r154_34, r154_35, r154_37, r154_38, r154_39, r154_40, r154_43, r154_46, r154_47, r154_49, r154_50, r154_52, r154_53, r154_56, r154_59, r154_60, r154_63, r154_65, r154_66, r154_67, r154_70, r154_72, r154_74, r154_77, r154_79, r154_81, r154_83, r154_85, r154_88, r154_91, r154_93, Cn_n, Cn_v, Cn_x, dp_0, dp_1, dp_2, dp_3, dp_4, okv_n, okv_i, okv_r, eq_self, true_and, and_true, Option.some.injEq, exists_eq_left', rgT, ixT, ixU, ↓if_pos, ↓if_neg, Int.toNat_natCast, bT0, bT1, g_48_0, s_48_0, g_48_1, s_48_1, g_48_2, s_48_2, g_48_3, g_48_4, g_48_5, g_48_6, g_48_7, s_48_7, g_48_8, g_48_9, g_48_10, g_48_11, g_48_12, g_48_13, a_56, b_56, d_56, hm_56, tab_len, tab_get, mw_1 hd.1 ht (show n < 5 by omega) hm k2]
            exact ihn _ _ e9 _ rfl
          · rw [if_neg (fun h => k3 h.2.2)] at e9
            simp (disch := omega) only [r154_0, r154_1, r154_3, r154_4, r154_6, r154_7, r154_11, r154_12, r154_15, r154_18, r154_19, r154_22, r154_23, r154_25, r154_26, r154_27, r154_28, r154_31, r154_34, r154_35, r154_37, r154_38, r154_39, r154_40, r154_43, r154_46, r154_47, r154_49, r154_50, r154_52, r154_53, r154_56, r154_59, r154_60, r154_63, r154_65, r154_66, r154_67, r154_70, r154_72, r154_74, r154_77, r154_79, r154_81, r154_83, r154_85, r154_88, r154_91, r154_93, Cn_n, Cn_v, Cn_x, dp_0, dp_1, dp_2, dp_3, dp_4, okv_n, okv_i, okv_r, eq_self, true_and, and_true, Option.some.injEq, exists_eq_left', rgT, ixT, ixU, ↓if_pos, ↓if_neg, Int.toNat_natCast, bT0, bT1, g_48_0, s_48_0, g_48_1, s_48_1, g_48_2, s_48_2, g_48_3, g_48_4, g_48_5, g_48_6, g_48_7, s_48_7, g_48_8, g_48_9, g_48_10, g_48_11, g_48_12, g_48_13, a_56, b_56, d_56, hm_56, tab_len, tab_get, mw_1 hd.1 ht (show n < 5 by omega) hm k2]
            exact ihn _ _ e9 _ rfl
        · rw [if_neg (fun h => k1 h.1)] at e9
          simp (disch := omega) only [r154_0, r154_1, r154_3, r154_4, r154_6, r154_7, r154_11, r154_12, r154_15, r154_18, r154_19, r154_22, r154_23, r154_25, r154_26, r154_27, r154_28, r154_31, r154_34, r154_35, r154_37, r154_38, r154_39, r154_40, r154_43, r154_46, r154_47, r154_49, r154_50, r154_52, r154_53, r154_56, r154_59, r154_60, r154_63, r154_65, r154_66, r154_67, r154_70, r154_72, r154_74, r154_77, r154_79, r154_81, r154_83, r154_85, r154_88, r154_91, r154_93, Cn_n, Cn_v, Cn_x, dp_0, dp_1, dp_2, dp_3, dp_4, okv_n, okv_i, okv_r, eq_self, true_and, and_true, Option.some.injEq, exists_eq_left', rgT, ixT, ixU, ↓if_pos, ↓if_neg, Int.toNat_natCast, bT0, bT1, g_48_0, s_48_0, g_48_1, s_48_1, g_48_2, s_48_2, g_48_3, g_48_4, g_48_5, g_48_6, g_48_7, s_48_7, g_48_8, g_48_9, g_48_10, g_48_11, g_48_12, g_48_13, a_56, b_56, d_56, hm_56, tab_len, tab_get, mw_1 hd.1 ht (show n < 5 by omega) hm k2]
          exact ihn _ _ e9 _ rfl
    clear ihn e9
    rw [r154_9]
    cases al
    · have e7 : dwg (A 49) s.1 false n m = 0 := rfl
      rw [e7] at part2
      simp (disch := omega) only [r154_11, r154_12, r154_15, r154_18, r154_19, r154_46, r154_47, Cn_n, Cn_v, Cn_x, dp_0, dp_1, dp_2, dp_3, dp_4, okv_n, okv_i, okv_r, eq_self, true_and, and_true, Option.some.injEq, exists_eq_left', rgT, ixT, ixU, ↓if_pos, ↓if_neg, Int.toNat_natCast, bT0, bT1, g_48_0, s_48_0, g_48_1, s_48_1, g_48_2, s_48_2, g_48_3, g_48_4, g_48_5, g_48_6, g_48_7, s_48_7, g_48_8, g_48_9, g_48_10, g_48_11, g_48_12, g_48_13, h8, Bool.false_eq_true]
      exact part2
    · have m1 := hal rfl
      have e7 : dwg (A 49) s.1 true n m = dwt (A 49) s.1 (5 * n + (1 - m)) := rfl
      by_cases k3 : dwt (A 49) s.1 (5 * n + (1 - m)) = 0
      · rw [e7, k3] at part2
        simp (disch := omega) only [r154_11, r154_12, r154_15, r154_18, r154_19, r154_22, r154_23, r154_25, r154_26, r154_27, r154_28, r154_31, r154_34, r154_35, r154_37, r154_38, r154_39, r154_40, r154_43, r154_46, r154_47, Cn_n, Cn_v, Cn_x, dp_0, dp_1, dp_2, dp_3, dp_4, okv_n, okv_i, okv_r, eq_self, true_and, and_true, Option.some.injEq, exists_eq_left', rgT, ixT, ixU, ↓if_pos, ↓if_neg, Int.toNat_natCast, bT0, bT1, g_48_0, s_48_0, g_48_1, s_48_1, g_48_2, s_48_2, g_48_3, g_48_4, g_48_5, g_48_6, g_48_7, s_48_7, g_48_8, g_48_9, g_48_10, g_48_11, g_48_12, g_48_13, h8, om2, mw_0 hd.1 ht (show n < 5 by omega) (show 1 - m < 5 by omega) k3]
        exact part2
      · rw [e7, (dwt_ne k3).2] at part2
        simp (disch := omega) only [r154_11, r154_12, r154_15, r154_18, r154_19, r154_22, r154_23, r154_25, r154_26, r154_27, r154_28, r154_31, r154_34, r154_35, r154_37, r154_38, r154_39, r154_40, r154_43, r154_46, r154_47, Cn_n, Cn_v, Cn_x, dp_0, dp_1, dp_2, dp_3, dp_4, okv_n, okv_i, okv_r, eq_self, true_and, and_true, Option.some.injEq, exists_eq_left', rgT, ixT, ixU, ↓if_pos, ↓if_neg, Int.toNat_natCast, bT0, bT1, g_48_0, s_48_0, g_48_1, s_48_1, g_48_2, s_48_2, g_48_3, g_48_4, g_48_5, g_48_6, g_48_7, s_48_7, g_48_8, g_48_9, g_48_10, g_48_11, g_48_12, g_48_13, h8, om2, mw_1 hd.1 ht (show n < 5 by omega) (show 1 - m < 5 by omega) k3, m_at, hm_49]
        exact part2
end DISM
