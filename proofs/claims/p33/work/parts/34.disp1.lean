/-! dispatching in the shop -/
def hs (A : Nat → Nat → Int) (s : DS) : Nat → Nat → Int := ua (ua (ua A 23 s.1) 25 s.2.1) 27 s.2.2
def DR (s : DS) : Prop := (∀ k, -1 ≤ s.1 k ∧ s.1 k ≤ 100000) ∧ (∀ k, 0 ≤ s.2.1 k ∧ s.2.1 k ≤ 100000) ∧ (∀ k, 0 ≤ s.2.2 k ∧ s.2.2 k ≤ 100000)
theorem uq_bd {f : Nat → Int} {i : Nat} {v lo hi : Int} (h : ∀ k, lo ≤ f k ∧ f k ≤ hi) (hv : lo ≤ v ∧ v ≤ hi) : ∀ k, lo ≤ uq f i v k ∧ uq f i v k ≤ hi := by
  intro k
  by_cases hk : k = i
  · subst hk; rw [uq_s]; exact hv
  · rw [uq_n hk]; exact h k
theorem dstp_DR {t : Nat → Int} {J : Nat} {al : Bool} {now : Int} {m : Nat} {s : DS} (ht : TOK t) (hJ5 : J ≤ 5) (hm : m < 5) (h0 : 0 ≤ now) (h1 : now ≤ 50000) (hd : DR s) : DR (dstp t J al now m s) := by
  unfold dstp
  split
  · obtain ⟨-, -, h2⟩ := @dcho_is t al now s m ht J hJ5
    rcases h2 with ⟨g1, -⟩ | ⟨c, g1, g2, g3, g4⟩
    · rw [g1]; unfold dbeg; rw [if_pos rfl]; exact hd
    · rw [g1]
      unfold dbeg
      rw [if_neg (by omega)]
      simp only [Int.toNat_natCast]
      have ht9 := ht (5 * c + m) (by omega)
      exact ⟨uq_bd hd.1 (by omega), uq_bd hd.2.1 (by omega), uq_bd hd.2.2 (by omega)⟩
  · exact hd
theorem drnd_DR {t : Nat → Int} {J : Nat} {al : Bool} {now : Int} {s : DS} (ht : TOK t) (hJ5 : J ≤ 5) (h0 : 0 ≤ now) (h1 : now ≤ 50000) (hd : DR s) : ∀ {n : Nat}, n ≤ 5 → DR (drnd t J al now s n)
  | 0, _ => hd
  | n + 1, hn => dstp_DR ht hJ5 (by omega) h0 h1 (drnd_DR ht hJ5 h0 h1 hd (by omega))
section DISP
variable {A : Nat → Nat → Int} {F : Nat → Int} {q : List Int × Nat} {i j v now : Int} {Q : AR → Prop} {J M m n : Nat} {s : DS} {al : Bool}
theorem hs_23 : hs A s 23 = s.1 := by unfold hs; rw [ua_n (by decide), ua_n (by decide), ua_s]
theorem hs_25 : hs A s 25 = s.2.1 := by unfold hs; rw [ua_n (by decide), ua_s]
theorem hs_27 : hs A s 27 = s.2.2 := by unfold hs; rw [ua_s]
theorem hs_n {k : Nat} (h1 : k ≠ 23) (h2 : k ≠ 25) (h3 : k ≠ 27) : hs A s k = A k := by unfold hs; rw [ua_n h3, ua_n h2, ua_n h1]
theorem hs_3 : hs A s 3 = A 3 := hs_n (by decide) (by decide) (by decide)
theorem ua_c {k l : Nat} {f g : Nat → Int} (h : k ≠ l) : ua (ua A k f) l g = ua (ua A l g) k f := by
  funext x
  unfold ua
  by_cases h1 : x = k
  · by_cases h2 : x = l
    · omega
    · rw [if_neg h2, if_pos h1, if_pos h1]
  · by_cases h2 : x = l
    · rw [if_pos h2, if_neg h1, if_pos h2]
    · rw [if_neg h2, if_neg h1, if_neg h1, if_neg h2]
theorem hs_f23 {f : Nat → Int} : ua (hs A s) 23 f = hs A (f, s.2.1, s.2.2) := by
  unfold hs
  rw [ua_c (k := 27) (by decide), ua_c (k := 25) (by decide), ua_ua]
theorem hs_f25 {f : Nat → Int} : ua (hs A s) 25 f = hs A (s.1, f, s.2.2) := by
  unfold hs
  rw [ua_c (k := 27) (by decide), ua_ua]
theorem hs_f27 {f : Nat → Int} : ua (hs A s) 27 f = hs A (s.1, s.2.1, f) := by
  unfold hs
  rw [ua_ua]
theorem hs_u23 {k : Nat} {v : Int} : u2 (hs A s) 23 k v = hs A (uq s.1 k v, s.2.1, s.2.2) := by
  unfold u2
  rw [hs_f23, hs_23]
theorem hs_u25 {k : Nat} {v : Int} : u2 (hs A s) 25 k v = hs A (s.1, uq s.2.1 k v, s.2.2) := by
  unfold u2
  rw [hs_f25, hs_25]
theorem hs_u27 {k : Nat} {v : Int} : u2 (hs A s) 27 k v = hs A (s.1, s.2.1, uq s.2.2 k v) := by
  unfold u2
  rw [hs_f27, hs_27]
theorem hs_id : hs A (A 23, A 25, A 27) = A := by
  unfold hs
  simp only []
  rw [ua_id, ua_id, ua_id]
theorem om1 : (1 - (m : Int)).toNat = 1 - m := by omega
theorem dd_wait (hd : DR s) (ht : TOK (A 3)) (h0 : 0 ≤ i) (h1 : i < 5) (h2 : 0 ≤ j) (h3 : j < 5) : Ew 5 [vR 21, vR 1, .inl i, .inl j] (mk (hs A s) F q) Q ↔ Q (.inl (some (.inl (dwt (A 3) s.1 (5 * i.toNat + j.toNat)))), mk (hs A s) F q) := by
  have h9 := hd.1 (5 * i.toNat + j.toNat)
  unfold Ew
  rw [rc_5 g_21_0 rfl rfl rfl, lc_5]
  unfold dwt
  by_cases c1 : s.1 (5 * i.toNat + j.toNat) = -1
  · rw [if_pos c1]
    simp (disch := omega) only [r5_0, r5_1, r5_4, r5_5, r5_6, r5_9, r5_10, r5_13, r5_14, r5_15, r5_16, r5_19, r5_22, r5_23, Cn_n, Cn_v, Cn_x, dp_0, dp_1, dp_2, dp_3, dp_4, okv_n, okv_i, okv_r, eq_self, true_and, and_true, Option.some.injEq, exists_eq_left', rgT, ixT, ixU, ↓if_pos, ↓if_neg, Int.toNat_natCast, bT0, bT1, g_21_0, g_21_1, g_21_2, gget_22, t_time, hs_23, hs_3]
  · rw [if_neg c1]
    simp (disch := omega) only [r5_0, r5_1, r5_4, r5_5, r5_6, r5_9, r5_10, r5_13, r5_14, r5_15, r5_16, r5_19, r5_22, r5_23, Cn_n, Cn_v, Cn_x, dp_0, dp_1, dp_2, dp_3, dp_4, okv_n, okv_i, okv_r, eq_self, true_and, and_true, Option.some.injEq, exists_eq_left', rgT, ixT, ixU, ↓if_pos, ↓if_neg, Int.toNat_natCast, bT0, bT1, g_21_0, g_21_1, g_21_2, gget_22, t_time, hs_23, hs_3]
theorem dd_choose (hd : DR s) (ht : TOK (A 3)) (hJ : F 17 = J) (hJ5 : J ≤ 5) (hm : m < 5) (hal : al = true → m ≤ 1) (hn0 : 0 ≤ now) (hn1 : now ≤ 50000) : Ew 4 [vR 21, vR 1, .inl (m : Int), .inl now, .inl (if al then 1 else 0)] (mk (hs A s) F q) Q ↔ Q (.inl (some (.inl (dcho (A 3) m now al s J).1)), mk (hs A s) F q) := by
  refine Ew_iff ⟨rc_4 g_21_0 rfl rfl rfl rfl, ?_⟩
  rw [lc_4]
  simp only [r4_0, r4_1, r4_3, r4_4, r4_6, r4_7, r4_11, r4_12, r4_15, r4_18, r4_19, r4_22, r4_24, r4_27, r4_28, r4_31, r4_32, r4_33, r4_35, r4_36, r4_39, r4_42, r4_45, r4_47, r4_50, r4_51, r4_52, r4_54, r4_55, r4_56, r4_57, r4_60, r4_63, r4_64, r4_66, r4_68, r4_70, r4_73, r4_75, r4_77, r4_79, r4_81, r4_84, r4_87, r4_89, Cn_n, Cn_v, Cn_x, dp_0, dp_1, dp_2, dp_3, dp_4, okv_n, okv_i, okv_r, eq_self, true_and, and_true, Option.some.injEq, exists_eq_left']
  suffices key : ∀ n d : Nat, n + d = J → ∀ (a1 a2 : Int), dcho (A 3) m now al s n = (a1, a2) → ∀ x8 : Option AV, okv x8 = true → Wp 4 9 [some (vR 21), some (vR 1), some (.inl (m : Int)), some (.inl now), some (.inl (if al then 1 else 0)), some (.inl a1), some (.inl a2), some (.inl (n : Int)), x8] [] (mk (hs A s) F q) (fun r => r = (.inl (some (.inl (dcho (A 3) m now al s J).1)), mk (hs A s) F q)) by
    exact key 0 J (by omega) _ _ rfl none rfl
  intro n d
  induction d generalizing n with
  | zero =>
    intro hn a1 a2 ha x8 h8
    obtain rfl : n = J := by omega
    rw [r4_9, ha]
    simp (disch := omega) only [r4_0, r4_1, r4_3, r4_4, r4_6, r4_7, r4_11, r4_12, r4_15, r4_18, r4_19, r4_22, r4_24, r4_27, r4_28, r4_31, r4_32, r4_33, r4_35, r4_36, r4_39, r4_42, r4_45, r4_47, r4_50, r4_51, r4_52, r4_54, r4_55, r4_56, r4_57, r4_60, r4_63, r4_64, r4_66, r4_68, r4_70, r4_73, r4_75, r4_77, r4_79, r4_81, r4_84, r4_87, r4_89, Cn_n, Cn_v, Cn_x, dp_0, dp_1, dp_2, dp_3, dp_4, okv_n, okv_i, okv_r, eq_self, true_and, and_true, Option.some.injEq, exists_eq_left', rgT, ixT, ixU, ↓if_pos, ↓if_neg, Int.toNat_natCast, bT0, bT1, t_jobs]
  | succ d ih =>
    intro hn a1 a2 ha x8 h8
    have b1 := hd.2.1 n
    have b2 := @dwt_bd (A 3) ht s.1 (5 * n + m) (by omega)
    have b3 := @dwg_bd (A 3) al m ht s.1 n (by omega)
    have b4 := @dcho_is (A 3) al now s m ht n (by omega)
    have b5 := b4.1
    have b6 := b4.2.1
    have e9 : dcho (A 3) m now al s (n + 1) = if s.2.1 n ≤ now ∧ dwt (A 3) s.1 (5 * n + m) ≠ 0 ∧ (dcho (A 3) m now al s n).2 < dwg (A 3) s.1 al n m then ((n : Int), dwg (A 3) s.1 al n m) else dcho (A 3) m now al s n := rfl
    rw [ha] at e9 b5 b6
    simp only [] at b5 b6
    have ihn := ih (n + 1) (by omega)
    rw [r4_9]
    by_cases k1 : s.2.1 n ≤ now
    · by_cases k2 : dwt (A 3) s.1 (5 * n + m) = 0
      · rw [if_neg (by omega)] at e9
        simp (disch := omega) only [r4_0, r4_1, r4_3, r4_4, r4_6, r4_7, r4_11, r4_12, r4_15, r4_18, r4_19, r4_22, r4_24, r4_27, r4_28, r4_31, r4_32, r4_33, r4_35, r4_36, r4_39, r4_42, r4_45, r4_47, r4_50, r4_51, r4_52, r4_54, r4_55, r4_56, r4_57, r4_60, r4_63, r4_64, r4_66, r4_68, r4_70, r4_73, r4_75, r4_77, r4_79, r4_81, r4_84, r4_87, r4_89, Cn_n, Cn_v, Cn_x, dp_0, dp_1, dp_2, dp_3, dp_4, okv_n, okv_i, okv_r, eq_self, true_and, and_true, Option.some.injEq, exists_eq_left', rgT, ixT, ixU, ↓if_pos, ↓if_neg, Int.toNat_natCast, bT0, bT1, g_21_0, g_21_1, g_21_2, t_jobs, rget_24, hs_25, dd_wait hd ht]
        exact ihn _ _ e9 _ h8
      · cases al
        · have e7 : dwg (A 3) s.1 false n m = 0 := rfl
          rw [e7] at e9
          by_cases k3 : a2 < 0
          · rw [if_pos ⟨k1, k2, k3⟩] at e9
            simp (disch := omega) only [r4_0, r4_1, r4_3, r4_4, r4_6, r4_7, r4_11, r4_12, r4_15, r4_18, r4_19, r4_22, r4_24, r4_27, r4_28, r4_31, r4_32, r4_33, r4_35, r4_36, r4_39, r4_42, r4_45, r4_47, r4_50, r4_51, r4_52, r4_54, r4_55, r4_56, r4_57, r4_60, r4_63, r4_64, r4_66, r4_68, r4_70, r4_73, r4_75, r4_77, r4_79, r4_81, r4_84, r4_87, r4_89, Cn_n, Cn_v, Cn_x, dp_0, dp_1, dp_2, dp_3, dp_4, okv_n, okv_i, okv_r, eq_self, true_and, and_true, Option.some.injEq, exists_eq_left', rgT, ixT, ixU, ↓if_pos, ↓if_neg, Int.toNat_natCast, bT0, bT1, g_21_0, g_21_1, g_21_2, h8, t_jobs, rget_24, hs_25, dd_wait hd ht, Bool.false_eq_true]
            exact ihn _ _ e9 _ rfl
          · rw [if_neg (fun h => k3 h.2.2)] at e9
            simp (disch := omega) only [r4_0, r4_1, r4_3, r4_4, r4_6, r4_7, r4_11, r4_12, r4_15, r4_18, r4_19, r4_22, r4_24, r4_27, r4_28, r4_31, r4_32, r4_33, r4_35, r4_36, r4_39, r4_42, r4_45, r4_47, r4_50, r4_51, r4_52, r4_54, r4_55, r4_56, r4_57, r4_60, r4_63, r4_64, r4_66, r4_68, r4_70, r4_73, r4_75, r4_77, r4_79, r4_81, r4_84, r4_87, r4_89, Cn_n, Cn_v, Cn_x, dp_0, dp_1, dp_2, dp_3, dp_4, okv_n, okv_i, okv_r, eq_self, true_and, and_true, Option.some.injEq, exists_eq_left', rgT, ixT, ixU, ↓if_pos, ↓if_neg, Int.toNat_natCast, bT0, bT1, g_21_0, g_21_1, g_21_2, h8, t_jobs, rget_24, hs_25, dd_wait hd ht, Bool.false_eq_true]
            exact ihn _ _ e9 _ rfl
        · have m1 := hal rfl
          have e7 : dwg (A 3) s.1 true n m = dwt (A 3) s.1 (5 * n + (1 - m)) := rfl
          rw [e7] at b3 e9
          by_cases k3 : a2 < dwt (A 3) s.1 (5 * n + (1 - m))
          · rw [if_pos ⟨k1, k2, k3⟩] at e9
            simp (disch := omega) only [r4_0, r4_1, r4_3, r4_4, r4_6, r4_7, r4_11, r4_12, r4_15, r4_18, r4_19, r4_22, r4_24, r4_27, r4_28, r4_31, r4_32, r4_33, r4_35, r4_36, r4_39, r4_42, r4_45, r4_47, r4_50, r4_51, r4_52, r4_54, r4_55, r4_56, r4_57, r4_60, r4_63, r4_64, r4_66, r4_68, r4_70, r4_73, r4_75, r4_77, r4_79, r4_81, r4_84, r4_87, r4_89, Cn_n, Cn_v, Cn_x, dp_0, dp_1, dp_2, dp_3, dp_4, okv_n, okv_i, okv_r, eq_self, true_and, and_true, Option.some.injEq, exists_eq_left', rgT, ixT, ixU, ↓if_pos, ↓if_neg, Int.toNat_natCast, bT0, bT1, g_21_0, g_21_1, g_21_2, h8, t_jobs, rget_24, hs_25, dd_wait hd ht, om1]
            exact ihn _ _ e9 _ rfl
          · rw [if_neg (fun h => k3 h.2.2)] at e9
            simp (disch := omega) only [r4_0, r4_1, r4_3, r4_4, r4_6, r4_7, r4_11, r4_12, r4_15, r4_18, r4_19, r4_22, r4_24, r4_27, r4_28, r4_31, r4_32, r4_33, r4_35, r4_36, r4_39, r4_42, r4_45, r4_47, r4_50, r4_51, r4_52, r4_54, r4_55, r4_56, r4_57, r4_60, r4_63, r4_64, r4_66, r4_68, r4_70, r4_73, r4_75, r4_77, r4_79, r4_81, r4_84, r4_87, r4_89, Cn_n, Cn_v, Cn_x, dp_0, dp_1, dp_2, dp_3, dp_4, okv_n, okv_i, okv_r, eq_self, true_and, and_true, Option.some.injEq, exists_eq_left', rgT, ixT, ixU, ↓if_pos, ↓if_neg, Int.toNat_natCast, bT0, bT1, g_21_0, g_21_1, g_21_2, h8, t_jobs, rget_24, hs_25, dd_wait hd ht, om1]
            exact ihn _ _ e9 _ rfl
    · rw [if_neg (fun h => k1 h.1)] at e9
      simp (disch := omega) only [r4_0, r4_1, r4_3, r4_4, r4_6, r4_7, r4_11, r4_12, r4_15, r4_18, r4_19, r4_22, r4_24, r4_27, r4_28, r4_31, r4_32, r4_33, r4_35, r4_36, r4_39, r4_42, r4_45, r4_47, r4_50, r4_51, r4_52, r4_54, r4_55, r4_56, r4_57, r4_60, r4_63, r4_64, r4_66, r4_68, r4_70, r4_73, r4_75, r4_77, r4_79, r4_81, r4_84, r4_87, r4_89, Cn_n, Cn_v, Cn_x, dp_0, dp_1, dp_2, dp_3, dp_4, okv_n, okv_i, okv_r, eq_self, true_and, and_true, Option.some.injEq, exists_eq_left', rgT, ixT, ixU, ↓if_pos, ↓if_neg, Int.toNat_natCast, bT0, bT1, g_21_0, g_21_1, g_21_2, t_jobs, rget_24, hs_25]
      exact ihn _ _ e9 _ h8
theorem dd_begin0 : Ew 6 [vR 21, .inl i, .inl now, .inl (-1), vR 1] (mk (hs A s) F q) Q ↔ Q (.inl none, mk (hs A s) F q) := by
  unfold Ew
  rw [rc_6 g_21_0 rfl rfl rfl rfl, lc_6]
  simp (disch := omega) only [r6_0, r6_1, r6_2, r6_5, r6_6, r6_7, r6_9, r6_10, r6_11, r6_14, r6_15, r6_17, r6_18, r6_21, r6_22, r6_23, r6_24, r6_27, r6_28, r6_31, r6_32, r6_34, r6_37, r6_38, r6_41, r6_42, r6_44, r6_47, Cn_n, Cn_v, Cn_x, dp_0, dp_1, dp_2, dp_3, dp_4, okv_n, okv_i, okv_r, eq_self, true_and, and_true, Option.some.injEq, exists_eq_left', rgT, ixT, ixU, ↓if_pos, ↓if_neg, Int.toNat_natCast, bT0, bT1]
theorem dd_begin1 {c : Nat} (hm : m < 5) (hc : c < 5) : Ew 6 [vR 21, .inl (m : Int), .inl now, .inl (c : Int), vR 1] (mk (hs A s) F q) Q ↔ Q (.inl none, mk (hs A (uq s.1 (5 * c + m) now, uq s.2.1 c (now + A 3 (5 * c + m)), uq s.2.2 m (now + A 3 (5 * c + m)))) F q) := by
  unfold Ew
  rw [rc_6 g_21_0 rfl rfl rfl rfl, lc_6]
  simp (disch := omega) only [r6_0, r6_1, r6_2, r6_5, r6_6, r6_7, r6_9, r6_10, r6_11, r6_14, r6_15, r6_17, r6_18, r6_21, r6_22, r6_23, r6_24, r6_27, r6_28, r6_31, r6_32, r6_34, r6_37, r6_38, r6_41, r6_42, r6_44, r6_47, Cn_n, Cn_v, Cn_x, dp_0, dp_1, dp_2, dp_3, dp_4, okv_n, okv_i, okv_r, eq_self, true_and, and_true, Option.some.injEq, exists_eq_left', rgT, ixT, ixU, ↓if_pos, ↓if_neg, Int.toNat_natCast, bT0, bT1, g_21_0, g_21_1, g_21_2, t_time, gput_22, rput_24, rput_26, hs_3, hs_u23, hs_u25, hs_u27]
theorem dd_next (hd : DR s) (hn0 : 0 ≤ now) (hn1 : now ≤ 50000) : Ew 7 [vR 21, .inl now] (mk (hs A s) F q) Q ↔ Q (.inl (some (.inl (dnx s.2.2 now 5))), mk (hs A s) F q) := by
  refine Ew_iff ⟨rc_7 g_21_0 rfl, ?_⟩
  rw [lc_7]
  simp only [r7_0, r7_1, r7_2, r7_3, r7_5, r7_6, r7_9, r7_10, r7_13, r7_14, r7_17, r7_19, r7_21, r7_22, r7_25, r7_26, r7_27, r7_30, r7_32, r7_33, r7_36, r7_38, r7_39, r7_42, r7_45, r7_46, Cn_n, Cn_v, Cn_x, dp_0, dp_1, dp_2, dp_3, dp_4, okv_n, okv_i, okv_r, eq_self, true_and, and_true, Option.some.injEq, exists_eq_left']
  suffices key : ∀ n d : Nat, n + d = 5 → ∀ a1 : Int, dnx s.2.2 now n = a1 → ∀ x4 : Option AV, okv x4 = true → Wp 7 4 [some (vR 21), some (.inl now), some (.inl a1), some (.inl (n : Int)), x4] [] (mk (hs A s) F q) (fun r => r = (.inl (some (.inl (dnx s.2.2 now 5))), mk (hs A s) F q)) by
    exact key 0 5 (by omega) _ rfl none rfl
  intro n d
  induction d generalizing n with
  | zero =>
    intro hn a1 ha x4 h4
    obtain rfl : n = 5 := by omega
    rw [r7_4, ha]
    simp (disch := omega) only [r7_0, r7_1, r7_2, r7_3, r7_5, r7_6, r7_9, r7_10, r7_13, r7_14, r7_17, r7_19, r7_21, r7_22, r7_25, r7_26, r7_27, r7_30, r7_32, r7_33, r7_36, r7_38, r7_39, r7_42, r7_45, r7_46, Cn_n, Cn_v, Cn_x, dp_0, dp_1, dp_2, dp_3, dp_4, okv_n, okv_i, okv_r, eq_self, true_and, and_true, Option.some.injEq, exists_eq_left', rgT, ixT, ixU, ↓if_pos, ↓if_neg, Int.toNat_natCast, bT0, bT1]
  | succ d ih =>
    intro hn a1 ha x4 h4
    have b1 := hd.2.2 n
    have b2 : -1 ≤ dnx s.2.2 now n ∧ dnx s.2.2 now n ≤ 100000 := by
      rcases @dnx_is now s.2.2 hn0 n with ⟨g1, -⟩ | ⟨g1, ⟨m9, g2, g3⟩, -⟩
      · omega
      · have := hd.2.2 m9; omega
    have e9 : dnx s.2.2 now (n + 1) = if now < s.2.2 n ∧ (dnx s.2.2 now n = -1 ∨ s.2.2 n < dnx s.2.2 now n) then s.2.2 n else dnx s.2.2 now n := rfl
    rw [ha] at e9 b2
    have ihn := ih (n + 1) (by omega)
    rw [r7_4]
    by_cases k1 : now < s.2.2 n
    · by_cases k2 : a1 = -1
      · rw [if_pos ⟨k1, Or.inl k2⟩] at e9
        simp (disch := omega) only [r7_0, r7_1, r7_2, r7_3, r7_5, r7_6, r7_9, r7_10, r7_13, r7_14, r7_17, r7_19, r7_21, r7_22, r7_25, r7_26, r7_27, r7_30, r7_32, r7_33, r7_36, r7_38, r7_39, r7_42, r7_45, r7_46, Cn_n, Cn_v, Cn_x, dp_0, dp_1, dp_2, dp_3, dp_4, okv_n, okv_i, okv_r, eq_self, true_and, and_true, Option.some.injEq, exists_eq_left', rgT, ixT, ixU, ↓if_pos, ↓if_neg, Int.toNat_natCast, bT0, bT1, g_21_0, g_21_1, g_21_2, rget_26, hs_27, h4]
        exact ihn _ e9 _ rfl
      · by_cases k3 : s.2.2 n < a1
        · rw [if_pos ⟨k1, Or.inr k3⟩] at e9
          simp (disch := omega) only [r7_0, r7_1, r7_2, r7_3, r7_5, r7_6, r7_9, r7_10, r7_13, r7_14, r7_17, r7_19, r7_21, r7_22, r7_25, r7_26, r7_27, r7_30, r7_32, r7_33, r7_36, r7_38, r7_39, r7_42, r7_45, r7_46, Cn_n, Cn_v, Cn_x, dp_0, dp_1, dp_2, dp_3, dp_4, okv_n, okv_i, okv_r, eq_self, true_and, and_true, Option.some.injEq, exists_eq_left', rgT, ixT, ixU, ↓if_pos, ↓if_neg, Int.toNat_natCast, bT0, bT1, g_21_0, g_21_1, g_21_2, rget_26, hs_27, h4]
          exact ihn _ e9 _ rfl
        · rw [if_neg (by omega)] at e9
          simp (disch := omega) only [r7_0, r7_1, r7_2, r7_3, r7_5, r7_6, r7_9, r7_10, r7_13, r7_14, r7_17, r7_19, r7_21, r7_22, r7_25, r7_26, r7_27, r7_30, r7_32, r7_33, r7_36, r7_38, r7_39, r7_42, r7_45, r7_46, Cn_n, Cn_v, Cn_x, dp_0, dp_1, dp_2, dp_3, dp_4, okv_n, okv_i, okv_r, eq_self, true_and, and_true, Option.some.injEq, exists_eq_left', rgT, ixT, ixU, ↓if_pos, ↓if_neg, Int.toNat_natCast, bT0, bT1, g_21_0, g_21_1, g_21_2, rget_26, hs_27, h4]
          exact ihn _ e9 _ rfl
    · rw [if_neg (by omega)] at e9
      simp (disch := omega) only [r7_0, r7_1, r7_2, r7_3, r7_5, r7_6, r7_9, r7_10, r7_13, r7_14, r7_17, r7_19, r7_21, r7_22, r7_25, r7_26, r7_27, r7_30, r7_32, r7_33, r7_36, r7_38, r7_39, r7_42, r7_45, r7_46, Cn_n, Cn_v, Cn_x, dp_0, dp_1, dp_2, dp_3, dp_4, okv_n, okv_i, okv_r, eq_self, true_and, and_true, Option.some.injEq, exists_eq_left', rgT, ixT, ixU, ↓if_pos, ↓if_neg, Int.toNat_natCast, bT0, bT1, g_21_0, g_21_1, g_21_2, rget_26, hs_27, h4]
      exact ihn _ e9 _ rfl
theorem dd_last (hd : DR s) : Ew 9 [vR 21] (mk (hs A s) F q) Q ↔ Q (.inl (some (.inl (imax s.2.2 0 5))), mk (hs A s) F q) := by
  refine Ew_iff ⟨rc_9 g_21_0, ?_⟩
  rw [lc_9]
  simp only [r9_0, r9_1, r9_2, r9_3, r9_5, r9_6, r9_9, r9_10, r9_11, r9_14, r9_15, r9_18, r9_21, r9_22, r9_25, r9_28, r9_29, Cn_n, Cn_v, Cn_x, dp_0, dp_1, dp_2, dp_3, dp_4, okv_n, okv_i, okv_r, eq_self, true_and, and_true, Option.some.injEq, exists_eq_left']
  have key := Rn_for (fun n => Wp 9 4 [some (vR 21), some (.inl (imax s.2.2 0 n)), some (.inl (n : Int))] [] (mk (hs A s) F q) (fun r => r = (.inl (some (.inl (imax s.2.2 0 5))), mk (hs A s) F q))) 5 (fun n hn ih => ?_) ?_
  · exact key
  · have b1 := hd.2.2 n
    have b2 := @imax_bd s.2.2 0 0 100000 (by omega) (by omega) n (fun k _ => (hd.2.2 k).2)
    rw [r9_4]
    simp (disch := omega) only [r9_0, r9_1, r9_2, r9_3, r9_5, r9_6, r9_9, r9_10, r9_11, r9_14, r9_15, r9_18, r9_21, r9_22, r9_25, r9_28, r9_29, Cn_n, Cn_v, Cn_x, dp_0, dp_1, dp_2, dp_3, dp_4, okv_n, okv_i, okv_r, eq_self, true_and, and_true, Option.some.injEq, exists_eq_left', rgT, ixT, ixU, ↓if_pos, ↓if_neg, Int.toNat_natCast, bT0, bT1, g_21_0, g_21_1, g_21_2, rget_26, hs_27]
    exact ih
  · rw [r9_4]
    simp (disch := omega) only [r9_0, r9_1, r9_2, r9_3, r9_5, r9_6, r9_9, r9_10, r9_11, r9_14, r9_15, r9_18, r9_21, r9_22, r9_25, r9_28, r9_29, Cn_n, Cn_v, Cn_x, dp_0, dp_1, dp_2, dp_3, dp_4, okv_n, okv_i, okv_r, eq_self, true_and, and_true, Option.some.injEq, exists_eq_left', rgT, ixT, ixU, ↓if_pos, ↓if_neg, Int.toNat_natCast, bT0, bT1]
end DISP
