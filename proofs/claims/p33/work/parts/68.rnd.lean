/-! the rounding in the shop -/
def hrd (A : Nat → Nat → Int) (dn up : Nat → Int) : Nat → Nat → Int := ua (ua A 45 dn) 47 up
abbrev FRR (F F1 : Nat → Int) (J M : Nat) (lf : Int) : Prop := (∀ k, k ≠ 579 → k ≠ 580 → k ≠ 581 → k ≠ 582 → k ≠ 583 → k ≠ 595 → F1 k = F k) ∧ F1 579 = 1 + (J : Int) ∧ F1 580 = 1 + (J : Int) + (M : Int) ∧ F1 581 = 1 + (J : Int) + (M : Int) + 1 ∧ F1 582 = 1 + (J : Int) + (M : Int) + 2 ∧ F1 583 = lf ∧ F1 595 = ((J + M + 4 : Nat) : Int)
def rdp (t : Nat → Int) (d : Int) (M j m : Nat) : Nat → Int := fun k => if (k / 5 < j ∨ (k / 5 = j ∧ k % 5 < m)) ∧ k % 5 < M then t k / d else 0
theorem rdp_0 {t : Nat → Int} {d : Int} {M : Nat} : rdp t d M 0 0 = fun _ => 0 := by
  funext k
  unfold rdp
  rw [if_neg (by omega)]
theorem rdp_s {t : Nat → Int} {d : Int} {M j m : Nat} (hm : m < M) (hM5 : M ≤ 5) : uq (rdp t d M j m) (5 * j + m) (t (5 * j + m) / d) = rdp t d M j (m + 1) := by
  funext k
  by_cases hk : k = 5 * j + m
  · subst hk
    rw [uq_s]
    unfold rdp
    rw [if_pos (by omega)]
  · rw [uq_n hk]
    unfold rdp
    by_cases h1 : (k / 5 < j ∨ (k / 5 = j ∧ k % 5 < m)) ∧ k % 5 < M
    · rw [if_pos h1, if_pos (by omega)]
    · rw [if_neg h1, if_neg (by omega)]
theorem rdp_r {t : Nat → Int} {d : Int} {M j : Nat} : rdp t d M j M = rdp t d M (j + 1) 0 := by
  funext k
  unfold rdp
  by_cases h1 : (k / 5 < j ∨ (k / 5 = j ∧ k % 5 < M)) ∧ k % 5 < M
  · rw [if_pos h1, if_pos (by omega)]
  · rw [if_neg h1, if_neg (by omega)]
theorem rdp_at {t : Nat → Int} {d : Int} {J M j m : Nat} (hj : j < J) (hm : m < M) (hM5 : M ≤ 5) : rdp t d M J 0 (5 * j + m) = dq t d j m := by
  unfold rdp dq
  rw [if_pos (by omega)]
theorem rdp_z {t : Nat → Int} {d : Int} {J M j m : Nat} (hm5 : m < 5) (h : J ≤ j ∨ M ≤ m) : rdp t d M J 0 (5 * j + m) = 0 := by
  unfold rdp
  rw [if_neg (by omega)]
section RND
variable {A : Nat → Nat → Int} {F : Nat → Int} {q : List Int × Nat} {Q : AR → Prop} {J M : Nat} {R R0 rf qu dn up f : Nat → Int} {d v i j lf : Int} {k : Nat}
theorem hr_45 : hnb (hrd A dn up) R rf qu 45 = dn := by
  rw [hb_n (by decide) (by decide) (by decide)]
  unfold hrd
  rw [ua_n (by decide), ua_s]
theorem hr_47 : hnb (hrd A dn up) R rf qu 47 = up := by
  rw [hb_n (by decide) (by decide) (by decide)]
  unfold hrd
  rw [ua_s]
theorem hr_3 : hnb (hrd A dn up) R rf qu 3 = A 3 := by
  rw [hb_n (by decide) (by decide) (by decide)]
  unfold hrd
  rw [ua_n (by decide), ua_n (by decide)]
theorem hr_f45 : ua (hnb (hrd A dn up) R rf qu) 45 f = hnb (hrd A f up) R rf qu := by
  unfold hnb hrd
  rw [ua_c (k := 43) (by decide), ua_c (k := 41) (by decide), ua_c (k := 39) (by decide), ua_c (k := 47) (by decide), ua_ua]
theorem hr_f47 : ua (hnb (hrd A dn up) R rf qu) 47 f = hnb (hrd A dn f) R rf qu := by
  unfold hnb hrd
  rw [ua_c (k := 43) (by decide), ua_c (k := 41) (by decide), ua_c (k := 39) (by decide), ua_ua]
theorem hr_u45 : u2 (hnb (hrd A dn up) R rf qu) 45 k v = hnb (hrd A (uq dn k v) up) R rf qu := by unfold u2; rw [hr_f45, hr_45]
theorem hr_u47 : u2 (hnb (hrd A dn up) R rf qu) 47 k v = hnb (hrd A dn (uq up k v)) R rf qu := by unfold u2; rw [hr_f47, hr_47]
theorem hr_id : hnb (hrd A (A 45) (A 47)) (A 39) (A 41) (A 43) = A := by
  unfold hnb hrd
  rw [ua_id, ua_id, ua_id, ua_id, ua_id]
theorem FRR_add {F1 : Nat → Int} {x : Int} (h : FRR F F1 J M lf) : FRR F (uf F1 583 (F1 583 + x)) J M (lf + x) := by
  obtain ⟨h1, h2, h3, h4, h5, h6, h7⟩ := h
  refine ⟨fun k k1 k2 k3 k4 k5 k6 => by rw [uf_n k5]; exact h1 k k1 k2 k3 k4 k5 k6, ?_, ?_, ?_, ?_, ?_, ?_⟩
  · rw [uf_n (by decide)]; exact h2
  · rw [uf_n (by decide)]; exact h3
  · rw [uf_n (by decide)]; exact h4
  · rw [uf_n (by decide)]; exact h5
  · rw [uf_s, h6]
  · rw [uf_n (by decide)]; exact h7
theorem rq_quot (h0 : 0 ≤ v) (h1 : v ≤ 100000) (hd : 1 ≤ d) (hd1 : d ≤ 100) : Ew 34 [.inl v, .inl d] (mk A F q) Q ↔ Q (.inl (some (.inl (v / d))), mk A F q) := by
  have e1 : v.tdiv d = v / d := Int.tdiv_eq_ediv_of_nonneg h0
  have e2 : (0 < d) = True := eq_true (by omega)
  unfold Ew
  rw [rc_34 rfl rfl, lc_34]
  simp (disch := omega) only [r34_0, r34_1, r34_2, r34_5, r34_6, r34_9, r34_10, r34_11, r34_12, Cn_n, Cn_v, Cn_x, dp_0, dp_1, dp_2, dp_3, dp_4, okv_n, okv_i, okv_r, eq_self, true_and, and_true, Option.some.injEq, exists_eq_left', rgT, ixT, ixU, ↓if_pos, ↓if_neg, Int.toNat_natCast, bT0, bT1, e1, e2]
theorem rd_down (hJ : F 17 = J) (hM : F 18 = M) (hJ5 : J ≤ 5) (hM5 : M ≤ 5) (ht : TOK (A 3)) (hd : 1 ≤ d) (hd1 : d ≤ 100) : Ew 28 [vR 36, vR 1, .inl d] (mk (hnb (hrd A dn up) R rf qu) F q) Q ↔ Q (.inl none, mk (hnb (hrd A (rdp (A 3) d M J 0) (fun _ => 0)) R rf qu) F q) := by
  refine Ew_iff ⟨rc_28 g_36_0 rfl rfl, ?_⟩
  rw [lc_28]
  simp (disch := omega) only [r28_0, r28_1, r28_4, r28_5, r28_8, r28_9, r28_12, r28_13, r28_16, r28_17, r28_19, r28_20, r28_23, r28_26, r28_27, r28_31, r28_32, r28_35, r28_38, r28_39, r28_42, r28_43, r28_45, r28_46, r28_47, r28_49, r28_52, r28_53, r28_56, r28_59, r28_62, r28_65, r28_68, r28_71, Cn_n, Cn_v, Cn_x, dp_0, dp_1, dp_2, dp_3, dp_4, okv_n, okv_i, okv_r, eq_self, true_and, and_true, Option.some.injEq, exists_eq_left', rgT, ixT, ixU, ↓if_pos, ↓if_neg, Int.toNat_natCast, bT0, bT1, g_36_0, g_36_1, g_36_2, g_36_3, s_36_3, g_36_4, s_36_4, g_36_5, s_36_5, g_36_6, s_36_6, g_36_7, s_36_7, gfill_44, gfill_46, hr_f45, hr_f47]
  suffices key : ∀ x j : Nat, j + x = J → ∀ x4 : Option AV, Wp 28 18 [some (vR 36), some (vR 1), some (.inl d), some (.inl (j : Int)), x4] [] (mk (hnb (hrd A (rdp (A 3) d M j 0) (fun _ => 0)) R rf qu) F q) (fun r => r = (.inl none, mk (hnb (hrd A (rdp (A 3) d M J 0) (fun _ => 0)) R rf qu) F q)) by
    have k0 := key J 0 (by omega) none
    rw [rdp_0] at k0
    exact k0
  intro x
  induction x with
  | zero =>
    intro j hj x4
    obtain rfl : j = J := by omega
    rw [r28_18]
    simp (disch := omega) only [r28_0, r28_1, r28_4, r28_5, r28_8, r28_9, r28_12, r28_13, r28_16, r28_17, r28_19, r28_20, r28_23, r28_26, r28_27, r28_31, r28_32, r28_35, r28_38, r28_39, r28_42, r28_43, r28_45, r28_46, r28_47, r28_49, r28_52, r28_53, r28_56, r28_59, r28_62, r28_65, r28_68, r28_71, Cn_n, Cn_v, Cn_x, dp_0, dp_1, dp_2, dp_3, dp_4, okv_n, okv_i, okv_r, eq_self, true_and, and_true, Option.some.injEq, exists_eq_left', rgT, ixT, ixU, ↓if_pos, ↓if_neg, Int.toNat_natCast, bT0, bT1, g_36_0, g_36_1, g_36_2, g_36_3, s_36_3, g_36_4, s_36_4, g_36_5, s_36_5, g_36_6, s_36_6, g_36_7, s_36_7, t_jobs]
  | succ x ih =>
    intro j hj x4
    rw [r28_18]
    simp (disch := omega) only [r28_0, r28_1, r28_4, r28_5, r28_8, r28_9, r28_12, r28_13, r28_16, r28_17, r28_19, r28_20, r28_23, r28_26, r28_27, r28_31, r28_32, r28_35, r28_38, r28_39, r28_42, r28_43, r28_45, r28_46, r28_47, r28_49, r28_52, r28_53, r28_56, r28_59, r28_62, r28_65, r28_68, r28_71, Cn_n, Cn_v, Cn_x, dp_0, dp_1, dp_2, dp_3, dp_4, okv_n, okv_i, okv_r, eq_self, true_and, and_true, Option.some.injEq, exists_eq_left', rgT, ixT, ixU, ↓if_pos, ↓if_neg, Int.toNat_natCast, bT0, bT1, g_36_0, g_36_1, g_36_2, g_36_3, s_36_3, g_36_4, s_36_4, g_36_5, s_36_5, g_36_6, s_36_6, g_36_7, s_36_7, t_jobs]
    suffices key2 : ∀ x m : Nat, m + x = M → Wp 28 29 [some (vR 36), some (vR 1), some (.inl d), some (.inl (j : Int)), some (.inl (m : Int))] [] (mk (hnb (hrd A (rdp (A 3) d M j m) (fun _ => 0)) R rf qu) F q) (fun r => r = (.inl none, mk (hnb (hrd A (rdp (A 3) d M J 0) (fun _ => 0)) R rf qu) F q)) by
      exact key2 M 0 (by omega)
    intro x2
    induction x2 with
    | zero =>
      intro m hm
      obtain rfl : m = M := by omega
      rw [r28_29]
      simp (disch := omega) only [r28_0, r28_1, r28_4, r28_5, r28_8, r28_9, r28_12, r28_13, r28_16, r28_17, r28_19, r28_20, r28_23, r28_26, r28_27, r28_31, r28_32, r28_35, r28_38, r28_39, r28_42, r28_43, r28_45, r28_46, r28_47, r28_49, r28_52, r28_53, r28_56, r28_59, r28_62, r28_65, r28_68, r28_71, Cn_n, Cn_v, Cn_x, dp_0, dp_1, dp_2, dp_3, dp_4, okv_n, okv_i, okv_r, eq_self, true_and, and_true, Option.some.injEq, exists_eq_left', rgT, ixT, ixU, ↓if_pos, ↓if_neg, Int.toNat_natCast, bT0, bT1, g_36_0, g_36_1, g_36_2, g_36_3, s_36_3, g_36_4, s_36_4, g_36_5, s_36_5, g_36_6, s_36_6, g_36_7, s_36_7, t_machs]
      rw [rdp_r]
      exact ih (j + 1) (by omega) _
    | succ x2 ih2 =>
      intro m hm
      have b1 := ht (5 * j + m) (by omega)
      rw [r28_29]
      simp (disch := omega) only [r28_0, r28_1, r28_4, r28_5, r28_8, r28_9, r28_12, r28_13, r28_16, r28_17, r28_19, r28_20, r28_23, r28_26, r28_27, r28_31, r28_32, r28_35, r28_38, r28_39, r28_42, r28_43, r28_45, r28_46, r28_47, r28_49, r28_52, r28_53, r28_56, r28_59, r28_62, r28_65, r28_68, r28_71, Cn_n, Cn_v, Cn_x, dp_0, dp_1, dp_2, dp_3, dp_4, okv_n, okv_i, okv_r, eq_self, true_and, and_true, Option.some.injEq, exists_eq_left', rgT, ixT, ixU, ↓if_pos, ↓if_neg, Int.toNat_natCast, bT0, bT1, g_36_0, g_36_1, g_36_2, g_36_3, s_36_3, g_36_4, s_36_4, g_36_5, s_36_5, g_36_6, s_36_6, g_36_7, s_36_7, t_machs, t_time, hr_3, rq_quot, gput_44, hr_u45]
      rw [rdp_s (by omega) hM5]
      exact ih2 (m + 1) (by omega)
theorem rd_lay (hJ : F 17 = J) (hM : F 18 = M) (hJ5 : J ≤ 5) (hM5 : M ≤ 5) (hQ : ∀ F1, FRR F F1 J M 0 → Q (.inl none, mk (hnb (hrd A dn up) (fun _ => 0) rf qu) F1 q)) : Ew 29 [vR 36, vR 1] (mk (hnb (hrd A dn up) R rf qu) F q) Q := by
  have e1 : ∀ x : Int, uf F 579 x 18 = M := fun x => by rw [uf_n (by decide)]; exact hM
  have e2 : ∀ (f : Nat → Int) (x : Int), uf f 579 x 579 = x := fun f x => uf_s
  have e3 : ∀ (f : Nat → Int) (x : Int), uf f 580 x 580 = x := fun f x => uf_s
  have e4 : ∀ (f : Nat → Int) (x y : Int), uf (uf f 580 x) 581 y 580 = x := fun f x y => by rw [uf_n (by decide), uf_s]
  have e5 : ∀ (f : Nat → Int) (x y : Int), uf (uf f 582 x) 583 y 582 = x := fun f x y => by rw [uf_n (by decide), uf_s]
  refine ⟨rc_29 g_36_0 rfl, ?_⟩
  rw [lc_29]
  simp (disch := omega) only [r29_0, r29_1, r29_2, r29_3, r29_6, r29_7, r29_10, r29_11, r29_12, r29_15, r29_16, r29_19, r29_20, r29_23, r29_24, r29_25, r29_28, r29_29, r29_30, r29_33, r29_34, r29_35, r29_38, r29_39, r29_40, r29_43, r29_44, r29_45, r29_48, r29_49, r29_52, r29_53, r29_56, r29_57, r29_58, r29_61, Cn_n, Cn_v, Cn_x, dp_0, dp_1, dp_2, dp_3, dp_4, okv_n, okv_i, okv_r, eq_self, true_and, and_true, Option.some.injEq, exists_eq_left', rgT, ixT, ixU, ↓if_pos, ↓if_neg, Int.toNat_natCast, bT0, bT1, g_36_0, g_36_1, g_36_2, g_36_3, s_36_3, g_36_4, s_36_4, g_36_5, s_36_5, g_36_6, s_36_6, g_36_7, s_36_7, t_jobs, t_machs, hJ, e1, e2, e3, e4, e5, nb_clear]
  refine hQ _ ⟨fun k k1 k2 k3 k4 k5 k6 => ?_, ?_, ?_, ?_, ?_, ?_, ?_⟩
  · rw [uf_n k6, uf_n k5, uf_n k4, uf_n k3, uf_n k2, uf_n k1]
  · rw [uf_n (by decide), uf_n (by decide), uf_n (by decide), uf_n (by decide), uf_n (by decide), uf_s]
  · rw [uf_n (by decide), uf_n (by decide), uf_n (by decide), uf_n (by decide), uf_s]
  · rw [uf_n (by decide), uf_n (by decide), uf_n (by decide), uf_s]
  · rw [uf_n (by decide), uf_n (by decide), uf_s]
  · rw [uf_n (by decide), uf_s]
  · rw [uf_s]; omega
theorem rd_open {F1 : Nat → Int} (hJ : F 17 = J) (hM : F 18 = M) (hJ5 : J ≤ 5) (hM5 : M ≤ 5) (ht : TOK (A 3)) (hd : 1 ≤ d) (hF : FRR F F1 J M lf) (hdn : ∀ j, j < J → ∀ m, m < M → dn (5 * j + m) = dq (A 3) d j m)
    (hQ : ∀ R1, EQN R1 (fun a b => ebk 1 (1 + J) M (cpe (A 3) d) J a b) → Q (.inl none, mk (hnb (hrd A dn up) R1 rf qu) F1 q)) : Ew 30 [vR 36, vR 1, .inl d] (mk (hnb (hrd A dn up) (fun _ => 0) rf qu) F1 q) Q := by
  have hJ1 : F1 17 = J := by rw [hF.1 17 (by decide) (by decide) (by decide) (by decide) (by decide) (by decide)]; exact hJ
  have hM1 : F1 18 = M := by rw [hF.1 18 (by decide) (by decide) (by decide) (by decide) (by decide) (by decide)]; exact hM
  have h579 := hF.2.1
  refine ⟨rc_30 g_36_0 rfl rfl, ?_⟩
  rw [lc_30]
  simp (disch := omega) only [r30_0, r30_1, r30_3, r30_4, r30_7, r30_10, r30_11, r30_15, r30_16, r30_19, r30_22, r30_23, r30_26, r30_27, r30_29, r30_32, r30_33, r30_34, r30_35, r30_36, r30_38, r30_41, r30_44, r30_45, r30_48, r30_49, r30_51, r30_52, r30_55, r30_56, r30_57, r30_58, r30_59, r30_62, r30_64, r30_65, r30_67, r30_70, r30_71, r30_74, r30_75, r30_78, r30_81, r30_84, r30_87, r30_90, Cn_n, Cn_v, Cn_x, dp_0, dp_1, dp_2, dp_3, dp_4, okv_n, okv_i, okv_r, eq_self, true_and, and_true, Option.some.injEq, exists_eq_left', rgT, ixT, ixU, ↓if_pos, ↓if_neg, Int.toNat_natCast, bT0, bT1, g_36_0, g_36_1, g_36_2, g_36_3, s_36_3, g_36_4, s_36_4, g_36_5, s_36_5, g_36_6, s_36_6, g_36_7, s_36_7]
  suffices key : ∀ x j : Nat, j + x = J → ∀ R2, EQN R2 (fun a b => ebk 1 (1 + J) M (cpe (A 3) d) j a b) → ∀ x4 x5 : Option AV, Wp 30 2 [some (vR 36), some (vR 1), some (.inl d), some (.inl (j : Int)), x4, x5] [] (mk (hnb (hrd A dn up) R2 rf qu) F1 q) Q by
    exact key J 0 (by omega) _ (fun a b _ => rfl) none none
  intro x
  induction x with
  | zero =>
    intro j hj R2 hE x4 x5
    obtain rfl : j = J := by omega
    rw [r30_2]
    simp (disch := omega) only [r30_0, r30_1, r30_3, r30_4, r30_7, r30_10, r30_11, r30_15, r30_16, r30_19, r30_22, r30_23, r30_26, r30_27, r30_29, r30_32, r30_33, r30_34, r30_35, r30_36, r30_38, r30_41, r30_44, r30_45, r30_48, r30_49, r30_51, r30_52, r30_55, r30_56, r30_57, r30_58, r30_59, r30_62, r30_64, r30_65, r30_67, r30_70, r30_71, r30_74, r30_75, r30_78, r30_81, r30_84, r30_87, r30_90, Cn_n, Cn_v, Cn_x, dp_0, dp_1, dp_2, dp_3, dp_4, okv_n, okv_i, okv_r, eq_self, true_and, and_true, Option.some.injEq, exists_eq_left', rgT, ixT, ixU, ↓if_pos, ↓if_neg, Int.toNat_natCast, bT0, bT1, g_36_0, g_36_1, g_36_2, g_36_3, s_36_3, g_36_4, s_36_4, g_36_5, s_36_5, g_36_6, s_36_6, g_36_7, s_36_7, t_jobs, hJ1]
    exact hQ R2 hE
  | succ x ih =>
    intro j hj R2 hE x4 x5
    rw [r30_2]
    simp (disch := omega) only [r30_0, r30_1, r30_3, r30_4, r30_7, r30_10, r30_11, r30_15, r30_16, r30_19, r30_22, r30_23, r30_26, r30_27, r30_29, r30_32, r30_33, r30_34, r30_35, r30_36, r30_38, r30_41, r30_44, r30_45, r30_48, r30_49, r30_51, r30_52, r30_55, r30_56, r30_57, r30_58, r30_59, r30_62, r30_64, r30_65, r30_67, r30_70, r30_71, r30_74, r30_75, r30_78, r30_81, r30_84, r30_87, r30_90, Cn_n, Cn_v, Cn_x, dp_0, dp_1, dp_2, dp_3, dp_4, okv_n, okv_i, okv_r, eq_self, true_and, and_true, Option.some.injEq, exists_eq_left', rgT, ixT, ixU, ↓if_pos, ↓if_neg, Int.toNat_natCast, bT0, bT1, g_36_0, g_36_1, g_36_2, g_36_3, s_36_3, g_36_4, s_36_4, g_36_5, s_36_5, g_36_6, s_36_6, g_36_7, s_36_7, t_jobs, hJ1]
    suffices key2 : ∀ x m : Nat, m + x = M → ∀ R2, EQN R2 (fun a b => ebk 1 (1 + J) M (cpe (A 3) d) j a b + rbk (1 + j) (1 + J) m (cpe (A 3) d j) a b) → ∀ x5 : Option AV, Wp 30 13 [some (vR 36), some (vR 1), some (.inl d), some (.inl (j : Int)), some (.inl (m : Int)), x5] [] (mk (hnb (hrd A dn up) R2 rf qu) F1 q) Q by
      exact key2 M 0 (by omega) R2 (EQN_c hE (fun a b => by simp only [rbk_0]; omega)) x5
    intro x2
    induction x2 with
    | zero =>
      intro m hm R2 hE x5
      obtain rfl : m = M := by omega
      rw [r30_13]
      simp (disch := omega) only [r30_0, r30_1, r30_3, r30_4, r30_7, r30_10, r30_11, r30_15, r30_16, r30_19, r30_22, r30_23, r30_26, r30_27, r30_29, r30_32, r30_33, r30_34, r30_35, r30_36, r30_38, r30_41, r30_44, r30_45, r30_48, r30_49, r30_51, r30_52, r30_55, r30_56, r30_57, r30_58, r30_59, r30_62, r30_64, r30_65, r30_67, r30_70, r30_71, r30_74, r30_75, r30_78, r30_81, r30_84, r30_87, r30_90, Cn_n, Cn_v, Cn_x, dp_0, dp_1, dp_2, dp_3, dp_4, okv_n, okv_i, okv_r, eq_self, true_and, and_true, Option.some.injEq, exists_eq_left', rgT, ixT, ixU, ↓if_pos, ↓if_neg, Int.toNat_natCast, bT0, bT1, g_36_0, g_36_1, g_36_2, g_36_3, s_36_3, g_36_4, s_36_4, g_36_5, s_36_5, g_36_6, s_36_6, g_36_7, s_36_7, t_machs, hM1]
      exact ih (j + 1) (by omega) R2 (EQN_c hE (fun a b => ebk_s)) _ _
    | succ x2 ih2 =>
      intro m hm R2 hE x5
      have b1 := ht (5 * j + m) (by omega)
      have b2 := @dq_bd (A 3) d hd ht j m (by omega)
      have e1 := hdn j (by omega) m (by omega)
      have ix : ∀ R3, EQN R3 (fun a b => ebk 1 (1 + J) M (cpe (A 3) d) j a b + rbk (1 + j) (1 + J) (m + 1) (cpe (A 3) d j) a b) → Wp 30 13 [some (vR 36), some (vR 1), some (.inl d), some (.inl (j : Int)), some (.inl ((m : Int) + 1)), some (.inl 1)] [] (mk (hnb (hrd A dn up) R3 rf qu) F1 q) Q ∧ Wp 30 13 [some (vR 36), some (vR 1), some (.inl d), some (.inl (j : Int)), some (.inl ((m : Int) + 1)), some (.inl 0)] [] (mk (hnb (hrd A dn up) R3 rf qu) F1 q) Q := fun R3 h => ⟨ih2 (m + 1) (by omega) R3 h _, ih2 (m + 1) (by omega) R3 h _⟩
      have b3 : 0 ≤ dq (A 3) d j m * d := Int.mul_nonneg b2.1 (by omega)
      rw [Int.mul_comm] at b2
      have hcp : cpe (A 3) d j m = if dq (A 3) d j m * d = A 3 (5 * j + m) then 0 else 1 := rfl
      generalize hw : dq (A 3) d j m * d = w at b2 b3 hcp
      rw [r30_13]
      by_cases c1 : w = A 3 (5 * j + m)
      · rw [if_pos c1] at hcp
        simp (disch := omega) only [r30_0, r30_1, r30_3, r30_4, r30_7, r30_10, r30_11, r30_15, r30_16, r30_19, r30_22, r30_23, r30_26, r30_27, r30_29, r30_32, r30_33, r30_34, r30_35, r30_36, r30_38, r30_41, r30_44, r30_45, r30_48, r30_49, r30_51, r30_52, r30_55, r30_56, r30_57, r30_58, r30_59, r30_62, r30_64, r30_65, r30_67, r30_70, r30_71, r30_74, r30_75, r30_78, r30_81, r30_84, r30_87, r30_90, Cn_n, Cn_v, Cn_x, dp_0, dp_1, dp_2, dp_3, dp_4, okv_n, okv_i, okv_r, eq_self, true_and, and_true, Option.some.injEq, exists_eq_left', rgT, ixT, ixU, ↓if_pos, ↓if_neg, Int.toNat_natCast, bT0, bT1, g_36_0, g_36_1, g_36_2, g_36_3, s_36_3, g_36_4, s_36_4, g_36_5, s_36_5, g_36_6, s_36_6, g_36_7, s_36_7, t_machs, hM1, gget_44, hr_45, e1, hw, t_time, hr_3, h579, nb_wid, tn1, tn2]
        have q0 : EQN (adE R2 (1 + j) (1 + J + m) 0) (fun a b => ebk 1 (1 + J) M (cpe (A 3) d) j a b + rbk (1 + j) (1 + J) (m + 1) (cpe (A 3) d j) a b) := EQN_ad hE (by omega) (fun a b => by simp only [rbk_s, hcp]; omega)
        exact (ix _ q0).1
      · rw [if_neg c1] at hcp
        simp (disch := omega) only [r30_0, r30_1, r30_3, r30_4, r30_7, r30_10, r30_11, r30_15, r30_16, r30_19, r30_22, r30_23, r30_26, r30_27, r30_29, r30_32, r30_33, r30_34, r30_35, r30_36, r30_38, r30_41, r30_44, r30_45, r30_48, r30_49, r30_51, r30_52, r30_55, r30_56, r30_57, r30_58, r30_59, r30_62, r30_64, r30_65, r30_67, r30_70, r30_71, r30_74, r30_75, r30_78, r30_81, r30_84, r30_87, r30_90, Cn_n, Cn_v, Cn_x, dp_0, dp_1, dp_2, dp_3, dp_4, okv_n, okv_i, okv_r, eq_self, true_and, and_true, Option.some.injEq, exists_eq_left', rgT, ixT, ixU, ↓if_pos, ↓if_neg, Int.toNat_natCast, bT0, bT1, g_36_0, g_36_1, g_36_2, g_36_3, s_36_3, g_36_4, s_36_4, g_36_5, s_36_5, g_36_6, s_36_6, g_36_7, s_36_7, t_machs, hM1, gget_44, hr_45, e1, hw, t_time, hr_3, h579, nb_wid, tn1, tn2]
        have q0 : EQN (adE R2 (1 + j) (1 + J + m) 1) (fun a b => ebk 1 (1 + J) M (cpe (A 3) d) j a b + rbk (1 + j) (1 + J) (m + 1) (cpe (A 3) d j) a b) := EQN_ad hE (by omega) (fun a b => by simp only [rbk_s, hcp]; omega)
        exact (ix _ q0).2
theorem rb_edge {s w : Int} (hd : 1 ≤ d) (hd1 : d ≤ 100) (hg : F 581 = 1 + (J : Int) + (M : Int) + 1) (hh : F 582 = 1 + (J : Int) + (M : Int) + 2) (hJM : J + M ≤ 10) (h0 : 0 ≤ i) (h1 : i < 14) (h2 : 0 ≤ j) (h3 : j < 14) (hs0 : 0 ≤ s) (hs1 : s ≤ 2475) :
    Ew 32 [vR 36, .inl i, .inl j, .inl s, .inl w, .inl d] (mk (hnb A R rf qu) F q) Q ↔ Q (.inl none, mk (hnb A (adE (adE (adE R i.toNat j.toNat ((s + d - 1) / d - w - (s / d - w))) (1 + J + M + 1) j.toNat (s / d - w)) i.toNat (1 + J + M + 2) (s / d - w)) rf qu) (uf F 583 (F 583 + (s / d - w))) q) := by
  unfold Ew
  rw [rc_32 g_36_0 rfl rfl rfl rfl rfl, lc_32]
  simp (disch := omega) only [r32_0, r32_1, r32_3, r32_6, r32_8, r32_9, r32_11, r32_12, r32_14, r32_15, r32_16, r32_17, r32_19, r32_22, r32_24, r32_25, r32_27, r32_28, r32_31, r32_32, r32_33, r32_35, r32_37, r32_38, r32_41, r32_42, r32_45, r32_46, r32_49, r32_50, r32_52, r32_55, r32_56, r32_59, r32_60, r32_61, r32_64, r32_66, r32_69, r32_70, r32_70i, r32_71, r32_74, r32_76, r32_77, r32_80, Cn_n, Cn_v, Cn_x, dp_0, dp_1, dp_2, dp_3, dp_4, okv_n, okv_i, okv_r, eq_self, true_and, and_true, Option.some.injEq, exists_eq_left', rgT, ixT, ixU, ↓if_pos, ↓if_neg, Int.toNat_natCast, bT0, bT1, g_36_0, g_36_1, g_36_2, g_36_3, s_36_3, g_36_4, s_36_4, g_36_5, s_36_5, g_36_6, s_36_6, g_36_7, s_36_7, rq_quot, hg, hh, nb_wid, tn3, tn4]
end RND
