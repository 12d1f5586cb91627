/-! the mean of the finishing times -/
def mnd (s n : Int) : UInt64 := FP.ddiv (FP.i2d (Int32.ofInt s)) (FP.i2d (Int32.ofInt n))
theorem mnd_fin : ∀ a : Fin 50, ∀ b : Fin 50, ∀ c : Fin 5, isNaN64 (mnd ((50 * a.val + b.val : Nat) : Int) ((c.val + 1 : Nat) : Int)) = false ∧ (Op.cmpValue (FP.dcmp (mnd ((50 * a.val + b.val : Nat) : Int) ((c.val + 1 : Nat) : Int)) (mnd ((50 * a.val + b.val : Nat) : Int) ((c.val + 1 : Nat) : Int))) .l).toInt = 0 := by decide +kernel
theorem mnd_ok {s n : Int} (h0 : 0 ≤ s) (h1 : s < 2500) (h2 : 1 ≤ n) (h3 : n ≤ 5) : isNaN64 (mnd s n) = false ∧ (Op.cmpValue (FP.dcmp (mnd s n) (mnd s n)) .l).toInt = 0 := by
  have h9 := mnd_fin ⟨s.toNat / 50, by omega⟩ ⟨s.toNat % 50, by omega⟩ ⟨n.toNat - 1, by omega⟩
  have e1 : ((50 * (s.toNat / 50) + s.toNat % 50 : Nat) : Int) = s := by omega
  have e2 : ((n.toNat - 1 + 1 : Nat) : Int) = n := by omega
  simp only [e1, e2] at h9
  exact h9
theorem fi_bd {sg : Nat → Nat → Nat} {ln : Nat → Int} {M j N : Nat} (hpos : ∀ k, k < N → 0 < ln k) (hs : isum ln N ≤ 495) : ∀ {n : Nat}, n ≤ N → 0 ≤ fi sg ln M j n ∧ fi sg ln M j n ≤ 495
  | 0, _ => ⟨Int.le_refl _, (by decide : (0 : Int) ≤ 495)⟩
  | n + 1, hn => by
    have h1 := fi_bd (sg := sg) (M := M) (j := j) hpos hs (n := n) (by omega)
    have h2 := st_bd hpos hs (show n < N by omega)
    simp only [fi]
    split <;> omega
section MEAN
variable {A : Nat → Nat → Int} {F : Nat → Int} {q : List Int × Nat} {Q : AR → Prop} {J M N : Nat} {Ws : Nat → Nat → Int} {sg : Nat → Nat → Nat} {ln : Nat → Int}
theorem fs_bd (hpos : ∀ k, k < N → 0 < ln k) (hs : isum ln N ≤ 495) {x : Nat} (hx : x ≤ 5) : 0 ≤ isum (fun j => fi sg ln M j N) x ∧ isum (fun j => fi sg ln M j N) x < 2500 := by
  have h1 := isum_ge (f := fun j => fi sg ln M j N) (n := x) (fun i _ => (fi_bd hpos hs (Nat.le_refl N)).1)
  have h2 := isum_le (f := fun j => fi sg ln M j N) (b := 495) (n := x) (fun i _ => (fi_bd hpos hs (Nat.le_refl N)).2)
  omega
theorem o_mean (h : PRE A F J M) (hQ : ∀ A1 F1 N Ws sg ln, PPO A A1 F F1 J M N Ws sg ln → Q (.inl (some (.inr (.inr (.inl (mnd (isum (fun j => fi sg ln M j N) J) J))))), mk A1 F1 q)) : Ew 105 [vR 0] (mk A F q) Q := by
  refine ⟨rc_105 g_0_0, ?_⟩
  rw [lc_105]
  simp (disch := omega) only [r105_0, r105_1, r105_4, r105_5, r105_8, r105_11, r105_12, r105_15, r105_18, r105_19, r105_20, r105_21, r105_22, r105_24, r105_25, r105_28, r105_29, r105_30, r105_33, r105_34, r105_37, r105_38, r105_39, r105_42, r105_45, r105_46, r105_47, r105_50, r105_51, r105_54, r105_55, r105_56, r105_57, r105_58, r105_59, Cn_n, Cn_v, Cn_x, dp_0, dp_1, dp_2, dp_3, dp_4, okv_n, okv_i, okv_r, eq_self, true_and, and_true, Option.some.injEq, exists_eq_left', rgT, ixT, ixU, ↓if_pos, ↓if_neg, Int.toNat_natCast, bT0, bT1, g_0_0, g_0_1, g_0_2, g_0_3, g_0_4]
  refine sp_prep h (fun A1 F1 N Ws sg ln g => ?_)
  have hJ1 : F1 17 = J := by rw [g.2.1 17 (by decide) (by decide) (by decide) (by decide) (by decide)]; exact h.2.1
  have hq := hQ _ _ _ _ _ _ g
  have g9 := g.2.2.2.1
  obtain ⟨p1, p2, p3, p4, p5, p6, p7, p8⟩ := g.2.2.2.1
  have hJ0 : 1 ≤ J := h.2.2.2.2.2.1
  have hb := @fs_bd M N sg ln p7 p8 J p4
  have hnan := (mnd_ok hb.1 hb.2 (show (1 : Int) ≤ (J : Int) by omega) (by omega)).1
  unfold mnd at hnan hq
  simp (disch := omega) only [r105_0, r105_1, r105_4, r105_5, r105_8, r105_11, r105_12, r105_15, r105_18, r105_19, r105_20, r105_21, r105_22, r105_24, r105_25, r105_28, r105_29, r105_30, r105_33, r105_34, r105_37, r105_38, r105_39, r105_42, r105_45, r105_46, r105_47, r105_50, r105_51, r105_54, r105_55, r105_56, r105_57, r105_58, r105_59, Cn_n, Cn_v, Cn_x, dp_0, dp_1, dp_2, dp_3, dp_4, okv_n, okv_i, okv_r, eq_self, true_and, and_true, Option.some.injEq, exists_eq_left', rgT, ixT, ixU, ↓if_pos, ↓if_neg, Int.toNat_natCast, bT0, bT1, g_0_0, g_0_1, g_0_2, g_0_3, g_0_4, t_jobs, hJ1]
  suffices key : ∀ d x : Nat, x + d = J → ∀ a : Int, a = isum (fun j => fi sg ln M j N) x → Wp 105 23 [some (vR 0), some (.inl (J : Int)), some (.inl a), some (.inl (x : Int))] [] (mk A1 F1 q) Q by
    exact key J 0 (by omega) 0 rfl
  intro d
  induction d with
  | zero =>
    intro x hx a ha
    obtain rfl : x = J := by omega
    rw [← ha] at hnan hq hb
    rw [r105_23]
    simp (disch := omega) only [r105_0, r105_1, r105_4, r105_5, r105_8, r105_11, r105_12, r105_15, r105_18, r105_19, r105_20, r105_21, r105_22, r105_24, r105_25, r105_28, r105_29, r105_30, r105_33, r105_34, r105_37, r105_38, r105_39, r105_42, r105_45, r105_46, r105_47, r105_50, r105_51, r105_54, r105_55, r105_56, r105_57, r105_58, r105_59, Cn_n, Cn_v, Cn_x, dp_0, dp_1, dp_2, dp_3, dp_4, okv_n, okv_i, okv_r, eq_self, true_and, and_true, Option.some.injEq, exists_eq_left', rgT, ixT, ixU, ↓if_pos, ↓if_neg, Int.toNat_natCast, bT0, bT1, g_0_0, g_0_1, g_0_2, g_0_3, g_0_4, hnan]
    exact hq
  | succ d ih =>
    intro x hx a ha
    have e9 : isum (fun j => fi sg ln M j N) (x + 1) = isum (fun j => fi sg ln M j N) x + fi sg ln M x N := rfl
    rw [r105_23]
    simp (disch := omega) only [r105_0, r105_1, r105_4, r105_5, r105_8, r105_11, r105_12, r105_15, r105_18, r105_19, r105_20, r105_21, r105_22, r105_24, r105_25, r105_28, r105_29, r105_30, r105_33, r105_34, r105_37, r105_38, r105_39, r105_42, r105_45, r105_46, r105_47, r105_50, r105_51, r105_54, r105_55, r105_56, r105_57, r105_58, r105_59, Cn_n, Cn_v, Cn_x, dp_0, dp_1, dp_2, dp_3, dp_4, okv_n, okv_i, okv_r, eq_self, true_and, and_true, Option.some.injEq, exists_eq_left', rgT, ixT, ixU, ↓if_pos, ↓if_neg, Int.toNat_natCast, bT0, bT1, g_0_0, g_0_1, g_0_2, g_0_3, g_0_4, pl_last g9 (show x < J by omega)]
    exact ih (x + 1) (by omega) _ (by omega)
end MEAN
