/-! the plan is made -/
abbrev SAM (A A1 : Nat → Nat → Int) : Prop := ∀ k, k ≠ 6 → k ≠ 8 → k ≠ 10 → k ≠ 12 → k ≠ 14 → k ≠ 16 → k ≠ 18 → k ≠ 20 → A1 k = A k
abbrev SAF (F F1 : Nat → Int) : Prop := ∀ k, k ≠ 72 → k ≠ 73 → k ≠ 74 → k ≠ 75 → k ≠ 76 → F1 k = F k
abbrev SEQp (n N : Nat) (Ws : Nat → Nat → Int) (sg : Nat → Nat → Nat) (ln : Nat → Int) : Prop := ∀ k, k < N → ISLF (Ws k) n (sg k) ∧ ln k = imn (fun r => Ws k (10 * r + sg k r)) (Ws k (10 * 0 + sg k 0)) n ∧ Ws (k + 1) = tko (Ws k) (sg k) (ln k) n
abbrev SEQ (t : Nat → Int) (J M N : Nat) (Ws : Nat → Nat → Int) (sg : Nat → Nat → Nat) (ln : Nat → Int) : Prop := (∀ r, r < J + M → ∀ c, c < J + M → Ws 0 (10 * r + c) = fe t J M r c) ∧ SEQp (J + M) N Ws sg ln ∧ isum ln N = bnd t J M ∧ N ≤ 60
abbrev RECp (A : Nat → Nat → Int) (J M N : Nat) (sg : Nat → Nat → Nat) (ln : Nat → Int) : Prop := ∀ k, k < N → A 16 k = isum ln k ∧ A 18 k = ln k ∧ ∀ j, j < J → A 20 (5 * k + j) = if (sg k j : Int) < M then (sg k j : Int) else -1
abbrev PLN (A : Nat → Nat → Int) (F : Nat → Int) (t : Nat → Int) (J M : Nat) : Prop := ∃ N Ws sg ln, SEQ t J M N Ws sg ln ∧ F 76 = (N : Int) ∧ F 73 = (J : Int) ∧ F 74 = (M : Int) ∧ RECp A J M N sg ln
/-- a place of a row of things anew -/
def upg {α : Type} (f : Nat → α) (i : Nat) (v : α) : Nat → α := fun j => if j = i then v else f j
theorem upg_s {α : Type} {f : Nat → α} {i : Nat} {v : α} : upg f i v i = v := by simp [upg]
theorem upg_n {α : Type} {f : Nat → α} {i j : Nat} {v : α} (h : j ≠ i) : upg f i v j = f j := by simp [upg, h]
/-- the filled table copied, as far as a place -/
def cpf (W t : Nat → Int) (J M r c : Nat) : Nat → Int := fun x => if (x / 10 < r ∨ (x / 10 = r ∧ x % 10 < c)) ∧ x % 10 < J + M then fe t J M (x / 10) (x % 10) else W x
theorem cpf_0 {W t : Nat → Int} {J M : Nat} : cpf W t J M 0 0 = W := by
  funext x
  unfold cpf
  rw [if_neg (by omega)]
theorem cpf_s {W t : Nat → Int} {J M r c : Nat} (hc : c < J + M) (hn : J + M ≤ 10) : uq (cpf W t J M r c) (10 * r + c) (fe t J M r c) = cpf W t J M r (c + 1) := by
  have e1 : (10 * r + c) / 10 = r := by omega
  have e2 : (10 * r + c) % 10 = c := by omega
  funext x
  by_cases hx : x = 10 * r + c
  · subst hx
    rw [uq_s]
    unfold cpf
    rw [e1, e2, if_pos (by omega)]
  · rw [uq_n hx]
    unfold cpf
    by_cases h1 : (x / 10 < r ∨ (x / 10 = r ∧ x % 10 < c)) ∧ x % 10 < J + M
    · rw [if_pos h1, if_pos (by omega)]
    · rw [if_neg h1, if_neg (by omega)]
theorem cpf_r {W t : Nat → Int} {J M r : Nat} : cpf W t J M r (J + M) = cpf W t J M (r + 1) 0 := by
  funext x
  unfold cpf
  by_cases h1 : (x / 10 < r ∨ (x / 10 = r ∧ x % 10 < J + M)) ∧ x % 10 < J + M
  · rw [if_pos h1, if_pos (by omega)]
  · rw [if_neg h1, if_neg (by omega)]
theorem cpf_at {W t : Nat → Int} {J M r c : Nat} (hr : r < J + M) (hc : c < J + M) (hn : J + M ≤ 10) : cpf W t J M (J + M) 0 (10 * r + c) = fe t J M r c := by
  unfold cpf
  rw [if_pos (by omega), show (10 * r + c) / 10 = r by omega, show (10 * r + c) % 10 = c by omega]
theorem BALN_0 {W : Nat → Int} {n : Nat} {L : Int} (h : BALN W n L) (hn : 1 ≤ n) (hn10 : n ≤ 10) (hp : psn W n = 0) : L = 0 := by
  rw [← h.2.1 0 (by omega), isum_congr (g := fun _ => 0) (fun c hc => ?_), isum_zero]
  have h1 := ncnt_zero hp (10 * 0 + c) (by omega)
  have h2 := h.1 0 (by omega) c hc
  have h3 := of_decide_eq_false h1
  apply Classical.byContradiction
  intro h4
  exact h3 ⟨by omega, by omega, by omega⟩
section PREP
variable {A : Nat → Nat → Int} {F : Nat → Int} {q : List Int × Nat} {Q : AR → Prop} {J M : Nat}
theorem sp_copy (hJ : F 17 = J) (hM : F 18 = M) (hJ5 : J ≤ 5) (hM5 : M ≤ 5) (ht : TOK (A 3)) : Ew 45 [vR 4, vR 1] (mk A F q) Q ↔ Q (.inl none, mk (ua A 6 (cpf (A 6) (A 3) J M (J + M) 0)) (uf (uf (uf F 73 J) 74 M) 75 ((J : Int) + M)) q) := by
  refine Ew_iff ⟨rc_45 g_4_0 rfl, ?_⟩
  rw [lc_45]
  simp (disch := omega) only [r45_0, r45_1, r45_2, r45_5, r45_8, r45_9, r45_10, r45_13, r45_16, r45_17, r45_18, r45_21, r45_22, r45_25, r45_26, r45_29, r45_30, r45_32, r45_33, r45_36, r45_39, r45_40, r45_42, r45_43, r45_46, r45_49, r45_50, r45_53, r45_54, r45_55, r45_56, r45_57, r45_58, r45_61, r45_64, r45_67, r45_70, r45_73, r45_76, Cn_n, Cn_v, Cn_x, dp_0, dp_1, dp_2, dp_3, dp_4, okv_n, okv_i, okv_r, eq_self, true_and, and_true, Option.some.injEq, exists_eq_left', rgT, ixT, ixU, ↓if_pos, ↓if_neg, Int.toNat_natCast, bT0, bT1, g_4_0, g_4_1, g_4_2, g_4_3, g_4_4, g_4_5, g_4_6, g_4_7, g_4_8, s_4_8, g_4_9, s_4_9, g_4_10, s_4_10, g_4_11, s_4_11, g_4_12, s_4_12, t_jobs, t_machs, uf_s, uf_n, hJ, hM]
  generalize hF1 : uf (uf (uf F 73 J) 74 M) 75 ((J : Int) + M) = F1
  have hJ1 : F1 17 = J := by rw [← hF1, uf_n (by decide), uf_n (by decide), uf_n (by decide)]; exact hJ
  have hM1 : F1 18 = M := by rw [← hF1, uf_n (by decide), uf_n (by decide), uf_n (by decide)]; exact hM
  have hn1 : F1 75 = (J : Int) + M := by rw [← hF1, uf_s]
  suffices key : ∀ d r : Nat, r + d = J + M → ∀ x3 : Option AV, okv x3 = true → Wp 45 31 [some (vR 4), some (vR 1), some (.inl (r : Int)), x3] [] (mk (ua A 6 (cpf (A 6) (A 3) J M r 0)) F1 q) (fun r => r = (.inl none, mk (ua A 6 (cpf (A 6) (A 3) J M (J + M) 0)) F1 q)) by
    have k0 := key (J + M) 0 (by omega) none rfl
    rw [cpf_0, ua_id] at k0
    exact k0
  intro d
  induction d with
  | zero =>
    intro r hr x3 h3
    obtain rfl : r = J + M := by omega
    rw [r45_31]
    simp (disch := omega) only [r45_0, r45_1, r45_2, r45_5, r45_8, r45_9, r45_10, r45_13, r45_16, r45_17, r45_18, r45_21, r45_22, r45_25, r45_26, r45_29, r45_30, r45_32, r45_33, r45_36, r45_39, r45_40, r45_42, r45_43, r45_46, r45_49, r45_50, r45_53, r45_54, r45_55, r45_56, r45_57, r45_58, r45_61, r45_64, r45_67, r45_70, r45_73, r45_76, Cn_n, Cn_v, Cn_x, dp_0, dp_1, dp_2, dp_3, dp_4, okv_n, okv_i, okv_r, eq_self, true_and, and_true, Option.some.injEq, exists_eq_left', rgT, ixT, ixU, ↓if_pos, ↓if_neg, Int.toNat_natCast, bT0, bT1, g_4_0, g_4_1, g_4_2, g_4_3, g_4_4, g_4_5, g_4_6, g_4_7, g_4_8, s_4_8, g_4_9, s_4_9, g_4_10, s_4_10, g_4_11, s_4_11, g_4_12, s_4_12]
  | succ d ih =>
    intro r hr x3 h3
    rw [r45_31]
    simp (disch := omega) only [r45_0, r45_1, r45_2, r45_5, r45_8, r45_9, r45_10, r45_13, r45_16, r45_17, r45_18, r45_21, r45_22, r45_25, r45_26, r45_29, r45_30, r45_32, r45_33, r45_36, r45_39, r45_40, r45_42, r45_43, r45_46, r45_49, r45_50, r45_53, r45_54, r45_55, r45_56, r45_57, r45_58, r45_61, r45_64, r45_67, r45_70, r45_73, r45_76, Cn_n, Cn_v, Cn_x, dp_0, dp_1, dp_2, dp_3, dp_4, okv_n, okv_i, okv_r, eq_self, true_and, and_true, Option.some.injEq, exists_eq_left', rgT, ixT, ixU, ↓if_pos, ↓if_neg, Int.toNat_natCast, bT0, bT1, g_4_0, g_4_1, g_4_2, g_4_3, g_4_4, g_4_5, g_4_6, g_4_7, g_4_8, s_4_8, g_4_9, s_4_9, g_4_10, s_4_10, g_4_11, s_4_11, g_4_12, s_4_12, h3]
    suffices key2 : ∀ d2 c : Nat, c + d2 = J + M → Wp 45 41 [some (vR 4), some (vR 1), some (.inl (r : Int)), some (.inl (c : Int))] [] (mk (ua A 6 (cpf (A 6) (A 3) J M r c)) F1 q) (fun r => r = (.inl none, mk (ua A 6 (cpf (A 6) (A 3) J M (J + M) 0)) F1 q)) by
      exact key2 (J + M) 0 (by omega)
    intro d2
    induction d2 with
    | zero =>
      intro c hc
      obtain rfl : c = J + M := by omega
      rw [r45_41]
      simp (disch := omega) only [r45_0, r45_1, r45_2, r45_5, r45_8, r45_9, r45_10, r45_13, r45_16, r45_17, r45_18, r45_21, r45_22, r45_25, r45_26, r45_29, r45_30, r45_32, r45_33, r45_36, r45_39, r45_40, r45_42, r45_43, r45_46, r45_49, r45_50, r45_53, r45_54, r45_55, r45_56, r45_57, r45_58, r45_61, r45_64, r45_67, r45_70, r45_73, r45_76, Cn_n, Cn_v, Cn_x, dp_0, dp_1, dp_2, dp_3, dp_4, okv_n, okv_i, okv_r, eq_self, true_and, and_true, Option.some.injEq, exists_eq_left', rgT, ixT, ixU, ↓if_pos, ↓if_neg, Int.toNat_natCast, bT0, bT1, g_4_0, g_4_1, g_4_2, g_4_3, g_4_4, g_4_5, g_4_6, g_4_7, g_4_8, s_4_8, g_4_9, s_4_9, g_4_10, s_4_10, g_4_11, s_4_11, g_4_12, s_4_12]
      rw [cpf_r]
      exact ih (r + 1) (by omega) _ rfl
    | succ d2 ih2 =>
      intro c hc
      have e3 : ua A 6 (cpf (A 6) (A 3) J M r c) 3 = A 3 := ua_n (by decide)
      have ht3 : TOK (ua A 6 (cpf (A 6) (A 3) J M r c) 3) := by rw [e3]; exact ht
      rw [r45_41]
      simp (disch := omega) only [r45_0, r45_1, r45_2, r45_5, r45_8, r45_9, r45_10, r45_13, r45_16, r45_17, r45_18, r45_21, r45_22, r45_25, r45_26, r45_29, r45_30, r45_32, r45_33, r45_36, r45_39, r45_40, r45_42, r45_43, r45_46, r45_49, r45_50, r45_53, r45_54, r45_55, r45_56, r45_57, r45_58, r45_61, r45_64, r45_67, r45_70, r45_73, r45_76, Cn_n, Cn_v, Cn_x, dp_0, dp_1, dp_2, dp_3, dp_4, okv_n, okv_i, okv_r, eq_self, true_and, and_true, Option.some.injEq, exists_eq_left', rgT, ixT, ixU, ↓if_pos, ↓if_neg, Int.toNat_natCast, bT0, bT1, g_4_0, g_4_1, g_4_2, g_4_3, g_4_4, g_4_5, g_4_6, g_4_7, g_4_8, s_4_8, g_4_9, s_4_9, g_4_10, s_4_10, g_4_11, s_4_11, g_4_12, s_4_12, t_fill hJ1 hM1 hJ5 hM5 ht3, gput_5, u2, ua_s, ua_ua, e3]
      rw [cpf_s (by omega) (by omega)]
      exact ih2 (c + 1) (by omega)
theorem sp_prepare1 (hr : F 72 = 1) : Ew 44 [vR 4, vR 1] (mk A F q) Q ↔ Q (.inl none, mk A F q) := by
  unfold Ew
  rw [rc_44 g_4_0 rfl, lc_44]
  simp (disch := omega) only [r44_0, r44_1, r44_4, r44_7, r44_8, r44_9, r44_10, r44_13, r44_14, r44_15, r44_18, r44_19, r44_22, r44_23, r44_24, r44_25, r44_26, r44_30, r44_32, r44_35, r44_36, r44_37, r44_40, r44_41, r44_44, r44_45, r44_48, r44_50, r44_51, r44_53, r44_54, r44_56, r44_59, r44_60, r44_62, r44_63, r44_64, r44_67, r44_70, r44_71, r44_72, r44_75, Cn_n, Cn_v, Cn_x, dp_0, dp_1, dp_2, dp_3, dp_4, okv_n, okv_i, okv_r, eq_self, true_and, and_true, Option.some.injEq, exists_eq_left', rgT, ixT, ixU, ↓if_pos, ↓if_neg, Int.toNat_natCast, bT0, bT1, g_4_0, g_4_1, g_4_2, g_4_3, g_4_4, g_4_5, g_4_6, g_4_7, g_4_8, s_4_8, g_4_9, s_4_9, g_4_10, s_4_10, g_4_11, s_4_11, g_4_12, s_4_12, hr]
theorem sp_prepare0 (hr : F 72 = 0) (hJ : F 17 = J) (hM : F 18 = M) (hJ5 : J ≤ 5) (hM5 : M ≤ 5) (hJ1 : 1 ≤ J) (ht : TOK (A 3))
    (hQ : ∀ A1 F1, SAM A A1 → SAF F F1 → PLN A1 F1 (A 3) J M → F1 72 = 1 → Q (.inl none, mk A1 F1 q)) : Ew 44 [vR 4, vR 1] (mk A F q) Q := by
  refine ⟨rc_44 g_4_0 rfl, ?_⟩
  rw [lc_44]
  have hJ9 : uf (uf (uf (uf F 73 J) 74 M) 75 ((J : Int) + M)) 76 0 17 = J := by rw [uf_n (by decide), uf_n (by decide), uf_n (by decide), uf_n (by decide)]; exact hJ
  have hM9 : uf (uf (uf (uf F 73 J) 74 M) 75 ((J : Int) + M)) 76 0 18 = M := by rw [uf_n (by decide), uf_n (by decide), uf_n (by decide), uf_n (by decide)]; exact hM
  have e3 : ua A 6 (cpf (A 6) (A 3) J M (J + M) 0) 3 = A 3 := ua_n (by decide)
  have ht3 : TOK (ua A 6 (cpf (A 6) (A 3) J M (J + M) 0) 3) := by rw [e3]; exact ht
  simp (disch := omega) only [r44_0, r44_1, r44_4, r44_7, r44_8, r44_9, r44_10, r44_13, r44_14, r44_15, r44_18, r44_19, r44_22, r44_23, r44_24, r44_25, r44_26, r44_30, r44_32, r44_35, r44_36, r44_37, r44_40, r44_41, r44_44, r44_45, r44_48, r44_50, r44_51, r44_53, r44_54, r44_56, r44_59, r44_60, r44_62, r44_63, r44_64, r44_67, r44_70, r44_71, r44_72, r44_75, Cn_n, Cn_v, Cn_x, dp_0, dp_1, dp_2, dp_3, dp_4, okv_n, okv_i, okv_r, eq_self, true_and, and_true, Option.some.injEq, exists_eq_left', rgT, ixT, ixU, ↓if_pos, ↓if_neg, Int.toNat_natCast, bT0, bT1, g_4_0, g_4_1, g_4_2, g_4_3, g_4_4, g_4_5, g_4_6, g_4_7, g_4_8, s_4_8, g_4_9, s_4_9, g_4_10, s_4_10, g_4_11, s_4_11, g_4_12, s_4_12, hr, sp_copy hJ hM hJ5 hM5 ht, t_most hJ9 hM9 hJ5 hM5 ht3, e3]
  have hbd := bnd_bd ht hJ5 hM5
  have hfe : ∀ r, r < J + M → ∀ c, c < J + M → cpf (A 6) (A 3) J M (J + M) 0 (10 * r + c) = fe (A 3) J M r c := fun r hr c hc => cpf_at hr hc (by omega)
  suffices key : ∀ (d s : Nat) (A1 : Nat → Nat → Int) (F1 : Nat → Int) (Ws : Nat → Nat → Int) (sg : Nat → Nat → Nat) (ln : Nat → Int) (now : Int), s + d = 60 → SAM A A1 → SAF F F1 → F1 72 = 0 → F1 73 = J → F1 74 = M → F1 75 = ((J + M : Nat) : Int) → F1 76 = s → psn (A1 6) (J + M) ≤ d → A1 6 = Ws s → (∀ r, r < J + M → ∀ c, c < J + M → Ws 0 (10 * r + c) = fe (A 3) J M r c) → SEQp (J + M) s Ws sg ln → RECp A1 J M s sg ln → isum ln s = now → 0 ≤ now → now ≤ bnd (A 3) J M → BALN (A1 6) (J + M) (bnd (A 3) J M - now) → ∀ x5 : Option AV, okv x5 = true → Wp 44 28 [some (vR 4), some (vR 1), some (.inl (bnd (A 3) J M)), some (.inl now), some (.inl (s : Int)), x5] [] (mk A1 F1 q) Q by
    refine key 60 0 _ _ (fun _ => cpf (A 6) (A 3) J M (J + M) 0) (fun _ _ => 0) (fun _ => 0) 0 rfl (fun k h6 _ _ _ _ _ _ _ => ua_n h6) (fun k h72 h73 h74 h75 h76 => ?_) ?_ ?_ ?_ ?_ ?_ ?_ ?_ hfe (fun k hk => absurd hk (Nat.not_lt_zero k)) (fun k hk => absurd hk (Nat.not_lt_zero k)) rfl (Int.le_refl _) hbd.1 ?_ none rfl
    · rw [uf_n h76, uf_n h75, uf_n h74, uf_n h73]
    · rw [uf_n (by decide), uf_n (by decide), uf_n (by decide), uf_n (by decide)]; exact hr
    · rw [uf_n (by decide), uf_n (by decide), uf_n (by decide), uf_s]
    · rw [uf_n (by decide), uf_n (by decide), uf_s]
    · rw [uf_n (by decide), uf_s]; omega
    · rw [uf_s]; rfl
    · rw [ua_s]; exact fe_psn hJ5 hM5 hfe
    · rw [ua_s]
    · rw [ua_s, Int.sub_zero]; exact fe_BALN ht hJ5 hM5 hfe
  intro d
  induction d with
  | zero =>
    intro s A1 F1 Ws sg ln now hs hA hF f72 f73 f74 f75 f76 hps hW h0 hseq hrec hnow hn0 hn1 hbal x5 h5
    have e9 := BALN_0 hbal (by omega) (by omega) (by omega)
    rw [r44_28]
    simp (disch := omega) only [r44_0, r44_1, r44_4, r44_7, r44_8, r44_9, r44_10, r44_13, r44_14, r44_15, r44_18, r44_19, r44_22, r44_23, r44_24, r44_25, r44_26, r44_30, r44_32, r44_35, r44_36, r44_37, r44_40, r44_41, r44_44, r44_45, r44_48, r44_50, r44_51, r44_53, r44_54, r44_56, r44_59, r44_60, r44_62, r44_63, r44_64, r44_67, r44_70, r44_71, r44_72, r44_75, Cn_n, Cn_v, Cn_x, dp_0, dp_1, dp_2, dp_3, dp_4, okv_n, okv_i, okv_r, eq_self, true_and, and_true, Option.some.injEq, exists_eq_left', rgT, ixT, ixU, ↓if_pos, ↓if_neg, Int.toNat_natCast, bT0, bT1, g_4_0, g_4_1, g_4_2, g_4_3, g_4_4, g_4_5, g_4_6, g_4_7, g_4_8, s_4_8, g_4_9, s_4_9, g_4_10, s_4_10, g_4_11, s_4_11, g_4_12, s_4_12]
    refine hQ _ _ hA (fun k h72 h73 h74 h75 h76 => ?_) ⟨s, Ws, sg, ln, ⟨h0, hseq, by omega, by omega⟩, ?_, ?_, ?_, hrec⟩ uf_s
    · rw [uf_n h72]; exact hF k h72 h73 h74 h75 h76
    · rw [uf_n (by decide)]; exact f76
    · rw [uf_n (by decide)]; exact f73
    · rw [uf_n (by decide)]; exact f74
  | succ d ih =>
    intro s A1 F1 Ws sg ln now hs hA hF f72 f73 f74 f75 f76 hps hW h0 hseq hrec hnow hn0 hn1 hbal x5 h5
    rw [r44_28]
    by_cases k1 : now < bnd (A 3) J M
    · have hW9 : ∀ r, r < J + M → ∀ c, c < J + M → 0 ≤ A1 6 (10 * r + c) ∧ A1 6 (10 * r + c) ≤ 100000 := fun r hr c hc => ⟨hbal.1 r hr c hc, by have := BALN_le hbal hr hc; omega⟩
      simp (disch := omega) only [r44_0, r44_1, r44_4, r44_7, r44_8, r44_9, r44_10, r44_13, r44_14, r44_15, r44_18, r44_19, r44_22, r44_23, r44_24, r44_25, r44_26, r44_30, r44_32, r44_35, r44_36, r44_37, r44_40, r44_41, r44_44, r44_45, r44_48, r44_50, r44_51, r44_53, r44_54, r44_56, r44_59, r44_60, r44_62, r44_63, r44_64, r44_67, r44_70, r44_71, r44_72, r44_75, Cn_n, Cn_v, Cn_x, dp_0, dp_1, dp_2, dp_3, dp_4, okv_n, okv_i, okv_r, eq_self, true_and, and_true, Option.some.injEq, exists_eq_left', rgT, ixT, ixU, ↓if_pos, ↓if_neg, Int.toNat_natCast, bT0, bT1, g_4_0, g_4_1, g_4_2, g_4_3, g_4_4, g_4_5, g_4_6, g_4_7, g_4_8, s_4_8, g_4_9, s_4_9, g_4_10, s_4_10, g_4_11, s_4_11, g_4_12, s_4_12]
      refine sp_pick f75 (by omega) hW9 (show 0 < bnd (A 3) J M - now by omega) hbal.2.1 hbal.2.2 (fun cr' rc' rf' qu' hp hfull hlf => ?_)
      have hlf9 := LF_of hp hfull hlf
      have hcr9 : ∀ r, r < J + M → cr' r = (((cr' r).toNat : Nat) : Int) ∧ (cr' r).toNat < J + M := by
        intro r hr
        rcases hp.1 r hr with h1 | ⟨h1, h2, h3, h4⟩
        · exact absurd h1 (hfull r hr)
        · omega
      have tk9 := @sp_take (hpl A1 cr' rc' rf' qu') F1 q (fun x => Cn 44 48 [some (vR 4), some (vR 1), some (.inl (bnd (A 3) J M)), some (.inl now), some (.inl (s : Int)), x5] [] x Q) (J + M) (fun r => (cr' r).toNat) f75 (by omega) (by omega) (by rw [hp_6]; exact hW9) (by rw [hp_8]; exact hcr9)
      rw [hp_6] at tk9
      have hl1 : ∀ r, r < J + M → imn (fun r => A1 6 (10 * r + (cr' r).toNat)) (A1 6 (10 * 0 + (cr' 0).toNat)) (J + M) ≤ A1 6 (10 * r + (cr' r).toNat) := fun r hr => (@imn_le (fun r => A1 6 (10 * r + (cr' r).toNat)) (A1 6 (10 * 0 + (cr' 0).toNat)) (J + M)).2 r hr
      have hl2 : ∃ r, r < J + M ∧ imn (fun r => A1 6 (10 * r + (cr' r).toNat)) (A1 6 (10 * 0 + (cr' 0).toNat)) (J + M) = A1 6 (10 * r + (cr' r).toNat) := by
        rcases @imn_is (fun r => A1 6 (10 * r + (cr' r).toNat)) (A1 6 (10 * 0 + (cr' 0).toNat)) (J + M) with h | ⟨i, hi, h⟩
        · exact ⟨0, by omega, h⟩
        · exact ⟨i, hi, h⟩
      generalize hl : imn (fun r => A1 6 (10 * r + (cr' r).toNat)) (A1 6 (10 * 0 + (cr' 0).toNat)) (J + M) = l at tk9 hl1 hl2
      obtain ⟨r9, hr9, hlr9⟩ := hl2
      have hl0 : 0 < l ∧ l ≤ bnd (A 3) J M - now := by
        have x1 := (hlf9.1.1 r9 hr9)
        have x2 : 0 < A1 6 (10 * r9 + (cr' r9).toNat) := x1.2
        have x3 : (cr' r9).toNat < J + M := x1.1
        have x4 := BALN_le hbal hr9 x3
        omega
      have hbal2 := BALN_tko (show J + M ≤ 10 by omega) hbal hlf9.1 hl1
      have hps2 := psn_tko (l := l) (show J + M ≤ 10 by omega) hlf9.1 (fun _ _ => by omega) hr9 hlr9
      simp (disch := omega) only [r44_0, r44_1, r44_4, r44_7, r44_8, r44_9, r44_10, r44_13, r44_14, r44_15, r44_18, r44_19, r44_22, r44_23, r44_24, r44_25, r44_26, r44_30, r44_32, r44_35, r44_36, r44_37, r44_40, r44_41, r44_44, r44_45, r44_48, r44_50, r44_51, r44_53, r44_54, r44_56, r44_59, r44_60, r44_62, r44_63, r44_64, r44_67, r44_70, r44_71, r44_72, r44_75, Cn_n, Cn_v, Cn_x, dp_0, dp_1, dp_2, dp_3, dp_4, okv_n, okv_i, okv_r, eq_self, true_and, and_true, Option.some.injEq, exists_eq_left', rgT, ixT, ixU, ↓if_pos, ↓if_neg, Int.toNat_natCast, bT0, bT1, g_4_0, g_4_1, g_4_2, g_4_3, g_4_4, g_4_5, g_4_6, g_4_7, g_4_8, s_4_8, g_4_9, s_4_9, g_4_10, s_4_10, g_4_11, s_4_11, g_4_12, s_4_12]
      rw [tk9]
      generalize hA2 : ua (hpl A1 cr' rc' rf' qu') 6 (tko (A1 6) (fun r => (cr' r).toNat) l (J + M)) = A2
      have a6 : A2 6 = tko (A1 6) (fun r => (cr' r).toNat) l (J + M) := by rw [← hA2, ua_s]
      have a8 : A2 8 = cr' := by rw [← hA2, ua_n (by decide), hp_8]
      have an : ∀ k, k ≠ 6 → k ≠ 8 → k ≠ 10 → k ≠ 12 → k ≠ 14 → A2 k = A1 k := by
        intro k h6 h8 h10 h12 h14
        rw [← hA2, ua_n h6, hp_n h8 h10 h12 h14]
      have rec9 := fun i v Q => @sp_record A2 F1 q Q J M s i v f73 f74 hJ5 (by omega) (fun r hr => by
        have := hcr9 r (by omega)
        rw [a8]
        omega) hM5
      simp (disch := omega) only [r44_0, r44_1, r44_4, r44_7, r44_8, r44_9, r44_10, r44_13, r44_14, r44_15, r44_18, r44_19, r44_22, r44_23, r44_24, r44_25, r44_26, r44_30, r44_32, r44_35, r44_36, r44_37, r44_40, r44_41, r44_44, r44_45, r44_48, r44_50, r44_51, r44_53, r44_54, r44_56, r44_59, r44_60, r44_62, r44_63, r44_64, r44_67, r44_70, r44_71, r44_72, r44_75, Cn_n, Cn_v, Cn_x, dp_0, dp_1, dp_2, dp_3, dp_4, okv_n, okv_i, okv_r, eq_self, true_and, and_true, Option.some.injEq, exists_eq_left', rgT, ixT, ixU, ↓if_pos, ↓if_neg, Int.toNat_natCast, bT0, bT1, g_4_0, g_4_1, g_4_2, g_4_3, g_4_4, g_4_5, g_4_6, g_4_7, g_4_8, s_4_8, g_4_9, s_4_9, g_4_10, s_4_10, g_4_11, s_4_11, g_4_12, s_4_12, h5, rec9]
      have a16 := an 16 (by decide) (by decide) (by decide) (by decide) (by decide)
      have a18 := an 18 (by decide) (by decide) (by decide) (by decide) (by decide)
      have a20 := an 20 (by decide) (by decide) (by decide) (by decide) (by decide)
      rw [a16, a18, a20, a8]
      have isn : isum (upg ln s l) s = isum ln s := isum_congr (fun i hi => upg_n (by omega))
      refine ih (s + 1) _ _ (upg Ws (s + 1) (tko (A1 6) (fun r => (cr' r).toNat) l (J + M))) (upg sg s (fun r => (cr' r).toNat)) (upg ln s l) (now + l) (by omega) (fun k h6 h8 h10 h12 h14 h16 h18 h20 => ?_) (fun k h72 h73 h74 h75 h76 => ?_) ?_ ?_ ?_ ?_ ?_ ?_ ?_ (fun r hr c hc => ?_) (fun k hk => ?_) (fun k hk => ?_) ?_ (by omega) (by omega) ?_ _ rfl
      · rw [ua_n h20, ua_n h18, ua_n h16, an k h6 h8 h10 h12 h14]
        exact hA k h6 h8 h10 h12 h14 h16 h18 h20
      · rw [uf_n h76]; exact hF k h72 h73 h74 h75 h76
      · rw [uf_n (by decide)]; exact f72
      · rw [uf_n (by decide)]; exact f73
      · rw [uf_n (by decide)]; exact f74
      · rw [uf_n (by decide)]; exact f75
      · rw [uf_s]; omega
      · rw [ua_n (by decide), ua_n (by decide), ua_n (by decide), a6]; omega
      · rw [ua_n (by decide), ua_n (by decide), ua_n (by decide), a6, upg_s]
      · rw [upg_n (by omega)]; exact h0 r hr c hc
      · by_cases hks : k = s
        · subst hks
          rw [upg_s, upg_s, upg_s, upg_n (by omega), ← hW]
          exact ⟨hlf9, hl.symm, rfl⟩
        · rw [upg_n hks, upg_n hks, upg_n (show k ≠ s + 1 by omega), upg_n (show k + 1 ≠ s + 1 by omega)]
          exact hseq k (by omega)
      · by_cases hks : k = s
        · subst hks
          refine ⟨?_, ?_, fun j hj => ?_⟩
          · rw [ua_n (by decide), ua_n (by decide), ua_s, uq_s, isn, hnow]
          · rw [ua_n (by decide), ua_s, uq_s, upg_s]
          · rw [ua_s, upg_s]
            unfold rcm
            rw [show (5 * k + j) / 5 = k by omega, show (5 * k + j) % 5 = j by omega, if_pos ⟨rfl, hj⟩, ← (hcr9 j (by omega)).1]
        · obtain ⟨y1, y2, y3⟩ := hrec k (by omega)
          refine ⟨?_, ?_, fun j hj => ?_⟩
          · rw [ua_n (by decide), ua_n (by decide), ua_s, uq_n hks, y1]
            exact isum_congr (fun i hi => (upg_n (by omega)).symm)
          · rw [ua_n (by decide), ua_s, uq_n hks, upg_n hks]; exact y2
          · rw [ua_s, upg_n hks]
            unfold rcm
            rw [if_neg (by omega)]
            exact y3 j hj
      · simp only [isum]
        rw [isn, upg_s, hnow]
      · rw [ua_n (by decide), ua_n (by decide), ua_n (by decide), a6, show bnd (A 3) J M - (now + l) = bnd (A 3) J M - now - l by omega]
        exact hbal2
    · simp (disch := omega) only [r44_0, r44_1, r44_4, r44_7, r44_8, r44_9, r44_10, r44_13, r44_14, r44_15, r44_18, r44_19, r44_22, r44_23, r44_24, r44_25, r44_26, r44_30, r44_32, r44_35, r44_36, r44_37, r44_40, r44_41, r44_44, r44_45, r44_48, r44_50, r44_51, r44_53, r44_54, r44_56, r44_59, r44_60, r44_62, r44_63, r44_64, r44_67, r44_70, r44_71, r44_72, r44_75, Cn_n, Cn_v, Cn_x, dp_0, dp_1, dp_2, dp_3, dp_4, okv_n, okv_i, okv_r, eq_self, true_and, and_true, Option.some.injEq, exists_eq_left', rgT, ixT, ixU, ↓if_pos, ↓if_neg, Int.toNat_natCast, bT0, bT1, g_4_0, g_4_1, g_4_2, g_4_3, g_4_4, g_4_5, g_4_6, g_4_7, g_4_8, s_4_8, g_4_9, s_4_9, g_4_10, s_4_10, g_4_11, s_4_11, g_4_12, s_4_12]
      refine hQ _ _ hA (fun k h72 h73 h74 h75 h76 => ?_) ⟨s, Ws, sg, ln, ⟨h0, hseq, by omega, by omega⟩, ?_, ?_, ?_, hrec⟩ uf_s
      · rw [uf_n h72]; exact hF k h72 h73 h74 h75 h76
      · rw [uf_n (by decide)]; exact f76
      · rw [uf_n (by decide)]; exact f73
      · rw [uf_n (by decide)]; exact f74
end PREP
