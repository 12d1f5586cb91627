/-! the least length by flows -/
theorem tn0 : Int.toNat 0 = 0 := rfl
theorem tn1 {j : Nat} : (1 + (j : Int)).toNat = 1 + j := by omega
theorem tn2 {j m : Nat} : (1 + (j : Int) + (m : Int)).toNat = 1 + j + m := by omega
theorem tn3 {j m : Nat} : (1 + (j : Int) + (m : Int) + 1).toNat = 1 + j + m + 1 := by omega
theorem tn4 {j m : Nat} : (1 + (j : Int) + (m : Int) + 2).toNat = 1 + j + m + 2 := by omega
theorem l02 : (0 : Int) < 2 := by decide
def tf (t : Nat → Int) (j m : Nat) : Int := t (5 * j + m)
def nte (t : Nat → Int) (J M : Nat) (rs cs : Nat → Int) (a b : Nat) : Int := rbk 0 1 J rs a b + ebk 1 (1 + J) M (tf t) J a b + cbk (1 + J + M) (1 + J) M cs a b
abbrev SAN (F F1 : Nat → Int) : Prop := ∀ k, k ≠ 467 → F1 k = F k
theorem isum_sb {f g : Nat → Int} : ∀ {n : Nat}, isum (fun i => f i - g i) n = isum f n - isum g n
  | 0 => rfl
  | n + 1 => by
    simp only [isum]
    rw [isum_sb (n := n)]
    omega
theorem isum_ng {f : Nat → Int} : ∀ {n : Nat}, isum (fun i => -f i) n = -isum f n
  | 0 => rfl
  | n + 1 => by
    simp only [isum]
    rw [isum_ng (n := n)]
    omega
section LBF
variable {t : Nat → Int} {J M a b j m : Nat} {rs cs : Nat → Int} {L v : Int} {R0 R1 : Nat → Int} {S : Nat → Bool}
theorem colS_all : isum (fun m => colS t J m) M = allS t J M := isum_swap (f := fun r c => t (5 * c + r))
theorem nte_out : isum (fun b => nte t J M rs cs a b) (J + M + 2) = (if a = 0 then isum rs J else 0) + (if 1 ≤ a ∧ a < 1 + J then rowS t M (a - 1) else 0) + (if 1 + J ≤ a ∧ a < 1 + J + M then cs (a - (1 + J)) else 0) := by
  unfold nte
  rw [isum_add, isum_add, rbk_row (by omega), ebk_row (by omega), cbk_row (by omega)]
  rfl
theorem nte_in : isum (fun a => nte t J M rs cs a b) (J + M + 2) = (if 1 ≤ b ∧ b < 1 + J then rs (b - 1) else 0) + (if 1 + J ≤ b ∧ b < 1 + J + M then colS t J (b - (1 + J)) else 0) + (if b = 1 + J + M then isum cs M else 0) := by
  unfold nte
  rw [isum_add, isum_add, rbk_col (by omega), ebk_col (by omega), cbk_col (by omega)]
  rfl
theorem nte_bd (ht : TOK t) (hJ5 : J ≤ 5) (hM5 : M ≤ 5) (hr : ∀ i, i < J → 0 ≤ rs i ∧ rs i ≤ 2475) (hc : ∀ i, i < M → 0 ≤ cs i ∧ cs i ≤ 2475) : 0 ≤ nte t J M rs cs a b ∧ nte t J M rs cs a b ≤ 5049 := by
  have h1 := @rbk_bd 0 1 J a b rs 0 2475 (Int.le_refl _) (by decide) hr
  have h2 := @cbk_bd (1 + J + M) (1 + J) M a b cs 0 2475 (Int.le_refl _) (by decide) hc
  have h3 := @ebk_bd J 1 (1 + J) M a b (tf t) 0 99 (Int.le_refl _) (by decide) (fun j hj m hm => ht _ (by omega))
  unfold nte
  omega
theorem lf_dn (ht : TOK t) (hJ5 : J ≤ 5) (hM5 : M ≤ 5) (hE : EQN R0 (nte t J M (fun _ => L) (fun _ => L))) (hb : bnd t J M ≤ L) (hf : FLW (J + M + 2) R0 R1 0 (1 + J + M) v) (hc : CUT (J + M + 2) R1 0 (1 + J + M) S) : allS t J M ≤ v := by
  obtain ⟨g1, g2, g3⟩ := @bnd_ge J M t
  have bR : ∀ i, i < J → 0 ≤ rowS t M i ∧ rowS t M i ≤ 2475 := fun i hi => by have := rowS_bd ht hM5 (show i < 5 by omega); omega
  have bC : ∀ i, i < M → 0 ≤ colS t J i ∧ colS t J i ≤ 2475 := fun i hi => by have := colS_bd ht hJ5 (show i < 5 by omega); omega
  have h9 := @flow_max (J + M + 2) R0 R1 0 (1 + J + M) v S (fun a b => nte t J M (rowS t M) (colS t J) a b - nte t J M (rowS t M) (colS t J) b a) 1 (allS t J M) hf hc (by omega) (by omega) (fun a ha b hb => by omega) (fun a ha b hb9 => ?_) (fun a ha => ?_)
  · omega
  · have x1 := (@nte_bd t J M b a (rowS t M) (colS t J) ht hJ5 hM5 bR bC).1
    have x2 : nte t J M (rowS t M) (colS t J) a b ≤ nte t J M (fun _ => L) (fun _ => L) a b := by
      have y1 := @rbk_le 0 1 J a b (rowS t M) (fun _ => L) (fun i hi => by have := g2 i hi; omega)
      have y2 := @cbk_le (1 + J + M) (1 + J) M a b (colS t J) (fun _ => L) (fun i hi => by have := g3 i hi; omega)
      unfold nte
      omega
    rw [hE a b (by omega)]
    omega
  · rw [isum_sb (f := fun b => nte t J M (rowS t M) (colS t J) a b) (g := fun b => nte t J M (rowS t M) (colS t J) b a), nte_out, nte_in]
    have e1 : isum (rowS t M) J = allS t J M := rfl
    have e2 : isum (colS t J) M = allS t J M := colS_all
    rw [e1, e2]
    by_cases c0 : a = 0
    · subst c0
      simp (disch := omega) only [↓if_pos, ↓if_neg]
      omega
    · by_cases c1 : a < 1 + J
      · simp (disch := omega) only [↓if_pos, ↓if_neg]
        omega
      · by_cases c2 : a < 1 + J + M
        · simp (disch := omega) only [↓if_pos, ↓if_neg]
          omega
        · simp (disch := omega) only [↓if_pos, ↓if_neg]
          omega
theorem lf_up (ht : TOK t) (hJ5 : J ≤ 5) (hM5 : M ≤ 5) (hL : 0 ≤ L) (hL1 : L ≤ 2475) (hE : EQN R0 (nte t J M (fun _ => L) (fun _ => L))) (hf : FLW (J + M + 2) R0 R1 0 (1 + J + M) (allS t J M)) : bnd t J M ≤ L := by
  obtain ⟨f1, f2, f3⟩ := hf
  have hD : ∀ a, a < J + M + 2 → ∀ b, b < J + M + 2 → R0 (14 * a + b) - R1 (14 * a + b) ≤ nte t J M (fun _ => L) (fun _ => L) a b := fun a ha b hb => by
    have := f1 a ha b hb
    rw [hE a b (by omega)]
    omega
  have h0 : ∀ a b, 0 ≤ nte t J M (fun _ => L) (fun _ => L) a b := fun a b => (@nte_bd t J M a b (fun _ => L) (fun _ => L) ht hJ5 hM5 (fun _ _ => ⟨hL, hL1⟩) (fun _ _ => ⟨hL, hL1⟩)).1
  have hin : ∀ y, y < J + M + 2 → isum (fun b => R0 (14 * b + y) - R1 (14 * b + y)) (J + M + 2) = -((if y = 0 then allS t J M else 0) - (if y = 1 + J + M then allS t J M else 0)) := by
    intro y hy
    rw [← f3 y hy, ← isum_ng]
    refine isum_congr (fun b hb => ?_)
    have := f2 y hy b hb
    omega
  have hrow : ∀ j, j < J → R0 (14 * 0 + (1 + j)) - R1 (14 * 0 + (1 + j)) ≤ rowS t M j := by
    intro j hj
    have e1 := f3 (1 + j) (by omega)
    rw [if_neg (by omega), if_neg (by omega)] at e1
    have e2 : isum (fun b => R0 (14 * (1 + j) + b) - R1 (14 * (1 + j) + b)) (J + M + 2) ≤ isum (fun b => nte t J M (fun _ => L) (fun _ => L) (1 + j) b + (if 0 = b then R0 (14 * (1 + j) + 0) - R1 (14 * (1 + j) + 0) else 0)) (J + M + 2) := by
      refine isum_mono (fun b hb => ?_)
      by_cases hb0 : 0 = b
      · subst hb0
        rw [if_pos rfl]
        have := h0 (1 + j) 0
        omega
      · rw [if_neg hb0]
        have := hD (1 + j) (by omega) b hb
        omega
    rw [isum_add, isum_at, if_pos (by omega), nte_out, if_neg (by omega), if_pos (by omega), if_neg (by omega), show 1 + j - 1 = j by omega] at e2
    have e3 := f2 0 (by omega) (1 + j) (by omega)
    omega
  have hcol : ∀ m, m < M → R0 (14 * (1 + J + m) + (1 + J + M)) - R1 (14 * (1 + J + m) + (1 + J + M)) ≤ colS t J m := by
    intro m hm
    have e1 := hin (1 + J + m) (by omega)
    rw [if_neg (by omega), if_neg (by omega)] at e1
    have e2 : isum (fun b => R0 (14 * b + (1 + J + m)) - R1 (14 * b + (1 + J + m))) (J + M + 2) ≤ isum (fun b => nte t J M (fun _ => L) (fun _ => L) b (1 + J + m) + (if 1 + J + M = b then R0 (14 * (1 + J + M) + (1 + J + m)) - R1 (14 * (1 + J + M) + (1 + J + m)) else 0)) (J + M + 2) := by
      refine isum_mono (fun b hb => ?_)
      by_cases hb0 : 1 + J + M = b
      · subst hb0
        rw [if_pos rfl]
        have := h0 (1 + J + M) (1 + J + m)
        omega
      · rw [if_neg hb0]
        have := hD b hb (1 + J + m) (by omega)
        omega
    rw [isum_add, isum_at, if_pos (by omega), nte_in, if_neg (by omega), if_pos (by omega), if_neg (by omega), show 1 + J + m - (1 + J) = m by omega] at e2
    have e3 := f2 (1 + J + M) (by omega) (1 + J + m) (by omega)
    omega
  refine bnd_le hL (fun j hj => ?_) (fun m hm => ?_)
  · apply Classical.byContradiction
    intro hlt
    have e1 := f3 0 (by omega)
    rw [if_pos rfl, if_neg (by omega)] at e1
    have e2 : isum (fun b => R0 (14 * 0 + b) - R1 (14 * 0 + b)) (J + M + 2) ≤ isum (fun b => rbk 0 1 J (fun j => min L (rowS t M j)) 0 b) (J + M + 2) := by
      refine isum_mono (fun b hb => ?_)
      by_cases c0 : b = 0
      · subst c0
        have := f2 0 (by omega) 0 (by omega)
        rw [rbk_n (by omega)]
        omega
      · by_cases c1 : b < 1 + J
        · obtain ⟨j9, rfl⟩ : ∃ j9, b = 1 + j9 := ⟨b - 1, by omega⟩
          have x1 := hrow j9 (by omega)
          have x2 := hD 0 (by omega) (1 + j9) hb
          unfold nte at x2
          rw [rbk_at (show j9 < J by omega), ebk_n (by omega), cbk_n (by omega)] at x2
          rw [rbk_at (show j9 < J by omega)]
          omega
        · have x2 := hD 0 (by omega) b hb
          unfold nte at x2
          rw [rbk_n (by omega), ebk_n (by omega), cbk_n (by omega)] at x2
          rw [rbk_n (by omega)]
          omega
    rw [rbk_row (by omega), if_pos rfl] at e2
    have e3 := @isum_slt (fun j => min L (rowS t M j)) (fun j => rowS t M j) j J (fun i hi => by omega) hj (by omega)
    have e4 : isum (fun j => rowS t M j) J = allS t J M := rfl
    omega
  · apply Classical.byContradiction
    intro hlt
    have e1 := hin (1 + J + M) (by omega)
    rw [if_neg (by omega), if_pos rfl] at e1
    have e2 : isum (fun b => R0 (14 * b + (1 + J + M)) - R1 (14 * b + (1 + J + M))) (J + M + 2) ≤ isum (fun b => cbk (1 + J + M) (1 + J) M (fun m => min L (colS t J m)) b (1 + J + M)) (J + M + 2) := by
      refine isum_mono (fun b hb => ?_)
      by_cases c0 : 1 + J ≤ b ∧ b < 1 + J + M
      · obtain ⟨m9, rfl⟩ : ∃ m9, b = 1 + J + m9 := ⟨b - (1 + J), by omega⟩
        have x1 := hcol m9 (by omega)
        have x2 := hD (1 + J + m9) hb (1 + J + M) (by omega)
        unfold nte at x2
        rw [rbk_n (by omega), ebk_n (by omega), cbk_at (show m9 < M by omega)] at x2
        rw [cbk_at (show m9 < M by omega)]
        omega
      · have x2 := hD b hb (1 + J + M) (by omega)
        unfold nte at x2
        rw [rbk_n (by omega), ebk_n (by omega), cbk_n (by omega)] at x2
        rw [cbk_n (by omega)]
        omega
    rw [cbk_col (by omega), if_pos rfl] at e2
    have e3 := @isum_slt (fun m => min L (colS t J m)) (fun m => colS t J m) m M (fun i hi => by omega) hm (by omega)
    have e4 := @colS_all t J M
    omega
end LBF
section LEAST
variable {A : Nat → Nat → Int} {F : Nat → Int} {q : List Int × Nat} {Q : AR → Prop} {J M : Nat} {R rf qu : Nat → Int} {L : Int}
theorem lf_carries (hJ : F 17 = J) (hM : F 18 = M) (hJ5 : J ≤ 5) (hM5 : M ≤ 5) (ht : TOK (A 3)) (hL0 : 0 ≤ L) (hL1 : L ≤ 2475)
    (h1 : bnd (A 3) J M ≤ L → ∀ F1 R1 rf1 qu1, SAN F F1 → Q (.inl (some (.inl 1)), mk (hna A R1 rf1 qu1) F1 q))
    (h0 : L < bnd (A 3) J M → ∀ F1 R1 rf1 qu1, SAN F F1 → Q (.inl (some (.inl 0)), mk (hna A R1 rf1 qu1) F1 q)) :
    Ew 17 [vR 28, vR 1, .inl L, .inl (allS (A 3) J M)] (mk (hna A R rf qu) F q) Q := by
  have bA := allS_bd ht hJ5 hM5
  refine ⟨rc_17 g_28_0 rfl rfl rfl, ?_⟩
  rw [lc_17]
  simp (disch := omega) only [r17_0, r17_1, r17_2, r17_5, r17_6, r17_8, r17_10, r17_11, r17_14, r17_15, r17_17, r17_18, r17_21, r17_23, r17_24, r17_25, r17_28, r17_29, r17_33, r17_34, r17_37, r17_40, r17_41, r17_44, r17_45, r17_46, r17_48, r17_49, r17_50, r17_53, r17_54, r17_58, r17_59, r17_62, r17_65, r17_66, r17_69, r17_70, r17_72, r17_73, r17_75, r17_77, r17_78, r17_79, r17_81, r17_83, r17_86, r17_89, r17_92, r17_95, r17_98, r17_101, r17_102, r17_106, r17_107, r17_110, r17_113, r17_114, r17_117, r17_119, r17_121, r17_122, r17_124, r17_125, r17_128, r17_131, r17_134, r17_135, r17_138, r17_139, r17_141, r17_142, r17_145, r17_146, r17_149, r17_150, r17_153, r17_154, Cn_n, Cn_v, Cn_x, dp_0, dp_1, dp_2, dp_3, dp_4, okv_n, okv_i, okv_r, eq_self, true_and, and_true, Option.some.injEq, exists_eq_left', rgT, ixT, ixU, ↓if_pos, ↓if_neg, Int.toNat_natCast, bT0, bT1, g_28_0, t_jobs, t_machs, hJ, hM, na_clear]
  have hsan : SAN F (uf F 467 (1 + (J : Int) + (M : Int) + 1)) := fun k hk => uf_n hk
  have hn1 : uf F 467 (1 + (J : Int) + (M : Int) + 1) 467 = ((J + M + 2 : Nat) : Int) := by rw [uf_s]; omega
  generalize uf F 467 (1 + (J : Int) + (M : Int) + 1) = F1 at hsan hn1 ⊢
  have hJ1 : F1 17 = J := by rw [hsan 17 (by decide)]; exact hJ
  have hM1 : F1 18 = M := by rw [hsan 18 (by decide)]; exact hM
  suffices key : ∀ (d j : Nat), j + d = J → ∀ R2, EQN R2 (fun a b => rbk 0 1 j (fun _ => L) a b + ebk 1 (1 + J) M (tf (A 3)) j a b) → ∀ x7 : Option AV, Wp 17 31 [some (vR 28), some (vR 1), some (.inl L), some (.inl (allS (A 3) J M)), some (.inl (1 + (J : Int))), some (.inl (1 + (J : Int) + (M : Int))), some (.inl (j : Int)), x7] [] (mk (hna A R2 rf qu) F1 q) Q by
    exact key J 0 (by omega) _ (fun a b _ => by simp only [rbk_0, ebk, isum]; rfl) none
  intro d
  induction d with
  | zero =>
    intro j hj R2 hE x7
    obtain rfl : j = J := by omega
    rw [r17_31]
    simp (disch := omega) only [r17_0, r17_1, r17_2, r17_5, r17_6, r17_8, r17_10, r17_11, r17_14, r17_15, r17_17, r17_18, r17_21, r17_23, r17_24, r17_25, r17_28, r17_29, r17_33, r17_34, r17_37, r17_40, r17_41, r17_44, r17_45, r17_46, r17_48, r17_49, r17_50, r17_53, r17_54, r17_58, r17_59, r17_62, r17_65, r17_66, r17_69, r17_70, r17_72, r17_73, r17_75, r17_77, r17_78, r17_79, r17_81, r17_83, r17_86, r17_89, r17_92, r17_95, r17_98, r17_101, r17_102, r17_106, r17_107, r17_110, r17_113, r17_114, r17_117, r17_119, r17_121, r17_122, r17_124, r17_125, r17_128, r17_131, r17_134, r17_135, r17_138, r17_139, r17_141, r17_142, r17_145, r17_146, r17_149, r17_150, r17_153, r17_154, Cn_n, Cn_v, Cn_x, dp_0, dp_1, dp_2, dp_3, dp_4, okv_n, okv_i, okv_r, eq_self, true_and, and_true, Option.some.injEq, exists_eq_left', rgT, ixT, ixU, ↓if_pos, ↓if_neg, Int.toNat_natCast, bT0, bT1, g_28_0, t_jobs, hJ1]
    suffices key3 : ∀ (d m : Nat), m + d = M → ∀ R2, EQN R2 (fun a b => rbk 0 1 j (fun _ => L) a b + ebk 1 (1 + j) M (tf (A 3)) j a b + cbk (1 + j + M) (1 + j) m (fun _ => L) a b) → Wp 17 104 [some (vR 28), some (vR 1), some (.inl L), some (.inl (allS (A 3) j M)), some (.inl (1 + (j : Int))), some (.inl (1 + (j : Int) + (M : Int))), some (.inl (m : Int)), x7] [] (mk (hna A R2 rf qu) F1 q) Q by
      exact key3 M 0 (by omega) R2 (EQN_c hE (fun a b => by simp only [cbk_0]; omega))
    intro d
    induction d with
    | zero =>
      intro m hm R2 hE
      obtain rfl : m = M := by omega
      have hE2 : EQN R2 (nte (A 3) j m (fun _ => L) (fun _ => L)) := hE
      have hbb : ∀ a b, 0 ≤ nte (A 3) j m (fun _ => L) (fun _ => L) a b ∧ nte (A 3) j m (fun _ => L) (fun _ => L) a b ≤ 5049 := fun a b => nte_bd ht hJ5 hM5 (fun _ _ => ⟨hL0, hL1⟩) (fun _ _ => ⟨hL0, hL1⟩)
      rw [r17_104]
      simp (disch := omega) only [r17_0, r17_1, r17_2, r17_5, r17_6, r17_8, r17_10, r17_11, r17_14, r17_15, r17_17, r17_18, r17_21, r17_23, r17_24, r17_25, r17_28, r17_29, r17_33, r17_34, r17_37, r17_40, r17_41, r17_44, r17_45, r17_46, r17_48, r17_49, r17_50, r17_53, r17_54, r17_58, r17_59, r17_62, r17_65, r17_66, r17_69, r17_70, r17_72, r17_73, r17_75, r17_77, r17_78, r17_79, r17_81, r17_83, r17_86, r17_89, r17_92, r17_95, r17_98, r17_101, r17_102, r17_106, r17_107, r17_110, r17_113, r17_114, r17_117, r17_119, r17_121, r17_122, r17_124, r17_125, r17_128, r17_131, r17_134, r17_135, r17_138, r17_139, r17_141, r17_142, r17_145, r17_146, r17_149, r17_150, r17_153, r17_154, Cn_n, Cn_v, Cn_x, dp_0, dp_1, dp_2, dp_3, dp_4, okv_n, okv_i, okv_r, eq_self, true_and, and_true, Option.some.injEq, exists_eq_left', rgT, ixT, ixU, ↓if_pos, ↓if_neg, Int.toNat_natCast, bT0, bT1, g_28_0, t_machs, hM1]
      refine na_pushi (s := 0) (t := 1 + j + m) rfl (by omega) hn1 (by omega) (fun a ha b hb => ?_) (by omega) (by omega) (by omega) bA.1 (by omega) (fun R3 rf3 qu3 v hv0 hv1 hfl _ hcc => ?_)
      · have x1 := hbb a b
        have x2 := hbb b a
        rw [hE2 a b (by omega), hE2 b a (by omega)]
        omega
      · by_cases c1 : v = allS (A 3) j m
        · have c2 : bnd (A 3) j m ≤ L := lf_up ht hJ5 hM5 hL0 hL1 hE2 (by rw [← c1]; exact hfl)
          simp (disch := omega) only [r17_0, r17_1, r17_2, r17_5, r17_6, r17_8, r17_10, r17_11, r17_14, r17_15, r17_17, r17_18, r17_21, r17_23, r17_24, r17_25, r17_28, r17_29, r17_33, r17_34, r17_37, r17_40, r17_41, r17_44, r17_45, r17_46, r17_48, r17_49, r17_50, r17_53, r17_54, r17_58, r17_59, r17_62, r17_65, r17_66, r17_69, r17_70, r17_72, r17_73, r17_75, r17_77, r17_78, r17_79, r17_81, r17_83, r17_86, r17_89, r17_92, r17_95, r17_98, r17_101, r17_102, r17_106, r17_107, r17_110, r17_113, r17_114, r17_117, r17_119, r17_121, r17_122, r17_124, r17_125, r17_128, r17_131, r17_134, r17_135, r17_138, r17_139, r17_141, r17_142, r17_145, r17_146, r17_149, r17_150, r17_153, r17_154, Cn_n, Cn_v, Cn_x, dp_0, dp_1, dp_2, dp_3, dp_4, okv_n, okv_i, okv_r, eq_self, true_and, and_true, Option.some.injEq, exists_eq_left', rgT, ixT, ixU, ↓if_pos, ↓if_neg, Int.toNat_natCast, bT0, bT1, g_28_0]
          exact h1 c2 _ _ _ _ hsan
        · have c2 : L < bnd (A 3) j m := by
            rcases hcc with h | ⟨S, hS⟩
            · exact absurd h c1
            · apply Classical.byContradiction
              intro hge
              have := lf_dn ht hJ5 hM5 hE2 (by omega) hfl hS
              omega
          simp (disch := omega) only [r17_0, r17_1, r17_2, r17_5, r17_6, r17_8, r17_10, r17_11, r17_14, r17_15, r17_17, r17_18, r17_21, r17_23, r17_24, r17_25, r17_28, r17_29, r17_33, r17_34, r17_37, r17_40, r17_41, r17_44, r17_45, r17_46, r17_48, r17_49, r17_50, r17_53, r17_54, r17_58, r17_59, r17_62, r17_65, r17_66, r17_69, r17_70, r17_72, r17_73, r17_75, r17_77, r17_78, r17_79, r17_81, r17_83, r17_86, r17_89, r17_92, r17_95, r17_98, r17_101, r17_102, r17_106, r17_107, r17_110, r17_113, r17_114, r17_117, r17_119, r17_121, r17_122, r17_124, r17_125, r17_128, r17_131, r17_134, r17_135, r17_138, r17_139, r17_141, r17_142, r17_145, r17_146, r17_149, r17_150, r17_153, r17_154, Cn_n, Cn_v, Cn_x, dp_0, dp_1, dp_2, dp_3, dp_4, okv_n, okv_i, okv_r, eq_self, true_and, and_true, Option.some.injEq, exists_eq_left', rgT, ixT, ixU, ↓if_pos, ↓if_neg, Int.toNat_natCast, bT0, bT1, g_28_0]
          exact h0 c2 _ _ _ _ hsan
    | succ d ih =>
      intro m hm R2 hE
      rw [r17_104]
      simp (disch := omega) only [r17_0, r17_1, r17_2, r17_5, r17_6, r17_8, r17_10, r17_11, r17_14, r17_15, r17_17, r17_18, r17_21, r17_23, r17_24, r17_25, r17_28, r17_29, r17_33, r17_34, r17_37, r17_40, r17_41, r17_44, r17_45, r17_46, r17_48, r17_49, r17_50, r17_53, r17_54, r17_58, r17_59, r17_62, r17_65, r17_66, r17_69, r17_70, r17_72, r17_73, r17_75, r17_77, r17_78, r17_79, r17_81, r17_83, r17_86, r17_89, r17_92, r17_95, r17_98, r17_101, r17_102, r17_106, r17_107, r17_110, r17_113, r17_114, r17_117, r17_119, r17_121, r17_122, r17_124, r17_125, r17_128, r17_131, r17_134, r17_135, r17_138, r17_139, r17_141, r17_142, r17_145, r17_146, r17_149, r17_150, r17_153, r17_154, Cn_n, Cn_v, Cn_x, dp_0, dp_1, dp_2, dp_3, dp_4, okv_n, okv_i, okv_r, eq_self, true_and, and_true, Option.some.injEq, exists_eq_left', rgT, ixT, ixU, ↓if_pos, ↓if_neg, Int.toNat_natCast, bT0, bT1, g_28_0, t_machs, hM1, na_wid, tn2]
      exact ih (m + 1) (by omega) _ (EQN_ad hE (by omega) (fun a b => by simp only [cbk_s]; omega))
  | succ d ih =>
    intro j hj R2 hE x7
    rw [r17_31]
    simp (disch := omega) only [r17_0, r17_1, r17_2, r17_5, r17_6, r17_8, r17_10, r17_11, r17_14, r17_15, r17_17, r17_18, r17_21, r17_23, r17_24, r17_25, r17_28, r17_29, r17_33, r17_34, r17_37, r17_40, r17_41, r17_44, r17_45, r17_46, r17_48, r17_49, r17_50, r17_53, r17_54, r17_58, r17_59, r17_62, r17_65, r17_66, r17_69, r17_70, r17_72, r17_73, r17_75, r17_77, r17_78, r17_79, r17_81, r17_83, r17_86, r17_89, r17_92, r17_95, r17_98, r17_101, r17_102, r17_106, r17_107, r17_110, r17_113, r17_114, r17_117, r17_119, r17_121, r17_122, r17_124, r17_125, r17_128, r17_131, r17_134, r17_135, r17_138, r17_139, r17_141, r17_142, r17_145, r17_146, r17_149, r17_150, r17_153, r17_154, Cn_n, Cn_v, Cn_x, dp_0, dp_1, dp_2, dp_3, dp_4, okv_n, okv_i, okv_r, eq_self, true_and, and_true, Option.some.injEq, exists_eq_left', rgT, ixT, ixU, ↓if_pos, ↓if_neg, Int.toNat_natCast, bT0, bT1, g_28_0, t_jobs, hJ1, na_wid, tn0, tn1]
    suffices key2 : ∀ (d m : Nat), m + d = M → ∀ R2, EQN R2 (fun a b => rbk 0 1 (j + 1) (fun _ => L) a b + ebk 1 (1 + J) M (tf (A 3)) j a b + rbk (1 + j) (1 + J) m (tf (A 3) j) a b) → Wp 17 56 [some (vR 28), some (vR 1), some (.inl L), some (.inl (allS (A 3) J M)), some (.inl (1 + (J : Int))), some (.inl (1 + (J : Int) + (M : Int))), some (.inl (j : Int)), some (.inl (m : Int))] [] (mk (hna A R2 rf qu) F1 q) Q by
      exact key2 M 0 (by omega) _ (EQN_ad hE (by omega) (fun a b => by simp only [rbk_s, rbk_0]; omega))
    intro d2
    induction d2 with
    | zero =>
      intro m hm R2 hE
      obtain rfl : m = M := by omega
      rw [r17_56]
      simp (disch := omega) only [r17_0, r17_1, r17_2, r17_5, r17_6, r17_8, r17_10, r17_11, r17_14, r17_15, r17_17, r17_18, r17_21, r17_23, r17_24, r17_25, r17_28, r17_29, r17_33, r17_34, r17_37, r17_40, r17_41, r17_44, r17_45, r17_46, r17_48, r17_49, r17_50, r17_53, r17_54, r17_58, r17_59, r17_62, r17_65, r17_66, r17_69, r17_70, r17_72, r17_73, r17_75, r17_77, r17_78, r17_79, r17_81, r17_83, r17_86, r17_89, r17_92, r17_95, r17_98, r17_101, r17_102, r17_106, r17_107, r17_110, r17_113, r17_114, r17_117, r17_119, r17_121, r17_122, r17_124, r17_125, r17_128, r17_131, r17_134, r17_135, r17_138, r17_139, r17_141, r17_142, r17_145, r17_146, r17_149, r17_150, r17_153, r17_154, Cn_n, Cn_v, Cn_x, dp_0, dp_1, dp_2, dp_3, dp_4, okv_n, okv_i, okv_r, eq_self, true_and, and_true, Option.some.injEq, exists_eq_left', rgT, ixT, ixU, ↓if_pos, ↓if_neg, Int.toNat_natCast, bT0, bT1, g_28_0, t_machs, hM1]
      exact ih (j + 1) (by omega) R2 (EQN_c hE (fun a b => by rw [ebk_s]; omega)) _
    | succ d2 ih2 =>
      intro m hm R2 hE
      rw [r17_56]
      simp (disch := omega) only [r17_0, r17_1, r17_2, r17_5, r17_6, r17_8, r17_10, r17_11, r17_14, r17_15, r17_17, r17_18, r17_21, r17_23, r17_24, r17_25, r17_28, r17_29, r17_33, r17_34, r17_37, r17_40, r17_41, r17_44, r17_45, r17_46, r17_48, r17_49, r17_50, r17_53, r17_54, r17_58, r17_59, r17_62, r17_65, r17_66, r17_69, r17_70, r17_72, r17_73, r17_75, r17_77, r17_78, r17_79, r17_81, r17_83, r17_86, r17_89, r17_92, r17_95, r17_98, r17_101, r17_102, r17_106, r17_107, r17_110, r17_113, r17_114, r17_117, r17_119, r17_121, r17_122, r17_124, r17_125, r17_128, r17_131, r17_134, r17_135, r17_138, r17_139, r17_141, r17_142, r17_145, r17_146, r17_149, r17_150, r17_153, r17_154, Cn_n, Cn_v, Cn_x, dp_0, dp_1, dp_2, dp_3, dp_4, okv_n, okv_i, okv_r, eq_self, true_and, and_true, Option.some.injEq, exists_eq_left', rgT, ixT, ixU, ↓if_pos, ↓if_neg, Int.toNat_natCast, bT0, bT1, g_28_0, t_machs, hM1, t_time, ha_3, na_wid, tn1, tn2]
      exact ih2 (m + 1) (by omega) _ (EQN_ad hE (by omega) (fun a b => by simp only [rbk_s, tf]; omega))
theorem lf_least (hJ : F 17 = J) (hM : F 18 = M) (hJ5 : J ≤ 5) (hM5 : M ≤ 5) (ht : TOK (A 3))
    (hQ : ∀ F1 R1 rf1 qu1, SAN F F1 → Q (.inl (some (.inl (bnd (A 3) J M))), mk (hna A R1 rf1 qu1) F1 q)) :
    Ew 16 [vR 28, vR 1] (mk A F q) Q := by
  have bA := allS_bd ht hJ5 hM5
  have bB := bnd_bd ht hJ5 hM5
  have hbt : bnd (A 3) J M ≤ allS (A 3) J M := by
    refine bnd_le bA.1 (fun j hj => ?_) (fun m hm => ?_)
    · exact isum_term (f := fun j => rowS (A 3) M j) (fun k hk => (rowS_bd ht hM5 (by omega)).1) hj
    · rw [← colS_all]
      exact isum_term (f := fun m => colS (A 3) J m) (fun k hk => (colS_bd ht hJ5 (by omega)).1) hm
  refine ⟨rc_16 g_28_0 rfl, ?_⟩
  rw [lc_16]
  simp (disch := omega) only [r16_0, r16_1, r16_4, r16_5, r16_6, r16_7, r16_8, r16_10, r16_11, r16_15, r16_17, r16_20, r16_21, r16_23, r16_26, r16_27, r16_29, r16_30, r16_31, r16_32, r16_33, r16_34, r16_36, r16_37, r16_38, r16_40, r16_41, r16_44, r16_47, r16_49, r16_51, r16_54, r16_56, r16_57, r16_58, r16_59, r16_62, r16_65, r16_66, Cn_n, Cn_v, Cn_x, dp_0, dp_1, dp_2, dp_3, dp_4, okv_n, okv_i, okv_r, eq_self, true_and, and_true, Option.some.injEq, exists_eq_left', rgT, ixT, ixU, ↓if_pos, ↓if_neg, Int.toNat_natCast, bT0, bT1, g_28_0, t_all hJ hM hJ5 hM5]
  suffices key : ∀ (d : Nat), d ≤ 12 → ∀ (lo hi tu : Int) (F1 R rf qu : Nat → Int), SAN F F1 → 0 ≤ lo → lo ≤ bnd (A 3) J M → bnd (A 3) J M ≤ hi → hi ≤ 2475 → hi - lo < ((2 ^ d : Nat) : Int) → tu = 12 - (d : Int) → ∀ x6 : Option AV, Wp 16 13 [some (vR 28), some (vR 1), some (.inl (allS (A 3) J M)), some (.inl lo), some (.inl hi), some (.inl tu), x6] [] (mk (hna A R rf qu) F1 q) Q by
    have k0 := key 12 (Nat.le_refl _) 0 (allS (A 3) J M) 0 F (A 31) (A 33) (A 35) (fun _ _ => rfl) (Int.le_refl _) bB.1 hbt bA.2 (by
      have : (2 : Nat) ^ 12 = 4096 := rfl
      omega) rfl none
    rw [ha_id] at k0
    exact k0
  intro d
  induction d with
  | zero =>
    intro hd lo hi tu F1 R rf qu hs h0 h1 h2 h3 h4 h5 x6
    have e0 : (2 : Nat) ^ 0 = 1 := rfl
    have e1 : lo = bnd (A 3) J M := by omega
    have hq := hQ F1 R rf qu hs
    rw [← e1] at hq
    rw [r16_13]
    simp (disch := omega) only [r16_0, r16_1, r16_4, r16_5, r16_6, r16_7, r16_8, r16_10, r16_11, r16_15, r16_17, r16_20, r16_21, r16_23, r16_26, r16_27, r16_29, r16_30, r16_31, r16_32, r16_33, r16_34, r16_36, r16_37, r16_38, r16_40, r16_41, r16_44, r16_47, r16_49, r16_51, r16_54, r16_56, r16_57, r16_58, r16_59, r16_62, r16_65, r16_66, Cn_n, Cn_v, Cn_x, dp_0, dp_1, dp_2, dp_3, dp_4, okv_n, okv_i, okv_r, eq_self, true_and, and_true, Option.some.injEq, exists_eq_left', rgT, ixT, ixU, ↓if_pos, ↓if_neg, Int.toNat_natCast, bT0, bT1, g_28_0]
    exact hq
  | succ d ih =>
    intro hd lo hi tu F1 R rf qu hs h0 h1 h2 h3 h4 h5 x6
    have e0 : (2 : Nat) ^ (d + 1) = 2 * 2 ^ d := by rw [Nat.pow_succ]; omega
    have e9 : 1 ≤ 2 ^ d := Nat.one_le_two_pow
    rw [e0] at h4
    have ih9 := ih (by omega)
    generalize 2 ^ d = P at h4 e9 ih9
    rw [r16_13]
    by_cases c1 : lo < hi
    · have ed : (hi - lo).tdiv 2 = (hi - lo) / 2 := Int.tdiv_eq_ediv_of_nonneg (by omega)
      simp (disch := omega) only [r16_0, r16_1, r16_4, r16_5, r16_6, r16_7, r16_8, r16_10, r16_11, r16_15, r16_17, r16_20, r16_21, r16_23, r16_26, r16_27, r16_29, r16_30, r16_31, r16_32, r16_33, r16_34, r16_36, r16_37, r16_38, r16_40, r16_41, r16_44, r16_47, r16_49, r16_51, r16_54, r16_56, r16_57, r16_58, r16_59, r16_62, r16_65, r16_66, Cn_n, Cn_v, Cn_x, dp_0, dp_1, dp_2, dp_3, dp_4, okv_n, okv_i, okv_r, eq_self, true_and, and_true, Option.some.injEq, exists_eq_left', rgT, ixT, ixU, ↓if_pos, ↓if_neg, Int.toNat_natCast, bT0, bT1, g_28_0, ed, l02]
      refine lf_carries (by rw [hs 17 (by decide)]; exact hJ) (by rw [hs 18 (by decide)]; exact hM) hJ5 hM5 ht (by omega) (by omega) (fun c2 F2 R2 rf2 qu2 hs2 => ?_) (fun c2 F2 R2 rf2 qu2 hs2 => ?_)
      · simp (disch := omega) only [r16_0, r16_1, r16_4, r16_5, r16_6, r16_7, r16_8, r16_10, r16_11, r16_15, r16_17, r16_20, r16_21, r16_23, r16_26, r16_27, r16_29, r16_30, r16_31, r16_32, r16_33, r16_34, r16_36, r16_37, r16_38, r16_40, r16_41, r16_44, r16_47, r16_49, r16_51, r16_54, r16_56, r16_57, r16_58, r16_59, r16_62, r16_65, r16_66, Cn_n, Cn_v, Cn_x, dp_0, dp_1, dp_2, dp_3, dp_4, okv_n, okv_i, okv_r, eq_self, true_and, and_true, Option.some.injEq, exists_eq_left', rgT, ixT, ixU, ↓if_pos, ↓if_neg, Int.toNat_natCast, bT0, bT1, g_28_0]
        exact ih9 lo _ _ F2 R2 rf2 qu2 (fun k hk => (hs2 k hk).trans (hs k hk)) h0 h1 c2 (by omega) (by omega) (by omega) _
      · simp (disch := omega) only [r16_0, r16_1, r16_4, r16_5, r16_6, r16_7, r16_8, r16_10, r16_11, r16_15, r16_17, r16_20, r16_21, r16_23, r16_26, r16_27, r16_29, r16_30, r16_31, r16_32, r16_33, r16_34, r16_36, r16_37, r16_38, r16_40, r16_41, r16_44, r16_47, r16_49, r16_51, r16_54, r16_56, r16_57, r16_58, r16_59, r16_62, r16_65, r16_66, Cn_n, Cn_v, Cn_x, dp_0, dp_1, dp_2, dp_3, dp_4, okv_n, okv_i, okv_r, eq_self, true_and, and_true, Option.some.injEq, exists_eq_left', rgT, ixT, ixU, ↓if_pos, ↓if_neg, Int.toNat_natCast, bT0, bT1, g_28_0]
        exact ih9 _ hi _ F2 R2 rf2 qu2 (fun k hk => (hs2 k hk).trans (hs k hk)) (by omega) (by omega) h2 h3 (by omega) (by omega) _
    · have e1 : lo = bnd (A 3) J M := by omega
      have hq := hQ F1 R rf qu hs
      rw [← e1] at hq
      simp (disch := omega) only [r16_0, r16_1, r16_4, r16_5, r16_6, r16_7, r16_8, r16_10, r16_11, r16_15, r16_17, r16_20, r16_21, r16_23, r16_26, r16_27, r16_29, r16_30, r16_31, r16_32, r16_33, r16_34, r16_36, r16_37, r16_38, r16_40, r16_41, r16_44, r16_47, r16_49, r16_51, r16_54, r16_56, r16_57, r16_58, r16_59, r16_62, r16_65, r16_66, Cn_n, Cn_v, Cn_x, dp_0, dp_1, dp_2, dp_3, dp_4, okv_n, okv_i, okv_r, eq_self, true_and, and_true, Option.some.injEq, exists_eq_left', rgT, ixT, ixU, ↓if_pos, ↓if_neg, Int.toNat_natCast, bT0, bT1, g_28_0]
      exact hq
theorem o_boundByFlow (hJ : F 17 = J) (hM : F 18 = M) (hJ5 : J ≤ 5) (hM5 : M ≤ 5) (ht : TOK (A 3))
    (hQ : ∀ F1 R1 rf1 qu1, SAN F F1 → Q (.inl (some (.inl (bnd (A 3) J M))), mk (hna A R1 rf1 qu1) F1 q)) :
    Ew 88 [vR 0] (mk A F q) Q := by
  refine ⟨rc_88 g_0_0, ?_⟩
  rw [lc_88]
  simp only [r88_0, r88_1, r88_4, r88_5, r88_8, r88_11, Cn_n, Cn_v, Cn_x, dp_0, dp_1, dp_2, dp_3, dp_4, okv_n, okv_i, okv_r, eq_self, true_and, and_true, Option.some.injEq, exists_eq_left', rgT, ixT, ixU, ↓if_pos, ↓if_neg, Int.toNat_natCast, bT0, bT1, g_0_0, g_0_1, g_0_2, g_0_3, g_0_4]
  refine lf_least hJ hM hJ5 hM5 ht (fun F1 R1 rf1 qu1 hs => ?_)
  simp only [r88_0, r88_1, r88_4, r88_5, r88_8, r88_11, Cn_n, Cn_v, Cn_x, dp_0, dp_1, dp_2, dp_3, dp_4, okv_n, okv_i, okv_r, eq_self, true_and, and_true, Option.some.injEq, exists_eq_left', rgT, ixT, ixU, ↓if_pos, ↓if_neg, Int.toNat_natCast, bT0, bT1]
  exact hQ _ _ _ _ hs
end LEAST
