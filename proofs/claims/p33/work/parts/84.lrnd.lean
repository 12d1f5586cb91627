/-! the law's roundings -/
theorem RDG_uq {t : Nat → Int} {d : Int} {J M : Nat} {U V : Nat → Nat → Int} (hu : RDG t d J M U) (hv : RDG t d J M V) : ∀ j, j < J → ∀ m, m < M → U j m = V j m := by
  have key : ∀ n, n ≤ J → ∀ j, j < n → ∀ m, m < M → U j m = V j m := by
    intro n
    induction n with
    | zero => intro _ j hj; omega
    | succ n ih =>
      intro hn j hj m hm
      by_cases hjn : j < n
      · exact ih (by omega) j hjn m hm
      · have hj9 : j = n := by omega
        have row : ∀ k, k ≤ M → ∀ c, c < k → U j c = V j c := by
          intro k
          induction k with
          | zero => intro _ c hc; omega
          | succ k ih2 =>
            intro hk c hc
            by_cases hck : c < k
            · exact ih2 (by omega) c hck
            · have hc9 : c = k := by omega
              have hpre : ∀ j2, j2 < J → ∀ m2, m2 < M → (j2 < j ∨ (j2 = j ∧ m2 < c)) → U j2 m2 = V j2 m2 := by
                intro j2 hj2 m2 hm2 h
                rcases h with h | ⟨h, h8⟩
                · exact ih (by omega) j2 (by omega) m2 hm2
                · rw [h]; exact ih2 (by omega) m2 (by omega)
              have g1 := hu.2 j (by omega) c (by omega) V hv.1 (fun j2 hj2 m2 hm2 h => (hpre j2 hj2 m2 hm2 h).symm)
              have g2 := hv.2 j (by omega) c (by omega) U hu.1 hpre
              omega
        exact row M (Nat.le_refl M) m hm
  exact key J (Nat.le_refl J)
noncomputable def UU (t : Nat → Int) (d : Int) (J M : Nat) : Nat → Nat → Int := Classical.epsilon (fun U => RDG t d J M U)
theorem UU_is {t : Nat → Int} {d : Int} {J M : Nat} {U : Nat → Nat → Int} (h : RDG t d J M U) : RDG t d J M (UU t d J M) := Classical.epsilon_spec (p := fun U => RDG t d J M U) ⟨U, h⟩
theorem up_one {x d : Int} (hd : 1 ≤ d) (h : x / d * d ≠ x) : (x + d - 1) / d = x / d + 1 := by
  have h1 := Int.emod_nonneg x (show d ≠ 0 by omega)
  have h2 := Int.emod_lt_of_pos x (show 0 < d by omega)
  have h3 := Int.emod_add_mul_ediv x d
  have h4 := Int.mul_comm (x / d) d
  have h5 : (x / d + 1) * d = d * (x / d) + d := by rw [Int.add_mul, h4, Int.one_mul]
  have h6 : x + d - 1 = (x % d - 1) + (x / d + 1) * d := by omega
  rw [h6, Int.add_mul_ediv_right _ _ (show d ≠ 0 by omega), Int.ediv_eq_zero_of_lt (by omega) (by omega)]
  omega
section LRND
variable {A B : Nat → Nat → Int} {F G : Nat → Int} {q : List Int × Nat} {Q : AR → Prop} {J M j m : Nat} {t : Nat → Int} {d s r : Int}
theorem l_isr (hs : 0 ≤ s) (hs1 : s ≤ 3000) (hd : 1 ≤ d) (hd1 : d ≤ 100) (h : r = s / d ∨ r = (s + d - 1) / d) : Ew 117 [.inl s, .inl r, .inl d] (mk A F q) Q ↔ Q (.inl (some (.inl 1)), mk A F q) := by
  have e1 : s.tdiv d = s / d := Int.tdiv_eq_ediv_of_nonneg hs
  have e2 : (s + d - 1).tdiv d = (s + d - 1) / d := Int.tdiv_eq_ediv_of_nonneg (by omega)
  have b1 := Int.ediv_nonneg hs (show 0 ≤ d by omega)
  have b2 := Int.ediv_le_self d hs
  have b3 := Int.ediv_nonneg (show 0 ≤ s + d - 1 by omega) (show 0 ≤ d by omega)
  have b4 := Int.ediv_le_self d (show 0 ≤ s + d - 1 by omega)
  have hdp := eq_true (show 0 < d by omega)
  generalize s / d = a at e1 b1 b2 h
  generalize (s + d - 1) / d = c at e2 b3 b4 h
  unfold Ew
  rw [rc_117 rfl rfl rfl, lc_117]
  by_cases h1 : r = a
  · simp (disch := omega) only [r117_0, r117_1, r117_2, r117_3, r117_4, r117_7, r117_8, r117_9, r117_10, r117_11, r117_12, r117_13, r117_14, r117_15, r117_18, r117_19, r117_22, r117_23, Cn_n, Cn_v, Cn_x, dp_0, dp_1, dp_2, dp_3, dp_4, okv_n, okv_i, okv_r, eq_self, true_and, and_true, Option.some.injEq, exists_eq_left', rgT, ixT, ixU, ↓if_pos, ↓if_neg, Int.toNat_natCast, bT0, bT1, e1, e2, hdp]
  · have h2 : r = c := by omega
    simp (disch := omega) only [r117_0, r117_1, r117_2, r117_3, r117_4, r117_7, r117_8, r117_9, r117_10, r117_11, r117_12, r117_13, r117_14, r117_15, r117_18, r117_19, r117_22, r117_23, Cn_n, Cn_v, Cn_x, dp_0, dp_1, dp_2, dp_3, dp_4, okv_n, okv_i, okv_r, eq_self, true_and, and_true, Option.some.injEq, exists_eq_left', rgT, ixT, ixU, ↓if_pos, ↓if_neg, Int.toNat_natCast, bT0, bT1, e1, e2, hdp]
theorem SAR_t {A1 A2 : Nat → Nat → Int} (h1 : SAR A A1) (h2 : SAR A1 A2) : SAR A A2 := fun k g1 g2 g3 g4 g5 => (h2 k g1 g2 g3 g4 g5).trans (h1 k g1 g2 g3 g4 g5)
theorem SFR_t {F1 F2 : Nat → Int} (h1 : SFR F F1) (h2 : SFR F1 F2) : SFR F F2 := fun k g1 g2 g3 g4 g5 g6 => (h2 k g1 g2 g3 g4 g5 g6).trans (h1 k g1 g2 g3 g4 g5 g6)
theorem SAR_3 (h : SAR A B) : B 3 = A 3 := h 3 (by decide) (by decide) (by decide) (by decide) (by decide)
theorem SFR_17 (h : SFR F G) : G 17 = F 17 := h 17 (by decide) (by decide) (by decide) (by decide) (by decide) (by decide)
theorem SFR_18 (h : SFR F G) : G 18 = F 18 := h 18 (by decide) (by decide) (by decide) (by decide) (by decide) (by decide)
theorem l_rnd (hJ : F 17 = J) (hM : F 18 = M) (hJ5 : J ≤ 5) (hM5 : M ≤ 5) (ht : TOK (A 3)) (hd : 1 ≤ d) (hd1 : d ≤ 100) (hj : j < J) (hm : m < M) (hB : SAR A B) (hG : SFR F G)
    (hQ : ∀ A1 F1, SAR A A1 → SFR F F1 → RDG (A 3) d J M (UU (A 3) d J M) → Q (.inl (some (.inl (dq (A 3) d j m + UU (A 3) d J M j m))), mk A1 F1 q)) : Ew 102 [vR 0, .inl (j : Int), .inl (m : Int), .inl d] (mk B G q) Q := by
  have e3 := SAR_3 hB
  refine o_rounded (A := B) (F := G) (J := J) (M := M) (by rw [SFR_17 hG]; exact hJ) (by rw [SFR_18 hG]; exact hM) hJ5 hM5 (by rw [e3]; exact ht) (by omega) (by omega) (by omega) (by omega) hd hd1 (fun A1 F1 U g1 g2 g3 => ?_)
  rw [e3] at g3
  have g4 := UU_is g3
  have g5 := RDG_uq g3 g4 j hj m hm
  rw [e3, Int.toNat_natCast, Int.toNat_natCast, g5]
  exact hQ A1 F1 (SAR_t hB g1) (SFR_t hG g2) g4
theorem l_rtot (hJ : F 17 = J) (hM : F 18 = M) (hJ5 : J ≤ 5) (hM5 : M ≤ 5) (ht : TOK (A 3)) (hd : 1 ≤ d) (hd1 : d ≤ 100) (hB : SAR A B) (hG : SFR F G)
    (hQ : ∀ A1 F1, SAR A A1 → SFR F F1 → Q (.inl (some (.inl (dna (A 3) d J M + isum (fun j => isum (UU (A 3) d J M j) M) J))), mk A1 F1 q)) : Ew 103 [vR 0, .inl d] (mk B G q) Q := by
  have e3 := SAR_3 hB
  refine o_roundedTotal (A := B) (F := G) (J := J) (M := M) (by rw [SFR_17 hG]; exact hJ) (by rw [SFR_18 hG]; exact hM) hJ5 hM5 (by rw [e3]; exact ht) hd hd1 (fun A1 F1 U g1 g2 g3 => ?_)
  rw [e3] at g3
  have g4 := UU_is g3
  have g5 : isum (fun j => isum (U j) M) J = isum (fun j => isum (UU (A 3) d J M j) M) J := isum_congr (fun j hj => isum_congr (fun m hm => RDG_uq g3 g4 j hj m hm))
  rw [e3, g5]
  exact hQ A1 F1 (SAR_t hB g1) (SFR_t hG g2)
theorem l_rups (hJ : F 17 = J) (hM : F 18 = M) (hJ5 : J ≤ 5) (hM5 : M ≤ 5) (ht : TOK (A 3)) (hd : 1 ≤ d) (hd1 : d ≤ 100) (hB : SAR A B) (hG : SFR F G)
    (hQ : ∀ A1 F1, SAR A A1 → SFR F F1 → Q (.inl (some (.inl (isum (fun j => isum (UU (A 3) d J M j) M) J))), mk A1 F1 q)) : Ew 104 [vR 0, .inl d] (mk B G q) Q := by
  have e3 := SAR_3 hB
  refine o_roundedUp (A := B) (F := G) (J := J) (M := M) (by rw [SFR_17 hG]; exact hJ) (by rw [SFR_18 hG]; exact hM) hJ5 hM5 (by rw [e3]; exact ht) hd hd1 (fun A1 F1 U g1 g2 g3 => ?_)
  rw [e3] at g3
  have g4 := UU_is g3
  have g5 : isum (fun j => isum (U j) M) J = isum (fun j => isum (UU (A 3) d J M j) M) J := isum_congr (fun j hj => isum_congr (fun m hm => RDG_uq g3 g4 j hj m hm))
  rw [g5]
  exact hQ A1 F1 (SAR_t hB g1) (SFR_t hG g2)
/-- an entry is rounded -/
theorem VR_e {U : Nat → Nat → Int} (hd : 1 ≤ d) (h : VR t d J M U) (hj : j < J) (hm : m < M) : dq t d j m + U j m = t (5 * j + m) / d ∨ dq t d j m + U j m = (t (5 * j + m) + d - 1) / d := by
  obtain ⟨h1, h2⟩ := h.1 j hj m hm
  rcases h1 with h1 | h1
  · refine Or.inl ?_
    rw [h1, Int.add_zero]
    rfl
  · refine Or.inr ?_
    have h3 : t (5 * j + m) / d * d ≠ t (5 * j + m) := fun z => by
      have := h2 z
      omega
    rw [up_one hd h3, h1]
    rfl
end LRND
section LRND2
variable {A B : Nat → Nat → Int} {F G : Nat → Int} {q : List Int × Nat} {Q : AR → Prop} {J M j m : Nat} {t : Nat → Int} {d s r al up : Int}
theorem isr_bd (hs : 0 ≤ s) (hs1 : s ≤ 3000) (hd : 1 ≤ d) (hd1 : d ≤ 100) (h : r = s / d ∨ r = (s + d - 1) / d) : 0 ≤ r ∧ r ≤ 3200 := by
  have b1 := Int.ediv_nonneg hs (show 0 ≤ d by omega)
  have b2 := Int.ediv_le_self d hs
  have b3 := Int.ediv_nonneg (show 0 ≤ s + d - 1 by omega) (show 0 ≤ d by omega)
  have b4 := Int.ediv_le_self d (show 0 ≤ s + d - 1 by omega)
  generalize s / d = a at b1 b2 h
  generalize (s + d - 1) / d = c at b3 b4 h
  omega
theorem VR_bd {U : Nat → Nat → Int} (hJ5 : J ≤ 5) (hM5 : M ≤ 5) (h : VR t d J M U) : 0 ≤ isum (fun j => isum (U j) M) J ∧ isum (fun j => isum (U j) M) J ≤ 25 := by
  have h1 : ∀ j, j < J → 0 ≤ isum (U j) M ∧ isum (U j) M ≤ 5 := fun j hj => by
    have g1 := isum_ge (f := U j) (n := M) (fun m hm => by
      rcases (h.1 j hj m hm).1 with g | g <;> omega)
    have g2 := isum_le (f := U j) (b := 1) (n := M) (fun m hm => by
      rcases (h.1 j hj m hm).1 with g | g <;> omega)
    omega
  have g1 := isum_ge (f := fun j => isum (U j) M) (n := J) (fun j hj => (h1 j hj).1)
  have g2 := isum_le (f := fun j => isum (U j) M) (b := 5) (n := J) (fun j hj => (h1 j hj).2)
  omega
theorem l_rd3 (hJ : F 17 = J) (hM : F 18 = M) (hJ5 : J ≤ 5) (hM5 : M ≤ 5) (ht : TOK (A 3)) (hd : 1 ≤ d) (hd1 : d ≤ 100) (hR : RDG (A 3) d J M (UU (A 3) d J M)) (hB : SAR A B) (hG : SFR F G) (hQ : ∀ A1 F1, SAR A A1 → SFR F F1 → Q (.inl (some (.inl 1)), mk A1 F1 q)) {x5 x6 x7 x8 : Option AV} :
    Wp 118 221 [some (vR 0), some (.inl d), some (.inl (dna (A 3) d J M + isum (fun j => isum (UU (A 3) d J M j) M) J)), some (.inl (isum (fun j => isum (UU (A 3) d J M j) M) J)), some (.inl 1), x5, x6, x7, x8] [] (mk B G q) Q := by
  have e3 := SAR_3 hB
  have hJG : G 17 = J := (SFR_17 hG).trans hJ
  have hMG : G 18 = M := (SFR_18 hG).trans hM
  have bA := allS_bd ht hJ5 hM5
  have bS := VR_bd hJ5 hM5 hR.1
  have hv : dna (A 3) d J M + isum (fun j => isum (UU (A 3) d J M j) M) J = allS (A 3) J M / d ∨ dna (A 3) d J M + isum (fun j => isum (UU (A 3) d J M j) M) J = (allS (A 3) J M + d - 1) / d := hR.1.2.2.2
  have bT := isr_bd bA.1 (by omega) hd hd1 hv
  simp (disch := omega) only [r118_221, r118_223, r118_226, r118_227, r118_230, r118_231, r118_232, r118_235, r118_238, r118_239, r118_240, Cn_n, Cn_v, Cn_x, dp_0, dp_1, dp_2, dp_3, dp_4, okv_n, okv_i, okv_r, eq_self, true_and, and_true, Option.some.injEq, exists_eq_left', rgT, ixT, ixU, ↓if_pos, ↓if_neg, Int.toNat_natCast, bT0, bT1, o_total hJG hMG hJ5 hM5, e3, l_isr bA.1 (show allS (A 3) J M ≤ 3000 by omega) hd hd1 hv]
  refine l_rtot hJ hM hJ5 hM5 ht hd hd1 hB hG (fun A1 F1 g1 g2 => ?_)
  simp (disch := omega) only [r118_243, r118_244, r118_247, r118_248, r118_249, Cn_n, Cn_v, Cn_x, dp_0, dp_1, dp_2, dp_3, dp_4, okv_n, okv_i, okv_r, eq_self, true_and, and_true, Option.some.injEq, exists_eq_left', rgT, ixT, ixU, ↓if_pos, ↓if_neg, Int.toNat_natCast, bT0, bT1]
  refine l_rups hJ hM hJ5 hM5 ht hd hd1 g1 g2 (fun A2 F2 g3 g4 => ?_)
  simp (disch := omega) only [r118_252, r118_253, r118_256, r118_257, r118_260, r118_261, Cn_n, Cn_v, Cn_x, dp_0, dp_1, dp_2, dp_3, dp_4, okv_n, okv_i, okv_r, eq_self, true_and, and_true, Option.some.injEq, exists_eq_left', rgT, ixT, ixU, ↓if_pos, ↓if_neg, Int.toNat_natCast, bT0, bT1]
  exact hQ A2 F2 g3 g4
theorem l_rd2 (hJ : F 17 = J) (hM : F 18 = M) (hJ5 : J ≤ 5) (hM5 : M ≤ 5) (ht : TOK (A 3)) (hd : 1 ≤ d) (hd1 : d ≤ 100) (hR : RDG (A 3) d J M (UU (A 3) d J M))
    (hQ : ∀ B G, SAR A B → SFR F G → ∀ x5 x6 x7 x8, Wp 118 221 [some (vR 0), some (.inl d), some (.inl al), some (.inl up), some (.inl 1), x5, x6, x7, x8] [] (mk B G q) Q) :
    ∀ e m : Nat, m + e = M → ∀ B G, SAR A B → SFR F G → ∀ x6 x7 x8 : Option AV, Wp 118 144 [some (vR 0), some (.inl d), some (.inl al), some (.inl up), some (.inl 1), some (.inl (m : Int)), x6, x7, x8] [] (mk B G q) Q := by
  intro e
  induction e with
  | zero =>
    intro m hm B G hB hG x6 x7 x8
    have hMG : G 18 = M := (SFR_18 hG).trans hM
    rw [r118_144]
    simp (disch := omega) only [r118_146, r118_147, r118_150, r118_153, r118_154, r118_156, r118_157, Cn_n, Cn_v, Cn_x, dp_0, dp_1, dp_2, dp_3, dp_4, okv_n, okv_i, okv_r, eq_self, true_and, and_true, Option.some.injEq, exists_eq_left', rgT, ixT, ixU, ↓if_pos, ↓if_neg, Int.toNat_natCast, bT0, bT1, o_machines, hMG]
    exact hQ B G hB hG _ _ _ _
  | succ e ih =>
    intro m hm B G hB hG x6 x7 x8
    have hm9 : m < M := by omega
    have hMG : G 18 = M := (SFR_18 hG).trans hM
    have bC := colS_bd ht hJ5 (show m < 5 by omega)
    have hv : dnc (A 3) d J m + isum (fun j => UU (A 3) d J M j m) J = colS (A 3) J m / d ∨ dnc (A 3) d J m + isum (fun j => UU (A 3) d J M j m) J = (colS (A 3) J m + d - 1) / d := hR.1.2.2.1 m hm9
    rw [r118_144]
    simp (disch := omega) only [r118_146, r118_147, r118_150, r118_153, r118_154, r118_156, r118_157, Cn_n, Cn_v, Cn_x, dp_0, dp_1, dp_2, dp_3, dp_4, okv_n, okv_i, okv_r, eq_self, true_and, and_true, Option.some.injEq, exists_eq_left', rgT, ixT, ixU, ↓if_pos, ↓if_neg, Int.toNat_natCast, bT0, bT1, o_machines, hMG]
    suffices k0 : ∀ e2 j : Nat, j + e2 = J → ∀ B G, SAR A B → SFR F G → ∀ a : Int, a = isum (fun j => dq (A 3) d j m + UU (A 3) d J M j m) j → ∀ x8 : Option AV, Wp 118 159 [some (vR 0), some (.inl d), some (.inl al), some (.inl up), some (.inl 1), some (.inl (m : Int)), some (.inl a), some (.inl (j : Int)), x8] [] (mk B G q) Q by
      exact k0 J 0 (by omega) B G hB hG 0 rfl _
    intro e2
    induction e2 with
    | zero =>
      intro j hj B G hB hG a ha x8
      have hjJ : j = J := by omega
      have e3 := SAR_3 hB
      have hJG : G 17 = J := (SFR_17 hG).trans hJ
      have hMG : G 18 = M := (SFR_18 hG).trans hM
      have ea : a = dnc (A 3) d J m + isum (fun j => UU (A 3) d J M j m) J := by
        rw [ha, hjJ]
        exact isum_add
      rw [← ea] at hv
      rw [r118_159]
      simp (disch := omega) only [r118_161, r118_162, r118_165, r118_168, r118_170, r118_171, r118_173, r118_175, r118_176, r118_179, r118_180, r118_182, r118_185, r118_188, r118_190, r118_193, r118_194, r118_196, r118_199, r118_201, r118_202, r118_205, r118_208, r118_209, r118_212, r118_213, r118_215, r118_218, Cn_n, Cn_v, Cn_x, dp_0, dp_1, dp_2, dp_3, dp_4, okv_n, okv_i, okv_r, eq_self, true_and, and_true, Option.some.injEq, exists_eq_left', rgT, ixT, ixU, ↓if_pos, ↓if_neg, Int.toNat_natCast, bT0, bT1, o_jobs, hJG, o_machineTotal hJG hMG hJ5 hM5, e3, l_isr bC.1 (show colS (A 3) J m ≤ 3000 by omega) hd hd1 hv]
      exact ih (m + 1) (by omega) B G hB hG _ _ _
    | succ e2 ih2 =>
      intro j hj B G hB hG a ha x8
      have hj9 : j < J := by omega
      have hJG : G 17 = J := (SFR_17 hG).trans hJ
      rw [r118_159]
      simp (disch := omega) only [r118_161, r118_162, r118_165, r118_168, r118_170, r118_171, r118_173, r118_175, r118_176, Cn_n, Cn_v, Cn_x, dp_0, dp_1, dp_2, dp_3, dp_4, okv_n, okv_i, okv_r, eq_self, true_and, and_true, Option.some.injEq, exists_eq_left', rgT, ixT, ixU, ↓if_pos, ↓if_neg, Int.toNat_natCast, bT0, bT1, o_jobs, hJG]
      refine l_rnd hJ hM hJ5 hM5 ht hd hd1 hj9 hm9 hB hG (fun A1 F1 g1 g2 _ => ?_)
      simp (disch := omega) only [r118_179, r118_180, r118_182, r118_185, Cn_n, Cn_v, Cn_x, dp_0, dp_1, dp_2, dp_3, dp_4, okv_n, okv_i, okv_r, eq_self, true_and, and_true, Option.some.injEq, exists_eq_left', rgT, ixT, ixU, ↓if_pos, ↓if_neg, Int.toNat_natCast, bT0, bT1]
      exact ih2 (j + 1) (by omega) A1 F1 g1 g2 _ (by rw [ha]; rfl) _
theorem l_rd1 (hJ : F 17 = J) (hM : F 18 = M) (hJ5 : J ≤ 5) (hM5 : M ≤ 5) (hJ1 : 1 ≤ J) (hM1 : 1 ≤ M) (ht : TOK (A 3)) (hd : 1 ≤ d) (hd1 : d ≤ 100)
    (hQ : ∀ B G, SAR A B → SFR F G → RDG (A 3) d J M (UU (A 3) d J M) → ∀ x6 x7 x8, Wp 118 144 [some (vR 0), some (.inl d), some (.inl (isum (fun j => dnr (A 3) d M j + isum (UU (A 3) d J M j) M) J)), some (.inl (isum (fun j => isum (UU (A 3) d J M j) M) J)), some (.inl 1), some (.inl ((0 : Nat) : Int)), x6, x7, x8] [] (mk B G q) Q) :
    ∀ e j : Nat, j + e = J → ∀ B G, SAR A B → SFR F G → (0 < j → RDG (A 3) d J M (UU (A 3) d J M)) → ∀ al up : Int, al = isum (fun j => dnr (A 3) d M j + isum (UU (A 3) d J M j) M) j → up = isum (fun j => isum (UU (A 3) d J M j) M) j → ∀ x6 x7 x8 : Option AV, Wp 118 10 [some (vR 0), some (.inl d), some (.inl al), some (.inl up), some (.inl 1), some (.inl (j : Int)), x6, x7, x8] [] (mk B G q) Q := by
  have hdp := eq_true (show 0 < d by omega)
  intro e
  induction e with
  | zero =>
    intro j hj B G hB hG hR al up hal hup x6 x7 x8
    have hjJ : j = J := by omega
    have hJG : G 17 = J := (SFR_17 hG).trans hJ
    rw [hjJ] at hal hup
    rw [r118_10]
    simp (disch := omega) only [r118_12, r118_13, r118_16, r118_19, r118_20, r118_22, r118_23, r118_141, r118_142, Cn_n, Cn_v, Cn_x, dp_0, dp_1, dp_2, dp_3, dp_4, okv_n, okv_i, okv_r, eq_self, true_and, and_true, Option.some.injEq, exists_eq_left', rgT, ixT, ixU, ↓if_pos, ↓if_neg, Int.toNat_natCast, bT0, bT1, o_jobs, hJG]
    rw [hal, hup]
    exact hQ B G hB hG (hR (by omega)) _ _ _
  | succ e ih =>
    intro j hj B G hB hG hR al up hal hup x6 x7 x8
    have hj9 : j < J := by omega
    have hJG : G 17 = J := (SFR_17 hG).trans hJ
    have bR := rowS_bd ht hM5 (show j < 5 by omega)
    rw [r118_10]
    simp (disch := omega) only [r118_12, r118_13, r118_16, r118_19, r118_20, r118_22, r118_23, Cn_n, Cn_v, Cn_x, dp_0, dp_1, dp_2, dp_3, dp_4, okv_n, okv_i, okv_r, eq_self, true_and, and_true, Option.some.injEq, exists_eq_left', rgT, ixT, ixU, ↓if_pos, ↓if_neg, Int.toNat_natCast, bT0, bT1, o_jobs, hJG]
    suffices k0 : ∀ e2 m : Nat, m + e2 = M → ∀ B G, SAR A B → SFR F G → (0 < m → RDG (A 3) d J M (UU (A 3) d J M)) → ∀ a u : Int, a = isum (fun m => dq (A 3) d j m + UU (A 3) d J M j m) m → u = up + isum (UU (A 3) d J M j) m → ∀ x8 : Option AV, Wp 118 25 [some (vR 0), some (.inl d), some (.inl al), some (.inl u), some (.inl 1), some (.inl (j : Int)), some (.inl a), some (.inl (m : Int)), x8] [] (mk B G q) Q by
      exact k0 M 0 (by omega) B G hB hG (fun h => absurd h (Nat.lt_irrefl 0)) 0 up rfl (by show up = up + 0; omega) _
    intro e2
    induction e2 with
    | zero =>
      intro m hm B G hB hG hR2 a u ha hu x8
      have hmM : m = M := by omega
      have hR9 := hR2 (by omega)
      have e3 := SAR_3 hB
      have hJG : G 17 = J := (SFR_17 hG).trans hJ
      have hMG : G 18 = M := (SFR_18 hG).trans hM
      have ea : a = dnr (A 3) d M j + isum (UU (A 3) d J M j) M := by
        rw [ha, hmM]
        exact isum_add
      have hv : dnr (A 3) d M j + isum (UU (A 3) d J M j) M = rowS (A 3) M j / d ∨ dnr (A 3) d M j + isum (UU (A 3) d J M j) M = (rowS (A 3) M j + d - 1) / d := hR9.1.2.1 j hj9
      rw [← ea] at hv
      have e8 : isum (fun j => dnr (A 3) d M j + isum (UU (A 3) d J M j) M) (j + 1) = isum (fun j => dnr (A 3) d M j + isum (UU (A 3) d J M j) M) j + (dnr (A 3) d M j + isum (UU (A 3) d J M j) M) := rfl
      have e7 : isum (fun j => isum (UU (A 3) d J M j) M) (j + 1) = isum (fun j => isum (UU (A 3) d J M j) M) j + isum (UU (A 3) d J M j) M := rfl
      rw [hmM] at hu
      rw [r118_25]
      simp (disch := omega) only [r118_27, r118_28, r118_31, r118_34, r118_35, r118_37, r118_39, r118_40, r118_43, r118_45, r118_47, r118_49, r118_50, r118_52, r118_53, r118_55, r118_56, r118_58, r118_60, r118_63, r118_64, r118_65, r118_66, r118_67, r118_68, r118_70, r118_73, r118_74, r118_76, r118_78, r118_81, r118_83, r118_84, r118_87, r118_90, r118_91, r118_94, r118_95, r118_97, r118_100, r118_103, r118_104, r118_106, r118_107, r118_108, r118_110, r118_113, r118_114, r118_116, r118_119, r118_121, r118_122, r118_125, r118_128, r118_129, r118_132, r118_133, r118_135, r118_138, Cn_n, Cn_v, Cn_x, dp_0, dp_1, dp_2, dp_3, dp_4, okv_n, okv_i, okv_r, eq_self, true_and, and_true, Option.some.injEq, exists_eq_left', rgT, ixT, ixU, ↓if_pos, ↓if_neg, Int.toNat_natCast, bT0, bT1, o_machines, hMG, o_jobTotal hJG hMG hJ5 hM5, e3, l_isr bR.1 (show rowS (A 3) M j ≤ 3000 by omega) hd hd1 hv]
      exact ih (j + 1) (by omega) B G hB hG (fun _ => hR9) _ _ (by rw [e8]; omega) (by rw [e7]; omega) _ _ _
    | succ e2 ih2 =>
      intro m hm B G hB hG hR2 a u ha hu x8
      have hm9 : m < M := by omega
      have hMG : G 18 = M := (SFR_18 hG).trans hM
      have bT := ht (5 * j + m) (by omega)
      rw [r118_25]
      simp (disch := omega) only [r118_27, r118_28, r118_31, r118_34, r118_35, r118_37, r118_39, r118_40, Cn_n, Cn_v, Cn_x, dp_0, dp_1, dp_2, dp_3, dp_4, okv_n, okv_i, okv_r, eq_self, true_and, and_true, Option.some.injEq, exists_eq_left', rgT, ixT, ixU, ↓if_pos, ↓if_neg, Int.toNat_natCast, bT0, bT1, o_machines, hMG]
      refine l_rnd hJ hM hJ5 hM5 ht hd hd1 hj9 hm9 hB hG (fun A1 F1 g1 g2 g3 => ?_)
      have e3 := SAR_3 g1
      have hJ1 : F1 17 = J := (SFR_17 g2).trans hJ
      have hM1 : F1 18 = M := (SFR_18 g2).trans hM
      have et : (A 3 (5 * j + m)).tdiv d = dq (A 3) d j m := Int.tdiv_eq_ediv_of_nonneg bT.1
      have e8 : isum (UU (A 3) d J M j) (m + 1) = isum (UU (A 3) d J M j) m + UU (A 3) d J M j m := rfl
      simp (disch := omega) only [r118_43, r118_45, r118_47, r118_49, r118_50, r118_52, r118_53, r118_55, r118_56, r118_58, r118_60, r118_63, r118_64, r118_65, r118_66, r118_67, r118_68, r118_70, r118_73, r118_74, r118_76, r118_78, r118_81, r118_83, r118_84, r118_87, r118_90, r118_91, r118_94, r118_95, r118_97, r118_100, Cn_n, Cn_v, Cn_x, dp_0, dp_1, dp_2, dp_3, dp_4, okv_n, okv_i, okv_r, eq_self, true_and, and_true, Option.some.injEq, exists_eq_left', rgT, ixT, ixU, ↓if_pos, ↓if_neg, Int.toNat_natCast, bT0, bT1, o_time hJ1 hM1 hJ5 hM5, e3, et, hdp, l_isr bT.1 (show A 3 (5 * j + m) ≤ 3000 by omega) hd hd1 (VR_e hd g3.1 hj9 hm9)]
      exact ih2 (m + 1) (by omega) A1 F1 g1 g2 (fun _ => g3) _ _ (by rw [ha]; rfl) (by rw [e8]; omega) _
theorem l_rounds (hJ : F 17 = J) (hM : F 18 = M) (hJ5 : J ≤ 5) (hM5 : M ≤ 5) (hJ1 : 1 ≤ J) (hM1 : 1 ≤ M) (ht : TOK (A 3)) (hd : 1 ≤ d) (hd1 : d ≤ 100) (hQ : ∀ A1 F1, SAR A A1 → SFR F F1 → Q (.inl (some (.inl 1)), mk A1 F1 q)) : Ew 118 [vR 0, .inl d] (mk A F q) Q := by
  refine ⟨rc_118 rfl rfl, ?_⟩
  rw [lc_118]
  simp (disch := omega) only [r118_0, r118_1, r118_2, r118_3, r118_4, r118_5, r118_7, r118_8, Cn_n, Cn_v, Cn_x, dp_0, dp_1, dp_2, dp_3, dp_4, okv_n, okv_i, okv_r, eq_self, true_and, and_true, Option.some.injEq, exists_eq_left', rgT, ixT, ixU, ↓if_pos, ↓if_neg, Int.toNat_natCast, bT0, bT1]
  refine l_rd1 hJ hM hJ5 hM5 hJ1 hM1 ht hd hd1 (fun B G hB hG hR x6 x7 x8 => ?_) J 0 (by omega) A F (fun _ _ _ _ _ _ => rfl) (fun _ _ _ _ _ _ _ => rfl) (fun h => absurd h (Nat.lt_irrefl 0)) 0 0 rfl rfl _ _ _
  refine l_rd2 hJ hM hJ5 hM5 ht hd hd1 hR (fun B G hB hG x5 x6 x7 x8 => ?_) M 0 (by omega) B G hB hG _ _ _
  have e9 : isum (fun j => dnr (A 3) d M j + isum (UU (A 3) d J M j) M) J = dna (A 3) d J M + isum (fun j => isum (UU (A 3) d J M j) M) J := isum_add
  rw [e9]
  exact l_rd3 hJ hM hJ5 hM5 ht hd hd1 hR hB hG hQ
end LRND2
