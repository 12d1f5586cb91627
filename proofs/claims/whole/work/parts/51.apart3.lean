/-! the model's slices are those of the sequence -/
section APART
variable {A : Nat → Nat → Int} {F : Nat → Int} {q : List Int × Nat} {Q : AR → Prop} {J M : Nat}
theorem SEQ_pos {n N : Nat} {Ws : Nat → Nat → Int} {sg : Nat → Nat → Nat} {ln : Nat → Int} (hn0 : 1 ≤ n) (hseq : SEQp n N Ws sg ln) : ∀ k, k < N → 0 < ln k := by
  intro k hk
  obtain ⟨h1, h2, h3⟩ := hseq k hk
  rw [h2]
  rcases @imn_is (fun r => Ws k (10 * r + sg k r)) (Ws k (10 * 0 + sg k 0)) n with h | ⟨i, hi, h⟩
  · rw [h]; exact (h1.1.1 0 (by omega)).2
  · rw [h]; exact (h1.1.1 i hi).2
theorem mx_loop {n N : Nat} {B : Int} {Ws : Nat → Nat → Int} {sg : Nat → Nat → Nat} {ln : Nat → Int} (hn10 : n ≤ 10) (hn0 : 1 ≤ n) (hB : 0 ≤ B ∧ B ≤ 1000) (hN : N ≤ 60) (hsum : isum ln N = B) (hseq : SEQp n N Ws sg ln)
    (hQ : ∀ A1, SAX A A1 → (∀ k, k < N → A1 51 k = ln k ∧ ∀ r, r < n → A1 52 (10 * k + r) = (sg k r : Int)) → Q (.inl none, mk A1 (uf F 775 N) q)) :
    ∀ (d s : Nat) (A1 : Nat → Nat → Int), s + d = N → SAX A A1 → (∀ r, r < n → ∀ c, c < n → Ws s (10 * r + c) = A1 50 (10 * r + c)) → (∀ k, k < s → A1 51 k = ln k ∧ ∀ r, r < n → A1 52 (10 * k + r) = (sg k r : Int)) → BALN (A1 50) n (B - isum ln s) → ∀ x3 x4 x5 x6 : Option AV, okv x3 = true → okv x4 = true → okv x5 = true → okv x6 = true → Wp 140 60 [some (vR 48), some (.inl (n : Int)), some (.inl (B - isum ln s)), x3, x4, x5, x6] [] (mk A1 (uf F 775 s) q) Q := by
  have hpos := SEQ_pos hn0 hseq
  intro d
  induction d with
  | zero =>
    intro s A1 hs hA hW hrec hbal x3 x4 x5 x6 h3 h4 h5 h6
    obtain rfl : s = N := by omega
    rw [hsum, r140_60]
    simp (disch := omega) only [r140_61, r140_64, r140_65, r140_66, r140_69, r140_70, r140_71, r140_72, r140_74, r140_75, r140_79, r140_80, r140_83, r140_84, r140_87, r140_89, r140_90, r140_91, r140_92, r140_93, r140_96, r140_97, r140_100, r140_102, r140_104, r140_105, r140_107, r140_108, r140_109, r140_112, r140_113, r140_116, r140_117, r140_118, r140_120, r140_121, r140_122, r140_123, r140_126, r140_129, r140_132, r140_133, r140_134, r140_136, r140_137, r140_138, r140_139, r140_140, r140_143, r140_145, r140_146, r140_149, r140_150, r140_152, r140_153, r140_155, r140_156, r140_157, r140_160, r140_162, r140_164, r140_165, r140_167, r140_168, r140_169, r140_171, r140_174, r140_175, r140_178, r140_180, r140_182, r140_183, r140_185, r140_186, r140_187, r140_190, r140_192, r140_194, r140_197, r140_200, r140_201, r140_205, r140_206, r140_209, r140_210, r140_213, r140_215, r140_217, r140_218, r140_219, r140_222, r140_224, r140_225, r140_228, r140_229, r140_231, r140_232, r140_233, r140_234, r140_235, r140_236, r140_238, r140_239, r140_240, r140_243, r140_246, r140_247, r140_250, r140_251, r140_254, r140_256, r140_257, r140_258, r140_260, r140_261, r140_262, r140_263, r140_263i, r140_264, r140_267, r140_268, r140_269, r140_272, r140_275, Cn_n, Cn_v, Cn_x, dp_0, dp_1, dp_2, dp_3, dp_4, okv_n, okv_i, okv_r, eq_self, true_and, and_true, Option.some.injEq, exists_eq_left', rgT, ixT, ixU, ↓if_pos, ↓if_neg, Int.toNat_natCast, bT0, bT1]
    exact hQ _ hA hrec
  | succ d ih =>
    intro s A1 hs hA hW hrec hbal x3 x4 x5 x6 h3 h4 h5 h6
    have hlt := isum_lt hpos (show s < N by omega)
    have hge := isum_ge (f := ln) (n := s) (fun k hk => by have := hpos k (by omega); omega)
    obtain ⟨q1, q2, q3⟩ := hseq s (by omega)
    have hl9 := ISLF_congr hW q1
    have hW9 : ∀ r, r < n → ∀ c, c < n → 0 ≤ A1 50 (10 * r + c) ∧ A1 50 (10 * r + c) ≤ 100000 := fun r hr c hc => ⟨hbal.1 r hr c hc, by have := BALN_le hbal hr hc; omega⟩
    have hl : imn (fun r => A1 50 (10 * r + sg s r)) (B - isum ln s) n = ln s := by
      rw [q2, imn_from hn0 (by exact BALN_le hbal (by omega) (hl9.1.1 0 (by omega)).1)]
      rw [show A1 50 (10 * 0 + sg s 0) = Ws s (10 * 0 + sg s 0) from (hW 0 (by omega) _ (hl9.1.1 0 (by omega)).1).symm]
      exact imn_congr (fun i hi => (hW i hi _ (hl9.1.1 i hi).1).symm)
    have hlle : ∀ r, r < n → ln s ≤ A1 50 (10 * r + sg s r) := fun r hr => by
      rw [← hl]
      exact (@imn_le (fun r => A1 50 (10 * r + sg s r)) (B - isum ln s) n).2 r hr
    have hbal2 := BALN_tko hn10 hbal hl9.1 hlle
    have hl0 := hpos s (by omega)
    generalize hA2 : ua A1 53 (cnf (A1 50) n (2 ^ n) (A1 53) 0) = A2
    have a50 : A2 50 = A1 50 := by rw [← hA2, ua_n (by decide)]
    have a53 : ∀ x, x < 2 ^ n → A2 53 x = bi (ext (A1 50) n (n - pcn 10 x) x) := by
      intro x hx
      rw [← hA2, ua_s]
      unfold cnf
      rw [if_pos ⟨Nat.zero_le x, hx⟩]
      rfl
    have an : ∀ k, k ≠ 53 → A2 k = A1 k := fun k hk => by rw [← hA2, ua_n hk]
    have rows9 := mx_rows (A := A2) (F := uf F 775 s) (q := q) (Q := Q) (n := n) (s := s) (lf := B - isum ln s) hn10 a50 a53 hl9 hW9 uf_s (by omega) (by omega) (fun C m x6 h6 hC1 hC2 => by
      rw [hl]
      have e50 : ua A2 52 C 50 = A1 50 := by rw [ua_n (by decide)]; exact a50
      have sub9 := mx_sub (A := ua A2 52 C) (F := uf F 775 s) (q := q) (Q := Q) (n := n) (s := s) (sg := sg s) (W := A1 50) (lf := B - isum ln s) (l := ln s) (x3 := some (.inl (m : Int))) (x6 := x6) hn10 (fun i hi => (hl9.1.1 i hi).1) (fun i hi => by rw [ua_s]; exact hC1 i hi) uf_s (by omega) (by
          have e51 : ∀ f, ua (ua A2 52 C) 50 f 51 = A1 51 := fun f => by rw [ua_n (by decide), ua_n (by decide), an _ (by decide)]
          have ih9 := ih (s + 1) (ua (ua (ua A2 52 C) 50 (tko (A1 50) (sg s) (ln s) n)) 51 (uq (A1 51) s (ln s))) (by omega) (fun k h50 h51 h52 h53 => by
              rw [ua_n h51, ua_n h50, ua_n h52, an k h53]; exact hA k h50 h51 h52 h53) (fun r hr c hc => by
              rw [ua_n (by decide), ua_s, q3, tko_at hr (by omega), tko_at hr (by omega), hW r hr c hc]) (fun k hk => by
              rw [ua_s, ua_n (by decide), ua_n (by decide), ua_s]
              by_cases hks : k = s
              · subst hks
                exact ⟨uq_s, hC1⟩
              · rw [uq_n hks]
                obtain ⟨y1, y2⟩ := hrec k (by omega)
                exact ⟨y1, fun r hr => by rw [hC2 _ (by omega), an _ (by decide)]; exact y2 r hr⟩) (by
              rw [ua_n (by decide), ua_s]
              simp only [isum]
              rw [show B - (isum ln s + ln s) = B - isum ln s - ln s by omega]
              exact hbal2) 
          simp only [isum] at ih9
          rw [show B - (isum ln s + ln s) = B - isum ln s - ln s by omega] at ih9
          simp (disch := omega) only [r140_246, r140_247, r140_250, r140_251, r140_254, r140_256, r140_257, r140_258, r140_260, r140_261, r140_262, r140_263, r140_263i, r140_264, r140_267, r140_268, r140_269, r140_272, Cn_n, Cn_v, Cn_x, dp_0, dp_1, dp_2, dp_3, dp_4, okv_n, okv_i, okv_r, eq_self, true_and, and_true, Option.some.injEq, exists_eq_left', rgT, ixT, ixU, ↓if_pos, ↓if_neg, Int.toNat_natCast, bT0, bT1, g_48_0, s_48_0, g_48_1, s_48_1, g_48_2, s_48_2, g_48_3, g_48_4, g_48_5, g_48_6, g_48_7, s_48_7, g_48_8, g_48_9, g_48_10, g_48_11, g_48_12, g_48_13, a_51, b_51, d_51, uf_s, uf_uf, tab_len, u2]
          rw [e51]
          exact ih9 (some (.inl (m : Int))) (some (.inl (ln s))) (some (.inl (n : Int))) x6 rfl rfl rfl h6) n 0 (by omega)
      rw [tko_0, ← e50, ua_id] at sub9
      simp (disch := omega) only [r140_200, r140_201, Cn_n, Cn_v, Cn_x, dp_0, dp_1, dp_2, dp_3, dp_4, okv_n, okv_i, okv_r, eq_self, true_and, and_true, Option.some.injEq, exists_eq_left', rgT, ixT, ixU, ↓if_pos, ↓if_neg, Int.toNat_natCast, bT0, bT1, h6]
      exact sub9) n 0 (A2 52) (by omega) (fun i hi => absurd hi (Nat.not_lt_zero i)) (fun _ _ => rfl) x6 h6
    rw [ua_id] at rows9
    rw [r140_60]
    simp (disch := omega) only [r140_61, r140_64, r140_65, r140_66, r140_69, r140_70, r140_71, r140_72, r140_74, r140_75, Cn_n, Cn_v, Cn_x, dp_0, dp_1, dp_2, dp_3, dp_4, okv_n, okv_i, okv_r, eq_self, true_and, and_true, Option.some.injEq, exists_eq_left', rgT, ixT, ixU, ↓if_pos, ↓if_neg, Int.toNat_natCast, bT0, bT1, h3, h4, h5, h6, mx_match hn10 hW9]
    rw [hA2]
    exact rows9
theorem mx_apart {N : Nat} {Ws : Nat → Nat → Int} {sg : Nat → Nat → Nat} {ln : Nat → Int} (hJ : F 769 = J) (hM : F 770 = M) (hJ5 : J ≤ 5) (hM5 : M ≤ 5) (hJ1 : 1 ≤ J) (ht : TOK (A 49)) (hseq : SEQ (A 49) J M N Ws sg ln)
    (hQ : ∀ A1, SAX A A1 → (∀ k, k < N → A1 51 k = ln k ∧ ∀ r, r < J + M → A1 52 (10 * k + r) = (sg k r : Int)) → Q (.inl none, mk A1 (uf F 775 N) q)) : Ew 140 [vR 48] (mk A F q) Q := by
  refine ⟨rc_140 g_48_0, ?_⟩
  rw [lc_140]
  obtain ⟨n, hn⟩ : ∃ n, n = J + M := ⟨_, rfl⟩
  have hn9 : F 769 + F 770 = (n : Int) := by omega
  have hbd := bnd_bd ht hJ5 hM5
  simp (disch := omega) only [r140_0, r140_1, r140_4, r140_5, r140_8, r140_9, r140_10, r140_11, r140_14, r140_15, r140_16, Cn_n, Cn_v, Cn_x, dp_0, dp_1, dp_2, dp_3, dp_4, okv_n, okv_i, okv_r, eq_self, true_and, and_true, Option.some.injEq, exists_eq_left', rgT, ixT, ixU, ↓if_pos, ↓if_neg, Int.toNat_natCast, bT0, bT1, g_48_0, s_48_0, g_48_1, s_48_1, g_48_2, s_48_2, g_48_3, g_48_4, g_48_5, g_48_6, g_48_7, s_48_7, g_48_8, g_48_9, g_48_10, g_48_11, g_48_12, g_48_13, m_most hJ hM hJ5 hM5 ht, hn9]
  obtain ⟨nn, hnn⟩ : ∃ nn, nn = n * n := ⟨_, rfl⟩
  have hnn9 : (n : Int) * (n : Int) = (nn : Int) := by rw [hnn]; exact (Int.natCast_mul n n).symm
  have hnn100 : nn ≤ 100 := by rw [hnn]; exact Nat.mul_le_mul (show n ≤ 10 by omega) (show n ≤ 10 by omega)
  have hnpos : (0 < (n : Int)) = True := eq_true (by omega)
  suffices key : ∀ (d k : Nat) (W : Nat → Int), k + d = nn → (∀ r, r < n → ∀ c, c < n → r * n + c < k → W (10 * r + c) = fe (A 49) J M r c) → Wp 140 17 [some (vR 48), some (.inl (n : Int)), some (.inl (bnd (A 49) J M)), some (.inl (k : Int)), none, none, none] [] (mk (ua A 50 W) F q) Q by
    have k0 := key nn 0 (A 50) (by omega) (fun r hr c hc h => absurd h (Nat.not_lt_zero _))
    rw [ua_id] at k0
    exact k0
  intro d
  induction d with
  | zero =>
    intro k W hk hW
    obtain rfl : k = nn := by omega
    have hfe : ∀ r, r < J + M → ∀ c, c < J + M → W (10 * r + c) = fe (A 49) J M r c := by
      intro r hr c hc
      refine hW r (by omega) c (by omega) ?_
      have h1 : (r + 1) * n ≤ n * n := Nat.mul_le_mul_right n (by omega)
      rw [Nat.succ_mul] at h1
      omega
    have loop9 := mx_loop (A := A) (F := F) (q := q) (Q := Q) (n := n) (N := N) (B := bnd (A 49) J M) (Ws := Ws) (sg := sg) (ln := ln) (by omega) (by omega) (by omega) hseq.2.2.2 hseq.2.2.1 (by rw [hn]; exact hseq.2.1) (by rw [hn]; exact hQ) N 0 (ua A 50 W) (by omega) (fun k h50 _ _ _ => ua_n h50) (fun r hr c hc => by rw [ua_s, hfe r (by omega) c (by omega)]; exact hseq.1 r (by omega) c (by omega)) (fun k hk => absurd hk (Nat.not_lt_zero k)) (by
      rw [ua_s, hn]
      simp only [isum]
      rw [Int.sub_zero]
      exact fe_BALN ht hJ5 hM5 hfe)
    simp only [isum] at loop9
    rw [Int.sub_zero] at loop9
    rw [r140_17]
    simp (disch := omega) only [r140_18, r140_19, r140_20, r140_21, r140_24, r140_25, r140_28, r140_30, r140_31, r140_32, r140_33, r140_34, r140_35, r140_36, r140_37, r140_38, r140_39, r140_40, r140_41, r140_42, r140_43, r140_44, r140_45, r140_48, r140_49, r140_52, r140_55, r140_56, r140_57, Cn_n, Cn_v, Cn_x, dp_0, dp_1, dp_2, dp_3, dp_4, okv_n, okv_i, okv_r, eq_self, true_and, and_true, Option.some.injEq, exists_eq_left', rgT, ixT, ixU, ↓if_pos, ↓if_neg, Int.toNat_natCast, bT0, bT1, g_48_0, s_48_0, g_48_1, s_48_1, g_48_2, s_48_2, g_48_3, g_48_4, g_48_5, g_48_6, g_48_7, s_48_7, g_48_8, g_48_9, g_48_10, g_48_11, g_48_12, g_48_13, hnn9]
    exact loop9 _ _ _ _ rfl rfl rfl rfl
  | succ d ih =>
    intro k W hk hW
    have d1 : k / n < n := Nat.div_lt_of_lt_mul (by omega)
    have d2 : k % n < n := Nat.mod_lt k (by omega)
    have d3 : n * (k / n) + k % n = k := Nat.div_add_mod k n
    have ix9 : (10 * ((k / n : Nat) : Int) + ((k % n : Nat) : Int)).toNat = 10 * (k / n) + k % n := by omega
    have e49 : ua A 50 W 49 = A 49 := ua_n (by decide)
    have ht9 : TOK (ua A 50 W 49) := by rw [e49]; exact ht
    have ent := fun (Q : AR → Prop) => @m_entry (ua A 50 W) F q ((k / n : Nat) : Int) ((k % n : Nat) : Int) Q J M hJ hM hJ5 hM5 ht9 (by omega) (by omega) (by omega) (by omega)
    simp only [Int.toNat_natCast, e49] at ent
    have ih9 := ih (k + 1) (uq W (10 * (k / n) + k % n) (fe (A 49) J M (k / n) (k % n))) (by omega) (fun r hr c hc h => by
      by_cases h9 : r * n + c = k
      · have c1 : k % n = c := by
          rw [← h9, Nat.add_comm, Nat.add_mul_mod_self_right]
          exact Nat.mod_eq_of_lt hc
        have c2 : k / n = r := by
          have h7 : n * (k / n) = r * n := by omega
          rw [Nat.mul_comm] at h7
          exact Nat.eq_of_mul_eq_mul_right (by omega) h7
        rw [c1, c2, uq_s]
      · rw [uq_n]
        · exact hW r hr c hc (by omega)
        · intro h8
          have c1 : r = k / n := by omega
          have c2 : c = k % n := by omega
          rw [c1, c2, Nat.mul_comm] at h9
          exact h9 d3)
    rw [r140_17]
    simp (disch := omega) only [r140_18, r140_19, r140_20, r140_21, r140_24, r140_25, r140_28, r140_30, r140_31, r140_32, r140_33, r140_34, r140_35, r140_36, r140_37, r140_38, r140_39, r140_40, r140_41, r140_42, r140_43, r140_44, r140_45, r140_48, r140_49, r140_52, Cn_n, Cn_v, Cn_x, dp_0, dp_1, dp_2, dp_3, dp_4, okv_n, okv_i, okv_r, eq_self, true_and, and_true, Option.some.injEq, exists_eq_left', rgT, ixT, ixU, ↓if_pos, ↓if_neg, Int.toNat_natCast, bT0, bT1, g_48_0, s_48_0, g_48_1, s_48_1, g_48_2, s_48_2, g_48_3, g_48_4, g_48_5, g_48_6, g_48_7, s_48_7, g_48_8, g_48_9, g_48_10, g_48_11, g_48_12, g_48_13, a_50, b_50, d_50, hnn9, tdn, tmn, hnpos, ent, ix9, tab_len, d_50u]
    exact ih9
end APART
