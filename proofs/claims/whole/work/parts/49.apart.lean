/-! the model takes the filled table apart -/
theorem PM_congr {W V : Nat → Int} {n : Nat} {tau : Nat → Nat} (h : ∀ r, r < n → ∀ c, c < n → W (10 * r + c) = V (10 * r + c)) (hp : PM W n tau) : PM V n tau := ⟨fun r hr => ⟨(hp.1 r hr).1, by rw [← h r hr _ (hp.1 r hr).1]; exact (hp.1 r hr).2⟩, hp.2⟩
theorem ISLF_congr {W V : Nat → Int} {n : Nat} {sg : Nat → Nat} (h : ∀ r, r < n → ∀ c, c < n → W (10 * r + c) = V (10 * r + c)) (hp : ISLF W n sg) : ISLF V n sg := ⟨PM_congr h hp.1, fun r hr c hc tau ht hpre => hp.2 r hr c hc tau (PM_congr (fun r hr c hc => (h r hr c hc).symm) ht) hpre⟩
theorem imn_congr {f g : Nat → Int} {a : Int} : ∀ {n : Nat}, (∀ i, i < n → f i = g i) → imn f a n = imn g a n
  | 0, _ => rfl
  | n + 1, h => by
    simp only [imn]
    rw [imn_congr (fun i hi => h i (by omega)), h n (by omega)]
/-- the least, from whatever is no less than one of them -/
theorem imn_from {f : Nat → Int} {a : Int} {n : Nat} (hn : 1 ≤ n) (ha : f 0 ≤ a) : imn f a n = imn f (f 0) n := by
  obtain ⟨x1, x2⟩ := @imn_le f a n
  obtain ⟨y1, y2⟩ := @imn_le f (f 0) n
  apply Int.le_antisymm
  · rcases @imn_is f (f 0) n with h | ⟨i, hi, h⟩
    · rw [h]; exact x2 0 (by omega)
    · rw [h]; exact x2 i hi
  · rcases @imn_is f a n with h | ⟨i, hi, h⟩
    · rw [h]; omega
    · rw [h]; exact y2 i hi
theorem isum_lt {f : Nat → Int} : ∀ {n s : Nat}, (∀ k, k < n → 0 < f k) → s < n → isum f s < isum f n
  | 0, s, _, hs => absurd hs (Nat.not_lt_zero s)
  | n + 1, s, h, hs => by
    simp only [isum]
    have h1 := h n (by omega)
    by_cases hsn : s = n
    · subst hsn; omega
    · have := isum_lt (f := f) (n := n) (s := s) (fun k hk => h k (by omega)) (by omega)
      omega
theorem msk_lt {sg : Nat → Nat} {n : Nat} (hn : n ≤ 10) (hs : ∀ r, r < n → sg r < n) : ∀ {r : Nat}, r ≤ n → msk sg r < 2 ^ n
  | 0, _ => Nat.two_pow_pos n
  | r + 1, hr => by
    have h1 := msk_lt hn hs (r := r) (by omega)
    have h2 : 2 ^ n ≤ 1024 := two_le ⟨n, by omega⟩
    have h3 := hs r (by omega)
    exact or_lt ⟨n, by omega⟩ ⟨msk sg r, by omega⟩ ⟨sg r, by omega⟩ h1 h3
theorem msk_pcn {W : Nat → Int} {sg : Nat → Nat} {n : Nat} (hn : n ≤ 10) (h : ISLF W n sg) : ∀ {r : Nat}, r ≤ n → pcn 10 (msk sg r) = r
  | 0, _ => pcn_z
  | r + 1, hr => by
    have h0 := msk_pcn hn h (r := r) (by omega)
    have h1 := msk_lt hn (fun r hr => (h.1.1 r hr).1) (r := r) (by omega)
    have h2 : 2 ^ n ≤ 1024 := two_le ⟨n, by omega⟩
    have h3 := (h.1.1 r (by omega)).1
    have h4 := pcn_or ⟨msk sg r, by omega⟩ ⟨sg r, by omega⟩ (lf_at h (show r < n by omega)).1
    simp only [] at h4
    simp only [msk]
    omega
theorem tdn {a n : Nat} : ((a : Nat) : Int).tdiv (n : Int) = ((a / n : Nat) : Int) := by
  rw [Int.tdiv_eq_ediv_of_nonneg (by omega)]
  exact (Int.natCast_ediv a n).symm
theorem tmn {a n : Nat} : ((a : Nat) : Int).tmod (n : Int) = ((a % n : Nat) : Int) := by
  rw [Int.tmod_eq_emod_of_nonneg (by omega)]
  exact (Int.natCast_emod a n).symm
abbrev SAX (A A1 : Nat → Nat → Int) : Prop := ∀ k, k ≠ 50 → k ≠ 51 → k ≠ 52 → k ≠ 53 → A1 k = A k
section APART
variable {A : Nat → Nat → Int} {F : Nat → Int} {q : List Int × Nat} {Q : AR → Prop} {J M n : Nat}
theorem d_50u {f : Nat → Int} {i : Nat} {v : Int} : sa (mk (ua A 50 f) F q) 50 0 ((tab 100 f).set i v) = mk (ua A 50 (uq f i v)) F q := by
  have h9 := @d_50 (ua A 50 f) F q i v
  rw [ua_s] at h9
  rw [h9, u2, ua_s, ua_ua]
theorem d_52u {f : Nat → Int} {i : Nat} {v : Int} : sa (mk (ua A 52 f) F q) 52 0 ((tab 640 f).set i v) = mk (ua A 52 (uq f i v)) F q := by
  have h9 := @d_52 (ua A 52 f) F q i v
  rw [ua_s] at h9
  rw [h9, u2, ua_s, ua_ua]
/-- the search for the column of a row -/
theorem mx_find {sg : Nat → Nat} {W : Nat → Int} {r : Nat} {lf : Int} {x2 : Option AV} (hn : n ≤ 10) (h50 : A 50 = W) (hC : ∀ x, x < 2 ^ n → A 53 x = bi (ext W n (n - pcn 10 x) x)) (hl : ISLF W n sg) (hW : ∀ r, r < n → ∀ c, c < n → 0 ≤ W (10 * r + c) ∧ W (10 * r + c) ≤ 100000) (hr : r < n)
    (hk : Wp 140 132 [some (vR 48), some (.inl (n : Int)), x2, some (.inl (msk sg r : Int)), some (.inl lf), some (.inl (r : Int)), some (.inl (sg r : Int))] [] (mk A F q) Q) : ∀ d c : Nat, c + d = sg r → Wp 140 86 [some (vR 48), some (.inl (n : Int)), x2, some (.inl (msk sg r : Int)), some (.inl lf), some (.inl (r : Int)), some (.inl (c : Int))] [] (mk A F q) Q := by
  have hP : 2 ^ n ≤ 1024 := two_le ⟨n, by omega⟩
  have m1 := msk_lt hn (fun r hr => (hl.1.1 r hr).1) (r := r) (by omega)
  have m2 := msk_pcn hn hl (r := r) (by omega)
  have s9 := (hl.1.1 r hr).1
  have hcan : ∀ c, c < n → (msk sg r).testBit c = false → A 53 (msk sg r ||| 2 ^ c) = bi (ext W n (n - (r + 1)) (msk sg r ||| 2 ^ c)) ∧ (msk sg r ||| 2 ^ c) < 2 ^ n := by
    intro c hc hb
    have l9 := or_lt ⟨n, by omega⟩ ⟨msk sg r, by omega⟩ ⟨c, by omega⟩ m1 hc
    have p9 := pcn_or ⟨msk sg r, by omega⟩ ⟨c, by omega⟩ hb
    simp only [] at l9 p9
    exact ⟨by rw [hC _ l9, p9, m2], l9⟩
  intro d
  induction d with
  | zero =>
    intro c hc
    obtain rfl : c = sg r := by omega
    obtain ⟨x1, x2, x3⟩ := lf_at hl hr
    obtain ⟨y1, y2⟩ := hcan _ s9 x1
    rw [x3, bi_t] at y1
    have w9 := hW r hr (sg r) s9
    have ix9 : (10 * (r : Int) + (sg r : Int)).toNat = 10 * r + sg r := by omega
    rw [r140_86]
    simp (disch := omega) only [r140_87, r140_89, r140_90, r140_91, r140_92, r140_93, r140_96, r140_97, r140_100, r140_102, r140_104, r140_105, r140_107, r140_108, r140_109, r140_112, r140_113, r140_116, r140_117, r140_118, r140_120, r140_121, r140_122, r140_123, r140_126, r140_129, Cn_n, Cn_v, Cn_x, dp_0, dp_1, dp_2, dp_3, dp_4, okv_n, okv_i, okv_r, eq_self, true_and, and_true, Option.some.injEq, exists_eq_left', rgT, ixT, ixU, ↓if_pos, ↓if_neg, Int.toNat_natCast, bT0, bT1, g_48_0, s_48_0, g_48_1, s_48_1, g_48_2, s_48_2, g_48_3, g_48_4, g_48_5, g_48_6, g_48_7, s_48_7, g_48_8, g_48_9, g_48_10, g_48_11, g_48_12, g_48_13, a_50, b_50, d_50, a_53, b_53, d_53, shr_x, x1, bi_f, h50, ix9, tab_len, tab_get, shl_x, or_x, y1]
    exact hk
  | succ d ih =>
    intro c hc
    have ih9 := ih (c + 1) (by omega)
    have w9 := hW r hr c (by omega)
    have ix9 : (10 * (r : Int) + (c : Int)).toNat = 10 * r + c := by omega
    rw [r140_86]
    cases hb : (msk sg r).testBit c
    · by_cases k1 : W (10 * r + c) = 0
      · simp (disch := omega) only [r140_87, r140_89, r140_90, r140_91, r140_92, r140_93, r140_96, r140_97, r140_100, r140_102, r140_104, r140_105, r140_107, r140_108, r140_109, r140_112, r140_113, r140_116, r140_117, r140_118, r140_120, r140_121, r140_122, r140_123, r140_126, r140_129, Cn_n, Cn_v, Cn_x, dp_0, dp_1, dp_2, dp_3, dp_4, okv_n, okv_i, okv_r, eq_self, true_and, and_true, Option.some.injEq, exists_eq_left', rgT, ixT, ixU, ↓if_pos, ↓if_neg, Int.toNat_natCast, bT0, bT1, g_48_0, s_48_0, g_48_1, s_48_1, g_48_2, s_48_2, g_48_3, g_48_4, g_48_5, g_48_6, g_48_7, s_48_7, g_48_8, g_48_9, g_48_10, g_48_11, g_48_12, g_48_13, a_50, b_50, d_50, a_53, b_53, d_53, shr_x, hb, bi_f, h50, ix9, tab_len, tab_get]
        exact ih9
      · obtain ⟨y1, y2⟩ := hcan c (by omega) hb
        rw [lf_no hl hr (by omega) hb (by omega), bi_f] at y1
        simp (disch := omega) only [r140_87, r140_89, r140_90, r140_91, r140_92, r140_93, r140_96, r140_97, r140_100, r140_102, r140_104, r140_105, r140_107, r140_108, r140_109, r140_112, r140_113, r140_116, r140_117, r140_118, r140_120, r140_121, r140_122, r140_123, r140_126, r140_129, Cn_n, Cn_v, Cn_x, dp_0, dp_1, dp_2, dp_3, dp_4, okv_n, okv_i, okv_r, eq_self, true_and, and_true, Option.some.injEq, exists_eq_left', rgT, ixT, ixU, ↓if_pos, ↓if_neg, Int.toNat_natCast, bT0, bT1, g_48_0, s_48_0, g_48_1, s_48_1, g_48_2, s_48_2, g_48_3, g_48_4, g_48_5, g_48_6, g_48_7, s_48_7, g_48_8, g_48_9, g_48_10, g_48_11, g_48_12, g_48_13, a_50, b_50, d_50, a_53, b_53, d_53, shr_x, hb, bi_f, h50, ix9, tab_len, tab_get, shl_x, or_x, y1]
        exact ih9
    · simp (disch := omega) only [r140_87, r140_89, r140_90, r140_91, r140_92, r140_93, r140_96, r140_97, r140_100, r140_102, r140_104, r140_105, r140_107, r140_108, r140_109, r140_112, r140_113, r140_116, r140_117, r140_118, r140_120, r140_121, r140_122, r140_123, r140_126, r140_129, Cn_n, Cn_v, Cn_x, dp_0, dp_1, dp_2, dp_3, dp_4, okv_n, okv_i, okv_r, eq_self, true_and, and_true, Option.some.injEq, exists_eq_left', rgT, ixT, ixU, ↓if_pos, ↓if_neg, Int.toNat_natCast, bT0, bT1, g_48_0, s_48_0, g_48_1, s_48_1, g_48_2, s_48_2, g_48_3, g_48_4, g_48_5, g_48_6, g_48_7, s_48_7, g_48_8, g_48_9, g_48_10, g_48_11, g_48_12, g_48_13, a_50, b_50, d_50, a_53, b_53, d_53, shr_x, hb, bi_t]
      exact ih9
end APART
