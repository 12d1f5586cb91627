/-! which sets of columns can be completed, in the model -/
theorem tm2 {n : Nat} : ((n : Nat) : Int).tmod 2 = ((n % 2 : Nat) : Int) := by rw [Int.tmod_eq_emod_of_nonneg (by omega)]; omega
theorem td2 {n : Nat} : ((n : Nat) : Int).tdiv 2 = ((n / 2 : Nat) : Int) := by rw [Int.tdiv_eq_ediv_of_nonneg (by omega)]; omega
theorem pcn_z : ∀ {k : Nat}, pcn k 0 = 0
  | 0 => rfl
  | k + 1 => by simp only [pcn]; rw [pcn_z (k := k)]
theorem pcn_le : ∀ {k s : Nat}, pcn k s ≤ k
  | 0, _ => Nat.le_refl _
  | k + 1, s => by
    have := @pcn_le k (s / 2)
    simp only [pcn]
    omega
def cnf (W : Nat → Int) (n P : Nat) (g : Nat → Int) (d : Nat) : Nat → Int := fun x => if d ≤ x ∧ x < P then (if ext W n (n - pcn 10 x) x = true then 1 else 0) else g x
def bi (b : Bool) : Int := if b = true then 1 else 0
theorem shl_x {n : Nat} (h : n < 11) : iop (fun x y => x <<< (y &&& 31)) 1 (n : Int) = ((2 ^ n : Nat) : Int) := shl_n ⟨n, h⟩
theorem shr_x {s c : Nat} (h : s < 1024) (h2 : c < 10) : iop (fun x y => x &&& y) (iop (fun x y => x >>> (y &&& 31)) (s : Int) (c : Int)) 1 = bi (s.testBit c) := shr_b ⟨s, h⟩ ⟨c, h2⟩
theorem or_x {s c : Nat} (h : s < 1024) (h2 : c < 10) : iop (fun x y => x ||| y) (s : Int) ((2 ^ c : Nat) : Int) = ((s ||| 2 ^ c : Nat) : Int) := or_b ⟨s, h⟩ ⟨c, h2⟩
theorem uq_uq {f : Nat → Int} {i : Nat} {v w : Int} : uq (uq f i v) i w = uq f i w := by
  funext k
  unfold uq
  by_cases h : k = i
  · rw [if_pos h, if_pos h]
  · rw [if_neg h, if_neg h, if_neg h]
theorem bi_f : bi false = 0 := rfl
theorem bi_t : bi true = 1 := rfl
theorem cnf_s {W g : Nat → Int} {n P s : Nat} {v : Bool} (hs : s < P) (hv : v = ext W n (n - pcn 10 s) s) : uq (cnf W n P g (s + 1)) s (bi v) = cnf W n P g s := by
  funext x
  by_cases hx : x = s
  · subst hx
    rw [uq_s, hv]
    unfold cnf bi
    rw [if_pos (show x ≤ x ∧ x < P from ⟨Nat.le_refl _, hs⟩)]
  · rw [uq_n hx]
    unfold cnf
    by_cases h1 : s + 1 ≤ x ∧ x < P
    · rw [if_pos h1, if_pos (show s ≤ x ∧ x < P by omega)]
    · rw [if_neg h1, if_neg (show ¬ (s ≤ x ∧ x < P) by omega)]
section MAT
variable {A : Nat → Nat → Int} {F : Nat → Int} {q : List Int × Nat} {Q : AR → Prop} {n s : Nat}
theorem d_53u {f : Nat → Int} {i : Nat} {v : Int} : sa (mk (ua A 53 f) F q) 53 1 ((tab 1024 f).set i v) = mk (ua A 53 (uq f i v)) F q := by
  have h9 := @d_53 (ua A 53 f) F q i v
  rw [ua_s] at h9
  rw [h9, u2, ua_s, ua_ua]
theorem mx_bits (hs : s < 1024) : Ew 138 [.inl (s : Int)] (mk A F q) Q ↔ Q (.inl (some (.inl (pcn 10 s : Int))), mk A F q) := by
  refine Ew_iff ⟨rc_138 rfl, ?_⟩
  rw [lc_138]
  simp only [r138_0, r138_1, r138_2, r138_3, r138_5, r138_8, r138_9, r138_10, r138_11, r138_12, r138_13, r138_14, r138_15, r138_16, r138_17, r138_18, r138_21, r138_22, Cn_n, Cn_v, Cn_x, dp_0, dp_1, dp_2, dp_3, dp_4, okv_n, okv_i, okv_r, eq_self, true_and, and_true, Option.some.injEq, exists_eq_left']
  generalize hv : pcn 10 s = v0
  suffices key : ∀ (k m a : Nat), m < 2 ^ k → k ≤ 10 → a + pcn k m = v0 → Wp 138 4 [some (.inl (s : Int)), some (.inl (a : Int)), some (.inl (m : Int))] [] (mk A F q) (fun r => r = (.inl (some (.inl (v0 : Int))), mk A F q)) by
    exact key 10 s 0 hs (Nat.le_refl _) (by omega)
  intro k
  induction k with
  | zero =>
    intro m a hm hk ha
    have hm0 : m = 0 := by
      have : (2 : Nat) ^ 0 = 1 := rfl
      omega
    subst hm0
    simp only [pcn] at ha
    have ha2 : a = v0 := by omega
    subst ha2
    rw [r138_4]
    simp (disch := omega) only [r138_0, r138_1, r138_2, r138_3, r138_5, r138_8, r138_9, r138_10, r138_11, r138_12, r138_13, r138_14, r138_15, r138_16, r138_17, r138_18, r138_21, r138_22, Cn_n, Cn_v, Cn_x, dp_0, dp_1, dp_2, dp_3, dp_4, okv_n, okv_i, okv_r, eq_self, true_and, and_true, Option.some.injEq, exists_eq_left', rgT, ixT, ixU, ↓if_pos, ↓if_neg, Int.toNat_natCast, bT0, bT1, Int.natCast_zero]
  | succ k ih =>
    intro m a hm hk ha
    have hm2 : m < 2 * 2 ^ k := by
      have : (2 : Nat) ^ (k + 1) = 2 * 2 ^ k := by rw [Nat.pow_succ]; omega
      omega
    have hm3 : m < 1024 := by
      have : (2 : Nat) ^ (k + 1) ≤ 2 ^ 10 := Nat.pow_le_pow_right (by decide) hk
      have : (2 : Nat) ^ 10 = 1024 := rfl
      omega
    rw [r138_4]
    by_cases h0 : m = 0
    · subst h0
      rw [pcn_z] at ha
      have ha2 : a = v0 := by omega
      subst ha2
      simp (disch := omega) only [r138_0, r138_1, r138_2, r138_3, r138_5, r138_8, r138_9, r138_10, r138_11, r138_12, r138_13, r138_14, r138_15, r138_16, r138_17, r138_18, r138_21, r138_22, Cn_n, Cn_v, Cn_x, dp_0, dp_1, dp_2, dp_3, dp_4, okv_n, okv_i, okv_r, eq_self, true_and, and_true, Option.some.injEq, exists_eq_left', rgT, ixT, ixU, ↓if_pos, ↓if_neg, Int.toNat_natCast, bT0, bT1, Int.natCast_zero]
    · simp only [pcn] at ha
      simp (disch := omega) only [r138_0, r138_1, r138_2, r138_3, r138_5, r138_8, r138_9, r138_10, r138_11, r138_12, r138_13, r138_14, r138_15, r138_16, r138_17, r138_18, r138_21, r138_22, Cn_n, Cn_v, Cn_x, dp_0, dp_1, dp_2, dp_3, dp_4, okv_n, okv_i, okv_r, eq_self, true_and, and_true, Option.some.injEq, exists_eq_left', rgT, ixT, ixU, ↓if_pos, ↓if_neg, Int.toNat_natCast, bT0, bT1, tm2, td2]
      exact ⟨by decide, by decide, ih (m / 2) (a + m % 2) (by omega) (by omega) (by omega)⟩
theorem mx_match (hn : n ≤ 10) (hW : ∀ r, r < n → ∀ c, c < n → 0 ≤ A 50 (10 * r + c) ∧ A 50 (10 * r + c) ≤ 100000) : Ew 139 [vR 48, .inl (n : Int)] (mk A F q) Q ↔ Q (.inl none, mk (ua A 53 (cnf (A 50) n (2 ^ n) (A 53) 0)) F q) := by
  refine Ew_iff ⟨rc_139 g_48_0 rfl, ?_⟩
  rw [lc_139]
  have hP1 := two_le ⟨n, by omega⟩
  have hP0 : 1 ≤ 2 ^ n := Nat.one_le_two_pow
  have hfb : ∀ c, c < n → (2 ^ n - 1).testBit c = true := fun c hc => full_bit ⟨n, by omega⟩ ⟨c, by omega⟩ hc
  have hpf : pcn 10 (2 ^ n - 1) = n := pcn_full ⟨n, by omega⟩
  have hpl : ∀ s, s < 2 ^ n → s ≠ 2 ^ n - 1 → pcn 10 s < n := fun s hs h => pcn_less ⟨n, by omega⟩ ⟨s, by simp only [] at hP1; omega⟩ hs h
  have hol : ∀ s c, s < 2 ^ n → c < n → (s ||| 2 ^ c) < 2 ^ n := fun s c hs hc => or_lt ⟨n, by omega⟩ ⟨s, by simp only [] at hP1; omega⟩ ⟨c, by omega⟩ hs hc
  simp only [] at hP1
  simp (disch := omega) only [r139_0, r139_1, r139_2, r139_3, r139_4, r139_5, r139_6, r139_7, r139_9, r139_12, r139_13, r139_16, r139_18, r139_19, r139_22, r139_23, r139_24, r139_25, r139_28, r139_29, r139_32, r139_33, r139_34, r139_35, r139_39, r139_40, r139_43, r139_44, r139_46, r139_47, r139_48, r139_49, r139_52, r139_53, r139_56, r139_58, r139_60, r139_61, r139_63, r139_64, r139_65, r139_68, r139_69, r139_72, r139_73, r139_74, r139_76, r139_77, r139_78, r139_79, r139_82, r139_83, r139_86, r139_87, r139_89, r139_90, r139_93, r139_94, r139_95, r139_98, r139_99, r139_100, r139_103, r139_105, r139_108, r139_109, r139_112, r139_113, r139_114, r139_117, r139_120, r139_123, r139_126, Cn_n, Cn_v, Cn_x, dp_0, dp_1, dp_2, dp_3, dp_4, okv_n, okv_i, okv_r, eq_self, true_and, and_true, Option.some.injEq, exists_eq_left', shl_x]
  generalize hP : 2 ^ n = P at *
  suffices key : ∀ (d : Nat) (i : Int), d ≤ P → i = (d : Int) - 1 → ∀ x4 x5 x6 : Option AV, okv x4 = true → okv x5 = true → okv x6 = true → Wp 139 8 [some (vR 48), some (.inl (n : Int)), some (.inl ((P : Int) - 1)), some (.inl i), x4, x5, x6] [] (mk (ua A 53 (cnf (A 50) n P (A 53) d)) F q) (fun r => r = (.inl none, mk (ua A 53 (cnf (A 50) n P (A 53) 0)) F q)) by
    have k0 := key P ((P : Int) - 1) (Nat.le_refl _) rfl none none none rfl rfl rfl
    have e0 : cnf (A 50) n P (A 53) P = A 53 := by
      funext x
      unfold cnf
      rw [if_neg (by omega)]
    rw [e0, ua_id] at k0
    exact k0
  intro d
  induction d with
  | zero =>
    intro i hd hi x4 x5 x6 h4 h5 h6
    rw [r139_8]
    simp (disch := omega) only [r139_0, r139_1, r139_2, r139_3, r139_4, r139_5, r139_6, r139_7, r139_9, r139_12, r139_13, r139_16, r139_18, r139_19, r139_22, r139_23, r139_24, r139_25, r139_28, r139_29, r139_32, r139_33, r139_34, r139_35, r139_39, r139_40, r139_43, r139_44, r139_46, r139_47, r139_48, r139_49, r139_52, r139_53, r139_56, r139_58, r139_60, r139_61, r139_63, r139_64, r139_65, r139_68, r139_69, r139_72, r139_73, r139_74, r139_76, r139_77, r139_78, r139_79, r139_82, r139_83, r139_86, r139_87, r139_89, r139_90, r139_93, r139_94, r139_95, r139_98, r139_99, r139_100, r139_103, r139_105, r139_108, r139_109, r139_112, r139_113, r139_114, r139_117, r139_120, r139_123, r139_126, Cn_n, Cn_v, Cn_x, dp_0, dp_1, dp_2, dp_3, dp_4, okv_n, okv_i, okv_r, eq_self, true_and, and_true, Option.some.injEq, exists_eq_left', rgT, ixT, ixU, ↓if_pos, ↓if_neg, Int.toNat_natCast, bT0, bT1]
  | succ s ih =>
    intro i hd hi x4 x5 x6 h4 h5 h6
    have hi2 : i = (s : Int) := by omega
    subst hi2
    have hs : s < P := by omega
    have e50 : ∀ f, ua A 53 f 50 = A 50 := fun f => ua_n (by decide)
    have pl : s ≠ P - 1 → pcn 10 s < n := hpl s hs
    -- the place of s so far: as far as column c
    suffices inner : ∀ (d2 c : Nat) (v : Bool), c + d2 = n → v = (decide (s = P - 1) || anyc (fun c => !(s.testBit c) && (decide (0 < A 50 (10 * pcn 10 s + c)) && ext (A 50) n (n - (pcn 10 s + 1)) (s ||| 2 ^ c))) c) → ∀ x6 : Option AV, okv x6 = true → Wp 139 37 [some (vR 48), some (.inl (n : Int)), some (.inl ((P : Int) - 1)), some (.inl (s : Int)), some (.inl (pcn 10 s : Int)), some (.inl (c : Int)), x6] [] (mk (ua A 53 (uq (cnf (A 50) n P (A 53) (s + 1)) s (bi v))) F q) (fun r => r = (.inl none, mk (ua A 53 (cnf (A 50) n P (A 53) 0)) F q)) by
      rw [r139_8]
      by_cases k1 : s = P - 1
      · have k0 := inner n 0 true (by omega) (by simp [k1]) x6 h6
        have e1 : bi true = 1 := rfl
        rw [e1] at k0
        simp (disch := omega) only [r139_0, r139_1, r139_2, r139_3, r139_4, r139_5, r139_6, r139_7, r139_9, r139_12, r139_13, r139_16, r139_18, r139_19, r139_22, r139_23, r139_24, r139_25, r139_28, r139_29, r139_32, r139_33, r139_34, r139_35, r139_39, r139_40, r139_43, r139_44, r139_46, r139_47, r139_48, r139_49, r139_52, r139_53, r139_56, r139_58, r139_60, r139_61, r139_63, r139_64, r139_65, r139_68, r139_69, r139_72, r139_73, r139_74, r139_76, r139_77, r139_78, r139_79, r139_82, r139_83, r139_86, r139_87, r139_89, r139_90, r139_93, r139_94, r139_95, r139_98, r139_99, r139_100, r139_103, r139_105, r139_108, r139_109, r139_112, r139_113, r139_114, r139_117, r139_120, r139_123, r139_126, Cn_n, Cn_v, Cn_x, dp_0, dp_1, dp_2, dp_3, dp_4, okv_n, okv_i, okv_r, eq_self, true_and, and_true, Option.some.injEq, exists_eq_left', rgT, ixT, ixU, ↓if_pos, ↓if_neg, Int.toNat_natCast, bT0, bT1, g_48_0, s_48_0, g_48_1, s_48_1, g_48_2, s_48_2, g_48_3, g_48_4, g_48_5, g_48_6, g_48_7, s_48_7, g_48_8, g_48_9, g_48_10, g_48_11, g_48_12, g_48_13, a_53, b_53, d_53, h4, h5, h6, mx_bits, tab_len, d_53u, ua_s]
        exact k0
      · have k0 := inner n 0 false (by omega) (by simp [k1, anyc]) x6 h6
        have e1 : bi false = 0 := rfl
        rw [e1] at k0
        simp (disch := omega) only [r139_0, r139_1, r139_2, r139_3, r139_4, r139_5, r139_6, r139_7, r139_9, r139_12, r139_13, r139_16, r139_18, r139_19, r139_22, r139_23, r139_24, r139_25, r139_28, r139_29, r139_32, r139_33, r139_34, r139_35, r139_39, r139_40, r139_43, r139_44, r139_46, r139_47, r139_48, r139_49, r139_52, r139_53, r139_56, r139_58, r139_60, r139_61, r139_63, r139_64, r139_65, r139_68, r139_69, r139_72, r139_73, r139_74, r139_76, r139_77, r139_78, r139_79, r139_82, r139_83, r139_86, r139_87, r139_89, r139_90, r139_93, r139_94, r139_95, r139_98, r139_99, r139_100, r139_103, r139_105, r139_108, r139_109, r139_112, r139_113, r139_114, r139_117, r139_120, r139_123, r139_126, Cn_n, Cn_v, Cn_x, dp_0, dp_1, dp_2, dp_3, dp_4, okv_n, okv_i, okv_r, eq_self, true_and, and_true, Option.some.injEq, exists_eq_left', rgT, ixT, ixU, ↓if_pos, ↓if_neg, Int.toNat_natCast, bT0, bT1, g_48_0, s_48_0, g_48_1, s_48_1, g_48_2, s_48_2, g_48_3, g_48_4, g_48_5, g_48_6, g_48_7, s_48_7, g_48_8, g_48_9, g_48_10, g_48_11, g_48_12, g_48_13, a_53, b_53, d_53, h4, h5, h6, mx_bits, tab_len, d_53u, ua_s]
        exact k0
    intro d2
    induction d2 with
    | zero =>
      intro c v hc hv x6 h6
      obtain rfl : c = n := by omega
      have hv2 : v = ext (A 50) c (c - pcn 10 s) s := by
        by_cases k1 : s = P - 1
        · have e1 : pcn 10 s = c := by rw [k1]; exact hpf
          rw [hv, e1, Nat.sub_self, decide_eq_true k1, Bool.true_or]
          rfl
        · have h9 := pl k1
          rw [hv, decide_eq_false k1, Bool.false_or]
          obtain ⟨k, hk⟩ : ∃ k, c - pcn 10 s = k + 1 := ⟨c - pcn 10 s - 1, by omega⟩
          rw [hk, ext, show c - (pcn 10 s + 1) = k by omega, show c - (k + 1) = pcn 10 s by omega]
      rw [cnf_s hs hv2, r139_37]
      simp (disch := omega) only [r139_0, r139_1, r139_2, r139_3, r139_4, r139_5, r139_6, r139_7, r139_9, r139_12, r139_13, r139_16, r139_18, r139_19, r139_22, r139_23, r139_24, r139_25, r139_28, r139_29, r139_32, r139_33, r139_34, r139_35, r139_39, r139_40, r139_43, r139_44, r139_46, r139_47, r139_48, r139_49, r139_52, r139_53, r139_56, r139_58, r139_60, r139_61, r139_63, r139_64, r139_65, r139_68, r139_69, r139_72, r139_73, r139_74, r139_76, r139_77, r139_78, r139_79, r139_82, r139_83, r139_86, r139_87, r139_89, r139_90, r139_93, r139_94, r139_95, r139_98, r139_99, r139_100, r139_103, r139_105, r139_108, r139_109, r139_112, r139_113, r139_114, r139_117, r139_120, r139_123, r139_126, Cn_n, Cn_v, Cn_x, dp_0, dp_1, dp_2, dp_3, dp_4, okv_n, okv_i, okv_r, eq_self, true_and, and_true, Option.some.injEq, exists_eq_left', rgT, ixT, ixU, ↓if_pos, ↓if_neg, Int.toNat_natCast, bT0, bT1]
      exact ih _ (by omega) (by omega) _ _ _ rfl rfl h6
    | succ d2 ih2 =>
      intro c v hc hv x6 h6
      have hs9 : s < 1024 := by omega
      have ih9 := ih2 (c + 1)
      simp only [anyc] at ih9
      rw [← Bool.or_assoc, ← hv] at ih9
      rw [r139_37]
      cases hb : s.testBit c
      · have k1 : s ≠ P - 1 := by
          intro h9
          rw [h9, hfb c (by omega)] at hb
          cases hb
        have h9 := pl k1
        have w9 := hW (pcn 10 s) h9 c (by omega)
        have ix9 : (10 * (pcn 10 s : Int) + (c : Int)).toNat = 10 * pcn 10 s + c := by omega
        by_cases k2 : 0 < A 50 (10 * pcn 10 s + c)
        · have g9 : s < s ||| 2 ^ c := or_gt ⟨s, hs9⟩ ⟨c, by omega⟩ hb
          have l9 := hol s c hs (by omega)
          have p9 : pcn 10 (s ||| 2 ^ c) = pcn 10 s + 1 := pcn_or ⟨s, hs9⟩ ⟨c, by omega⟩ hb
          have e9 : uq (cnf (A 50) n P (A 53) (s + 1)) s (bi v) (s ||| 2 ^ c) = bi (ext (A 50) n (n - (pcn 10 s + 1)) (s ||| 2 ^ c)) := by
            rw [uq_n (by omega)]
            unfold cnf
            rw [if_pos ⟨by omega, l9⟩, p9]
            rfl
          rw [hb, decide_eq_true k2] at ih9
          simp only [Bool.not_false, Bool.true_and] at ih9
          cases he : ext (A 50) n (n - (pcn 10 s + 1)) (s ||| 2 ^ c)
          · rw [he, bi_f] at e9
            rw [he, Bool.or_false] at ih9
            cases v
            · rw [bi_f] at e9 ⊢
              simp (disch := omega) only [r139_0, r139_1, r139_2, r139_3, r139_4, r139_5, r139_6, r139_7, r139_9, r139_12, r139_13, r139_16, r139_18, r139_19, r139_22, r139_23, r139_24, r139_25, r139_28, r139_29, r139_32, r139_33, r139_34, r139_35, r139_39, r139_40, r139_43, r139_44, r139_46, r139_47, r139_48, r139_49, r139_52, r139_53, r139_56, r139_58, r139_60, r139_61, r139_63, r139_64, r139_65, r139_68, r139_69, r139_72, r139_73, r139_74, r139_76, r139_77, r139_78, r139_79, r139_82, r139_83, r139_86, r139_87, r139_89, r139_90, r139_93, r139_94, r139_95, r139_98, r139_99, r139_100, r139_103, r139_105, r139_108, r139_109, r139_112, r139_113, r139_114, r139_117, r139_120, r139_123, r139_126, Cn_n, Cn_v, Cn_x, dp_0, dp_1, dp_2, dp_3, dp_4, okv_n, okv_i, okv_r, eq_self, true_and, and_true, Option.some.injEq, exists_eq_left', rgT, ixT, ixU, ↓if_pos, ↓if_neg, Int.toNat_natCast, bT0, bT1, g_48_0, s_48_0, g_48_1, s_48_1, g_48_2, s_48_2, g_48_3, g_48_4, g_48_5, g_48_6, g_48_7, s_48_7, g_48_8, g_48_9, g_48_10, g_48_11, g_48_12, g_48_13, a_50, b_50, d_50, a_53, b_53, d_53, h6, shr_x, hb, bi_f, e50, ix9, tab_len, tab_get, shl_x, or_x, ua_s, e9, uq_s, d_53u, uq_uq]
              exact ih9 false (by omega) rfl _ rfl
            · rw [bi_t] at e9 ⊢
              simp (disch := omega) only [r139_0, r139_1, r139_2, r139_3, r139_4, r139_5, r139_6, r139_7, r139_9, r139_12, r139_13, r139_16, r139_18, r139_19, r139_22, r139_23, r139_24, r139_25, r139_28, r139_29, r139_32, r139_33, r139_34, r139_35, r139_39, r139_40, r139_43, r139_44, r139_46, r139_47, r139_48, r139_49, r139_52, r139_53, r139_56, r139_58, r139_60, r139_61, r139_63, r139_64, r139_65, r139_68, r139_69, r139_72, r139_73, r139_74, r139_76, r139_77, r139_78, r139_79, r139_82, r139_83, r139_86, r139_87, r139_89, r139_90, r139_93, r139_94, r139_95, r139_98, r139_99, r139_100, r139_103, r139_105, r139_108, r139_109, r139_112, r139_113, r139_114, r139_117, r139_120, r139_123, r139_126, Cn_n, Cn_v, Cn_x, dp_0, dp_1, dp_2, dp_3, dp_4, okv_n, okv_i, okv_r, eq_self, true_and, and_true, Option.some.injEq, exists_eq_left', rgT, ixT, ixU, ↓if_pos, ↓if_neg, Int.toNat_natCast, bT0, bT1, g_48_0, s_48_0, g_48_1, s_48_1, g_48_2, s_48_2, g_48_3, g_48_4, g_48_5, g_48_6, g_48_7, s_48_7, g_48_8, g_48_9, g_48_10, g_48_11, g_48_12, g_48_13, a_50, b_50, d_50, a_53, b_53, d_53, h6, shr_x, hb, bi_f, e50, ix9, tab_len, tab_get, shl_x, or_x, ua_s, e9, uq_s, d_53u, uq_uq]
              exact ih9 true (by omega) rfl _ rfl
          · rw [he, bi_t] at e9
            rw [he, Bool.or_true] at ih9
            cases v
            · rw [bi_f] at e9 ⊢
              simp (disch := omega) only [r139_0, r139_1, r139_2, r139_3, r139_4, r139_5, r139_6, r139_7, r139_9, r139_12, r139_13, r139_16, r139_18, r139_19, r139_22, r139_23, r139_24, r139_25, r139_28, r139_29, r139_32, r139_33, r139_34, r139_35, r139_39, r139_40, r139_43, r139_44, r139_46, r139_47, r139_48, r139_49, r139_52, r139_53, r139_56, r139_58, r139_60, r139_61, r139_63, r139_64, r139_65, r139_68, r139_69, r139_72, r139_73, r139_74, r139_76, r139_77, r139_78, r139_79, r139_82, r139_83, r139_86, r139_87, r139_89, r139_90, r139_93, r139_94, r139_95, r139_98, r139_99, r139_100, r139_103, r139_105, r139_108, r139_109, r139_112, r139_113, r139_114, r139_117, r139_120, r139_123, r139_126, Cn_n, Cn_v, Cn_x, dp_0, dp_1, dp_2, dp_3, dp_4, okv_n, okv_i, okv_r, eq_self, true_and, and_true, Option.some.injEq, exists_eq_left', rgT, ixT, ixU, ↓if_pos, ↓if_neg, Int.toNat_natCast, bT0, bT1, g_48_0, s_48_0, g_48_1, s_48_1, g_48_2, s_48_2, g_48_3, g_48_4, g_48_5, g_48_6, g_48_7, s_48_7, g_48_8, g_48_9, g_48_10, g_48_11, g_48_12, g_48_13, a_50, b_50, d_50, a_53, b_53, d_53, h6, shr_x, hb, bi_f, e50, ix9, tab_len, tab_get, shl_x, or_x, ua_s, e9, uq_s, d_53u, uq_uq]
              exact ih9 true (by omega) rfl _ rfl
            · rw [bi_t] at e9 ⊢
              simp (disch := omega) only [r139_0, r139_1, r139_2, r139_3, r139_4, r139_5, r139_6, r139_7, r139_9, r139_12, r139_13, r139_16, r139_18, r139_19, r139_22, r139_23, r139_24, r139_25, r139_28, r139_29, r139_32, r139_33, r139_34, r139_35, r139_39, r139_40, r139_43, r139_44, r139_46, r139_47, r139_48, r139_49, r139_52, r139_53, r139_56, r139_58, r139_60, r139_61, r139_63, r139_64, r139_65, r139_68, r139_69, r139_72, r139_73, r139_74, r139_76, r139_77, r139_78, r139_79, r139_82, r139_83, r139_86, r139_87, r139_89, r139_90, r139_93, r139_94, r139_95, r139_98, r139_99, r139_100, r139_103, r139_105, r139_108, r139_109, r139_112, r139_113, r139_114, r139_117, r139_120, r139_123, r139_126, Cn_n, Cn_v, Cn_x, dp_0, dp_1, dp_2, dp_3, dp_4, okv_n, okv_i, okv_r, eq_self, true_and, and_true, Option.some.injEq, exists_eq_left', rgT, ixT, ixU, ↓if_pos, ↓if_neg, Int.toNat_natCast, bT0, bT1, g_48_0, s_48_0, g_48_1, s_48_1, g_48_2, s_48_2, g_48_3, g_48_4, g_48_5, g_48_6, g_48_7, s_48_7, g_48_8, g_48_9, g_48_10, g_48_11, g_48_12, g_48_13, a_50, b_50, d_50, a_53, b_53, d_53, h6, shr_x, hb, bi_f, e50, ix9, tab_len, tab_get, shl_x, or_x, ua_s, e9, uq_s, d_53u, uq_uq]
              exact ih9 true (by omega) rfl _ rfl
        · rw [decide_eq_false k2, Bool.false_and, Bool.and_false, Bool.or_false] at ih9
          cases v
          · rw [bi_f]
            simp (disch := omega) only [r139_0, r139_1, r139_2, r139_3, r139_4, r139_5, r139_6, r139_7, r139_9, r139_12, r139_13, r139_16, r139_18, r139_19, r139_22, r139_23, r139_24, r139_25, r139_28, r139_29, r139_32, r139_33, r139_34, r139_35, r139_39, r139_40, r139_43, r139_44, r139_46, r139_47, r139_48, r139_49, r139_52, r139_53, r139_56, r139_58, r139_60, r139_61, r139_63, r139_64, r139_65, r139_68, r139_69, r139_72, r139_73, r139_74, r139_76, r139_77, r139_78, r139_79, r139_82, r139_83, r139_86, r139_87, r139_89, r139_90, r139_93, r139_94, r139_95, r139_98, r139_99, r139_100, r139_103, r139_105, r139_108, r139_109, r139_112, r139_113, r139_114, r139_117, r139_120, r139_123, r139_126, Cn_n, Cn_v, Cn_x, dp_0, dp_1, dp_2, dp_3, dp_4, okv_n, okv_i, okv_r, eq_self, true_and, and_true, Option.some.injEq, exists_eq_left', rgT, ixT, ixU, ↓if_pos, ↓if_neg, Int.toNat_natCast, bT0, bT1, g_48_0, s_48_0, g_48_1, s_48_1, g_48_2, s_48_2, g_48_3, g_48_4, g_48_5, g_48_6, g_48_7, s_48_7, g_48_8, g_48_9, g_48_10, g_48_11, g_48_12, g_48_13, a_50, b_50, d_50, a_53, b_53, d_53, h6, shr_x, hb, bi_f, e50, ix9, tab_len, tab_get, ua_s, uq_s, d_53u, uq_uq]
            exact ih9 false (by omega) rfl _ rfl
          · rw [bi_t]
            simp (disch := omega) only [r139_0, r139_1, r139_2, r139_3, r139_4, r139_5, r139_6, r139_7, r139_9, r139_12, r139_13, r139_16, r139_18, r139_19, r139_22, r139_23, r139_24, r139_25, r139_28, r139_29, r139_32, r139_33, r139_34, r139_35, r139_39, r139_40, r139_43, r139_44, r139_46, r139_47, r139_48, r139_49, r139_52, r139_53, r139_56, r139_58, r139_60, r139_61, r139_63, r139_64, r139_65, r139_68, r139_69, r139_72, r139_73, r139_74, r139_76, r139_77, r139_78, r139_79, r139_82, r139_83, r139_86, r139_87, r139_89, r139_90, r139_93, r139_94, r139_95, r139_98, r139_99, r139_100, r139_103, r139_105, r139_108, r139_109, r139_112, r139_113, r139_114, r139_117, r139_120, r139_123, r139_126, Cn_n, Cn_v, Cn_x, dp_0, dp_1, dp_2, dp_3, dp_4, okv_n, okv_i, okv_r, eq_self, true_and, and_true, Option.some.injEq, exists_eq_left', rgT, ixT, ixU, ↓if_pos, ↓if_neg, Int.toNat_natCast, bT0, bT1, g_48_0, s_48_0, g_48_1, s_48_1, g_48_2, s_48_2, g_48_3, g_48_4, g_48_5, g_48_6, g_48_7, s_48_7, g_48_8, g_48_9, g_48_10, g_48_11, g_48_12, g_48_13, a_50, b_50, d_50, a_53, b_53, d_53, h6, shr_x, hb, bi_f, e50, ix9, tab_len, tab_get, ua_s, uq_s, d_53u, uq_uq]
            exact ih9 true (by omega) rfl _ rfl
      · rw [hb, Bool.not_true, Bool.false_and, Bool.or_false] at ih9
        cases v
        · rw [bi_f]
          simp (disch := omega) only [r139_0, r139_1, r139_2, r139_3, r139_4, r139_5, r139_6, r139_7, r139_9, r139_12, r139_13, r139_16, r139_18, r139_19, r139_22, r139_23, r139_24, r139_25, r139_28, r139_29, r139_32, r139_33, r139_34, r139_35, r139_39, r139_40, r139_43, r139_44, r139_46, r139_47, r139_48, r139_49, r139_52, r139_53, r139_56, r139_58, r139_60, r139_61, r139_63, r139_64, r139_65, r139_68, r139_69, r139_72, r139_73, r139_74, r139_76, r139_77, r139_78, r139_79, r139_82, r139_83, r139_86, r139_87, r139_89, r139_90, r139_93, r139_94, r139_95, r139_98, r139_99, r139_100, r139_103, r139_105, r139_108, r139_109, r139_112, r139_113, r139_114, r139_117, r139_120, r139_123, r139_126, Cn_n, Cn_v, Cn_x, dp_0, dp_1, dp_2, dp_3, dp_4, okv_n, okv_i, okv_r, eq_self, true_and, and_true, Option.some.injEq, exists_eq_left', rgT, ixT, ixU, ↓if_pos, ↓if_neg, Int.toNat_natCast, bT0, bT1, g_48_0, s_48_0, g_48_1, s_48_1, g_48_2, s_48_2, g_48_3, g_48_4, g_48_5, g_48_6, g_48_7, s_48_7, g_48_8, g_48_9, g_48_10, g_48_11, g_48_12, g_48_13, a_50, b_50, d_50, a_53, b_53, d_53, h6, shr_x, hb, bi_t, tab_len, tab_get, ua_s, uq_s, d_53u, uq_uq]
          exact ih9 false (by omega) rfl _ rfl
        · rw [bi_t]
          simp (disch := omega) only [r139_0, r139_1, r139_2, r139_3, r139_4, r139_5, r139_6, r139_7, r139_9, r139_12, r139_13, r139_16, r139_18, r139_19, r139_22, r139_23, r139_24, r139_25, r139_28, r139_29, r139_32, r139_33, r139_34, r139_35, r139_39, r139_40, r139_43, r139_44, r139_46, r139_47, r139_48, r139_49, r139_52, r139_53, r139_56, r139_58, r139_60, r139_61, r139_63, r139_64, r139_65, r139_68, r139_69, r139_72, r139_73, r139_74, r139_76, r139_77, r139_78, r139_79, r139_82, r139_83, r139_86, r139_87, r139_89, r139_90, r139_93, r139_94, r139_95, r139_98, r139_99, r139_100, r139_103, r139_105, r139_108, r139_109, r139_112, r139_113, r139_114, r139_117, r139_120, r139_123, r139_126, Cn_n, Cn_v, Cn_x, dp_0, dp_1, dp_2, dp_3, dp_4, okv_n, okv_i, okv_r, eq_self, true_and, and_true, Option.some.injEq, exists_eq_left', rgT, ixT, ixU, ↓if_pos, ↓if_neg, Int.toNat_natCast, bT0, bT1, g_48_0, s_48_0, g_48_1, s_48_1, g_48_2, s_48_2, g_48_3, g_48_4, g_48_5, g_48_6, g_48_7, s_48_7, g_48_8, g_48_9, g_48_10, g_48_11, g_48_12, g_48_13, a_50, b_50, d_50, a_53, b_53, d_53, h6, shr_x, hb, bi_t, tab_len, tab_get, ua_s, uq_s, d_53u, uq_uq]
          exact ih9 true (by omega) rfl _ rfl
end MAT
