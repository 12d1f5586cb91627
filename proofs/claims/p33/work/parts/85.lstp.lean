/-! the law's steps -/
theorem swp_ok {t : Nat → Int} (ht : TOK t) {a b n : Nat} (ha : a < 5) (hb : b < 5) : TOK (swp t a b n) := by
  intro k hk
  unfold swp
  split
  · split
    · exact ht _ (by omega)
    · split
      · exact ht _ (by omega)
      · exact ht k hk
  · exact ht k hk
theorem stj_ok {t : Nat → Int} (ht : TOK t) {a n : Nat} {s d : Int} : TOK (stj t a s d n) := by
  intro k hk
  unfold stj
  split
  · have h1 := Int.emod_nonneg (s + (k % 5 : Nat) * d) (show (100 : Int) ≠ 0 by decide)
    have h2 := Int.emod_lt_of_pos (s + (k % 5 : Nat) * d) (show (0 : Int) < 100 by decide)
    omega
  · exact ht k hk
theorem uq_ok {t : Nat → Int} (ht : TOK t) {i : Nat} {v : Int} (h0 : 0 ≤ v) (h1 : v ≤ 99) : TOK (uq t i v) := by
  intro k hk
  unfold uq
  split
  · exact ⟨h0, h1⟩
  · exact ht k hk
theorem modx {x : Int} {n : Nat} (h : 0 ≤ x) (hn : 1 ≤ n) : ∃ k : Nat, k < n ∧ x.tmod (n : Int) = (k : Int) := by
  have h1 := Int.emod_nonneg x (show (n : Int) ≠ 0 by omega)
  have h2 := Int.emod_lt_of_pos x (show (0 : Int) < (n : Int) by omega)
  refine ⟨(x % (n : Int)).toNat, by omega, ?_⟩
  rw [Int.tmod_eq_emod_of_nonneg h]
  omega
theorem z_tok : TOK (fun _ => 0) := fun _ _ => ⟨Int.le_refl _, (by decide : (0 : Int) ≤ 99)⟩
theorem z_row {M j : Nat} : rowS (fun _ => 0) M j = 0 := isum_zero
theorem z_col {J m : Nat} : colS (fun _ => 0) J m = 0 := isum_zero
theorem z_all {J M : Nat} : allS (fun _ => 0) J M = 0 := by
  unfold allS
  exact (isum_congr (fun _ _ => z_row)).trans isum_zero
theorem z_bnd {J M : Nat} : bnd (fun _ => 0) J M = 0 := by
  have h1 := (@bnd_ge J M (fun _ => 0)).1
  have h2 := @bnd_le J M (fun _ => 0) 0 (Int.le_refl 0) (fun k _ => Int.le_of_eq z_row) (fun k _ => Int.le_of_eq z_col)
  omega
theorem trn_at {t : Nat → Int} {j m : Nat} (hj : j < 5) (hm : m < 5) : trn t 5 0 (5 * m + j) = t (5 * j + m) := by
  unfold trn
  rw [if_neg (by omega), if_pos (Or.inl (by omega))]
  rw [show (5 * m + j) % 5 = j by omega, show (5 * m + j) / 5 = m by omega]
theorem trn_row {t : Nat → Int} {J m : Nat} (hJ5 : J ≤ 5) (hm : m < 5) : rowS (trn t 5 0) J m = colS t J m := isum_congr (fun j hj => trn_at (by omega) hm)
theorem trn_col {t : Nat → Int} {M j : Nat} (hM5 : M ≤ 5) (hj : j < 5) : colS (trn t 5 0) M j = rowS t M j := isum_congr (fun m hm => trn_at hj (by omega))
theorem trn_all {t : Nat → Int} {J M : Nat} (hJ5 : J ≤ 5) (hM5 : M ≤ 5) : allS (trn t 5 0) M J = allS t J M := (isum_congr (fun m hm => trn_row hJ5 (by omega))).trans colS_all
theorem trn_bnd {t : Nat → Int} {J M : Nat} (hJ5 : J ≤ 5) (hM5 : M ≤ 5) : bnd (trn t 5 0) M J = bnd t J M := by
  obtain ⟨g1, g2, g3⟩ := @bnd_ge J M t
  obtain ⟨k1, k2, k3⟩ := @bnd_ge M J (trn t 5 0)
  refine Int.le_antisymm (bnd_le g1 (fun m hm => ?_) (fun j hj => ?_)) (bnd_le k1 (fun j hj => ?_) (fun m hm => ?_))
  · rw [trn_row hJ5 (by omega)]; exact g3 m hm
  · rw [trn_col hM5 (by omega)]; exact g2 j hj
  · rw [← trn_col (t := t) hM5 (show j < 5 by omega)]; exact k3 j hj
  · rw [← trn_row (t := t) hJ5 (show m < 5 by omega)]; exact k2 m hm
theorem swp_row {t : Nat → Int} {M a b i : Nat} (hM5 : M ≤ 5) : rowS (swp t a b M) M i = rowS t M (if i = a then b else if i = b then a else i) := isum_congr (fun m hm => by
  show swp t a b M (5 * i + m) = t (5 * (if i = a then b else if i = b then a else i) + m)
  unfold swp
  rw [show (5 * i + m) % 5 = m by omega, show (5 * i + m) / 5 = i by omega, if_pos hm]
  by_cases h1 : i = a
  · rw [if_pos h1, if_pos h1]
  · rw [if_neg h1, if_neg h1]
    by_cases h2 : i = b
    · rw [if_pos h2, if_pos h2]
    · rw [if_neg h2, if_neg h2])
theorem isum_swp {f : Nat → Int} {n a b : Nat} (ha : a < n) (hb : b < n) : isum (fun i => f (if i = a then b else if i = b then a else i)) n = isum f n := by
  by_cases hab : a = b
  · refine isum_congr (fun i _ => ?_)
    by_cases h1 : i = a
    · rw [if_pos h1, h1, hab]
    · rw [if_neg h1, if_neg (by omega)]
  · have e1 : isum (fun i => f (if i = a then b else if i = b then a else i)) n = isum (fun i => (f i + (if a = i then f b - f a else 0)) + (if b = i then f a - f b else 0)) n := by
      refine isum_congr (fun i _ => ?_)
      by_cases h1 : i = a
      · subst h1
        rw [if_pos (show i = i from rfl), if_pos (show i = i from rfl), if_neg (show ¬ b = i by omega)]
        omega
      · by_cases h2 : i = b
        · subst h2
          rw [if_neg h1, if_pos (show i = i from rfl), if_neg (show ¬ a = i by omega), if_pos (show i = i from rfl)]
          omega
        · rw [if_neg h1, if_neg h2, if_neg (show ¬ a = i by omega), if_neg (show ¬ b = i by omega)]
          omega
    have e2 := isum_at (n := n) (k := a) (x := f b - f a)
    have e3 := isum_at (n := n) (k := b) (x := f a - f b)
    rw [if_pos ha] at e2
    rw [if_pos hb] at e3
    rw [e1, isum_add, isum_add, e2, e3]
    omega
theorem swp_all {t : Nat → Int} {J M a b : Nat} (hM5 : M ≤ 5) (ha : a < J) (hb : b < J) : allS (swp t a b M) J M = allS t J M := (isum_congr (fun i _ => swp_row hM5)).trans (isum_swp (f := fun i => rowS t M i) ha hb)
theorem uq_row {t : Nat → Int} {M j m i : Nat} {v : Int} (hM5 : M ≤ 5) (hm : m < M) : rowS (uq t (5 * j + m) v) M i = rowS t M i + (if j = i then v - t (5 * j + m) else 0) := by
  unfold rowS
  by_cases h : j = i
  · subst h
    have e1 : isum (fun k => uq t (5 * j + m) v (5 * j + k)) M = isum (fun k => t (5 * j + k) + (if m = k then v - t (5 * j + m) else 0)) M := isum_congr (fun k _ => by
      by_cases hk : m = k
      · subst hk
        rw [uq_s, if_pos (show m = m from rfl)]
        omega
      · rw [uq_n (by omega), if_neg hk]
        omega)
    have e2 := isum_at (n := M) (k := m) (x := v - t (5 * j + m))
    rw [if_pos hm] at e2
    rw [e1, isum_add, e2, if_pos (show j = j from rfl)]
  · rw [if_neg h, Int.add_zero]
    exact isum_congr (fun k hk => uq_n (by omega))
theorem uq_all {t : Nat → Int} {J M j m : Nat} {v : Int} (hM5 : M ≤ 5) (hj : j < J) (hm : m < M) : allS (uq t (5 * j + m) v) J M = allS t J M - t (5 * j + m) + v := by
  unfold allS
  have e1 : isum (fun i => rowS (uq t (5 * j + m) v) M i) J = isum (fun i => rowS t M i + (if j = i then v - t (5 * j + m) else 0)) J := isum_congr (fun i _ => uq_row hM5 hm)
  have e2 := isum_at (n := J) (k := j) (x := v - t (5 * j + m))
  rw [if_pos hj] at e2
  have e3 : isum (fun i => rowS t M i + (if j = i then v - t (5 * j + m) else 0)) J = isum (fun i => rowS t M i) J + isum (fun i => if j = i then v - t (5 * j + m) else 0) J := isum_add
  rw [e1, e3, e2]
  omega
theorem stj_0m {t : Nat → Int} {a n : Nat} {s d : Int} (hn : 0 < n) (h0 : 0 ≤ s) (h1 : s ≤ 99) : stj t a s d n (5 * a + 0) = s := by
  unfold stj
  rw [if_pos (by omega), show (5 * a + 0) % 5 = 0 by omega]
  rw [show ((0 : Nat) : Int) * d = 0 by rw [Int.natCast_zero, Int.zero_mul]]
  omega
theorem l03 : ((0 : Int) < 3) = True := eq_true (by decide)
theorem l04 : ((0 : Int) < 4) = True := eq_true (by decide)
theorem l05 : ((0 : Int) < 5) = True := eq_true (by decide)
theorem l07 : ((0 : Int) < 7) = True := eq_true (by decide)
theorem l08 : ((0 : Int) < 8) = True := eq_true (by decide)
theorem l12 : ((0 : Int) < 12) = True := eq_true (by decide)
theorem l99 : ((0 : Int) < 100) = True := eq_true (by decide)
section LSTP
variable {A : Nat → Nat → Int} {F : Nat → Int} {q : List Int × Nat} {Q : AR → Prop} {J M j m : Nat} {w a b x y v : Int}
theorem st_0b (h : PRE A F J M) (hM1 : 1 ≤ M) (ha : 0 ≤ a ∧ a ≤ 2147483647) (hb : 0 ≤ b ∧ b ≤ 2147483647) (hj : j < J) (hm : m < M) (hQ : ∀ A1 F1 J1 M1, PRE A1 F1 J1 M1 → 1 ≤ M1 → Q (.inl (some (.inl 1)), mk A1 F1 q)) (hx1 : 1 ≤ x) (hx5 : x ≤ 5) (hy1 : 1 ≤ y) (hy5 : y ≤ 5) : Wp 112 97 [some (vR 0), some (.inl w), some (.inl a), some (.inl b), some (.inl (J : Int)), some (.inl (M : Int)), some (.inl (j : Int)), some (.inl (m : Int)), some (.inl (allS (A 3) J M)), none, none, none, none, none, none, none] [.inl y, .inl x, vR 0] (mk A F q) Q := by
  have h9 := h
  obtain ⟨hr, hJ, hM, hJ5, hM5, hJ1, ht⟩ := h
  have bA := allS_bd ht hJ5 hM5
  have bB := bnd_bd ht hJ5 hM5
  have hJ2 : uf (uf (uf F 17 x) 18 y) 72 0 17 = ((x.toNat : Nat) : Int) := by
    rw [uf_n (by decide), uf_n (by decide), uf_s]
    omega
  have hM2 : uf (uf (uf F 17 x) 18 y) 72 0 18 = ((y.toNat : Nat) : Int) := by
    rw [uf_n (by decide), uf_s]
    omega
  have htz : TOK (ua A 3 (fun _ => 0) 3) := by
    rw [ua_s]
    exact z_tok
  have hq := hQ (ua A 3 (fun _ => 0)) (uf (uf (uf F 17 x) 18 y) 72 0) x.toNat y.toNat ⟨Or.inl uf_s, hJ2, hM2, by omega, by omega, by omega, htz⟩ (by omega)
  simp (disch := omega) only [r112_97, r112_100, r112_102, r112_105, r112_106, r112_109, r112_112, r112_113, r112_116, r112_119, r112_120, r112_123, r112_124, Cn_n, Cn_v, Cn_x, dp_0, dp_1, dp_2, dp_3, dp_4, okv_n, okv_i, okv_r, eq_self, true_and, and_true, Option.some.injEq, exists_eq_left', rgT, ixT, ixU, ↓if_pos, ↓if_neg, Int.toNat_natCast, bT0, bT1, o_setSize hJ hM hJ5 hM5, o_total hJ2 hM2 (show x.toNat ≤ 5 by omega) (show y.toNat ≤ 5 by omega), o_bound hJ2 hM2 (show x.toNat ≤ 5 by omega) (show y.toNat ≤ 5 by omega) htz, ua_s, z_all, z_bnd]
  exact hq
theorem st_0 (h : PRE A F J M) (hM1 : 1 ≤ M) (ha : 0 ≤ a ∧ a ≤ 2147483647) (hb : 0 ≤ b ∧ b ≤ 2147483647) (hj : j < J) (hm : m < M) (hQ : ∀ A1 F1 J1 M1, PRE A1 F1 J1 M1 → 1 ≤ M1 → Q (.inl (some (.inl 1)), mk A1 F1 q)) : Wp 112 68 [some (vR 0), some (.inl w), some (.inl a), some (.inl b), some (.inl (J : Int)), some (.inl (M : Int)), some (.inl (j : Int)), some (.inl (m : Int)), some (.inl (allS (A 3) J M)), none, none, none, none, none, none, none] [] (mk A F q) Q := by
  have h9 := h
  obtain ⟨hr, hJ, hM, hJ5, hM5, hJ1, ht⟩ := h
  have bA := allS_bd ht hJ5 hM5
  have bB := bnd_bd ht hJ5 hM5
  have e3 : b.tmod 3 = b % 3 := Int.tmod_eq_emod_of_nonneg hb.1
  have e2 : b.tmod 2 = b % 2 := Int.tmod_eq_emod_of_nonneg hb.1
  have e5 : a.tmod 5 = a % 5 := Int.tmod_eq_emod_of_nonneg ha.1
  have d5 : a.tdiv 5 = a / 5 := Int.tdiv_eq_ediv_of_nonneg ha.1
  have f5 : (a / 5).tmod 5 = a / 5 % 5 := Int.tmod_eq_emod_of_nonneg (by omega)
  by_cases c1 : 0 < b % 3
  · simp (disch := omega) only [r112_68, r112_69, r112_70, r112_71, r112_119, r112_120, r112_123, r112_124, Cn_n, Cn_v, Cn_x, dp_0, dp_1, dp_2, dp_3, dp_4, okv_n, okv_i, okv_r, eq_self, true_and, and_true, Option.some.injEq, exists_eq_left', rgT, ixT, ixU, ↓if_pos, ↓if_neg, Int.toNat_natCast, bT0, bT1, l03, e3]
    exact hQ A F J M h9 hM1
  · by_cases c2 : b % 2 = 0
    · simp (disch := omega) only [r112_68, r112_69, r112_70, r112_71, r112_74, r112_75, r112_76, r112_77, r112_78, r112_79, r112_80, r112_81, r112_82, r112_83, r112_86, r112_87, r112_90, r112_91, r112_92, r112_93, r112_94, r112_95, r112_96, Cn_n, Cn_v, Cn_x, dp_0, dp_1, dp_2, dp_3, dp_4, okv_n, okv_i, okv_r, eq_self, true_and, and_true, Option.some.injEq, exists_eq_left', rgT, ixT, ixU, ↓if_pos, ↓if_neg, Int.toNat_natCast, bT0, bT1, l03, l02, l05, e3, e2, e5]
      exact st_0b h9 hM1 ha hb hj hm hQ (by omega) (by omega) (by omega) (by omega)
    · simp (disch := omega) only [r112_68, r112_69, r112_70, r112_71, r112_74, r112_75, r112_76, r112_77, r112_78, r112_79, r112_80, r112_81, r112_82, r112_83, r112_86, r112_87, r112_90, r112_91, r112_92, r112_93, r112_94, r112_95, r112_96, Cn_n, Cn_v, Cn_x, dp_0, dp_1, dp_2, dp_3, dp_4, okv_n, okv_i, okv_r, eq_self, true_and, and_true, Option.some.injEq, exists_eq_left', rgT, ixT, ixU, ↓if_pos, ↓if_neg, Int.toNat_natCast, bT0, bT1, l03, l02, l05, e3, e2, e5, d5, f5]
      exact st_0b h9 hM1 ha hb hj hm hQ (by omega) (by omega) (by omega) (by omega)
theorem st_1 (h : PRE A F J M) (hM1 : 1 ≤ M) (ha : 0 ≤ a ∧ a ≤ 2147483647) (hb : 0 ≤ b ∧ b ≤ 2147483647) (hj : j < J) (hm : m < M) (hQ : ∀ A1 F1 J1 M1, PRE A1 F1 J1 M1 → 1 ≤ M1 → Q (.inl (some (.inl 1)), mk A1 F1 q)) : Wp 112 125 [some (vR 0), some (.inl w), some (.inl a), some (.inl b), some (.inl (J : Int)), some (.inl (M : Int)), some (.inl (j : Int)), some (.inl (m : Int)), some (.inl (allS (A 3) J M)), none, none, none, none, none, none, none] [] (mk A F q) Q := by
  have h9 := h
  obtain ⟨hr, hJ, hM, hJ5, hM5, hJ1, ht⟩ := h
  have bA := allS_bd ht hJ5 hM5
  have bB := bnd_bd ht hJ5 hM5
  have bt := ht (5 * j + m) (by omega)
  have hJ2 : uf (uf (uf F 17 (M : Int)) 18 (J : Int)) 72 0 17 = (M : Int) := by rw [uf_n (by decide), uf_n (by decide), uf_s]
  have hM2 : uf (uf (uf F 17 (M : Int)) 18 (J : Int)) 72 0 18 = (J : Int) := by rw [uf_n (by decide), uf_s]
  have htz : TOK (ua A 3 (trn (A 3) 5 0) 3) := by
    rw [ua_s]
    exact trn_ok ht
  have eb : bnd (trn (A 3) 5 0) M J = bnd (A 3) J M := trn_bnd hJ5 hM5
  have ea : allS (trn (A 3) 5 0) M J = allS (A 3) J M := trn_all hJ5 hM5
  have et : trn (A 3) 5 0 (5 * m + j) = A 3 (5 * j + m) := trn_at (by omega) (by omega)
  have hq := hQ (ua A 3 (trn (A 3) 5 0)) (uf (uf (uf F 17 (M : Int)) 18 (J : Int)) 72 0) M J ⟨Or.inl uf_s, hJ2, hM2, hM5, hJ5, hM1, htz⟩ hJ1
  simp (disch := omega) only [r112_125, r112_126, r112_129, r112_131, r112_132, r112_134, r112_136, r112_139, r112_141, r112_142, r112_145, r112_147, r112_150, r112_151, r112_154, r112_156, r112_159, r112_160, r112_163, r112_165, r112_168, r112_169, r112_171, r112_173, r112_176, r112_178, r112_181, r112_182, r112_185, r112_187, r112_190, r112_191, r112_194, r112_195, Cn_n, Cn_v, Cn_x, dp_0, dp_1, dp_2, dp_3, dp_4, okv_n, okv_i, okv_r, eq_self, true_and, and_true, Option.some.injEq, exists_eq_left', rgT, ixT, ixU, ↓if_pos, ↓if_neg, Int.toNat_natCast, bT0, bT1, o_bound hJ hM hJ5 hM5 ht, o_time hJ hM hJ5 hM5, o_turn hJ hM hJ5 hM5 ht, hJ, hM, eb, o_jobs, o_machines, hJ2, hM2, o_time hJ2 hM2 hM5 hJ5, o_total hJ2 hM2 hM5 hJ5, ua_s, et, ea]
  exact hq
theorem st_2 (h : PRE A F J M) (hM1 : 1 ≤ M) (ha : 0 ≤ a ∧ a ≤ 2147483647) (hb : 0 ≤ b ∧ b ≤ 2147483647) (hj : j < J) (hm : m < M) (hQ : ∀ A1 F1 J1 M1, PRE A1 F1 J1 M1 → 1 ≤ M1 → Q (.inl (some (.inl 1)), mk A1 F1 q)) : Wp 112 196 [some (vR 0), some (.inl w), some (.inl a), some (.inl b), some (.inl (J : Int)), some (.inl (M : Int)), some (.inl (j : Int)), some (.inl (m : Int)), some (.inl (allS (A 3) J M)), none, none, none, none, none, none, none] [] (mk A F q) Q := by
  have h9 := h
  obtain ⟨hr, hJ, hM, hJ5, hM5, hJ1, ht⟩ := h
  have bA := allS_bd ht hJ5 hM5
  have bB := bnd_bd ht hJ5 hM5
  obtain ⟨o, ho, eo⟩ := modx (n := J) hb.1 hJ1
  have hJp := eq_true (show (0 : Int) < (J : Int) by omega)
  have b1 := rowS_bd ht hM5 (show o < 5 by omega)
  have hJ2 : uf F 72 0 17 = (J : Int) := by rw [uf_n (by decide)]; exact hJ
  have hM2 : uf F 72 0 18 = (M : Int) := by rw [uf_n (by decide)]; exact hM
  have htz : TOK (ua A 3 (swp (A 3) j o M) 3) := by
    rw [ua_s]
    exact swp_ok ht (by omega) (by omega)
  have er : rowS (swp (A 3) j o M) M j = rowS (A 3) M o := by rw [swp_row hM5, if_pos rfl]
  have ea : allS (swp (A 3) j o M) J M = allS (A 3) J M := swp_all hM5 hj ho
  have hq := hQ (ua A 3 (swp (A 3) j o M)) (uf F 72 0) J M ⟨Or.inl uf_s, hJ2, hM2, hJ5, hM5, hJ1, htz⟩ hM1
  simp (disch := omega) only [r112_196, r112_197, r112_199, r112_200, r112_202, r112_203, r112_205, r112_208, r112_210, r112_211, r112_213, r112_215, r112_218, r112_220, r112_223, r112_224, r112_226, r112_229, r112_231, r112_234, r112_235, r112_238, r112_240, r112_243, r112_244, r112_247, r112_248, Cn_n, Cn_v, Cn_x, dp_0, dp_1, dp_2, dp_3, dp_4, okv_n, okv_i, okv_r, eq_self, true_and, and_true, Option.some.injEq, exists_eq_left', rgT, ixT, ixU, ↓if_pos, ↓if_neg, Int.toNat_natCast, bT0, bT1, hJp, eo, o_jobTotal hJ hM hJ5 hM5, o_swap hJ hM hJ5 hM5, er, o_jobTotal hJ2 hM2 hJ5 hM5, o_total hJ2 hM2 hJ5 hM5, ua_s, ea]
  exact hq
theorem st_3 (h : PRE A F J M) (hM1 : 1 ≤ M) (ha : 0 ≤ a ∧ a ≤ 2147483647) (hb : 0 ≤ b ∧ b ≤ 2147483647) (hj : j < J) (hm : m < M) (hQ : ∀ A1 F1 J1 M1, PRE A1 F1 J1 M1 → 1 ≤ M1 → Q (.inl (some (.inl 1)), mk A1 F1 q)) : Wp 112 249 [some (vR 0), some (.inl w), some (.inl a), some (.inl b), some (.inl (J : Int)), some (.inl (M : Int)), some (.inl (j : Int)), some (.inl (m : Int)), some (.inl (allS (A 3) J M)), none, none, none, none, none, none, none] [] (mk A F q) Q := by
  have h9 := h
  obtain ⟨hr, hJ, hM, hJ5, hM5, hJ1, ht⟩ := h
  have bA := allS_bd ht hJ5 hM5
  have bB := bnd_bd ht hJ5 hM5
  have e1 : b.tmod 100 = b % 100 := Int.tmod_eq_emod_of_nonneg hb.1
  have e2 : b.tmod 2 = b % 2 := Int.tmod_eq_emod_of_nonneg hb.1
  have d1 : b.tdiv 100 = b / 100 := Int.tdiv_eq_ediv_of_nonneg hb.1
  have f1 : (b / 100).tmod 100 = b / 100 % 100 := Int.tmod_eq_emod_of_nonneg (by omega)
  have f2 : (b / 100).tmod 8 = b / 100 % 8 := Int.tmod_eq_emod_of_nonneg (by omega)
  have hJ2 : uf F 72 0 17 = (J : Int) := by rw [uf_n (by decide)]; exact hJ
  have hM2 : uf F 72 0 18 = (M : Int) := by rw [uf_n (by decide)]; exact hM
  have go : ∀ d : Int, 0 ≤ d → d ≤ 99 → Wp 112 274 [some (vR 0), some (.inl w), some (.inl a), some (.inl b), some (.inl (J : Int)), some (.inl (M : Int)), some (.inl (j : Int)), some (.inl (m : Int)), some (.inl (allS (A 3) J M)), none, none, none, none, none, none, none] [.inl d, .inl (b % 100), .inl (j : Int), vR 0] (mk A F q) Q := by
    intro d hd0 hd1
    have hts : TOK (stj (A 3) j (b % 100) d M) := stj_ok ht
    have htz : TOK (ua A 3 (stj (A 3) j (b % 100) d M) 3) := by
      rw [ua_s]
      exact hts
    have br := rowS_bd hts hM5 (show j < 5 by omega)
    have e0 : stj (A 3) j (b % 100) d M (5 * j + 0) = b % 100 := stj_0m (by omega) (by omega) (by omega)
    have hq := hQ (ua A 3 (stj (A 3) j (b % 100) d M)) (uf F 72 0) J M ⟨Or.inl uf_s, hJ2, hM2, hJ5, hM5, hJ1, htz⟩ hM1
    simp (disch := omega) only [r112_274, r112_277, r112_279, r112_280, r112_282, r112_285, r112_287, r112_290, r112_291, r112_293, r112_294, r112_297, r112_298, r112_300, r112_301, r112_304, r112_305, r112_308, r112_309, Cn_n, Cn_v, Cn_x, dp_0, dp_1, dp_2, dp_3, dp_4, okv_n, okv_i, okv_r, eq_self, true_and, and_true, Option.some.injEq, exists_eq_left', rgT, ixT, ixU, ↓if_pos, ↓if_neg, Int.toNat_natCast, bT0, bT1, o_setJob hJ hM hJ5 hM5, o_jobTotal hJ2 hM2 hJ5 hM5, o_time hJ2 hM2 hJ5 hM5, ua_s, tn0, e0, l99, e1]
    exact hq
  by_cases c2 : b % 2 = 0
  · simp (disch := omega) only [r112_249, r112_250, r112_252, r112_253, r112_255, r112_256, r112_257, r112_259, r112_260, r112_261, r112_262, r112_263, r112_266, r112_268, r112_271, r112_273, Cn_n, Cn_v, Cn_x, dp_0, dp_1, dp_2, dp_3, dp_4, okv_n, okv_i, okv_r, eq_self, true_and, and_true, Option.some.injEq, exists_eq_left', rgT, ixT, ixU, ↓if_pos, ↓if_neg, Int.toNat_natCast, bT0, bT1, l02, l99, l08, e1, e2, d1, f1]
    exact go _ (by omega) (by omega)
  · simp (disch := omega) only [r112_249, r112_250, r112_252, r112_253, r112_255, r112_256, r112_257, r112_259, r112_260, r112_261, r112_262, r112_263, r112_266, r112_268, r112_271, r112_273, Cn_n, Cn_v, Cn_x, dp_0, dp_1, dp_2, dp_3, dp_4, okv_n, okv_i, okv_r, eq_self, true_and, and_true, Option.some.injEq, exists_eq_left', rgT, ixT, ixU, ↓if_pos, ↓if_neg, Int.toNat_natCast, bT0, bT1, l02, l99, l08, e1, e2, d1, f2]
    exact go _ (by omega) (by omega)
theorem st_4 (h : PRE A F J M) (hM1 : 1 ≤ M) (ha : 0 ≤ a ∧ a ≤ 2147483647) (hb : 0 ≤ b ∧ b ≤ 2147483647) (hj : j < J) (hm : m < M) (hQ : ∀ A1 F1 J1 M1, PRE A1 F1 J1 M1 → 1 ≤ M1 → Q (.inl (some (.inl 1)), mk A1 F1 q)) : Wp 112 310 [some (vR 0), some (.inl w), some (.inl a), some (.inl b), some (.inl (J : Int)), some (.inl (M : Int)), some (.inl (j : Int)), some (.inl (m : Int)), some (.inl (allS (A 3) J M)), none, none, none, none, none, none, none] [] (mk A F q) Q := by
  have h9 := h
  obtain ⟨hr, hJ, hM, hJ5, hM5, hJ1, ht⟩ := h
  have bA := allS_bd ht hJ5 hM5
  have bB := bnd_bd ht hJ5 hM5
  have e4 : b.tmod 4 = b % 4 := Int.tmod_eq_emod_of_nonneg hb.1
  have e5 : b.tmod 5 = b % 5 := Int.tmod_eq_emod_of_nonneg hb.1
  have e6 : b.tmod 100 = b % 100 := Int.tmod_eq_emod_of_nonneg hb.1
  have e7 : b.tmod 12 = b % 12 := Int.tmod_eq_emod_of_nonneg hb.1
  have bt := ht (5 * j + m) (by omega)
  have hJ2 : uf F 72 0 17 = (J : Int) := by rw [uf_n (by decide)]; exact hJ
  have hM2 : uf F 72 0 18 = (M : Int) := by rw [uf_n (by decide)]; exact hM
  have go : ∀ v : Int, 0 ≤ v → v ≤ 99 → Wp 112 345 [some (vR 0), some (.inl w), some (.inl a), some (.inl b), some (.inl (J : Int)), some (.inl (M : Int)), some (.inl (j : Int)), some (.inl (m : Int)), some (.inl (allS (A 3) J M)), none, none, none, none, none, some (.inl (A 3 (5 * j + m))), none] [.inl v] (mk A F q) Q := by
    intro v hv0 hv1
    have htz : TOK (u2 A 3 (5 * j + m) v 3) := by
      rw [u2_s]
      exact uq_ok ht hv0 hv1
    have ea : allS (uq (A 3) (5 * j + m) v) J M = allS (A 3) J M - A 3 (5 * j + m) + v := uq_all hM5 hj hm
    have hq := hQ (u2 A 3 (5 * j + m) v) (uf F 72 0) J M ⟨Or.inl uf_s, hJ2, hM2, hJ5, hM5, hJ1, htz⟩ hM1
    have bA2 := allS_bd (uq_ok ht (i := 5 * j + m) hv0 hv1) hJ5 hM5
    rw [ea] at bA2
    simp (disch := omega) only [r112_345, r112_347, r112_348, r112_350, r112_352, r112_354, r112_357, r112_359, r112_362, r112_363, r112_365, r112_367, r112_370, r112_372, r112_375, r112_376, r112_379, r112_381, r112_383, r112_384, r112_386, r112_387, r112_390, r112_391, r112_394, r112_395, Cn_n, Cn_v, Cn_x, dp_0, dp_1, dp_2, dp_3, dp_4, okv_n, okv_i, okv_r, eq_self, true_and, and_true, Option.some.injEq, exists_eq_left', rgT, ixT, ixU, ↓if_pos, ↓if_neg, Int.toNat_natCast, bT0, bT1, o_set hJ hM hJ5 hM5, o_time hJ2 hM2 hJ5 hM5, o_total hJ2 hM2 hJ5 hM5, u2_s, uq_s, ea]
    exact hq
  by_cases c4 : b % 4 = 0
  · simp (disch := omega) only [r112_310, r112_311, r112_313, r112_315, r112_318, r112_320, r112_321, r112_322, r112_323, r112_326, r112_327, r112_330, r112_331, r112_332, r112_333, r112_334, r112_337, r112_339, r112_342, r112_344, Cn_n, Cn_v, Cn_x, dp_0, dp_1, dp_2, dp_3, dp_4, okv_n, okv_i, okv_r, eq_self, true_and, and_true, Option.some.injEq, exists_eq_left', rgT, ixT, ixU, ↓if_pos, ↓if_neg, Int.toNat_natCast, bT0, bT1, o_time hJ hM hJ5 hM5, l04, e4]
    exact go 0 (by omega) (by omega)
  · by_cases c5 : b % 5 = 0
    · simp (disch := omega) only [r112_310, r112_311, r112_313, r112_315, r112_318, r112_320, r112_321, r112_322, r112_323, r112_326, r112_327, r112_330, r112_331, r112_332, r112_333, r112_334, r112_337, r112_339, r112_342, r112_344, Cn_n, Cn_v, Cn_x, dp_0, dp_1, dp_2, dp_3, dp_4, okv_n, okv_i, okv_r, eq_self, true_and, and_true, Option.some.injEq, exists_eq_left', rgT, ixT, ixU, ↓if_pos, ↓if_neg, Int.toNat_natCast, bT0, bT1, o_time hJ hM hJ5 hM5, l04, l05, l99, e4, e5, e6]
      exact go _ (by omega) (by omega)
    · simp (disch := omega) only [r112_310, r112_311, r112_313, r112_315, r112_318, r112_320, r112_321, r112_322, r112_323, r112_326, r112_327, r112_330, r112_331, r112_332, r112_333, r112_334, r112_337, r112_339, r112_342, r112_344, Cn_n, Cn_v, Cn_x, dp_0, dp_1, dp_2, dp_3, dp_4, okv_n, okv_i, okv_r, eq_self, true_and, and_true, Option.some.injEq, exists_eq_left', rgT, ixT, ixU, ↓if_pos, ↓if_neg, Int.toNat_natCast, bT0, bT1, o_time hJ hM hJ5 hM5, l04, l05, l12, e4, e5, e7]
      exact go _ (by omega) (by omega)
theorem sws_0 : (if (0 : Int) ≤ 0 ∧ (0 : Int) < swt.length then swt.getD (Int.toNat 0) 0 else 310) = 68 := by decide +kernel
theorem sws_1 : (if (0 : Int) ≤ 1 ∧ (1 : Int) < swt.length then swt.getD (Int.toNat 1) 0 else 310) = 125 := by decide +kernel
theorem sws_2 : (if (0 : Int) ≤ 2 ∧ (2 : Int) < swt.length then swt.getD (Int.toNat 2) 0 else 310) = 196 := by decide +kernel
theorem sws_3 : (if (0 : Int) ≤ 3 ∧ (3 : Int) < swt.length then swt.getD (Int.toNat 3) 0 else 310) = 249 := by decide +kernel
theorem sws_4 : (if (0 : Int) ≤ 4 ∧ (4 : Int) < swt.length then swt.getD (Int.toNat 4) 0 else 310) = 310 := by decide +kernel
theorem sws_5 : (if (0 : Int) ≤ 5 ∧ (5 : Int) < swt.length then swt.getD (Int.toNat 5) 0 else 310) = 310 := by decide +kernel
theorem sws_6 : (if (0 : Int) ≤ 6 ∧ (6 : Int) < swt.length then swt.getD (Int.toNat 6) 0 else 310) = 310 := by decide +kernel
theorem sws_7 : (if (0 : Int) ≤ 7 ∧ (7 : Int) < swt.length then swt.getD (Int.toNat 7) 0 else 310) = 310 := by decide +kernel
theorem l_step (h : PRE A F J M) (hM1 : 1 ≤ M) (hw : 0 ≤ w ∧ w ≤ 2147483647) (ha : 0 ≤ a ∧ a ≤ 2147483647) (hb : 0 ≤ b ∧ b ≤ 2147483647) (hQ : ∀ A1 F1 J1 M1, PRE A1 F1 J1 M1 → 1 ≤ M1 → Q (.inl (some (.inl 1)), mk A1 F1 q)) : Ew 112 [vR 0, .inl w, .inl a, .inl b] (mk A F q) Q := by
  have h9 := h
  obtain ⟨hr, hJ, hM, hJ5, hM5, hJ1, ht⟩ := h
  have bA := allS_bd ht hJ5 hM5
  have bB := bnd_bd ht hJ5 hM5
  have d5 : a.tdiv 5 = a / 5 := Int.tdiv_eq_ediv_of_nonneg ha.1
  obtain ⟨j, hj, ej⟩ := modx (n := J) ha.1 hJ1
  obtain ⟨m, hm, em⟩ := modx (x := a / 5) (n := M) (by omega) hM1
  have hJp := eq_true (show (0 : Int) < (J : Int) by omega)
  have hMp := eq_true (show (0 : Int) < (M : Int) by omega)
  have ew : 0 ≤ w.tmod 8 ∧ w.tmod 8 < 8 := by
    rw [Int.tmod_eq_emod_of_nonneg hw.1]
    omega
  refine ⟨rc_112 rfl rfl rfl rfl, ?_⟩
  rw [lc_112]
  simp (disch := omega) only [r112_0, r112_1, r112_4, r112_6, r112_7, r112_10, r112_12, r112_13, r112_15, r112_16, r112_18, r112_19, r112_20, r112_21, r112_23, r112_24, r112_26, r112_27, r112_30, r112_32, r112_33, r112_35, Cn_n, Cn_v, Cn_x, dp_0, dp_1, dp_2, dp_3, dp_4, okv_n, okv_i, okv_r, eq_self, true_and, and_true, Option.some.injEq, exists_eq_left', rgT, ixT, ixU, ↓if_pos, ↓if_neg, Int.toNat_natCast, bT0, bT1, o_jobs, o_machines, hJ, hM, hJp, hMp, l05, l08, ej, d5, em, o_total hJ hM hJ5 hM5]
  generalize w.tmod 8 = x at ew ⊢
  refine r112_36.mpr ⟨⟨by omega, by omega⟩, ?_⟩
  have hc : x = 0 ∨ x = 1 ∨ x = 2 ∨ x = 3 ∨ x = 4 ∨ x = 5 ∨ x = 6 ∨ x = 7 := by omega
  rcases hc with rfl | rfl | rfl | rfl | rfl | rfl | rfl | rfl
  · rw [sws_0]
    exact st_0 h9 hM1 ha hb hj hm hQ
  · rw [sws_1]
    exact st_1 h9 hM1 ha hb hj hm hQ
  · rw [sws_2]
    exact st_2 h9 hM1 ha hb hj hm hQ
  · rw [sws_3]
    exact st_3 h9 hM1 ha hb hj hm hQ
  · rw [sws_4]
    exact st_4 h9 hM1 ha hb hj hm hQ
  · rw [sws_5]
    exact st_4 h9 hM1 ha hb hj hm hQ
  · rw [sws_6]
    exact st_4 h9 hM1 ha hb hj hm hQ
  · rw [sws_7]
    exact st_4 h9 hM1 ha hb hj hm hQ
end LSTP
