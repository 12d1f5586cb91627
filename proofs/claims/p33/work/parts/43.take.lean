/-! what a slice takes off; its record -/
def imn (f : Nat → Int) (a : Int) : Nat → Int
  | 0 => a
  | n + 1 => if f n < imn f a n then f n else imn f a n
theorem imn_le {f : Nat → Int} {a : Int} : ∀ {n : Nat}, imn f a n ≤ a ∧ ∀ i, i < n → imn f a n ≤ f i
  | 0 => ⟨Int.le_refl _, fun i hi => absurd hi (Nat.not_lt_zero i)⟩
  | n + 1 => by
    obtain ⟨h1, h2⟩ := imn_le (f := f) (a := a) (n := n)
    simp only [imn]
    refine ⟨by split <;> omega, fun i hi => ?_⟩
    by_cases hin : i = n
    · subst hin; split <;> omega
    · have := h2 i (by omega)
      split <;> omega
theorem imn_is {f : Nat → Int} {a : Int} : ∀ {n : Nat}, imn f a n = a ∨ ∃ i, i < n ∧ imn f a n = f i
  | 0 => Or.inl rfl
  | n + 1 => by
    simp only [imn]
    split
    · exact Or.inr ⟨n, by omega, rfl⟩
    · rcases imn_is (f := f) (a := a) (n := n) with h | ⟨i, hi, h⟩
      · exact Or.inl h
      · exact Or.inr ⟨i, by omega, h⟩
theorem imn_1 {f : Nat → Int} : imn f (f 0) 1 = f 0 := by
  show (if f 0 < f 0 then f 0 else f 0) = f 0
  exact if_neg (Int.lt_irrefl _)
/-- what is left as far as a row -/
def tko (W : Nat → Int) (sg : Nat → Nat) (l : Int) (k : Nat) : Nat → Int := fun x => if x / 10 < k ∧ x % 10 = sg (x / 10) then W x - l else W x
theorem tko_0 {W : Nat → Int} {sg : Nat → Nat} {l : Int} : tko W sg l 0 = W := by
  funext x
  simp [tko]
theorem tko_s {W : Nat → Int} {sg : Nat → Nat} {l : Int} {k : Nat} (hs : sg k < 10) : uq (tko W sg l k) (10 * k + sg k) (tko W sg l k (10 * k + sg k) + -l) = tko W sg l (k + 1) := by
  have e1 : (10 * k + sg k) / 10 = k := by omega
  have e2 : (10 * k + sg k) % 10 = sg k := by omega
  have e3 : tko W sg l k (10 * k + sg k) = W (10 * k + sg k) := by
    unfold tko
    rw [if_neg (by omega)]
  rw [e3]
  funext x
  by_cases hx : x = 10 * k + sg k
  · subst hx
    rw [uq_s]
    unfold tko
    rw [e1, e2, if_pos ⟨by omega, rfl⟩]
    omega
  · rw [uq_n hx]
    unfold tko
    by_cases h1 : x / 10 < k ∧ x % 10 = sg (x / 10)
    · rw [if_pos h1, if_pos ⟨by omega, h1.2⟩]
    · rw [if_neg h1, if_neg]
      rintro ⟨h2, h3⟩
      by_cases h4 : x / 10 = k
      · rw [h4] at h3
        omega
      · exact h1 ⟨by omega, h3⟩
/-- the machines of the jobs in a slice, as far as a job -/
def rcm (g cr : Nat → Int) (s M k : Nat) : Nat → Int := fun x => if x / 5 = s ∧ x % 5 < k then (if cr (x % 5) < M then cr (x % 5) else -1) else g x
theorem rcm_0 {g cr : Nat → Int} {s M : Nat} : rcm g cr s M 0 = g := by
  funext x
  simp [rcm]
theorem rcm_s {g cr : Nat → Int} {s M k : Nat} (hk : k < 5) : uq (rcm g cr s M k) (5 * s + k) (if cr k < M then cr k else -1) = rcm g cr s M (k + 1) := by
  have e1 : (5 * s + k) / 5 = s := by omega
  have e2 : (5 * s + k) % 5 = k := by omega
  funext x
  by_cases hx : x = 5 * s + k
  · subst hx
    rw [uq_s]
    unfold rcm
    rw [e1, e2, if_pos (show s = s ∧ k < k + 1 from ⟨rfl, by omega⟩)]
  · rw [uq_n hx]
    unfold rcm
    by_cases h1 : x / 5 = s ∧ x % 5 < k
    · rw [if_pos h1, if_pos (show x / 5 = s ∧ x % 5 < k + 1 from ⟨h1.1, by omega⟩)]
    · rw [if_neg h1, if_neg (show ¬ (x / 5 = s ∧ x % 5 < k + 1) by omega)]
section TAKE
variable {A : Nat → Nat → Int} {F : Nat → Int} {q : List Int × Nat} {Q : AR → Prop} {n J M s : Nat} {sg : Nat → Nat} {i v : Int}
theorem sp_take (hn : F 75 = n) (hn10 : n ≤ 10) (hn0 : 1 ≤ n) (hW : ∀ r, r < n → ∀ c, c < n → 0 ≤ A 6 (10 * r + c) ∧ A 6 (10 * r + c) ≤ 100000) (hs : ∀ r, r < n → A 8 r = (sg r : Nat) ∧ sg r < n) : Ew 50 [vR 4] (mk A F q) Q ↔ Q (.inl (some (.inl (imn (fun r => A 6 (10 * r + sg r)) (A 6 (10 * 0 + sg 0)) n))), mk (ua A 6 (tko (A 6) sg (imn (fun r => A 6 (10 * r + sg r)) (A 6 (10 * 0 + sg 0)) n) n)) F q) := by
  refine Ew_iff ⟨rc_50 g_4_0, ?_⟩
  rw [lc_50]
  have s0 := hs 0 (by omega)
  have bd : ∀ k, k ≤ n → 0 ≤ imn (fun r => A 6 (10 * r + sg r)) (A 6 (10 * 0 + sg 0)) k ∧ imn (fun r => A 6 (10 * r + sg r)) (A 6 (10 * 0 + sg 0)) k ≤ 100000 := by
    intro k hk
    rcases @imn_is (fun r => A 6 (10 * r + sg r)) (A 6 (10 * 0 + sg 0)) k with h | ⟨i, hi, h⟩
    · rw [h]; exact hW 0 (by omega) (sg 0) s0.2
    · rw [h]; exact hW i (by omega) (sg i) (hs i (by omega)).2
  have e0 : A 8 (Int.toNat 0) = (sg 0 : Nat) := s0.1
  have e1 : imn (fun r => A 6 (10 * r + sg r)) (A 6 (10 * 0 + sg 0)) 1 = A 6 (10 * Int.toNat 0 + sg 0) := by
    exact imn_1 (f := fun r => A 6 (10 * r + sg r))
  simp (disch := omega) only [r50_0, r50_1, r50_4, r50_5, r50_6, r50_9, r50_10, r50_13, r50_16, r50_17, r50_18, r50_20, r50_21, r50_24, r50_27, r50_28, r50_29, r50_32, r50_33, r50_34, r50_37, r50_38, r50_41, r50_44, r50_47, r50_48, r50_51, r50_54, r50_55, r50_57, r50_58, r50_61, r50_64, r50_65, r50_68, r50_69, r50_70, r50_73, r50_74, r50_77, r50_78, r50_79, r50_82, r50_85, r50_88, r50_89, Cn_n, Cn_v, Cn_x, dp_0, dp_1, dp_2, dp_3, dp_4, okv_n, okv_i, okv_r, eq_self, true_and, and_true, Option.some.injEq, exists_eq_left', rgT, ixT, ixU, ↓if_pos, ↓if_neg, Int.toNat_natCast, bT0, bT1, g_4_0, g_4_1, g_4_2, g_4_3, g_4_4, g_4_5, g_4_6, g_4_7, g_4_8, s_4_8, g_4_9, s_4_9, g_4_10, s_4_10, g_4_11, s_4_11, g_4_12, s_4_12, rget_7, gget_5, e0]
  suffices key : ∀ d k : Nat, k + d = n → 1 ≤ k → Wp 50 19 [some (vR 4), some (.inl (imn (fun r => A 6 (10 * r + sg r)) (A 6 (10 * 0 + sg 0)) k)), some (.inl (k : Int))] [] (mk A F q) (fun r => r = (.inl (some (.inl (imn (fun r => A 6 (10 * r + sg r)) (A 6 (10 * 0 + sg 0)) n))), mk (ua A 6 (tko (A 6) sg (imn (fun r => A 6 (10 * r + sg r)) (A 6 (10 * 0 + sg 0)) n) n)) F q)) by
    have k0 := key (n - 1) 1 (by omega) (Nat.le_refl _)
    rw [e1] at k0
    exact k0
  intro d
  induction d with
  | zero =>
    intro k hk hk1
    obtain rfl : k = n := by omega
    rw [r50_19]
    simp (disch := omega) only [r50_0, r50_1, r50_4, r50_5, r50_6, r50_9, r50_10, r50_13, r50_16, r50_17, r50_18, r50_20, r50_21, r50_24, r50_27, r50_28, r50_29, r50_32, r50_33, r50_34, r50_37, r50_38, r50_41, r50_44, r50_47, r50_48, r50_51, r50_54, r50_55, r50_57, r50_58, r50_61, r50_64, r50_65, r50_68, r50_69, r50_70, r50_73, r50_74, r50_77, r50_78, r50_79, r50_82, r50_85, r50_88, r50_89, Cn_n, Cn_v, Cn_x, dp_0, dp_1, dp_2, dp_3, dp_4, okv_n, okv_i, okv_r, eq_self, true_and, and_true, Option.some.injEq, exists_eq_left', rgT, ixT, ixU, ↓if_pos, ↓if_neg, Int.toNat_natCast, bT0, bT1, g_4_0, g_4_1, g_4_2, g_4_3, g_4_4, g_4_5, g_4_6, g_4_7, g_4_8, s_4_8, g_4_9, s_4_9, g_4_10, s_4_10, g_4_11, s_4_11, g_4_12, s_4_12]
    generalize imn (fun r => A 6 (10 * r + sg r)) (A 6 (10 * 0 + sg 0)) k = l
    have key := Rn_for (fun m => Wp 50 56 [some (vR 4), some (.inl l), some (.inl (m : Int))] [] (mk (ua A 6 (tko (A 6) sg l m)) F q) (fun r => r = (.inl (some (.inl l)), mk (ua A 6 (tko (A 6) sg l k)) F q))) k (fun m hm ih => ?_) ?_
    · rw [tko_0, ua_id] at key
      exact key
    · have s1 := hs m hm
      have e8 : ua A 6 (tko (A 6) sg l m) 8 = A 8 := ua_n (by decide)
      rw [r50_56]
      simp (disch := omega) only [r50_0, r50_1, r50_4, r50_5, r50_6, r50_9, r50_10, r50_13, r50_16, r50_17, r50_18, r50_20, r50_21, r50_24, r50_27, r50_28, r50_29, r50_32, r50_33, r50_34, r50_37, r50_38, r50_41, r50_44, r50_47, r50_48, r50_51, r50_54, r50_55, r50_57, r50_58, r50_61, r50_64, r50_65, r50_68, r50_69, r50_70, r50_73, r50_74, r50_77, r50_78, r50_79, r50_82, r50_85, r50_88, r50_89, Cn_n, Cn_v, Cn_x, dp_0, dp_1, dp_2, dp_3, dp_4, okv_n, okv_i, okv_r, eq_self, true_and, and_true, Option.some.injEq, exists_eq_left', rgT, ixT, ixU, ↓if_pos, ↓if_neg, Int.toNat_natCast, bT0, bT1, g_4_0, g_4_1, g_4_2, g_4_3, g_4_4, g_4_5, g_4_6, g_4_7, g_4_8, s_4_8, g_4_9, s_4_9, g_4_10, s_4_10, g_4_11, s_4_11, g_4_12, s_4_12, rget_7, gadd_5, s1.1, e8, u2, ua_s, ua_ua]
      rw [tko_s (by omega)]
      exact ih
    · rw [r50_56]
      simp (disch := omega) only [r50_0, r50_1, r50_4, r50_5, r50_6, r50_9, r50_10, r50_13, r50_16, r50_17, r50_18, r50_20, r50_21, r50_24, r50_27, r50_28, r50_29, r50_32, r50_33, r50_34, r50_37, r50_38, r50_41, r50_44, r50_47, r50_48, r50_51, r50_54, r50_55, r50_57, r50_58, r50_61, r50_64, r50_65, r50_68, r50_69, r50_70, r50_73, r50_74, r50_77, r50_78, r50_79, r50_82, r50_85, r50_88, r50_89, Cn_n, Cn_v, Cn_x, dp_0, dp_1, dp_2, dp_3, dp_4, okv_n, okv_i, okv_r, eq_self, true_and, and_true, Option.some.injEq, exists_eq_left', rgT, ixT, ixU, ↓if_pos, ↓if_neg, Int.toNat_natCast, bT0, bT1, g_4_0, g_4_1, g_4_2, g_4_3, g_4_4, g_4_5, g_4_6, g_4_7, g_4_8, s_4_8, g_4_9, s_4_9, g_4_10, s_4_10, g_4_11, s_4_11, g_4_12, s_4_12]
  | succ d ih =>
    intro k hk hk1
    have s1 := hs k (by omega)
    have b1 := bd k (by omega)
    have b2 := hW k (by omega) (sg k) s1.2
    have ih9 := ih (k + 1) (by omega) (by omega)
    rw [imn] at ih9
    rw [r50_19]
    by_cases h9 : A 6 (10 * k + sg k) < imn (fun r => A 6 (10 * r + sg r)) (A 6 (10 * 0 + sg 0)) k
    · rw [if_pos h9] at ih9
      simp (disch := omega) only [r50_0, r50_1, r50_4, r50_5, r50_6, r50_9, r50_10, r50_13, r50_16, r50_17, r50_18, r50_20, r50_21, r50_24, r50_27, r50_28, r50_29, r50_32, r50_33, r50_34, r50_37, r50_38, r50_41, r50_44, r50_47, r50_48, r50_51, r50_54, r50_55, r50_57, r50_58, r50_61, r50_64, r50_65, r50_68, r50_69, r50_70, r50_73, r50_74, r50_77, r50_78, r50_79, r50_82, r50_85, r50_88, r50_89, Cn_n, Cn_v, Cn_x, dp_0, dp_1, dp_2, dp_3, dp_4, okv_n, okv_i, okv_r, eq_self, true_and, and_true, Option.some.injEq, exists_eq_left', rgT, ixT, ixU, ↓if_pos, ↓if_neg, Int.toNat_natCast, bT0, bT1, g_4_0, g_4_1, g_4_2, g_4_3, g_4_4, g_4_5, g_4_6, g_4_7, g_4_8, s_4_8, g_4_9, s_4_9, g_4_10, s_4_10, g_4_11, s_4_11, g_4_12, s_4_12, rget_7, gget_5, s1.1]
      exact ih9
    · rw [if_neg h9] at ih9
      simp (disch := omega) only [r50_0, r50_1, r50_4, r50_5, r50_6, r50_9, r50_10, r50_13, r50_16, r50_17, r50_18, r50_20, r50_21, r50_24, r50_27, r50_28, r50_29, r50_32, r50_33, r50_34, r50_37, r50_38, r50_41, r50_44, r50_47, r50_48, r50_51, r50_54, r50_55, r50_57, r50_58, r50_61, r50_64, r50_65, r50_68, r50_69, r50_70, r50_73, r50_74, r50_77, r50_78, r50_79, r50_82, r50_85, r50_88, r50_89, Cn_n, Cn_v, Cn_x, dp_0, dp_1, dp_2, dp_3, dp_4, okv_n, okv_i, okv_r, eq_self, true_and, and_true, Option.some.injEq, exists_eq_left', rgT, ixT, ixU, ↓if_pos, ↓if_neg, Int.toNat_natCast, bT0, bT1, g_4_0, g_4_1, g_4_2, g_4_3, g_4_4, g_4_5, g_4_6, g_4_7, g_4_8, s_4_8, g_4_9, s_4_9, g_4_10, s_4_10, g_4_11, s_4_11, g_4_12, s_4_12, rget_7, gget_5, s1.1]
      exact ih9
theorem sp_record (hJ : F 73 = J) (hM : F 74 = M) (hJ5 : J ≤ 5) (hs60 : s < 60) (hcr : ∀ r, r < J → -1 ≤ A 8 r ∧ A 8 r ≤ 10) (hM5 : M ≤ 5) : Ew 51 [vR 4, .inl (s : Int), .inl i, .inl v] (mk A F q) Q ↔ Q (.inl none, mk (ua (ua (ua A 16 (uq (A 16) s i)) 18 (uq (A 18) s v)) 20 (rcm (A 20) (A 8) s M J)) (uf F 76 ((s : Int) + 1)) q) := by
  refine Ew_iff ⟨rc_51 g_4_0 rfl rfl rfl, ?_⟩
  rw [lc_51]
  have e20 : ua (ua A 16 (uq (A 16) s i)) 18 (uq (A 18) s v) 20 = A 20 := by rw [ua_n (by decide), ua_n (by decide)]
  have e18 : ua A 16 (uq (A 16) s i) 18 = A 18 := ua_n (by decide)
  simp (disch := omega) only [r51_0, r51_1, r51_4, r51_5, r51_6, r51_9, r51_10, r51_13, r51_14, r51_15, r51_18, r51_19, r51_23, r51_24, r51_27, r51_30, r51_31, r51_34, r51_36, r51_39, r51_41, r51_42, r51_45, r51_46, r51_48, r51_50, r51_51, r51_54, r51_57, r51_59, r51_62, r51_63, r51_66, r51_69, r51_72, r51_73, r51_74, r51_75, r51_76, r51_79, Cn_n, Cn_v, Cn_x, dp_0, dp_1, dp_2, dp_3, dp_4, okv_n, okv_i, okv_r, eq_self, true_and, and_true, Option.some.injEq, exists_eq_left', rgT, ixT, ixU, ↓if_pos, ↓if_neg, Int.toNat_natCast, bT0, bT1, g_4_0, g_4_1, g_4_2, g_4_3, g_4_4, g_4_5, g_4_6, g_4_7, g_4_8, s_4_8, g_4_9, s_4_9, g_4_10, s_4_10, g_4_11, s_4_11, g_4_12, s_4_12, rput_15, rput_17, u2, e18]
  suffices key : ∀ d k : Nat, k + d = J → ∀ x5 : Option AV, okv x5 = true → Wp 51 21 [some (vR 4), some (.inl (s : Int)), some (.inl i), some (.inl v), some (.inl (k : Int)), x5] [] (mk (ua (ua (ua A 16 (uq (A 16) s i)) 18 (uq (A 18) s v)) 20 (rcm (A 20) (A 8) s M k)) F q) (fun r => r = (.inl none, mk (ua (ua (ua A 16 (uq (A 16) s i)) 18 (uq (A 18) s v)) 20 (rcm (A 20) (A 8) s M J)) (uf F 76 ((s : Int) + 1)) q)) by
    have k0 := key J 0 (by omega) none rfl
    rw [rcm_0, ← e20, ua_id] at k0
    rw [e20] at k0
    exact k0
  intro d
  induction d with
  | zero =>
    intro k hk x5 h5
    obtain rfl : k = J := by omega
    rw [r51_21]
    simp (disch := omega) only [r51_0, r51_1, r51_4, r51_5, r51_6, r51_9, r51_10, r51_13, r51_14, r51_15, r51_18, r51_19, r51_23, r51_24, r51_27, r51_30, r51_31, r51_34, r51_36, r51_39, r51_41, r51_42, r51_45, r51_46, r51_48, r51_50, r51_51, r51_54, r51_57, r51_59, r51_62, r51_63, r51_66, r51_69, r51_72, r51_73, r51_74, r51_75, r51_76, r51_79, Cn_n, Cn_v, Cn_x, dp_0, dp_1, dp_2, dp_3, dp_4, okv_n, okv_i, okv_r, eq_self, true_and, and_true, Option.some.injEq, exists_eq_left', rgT, ixT, ixU, ↓if_pos, ↓if_neg, Int.toNat_natCast, bT0, bT1, g_4_0, g_4_1, g_4_2, g_4_3, g_4_4, g_4_5, g_4_6, g_4_7, g_4_8, s_4_8, g_4_9, s_4_9, g_4_10, s_4_10, g_4_11, s_4_11, g_4_12, s_4_12]
  | succ d ih =>
    intro k hk x5 h5
    have b1 := hcr k (by omega)
    have e8 : ua (ua (ua A 16 (uq (A 16) s i)) 18 (uq (A 18) s v)) 20 (rcm (A 20) (A 8) s M k) 8 = A 8 := by rw [ua_n (by decide), ua_n (by decide), ua_n (by decide)]
    have ih9 := ih (k + 1) (by omega)
    rw [← rcm_s (by omega)] at ih9
    rw [r51_21]
    by_cases h9 : A 8 k < M
    · rw [if_pos h9] at ih9
      simp (disch := omega) only [r51_0, r51_1, r51_4, r51_5, r51_6, r51_9, r51_10, r51_13, r51_14, r51_15, r51_18, r51_19, r51_23, r51_24, r51_27, r51_30, r51_31, r51_34, r51_36, r51_39, r51_41, r51_42, r51_45, r51_46, r51_48, r51_50, r51_51, r51_54, r51_57, r51_59, r51_62, r51_63, r51_66, r51_69, r51_72, r51_73, r51_74, r51_75, r51_76, r51_79, Cn_n, Cn_v, Cn_x, dp_0, dp_1, dp_2, dp_3, dp_4, okv_n, okv_i, okv_r, eq_self, true_and, and_true, Option.some.injEq, exists_eq_left', rgT, ixT, ixU, ↓if_pos, ↓if_neg, Int.toNat_natCast, bT0, bT1, g_4_0, g_4_1, g_4_2, g_4_3, g_4_4, g_4_5, g_4_6, g_4_7, g_4_8, s_4_8, g_4_9, s_4_9, g_4_10, s_4_10, g_4_11, s_4_11, g_4_12, s_4_12, h5, rget_7, gput_19, e8, u2, ua_s, ua_ua]
      exact ih9 _ rfl
    · rw [if_neg h9] at ih9
      simp (disch := omega) only [r51_0, r51_1, r51_4, r51_5, r51_6, r51_9, r51_10, r51_13, r51_14, r51_15, r51_18, r51_19, r51_23, r51_24, r51_27, r51_30, r51_31, r51_34, r51_36, r51_39, r51_41, r51_42, r51_45, r51_46, r51_48, r51_50, r51_51, r51_54, r51_57, r51_59, r51_62, r51_63, r51_66, r51_69, r51_72, r51_73, r51_74, r51_75, r51_76, r51_79, Cn_n, Cn_v, Cn_x, dp_0, dp_1, dp_2, dp_3, dp_4, okv_n, okv_i, okv_r, eq_self, true_and, and_true, Option.some.injEq, exists_eq_left', rgT, ixT, ixU, ↓if_pos, ↓if_neg, Int.toNat_natCast, bT0, bT1, g_4_0, g_4_1, g_4_2, g_4_3, g_4_4, g_4_5, g_4_6, g_4_7, g_4_8, s_4_8, g_4_9, s_4_9, g_4_10, s_4_10, g_4_11, s_4_11, g_4_12, s_4_12, h5, rget_7, gput_19, e8, u2, ua_s, ua_ua]
      exact ih9 _ rfl
end TAKE
