/-! the first choice of columns -/
theorem ncnt_true : ∀ {n : Nat}, ncnt (fun _ => true) n = n
  | 0 => rfl
  | n + 1 => by simp only [ncnt]; rw [ncnt_true (n := n)]; rfl
/-- as far as a row the choice is the first -/
def LFU (W : Nat → Int) (n : Nat) (cr : Nat → Int) (r : Nat) : Prop := ∀ i, i < r → ∀ c : Nat, (c : Int) < cr i → ∀ tau, PM W n tau → (∀ x : Nat, x < i → (tau x : Int) = cr x) → tau i ≠ c
section PICK
variable {W : Nat → Int} {n : Nat} {cr rc : Nat → Int}
theorem PM_of (hp : PMT W n cr rc) (hfull : ∀ r, r < n → cr r ≠ -1) : PM W n (fun r => (cr r).toNat) := by
  refine ⟨fun r hr => ?_, fun r hr x hx h => ?_⟩
  · rcases hp.1 r hr with h1 | ⟨h1, h2, h3, h4⟩
    · exact absurd h1 (hfull r hr)
    · exact ⟨(by omega : (cr r).toNat < n), h4⟩
  · simp only [] at h
    rcases hp.1 r hr with h1 | ⟨h1, h2, h3, h4⟩
    · exact absurd h1 (hfull r hr)
    · rcases hp.1 x hx with g1 | ⟨g1, g2, g3, g4⟩
      · exact absurd g1 (hfull x hx)
      · rw [h] at h3
        omega
theorem held (hp : PMT W n cr rc) (hfull : ∀ r, r < n → cr r ≠ -1) {c : Nat} (hc : c < n) : 0 ≤ rc c ∧ rc c < n ∧ cr (rc c).toNat = c := by
  rcases hp.2 c hc with h | h
  · exfalso
    refine hall_pm (R := fun _ => true) (C := fun x => decide (x ≠ c)) (PM_of hp hfull) (fun r hr _ => ?_) ?_
    · refine decide_eq_true ?_
      intro h9
      rcases hp.1 r hr with h1 | ⟨h1, h2, h3, h4⟩
      · exact hfull r hr h1
      · rw [h9] at h3
        omega
    · have h9 := @ncnt_one (fun x => decide (x ≠ c)) (fun _ => true) c (by simp) rfl n hc (fun i _ hic => by simp [hic])
      exact h9.symm
  · exact h
theorem LF_of (hp : PMT W n cr rc) (hfull : ∀ r, r < n → cr r ≠ -1) (hl : LFU W n cr n) : ISLF W n (fun r => (cr r).toNat) := by
  refine ⟨PM_of hp hfull, fun r hr c hc tau ht hpre => ?_⟩
  have hc9 : c < (cr r).toNat := hc
  refine hl r hr c (by omega) tau ht (fun x hx => ?_)
  have h9 : tau x = (cr x).toNat := hpre x hx
  rcases hp.1 x (by omega) with h1 | ⟨h1, h2, h3, h4⟩
  · exact absurd h1 (hfull x (by omega))
  · omega
/-- a row takes the column of a row behind it, which is left without -/
theorem PMT_take (hp : PMT W n cr rc) {row col old h : Nat} (hrow : row < n) (hcol : col < n) (hold : old < n) (hh : h < n) (ho : cr row = old) (hc : rc col = h) (hne : h ≠ row) (hne2 : col ≠ old) (hw : 0 < W (10 * row + col)) : PMT W n (uq (uq cr row col) h (-1)) (uq (uq rc old (-1)) col row) := by
  have e1 : cr h = col := by
    rcases hp.2 col hcol with h1 | ⟨h1, h2, h3⟩
    · omega
    · rw [hc, Int.toNat_natCast] at h3; exact h3
  have e2 : rc old = row := by
    rcases hp.1 row hrow with h1 | ⟨h1, h2, h3, h4⟩
    · omega
    · rw [ho, Int.toNat_natCast] at h3; exact h3
  refine ⟨fun r hr => ?_, fun c hc9 => ?_⟩
  · by_cases k1 : r = h
    · subst k1; rw [uq_s]; exact Or.inl rfl
    · rw [uq_n k1]
      by_cases k2 : r = row
      · subst k2
        rw [uq_s]
        refine Or.inr ⟨by omega, by omega, ?_, ?_⟩
        · rw [Int.toNat_natCast, uq_s]
        · rw [Int.toNat_natCast]; exact hw
      · rw [uq_n k2]
        rcases hp.1 r hr with h1 | ⟨h1, h2, h3, h4⟩
        · exact Or.inl h1
        · refine Or.inr ⟨h1, h2, ?_, h4⟩
          have x1 : (cr r).toNat ≠ col := by intro h9; rw [h9] at h3; omega
          have x2 : (cr r).toNat ≠ old := by intro h9; rw [h9] at h3; omega
          rw [uq_n x1, uq_n x2]
          exact h3
  · by_cases k1 : c = col
    · subst k1
      rw [uq_s]
      refine Or.inr ⟨by omega, by omega, ?_⟩
      rw [Int.toNat_natCast, uq_n (fun h9 => hne h9.symm), uq_s]
    · rw [uq_n k1]
      by_cases k2 : c = old
      · subst k2; rw [uq_s]; exact Or.inl rfl
      · rw [uq_n k2]
        rcases hp.2 c hc9 with h1 | ⟨h1, h2, h3⟩
        · exact Or.inl h1
        · refine Or.inr ⟨h1, h2, ?_⟩
          have x1 : (rc c).toNat ≠ h := by intro h9; rw [h9] at h3; omega
          have x2 : (rc c).toNat ≠ row := by intro h9; rw [h9] at h3; omega
          rw [uq_n x1, uq_n x2]
          exact h3
theorem uq_back {f : Nat → Int} {a b : Nat} {v w : Int} (hab : a ≠ b) : uq (uq (uq (uq f a v) b w) a (f a)) b (f b) = f := by
  funext k
  unfold uq
  by_cases h1 : k = b
  · rw [if_pos h1, h1]
  · by_cases h2 : k = a
    · rw [if_neg h1, if_pos h2, h2]
    · rw [if_neg h1, if_neg h2, if_neg h1, if_neg h2]
end PICK
section PICK2
variable {A : Nat → Nat → Int} {F : Nat → Int} {q : List Int × Nat} {Q : AR → Prop} {n : Nat} {cr rc : Nat → Int} {row : Nat} {rf qu : Nat → Int}
theorem sp_forward (hn : F 75 = n) (hn10 : n ≤ 10) (hW : ∀ r, r < n → ∀ c, c < n → 0 ≤ A 6 (10 * r + c) ∧ A 6 (10 * r + c) ≤ 100000) (hp : PMT (A 6) n cr rc) (hfull : ∀ r, r < n → cr r ≠ -1) (hrow : row < n) (hlf : LFU (A 6) n cr row)
    (hQ : ∀ cr' rc' rf' qu', PMT (A 6) n cr' rc' → (∀ r, r < n → cr' r ≠ -1) → LFU (A 6) n cr' (row + 1) → Q (.inl none, mk (hpl A cr' rc' rf' qu') F q)) :
    Ew 49 [vR 4, .inl (row : Int)] (mk (hpl A cr rc rf qu) F q) Q := by
  obtain ⟨old, ho⟩ : ∃ old : Nat, cr row = old := by
    rcases hp.1 row hrow with h1 | ⟨h1, h2, h3, h4⟩
    · exact absurd h1 (hfull row hrow)
    · exact ⟨(cr row).toNat, by omega⟩
  have hold : old < n := by
    rcases hp.1 row hrow with h1 | ⟨h1, h2, h3, h4⟩
    · exact absurd h1 (hfull row hrow)
    · omega
  refine ⟨rc_49 g_4_0 rfl, ?_⟩
  rw [lc_49]
  simp (disch := omega) only [r49_0, r49_1, r49_4, r49_5, r49_8, r49_9, r49_10, r49_12, r49_13, r49_16, r49_17, r49_20, r49_21, r49_24, r49_26, r49_28, r49_29, r49_32, r49_33, r49_36, r49_37, r49_38, r49_41, r49_44, r49_47, r49_48, r49_51, r49_52, r49_53, r49_56, r49_57, r49_60, r49_61, r49_62, r49_65, r49_66, r49_69, r49_70, r49_71, r49_74, r49_75, r49_78, r49_80, r49_81, r49_84, r49_85, r49_87, r49_88, r49_91, r49_94, r49_95, r49_96, r49_99, r49_100, r49_101, r49_104, r49_105, r49_108, r49_109, r49_111, r49_114, r49_115, r49_118, r49_119, r49_120, r49_123, r49_124, r49_127, r49_129, r49_130, r49_133, r49_136, r49_139, Cn_n, Cn_v, Cn_x, dp_0, dp_1, dp_2, dp_3, dp_4, okv_n, okv_i, okv_r, eq_self, true_and, and_true, Option.some.injEq, exists_eq_left', rgT, ixT, ixU, ↓if_pos, ↓if_neg, Int.toNat_natCast, bT0, bT1, g_4_0, g_4_1, g_4_2, g_4_3, g_4_4, g_4_5, g_4_6, g_4_7, g_4_8, s_4_8, g_4_9, s_4_9, g_4_10, s_4_10, g_4_11, s_4_11, g_4_12, s_4_12, rget_7, hp_8, ho]
  suffices key : ∀ (d col : Nat) (rf qu : Nat → Int), col + d = old → (∀ c, c < col → ∀ tau, PM (A 6) n tau → (∀ x : Nat, x < row → (tau x : Int) = cr x) → tau row ≠ c) → ∀ x4 : Option AV, okv x4 = true → Wp 49 11 [some (vR 4), some (.inl (row : Int)), some (.inl (old : Int)), some (.inl (col : Int)), x4] [] (mk (hpl A cr rc rf qu) F q) Q by
    exact key old 0 rf qu (by omega) (fun c hc => absurd hc (Nat.not_lt_zero c)) none rfl
  intro d
  induction d with
  | zero =>
    intro col rf qu hd hno x4 h4
    obtain rfl : col = old := by omega
    rw [r49_11]
    simp (disch := omega) only [r49_0, r49_1, r49_4, r49_5, r49_8, r49_9, r49_10, r49_12, r49_13, r49_16, r49_17, r49_20, r49_21, r49_24, r49_26, r49_28, r49_29, r49_32, r49_33, r49_36, r49_37, r49_38, r49_41, r49_44, r49_47, r49_48, r49_51, r49_52, r49_53, r49_56, r49_57, r49_60, r49_61, r49_62, r49_65, r49_66, r49_69, r49_70, r49_71, r49_74, r49_75, r49_78, r49_80, r49_81, r49_84, r49_85, r49_87, r49_88, r49_91, r49_94, r49_95, r49_96, r49_99, r49_100, r49_101, r49_104, r49_105, r49_108, r49_109, r49_111, r49_114, r49_115, r49_118, r49_119, r49_120, r49_123, r49_124, r49_127, r49_129, r49_130, r49_133, r49_136, r49_139, Cn_n, Cn_v, Cn_x, dp_0, dp_1, dp_2, dp_3, dp_4, okv_n, okv_i, okv_r, eq_self, true_and, and_true, Option.some.injEq, exists_eq_left', rgT, ixT, ixU, ↓if_pos, ↓if_neg, Int.toNat_natCast, bT0, bT1]
    refine hQ _ _ _ _ hp hfull (fun i hi c hc tau ht hpre => ?_)
    by_cases hir : i = row
    · subst hir
      exact hno c (by omega) tau ht hpre
    · exact hlf i (by omega) c hc tau ht hpre
  | succ d ih =>
    intro col rf qu hd hno x4 h4
    have hhd := held hp hfull (show col < n by omega)
    have w9 := hW row hrow col (by omega)
    obtain ⟨h, hh⟩ : ∃ h : Nat, rc col = h := ⟨(rc col).toNat, by omega⟩
    rw [hh, Int.toNat_natCast] at hhd
    have hne : h ≠ row := by
      intro h9
      rw [h9, ho] at hhd
      omega
    rw [r49_11]
    by_cases k1 : h ≤ row
    · simp (disch := omega) only [r49_0, r49_1, r49_4, r49_5, r49_8, r49_9, r49_10, r49_12, r49_13, r49_16, r49_17, r49_20, r49_21, r49_24, r49_26, r49_28, r49_29, r49_32, r49_33, r49_36, r49_37, r49_38, r49_41, r49_44, r49_47, r49_48, r49_51, r49_52, r49_53, r49_56, r49_57, r49_60, r49_61, r49_62, r49_65, r49_66, r49_69, r49_70, r49_71, r49_74, r49_75, r49_78, r49_80, r49_81, r49_84, r49_85, r49_87, r49_88, r49_91, r49_94, r49_95, r49_96, r49_99, r49_100, r49_101, r49_104, r49_105, r49_108, r49_109, r49_111, r49_114, r49_115, r49_118, r49_119, r49_120, r49_123, r49_124, r49_127, r49_129, r49_130, r49_133, r49_136, r49_139, Cn_n, Cn_v, Cn_x, dp_0, dp_1, dp_2, dp_3, dp_4, okv_n, okv_i, okv_r, eq_self, true_and, and_true, Option.some.injEq, exists_eq_left', rgT, ixT, ixU, ↓if_pos, ↓if_neg, Int.toNat_natCast, bT0, bT1, g_4_0, g_4_1, g_4_2, g_4_3, g_4_4, g_4_5, g_4_6, g_4_7, g_4_8, s_4_8, g_4_9, s_4_9, g_4_10, s_4_10, g_4_11, s_4_11, g_4_12, s_4_12, h4, rget_9, hp_10, hh]
      refine ih (col + 1) rf qu (by omega) (fun c hc tau ht hpre h9 => ?_) _ rfl
      by_cases hcc : c = col
      · subst hcc
        have x1 := hpre h (by omega)
        have x2 := ht.2 h (by omega) row hrow (by omega)
        exact hne x2
      · exact hno c (by omega) tau ht hpre h9
    · by_cases k2 : A 6 (10 * row + col) ≤ 0
      · simp (disch := omega) only [r49_0, r49_1, r49_4, r49_5, r49_8, r49_9, r49_10, r49_12, r49_13, r49_16, r49_17, r49_20, r49_21, r49_24, r49_26, r49_28, r49_29, r49_32, r49_33, r49_36, r49_37, r49_38, r49_41, r49_44, r49_47, r49_48, r49_51, r49_52, r49_53, r49_56, r49_57, r49_60, r49_61, r49_62, r49_65, r49_66, r49_69, r49_70, r49_71, r49_74, r49_75, r49_78, r49_80, r49_81, r49_84, r49_85, r49_87, r49_88, r49_91, r49_94, r49_95, r49_96, r49_99, r49_100, r49_101, r49_104, r49_105, r49_108, r49_109, r49_111, r49_114, r49_115, r49_118, r49_119, r49_120, r49_123, r49_124, r49_127, r49_129, r49_130, r49_133, r49_136, r49_139, Cn_n, Cn_v, Cn_x, dp_0, dp_1, dp_2, dp_3, dp_4, okv_n, okv_i, okv_r, eq_self, true_and, and_true, Option.some.injEq, exists_eq_left', rgT, ixT, ixU, ↓if_pos, ↓if_neg, Int.toNat_natCast, bT0, bT1, g_4_0, g_4_1, g_4_2, g_4_3, g_4_4, g_4_5, g_4_6, g_4_7, g_4_8, s_4_8, g_4_9, s_4_9, g_4_10, s_4_10, g_4_11, s_4_11, g_4_12, s_4_12, h4, rget_9, hp_10, hh, gget_5, hp_6]
        refine ih (col + 1) rf qu (by omega) (fun c hc tau ht hpre h9 => ?_) _ rfl
        by_cases hcc : c = col
        · subst hcc
          have x1 := (ht.1 row hrow).2
          rw [h9] at x1
          omega
        · exact hno c (by omega) tau ht hpre h9
      · have tk := PMT_take hp hrow (show col < n by omega) hold (show h < n by omega) ho hh hne (by omega) (by omega)
        have ecr : uq (uq (uq (uq cr row col) h (-1)) row old) h col = cr := by
          have := @uq_back cr row h col (-1) (fun h9 => hne h9.symm)
          rw [ho, hhd.2.2] at this
          exact this
        have erc : uq (uq (uq (uq rc old (-1)) col row) old row) col h = rc := by
          have := @uq_back rc old col (-1) row (by omega)
          have e2 : rc old = row := by
            rcases hp.1 row hrow with h1 | ⟨h1, h2, h3, h4⟩
            · omega
            · rw [ho, Int.toNat_natCast] at h3; exact h3
          rw [e2, hh] at this
          exact this
        have seat9 := sp_seat (A := A) (F := F) (q := q) (rf := rf) (qu := qu) (fm := row) (row := h) (Q := fun x => Cn 49 91 [some (vR 4), some (.inl (row : Int)), some (.inl (old : Int)), some (.inl (col : Int)), some (.inl (h : Int))] [] x Q) hn hn10 hW tk (by omega) uq_s (by omega) (by omega) (fun cr' rc' rf' qu' hw9 => by
            simp (disch := omega) only [r49_0, r49_1, r49_4, r49_5, r49_8, r49_9, r49_10, r49_12, r49_13, r49_16, r49_17, r49_20, r49_21, r49_24, r49_26, r49_28, r49_29, r49_32, r49_33, r49_36, r49_37, r49_38, r49_41, r49_44, r49_47, r49_48, r49_51, r49_52, r49_53, r49_56, r49_57, r49_60, r49_61, r49_62, r49_65, r49_66, r49_69, r49_70, r49_71, r49_74, r49_75, r49_78, r49_80, r49_81, r49_84, r49_85, r49_87, r49_88, r49_91, r49_94, r49_95, r49_96, r49_99, r49_100, r49_101, r49_104, r49_105, r49_108, r49_109, r49_111, r49_114, r49_115, r49_118, r49_119, r49_120, r49_123, r49_124, r49_127, r49_129, r49_130, r49_133, r49_136, r49_139, Cn_n, Cn_v, Cn_x, dp_0, dp_1, dp_2, dp_3, dp_4, okv_n, okv_i, okv_r, eq_self, true_and, and_true, Option.some.injEq, exists_eq_left', rgT, ixT, ixU, ↓if_pos, ↓if_neg, Int.toNat_natCast, bT0, bT1]
            obtain ⟨v1, v2, v3, v4, v5⟩ := hw9
            have hpre9 : ∀ x : Nat, x < row → cr' x = cr x := by
              intro x hx
              rw [v3 x (by omega) (by omega), uq_n (by omega), uq_n (by omega)]
            have hrow9 : cr' row = col := by
              rw [v3 row hrow (by omega), uq_n (fun h9 => hne h9.symm), uq_s]
            refine hQ _ _ _ _ v1 (fun r hr => ?_) (fun i hi c hc tau ht hpre => ?_)
            · by_cases hrh : r = h
              · subst hrh; exact v2
              · refine v4 r hr ?_
                rw [uq_n hrh]
                by_cases hrr : r = row
                · subst hrr; rw [uq_s]; omega
                · rw [uq_n hrr]; exact hfull r hr
            · by_cases hir : i = row
              · subst hir
                rw [hrow9] at hc
                exact hno c (by omega) tau ht (fun x hx => by rw [hpre x hx, hpre9 x hx])
              · rw [hpre9 i (by omega)] at hc
                exact hlf i (by omega) c hc tau ht (fun x hx => by rw [hpre x hx, hpre9 x (by omega)])) (fun rf' qu' k nx col9 hbf hknx => by
            simp (disch := omega) only [r49_0, r49_1, r49_4, r49_5, r49_8, r49_9, r49_10, r49_12, r49_13, r49_16, r49_17, r49_20, r49_21, r49_24, r49_26, r49_28, r49_29, r49_32, r49_33, r49_36, r49_37, r49_38, r49_41, r49_44, r49_47, r49_48, r49_51, r49_52, r49_53, r49_56, r49_57, r49_60, r49_61, r49_62, r49_65, r49_66, r49_69, r49_70, r49_71, r49_74, r49_75, r49_78, r49_80, r49_81, r49_84, r49_85, r49_87, r49_88, r49_91, r49_94, r49_95, r49_96, r49_99, r49_100, r49_101, r49_104, r49_105, r49_108, r49_109, r49_111, r49_114, r49_115, r49_118, r49_119, r49_120, r49_123, r49_124, r49_127, r49_129, r49_130, r49_133, r49_136, r49_139, Cn_n, Cn_v, Cn_x, dp_0, dp_1, dp_2, dp_3, dp_4, okv_n, okv_i, okv_r, eq_self, true_and, and_true, Option.some.injEq, exists_eq_left', rgT, ixT, ixU, ↓if_pos, ↓if_neg, Int.toNat_natCast, bT0, bT1, g_4_0, g_4_1, g_4_2, g_4_3, g_4_4, g_4_5, g_4_6, g_4_7, g_4_8, s_4_8, g_4_9, s_4_9, g_4_10, s_4_10, g_4_11, s_4_11, g_4_12, s_4_12, rput_7, rput_9, hp_u8, hp_u10]
            rw [ecr, erc]
            refine ih (col + 1) rf' qu' (by omega) (fun c hc tau ht hpre h9 => ?_) _ rfl
            by_cases hcc : c = col
            · subst hcc
              refine BF_pm tk hbf hknx ht (fun i hi hir => ?_)
              rw [uq_n (by omega)]
              by_cases hir2 : i = row
              · subst hir2; rw [uq_s, h9]
              · rw [uq_n hir2]; exact hpre i (by omega)
            · exact hno c (by omega) tau ht hpre h9)
        simp (disch := omega) only [r49_0, r49_1, r49_4, r49_5, r49_8, r49_9, r49_10, r49_12, r49_13, r49_16, r49_17, r49_20, r49_21, r49_24, r49_26, r49_28, r49_29, r49_32, r49_33, r49_36, r49_37, r49_38, r49_41, r49_44, r49_47, r49_48, r49_51, r49_52, r49_53, r49_56, r49_57, r49_60, r49_61, r49_62, r49_65, r49_66, r49_69, r49_70, r49_71, r49_74, r49_75, r49_78, r49_80, r49_81, r49_84, r49_85, r49_87, r49_88, r49_91, r49_94, r49_95, r49_96, r49_99, r49_100, r49_101, r49_104, r49_105, r49_108, r49_109, r49_111, r49_114, r49_115, r49_118, r49_119, r49_120, r49_123, r49_124, r49_127, r49_129, r49_130, r49_133, r49_136, r49_139, Cn_n, Cn_v, Cn_x, dp_0, dp_1, dp_2, dp_3, dp_4, okv_n, okv_i, okv_r, eq_self, true_and, and_true, Option.some.injEq, exists_eq_left', rgT, ixT, ixU, ↓if_pos, ↓if_neg, Int.toNat_natCast, bT0, bT1, g_4_0, g_4_1, g_4_2, g_4_3, g_4_4, g_4_5, g_4_6, g_4_7, g_4_8, s_4_8, g_4_9, s_4_9, g_4_10, s_4_10, g_4_11, s_4_11, g_4_12, s_4_12, h4, rget_9, hp_10, hh, gget_5, hp_6, rput_7, rput_9, hp_u8, hp_u10]
        exact seat9
theorem sp_pick {L : Int} (hn : F 75 = n) (hn10 : n ≤ 10) (hW : ∀ r, r < n → ∀ c, c < n → 0 ≤ A 6 (10 * r + c) ∧ A 6 (10 * r + c) ≤ 100000) (hL : 0 < L) (hrs : ∀ r, r < n → isum (fun c => A 6 (10 * r + c)) n = L) (hcs : ∀ c, c < n → isum (fun r => A 6 (10 * r + c)) n = L)
    (hQ : ∀ cr' rc' rf' qu', PMT (A 6) n cr' rc' → (∀ r, r < n → cr' r ≠ -1) → LFU (A 6) n cr' n → Q (.inl none, mk (hpl A cr' rc' rf' qu') F q)) :
    Ew 46 [vR 4] (mk A F q) Q := by
  suffices start9 : Ew 46 [vR 4] (mk (hpl A (A 8) (A 10) (A 12) (A 14)) F q) Q by rwa [hp_id] at start9
  refine ⟨rc_46 g_4_0, ?_⟩
  rw [lc_46]
  simp (disch := omega) only [r46_0, r46_1, r46_4, r46_5, r46_8, r46_9, r46_12, r46_13, r46_16, r46_17, r46_19, r46_20, r46_23, r46_26, r46_27, r46_28, r46_29, r46_32, r46_33, r46_36, r46_39, r46_40, r46_42, r46_43, r46_46, r46_49, r46_50, r46_51, r46_54, r46_57, r46_60, Cn_n, Cn_v, Cn_x, dp_0, dp_1, dp_2, dp_3, dp_4, okv_n, okv_i, okv_r, eq_self, true_and, and_true, Option.some.injEq, exists_eq_left', rgT, ixT, ixU, ↓if_pos, ↓if_neg, Int.toNat_natCast, bT0, bT1, g_4_0, g_4_1, g_4_2, g_4_3, g_4_4, g_4_5, g_4_6, g_4_7, g_4_8, s_4_8, g_4_9, s_4_9, g_4_10, s_4_10, g_4_11, s_4_11, g_4_12, s_4_12, rfill_7, rfill_9, hp_f8, hp_f10]
  suffices key : ∀ (d r : Nat) (cr rc rf qu : Nat → Int), r + d = n → PMT (A 6) n cr rc → (∀ x, x < r → cr x ≠ -1) → (∀ x, r ≤ x → x < n → cr x = -1) → Wp 46 18 [some (vR 4), some (.inl (r : Int))] [] (mk (hpl A cr rc rf qu) F q) Q by
    exact key n 0 _ _ _ _ (by omega) ⟨fun _ _ => Or.inl rfl, fun _ _ => Or.inl rfl⟩ (fun x hx => absurd hx (Nat.not_lt_zero x)) (fun _ _ _ => rfl)
  intro d
  induction d with
  | zero =>
    intro r cr rc rf qu hd hp hyes hno
    obtain rfl : r = n := by omega
    rw [r46_18]
    simp (disch := omega) only [r46_0, r46_1, r46_4, r46_5, r46_8, r46_9, r46_12, r46_13, r46_16, r46_17, r46_19, r46_20, r46_23, r46_26, r46_27, r46_28, r46_29, r46_32, r46_33, r46_36, r46_39, r46_40, r46_42, r46_43, r46_46, r46_49, r46_50, r46_51, r46_54, r46_57, r46_60, Cn_n, Cn_v, Cn_x, dp_0, dp_1, dp_2, dp_3, dp_4, okv_n, okv_i, okv_r, eq_self, true_and, and_true, Option.some.injEq, exists_eq_left', rgT, ixT, ixU, ↓if_pos, ↓if_neg, Int.toNat_natCast, bT0, bT1, g_4_0, g_4_1, g_4_2, g_4_3, g_4_4, g_4_5, g_4_6, g_4_7, g_4_8, s_4_8, g_4_9, s_4_9, g_4_10, s_4_10, g_4_11, s_4_11, g_4_12, s_4_12]
    suffices key2 : ∀ (d2 x : Nat) (cr rc rf qu : Nat → Int), x + d2 = r → PMT (A 6) r cr rc → (∀ x, x < r → cr x ≠ -1) → LFU (A 6) r cr x → Wp 46 41 [some (vR 4), some (.inl (x : Int))] [] (mk (hpl A cr rc rf qu) F q) Q by
      exact key2 r 0 _ _ _ _ (by omega) hp hyes (fun i hi => absurd hi (Nat.not_lt_zero i))
    intro d2
    induction d2 with
    | zero =>
      intro x cr rc rf qu hx hp hfull hlf
      obtain rfl : x = r := by omega
      rw [r46_41]
      simp (disch := omega) only [r46_0, r46_1, r46_4, r46_5, r46_8, r46_9, r46_12, r46_13, r46_16, r46_17, r46_19, r46_20, r46_23, r46_26, r46_27, r46_28, r46_29, r46_32, r46_33, r46_36, r46_39, r46_40, r46_42, r46_43, r46_46, r46_49, r46_50, r46_51, r46_54, r46_57, r46_60, Cn_n, Cn_v, Cn_x, dp_0, dp_1, dp_2, dp_3, dp_4, okv_n, okv_i, okv_r, eq_self, true_and, and_true, Option.some.injEq, exists_eq_left', rgT, ixT, ixU, ↓if_pos, ↓if_neg, Int.toNat_natCast, bT0, bT1, g_4_0, g_4_1, g_4_2, g_4_3, g_4_4, g_4_5, g_4_6, g_4_7, g_4_8, s_4_8, g_4_9, s_4_9, g_4_10, s_4_10, g_4_11, s_4_11, g_4_12, s_4_12]
      exact hQ _ _ _ _ hp hfull hlf
    | succ d2 ih2 =>
      intro x cr rc rf qu hx hp hfull hlf
      rw [r46_41]
      simp (disch := omega) only [r46_0, r46_1, r46_4, r46_5, r46_8, r46_9, r46_12, r46_13, r46_16, r46_17, r46_19, r46_20, r46_23, r46_26, r46_27, r46_28, r46_29, r46_32, r46_33, r46_36, r46_39, r46_40, r46_42, r46_43, r46_46, r46_49, r46_50, r46_51, r46_54, r46_57, r46_60, Cn_n, Cn_v, Cn_x, dp_0, dp_1, dp_2, dp_3, dp_4, okv_n, okv_i, okv_r, eq_self, true_and, and_true, Option.some.injEq, exists_eq_left', rgT, ixT, ixU, ↓if_pos, ↓if_neg, Int.toNat_natCast, bT0, bT1, g_4_0, g_4_1, g_4_2, g_4_3, g_4_4, g_4_5, g_4_6, g_4_7, g_4_8, s_4_8, g_4_9, s_4_9, g_4_10, s_4_10, g_4_11, s_4_11, g_4_12, s_4_12]
      refine sp_forward hn hn10 hW hp hfull (by omega) hlf (fun cr' rc' rf' qu' hp' hfull' hlf' => ?_)
      simp (disch := omega) only [r46_0, r46_1, r46_4, r46_5, r46_8, r46_9, r46_12, r46_13, r46_16, r46_17, r46_19, r46_20, r46_23, r46_26, r46_27, r46_28, r46_29, r46_32, r46_33, r46_36, r46_39, r46_40, r46_42, r46_43, r46_46, r46_49, r46_50, r46_51, r46_54, r46_57, r46_60, Cn_n, Cn_v, Cn_x, dp_0, dp_1, dp_2, dp_3, dp_4, okv_n, okv_i, okv_r, eq_self, true_and, and_true, Option.some.injEq, exists_eq_left', rgT, ixT, ixU, ↓if_pos, ↓if_neg, Int.toNat_natCast, bT0, bT1, g_4_0, g_4_1, g_4_2, g_4_3, g_4_4, g_4_5, g_4_6, g_4_7, g_4_8, s_4_8, g_4_9, s_4_9, g_4_10, s_4_10, g_4_11, s_4_11, g_4_12, s_4_12]
      exact ih2 (x + 1) cr' rc' rf' qu' (by omega) hp' hfull' hlf'
  | succ d ih =>
    intro r cr rc rf qu hd hp hyes hno
    rw [r46_18]
    simp (disch := omega) only [r46_0, r46_1, r46_4, r46_5, r46_8, r46_9, r46_12, r46_13, r46_16, r46_17, r46_19, r46_20, r46_23, r46_26, r46_27, r46_28, r46_29, r46_32, r46_33, r46_36, r46_39, r46_40, r46_42, r46_43, r46_46, r46_49, r46_50, r46_51, r46_54, r46_57, r46_60, Cn_n, Cn_v, Cn_x, dp_0, dp_1, dp_2, dp_3, dp_4, okv_n, okv_i, okv_r, eq_self, true_and, and_true, Option.some.injEq, exists_eq_left', rgT, ixT, ixU, ↓if_pos, ↓if_neg, Int.toNat_natCast, bT0, bT1, g_4_0, g_4_1, g_4_2, g_4_3, g_4_4, g_4_5, g_4_6, g_4_7, g_4_8, s_4_8, g_4_9, s_4_9, g_4_10, s_4_10, g_4_11, s_4_11, g_4_12, s_4_12]
    refine sp_seat hn hn10 hW hp (show r < n by omega) (hno r (Nat.le_refl _) (by omega)) (by omega) (by omega) (fun cr' rc' rf' qu' hw9 => ?_) (fun rf' qu' k nx col hbf hk => ?_)
    · simp (disch := omega) only [r46_0, r46_1, r46_4, r46_5, r46_8, r46_9, r46_12, r46_13, r46_16, r46_17, r46_19, r46_20, r46_23, r46_26, r46_27, r46_28, r46_29, r46_32, r46_33, r46_36, r46_39, r46_40, r46_42, r46_43, r46_46, r46_49, r46_50, r46_51, r46_54, r46_57, r46_60, Cn_n, Cn_v, Cn_x, dp_0, dp_1, dp_2, dp_3, dp_4, okv_n, okv_i, okv_r, eq_self, true_and, and_true, Option.some.injEq, exists_eq_left', rgT, ixT, ixU, ↓if_pos, ↓if_neg, Int.toNat_natCast, bT0, bT1, g_4_0, g_4_1, g_4_2, g_4_3, g_4_4, g_4_5, g_4_6, g_4_7, g_4_8, s_4_8, g_4_9, s_4_9, g_4_10, s_4_10, g_4_11, s_4_11, g_4_12, s_4_12]
      obtain ⟨v1, v2, v3, v4, v5⟩ := hw9
      refine ih (r + 1) cr' rc' rf' qu' (by omega) v1 (fun x hx => ?_) (fun x hx hxn => ?_)
      · by_cases hxr : x = r
        · subst hxr; exact v2
        · exact v4 x (by omega) (hyes x (by omega))
      · apply Classical.byContradiction
        intro h9
        rcases v5 x hxn h9 with h8 | h8
        · exact h8 (hno x (by omega) hxn)
        · omega
    · exact absurd (BF_bal hp hbf hk hL (fun r hr c hc => (hW r hr c hc).1) hrs hcs) (fun h => h)
end PICK2
