/-! what holds of a dispatching under way -/
abbrev DBM (t : Nat → Int) (J : Nat) (s : DS) (m : Nat) (u : Int) : Prop := ∃ j, j < J ∧ s.1 (5 * j + m) ≠ -1 ∧ s.1 (5 * j + m) ≤ u ∧ u < s.1 (5 * j + m) + t (5 * j + m)
abbrev DBJ (t : Nat → Int) (M : Nat) (s : DS) (j : Nat) (u : Int) : Prop := ∃ m, m < M ∧ s.1 (5 * j + m) ≠ -1 ∧ s.1 (5 * j + m) ≤ u ∧ u < s.1 (5 * j + m) + t (5 * j + m)
abbrev DLT (s : DS) (k l : Nat) : Prop := s.1 l = -1 ∨ s.1 k < s.1 l
abbrev DV1 (t : Nat → Int) (J M : Nat) (now : Int) (s : DS) : Prop := ∀ j, j < J → ∀ m, m < M → s.1 (5 * j + m) = -1 ∨ (0 ≤ s.1 (5 * j + m) ∧ s.1 (5 * j + m) ≤ now ∧ 0 < t (5 * j + m) ∧ s.1 (5 * j + m) + t (5 * j + m) ≤ s.2.1 j ∧ s.1 (5 * j + m) + t (5 * j + m) ≤ s.2.2 m)
abbrev DV2 (t : Nat → Int) (J M : Nat) (s : DS) : Prop := ∀ j, j < J → ∀ m, m < M → ∀ n, n < M → m ≠ n → s.1 (5 * j + m) ≠ -1 → s.1 (5 * j + n) ≠ -1 → s.1 (5 * j + m) + t (5 * j + m) ≤ s.1 (5 * j + n) ∨ s.1 (5 * j + n) + t (5 * j + n) ≤ s.1 (5 * j + m)
abbrev DV3 (t : Nat → Int) (J M : Nat) (s : DS) : Prop := ∀ m, m < M → ∀ j, j < J → ∀ i, i < J → j ≠ i → s.1 (5 * j + m) ≠ -1 → s.1 (5 * i + m) ≠ -1 → s.1 (5 * j + m) + t (5 * j + m) ≤ s.1 (5 * i + m) ∨ s.1 (5 * i + m) + t (5 * i + m) ≤ s.1 (5 * j + m)
abbrev DV4 (t : Nat → Int) (J M : Nat) (s : DS) : Prop := ∀ j, j < J → s.2.1 j = 0 ∨ ∃ m, m < M ∧ s.1 (5 * j + m) ≠ -1 ∧ s.2.1 j = s.1 (5 * j + m) + t (5 * j + m)
abbrev DV5 (t : Nat → Int) (J M : Nat) (s : DS) : Prop := ∀ m, m < M → s.2.2 m = 0 ∨ ∃ j, j < J ∧ s.1 (5 * j + m) ≠ -1 ∧ s.2.2 m = s.1 (5 * j + m) + t (5 * j + m)
abbrev DV6 (t : Nat → Int) (J M : Nat) (now : Int) (s : DS) : Prop := ∀ j, j < J → ∀ m, m < M → 0 < t (5 * j + m) → ∀ u : Int, 0 ≤ u → (s.1 (5 * j + m) = -1 → u < now) → (s.1 (5 * j + m) ≠ -1 → u < s.1 (5 * j + m)) → DBM t J s m u ∨ DBJ t M s j u
abbrev DV7 (t : Nat → Int) (J M : Nat) (al : Bool) (s : DS) : Prop := al = true → M = 2 → ∀ j, j < J → ∀ c, c < J → ∀ m n, m + n = 1 → s.1 (5 * j + m) ≠ -1 → 0 < t (5 * c + m) → 0 < t (5 * c + n) → DLT s (5 * j + m) (5 * c + m) → DLT s (5 * j + m) (5 * c + n) → t (5 * c + n) ≤ t (5 * j + n) ∧ DLT s (5 * j + m) (5 * j + n)
abbrev DV (t : Nat → Int) (J M : Nat) (al : Bool) (now : Int) (s : DS) : Prop := DV1 t J M now s ∧ DV2 t J M s ∧ DV3 t J M s ∧ DV4 t J M s ∧ DV5 t J M s ∧ DV6 t J M now s ∧ DV7 t J M al s
section DINV
variable {t : Nat → Int} {J M : Nat} {al : Bool} {now : Int} {s : DS} {m n c : Nat}
theorem DV_0 : DV t J M al 0 ds0 := ⟨fun _ _ _ _ => Or.inl rfl, fun _ _ _ _ _ _ _ h => absurd rfl h, fun _ _ _ _ _ _ _ h => absurd rfl h, fun _ _ => Or.inl rfl, fun _ _ => Or.inl rfl, fun _ _ _ _ _ u h0 h1 _ => absurd (h1 rfl) (by omega), fun _ _ _ _ _ _ _ _ _ h => absurd rfl h⟩
/-- a time of the choice -/
abbrev DG2 (t : Nat → Int) (J M : Nat) (al : Bool) (s : DS) (c n : Nat) : Prop := al = true → M = 2 → ∀ n2, n + n2 = 1 → ∀ e, e < J → s.1 (5 * e + n) = -1 → s.1 (5 * e + n2) = -1 → 0 < t (5 * e + n) → 0 < t (5 * e + n2) → t (5 * e + n2) ≤ t (5 * c + n2) ∧ s.1 (5 * c + n2) = -1
theorem DV_beg (hJ5 : J ≤ 5) (hM5 : M ≤ 5) (h0 : 0 ≤ now) (hv : DV t J M al now s) (hc : c < J) (hn : n < M) (hb : s.1 (5 * c + n) = -1) (ht : 0 < t (5 * c + n)) (hjf : s.2.1 c ≤ now) (hmf : s.2.2 n ≤ now) (hg : DG2 t J M al s c n) : DV t J M al now (uq s.1 (5 * c + n) now, uq s.2.1 c (now + t (5 * c + n)), uq s.2.2 n (now + t (5 * c + n))) := by
  obtain ⟨v1, v2, v3, v4, v5, v6, v7⟩ := hv
  have kne : ∀ j m, m < M → ¬ (j = c ∧ m = n) → uq s.1 (5 * c + n) now (5 * j + m) = s.1 (5 * j + m) := fun j m hm h => uq_n (by omega)
  have w1 : DV1 t J M now (uq s.1 (5 * c + n) now, uq s.2.1 c (now + t (5 * c + n)), uq s.2.2 n (now + t (5 * c + n))) := by
    intro j hj m hm
    simp only []
    by_cases h : j = c ∧ m = n
    · obtain ⟨rfl, rfl⟩ := h
      refine Or.inr ?_
      rw [uq_s, uq_s, uq_s]
      exact ⟨h0, Int.le_refl _, ht, Int.le_refl _, Int.le_refl _⟩
    · rw [kne j m hm h]
      rcases v1 j hj m hm with g | ⟨g1, g2, g3, g4, g5⟩
      · exact Or.inl g
      · refine Or.inr ⟨g1, g2, g3, ?_, ?_⟩
        · by_cases hjc : j = c
          · subst hjc; rw [uq_s]; omega
          · rw [uq_n hjc]; exact g4
        · by_cases hmn : m = n
          · subst hmn; rw [uq_s]; omega
          · rw [uq_n hmn]; exact g5
  have bm : ∀ m, m < M → ∀ u, DBM t J s m u → DBM t J (uq s.1 (5 * c + n) now, uq s.2.1 c (now + t (5 * c + n)), uq s.2.2 n (now + t (5 * c + n))) m u := by
    intro m hm u ⟨j, hj, g1, g2, g3⟩
    have h : ¬ (j = c ∧ m = n) := by
      rintro ⟨rfl, rfl⟩
      exact g1 hb
    refine ⟨j, hj, ?_⟩
    simp only []
    rw [kne j m hm h]
    exact ⟨g1, g2, g3⟩
  have bj : ∀ j, ∀ u, DBJ t M s j u → DBJ t M (uq s.1 (5 * c + n) now, uq s.2.1 c (now + t (5 * c + n)), uq s.2.2 n (now + t (5 * c + n))) j u := by
    intro j u ⟨m, hm, g1, g2, g3⟩
    have h : ¬ (j = c ∧ m = n) := by
      rintro ⟨rfl, rfl⟩
      exact g1 hb
    refine ⟨m, hm, ?_⟩
    simp only []
    rw [kne j m hm h]
    exact ⟨g1, g2, g3⟩
  refine ⟨w1, ?_, ?_, ?_, ?_, ?_, ?_⟩
  · intro j hj m hm n2 hn2 hmn
    simp only []
    by_cases h1 : j = c ∧ m = n
    · obtain ⟨rfl, rfl⟩ := h1
      rw [uq_s, kne j n2 hn2 (by omega)]
      intro _ g2
      rcases v1 j hj n2 hn2 with g | g
      · exact absurd g g2
      · exact Or.inr (by omega)
    · rw [kne j m hm h1]
      by_cases h2 : j = c ∧ n2 = n
      · obtain ⟨rfl, rfl⟩ := h2
        rw [uq_s]
        intro g1 _
        rcases v1 j hj m hm with g | g
        · exact absurd g g1
        · exact Or.inl (by omega)
      · rw [kne j n2 hn2 h2]
        exact v2 j hj m hm n2 hn2 hmn
  · intro m hm j hj i hi hji
    simp only []
    by_cases h1 : j = c ∧ m = n
    · obtain ⟨rfl, rfl⟩ := h1
      rw [uq_s, kne i m hm (by omega)]
      intro _ g2
      rcases v1 i hi m hm with g | g
      · exact absurd g g2
      · exact Or.inr (by omega)
    · rw [kne j m hm h1]
      by_cases h2 : i = c ∧ m = n
      · obtain ⟨rfl, rfl⟩ := h2
        rw [uq_s]
        intro g1 _
        rcases v1 j hj m hm with g | g
        · exact absurd g g1
        · exact Or.inl (by omega)
      · rw [kne i m hm h2]
        exact v3 m hm j hj i hi hji
  · intro j hj
    simp only []
    by_cases hjc : j = c
    · subst hjc
      refine Or.inr ⟨n, hn, ?_⟩
      rw [uq_s, uq_s]
      exact ⟨by omega, rfl⟩
    · rw [uq_n hjc]
      rcases v4 j hj with g | ⟨m, hm, g1, g2⟩
      · exact Or.inl g
      · refine Or.inr ⟨m, hm, ?_⟩
        rw [kne j m hm (by omega)]
        exact ⟨g1, g2⟩
  · intro m hm
    simp only []
    by_cases hmn : m = n
    · subst hmn
      refine Or.inr ⟨c, hc, ?_⟩
      rw [uq_s, uq_s]
      exact ⟨by omega, rfl⟩
    · rw [uq_n hmn]
      rcases v5 m hm with g | ⟨j, hj, g1, g2⟩
      · exact Or.inl g
      · refine Or.inr ⟨j, hj, ?_⟩
        rw [kne j m hm (by omega)]
        exact ⟨g1, g2⟩
  · intro j hj m hm htk u hu
    simp only []
    have key : (s.1 (5 * j + m) = -1 → u < now) → (s.1 (5 * j + m) ≠ -1 → u < s.1 (5 * j + m)) → DBM t J (uq s.1 (5 * c + n) now, uq s.2.1 c (now + t (5 * c + n)), uq s.2.2 n (now + t (5 * c + n))) m u ∨ DBJ t M (uq s.1 (5 * c + n) now, uq s.2.1 c (now + t (5 * c + n)), uq s.2.2 n (now + t (5 * c + n))) j u := by
      intro g1 g2
      rcases v6 j hj m hm htk u hu g1 g2 with g | g
      · exact Or.inl (bm m hm u g)
      · exact Or.inr (bj j u g)
    by_cases h : j = c ∧ m = n
    · obtain ⟨rfl, rfl⟩ := h
      rw [uq_s]
      intro _ g2
      exact key (fun _ => g2 (by omega)) (fun g => absurd hb g)
    · rw [kne j m hm h]
      exact key
  · intro hal hM2 j hj e he m m2 hmm
    have hm : m < M := by omega
    have hm2 : m2 < M := by omega
    simp only [DLT]
    by_cases h : j = c ∧ m = n
    · obtain ⟨rfl, rfl⟩ := h
      rw [uq_s, kne j m2 hm2 (by omega)]
      intro _ t1 t2 l1 l2
      have hej : e ≠ j := by
        intro h9
        subst h9
        rw [uq_s] at l1
        omega
      rw [kne e m hm (by omega)] at l1
      rw [kne e m2 hm2 (by omega)] at l2
      have d1 : s.1 (5 * e + m) = -1 := by
        rcases l1 with l1 | l1
        · exact l1
        · rcases v1 e he m hm with g | g <;> omega
      have d2 : s.1 (5 * e + m2) = -1 := by
        rcases l2 with l2 | l2
        · exact l2
        · rcases v1 e he m2 hm2 with g | g <;> omega
      obtain ⟨g1, g2⟩ := hg hal hM2 m2 hmm e he d1 d2 t1 t2
      exact ⟨g1, Or.inl g2⟩
    · rw [kne j m hm h]
      intro b1 t1 t2 l1 l2
      have b9 := v1 j hj m hm
      have d1 : DLT s (5 * j + m) (5 * e + m) := by
        by_cases h9 : e = c ∧ m = n
        · obtain ⟨rfl, rfl⟩ := h9
          exact Or.inl hb
        · rw [kne e m hm h9] at l1
          exact l1
      have d2 : DLT s (5 * j + m) (5 * e + m2) := by
        by_cases h9 : e = c ∧ m2 = n
        · obtain ⟨rfl, rfl⟩ := h9
          exact Or.inl hb
        · rw [kne e m2 hm2 h9] at l2
          exact l2
      obtain ⟨g1, g2⟩ := v7 hal hM2 j hj e he m m2 hmm b1 t1 t2 d1 d2
      refine ⟨g1, ?_⟩
      by_cases h9 : j = c ∧ m2 = n
      · obtain ⟨rfl, rfl⟩ := h9
        rw [uq_s]
        rcases b9 with b9 | b9
        · exact absurd b9 b1
        · exact Or.inr (by omega)
      · rw [kne j m2 hm2 h9]
        exact g2
theorem dcho_top : ∀ {n : Nat}, ∀ j, j < n → s.2.1 j ≤ now → dwt t s.1 (5 * j + m) ≠ 0 → dwg t s.1 al j m ≤ (dcho t m now al s n).2
  | 0, j, hj, _, _ => absurd hj (Nat.not_lt_zero j)
  | n + 1, j, hj, h1, h2 => by
    simp only [dcho]
    by_cases hc : s.2.1 n ≤ now ∧ dwt t s.1 (5 * n + m) ≠ 0 ∧ (dcho t m now al s n).2 < dwg t s.1 al n m
    · rw [if_pos hc]
      by_cases hjn : j = n
      · subst hjn; exact Int.le_refl _
      · have h9 := dcho_top (n := n) j (by omega) h1 h2
        have h8 := hc.2.2
        show dwg t s.1 al j m ≤ dwg t s.1 al n m
        omega
    · rw [if_neg hc]
      by_cases hjn : j = n
      · subst hjn
        apply Classical.byContradiction
        intro h9
        exact hc ⟨h1, h2, by omega⟩
      · exact dcho_top (n := n) j (by omega) h1 h2
theorem dcho_wt : ∀ {n : Nat} (c : Nat), (dcho t m now al s n).1 = (c : Int) → (dcho t m now al s n).2 = dwg t s.1 al c m
  | 0, c, h => by
    have h9 : (-1 : Int) = (c : Int) := h
    omega
  | n + 1, c, h => by
    simp only [dcho] at h ⊢
    by_cases hc : s.2.1 n ≤ now ∧ dwt t s.1 (5 * n + m) ≠ 0 ∧ (dcho t m now al s n).2 < dwg t s.1 al n m
    · rw [if_pos hc] at h ⊢
      have h9 : (n : Int) = (c : Int) := h
      obtain rfl : n = c := by omega
      rfl
    · rw [if_neg hc] at h ⊢
      exact dcho_wt (n := n) c h
theorem dwt_b {b : Nat → Int} {k : Nat} (h : dwt t b k ≠ 0) : b k = -1 ∧ dwt t b k = t k := by
  unfold dwt at h ⊢
  by_cases hb : b k = -1
  · rw [if_pos hb]; exact ⟨hb, rfl⟩
  · rw [if_neg hb] at h; exact absurd rfl h
theorem dwt_u {b : Nat → Int} {k : Nat} (h : b k = -1) : dwt t b k = t k := by
  unfold dwt
  rw [if_pos h]
theorem dstp_DV (ht : TOK t) (hJ5 : J ≤ 5) (hM5 : M ≤ 5) (h0 : 0 ≤ now) (hn : n < M) (hv : DV t J M al now s) : DV t J M al now (dstp t J al now n s) := by
  unfold dstp
  by_cases hf : s.2.2 n ≤ now
  · rw [if_pos hf]
    obtain ⟨-, -, h2⟩ := @dcho_is t al now s n ht J hJ5
    rcases h2 with ⟨g1, -, g3⟩ | ⟨c, g1, g2, g3, g4⟩
    · rw [g1]
      unfold dbeg
      rw [if_pos rfl]
      exact hv
    · have w9 := dcho_wt c g1
      rw [g1]
      unfold dbeg
      rw [if_neg (by omega)]
      simp only [Int.toNat_natCast]
      obtain ⟨b1, b2⟩ := dwt_b g4
      have b3 := ht (5 * c + n) (by omega)
      refine DV_beg hJ5 hM5 h0 hv g2 hn b1 (by omega) g3 hf ?_
      intro hal hM2 n2 hnn e he e1 e2 t1 t2
      subst hal
      have hjf : s.2.1 e ≤ now := by
        rcases hv.2.2.2.1 e he with g | ⟨m, hm, g5, g6⟩
        · omega
        · rcases (show m = n ∨ m = n2 by omega) with rfl | rfl
          · exact absurd e1 g5
          · exact absurd e2 g5
      have w8 := dcho_top (t := t) (m := n) (al := true) (n := J) e he hjf (by rw [dwt_u e1]; omega)
      rw [w9] at w8
      unfold dwg at w8
      rw [if_pos rfl, if_pos rfl, show 1 - n = n2 by omega, dwt_u e2] at w8
      have w7 : dwt t s.1 (5 * c + n2) ≠ 0 := by omega
      obtain ⟨b4, b5⟩ := dwt_b w7
      exact ⟨by omega, b4⟩
  · rw [if_neg hf]
    exact hv
theorem drnd_DV (ht : TOK t) (hJ5 : J ≤ 5) (hM5 : M ≤ 5) (h0 : 0 ≤ now) (hv : DV t J M al now s) : ∀ {n : Nat}, n ≤ M → DV t J M al now (drnd t J al now s n)
  | 0, _ => hv
  | n + 1, hn => dstp_DV ht hJ5 hM5 h0 (by omega) (drnd_DV ht hJ5 hM5 h0 hv (n := n) (by omega))
theorem DV_adv {e : Int} (h0 : 0 ≤ now) (hi : DI t J M now M s) (hv : DV t J M al now s) (he : now < e) (hnx : ∀ m, m < M → now < s.2.2 m → e ≤ s.2.2 m) : DV t J M al e s := by
  obtain ⟨v1, v2, v3, v4, v5, v6, v7⟩ := hv
  refine ⟨fun j hj m hm => ?_, v2, v3, v4, v5, fun j hj m hm htk u hu g1 g2 => ?_, v7⟩
  · rcases v1 j hj m hm with g | g
    · exact Or.inl g
    · exact Or.inr (by omega)
  · by_cases hb : s.1 (5 * j + m) = -1
    · by_cases hun : u < now
      · exact v6 j hj m hm htk u hu (fun _ => hun) g2
      · have hue := g1 hb
        by_cases h1 : s.2.2 m ≤ u
        · by_cases h2 : s.2.1 j ≤ u
          · have h9 := dsat_up hi (u := u) (e := e) (by omega) hue hnx j hj m hm h1 h2
            rw [dwt_u hb] at h9
            omega
          · refine Or.inr ?_
            rcases v4 j hj with g | ⟨m2, hm2, g3, g4⟩
            · omega
            · refine ⟨m2, hm2, g3, ?_, by omega⟩
              rcases v1 j hj m2 hm2 with g | g
              · exact absurd g g3
              · omega
        · refine Or.inl ?_
          rcases v5 m hm with g | ⟨j2, hj2, g3, g4⟩
          · omega
          · refine ⟨j2, hj2, g3, ?_, by omega⟩
            rcases v1 j2 hj2 m hm with g | g
            · exact absurd g g3
            · omega
    · exact v6 j hj m hm htk u hu (fun g => absurd g hb) g2
theorem dclo_DV (ht : TOK t) (hJ5 : J ≤ 5) (hM5 : M ≤ 5) : ∀ {f : Nat} {now : Int} {s : DS}, 0 ≤ now → DV t J M al now s → DI t J M now 0 s → dlc t J M s.1 + dac now s.2.2 + 1 ≤ f → ∃ e, DV t J M al e (dclo t J M al f now s) ∧ dlc t J M (dclo t J M al f now s).1 = 0 ∧ ∀ m, M ≤ m → (dclo t J M al f now s).2.2 m = 0
  | 0, now, s, _, _, _, h => by omega
  | f + 1, now, s, h0, hv, hi, h => by
    have hv1 := drnd_DV (al := al) ht hJ5 hM5 h0 hv (n := M) (Nat.le_refl M)
    obtain ⟨hi1, hc1⟩ := drnd_ok (al := al) ht hJ5 hM5 h0 hi (n := M) (Nat.le_refl M)
    simp only [dclo]
    rw [if_neg (by omega)]
    generalize drnd t J al now s M = s1 at hv1 hi1 hc1 ⊢
    by_cases hl : dlc t J M s1.1 = 0
    · rw [dclo_0 ht hJ5 hM5 hl]
      exact ⟨now, hv1, hl, hi1.2.2.2⟩
    · rcases @dnx_is now s1.2.2 h0 5 with ⟨g1, g2⟩ | ⟨g1, ⟨m9, g2, g3⟩, g4⟩
      · obtain ⟨m, hm, h9⟩ := dbusy hi1 ht hJ5 hM5 (by omega)
        have := g2 m (by omega)
        omega
      · have h8 := dac_up (mf := s1.2.2) g1 g2 g3
        exact dclo_DV ht hJ5 hM5 (by omega) (DV_adv h0 hi1 hv1 g1 (fun m hm h9 => g4 m (by omega) h9)) (DI_up hi1 g1) (by omega)
end DINV
