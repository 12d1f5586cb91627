/-! the plans without interruptions, at their end -/
abbrev PF1 (t : Nat → Int) (J M : Nat) (b : Nat → Int) : Prop := ∀ j, j < J → ∀ m, m < M → (t (5 * j + m) = 0 ∧ b (5 * j + m) = -1) ∨ (0 < t (5 * j + m) ∧ 0 ≤ b (5 * j + m))
abbrev PF2 (t : Nat → Int) (J M : Nat) (b : Nat → Int) : Prop := ∀ j, j < J → ∀ m, m < M → ∀ n, n < M → m ≠ n → 0 < t (5 * j + m) → 0 < t (5 * j + n) → b (5 * j + m) + t (5 * j + m) ≤ b (5 * j + n) ∨ b (5 * j + n) + t (5 * j + n) ≤ b (5 * j + m)
abbrev PF3 (t : Nat → Int) (J M : Nat) (b : Nat → Int) : Prop := ∀ m, m < M → ∀ j, j < J → ∀ i, i < J → j ≠ i → 0 < t (5 * j + m) → 0 < t (5 * i + m) → b (5 * j + m) + t (5 * j + m) ≤ b (5 * i + m) ∨ b (5 * i + m) + t (5 * i + m) ≤ b (5 * j + m)
abbrev PF4 (t : Nat → Int) (J M : Nat) (b : Nat → Int) : Prop := ∀ j, j < J → ∀ m, m < M → 0 < t (5 * j + m) → ∀ u : Int, 0 ≤ u → u < b (5 * j + m) → (∃ i, i < J ∧ b (5 * i + m) ≤ u ∧ u < b (5 * i + m) + t (5 * i + m)) ∨ (∃ n, n < M ∧ b (5 * j + n) ≤ u ∧ u < b (5 * j + n) + t (5 * j + n))
abbrev PF5 (t : Nat → Int) (J : Nat) (b : Nat → Int) : Prop := ∀ j, j < J → ∀ c, c < J → ∀ m n, m + n = 1 → 0 < t (5 * j + m) → 0 < t (5 * c + m) → 0 < t (5 * c + n) → b (5 * j + m) < b (5 * c + m) → b (5 * j + m) < b (5 * c + n) → t (5 * c + n) ≤ t (5 * j + n) ∧ b (5 * j + m) < b (5 * j + n)
abbrev PF6 (t : Nat → Int) (J M : Nat) (b : Nat → Int) (L : Int) : Prop := 0 ≤ L ∧ (∀ j, j < J → ∀ m, m < M → 0 < t (5 * j + m) → b (5 * j + m) + t (5 * j + m) ≤ L) ∧ (L = 0 ∨ ∃ j m, j < J ∧ m < M ∧ 0 < t (5 * j + m) ∧ L = b (5 * j + m) + t (5 * j + m))
abbrev PFx (t : Nat → Int) (J M : Nat) (b : Nat → Int) (L : Int) : Prop := PF1 t J M b ∧ PF2 t J M b ∧ PF3 t J M b ∧ PF4 t J M b ∧ PF6 t J M b L
section DFIN
variable {t b : Nat → Int} {J M : Nat} {al : Bool} {L : Int} {s : DS} {now : Int}
theorem dac_0 : dac 0 ds0.2.2 = 0 := by
  unfold dac
  exact (ncnt_congr (r := fun _ => false) (fun _ _ => rfl)).trans ncnt_false
theorem DV_PF (ht : TOK t) (hJ5 : J ≤ 5) (hM5 : M ≤ 5) (hv : DV t J M al now s) (hl : dlc t J M s.1 = 0) (hm0 : ∀ m, M ≤ m → s.2.2 m = 0) : PFx t J M s.1 (imax s.2.2 0 5) ∧ (al = true → M = 2 → PF5 t J s.1) := by
  obtain ⟨v1, v2, v3, v4, v5, v6, v7⟩ := hv
  have p1 : PF1 t J M s.1 := by
    intro j hj m hm
    have h9 := ht (5 * j + m) (by omega)
    rcases v1 j hj m hm with g | g
    · have h8 := dlc_0 ht hJ5 hM5 hl j hj m hm
      rw [dwt_u g] at h8
      exact Or.inl ⟨h8, g⟩
    · exact Or.inr ⟨g.2.2.1, g.1⟩
  have nb : ∀ j, j < J → ∀ m, m < M → 0 < t (5 * j + m) → s.1 (5 * j + m) ≠ -1 := by
    intro j hj m hm h
    rcases p1 j hj m hm with g | g <;> omega
  obtain ⟨x1, x2⟩ := @imax_ge s.2.2 0 5
  refine ⟨⟨p1, fun j hj m hm n hn hmn h1 h2 => v2 j hj m hm n hn hmn (nb j hj m hm h1) (nb j hj n hn h2), fun m hm j hj i hi hji h1 h2 => v3 m hm j hj i hi hji (nb j hj m hm h1) (nb i hi m hm h2), fun j hj m hm h1 u hu hub => ?_, x1, fun j hj m hm h1 => ?_, ?_⟩, fun hal hM2 j hj c hc m n hmn h1 h2 h3 h4 h5 => ?_⟩
  · rcases v6 j hj m hm h1 u hu (fun g => absurd g (nb j hj m hm h1)) (fun _ => hub) with ⟨i, hi, -, g⟩ | ⟨n, hn, -, g⟩
    · exact Or.inl ⟨i, hi, g⟩
    · exact Or.inr ⟨n, hn, g⟩
  · have h9 := x2 m (by omega)
    rcases v1 j hj m hm with g | g
    · exact absurd g (nb j hj m hm h1)
    · omega
  · rcases @imax_is s.2.2 0 5 with h | ⟨m, hm, h⟩
    · exact Or.inl h
    · by_cases hmM : m < M
      · rcases v5 m hmM with g | ⟨j, hj, g1, g2⟩
        · exact Or.inl (by omega)
        · refine Or.inr ⟨j, m, hj, hmM, ?_, by omega⟩
          rcases v1 j hj m hmM with g | g
          · exact absurd g g1
          · exact g.2.2.1
      · have := hm0 m (by omega)
        exact Or.inl (by omega)
  · have hm : m < M := by omega
    have hn : n < M := by omega
    obtain ⟨g1, g2⟩ := v7 hal hM2 j hj c hc m n hmn (nb j hj m hm h1) h2 h3 (Or.inr h4) (Or.inr h5)
    refine ⟨g1, ?_⟩
    rcases g2 with g2 | g2
    · exact absurd g2 (nb j hj n hn (by omega))
    · exact g2
theorem fin_PF (ht : TOK t) (hJ5 : J ≤ 5) (hM5 : M ≤ 5) : PFx t J M (dclo t J M al 26 0 ds0).1 (imax (dclo t J M al 26 0 ds0).2.2 0 5) ∧ (al = true → M = 2 → PF5 t J (dclo t J M al 26 0 ds0).1) := by
  have h1 : dlc t J M ds0.1 + dac 0 ds0.2.2 + 1 ≤ 26 := by
    rw [dac_0]
    have h9 : dlc t J M ds0.1 ≤ 25 := ncnt_le
    omega
  obtain ⟨e, h2, h3, h4⟩ := dclo_DV (al := al) ht hJ5 hM5 (Int.le_refl 0) DV_0 ds0_DI h1
  exact DV_PF ht hJ5 hM5 h2 h3 h4
theorem PF_ge (ht : TOK t) (hJ5 : J ≤ 5) (hM5 : M ≤ 5) (h : PFx t J M b L) : bnd t J M ≤ L := by
  obtain ⟨p1, p2, p3, p4, p6, p7, p8⟩ := h
  have hL : ((L.toNat : Nat) : Int) = L := by omega
  refine bnd_le p6 (fun j hj => ?_) (fun m hm => ?_)
  · have h9 := pack (b := fun m => b (5 * j + m)) (l := fun m => t (5 * j + m)) (n := M) (C := L.toNat) (fun m hm => (ht (5 * j + m) (by omega)).1) (fun m hm h1 => by
      have g1 := p7 j hj m hm h1
      rcases p1 j hj m hm with g | g
      · omega
      · rw [hL]; exact ⟨g.2, g1⟩) (fun m hm n hn hmn h1 h2 => p2 j hj m hm n hn hmn h1 h2)
    rw [hL] at h9
    exact h9
  · have h9 := pack (b := fun j => b (5 * j + m)) (l := fun j => t (5 * j + m)) (n := J) (C := L.toNat) (fun j hj => (ht (5 * j + m) (by omega)).1) (fun j hj h1 => by
      have g1 := p7 j hj m hm h1
      rcases p1 j hj m hm with g | g
      · omega
      · rw [hL]; exact ⟨g.2, g1⟩) (fun j hj i hi hji h1 h2 => p3 m hm j hj i hi hji h1 h2)
    rw [hL] at h9
    exact h9
theorem PF_pos (p1 : PF1 t J M b) {j m : Nat} (hj : j < J) (hm : m < M) (h : 0 < t (5 * j + m)) : 0 ≤ b (5 * j + m) := by
  rcases p1 j hj m hm with g | g <;> omega
theorem PF_dense (ht : TOK t) (hJ5 : J ≤ 5) (hM5 : M ≤ 5) (h : PFx t J M b L) : L ≤ 2 * bnd t J M - (if 0 < L then 1 else 0) := by
  obtain ⟨p1, p2, p3, p4, p6, p7, p8⟩ := h
  obtain ⟨q1, q2, q3⟩ := @bnd_ge J M t
  rcases p8 with h0 | ⟨j, m, hj, hm, h1, h2⟩
  · rw [h0, if_neg (by decide)]
    omega
  · have hb := PF_pos p1 hj hm h1
    have hS : (((b (5 * j + m)).toNat : Nat) : Int) = b (5 * j + m) := by omega
    have k1 := cover (b1 := fun i => b (5 * i + m)) (l1 := fun i => if i = j then 0 else t (5 * i + m)) (b2 := fun n => b (5 * j + n)) (l2 := fun n => if n = m then 0 else t (5 * j + n)) (n1 := J) (n2 := M) (S := (b (5 * j + m)).toNat) (fun i hi => by
      by_cases h9 : i = j
      · rw [if_pos h9]; exact ⟨Int.le_refl _, fun h8 => absurd h8 (by decide)⟩
      · rw [if_neg h9]; exact ⟨(ht (5 * i + m) (by omega)).1, fun h8 => PF_pos p1 hi hm h8⟩) (fun n hn => by
      by_cases h9 : n = m
      · rw [if_pos h9]; exact ⟨Int.le_refl _, fun h8 => absurd h8 (by decide)⟩
      · rw [if_neg h9]; exact ⟨(ht (5 * j + n) (by omega)).1, fun h8 => PF_pos p1 hj hn h8⟩) (fun u hu => by
      rcases p4 j hj m hm h1 (u : Int) (by omega) (by omega) with ⟨i, hi, g1, g2⟩ | ⟨n, hn, g1, g2⟩
      · refine Or.inl ⟨i, hi, g1, ?_⟩
        rw [if_neg (by intro h9; subst h9; omega)]
        exact g2
      · refine Or.inr ⟨n, hn, g1, ?_⟩
        rw [if_neg (by intro h9; subst h9; omega)]
        exact g2)
    rw [isum_skip (l := fun i => t (5 * i + m)) hj, isum_skip (l := fun n => t (5 * j + n)) hm, hS] at k1
    have k2 := q2 j hj
    have k3 := q3 m hm
    unfold rowS at k2
    unfold colS at k3
    by_cases h9 : 0 < L
    · rw [if_pos h9]; omega
    · rw [if_neg h9]; omega
theorem PF_alter (ht : TOK t) (hJ5 : J ≤ 5) (h : PFx t J 2 b L) (p5 : PF5 t J b) : L ≤ bnd t J 2 := by
  obtain ⟨p1, p2, p3, p4, p6, p7, p8⟩ := h
  obtain ⟨q1, q2, q3⟩ := @bnd_ge J 2 t
  rcases p8 with h0 | ⟨c, x, hc, hx, h1, h2⟩
  · omega
  · have hS0 := PF_pos p1 hc hx h1
    by_cases hA : ∃ u : Int, 0 ≤ u ∧ u < b (5 * c + x) ∧ ∀ i, i < J → ¬ (b (5 * i + x) ≤ u ∧ u < b (5 * i + x) + t (5 * i + x))
    · obtain ⟨u0, hu0, hu1, hidle⟩ := hA
      obtain ⟨y, hxy⟩ : ∃ y : Nat, x + y = 1 := ⟨1 - x, by omega⟩
      have hy : y < 2 := by omega
      have cy : b (5 * c + y) ≤ u0 ∧ u0 < b (5 * c + y) + t (5 * c + y) := by
        rcases p4 c hc x hx h1 u0 hu0 hu1 with ⟨i, hi, g⟩ | ⟨n, hn, g⟩
        · exact absurd g (hidle i hi)
        · rcases (show n = x ∨ n = y by omega) with rfl | rfl
          · omega
          · exact g
      have hqc : 0 < t (5 * c + y) := by omega
      have hSb := PF_pos p1 hc hy hqc
      have hdone : ∀ i, i < J → i ≠ c → 0 < t (5 * i + x) → b (5 * i + x) + t (5 * i + x) ≤ u0 := by
        intro i hi hic hti
        have h9 := hidle i hi
        by_cases h8 : b (5 * i + x) ≤ u0
        · omega
        · rcases p4 i hi x hx hti u0 hu0 (by omega) with ⟨k, hk, g⟩ | ⟨n, hn, g⟩
          · exact absurd g (hidle k hk)
          · rcases (show n = x ∨ n = y by omega) with rfl | rfl
            · omega
            · have := p3 n hy i hi c hc hic (by omega) hqc
              omega
      have hSle : b (5 * c + x) ≤ b (5 * c + y) + t (5 * c + y) := by
        apply Classical.byContradiction
        intro h9
        rcases p4 c hc x hx h1 (b (5 * c + y) + t (5 * c + y)) (by omega) (by omega) with ⟨k, hk, g1, g2⟩ | ⟨n, hn, g1, g2⟩
        · by_cases hkc : k = c
          · subst hkc; omega
          · have := hdone k hk hkc (by omega)
            omega
        · rcases (show n = x ∨ n = y by omega) with rfl | rfl <;> omega
      by_cases hz : b (5 * c + y) = 0
      · have k2 := q2 c hc
        have e9 : rowS t 2 c = t (5 * c + x) + t (5 * c + y) := by
          have e8 : rowS t 2 c = 0 + t (5 * c + 0) + t (5 * c + 1) := rfl
          rw [e8]
          rcases (show (x = 0 ∧ y = 1) ∨ (x = 1 ∧ y = 0) by omega) with ⟨rfl, rfl⟩ | ⟨rfl, rfl⟩ <;> omega
        omega
      · obtain ⟨j1, hj1, a1, a2⟩ : ∃ i, i < J ∧ b (5 * i + y) ≤ 0 ∧ 0 < b (5 * i + y) + t (5 * i + y) := by
          rcases p4 c hc y hy hqc 0 (Int.le_refl _) (by omega) with g | ⟨n, hn, g1, g2⟩
          · exact g
          · rcases (show n = x ∨ n = y by omega) with rfl | rfl <;> omega
        obtain ⟨j0, hj0, a3, a4⟩ : ∃ i, i < J ∧ b (5 * i + x) ≤ 0 ∧ 0 < b (5 * i + x) + t (5 * i + x) := by
          rcases p4 c hc x hx h1 0 (Int.le_refl _) (by omega) with g | ⟨n, hn, g1, g2⟩
          · exact g
          · rcases (show n = x ∨ n = y by omega) with rfl | rfl <;> omega
        have t1 : 0 < t (5 * j1 + y) := by omega
        have t0 : 0 < t (5 * j0 + x) := by omega
        have b1 := PF_pos p1 hj1 hy t1
        have b0 := PF_pos p1 hj0 hx t0
        obtain ⟨w1, w2⟩ := p5 j0 hj0 c hc x y hxy t0 h1 hqc (by omega) (by omega)
        obtain ⟨w3, w4⟩ := p5 j1 hj1 c hc y x (by omega) t1 hqc h1 (by omega) (by omega)
        have z0 : b (5 * c + y) ≤ b (5 * j0 + y) := by
          apply Classical.byContradiction
          intro h9
          obtain ⟨-, g⟩ := p5 j0 hj0 c hc y x (by omega) (by omega) hqc h1 (by omega) (by omega)
          omega
        have z1 : b (5 * c + y) ≤ b (5 * j1 + x) := by
          apply Classical.byContradiction
          intro h9
          obtain ⟨-, g⟩ := p5 j1 hj1 c hc x y hxy (by omega) h1 hqc (by omega) (by omega)
          omega
        have hj1c : j1 ≠ c := by intro h9; subst h9; omega
        have hj0c : j0 ≠ c := by intro h9; subst h9; omega
        have z2 := hdone j1 hj1 hj1c (by omega)
        have hSS : (((b (5 * c + y)).toNat : Nat) : Int) = b (5 * c + y) := by omega
        have k1 := cover (b1 := fun i => b (5 * i + y)) (l1 := fun i => if i = c then 0 else if i = j0 then 0 else t (5 * i + y)) (b2 := fun _ => 0) (l2 := fun _ => 0) (n1 := J) (n2 := 0) (S := (b (5 * c + y)).toNat) (fun i hi => by
          by_cases h9 : i = c
          · rw [if_pos h9]; exact ⟨Int.le_refl _, fun h8 => absurd h8 (by decide)⟩
          · rw [if_neg h9]
            by_cases h7 : i = j0
            · rw [if_pos h7]; exact ⟨Int.le_refl _, fun h8 => absurd h8 (by decide)⟩
            · rw [if_neg h7]; exact ⟨(ht (5 * i + y) (by omega)).1, fun h8 => PF_pos p1 hi hy h8⟩) (fun i hi => absurd hi (Nat.not_lt_zero i)) (fun u hu => by
          rcases p4 c hc y hy hqc (u : Int) (by omega) (by omega) with ⟨i, hi, g1, g2⟩ | ⟨n, hn, g1, g2⟩
          · refine Or.inl ⟨i, hi, g1, ?_⟩
            rw [if_neg (by intro h9; subst h9; omega), if_neg (by intro h9; subst h9; omega)]
            exact g2
          · rcases (show n = x ∨ n = y by omega) with rfl | rfl <;> omega)
        rw [isum_skip (l := fun i => if i = j0 then 0 else t (5 * i + y)) hc, isum_skip (l := fun i => t (5 * i + y)) hj0, if_neg (fun z => hj0c z.symm), hSS] at k1
        have k3 := q3 y hy
        unfold colS at k3
        have k4 : isum (fun _ => (0 : Int)) 0 = 0 := rfl
        omega
    · have hS : (((b (5 * c + x)).toNat : Nat) : Int) = b (5 * c + x) := by omega
      have k1 := cover (b1 := fun i => b (5 * i + x)) (l1 := fun i => if i = c then 0 else t (5 * i + x)) (b2 := fun _ => 0) (l2 := fun _ => 0) (n1 := J) (n2 := 0) (S := (b (5 * c + x)).toNat) (fun i hi => by
        by_cases h9 : i = c
        · rw [if_pos h9]; exact ⟨Int.le_refl _, fun h8 => absurd h8 (by decide)⟩
        · rw [if_neg h9]; exact ⟨(ht (5 * i + x) (by omega)).1, fun h8 => PF_pos p1 hi hx h8⟩) (fun i hi => absurd hi (Nat.not_lt_zero i)) (fun u hu => by
        apply Classical.byContradiction
        intro h9
        refine hA ⟨(u : Int), by omega, by omega, fun i hi h8 => h9 (Or.inl ⟨i, hi, h8.1, ?_⟩)⟩
        rw [if_neg (by intro h7; subst h7; omega)]
        exact h8.2)
      rw [isum_skip (l := fun i => t (5 * i + x)) hc, hS] at k1
      have k3 := q3 x hx
      unfold colS at k3
      have k4 : isum (fun _ => (0 : Int)) 0 = 0 := rfl
      omega
end DFIN
