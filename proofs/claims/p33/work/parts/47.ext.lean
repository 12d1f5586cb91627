/-! which sets of columns can be completed -/
def anyc (p : Nat → Bool) : Nat → Bool
  | 0 => false
  | n + 1 => anyc p n || p n
theorem anyc_iff {p : Nat → Bool} : ∀ {n : Nat}, anyc p n = true ↔ ∃ c, c < n ∧ p c = true
  | 0 => ⟨fun h => (by cases h), fun ⟨c, h, _⟩ => absurd h (Nat.not_lt_zero c)⟩
  | n + 1 => by
    simp only [anyc, Bool.or_eq_true]
    rw [anyc_iff (n := n)]
    constructor
    · rintro (⟨c, h1, h2⟩ | h)
      · exact ⟨c, by omega, h2⟩
      · exact ⟨n, by omega, h⟩
    · rintro ⟨c, h1, h2⟩
      by_cases hcn : c = n
      · subst hcn; exact Or.inr h2
      · exact Or.inl ⟨c, by omega, h2⟩
/-- the last k of n rows find columns outside the set -/
def ext (W : Nat → Int) (n : Nat) : Nat → Nat → Bool
  | 0, _ => true
  | k + 1, s => anyc (fun c => !(s.testBit c) && (decide (0 < W (10 * (n - (k + 1)) + c)) && ext W n k (s ||| 2 ^ c))) n
theorem ext_iff {W : Nat → Int} {n k s : Nat} : ext W n (k + 1) s = true ↔ ∃ c, c < n ∧ s.testBit c = false ∧ 0 < W (10 * (n - (k + 1)) + c) ∧ ext W n k (s ||| 2 ^ c) = true := by
  simp only [ext]
  rw [anyc_iff]
  constructor
  · rintro ⟨c, h1, h2⟩
    simp only [Bool.and_eq_true, decide_eq_true_eq, Bool.not_eq_true'] at h2
    exact ⟨c, h1, h2⟩
  · rintro ⟨c, h1, h2⟩
    refine ⟨c, h1, ?_⟩
    simp only [Bool.and_eq_true, decide_eq_true_eq, Bool.not_eq_true']
    exact h2
theorem tb_or {s c d : Nat} : (s ||| 2 ^ c).testBit d = (s.testBit d || decide (c = d)) := by
  rw [Nat.testBit_or, Nat.testBit_two_pow]
theorem ext_sound {W : Nat → Int} {n : Nat} : ∀ {k s : Nat}, k ≤ n → ext W n k s = true → ∃ tau : Nat → Nat, (∀ i, n - k ≤ i → i < n → tau i < n ∧ s.testBit (tau i) = false ∧ 0 < W (10 * i + tau i)) ∧ (∀ i, n - k ≤ i → i < n → ∀ j, n - k ≤ j → j < n → tau i = tau j → i = j)
  | 0, s, _, _ => ⟨fun _ => 0, fun i h1 h2 => by omega, fun i h1 h2 => by omega⟩
  | k + 1, s, hk, h => by
    obtain ⟨c, h1, h2, h3, h4⟩ := ext_iff.mp h
    obtain ⟨tau, t1, t2⟩ := ext_sound (k := k) (by omega) h4
    have t3 : ∀ i, n - k ≤ i → i < n → s.testBit (tau i) = false ∧ tau i ≠ c := by
      intro i hi1 hi2
      have := (t1 i hi1 hi2).2.1
      rw [tb_or] at this
      simp only [Bool.or_eq_false_iff, decide_eq_false_iff_not] at this
      exact ⟨this.1, fun h9 => this.2 h9.symm⟩
    refine ⟨fun i => if i = n - (k + 1) then c else tau i, fun i hi1 hi2 => ?_, fun i hi1 hi2 j hj1 hj2 hij => ?_⟩
    · by_cases hi : i = n - (k + 1)
      · simp only [if_pos hi]
        rw [hi]
        exact ⟨h1, h2, h3⟩
      · simp only [if_neg hi]
        have := t1 i (by omega) hi2
        exact ⟨this.1, (t3 i (by omega) hi2).1, this.2.2⟩
    · simp only [] at hij
      by_cases hi : i = n - (k + 1)
      · by_cases hj : j = n - (k + 1)
        · omega
        · rw [if_pos hi, if_neg hj] at hij
          exact absurd hij.symm (t3 j (by omega) hj2).2
      · by_cases hj : j = n - (k + 1)
        · rw [if_neg hi, if_pos hj] at hij
          exact absurd hij (t3 i (by omega) hi2).2
        · rw [if_neg hi, if_neg hj] at hij
          exact t2 i (by omega) hi2 j (by omega) hj2 hij
theorem ext_full {W : Nat → Int} {n : Nat} {tau : Nat → Nat} : ∀ {k s : Nat}, k ≤ n → (∀ i, n - k ≤ i → i < n → tau i < n ∧ s.testBit (tau i) = false ∧ 0 < W (10 * i + tau i)) → (∀ i, n - k ≤ i → i < n → ∀ j, n - k ≤ j → j < n → tau i = tau j → i = j) → ext W n k s = true
  | 0, _, _, _, _ => rfl
  | k + 1, s, hk, h1, h2 => by
    obtain ⟨x1, x2, x3⟩ := h1 (n - (k + 1)) (Nat.le_refl _) (by omega)
    refine ext_iff.mpr ⟨tau (n - (k + 1)), x1, x2, x3, ext_full (k := k) (by omega) (fun i hi1 hi2 => ?_) (fun i hi1 hi2 j hj1 hj2 => h2 i (by omega) hi2 j (by omega) hj2)⟩
    obtain ⟨y1, y2, y3⟩ := h1 i (by omega) hi2
    refine ⟨y1, ?_, y3⟩
    rw [tb_or, y2]
    simp only [Bool.false_or, decide_eq_false_iff_not]
    intro h9
    have := h2 _ (Nat.le_refl _) (by omega) i (by omega) hi2 h9
    omega
/-- the columns of the first rows -/
def msk (sg : Nat → Nat) : Nat → Nat
  | 0 => 0
  | r + 1 => msk sg r ||| 2 ^ sg r
theorem msk_iff {sg : Nat → Nat} {c : Nat} : ∀ {r : Nat}, (msk sg r).testBit c = true ↔ ∃ i, i < r ∧ sg i = c
  | 0 => by
    simp only [msk, Nat.zero_testBit]
    exact ⟨fun h => (by cases h), fun ⟨i, h, _⟩ => absurd h (Nat.not_lt_zero i)⟩
  | r + 1 => by
    simp only [msk]
    rw [tb_or, Bool.or_eq_true, msk_iff (r := r), decide_eq_true_eq]
    constructor
    · rintro (⟨i, h1, h2⟩ | h)
      · exact ⟨i, by omega, h2⟩
      · exact ⟨r, by omega, h⟩
    · rintro ⟨i, h1, h2⟩
      by_cases hir : i = r
      · subst hir; exact Or.inr h2
      · exact Or.inl ⟨i, by omega, h2⟩
/-- the first column with which the rest can be completed is that of the first choice -/
theorem lf_at {W : Nat → Int} {n r : Nat} {sg : Nat → Nat} (h : ISLF W n sg) (hr : r < n) : (msk sg r).testBit (sg r) = false ∧ 0 < W (10 * r + sg r) ∧ ext W n (n - (r + 1)) (msk sg r ||| 2 ^ sg r) = true := by
  obtain ⟨⟨p1, p2⟩, -⟩ := h
  refine ⟨?_, (p1 r hr).2, ext_full (tau := sg) (by omega) (fun i hi1 hi2 => ⟨(p1 i hi2).1, ?_, (p1 i hi2).2⟩) (fun i hi1 hi2 j hj1 hj2 => p2 i hi2 j hj2)⟩
  · cases h9 : (msk sg r).testBit (sg r)
    · rfl
    · obtain ⟨i, h1, h2⟩ := msk_iff.mp h9
      have := p2 i (by omega) r hr h2
      omega
  · cases h9 : (msk sg r ||| 2 ^ sg r).testBit (sg i)
    · rfl
    · have e9 : msk sg r ||| 2 ^ sg r = msk sg (r + 1) := rfl
      rw [e9] at h9
      obtain ⟨j, h1, h2⟩ := msk_iff.mp h9
      have := p2 j (by omega) i hi2 h2
      omega
theorem lf_no {W : Nat → Int} {n r c : Nat} {sg : Nat → Nat} (h : ISLF W n sg) (hr : r < n) (hc : c < sg r) (h1 : (msk sg r).testBit c = false) (h2 : 0 < W (10 * r + c)) : ext W n (n - (r + 1)) (msk sg r ||| 2 ^ c) = false := by
  cases h9 : ext W n (n - (r + 1)) (msk sg r ||| 2 ^ c)
  · rfl
  · exfalso
    have hn : n - (n - (r + 1)) = r + 1 := by omega
    obtain ⟨tau, t1, t2⟩ := ext_sound (by omega) h9
    rw [hn] at t1 t2
    obtain ⟨⟨p1, p2⟩, pf⟩ := h
    have t3 : ∀ i, r + 1 ≤ i → i < n → (msk sg r).testBit (tau i) = false ∧ tau i ≠ c := by
      intro i hi1 hi2
      have := (t1 i hi1 hi2).2.1
      rw [tb_or] at this
      simp only [Bool.or_eq_false_iff, decide_eq_false_iff_not] at this
      exact ⟨this.1, fun h9 => this.2 h9.symm⟩
    have t4 : ∀ i, i < r → ∀ d, (msk sg r).testBit d = false → sg i ≠ d := by
      intro i hi d hd hsd
      rw [msk_iff.mpr ⟨i, hi, hsd⟩] at hd
      cases hd
    have hsr := (p1 r hr).1
    refine pf r hr c hc (fun i => if i < r then sg i else if i = r then c else tau i) ⟨fun i hi => ?_, fun i hi j hj hij => ?_⟩ (fun i hi => if_pos hi) ?_
    · by_cases k1 : i < r
      · simp only [if_pos k1]; exact p1 i hi
      · by_cases k2 : i = r
        · simp only [if_neg k1, if_pos k2]
          rw [k2]
          exact ⟨by omega, h2⟩
        · simp only [if_neg k1, if_neg k2]
          have := t1 i (by omega) hi
          exact ⟨this.1, this.2.2⟩
    · simp only [] at hij
      by_cases k1 : i < r
      · rw [if_pos k1] at hij
        by_cases k2 : j < r
        · rw [if_pos k2] at hij; exact p2 i hi j hj hij
        · rw [if_neg k2] at hij
          by_cases k3 : j = r
          · rw [if_pos k3] at hij; exact absurd hij (t4 i k1 c h1)
          · rw [if_neg k3] at hij; exact absurd hij (t4 i k1 _ (t3 j (by omega) hj).1)
      · rw [if_neg k1] at hij
        by_cases k2 : j < r
        · rw [if_pos k2] at hij
          by_cases k3 : i = r
          · rw [if_pos k3] at hij; exact absurd hij.symm (t4 j k2 c h1)
          · rw [if_neg k3] at hij; exact absurd hij.symm (t4 j k2 _ (t3 i (by omega) hi).1)
        · rw [if_neg k2] at hij
          by_cases k3 : i = r
          · rw [if_pos k3] at hij
            by_cases k4 : j = r
            · omega
            · rw [if_neg k4] at hij; exact absurd hij.symm (t3 j (by omega) hj).2
          · rw [if_neg k3] at hij
            by_cases k4 : j = r
            · rw [if_pos k4] at hij; exact absurd hij (t3 i (by omega) hi).2
            · rw [if_neg k4] at hij; exact t2 i (by omega) hi j (by omega) hj hij
    · simp only [if_neg (Nat.lt_irrefl r), if_pos]
