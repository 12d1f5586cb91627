/-! packing and covering: operations as stretches of whole times -/
def idc (b l : Int) (u : Nat) : Int := if b ≤ (u : Int) ∧ (u : Int) < b + l then 1 else 0
theorem idc_01 {b l : Int} {u : Nat} : idc b l u = 0 ∨ idc b l u = 1 := by
  unfold idc
  split
  · exact Or.inr rfl
  · exact Or.inl rfl
theorem idc_1 {b l : Int} {u : Nat} : idc b l u = 1 ↔ b ≤ (u : Int) ∧ (u : Int) < b + l := by
  unfold idc
  split
  · rename_i h9; exact ⟨fun _ => h9, fun _ => rfl⟩
  · rename_i h9; exact ⟨fun h8 => absurd h8 (by decide), fun h8 => absurd h8 h9⟩
theorem idc_ge {b l : Int} {u : Nat} : 0 ≤ idc b l u := by
  rcases @idc_01 b l u with h | h <;> omega
theorem idc_sum {b l : Int} (hb : 0 ≤ b) (hl : 0 ≤ l) : ∀ {n : Nat}, isum (idc b l) n = if (n : Int) ≤ b then 0 else if (n : Int) ≤ b + l then (n : Int) - b else l
  | 0 => by
    rw [if_pos (show ((0 : Nat) : Int) ≤ b by omega)] <;> rfl
  | n + 1 => by
    have ih := idc_sum hb hl (n := n)
    have e9 : ((n + 1 : Nat) : Int) = (n : Int) + 1 := by omega
    simp only [isum]
    rw [ih, e9]
    unfold idc
    by_cases c1 : (n : Int) < b
    · rw [if_pos (show (n : Int) ≤ b by omega), if_neg (show ¬ (b ≤ (n : Int) ∧ (n : Int) < b + l) by omega), if_pos (show (n : Int) + 1 ≤ b by omega)] <;> omega
    · by_cases c2 : (n : Int) < b + l
      · rw [if_pos (show b ≤ (n : Int) ∧ (n : Int) < b + l by omega), if_neg (show ¬ ((n : Int) + 1 ≤ b) by omega), if_pos (show (n : Int) + 1 ≤ b + l by omega)]
        by_cases c3 : (n : Int) ≤ b
        · rw [if_pos c3]; omega
        · rw [if_neg c3, if_pos (show (n : Int) ≤ b + l by omega)]; omega
      · rw [if_neg (show ¬ (b ≤ (n : Int) ∧ (n : Int) < b + l) by omega), if_neg (show ¬ ((n : Int) + 1 ≤ b) by omega), if_neg (show ¬ ((n : Int) + 1 ≤ b + l) by omega)]
        by_cases c3 : (n : Int) ≤ b
        · rw [if_pos c3]; omega
        · rw [if_neg c3]
          by_cases c4 : (n : Int) ≤ b + l
          · rw [if_pos c4]; omega
          · rw [if_neg c4]; omega
theorem idc_z {b l : Int} (h : l ≤ 0) {u : Nat} : idc b l u = 0 := by
  unfold idc
  rw [if_neg (by omega)]
theorem idc_le {b l : Int} {n : Nat} (hl : 0 ≤ l) (hb : 0 < l → 0 ≤ b) : isum (idc b l) n ≤ l := by
  by_cases h0 : 0 < l
  · rw [idc_sum (hb h0) hl]
    by_cases c1 : (n : Int) ≤ b
    · rw [if_pos c1]; exact hl
    · rw [if_neg c1]
      by_cases c2 : (n : Int) ≤ b + l
      · rw [if_pos c2]; omega
      · rw [if_neg c2]; exact Int.le_refl _
  · have e9 : isum (idc b l) n = isum (fun _ => 0) n := isum_congr (fun i _ => idc_z (by omega))
    rw [e9, isum_zero]
    exact hl
theorem idc_eq {b l : Int} {n : Nat} (hl : 0 ≤ l) (hb : 0 < l → 0 ≤ b ∧ b + l ≤ n) : isum (idc b l) n = l := by
  by_cases h0 : 0 < l
  · obtain ⟨h1, h2⟩ := hb h0
    rw [idc_sum h1 hl, if_neg (by omega)]
    by_cases c2 : (n : Int) ≤ b + l
    · rw [if_pos c2]; omega
    · rw [if_neg c2]
  · have e9 : isum (idc b l) n = isum (fun _ => 0) n := isum_congr (fun i _ => idc_z (by omega))
    rw [e9, isum_zero]
    omega
theorem isum_le1 {f : Nat → Int} : ∀ {n : Nat}, (∀ i, i < n → f i = 0 ∨ f i = 1) → (∀ i, i < n → ∀ j, j < n → f i = 1 → f j = 1 → i = j) → isum f n ≤ 1
  | 0, _, _ => (by decide : (0 : Int) ≤ 1)
  | n + 1, h, h2 => by
    simp only [isum]
    rcases h n (by omega) with h9 | h9
    · have h8 := isum_le1 (n := n) (fun i hi => h i (by omega)) (fun i hi j hj => h2 i (by omega) j (by omega))
      omega
    · have h7 : ∀ i, i < n → f i = 0 := by
        intro i hi
        rcases h i (by omega) with h8 | h8
        · exact h8
        · have := h2 i (by omega) n (by omega) h8 h9
          omega
      have h6 : isum f n = 0 := (isum_congr (g := fun _ => 0) h7).trans isum_zero
      omega
theorem isum_ones : ∀ {n : Nat}, isum (fun _ => (1 : Int)) n = n
  | 0 => rfl
  | n + 1 => by
    simp only [isum]
    rw [isum_ones (n := n)]
    omega
theorem pack {b l : Nat → Int} {n C : Nat} (hl : ∀ i, i < n → 0 ≤ l i) (hb : ∀ i, i < n → 0 < l i → 0 ≤ b i ∧ b i + l i ≤ C) (ho : ∀ i, i < n → ∀ j, j < n → i ≠ j → 0 < l i → 0 < l j → b i + l i ≤ b j ∨ b j + l j ≤ b i) : isum l n ≤ C := by
  have e1 : isum l n = isum (fun i => isum (fun u => idc (b i) (l i) u) C) n := isum_congr (fun i hi => (idc_eq (hl i hi) (hb i hi)).symm)
  have e2 := isum_swap (f := fun i u => idc (b i) (l i) u) (n := C) (m := n)
  have h1 : isum (fun u => isum (fun i => idc (b i) (l i) u) n) C ≤ isum (fun _ => (1 : Int)) C := isum_mono (fun u _ => isum_le1 (fun i _ => idc_01) (fun i hi j hj h1 h2 => by
    have g1 := idc_1.mp h1
    have g2 := idc_1.mp h2
    apply Classical.byContradiction
    intro hij
    have := ho i hi j hj hij (by omega) (by omega)
    omega))
  rw [isum_ones] at h1
  rw [e1]
  exact Int.le_trans (Int.le_of_eq e2) h1
theorem cover {b1 l1 b2 l2 : Nat → Int} {n1 n2 S : Nat} (h1 : ∀ i, i < n1 → 0 ≤ l1 i ∧ (0 < l1 i → 0 ≤ b1 i)) (h2 : ∀ i, i < n2 → 0 ≤ l2 i ∧ (0 < l2 i → 0 ≤ b2 i)) (hc : ∀ u : Nat, u < S → (∃ i, i < n1 ∧ b1 i ≤ (u : Int) ∧ (u : Int) < b1 i + l1 i) ∨ (∃ i, i < n2 ∧ b2 i ≤ (u : Int) ∧ (u : Int) < b2 i + l2 i)) : (S : Int) ≤ isum l1 n1 + isum l2 n2 := by
  have k1 : isum (fun u => isum (fun i => idc (b1 i) (l1 i) u) n1) S ≤ isum l1 n1 := Int.le_trans (Int.le_of_eq (isum_swap (f := fun u i => idc (b1 i) (l1 i) u) (n := n1) (m := S))) (isum_mono (fun i hi => idc_le (h1 i hi).1 (h1 i hi).2))
  have k2 : isum (fun u => isum (fun i => idc (b2 i) (l2 i) u) n2) S ≤ isum l2 n2 := Int.le_trans (Int.le_of_eq (isum_swap (f := fun u i => idc (b2 i) (l2 i) u) (n := n2) (m := S))) (isum_mono (fun i hi => idc_le (h2 i hi).1 (h2 i hi).2))
  have k3 : isum (fun _ => (1 : Int)) S ≤ isum (fun u => isum (fun i => idc (b1 i) (l1 i) u) n1 + isum (fun i => idc (b2 i) (l2 i) u) n2) S := isum_mono (fun u hu => by
    have g1 := isum_ge (f := fun i => idc (b1 i) (l1 i) u) (n := n1) (fun i _ => idc_ge)
    have g2 := isum_ge (f := fun i => idc (b2 i) (l2 i) u) (n := n2) (fun i _ => idc_ge)
    rcases hc u hu with ⟨i, hi, g3⟩ | ⟨i, hi, g3⟩
    · have g4 := isum_term (f := fun i => idc (b1 i) (l1 i) u) (n := n1) (i := i) (fun i _ => idc_ge) hi
      have g5 : idc (b1 i) (l1 i) u = 1 := idc_1.mpr g3
      simp only [g5] at g4
      omega
    · have g4 := isum_term (f := fun i => idc (b2 i) (l2 i) u) (n := n2) (i := i) (fun i _ => idc_ge) hi
      have g5 : idc (b2 i) (l2 i) u = 1 := idc_1.mpr g3
      simp only [g5] at g4
      omega)
  rw [isum_ones, isum_add] at k3
  omega
theorem isum_skip {l : Nat → Int} {c n : Nat} (hc : c < n) : isum (fun i => if i = c then 0 else l i) n = isum l n - l c := by
  have e9 : isum l n = isum (fun i => (if i = c then 0 else l i) + (if c = i then l c else 0)) n := isum_congr (fun i _ => by
    by_cases h : i = c
    · subst h
      rw [if_pos rfl, if_pos rfl]
      omega
    · rw [if_neg h, if_neg (fun z => h z.symm)]
      omega)
  have e8 := isum_add (f := fun i => if i = c then 0 else l i) (g := fun i => if c = i then l c else 0) (n := n)
  have e7 := isum_at (n := n) (k := c) (x := l c)
  rw [if_pos hc] at e7
  (try simp only [] at e8)
  omega
