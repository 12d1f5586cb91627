/-! matchings: rows and columns of a square table, 10 places a row -/
theorem isum_add {f g : Nat → Int} : ∀ {n : Nat}, isum (fun i => f i + g i) n = isum f n + isum g n
  | 0 => rfl
  | n + 1 => by
    simp only [isum]
    rw [isum_add (n := n)]
    omega
theorem isum_zero : ∀ {n : Nat}, isum (fun _ => 0) n = 0
  | 0 => rfl
  | n + 1 => by simp only [isum]; rw [isum_zero (n := n)]; rfl
theorem isum_mono {f g : Nat → Int} : ∀ {n : Nat}, (∀ i, i < n → f i ≤ g i) → isum f n ≤ isum g n
  | 0, _ => Int.le_refl _
  | n + 1, h => by
    simp only [isum]
    have h1 := isum_mono (n := n) (fun i hi => h i (by omega))
    have h2 := h n (by omega)
    omega
theorem isum_swap {f : Nat → Nat → Int} {n : Nat} : ∀ {m : Nat}, isum (fun r => isum (fun c => f r c) n) m = isum (fun c => isum (fun r => f r c) m) n
  | 0 => by simp only [isum]; exact isum_zero.symm
  | m + 1 => by
    simp only [isum]
    rw [isum_swap (m := m), ← isum_add]
theorem isum_ind {p : Nat → Bool} {L : Int} : ∀ {n : Nat}, isum (fun i => if p i = true then L else 0) n = L * (ncnt p n : Nat)
  | 0 => by simp [isum, ncnt]
  | n + 1 => by
    simp only [isum, ncnt]
    rw [isum_ind (n := n), Int.natCast_add, Int.mul_add]
    cases hp : p n
    · simp
    · simp
/-- more rows than columns that they can take: no balanced table -/
theorem hall {P : Nat → Nat → Int} {n : Nat} {L : Int} {R C : Nat → Bool} (hL : 0 < L) (h0 : ∀ r, r < n → ∀ c, c < n → 0 ≤ P r c) (hr : ∀ r, r < n → R r = true → isum (fun c => P r c) n = L) (hc : ∀ c, c < n → isum (fun r => P r c) n ≤ L) (hz : ∀ r, r < n → R r = true → ∀ c, c < n → C c = false → P r c = 0) (hn : ncnt R n = ncnt C n + 1) : False := by
  have e1 : isum (fun r => isum (fun c => if R r = true then P r c else 0) n) n = L * (ncnt R n : Nat) := by
    rw [← isum_ind]
    apply isum_congr
    intro r hr9
    cases hR : R r
    · simp only [Bool.false_eq_true, if_false]; exact isum_zero
    · simp only [if_true]; exact hr r hr9 hR
  have e2 : isum (fun c => isum (fun r => if R r = true then P r c else 0) n) n ≤ L * (ncnt C n : Nat) := by
    rw [← isum_ind]
    apply isum_mono
    intro c hc9
    cases hC : C c
    · simp only [Bool.false_eq_true, if_false]
      have e3 : isum (fun r => if R r = true then P r c else 0) n = isum (fun _ => 0) n := by
        apply isum_congr
        intro r hr9
        cases hR : R r
        · simp
        · simp only [if_true]; exact hz r hr9 hR c hc9 hC
      rw [e3, isum_zero]
      exact Int.le_refl _
    · simp only [if_true]
      refine Int.le_trans (isum_mono (g := fun r => P r c) (fun r hr9 => ?_)) (hc c hc9)
      cases hR : R r
      · simp only [Bool.false_eq_true, if_false]; exact h0 r hr9 c hc9
      · simp
  rw [isum_swap] at e1
  rw [e1, hn, Int.natCast_add, Int.mul_add] at e2
  simp at e2
  omega
theorem isum_one {n k : Nat} : isum (fun i => if k = i then (1 : Int) else 0) n = if k < n then 1 else 0 := by
  induction n with
  | zero => rfl
  | succ n ih =>
    simp only [isum]
    rw [ih]
    by_cases h1 : k < n
    · rw [if_pos h1, if_neg (by omega), if_pos (by omega)]; rfl
    · by_cases h2 : k = n
      · rw [if_neg h1, if_pos h2, if_pos (by omega)]; rfl
      · rw [if_neg h1, if_neg h2, if_neg (by omega)]; rfl
theorem isum_inj {tau : Nat → Nat} {c : Nat} : ∀ {n : Nat}, (∀ r, r < n → ∀ x, x < n → tau r = tau x → r = x) → isum (fun r => if tau r = c then (1 : Int) else 0) n ≤ 1
  | 0, _ => (by decide : (0 : Int) ≤ 1)
  | n + 1, h => by
    simp only [isum]
    have h1 := isum_inj (n := n) (c := c) (fun r hr x hx => h r (by omega) x (by omega))
    by_cases hn : tau n = c
    · have e3 : isum (fun r => if tau r = c then (1 : Int) else 0) n = isum (fun _ => 0) n := by
        apply isum_congr
        intro r hr
        rw [if_neg]
        intro hrc
        have := h r (by omega) n (by omega) (by rw [hrc, hn])
        omega
      rw [e3, isum_zero, if_pos hn]
      decide
    · rw [if_neg hn]
      omega
def PM (W : Nat → Int) (n : Nat) (tau : Nat → Nat) : Prop := (∀ r, r < n → tau r < n ∧ 0 < W (10 * r + tau r)) ∧ (∀ r, r < n → ∀ x, x < n → tau r = tau x → r = x)
def ISLF (W : Nat → Int) (n : Nat) (sg : Nat → Nat) : Prop := PM W n sg ∧ ∀ r, r < n → ∀ c, c < sg r → ∀ tau, PM W n tau → (∀ i, i < r → tau i = sg i) → tau r ≠ c
/-- rows that can take fewer columns than they are: no matching -/
theorem hall_pm {W : Nat → Int} {n : Nat} {tau : Nat → Nat} {R C : Nat → Bool} (ht : PM W n tau) (hz : ∀ r, r < n → R r = true → C (tau r) = true) (hn : ncnt R n = ncnt C n + 1) : False := by
  refine hall (P := fun r c => if tau r = c then 1 else 0) (L := 1) (R := R) (C := C) (n := n) (by decide) (fun r _ c _ => by split <;> decide) (fun r hr _ => ?_) (fun c _ => isum_inj ht.2) (fun r hr hR c hc hC => ?_) hn
  · rw [isum_one, if_pos (ht.1 r hr).1]
  · rw [if_neg]
    intro h
    have := hz r hr hR
    rw [h, hC] at this
    cases this
/-- a part of a matching: cr the columns of the rows, rc the rows of the columns; x: a column left out -/
def PMT (W : Nat → Int) (n : Nat) (cr rc : Nat → Int) : Prop := (∀ r : Nat, r < n → cr r = -1 ∨ (0 ≤ cr r ∧ cr r < n ∧ rc (cr r).toNat = r ∧ 0 < W (10 * r + (cr r).toNat))) ∧ (∀ c : Nat, c < n → rc c = -1 ∨ (0 ≤ rc c ∧ rc c < n ∧ cr (rc c).toNat = c))
def PTx (W : Nat → Int) (n : Nat) (cr rc : Nat → Int) (x : Nat) : Prop := (∀ r : Nat, r < n → cr r = -1 ∨ (0 ≤ cr r ∧ cr r < n ∧ rc (cr r).toNat = r ∧ 0 < W (10 * r + (cr r).toNat) ∧ cr r ≠ x)) ∧ (∀ c : Nat, c < n → c ≠ x → rc c = -1 ∨ (0 ≤ rc c ∧ rc c < n ∧ cr (rc c).toNat = c))
theorem PTx_of {W : Nat → Int} {n x : Nat} {cr rc : Nat → Int} (h : PMT W n cr rc) (hx : rc x = -1) : PTx W n cr rc x := by
  refine ⟨fun r hr => ?_, fun c hc _ => h.2 c hc⟩
  rcases h.1 r hr with h1 | ⟨h1, h2, h3, h4⟩
  · exact Or.inl h1
  · refine Or.inr ⟨h1, h2, h3, h4, fun h5 => ?_⟩
    rw [h5] at h3
    simp only [Int.toNat_natCast] at h3
    omega
/-- a row without a column takes the one left out -/
theorem PTx_end {W : Nat → Int} {n x r : Nat} {cr rc : Nat → Int} (h : PTx W n cr rc x) (hx : x < n) (hr : r < n) (hcr : cr r = -1) (hw : 0 < W (10 * r + x)) : PMT W n (uq cr r x) (uq rc x r) := by
  refine ⟨fun r' hr' => ?_, fun c hc => ?_⟩
  · by_cases h1 : r' = r
    · subst h1
      rw [uq_s]
      refine Or.inr ⟨by omega, by omega, ?_, ?_⟩
      · rw [Int.toNat_natCast, uq_s]
      · rw [Int.toNat_natCast]; exact hw
    · rw [uq_n h1]
      rcases h.1 r' hr' with h2 | ⟨h2, h3, h4, h5, h6⟩
      · exact Or.inl h2
      · refine Or.inr ⟨h2, h3, ?_, h5⟩
        rw [uq_n (by omega)]
        exact h4
  · by_cases h1 : c = x
    · subst h1
      rw [uq_s]
      refine Or.inr ⟨by omega, by omega, ?_⟩
      rw [Int.toNat_natCast, uq_s]
    · rw [uq_n h1]
      rcases h.2 c hc h1 with h2 | ⟨h2, h3, h4⟩
      · exact Or.inl h2
      · refine Or.inr ⟨h2, h3, ?_⟩
        rw [uq_n]
        · exact h4
        · intro h5
          rw [h5] at h4
          omega
/-- a row takes the column left out and leaves its own -/
theorem PTx_step {W : Nat → Int} {n x r y : Nat} {cr rc : Nat → Int} (h : PTx W n cr rc x) (hx : x < n) (hr : r < n) (hcr : cr r = y) (hw : 0 < W (10 * r + x)) : PTx W n (uq cr r x) (uq rc x r) y := by
  have hy : cr r ≠ x ∧ rc y = r := by
    rcases h.1 r hr with h2 | ⟨h2, h3, h4, h5, h6⟩
    · omega
    · refine ⟨h6, ?_⟩
      rw [hcr, Int.toNat_natCast] at h4
      exact h4
  refine ⟨fun r' hr' => ?_, fun c hc hcy => ?_⟩
  · by_cases h1 : r' = r
    · subst h1
      rw [uq_s]
      refine Or.inr ⟨by omega, by omega, ?_, ?_, by omega⟩
      · rw [Int.toNat_natCast, uq_s]
      · rw [Int.toNat_natCast]; exact hw
    · rw [uq_n h1]
      rcases h.1 r' hr' with h2 | ⟨h2, h3, h4, h5, h6⟩
      · exact Or.inl h2
      · refine Or.inr ⟨h2, h3, ?_, h5, ?_⟩
        · rw [uq_n (by omega)]
          exact h4
        · intro h7
          rw [h7, Int.toNat_natCast] at h4
          omega
  · by_cases h1 : c = x
    · subst h1
      rw [uq_s]
      refine Or.inr ⟨by omega, by omega, ?_⟩
      rw [Int.toNat_natCast, uq_s]
    · rw [uq_n h1]
      rcases h.2 c hc h1 with h2 | ⟨h2, h3, h4⟩
      · exact Or.inl h2
      · refine Or.inr ⟨h2, h3, ?_⟩
        rw [uq_n]
        · exact h4
        · intro h5
          rw [h5] at h4
          omega
