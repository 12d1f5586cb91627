/-! the search for a column, apart from the machine -/
theorem ncnt_false : ∀ {n : Nat}, ncnt (fun _ => false) n = 0
  | 0 => rfl
  | n + 1 => by simp only [ncnt]; rw [ncnt_false (n := n)]; rfl
def BC (rf : Nat → Int) (c : Nat) : Bool := decide (rf c ≠ -1)
def BR (cr rf : Nat → Int) (row r : Nat) : Bool := decide (r = row ∨ (cr r ≠ -1 ∧ rf (cr r).toNat ≠ -1))
/-- the search as far as column col of the row at place nx of the queue; k rows are queued -/
abbrev BF (W : Nat → Int) (n : Nat) (cr rc : Nat → Int) (fm : Int) (row : Nat) (rf qu : Nat → Int) (k nx col : Nat) : Prop :=
  (qu 0 = row ∧ 1 ≤ k) ∧
  (∀ i, i < k → 0 ≤ qu i ∧ qu i < n ∧ fm < qu i ∧ BR cr rf row (qu i).toNat = true) ∧
  (∀ c, c < n → rf c ≠ -1 → (∃ i, i < k ∧ i ≤ nx ∧ rf c = qu i) ∧ 0 < W (10 * (rf c).toNat + c) ∧ fm < rc c ∧ 0 ≤ rc c) ∧
  (∀ i, 0 < i → i < k → ∃ i2 c, i2 < i ∧ c < n ∧ rc c = qu i ∧ rf c = qu i2) ∧
  (∀ i j, i < j → j < k → qu i ≠ qu j) ∧
  (ncnt (BC rf) n + 1 = k ∧ ncnt (BR cr rf row) n = k) ∧
  (∀ r, r < n → BR cr rf row r = true → ∃ i, i < k ∧ qu i = r) ∧
  (∀ i, i < k → ∀ c, c < n → (i < nx ∨ (i = nx ∧ c < col)) → 0 < W (10 * (qu i).toNat + c) → (rc c ≠ -1 ∧ rc c ≤ fm) ∨ rf c ≠ -1)
section BFS
variable {W : Nat → Int} {n : Nat} {cr rc : Nat → Int} {fm : Int} {row : Nat} {rf qu : Nat → Int} {k nx col : Nat}
theorem BR_iff {r : Nat} : BR cr rf row r = true ↔ r = row ∨ (cr r ≠ -1 ∧ rf (cr r).toNat ≠ -1) := by
  unfold BR
  exact decide_eq_true_iff
theorem BC_iff {c : Nat} : BC rf c = true ↔ rf c ≠ -1 := by
  unfold BC
  exact decide_eq_true_iff
theorem BF_init (hr : row < n) (hf : fm < row) (h1 : ∀ c, rf c = -1) (h2 : qu 0 = row) : BF W n cr rc fm row rf qu 1 0 0 := by
  have eR : ∀ r, BR cr rf row r = decide (r = row) := by
    intro r
    unfold BR
    rw [h1]
    simp
  refine ⟨⟨h2, Nat.le_refl _⟩, fun i hi => ?_, fun c hc h => absurd (h1 c) h, fun i h0 hi => by omega, fun i j hij hj => by omega, ⟨?_, ?_⟩, fun r hr9 hR => ?_, fun i hi c hc h => by omega⟩
  · obtain rfl : i = 0 := by omega
    rw [h2]
    refine ⟨by omega, by omega, hf, ?_⟩
    rw [eR, Int.toNat_natCast]
    simp
  · rw [ncnt_congr (r := fun _ => false) (fun c _ => by unfold BC; rw [h1]; rfl), ncnt_false]
  · rw [ncnt_congr (fun r _ => eR r)]
    have h9 := @ncnt_one (fun _ => false) (fun r => decide (r = row)) row rfl (by simp) n hr (fun i hi hir => by simp [hir])
    rw [ncnt_false] at h9
    exact h9.symm
  · rw [eR] at hR
    have := of_decide_eq_true hR
    exact ⟨0, by omega, by rw [h2, this]⟩
theorem BF_skip (hb : BF W n cr rc fm row rf qu k nx col) (hs : (rc col ≠ -1 ∧ rc col ≤ fm) ∨ rf col ≠ -1 ∨ W (10 * (qu nx).toNat + col) ≤ 0) : BF W n cr rc fm row rf qu k nx (col + 1) := by
  obtain ⟨b1, b2, b3, b4, b5, b6, b7, b8⟩ := hb
  refine ⟨b1, b2, b3, b4, b5, b6, b7, fun i hi c hc hic hw => ?_⟩
  by_cases h9 : i < nx ∨ (i = nx ∧ c < col)
  · exact b8 i hi c hc h9 hw
  · have e1 : i = nx := by omega
    have e2 : c = col := by omega
    subst e1 e2
    rcases hs with hs | hs | hs
    · exact Or.inl hs
    · exact Or.inr hs
    · omega
theorem BF_next (hb : BF W n cr rc fm row rf qu k nx n) : BF W n cr rc fm row rf qu k (nx + 1) 0 := by
  obtain ⟨b1, b2, b3, b4, b5, b6, b7, b8⟩ := hb
  refine ⟨b1, b2, fun c hc h => ?_, b4, b5, b6, b7, fun i hi c hc hic hw => ?_⟩
  · obtain ⟨⟨i, h1, h2, h3⟩, h4⟩ := b3 c hc h
    exact ⟨⟨i, h1, by omega, h3⟩, h4⟩
  · exact b8 i hi c hc (by omega) hw
theorem BF_k (hb : BF W n cr rc fm row rf qu k nx col) : k ≤ n := by
  rw [← hb.2.2.2.2.2.1.2]
  exact ncnt_le
theorem BF_push (hp : PMT W n cr rc) (hcr : cr row = -1) (hb : BF W n cr rc fm row rf qu k nx col) (hk : nx < k) (hc : col < n) (hh : 0 ≤ rc col) (hf : fm < rc col) (hr : rf col = -1) (hw : 0 < W (10 * (qu nx).toNat + col)) : BF W n cr rc fm row (uq rf col (qu nx)) (uq qu k (rc col)) (k + 1) nx (col + 1) := by
  obtain ⟨b1, b2, b3, b4, b5, b6, b7, b8⟩ := hb
  obtain ⟨q1, q2, q3, q4⟩ := b2 nx hk
  have hp2 : 0 ≤ rc col ∧ rc col < n ∧ cr (rc col).toNat = col := by
    rcases hp.2 col hc with h | h
    · omega
    · exact h
  obtain ⟨p1, p2, p3⟩ := hp2
  have hrow : (rc col).toNat ≠ row := by
    intro h
    rw [h, hcr] at p3
    omega
  have eR : ∀ r, r < n → r ≠ (rc col).toNat → BR cr (uq rf col (qu nx)) row r = BR cr rf row r := by
    intro r hr9 hrh
    unfold BR
    rcases hp.1 r hr9 with h2 | ⟨h2, h3, h4, h5⟩
    · rw [h2]; simp
    · rw [uq_n]
      intro h
      rw [h] at h4
      omega
  have eC : ∀ c, c ≠ col → BC (uq rf col (qu nx)) c = BC rf c := by
    intro c hcc
    unfold BC
    rw [uq_n hcc]
  have hR0 : BR cr rf row (rc col).toNat = false := by
    cases h9 : BR cr rf row (rc col).toNat
    · rfl
    · rcases BR_iff.mp h9 with h | ⟨h, h8⟩
      · exact absurd h hrow
      · rw [p3, Int.toNat_natCast] at h8
        exact absurd hr h8
  have hR1 : BR cr (uq rf col (qu nx)) row (rc col).toNat = true := by
    refine BR_iff.mpr (Or.inr ?_)
    rw [p3, Int.toNat_natCast, uq_s]
    exact ⟨by omega, by omega⟩
  have hRm : ∀ r, r < n → BR cr rf row r = true → BR cr (uq rf col (qu nx)) row r = true := by
    intro r hr9 h
    by_cases hrh : r = (rc col).toNat
    · rw [hrh]; exact hR1
    · rw [eR r hr9 hrh]; exact h
  have hqn : ∀ i, i < k → qu i ≠ rc col := by
    intro i hi h
    have := (b2 i hi).2.2.2
    rw [h, hR0] at this
    cases this
  refine ⟨⟨?_, by omega⟩, fun i hi => ?_, fun c hc9 h => ?_, fun i h0 hi => ?_, fun i j hij hj => ?_, ⟨?_, ?_⟩, fun r hr9 hR => ?_, fun i hi c hc9 hic hw9 => ?_⟩
  · rw [uq_n (by omega)]; exact b1.1
  · by_cases hik : i = k
    · subst hik
      rw [uq_s]
      exact ⟨hh, p2, hf, hR1⟩
    · rw [uq_n hik]
      obtain ⟨x1, x2, x3, x4⟩ := b2 i (by omega)
      exact ⟨x1, x2, x3, hRm _ (by omega) x4⟩
  · by_cases hcc : c = col
    · subst hcc
      rw [uq_s]
      refine ⟨⟨nx, by omega, Nat.le_refl _, ?_⟩, hw, hf, hh⟩
      rw [uq_n (by omega)]
    · rw [uq_n hcc] at h ⊢
      obtain ⟨⟨i, x1, x2, x3⟩, x4⟩ := b3 c hc9 h
      refine ⟨⟨i, by omega, x2, ?_⟩, x4⟩
      rw [uq_n (by omega)]
      exact x3
  · by_cases hik : i = k
    · subst hik
      refine ⟨nx, col, hk, hc, ?_, ?_⟩
      · rw [uq_s]
      · rw [uq_s, uq_n (by omega)]
    · obtain ⟨i2, c, x1, x2, x3, x4⟩ := b4 i h0 (by omega)
      refine ⟨i2, c, x1, x2, ?_, ?_⟩
      · rw [uq_n hik]; exact x3
      · have hcc : c ≠ col := by
          intro h
          have := (b2 i2 (by omega)).1
          rw [h, hr] at x4
          omega
        rw [uq_n hcc, uq_n (by omega)]
        exact x4
  · by_cases hjk : j = k
    · subst hjk
      rw [uq_s, uq_n (by omega)]
      exact hqn i (by omega)
    · rw [uq_n hjk, uq_n (by omega)]
      exact b5 i j hij (by omega)
  · have h9 := @ncnt_one (BC rf) (BC (uq rf col (qu nx))) col (by
      cases h : BC rf col
      · rfl
      · exact absurd hr (BC_iff.mp h)) (BC_iff.mpr (by rw [uq_s]; omega)) n hc (fun i _ hic => (eC i hic).symm)
    have := b6.1
    omega
  · have h9 := @ncnt_one (BR cr rf row) (BR cr (uq rf col (qu nx)) row) (rc col).toNat hR0 hR1 n (by omega) (fun i hi hic => (eR i hi hic).symm)
    have := b6.2
    omega
  · by_cases hrh : r = (rc col).toNat
    · refine ⟨k, by omega, ?_⟩
      rw [uq_s]
      omega
    · rw [eR r hr9 hrh] at hR
      obtain ⟨i, x1, x2⟩ := b7 r hr9 hR
      refine ⟨i, by omega, ?_⟩
      rw [uq_n (by omega)]
      exact x2
  · by_cases hcc : c = col
    · subst hcc
      rw [uq_s]
      exact Or.inr (by omega)
    · have hik : i ≠ k := by omega
      rw [uq_n hik] at hw9
      rw [uq_n hcc]
      exact b8 i (by omega) c hc9 (by omega) hw9
theorem BF_pm (hp : PMT W n cr rc) (hb : BF W n cr rc fm row rf qu k nx col) (hk : k ≤ nx) {tau : Nat → Nat} (ht : PM W n tau) (hpre : ∀ i : Nat, i < n → (i : Int) ≤ fm → (tau i : Int) = cr i) : False := by
  obtain ⟨b1, b2, b3, b4, b5, b6, b7, b8⟩ := hb
  refine hall_pm (R := BR cr rf row) (C := BC rf) ht (fun r hr hR => ?_) (by omega)
  obtain ⟨i, hi, hq⟩ := b7 r hr hR
  obtain ⟨t1, t2⟩ := ht.1 r hr
  have hqr : (qu i).toNat = r := by omega
  rcases b8 i hi (tau r) t1 (by omega) (by rw [hqr]; exact t2) with ⟨h1, h2⟩ | h
  · exfalso
    rcases hp.2 (tau r) t1 with h3 | ⟨h3, h4, h5⟩
    · exact h1 h3
    · have h6 := hpre (rc (tau r)).toNat (by omega) (by omega)
      have h7 := ht.2 (rc (tau r)).toNat (by omega) r hr (by omega)
      have := (b2 i hi).2.2.1
      omega
  · exact BC_iff.mpr h
theorem BF_bal (hp : PMT W n cr rc) (hb : BF W n cr rc (-1) row rf qu k nx col) (hk : k ≤ nx) {L : Int} (hL : 0 < L) (h0 : ∀ r, r < n → ∀ c, c < n → 0 ≤ W (10 * r + c)) (hrs : ∀ r, r < n → isum (fun c => W (10 * r + c)) n = L) (hcs : ∀ c, c < n → isum (fun r => W (10 * r + c)) n = L) : False := by
  obtain ⟨b1, b2, b3, b4, b5, b6, b7, b8⟩ := hb
  refine hall (P := fun r c => W (10 * r + c)) (R := BR cr rf row) (C := BC rf) hL h0 (fun r hr _ => hrs r hr) (fun c hc => Int.le_of_eq (hcs c hc)) (fun r hr hR c hc hC => ?_) (by omega)
  obtain ⟨i, hi, hq⟩ := b7 r hr hR
  have hqr : (qu i).toNat = r := by omega
  have w0 := h0 r hr c hc
  apply Classical.byContradiction
  intro hne
  rcases b8 i hi c hc (by omega) (by rw [hqr]; omega) with ⟨h1, h2⟩ | h
  · rcases hp.2 c hc with h3 | ⟨h3, h4, h5⟩
    · exact h1 h3
    · omega
  · rw [BC_iff.mpr h] at hC
    cases hC
/-- the row has a column now; the rows as far as the firm one stay -/
abbrev WIN (W : Nat → Int) (n : Nat) (cr0 : Nat → Int) (fm : Int) (row : Nat) (cr rc : Nat → Int) : Prop := PMT W n cr rc ∧ cr row ≠ -1 ∧ (∀ r : Nat, r < n → (r : Int) ≤ fm → cr r = cr0 r) ∧ (∀ r, r < n → cr0 r ≠ -1 → cr r ≠ -1) ∧ (∀ r, r < n → cr r ≠ -1 → cr0 r ≠ -1 ∨ r = row)
/-- the chain of rows that move on, as far as the one at place i of the queue, that takes column c -/
abbrev CHN (W : Nat → Int) (n : Nat) (cr0 : Nat → Int) (fm : Int) (row : Nat) (rf qu : Nat → Int) (i c : Nat) (cr rc : Nat → Int) : Prop := PTx W n cr rc c ∧ c < n ∧ rf c = qu i ∧ 0 < W (10 * (qu i).toNat + c) ∧ (∀ i2, i2 ≤ i → cr (qu i2).toNat = cr0 (qu i2).toNat) ∧ (∀ r : Nat, r < n → (r : Int) ≤ fm → cr r = cr0 r) ∧ (∀ r, r < n → cr0 r ≠ -1 → cr r ≠ -1) ∧ (∀ r, r < n → cr r ≠ -1 → cr0 r ≠ -1 ∨ r = row)
/-- what the chain needs of the search -/
abbrev QS (W : Nat → Int) (n : Nat) (cr0 : Nat → Int) (fm : Int) (row : Nat) (rf qu : Nat → Int) (k : Nat) : Prop := qu 0 = row ∧ (∀ i, i < k → 0 ≤ qu i ∧ qu i < n ∧ fm < qu i) ∧ (∀ i, 0 < i → i < k → ∃ i2 c, i2 < i ∧ c < n ∧ cr0 (qu i).toNat = (c : Nat) ∧ rf c = qu i2 ∧ 0 < W (10 * (qu i2).toNat + c)) ∧ (∀ i j, i < j → j < k → qu i ≠ qu j)
theorem BF_win (hp : PMT W n cr rc) (hb : BF W n cr rc fm row rf qu k nx col) (hk : nx < k) (hc : col < n) (hh : rc col = -1) (hw : 0 < W (10 * (qu nx).toNat + col)) (hr : rf col = -1) : QS W n cr fm row (uq rf col (qu nx)) qu k ∧ CHN W n cr fm row (uq rf col (qu nx)) qu nx col cr rc := by
  obtain ⟨b1, b2, b3, b4, b5, b6, b7, b8⟩ := hb
  refine ⟨⟨b1.1, fun i hi => ⟨(b2 i hi).1, (b2 i hi).2.1, (b2 i hi).2.2.1⟩, fun i h0 hi => ?_, b5⟩, PTx_of hp hh, hc, uq_s, hw, fun _ _ => rfl, fun _ _ _ => rfl, fun _ _ h => h, fun _ _ h => Or.inl h⟩
  obtain ⟨i2, c, x1, x2, x3, x4⟩ := b4 i h0 hi
  have hq2 := (b2 i2 (by omega)).1
  have hq := b2 i hi
  have hcc : c ≠ col := by
    intro h
    rw [h, hr] at x4
    omega
  refine ⟨i2, c, x1, x2, ?_, ?_, ?_⟩
  · rcases hp.2 c x2 with h3 | ⟨h3, h4, h5⟩
    · omega
    · rw [x3] at h5
      exact h5
  · rw [uq_n hcc]; exact x4
  · have := (b3 c x2 (by omega)).2.1
    rw [x4] at this
    exact this
theorem CHN_end {cr0 : Nat → Int} {i c : Nat} (hq : QS W n cr0 fm row rf qu k) (hcr : cr0 row = -1) (hi : i < k) (hch : CHN W n cr0 fm row rf qu i c cr rc) (hrow : qu i = row) : WIN W n cr0 fm row (uq cr row c) (uq rc c row) := by
  obtain ⟨q1, q2, q3, q4⟩ := hq
  obtain ⟨c1, c2, c3, c4, c5, c6, c7, c8⟩ := hch
  have hb := q2 i hi
  have e1 : (qu i).toNat = row := by omega
  have e2 : cr row = -1 := by
    have := c5 i (Nat.le_refl _)
    rw [e1] at this
    omega
  refine ⟨PTx_end c1 c2 (by omega) e2 (by rw [← e1]; exact c4), ?_, fun r hr hf => ?_, fun r hr h => ?_, fun r hr h => ?_⟩
  · rw [uq_s]; omega
  · rw [uq_n (by omega)]; exact c6 r hr hf
  · by_cases hrr : r = row
    · subst hrr; rw [uq_s]; omega
    · rw [uq_n hrr]; exact c7 r hr h
  · by_cases hrr : r = row
    · exact Or.inr hrr
    · rw [uq_n hrr] at h; exact c8 r hr h
theorem CHN_step {cr0 : Nat → Int} {i c : Nat} (hq : QS W n cr0 fm row rf qu k) (hi : i < k) (hch : CHN W n cr0 fm row rf qu i c cr rc) (hrow : qu i ≠ row) : ∃ i2 y : Nat, i2 < i ∧ cr (qu i).toNat = y ∧ y < n ∧ CHN W n cr0 fm row rf qu i2 y (uq cr (qu i).toNat c) (uq rc c (qu i)) := by
  obtain ⟨q1, q2, q3, q4⟩ := hq
  obtain ⟨c1, c2, c3, c4, c5, c6, c7, c8⟩ := hch
  have hb := q2 i hi
  have hi0 : 0 < i := by
    apply Classical.byContradiction
    intro h
    have : i = 0 := by omega
    rw [this] at hrow
    exact hrow q1
  obtain ⟨i2, y, x1, x2, x3, x4, x5⟩ := q3 i hi0 hi
  have e1 : cr (qu i).toNat = y := by rw [c5 i (Nat.le_refl _)]; exact x3
  have e2 : uq rc c (qu i) = uq rc c ((qu i).toNat : Nat) := by
    congr 1
    omega
  refine ⟨i2, y, x1, e1, x2, ?_, x2, x4, x5, fun i3 hi3 => ?_, fun r hr hf => ?_, fun r hr h => ?_, fun r hr h => ?_⟩
  · rw [e2]
    exact PTx_step c1 c2 (by omega) e1 c4
  · have := q4 i3 i (by omega) hi
    have := q2 i3 (by omega)
    rw [uq_n (by omega)]
    exact c5 i3 (by omega)
  · rw [uq_n (by omega)]; exact c6 r hr hf
  · by_cases hrr : r = (qu i).toNat
    · subst hrr; rw [uq_s]; omega
    · rw [uq_n hrr]; exact c7 r hr h
  · by_cases hrr : r = (qu i).toNat
    · refine Or.inl ?_
      rw [hrr, x3]
      omega
    · rw [uq_n hrr] at h; exact c8 r hr h
end BFS
