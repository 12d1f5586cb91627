/-! the slices, apart from the machine -/
theorem isum_split {f : Nat → Int} {a : Nat} : ∀ {b : Nat}, isum f (a + b) = isum f a + isum (fun i => f (a + i)) b
  | 0 => by simp [isum]
  | b + 1 => by
    rw [← Nat.add_assoc]
    simp only [isum]
    rw [isum_split (b := b)]
    omega
theorem isum_at {n k : Nat} {x : Int} : isum (fun i => if k = i then x else 0) n = if k < n then x else 0 := by
  induction n with
  | zero => rfl
  | succ n ih =>
    simp only [isum]
    rw [ih]
    by_cases h1 : k < n
    · rw [if_pos h1, if_neg (by omega), if_pos (by omega)]; omega
    · by_cases h2 : k = n
      · rw [if_neg h1, if_pos h2, if_pos (by omega)]; omega
      · rw [if_neg h1, if_neg h2, if_neg (by omega)]; rfl
theorem isum_term {f : Nat → Int} : ∀ {n i : Nat}, (∀ k, k < n → 0 ≤ f k) → i < n → f i ≤ isum f n
  | 0, i, _, hi => absurd hi (Nat.not_lt_zero i)
  | n + 1, i, h, hi => by
    simp only [isum]
    have h1 := isum_ge (f := f) (n := n) (fun k hk => h k (by omega))
    have h2 := h n (by omega)
    by_cases hin : i = n
    · subst hin; omega
    · have := isum_term (f := f) (n := n) (i := i) (fun k hk => h k (by omega)) (by omega)
      omega
abbrev BALN (W : Nat → Int) (n : Nat) (L : Int) : Prop := (∀ r, r < n → ∀ c, c < n → 0 ≤ W (10 * r + c)) ∧ (∀ r, r < n → isum (fun c => W (10 * r + c)) n = L) ∧ (∀ c, c < n → isum (fun r => W (10 * r + c)) n = L)
theorem PM_onto {W : Nat → Int} {n : Nat} {sg : Nat → Nat} (ht : PM W n sg) {c : Nat} (hc : c < n) : ∃ r, r < n ∧ sg r = c := by
  apply Classical.byContradiction
  intro hno
  refine hall_pm (R := fun _ => true) (C := fun x => decide (x ≠ c)) ht (fun r hr _ => ?_) ?_
  · refine decide_eq_true ?_
    intro h9
    exact hno ⟨r, hr, h9⟩
  · have h9 := @ncnt_one (fun x => decide (x ≠ c)) (fun _ => true) c (by simp) rfl n hc (fun i _ hic => by simp [hic])
    exact h9.symm
section SEQS
variable {W : Nat → Int} {n : Nat} {L l : Int} {sg : Nat → Nat}
theorem BALN_le (h : BALN W n L) {r c : Nat} (hr : r < n) (hc : c < n) : W (10 * r + c) ≤ L := by
  rw [← h.2.1 r hr]
  exact isum_term (f := fun c => W (10 * r + c)) (fun k hk => h.1 r hr k hk) hc
theorem tko_at {r c : Nat} (hr : r < n) (hc : c < 10) : tko W sg l n (10 * r + c) = W (10 * r + c) + (if sg r = c then -l else 0) := by
  unfold tko
  rw [show (10 * r + c) / 10 = r by omega, show (10 * r + c) % 10 = c by omega]
  by_cases h : sg r = c
  · rw [if_pos ⟨hr, h.symm⟩, if_pos h]; omega
  · rw [if_neg (fun h9 => h h9.2.symm), if_neg h]; omega
theorem BALN_tko (hn10 : n ≤ 10) (h : BALN W n L) (hp : PM W n sg) (hl : ∀ r, r < n → l ≤ W (10 * r + sg r)) : BALN (tko W sg l n) n (L - l) := by
  refine ⟨fun r hr c hc => ?_, fun r hr => ?_, fun c hc => ?_⟩
  · rw [tko_at hr (by omega)]
    have h1 := h.1 r hr c hc
    split
    · rename_i h2
      have := hl r hr
      rw [h2] at this
      omega
    · omega
  · rw [isum_congr (g := fun c => W (10 * r + c) + (if sg r = c then -l else 0)) (fun c hc => tko_at hr (by omega)), isum_add, isum_at, if_pos (hp.1 r hr).1, h.2.1 r hr]
    omega
  · obtain ⟨r0, h0, h1⟩ := PM_onto hp hc
    rw [isum_congr (g := fun r => W (10 * r + c) + (if r0 = r then -l else 0)) (fun r hr => ?_), isum_add, isum_at, if_pos h0, h.2.2 c hc]
    · omega
    · rw [tko_at hr (by omega)]
      by_cases h2 : sg r = c
      · rw [if_pos h2, if_pos]
        exact hp.2 r0 h0 r hr (by omega)
      · rw [if_neg h2, if_neg]
        intro h3
        rw [h3] at h1
        exact h2 h1
def psn (W : Nat → Int) (n : Nat) : Nat := ncnt (fun k => decide (k / 10 < n ∧ k % 10 < n ∧ 0 < W k)) 100
theorem psn_tko (hn10 : n ≤ 10) (hp : PM W n sg) (hl : ∀ r, r < n → 0 ≤ l) {r : Nat} (hr : r < n) (hlr : l = W (10 * r + sg r)) : psn (tko W sg l n) n + 1 ≤ psn W n := by
  have hs := hp.1 r hr
  unfold psn
  refine ncnt_lt (k := 10 * r + sg r) (decide_eq_false ?_) (decide_eq_true ⟨by omega, by omega, hs.2⟩) (by omega) (fun i hi h => ?_)
  · rintro ⟨h1, h2, h3⟩
    rw [tko_at hr (by omega), if_pos rfl] at h3
    omega
  · obtain ⟨h1, h2, h3⟩ := of_decide_eq_true h
    refine decide_eq_true ⟨h1, h2, ?_⟩
    have h4 := @tko_at W n l sg (i / 10) (i % 10) h1 (by omega)
    rw [show 10 * (i / 10) + i % 10 = i by omega] at h4
    have h5 := hl r hr
    rw [h4] at h3
    split at h3 <;> omega
/-- where the filled table can be above 0 -/
def fez (J M k : Nat) : Bool := decide (k / 10 < J + M ∧ k % 10 < J + M ∧ ((k / 10 < J ∧ k % 10 < M) ∨ (k / 10 < J ∧ M ≤ k % 10 ∧ k / 10 = k % 10 - M) ∨ (J ≤ k / 10 ∧ k % 10 < M ∧ k / 10 - J = k % 10) ∨ (J ≤ k / 10 ∧ M ≤ k % 10)))
theorem fez_60 : ∀ J : Fin 6, ∀ M : Fin 6, ncnt (fez J.val M.val) 100 ≤ 60 := by decide +kernel
end SEQS
section FE
variable {t : Nat → Int} {J M : Nat}
theorem fe_psn (hJ5 : J ≤ 5) (hM5 : M ≤ 5) {W : Nat → Int} (hW : ∀ r, r < J + M → ∀ c, c < J + M → W (10 * r + c) = fe t J M r c) : psn W (J + M) ≤ 60 := by
  refine Nat.le_trans (ncnt_mono (r := fez J M) (fun k hk h => ?_)) (fez_60 ⟨J, by omega⟩ ⟨M, by omega⟩)
  obtain ⟨h1, h2, h3⟩ := of_decide_eq_true h
  refine decide_eq_true ⟨h1, h2, ?_⟩
  have h4 := hW (k / 10) h1 (k % 10) h2
  rw [show 10 * (k / 10) + k % 10 = k by omega] at h4
  rw [h4] at h3
  unfold fe at h3
  by_cases k1 : k / 10 < J
  · rw [if_pos k1] at h3
    by_cases k2 : k % 10 < M
    · omega
    · rw [if_neg k2] at h3
      by_cases k3 : k / 10 = k % 10 - M
      · omega
      · rw [if_neg k3] at h3; omega
  · rw [if_neg k1] at h3
    by_cases k2 : k % 10 < M
    · rw [if_pos k2] at h3
      by_cases k3 : k / 10 - J = k % 10
      · omega
      · rw [if_neg k3] at h3; omega
    · omega
theorem fe_BALN (ht : TOK t) (hJ5 : J ≤ 5) (hM5 : M ≤ 5) {W : Nat → Int} (hW : ∀ r, r < J + M → ∀ c, c < J + M → W (10 * r + c) = fe t J M r c) : BALN W (J + M) (bnd t J M) := by
  obtain ⟨g1, g2, g3⟩ := @bnd_ge J M t
  refine ⟨fun r hr c hc => ?_, fun r hr => ?_, fun c hc => ?_⟩
  · rw [hW r hr c hc]
    unfold fe
    by_cases k1 : r < J
    · rw [if_pos k1]
      by_cases k2 : c < M
      · rw [if_pos k2]; exact (ht _ (by omega)).1
      · rw [if_neg k2]
        have := g2 r k1
        split <;> omega
    · rw [if_neg k1]
      by_cases k2 : c < M
      · rw [if_pos k2]
        have := g3 c k2
        split <;> omega
      · rw [if_neg k2]; exact (ht _ (by omega)).1
  · rw [isum_congr (fun c hc => hW r hr c hc), Nat.add_comm J M, isum_split]
    by_cases k1 : r < J
    · have e1 : isum (fun c => fe t J M r c) M = rowS t M r := isum_congr (fun c hc => by unfold fe; rw [if_pos k1, if_pos hc])
      have e2 : isum (fun i => fe t J M r (M + i)) J = bnd t J M - rowS t M r := by
        rw [isum_congr (g := fun i => if r = i then bnd t J M - rowS t M r else 0) (fun i hi => ?_), isum_at, if_pos k1]
        unfold fe
        rw [if_pos k1, if_neg (by omega), show M + i - M = i by omega]
      rw [e1, e2]
      omega
    · have e1 : isum (fun c => fe t J M r c) M = bnd t J M - colS t J (r - J) := by
        rw [isum_congr (g := fun c => if r - J = c then bnd t J M - colS t J (r - J) else 0) (fun i hi => ?_), isum_at, if_pos (by omega)]
        unfold fe
        rw [if_neg k1, if_pos hi]
        by_cases h9 : r - J = i
        · rw [if_pos h9, if_pos h9, h9]
        · rw [if_neg h9, if_neg h9]
      have e2 : isum (fun i => fe t J M r (M + i)) J = colS t J (r - J) := isum_congr (fun i hi => by
        unfold fe
        rw [if_neg k1, if_neg (by omega), show M + i - M = i by omega])
      rw [e1, e2]
      omega
  · rw [isum_congr (fun r hr => hW r hr c hc), isum_split]
    by_cases k1 : c < M
    · have e1 : isum (fun r => fe t J M r c) J = colS t J c := isum_congr (fun r hr => by unfold fe; rw [if_pos hr, if_pos k1])
      have e2 : isum (fun i => fe t J M (J + i) c) M = bnd t J M - colS t J c := by
        rw [isum_congr (g := fun i => if c = i then bnd t J M - colS t J c else 0) (fun i hi => ?_), isum_at, if_pos k1]
        unfold fe
        rw [if_neg (by omega), if_pos k1, show J + i - J = i by omega]
        by_cases h9 : c = i
        · rw [if_pos h9.symm, if_pos h9]
        · rw [if_neg (fun h => h9 h.symm), if_neg h9]
      rw [e1, e2]
      omega
    · have e1 : isum (fun r => fe t J M r c) J = bnd t J M - rowS t M (c - M) := by
        rw [isum_congr (g := fun r => if c - M = r then bnd t J M - rowS t M (c - M) else 0) (fun i hi => ?_), isum_at, if_pos (by omega)]
        unfold fe
        rw [if_pos hi, if_neg k1]
        by_cases h9 : i = c - M
        · rw [if_pos h9, if_pos h9.symm, h9]
        · rw [if_neg h9, if_neg (fun h => h9 h.symm)]
      have e2 : isum (fun i => fe t J M (J + i) c) M = rowS t M (c - M) := isum_congr (fun i hi => by
        unfold fe
        rw [if_neg (by omega), if_neg k1, show J + i - J = i by omega])
      rw [e1, e2]
      omega
end FE
