/-! the bound; sums with a tail of noughts -/
section AUX
variable {J M : Nat}
theorem bnd_ge {t : Nat → Int} : 0 ≤ bnd t J M ∧ (∀ k, k < J → rowS t M k ≤ bnd t J M) ∧ (∀ k, k < M → colS t J k ≤ bnd t J M) := by
  have h1 := @imax_ge (fun j => rowS t M j) 0 J
  have h2 := @imax_ge (fun m => colS t J m) (imax (fun j => rowS t M j) 0 J) M
  unfold bnd
  refine ⟨by omega, fun k hk => ?_, fun k hk => h2.2 k hk⟩
  have := h1.2 k hk
  omega
theorem bnd_le {t : Nat → Int} {B : Int} (h0 : 0 ≤ B) (h1 : ∀ k, k < J → rowS t M k ≤ B) (h2 : ∀ k, k < M → colS t J k ≤ B) : bnd t J M ≤ B := by
  unfold bnd
  rcases @imax_is (fun m => colS t J m) (imax (fun j => rowS t M j) 0 J) M with h | ⟨i9, hi, h⟩
  · rw [h]
    rcases @imax_is (fun j => rowS t M j) 0 J with h | ⟨i9, hi, h⟩
    · rw [h]; exact h0
    · rw [h]; exact h1 i9 hi
  · rw [h]; exact h2 i9 hi
end AUX
theorem isum_tail {f : Nat → Int} {a : Nat} : ∀ {n : Nat}, a ≤ n → (∀ i, a ≤ i → i < n → f i = 0) → isum f n = isum f a
  | 0, h, _ => by
    obtain rfl : a = 0 := by omega
    rfl
  | n + 1, h, h2 => by
    by_cases han : a = n + 1
    · rw [han]
    · simp only [isum]
      rw [isum_tail (n := n) (by omega) (fun i h3 h4 => h2 i h3 (by omega)), h2 n (by omega) (by omega), Int.add_zero]
