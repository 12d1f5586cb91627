/-! bits; lengths of slices are above 0 -/
def bi (b : Bool) : Int := if b = true then 1 else 0
theorem shl_x {n : Nat} (h : n < 11) : iop (fun x y => x <<< (y &&& 31)) 1 (n : Int) = ((2 ^ n : Nat) : Int) := shl_n ⟨n, h⟩
theorem shr_x {s c : Nat} (h : s < 1024) (h2 : c < 10) : iop (fun x y => x &&& y) (iop (fun x y => x >>> (y &&& 31)) (s : Int) (c : Int)) 1 = bi (s.testBit c) := shr_b ⟨s, h⟩ ⟨c, h2⟩
theorem or_x {s c : Nat} (h : s < 1024) (h2 : c < 10) : iop (fun x y => x ||| y) (s : Int) ((2 ^ c : Nat) : Int) = ((s ||| 2 ^ c : Nat) : Int) := or_b ⟨s, h⟩ ⟨c, h2⟩
theorem uq_uq {f : Nat → Int} {i : Nat} {v w : Int} : uq (uq f i v) i w = uq f i w := by
  funext k
  unfold uq
  by_cases h : k = i
  · rw [if_pos h, if_pos h]
  · rw [if_neg h, if_neg h, if_neg h]
theorem bi_f : bi false = 0 := rfl
theorem bi_t : bi true = 1 := rfl
theorem isum_lt {f : Nat → Int} : ∀ {n s : Nat}, (∀ k, k < n → 0 < f k) → s < n → isum f s < isum f n
  | 0, s, _, hs => absurd hs (Nat.not_lt_zero s)
  | n + 1, s, h, hs => by
    simp only [isum]
    have h1 := h n (by omega)
    by_cases hsn : s = n
    · subst hsn; omega
    · have := isum_lt (f := f) (n := n) (s := s) (fun k hk => h k (by omega)) (by omega)
      omega
theorem SEQ_pos {n N : Nat} {Ws : Nat → Nat → Int} {sg : Nat → Nat → Nat} {ln : Nat → Int} (hn0 : 1 ≤ n) (hseq : SEQp n N Ws sg ln) : ∀ k, k < N → 0 < ln k := by
  intro k hk
  obtain ⟨h1, h2, h3⟩ := hseq k hk
  rw [h2]
  rcases @imn_is (fun r => Ws k (10 * r + sg k r)) (Ws k (10 * 0 + sg k 0)) n with h | ⟨i, hi, h⟩
  · rw [h]; exact (h1.1.1 0 (by omega)).2
  · rw [h]; exact (h1.1.1 i hi).2
