/-! the slices, apart from the machine -/
section SPUR
variable {t : Nat → Int} {J M N k j m : Nat} {Ws : Nat → Nat → Int} {sg : Nat → Nat → Nat} {ln : Nat → Int}
theorem sq_bal (ht : TOK t) (hJ5 : J ≤ 5) (hM5 : M ≤ 5) (hs : SEQ t J M N Ws sg ln) : ∀ {k : Nat}, k ≤ N → BALN (Ws k) (J + M) (bnd t J M - isum ln k)
  | 0, _ => by
    rw [show isum ln 0 = 0 from rfl, Int.sub_zero]
    exact fe_BALN ht hJ5 hM5 hs.1
  | k + 1, hk => by
    obtain ⟨h1, h2, h3⟩ := hs.2.1 k (by omega)
    have ih := sq_bal ht hJ5 hM5 hs (k := k) (by omega)
    have hl : ∀ r, r < J + M → ln k ≤ Ws k (10 * r + sg k r) := fun r hr => by
      rw [h2]
      exact (@imn_le (fun r => Ws k (10 * r + sg k r)) (Ws k (10 * 0 + sg k 0)) (J + M)).2 r hr
    have h9 := BALN_tko (by omega) ih h1.1 hl
    rw [h3, show isum ln (k + 1) = isum ln k + ln k from rfl, show bnd t J M - (isum ln k + ln k) = bnd t J M - isum ln k - ln k by omega]
    exact h9
theorem sq_cell (hJ5 : J ≤ 5) (hM5 : M ≤ 5) (hs : SEQ t J M N Ws sg ln) {r c : Nat} (hr : r < J + M) (hc : c < J + M) : ∀ {k : Nat}, k ≤ N → Ws k (10 * r + c) = fe t J M r c - isum (fun i => if sg i r = c then ln i else 0) k
  | 0, _ => by
    rw [show isum (fun i => if sg i r = c then ln i else 0) 0 = 0 from rfl, Int.sub_zero]
    exact hs.1 r hr c hc
  | k + 1, hk => by
    obtain ⟨h1, h2, h3⟩ := hs.2.1 k (by omega)
    have ih := sq_cell hJ5 hM5 hs hr hc (k := k) (by omega)
    rw [h3, tko_at hr (by omega), ih, show isum (fun i => if sg i r = c then ln i else 0) (k + 1) = isum (fun i => if sg i r = c then ln i else 0) k + (if sg k r = c then ln k else 0) from rfl]
    by_cases h : sg k r = c
    · rw [if_pos h, if_pos h]; omega
    · rw [if_neg h, if_neg h]; omega
theorem sq_all (ht : TOK t) (hJ5 : J ≤ 5) (hM5 : M ≤ 5) (hs : SEQ t J M N Ws sg ln) {r c : Nat} (hr : r < J + M) (hc : c < J + M) : fe t J M r c = isum (fun i => if sg i r = c then ln i else 0) N := by
  have h1 := sq_bal ht hJ5 hM5 hs (Nat.le_refl N)
  have h2 := BALN_le h1 hr hc
  have h3 := h1.1 r hr c hc
  have h4 := sq_cell hJ5 hM5 hs hr hc (Nat.le_refl N)
  have h5 := hs.2.2.1
  omega
theorem sq_pos (hJ1 : 1 ≤ J) (hs : SEQ t J M N Ws sg ln) : ∀ k, k < N → 0 < ln k := SEQ_pos (by omega) hs.2.1
theorem mo_at {m : Nat} (hm : m < M) : mo sg M k j = (m : Int) ↔ sg k j = m := by
  unfold mo
  split <;> constructor <;> intro h <;> omega
theorem fe_t {r c : Nat} (hr : r < J) (hc : c < M) : fe t J M r c = t (5 * r + c) := by
  unfold fe
  rw [if_pos hr, if_pos hc]
theorem sq_time (ht : TOK t) (hJ5 : J ≤ 5) (hM5 : M ≤ 5) (hs : SEQ t J M N Ws sg ln) (hj : j < J) (hm : m < M) : t (5 * j + m) = isum (fun i => if mo sg M i j = (m : Int) then ln i else 0) N := by
  rw [← fe_t (t := t) (J := J) hj hm, sq_all ht hJ5 hM5 hs (show j < J + M by omega) (show m < J + M by omega)]
  refine isum_congr (fun i hi => ?_)
  by_cases h : sg i j = m
  · rw [if_pos h, if_pos ((mo_at hm).mpr h)]
  · rw [if_neg h, if_neg (fun z => h ((mo_at hm).mp z))]
theorem sq_work (ht : TOK t) (hJ5 : J ≤ 5) (hM5 : M ≤ 5) (hJ1 : 1 ≤ J) (hs : SEQ t J M N Ws sg ln) (hj : j < J) (hm : m < M) (hk : k < N) (h : mo sg M k j = (m : Int)) : 0 < t (5 * j + m) := by
  have hp := sq_pos hJ1 hs
  have h1 : (if mo sg M k j = (m : Int) then ln k else 0) ≤ isum (fun i => if mo sg M i j = (m : Int) then ln i else 0) N := isum_term (f := fun i => if mo sg M i j = (m : Int) then ln i else 0) (n := N) (i := k) (fun i hi => by
    have h9 := hp i hi
    by_cases h8 : mo sg M i j = (m : Int)
    · rw [if_pos h8]; omega
    · rw [if_neg h8]; omega) hk
  rw [if_pos h] at h1
  rw [sq_time ht hJ5 hM5 hs hj hm]
  have h3 := hp k hk
  omega
theorem sq_le (hp : ∀ k, k < N → 0 < ln k) {a b : Nat} (hab : a ≤ b) (hb : b ≤ N) : isum ln a ≤ isum ln b := by
  by_cases h : a = b
  · rw [h]; exact Int.le_refl _
  · exact Int.le_of_lt (isum_lt (n := b) (s := a) (fun i hi => hp i (by omega)) (by omega))
theorem sq_nx {a : Nat} : isum ln (a + 1) = isum ln a + ln a := rfl
theorem sq_ja (hp : ∀ k, k < N → 0 < ln k) (hs : SEQ t J M N Ws sg ln) (hj : j < J) (hk : k < N) (h : mo sg M k j = (m : Int)) : ja sg ln J M (isum ln k) (m : Int) N = (j : Int) := by
  have h9 := hp k hk
  rw [ja_up hp hk (by omega) (show k + 1 ≤ N by omega) (Nat.le_refl N)]
  simp only [ja]
  rw [if_pos (show isum ln k ≤ isum ln k ∧ isum ln k < isum ln k + ln k from ⟨Int.le_refl _, by omega⟩)]
  exact jl_at hj h (fun i hi h8 => mo_inj hs (show (0 : Int) ≤ (m : Int) by omega) k hk i hi j hj h8 h)
theorem sq_ja0 (hp : ∀ k, k < N → 0 < ln k) (hk : k < N) (h : ∀ i, i < J → mo sg M k i ≠ (m : Int)) : ja sg ln J M (isum ln k) (m : Int) N = -1 := by
  have h9 := hp k hk
  rw [ja_up hp hk (by omega) (show k + 1 ≤ N by omega) (Nat.le_refl N)]
  simp only [ja]
  rw [if_pos (show isum ln k ≤ isum ln k ∧ isum ln k < isum ln k + ln k from ⟨Int.le_refl _, by omega⟩), jl_no h]
  refine ja_no (fun i hi h8 => ?_)
  have h7 := sq_le hp (show i + 1 ≤ k by omega) (by omega)
  rw [sq_nx] at h7
  omega
theorem sq_jae (hp : ∀ k, k < N → 0 < ln k) {v : Int} : ja sg ln J M (isum ln N) v N = -1 := by
  refine ja_no (fun i hi h8 => ?_)
  have h7 := sq_le hp (show i + 1 ≤ N by omega) (Nat.le_refl N)
  rw [sq_nx] at h7
  omega
theorem sq_jan (hp : ∀ k, k < N → 0 < ln k) {v : Int} : ja sg ln J M (-1) v N = -1 := by
  refine ja_no (fun i hi h8 => ?_)
  have h7 := sq_le hp (show 0 ≤ i by omega) (by omega)
  have h6 : isum ln 0 = 0 := rfl
  omega
theorem sq_done1 (hp : ∀ k, k < N → 0 < ln k) (hk : k < N) {v : Int} (h : mo sg M k j = v) : isum (dn sg ln M j v (isum ln k + 1)) N = isum (dn sg ln M j v (isum ln k)) N + 1 := by
  have e1 : isum (dn sg ln M j v (isum ln k + 1)) N = isum (fun i => dn sg ln M j v (isum ln k) i + (if k = i then 1 else 0)) N := by
    refine isum_congr (fun i hi => ?_)
    have hi9 := hp i hi
    have hk9 := hp k hk
    unfold dn
    by_cases hm : mo sg M i j = v
    · by_cases c1 : i < k
      · have h7 := sq_le hp (show i + 1 ≤ k by omega) (by omega)
        rw [sq_nx] at h7
        rw [if_neg (show ¬ k = i by omega), if_pos (show mo sg M i j = v ∧ isum ln i < isum ln k + 1 from ⟨hm, by omega⟩), if_pos (show mo sg M i j = v ∧ isum ln i < isum ln k from ⟨hm, by omega⟩), if_pos (show ln i < isum ln k + 1 - isum ln i by omega)]
        by_cases c2 : ln i < isum ln k - isum ln i
        · rw [if_pos c2]; omega
        · rw [if_neg c2]; omega
      · by_cases c2 : k = i
        · subst c2
          rw [if_pos (show k = k from rfl), if_pos (show mo sg M k j = v ∧ isum ln k < isum ln k + 1 from ⟨hm, by omega⟩), if_neg (show ¬ (ln k < isum ln k + 1 - isum ln k) by omega), if_neg (show ¬ (mo sg M k j = v ∧ isum ln k < isum ln k) from fun z => absurd z.2 (by omega))]
          omega
        · have h7 := sq_le hp (show k + 1 ≤ i by omega) (by omega)
          rw [sq_nx] at h7
          rw [if_neg c2, if_neg (show ¬ (mo sg M i j = v ∧ isum ln i < isum ln k + 1) from fun z => absurd z.2 (by omega)), if_neg (show ¬ (mo sg M i j = v ∧ isum ln i < isum ln k) from fun z => absurd z.2 (by omega))] <;> omega
    · rw [if_neg (show ¬ (mo sg M i j = v ∧ isum ln i < isum ln k + 1) from fun z => hm z.1), if_neg (show ¬ (mo sg M i j = v ∧ isum ln i < isum ln k) from fun z => hm z.1), if_neg (show ¬ k = i by intro z; subst z; exact hm h)] <;> omega
  have e2 := isum_add (f := dn sg ln M j v (isum ln k)) (g := fun i => if k = i then 1 else 0) (n := N)
  have e3 := isum_one (n := N) (k := k)
  rw [if_pos hk] at e3
  rw [e1]
  (try simp only [] at e2)
  omega
theorem sq_doneE (ht : TOK t) (hJ5 : J ≤ 5) (hM5 : M ≤ 5) (hp : ∀ k, k < N → 0 < ln k) (hs : SEQ t J M N Ws sg ln) (hj : j < J) (hm : m < M) : isum (dn sg ln M j (m : Int) (isum ln N)) N = t (5 * j + m) := by
  rw [sq_time ht hJ5 hM5 hs hj hm]
  refine isum_congr (fun i hi => ?_)
  have hi9 := hp i hi
  have h7 := sq_le hp (show i + 1 ≤ N by omega) (Nat.le_refl N)
  rw [sq_nx] at h7
  unfold dn
  by_cases h : mo sg M i j = (m : Int)
  · rw [if_pos (show mo sg M i j = (m : Int) ∧ isum ln i < isum ln N from ⟨h, by omega⟩), if_pos h]
    by_cases c2 : ln i < isum ln N - isum ln i
    · rw [if_pos c2]
    · rw [if_neg c2]; omega
  · rw [if_neg (show ¬ (mo sg M i j = (m : Int) ∧ isum ln i < isum ln N) from fun z => h z.1), if_neg h]
theorem sq_done0 (hp : ∀ k, k < N → 0 < ln k) {v : Int} : isum (dn sg ln M j v 0) N = 0 := by
  refine (isum_congr (g := fun _ => 0) (fun i hi => ?_)).trans isum_zero
  have h7 := sq_le hp (show 0 ≤ i by omega) (by omega)
  have h6 : isum ln 0 = 0 := rfl
  unfold dn
  rw [if_neg (show ¬ (mo sg M i j = v ∧ isum ln i < 0) from fun z => absurd z.2 (by omega))]
theorem sq_row (ht : TOK t) (hJ5 : J ≤ 5) (hM5 : M ≤ 5) (hs : SEQ t J M N Ws sg ln) (hj : j < J) : rowS t M j = isum (fun i => if mo sg M i j = -1 then 0 else ln i) N := by
  unfold rowS
  rw [isum_congr (g := fun m => isum (fun i => if mo sg M i j = (m : Int) then ln i else 0) N) (fun m hm => sq_time ht hJ5 hM5 hs hj hm)]
  refine (isum_swap (f := fun m i => if mo sg M i j = ((m : Nat) : Int) then ln i else 0) (n := N) (m := M)).trans (isum_congr (fun i hi => ?_))
  by_cases h : mo sg M i j = -1
  · rw [if_pos h]
    refine (isum_congr (g := fun _ => 0) (fun m hm => ?_)).trans isum_zero
    rw [if_neg (by omega)]
  · rw [if_neg h]
    obtain ⟨c, hc, hc2⟩ : ∃ c : Nat, c < M ∧ mo sg M i j = (c : Int) := by
      unfold mo at h ⊢
      by_cases h9 : (sg i j : Int) < M
      · rw [if_pos h9]; exact ⟨sg i j, by omega, rfl⟩
      · rw [if_neg h9] at h; exact absurd rfl h
    have e9 := isum_at (n := M) (k := c) (x := ln i)
    rw [if_pos hc] at e9
    refine (isum_congr (fun m hm => ?_)).trans e9
    by_cases h8 : c = m
    · rw [if_pos h8, if_pos (by omega)]
    · rw [if_neg h8, if_neg (by omega)]
theorem fi_wk (hp : ∀ k, k < N → 0 < ln k) : ∀ {n : Nat}, n ≤ N → 0 ≤ isum (fun i => if mo sg M i j = -1 then 0 else ln i) n ∧ isum (fun i => if mo sg M i j = -1 then 0 else ln i) n ≤ fi sg ln M j n ∧ fi sg ln M j n ≤ isum ln n ∧ (isum (fun i => if mo sg M i j = -1 then 0 else ln i) n = 0 → fi sg ln M j n = 0)
  | 0, _ => ⟨Int.le_refl _, Int.le_refl _, Int.le_refl _, fun _ => rfl⟩
  | n + 1, hn => by
    obtain ⟨h0, h1, h2, h3⟩ := fi_wk hp (n := n) (by omega)
    have h9 := hp n (by omega)
    have e1 : isum (fun i => if mo sg M i j = -1 then 0 else ln i) (n + 1) = isum (fun i => if mo sg M i j = -1 then 0 else ln i) n + (if mo sg M n j = -1 then 0 else ln n) := rfl
    rw [e1, sq_nx]
    simp only [fi]
    by_cases h : mo sg M n j = -1
    · rw [if_pos h, if_pos h]
      exact ⟨by omega, by omega, by omega, fun z => h3 (by omega)⟩
    · rw [if_neg h, if_neg h]
      exact ⟨by omega, by omega, by omega, fun z => absurd z (by omega)⟩
theorem sq_fi (ht : TOK t) (hJ5 : J ≤ 5) (hM5 : M ≤ 5) (hp : ∀ k, k < N → 0 < ln k) (hs : SEQ t J M N Ws sg ln) (hj : j < J) : rowS t M j ≤ fi sg ln M j N ∧ fi sg ln M j N ≤ isum ln N ∧ (rowS t M j ≤ 0 → fi sg ln M j N = 0) := by
  obtain ⟨h0, h1, h2, h3⟩ := fi_wk (sg := sg) (M := M) (j := j) hp (Nat.le_refl N)
  rw [sq_row ht hJ5 hM5 hs hj]
  exact ⟨h1, h2, fun z => h3 (by omega)⟩
theorem sq_brk : 0 ≤ isum (fun k => isum (fun j => bi (brk sg M N k j)) J) N ∧ isum (fun k => isum (fun j => bi (brk sg M N k j)) J) N ≤ (N : Int) * (J : Int) := by
  have hb : ∀ b : Bool, 0 ≤ bi b ∧ bi b ≤ 1 := by
    intro b
    cases b
    · rw [bi_f]; omega
    · rw [bi_t]; omega
  have h1 : ∀ k, k < N → isum (fun j => bi (brk sg M N k j)) J ≤ (J : Int) := fun k _ => by
    have := isum_le (f := fun j => bi (brk sg M N k j)) (b := 1) (n := J) (fun j _ => (hb _).2)
    omega
  refine ⟨isum_ge (fun k _ => isum_ge (fun j _ => (hb _).1)), ?_⟩
  rw [Int.mul_comm]
  exact isum_le h1
/-- the machines that are taken -/
def msx (sg : Nat → Nat → Nat) (M k : Nat) : Nat → Nat
  | 0 => 0
  | j + 1 => if mo sg M k j = -1 then msx sg M k j else msx sg M k j ||| 2 ^ (mo sg M k j).toNat
theorem msx_bit {c : Nat} : ∀ {j : Nat}, (msx sg M k j).testBit c = true ↔ ∃ i, i < j ∧ mo sg M k i = (c : Int)
  | 0 => by
    simp only [msx, Nat.zero_testBit]
    exact ⟨fun h => absurd h (by decide), fun ⟨i, hi, _⟩ => absurd hi (Nat.not_lt_zero i)⟩
  | j + 1 => by
    have ih := msx_bit (c := c) (j := j)
    have hb := @mo_bd sg M k j
    simp only [msx]
    by_cases h : mo sg M k j = -1
    · rw [if_pos h, ih]
      constructor
      · rintro ⟨i, hi, h9⟩
        exact ⟨i, by omega, h9⟩
      · rintro ⟨i, hi, h9⟩
        by_cases hij : i = j
        · subst hij; omega
        · exact ⟨i, by omega, h9⟩
    · rw [if_neg h, tb_or, Bool.or_eq_true, decide_eq_true_eq, ih]
      constructor
      · rintro (⟨i, hi, h9⟩ | h9)
        · exact ⟨i, by omega, h9⟩
        · exact ⟨j, by omega, by omega⟩
      · rintro ⟨i, hi, h9⟩
        by_cases hij : i = j
        · subst hij; exact Or.inr (by omega)
        · exact Or.inl ⟨i, by omega, h9⟩
theorem msx_lt (hM5 : M ≤ 5) : ∀ {j : Nat}, msx sg M k j < 1024
  | 0 => (by decide : (0 : Nat) < 1024)
  | j + 1 => by
    have ih := msx_lt hM5 (j := j)
    have hb := @mo_bd sg M k j
    simp only [msx]
    by_cases h : mo sg M k j = -1
    · rw [if_pos h]; exact ih
    · rw [if_neg h]
      exact or_lt ⟨10, by decide⟩ ⟨msx sg M k j, ih⟩ ⟨(mo sg M k j).toNat, by omega⟩ ih (show (mo sg M k j).toNat < 10 by omega)
theorem or_0 : ∀ s : Fin 1024, iop (fun x y => x ||| y) (s.val : Int) 0 = (s.val : Int) := by decide +kernel
theorem or_z {s : Nat} (h : s < 1024) : iop (fun x y => x ||| y) (s : Int) 0 = (s : Int) := or_0 ⟨s, h⟩
end SPUR
