/-! flows, apart from the machine: the room from a to b is R (14 * a + b) -/
def adE (R : Nat → Int) (a b : Nat) (v : Int) : Nat → Int := uq R (14 * a + b) (R (14 * a + b) + v)
theorem adE_at {R : Nat → Int} {a b x y : Nat} {v : Int} (hb : b < 14) (hy : y < 14) : adE R a b v (14 * x + y) = R (14 * x + y) + if x = a ∧ y = b then v else 0 := by
  unfold adE
  by_cases h : x = a ∧ y = b
  · obtain ⟨rfl, rfl⟩ := h
    rw [uq_s, if_pos ⟨rfl, rfl⟩]
  · rw [uq_n (by omega), if_neg h, Int.add_zero]
def pus (R : Nat → Int) (a b : Nat) (m : Int) : Nat → Int := adE (adE R a b (-m)) b a m
theorem pus_at {R : Nat → Int} {a b x y : Nat} {m : Int} (ha : a < 14) (hb : b < 14) (hy : y < 14) : pus R a b m (14 * x + y) = R (14 * x + y) + (if x = a ∧ y = b then -m else 0) + (if x = b ∧ y = a then m else 0) := by
  unfold pus
  rw [adE_at ha hy, adE_at hb hy]
abbrev FLW (n : Nat) (R R1 : Nat → Int) (s t : Nat) (v : Int) : Prop := (∀ a, a < n → ∀ b, b < n → 0 ≤ R1 (14 * a + b)) ∧ (∀ a, a < n → ∀ b, b < n → R1 (14 * a + b) + R1 (14 * b + a) = R (14 * a + b) + R (14 * b + a)) ∧ (∀ a, a < n → isum (fun b => R (14 * a + b) - R1 (14 * a + b)) n = (if a = s then v else 0) - (if a = t then v else 0))
section FLOW
variable {n : Nat} {R R1 R2 : Nat → Int} {s t u w : Nat} {v x m : Int} {S : Nat → Bool} {D : Nat → Nat → Int}
theorem isum_sub0 {f : Nat → Int} : isum (fun b => f b - f b) n = 0 := by
  rw [isum_congr (g := fun _ => 0) (fun i _ => Int.sub_self _), isum_zero]
theorem FLW_id (h : ∀ a, a < n → ∀ b, b < n → 0 ≤ R (14 * a + b)) : FLW n R R t t m := by
  refine ⟨h, fun _ _ _ _ => rfl, fun a ha => ?_⟩
  rw [isum_sub0 (f := fun b => R (14 * a + b)), Int.sub_self]
theorem FLW_0 (h : ∀ a, a < n → ∀ b, b < n → 0 ≤ R (14 * a + b)) : FLW n R R s t 0 := by
  refine ⟨h, fun _ _ _ _ => rfl, fun a ha => ?_⟩
  rw [isum_sub0 (f := fun b => R (14 * a + b))]
  simp
theorem FLW_trans (h1 : FLW n R R1 s t v) (h2 : FLW n R1 R2 s t x) : FLW n R R2 s t (v + x) := by
  refine ⟨h2.1, fun a ha b hb => (h2.2.1 a ha b hb).trans (h1.2.1 a ha b hb), fun a ha => ?_⟩
  rw [isum_congr (g := fun b => (R (14 * a + b) - R1 (14 * a + b)) + (R1 (14 * a + b) - R2 (14 * a + b))) (fun i _ => by omega), isum_add, h1.2.2 a ha, h2.2.2 a ha]
  split <;> split <;> omega
theorem FLW_step (hn : n ≤ 14) (h : FLW n R R1 u t m) (hwu : w ≠ u) (hw : w < n) (hu : u < n) (h0 : 0 ≤ m) (hm : m ≤ R1 (14 * w + u)) : FLW n R (pus R1 w u m) w t m := by
  obtain ⟨h1, h2, h3⟩ := h
  refine ⟨fun a ha b hb => ?_, fun a ha b hb => ?_, fun a ha => ?_⟩
  · have h9 := h1 a ha b hb
    rw [pus_at (by omega) (by omega) (by omega)]
    by_cases c1 : a = w ∧ b = u
    · obtain ⟨rfl, rfl⟩ := c1
      rw [if_pos ⟨rfl, rfl⟩, if_neg (by omega)]
      omega
    · rw [if_neg c1]
      split <;> omega
  · have h9 := h2 a ha b hb
    rw [pus_at (by omega) (by omega) (by omega), pus_at (by omega) (by omega) (by omega)]
    by_cases c1 : a = w ∧ b = u
    · obtain ⟨rfl, rfl⟩ := c1
      rw [if_pos ⟨rfl, rfl⟩, if_neg (by omega), if_neg (by omega), if_pos ⟨rfl, rfl⟩]
      omega
    · by_cases c2 : a = u ∧ b = w
      · obtain ⟨rfl, rfl⟩ := c2
        rw [if_neg (by omega), if_pos ⟨rfl, rfl⟩, if_pos ⟨rfl, rfl⟩, if_neg (by omega)]
        omega
      · rw [if_neg c1, if_neg c2, if_neg (by omega), if_neg (by omega)]
        omega
  · rw [isum_congr (g := fun b => (R (14 * a + b) - R1 (14 * a + b)) + ((if u = b then (if a = w then m else 0) else 0) + (if w = b then (if a = u then -m else 0) else 0))) (fun b hb => ?_), isum_add, isum_add, isum_at, isum_at, if_pos hu, if_pos hw, h3 a ha]
    · by_cases c1 : a = u
      · subst c1
        rw [if_pos rfl, if_neg (show ¬ a = w from fun h => hwu h.symm), if_pos rfl]
        split <;> omega
      · rw [if_neg c1, if_neg c1]
        split <;> split <;> omega
    · rw [pus_at (by omega) (by omega) (by omega)]
      by_cases c1 : a = w
      · by_cases c2 : b = u
        · rw [if_pos ⟨c1, c2⟩, if_neg (by omega), if_pos c2.symm, if_pos c1]
          split
          · rw [if_neg (by omega)]; omega
          · omega
        · rw [if_neg (by omega), if_neg (by omega), if_neg (fun h => c2 h.symm)]
          split
          · rw [if_neg (by omega)]; omega
          · omega
      · by_cases c2 : a = u
        · by_cases c3 : b = w
          · rw [if_neg (by omega), if_pos ⟨c2, c3⟩, if_neg (by omega), if_pos c3.symm, if_pos c2]
            omega
          · rw [if_neg (by omega), if_neg (by omega), if_neg (show ¬ w = b from fun h => c3 h.symm), if_neg c1]
            split <;> omega
        · rw [if_neg (by omega), if_neg (by omega), if_neg c1, if_neg c2]
          split <;> split <;> omega
/-- what crosses a cut -/
def capS (n : Nat) (D : Nat → Nat → Int) (S : Nat → Bool) : Int := isum (fun a => if S a = true then isum (fun b => if S b = true then 0 else D a b) n else 0) n
theorem capS_mono {D2 : Nat → Nat → Int} (h : ∀ a, a < n → ∀ b, b < n → S a = true → S b = false → D a b ≤ D2 a b) : capS n D S ≤ capS n D2 S := by
  unfold capS
  refine isum_mono (fun a ha => ?_)
  cases hSa : S a
  · rw [if_neg (by decide), if_neg (by decide)]; exact Int.le_refl _
  · rw [if_pos rfl, if_pos rfl]
    refine isum_mono (fun b hb => ?_)
    cases hSb : S b
    · rw [if_neg (by decide), if_neg (by decide)]; exact h a ha b hb hSa hSb
    · rw [if_pos rfl, if_pos rfl]; exact Int.le_refl _
theorem cut_in (hD : ∀ a, a < n → ∀ b, b < n → D a b + D b a = 0) : isum (fun a => isum (fun b => if S a = true then (if S b = true then D a b else 0) else 0) n) n = 0 := by
  have e1 := @isum_swap (fun a b => if S a = true then (if S b = true then D a b else 0) else 0) n n
  have e2 : isum (fun a => isum (fun b => if S a = true then (if S b = true then D a b else 0) else 0) n) n + isum (fun c => isum (fun r => if S r = true then (if S c = true then D r c else 0) else 0) n) n = 0 := by
    rw [← isum_add, isum_congr (g := fun _ => 0) (fun a ha => ?_), isum_zero]
    rw [← isum_add, isum_congr (g := fun _ => 0) (fun b hb => ?_), isum_zero]
    have := hD a ha b hb
    cases S a <;> cases S b <;> simp <;> omega
  omega
theorem cut_flow (hD : ∀ a, a < n → ∀ b, b < n → D a b + D b a = 0) : isum (fun a => if S a = true then isum (fun b => D a b) n else 0) n = capS n D S := by
  have h1 := @cut_in n S D hD
  unfold capS
  have h2 : isum (fun a => if S a = true then isum (fun b => D a b) n else 0) n = isum (fun a => if S a = true then isum (fun b => if S b = true then 0 else D a b) n else 0) n + isum (fun a => isum (fun b => if S a = true then (if S b = true then D a b else 0) else 0) n) n := by
    rw [← isum_add]
    refine isum_congr (fun a ha => ?_)
    cases hSa : S a
    · rw [if_neg (by decide), if_neg (by decide), isum_congr (g := fun _ => 0) (fun b _ => if_neg (by decide)), isum_zero, Int.add_zero]
    · rw [if_pos rfl, if_pos rfl, ← isum_add]
      refine isum_congr (fun b hb => ?_)
      cases hSb : S b <;> simp
  omega
theorem cut_val (hD : ∀ a, a < n → ∀ b, b < n → D a b + D b a = 0) (hN : ∀ a, a < n → isum (fun b => D a b) n = (if a = s then v else 0) - (if a = t then v else 0)) (hs : s < n) (ht : t < n) (h1 : S s = true) (h2 : S t = false) : capS n D S = v := by
  rw [← cut_flow hD]
  have hst : s ≠ t := by
    intro h
    rw [h, h2] at h1
    cases h1
  rw [isum_congr (g := fun a => (if s = a then v else 0) + 0) (fun a ha => ?_), isum_add, isum_at, if_pos hs, isum_zero, Int.add_zero]
  rw [hN a ha]
  by_cases c1 : s = a
  · subst c1
    rw [if_pos h1, if_pos rfl, if_neg hst]
    omega
  · rw [if_neg c1, if_neg (show ¬ a = s from fun h => c1 h.symm)]
    by_cases c2 : a = t
    · subst c2
      rw [h2, if_neg (by decide)]
      rfl
    · rw [if_neg c2]
      split <;> rfl
abbrev CUT (n : Nat) (R1 : Nat → Int) (s t : Nat) (S : Nat → Bool) : Prop := S s = true ∧ S t = false ∧ ∀ a, a < n → ∀ b, b < n → S a = true → S b = false → R1 (14 * a + b) = 0
theorem FLW_cut (h : FLW n R R1 s t v) (hs : s < n) (ht : t < n) (h1 : S s = true) (h2 : S t = false) : capS n (fun a b => R (14 * a + b) - R1 (14 * a + b)) S = v :=
  cut_val (fun a ha b hb => by have := h.2.1 a ha b hb; omega) h.2.2 hs ht h1 h2
theorem isum_mulc {f : Nat → Int} {d : Int} : ∀ {n : Nat}, isum (fun i => d * f i) n = d * isum f n
  | 0 => by simp [isum]
  | n + 1 => by
    simp only [isum]
    rw [isum_mulc (n := n), Int.mul_add]
/-- no flow is greater than one that has come to a cut -/
theorem flow_max {X : Nat → Nat → Int} {d V : Int} (h : FLW n R R1 s t v) (hc : CUT n R1 s t S) (hs : s < n) (ht : t < n) (hX : ∀ a, a < n → ∀ b, b < n → X a b + X b a = 0) (hXR : ∀ a, a < n → ∀ b, b < n → X a b ≤ d * R (14 * a + b)) (hXN : ∀ a, a < n → isum (fun b => X a b) n = (if a = s then V else 0) - (if a = t then V else 0)) : V ≤ d * v := by
  obtain ⟨c1, c2, c3⟩ := hc
  have e1 := cut_val hX hXN hs ht c1 c2
  have e2 : capS n (fun a b => d * (R (14 * a + b) - R1 (14 * a + b))) S = d * v := by
    refine cut_val (fun a ha b hb => ?_) (fun a ha => ?_) hs ht c1 c2
    · have h9 := h.2.1 a ha b hb
      rw [← Int.mul_add, show R (14 * a + b) - R1 (14 * a + b) + (R (14 * b + a) - R1 (14 * b + a)) = 0 by omega, Int.mul_zero]
    · rw [isum_mulc, h.2.2 a ha, Int.mul_sub]
      split <;> split <;> simp
  rw [← e1, ← e2]
  refine capS_mono (fun a ha b hb hSa hSb => ?_)
  rw [c3 a ha b hb hSa hSb, Int.sub_zero]
  exact hXR a ha b hb
end FLOW
/-! the search for a path, apart from the machine -/
abbrev PTH (n : Nat) (R : Nat → Int) (s : Nat) (rf : Nat → Int) (len : Nat) (p : Nat → Nat) : Prop := p len = s ∧ (∀ x, x < len → rf (p x) = (p (x + 1) : Nat) ∧ 0 < R (14 * p (x + 1) + p x)) ∧ (∀ x, x ≤ len → p x < n) ∧ (∀ x y, x < y → y ≤ len → p x ≠ p y)
def cns (a : Nat) (p : Nat → Nat) : Nat → Nat
  | 0 => a
  | x + 1 => p x
abbrev NB (n : Nat) (R : Nat → Int) (s t : Nat) (rf qu : Nat → Int) (k nx col : Nat) : Prop :=
  (qu 0 = s ∧ 1 ≤ k ∧ rf t = -1 ∧ rf s ≠ -1) ∧
  (∀ i, i < k → 0 ≤ qu i ∧ qu i < n ∧ rf (qu i).toNat ≠ -1) ∧
  (∀ b, b < n → rf b ≠ -1 → ∃ i, i < k ∧ qu i = b) ∧
  (∀ i, 0 < i → i < k → ∃ i2, i2 < i ∧ rf (qu i).toNat = qu i2 ∧ 0 < R (14 * (qu i2).toNat + (qu i).toNat)) ∧
  (∀ i j, i < j → j < k → qu i ≠ qu j) ∧
  ncnt (BC rf) n = k ∧
  (∀ i, i < k → ∀ b, b < n → (i < nx ∨ (i = nx ∧ b < col)) → 0 < R (14 * (qu i).toNat + b) → rf b ≠ -1) ∧
  (∀ b, b < n → -1 ≤ rf b ∧ rf b < n)
section NBS
variable {n : Nat} {R : Nat → Int} {s t : Nat} {rf qu : Nat → Int} {k nx col : Nat}
theorem NB_init (hs : s < n) (hst : s ≠ t) (h1 : ∀ c, c ≠ s → rf c = -1) (h3 : rf s = s) (h2 : qu 0 = s) : NB n R s t rf qu 1 0 0 := by
  refine ⟨⟨h2, Nat.le_refl _, h1 t (fun h => hst h.symm), by omega⟩, fun i hi => ?_, fun b hb h => ?_, fun i h0 hi => by omega, fun i j hij hj => by omega, ?_, fun i hi b hb h => by omega, fun b hb => ?_⟩
  · obtain rfl : i = 0 := by omega
    rw [h2, Int.toNat_natCast]
    omega
  · by_cases hbs : b = s
    · exact ⟨0, by omega, by rw [h2, hbs]⟩
    · exact absurd (h1 b hbs) h
  · have h9 := @ncnt_one (fun _ => false) (BC rf) s rfl (BC_iff.mpr (by omega)) n hs (fun i hi his => by
      cases h : BC rf i
      · rfl
      · exact absurd (h1 i his) (BC_iff.mp h))
    rw [ncnt_false] at h9
    exact h9.symm
  · by_cases hbs : b = s
    · subst hbs; omega
    · have := h1 b hbs; omega
theorem NB_skip (hb : NB n R s t rf qu k nx col) (hs : rf col ≠ -1 ∨ R (14 * (qu nx).toNat + col) ≤ 0) : NB n R s t rf qu k nx (col + 1) := by
  obtain ⟨b1, b2, b3, b4, b5, b6, b7, b8⟩ := hb
  refine ⟨b1, b2, b3, b4, b5, b6, fun i hi c hc hic hw => ?_, b8⟩
  by_cases h9 : i < nx ∨ (i = nx ∧ c < col)
  · exact b7 i hi c hc h9 hw
  · have e1 : i = nx := by omega
    have e2 : c = col := by omega
    subst e1 e2
    rcases hs with hs | hs
    · exact hs
    · omega
theorem NB_next (hb : NB n R s t rf qu k nx n) : NB n R s t rf qu k (nx + 1) 0 := by
  obtain ⟨b1, b2, b3, b4, b5, b6, b7, b8⟩ := hb
  exact ⟨b1, b2, b3, b4, b5, b6, fun i hi c hc hic hw => b7 i hi c hc (by omega) hw, b8⟩
theorem NB_k (hb : NB n R s t rf qu k nx col) : k ≤ n := by
  rw [← hb.2.2.2.2.2.1]
  exact ncnt_le
theorem NB_push (hb : NB n R s t rf qu k nx col) (hk : nx < k) (hc : col < n) (hct : col ≠ t) (hr : rf col = -1) (hw : 0 < R (14 * (qu nx).toNat + col)) : NB n R s t (uq rf col (qu nx)) (uq qu k (col : Int)) (k + 1) nx (col + 1) := by
  obtain ⟨b1, b2, b3, b4, b5, b6, b7, b8⟩ := hb
  obtain ⟨q1, q2, q3⟩ := b2 nx hk
  have hqc : ∀ i, i < k → (qu i).toNat ≠ col := by
    intro i hi h
    have := (b2 i hi).2.2
    rw [h, hr] at this
    exact this rfl
  refine ⟨⟨?_, by omega, ?_, ?_⟩, fun i hi => ?_, fun b hb9 h => ?_, fun i h0 hi => ?_, fun i j hij hj => ?_, ?_, fun i hi c hc9 hic hw9 => ?_, fun b hb9 => ?_⟩
  · rw [uq_n (by omega)]; exact b1.1
  · rw [uq_n (fun h => hct h.symm)]; exact b1.2.2.1
  · rw [uq_n (fun h => by have := b1.2.2.2; rw [h, hr] at this; exact this rfl)]; exact b1.2.2.2
  · by_cases hik : i = k
    · subst hik
      rw [uq_s, Int.toNat_natCast, uq_s]
      omega
    · rw [uq_n hik]
      obtain ⟨x1, x2, x3⟩ := b2 i (by omega)
      rw [uq_n (hqc i (by omega))]
      exact ⟨x1, x2, x3⟩
  · by_cases hbc : b = col
    · subst hbc
      exact ⟨k, by omega, uq_s⟩
    · rw [uq_n hbc] at h
      obtain ⟨i, x1, x2⟩ := b3 b hb9 h
      exact ⟨i, by omega, by rw [uq_n (by omega)]; exact x2⟩
  · by_cases hik : i = k
    · subst hik
      refine ⟨nx, hk, ?_, ?_⟩
      · rw [uq_s, Int.toNat_natCast, uq_s, uq_n (by omega)]
      · rw [uq_s, Int.toNat_natCast, uq_n (by omega)]
        exact hw
    · obtain ⟨i2, x1, x2, x3⟩ := b4 i h0 (by omega)
      refine ⟨i2, x1, ?_, ?_⟩
      · rw [uq_n hik, uq_n (hqc i (by omega)), uq_n (by omega)]; exact x2
      · rw [uq_n hik, uq_n (by omega)]; exact x3
  · by_cases hjk : j = k
    · subst hjk
      rw [uq_s, uq_n (by omega)]
      have := hqc i (by omega)
      have := (b2 i (by omega)).1
      omega
    · rw [uq_n hjk, uq_n (by omega)]
      exact b5 i j hij (by omega)
  · have h9 := @ncnt_one (BC rf) (BC (uq rf col (qu nx))) col (by
      cases h : BC rf col
      · rfl
      · exact absurd hr (BC_iff.mp h)) (BC_iff.mpr (by rw [uq_s]; omega)) n hc (fun i _ hic => by unfold BC; rw [uq_n hic])
    omega
  · by_cases hcc : c = col
    · subst hcc
      rw [uq_s]
      omega
    · have hik : i ≠ k := by omega
      rw [uq_n hik] at hw9
      rw [uq_n hcc]
      exact b7 i (by omega) c hc9 (by omega) hw9
  · by_cases hbc : b = col
    · subst hbc
      rw [uq_s]
      omega
    · rw [uq_n hbc]
      exact b8 b hb9
theorem NB_fail (hb : NB n R s t rf qu k nx col) (hk : k ≤ nx) (hR : ∀ a, a < n → ∀ b, b < n → 0 ≤ R (14 * a + b)) : CUT n R s t (BC rf) := by
  obtain ⟨b1, b2, b3, b4, b5, b6, b7, b8⟩ := hb
  refine ⟨BC_iff.mpr b1.2.2.2, ?_, fun a ha b hb9 hSa hSb => ?_⟩
  · cases h : BC rf t
    · rfl
    · exact absurd b1.2.2.1 (BC_iff.mp h)
  · obtain ⟨i, x1, x2⟩ := b3 a ha (BC_iff.mp hSa)
    have h1 := hR a ha b hb9
    apply Classical.byContradiction
    intro hne
    have h2 := b7 i x1 b hb9 (by omega) (by rw [x2, Int.toNat_natCast]; omega)
    rw [BC_iff.mpr h2] at hSb
    cases hSb
theorem NB_back (hb : NB n R s t rf qu k nx col) : ∀ d i, i ≤ d → i < k → ∃ len p, p 0 = (qu i).toNat ∧ len ≤ i ∧ PTH n R s rf len p ∧ ∀ x, x ≤ len → ∃ i2, i2 ≤ i ∧ (p x : Int) = qu i2 := by
  obtain ⟨b1, b2, b3, b4, b5, b6, b7, b8⟩ := hb
  have base : ∃ len p, p 0 = (qu 0).toNat ∧ len ≤ 0 ∧ PTH n R s rf len p ∧ ∀ x, x ≤ len → ∃ i2, i2 ≤ 0 ∧ (p x : Int) = qu i2 := by
    have h0 := b2 0 (by omega)
    rw [b1.1] at h0
    refine ⟨0, fun _ => s, ?_, Nat.le_refl _, ⟨rfl, fun x hx => absurd hx (Nat.not_lt_zero x), fun x _ => (show s < n by omega), fun x y hxy hy => by omega⟩, fun x _ => ⟨0, Nat.le_refl _, b1.1.symm⟩⟩
    rw [b1.1, Int.toNat_natCast]
  intro d
  induction d with
  | zero =>
    intro i hi hk
    obtain rfl : i = 0 := by omega
    exact base
  | succ d ih =>
    intro i hi hk
    by_cases hi0 : i = 0
    · subst hi0
      exact base
    · obtain ⟨i2, x1, x2, x3⟩ := b4 i (by omega) hk
      obtain ⟨len, p, y1, y2, ⟨y3, y4, y5, y6⟩, y7⟩ := ih i2 (by omega) (by omega)
      have hq := b2 i hk
      have hq2 := b2 i2 (by omega)
      refine ⟨len + 1, cns (qu i).toNat p, rfl, by omega, ⟨y3, fun x hx => ?_, fun x hx => ?_, fun x y hxy hy => ?_⟩, fun x hx => ?_⟩
      · match x with
        | 0 =>
          simp only [cns]
          rw [y1]
          exact ⟨by rw [x2]; omega, x3⟩
        | x + 1 =>
          simp only [cns]
          exact y4 x (by omega)
      · match x with
        | 0 => simp only [cns]; omega
        | x + 1 => simp only [cns]; exact y5 x (by omega)
      · match x, y with
        | 0, 0 => omega
        | 0, y + 1 =>
          simp only [cns]
          obtain ⟨i3, z1, z2⟩ := y7 y (by omega)
          have := b5 i3 i (by omega) hk
          omega
        | x + 1, 0 => omega
        | x + 1, y + 1 =>
          simp only [cns]
          exact y6 x y (by omega) (by omega)
      · match x with
        | 0 =>
          simp only [cns]
          exact ⟨i, Nat.le_refl _, by omega⟩
        | x + 1 =>
          simp only [cns]
          obtain ⟨i3, z1, z2⟩ := y7 x (by omega)
          exact ⟨i3, by omega, z2⟩
theorem NB_path (hb : NB n R s t rf qu k nx col) (hk : nx < k) (ht : t < n) (hw : 0 < R (14 * (qu nx).toNat + t)) : ∃ len p, p 0 = t ∧ 1 ≤ len ∧ len ≤ n ∧ PTH n R s (uq rf t (qu nx)) len p := by
  have hkn := NB_k hb
  obtain ⟨len, p, y1, y2, ⟨y3, y4, y5, y6⟩, y7⟩ := NB_back hb nx nx (Nat.le_refl _) hk
  obtain ⟨b1, b2, b3, b4, b5, b6, b7, b8⟩ := hb
  have hq := b2 nx hk
  have hpt : ∀ x, x ≤ len → p x ≠ t := by
    intro x hx h
    obtain ⟨i3, z1, z2⟩ := y7 x hx
    have := (b2 i3 (by omega)).2.2
    rw [← z2, Int.toNat_natCast, h] at this
    exact this b1.2.2.1
  refine ⟨len + 1, cns t p, rfl, by omega, by omega, y3, fun x hx => ?_, fun x hx => ?_, fun x y hxy hy => ?_⟩
  · match x with
    | 0 =>
      simp only [cns]
      rw [uq_s, y1]
      exact ⟨by omega, hw⟩
    | x + 1 =>
      simp only [cns]
      rw [uq_n (hpt x (by omega))]
      exact y4 x (by omega)
  · match x with
    | 0 => simp only [cns]; exact ht
    | x + 1 => simp only [cns]; exact y5 x (by omega)
  · match x, y with
    | 0, 0 => omega
    | 0, y + 1 =>
      simp only [cns]
      exact fun h => hpt y (by omega) h.symm
    | x + 1, 0 => omega
    | x + 1, y + 1 =>
      simp only [cns]
      exact y6 x y (by omega) (by omega)
/-- the rooms behind a path's first edges -/
def rxp (R : Nat → Int) (p : Nat → Nat) (m : Int) : Nat → Nat → Int
  | 0 => R
  | x + 1 => pus (rxp R p m x) (p (x + 1)) (p x) m
theorem PTH_flow {len : Nat} {p : Nat → Nat} {m : Int} (hn : n ≤ 14) (hR : ∀ a, a < n → ∀ b, b < n → 0 ≤ R (14 * a + b)) (hp : PTH n R s rf len p) (h0 : 0 ≤ m) (hm : ∀ x, x < len → m ≤ R (14 * p (x + 1) + p x)) : ∀ x, x ≤ len → FLW n R (rxp R p m x) (p x) (p 0) m ∧ ∀ y, x ≤ y → y < len → rxp R p m x (14 * p (y + 1) + p y) = R (14 * p (y + 1) + p y) := by
  obtain ⟨p1, p2, p3, p4⟩ := hp
  intro x
  induction x with
  | zero =>
    intro _
    exact ⟨FLW_id hR, fun y _ _ => rfl⟩
  | succ x ih =>
    intro hx
    obtain ⟨i1, i2⟩ := ih (by omega)
    have q1 := p3 x (by omega)
    have q2 := p3 (x + 1) hx
    simp only [rxp]
    refine ⟨FLW_step hn i1 (fun h => p4 x (x + 1) (by omega) hx h.symm) q2 q1 h0 (by rw [i2 x (Nat.le_refl _) (by omega)]; exact hm x (by omega)), fun y hy hyl => ?_⟩
    have q3 := p3 y (by omega)
    have q4 := p3 (y + 1) (by omega)
    have d1 := p4 (x + 1) (y + 1) (by omega) (by omega)
    have d2 := p4 x (y + 1) (by omega) (by omega)
    rw [pus_at (by omega) (by omega) (by omega), if_neg (by omega), if_neg (by omega), i2 y (by omega) hyl]
    omega
end NBS
