/-! networks by blocks -/
def rbk (a0 lo p : Nat) (f : Nat → Int) (a b : Nat) : Int := if a = a0 ∧ lo ≤ b ∧ b < lo + p then f (b - lo) else 0
def cbk (b0 lo p : Nat) (f : Nat → Int) (a b : Nat) : Int := if b = b0 ∧ lo ≤ a ∧ a < lo + p then f (a - lo) else 0
def ebk (la lb r : Nat) (f : Nat → Nat → Int) (p a b : Nat) : Int := isum (fun j => rbk (la + j) lb r (f j) a b) p
def pbk (a0 b0 : Nat) (v : Int) (a b : Nat) : Int := if a = a0 ∧ b = b0 then v else 0
section BLK
variable {a0 b0 lo p la lb r a b n j m : Nat} {f : Nat → Int} {g : Nat → Nat → Int} {v : Int}
theorem rbk_0 : rbk a0 lo 0 f a b = 0 := by
  unfold rbk
  rw [if_neg (by omega)]
theorem cbk_0 : cbk b0 lo 0 f a b = 0 := by
  unfold cbk
  rw [if_neg (by omega)]
theorem rbk_s : rbk a0 lo (p + 1) f a b = rbk a0 lo p f a b + pbk a0 (lo + p) (f p) a b := by
  unfold rbk pbk
  by_cases h : a = a0 ∧ b = lo + p
  · rw [if_pos (by omega), if_neg (by omega), if_pos h, show b - lo = p by omega]
    omega
  · rw [if_neg h]
    by_cases h2 : a = a0 ∧ lo ≤ b ∧ b < lo + p
    · rw [if_pos h2, if_pos (by omega)]; omega
    · rw [if_neg h2, if_neg (by omega)]; omega
theorem cbk_s : cbk b0 lo (p + 1) f a b = cbk b0 lo p f a b + pbk (lo + p) b0 (f p) a b := by
  unfold cbk pbk
  by_cases h : a = lo + p ∧ b = b0
  · rw [if_pos (by omega), if_neg (by omega), if_pos h, show a - lo = p by omega]
    omega
  · rw [if_neg h]
    by_cases h2 : b = b0 ∧ lo ≤ a ∧ a < lo + p
    · rw [if_pos h2, if_pos (by omega)]; omega
    · rw [if_neg h2, if_neg (by omega)]; omega
theorem ebk_s : ebk la lb r g (p + 1) a b = ebk la lb r g p a b + rbk (la + p) lb r (g p) a b := rfl
theorem pbk_add {w : Int} : pbk a0 b0 v a b + pbk a0 b0 w a b = pbk a0 b0 (v + w) a b := by
  unfold pbk
  split <;> omega
theorem pbk_z : pbk a0 b0 0 a b = 0 := by
  unfold pbk
  split <;> rfl
theorem rbk_at (hj : j < p) : rbk a0 lo p f a0 (lo + j) = f j := by
  unfold rbk
  rw [if_pos ⟨rfl, by omega, by omega⟩, show lo + j - lo = j by omega]
theorem cbk_at (hj : j < p) : cbk b0 lo p f (lo + j) b0 = f j := by
  unfold cbk
  rw [if_pos ⟨rfl, by omega, by omega⟩, show lo + j - lo = j by omega]
theorem pbk_at : pbk a0 b0 v a0 b0 = v := if_pos ⟨rfl, rfl⟩
theorem rbk_n (h : ¬ (a = a0 ∧ lo ≤ b ∧ b < lo + p)) : rbk a0 lo p f a b = 0 := if_neg h
theorem cbk_n (h : ¬ (b = b0 ∧ lo ≤ a ∧ a < lo + p)) : cbk b0 lo p f a b = 0 := if_neg h
theorem pbk_n (h : ¬ (a = a0 ∧ b = b0)) : pbk a0 b0 v a b = 0 := if_neg h
theorem ebk_at (hj : j < p) (hm : m < r) : ebk la lb r g p (la + j) (lb + m) = g j m := by
  unfold ebk
  rw [isum_congr (g := fun i => if j = i then g j m else 0) (fun i hi => ?_), isum_at, if_pos hj]
  by_cases h : j = i
  · subst h
    rw [if_pos rfl, rbk_at hm]
  · rw [if_neg h, rbk_n (by omega)]
theorem ebk_n (h : ¬ ((la ≤ a ∧ a < la + p) ∧ lb ≤ b ∧ b < lb + r)) : ebk la lb r g p a b = 0 := by
  unfold ebk
  rw [isum_congr (g := fun _ => 0) (fun i hi => rbk_n (by omega)), isum_zero]
theorem rbk_bd {lw up : Int} (h0 : lw ≤ 0) (h1 : 0 ≤ up) (h : ∀ i, i < p → lw ≤ f i ∧ f i ≤ up) : lw ≤ rbk a0 lo p f a b ∧ rbk a0 lo p f a b ≤ up := by
  unfold rbk
  split
  · exact h _ (by omega)
  · exact ⟨h0, h1⟩
theorem cbk_bd {lw up : Int} (h0 : lw ≤ 0) (h1 : 0 ≤ up) (h : ∀ i, i < p → lw ≤ f i ∧ f i ≤ up) : lw ≤ cbk b0 lo p f a b ∧ cbk b0 lo p f a b ≤ up := by
  unfold cbk
  split
  · exact h _ (by omega)
  · exact ⟨h0, h1⟩
theorem pbk_bd {lw up : Int} (h0 : lw ≤ 0) (h1 : 0 ≤ up) (h : lw ≤ v ∧ v ≤ up) : lw ≤ pbk a0 b0 v a b ∧ pbk a0 b0 v a b ≤ up := by
  unfold pbk
  split
  · exact h
  · exact ⟨h0, h1⟩
theorem ebk_bd {lw up : Int} (h0 : lw ≤ 0) (h1 : 0 ≤ up) (h : ∀ j, j < p → ∀ m, m < r → lw ≤ g j m ∧ g j m ≤ up) : lw ≤ ebk la lb r g p a b ∧ ebk la lb r g p a b ≤ up := by
  by_cases c : (la ≤ a ∧ a < la + p) ∧ lb ≤ b ∧ b < lb + r
  · have e := @ebk_at p la lb r (a - la) (b - lb) g (by omega) (by omega)
    rw [show la + (a - la) = a by omega, show lb + (b - lb) = b by omega] at e
    rw [e]
    exact h _ (by omega) _ (by omega)
  · rw [ebk_n c]
    exact ⟨h0, h1⟩
theorem rbk_le {f2 : Nat → Int} (h : ∀ i, i < p → f i ≤ f2 i) : rbk a0 lo p f a b ≤ rbk a0 lo p f2 a b := by
  unfold rbk
  split
  · exact h _ (by omega)
  · exact Int.le_refl _
theorem cbk_le {f2 : Nat → Int} (h : ∀ i, i < p → f i ≤ f2 i) : cbk b0 lo p f a b ≤ cbk b0 lo p f2 a b := by
  unfold cbk
  split
  · exact h _ (by omega)
  · exact Int.le_refl _
/-- sums over what goes out, and over what comes in -/
theorem pbk_row (hb : b0 < n) : isum (fun b => pbk a0 b0 v a b) n = if a = a0 then v else 0 := by
  unfold pbk
  rw [isum_congr (g := fun b => if b0 = b then (if a = a0 then v else 0) else 0) (fun b hb => ?_), isum_at, if_pos hb]
  by_cases h1 : b0 = b
  · rw [if_pos h1]
    by_cases h2 : a = a0
    · rw [if_pos ⟨h2, h1.symm⟩, if_pos h2]
    · rw [if_neg (by omega), if_neg h2]
  · rw [if_neg h1, if_neg (by omega)]
theorem pbk_col (ha : a0 < n) : isum (fun a => pbk a0 b0 v a b) n = if b = b0 then v else 0 := by
  unfold pbk
  rw [isum_congr (g := fun a => if a0 = a then (if b = b0 then v else 0) else 0) (fun a ha => ?_), isum_at, if_pos ha]
  by_cases h1 : a0 = a
  · rw [if_pos h1]
    by_cases h2 : b = b0
    · rw [if_pos ⟨h1.symm, h2⟩, if_pos h2]
    · rw [if_neg (by omega), if_neg h2]
  · rw [if_neg h1, if_neg (by omega)]
theorem rbk_row : ∀ {p : Nat}, lo + p ≤ n → isum (fun b => rbk a0 lo p f a b) n = if a = a0 then isum f p else 0
  | 0, _ => by
    rw [isum_congr (g := fun _ => 0) (fun b hb => rbk_0), isum_zero]
    split <;> rfl
  | p + 1, h => by
    rw [isum_congr (fun b hb => rbk_s), isum_add, rbk_row (p := p) (by omega), pbk_row (by omega)]
    by_cases h1 : a = a0
    · rw [if_pos h1, if_pos h1, if_pos h1]; rfl
    · rw [if_neg h1, if_neg h1, if_neg h1]; rfl
theorem rbk_col (ha : a0 < n) : isum (fun a => rbk a0 lo p f a b) n = if lo ≤ b ∧ b < lo + p then f (b - lo) else 0 := by
  unfold rbk
  rw [isum_congr (g := fun a => if a0 = a then (if lo ≤ b ∧ b < lo + p then f (b - lo) else 0) else 0) (fun a ha => ?_), isum_at, if_pos ha]
  by_cases h1 : a0 = a
  · rw [if_pos h1]
    by_cases h2 : lo ≤ b ∧ b < lo + p
    · rw [if_pos ⟨h1.symm, h2⟩, if_pos h2]
    · rw [if_neg (by omega), if_neg h2]
  · rw [if_neg h1, if_neg (by omega)]
theorem cbk_col : ∀ {p : Nat}, lo + p ≤ n → isum (fun a => cbk b0 lo p f a b) n = if b = b0 then isum f p else 0
  | 0, _ => by
    rw [isum_congr (g := fun _ => 0) (fun b hb => cbk_0), isum_zero]
    split <;> rfl
  | p + 1, h => by
    rw [isum_congr (fun b hb => cbk_s), isum_add, cbk_col (p := p) (by omega), pbk_col (by omega)]
    by_cases h1 : b = b0
    · rw [if_pos h1, if_pos h1, if_pos h1]; rfl
    · rw [if_neg h1, if_neg h1, if_neg h1]; rfl
theorem cbk_row (hb : b0 < n) : isum (fun b => cbk b0 lo p f a b) n = if lo ≤ a ∧ a < lo + p then f (a - lo) else 0 := by
  unfold cbk
  rw [isum_congr (g := fun b => if b0 = b then (if lo ≤ a ∧ a < lo + p then f (a - lo) else 0) else 0) (fun b hb => ?_), isum_at, if_pos hb]
  by_cases h1 : b0 = b
  · rw [if_pos h1]
    by_cases h2 : lo ≤ a ∧ a < lo + p
    · rw [if_pos ⟨h1.symm, h2⟩, if_pos h2]
    · rw [if_neg (by omega), if_neg h2]
  · rw [if_neg h1, if_neg (by omega)]
theorem ebk_row (h : lb + r ≤ n) : isum (fun b => ebk la lb r g p a b) n = if la ≤ a ∧ a < la + p then isum (g (a - la)) r else 0 := by
  unfold ebk
  rw [isum_swap (f := fun b j => rbk (la + j) lb r (g j) a b), isum_congr (g := fun j => if a - la = j then (if la ≤ a then isum (g (a - la)) r else 0) else 0) (fun j hj => ?_), isum_at]
  · by_cases h1 : la ≤ a
    · rw [if_pos h1]
      by_cases h2 : a - la < p
      · rw [if_pos h2, if_pos (by omega)]
      · rw [if_neg h2, if_neg (by omega)]
    · rw [if_neg h1, if_neg (show ¬ (la ≤ a ∧ a < la + p) from fun z => h1 z.1)]
      split <;> rfl
  · rw [rbk_row h]
    by_cases h1 : a = la + j
    · rw [if_pos h1, if_pos (by omega), if_pos (by omega), show a - la = j by omega]
    · rw [if_neg h1]
      by_cases h2 : a - la = j
      · rw [if_pos h2, if_neg (by omega)]
      · rw [if_neg h2]
theorem ebk_col (h : la + p ≤ n) : isum (fun a => ebk la lb r g p a b) n = if lb ≤ b ∧ b < lb + r then isum (fun j => g j (b - lb)) p else 0 := by
  unfold ebk
  rw [isum_swap (f := fun a j => rbk (la + j) lb r (g j) a b)]
  by_cases h1 : lb ≤ b ∧ b < lb + r
  · rw [if_pos h1]
    refine isum_congr (fun j hj => ?_)
    rw [rbk_col (by omega), if_pos h1]
  · rw [if_neg h1, isum_congr (g := fun _ => 0) (fun j hj => ?_), isum_zero]
    rw [rbk_col (by omega), if_neg h1]
abbrev EQN (R : Nat → Int) (e : Nat → Nat → Int) : Prop := ∀ a b, b < 14 → R (14 * a + b) = e a b
theorem EQN_ad {R : Nat → Int} {e e2 : Nat → Nat → Int} (h : EQN R e) (hb : b0 < 14) (h2 : ∀ a b, e2 a b = e a b + pbk a0 b0 v a b) : EQN (adE R a0 b0 v) e2 := by
  intro a b hb9
  rw [adE_at hb hb9, h a b hb9, h2]
  rfl
theorem EQN_c {R : Nat → Int} {e e2 : Nat → Nat → Int} (h : EQN R e) (h2 : ∀ a b, e2 a b = e a b) : EQN R e2 := by
  intro a b hb9
  rw [h a b hb9, h2]
theorem isum_slt {f g : Nat → Int} {k : Nat} : ∀ {n : Nat}, (∀ i, i < n → f i ≤ g i) → k < n → f k < g k → isum f n < isum g n
  | 0, _, hk, _ => absurd hk (Nat.not_lt_zero k)
  | n + 1, h, hk, hl => by
    simp only [isum]
    by_cases hkn : k = n
    · subst hkn
      have := isum_mono (f := f) (g := g) (n := k) (fun i hi => h i (by omega))
      omega
    · have h1 := isum_slt (n := n) (fun i hi => h i (by omega)) (by omega) hl
      have := h n (by omega)
      omega
end BLK
