/-! the rounding's network, apart from the machine -/
theorem dvd_1 {s d : Int} (hd : 1 ≤ d) : d * (s / d) ≤ s ∧ s < d * (s / d) + d := ⟨Int.mul_ediv_self_le (by omega), Int.lt_mul_ediv_self_add (by omega)⟩
/-- the quotient rounded up -/
theorem dvd_2 {s d : Int} (hd : 1 ≤ d) : s ≤ d * ((s + d - 1) / d) ∧ s / d ≤ (s + d - 1) / d ∧ (s + d - 1) / d ≤ s / d + 1 := by
  have h1 := @dvd_1 s d hd
  have h2 := @dvd_1 (s + d - 1) d hd
  refine ⟨by omega, Int.ediv_le_ediv (by omega) (by omega), ?_⟩
  have h3 : d * ((s + d - 1) / d) < d * (s / d + 2) := by
    rw [Int.mul_add]
    omega
  have h4 := Int.lt_of_mul_lt_mul_left h3 (by omega)
  omega
def mbe (s dn k d : Int) : Prop := dn + k = s / d ∨ dn + k = (s + d - 1) / d
theorem mbe_iff {s dn k d : Int} (hd : 1 ≤ d) : mbe s dn k d ↔ s / d - dn ≤ k ∧ k ≤ (s + d - 1) / d - dn := by
  have h := @dvd_2 s d hd
  unfold mbe
  omega
def dq (t : Nat → Int) (d : Int) (j m : Nat) : Int := t (5 * j + m) / d
def dnr (t : Nat → Int) (d : Int) (M j : Nat) : Int := isum (dq t d j) M
def dnc (t : Nat → Int) (d : Int) (J m : Nat) : Int := isum (fun j => dq t d j m) J
def dna (t : Nat → Int) (d : Int) (J M : Nat) : Int := isum (dnr t d M) J
def cpe (t : Nat → Int) (d : Int) (j m : Nat) : Int := if dq t d j m * d = t (5 * j + m) then 0 else 1
def ljf (t : Nat → Int) (d : Int) (M j : Nat) : Int := rowS t M j / d - dnr t d M j
def ujf (t : Nat → Int) (d : Int) (M j : Nat) : Int := (rowS t M j + d - 1) / d - dnr t d M j
def lmf (t : Nat → Int) (d : Int) (J m : Nat) : Int := colS t J m / d - dnc t d J m
def umf (t : Nat → Int) (d : Int) (J m : Nat) : Int := (colS t J m + d - 1) / d - dnc t d J m
def laf (t : Nat → Int) (d : Int) (J M : Nat) : Int := allS t J M / d - dna t d J M
def uaf (t : Nat → Int) (d : Int) (J M : Nat) : Int := (allS t J M + d - 1) / d - dna t d J M
def rnb (J M : Nat) (E : Nat → Nat → Int) (sj gj : Nat → Int) (sh : Int) (mz mh : Nat → Int) (gz z0 g0 zh : Int) (a b : Nat) : Int :=
  ebk 1 (1 + J) M E J a b + rbk 0 1 J sj a b + rbk (1 + J + M + 1) 1 J gj a b + pbk 0 (1 + J + M + 2) sh a b + cbk (1 + J + M) (1 + J) M mz a b + pbk (1 + J + M + 1) (1 + J + M) gz a b + cbk (1 + J + M + 2) (1 + J) M mh a b + pbk (1 + J + M) 0 z0 a b + pbk (1 + J + M + 1) 0 g0 a b + pbk (1 + J + M) (1 + J + M + 2) zh a b
def rne (t : Nat → Int) (d : Int) (J M : Nat) : Nat → Nat → Int := rnb J M (cpe t d) (fun j => ujf t d M j - ljf t d M j) (ljf t d M) (isum (ljf t d M) J) (fun m => umf t d J m - lmf t d J m) (lmf t d J) (isum (lmf t d J) M) (uaf t d J M - laf t d J M) (laf t d J M) (laf t d J M)
def rnx (J M : Nat) (E : Nat → Nat → Int) (lj lm : Nat → Int) (la : Int) : Nat → Nat → Int := rnb J M E (fun j => isum (E j) M - lj j) lj (isum lj J) (fun m => isum (fun j => E j m) J - lm m) lm (isum lm M) (isum (fun j => isum (E j) M) J - la) la la
section RNB
variable {J M a b j m : Nat} {E E2 : Nat → Nat → Int} {sj gj mz mh sj2 gj2 mz2 mh2 lj lm : Nat → Int} {sh gz z0 g0 zh sh2 gz2 z02 g02 zh2 la : Int}
theorem rnb_out : isum (fun b => rnb J M E sj gj sh mz mh gz z0 g0 zh a b) (J + M + 4) = (if 1 ≤ a ∧ a < 1 + J then isum (E (a - 1)) M else 0) + (if a = 0 then isum sj J else 0) + (if a = 1 + J + M + 1 then isum gj J else 0) + (if a = 0 then sh else 0) + (if 1 + J ≤ a ∧ a < 1 + J + M then mz (a - (1 + J)) else 0) + (if a = 1 + J + M + 1 then gz else 0) + (if 1 + J ≤ a ∧ a < 1 + J + M then mh (a - (1 + J)) else 0) + (if a = 1 + J + M then z0 else 0) + (if a = 1 + J + M + 1 then g0 else 0) + (if a = 1 + J + M then zh else 0) := by
  unfold rnb
  rw [isum_add, isum_add, isum_add, isum_add, isum_add, isum_add, isum_add, isum_add, isum_add, ebk_row (by omega), rbk_row (by omega), rbk_row (by omega), pbk_row (by omega), cbk_row (by omega), pbk_row (by omega), cbk_row (by omega), pbk_row (by omega), pbk_row (by omega), pbk_row (by omega)]
theorem rnb_in : isum (fun a => rnb J M E sj gj sh mz mh gz z0 g0 zh a b) (J + M + 4) = (if 1 + J ≤ b ∧ b < 1 + J + M then isum (fun j => E j (b - (1 + J))) J else 0) + (if 1 ≤ b ∧ b < 1 + J then sj (b - 1) else 0) + (if 1 ≤ b ∧ b < 1 + J then gj (b - 1) else 0) + (if b = 1 + J + M + 2 then sh else 0) + (if b = 1 + J + M then isum mz M else 0) + (if b = 1 + J + M then gz else 0) + (if b = 1 + J + M + 2 then isum mh M else 0) + (if b = 0 then z0 else 0) + (if b = 0 then g0 else 0) + (if b = 1 + J + M + 2 then zh else 0) := by
  unfold rnb
  rw [isum_add, isum_add, isum_add, isum_add, isum_add, isum_add, isum_add, isum_add, isum_add, ebk_col (by omega), rbk_col (by omega), rbk_col (by omega), pbk_col (by omega), cbk_col (by omega), pbk_col (by omega), cbk_col (by omega), pbk_col (by omega), pbk_col (by omega), pbk_col (by omega)]
theorem rnb_le (h1 : ∀ j, j < J → ∀ m, m < M → E j m ≤ E2 j m) (h2 : ∀ j, j < J → sj j ≤ sj2 j) (h3 : ∀ j, j < J → gj j ≤ gj2 j) (h4 : sh ≤ sh2) (h5 : ∀ m, m < M → mz m ≤ mz2 m) (h6 : ∀ m, m < M → mh m ≤ mh2 m) (h7 : gz ≤ gz2) (h8 : z0 ≤ z02) (h9 : g0 ≤ g02) (h10 : zh ≤ zh2) : rnb J M E sj gj sh mz mh gz z0 g0 zh a b ≤ rnb J M E2 sj2 gj2 sh2 mz2 mh2 gz2 z02 g02 zh2 a b := by
  have e1 : ebk 1 (1 + J) M E J a b ≤ ebk 1 (1 + J) M E2 J a b := isum_mono (fun j hj => rbk_le (fun i hi => h1 j hj i hi))
  have e2 := @rbk_le 0 1 J a b sj sj2 h2
  have e3 := @rbk_le (1 + J + M + 1) 1 J a b gj gj2 h3
  have e5 := @cbk_le (1 + J + M) (1 + J) M a b mz mz2 h5
  have e6 := @cbk_le (1 + J + M + 2) (1 + J) M a b mh mh2 h6
  have e4 : pbk 0 (1 + J + M + 2) sh a b ≤ pbk 0 (1 + J + M + 2) sh2 a b := by unfold pbk; split <;> omega
  have e7 : pbk (1 + J + M + 1) (1 + J + M) gz a b ≤ pbk (1 + J + M + 1) (1 + J + M) gz2 a b := by unfold pbk; split <;> omega
  have e8 : pbk (1 + J + M) 0 z0 a b ≤ pbk (1 + J + M) 0 z02 a b := by unfold pbk; split <;> omega
  have e9 : pbk (1 + J + M + 1) 0 g0 a b ≤ pbk (1 + J + M + 1) 0 g02 a b := by unfold pbk; split <;> omega
  have e10 : pbk (1 + J + M) (1 + J + M + 2) zh a b ≤ pbk (1 + J + M) (1 + J + M + 2) zh2 a b := by unfold pbk; split <;> omega
  unfold rnb
  omega
theorem rnb_ge (h1 : ∀ j, j < J → ∀ m, m < M → 0 ≤ E j m) (h2 : ∀ j, j < J → 0 ≤ sj j) (h3 : ∀ j, j < J → 0 ≤ gj j) (h4 : 0 ≤ sh) (h5 : ∀ m, m < M → 0 ≤ mz m) (h6 : ∀ m, m < M → 0 ≤ mh m) (h7 : 0 ≤ gz) (h8 : 0 ≤ z0) (h9 : 0 ≤ g0) (h10 : 0 ≤ zh) : 0 ≤ rnb J M E sj gj sh mz mh gz z0 g0 zh a b := by
  have e := @rnb_le J M a b (fun _ _ => 0) E (fun _ => 0) (fun _ => 0) (fun _ => 0) (fun _ => 0) sj gj mz mh 0 0 0 0 0 sh gz z0 g0 zh h1 h2 h3 h4 h5 h6 h7 h8 h9 h10
  have e2 : rnb J M (fun _ _ => 0) (fun _ => 0) (fun _ => 0) 0 (fun _ => 0) (fun _ => 0) 0 0 0 0 a b = 0 := by
    unfold rnb ebk rbk cbk pbk
    simp only [ite_self]
    rw [isum_zero]
    rfl
  omega
theorem rnb_n (h : (¬ ((1 ≤ a ∧ a < 1 + J) ∧ 1 + J ≤ b ∧ b < 1 + J + M)) ∧ ¬ (a = 0 ∧ 1 ≤ b ∧ b < 1 + J) ∧ ¬ (a = 1 + J + M + 1 ∧ 1 ≤ b ∧ b < 1 + J) ∧ ¬ (a = 0 ∧ b = 1 + J + M + 2) ∧ ¬ (b = 1 + J + M ∧ 1 + J ≤ a ∧ a < 1 + J + M) ∧ ¬ (a = 1 + J + M + 1 ∧ b = 1 + J + M) ∧ ¬ (b = 1 + J + M + 2 ∧ 1 + J ≤ a ∧ a < 1 + J + M) ∧ ¬ (a = 1 + J + M ∧ b = 0) ∧ ¬ (a = 1 + J + M + 1 ∧ b = 0) ∧ ¬ (a = 1 + J + M ∧ b = 1 + J + M + 2)) : rnb J M E sj gj sh mz mh gz z0 g0 zh a b = 0 := by
  obtain ⟨h1, h2, h3, h4, h5, h6, h7, h8, h9, h10⟩ := h
  unfold rnb
  rw [ebk_n h1, rbk_n h2, rbk_n h3, pbk_n h4, cbk_n h5, pbk_n h6, cbk_n h7, pbk_n h8, pbk_n h9, pbk_n h10]
  rfl
theorem rv_jm (hj : j < J) (hm : m < M) : rnb J M E sj gj sh mz mh gz z0 g0 zh (1 + j) (1 + J + m) = E j m := by
  unfold rnb
  simp (disch := omega) only [ebk_at, rbk_n, pbk_n, cbk_n, Int.add_zero, Int.zero_add]
theorem rv_0j (hj : j < J) : rnb J M E sj gj sh mz mh gz z0 g0 zh 0 (1 + j) = sj j := by
  unfold rnb
  simp (disch := omega) only [ebk_n, rbk_at, rbk_n, pbk_n, cbk_n, Int.add_zero, Int.zero_add]
theorem rv_gj (hj : j < J) : rnb J M E sj gj sh mz mh gz z0 g0 zh (1 + J + M + 1) (1 + j) = gj j := by
  unfold rnb
  simp (disch := omega) only [ebk_n, rbk_at, rbk_n, pbk_n, cbk_n, Int.add_zero, Int.zero_add]
theorem rv_0h : rnb J M E sj gj sh mz mh gz z0 g0 zh 0 (1 + J + M + 2) = sh := by
  unfold rnb
  simp (disch := omega) only [ebk_n, rbk_n, pbk_at, pbk_n, cbk_n, Int.add_zero, Int.zero_add]
theorem rv_mz (hm : m < M) : rnb J M E sj gj sh mz mh gz z0 g0 zh (1 + J + m) (1 + J + M) = mz m := by
  unfold rnb
  simp (disch := omega) only [ebk_n, rbk_n, pbk_n, cbk_at, cbk_n, Int.add_zero, Int.zero_add]
theorem rv_gz : rnb J M E sj gj sh mz mh gz z0 g0 zh (1 + J + M + 1) (1 + J + M) = gz := by
  unfold rnb
  simp (disch := omega) only [ebk_n, rbk_n, pbk_at, pbk_n, cbk_n, Int.add_zero, Int.zero_add]
theorem rv_mh (hm : m < M) : rnb J M E sj gj sh mz mh gz z0 g0 zh (1 + J + m) (1 + J + M + 2) = mh m := by
  unfold rnb
  simp (disch := omega) only [ebk_n, rbk_n, pbk_n, cbk_at, cbk_n, Int.add_zero, Int.zero_add]
theorem rv_z0 : rnb J M E sj gj sh mz mh gz z0 g0 zh (1 + J + M) 0 = z0 := by
  unfold rnb
  simp (disch := omega) only [ebk_n, rbk_n, pbk_at, pbk_n, cbk_n, Int.add_zero, Int.zero_add]
theorem rv_g0 : rnb J M E sj gj sh mz mh gz z0 g0 zh (1 + J + M + 1) 0 = g0 := by
  unfold rnb
  simp (disch := omega) only [ebk_n, rbk_n, pbk_at, pbk_n, cbk_n, Int.add_zero, Int.zero_add]
theorem rv_zh : rnb J M E sj gj sh mz mh gz z0 g0 zh (1 + J + M) (1 + J + M + 2) = zh := by
  unfold rnb
  simp (disch := omega) only [ebk_n, rbk_n, pbk_at, pbk_n, cbk_n, Int.add_zero, Int.zero_add]
theorem rnx_sum : isum (fun b => rnx J M E lj lm la a b - rnx J M E lj lm la b a) (J + M + 4) = (if a = 1 + J + M + 1 then isum lj J + isum lm M + la else 0) - (if a = 1 + J + M + 2 then isum lj J + isum lm M + la else 0) ∨ ¬ a < J + M + 4 := by
  by_cases ha : a < J + M + 4
  · left
    rw [isum_sb (f := fun b => rnx J M E lj lm la a b) (g := fun b => rnx J M E lj lm la b a)]
    unfold rnx
    rw [rnb_out, rnb_in]
    have e1 := @isum_sb (fun j => isum (E j) M) lj J
    have e2 := @isum_sb (fun m => isum (fun j => E j m) J) lm M
    have e3 : isum (fun m => isum (fun j => E j m) J) M = isum (fun j => isum (E j) M) J := isum_swap (f := fun m j => E j m)
    rw [e1, e2, e3]
    by_cases c0 : a = 0
    · subst c0
      simp (disch := omega) only [↓if_pos, ↓if_neg]
      omega
    · by_cases c1 : a < 1 + J
      · simp (disch := omega) only [↓if_pos, ↓if_neg]
        omega
      · by_cases c2 : a < 1 + J + M
        · simp (disch := omega) only [↓if_pos, ↓if_neg]
          omega
        · by_cases c3 : a = 1 + J + M
          · simp (disch := omega) only [↓if_pos, ↓if_neg]
            omega
          · by_cases c4 : a = 1 + J + M + 1
            · simp (disch := omega) only [↓if_pos, ↓if_neg]
              omega
            · simp (disch := omega) only [↓if_pos, ↓if_neg]
              omega
  · exact Or.inr ha
end RNB
theorem isum_tight {f g : Nat → Int} {n : Nat} (h : ∀ i, i < n → f i ≤ g i) (he : isum f n = isum g n) : ∀ i, i < n → f i = g i := by
  intro i hi
  apply Classical.byContradiction
  intro hne
  have h1 := h i hi
  have := isum_slt h hi (by omega)
  omega
abbrev VR (t : Nat → Int) (d : Int) (J M : Nat) (u : Nat → Nat → Int) : Prop := (∀ j, j < J → ∀ m, m < M → (u j m = 0 ∨ u j m = 1) ∧ (dq t d j m * d = t (5 * j + m) → u j m = 0)) ∧ (∀ j, j < J → mbe (rowS t M j) (dnr t d M j) (isum (u j) M) d) ∧ (∀ m, m < M → mbe (colS t J m) (dnc t d J m) (isum (fun j => u j m) J) d) ∧ mbe (allS t J M) (dna t d J M) (isum (fun j => isum (u j) M) J) d
def LFv (t : Nat → Int) (d : Int) (J M : Nat) : Int := isum (ljf t d M) J + isum (lmf t d J) M + laf t d J M
theorem VR_congr {t : Nat → Int} {d : Int} {J M : Nat} {u w : Nat → Nat → Int} (h : VR t d J M u) (he : ∀ j, j < J → ∀ m, m < M → w j m = u j m) : VR t d J M w := by
  obtain ⟨h1, h2, h3, h4⟩ := h
  have er : ∀ j, j < J → isum (w j) M = isum (u j) M := fun j hj => isum_congr (fun m hm => he j hj m hm)
  refine ⟨fun j hj m hm => ?_, fun j hj => ?_, fun m hm => ?_, ?_⟩
  · rw [he j hj m hm]; exact h1 j hj m hm
  · rw [er j hj]; exact h2 j hj
  · rw [isum_congr (g := fun j => u j m) (fun j hj => he j hj m hm)]; exact h3 m hm
  · rw [isum_congr (g := fun j => isum (u j) M) (fun j hj => er j hj)]; exact h4
section RVR
variable {t : Nat → Int} {d : Int} {J M : Nat} {R0 Rh : Nat → Int} {u : Nat → Nat → Int}
theorem rn_vr (hd : 1 ≤ d) (hJ5 : J ≤ 5) (hM5 : M ≤ 5) (hE : EQN R0 (rne t d J M)) (hf : FLW (J + M + 4) R0 Rh (1 + J + M + 1) (1 + J + M + 2) (LFv t d J M)) : VR t d J M (fun j m => Rh (14 * (1 + J + m) + (1 + j))) := by
  obtain ⟨f1, f2, f3⟩ := hf
  have hD : ∀ a, a < J + M + 4 → ∀ b, b < J + M + 4 → R0 (14 * a + b) - Rh (14 * a + b) ≤ rne t d J M a b := fun a ha b hb => by
    have := f1 a ha b hb
    rw [hE a b (by omega)]
    omega
  have hA : ∀ a, a < J + M + 4 → ∀ b, b < J + M + 4 → (R0 (14 * a + b) - Rh (14 * a + b)) + (R0 (14 * b + a) - Rh (14 * b + a)) = 0 := fun a ha b hb => by
    have := f2 a ha b hb
    omega
  have hin : ∀ y, y < J + M + 4 → isum (fun b => R0 (14 * b + y) - Rh (14 * b + y)) (J + M + 4) = -((if y = 1 + J + M + 1 then LFv t d J M else 0) - (if y = 1 + J + M + 2 then LFv t d J M else 0)) := by
    intro y hy
    rw [← f3 y hy, ← isum_ng]
    refine isum_congr (fun b hb => ?_)
    have := hA y hy b hb
    omega
  have hg : ∀ b, b < J + M + 4 → R0 (14 * (1 + J + M + 1) + b) - Rh (14 * (1 + J + M + 1) + b) = rne t d J M (1 + J + M + 1) b := by
    refine isum_tight (f := fun b => R0 (14 * (1 + J + M + 1) + b) - Rh (14 * (1 + J + M + 1) + b)) (fun b hb => hD _ (by omega) b hb) ?_
    rw [f3 _ (by omega)]
    unfold rne
    rw [rnb_out]
    simp (disch := omega) only [↓if_pos, ↓if_neg]
    unfold LFv
    omega
  have hh : ∀ b, b < J + M + 4 → R0 (14 * b + (1 + J + M + 2)) - Rh (14 * b + (1 + J + M + 2)) = rne t d J M b (1 + J + M + 2) := by
    refine isum_tight (f := fun b => R0 (14 * b + (1 + J + M + 2)) - Rh (14 * b + (1 + J + M + 2))) (g := fun b => rne t d J M b (1 + J + M + 2)) (fun b hb => hD b hb _ (by omega)) ?_
    rw [hin _ (by omega)]
    unfold rne
    rw [rnb_in]
    simp (disch := omega) only [↓if_pos, ↓if_neg]
    unfold LFv
    omega
  -- the entries
  have hu : ∀ j, j < J → ∀ m, m < M → R0 (14 * (1 + j) + (1 + J + m)) - Rh (14 * (1 + j) + (1 + J + m)) = Rh (14 * (1 + J + m) + (1 + j)) := by
    intro j hj m hm
    have h1 := hA (1 + j) (by omega) (1 + J + m) (by omega)
    have h2 := hE (1 + J + m) (1 + j) (by omega)
    unfold rne at h2
    rw [rnb_n (by omega)] at h2
    omega
  have hz0 : ∀ a, a < J + M + 4 → ∀ b, b < J + M + 4 → rne t d J M a b = 0 → rne t d J M b a = 0 → R0 (14 * a + b) - Rh (14 * a + b) = 0 := by
    intro a ha b hb h1 h2
    have h3 := hD a ha b hb
    have h4 := hD b hb a ha
    have h5 := hA a ha b hb
    omega
  have hrow : ∀ j, j < J → isum (fun m => Rh (14 * (1 + J + m) + (1 + j))) M + (R0 (14 * (1 + j) + 0) - Rh (14 * (1 + j) + 0)) - ljf t d M j = 0 := by
    intro j hj
    have e1 := f3 (1 + j) (by omega)
    rw [if_neg (by omega), if_neg (by omega)] at e1
    have e2 : isum (fun b => R0 (14 * (1 + j) + b) - Rh (14 * (1 + j) + b)) (J + M + 4) = isum (fun b => rbk (1 + j) (1 + J) M (fun m => Rh (14 * (1 + J + m) + (1 + j))) (1 + j) b + pbk (1 + j) 0 (R0 (14 * (1 + j) + 0) - Rh (14 * (1 + j) + 0)) (1 + j) b + pbk (1 + j) (1 + J + M + 1) (-ljf t d M j) (1 + j) b) (J + M + 4) := by
      refine isum_congr (fun b hb => ?_)
      by_cases c0 : b = 0
      · subst c0
        rw [rbk_n (by omega), pbk_at, pbk_n (by omega)]
        omega
      · by_cases c1 : b < 1 + J
        · rw [rbk_n (by omega), pbk_n (by omega), pbk_n (by omega)]
          exact hz0 _ (by omega) _ hb (by unfold rne; exact rnb_n (by omega)) (by unfold rne; exact rnb_n (by omega))
        · by_cases c2 : b < 1 + J + M
          · obtain ⟨m, rfl⟩ : ∃ m, b = 1 + J + m := ⟨b - (1 + J), by omega⟩
            rw [rbk_at (show m < M by omega), pbk_n (by omega), pbk_n (by omega)]
            have := hu j hj m (by omega)
            omega
          · by_cases c3 : b = 1 + J + M
            · rw [rbk_n (by omega), pbk_n (by omega), pbk_n (by omega)]
              exact hz0 _ (by omega) _ hb (by unfold rne; exact rnb_n (by omega)) (by unfold rne; exact rnb_n (by omega))
            · by_cases c4 : b = 1 + J + M + 1
              · subst c4
                rw [rbk_n (by omega), pbk_n (by omega), pbk_at]
                have h1 := hg (1 + j) (by omega)
                have h2 := hA (1 + j) (by omega) (1 + J + M + 1) (by omega)
                unfold rne at h1
                rw [rv_gj hj] at h1
                omega
              · have c5 : b = 1 + J + M + 2 := by omega
                subst c5
                rw [rbk_n (by omega), pbk_n (by omega), pbk_n (by omega)]
                have h1 := hh (1 + j) (by omega)
                unfold rne at h1
                rw [rnb_n (by omega)] at h1
                omega
    rw [isum_add, isum_add, rbk_row (by omega), pbk_row (by omega), pbk_row (by omega), if_pos rfl, if_pos rfl, if_pos rfl] at e2
    omega
  have hcol : ∀ m, m < M → isum (fun j => Rh (14 * (1 + J + m) + (1 + j))) J - (R0 (14 * (1 + J + m) + (1 + J + M)) - Rh (14 * (1 + J + m) + (1 + J + M))) - lmf t d J m = 0 := by
    intro m hm
    have e1 := hin (1 + J + m) (by omega)
    rw [if_neg (by omega), if_neg (by omega)] at e1
    have e2 : isum (fun b => R0 (14 * b + (1 + J + m)) - Rh (14 * b + (1 + J + m))) (J + M + 4) = isum (fun b => cbk (1 + J + m) 1 J (fun j => Rh (14 * (1 + J + m) + (1 + j))) b (1 + J + m) + pbk (1 + J + M) (1 + J + m) (-(R0 (14 * (1 + J + m) + (1 + J + M)) - Rh (14 * (1 + J + m) + (1 + J + M)))) b (1 + J + m) + pbk (1 + J + M + 2) (1 + J + m) (-lmf t d J m) b (1 + J + m)) (J + M + 4) := by
      refine isum_congr (fun b hb => ?_)
      by_cases c0 : 1 ≤ b ∧ b < 1 + J
      · obtain ⟨j, rfl⟩ : ∃ j, b = 1 + j := ⟨b - 1, by omega⟩
        rw [cbk_at (show j < J by omega), pbk_n (by omega), pbk_n (by omega)]
        have := hu j (by omega) m hm
        omega
      · by_cases c1 : b = 1 + J + M
        · subst c1
          rw [cbk_n (by omega), pbk_at, pbk_n (by omega)]
          have := hA (1 + J + m) (by omega) (1 + J + M) (by omega)
          omega
        · by_cases c2 : b = 1 + J + M + 2
          · subst c2
            rw [cbk_n (by omega), pbk_n (by omega), pbk_at]
            have h1 := hh (1 + J + m) (by omega)
            have h2 := hA (1 + J + m) (by omega) (1 + J + M + 2) (by omega)
            unfold rne at h1
            rw [rv_mh hm] at h1
            omega
          · rw [cbk_n (by omega), pbk_n (by omega), pbk_n (by omega)]
            by_cases c3 : b = 1 + J + M + 1
            · subst c3
              have h1 := hg (1 + J + m) (by omega)
              unfold rne at h1
              rw [rnb_n (by omega)] at h1
              omega
            · exact hz0 _ hb _ (by omega) (by unfold rne; exact rnb_n (by omega)) (by unfold rne; exact rnb_n (by omega))
    rw [isum_add, isum_add, cbk_col (by omega), pbk_col (by omega), pbk_col (by omega), if_pos rfl, if_pos rfl, if_pos rfl] at e2
    omega
  have hall : isum (fun m => R0 (14 * (1 + J + m) + (1 + J + M)) - Rh (14 * (1 + J + m) + (1 + J + M))) M + isum (lmf t d J) M - (R0 (14 * (1 + J + M) + 0) - Rh (14 * (1 + J + M) + 0)) - laf t d J M = 0 := by
    have e1 := hin (1 + J + M) (by omega)
    rw [if_neg (by omega), if_neg (by omega)] at e1
    have e2 : isum (fun b => R0 (14 * b + (1 + J + M)) - Rh (14 * b + (1 + J + M))) (J + M + 4) = isum (fun b => cbk (1 + J + M) (1 + J) M (fun m => R0 (14 * (1 + J + m) + (1 + J + M)) - Rh (14 * (1 + J + m) + (1 + J + M))) b (1 + J + M) + pbk 0 (1 + J + M) (-(R0 (14 * (1 + J + M) + 0) - Rh (14 * (1 + J + M) + 0))) b (1 + J + M) + pbk (1 + J + M + 2) (1 + J + M) (-laf t d J M) b (1 + J + M) + pbk (1 + J + M + 1) (1 + J + M) (isum (lmf t d J) M) b (1 + J + M)) (J + M + 4) := by
      refine isum_congr (fun b hb => ?_)
      by_cases c0 : 1 + J ≤ b ∧ b < 1 + J + M
      · obtain ⟨m, rfl⟩ : ∃ m, b = 1 + J + m := ⟨b - (1 + J), by omega⟩
        rw [cbk_at (show m < M by omega), pbk_n (by omega), pbk_n (by omega), pbk_n (by omega)]
        omega
      · by_cases c1 : b = 0
        · subst c1
          rw [cbk_n (by omega), pbk_at, pbk_n (by omega), pbk_n (by omega)]
          have := hA 0 (by omega) (1 + J + M) (by omega)
          omega
        · by_cases c2 : b = 1 + J + M + 2
          · subst c2
            rw [cbk_n (by omega), pbk_n (by omega), pbk_at, pbk_n (by omega)]
            have h1 := hh (1 + J + M) (by omega)
            have h2 := hA (1 + J + M) (by omega) (1 + J + M + 2) (by omega)
            unfold rne at h1
            rw [rv_zh] at h1
            omega
          · by_cases c3 : b = 1 + J + M + 1
            · subst c3
              rw [cbk_n (by omega), pbk_n (by omega), pbk_n (by omega), pbk_at]
              have h1 := hg (1 + J + M) (by omega)
              unfold rne at h1
              rw [rv_gz] at h1
              omega
            · rw [cbk_n (by omega), pbk_n (by omega), pbk_n (by omega), pbk_n (by omega)]
              exact hz0 _ hb _ (by omega) (by unfold rne; exact rnb_n (by omega)) (by unfold rne; exact rnb_n (by omega))
    rw [isum_add, isum_add, isum_add, cbk_col (by omega), pbk_col (by omega), pbk_col (by omega), pbk_col (by omega), if_pos rfl, if_pos rfl, if_pos rfl, if_pos rfl] at e2
    omega
  refine ⟨fun j hj m hm => ?_, fun j hj => ?_, fun m hm => ?_, ?_⟩
  · have h1 := f1 (1 + J + m) (by omega) (1 + j) (by omega)
    have h2 := hD (1 + j) (by omega) (1 + J + m) (by omega)
    have h3 := hu j hj m hm
    unfold rne at h2
    rw [rv_jm hj hm] at h2
    unfold cpe at h2
    refine ⟨?_, fun h => ?_⟩
    · simp only []
      split at h2 <;> omega
    · simp only []
      rw [if_pos h] at h2
      omega
  · refine (mbe_iff hd).mpr ?_
    have h1 := hrow j hj
    have h2 := hD (1 + j) (by omega) 0 (by omega)
    have h3 := hD 0 (by omega) (1 + j) (by omega)
    have h4 := hA 0 (by omega) (1 + j) (by omega)
    unfold rne at h2 h3
    rw [rnb_n (by omega)] at h2
    rw [rv_0j hj] at h3
    unfold ujf ljf at h3
    unfold ljf at h1
    simp only [] at h3 ⊢
    omega
  · refine (mbe_iff hd).mpr ?_
    have h1 := hcol m hm
    have h2 := hD (1 + J + M) (by omega) (1 + J + m) (by omega)
    have h3 := hD (1 + J + m) (by omega) (1 + J + M) (by omega)
    have h4 := hA (1 + J + M) (by omega) (1 + J + m) (by omega)
    unfold rne at h2 h3
    rw [rnb_n (by omega)] at h2
    rw [rv_mz hm] at h3
    unfold umf lmf at h3
    unfold lmf at h1
    simp only [] at h3 ⊢
    omega
  · refine (mbe_iff hd).mpr ?_
    have h2 := hD 0 (by omega) (1 + J + M) (by omega)
    have h3 := hD (1 + J + M) (by omega) 0 (by omega)
    have h4 := hA 0 (by omega) (1 + J + M) (by omega)
    unfold rne at h2 h3
    rw [rnb_n (by omega)] at h2
    rw [rv_z0] at h3
    unfold uaf laf at h3
    have h5 : isum (fun m => isum (fun j => Rh (14 * (1 + J + m) + (1 + j))) J) M = isum (fun m => R0 (14 * (1 + J + m) + (1 + J + M)) - Rh (14 * (1 + J + m) + (1 + J + M))) M + isum (lmf t d J) M := by
      rw [← isum_add]
      refine isum_congr (fun m hm => ?_)
      have := hcol m hm
      omega
    rw [isum_swap (f := fun m j => Rh (14 * (1 + J + m) + (1 + j)))] at h5
    unfold laf at hall
    simp only [] at h3 ⊢
    omega
end RVR
