/-! a rounding exists; an entry is settled, apart from the machine -/
theorem rbk_mul {a0 lo p a b : Nat} {f : Nat → Int} {d : Int} : d * rbk a0 lo p f a b = rbk a0 lo p (fun i => d * f i) a b := by
  unfold rbk
  split
  · rfl
  · exact Int.mul_zero d
theorem cbk_mul {b0 lo p a b : Nat} {f : Nat → Int} {d : Int} : d * cbk b0 lo p f a b = cbk b0 lo p (fun i => d * f i) a b := by
  unfold cbk
  split
  · rfl
  · exact Int.mul_zero d
theorem pbk_mul {a0 b0 a b : Nat} {v d : Int} : d * pbk a0 b0 v a b = pbk a0 b0 (d * v) a b := by
  unfold pbk
  split
  · rfl
  · exact Int.mul_zero d
theorem ebk_mul {la lb r p a b : Nat} {g : Nat → Nat → Int} {d : Int} : d * ebk la lb r g p a b = ebk la lb r (fun j m => d * g j m) p a b := by
  unfold ebk
  rw [← isum_mulc]
  exact isum_congr (fun j hj => rbk_mul)
theorem rnb_mul {J M a b : Nat} {E : Nat → Nat → Int} {sj gj mz mh : Nat → Int} {sh gz z0 g0 zh d : Int} : d * rnb J M E sj gj sh mz mh gz z0 g0 zh a b = rnb J M (fun j m => d * E j m) (fun j => d * sj j) (fun j => d * gj j) (d * sh) (fun m => d * mz m) (fun m => d * mh m) (d * gz) (d * z0) (d * g0) (d * zh) a b := by
  unfold rnb
  simp only [Int.mul_add, ebk_mul, rbk_mul, cbk_mul, pbk_mul]
theorem pbk_flip {a0 b0 a b : Nat} {v : Int} : pbk b0 a0 (-v) a b = -pbk a0 b0 v b a := by
  unfold pbk
  by_cases h : a = b0 ∧ b = a0
  · rw [if_pos h, if_pos ⟨h.2, h.1⟩]
  · rw [if_neg h, if_neg (fun z => h ⟨z.2, z.1⟩)]
    rfl
theorem capS_pbk {n a0 b0 : Nat} {v : Int} {S : Nat → Bool} (ha : a0 < n) (hb : b0 < n) (h1 : S a0 = true) (h2 : S b0 = false) : capS n (fun a b => pbk a0 b0 v a b) S = v := by
  unfold capS
  rw [isum_congr (g := fun a => if a0 = a then v else 0) (fun a ha9 => ?_), isum_at, if_pos ha]
  by_cases c1 : a0 = a
  · subst c1
    rw [if_pos h1, if_pos rfl, isum_congr (g := fun b => if b0 = b then v else 0) (fun b hb9 => ?_), isum_at, if_pos hb]
    show (if S b = true then 0 else pbk a0 b0 v a0 b) = _
    by_cases c2 : b0 = b
    · subst c2
      rw [h2, if_neg (by decide), if_pos rfl, pbk_at]
    · rw [if_neg c2, pbk_n (fun z => c2 z.2.symm)]
      split <;> rfl
  · rw [if_neg c1]
    split
    · rw [isum_congr (g := fun _ => 0) (fun b hb9 => ?_), isum_zero]
      show (if S b = true then 0 else pbk a0 b0 v a b) = 0
      rw [pbk_n (fun z => c1 z.1.symm)]
      split <;> rfl
    · rfl
section RBD
variable {t : Nat → Int} {d : Int} {J M : Nat} {R0 R1 Rh : Nat → Int} {u : Nat → Nat → Int} {v : Int} {S : Nat → Bool}
theorem dq_bd (hd : 1 ≤ d) (ht : TOK t) {j m : Nat} (hk : 5 * j + m < 25) : 0 ≤ dq t d j m ∧ d * dq t d j m ≤ t (5 * j + m) ∧ t (5 * j + m) < d * dq t d j m + d ∧ dq t d j m ≤ 99 := by
  have h1 := @dvd_1 (t (5 * j + m)) d hd
  have h2 := ht _ hk
  have h3 := Int.ediv_nonneg h2.1 (show 0 ≤ d by omega)
  have h4 := Int.ediv_le_self d h2.1
  unfold dq
  exact ⟨h3, h1.1, h1.2, by omega⟩
theorem rowE {j : Nat} : isum (fun m => t (5 * j + m) % d) M = rowS t M j - d * dnr t d M j := by
  rw [isum_congr (g := fun m => t (5 * j + m) - d * dq t d j m) (fun m hm => ?_), isum_sb (f := fun m => t (5 * j + m)) (g := fun m => d * dq t d j m), isum_mulc (f := dq t d j)]
  · rfl
  · have := Int.emod_add_mul_ediv (t (5 * j + m)) d
    unfold dq
    omega
theorem colE {m : Nat} : isum (fun j => t (5 * j + m) % d) J = colS t J m - d * dnc t d J m := by
  rw [isum_congr (g := fun j => t (5 * j + m) - d * dq t d j m) (fun j hj => ?_), isum_sb (f := fun j => t (5 * j + m)) (g := fun j => d * dq t d j m), isum_mulc (f := fun j => dq t d j m)]
  · rfl
  · have := Int.emod_add_mul_ediv (t (5 * j + m)) d
    unfold dq
    omega
theorem allE : isum (fun j => isum (fun m => t (5 * j + m) % d) M) J = allS t J M - d * dna t d J M := by
  rw [isum_congr (g := fun j => rowS t M j - d * dnr t d M j) (fun j hj => rowE), isum_sb (f := fun j => rowS t M j) (g := fun j => d * dnr t d M j), isum_mulc (f := dnr t d M)]
  rfl
theorem em_ge (hd : 1 ≤ d) (x : Int) : 0 ≤ x % d ∧ x % d < d := ⟨Int.emod_nonneg _ (by omega), Int.emod_lt_of_pos _ (by omega)⟩
theorem quo_ge {s k : Int} (hd : 1 ≤ d) (h : 0 ≤ s - d * k) : k ≤ s / d := Int.le_ediv_of_mul_le (by omega) (by rw [Int.mul_comm]; omega)
theorem lj_bd (hd : 1 ≤ d) (ht : TOK t) (hM5 : M ≤ 5) {j : Nat} (hj : j < 5) : 0 ≤ dnr t d M j ∧ 0 ≤ ljf t d M j ∧ ljf t d M j ≤ ujf t d M j ∧ ujf t d M j ≤ ljf t d M j + 1 ∧ ljf t d M j ≤ 495 := by
  have h0 : 0 ≤ dnr t d M j := isum_ge (fun m hm => (dq_bd hd ht (show 5 * j + m < 25 by omega)).1)
  have h1 := isum_ge (f := fun m => t (5 * j + m) % d) (n := M) (fun m hm => (em_ge hd _).1)
  rw [rowE] at h1
  have h2 := quo_ge hd h1
  have h3 := @dvd_2 (rowS t M j) d hd
  have h4 := rowS_bd ht hM5 hj
  have h5 := Int.ediv_le_self d h4.1
  unfold ljf ujf
  omega
theorem lm_bd (hd : 1 ≤ d) (ht : TOK t) (hJ5 : J ≤ 5) {m : Nat} (hm : m < 5) : 0 ≤ dnc t d J m ∧ 0 ≤ lmf t d J m ∧ lmf t d J m ≤ umf t d J m ∧ umf t d J m ≤ lmf t d J m + 1 ∧ lmf t d J m ≤ 495 := by
  have h0 : 0 ≤ dnc t d J m := isum_ge (fun j hj => (dq_bd hd ht (show 5 * j + m < 25 by omega)).1)
  have h1 := isum_ge (f := fun j => t (5 * j + m) % d) (n := J) (fun j hj => (em_ge hd _).1)
  rw [colE] at h1
  have h2 := quo_ge hd h1
  have h3 := @dvd_2 (colS t J m) d hd
  have h4 := colS_bd ht hJ5 hm
  have h5 := Int.ediv_le_self d h4.1
  unfold lmf umf
  omega
theorem la_bd (hd : 1 ≤ d) (ht : TOK t) (hJ5 : J ≤ 5) (hM5 : M ≤ 5) : 0 ≤ dna t d J M ∧ 0 ≤ laf t d J M ∧ laf t d J M ≤ uaf t d J M ∧ uaf t d J M ≤ laf t d J M + 1 ∧ laf t d J M ≤ 2475 := by
  have h0 : 0 ≤ dna t d J M := isum_ge (fun j hj => (lj_bd hd ht hM5 (show j < 5 by omega)).1)
  have h1 := isum_ge (f := fun j => isum (fun m => t (5 * j + m) % d) M) (n := J) (fun j hj => isum_ge (fun m hm => (em_ge hd _).1))
  rw [allE] at h1
  have h2 := quo_ge hd h1
  have h3 := @dvd_2 (allS t J M) d hd
  have h4 := allS_bd ht hJ5 hM5
  have h5 := Int.ediv_le_self d h4.1
  unfold laf uaf
  omega
theorem cpe_bd {j m : Nat} : 0 ≤ cpe t d j m ∧ cpe t d j m ≤ 1 := by
  unfold cpe
  split <;> omega
theorem slj_bd (hd : 1 ≤ d) (ht : TOK t) (hM5 : M ≤ 5) {p : Nat} (hp : p ≤ 5) : 0 ≤ isum (ljf t d M) p ∧ isum (ljf t d M) p ≤ 2475 := by
  have h1 := isum_ge (f := ljf t d M) (n := p) (fun j hj => (lj_bd hd ht hM5 (by omega)).2.1)
  have h2 := isum_le (f := ljf t d M) (b := 495) (n := p) (fun j hj => (lj_bd hd ht hM5 (by omega)).2.2.2.2)
  omega
theorem slm_bd (hd : 1 ≤ d) (ht : TOK t) (hJ5 : J ≤ 5) {p : Nat} (hp : p ≤ 5) : 0 ≤ isum (lmf t d J) p ∧ isum (lmf t d J) p ≤ 2475 := by
  have h1 := isum_ge (f := lmf t d J) (n := p) (fun j hj => (lm_bd hd ht hJ5 (by omega)).2.1)
  have h2 := isum_le (f := lmf t d J) (b := 495) (n := p) (fun j hj => (lm_bd hd ht hJ5 (by omega)).2.2.2.2)
  omega
theorem LFv_bd (hd : 1 ≤ d) (ht : TOK t) (hJ5 : J ≤ 5) (hM5 : M ≤ 5) : 0 ≤ LFv t d J M ∧ LFv t d J M ≤ 7425 := by
  have h1 := @slj_bd t d M hd ht hM5 J hJ5
  have h2 := @slm_bd t d J hd ht hJ5 M hM5
  have h3 := @la_bd t d J M hd ht hJ5 hM5
  unfold LFv
  omega
theorem rne_bd (hd : 1 ≤ d) (ht : TOK t) (hJ5 : J ≤ 5) (hM5 : M ≤ 5) {a b : Nat} : 0 ≤ rne t d J M a b ∧ rne t d J M a b ≤ 20000 := by
  have h1 := @slj_bd t d M hd ht hM5 J hJ5
  have h2 := @slm_bd t d J hd ht hJ5 M hM5
  have h3 := @la_bd t d J M hd ht hJ5 hM5
  have e1 := @ebk_bd J 1 (1 + J) M a b (cpe t d) 0 1 (Int.le_refl _) (by decide) (fun j _ m _ => cpe_bd)
  have e2 := @rbk_bd 0 1 J a b (fun j => ujf t d M j - ljf t d M j) 0 1 (Int.le_refl _) (by decide) (fun j hj => by have := @lj_bd t d M hd ht hM5 j (by omega); omega)
  have e3 := @rbk_bd (1 + J + M + 1) 1 J a b (ljf t d M) 0 495 (Int.le_refl _) (by decide) (fun j hj => by have := @lj_bd t d M hd ht hM5 j (by omega); omega)
  have e4 := @pbk_bd 0 (1 + J + M + 2) a b (isum (ljf t d M) J) 0 2475 (Int.le_refl _) (by decide) h1
  have e5 := @cbk_bd (1 + J + M) (1 + J) M a b (fun m => umf t d J m - lmf t d J m) 0 1 (Int.le_refl _) (by decide) (fun m hm => by have := @lm_bd t d J hd ht hJ5 m (by omega); omega)
  have e6 := @pbk_bd (1 + J + M + 1) (1 + J + M) a b (isum (lmf t d J) M) 0 2475 (Int.le_refl _) (by decide) h2
  have e7 := @cbk_bd (1 + J + M + 2) (1 + J) M a b (lmf t d J) 0 495 (Int.le_refl _) (by decide) (fun m hm => by have := @lm_bd t d J hd ht hJ5 m (by omega); omega)
  have e8 := @pbk_bd (1 + J + M) 0 a b (uaf t d J M - laf t d J M) 0 1 (Int.le_refl _) (by decide) (by omega)
  have e9 := @pbk_bd (1 + J + M + 1) 0 a b (laf t d J M) 0 2475 (Int.le_refl _) (by decide) (by omega)
  have e10 := @pbk_bd (1 + J + M) (1 + J + M + 2) a b (laf t d J M) 0 2475 (Int.le_refl _) (by decide) (by omega)
  unfold rne rnb
  omega
/-- the whole of what edges have to carry gets through -/
theorem rn_full (hd : 1 ≤ d) (ht : TOK t) (hJ5 : J ≤ 5) (hM5 : M ≤ 5) (hE : EQN R0 (rne t d J M)) (hf : FLW (J + M + 4) R0 R1 (1 + J + M + 1) (1 + J + M + 2) v) (hc : CUT (J + M + 4) R1 (1 + J + M + 1) (1 + J + M + 2) S) : LFv t d J M ≤ v := by
  have er : ∀ j, rowS t M j - d * dnr t d M j - d * ljf t d M j = rowS t M j - d * (rowS t M j / d) := fun j => by unfold ljf; rw [Int.mul_sub]; omega
  have ec : ∀ m, colS t J m - d * dnc t d J m - d * lmf t d J m = colS t J m - d * (colS t J m / d) := fun m => by unfold lmf; rw [Int.mul_sub]; omega
  have ea : allS t J M - d * dna t d J M - d * laf t d J M = allS t J M - d * (allS t J M / d) := by unfold laf; rw [Int.mul_sub]; omega
  have ur : ∀ j, d * (ujf t d M j - ljf t d M j) = d * ((rowS t M j + d - 1) / d) - d * (rowS t M j / d) := fun j => by
    unfold ujf ljf
    rw [show (rowS t M j + d - 1) / d - dnr t d M j - (rowS t M j / d - dnr t d M j) = (rowS t M j + d - 1) / d - rowS t M j / d by omega, Int.mul_sub]
  have uc : ∀ m, d * (umf t d J m - lmf t d J m) = d * ((colS t J m + d - 1) / d) - d * (colS t J m / d) := fun m => by
    unfold umf lmf
    rw [show (colS t J m + d - 1) / d - dnc t d J m - (colS t J m / d - dnc t d J m) = (colS t J m + d - 1) / d - colS t J m / d by omega, Int.mul_sub]
  have ua9 : d * (uaf t d J M - laf t d J M) = d * ((allS t J M + d - 1) / d) - d * (allS t J M / d) := by
    unfold uaf laf
    rw [show (allS t J M + d - 1) / d - dna t d J M - (allS t J M / d - dna t d J M) = (allS t J M + d - 1) / d - allS t J M / d by omega, Int.mul_sub]
  have s1 : isum (fun j => d * ljf t d M j) J = d * isum (ljf t d M) J := isum_mulc
  have s2 : isum (fun m => d * lmf t d J m) M = d * isum (lmf t d J) M := isum_mulc
  have hV : isum (fun j => d * ljf t d M j) J + isum (fun m => d * lmf t d J m) M + d * laf t d J M = d * LFv t d J M := by
    rw [s1, s2]
    unfold LFv
    rw [Int.mul_add, Int.mul_add]
  have b0 := @la_bd t d J M hd ht hJ5 hM5
  have hge : ∀ a b, 0 ≤ rnx J M (fun j m => t (5 * j + m) % d) (fun j => d * ljf t d M j) (fun m => d * lmf t d J m) (d * laf t d J M) a b := by
    intro a b
    unfold rnx
    refine rnb_ge (fun j _ m _ => (em_ge hd _).1) (fun j hj => ?_) (fun j hj => Int.mul_nonneg (by omega) (lj_bd hd ht hM5 (by omega)).2.1) ?_ (fun m hm => ?_) (fun m hm => Int.mul_nonneg (by omega) (lm_bd hd ht hJ5 (by omega)).2.1) ?_ ?_ (Int.mul_nonneg (by omega) b0.2.1) (Int.mul_nonneg (by omega) b0.2.1)
    · simp only []
      rw [rowE, er]
      have := @dvd_1 (rowS t M j) d hd
      omega
    · exact isum_ge (fun j hj => Int.mul_nonneg (by omega) (lj_bd hd ht hM5 (by omega)).2.1)
    · simp only []
      rw [colE, ec]
      have := @dvd_1 (colS t J m) d hd
      omega
    · exact isum_ge (fun m hm => Int.mul_nonneg (by omega) (lm_bd hd ht hJ5 (by omega)).2.1)
    · rw [allE, ea]
      have := @dvd_1 (allS t J M) d hd
      omega
  have hle : ∀ a b, rnx J M (fun j m => t (5 * j + m) % d) (fun j => d * ljf t d M j) (fun m => d * lmf t d J m) (d * laf t d J M) a b ≤ d * rne t d J M a b := by
    intro a b
    unfold rne rnx
    rw [rnb_mul]
    refine rnb_le (fun j hj m hm => ?_) (fun j hj => ?_) (fun j hj => Int.le_refl _) (Int.le_of_eq s1) (fun m hm => ?_) (fun m hm => Int.le_refl _) (Int.le_of_eq s2) ?_ (Int.le_refl _) (Int.le_refl _)
    · have h1 := Int.emod_add_mul_ediv (t (5 * j + m)) d
      have h2 := em_ge hd (t (5 * j + m))
      unfold cpe dq
      split
      · rename_i h3
        rw [Int.mul_comm] at h3
        omega
      · omega
    · simp only []
      rw [rowE, er, ur]
      have := @dvd_2 (rowS t M j) d hd
      omega
    · simp only []
      rw [colE, ec, uc]
      have := @dvd_2 (colS t J m) d hd
      omega
    · rw [allE, ea, ua9]
      have := @dvd_2 (allS t J M) d hd
      omega
  have h9 := @flow_max (J + M + 4) R0 R1 (1 + J + M + 1) (1 + J + M + 2) v S (fun a b => rnx J M (fun j m => t (5 * j + m) % d) (fun j => d * ljf t d M j) (fun m => d * lmf t d J m) (d * laf t d J M) a b - rnx J M (fun j m => t (5 * j + m) % d) (fun j => d * ljf t d M j) (fun m => d * lmf t d J m) (d * laf t d J M) b a) d (d * LFv t d J M) hf hc (by omega) (by omega) (fun a ha b hb => by omega) (fun a ha b hb => ?_) (fun a ha => ?_)
  · exact Int.le_of_mul_le_mul_left h9 (by omega)
  · have x1 := hge b a
    have x2 := hle a b
    rw [hE a b (by omega)]
    omega
  · rcases @rnx_sum J M a (fun j m => t (5 * j + m) % d) (fun j => d * ljf t d M j) (fun m => d * lmf t d J m) (d * laf t d J M) with h | h
    · rw [hV] at h
      exact h
    · exact absurd ha h
/-- each rounding is a flow -/
theorem rn_flow (hd : 1 ≤ d) (ht : TOK t) (hJ5 : J ≤ 5) (hM5 : M ≤ 5) (hE : EQN R0 (rne t d J M)) (hu : VR t d J M u) : ∃ Rh, FLW (J + M + 4) R0 Rh (1 + J + M + 1) (1 + J + M + 2) (LFv t d J M) ∧ ∀ j, j < J → ∀ m, m < M → Rh (14 * (1 + J + m) + (1 + j)) = u j m := by
  obtain ⟨u1, u2, u3, u4⟩ := hu
  have b0 := @la_bd t d J M hd ht hJ5 hM5
  have hr : ∀ j, j < J → ljf t d M j ≤ isum (u j) M ∧ isum (u j) M ≤ ujf t d M j := fun j hj => (mbe_iff hd).mp (u2 j hj)
  have hcl : ∀ m, m < M → lmf t d J m ≤ isum (fun j => u j m) J ∧ isum (fun j => u j m) J ≤ umf t d J m := fun m hm => (mbe_iff hd).mp (u3 m hm)
  have hal : laf t d J M ≤ isum (fun j => isum (u j) M) J ∧ isum (fun j => isum (u j) M) J ≤ uaf t d J M := (mbe_iff hd).mp u4
  have s1 := @slj_bd t d M hd ht hM5 J hJ5
  have s2 := @slm_bd t d J hd ht hJ5 M hM5
  have hge : ∀ a b, 0 ≤ rnx J M u (ljf t d M) (lmf t d J) (laf t d J M) a b := by
    intro a b
    unfold rnx
    refine rnb_ge (fun j hj m hm => ?_) (fun j hj => ?_) (fun j hj => (lj_bd hd ht hM5 (by omega)).2.1) s1.1 (fun m hm => ?_) (fun m hm => (lm_bd hd ht hJ5 (by omega)).2.1) s2.1 (by omega) b0.2.1 b0.2.1
    · have := (u1 j hj m hm).1; omega
    · have := hr j hj; omega
    · have := hcl m hm; omega
  have hle : ∀ a b, rnx J M u (ljf t d M) (lmf t d J) (laf t d J M) a b ≤ rne t d J M a b := by
    intro a b
    unfold rnx rne
    refine rnb_le (fun j hj m hm => ?_) (fun j hj => ?_) (fun j hj => Int.le_refl _) (Int.le_refl _) (fun m hm => ?_) (fun m hm => Int.le_refl _) (Int.le_refl _) (by omega) (Int.le_refl _) (Int.le_refl _)
    · have h1 := u1 j hj m hm
      unfold cpe
      split
      · rename_i h3
        have := h1.2 h3
        omega
      · omega
    · have := hr j hj; omega
    · have := hcl m hm; omega
  have ev : ∀ a b, b < 14 → (fun k => R0 k - (rnx J M u (ljf t d M) (lmf t d J) (laf t d J M) (k / 14) (k % 14) - rnx J M u (ljf t d M) (lmf t d J) (laf t d J M) (k % 14) (k / 14))) (14 * a + b) = R0 (14 * a + b) - (rnx J M u (ljf t d M) (lmf t d J) (laf t d J M) a b - rnx J M u (ljf t d M) (lmf t d J) (laf t d J M) b a) := by
    intro a b hb
    simp only []
    rw [show (14 * a + b) / 14 = a by omega, show (14 * a + b) % 14 = b by omega]
  refine ⟨fun k => R0 k - (rnx J M u (ljf t d M) (lmf t d J) (laf t d J M) (k / 14) (k % 14) - rnx J M u (ljf t d M) (lmf t d J) (laf t d J M) (k % 14) (k / 14)), ⟨fun a ha b hb => ?_, fun a ha b hb => ?_, fun a ha => ?_⟩, fun j hj m hm => ?_⟩
  · rw [ev a b (by omega), hE a b (by omega)]
    have := hge b a
    have := hle a b
    omega
  · rw [ev a b (by omega), ev b a (by omega)]
    omega
  · rw [isum_congr (g := fun b => rnx J M u (ljf t d M) (lmf t d J) (laf t d J M) a b - rnx J M u (ljf t d M) (lmf t d J) (laf t d J M) b a) (fun b hb => by rw [ev a b (by omega)]; omega)]
    rcases @rnx_sum J M a u (ljf t d M) (lmf t d J) (laf t d J M) with h | h
    · exact h
    · exact absurd ha h
  · rw [ev _ _ (by omega), hE _ _ (by omega)]
    unfold rne rnx
    rw [rnb_n (by omega), rnb_n (by omega), rv_jm hj hm]
    omega
end RBD
/-- settled pairs of nodes, as far as the entry j0, m0 -/
abbrev MSK (J M j0 m0 a b : Nat) : Prop := (1 ≤ a ∧ a < 1 + J ∧ 1 + J ≤ b ∧ b < 1 + J + M ∧ (a - 1 < j0 ∨ (a - 1 = j0 ∧ b - (1 + J) < m0))) ∨ (1 ≤ b ∧ b < 1 + J ∧ 1 + J ≤ a ∧ a < 1 + J + M ∧ (b - 1 < j0 ∨ (b - 1 = j0 ∧ a - (1 + J) < m0)))
abbrev STL (t : Nat → Int) (d : Int) (J M : Nat) (R0 R f : Nat → Int) (j0 m0 : Nat) : Prop := ∃ Rh, FLW (J + M + 4) R0 Rh (1 + J + M + 1) (1 + J + M + 2) (LFv t d J M) ∧ (∀ a, a < J + M + 4 → ∀ b, b < J + M + 4 → (MSK J M j0 m0 a b → R (14 * a + b) = 0) ∧ (¬ MSK J M j0 m0 a b → R (14 * a + b) = Rh (14 * a + b))) ∧ (∀ j, j < J → ∀ m, m < M → (j < j0 ∨ (j = j0 ∧ m < m0)) → Rh (14 * (1 + J + m) + (1 + j)) = f (5 * j + m))
abbrev LEX (t : Nat → Int) (d : Int) (J M : Nat) (f : Nat → Int) (j0 m0 : Nat) : Prop := ∀ j, j < J → ∀ m, m < M → (j < j0 ∨ (j = j0 ∧ m < m0)) → ∀ u, VR t d J M u → (∀ j2, j2 < J → ∀ m2, m2 < M → (j2 < j ∨ (j2 = j ∧ m2 < m)) → u j2 m2 = f (5 * j2 + m2)) → f (5 * j + m) ≤ u j m
section RSET
variable {t : Nat → Int} {d : Int} {J M j0 m0 : Nat} {R0 R R1 R2 f : Nat → Int} {v un : Int}
theorem stl_unit (hd : 1 ≤ d) (hJ5 : J ≤ 5) (hM5 : M ≤ 5) (hE : EQN R0 (rne t d J M)) (hj : j0 < J) (hm : m0 < M) (hs : STL t d J M R0 R f j0 m0) : R (14 * (1 + J + m0) + (1 + j0)) = 0 ∨ R (14 * (1 + J + m0) + (1 + j0)) = 1 := by
  obtain ⟨Rh, h1, h2, h3⟩ := hs
  have hvr := rn_vr hd hJ5 hM5 hE h1
  rw [(h2 (1 + J + m0) (by omega) (1 + j0) (by omega)).2 (by omega)]
  exact (hvr.1 j0 hj m0 hm).1
theorem stl_step (hd : 1 ≤ d) (ht : TOK t) (hJ5 : J ≤ 5) (hM5 : M ≤ 5) (hE : EQN R0 (rne t d J M)) (hj : j0 < J) (hm : m0 < M) (hs : STL t d J M R0 R f j0 m0) (hl : LEX t d J M f j0 m0) (hun : un = R (14 * (1 + J + m0) + (1 + j0)))
    (hR1 : R1 = uq (uq R (14 * (1 + j0) + (1 + J + m0)) 0) (14 * (1 + J + m0) + (1 + j0)) 0) (hv0 : 0 ≤ v) (hv1 : v ≤ un) (hf : FLW (J + M + 4) R1 R2 (1 + j0) (1 + J + m0) v) (hz : v = 0 → R2 = R1) (hc : v = un ∨ ∃ S, CUT (J + M + 4) R2 (1 + j0) (1 + J + m0) S) :
    STL t d J M R0 R2 (uq f (5 * j0 + m0) (un - v)) j0 (m0 + 1) ∧ LEX t d J M (uq f (5 * j0 + m0) (un - v)) j0 (m0 + 1) := by
  have hu01 := stl_unit hd hJ5 hM5 hE hj hm hs
  rw [← hun] at hu01
  obtain ⟨Rh, h1, h2, h3⟩ := hs
  have hvr := rn_vr hd hJ5 hM5 hE h1
  have hur : Rh (14 * (1 + J + m0) + (1 + j0)) = un := by
    rw [hun, (h2 (1 + J + m0) (by omega) (1 + j0) (by omega)).2 (by omega)]
  have r1 : ∀ a, a < J + M + 4 → ∀ b, b < J + M + 4 → (MSK J M j0 (m0 + 1) a b → R1 (14 * a + b) = 0) ∧ (¬ MSK J M j0 (m0 + 1) a b → R1 (14 * a + b) = Rh (14 * a + b)) := by
    intro a ha b hb
    rw [hR1]
    by_cases c1 : a = 1 + j0 ∧ b = 1 + J + m0
    · obtain ⟨rfl, rfl⟩ := c1
      rw [uq_n (by omega), uq_s]
      exact ⟨fun _ => rfl, fun h => absurd (Or.inl (by omega)) h⟩
    · by_cases c2 : a = 1 + J + m0 ∧ b = 1 + j0
      · obtain ⟨rfl, rfl⟩ := c2
        rw [uq_s]
        exact ⟨fun _ => rfl, fun h => absurd (Or.inr (by omega)) h⟩
      · rw [uq_n (by omega), uq_n (by omega)]
        have h9 := h2 a ha b hb
        exact ⟨fun h => h9.1 (by omega), fun h => h9.2 (by omega)⟩
  have hmz : ∀ a b, MSK J M j0 (m0 + 1) a b → MSK J M j0 (m0 + 1) b a := fun a b h => by omega
  have r2 : ∀ a, a < J + M + 4 → ∀ b, b < J + M + 4 → MSK J M j0 (m0 + 1) a b → R2 (14 * a + b) = 0 := by
    intro a ha b hb h
    have x1 := (r1 a ha b hb).1 h
    have x2 := (r1 b hb a ha).1 (hmz a b h)
    have x3 := hf.2.1 a ha b hb
    have x4 := hf.1 a ha b hb
    have x5 := hf.1 b hb a ha
    omega
  have ev : ∀ a b, b < 14 → (fun k => Rh k + (R2 k - R1 k) + (pbk (1 + j0) (1 + J + m0) v (k / 14) (k % 14) + pbk (1 + J + m0) (1 + j0) (-v) (k / 14) (k % 14))) (14 * a + b) = Rh (14 * a + b) + (R2 (14 * a + b) - R1 (14 * a + b)) + (pbk (1 + j0) (1 + J + m0) v a b + pbk (1 + J + m0) (1 + j0) (-v) a b) := by
    intro a b hb
    simp only []
    rw [show (14 * a + b) / 14 = a by omega, show (14 * a + b) % 14 = b by omega]
  have r3 : ∀ a, a < J + M + 4 → ∀ b, b < J + M + 4 → (¬ MSK J M j0 (m0 + 1) a b → Rh (14 * a + b) + (R2 (14 * a + b) - R1 (14 * a + b)) + (pbk (1 + j0) (1 + J + m0) v a b + pbk (1 + J + m0) (1 + j0) (-v) a b) = R2 (14 * a + b)) ∧ (MSK J M j0 m0 a b → Rh (14 * a + b) + (R2 (14 * a + b) - R1 (14 * a + b)) + (pbk (1 + j0) (1 + J + m0) v a b + pbk (1 + J + m0) (1 + j0) (-v) a b) = Rh (14 * a + b)) := by
    intro a ha b hb
    refine ⟨fun h => ?_, fun h => ?_⟩
    · rw [pbk_n (by omega), pbk_n (by omega), (r1 a ha b hb).2 h]
      omega
    · rw [pbk_n (by omega), pbk_n (by omega), (r1 a ha b hb).1 (by omega), r2 a ha b hb (by omega)]
      omega
  have hnew : Rh (14 * (1 + J + m0) + (1 + j0)) + (R2 (14 * (1 + J + m0) + (1 + j0)) - R1 (14 * (1 + J + m0) + (1 + j0))) + (pbk (1 + j0) (1 + J + m0) v (1 + J + m0) (1 + j0) + pbk (1 + J + m0) (1 + j0) (-v) (1 + J + m0) (1 + j0)) = un - v := by
    rw [pbk_n (by omega), pbk_at, (r1 _ (by omega) _ (by omega)).1 (by omega), r2 _ (by omega) _ (by omega) (by omega), hur]
    omega
  refine ⟨⟨fun k => Rh k + (R2 k - R1 k) + (pbk (1 + j0) (1 + J + m0) v (k / 14) (k % 14) + pbk (1 + J + m0) (1 + j0) (-v) (k / 14) (k % 14)), ⟨fun a ha b hb => ?_, fun a ha b hb => ?_, fun a ha => ?_⟩, fun a ha b hb => ⟨fun h => r2 a ha b hb h, fun h => ?_⟩, fun j hj9 m hm9 hd9 => ?_⟩, fun j hj9 m hm9 hd9 u hu hpre => ?_⟩
  · rw [ev a b (by omega)]
    have y1 := h1.1 a ha b hb
    have y2 := hf.1 a ha b hb
    by_cases c1 : a = 1 + j0 ∧ b = 1 + J + m0
    · obtain ⟨rfl, rfl⟩ := c1
      rw [pbk_at, pbk_n (by omega), (r1 _ ha _ hb).1 (by omega)]
      omega
    · by_cases c2 : a = 1 + J + m0 ∧ b = 1 + j0
      · obtain ⟨rfl, rfl⟩ := c2
        rw [hnew]
        omega
      · by_cases c3 : MSK J M j0 m0 a b
        · rw [(r3 a ha b hb).2 c3]; exact y1
        · rw [(r3 a ha b hb).1 (by omega)]; exact y2
  · rw [ev a b (by omega), ev b a (by omega), pbk_flip, pbk_flip]
    have y1 := h1.2.1 a ha b hb
    have y2 := hf.2.1 a ha b hb
    omega
  · rw [isum_congr (g := fun b => (R0 (14 * a + b) - Rh (14 * a + b)) + ((R1 (14 * a + b) - R2 (14 * a + b)) + (pbk (1 + j0) (1 + J + m0) (-v) a b + pbk (1 + J + m0) (1 + j0) v a b))) (fun b hb => ?_), isum_add, isum_add, isum_add, pbk_row (by omega), pbk_row (by omega), h1.2.2 a ha, hf.2.2 a ha]
    · by_cases c1 : a = 1 + j0
      · simp (disch := omega) only [↓if_pos, ↓if_neg]
        omega
      · by_cases c2 : a = 1 + J + m0
        · simp (disch := omega) only [↓if_pos, ↓if_neg]
          omega
        · rw [if_neg c1, if_neg c2]
          split <;> split <;> omega
    · rw [ev a b (by omega)]
      have z1 : pbk (1 + j0) (1 + J + m0) (-v) a b = -pbk (1 + j0) (1 + J + m0) v a b := by unfold pbk; split <;> omega
      have z2 : pbk (1 + J + m0) (1 + j0) (-v) a b = -pbk (1 + J + m0) (1 + j0) v a b := by unfold pbk; split <;> omega
      omega
  · rw [ev a b (by omega), (r3 a ha b hb).1 h]
  · rw [ev _ _ (by omega)]
    by_cases c1 : j = j0 ∧ m = m0
    · obtain ⟨rfl, rfl⟩ := c1
      rw [hnew, uq_s]
    · rw [(r3 _ (by omega) _ (by omega)).2 (by omega), uq_n (by omega)]
      exact h3 j hj9 m hm9 (by omega)
  · by_cases c1 : j = j0 ∧ m = m0
    · obtain ⟨rfl, rfl⟩ := c1
      rw [uq_s]
      have hu9 := (hu.1 j hj9 m hm9).1
      by_cases c2 : un - v ≤ u j m
      · exact c2
      · exfalso
        have hv : v = 0 := by omega
        have hu0 : u j m = 0 := by omega
        have hun1 : un = 1 := by omega
        obtain ⟨S, hS1, hS2, hS3⟩ : ∃ S, CUT (J + M + 4) R2 (1 + j) (1 + J + m) S := by
          rcases hc with h | h
          · omega
          · exact h
        have hR21 := hz hv
        obtain ⟨Rp, p1, p2⟩ := rn_flow hd ht hJ5 hM5 hE hu
        have e1 := @cut_flow (J + M + 4) S (fun a b => Rh (14 * a + b) - Rp (14 * a + b)) (fun a ha b hb => by
          have := h1.2.1 a ha b hb
          have := p1.2.1 a ha b hb
          omega)
        rw [isum_congr (g := fun _ => 0) (fun a ha => ?_), isum_zero] at e1
        · have e2 := @capS_mono (J + M + 4) S (fun a b => Rh (14 * a + b) - Rp (14 * a + b)) (fun a b => pbk (1 + j) (1 + J + m) (-1) a b) (fun a ha b hb hSa hSb => ?_)
          · rw [capS_pbk (by omega) (by omega) hS1 hS2] at e2
            omega
          · have q1 := h1.2.1 a ha b hb
            have q2 := p1.2.1 a ha b hb
            have q3 := p1.1 a ha b hb
            by_cases k1 : a = 1 + j ∧ b = 1 + J + m
            · obtain ⟨rfl, rfl⟩ := k1
              have q4 := p2 j hj9 m hm9
              rw [pbk_at]
              omega
            · by_cases k2 : a = 1 + J + m ∧ b = 1 + j
              · obtain ⟨rfl, rfl⟩ := k2
                rw [hS2] at hSa
                cases hSa
              · rw [pbk_n (by omega)]
                by_cases k3 : MSK J M j m a b
                · have key : ∀ x y, x < J → y < M → (x < j ∨ (x = j ∧ y < m)) → Rh (14 * (1 + J + y) + (1 + x)) = Rp (14 * (1 + J + y) + (1 + x)) := by
                    intro x y hx hy hxy
                    rw [h3 x hx y hy hxy, p2 x hx y hy, hpre x hx y hy hxy, uq_n (by omega)]
                  rcases k3 with k3 | k3
                  · have := key (a - 1) (b - (1 + J)) (by omega) (by omega) (by omega)
                    rw [show 1 + J + (b - (1 + J)) = b by omega, show 1 + (a - 1) = a by omega] at this
                    omega
                  · have := key (b - 1) (a - (1 + J)) (by omega) (by omega) (by omega)
                    rw [show 1 + J + (a - (1 + J)) = a by omega, show 1 + (b - 1) = b by omega] at this
                    omega
                · have k4 := (r1 a ha b hb).2 (by omega)
                  have k5 := hS3 a ha b hb hSa hSb
                  rw [hR21] at k5
                  omega
        · split
          · rw [isum_congr (g := fun b => (R0 (14 * a + b) - Rp (14 * a + b)) - (R0 (14 * a + b) - Rh (14 * a + b))) (fun b hb => by omega), isum_sb (f := fun b => R0 (14 * a + b) - Rp (14 * a + b)) (g := fun b => R0 (14 * a + b) - Rh (14 * a + b)), p1.2.2 a ha, h1.2.2 a ha]
            omega
          · rfl
    · rw [uq_n (by omega)]
      refine hl j hj9 m hm9 (by omega) u hu (fun j2 hj2 m2 hm2 hb => ?_)
      rw [hpre j2 hj2 m2 hm2 hb, uq_n (by omega)]
theorem stl_row (hs : STL t d J M R0 R f j0 M) : STL t d J M R0 R f (j0 + 1) 0 := by
  obtain ⟨Rh, h1, h2, h3⟩ := hs
  exact ⟨Rh, h1, fun a ha b hb => ⟨fun h => (h2 a ha b hb).1 (by omega), fun h => (h2 a ha b hb).2 (by omega)⟩, fun j hj m hm h => h3 j hj m hm (by omega)⟩
theorem lex_row (hs : LEX t d J M f j0 M) : LEX t d J M f (j0 + 1) 0 := fun j hj m hm h u hu hp => hs j hj m hm (by omega) u hu hp
theorem stl_end (hd : 1 ≤ d) (hJ5 : J ≤ 5) (hM5 : M ≤ 5) (hE : EQN R0 (rne t d J M)) (hs : STL t d J M R0 R f J 0) : VR t d J M (fun j m => f (5 * j + m)) := by
  obtain ⟨Rh, h1, h2, h3⟩ := hs
  exact VR_congr (rn_vr hd hJ5 hM5 hE h1) (fun j hj m hm => (h3 j hj m hm (by omega)).symm)
end RSET
