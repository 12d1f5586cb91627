/-! the model's rounding, apart from the machine -/
def dig (c m : Nat) : Nat := c / 6 ^ m % 6
def bt (M s m : Nat) : Bool := s.testBit (M - 1 - m)
def mbb (s dn k d : Int) : Bool := decide (dn + k = s / d) || decide (dn + k = (s + d - 1) / d)
def allb (p : Nat → Bool) : Nat → Bool
  | 0 => true
  | n + 1 => allb p n && p n
def okb (t : Nat → Int) (d : Int) (M j s c m : Nat) : Bool := allb (fun y => !(bt M s y) || (decide (t (5 * j + y) % d ≠ 0) && decide (dig c y ≠ 5))) m
def thn (M s c : Nat) : Nat → Nat
  | 0 => c
  | m + 1 => thn M s c m + (if bt M s m = true then 6 ^ m else 0)
def mny (M s : Nat) : Nat → Int
  | 0 => 0
  | m + 1 => mny M s m + bi (bt M s m)
def bec (t : Nat → Int) (d : Int) (M j s c : Nat) : Int := if okb t d M j s c M = true ∧ mbb (rowS t M j) (dnr t d M j) (mny M s M) d = true then (thn M s c M : Int) else -1
def arr (t : Nat → Int) (d : Int) (J M c : Nat) : Bool := allb (fun m => mbb (colS t J m) (dnc t d J m) (dig c m : Int) d) M && mbb (allS t J M) (isum (dnc t d J) M) (isum (fun m => (dig c m : Int)) M) d
def gof (t : Nat → Int) (d : Int) (J M : Nat) : Nat → Nat → Bool
  | 0, c => arr t d J M c
  | k + 1, c => allb (fun m => decide (dig c m ≤ J - (k + 1))) M && anyc (fun s => decide (bec t d M (J - (k + 1)) s c ≠ -1) && gof t d J M k (bec t d M (J - (k + 1)) s c).toNat) (2 ^ M)
def cod (w : Nat → Bool) : Nat → Nat
  | 0 => 0
  | m + 1 => 2 * cod w m + (w m).toNat
def cdl (g : Nat → Nat) : Nat → Nat
  | 0 => 0
  | m + 1 => cdl g m + g m * 6 ^ m
def cnt (u : Nat → Nat → Bool) : Nat → Nat → Nat
  | 0, _ => 0
  | j + 1, m => cnt u j m + (u j m).toNat
theorem allb_iff {p : Nat → Bool} : ∀ {n : Nat}, allb p n = true ↔ ∀ i, i < n → p i = true
  | 0 => ⟨fun _ i hi => absurd hi (Nat.not_lt_zero i), fun _ => rfl⟩
  | n + 1 => by
    simp only [allb, Bool.and_eq_true]
    rw [allb_iff (n := n)]
    constructor
    · rintro ⟨h1, h2⟩ i hi
      by_cases hin : i = n
      · subst hin; exact h2
      · exact h1 i (by omega)
    · intro h
      exact ⟨fun i hi => h i (by omega), h n (by omega)⟩
theorem mbb_iff {s dn k d : Int} : mbb s dn k d = true ↔ mbe s dn k d := by
  unfold mbb mbe
  simp only [Bool.or_eq_true, decide_eq_true_eq]
theorem cod_lt {w : Nat → Bool} : ∀ {M : Nat}, cod w M < 2 ^ M
  | 0 => (by decide : (0 : Nat) < 1)
  | M + 1 => by
    have h1 := cod_lt (w := w) (M := M)
    have h2 : (w M).toNat ≤ 1 := Bool.toNat_le (w M)
    simp only [cod]
    rw [Nat.pow_succ]
    omega
theorem tbq_s {x i : Nat} {b : Bool} : (2 * x + b.toNat).testBit (i + 1) = x.testBit i := by
  rw [Nat.testBit_succ]
  congr 1
  have h2 : b.toNat ≤ 1 := Bool.toNat_le b
  omega
theorem tbq_0 {x : Nat} {b : Bool} : (2 * x + b.toNat).testBit 0 = b := by
  rw [Nat.testBit_zero]
  cases b <;> simp <;> omega
theorem cod_bt {w : Nat → Bool} : ∀ {M m : Nat}, m < M → bt M (cod w M) m = w m
  | 0, m, h => absurd h (Nat.not_lt_zero m)
  | M + 1, m, h => by
    unfold bt
    simp only [cod]
    by_cases hm : m = M
    · subst hm
      rw [show m + 1 - 1 - m = 0 by omega, tbq_0]
    · rw [show M + 1 - 1 - m = (M - 1 - m) + 1 by omega, tbq_s]
      exact cod_bt (M := M) (by omega)
theorem cod_first {w : Nat → Bool} : ∀ {M s : Nat}, s < cod w M → ∃ m, m < M ∧ (∀ y, y < m → bt M s y = w y) ∧ bt M s m = false ∧ w m = true
  | 0, s, h => absurd h (Nat.not_lt_zero s)
  | M + 1, s, h => by
    simp only [cod] at h
    have hs : s = 2 * (s / 2) + (decide (s % 2 = 1)).toNat := by
      by_cases c : s % 2 = 1
      · rw [decide_eq_true c]; simp only [Bool.toNat_true]; omega
      · rw [decide_eq_false c]; simp only [Bool.toNat_false]; omega
    have hb1 : (decide (s % 2 = 1)).toNat ≤ 1 := Bool.toNat_le _
    have hb2 : (w M).toNat ≤ 1 := Bool.toNat_le _
    have up : ∀ y, y < M → bt (M + 1) s y = bt M (s / 2) y := by
      intro y hy
      unfold bt
      rw [show M + 1 - 1 - y = (M - 1 - y) + 1 by omega, Nat.testBit_succ]
    by_cases c : s / 2 < cod w M
    · obtain ⟨m, h1, h2, h3, h4⟩ := cod_first c
      exact ⟨m, by omega, fun y hy => by rw [up y (by omega)]; exact h2 y hy, by rw [up m h1]; exact h3, h4⟩
    · have e1 : s / 2 = cod w M := by omega
      refine ⟨M, by omega, fun y hy => by rw [up y hy, e1]; exact cod_bt hy, ?_, ?_⟩
      · unfold bt
        rw [show M + 1 - 1 - M = 0 by omega, Nat.testBit_zero]
        have : s % 2 ≠ 1 := by
          intro h9
          rw [decide_eq_true h9] at hs
          simp only [Bool.toNat_true] at hs
          omega
        exact decide_eq_false this
      · cases hw : w M
        · rw [hw] at h
          simp only [Bool.toNat_false] at h
          omega
        · rfl
theorem cdl_lt {g : Nat → Nat} : ∀ {M : Nat}, (∀ m, m < M → g m ≤ 5) → cdl g M < 6 ^ M
  | 0, _ => (by decide : (0 : Nat) < 1)
  | M + 1, h => by
    have h1 := cdl_lt (M := M) (fun m hm => h m (by omega))
    have h2 := h M (by omega)
    have h3 : g M * 6 ^ M ≤ 5 * 6 ^ M := Nat.mul_le_mul_right _ h2
    simp only [cdl]
    rw [Nat.pow_succ]
    omega
theorem cdl_cons {g : Nat → Nat} : ∀ {M : Nat}, cdl g (M + 1) = g 0 + 6 * cdl (fun m => g (m + 1)) M
  | 0 => by simp [cdl]
  | M + 1 => by
    rw [cdl, cdl_cons (M := M)]
    simp only [cdl]
    rw [Nat.pow_succ, Nat.mul_add]
    have : g (M + 1) * (6 ^ M * 6) = 6 * (g (M + 1) * 6 ^ M) := by rw [Nat.mul_comm (6 ^ M) 6, Nat.mul_left_comm]
    omega
theorem dig_cdl : ∀ {M m : Nat} {g : Nat → Nat}, (∀ m, m < M → g m ≤ 5) → m < M → dig (cdl g M) m = g m
  | 0, m, _, _, h => absurd h (Nat.not_lt_zero m)
  | M + 1, 0, g, hg, _ => by
    have := hg 0 (by omega)
    rw [cdl_cons]
    unfold dig
    rw [Nat.pow_zero, Nat.div_one]
    omega
  | M + 1, m + 1, g, hg, h => by
    have h0 := hg 0 (by omega)
    have h1 := dig_cdl (M := M) (m := m) (g := fun m => g (m + 1)) (fun m hm => hg (m + 1) (by omega)) (by omega)
    rw [cdl_cons]
    unfold dig at h1 ⊢
    rw [Nat.pow_succ, Nat.mul_comm (6 ^ m) 6, ← Nat.div_div_eq_div_mul, show (g 0 + 6 * cdl (fun m => g (m + 1)) M) / 6 = cdl (fun m => g (m + 1)) M by omega]
    exact h1
theorem thn_cdl {M s : Nat} {g : Nat → Nat} : ∀ {m : Nat}, thn M s (cdl g M) m = cdl g M + cdl (fun y => (bt M s y).toNat) m
  | 0 => rfl
  | m + 1 => by
    simp only [thn, cdl]
    rw [thn_cdl (m := m)]
    cases bt M s m <;> simp <;> omega
theorem cdl_add {g w : Nat → Nat} : ∀ {M : Nat}, cdl (fun m => g m + w m) M = cdl g M + cdl w M
  | 0 => rfl
  | M + 1 => by
    simp only [cdl]
    rw [cdl_add (M := M), Nat.add_mul]
    omega
theorem cdl_congr {g w : Nat → Nat} : ∀ {M : Nat}, (∀ m, m < M → g m = w m) → cdl g M = cdl w M
  | 0, _ => rfl
  | M + 1, h => by
    simp only [cdl]
    rw [cdl_congr (M := M) (fun m hm => h m (by omega)), h M (by omega)]
theorem cnt_le {u : Nat → Nat → Bool} {m : Nat} : ∀ {j : Nat}, cnt u j m ≤ j
  | 0 => Nat.le_refl _
  | j + 1 => by
    have h1 := cnt_le (u := u) (m := m) (j := j)
    have h2 : (u j m).toNat ≤ 1 := Bool.toNat_le _
    simp only [cnt]
    omega
theorem cnt_congr {u w : Nat → Nat → Bool} {m : Nat} : ∀ {j : Nat}, (∀ i, i < j → u i m = w i m) → cnt u j m = cnt w j m
  | 0, _ => rfl
  | j + 1, h => by
    simp only [cnt]
    rw [cnt_congr (j := j) (fun i hi => h i (by omega)), h j (by omega)]
theorem bi_nat {b : Bool} : bi b = ((b.toNat : Nat) : Int) := by cases b <;> rfl
theorem cnt_sum {u : Nat → Nat → Bool} {m : Nat} : ∀ {j : Nat}, isum (fun i => bi (u i m)) j = (cnt u j m : Int)
  | 0 => rfl
  | j + 1 => by
    simp only [isum, cnt]
    rw [cnt_sum (j := j), bi_nat]
    omega
theorem mny_sum {M s : Nat} {w : Nat → Bool} : ∀ {m : Nat}, (∀ y, y < m → bt M s y = w y) → mny M s m = isum (fun y => bi (w y)) m
  | 0, _ => rfl
  | m + 1, h => by
    simp only [mny, isum]
    rw [mny_sum (m := m) (fun y hy => h y (by omega)), h m (by omega)]
section MRN
variable {t : Nat → Int} {d : Int} {J M : Nat}
abbrev ROK (t : Nat → Int) (d : Int) (M : Nat) (u : Nat → Nat → Bool) (j : Nat) : Prop := (∀ m, m < M → u j m = true → t (5 * j + m) % d ≠ 0) ∧ mbb (rowS t M j) (dnr t d M j) (isum (fun m => bi (u j m)) M) d = true
abbrev FIN (t : Nat → Int) (d : Int) (J M : Nat) (u : Nat → Nat → Bool) : Prop := (∀ m, m < M → mbb (colS t J m) (dnc t d J m) (cnt u J m : Int) d = true) ∧ mbb (allS t J M) (isum (dnc t d J) M) (isum (fun m => (cnt u J m : Int)) M) d = true
theorem dna_c : dna t d J M = isum (dnc t d J) M := isum_swap (f := fun j m => dq t d j m)
theorem md_iff {j m : Nat} : dq t d j m * d = t (5 * j + m) ↔ t (5 * j + m) % d = 0 := by
  have h := Int.emod_add_mul_ediv (t (5 * j + m)) d
  unfold dq
  rw [Int.mul_comm]
  omega
theorem vr_of {u : Nat → Nat → Bool} (h1 : ∀ j, j < J → ROK t d M u j) (h2 : FIN t d J M u) : VR t d J M (fun j m => bi (u j m)) := by
  refine ⟨fun j hj m hm => ⟨?_, fun h => ?_⟩, fun j hj => mbb_iff.mp (h1 j hj).2, fun m hm => ?_, ?_⟩
  · show bi (u j m) = 0 ∨ bi (u j m) = 1
    cases u j m
    · exact Or.inl rfl
    · exact Or.inr rfl
  · show bi (u j m) = 0
    cases hu : u j m
    · rfl
    · exact absurd (md_iff.mp h) ((h1 j hj).1 m hm hu)
  · rw [cnt_sum]
    exact mbb_iff.mp (h2.1 m hm)
  · rw [isum_swap (f := fun j m => bi (u j m)), isum_congr (g := fun m => (cnt u J m : Int)) (fun m hm => cnt_sum), dna_c]
    exact mbb_iff.mp h2.2
theorem vr_to {u : Nat → Nat → Bool} (h : VR t d J M (fun j m => bi (u j m))) : (∀ j, j < J → ROK t d M u j) ∧ FIN t d J M u := by
  obtain ⟨h1, h2, h3, h4⟩ := h
  refine ⟨fun j hj => ⟨fun m hm hu h9 => ?_, mbb_iff.mpr (h2 j hj)⟩, fun m hm => ?_, ?_⟩
  · have this : bi (u j m) = 0 := (h1 j hj m hm).2 (md_iff.mpr h9)
    rw [hu] at this
    cases this
  · have := h3 m hm
    rw [cnt_sum] at this
    exact mbb_iff.mpr this
  · rw [isum_swap (f := fun j m => bi (u j m)), isum_congr (g := fun m => (cnt u J m : Int)) (fun m hm => cnt_sum), dna_c] at h4
    exact mbb_iff.mpr h4
/-- a row of bits is taken -/
theorem bec_cnt {u : Nat → Nat → Bool} {j s : Nat} (hj5 : j ≤ 5) (hb : ∀ m, m < M → bt M s m = u j m) : thn M s (cdl (cnt u j) M) M = cdl (cnt u (j + 1)) M := by
  rw [thn_cdl, ← cdl_add]
  refine cdl_congr (fun m hm => ?_)
  rw [hb m hm]
  rfl
theorem bec_ok {u : Nat → Nat → Bool} {j s : Nat} (hj5 : j < 5) (hb : ∀ m, m < M → bt M s m = u j m) (hr : ROK t d M u j) : bec t d M j s (cdl (cnt u j) M) = (cdl (cnt u (j + 1)) M : Nat) := by
  have c1 : okb t d M j s (cdl (cnt u j) M) M = true := by
    refine allb_iff.mpr (fun y hy => ?_)
    rw [hb y hy, dig_cdl (fun m hm => by have := @cnt_le u m j; omega) hy]
    cases hu : u j y
    · rfl
    · have h1 := hr.1 y hy hu
      have h2 := @cnt_le u y j
      rw [decide_eq_true h1, decide_eq_true (show cnt u j y ≠ 5 by omega)]
      rfl
  have c2 : mbb (rowS t M j) (dnr t d M j) (mny M s M) d = true := by
    rw [mny_sum hb]
    exact hr.2
  unfold bec
  rw [if_pos ⟨c1, c2⟩, bec_cnt (by omega) hb]
theorem bec_inv {u : Nat → Nat → Bool} {j s : Nat} (hj5 : j ≤ 5) (hb : ∀ m, m < M → bt M s m = u j m) (h : bec t d M j s (cdl (cnt u j) M) ≠ -1) : bec t d M j s (cdl (cnt u j) M) = (cdl (cnt u (j + 1)) M : Nat) ∧ ROK t d M u j := by
  unfold bec at h ⊢
  by_cases c : okb t d M j s (cdl (cnt u j) M) M = true ∧ mbb (rowS t M j) (dnr t d M j) (mny M s M) d = true
  · rw [if_pos c, bec_cnt hj5 hb]
    refine ⟨rfl, fun m hm hu => ?_, ?_⟩
    · have h1 := allb_iff.mp c.1 m hm
      rw [hb m hm, hu] at h1
      simp only [Bool.not_true, Bool.false_or, Bool.and_eq_true, decide_eq_true_eq] at h1
      exact h1.1
    · rw [← mny_sum hb]
      exact c.2
  · rw [if_neg c] at h
    exact absurd rfl h
theorem arr_cnt {u : Nat → Nat → Bool} (hJ5 : J ≤ 5) : arr t d J M (cdl (cnt u J) M) = true ↔ FIN t d J M u := by
  have hd : ∀ m, m < M → dig (cdl (cnt u J) M) m = cnt u J m := fun m hm => dig_cdl (fun m hm => by have := @cnt_le u m J; omega) hm
  have he : isum (fun m => (dig (cdl (cnt u J) M) m : Int)) M = isum (fun m => (cnt u J m : Int)) M := isum_congr (fun m hm => by rw [hd m hm])
  unfold arr
  rw [Bool.and_eq_true, allb_iff, he]
  constructor
  · rintro ⟨h1, h2⟩
    refine ⟨fun m hm => ?_, h2⟩
    have := h1 m hm
    rw [hd m hm] at this
    exact this
  · rintro ⟨h1, h2⟩
    refine ⟨fun m hm => ?_, h2⟩
    rw [hd m hm]
    exact h1 m hm
theorem gof_s (hJ5 : J ≤ 5) : ∀ k, k ≤ J → ∀ u : Nat → Nat → Bool, gof t d J M k (cdl (cnt u (J - k)) M) = true → ∃ w : Nat → Nat → Bool, (∀ j, j < J - k → w j = u j) ∧ (∀ j, J - k ≤ j → j < J → ROK t d M w j) ∧ FIN t d J M w := by
  intro k
  induction k with
  | zero =>
    intro hk u h
    exact ⟨u, fun _ _ => rfl, fun j h1 h2 => by omega, (arr_cnt hJ5).mp h⟩
  | succ k ih =>
    intro hk u h
    simp only [gof, Bool.and_eq_true] at h
    obtain ⟨s, hs, h2⟩ := anyc_iff.mp h.2
    simp only [Bool.and_eq_true, decide_eq_true_eq] at h2
    obtain ⟨h3, h4⟩ := h2
    have hcu : ∀ m, cnt (upg u (J - (k + 1)) (bt M s)) (J - (k + 1)) m = cnt u (J - (k + 1)) m := fun m => cnt_congr (fun i hi => by rw [upg_n (by omega)])
    have hce : cdl (cnt u (J - (k + 1))) M = cdl (cnt (upg u (J - (k + 1)) (bt M s)) (J - (k + 1))) M := cdl_congr (fun m hm => (hcu m).symm)
    rw [hce] at h3 h4
    obtain ⟨e1, e2⟩ := bec_inv (u := upg u (J - (k + 1)) (bt M s)) (by omega) (fun m hm => by rw [upg_s]) h3
    rw [e1, Int.toNat_natCast, show J - (k + 1) + 1 = J - k by omega] at h4
    obtain ⟨w, w1, w2, w3⟩ := ih (by omega) _ h4
    refine ⟨w, fun j hj => ?_, fun j h5 h6 => ?_, w3⟩
    · rw [w1 j (by omega), upg_n (by omega)]
    · by_cases hjk : j = J - (k + 1)
      · have e3 := w1 j (by omega)
        unfold ROK
        rw [e3, hjk]
        exact e2
      · exact w2 j (by omega) h6
theorem gof_c {u : Nat → Nat → Bool} (hJ5 : J ≤ 5) (h1 : ∀ j, j < J → ROK t d M u j) (h2 : FIN t d J M u) : ∀ k, k ≤ J → gof t d J M k (cdl (cnt u (J - k)) M) = true := by
  intro k
  induction k with
  | zero =>
    intro _
    exact (arr_cnt hJ5).mpr h2
  | succ k ih =>
    intro hk
    have h3 := ih (by omega)
    have e1 := bec_ok (j := J - (k + 1)) (s := cod (u (J - (k + 1))) M) (by omega) (fun m hm => cod_bt hm) (h1 (J - (k + 1)) (by omega))
    simp only [gof, Bool.and_eq_true]
    refine ⟨allb_iff.mpr (fun m hm => ?_), anyc_iff.mpr ⟨cod (u (J - (k + 1))) M, cod_lt, ?_⟩⟩
    · rw [dig_cdl (fun m hm => by have := @cnt_le u m (J - (k + 1)); omega) hm]
      exact decide_eq_true cnt_le
    · rw [e1, Int.toNat_natCast, show J - (k + 1) + 1 = J - k by omega, h3, Bool.and_true]
      exact decide_eq_true (by omega)
/-- a rounding as truth values -/
def tru (U : Nat → Nat → Int) (j m : Nat) : Bool := decide (U j m = 1)
theorem tru_bi {U : Nat → Nat → Int} (h : VR t d J M U) {j m : Nat} (hj : j < J) (hm : m < M) : bi (tru U j m) = U j m := by
  unfold tru
  rcases (h.1 j hj m hm).1 with h1 | h1
  · rw [h1]; rfl
  · rw [h1]; rfl
theorem tru_vr {U : Nat → Nat → Int} (h : VR t d J M U) : VR t d J M (fun j m => bi (tru U j m)) := VR_congr h (fun j hj m hm => tru_bi h hj hm)
/-- the first set of a job with which the others can be completed -/
theorem mr_good {U : Nat → Nat → Int} (hJ5 : J ≤ 5) (h : VR t d J M U) {j : Nat} (hj : j < J) : bec t d M j (cod (tru U j) M) (cdl (cnt (tru U) j) M) = (cdl (cnt (tru U) (j + 1)) M : Nat) ∧ gof t d J M (J - (j + 1)) (cdl (cnt (tru U) (j + 1)) M) = true := by
  obtain ⟨h1, h2⟩ := vr_to (tru_vr h)
  refine ⟨bec_ok (by omega) (fun m hm => cod_bt hm) (h1 j hj), ?_⟩
  have := gof_c hJ5 h1 h2 (J - (j + 1)) (by omega)
  rw [show J - (J - (j + 1)) = j + 1 by omega] at this
  exact this
theorem mr_first {U : Nat → Nat → Int} (hJ5 : J ≤ 5) (h : RDG t d J M U) {j s : Nat} (hj : j < J) (hs : s < cod (tru U j) M) (h3 : bec t d M j s (cdl (cnt (tru U) j) M) ≠ -1) (h4 : gof t d J M (J - (j + 1)) (bec t d M j s (cdl (cnt (tru U) j) M)).toNat = true) : False := by
  obtain ⟨h1, h2⟩ := vr_to (tru_vr h.1)
  have hcu : ∀ m, cnt (upg (tru U) j (bt M s)) j m = cnt (tru U) j m := fun m => cnt_congr (fun i hi => by rw [upg_n (by omega)])
  have hce : cdl (cnt (tru U) j) M = cdl (cnt (upg (tru U) j (bt M s)) j) M := cdl_congr (fun m hm => (hcu m).symm)
  rw [hce] at h3 h4
  obtain ⟨e1, e2⟩ := bec_inv (u := upg (tru U) j (bt M s)) (by omega) (fun m hm => by rw [upg_s]) h3
  rw [e1, Int.toNat_natCast] at h4
  obtain ⟨w, w1, w2, w3⟩ := gof_s hJ5 (J - (j + 1)) (by omega) (upg (tru U) j (bt M s)) (by rw [show J - (J - (j + 1)) = j + 1 by omega]; exact h4)
  rw [show J - (J - (j + 1)) = j + 1 by omega] at w1 w2
  have hv : VR t d J M (fun j m => bi (w j m)) := by
    refine vr_of (fun x hx => ?_) w3
    by_cases c1 : x < j
    · have e3 := w1 x (by omega)
      rw [upg_n (by omega)] at e3
      unfold ROK
      rw [e3]
      exact h1 x hx
    · by_cases c2 : x = j
      · have e3 := w1 x (by omega)
        unfold ROK
        rw [e3, c2]
        exact e2
      · exact w2 x (by omega) hx
  obtain ⟨m, m1, m2, m3, m4⟩ := cod_first hs
  have h9 := h.2 j hj m m1 _ hv (fun j2 hj2 m5 hm5 hb => by
    rw [w1 j2 (by omega)]
    by_cases c1 : j2 = j
    · subst c1
      rw [upg_s, m2 m5 (by omega)]
      exact tru_bi h.1 hj2 hm5
    · rw [upg_n c1]
      exact tru_bi h.1 hj2 hm5)
  rw [w1 j (by omega), upg_s, m3] at h9
  have h10 := tru_bi h.1 hj m1
  rw [m4] at h10
  rw [← h10] at h9
  exact absurd h9 (by decide)
end MRN
