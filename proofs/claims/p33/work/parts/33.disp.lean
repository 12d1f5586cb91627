/-! dispatching, apart from the machine: s = (begins, when jobs are free, when machines are free) -/
abbrev DS := (Nat → Int) × (Nat → Int) × (Nat → Int)
def dwt (t b : Nat → Int) (k : Nat) : Int := if b k = -1 then t k else 0
def dwg (t b : Nat → Int) (al : Bool) (j m : Nat) : Int := if al then dwt t b (5 * j + (1 - m)) else 0
def dcho (t : Nat → Int) (m : Nat) (now : Int) (al : Bool) (s : DS) : Nat → Int × Int
  | 0 => (-1, -1)
  | n + 1 => if s.2.1 n ≤ now ∧ dwt t s.1 (5 * n + m) ≠ 0 ∧ (dcho t m now al s n).2 < dwg t s.1 al n m then ((n : Int), dwg t s.1 al n m) else dcho t m now al s n
def dbeg (t : Nat → Int) (m : Nat) (now : Int) (c : Int) (s : DS) : DS := if c = -1 then s else (uq s.1 (5 * c.toNat + m) now, uq s.2.1 c.toNat (now + t (5 * c.toNat + m)), uq s.2.2 m (now + t (5 * c.toNat + m)))
def dstp (t : Nat → Int) (J : Nat) (al : Bool) (now : Int) (m : Nat) (s : DS) : DS := if s.2.2 m ≤ now then dbeg t m now (dcho t m now al s J).1 s else s
def drnd (t : Nat → Int) (J : Nat) (al : Bool) (now : Int) (s : DS) : Nat → DS
  | 0 => s
  | n + 1 => dstp t J al now n (drnd t J al now s n)
/-- the next end among the first machines -/
def dnx (mf : Nat → Int) (now : Int) : Nat → Int
  | 0 => -1
  | n + 1 => if now < mf n ∧ (dnx mf now n = -1 ∨ mf n < dnx mf now n) then mf n else dnx mf now n
def dclo (t : Nat → Int) (J M : Nat) (al : Bool) : Nat → Int → DS → DS
  | 0, _, s => s
  | f + 1, now, s => if now = -1 then s else dclo t J M al f (dnx (drnd t J al now s M).2.2 now 5) (drnd t J al now s M)
def ncnt (p : Nat → Bool) : Nat → Nat
  | 0 => 0
  | n + 1 => ncnt p n + (p n).toNat
theorem ncnt_congr {p r : Nat → Bool} : ∀ {n : Nat}, (∀ i, i < n → p i = r i) → ncnt p n = ncnt r n
  | 0, _ => rfl
  | n + 1, h => by
    simp only [ncnt]
    rw [ncnt_congr (fun i hi => h i (by omega)), h n (by omega)]
theorem ncnt_le {p : Nat → Bool} : ∀ {n : Nat}, ncnt p n ≤ n
  | 0 => Nat.le_refl _
  | n + 1 => by
    have h1 := ncnt_le (p := p) (n := n)
    have h2 : (p n).toNat ≤ 1 := Bool.toNat_le (p n)
    simp only [ncnt]
    omega
theorem ncnt_mono {p r : Nat → Bool} : ∀ {n : Nat}, (∀ i, i < n → p i = true → r i = true) → ncnt p n ≤ ncnt r n
  | 0, _ => Nat.le_refl _
  | n + 1, h => by
    have h1 := ncnt_mono (p := p) (r := r) (n := n) (fun i hi => h i (by omega))
    have h2 := h n (by omega)
    simp only [ncnt]
    cases hp : p n
    · simp only [Bool.toNat_false]; omega
    · rw [h2 hp]; omega
theorem ncnt_one {p r : Nat → Bool} {k : Nat} (hpk : p k = false) (hrk : r k = true) : ∀ {n : Nat}, k < n → (∀ i, i < n → i ≠ k → p i = r i) → ncnt p n + 1 = ncnt r n
  | 0, hk, _ => absurd hk (Nat.not_lt_zero k)
  | n + 1, hk, h => by
    simp only [ncnt]
    by_cases hkn : k = n
    · subst hkn
      rw [hpk, hrk, ncnt_congr (fun i hi => h i (by omega) (by omega))]
      simp
    · have h1 := ncnt_one hpk hrk (n := n) (by omega) (fun i hi => h i (by omega))
      rw [h n (by omega) (by omega)]
      omega
theorem ncnt_lt {p r : Nat → Bool} {k : Nat} (hpk : p k = false) (hrk : r k = true) {n : Nat} (hk : k < n) (h : ∀ i, i < n → p i = true → r i = true) : ncnt p n + 1 ≤ ncnt r n := by
  have h1 := @ncnt_one p (fun i => if i = k then true else p i) k hpk (by simp) n hk (fun i _ hik => by simp [hik])
  have h2 := @ncnt_mono (fun i => if i = k then true else p i) r n (fun i hi hp => by
    by_cases hik : i = k
    · subst hik; exact hrk
    · simp only [if_neg hik] at hp; exact h i hi hp)
  omega
theorem ncnt_pos {p : Nat → Bool} {k : Nat} (hp : p k = true) {n : Nat} (hk : k < n) : 1 ≤ ncnt p n := by
  have h1 := @ncnt_lt (fun _ => false) p k rfl hp n hk (fun i _ hp => by cases hp)
  omega
theorem ncnt_zero {p : Nat → Bool} : ∀ {n : Nat}, ncnt p n = 0 → ∀ i, i < n → p i = false
  | 0, _, i, hi => absurd hi (Nat.not_lt_zero i)
  | n + 1, h, i, hi => by
    simp only [ncnt] at h
    by_cases hin : i = n
    · subst hin
      cases hp : p i
      · rfl
      · rw [hp] at h; simp at h
    · exact ncnt_zero (n := n) (by omega) i (by omega)
/-- an operation that still waits -/
def dwa (t : Nat → Int) (J M : Nat) (b : Nat → Int) (k : Nat) : Bool := decide (k / 5 < J) && (decide (k % 5 < M) && (decide (0 < t k) && decide (b k = -1)))
def dlc (t : Nat → Int) (J M : Nat) (b : Nat → Int) : Nat := ncnt (dwa t J M b) 25
def dac (now : Int) (mf : Nat → Int) : Nat := ncnt (fun m => decide (now < mf m)) 5
theorem dwa_iff {t : Nat → Int} {J M : Nat} {b : Nat → Int} {k : Nat} : dwa t J M b k = true ↔ k / 5 < J ∧ k % 5 < M ∧ 0 < t k ∧ b k = -1 := by
  unfold dwa
  simp only [Bool.and_eq_true, decide_eq_true_eq]
section DISP
variable {t : Nat → Int} {J M : Nat} {al : Bool} {now : Int} {s : DS} {m n : Nat}
theorem dwt_bd (ht : TOK t) {b : Nat → Int} {k : Nat} (hk : k < 25) : 0 ≤ dwt t b k ∧ dwt t b k ≤ 99 := by
  have h1 := ht k hk
  unfold dwt
  split <;> omega
theorem dwg_bd (ht : TOK t) {b : Nat → Int} {j : Nat} (hj : j < 5) : 0 ≤ dwg t b al j m ∧ dwg t b al j m ≤ 99 := by
  unfold dwg
  cases al
  · simp
  · exact dwt_bd ht (by omega)
theorem dcho_is (ht : TOK t) : ∀ {n : Nat}, n ≤ 5 → -1 ≤ (dcho t m now al s n).2 ∧ (dcho t m now al s n).2 ≤ 99 ∧ (((dcho t m now al s n).1 = -1 ∧ (dcho t m now al s n).2 = -1 ∧ ∀ j, j < n → s.2.1 j ≤ now → dwt t s.1 (5 * j + m) = 0) ∨ ∃ c : Nat, (dcho t m now al s n).1 = c ∧ c < n ∧ s.2.1 c ≤ now ∧ dwt t s.1 (5 * c + m) ≠ 0)
  | 0, _ => ⟨(by decide : (-1 : Int) ≤ -1), (by decide : (-1 : Int) ≤ 99), Or.inl ⟨rfl, rfl, fun j hj => absurd hj (Nat.not_lt_zero j)⟩⟩
  | n + 1, hn => by
    obtain ⟨h1, h1b, h2⟩ := dcho_is ht (n := n) (by omega)
    have h3 := @dwg_bd t al m ht s.1 n (by omega)
    simp only [dcho]
    by_cases hc : s.2.1 n ≤ now ∧ dwt t s.1 (5 * n + m) ≠ 0 ∧ (dcho t m now al s n).2 < dwg t s.1 al n m
    · rw [if_pos hc]
      exact ⟨by simp only []; omega, by simp only []; omega, Or.inr ⟨n, rfl, by omega, hc.1, hc.2.1⟩⟩
    · rw [if_neg hc]
      refine ⟨h1, h1b, ?_⟩
      rcases h2 with ⟨g1, g2, g3⟩ | ⟨c, g1, g2, g3⟩
      · refine Or.inl ⟨g1, g2, fun j hj hf => ?_⟩
        by_cases hjn : j = n
        · subst hjn
          by_cases hw : dwt t s.1 (5 * j + m) = 0
          · exact hw
          · exact absurd ⟨hf, hw, by omega⟩ hc
        · exact g3 j (by omega) hf
      · exact Or.inr ⟨c, g1, by omega, g3⟩
/-- what holds between the steps -/
abbrev DI (t : Nat → Int) (J M : Nat) (now : Int) (n : Nat) (s : DS) : Prop := (∀ j, j < J → ∀ m, m < n → s.2.2 m ≤ now → s.2.1 j ≤ now → dwt t s.1 (5 * j + m) = 0) ∧ (∀ j, j < J → now < s.2.1 j → ∃ m, m < M ∧ s.2.2 m = s.2.1 j) ∧ (∀ m, 0 ≤ s.2.2 m ∧ s.2.2 m ≤ now + 99) ∧ (∀ m, M ≤ m → s.2.2 m = 0)
theorem dstp_ok (ht : TOK t) (hJ5 : J ≤ 5) (hM5 : M ≤ 5) (h0 : 0 ≤ now) (hn : n < M) (hi : DI t J M now n s) : DI t J M now (n + 1) (dstp t J al now n s) ∧ dlc t J M (dstp t J al now n s).1 + dac now (dstp t J al now n s).2.2 = dlc t J M s.1 + dac now s.2.2 := by
  unfold dstp
  by_cases hf : s.2.2 n ≤ now
  · rw [if_pos hf]
    obtain ⟨-, -, h2⟩ := @dcho_is t al now s n ht J hJ5
    rcases h2 with ⟨g1, -, g3⟩ | ⟨c, g1, g2, g3, g4⟩
    · rw [g1]
      unfold dbeg
      rw [if_pos rfl]
      refine ⟨⟨fun j hj m hm hmf hjf => ?_, hi.2.1, hi.2.2.1, hi.2.2.2⟩, rfl⟩
      by_cases hmn : m = n
      · subst hmn; exact g3 j hj hjf
      · exact hi.1 j hj m (by omega) hmf hjf
    · rw [g1]
      unfold dbeg
      rw [if_neg (by omega)]
      simp only [Int.toNat_natCast]
      have hk : 5 * c + n < 25 := by omega
      have ht9 := ht _ hk
      have hb : s.1 (5 * c + n) = -1 ∧ 0 < t (5 * c + n) := by
        unfold dwt at g4
        by_cases hb : s.1 (5 * c + n) = -1
        · rw [if_pos hb] at g4; exact ⟨hb, by omega⟩
        · rw [if_neg hb] at g4; exact absurd rfl g4
      refine ⟨⟨fun j hj m hm hmf hjf => ?_, fun j hj hjf => ?_, fun m => ?_, fun m hm => ?_⟩, ?_⟩
      · simp only [] at hmf hjf ⊢
        have hmn : m ≠ n := by
          intro hmn; subst hmn; rw [uq_s] at hmf; omega
        have hjc : j ≠ c := by
          intro hjc; subst hjc; rw [uq_s] at hjf; omega
        rw [uq_n hmn] at hmf
        rw [uq_n hjc] at hjf
        have h9 := hi.1 j hj m (by omega) hmf hjf
        unfold dwt at h9 ⊢
        rw [uq_n (by omega)]
        exact h9
      · simp only [] at hjf ⊢
        by_cases hjc : j = c
        · subst hjc
          exact ⟨n, hn, by rw [uq_s, uq_s]⟩
        · rw [uq_n hjc] at hjf ⊢
          obtain ⟨m, hm, hm2⟩ := hi.2.1 j hj hjf
          refine ⟨m, hm, ?_⟩
          rw [uq_n (by intro hmn; subst hmn; omega)]
          exact hm2
      · simp only []
        by_cases hmn : m = n
        · subst hmn; rw [uq_s]; omega
        · rw [uq_n hmn]; exact hi.2.2.1 m
      · show uq s.2.2 n (now + t (5 * c + n)) m = 0
        rw [uq_n (by omega)]
        exact hi.2.2.2 m hm
      · have e1 : dlc t J M (uq s.1 (5 * c + n) now) + 1 = dlc t J M s.1 := by
          unfold dlc
          refine ncnt_one (k := 5 * c + n) ?_ ?_ hk (fun i hi9 hik => ?_)
          · cases h9 : dwa t J M (uq s.1 (5 * c + n) now) (5 * c + n)
            · rfl
            · have := (dwa_iff.mp h9).2.2.2
              rw [uq_s] at this
              omega
          · exact dwa_iff.mpr ⟨by omega, by omega, hb.2, hb.1⟩
          · unfold dwa
            rw [uq_n hik]
        have e2 : dac now s.2.2 + 1 = dac now (uq s.2.2 n (now + t (5 * c + n))) := by
          unfold dac
          refine ncnt_one (k := n) ?_ ?_ (by omega) (fun i hi9 hik => ?_)
          · exact decide_eq_false (by omega)
          · exact decide_eq_true (by rw [uq_s]; omega)
          · rw [uq_n hik]
        omega
  · rw [if_neg hf]
    refine ⟨⟨fun j hj m hm hmf hjf => ?_, hi.2.1, hi.2.2.1, hi.2.2.2⟩, rfl⟩
    by_cases hmn : m = n
    · subst hmn; exact absurd hmf hf
    · exact hi.1 j hj m (by omega) hmf hjf
theorem drnd_ok (ht : TOK t) (hJ5 : J ≤ 5) (hM5 : M ≤ 5) (h0 : 0 ≤ now) (hi : DI t J M now 0 s) : ∀ {n : Nat}, n ≤ M → DI t J M now n (drnd t J al now s n) ∧ dlc t J M (drnd t J al now s n).1 + dac now (drnd t J al now s n).2.2 = dlc t J M s.1 + dac now s.2.2
  | 0, _ => ⟨hi, rfl⟩
  | n + 1, hn => by
    obtain ⟨h1, h2⟩ := drnd_ok ht hJ5 hM5 h0 hi (n := n) (by omega)
    obtain ⟨h3, h4⟩ := dstp_ok (al := al) ht hJ5 hM5 h0 (by omega) h1
    exact ⟨h3, h4.trans h2⟩
/-- no operation can begin: a round changes nothing -/
theorem drnd_no (ht : TOK t) (hJ5 : J ≤ 5) (hs : ∀ j, j < J → ∀ m, m < M → s.2.2 m ≤ now → s.2.1 j ≤ now → dwt t s.1 (5 * j + m) = 0) : ∀ {n : Nat}, n ≤ M → drnd t J al now s n = s
  | 0, _ => rfl
  | n + 1, hn => by
    simp only [drnd]
    rw [drnd_no ht hJ5 hs (n := n) (by omega)]
    unfold dstp
    split
    · rename_i hf
      obtain ⟨-, -, h2⟩ := @dcho_is t al now s n ht J hJ5
      rcases h2 with ⟨g1, -⟩ | ⟨c, g1, g2, g3, g4⟩
      · rw [g1]; unfold dbeg; rw [if_pos rfl]
      · exact absurd (hs c g2 n (by omega) hf g3) g4
    · rfl
theorem dlc_0 (ht : TOK t) (hJ5 : J ≤ 5) (hM5 : M ≤ 5) {b : Nat → Int} (h : dlc t J M b = 0) : ∀ j, j < J → ∀ m, m < M → dwt t b (5 * j + m) = 0 := by
  intro j hj m hm
  have h1 := ncnt_zero h (5 * j + m) (by omega)
  have h2 := ht (5 * j + m) (by omega)
  unfold dwt
  split
  · rename_i hb
    by_cases h3 : 0 < t (5 * j + m)
    · have := dwa_iff (J := J) (M := M).mpr ⟨by omega, by omega, h3, hb⟩
      rw [this] at h1; cases h1
    · omega
  · rfl
theorem dclo_0 (ht : TOK t) (hJ5 : J ≤ 5) (hM5 : M ≤ 5) (h : dlc t J M s.1 = 0) : ∀ {f : Nat} {now : Int}, dclo t J M al f now s = s
  | 0, _ => rfl
  | f + 1, now => by
    simp only [dclo]
    split
    · rfl
    · rw [drnd_no ht hJ5 (fun j hj m hm _ _ => dlc_0 ht hJ5 hM5 h j hj m hm) (Nat.le_refl M)]
      exact dclo_0 ht hJ5 hM5 h
theorem dnx_is {mf : Nat → Int} (h0 : 0 ≤ now) : ∀ {n : Nat}, (dnx mf now n = -1 ∧ ∀ m, m < n → mf m ≤ now) ∨ (now < dnx mf now n ∧ (∃ m, m < n ∧ mf m = dnx mf now n) ∧ ∀ m, m < n → now < mf m → dnx mf now n ≤ mf m)
  | 0 => Or.inl ⟨rfl, fun m hm => absurd hm (Nat.not_lt_zero m)⟩
  | n + 1 => by
    have h1 := dnx_is (mf := mf) h0 (n := n)
    simp only [dnx]
    by_cases hc : now < mf n ∧ (dnx mf now n = -1 ∨ mf n < dnx mf now n)
    · rw [if_pos hc]
      refine Or.inr ⟨hc.1, ⟨n, by omega, rfl⟩, fun m hm hmf => ?_⟩
      by_cases hmn : m = n
      · subst hmn; exact Int.le_refl _
      · rcases h1 with ⟨g1, g2⟩ | ⟨g1, g2, g3⟩
        · have := g2 m (by omega); omega
        · have := g3 m (by omega) hmf; omega
    · rw [if_neg hc]
      rcases h1 with ⟨g1, g2⟩ | ⟨g1, ⟨m9, g2, g2b⟩, g3⟩
      · refine Or.inl ⟨g1, fun m hm => ?_⟩
        by_cases hmn : m = n
        · subst hmn; omega
        · exact g2 m (by omega)
      · refine Or.inr ⟨g1, ⟨m9, by omega, g2b⟩, fun m hm hmf => ?_⟩
        by_cases hmn : m = n
        · subst hmn; omega
        · exact g3 m (by omega) hmf
/-- a machine is at work while an operation waits -/
theorem dbusy (hi : DI t J M now M s) (ht : TOK t) (hJ5 : J ≤ 5) (hM5 : M ≤ 5) (hl : 0 < dlc t J M s.1) : ∃ m, m < M ∧ now < s.2.2 m := by
  apply Classical.byContradiction
  intro hno
  have hmf : ∀ m, m < M → s.2.2 m ≤ now := fun m hm => by
    apply Classical.byContradiction
    intro h9
    exact hno ⟨m, hm, by omega⟩
  have hjf : ∀ j, j < J → s.2.1 j ≤ now := fun j hj => by
    apply Classical.byContradiction
    intro h9
    obtain ⟨m, hm, h8⟩ := hi.2.1 j hj (by omega)
    have := hmf m hm
    omega
  have h0 : dlc t J M s.1 = 0 := by
    have h7 : ∀ n, n ≤ 25 → ncnt (dwa t J M s.1) n = 0 := by
      intro n
      induction n with
      | zero => intro _; rfl
      | succ n ih =>
        intro hn
        simp only [ncnt]
        rw [ih (by omega)]
        cases hp : dwa t J M s.1 n
        · rfl
        · obtain ⟨p1, p2, p3, p4⟩ := dwa_iff.mp hp
          have h6 := hi.1 (n / 5) p1 (n % 5) p2 (hmf _ p2) (hjf _ p1)
          rw [show 5 * (n / 5) + n % 5 = n by omega] at h6
          unfold dwt at h6
          rw [if_pos p4] at h6
          omega
    exact h7 25 (Nat.le_refl _)
  omega
/-- between two ends nothing changes -/
theorem dsat_up (hi : DI t J M now M s) {u e : Int} (hu : now ≤ u) (he : u < e) (hnx : ∀ m, m < M → now < s.2.2 m → e ≤ s.2.2 m) : ∀ j, j < J → ∀ m, m < M → s.2.2 m ≤ u → s.2.1 j ≤ u → dwt t s.1 (5 * j + m) = 0 := by
  intro j hj m hm hmf hjf
  refine hi.1 j hj m hm ?_ ?_
  · apply Classical.byContradiction
    intro h9
    have := hnx m hm (by omega)
    omega
  · apply Classical.byContradiction
    intro h9
    obtain ⟨m8, hm8, h8⟩ := hi.2.1 j hj (by omega)
    have := hnx m8 hm8 (by omega)
    omega
theorem DI_up (hi : DI t J M now M s) {e : Int} (he : now < e) : DI t J M e 0 s := ⟨fun _ _ m hm => absurd hm (Nat.not_lt_zero m), fun j hj hf => hi.2.1 j hj (by omega), fun m => ⟨(hi.2.2.1 m).1, by have := (hi.2.2.1 m).2; omega⟩, hi.2.2.2⟩
theorem dac_up {mf : Nat → Int} {e : Int} (he : now < e) {m9 : Nat} (h9 : m9 < 5) (hm : mf m9 = e) : dac e mf + 1 ≤ dac now mf := by
  unfold dac
  refine ncnt_lt (k := m9) (decide_eq_false (by omega)) (decide_eq_true (by omega)) h9 (fun i hi hp => ?_)
  have := of_decide_eq_true hp
  exact decide_eq_true (by omega)
end DISP
