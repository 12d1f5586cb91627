/-! rules for runs of the small machine -/
theorem ax_up : ∀ {n k pc : Nat} {L : AL} {st : List AV} {h : AH} {r : AR}, ax n k pc L st h = some r → ax (n + 1) k pc L st h = some r
  | 0, _, _, _, _, _, _, e9 => by cases e9
  | n + 1, k, pc, L, st, h, r, e9 => by
    unfold ax at e9 ⊢
    simp only [] at e9 ⊢
    split at e9
    · cases e9
    · rename_i i9 hi9
      split at e9
      · split at e9
        · rename_i hc9
          rw [if_pos hc9]
          split at e9
          · cases e9
          · rename_i u9
            rw [ax_up u9]
            exact ax_up e9
          · rename_i u9
            rw [ax_up u9]
            exact ax_up e9
          · rename_i u9
            rw [ax_up u9]
            (try simp only [])
            split at e9
            · exact e9
            · (try simp only [])
              split at e9
              · rename_i hi8
                split at e9
                · rename_i hok9
                  rw [if_pos hok9]
                  exact ax_up e9
                · cases e9
              · cases e9
        · cases e9
      · exact e9
      · exact e9
      · exact e9
      · exact e9
      · exact e9
      · split at e9
        · cases e9
        · exact ax_up e9
theorem ax_ups {n k pc : Nat} {L : AL} {st : List AV} {h : AH} {r : AR} (m9 : Nat) (e9 : ax n k pc L st h = some r) : ax (n + m9) k pc L st h = some r := by
  induction m9 with
  | zero => exact e9
  | succ m9 ih => exact ax_up ih
/-- from here the small machine comes to an end that is as Q says -/
def Wp (k pc : Nat) (L : AL) (st : List AV) (h : AH) (Q : AR → Prop) : Prop := ∃ (n : Nat) (r : AR), ax n k pc L st h = some r ∧ Q r
/-- method k, called with args, comes to an end that is as Q says -/
def Ew (k : Nat) (args : List AV) (h : AH) (Q : AR → Prop) : Prop := rck k args h = true ∧ Wp k 0 (lcs k args) [] h Q
theorem Ew_iff {k : Nat} {args : List AV} {h : AH} {r0 : AR} (h0 : Ew k args h (fun r => r = r0)) {Q : AR → Prop} : Ew k args h Q ↔ Q r0 := by
  obtain ⟨hr, n0, r, e0, rfl⟩ := h0
  constructor
  · rintro ⟨-, n, r2, e9, hQ⟩
    have a1 := ax_ups n e0
    have a2 := ax_ups n0 e9
    rw [Nat.add_comm] at a2
    cases Option.some.inj (a1.symm.trans a2)
    exact hQ
  · intro hQ
    exact ⟨hr, n0, r, e0, hQ⟩
theorem Ew_mono {k : Nat} {args : List AV} {h : AH} {Q1 Q2 : AR → Prop} (hQ : ∀ r, Q1 r → Q2 r) (h0 : Ew k args h Q1) : Ew k args h Q2 := by
  obtain ⟨hr, n0, r, e0, h1⟩ := h0
  exact ⟨hr, n0, r, e0, hQ r h1⟩
theorem Wp_mono {k pc : Nat} {L : AL} {st : List AV} {h : AH} {Q1 Q2 : AR → Prop} (hQ : ∀ r, Q1 r → Q2 r) (h0 : Wp k pc L st h Q1) : Wp k pc L st h Q2 := by
  obtain ⟨n0, r, e0, h1⟩ := h0
  exact ⟨n0, r, e0, hQ r h1⟩
theorem ax_plain {n k pc : Nat} {i : AI} {L : AL} {st : List AV} {h : AH} (hi : ins k pc = some i) (hop : Nat.blt i.1 60 = true) : ax (n + 1) k pc L st h = match sx i L st h with | none => none | some q => ax n k q.1 q.2.1 q.2.2.1 q.2.2.2 := by
  have hop2 : i.1 < 60 := by simpa using hop
  rw [show ax (n + 1) k pc L st h = (match ins k pc with
    | none => none
    | some i => _) from by unfold ax; rfl]
  rw [hi]
  simp only []
  split <;> first | (exfalso; omega) | rfl
theorem R_sx {k pc : Nat} {i : AI} {L : AL} {st : List AV} {h : AH} {r : AR → Prop} (hi : ins k pc = some i) (hop : Nat.blt i.1 60 = true) : Wp k pc L st h r ↔ ∃ q, sx i L st h = some q ∧ Wp k q.1 q.2.1 q.2.2.1 q.2.2.2 r := by
  constructor
  · rintro ⟨n, r9, e9, hr9⟩
    cases n with
    | zero => cases e9
    | succ n =>
      rw [ax_plain hi hop] at e9
      split at e9
      · cases e9
      · rename_i q9 hq9
        exact ⟨q9, hq9, n, r9, e9, hr9⟩
  · rintro ⟨q9, hq9, n, r9, e9, hr9⟩
    refine ⟨n + 1, r9, ?_, hr9⟩
    rw [ax_plain hi hop, hq9]
    exact e9
theorem R_one {k pc : Nat} {i : AI} {L : AL} {st : List AV} {h : AH} {r : AR → Prop} {q : Nat × AL × List AV × AH} (hi : ins k pc = some i) (hop : Nat.blt i.1 60 = true) (hs : sx i L st h = some q) : Wp k pc L st h r ↔ Wp k q.1 q.2.1 q.2.2.1 q.2.2.2 r := by
  rw [R_sx hi hop, hs]
  constructor
  · rintro ⟨q9, h1, h2⟩
    cases h1
    exact h2
  · intro h2
    exact ⟨q, rfl, h2⟩
theorem R_if {k pc : Nat} {i : AI} {L : AL} {st : List AV} {h : AH} {r : AR → Prop} {q : Nat × AL × List AV × AH} {C : Prop} {dC : Decidable C} (hi : ins k pc = some i) (hop : Nat.blt i.1 60 = true) (hs : sx i L st h = @ite _ C dC (some q) none) : Wp k pc L st h r ↔ C ∧ Wp k q.1 q.2.1 q.2.2.1 q.2.2.2 r := by
  rw [R_sx hi hop, hs]
  constructor
  · rintro ⟨q9, h1, h2⟩
    split at h1
    · rename_i hC
      cases h1
      exact ⟨hC, h2⟩
    · cases h1
  · rintro ⟨hC, h2⟩
    exact ⟨q, if_pos hC, h2⟩
/-- a store there breaks nothing -/
def okv (x : Option AV) : Bool := okst [x] 1
theorem okv_n : okv none = true := rfl
theorem okv_i {z : Int} : okv (some (.inl z)) = true := rfl
theorem okv_r {q : Option (Option Nat)} : okv (some (.inr (.inr (.inr q)))) = true := rfl
/-- how deep the stack is -/
def dp (st : List AV) : Bool := Nat.ble st.length 4
theorem dp_0 : dp [] = true := rfl
theorem dp_1 {a : AV} : dp [a] = true := rfl
theorem dp_2 {a b : AV} : dp [a, b] = true := rfl
theorem dp_3 {a b c : AV} : dp [a, b, c] = true := rfl
theorem dp_4 {a b c d : AV} : dp [a, b, c, d] = true := rfl
/-- behind a call, in a method without handlers -/
def Cn (k nx : Nat) (L : AL) (st : List AV) (x : AR) (r : AR → Prop) : Prop := match x with
  | (.inl none, h1) => Wp k nx L st h1 r
  | (.inl (some v), h1) => Wp k nx L (v :: st) h1 r
  | (.inr E, h1) => r (.inr E, h1)
theorem Cn_n {k nx : Nat} {L : AL} {st : List AV} {h1 : AH} {r : AR → Prop} : Cn k nx L st (.inl none, h1) r ↔ Wp k nx L st h1 r := Iff.rfl
theorem Cn_v {k nx : Nat} {L : AL} {st : List AV} {v : AV} {h1 : AH} {r : AR → Prop} : Cn k nx L st (.inl (some v), h1) r ↔ Wp k nx L (v :: st) h1 r := Iff.rfl
theorem Cn_x {k nx E : Nat} {L : AL} {st : List AV} {h1 : AH} {r : AR → Prop} : Cn k nx L st (.inr E, h1) r ↔ r (.inr E, h1) := Iff.rfl
theorem ax_call {n k pc nx a ix : Nat} {bb : Int} {L : AL} {st : List AV} {h : AH} (hi : ins k pc = some (60, nx, a, bb, ix)) : ax (n + 1) k pc L st h = if ((st.take bb.toNat).reverse).length = bb.toNat ∧ (st.drop bb.toNat).length ≤ 4 ∧ rck a (st.take bb.toNat).reverse h = true then (match ax n a 0 (lcs a (st.take bb.toNat).reverse) [] h with
          | none => none
          | some (.inl none, h1) => ax n k nx L (st.drop bb.toNat) h1
          | some (.inl (some v), h1) => ax n k nx L (v :: st.drop bb.toNat) h1
          | some (.inr E, h1) => match hnd k pc E with
            | none => some (.inr E, h1)
            | some q => match ins k q.2.2.1 with
              | some (4, nx, a, _, _) => if a < L.length ∧ okst L a = true then ax n k nx (L.set a none) [] h1 else none
              | _ => none)
        else none := by
  rw [show ax (n + 1) k pc L st h = (match ins k pc with
    | none => none
    | some i => _) from by unfold ax; rfl]
  rw [hi]
  rfl
theorem R_call {k pc nx a ix : Nat} {bb : Int} {L : AL} {av st0 st : List AV} {h : AH} {r : AR → Prop} (hi : ins k pc = some (60, nx, a, bb, ix)) (hh : hhT k = []) (hst : st0 = av.reverse ++ st) (hb : bb.toNat = av.length) : Wp k pc L st0 h r ↔ dp st = true ∧ Ew a av h (fun x => Cn k nx L st x r) := by
  have e1 : (st0.take bb.toNat).reverse = av := by
    rw [hst, hb, ← List.length_reverse, List.take_left', List.reverse_reverse]
    simp
  have e2 : st0.drop bb.toNat = st := by
    rw [hst, hb, ← List.length_reverse, List.drop_left']
    simp
  have e3 : ∀ E, hnd k pc E = none := by
    intro E
    unfold hnd
    rw [hh]
    rfl
  have e4 : dp st = true ↔ st.length ≤ 4 := by unfold dp; simp
  constructor
  · rintro ⟨n, r9, e9, hr9⟩
    cases n with
    | zero => cases e9
    | succ n =>
      rw [ax_call hi, e1, e2] at e9
      split at e9
      · rename_i hc9
        obtain ⟨c1, c2, c3⟩ := hc9
        refine ⟨e4.mpr c2, c3, ?_⟩
        split at e9
        · cases e9
        · rename_i h1 u9
          exact ⟨n, _, u9, n, r9, e9, hr9⟩
        · rename_i v1 h1 u9
          exact ⟨n, _, u9, n, r9, e9, hr9⟩
        · rename_i E1 h1 u9
          rw [e3] at e9
          cases e9
          exact ⟨n, _, u9, hr9⟩
      · cases e9
  · rintro ⟨hd, c3, n1, ⟨res, h1⟩, u9, hk⟩
    have hc : av.length = bb.toNat ∧ st.length ≤ 4 ∧ rck a av h = true := ⟨hb.symm, e4.mp hd, c3⟩
    rcases res with (_ | v) | E
    · obtain ⟨n2, r9, e9, hr9⟩ := hk
      refine ⟨n1 + n2 + 1, r9, ?_, hr9⟩
      rw [ax_call hi, e1, e2, if_pos hc, ax_ups n2 u9]
      simp only []
      rw [Nat.add_comm]
      exact ax_ups n1 e9
    · obtain ⟨n2, r9, e9, hr9⟩ := hk
      refine ⟨n1 + n2 + 1, r9, ?_, hr9⟩
      rw [ax_call hi, e1, e2, if_pos hc, ax_ups n2 u9]
      simp only []
      rw [Nat.add_comm]
      exact ax_ups n1 e9
    · refine ⟨n1 + 1, _, ?_, hk⟩
      rw [ax_call hi, e1, e2, if_pos hc, u9]
      simp only []
      rw [e3]
/-- the ends -/
theorem R_end {k pc : Nat} {L : AL} {st : List AV} {h : AH} {r : AR → Prop} {r0 : AR} (hs : ∀ n, ax (n + 1) k pc L st h = some r0) : Wp k pc L st h r ↔ r r0 := by
  constructor
  · rintro ⟨n, r9, e9, hr9⟩
    cases n with
    | zero => cases e9
    | succ n => rw [hs] at e9; cases e9; exact hr9
  · intro h9
    exact ⟨1, r0, hs 0, h9⟩
/-- a counted loop -/
theorem Rn_for (P : Nat → Prop) (n : Nat) (hs : ∀ i, i < n → P (i + 1) → P i) (hl : P n) : P 0 := by
  have key : ∀ m, m ≤ n → P (n - m) := by
    intro m
    induction m with
    | zero => intro _; exact hl
    | succ m ih =>
      intro hm
      refine hs (n - (m + 1)) (by omega) ?_
      rw [show n - (m + 1) + 1 = n - m by omega]
      exact ih (by omega)
  have h9 := key n (Nat.le_refl n)
  rwa [Nat.sub_self] at h9
theorem Rn_for2 (P : Nat → Prop) (a n : Nat) (han : a ≤ n) (hs : ∀ i, a ≤ i → i < n → P (i + 1) → P i) (hl : P n) : P a := by
  have h9 := Rn_for (fun i => P (a + i)) (n - a) (fun i hi z => hs (a + i) (by omega) (by omega) z) (by rw [show a + (n - a) = n by omega]; exact hl)
  exact h9
/-! rules, an operation each -/
section RULES
variable {k pc nx a ix : Nat} {bb : Int} {L : AL} {st : List AV} {h : AH} {r : AR → Prop}
theorem R_st {z : Int} {x : Option AV} (hi : ins k pc = some (3, nx, a, bb, ix)) (ha : Nat.blt a L.length = true) (ho : okst L a = okv x) : Wp k pc L (.inl z :: st) h r ↔ okv x = true ∧ Wp k nx (L.set a (some (.inl z))) st h r := by
  rw [R_if (q := (nx, L.set a (some (.inl z)), st, h)) hi rfl rfl, ho]
  simp only [Nat.blt_eq] at ha
  simp only [ha, true_and]
theorem R_st0 {z : Int} (hi : ins k pc = some (3, nx, 0, bb, ix)) (ha : Nat.blt 0 L.length = true) : Wp k pc L (.inl z :: st) h r ↔ Wp k nx (L.set 0 (some (.inl z))) st h r := by
  rw [R_if (q := (nx, L.set 0 (some (.inl z)), st, h)) hi rfl rfl]
  simp only [Nat.blt_eq] at ha
  simp only [ha, true_and, okst]
theorem R_sta {q : Option Nat} {x : Option AV} (hi : ins k pc = some (4, nx, a, bb, ix)) (ha : Nat.blt a L.length = true) (ho : okst L a = okv x) : Wp k pc L (.inr (.inr (.inr (some q))) :: st) h r ↔ okv x = true ∧ Wp k nx (L.set a (some (.inr (.inr (.inr (some q)))))) st h r := by
  rw [R_if (q := (nx, L.set a (some (.inr (.inr (.inr (some q))))), st, h)) hi rfl rfl, ho]
  simp only [Nat.blt_eq] at ha
  simp only [ha, true_and]
theorem R_std {d : UInt64} {x : Option AV} (hi : ins k pc = some (5, nx, a, bb, ix)) (ha : Nat.blt (a + 1) L.length = true) (ho : okst L a = okv x) : Wp k pc L (.inr (.inr (.inl d)) :: st) h r ↔ okv x = true ∧ Wp k nx ((L.set a (some (.inr (.inr (.inl d))))).set (a + 1) none) st h r := by
  rw [R_if (q := (nx, (L.set a (some (.inr (.inr (.inl d))))).set (a + 1) none, st, h)) hi rfl rfl, ho]
  simp only [Nat.blt_eq] at ha
  simp only [ha, true_and]
theorem R_inc {z : Int} {x : Option AV} (hi : ins k pc = some (19, nx, a, bb, ix)) (hl : L[a]? = some (some (.inl z))) (ho : okst L a = okv x) : Wp k pc L st h r ↔ okv x = true ∧ Wp k nx (L.set a (some (.inl (z + bb)))) st h r := by
  rw [R_if (q := (nx, L.set a (some (.inl (z + bb))), st, h)) (C := okst L a = true) (dC := inferInstance) hi rfl (by simp only [sx, hl]), ho]
theorem R_if1 {x : Int} {C : Prop} {dC : Decidable C} (hi : ins k pc = some (29, nx, a, bb, ix)) (hc : cnd bb x 0 = decide C) : Wp k pc L (.inl x :: st) h r ↔ rg x ∧ (if C then Wp k a L st h r else Wp k nx L st h r) := by
  rw [R_if (q := (if cnd bb x 0 then a else nx, L, st, h)) hi rfl rfl, hc]
  by_cases hC : C <;> simp [hC]
theorem R_if0 {x : Int} {C : Prop} {dC : Decidable C} (hi : ins k pc = some (29, nx, a, bb, ix)) (hc : cnd bb x 0 = !decide C) : Wp k pc L (.inl x :: st) h r ↔ rg x ∧ (if C then Wp k nx L st h r else Wp k a L st h r) := by
  rw [R_if (q := (if cnd bb x 0 then a else nx, L, st, h)) hi rfl rfl, hc]
  by_cases hC : C <;> simp [hC]
theorem R_ic1 {x y : Int} {C : Prop} {dC : Decidable C} (hi : ins k pc = some (30, nx, a, bb, ix)) (hc : cnd bb x y = decide C) : Wp k pc L (.inl y :: .inl x :: st) h r ↔ (rg x ∧ rg y) ∧ (if C then Wp k a L st h r else Wp k nx L st h r) := by
  rw [R_if (q := (if cnd bb x y then a else nx, L, st, h)) hi rfl rfl, hc]
  by_cases hC : C <;> simp [hC]
theorem R_ic0 {x y : Int} {C : Prop} {dC : Decidable C} (hi : ins k pc = some (30, nx, a, bb, ix)) (hc : cnd bb x y = !decide C) : Wp k pc L (.inl y :: .inl x :: st) h r ↔ (rg x ∧ rg y) ∧ (if C then Wp k nx L st h r else Wp k a L st h r) := by
  rw [R_if (q := (if cnd bb x y then a else nx, L, st, h)) hi rfl rfl, hc]
  by_cases hC : C <;> simp [hC]
theorem R_op {i : AI} {α : Type} {o : Option α} {f : α → Nat × AL × List AV × AH} (hi : ins k pc = some i) (hop : Nat.blt i.1 60 = true) (hn : o = none → sx i L st h = none) (hv : ∀ v, o = some v → sx i L st h = some (f v)) : Wp k pc L st h r ↔ ∃ v, o = some v ∧ Wp k (f v).1 (f v).2.1 (f v).2.2.1 (f v).2.2.2 r := by
  rw [R_sx hi hop]
  cases ho : o with
  | none => rw [hn ho]; simp
  | some v => rw [hv v ho]; simp
theorem R_get {q : Nat} (hi : ins k pc = some (31, nx, a, bb, ix)) : Wp k pc L (.inr (.inr (.inr (some (some q)))) :: st) h r ↔ ∃ v, gf h q bb.toNat a = some v ∧ Wp k nx L (v :: st) h r := R_op (f := fun v => (nx, L, v :: st, h)) hi rfl (fun e9 => by simp only [sx, e9]) (fun v e9 => by simp only [sx, e9])
theorem R_puti {q : Nat} {z : Int} (hi : ins k pc = some (32, nx, a, bb, ix)) : Wp k pc L (.inl z :: .inr (.inr (.inr (some (some q)))) :: st) h r ↔ ∃ v, sf h q bb.toNat a (.inl z) = some v ∧ Wp k nx L st v r := R_op (f := fun v => (nx, L, st, v)) hi rfl (fun e9 => by simp only [sx, e9]) (fun v e9 => by simp only [sx, e9])
theorem R_putz {q : Nat} {z : Int} (hi : ins k pc = some (33, nx, a, bb, ix)) : Wp k pc L (.inl z :: .inr (.inr (.inr (some (some q)))) :: st) h r ↔ b01 z ∧ ∃ v, sf h q bb.toNat a (.inl z) = some v ∧ Wp k nx L st v r := by
  by_cases hz : b01 z
  · rw [R_op (f := fun v => (nx, L, st, v)) (o := sf h q bb.toNat a (.inl z)) hi rfl (fun e9 => by simp only [sx, e9]; rw [if_pos hz]) (fun v e9 => by simp only [sx, e9]; rw [if_pos hz])]
    simp only [hz, true_and]
  · rw [R_sx hi rfl]
    have e8 : sx (33, nx, a, bb, ix) L (.inl z :: .inr (.inr (.inr (some (some q)))) :: st) h = none := by
      simp only [sx]
      rw [if_neg hz]
    rw [e8]
    simp [hz]
theorem R_putf {q : Nat} {z : Int} (hi : ins k pc = some (34, nx, a, bb, ix)) : Wp k pc L (.inl z :: .inr (.inr (.inr (some (some q)))) :: st) h r ↔ ∃ v, sf h q bb.toNat a (.inl z) = some v ∧ Wp k nx L st v r := R_op (f := fun v => (nx, L, st, v)) hi rfl (fun e9 => by simp only [sx, e9]) (fun v e9 => by simp only [sx, e9])
theorem R_putr {q q2 : Nat} (hi : ins k pc = some (35, nx, a, bb, ix)) : Wp k pc L (.inr (.inr (.inr (some (some q2)))) :: .inr (.inr (.inr (some (some q)))) :: st) h r ↔ ∃ v, sf h q bb.toNat a (.inr (.inr (.inr (some (some q2))))) = some v ∧ Wp k nx L st v r := R_op (f := fun v => (nx, L, st, v)) hi rfl (fun e9 => by simp only [sx, e9]) (fun v e9 => by simp only [sx, e9])
theorem R_alen {q : Nat} (hi : ins k pc = some (36, nx, a, bb, ix)) : Wp k pc L (.inr (.inr (.inr (some (some q)))) :: st) h r ↔ ∃ l : List Int, ga h q 0 = some l ∧ Wp k nx L (.inl l.length :: st) h r := R_op (f := fun (l : List Int) => (nx, L, .inl l.length :: st, h)) hi rfl (fun e9 => by simp only [sx, e9]) (fun v e9 => by simp only [sx, e9])
theorem R_aldi {q : Nat} {i : Int} (hi : ins k pc = some (37, nx, a, bb, ix)) : Wp k pc L (.inl i :: .inr (.inr (.inr (some (some q)))) :: st) h r ↔ ∃ l : List Int, ga h q 0 = some l ∧ (0 ≤ i ∧ i < l.length ∧ rg i) ∧ Wp k nx L (.inl (l.getD i.toNat 0) :: st) h r := by
  rw [R_sx hi rfl]
  cases hg : ga h q 0 with
  | none => simp [sx, hg]
  | some l =>
    by_cases hC : 0 ≤ i ∧ i < l.length ∧ rg i
    · have e8 : sx (37, nx, a, bb, ix) L (.inl i :: .inr (.inr (.inr (some (some q)))) :: st) h = some (nx, L, .inl (l.getD i.toNat 0) :: st, h) := by
        simp only [sx, hg]
        rw [if_pos hC]
      rw [e8]
      constructor
      · rintro ⟨q9, h9, h8⟩
        cases h9
        exact ⟨l, rfl, hC, h8⟩
      · rintro ⟨l9, h9, -, h8⟩
        cases h9
        exact ⟨_, rfl, h8⟩
    · have e8 : sx (37, nx, a, bb, ix) L (.inl i :: .inr (.inr (.inr (some (some q)))) :: st) h = none := by
        simp only [sx, hg]
        rw [if_neg hC]
      rw [e8]
      constructor
      · rintro ⟨q9, h9, -⟩
        cases h9
      · rintro ⟨l9, h9, h8, -⟩
        cases h9
        exact absurd h8 hC
theorem R_aldz {q : Nat} {i : Int} (hi : ins k pc = some (38, nx, a, bb, ix)) : Wp k pc L (.inl i :: .inr (.inr (.inr (some (some q)))) :: st) h r ↔ ∃ l : List Int, ga h q 1 = some l ∧ (0 ≤ i ∧ i < l.length ∧ rg i) ∧ Wp k nx L (.inl (l.getD i.toNat 0) :: st) h r := by
  rw [R_sx hi rfl]
  cases hg : ga h q 1 with
  | none => simp [sx, hg]
  | some l =>
    by_cases hC : 0 ≤ i ∧ i < l.length ∧ rg i
    · have e8 : sx (38, nx, a, bb, ix) L (.inl i :: .inr (.inr (.inr (some (some q)))) :: st) h = some (nx, L, .inl (l.getD i.toNat 0) :: st, h) := by
        simp only [sx, hg]
        rw [if_pos hC]
      rw [e8]
      constructor
      · rintro ⟨q9, h9, h8⟩
        cases h9
        exact ⟨l, rfl, hC, h8⟩
      · rintro ⟨l9, h9, -, h8⟩
        cases h9
        exact ⟨_, rfl, h8⟩
    · have e8 : sx (38, nx, a, bb, ix) L (.inl i :: .inr (.inr (.inr (some (some q)))) :: st) h = none := by
        simp only [sx, hg]
        rw [if_neg hC]
      rw [e8]
      constructor
      · rintro ⟨q9, h9, -⟩
        cases h9
      · rintro ⟨l9, h9, h8, -⟩
        cases h9
        exact absurd h8 hC
theorem R_aldl {q : Nat} {i : Int} (hi : ins k pc = some (39, nx, a, bb, ix)) : Wp k pc L (.inl i :: .inr (.inr (.inr (some (some q)))) :: st) h r ↔ ∃ l : List Int, ga h q 2 = some l ∧ (0 ≤ i ∧ i < l.length ∧ rg i) ∧ Wp k nx L ((fun z => .inr (.inl z)) (l.getD i.toNat 0) :: st) h r := by
  rw [R_sx hi rfl]
  cases hg : ga h q 2 with
  | none => simp [sx, hg]
  | some l =>
    by_cases hC : 0 ≤ i ∧ i < l.length ∧ rg i
    · have e8 : sx (39, nx, a, bb, ix) L (.inl i :: .inr (.inr (.inr (some (some q)))) :: st) h = some (nx, L, .inr (.inl (l.getD i.toNat 0)) :: st, h) := by
        simp only [sx, hg]
        rw [if_pos hC]
      rw [e8]
      constructor
      · rintro ⟨q9, h9, h8⟩
        cases h9
        exact ⟨l, rfl, hC, h8⟩
      · rintro ⟨l9, h9, -, h8⟩
        cases h9
        exact ⟨_, rfl, h8⟩
    · have e8 : sx (39, nx, a, bb, ix) L (.inl i :: .inr (.inr (.inr (some (some q)))) :: st) h = none := by
        simp only [sx, hg]
        rw [if_neg hC]
      rw [e8]
      constructor
      · rintro ⟨q9, h9, -⟩
        cases h9
      · rintro ⟨l9, h9, h8, -⟩
        cases h9
        exact absurd h8 hC
theorem R_asti {q : Nat} {i x : Int} (hi : ins k pc = some (40, nx, a, bb, ix)) : Wp k pc L (.inl x :: .inl i :: .inr (.inr (.inr (some (some q)))) :: st) h r ↔ ∃ l : List Int, ga h q 0 = some l ∧ (0 ≤ i ∧ i < l.length ∧ rg i) ∧ Wp k nx L st (sa h q 0 (l.set i.toNat x)) r := by
  rw [R_sx hi rfl]
  cases hg : ga h q 0 with
  | none => simp [sx, hg]
  | some l =>
    by_cases hC : 0 ≤ i ∧ i < l.length ∧ rg i
    · have e8 : sx (40, nx, a, bb, ix) L (.inl x :: .inl i :: .inr (.inr (.inr (some (some q)))) :: st) h = some (nx, L, st, sa h q 0 (l.set i.toNat x)) := by
        simp only [sx, hg]
        rw [if_pos hC]
      rw [e8]
      constructor
      · rintro ⟨q9, h9, h8⟩
        cases h9
        exact ⟨l, rfl, hC, h8⟩
      · rintro ⟨l9, h9, -, h8⟩
        cases h9
        exact ⟨_, rfl, h8⟩
    · have e8 : sx (40, nx, a, bb, ix) L (.inl x :: .inl i :: .inr (.inr (.inr (some (some q)))) :: st) h = none := by
        simp only [sx, hg]
        rw [if_neg hC]
      rw [e8]
      constructor
      · rintro ⟨q9, h9, -⟩
        cases h9
      · rintro ⟨l9, h9, h8, -⟩
        cases h9
        exact absurd h8 hC
theorem R_astz {q : Nat} {i x : Int} (hi : ins k pc = some (41, nx, a, bb, ix)) : Wp k pc L (.inl x :: .inl i :: .inr (.inr (.inr (some (some q)))) :: st) h r ↔ ∃ l : List Int, ga h q 1 = some l ∧ (0 ≤ i ∧ i < l.length ∧ rg i ∧ b01 x) ∧ Wp k nx L st (sa h q 1 (l.set i.toNat x)) r := by
  rw [R_sx hi rfl]
  cases hg : ga h q 1 with
  | none => simp [sx, hg]
  | some l =>
    by_cases hC : 0 ≤ i ∧ i < l.length ∧ rg i ∧ b01 x
    · have e8 : sx (41, nx, a, bb, ix) L (.inl x :: .inl i :: .inr (.inr (.inr (some (some q)))) :: st) h = some (nx, L, st, sa h q 1 (l.set i.toNat x)) := by
        simp only [sx, hg]
        rw [if_pos hC]
      rw [e8]
      constructor
      · rintro ⟨q9, h9, h8⟩
        cases h9
        exact ⟨l, rfl, hC, h8⟩
      · rintro ⟨l9, h9, -, h8⟩
        cases h9
        exact ⟨_, rfl, h8⟩
    · have e8 : sx (41, nx, a, bb, ix) L (.inl x :: .inl i :: .inr (.inr (.inr (some (some q)))) :: st) h = none := by
        simp only [sx, hg]
        rw [if_neg hC]
      rw [e8]
      constructor
      · rintro ⟨q9, h9, -⟩
        cases h9
      · rintro ⟨l9, h9, h8, -⟩
        cases h9
        exact absurd h8 hC
theorem R_astl {q : Nat} {i x : Int} (hi : ins k pc = some (42, nx, a, bb, ix)) : Wp k pc L (.inr (.inl x) :: .inl i :: .inr (.inr (.inr (some (some q)))) :: st) h r ↔ ∃ l : List Int, ga h q 2 = some l ∧ (0 ≤ i ∧ i < l.length ∧ rg i) ∧ Wp k nx L st (sa h q 2 (l.set i.toNat x)) r := by
  rw [R_sx hi rfl]
  cases hg : ga h q 2 with
  | none => simp [sx, hg]
  | some l =>
    by_cases hC : 0 ≤ i ∧ i < l.length ∧ rg i
    · have e8 : sx (42, nx, a, bb, ix) L (.inr (.inl x) :: .inl i :: .inr (.inr (.inr (some (some q)))) :: st) h = some (nx, L, st, sa h q 2 (l.set i.toNat x)) := by
        simp only [sx, hg]
        rw [if_pos hC]
      rw [e8]
      constructor
      · rintro ⟨q9, h9, h8⟩
        cases h9
        exact ⟨l, rfl, hC, h8⟩
      · rintro ⟨l9, h9, -, h8⟩
        cases h9
        exact ⟨_, rfl, h8⟩
    · have e8 : sx (42, nx, a, bb, ix) L (.inr (.inl x) :: .inl i :: .inr (.inr (.inr (some (some q)))) :: st) h = none := by
        simp only [sx, hg]
        rw [if_neg hC]
      rw [e8]
      constructor
      · rintro ⟨q9, h9, -⟩
        cases h9
      · rintro ⟨l9, h9, h8, -⟩
        cases h9
        exact absurd h8 hC
theorem R_dp {i : AI} {st0 : List AV} {q : Nat × AL × List AV × AH} (hi : ins k pc = some i) (hop : Nat.blt i.1 60 = true) (hs : sx i L st0 h = if st.length ≤ 4 then some q else none) : Wp k pc L st0 h r ↔ dp st = true ∧ Wp k q.1 q.2.1 q.2.2.1 q.2.2.2 r := by
  rw [R_if hi hop hs]
  unfold dp
  simp
theorem R_dp2 {i : AI} {st0 : List AV} {q : Nat × AL × List AV × AH} {B C : Prop} {dB : Decidable B} {dC : Decidable C} (hi : ins k pc = some i) (hop : Nat.blt i.1 60 = true) (hs : sx i L st0 h = if B ∧ C ∧ st.length ≤ 4 then some q else none) : Wp k pc L st0 h r ↔ (B ∧ C) ∧ dp st = true ∧ Wp k q.1 q.2.1 q.2.2.1 q.2.2.2 r := by
  rw [R_if hi hop hs]
  unfold dp
  simp [and_assoc]
theorem R_iret {z : Int} (hi : ins k pc = some (61, nx, a, bb, ix)) : Wp k pc L [.inl z] h r ↔ r (.inl (some (.inl z)), h) := R_end (fun n => by
  refine (show ax (n + 1) k pc L [.inl z] h = (match ins k pc with
    | none => none
    | some i => _) from by unfold ax; rfl).trans ?_
  rw [hi]
  rfl)
theorem R_vret (hi : ins k pc = some (63, nx, a, bb, ix)) : Wp k pc L [] h r ↔ r (.inl none, h) := R_end (fun n => by
  refine (show ax (n + 1) k pc L [] h = (match ins k pc with
    | none => none
    | some i => _) from by unfold ax; rfl).trans ?_
  rw [hi]
  rfl)
theorem R_dret {d : UInt64} (hi : ins k pc = some (64, nx, a, bb, ix)) : Wp k pc L [.inr (.inr (.inl d))] h r ↔ r (.inl (some (.inr (.inr (.inl d)))), h) := R_end (fun n => by
  refine (show ax (n + 1) k pc L [.inr (.inr (.inl d))] h = (match ins k pc with
    | none => none
    | some i => _) from by unfold ax; rfl).trans ?_
  rw [hi]
  rfl)
theorem R_thr (hi : ins k pc = some (65, nx, a, bb, ix)) : Wp k pc L [] h r ↔ r (.inr a, (h.1, h.2.1, h.2.2 + 7)) := R_end (fun n => by
  refine (show ax (n + 1) k pc L [] h = (match ins k pc with
    | none => none
    | some i => _) from by unfold ax; rfl).trans ?_
  rw [hi]
  rfl)
theorem R_zret {z : Int} (hi : ins k pc = some (62, nx, a, bb, ix)) : Wp k pc L [.inl z] h r ↔ b01 z ∧ r (.inl (some (.inl z)), h) := by
  have e9 : ∀ n, ax (n + 1) k pc L [.inl z] h = if b01 z then some (.inl (some (.inl z)), h) else none := by
    intro n
    refine (show ax (n + 1) k pc L [.inl z] h = (match ins k pc with
      | none => none
      | some i => _) from by unfold ax; rfl).trans ?_
    rw [hi]
    rfl
  by_cases hz : b01 z
  · rw [R_end (r0 := (.inl (some (.inl z)), h)) (fun n => by rw [e9, if_pos hz])]
    simp only [hz, true_and]
  · constructor
    · rintro ⟨n, r9, h9, -⟩
      cases n with
      | zero => cases h9
      | succ n => rw [e9, if_neg hz] at h9; cases h9
    · rintro ⟨h9, -⟩
      exact absurd h9 hz
end RULES
/-- behind a call, in a method with handlers -/
def Ch (k pc nx : Nat) (L : AL) (st : List AV) (x : AR) (r : AR → Prop) : Prop := match x with
  | (.inl none, h1) => Wp k nx L st h1 r
  | (.inl (some v), h1) => Wp k nx L (v :: st) h1 r
  | (.inr E, h1) => match hnd k pc E with
    | none => r (.inr E, h1)
    | some q => match ins k q.2.2.1 with
      | some (4, nx, a, _, _) => (a < L.length ∧ okst L a = true) ∧ Wp k nx (L.set a none) [] h1 r
      | _ => False
theorem Ch_n {k pc nx : Nat} {L : AL} {st : List AV} {h1 : AH} {r : AR → Prop} : Ch k pc nx L st (.inl none, h1) r ↔ Wp k nx L st h1 r := Iff.rfl
theorem Ch_v {k pc nx : Nat} {L : AL} {st : List AV} {v : AV} {h1 : AH} {r : AR → Prop} : Ch k pc nx L st (.inl (some v), h1) r ↔ Wp k nx L (v :: st) h1 r := Iff.rfl
theorem R_callh {k pc nx a ix : Nat} {bb : Int} {L : AL} {av st0 st : List AV} {h : AH} {r : AR → Prop} (hi : ins k pc = some (60, nx, a, bb, ix)) (hst : st0 = av.reverse ++ st) (hb : bb.toNat = av.length) : Wp k pc L st0 h r ↔ dp st = true ∧ Ew a av h (fun x => Ch k pc nx L st x r) := by
  have e1 : (st0.take bb.toNat).reverse = av := by
    rw [hst, hb, ← List.length_reverse, List.take_left', List.reverse_reverse]
    simp
  have e2 : st0.drop bb.toNat = st := by
    rw [hst, hb, ← List.length_reverse, List.drop_left']
    simp
  have e4 : dp st = true ↔ st.length ≤ 4 := by unfold dp; simp
  constructor
  · rintro ⟨n, r9, e9, hr9⟩
    cases n with
    | zero => cases e9
    | succ n =>
      rw [ax_call hi, e1, e2] at e9
      split at e9
      · rename_i hc9
        obtain ⟨c1, c2, c3⟩ := hc9
        refine ⟨e4.mpr c2, c3, ?_⟩
        split at e9
        · cases e9
        · rename_i h1 u9
          exact ⟨n, _, u9, n, r9, e9, hr9⟩
        · rename_i v1 h1 u9
          exact ⟨n, _, u9, n, r9, e9, hr9⟩
        · rename_i E1 h1 u9
          refine ⟨n, _, u9, ?_⟩
          unfold Ch
          simp only []
          split at e9
          · cases e9; exact hr9
          · (try simp only [])
            split at e9
            · split at e9
              · rename_i hok9
                exact ⟨hok9, n, r9, e9, hr9⟩
              · cases e9
            · cases e9
      · cases e9
  · rintro ⟨hd, c3, n1, ⟨res, h1⟩, u9, hk⟩
    have hc : av.length = bb.toNat ∧ st.length ≤ 4 ∧ rck a av h = true := ⟨hb.symm, e4.mp hd, c3⟩
    rcases res with (_ | v) | E
    · obtain ⟨n2, r9, e9, hr9⟩ := hk
      refine ⟨n1 + n2 + 1, r9, ?_, hr9⟩
      rw [ax_call hi, e1, e2, if_pos hc, ax_ups n2 u9]
      simp only []
      rw [Nat.add_comm]
      exact ax_ups n1 e9
    · obtain ⟨n2, r9, e9, hr9⟩ := hk
      refine ⟨n1 + n2 + 1, r9, ?_, hr9⟩
      rw [ax_call hi, e1, e2, if_pos hc, ax_ups n2 u9]
      simp only []
      rw [Nat.add_comm]
      exact ax_ups n1 e9
    · unfold Ch at hk
      simp only [] at hk
      cases hh : hnd k pc E with
      | none =>
        rw [hh] at hk
        refine ⟨n1 + 1, _, ?_, hk⟩
        rw [ax_call hi, e1, e2, if_pos hc, u9]
        simp only []
        rw [hh]
      | some q9 =>
        rw [hh] at hk
        simp only [] at hk
        split at hk
        · rename_i hi8
          obtain ⟨hok9, n2, r9, e9, hr9⟩ := hk
          refine ⟨n1 + n2 + 1, r9, ?_, hr9⟩
          rw [ax_call hi, e1, e2, if_pos hc, ax_ups n2 u9]
          simp only []
          rw [hh]
          simp only []
          rw [hi8]
          simp only []
          rw [if_pos hok9, Nat.add_comm]
          exact ax_ups n1 e9
        · exact hk.elim
