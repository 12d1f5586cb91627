/-! each call's half in the shop and its half in the model -/
abbrev OH (A : Nat → Nat → Int) (F : Nat → Int) (J M : Nat) (t : Nat → Int) : Prop := A 3 = t ∧ F 17 = (J : Int) ∧ F 18 = (M : Int) ∧ (F 72 = 0 ∨ (F 72 = 1 ∧ PLN A F t J M))
abbrev MH (A : Nat → Nat → Int) (F : Nat → Int) (J M : Nat) (t : Nat → Int) : Prop := A 49 = t ∧ F 769 = (J : Int) ∧ F 770 = (M : Int)
abbrev BD (J M : Nat) (t : Nat → Int) : Prop := 1 ≤ J ∧ J ≤ 5 ∧ 1 ≤ M ∧ M ≤ 5 ∧ TOK t
abbrev OFr (A A1 : Nat → Nat → Int) : Prop := ∀ k, 49 ≤ k → k ≠ 59 → A1 k = A k
abbrev FFr (F F1 : Nat → Int) : Prop := ∀ k, 768 ≤ k → F1 k = F k
abbrev MFr (A A1 : Nat → Nat → Int) : Prop := ∀ k, (k < 49 ∨ k = 59) → A1 k = A k
abbrev MGr (F F1 : Nat → Int) : Prop := ∀ k, k < 768 → F1 k = F k
abbrev QFr (q q1 : List Int × Nat) : Prop := q1.1 = q.1 ∧ q1.2 ≤ q.2 + 7
abbrev SQ (A : Nat → Nat → Int) (F : Nat → Int) (q : List Int × Nat) (J M : Nat) (t : Nat → Int) (SP : Int → Int → Prop) (Q : AR → Prop) : Prop := ∀ A1 F1 q1 k v, SP k v → OH A1 F1 J M t → OFr A A1 → FFr F F1 → QFr q q1 → (k = 0 → A1 59 0 = v) → Q (.inl (some (.inl k)), mk A1 F1 q1)
abbrev MQz (A : Nat → Nat → Int) (F : Nat → Int) (q : List Int × Nat) (J M : Nat) (t : Nat → Int) (k v : Int) (Q : AR → Prop) : Prop := ∀ A1 F1 b, MH A1 F1 J M t → MFr A A1 → MGr F F1 → F1 768 = k → (k = 0 → b = v) → rg b → Q (.inl (some (.inl b)), mk A1 F1 q)
abbrev SN (A : Nat → Nat → Int) (F : Nat → Int) (q : List Int × Nat) (J M : Nat) (t : Nat → Int) (SP : Int → Prop) (Q : AR → Prop) : Prop := ∀ A1 F1 v, SP v → OH A1 F1 J M t → OFr A A1 → FFr F F1 → rg v → Q (.inl (some (.inl v)), mk A1 F1 q)
abbrev MN (A : Nat → Nat → Int) (F : Nat → Int) (q : List Int × Nat) (J M : Nat) (t : Nat → Int) (v : Int) (Q : AR → Prop) : Prop := ∀ A1 F1, MH A1 F1 J M t → MFr A A1 → MGr F F1 → Q (.inl (some (.inl v)), mk A1 F1 q)
abbrev SPv (P : Prop) (v0 k v : Int) : Prop := (P ∧ k = 0 ∧ v = v0) ∨ (¬ P ∧ k = 1)
theorem rg0 : rg 0 := ⟨by decide, by decide⟩
section HALF
variable {A A1 : Nat → Nat → Int} {F F1 : Nat → Int} {q : List Int × Nat} {Q : AR → Prop} {J M : Nat} {t : Nat → Int} {a b c v k : Int} {SP : Int → Int → Prop}
theorem OH_fr (h : OH A F J M t) (a3 : A1 3 = A 3) (a16 : A1 16 = A 16) (a18 : A1 18 = A 18) (a20 : A1 20 = A 20) (f : ∀ k, k < 77 → F1 k = F k) : OH A1 F1 J M t := by
  obtain ⟨h1, h2, h3, h4⟩ := h
  refine ⟨by rw [a3]; exact h1, by rw [f 17 (by decide)]; exact h2, by rw [f 18 (by decide)]; exact h3, ?_⟩
  rcases h4 with h4 | ⟨h4, N, Ws, sg, ln, s1, s2, s3, s4, s5⟩
  · exact Or.inl (by rw [f 72 (by decide)]; exact h4)
  · refine Or.inr ⟨by rw [f 72 (by decide)]; exact h4, N, Ws, sg, ln, s1, by rw [f 76 (by decide)]; exact s2, by rw [f 73 (by decide)]; exact s3, by rw [f 74 (by decide)]; exact s4, fun k hk => ?_⟩
    rw [a16, a18, a20]
    exact s5 k hk
theorem OH_59 {i : Nat} (h : OH A F J M t) : OH (u2 A 59 i v) F J M t := OH_fr h (u2_n (by decide)) (u2_n (by decide)) (u2_n (by decide)) (u2_n (by decide)) (fun _ _ => rfl)
theorem OFr_r : OFr A A := fun _ _ _ => rfl
theorem FFr_r : FFr F F := fun _ _ => rfl
theorem SQ_x (hQ : SQ A F q J M t SP Q) (oh : OH A F J M t) (sp : SP k v) (hk : k ≠ 0) : Q (.inl (some (.inl k)), mk A F (bp q)) := hQ A F (bp q) k v sp oh OFr_r FFr_r ⟨rfl, Nat.le_refl _⟩ (fun h => absurd h hk)
theorem SQ_y (hQ : SQ A F q J M t SP Q) (oh : OH A1 F1 J M t) (oa : OFr A A1) (of : FFr F F1) (sp : SP k v) (hk : k ≠ 0) : Q (.inl (some (.inl k)), mk A1 F1 (bp q)) := hQ A1 F1 (bp q) k v sp oh oa of ⟨rfl, Nat.le_refl _⟩ (fun h => absurd h hk)
theorem SQ_v (hQ : SQ A F q J M t SP Q) (sp : SP 0 v) (oh : OH A1 F1 J M t) (oa : OFr A A1) (of : FFr F F1) : Q (.inl (some (.inl 0)), mk (u2 A1 59 0 v) F1 q) := hQ _ F1 q 0 v sp (OH_59 oh) (fun k h1 h2 => by rw [u2_n h2]; exact oa k h1 h2) of ⟨rfl, by omega⟩ (fun _ => by rw [u2_s, uq_s])
theorem MQ_s (hQ : MQz A F q J M t k v Q) (mh : MH A F J M t) (hb : k = 0 → b = v) (rb : rg b) : Q (.inl (some (.inl b)), mk A (uf F 768 k) q) := hQ A _ b ⟨mh.1, mJ8 mh.2.1, mM8 mh.2.2⟩ (fun _ _ => rfl) (fun k hk => uf_n (by omega)) uf_s hb rb
theorem MQ_a (hQ : MQz A F q J M t k v Q) (mh : MH A F J M t) (a49 : A1 49 = A 49) (ma : MFr A A1) (hb : k = 0 → b = v) (rb : rg b) : Q (.inl (some (.inl b)), mk A1 (uf F 768 k) q) := hQ A1 _ b ⟨by rw [a49]; exact mh.1, mJ8 mh.2.1, mM8 mh.2.2⟩ ma (fun k hk => uf_n (by omega)) uf_s hb rb
theorem MN_s (hQ : MN A F q J M t v Q) (mh : MH A F J M t) : Q (.inl (some (.inl v)), mk A (uf F 768 0) q) := hQ A _ ⟨mh.1, mJ8 mh.2.1, mM8 mh.2.2⟩ (fun _ _ => rfl) (fun k hk => uf_n (by omega))
/-! questions of the table -/
theorem zs_time (oh : OH A F J M t) (bd : BD J M t) (ha : rg a) (hb : rg b) (hQ : SQ A F q J M t (SPv (0 ≤ a ∧ a < J ∧ 0 ≤ b ∧ b < M) (t (5 * a.toNat + b.toNat))) Q) : Ew 179 [vR 0, .inl a, .inl b, vR 59] (mk A F q) Q := by
  have oh9 := oh
  obtain ⟨rfl, hJ, hM, -⟩ := oh
  obtain ⟨J1, J5, M1, M5, ht⟩ := bd
  rw [wq_179]
  by_cases c : 0 ≤ a ∧ a < J ∧ 0 ≤ b ∧ b < M
  · have b1 := ht (5 * a.toNat + b.toNat) (by omega)
    rw [o_time hJ hM J5 M5 c.1 c.2.1 c.2.2.1 c.2.2.2, wv_179 ⟨by omega, by omega⟩]
    exact SQ_v hQ (Or.inl ⟨c, rfl, rfl⟩) oh9 OFr_r FFr_r
  · rw [o_timex hJ hM J5 M5 ha hb (by omega), wx_179_0]
    exact SQ_x (v := 0) hQ oh9 (Or.inr ⟨c, rfl⟩) (by decide)
theorem zm_time (mh : MH A F J M t) (bd : BD J M t) (ha : rg a) (hb : rg b) (sp : SPv (0 ≤ a ∧ a < J ∧ 0 ≤ b ∧ b < M) (t (5 * a.toNat + b.toNat)) k v) (hQ : MQz A F q J M t k v Q) : Ew 130 [vR 48, .inl a, .inl b] (mk A F q) Q := by
  have mh9 := mh
  obtain ⟨rfl, hJ, hM⟩ := mh
  obtain ⟨J1, J5, M1, M5, ht⟩ := bd
  rcases sp with ⟨c, rfl, rfl⟩ | ⟨c, rfl⟩
  · have b1 := ht (5 * a.toNat + b.toNat) (by omega)
    rw [m_time hJ hM J5 M5 c.1 c.2.1 c.2.2.1 c.2.2.2]
    exact MQ_s hQ mh9 (fun _ => rfl) ⟨by omega, by omega⟩
  · rw [m_timex hJ hM J5 M5 ha hb (by omega)]
    exact MQ_s hQ mh9 (fun h => absurd h (by decide)) rg0
theorem zs_jobTotal (oh : OH A F J M t) (bd : BD J M t) (ha : rg a) (hQ : SQ A F q J M t (SPv (0 ≤ a ∧ a < J) (rowS t M a.toNat)) Q) : Ew 180 [vR 0, .inl a, vR 59] (mk A F q) Q := by
  have oh9 := oh
  obtain ⟨rfl, hJ, hM, -⟩ := oh
  obtain ⟨J1, J5, M1, M5, ht⟩ := bd
  rw [wq_180]
  by_cases c : 0 ≤ a ∧ a < J
  · have b1 := rowS_bd ht M5 (show a.toNat < 5 by omega)
    rw [o_jobTotal hJ hM J5 M5 c.1 c.2, wv_180 ⟨by omega, by omega⟩]
    exact SQ_v hQ (Or.inl ⟨c, rfl, rfl⟩) oh9 OFr_r FFr_r
  · rw [o_jobTotalx hJ J5 ha (by omega), wx_180_0]
    exact SQ_x (v := 0) hQ oh9 (Or.inr ⟨c, rfl⟩) (by decide)
theorem zm_jobTotal (mh : MH A F J M t) (bd : BD J M t) (ha : rg a) (sp : SPv (0 ≤ a ∧ a < J) (rowS t M a.toNat) k v) (hQ : MQz A F q J M t k v Q) : Ew 131 [vR 48, .inl a] (mk A F q) Q := by
  have mh9 := mh
  obtain ⟨rfl, hJ, hM⟩ := mh
  obtain ⟨J1, J5, M1, M5, ht⟩ := bd
  rcases sp with ⟨c, rfl, rfl⟩ | ⟨c, rfl⟩
  · have b1 := rowS_bd ht M5 (show a.toNat < 5 by omega)
    rw [m_jobTotal hJ hM J5 M5 c.1 c.2]
    exact MQ_s hQ mh9 (fun _ => rfl) ⟨by omega, by omega⟩
  · rw [m_jobTotalx hJ J5 ha (by omega)]
    exact MQ_s hQ mh9 (fun h => absurd h (by decide)) rg0
theorem zs_machineTotal (oh : OH A F J M t) (bd : BD J M t) (ha : rg a) (hQ : SQ A F q J M t (SPv (0 ≤ a ∧ a < M) (colS t J a.toNat)) Q) : Ew 181 [vR 0, .inl a, vR 59] (mk A F q) Q := by
  have oh9 := oh
  obtain ⟨rfl, hJ, hM, -⟩ := oh
  obtain ⟨J1, J5, M1, M5, ht⟩ := bd
  rw [wq_181]
  by_cases c : 0 ≤ a ∧ a < M
  · have b1 := colS_bd ht J5 (show a.toNat < 5 by omega)
    rw [o_machineTotal hJ hM J5 M5 c.1 c.2, wv_181 ⟨by omega, by omega⟩]
    exact SQ_v hQ (Or.inl ⟨c, rfl, rfl⟩) oh9 OFr_r FFr_r
  · rw [o_machineTotalx hM M5 ha (by omega), wx_181_0]
    exact SQ_x (v := 0) hQ oh9 (Or.inr ⟨c, rfl⟩) (by decide)
theorem zm_machineTotal (mh : MH A F J M t) (bd : BD J M t) (ha : rg a) (sp : SPv (0 ≤ a ∧ a < M) (colS t J a.toNat) k v) (hQ : MQz A F q J M t k v Q) : Ew 132 [vR 48, .inl a] (mk A F q) Q := by
  have mh9 := mh
  obtain ⟨rfl, hJ, hM⟩ := mh
  obtain ⟨J1, J5, M1, M5, ht⟩ := bd
  rcases sp with ⟨c, rfl, rfl⟩ | ⟨c, rfl⟩
  · have b1 := colS_bd ht J5 (show a.toNat < 5 by omega)
    rw [m_machineTotal hJ hM J5 M5 c.1 c.2]
    exact MQ_s hQ mh9 (fun _ => rfl) ⟨by omega, by omega⟩
  · rw [m_machineTotalx hM M5 ha (by omega)]
    exact MQ_s hQ mh9 (fun h => absurd h (by decide)) rg0
theorem fe_rg (ht : TOK t) (J5 : J ≤ 5) (M5 : M ≤ 5) {r c : Nat} (hr : r < J + M) (hc : c < J + M) : rg (fe t J M r c) := by
  have b0 := bnd_bd ht J5 M5
  have key : ∀ x : Int, -1000 ≤ x ∧ x ≤ 1000 → rg x := fun x h => ⟨by omega, by omega⟩
  refine key _ ?_
  unfold fe
  by_cases c1 : r < J
  · rw [if_pos c1]
    by_cases c2 : c < M
    · rw [if_pos c2]
      have := ht (5 * r + c) (by omega)
      omega
    · rw [if_neg c2]
      have := rowS_bd ht M5 (show r < 5 by omega)
      split <;> omega
  · rw [if_neg c1]
    by_cases c2 : c < M
    · rw [if_pos c2]
      have := colS_bd ht J5 (show c < 5 by omega)
      split <;> omega
    · rw [if_neg c2]
      have := ht (5 * (c - M) + (r - J)) (by omega)
      omega
theorem zs_filled (oh : OH A F J M t) (bd : BD J M t) (ha : rg a) (hb : rg b) (hQ : SQ A F q J M t (SPv (0 ≤ a ∧ a < (J : Int) + M ∧ 0 ≤ b ∧ b < (J : Int) + M) (fe t J M a.toNat b.toNat)) Q) : Ew 182 [vR 0, .inl a, .inl b, vR 59] (mk A F q) Q := by
  have oh9 := oh
  obtain ⟨rfl, hJ, hM, -⟩ := oh
  obtain ⟨J1, J5, M1, M5, ht⟩ := bd
  rw [wq_182]
  by_cases c : 0 ≤ a ∧ a < (J : Int) + M ∧ 0 ≤ b ∧ b < (J : Int) + M
  · rw [o_filled hJ hM J5 M5 ht c.1 c.2.1 c.2.2.1 c.2.2.2, wv_182 (fe_rg ht J5 M5 (by omega) (by omega))]
    exact SQ_v hQ (Or.inl ⟨c, rfl, rfl⟩) oh9 OFr_r FFr_r
  · rw [o_filledx hJ hM J5 M5 ha hb (by omega), wx_182_0]
    exact SQ_x (v := 0) hQ oh9 (Or.inr ⟨c, rfl⟩) (by decide)
theorem zm_filled (mh : MH A F J M t) (bd : BD J M t) (ha : rg a) (hb : rg b) (sp : SPv (0 ≤ a ∧ a < (J : Int) + M ∧ 0 ≤ b ∧ b < (J : Int) + M) (fe t J M a.toNat b.toNat) k v) (hQ : MQz A F q J M t k v Q) : Ew 137 [vR 48, .inl a, .inl b] (mk A F q) Q := by
  have mh9 := mh
  obtain ⟨rfl, hJ, hM⟩ := mh
  obtain ⟨J1, J5, M1, M5, ht⟩ := bd
  rcases sp with ⟨c, rfl, rfl⟩ | ⟨c, rfl⟩
  · rw [m_filled hJ hM J5 M5 ht c.1 c.2.1 c.2.2.1 c.2.2.2]
    exact MQ_s hQ mh9 (fun _ => rfl) (fe_rg ht J5 M5 (by omega) (by omega))
  · rw [m_filledx hJ hM J5 M5 ha hb (by omega)]
    exact MQ_s hQ mh9 (fun h => absurd h (by decide)) rg0
/-! dispatching -/
theorem OH_hs {s : DS} (h : OH A F J M t) : OH (hs A s) F J M t := OH_fr h (hs_n (by decide) (by decide) (by decide)) (hs_n (by decide) (by decide) (by decide)) (hs_n (by decide) (by decide) (by decide)) (hs_n (by decide) (by decide) (by decide)) (fun _ _ => rfl)
theorem OFr_hs {s : DS} : OFr A (hs A s) := fun k h1 _ => hs_n (by omega) (by omega) (by omega)
theorem hmd_n {x y z : Nat → Int} {k : Nat} (h1 : k ≠ 54) (h2 : k ≠ 55) (h3 : k ≠ 56) : hmd A x y z k = A k := by unfold hmd; rw [ua_n h3, ua_n h2, ua_n h1]
theorem MFr_hmd {x y z : Nat → Int} : MFr A (hmd A x y z) := fun k h => hmd_n (by omega) (by omega) (by omega)
theorem dst_rg (ht : TOK t) (J5 : J ≤ 5) (M5 : M ≤ 5) {al : Bool} {x : Nat} : rg ((dclo t J M al 26 0 ds0).1 x) := by
  have := (@dfin_DR J M al t ht J5 M5).1 x
  exact ⟨by omega, by omega⟩
theorem dln_rg (ht : TOK t) (J5 : J ≤ 5) (M5 : M ≤ 5) {al : Bool} : rg (imax (dclo t J M al 26 0 ds0).2.2 0 5) := by
  have h1 := (@dfin_DR J M al t ht J5 M5).2.2
  have h2 := imax_bd (f := (dclo t J M al 26 0 ds0).2.2) (a := 0) (lo := 0) (hi := 100000) (Int.le_refl _) (by decide) (n := 5) (fun i hi => (h1 i).2)
  exact ⟨by omega, by omega⟩
theorem zs_denseStart (oh : OH A F J M t) (bd : BD J M t) (ha : rg a) (hb : rg b) (hQ : SQ A F q J M t (SPv (0 ≤ a ∧ a < J ∧ 0 ≤ b ∧ b < M) ((dclo t J M false 26 0 ds0).1 (5 * a.toNat + b.toNat))) Q) : Ew 189 [vR 0, .inl a, .inl b, vR 59] (mk A F q) Q := by
  have oh9 := oh
  obtain ⟨rfl, hJ, hM, -⟩ := oh
  obtain ⟨J1, J5, M1, M5, ht⟩ := bd
  rw [wq_189]
  by_cases c : 0 ≤ a ∧ a < J ∧ 0 ≤ b ∧ b < M
  · rw [o_denseStart ht hJ hM J5 M5 c.1 c.2.1 c.2.2.1 c.2.2.2, wv_189 (dst_rg ht J5 M5)]
    exact SQ_v hQ (Or.inl ⟨c, rfl, rfl⟩) (OH_hs oh9) OFr_hs FFr_r
  · rw [o_denseStartx hJ hM J5 M5 ha hb (by omega), wx_189_0]
    exact SQ_x (v := 0) hQ oh9 (Or.inr ⟨c, rfl⟩) (by decide)
theorem zm_denseStart (mh : MH A F J M t) (bd : BD J M t) (ha : rg a) (hb : rg b) (sp : SPv (0 ≤ a ∧ a < J ∧ 0 ≤ b ∧ b < M) ((dclo t J M false 26 0 ds0).1 (5 * a.toNat + b.toNat)) k v) (hQ : MQz A F q J M t k v Q) : Ew 157 [vR 48, .inl a, .inl b] (mk A F q) Q := by
  have mh9 := mh
  obtain ⟨rfl, hJ, hM⟩ := mh
  obtain ⟨J1, J5, M1, M5, ht⟩ := bd
  rcases sp with ⟨c, rfl, rfl⟩ | ⟨c, rfl⟩
  · rw [m_denseStart ht hJ hM J5 M5 c.1 c.2.1 c.2.2.1 c.2.2.2]
    exact MQ_a hQ mh9 (hmd_n (by decide) (by decide) (by decide)) MFr_hmd (fun _ => rfl) (dst_rg ht J5 M5)
  · rw [m_denseStartx hJ hM J5 M5 ha hb (by omega)]
    exact MQ_s hQ mh9 (fun h => absurd h (by decide)) rg0
theorem zs_alterLength (oh : OH A F J M t) (bd : BD J M t) (hQ : SQ A F q J M t (SPv (M = 2) (imax (dclo t J M true 26 0 ds0).2.2 0 5)) Q) : Ew 190 [vR 0, vR 59] (mk A F q) Q := by
  have oh9 := oh
  obtain ⟨rfl, hJ, hM, -⟩ := oh
  obtain ⟨J1, J5, M1, M5, ht⟩ := bd
  rw [wq_190]
  by_cases c : M = 2
  · rw [o_alterLength ht hJ hM J5 c, wv_190 (dln_rg ht J5 M5)]
    exact SQ_v hQ (Or.inl ⟨c, rfl, rfl⟩) (OH_hs oh9) OFr_hs FFr_r
  · rw [o_alterLengthx hM M5 c, wx_190_2]
    exact SQ_x (v := 0) hQ oh9 (Or.inr ⟨c, rfl⟩) (by decide)
theorem zm_alterLength (mh : MH A F J M t) (bd : BD J M t) (sp : SPv (M = 2) (imax (dclo t J M true 26 0 ds0).2.2 0 5) k v) (hQ : MQz A F q J M t k v Q) : Ew 158 [vR 48] (mk A F q) Q := by
  have mh9 := mh
  obtain ⟨rfl, hJ, hM⟩ := mh
  obtain ⟨J1, J5, M1, M5, ht⟩ := bd
  rcases sp with ⟨c, rfl, rfl⟩ | ⟨c, rfl⟩
  · rw [m_alterLength ht hJ hM J5 c]
    exact MQ_a hQ mh9 (hmd_n (by decide) (by decide) (by decide)) MFr_hmd (fun _ => rfl) (dln_rg ht J5 M5)
  · rw [m_alterLengthx hM M5 c]
    exact MQ_s hQ mh9 (fun h => absurd h (by decide)) rg0
abbrev SP3 (P D : Prop) (v0 k v : Int) : Prop := (P ∧ D ∧ k = 0 ∧ v = v0) ∨ (¬ P ∧ k = 1) ∨ (P ∧ ¬ D ∧ k = 2)
theorem zs_alterStart (oh : OH A F J M t) (bd : BD J M t) (ha : rg a) (hb : rg b) (hQ : SQ A F q J M t (SP3 (0 ≤ a ∧ a < J ∧ 0 ≤ b ∧ b < M) (M = 2) ((dclo t J M true 26 0 ds0).1 (5 * a.toNat + b.toNat))) Q) : Ew 191 [vR 0, .inl a, .inl b, vR 59] (mk A F q) Q := by
  have oh9 := oh
  obtain ⟨rfl, hJ, hM, -⟩ := oh
  obtain ⟨J1, J5, M1, M5, ht⟩ := bd
  rw [wq_191]
  by_cases c : 0 ≤ a ∧ a < J ∧ 0 ≤ b ∧ b < M
  · by_cases c2 : M = 2
    · rw [o_alterStart ht hJ hM J5 c2 c.1 c.2.1 c.2.2.1 c.2.2.2, wv_191 (dst_rg ht J5 M5)]
      exact SQ_v hQ (Or.inl ⟨c, c2, rfl, rfl⟩) (OH_hs oh9) OFr_hs FFr_r
    · rw [o_alterStarty hJ hM J5 M5 c.1 c.2.1 c.2.2.1 c.2.2.2 c2, wx_191_2]
      exact SQ_x (v := 0) hQ oh9 (Or.inr (Or.inr ⟨c, c2, rfl⟩)) (by decide)
  · rw [o_alterStartx hJ hM J5 M5 ha hb (by omega), wx_191_0]
    exact SQ_x (v := 0) hQ oh9 (Or.inr (Or.inl ⟨c, rfl⟩)) (by decide)
theorem zm_alterStart (mh : MH A F J M t) (bd : BD J M t) (ha : rg a) (hb : rg b) (sp : SP3 (0 ≤ a ∧ a < J ∧ 0 ≤ b ∧ b < M) (M = 2) ((dclo t J M true 26 0 ds0).1 (5 * a.toNat + b.toNat)) k v) (hQ : MQz A F q J M t k v Q) : Ew 159 [vR 48, .inl a, .inl b] (mk A F q) Q := by
  have mh9 := mh
  obtain ⟨rfl, hJ, hM⟩ := mh
  obtain ⟨J1, J5, M1, M5, ht⟩ := bd
  rcases sp with ⟨c, c2, rfl, rfl⟩ | ⟨c, rfl⟩ | ⟨c, c2, rfl⟩
  · rw [m_alterStart ht hJ hM J5 c2 c.1 c.2.1 c.2.2.1 c.2.2.2]
    exact MQ_a hQ mh9 (hmd_n (by decide) (by decide) (by decide)) MFr_hmd (fun _ => rfl) (dst_rg ht J5 M5)
  · rw [m_alterStartx hJ hM J5 M5 ha hb (by omega)]
    exact MQ_s hQ mh9 (fun h => absurd h (by decide)) rg0
  · rw [m_alterStarty hJ hM J5 M5 c.1 c.2.1 c.2.2.1 c.2.2.2 c2]
    exact MQ_s hQ mh9 (fun h => absurd h (by decide)) rg0
/-! rounding -/
theorem OH_sar (h : OH A F J M t) (ha : SAR A A1) (hf : SFR F F1) : OH A1 F1 J M t := OH_fr h (ha 3 (by decide) (by decide) (by decide) (by decide) (by decide)) (ha 16 (by decide) (by decide) (by decide) (by decide) (by decide)) (ha 18 (by decide) (by decide) (by decide) (by decide) (by decide)) (ha 20 (by decide) (by decide) (by decide) (by decide) (by decide)) (fun k hk => hf k (by omega) (by omega) (by omega) (by omega) (by omega) (by omega))
theorem OFr_sar (ha : SAR A A1) : OFr A A1 := fun k h1 _ => ha k (by omega) (by omega) (by omega) (by omega) (by omega)
theorem FFr_sfr (hf : SFR F F1) : FFr F F1 := fun k hk => hf k (by omega) (by omega) (by omega) (by omega) (by omega) (by omega)
theorem MFr_sag (ha : SAG A A1) : MFr A A1 := fun k h => ha k (by omega) (by omega)
theorem rnd_rg {U : Nat → Nat → Int} {d : Int} (hd : 1 ≤ d) (ht : TOK t) (J5 : J ≤ 5) (M5 : M ≤ 5) (hU : VR t d J M U) {x y : Nat} (hx : x < J) (hy : y < M) : rg (dq t d x y + U x y) := by
  have h1 := @dq_bd t d hd ht x y (by omega)
  have h2 := (hU.1 x hx y hy).1
  exact ⟨by omega, by omega⟩
theorem sumU_bd {U : Nat → Nat → Int} {d : Int} (J5 : J ≤ 5) (M5 : M ≤ 5) (hU : VR t d J M U) : 0 ≤ isum (fun j => isum (U j) M) J ∧ isum (fun j => isum (U j) M) J ≤ 25 := by
  have h1 : ∀ j, j < J → 0 ≤ isum (U j) M ∧ isum (U j) M ≤ 5 := fun j hj => by
    have g1 := isum_ge (f := U j) (n := M) (fun m hm => by have := (hU.1 j hj m hm).1; omega)
    have g2 := isum_le (f := U j) (b := 1) (n := M) (fun m hm => by have := (hU.1 j hj m hm).1; omega)
    omega
  have g1 := isum_ge (f := fun j => isum (U j) M) (n := J) (fun j hj => (h1 j hj).1)
  have g2 := isum_le (f := fun j => isum (U j) M) (b := 5) (n := J) (fun j hj => (h1 j hj).2)
  omega
theorem dna_bd {d : Int} (hd : 1 ≤ d) (ht : TOK t) (J5 : J ≤ 5) (M5 : M ≤ 5) : 0 ≤ dna t d J M ∧ dna t d J M ≤ 2475 := by
  have g1 := isum_ge (f := dnr t d M) (n := J) (fun j hj => (dnr_bd hd ht M5 (show j < 5 by omega)).1)
  have g2 := isum_le (f := dnr t d M) (b := 495) (n := J) (fun j hj => (dnr_bd hd ht M5 (show j < 5 by omega)).2)
  unfold dna
  omega
abbrev SPr (J M : Nat) (t : Nat → Int) (a b c k v : Int) : Prop := ((0 ≤ a ∧ a < J ∧ 0 ≤ b ∧ b < M) ∧ (1 ≤ c ∧ c ≤ 100) ∧ k = 0 ∧ ∃ U, RDG t c J M U ∧ v = dq t c a.toNat b.toNat + U a.toNat b.toNat) ∨ (¬ (0 ≤ a ∧ a < J ∧ 0 ≤ b ∧ b < M) ∧ k = 1) ∨ ((0 ≤ a ∧ a < J ∧ 0 ≤ b ∧ b < M) ∧ ¬ (1 ≤ c ∧ c ≤ 100) ∧ k = 2)
theorem zs_rounded (oh : OH A F J M t) (bd : BD J M t) (ha : rg a) (hb : rg b) (hc : rg c) (hQ : SQ A F q J M t (SPr J M t a b c) Q) : Ew 192 [vR 0, .inl a, .inl b, .inl c, vR 59] (mk A F q) Q := by
  have oh9 := oh
  obtain ⟨rfl, hJ, hM, -⟩ := oh
  obtain ⟨J1, J5, M1, M5, ht⟩ := bd
  rw [wq_192]
  by_cases c1 : 0 ≤ a ∧ a < J ∧ 0 ≤ b ∧ b < M
  · by_cases c2 : 1 ≤ c ∧ c ≤ 100
    · refine o_rounded hJ hM J5 M5 ht c1.1 c1.2.1 c1.2.2.1 c1.2.2.2 c2.1 c2.2 (fun A1 F1 U g1 g2 g3 => ?_)
      rw [wv_192 (rnd_rg c2.1 ht J5 M5 g3.1 (by omega) (by omega))]
      exact SQ_v hQ (Or.inl ⟨c1, c2, rfl, U, g3, rfl⟩) (OH_sar oh9 g1 g2) (OFr_sar g1) (FFr_sfr g2)
    · rw [o_roundedy hJ hM J5 M5 c1.1 c1.2.1 c1.2.2.1 c1.2.2.2 hc (by omega), wx_192_1]
      exact SQ_x (v := 0) hQ oh9 (Or.inr (Or.inr ⟨c1, c2, rfl⟩)) (by decide)
  · rw [o_roundedx hJ hM J5 M5 ha hb (by omega), wx_192_0]
    exact SQ_x (v := 0) hQ oh9 (Or.inr (Or.inl ⟨c1, rfl⟩)) (by decide)
theorem zm_rounded (mh : MH A F J M t) (bd : BD J M t) (ha : rg a) (hb : rg b) (hc : rg c) (sp : SPr J M t a b c k v) (hQ : MQz A F q J M t k v Q) : Ew 170 [vR 48, .inl a, .inl b, .inl c] (mk A F q) Q := by
  have mh9 := mh
  obtain ⟨rfl, hJ, hM⟩ := mh
  obtain ⟨J1, J5, M1, M5, ht⟩ := bd
  rcases sp with ⟨c1, c2, rfl, U, hU, rfl⟩ | ⟨c1, rfl⟩ | ⟨c1, c2, rfl⟩
  · refine m_rounded hJ hM J5 M5 ht c1.1 c1.2.1 c1.2.2.1 c1.2.2.2 c2.1 c2.2 hU (fun A1 g => ?_)
    exact MQ_a hQ mh9 (g 49 (by decide) (by decide)) (MFr_sag g) (fun _ => rfl) (rnd_rg c2.1 ht J5 M5 hU.1 (by omega) (by omega))
  · rw [m_roundedx hJ hM J5 M5 ha hb (by omega)]
    exact MQ_s hQ mh9 (fun h => absurd h (by decide)) rg0
  · rw [m_roundedy hJ hM J5 M5 c1.1 c1.2.1 c1.2.2.1 c1.2.2.2 hc (by omega)]
    exact MQ_s hQ mh9 (fun h => absurd h (by decide)) rg0
abbrev SPt (J M : Nat) (t : Nat → Int) (c k v : Int) : Prop := ((1 ≤ c ∧ c ≤ 100) ∧ k = 0 ∧ ∃ U, RDG t c J M U ∧ v = dna t c J M + isum (fun j => isum (U j) M) J) ∨ (¬ (1 ≤ c ∧ c ≤ 100) ∧ k = 1)
theorem zs_roundedTotal (oh : OH A F J M t) (bd : BD J M t) (hc : rg c) (hQ : SQ A F q J M t (SPt J M t c) Q) : Ew 193 [vR 0, .inl c, vR 59] (mk A F q) Q := by
  have oh9 := oh
  obtain ⟨rfl, hJ, hM, -⟩ := oh
  obtain ⟨J1, J5, M1, M5, ht⟩ := bd
  rw [wq_193]
  by_cases c2 : 1 ≤ c ∧ c ≤ 100
  · refine o_roundedTotal hJ hM J5 M5 ht c2.1 c2.2 (fun A1 F1 U g1 g2 g3 => ?_)
    have x1 := sumU_bd J5 M5 g3.1
    have x2 := @dna_bd J M (A 3) c c2.1 ht J5 M5
    rw [wv_193 ⟨by omega, by omega⟩]
    exact SQ_v hQ (Or.inl ⟨c2, rfl, U, g3, rfl⟩) (OH_sar oh9 g1 g2) (OFr_sar g1) (FFr_sfr g2)
  · rw [o_roundedTotalx hc (by omega), wx_193_1]
    exact SQ_x (v := 0) hQ oh9 (Or.inr ⟨c2, rfl⟩) (by decide)
theorem zm_roundedTotal (mh : MH A F J M t) (bd : BD J M t) (hc : rg c) (sp : SPt J M t c k v) (hQ : MQz A F q J M t k v Q) : Ew 172 [vR 48, .inl c] (mk A F q) Q := by
  have mh9 := mh
  obtain ⟨rfl, hJ, hM⟩ := mh
  obtain ⟨J1, J5, M1, M5, ht⟩ := bd
  rcases sp with ⟨c2, rfl, U, hU, rfl⟩ | ⟨c2, rfl⟩
  · have x1 := sumU_bd J5 M5 hU.1
    have x2 := @dna_bd J M (A 49) c c2.1 ht J5 M5
    refine m_roundedTotal hJ hM J5 M5 J1 ht c2.1 c2.2 hU (fun A1 g => ?_)
    exact MQ_a hQ mh9 (g 49 (by decide) (by decide)) (MFr_sag g) (fun _ => rfl) ⟨by omega, by omega⟩
  · rw [m_roundedTotalx hc (by omega)]
    exact MQ_s hQ mh9 (fun h => absurd h (by decide)) rg0
abbrev SPu (J M : Nat) (t : Nat → Int) (c k v : Int) : Prop := ((1 ≤ c ∧ c ≤ 100) ∧ k = 0 ∧ ∃ U, RDG t c J M U ∧ v = isum (fun j => isum (U j) M) J) ∨ (¬ (1 ≤ c ∧ c ≤ 100) ∧ k = 1)
theorem zs_roundedUp (oh : OH A F J M t) (bd : BD J M t) (hc : rg c) (hQ : SQ A F q J M t (SPu J M t c) Q) : Ew 194 [vR 0, .inl c, vR 59] (mk A F q) Q := by
  have oh9 := oh
  obtain ⟨rfl, hJ, hM, -⟩ := oh
  obtain ⟨J1, J5, M1, M5, ht⟩ := bd
  rw [wq_194]
  by_cases c2 : 1 ≤ c ∧ c ≤ 100
  · refine o_roundedUp hJ hM J5 M5 ht c2.1 c2.2 (fun A1 F1 U g1 g2 g3 => ?_)
    have x1 := sumU_bd J5 M5 g3.1
    rw [wv_194 ⟨by omega, by omega⟩]
    exact SQ_v hQ (Or.inl ⟨c2, rfl, U, g3, rfl⟩) (OH_sar oh9 g1 g2) (OFr_sar g1) (FFr_sfr g2)
  · rw [o_roundedUpx hc (by omega), wx_194_1]
    exact SQ_x (v := 0) hQ oh9 (Or.inr ⟨c2, rfl⟩) (by decide)
theorem zm_roundedUp (mh : MH A F J M t) (bd : BD J M t) (hc : rg c) (sp : SPu J M t c k v) (hQ : MQz A F q J M t k v Q) : Ew 173 [vR 48, .inl c] (mk A F q) Q := by
  have mh9 := mh
  obtain ⟨rfl, hJ, hM⟩ := mh
  obtain ⟨J1, J5, M1, M5, ht⟩ := bd
  rcases sp with ⟨c2, rfl, U, hU, rfl⟩ | ⟨c2, rfl⟩
  · have x1 := sumU_bd J5 M5 hU.1
    refine m_roundedUp hJ hM J5 M5 J1 ht c2.1 c2.2 hU (fun A1 g => ?_)
    exact MQ_a hQ mh9 (g 49 (by decide) (by decide)) (MFr_sag g) (fun _ => rfl) ⟨by omega, by omega⟩
  · rw [m_roundedUpx hc (by omega)]
    exact MQ_s hQ mh9 (fun h => absurd h (by decide)) rg0
end HALF
