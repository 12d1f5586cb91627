/-! the commands' halves -/
theorem swp_ok {t : Nat → Int} (ht : TOK t) {a b n : Nat} (ha : a < 5) (hb : b < 5) : TOK (swp t a b n) := by
  intro k hk
  unfold swp
  split
  · split
    · exact ht _ (by omega)
    · split
      · exact ht _ (by omega)
      · exact ht k hk
  · exact ht k hk
theorem stj_ok {t : Nat → Int} (ht : TOK t) {a n : Nat} {s d : Int} : TOK (stj t a s d n) := by
  intro k hk
  unfold stj
  split
  · have h1 := Int.emod_nonneg (s + (k % 5 : Nat) * d) (show (100 : Int) ≠ 0 by decide)
    have h2 := Int.emod_lt_of_pos (s + (k % 5 : Nat) * d) (show (0 : Int) < 100 by decide)
    omega
  · exact ht k hk
theorem uq_ok {t : Nat → Int} (ht : TOK t) {i : Nat} {v : Int} (h0 : 0 ≤ v) (h1 : v ≤ 99) : TOK (uq t i v) := by
  intro k hk
  unfold uq
  split
  · exact ⟨h0, h1⟩
  · exact ht k hk
section HALF3
variable {A A1 : Nat → Nat → Int} {F F1 : Nat → Int} {q : List Int × Nat} {Q : AR → Prop} {J M J2 M2 : Nat} {t t2 : Nat → Int} {a b c v k : Int}
theorem OH_new {f : Nat → Int} (h1 : F1 17 = (J : Int)) (h2 : F1 18 = (M : Int)) (h3 : F1 72 = 0) : OH (ua A 3 f) F1 J M f := ⟨ua_s, h1, h2, Or.inl h3⟩
theorem OFr_3 {f : Nat → Int} : OFr A (ua A 3 f) := fun k h1 _ => ua_n (by omega)
theorem MFr_49 {f : Nat → Int} : MFr A (ua A 49 f) := fun k h1 => ua_n (by omega)
abbrev SPz (J M : Nat) (t : Nat → Int) (a b k v : Int) (J2 M2 : Nat) (t2 : Nat → Int) : Prop := ((1 ≤ a ∧ a ≤ 5 ∧ 1 ≤ b ∧ b ≤ 5) ∧ k = 0 ∧ v = allS t J M ∧ J2 = a.toNat ∧ M2 = b.toNat ∧ t2 = fun _ => 0) ∨ (¬ (1 ≤ a ∧ a ≤ 5 ∧ 1 ≤ b ∧ b ≤ 5) ∧ k = 1 ∧ J2 = J ∧ M2 = M ∧ t2 = t)
theorem bd_setSize (bd : BD J M t) (sp : SPz J M t a b k v J2 M2 t2) : BD J2 M2 t2 := by
  rcases sp with ⟨c1, -, -, rfl, rfl, rfl⟩ | ⟨-, -, rfl, rfl, rfl⟩
  · exact ⟨by omega, by omega, by omega, by omega, fun k hk => ⟨Int.le_refl _, (by decide : (0 : Int) ≤ 99)⟩⟩
  · exact bd
theorem zs_setSize (oh : OH A F J M t) (bd : BD J M t) (ha : rg a) (hb : rg b) (hQ : ∀ J2 M2 t2, SQ A F q J2 M2 t2 (fun k v => SPz J M t a b k v J2 M2 t2) Q) : Ew 175 [vR 0, .inl a, .inl b, vR 59] (mk A F q) Q := by
  have oh9 := oh
  obtain ⟨rfl, hJ, hM, -⟩ := oh
  obtain ⟨J1, J5, M1, M5, ht⟩ := bd
  have b1 := allS_bd ht J5 M5
  rw [wq_175]
  by_cases c1 : 1 ≤ a ∧ a ≤ 5 ∧ 1 ≤ b ∧ b ≤ 5
  · rw [o_setSize hJ hM J5 M5 c1.1 c1.2.1 c1.2.2.1 c1.2.2.2, wv_175 ⟨by omega, by omega⟩]
    exact SQ_v (hQ a.toNat b.toNat (fun _ => 0)) (Or.inl ⟨c1, rfl, rfl, rfl, rfl, rfl⟩) (OH_new (by rw [uf_n (by decide), uf_n (by decide), uf_s]; omega) (by rw [uf_n (by decide), uf_s]; omega) uf_s) OFr_3 (fun k hk => by rw [uf_n (by omega), uf_n (by omega), uf_n (by omega)])
  · rw [o_setSizex ha hb (by omega), wx_175_1]
    exact SQ_x (v := 0) (hQ J M (A 3)) oh9 (Or.inr ⟨c1, rfl, rfl, rfl, rfl⟩) (by decide)
theorem zm_setSize (mh : MH A F J M t) (bd : BD J M t) (ha : rg a) (hb : rg b) (sp : SPz J M t a b k v J2 M2 t2) (hQ : MQz A F q J2 M2 t2 k v Q) : Ew 121 [vR 48, .inl a, .inl b] (mk A F q) Q := by
  have mh9 := mh
  obtain ⟨rfl, hJ, hM⟩ := mh
  obtain ⟨J1, J5, M1, M5, ht⟩ := bd
  have b1 := allS_bd ht J5 M5
  rcases sp with ⟨c1, rfl, rfl, rfl, rfl, rfl⟩ | ⟨c1, rfl, rfl, rfl, rfl⟩
  · rw [m_setSize hJ hM J5 M5 c1.1 c1.2.1 c1.2.2.1 c1.2.2.2]
    exact hQ _ _ _ ⟨ua_s, by rw [uf_n (by decide), uf_s]; omega, by rw [uf_s]; omega⟩ MFr_49 (fun k hk => by rw [uf_n (by omega), uf_n (by omega), uf_n (by omega)]) (by rw [uf_n (by decide), uf_n (by decide), uf_s]) (fun _ => rfl) ⟨by omega, by omega⟩
  · rw [m_setSizex ha hb (by omega)]
    exact MQ_s hQ mh9 (fun h => absurd h (by decide)) rg0
abbrev SPs (J M : Nat) (t : Nat → Int) (a b c k v : Int) (J2 M2 : Nat) (t2 : Nat → Int) : Prop := ((0 ≤ a ∧ a < J ∧ 0 ≤ b ∧ b < M) ∧ (0 ≤ c ∧ c ≤ 99) ∧ k = 0 ∧ v = t (5 * a.toNat + b.toNat) ∧ J2 = J ∧ M2 = M ∧ t2 = uq t (5 * a.toNat + b.toNat) c) ∨ (¬ (0 ≤ a ∧ a < J ∧ 0 ≤ b ∧ b < M) ∧ k = 1 ∧ J2 = J ∧ M2 = M ∧ t2 = t) ∨ ((0 ≤ a ∧ a < J ∧ 0 ≤ b ∧ b < M) ∧ ¬ (0 ≤ c ∧ c ≤ 99) ∧ k = 2 ∧ J2 = J ∧ M2 = M ∧ t2 = t)
theorem bd_set (bd : BD J M t) (sp : SPs J M t a b c k v J2 M2 t2) : BD J2 M2 t2 := by
  rcases sp with ⟨c1, c2, -, -, rfl, rfl, rfl⟩ | ⟨-, -, rfl, rfl, rfl⟩ | ⟨-, -, -, rfl, rfl, rfl⟩
  · exact ⟨bd.1, bd.2.1, bd.2.2.1, bd.2.2.2.1, uq_ok bd.2.2.2.2 c2.1 c2.2⟩
  · exact bd
  · exact bd
theorem zs_set (oh : OH A F J M t) (bd : BD J M t) (ha : rg a) (hb : rg b) (hc : rg c) (hQ : ∀ J2 M2 t2, SQ A F q J2 M2 t2 (fun k v => SPs J M t a b c k v J2 M2 t2) Q) : Ew 176 [vR 0, .inl a, .inl b, .inl c, vR 59] (mk A F q) Q := by
  have oh9 := oh
  obtain ⟨rfl, hJ, hM, -⟩ := oh
  obtain ⟨J1, J5, M1, M5, ht⟩ := bd
  rw [wq_176]
  by_cases c1 : 0 ≤ a ∧ a < J ∧ 0 ≤ b ∧ b < M
  · by_cases c2 : 0 ≤ c ∧ c ≤ 99
    · have b1 := ht (5 * a.toNat + b.toNat) (by omega)
      rw [o_set hJ hM J5 M5 c1.1 c1.2.1 c1.2.2.1 c1.2.2.2 c2.1 c2.2, wv_176 ⟨by omega, by omega⟩]
      exact SQ_v (hQ J M (uq (A 3) (5 * a.toNat + b.toNat) c)) (Or.inl ⟨c1, c2, rfl, rfl, rfl, rfl, rfl⟩) (OH_new (by rw [uf_n (by decide)]; exact hJ) (by rw [uf_n (by decide)]; exact hM) uf_s) OFr_3 (fun k hk => uf_n (by omega))
    · rw [o_sety hJ hM J5 M5 c1.1 c1.2.1 c1.2.2.1 c1.2.2.2 hc (by omega), wx_176_1]
      exact SQ_x (v := 0) (hQ J M (A 3)) oh9 (Or.inr (Or.inr ⟨c1, c2, rfl, rfl, rfl, rfl⟩)) (by decide)
  · rw [o_setx hJ hM J5 M5 ha hb (by omega), wx_176_0]
    exact SQ_x (v := 0) (hQ J M (A 3)) oh9 (Or.inr (Or.inl ⟨c1, rfl, rfl, rfl, rfl⟩)) (by decide)
theorem zm_set (mh : MH A F J M t) (bd : BD J M t) (ha : rg a) (hb : rg b) (hc : rg c) (sp : SPs J M t a b c k v J2 M2 t2) (hQ : MQz A F q J2 M2 t2 k v Q) : Ew 123 [vR 48, .inl a, .inl b, .inl c] (mk A F q) Q := by
  have mh9 := mh
  obtain ⟨rfl, hJ, hM⟩ := mh
  obtain ⟨J1, J5, M1, M5, ht⟩ := bd
  rcases sp with ⟨c1, c2, rfl, rfl, rfl, rfl, rfl⟩ | ⟨c1, rfl, rfl, rfl, rfl⟩ | ⟨c1, c2, rfl, rfl, rfl, rfl⟩
  · have b1 := ht (5 * a.toNat + b.toNat) (by omega)
    rw [m_set hJ hM J5 M5 c1.1 c1.2.1 c1.2.2.1 c1.2.2.2 c2.1 c2.2]
    exact hQ _ _ _ ⟨u2_s, mJ8 hJ, mM8 hM⟩ MFr_49 (fun k hk => uf_n (by omega)) uf_s (fun _ => rfl) ⟨by omega, by omega⟩
  · rw [m_setx hJ hM J5 M5 ha hb (by omega)]
    exact MQ_s hQ mh9 (fun h => absurd h (by decide)) rg0
  · rw [m_sety hJ hM J5 M5 c1.1 c1.2.1 c1.2.2.1 c1.2.2.2 hc (by omega)]
    exact MQ_s hQ mh9 (fun h => absurd h (by decide)) rg0
abbrev SPj (J M : Nat) (t : Nat → Int) (a b c k v : Int) (J2 M2 : Nat) (t2 : Nat → Int) : Prop := ((0 ≤ a ∧ a < J) ∧ (0 ≤ b ∧ b ≤ 99 ∧ 0 ≤ c ∧ c ≤ 99) ∧ k = 0 ∧ v = rowS (stj t a.toNat b c M) M a.toNat ∧ J2 = J ∧ M2 = M ∧ t2 = stj t a.toNat b c M) ∨ (¬ (0 ≤ a ∧ a < J) ∧ k = 1 ∧ J2 = J ∧ M2 = M ∧ t2 = t) ∨ ((0 ≤ a ∧ a < J) ∧ ¬ (0 ≤ b ∧ b ≤ 99 ∧ 0 ≤ c ∧ c ≤ 99) ∧ k = 2 ∧ J2 = J ∧ M2 = M ∧ t2 = t)
theorem bd_setJob (bd : BD J M t) (sp : SPj J M t a b c k v J2 M2 t2) : BD J2 M2 t2 := by
  rcases sp with ⟨c1, c2, -, -, rfl, rfl, rfl⟩ | ⟨-, -, rfl, rfl, rfl⟩ | ⟨-, -, -, rfl, rfl, rfl⟩
  · exact ⟨bd.1, bd.2.1, bd.2.2.1, bd.2.2.2.1, stj_ok bd.2.2.2.2⟩
  · exact bd
  · exact bd
theorem zs_setJob (oh : OH A F J M t) (bd : BD J M t) (ha : rg a) (hb : rg b) (hc : rg c) (hQ : ∀ J2 M2 t2, SQ A F q J2 M2 t2 (fun k v => SPj J M t a b c k v J2 M2 t2) Q) : Ew 177 [vR 0, .inl a, .inl b, .inl c, vR 59] (mk A F q) Q := by
  have oh9 := oh
  obtain ⟨rfl, hJ, hM, -⟩ := oh
  obtain ⟨J1, J5, M1, M5, ht⟩ := bd
  rw [wq_177]
  by_cases c1 : 0 ≤ a ∧ a < J
  · by_cases c2 : 0 ≤ b ∧ b ≤ 99 ∧ 0 ≤ c ∧ c ≤ 99
    · have b1 := rowS_bd (stj_ok (a := a.toNat) (n := M) (s := b) (d := c) ht) M5 (show a.toNat < 5 by omega)
      rw [o_setJob hJ hM J5 M5 c1.1 c1.2 c2.1 c2.2.1 c2.2.2.1 c2.2.2.2, wv_177 ⟨by omega, by omega⟩]
      exact SQ_v (hQ J M (stj (A 3) a.toNat b c M)) (Or.inl ⟨c1, c2, rfl, rfl, rfl, rfl, rfl⟩) (OH_new (by rw [uf_n (by decide)]; exact hJ) (by rw [uf_n (by decide)]; exact hM) uf_s) OFr_3 (fun k hk => uf_n (by omega))
    · rw [o_setJoby hJ J5 c1.1 c1.2 hb hc (by omega), wx_177_1]
      exact SQ_x (v := 0) (hQ J M (A 3)) oh9 (Or.inr (Or.inr ⟨c1, c2, rfl, rfl, rfl, rfl⟩)) (by decide)
  · rw [o_setJobx hJ J5 ha (by omega), wx_177_0]
    exact SQ_x (v := 0) (hQ J M (A 3)) oh9 (Or.inr (Or.inl ⟨c1, rfl, rfl, rfl, rfl⟩)) (by decide)
theorem zm_setJob (mh : MH A F J M t) (bd : BD J M t) (ha : rg a) (hb : rg b) (hc : rg c) (sp : SPj J M t a b c k v J2 M2 t2) (hQ : MQz A F q J2 M2 t2 k v Q) : Ew 124 [vR 48, .inl a, .inl b, .inl c] (mk A F q) Q := by
  have mh9 := mh
  obtain ⟨rfl, hJ, hM⟩ := mh
  obtain ⟨J1, J5, M1, M5, ht⟩ := bd
  rcases sp with ⟨c1, c2, rfl, rfl, rfl, rfl, rfl⟩ | ⟨c1, rfl, rfl, rfl, rfl⟩ | ⟨c1, c2, rfl, rfl, rfl, rfl⟩
  · have b1 := rowS_bd (stj_ok (a := a.toNat) (n := M2) (s := b) (d := c) ht) M5 (show a.toNat < 5 by omega)
    rw [m_setJob hJ hM J5 M5 c1.1 c1.2 c2.1 c2.2.1 c2.2.2.1 c2.2.2.2]
    exact hQ _ _ _ ⟨ua_s, mJ8 hJ, mM8 hM⟩ MFr_49 (fun k hk => uf_n (by omega)) uf_s (fun _ => rfl) ⟨by omega, by omega⟩
  · rw [m_setJobx hJ J5 ha (by omega)]
    exact MQ_s hQ mh9 (fun h => absurd h (by decide)) rg0
  · rw [m_setJoby hJ J5 c1.1 c1.2 hb hc (by omega)]
    exact MQ_s hQ mh9 (fun h => absurd h (by decide)) rg0
abbrev SPw (J M : Nat) (t : Nat → Int) (a b k v : Int) (J2 M2 : Nat) (t2 : Nat → Int) : Prop := ((0 ≤ a ∧ a < J ∧ 0 ≤ b ∧ b < J) ∧ k = 0 ∧ v = rowS (swp t a.toNat b.toNat M) M a.toNat ∧ J2 = J ∧ M2 = M ∧ t2 = swp t a.toNat b.toNat M) ∨ (¬ (0 ≤ a ∧ a < J ∧ 0 ≤ b ∧ b < J) ∧ k = 1 ∧ J2 = J ∧ M2 = M ∧ t2 = t)
theorem bd_swap (bd : BD J M t) (sp : SPw J M t a b k v J2 M2 t2) : BD J2 M2 t2 := by
  rcases sp with ⟨c1, -, -, rfl, rfl, rfl⟩ | ⟨-, -, rfl, rfl, rfl⟩
  · have J5 := bd.2.1
    exact ⟨bd.1, bd.2.1, bd.2.2.1, bd.2.2.2.1, swp_ok bd.2.2.2.2 (by omega) (by omega)⟩
  · exact bd
theorem zs_swap (oh : OH A F J M t) (bd : BD J M t) (ha : rg a) (hb : rg b) (hQ : ∀ J2 M2 t2, SQ A F q J2 M2 t2 (fun k v => SPw J M t a b k v J2 M2 t2) Q) : Ew 178 [vR 0, .inl a, .inl b, vR 59] (mk A F q) Q := by
  have oh9 := oh
  obtain ⟨rfl, hJ, hM, -⟩ := oh
  obtain ⟨J1, J5, M1, M5, ht⟩ := bd
  rw [wq_178]
  by_cases c1 : 0 ≤ a ∧ a < J ∧ 0 ≤ b ∧ b < J
  · have b1 := rowS_bd (swp_ok (n := M) ht (show a.toNat < 5 by omega) (show b.toNat < 5 by omega)) M5 (show a.toNat < 5 by omega)
    rw [o_swap hJ hM J5 M5 c1.1 c1.2.1 c1.2.2.1 c1.2.2.2, wv_178 ⟨by omega, by omega⟩]
    exact SQ_v (hQ J M (swp (A 3) a.toNat b.toNat M)) (Or.inl ⟨c1, rfl, rfl, rfl, rfl, rfl⟩) (OH_new (by rw [uf_n (by decide)]; exact hJ) (by rw [uf_n (by decide)]; exact hM) uf_s) OFr_3 (fun k hk => uf_n (by omega))
  · rw [o_swapx hJ J5 ha hb (by omega), wx_178_0]
    exact SQ_x (v := 0) (hQ J M (A 3)) oh9 (Or.inr ⟨c1, rfl, rfl, rfl, rfl⟩) (by decide)
theorem zm_swap (mh : MH A F J M t) (bd : BD J M t) (ha : rg a) (hb : rg b) (sp : SPw J M t a b k v J2 M2 t2) (hQ : MQz A F q J2 M2 t2 k v Q) : Ew 125 [vR 48, .inl a, .inl b] (mk A F q) Q := by
  have mh9 := mh
  obtain ⟨rfl, hJ, hM⟩ := mh
  obtain ⟨J1, J5, M1, M5, ht⟩ := bd
  rcases sp with ⟨c1, rfl, rfl, rfl, rfl, rfl⟩ | ⟨c1, rfl, rfl, rfl, rfl⟩
  · have b1 := rowS_bd (swp_ok (n := M2) ht (show a.toNat < 5 by omega) (show b.toNat < 5 by omega)) M5 (show a.toNat < 5 by omega)
    rw [m_swap hJ hM J5 M5 c1.1 c1.2.1 c1.2.2.1 c1.2.2.2]
    exact hQ _ _ _ ⟨ua_s, mJ8 hJ, mM8 hM⟩ MFr_49 (fun k hk => uf_n (by omega)) uf_s (fun _ => rfl) ⟨by omega, by omega⟩
  · rw [m_swapx hJ J5 ha hb (by omega)]
    exact MQ_s hQ mh9 (fun h => absurd h (by decide)) rg0
theorem bd_turn (bd : BD J M t) : BD M J (trn t 5 0) := ⟨bd.2.2.1, bd.2.2.2.1, bd.1, bd.2.1, trn_ok bd.2.2.2.2⟩
theorem zs_turn (oh : OH A F J M t) (bd : BD J M t) (hQ : SN A F q M J (trn t 5 0) (fun v => v = bnd (trn t 5 0) M J) Q) : Ew 80 [vR 0] (mk A F q) Q := by
  obtain ⟨rfl, hJ, hM, -⟩ := oh
  obtain ⟨J1, J5, M1, M5, ht⟩ := bd
  have b1 := bnd_bd (trn_ok ht) M5 J5
  rw [o_turn hJ hM J5 M5 ht]
  exact hQ _ _ _ rfl (OH_new (by rw [uf_n (by decide), uf_n (by decide), uf_s]; exact hM) (by rw [uf_n (by decide), uf_s]; exact hJ) uf_s) OFr_3 (fun k hk => by rw [uf_n (by omega), uf_n (by omega), uf_n (by omega)]) ⟨by omega, by omega⟩
theorem zm_turn (mh : MH A F J M t) (bd : BD J M t) (sp : v = bnd (trn t 5 0) M J) (hQ : MN A F q M J (trn t 5 0) v Q) : Ew 126 [vR 48] (mk A F q) Q := by
  obtain ⟨rfl, hJ, hM⟩ := mh
  obtain ⟨J1, J5, M1, M5, ht⟩ := bd
  rw [m_turn hJ hM J5 M5 ht, ← sp]
  exact hQ _ _ ⟨ua_s, by rw [uf_n (by decide), uf_s]; exact hM, by rw [uf_s]; exact hJ⟩ MFr_49 (fun k hk => by rw [uf_n (by omega), uf_n (by omega), uf_n (by omega)])
end HALF3
