/-! rows and grids -/
def gt (l : List Int) (i : Int) : Int := if 0 ≤ i ∧ i < l.length then l.getD i.toNat 0 else 0
def pt (l : List Int) (i v : Int) : List Int := if 0 ≤ i ∧ i < l.length then l.set i.toNat v else l
theorem row_get {h : AH} {q a : Nat} {l : List Int} {i : Int} {Q : AR → Prop} (h1 : gf h q 5 0 = some (vR a)) (h2 : ga h a 0 = some l) (hl : l.length ≤ 100000) (hi : rg i) : Ew 39 [vR q, vI i] h Q ↔ Q (.inl (some (.inl (gt l i))), h) := by
  have hrl : rg (l.length : Int) := ⟨by omega, by omega⟩
  unfold Ew
  rw [rc_39 h1 rfl, lc_39]
  by_cases c1 : i < 0
  · have e9 : gt l i = 0 := by unfold gt; rw [if_neg (by omega)]
    simp only [r39_0, r39_1, r39_4, r39_5, r39_6, r39_9, r39_10, r39_13, r39_14, r39_17, r39_18, r39_19, r39_22, r39_23, Cn_n, Cn_v, Cn_x, dp_0, dp_1, dp_2, dp_3, dp_4, okv_n, okv_i, okv_r, eq_self, true_and, and_true, Option.some.injEq, exists_eq_left', hi, c1, if_true, e9]
  · by_cases c2 : i < l.length
    · have e9 : gt l i = l.getD i.toNat 0 := by unfold gt; rw [if_pos (by omega)]
      have c3 : 0 ≤ i := by omega
      simp only [r39_0, r39_1, r39_4, r39_5, r39_6, r39_9, r39_10, r39_13, r39_14, r39_17, r39_18, r39_19, r39_22, r39_23, Cn_n, Cn_v, Cn_x, dp_0, dp_1, dp_2, dp_3, dp_4, okv_n, okv_i, okv_r, eq_self, true_and, and_true, Option.some.injEq, exists_eq_left', hi, hrl, h1, h2, c1, c2, c3, if_true, if_false, e9]
    · have e9 : gt l i = 0 := by unfold gt; rw [if_neg (by omega)]
      simp only [r39_0, r39_1, r39_4, r39_5, r39_6, r39_9, r39_10, r39_13, r39_14, r39_17, r39_18, r39_19, r39_22, r39_23, Cn_n, Cn_v, Cn_x, dp_0, dp_1, dp_2, dp_3, dp_4, okv_n, okv_i, okv_r, eq_self, true_and, and_true, Option.some.injEq, exists_eq_left', hi, hrl, h1, h2, c1, c2, if_true, if_false, e9]
