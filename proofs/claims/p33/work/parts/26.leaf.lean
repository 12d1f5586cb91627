/-! rows and grids -/
def gt (l : List Int) (i : Int) : Int := if 0 ≤ i ∧ i < l.length then l.getD i.toNat 0 else 0
def pt (l : List Int) (i v : Int) : List Int := if 0 ≤ i ∧ i < l.length then l.set i.toNat v else l
theorem rT {z : Int} (h1 : -2147483648 ≤ z) (h2 : z ≤ 2147483647) : rg z = True := eq_true ⟨h1, h2⟩
theorem bT0 : b01 0 = True := eq_true (Or.inl rfl)
theorem bT1 : b01 1 = True := eq_true (Or.inr rfl)
theorem row_get {h : AH} {q a : Nat} {l : List Int} {i : Int} {Q : AR → Prop} (h1 : gf h q 5 0 = some (vR a)) (h2 : ga h a 0 = some l) (hl : l.length ≤ 100000) (hi : rg i) : Ew 39 [vR q, vI i] h Q ↔ Q (.inl (some (.inl (gt l i))), h) := by
  have hrl : rg (l.length : Int) = True := rT (by omega) (by omega)
  have hi := eq_true hi
  unfold Ew
  rw [rc_39 h1 rfl, lc_39]
  by_cases c1 : i < 0
  · have e9 : gt l i = 0 := by unfold gt; rw [if_neg (by omega)]
    simp only [r39_0, r39_1, r39_4, r39_5, r39_6, r39_9, r39_10, r39_13, r39_14, r39_17, r39_18, r39_19, r39_22, r39_23, Cn_n, Cn_v, Cn_x, dp_0, dp_1, dp_2, dp_3, dp_4, okv_n, okv_i, okv_r, eq_self, true_and, and_true, Option.some.injEq, exists_eq_left', hi, c1, if_true, e9]
  · by_cases c2 : i < l.length
    · have e9 : gt l i = l.getD i.toNat 0 := by unfold gt; rw [if_pos (by omega)]
      have c3 : 0 ≤ i := by omega
      simp only [r39_0, r39_1, r39_4, r39_5, r39_6, r39_9, r39_10, r39_13, r39_14, r39_17, r39_18, r39_19, r39_22, r39_23, Cn_n, Cn_v, Cn_x, dp_0, dp_1, dp_2, dp_3, dp_4, okv_n, okv_i, okv_r, eq_self, true_and, and_true, Option.some.injEq, exists_eq_left', hi, hrl, h1, h2, c1, c2, c3, if_true, if_false, e9]
    · have e9 : gt l i = 0 := by unfold gt; rw [if_neg (by omega)]
      simp only [r39_0, r39_1, r39_4, r39_5, r39_6, r39_9, r39_10, r39_13, r39_14, r39_17, r39_18, r39_19, r39_22, r39_23, Cn_n, Cn_v, Cn_x, dp_0, dp_1, dp_2, dp_3, dp_4, okv_n, okv_i, okv_r, eq_self, true_and, and_true, Option.some.injEq, exists_eq_left', hi, hrl, h1, h2, c1, c2, if_true, if_false, e9]
theorem row_put {h : AH} {q a : Nat} {l : List Int} {i v : Int} {Q : AR → Prop} (h1 : gf h q 5 0 = some (vR a)) (h2 : ga h a 0 = some l) (hid : sa h a 0 l = h) (hl : l.length ≤ 100000) (hi : rg i) : Ew 40 [vR q, vI i, vI v] h Q ↔ Q (.inl none, sa h a 0 (pt l i v)) := by
  have hrl : rg (l.length : Int) = True := rT (by omega) (by omega)
  have hi := eq_true hi
  unfold Ew
  rw [rc_40 h1 rfl rfl, lc_40]
  by_cases c1 : i < 0
  · have e9 : pt l i v = l := by unfold pt; rw [if_neg (by omega)]
    simp only [r40_0, r40_1, r40_4, r40_5, r40_6, r40_9, r40_10, r40_13, r40_14, r40_17, r40_18, r40_19, r40_20, Cn_n, Cn_v, Cn_x, dp_0, dp_1, dp_2, dp_3, dp_4, okv_n, okv_i, okv_r, eq_self, true_and, and_true, Option.some.injEq, exists_eq_left', hi, c1, if_true, e9, hid]
  · by_cases c2 : i < l.length
    · have e9 : pt l i v = l.set i.toNat v := by unfold pt; rw [if_pos (by omega)]
      have c3 : 0 ≤ i := by omega
      simp only [r40_0, r40_1, r40_4, r40_5, r40_6, r40_9, r40_10, r40_13, r40_14, r40_17, r40_18, r40_19, r40_20, Cn_n, Cn_v, Cn_x, dp_0, dp_1, dp_2, dp_3, dp_4, okv_n, okv_i, okv_r, eq_self, true_and, and_true, Option.some.injEq, exists_eq_left', hi, hrl, h1, h2, c1, c2, c3, if_true, if_false, e9]
    · have e9 : pt l i v = l := by unfold pt; rw [if_neg (by omega)]
      simp only [r40_0, r40_1, r40_4, r40_5, r40_6, r40_9, r40_10, r40_13, r40_14, r40_17, r40_18, r40_19, r40_20, Cn_n, Cn_v, Cn_x, dp_0, dp_1, dp_2, dp_3, dp_4, okv_n, okv_i, okv_r, eq_self, true_and, and_true, Option.some.injEq, exists_eq_left', hi, hrl, h1, h2, c1, c2, if_true, if_false, e9, hid]
def gg (c : Int) (l : List Int) (i j : Int) : Int := if 0 ≤ i ∧ 0 ≤ j ∧ j < c then gt l (i * c + j) else 0
def pg (c : Int) (l : List Int) (i j v : Int) : List Int := if 0 ≤ i ∧ 0 ≤ j ∧ j < c then pt l (i * c + j) v else l
theorem grid_get {h : AH} {q a : Nat} {c : Int} {l : List Int} {i j : Int} {Q : AR → Prop} (h0 : gf h q 1 0 = some (vI c)) (h1 : gf h q 1 1 = some (vR a)) (h2 : ga h a 0 = some l) (hl : l.length ≤ 100000) (hc : rg c) (hi : rg i) (hj : rg j) (hx : rg (i * c + j)) : Ew 11 [vR q, vI i, vI j] h Q ↔ Q (.inl (some (.inl (gg c l i j))), h) := by
  have hrl : rg (l.length : Int) = True := rT (by omega) (by omega)
  have hi := eq_true hi
  have hj := eq_true hj
  have hc := eq_true hc
  have hx := eq_true hx
  unfold Ew
  rw [rc_11 h1 rfl rfl, lc_11]
  by_cases c1 : i < 0
  · have e9 : gg c l i j = 0 := by unfold gg; rw [if_neg (by omega)]
    simp only [r11_0, r11_1, r11_2, r11_5, r11_6, r11_7, r11_8, r11_9, r11_10, r11_13, r11_14, r11_17, r11_18, r11_19, r11_22, r11_25, r11_26, r11_29, r11_30, r11_31, r11_34, r11_35, r11_38, r11_39, r11_42, r11_43, r11_44, r11_47, r11_48, Cn_n, Cn_v, Cn_x, dp_0, dp_1, dp_2, dp_3, dp_4, okv_n, okv_i, okv_r, eq_self, true_and, and_true, Option.some.injEq, exists_eq_left', h0, hi, c1, if_true, e9]
  · by_cases c2 : j < 0
    · have e9 : gg c l i j = 0 := by unfold gg; rw [if_neg (by omega)]
      simp only [r11_0, r11_1, r11_2, r11_5, r11_6, r11_7, r11_8, r11_9, r11_10, r11_13, r11_14, r11_17, r11_18, r11_19, r11_22, r11_25, r11_26, r11_29, r11_30, r11_31, r11_34, r11_35, r11_38, r11_39, r11_42, r11_43, r11_44, r11_47, r11_48, Cn_n, Cn_v, Cn_x, dp_0, dp_1, dp_2, dp_3, dp_4, okv_n, okv_i, okv_r, eq_self, true_and, and_true, Option.some.injEq, exists_eq_left', h0, hi, hj, c1, c2, if_true, if_false, e9]
    · by_cases c3 : j < c
      · have e8 : gg c l i j = gt l (i * c + j) := by unfold gg; rw [if_pos (by omega)]
        by_cases c4 : i * c + j < 0
        · have e9 : gt l (i * c + j) = 0 := by unfold gt; rw [if_neg (by omega)]
          simp only [r11_0, r11_1, r11_2, r11_5, r11_6, r11_7, r11_8, r11_9, r11_10, r11_13, r11_14, r11_17, r11_18, r11_19, r11_22, r11_25, r11_26, r11_29, r11_30, r11_31, r11_34, r11_35, r11_38, r11_39, r11_42, r11_43, r11_44, r11_47, r11_48, Cn_n, Cn_v, Cn_x, dp_0, dp_1, dp_2, dp_3, dp_4, okv_n, okv_i, okv_r, eq_self, true_and, and_true, Option.some.injEq, exists_eq_left', h0, hi, hj, hc, hx, c1, c2, c3, c4, if_true, if_false, e8, e9]
        · by_cases c5 : i * c + j < l.length
          · have e9 : gt l (i * c + j) = l.getD (i * c + j).toNat 0 := by unfold gt; rw [if_pos (by omega)]
            have c6 : 0 ≤ i * c + j := by omega
            simp only [r11_0, r11_1, r11_2, r11_5, r11_6, r11_7, r11_8, r11_9, r11_10, r11_13, r11_14, r11_17, r11_18, r11_19, r11_22, r11_25, r11_26, r11_29, r11_30, r11_31, r11_34, r11_35, r11_38, r11_39, r11_42, r11_43, r11_44, r11_47, r11_48, Cn_n, Cn_v, Cn_x, dp_0, dp_1, dp_2, dp_3, dp_4, okv_n, okv_i, okv_r, eq_self, true_and, and_true, Option.some.injEq, exists_eq_left', h0, h1, h2, hi, hj, hc, hx, hrl, c1, c2, c3, c4, c5, c6, if_true, if_false, e8, e9]
          · have e9 : gt l (i * c + j) = 0 := by unfold gt; rw [if_neg (by omega)]
            simp only [r11_0, r11_1, r11_2, r11_5, r11_6, r11_7, r11_8, r11_9, r11_10, r11_13, r11_14, r11_17, r11_18, r11_19, r11_22, r11_25, r11_26, r11_29, r11_30, r11_31, r11_34, r11_35, r11_38, r11_39, r11_42, r11_43, r11_44, r11_47, r11_48, Cn_n, Cn_v, Cn_x, dp_0, dp_1, dp_2, dp_3, dp_4, okv_n, okv_i, okv_r, eq_self, true_and, and_true, Option.some.injEq, exists_eq_left', h0, h1, h2, hi, hj, hc, hx, hrl, c1, c2, c3, c4, c5, if_true, if_false, e8, e9]
      · have e9 : gg c l i j = 0 := by unfold gg; rw [if_neg (by omega)]
        simp only [r11_0, r11_1, r11_2, r11_5, r11_6, r11_7, r11_8, r11_9, r11_10, r11_13, r11_14, r11_17, r11_18, r11_19, r11_22, r11_25, r11_26, r11_29, r11_30, r11_31, r11_34, r11_35, r11_38, r11_39, r11_42, r11_43, r11_44, r11_47, r11_48, Cn_n, Cn_v, Cn_x, dp_0, dp_1, dp_2, dp_3, dp_4, okv_n, okv_i, okv_r, eq_self, true_and, and_true, Option.some.injEq, exists_eq_left', h0, hi, hj, hc, c1, c2, c3, if_true, if_false, e9]
theorem grid_put {h : AH} {q a : Nat} {c : Int} {l : List Int} {i j v : Int} {Q : AR → Prop} (h0 : gf h q 1 0 = some (vI c)) (h1 : gf h q 1 1 = some (vR a)) (h2 : ga h a 0 = some l) (hid : sa h a 0 l = h) (hl : l.length ≤ 100000) (hc : rg c) (hi : rg i) (hj : rg j) (hx : rg (i * c + j)) : Ew 12 [vR q, vI i, vI j, vI v] h Q ↔ Q (.inl none, sa h a 0 (pg c l i j v)) := by
  have hrl : rg (l.length : Int) = True := rT (by omega) (by omega)
  have hi := eq_true hi
  have hj := eq_true hj
  have hc := eq_true hc
  have hx := eq_true hx
  unfold Ew
  rw [rc_12 h1 rfl rfl rfl, lc_12]
  by_cases c1 : i < 0
  · have e9 : pg c l i j v = l := by unfold pg; rw [if_neg (by omega)]
    simp only [r12_0, r12_1, r12_2, r12_5, r12_6, r12_7, r12_8, r12_10, r12_11, r12_14, r12_15, r12_18, r12_19, r12_20, r12_23, r12_26, r12_28, r12_31, r12_33, r12_34, r12_37, r12_38, r12_41, r12_42, r12_45, r12_47, r12_48, r12_49, Cn_n, Cn_v, Cn_x, dp_0, dp_1, dp_2, dp_3, dp_4, okv_n, okv_i, okv_r, eq_self, true_and, and_true, Option.some.injEq, exists_eq_left', h0, hi, c1, if_true, e9, hid]
  · by_cases c2 : j < 0
    · have e9 : pg c l i j v = l := by unfold pg; rw [if_neg (by omega)]
      simp only [r12_0, r12_1, r12_2, r12_5, r12_6, r12_7, r12_8, r12_10, r12_11, r12_14, r12_15, r12_18, r12_19, r12_20, r12_23, r12_26, r12_28, r12_31, r12_33, r12_34, r12_37, r12_38, r12_41, r12_42, r12_45, r12_47, r12_48, r12_49, Cn_n, Cn_v, Cn_x, dp_0, dp_1, dp_2, dp_3, dp_4, okv_n, okv_i, okv_r, eq_self, true_and, and_true, Option.some.injEq, exists_eq_left', h0, hi, hj, c1, c2, if_true, if_false, e9, hid]
    · by_cases c3 : j < c
      · have e8 : pg c l i j v = pt l (i * c + j) v := by unfold pg; rw [if_pos (by omega)]
        by_cases c4 : i * c + j < 0
        · have e9 : pt l (i * c + j) v = l := by unfold pt; rw [if_neg (by omega)]
          simp only [r12_0, r12_1, r12_2, r12_5, r12_6, r12_7, r12_8, r12_10, r12_11, r12_14, r12_15, r12_18, r12_19, r12_20, r12_23, r12_26, r12_28, r12_31, r12_33, r12_34, r12_37, r12_38, r12_41, r12_42, r12_45, r12_47, r12_48, r12_49, Cn_n, Cn_v, Cn_x, dp_0, dp_1, dp_2, dp_3, dp_4, okv_n, okv_i, okv_r, eq_self, true_and, and_true, Option.some.injEq, exists_eq_left', h0, hi, hj, hc, hx, c1, c2, c3, c4, if_true, if_false, e8, e9, hid]
        · by_cases c5 : i * c + j < l.length
          · have e9 : pt l (i * c + j) v = l.set (i * c + j).toNat v := by unfold pt; rw [if_pos (by omega)]
            have c6 : 0 ≤ i * c + j := by omega
            simp only [r12_0, r12_1, r12_2, r12_5, r12_6, r12_7, r12_8, r12_10, r12_11, r12_14, r12_15, r12_18, r12_19, r12_20, r12_23, r12_26, r12_28, r12_31, r12_33, r12_34, r12_37, r12_38, r12_41, r12_42, r12_45, r12_47, r12_48, r12_49, Cn_n, Cn_v, Cn_x, dp_0, dp_1, dp_2, dp_3, dp_4, okv_n, okv_i, okv_r, eq_self, true_and, and_true, Option.some.injEq, exists_eq_left', h0, h1, h2, hi, hj, hc, hx, hrl, c1, c2, c3, c4, c5, c6, if_true, if_false, e8, e9]
          · have e9 : pt l (i * c + j) v = l := by unfold pt; rw [if_neg (by omega)]
            simp only [r12_0, r12_1, r12_2, r12_5, r12_6, r12_7, r12_8, r12_10, r12_11, r12_14, r12_15, r12_18, r12_19, r12_20, r12_23, r12_26, r12_28, r12_31, r12_33, r12_34, r12_37, r12_38, r12_41, r12_42, r12_45, r12_47, r12_48, r12_49, Cn_n, Cn_v, Cn_x, dp_0, dp_1, dp_2, dp_3, dp_4, okv_n, okv_i, okv_r, eq_self, true_and, and_true, Option.some.injEq, exists_eq_left', h0, h1, h2, hi, hj, hc, hx, hrl, c1, c2, c3, c4, c5, if_true, if_false, e8, e9, hid]
      · have e9 : pg c l i j v = l := by unfold pg; rw [if_neg (by omega)]
        simp only [r12_0, r12_1, r12_2, r12_5, r12_6, r12_7, r12_8, r12_10, r12_11, r12_14, r12_15, r12_18, r12_19, r12_20, r12_23, r12_26, r12_28, r12_31, r12_33, r12_34, r12_37, r12_38, r12_41, r12_42, r12_45, r12_47, r12_48, r12_49, Cn_n, Cn_v, Cn_x, dp_0, dp_1, dp_2, dp_3, dp_4, okv_n, okv_i, okv_r, eq_self, true_and, and_true, Option.some.injEq, exists_eq_left', h0, hi, hj, hc, c1, c2, c3, if_true, if_false, e9, hid]
theorem gf_sa {h : AH} {a t : Nat} {l l2 : List Int} {q c j : Nat} (h2 : ga h a t = some l) : gf (sa h a t l2) q c j = gf h q c j := by
  unfold ga at h2
  unfold gf sa
  by_cases e9 : a = q
  · subst e9
    split at h2
    · rename_i c9 l9 hc9
      have hl := (List.getElem?_eq_some_iff.mp hc9).1
      simp only [List.getElem?_set_self hl, hc9]
    · cases h2
  · simp only [List.getElem?_set_ne e9]
theorem ga_sa {h : AH} {a t : Nat} {l l2 : List Int} (h2 : ga h a t = some l) : ga (sa h a t l2) a t = some l2 := by
  unfold ga at h2 ⊢
  unfold sa
  split at h2
  · rename_i c9 l9 hc9
    have hl := (List.getElem?_eq_some_iff.mp hc9).1
    simp only [List.getElem?_set_self hl, if_true]
  · cases h2
theorem sa_sa {h : AH} {a t : Nat} {l l2 : List Int} : sa (sa h a t l) a t l2 = sa h a t l2 := by
  unfold sa
  simp only [List.set_set]
/-- filled up to a place -/
def fl (l : List Int) (v : Int) (i : Nat) : List Int := List.replicate i v ++ l.drop i
theorem fl_len {l : List Int} {v : Int} {i : Nat} (h : i ≤ l.length) : (fl l v i).length = l.length := by simp [fl]; omega
theorem fl_set {l : List Int} {v : Int} {i : Nat} (h : i < l.length) : (fl l v i).set i v = fl l v (i + 1) := by
  unfold fl
  rw [List.set_append, if_neg (by simp), List.length_replicate, Nat.sub_self, List.drop_eq_getElem_cons h, List.set_cons_zero, List.replicate_succ', List.append_assoc]
  rfl
theorem fl_end {l : List Int} {v : Int} : fl l v l.length = List.replicate l.length v := by simp [fl]
theorem fl_0 {l : List Int} {v : Int} : fl l v 0 = l := by simp [fl]
theorem sa_id {h : AH} {a t : Nat} {l : List Int} (h2 : ga h a t = some l) : sa h a t l = h := by
  unfold ga at h2
  unfold sa
  split at h2
  · rename_i c9 l9 hc9
    split at h2
    · rename_i e9
      cases h2
      subst e9
      have hl := List.getElem?_eq_some_iff.mp hc9
      rw [← hl.2, List.set_getElem_self]
    · cases h2
  · cases h2
theorem rgT {z : Int} (h1 : -2147483648 ≤ z) (h2 : z ≤ 2147483647) : rg z ↔ True := iff_true_intro ⟨h1, h2⟩
theorem ixT {i : Int} {n : Int} (h0 : 0 ≤ i) (h1 : i < n) (h2 : i ≤ 2147483647) : (0 ≤ i ∧ i < n ∧ rg i) ↔ True := iff_true_intro ⟨h0, h1, by omega, h2⟩
theorem ixU {i : Int} {n : Int} (h0 : 0 ≤ i) (h1 : i < n) : (0 ≤ i ∧ i < n) ↔ True := iff_true_intro ⟨h0, h1⟩
theorem row_fill {h : AH} {q a : Nat} {l : List Int} {v : Int} {Q : AR → Prop} (h1 : gf h q 5 0 = some (vR a)) (h2 : ga h a 0 = some l) (hl : l.length ≤ 100000) : Ew 41 [vR q, vI v] h Q ↔ Q (.inl none, sa h a 0 (List.replicate l.length v)) := by
  refine Ew_iff ⟨rc_41 h1 rfl, ?_⟩
  rw [lc_41]
  simp only [r41_0, r41_1, r41_3, r41_4, r41_7, r41_8, r41_11, r41_12, r41_15, r41_16, r41_17, r41_18, r41_21, r41_24, Cn_n, Cn_v, Cn_x, dp_0, dp_1, dp_2, dp_3, dp_4, okv_n, okv_i, okv_r, eq_self, true_and, and_true, Option.some.injEq, exists_eq_left']
  have key := Rn_for (fun i => Wp 41 2 [some (vR q), some (vI v), some (vI (i : Int))] [] (sa h a 0 (fl l v i)) (fun r => r = (.inl none, sa h a 0 (List.replicate l.length v)))) l.length (fun i hi ih => ?_) ?_
  · rw [fl_0, sa_id h2] at key
    exact key
  · rw [r41_2]
    simp (disch := omega) only [r41_0, r41_1, r41_3, r41_4, r41_7, r41_8, r41_11, r41_12, r41_15, r41_16, r41_17, r41_18, r41_21, r41_24, Cn_n, Cn_v, Cn_x, dp_0, dp_1, dp_2, dp_3, dp_4, okv_n, okv_i, okv_r, eq_self, true_and, and_true, Option.some.injEq, exists_eq_left', rgT, ixT, ixU, ↓if_pos, ↓if_neg, Int.toNat_natCast, bT0, bT1, gf_sa h2, ga_sa h2, h1, fl_len (Nat.le_of_lt hi), sa_sa, fl_set hi]
    exact ih
  · rw [r41_2, fl_end]
    simp (disch := omega) only [r41_0, r41_1, r41_3, r41_4, r41_7, r41_8, r41_11, r41_12, r41_15, r41_16, r41_17, r41_18, r41_21, r41_24, Cn_n, Cn_v, Cn_x, dp_0, dp_1, dp_2, dp_3, dp_4, okv_n, okv_i, okv_r, eq_self, true_and, and_true, Option.some.injEq, exists_eq_left', rgT, ixT, ixU, ↓if_pos, ↓if_neg, Int.toNat_natCast, bT0, bT1, gf_sa h2, ga_sa h2, h1, List.length_replicate]
theorem grid_fill {h : AH} {q a : Nat} {l : List Int} {v : Int} {Q : AR → Prop} (h1 : gf h q 1 1 = some (vR a)) (h2 : ga h a 0 = some l) (hl : l.length ≤ 100000) : Ew 14 [vR q, vI v] h Q ↔ Q (.inl none, sa h a 0 (List.replicate l.length v)) := by
  refine Ew_iff ⟨rc_14 h1 rfl, ?_⟩
  rw [lc_14]
  simp only [r14_0, r14_1, r14_3, r14_4, r14_7, r14_8, r14_11, r14_12, r14_15, r14_16, r14_17, r14_18, r14_21, r14_24, Cn_n, Cn_v, Cn_x, dp_0, dp_1, dp_2, dp_3, dp_4, okv_n, okv_i, okv_r, eq_self, true_and, and_true, Option.some.injEq, exists_eq_left']
  have key := Rn_for (fun i => Wp 14 2 [some (vR q), some (vI v), some (vI (i : Int))] [] (sa h a 0 (fl l v i)) (fun r => r = (.inl none, sa h a 0 (List.replicate l.length v)))) l.length (fun i hi ih => ?_) ?_
  · rw [fl_0, sa_id h2] at key
    exact key
  · rw [r14_2]
    simp (disch := omega) only [r14_0, r14_1, r14_3, r14_4, r14_7, r14_8, r14_11, r14_12, r14_15, r14_16, r14_17, r14_18, r14_21, r14_24, Cn_n, Cn_v, Cn_x, dp_0, dp_1, dp_2, dp_3, dp_4, okv_n, okv_i, okv_r, eq_self, true_and, and_true, Option.some.injEq, exists_eq_left', rgT, ixT, ixU, ↓if_pos, ↓if_neg, Int.toNat_natCast, bT0, bT1, gf_sa h2, ga_sa h2, h1, fl_len (Nat.le_of_lt hi), sa_sa, fl_set hi]
    exact ih
  · rw [r14_2, fl_end]
    simp (disch := omega) only [r14_0, r14_1, r14_3, r14_4, r14_7, r14_8, r14_11, r14_12, r14_15, r14_16, r14_17, r14_18, r14_21, r14_24, Cn_n, Cn_v, Cn_x, dp_0, dp_1, dp_2, dp_3, dp_4, okv_n, okv_i, okv_r, eq_self, true_and, and_true, Option.some.injEq, exists_eq_left', rgT, ixT, ixU, ↓if_pos, ↓if_neg, Int.toNat_natCast, bT0, bT1, gf_sa h2, ga_sa h2, h1, List.length_replicate]
