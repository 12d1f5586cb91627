/-! the law's wrappers: the call, a value, an exception -/
section WRAP
variable {A : Nat → Nat → Int} {F : Nat → Int} {q : List Int × Nat} {Q : AR → Prop} {i0 i1 i2 v : Int}
theorem wq_175 : Ew 175 [vR 0, .inl i0, .inl i1, vR 59] (mk A F q) Q ↔ Ew 76 [vR 0, .inl i0, .inl i1] (mk A F q) (fun x => Ch 175 5 8 [some (vR 0), some (.inl i0), some (.inl i1), some (vR 59), none] [.inl 0, vR 59] x Q) := by
  have h0 : Ew 175 [vR 0, .inl i0, .inl i1, vR 59] (mk A F q) Q ↔ Wp 175 0 [some (vR 0), some (.inl i0), some (.inl i1), some (vR 59), none] [] (mk A F q) Q := by
    unfold Ew
    rw [rc_175 rfl rfl rfl rfl, lc_175]
    exact ⟨fun h => h.2, fun h => ⟨rfl, h⟩⟩
  rw [h0]
  simp only [r175_0, r175_1, r175_2, r175_3, r175_4, r175_5, Cn_n, Cn_v, Cn_x, dp_0, dp_1, dp_2, dp_3, dp_4, okv_n, okv_i, okv_r, eq_self, true_and, and_true, Option.some.injEq, exists_eq_left']
theorem wv_175 (hv : rg v) : Ch 175 5 8 [some (vR 0), some (.inl i0), some (.inl i1), some (vR 59), none] [.inl 0, vR 59] (.inl (some (.inl v)), mk A F q) Q ↔ Q (.inl (some (.inl 0)), mk (u2 A 59 0 v) F q) := by
  obtain ⟨h1, h2⟩ := hv
  simp (disch := omega) only [r175_8, r175_9, r175_10, r175_13, r175_15, r175_16, r175_17, r175_18, Ch_v, Cn_n, Cn_v, Cn_x, dp_0, dp_1, dp_2, dp_3, dp_4, okv_n, okv_i, okv_r, eq_self, true_and, and_true, Option.some.injEq, exists_eq_left', rgT, ixT, ixU, ↓if_pos, ↓if_neg, Int.toNat_natCast, bT0, bT1, a_59, b_59, d_59, tab_len, tn0]
theorem wx_175_1 : Ch 175 5 8 [some (vR 0), some (.inl i0), some (.inl i1), some (vR 59), none] [.inl 0, vR 59] (.inr 1, mk A F q) Q ↔ Q (.inl (some (.inl 1)), mk A F q) := by
  have hh : hnd 175 5 1 = some (0, 10, 13, 13) := by decide +kernel
  have hi : ins 175 13 = some (4, 15, 4, 0, 0) := rfl
  have e : Ch 175 5 8 [some (vR 0), some (.inl i0), some (.inl i1), some (vR 59), none] [.inl 0, vR 59] (.inr 1, mk A F q) Q ↔ ((4 < ([some (vR 0), some (.inl i0), some (.inl i1), some (vR 59), none] : AL).length ∧ okst [some (vR 0), some (.inl i0), some (.inl i1), some (vR 59), none] 4 = true) ∧ Wp 175 15 (([some (vR 0), some (.inl i0), some (.inl i1), some (vR 59), none] : AL).set 4 none) [] (mk A F q) Q) := by
    unfold Ch
    simp only [hh, hi]
  rw [e]
  have hc : (4 < ([some (vR 0), some (.inl i0), some (.inl i1), some (vR 59), none] : AL).length ∧ okst [some (vR 0), some (.inl i0), some (.inl i1), some (vR 59), none] 4 = true) := ⟨(by decide : 4 < 5), rfl⟩
  have e2 : Wp 175 15 (([some (vR 0), some (.inl i0), some (.inl i1), some (vR 59), none] : AL).set 4 none) [] (mk A F q) Q ↔ Wp 175 15 [some (vR 0), some (.inl i0), some (.inl i1), some (vR 59), none] [] (mk A F q) Q := Iff.rfl
  rw [e2]
  simp only [r175_15, r175_16, r175_17, r175_18, Cn_n, Cn_v, Cn_x, dp_0, dp_1, dp_2, dp_3, dp_4, okv_n, okv_i, okv_r, eq_self, true_and, and_true, Option.some.injEq, exists_eq_left']
  exact ⟨fun h => h.2, fun h => ⟨hc, h⟩⟩
theorem wq_176 : Ew 176 [vR 0, .inl i0, .inl i1, .inl i2, vR 59] (mk A F q) Q ↔ Ew 77 [vR 0, .inl i0, .inl i1, .inl i2] (mk A F q) (fun x => Ch 176 7 10 [some (vR 0), some (.inl i0), some (.inl i1), some (.inl i2), some (vR 59), none] [.inl 0, vR 59] x Q) := by
  have h0 : Ew 176 [vR 0, .inl i0, .inl i1, .inl i2, vR 59] (mk A F q) Q ↔ Wp 176 0 [some (vR 0), some (.inl i0), some (.inl i1), some (.inl i2), some (vR 59), none] [] (mk A F q) Q := by
    unfold Ew
    rw [rc_176 rfl rfl rfl rfl rfl, lc_176]
    exact ⟨fun h => h.2, fun h => ⟨rfl, h⟩⟩
  rw [h0]
  simp only [r176_0, r176_2, r176_3, r176_4, r176_5, r176_6, r176_7, Cn_n, Cn_v, Cn_x, dp_0, dp_1, dp_2, dp_3, dp_4, okv_n, okv_i, okv_r, eq_self, true_and, and_true, Option.some.injEq, exists_eq_left']
theorem wv_176 (hv : rg v) : Ch 176 7 10 [some (vR 0), some (.inl i0), some (.inl i1), some (.inl i2), some (vR 59), none] [.inl 0, vR 59] (.inl (some (.inl v)), mk A F q) Q ↔ Q (.inl (some (.inl 0)), mk (u2 A 59 0 v) F q) := by
  obtain ⟨h1, h2⟩ := hv
  simp (disch := omega) only [r176_10, r176_11, r176_12, r176_15, r176_17, r176_18, r176_19, r176_21, r176_22, r176_23, r176_24, Ch_v, Cn_n, Cn_v, Cn_x, dp_0, dp_1, dp_2, dp_3, dp_4, okv_n, okv_i, okv_r, eq_self, true_and, and_true, Option.some.injEq, exists_eq_left', rgT, ixT, ixU, ↓if_pos, ↓if_neg, Int.toNat_natCast, bT0, bT1, a_59, b_59, d_59, tab_len, tn0]
theorem wx_176_0 : Ch 176 7 10 [some (vR 0), some (.inl i0), some (.inl i1), some (.inl i2), some (vR 59), none] [.inl 0, vR 59] (.inr 0, mk A F q) Q ↔ Q (.inl (some (.inl 1)), mk A F q) := by
  have hh : hnd 176 7 0 = some (0, 12, 15, 19) := by decide +kernel
  have hi : ins 176 15 = some (4, 17, 5, 0, 0) := rfl
  have e : Ch 176 7 10 [some (vR 0), some (.inl i0), some (.inl i1), some (.inl i2), some (vR 59), none] [.inl 0, vR 59] (.inr 0, mk A F q) Q ↔ ((5 < ([some (vR 0), some (.inl i0), some (.inl i1), some (.inl i2), some (vR 59), none] : AL).length ∧ okst [some (vR 0), some (.inl i0), some (.inl i1), some (.inl i2), some (vR 59), none] 5 = true) ∧ Wp 176 17 (([some (vR 0), some (.inl i0), some (.inl i1), some (.inl i2), some (vR 59), none] : AL).set 5 none) [] (mk A F q) Q) := by
    unfold Ch
    simp only [hh, hi]
  rw [e]
  have hc : (5 < ([some (vR 0), some (.inl i0), some (.inl i1), some (.inl i2), some (vR 59), none] : AL).length ∧ okst [some (vR 0), some (.inl i0), some (.inl i1), some (.inl i2), some (vR 59), none] 5 = true) := ⟨(by decide : 5 < 6), rfl⟩
  have e2 : Wp 176 17 (([some (vR 0), some (.inl i0), some (.inl i1), some (.inl i2), some (vR 59), none] : AL).set 5 none) [] (mk A F q) Q ↔ Wp 176 17 [some (vR 0), some (.inl i0), some (.inl i1), some (.inl i2), some (vR 59), none] [] (mk A F q) Q := Iff.rfl
  rw [e2]
  simp only [r176_17, r176_18, r176_19, r176_21, r176_22, r176_23, r176_24, Cn_n, Cn_v, Cn_x, dp_0, dp_1, dp_2, dp_3, dp_4, okv_n, okv_i, okv_r, eq_self, true_and, and_true, Option.some.injEq, exists_eq_left']
  exact ⟨fun h => h.2, fun h => ⟨hc, h⟩⟩
theorem wx_176_1 : Ch 176 7 10 [some (vR 0), some (.inl i0), some (.inl i1), some (.inl i2), some (vR 59), none] [.inl 0, vR 59] (.inr 1, mk A F q) Q ↔ Q (.inl (some (.inl 2)), mk A F q) := by
  have hh : hnd 176 7 1 = some (0, 12, 19, 13) := by decide +kernel
  have hi : ins 176 19 = some (4, 21, 5, 0, 0) := rfl
  have e : Ch 176 7 10 [some (vR 0), some (.inl i0), some (.inl i1), some (.inl i2), some (vR 59), none] [.inl 0, vR 59] (.inr 1, mk A F q) Q ↔ ((5 < ([some (vR 0), some (.inl i0), some (.inl i1), some (.inl i2), some (vR 59), none] : AL).length ∧ okst [some (vR 0), some (.inl i0), some (.inl i1), some (.inl i2), some (vR 59), none] 5 = true) ∧ Wp 176 21 (([some (vR 0), some (.inl i0), some (.inl i1), some (.inl i2), some (vR 59), none] : AL).set 5 none) [] (mk A F q) Q) := by
    unfold Ch
    simp only [hh, hi]
  rw [e]
  have hc : (5 < ([some (vR 0), some (.inl i0), some (.inl i1), some (.inl i2), some (vR 59), none] : AL).length ∧ okst [some (vR 0), some (.inl i0), some (.inl i1), some (.inl i2), some (vR 59), none] 5 = true) := ⟨(by decide : 5 < 6), rfl⟩
  have e2 : Wp 176 21 (([some (vR 0), some (.inl i0), some (.inl i1), some (.inl i2), some (vR 59), none] : AL).set 5 none) [] (mk A F q) Q ↔ Wp 176 21 [some (vR 0), some (.inl i0), some (.inl i1), some (.inl i2), some (vR 59), none] [] (mk A F q) Q := Iff.rfl
  rw [e2]
  simp only [r176_21, r176_22, r176_23, r176_24, Cn_n, Cn_v, Cn_x, dp_0, dp_1, dp_2, dp_3, dp_4, okv_n, okv_i, okv_r, eq_self, true_and, and_true, Option.some.injEq, exists_eq_left']
  exact ⟨fun h => h.2, fun h => ⟨hc, h⟩⟩
theorem wq_177 : Ew 177 [vR 0, .inl i0, .inl i1, .inl i2, vR 59] (mk A F q) Q ↔ Ew 78 [vR 0, .inl i0, .inl i1, .inl i2] (mk A F q) (fun x => Ch 177 7 10 [some (vR 0), some (.inl i0), some (.inl i1), some (.inl i2), some (vR 59), none] [.inl 0, vR 59] x Q) := by
  have h0 : Ew 177 [vR 0, .inl i0, .inl i1, .inl i2, vR 59] (mk A F q) Q ↔ Wp 177 0 [some (vR 0), some (.inl i0), some (.inl i1), some (.inl i2), some (vR 59), none] [] (mk A F q) Q := by
    unfold Ew
    rw [rc_177 rfl rfl rfl rfl rfl, lc_177]
    exact ⟨fun h => h.2, fun h => ⟨rfl, h⟩⟩
  rw [h0]
  simp only [r177_0, r177_2, r177_3, r177_4, r177_5, r177_6, r177_7, Cn_n, Cn_v, Cn_x, dp_0, dp_1, dp_2, dp_3, dp_4, okv_n, okv_i, okv_r, eq_self, true_and, and_true, Option.some.injEq, exists_eq_left']
theorem wv_177 (hv : rg v) : Ch 177 7 10 [some (vR 0), some (.inl i0), some (.inl i1), some (.inl i2), some (vR 59), none] [.inl 0, vR 59] (.inl (some (.inl v)), mk A F q) Q ↔ Q (.inl (some (.inl 0)), mk (u2 A 59 0 v) F q) := by
  obtain ⟨h1, h2⟩ := hv
  simp (disch := omega) only [r177_10, r177_11, r177_12, r177_15, r177_17, r177_18, r177_19, r177_21, r177_22, r177_23, r177_24, Ch_v, Cn_n, Cn_v, Cn_x, dp_0, dp_1, dp_2, dp_3, dp_4, okv_n, okv_i, okv_r, eq_self, true_and, and_true, Option.some.injEq, exists_eq_left', rgT, ixT, ixU, ↓if_pos, ↓if_neg, Int.toNat_natCast, bT0, bT1, a_59, b_59, d_59, tab_len, tn0]
theorem wx_177_0 : Ch 177 7 10 [some (vR 0), some (.inl i0), some (.inl i1), some (.inl i2), some (vR 59), none] [.inl 0, vR 59] (.inr 0, mk A F q) Q ↔ Q (.inl (some (.inl 1)), mk A F q) := by
  have hh : hnd 177 7 0 = some (0, 12, 15, 19) := by decide +kernel
  have hi : ins 177 15 = some (4, 17, 5, 0, 0) := rfl
  have e : Ch 177 7 10 [some (vR 0), some (.inl i0), some (.inl i1), some (.inl i2), some (vR 59), none] [.inl 0, vR 59] (.inr 0, mk A F q) Q ↔ ((5 < ([some (vR 0), some (.inl i0), some (.inl i1), some (.inl i2), some (vR 59), none] : AL).length ∧ okst [some (vR 0), some (.inl i0), some (.inl i1), some (.inl i2), some (vR 59), none] 5 = true) ∧ Wp 177 17 (([some (vR 0), some (.inl i0), some (.inl i1), some (.inl i2), some (vR 59), none] : AL).set 5 none) [] (mk A F q) Q) := by
    unfold Ch
    simp only [hh, hi]
  rw [e]
  have hc : (5 < ([some (vR 0), some (.inl i0), some (.inl i1), some (.inl i2), some (vR 59), none] : AL).length ∧ okst [some (vR 0), some (.inl i0), some (.inl i1), some (.inl i2), some (vR 59), none] 5 = true) := ⟨(by decide : 5 < 6), rfl⟩
  have e2 : Wp 177 17 (([some (vR 0), some (.inl i0), some (.inl i1), some (.inl i2), some (vR 59), none] : AL).set 5 none) [] (mk A F q) Q ↔ Wp 177 17 [some (vR 0), some (.inl i0), some (.inl i1), some (.inl i2), some (vR 59), none] [] (mk A F q) Q := Iff.rfl
  rw [e2]
  simp only [r177_17, r177_18, r177_19, r177_21, r177_22, r177_23, r177_24, Cn_n, Cn_v, Cn_x, dp_0, dp_1, dp_2, dp_3, dp_4, okv_n, okv_i, okv_r, eq_self, true_and, and_true, Option.some.injEq, exists_eq_left']
  exact ⟨fun h => h.2, fun h => ⟨hc, h⟩⟩
theorem wx_177_1 : Ch 177 7 10 [some (vR 0), some (.inl i0), some (.inl i1), some (.inl i2), some (vR 59), none] [.inl 0, vR 59] (.inr 1, mk A F q) Q ↔ Q (.inl (some (.inl 2)), mk A F q) := by
  have hh : hnd 177 7 1 = some (0, 12, 19, 13) := by decide +kernel
  have hi : ins 177 19 = some (4, 21, 5, 0, 0) := rfl
  have e : Ch 177 7 10 [some (vR 0), some (.inl i0), some (.inl i1), some (.inl i2), some (vR 59), none] [.inl 0, vR 59] (.inr 1, mk A F q) Q ↔ ((5 < ([some (vR 0), some (.inl i0), some (.inl i1), some (.inl i2), some (vR 59), none] : AL).length ∧ okst [some (vR 0), some (.inl i0), some (.inl i1), some (.inl i2), some (vR 59), none] 5 = true) ∧ Wp 177 21 (([some (vR 0), some (.inl i0), some (.inl i1), some (.inl i2), some (vR 59), none] : AL).set 5 none) [] (mk A F q) Q) := by
    unfold Ch
    simp only [hh, hi]
  rw [e]
  have hc : (5 < ([some (vR 0), some (.inl i0), some (.inl i1), some (.inl i2), some (vR 59), none] : AL).length ∧ okst [some (vR 0), some (.inl i0), some (.inl i1), some (.inl i2), some (vR 59), none] 5 = true) := ⟨(by decide : 5 < 6), rfl⟩
  have e2 : Wp 177 21 (([some (vR 0), some (.inl i0), some (.inl i1), some (.inl i2), some (vR 59), none] : AL).set 5 none) [] (mk A F q) Q ↔ Wp 177 21 [some (vR 0), some (.inl i0), some (.inl i1), some (.inl i2), some (vR 59), none] [] (mk A F q) Q := Iff.rfl
  rw [e2]
  simp only [r177_21, r177_22, r177_23, r177_24, Cn_n, Cn_v, Cn_x, dp_0, dp_1, dp_2, dp_3, dp_4, okv_n, okv_i, okv_r, eq_self, true_and, and_true, Option.some.injEq, exists_eq_left']
  exact ⟨fun h => h.2, fun h => ⟨hc, h⟩⟩
theorem wq_178 : Ew 178 [vR 0, .inl i0, .inl i1, vR 59] (mk A F q) Q ↔ Ew 79 [vR 0, .inl i0, .inl i1] (mk A F q) (fun x => Ch 178 5 8 [some (vR 0), some (.inl i0), some (.inl i1), some (vR 59), none] [.inl 0, vR 59] x Q) := by
  have h0 : Ew 178 [vR 0, .inl i0, .inl i1, vR 59] (mk A F q) Q ↔ Wp 178 0 [some (vR 0), some (.inl i0), some (.inl i1), some (vR 59), none] [] (mk A F q) Q := by
    unfold Ew
    rw [rc_178 rfl rfl rfl rfl, lc_178]
    exact ⟨fun h => h.2, fun h => ⟨rfl, h⟩⟩
  rw [h0]
  simp only [r178_0, r178_1, r178_2, r178_3, r178_4, r178_5, Cn_n, Cn_v, Cn_x, dp_0, dp_1, dp_2, dp_3, dp_4, okv_n, okv_i, okv_r, eq_self, true_and, and_true, Option.some.injEq, exists_eq_left']
theorem wv_178 (hv : rg v) : Ch 178 5 8 [some (vR 0), some (.inl i0), some (.inl i1), some (vR 59), none] [.inl 0, vR 59] (.inl (some (.inl v)), mk A F q) Q ↔ Q (.inl (some (.inl 0)), mk (u2 A 59 0 v) F q) := by
  obtain ⟨h1, h2⟩ := hv
  simp (disch := omega) only [r178_8, r178_9, r178_10, r178_13, r178_15, r178_16, r178_17, r178_18, Ch_v, Cn_n, Cn_v, Cn_x, dp_0, dp_1, dp_2, dp_3, dp_4, okv_n, okv_i, okv_r, eq_self, true_and, and_true, Option.some.injEq, exists_eq_left', rgT, ixT, ixU, ↓if_pos, ↓if_neg, Int.toNat_natCast, bT0, bT1, a_59, b_59, d_59, tab_len, tn0]
theorem wx_178_0 : Ch 178 5 8 [some (vR 0), some (.inl i0), some (.inl i1), some (vR 59), none] [.inl 0, vR 59] (.inr 0, mk A F q) Q ↔ Q (.inl (some (.inl 1)), mk A F q) := by
  have hh : hnd 178 5 0 = some (0, 10, 13, 19) := by decide +kernel
  have hi : ins 178 13 = some (4, 15, 4, 0, 0) := rfl
  have e : Ch 178 5 8 [some (vR 0), some (.inl i0), some (.inl i1), some (vR 59), none] [.inl 0, vR 59] (.inr 0, mk A F q) Q ↔ ((4 < ([some (vR 0), some (.inl i0), some (.inl i1), some (vR 59), none] : AL).length ∧ okst [some (vR 0), some (.inl i0), some (.inl i1), some (vR 59), none] 4 = true) ∧ Wp 178 15 (([some (vR 0), some (.inl i0), some (.inl i1), some (vR 59), none] : AL).set 4 none) [] (mk A F q) Q) := by
    unfold Ch
    simp only [hh, hi]
  rw [e]
  have hc : (4 < ([some (vR 0), some (.inl i0), some (.inl i1), some (vR 59), none] : AL).length ∧ okst [some (vR 0), some (.inl i0), some (.inl i1), some (vR 59), none] 4 = true) := ⟨(by decide : 4 < 5), rfl⟩
  have e2 : Wp 178 15 (([some (vR 0), some (.inl i0), some (.inl i1), some (vR 59), none] : AL).set 4 none) [] (mk A F q) Q ↔ Wp 178 15 [some (vR 0), some (.inl i0), some (.inl i1), some (vR 59), none] [] (mk A F q) Q := Iff.rfl
  rw [e2]
  simp only [r178_15, r178_16, r178_17, r178_18, Cn_n, Cn_v, Cn_x, dp_0, dp_1, dp_2, dp_3, dp_4, okv_n, okv_i, okv_r, eq_self, true_and, and_true, Option.some.injEq, exists_eq_left']
  exact ⟨fun h => h.2, fun h => ⟨hc, h⟩⟩
theorem wq_179 : Ew 179 [vR 0, .inl i0, .inl i1, vR 59] (mk A F q) Q ↔ Ew 83 [vR 0, .inl i0, .inl i1] (mk A F q) (fun x => Ch 179 5 8 [some (vR 0), some (.inl i0), some (.inl i1), some (vR 59), none] [.inl 0, vR 59] x Q) := by
  have h0 : Ew 179 [vR 0, .inl i0, .inl i1, vR 59] (mk A F q) Q ↔ Wp 179 0 [some (vR 0), some (.inl i0), some (.inl i1), some (vR 59), none] [] (mk A F q) Q := by
    unfold Ew
    rw [rc_179 rfl rfl rfl rfl, lc_179]
    exact ⟨fun h => h.2, fun h => ⟨rfl, h⟩⟩
  rw [h0]
  simp only [r179_0, r179_1, r179_2, r179_3, r179_4, r179_5, Cn_n, Cn_v, Cn_x, dp_0, dp_1, dp_2, dp_3, dp_4, okv_n, okv_i, okv_r, eq_self, true_and, and_true, Option.some.injEq, exists_eq_left']
theorem wv_179 (hv : rg v) : Ch 179 5 8 [some (vR 0), some (.inl i0), some (.inl i1), some (vR 59), none] [.inl 0, vR 59] (.inl (some (.inl v)), mk A F q) Q ↔ Q (.inl (some (.inl 0)), mk (u2 A 59 0 v) F q) := by
  obtain ⟨h1, h2⟩ := hv
  simp (disch := omega) only [r179_8, r179_9, r179_10, r179_13, r179_15, r179_16, r179_17, r179_18, Ch_v, Cn_n, Cn_v, Cn_x, dp_0, dp_1, dp_2, dp_3, dp_4, okv_n, okv_i, okv_r, eq_self, true_and, and_true, Option.some.injEq, exists_eq_left', rgT, ixT, ixU, ↓if_pos, ↓if_neg, Int.toNat_natCast, bT0, bT1, a_59, b_59, d_59, tab_len, tn0]
theorem wx_179_0 : Ch 179 5 8 [some (vR 0), some (.inl i0), some (.inl i1), some (vR 59), none] [.inl 0, vR 59] (.inr 0, mk A F q) Q ↔ Q (.inl (some (.inl 1)), mk A F q) := by
  have hh : hnd 179 5 0 = some (0, 10, 13, 19) := by decide +kernel
  have hi : ins 179 13 = some (4, 15, 4, 0, 0) := rfl
  have e : Ch 179 5 8 [some (vR 0), some (.inl i0), some (.inl i1), some (vR 59), none] [.inl 0, vR 59] (.inr 0, mk A F q) Q ↔ ((4 < ([some (vR 0), some (.inl i0), some (.inl i1), some (vR 59), none] : AL).length ∧ okst [some (vR 0), some (.inl i0), some (.inl i1), some (vR 59), none] 4 = true) ∧ Wp 179 15 (([some (vR 0), some (.inl i0), some (.inl i1), some (vR 59), none] : AL).set 4 none) [] (mk A F q) Q) := by
    unfold Ch
    simp only [hh, hi]
  rw [e]
  have hc : (4 < ([some (vR 0), some (.inl i0), some (.inl i1), some (vR 59), none] : AL).length ∧ okst [some (vR 0), some (.inl i0), some (.inl i1), some (vR 59), none] 4 = true) := ⟨(by decide : 4 < 5), rfl⟩
  have e2 : Wp 179 15 (([some (vR 0), some (.inl i0), some (.inl i1), some (vR 59), none] : AL).set 4 none) [] (mk A F q) Q ↔ Wp 179 15 [some (vR 0), some (.inl i0), some (.inl i1), some (vR 59), none] [] (mk A F q) Q := Iff.rfl
  rw [e2]
  simp only [r179_15, r179_16, r179_17, r179_18, Cn_n, Cn_v, Cn_x, dp_0, dp_1, dp_2, dp_3, dp_4, okv_n, okv_i, okv_r, eq_self, true_and, and_true, Option.some.injEq, exists_eq_left']
  exact ⟨fun h => h.2, fun h => ⟨hc, h⟩⟩
theorem wq_180 : Ew 180 [vR 0, .inl i0, vR 59] (mk A F q) Q ↔ Ew 84 [vR 0, .inl i0] (mk A F q) (fun x => Ch 180 4 7 [some (vR 0), some (.inl i0), some (vR 59), none] [.inl 0, vR 59] x Q) := by
  have h0 : Ew 180 [vR 0, .inl i0, vR 59] (mk A F q) Q ↔ Wp 180 0 [some (vR 0), some (.inl i0), some (vR 59), none] [] (mk A F q) Q := by
    unfold Ew
    rw [rc_180 rfl rfl rfl, lc_180]
    exact ⟨fun h => h.2, fun h => ⟨rfl, h⟩⟩
  rw [h0]
  simp only [r180_0, r180_1, r180_2, r180_3, r180_4, Cn_n, Cn_v, Cn_x, dp_0, dp_1, dp_2, dp_3, dp_4, okv_n, okv_i, okv_r, eq_self, true_and, and_true, Option.some.injEq, exists_eq_left']
theorem wv_180 (hv : rg v) : Ch 180 4 7 [some (vR 0), some (.inl i0), some (vR 59), none] [.inl 0, vR 59] (.inl (some (.inl v)), mk A F q) Q ↔ Q (.inl (some (.inl 0)), mk (u2 A 59 0 v) F q) := by
  obtain ⟨h1, h2⟩ := hv
  simp (disch := omega) only [r180_7, r180_8, r180_9, r180_12, r180_13, r180_14, r180_15, r180_16, Ch_v, Cn_n, Cn_v, Cn_x, dp_0, dp_1, dp_2, dp_3, dp_4, okv_n, okv_i, okv_r, eq_self, true_and, and_true, Option.some.injEq, exists_eq_left', rgT, ixT, ixU, ↓if_pos, ↓if_neg, Int.toNat_natCast, bT0, bT1, a_59, b_59, d_59, tab_len, tn0]
theorem wx_180_0 : Ch 180 4 7 [some (vR 0), some (.inl i0), some (vR 59), none] [.inl 0, vR 59] (.inr 0, mk A F q) Q ↔ Q (.inl (some (.inl 1)), mk A F q) := by
  have hh : hnd 180 4 0 = some (0, 9, 12, 19) := by decide +kernel
  have hi : ins 180 12 = some (4, 13, 3, 0, 0) := rfl
  have e : Ch 180 4 7 [some (vR 0), some (.inl i0), some (vR 59), none] [.inl 0, vR 59] (.inr 0, mk A F q) Q ↔ ((3 < ([some (vR 0), some (.inl i0), some (vR 59), none] : AL).length ∧ okst [some (vR 0), some (.inl i0), some (vR 59), none] 3 = true) ∧ Wp 180 13 (([some (vR 0), some (.inl i0), some (vR 59), none] : AL).set 3 none) [] (mk A F q) Q) := by
    unfold Ch
    simp only [hh, hi]
  rw [e]
  have hc : (3 < ([some (vR 0), some (.inl i0), some (vR 59), none] : AL).length ∧ okst [some (vR 0), some (.inl i0), some (vR 59), none] 3 = true) := ⟨(by decide : 3 < 4), rfl⟩
  have e2 : Wp 180 13 (([some (vR 0), some (.inl i0), some (vR 59), none] : AL).set 3 none) [] (mk A F q) Q ↔ Wp 180 13 [some (vR 0), some (.inl i0), some (vR 59), none] [] (mk A F q) Q := Iff.rfl
  rw [e2]
  simp only [r180_13, r180_14, r180_15, r180_16, Cn_n, Cn_v, Cn_x, dp_0, dp_1, dp_2, dp_3, dp_4, okv_n, okv_i, okv_r, eq_self, true_and, and_true, Option.some.injEq, exists_eq_left']
  exact ⟨fun h => h.2, fun h => ⟨hc, h⟩⟩
theorem wq_181 : Ew 181 [vR 0, .inl i0, vR 59] (mk A F q) Q ↔ Ew 85 [vR 0, .inl i0] (mk A F q) (fun x => Ch 181 4 7 [some (vR 0), some (.inl i0), some (vR 59), none] [.inl 0, vR 59] x Q) := by
  have h0 : Ew 181 [vR 0, .inl i0, vR 59] (mk A F q) Q ↔ Wp 181 0 [some (vR 0), some (.inl i0), some (vR 59), none] [] (mk A F q) Q := by
    unfold Ew
    rw [rc_181 rfl rfl rfl, lc_181]
    exact ⟨fun h => h.2, fun h => ⟨rfl, h⟩⟩
  rw [h0]
  simp only [r181_0, r181_1, r181_2, r181_3, r181_4, Cn_n, Cn_v, Cn_x, dp_0, dp_1, dp_2, dp_3, dp_4, okv_n, okv_i, okv_r, eq_self, true_and, and_true, Option.some.injEq, exists_eq_left']
theorem wv_181 (hv : rg v) : Ch 181 4 7 [some (vR 0), some (.inl i0), some (vR 59), none] [.inl 0, vR 59] (.inl (some (.inl v)), mk A F q) Q ↔ Q (.inl (some (.inl 0)), mk (u2 A 59 0 v) F q) := by
  obtain ⟨h1, h2⟩ := hv
  simp (disch := omega) only [r181_7, r181_8, r181_9, r181_12, r181_13, r181_14, r181_15, r181_16, Ch_v, Cn_n, Cn_v, Cn_x, dp_0, dp_1, dp_2, dp_3, dp_4, okv_n, okv_i, okv_r, eq_self, true_and, and_true, Option.some.injEq, exists_eq_left', rgT, ixT, ixU, ↓if_pos, ↓if_neg, Int.toNat_natCast, bT0, bT1, a_59, b_59, d_59, tab_len, tn0]
theorem wx_181_0 : Ch 181 4 7 [some (vR 0), some (.inl i0), some (vR 59), none] [.inl 0, vR 59] (.inr 0, mk A F q) Q ↔ Q (.inl (some (.inl 1)), mk A F q) := by
  have hh : hnd 181 4 0 = some (0, 9, 12, 19) := by decide +kernel
  have hi : ins 181 12 = some (4, 13, 3, 0, 0) := rfl
  have e : Ch 181 4 7 [some (vR 0), some (.inl i0), some (vR 59), none] [.inl 0, vR 59] (.inr 0, mk A F q) Q ↔ ((3 < ([some (vR 0), some (.inl i0), some (vR 59), none] : AL).length ∧ okst [some (vR 0), some (.inl i0), some (vR 59), none] 3 = true) ∧ Wp 181 13 (([some (vR 0), some (.inl i0), some (vR 59), none] : AL).set 3 none) [] (mk A F q) Q) := by
    unfold Ch
    simp only [hh, hi]
  rw [e]
  have hc : (3 < ([some (vR 0), some (.inl i0), some (vR 59), none] : AL).length ∧ okst [some (vR 0), some (.inl i0), some (vR 59), none] 3 = true) := ⟨(by decide : 3 < 4), rfl⟩
  have e2 : Wp 181 13 (([some (vR 0), some (.inl i0), some (vR 59), none] : AL).set 3 none) [] (mk A F q) Q ↔ Wp 181 13 [some (vR 0), some (.inl i0), some (vR 59), none] [] (mk A F q) Q := Iff.rfl
  rw [e2]
  simp only [r181_13, r181_14, r181_15, r181_16, Cn_n, Cn_v, Cn_x, dp_0, dp_1, dp_2, dp_3, dp_4, okv_n, okv_i, okv_r, eq_self, true_and, and_true, Option.some.injEq, exists_eq_left']
  exact ⟨fun h => h.2, fun h => ⟨hc, h⟩⟩
theorem wq_182 : Ew 182 [vR 0, .inl i0, .inl i1, vR 59] (mk A F q) Q ↔ Ew 89 [vR 0, .inl i0, .inl i1] (mk A F q) (fun x => Ch 182 5 8 [some (vR 0), some (.inl i0), some (.inl i1), some (vR 59), none] [.inl 0, vR 59] x Q) := by
  have h0 : Ew 182 [vR 0, .inl i0, .inl i1, vR 59] (mk A F q) Q ↔ Wp 182 0 [some (vR 0), some (.inl i0), some (.inl i1), some (vR 59), none] [] (mk A F q) Q := by
    unfold Ew
    rw [rc_182 rfl rfl rfl rfl, lc_182]
    exact ⟨fun h => h.2, fun h => ⟨rfl, h⟩⟩
  rw [h0]
  simp only [r182_0, r182_1, r182_2, r182_3, r182_4, r182_5, Cn_n, Cn_v, Cn_x, dp_0, dp_1, dp_2, dp_3, dp_4, okv_n, okv_i, okv_r, eq_self, true_and, and_true, Option.some.injEq, exists_eq_left']
theorem wv_182 (hv : rg v) : Ch 182 5 8 [some (vR 0), some (.inl i0), some (.inl i1), some (vR 59), none] [.inl 0, vR 59] (.inl (some (.inl v)), mk A F q) Q ↔ Q (.inl (some (.inl 0)), mk (u2 A 59 0 v) F q) := by
  obtain ⟨h1, h2⟩ := hv
  simp (disch := omega) only [r182_8, r182_9, r182_10, r182_13, r182_15, r182_16, r182_17, r182_18, Ch_v, Cn_n, Cn_v, Cn_x, dp_0, dp_1, dp_2, dp_3, dp_4, okv_n, okv_i, okv_r, eq_self, true_and, and_true, Option.some.injEq, exists_eq_left', rgT, ixT, ixU, ↓if_pos, ↓if_neg, Int.toNat_natCast, bT0, bT1, a_59, b_59, d_59, tab_len, tn0]
theorem wx_182_0 : Ch 182 5 8 [some (vR 0), some (.inl i0), some (.inl i1), some (vR 59), none] [.inl 0, vR 59] (.inr 0, mk A F q) Q ↔ Q (.inl (some (.inl 1)), mk A F q) := by
  have hh : hnd 182 5 0 = some (0, 10, 13, 19) := by decide +kernel
  have hi : ins 182 13 = some (4, 15, 4, 0, 0) := rfl
  have e : Ch 182 5 8 [some (vR 0), some (.inl i0), some (.inl i1), some (vR 59), none] [.inl 0, vR 59] (.inr 0, mk A F q) Q ↔ ((4 < ([some (vR 0), some (.inl i0), some (.inl i1), some (vR 59), none] : AL).length ∧ okst [some (vR 0), some (.inl i0), some (.inl i1), some (vR 59), none] 4 = true) ∧ Wp 182 15 (([some (vR 0), some (.inl i0), some (.inl i1), some (vR 59), none] : AL).set 4 none) [] (mk A F q) Q) := by
    unfold Ch
    simp only [hh, hi]
  rw [e]
  have hc : (4 < ([some (vR 0), some (.inl i0), some (.inl i1), some (vR 59), none] : AL).length ∧ okst [some (vR 0), some (.inl i0), some (.inl i1), some (vR 59), none] 4 = true) := ⟨(by decide : 4 < 5), rfl⟩
  have e2 : Wp 182 15 (([some (vR 0), some (.inl i0), some (.inl i1), some (vR 59), none] : AL).set 4 none) [] (mk A F q) Q ↔ Wp 182 15 [some (vR 0), some (.inl i0), some (.inl i1), some (vR 59), none] [] (mk A F q) Q := Iff.rfl
  rw [e2]
  simp only [r182_15, r182_16, r182_17, r182_18, Cn_n, Cn_v, Cn_x, dp_0, dp_1, dp_2, dp_3, dp_4, okv_n, okv_i, okv_r, eq_self, true_and, and_true, Option.some.injEq, exists_eq_left']
  exact ⟨fun h => h.2, fun h => ⟨hc, h⟩⟩
theorem wq_183 : Ew 183 [vR 0, .inl i0, vR 59] (mk A F q) Q ↔ Ew 91 [vR 0, .inl i0] (mk A F q) (fun x => Ch 183 4 7 [some (vR 0), some (.inl i0), some (vR 59), none] [.inl 0, vR 59] x Q) := by
  have h0 : Ew 183 [vR 0, .inl i0, vR 59] (mk A F q) Q ↔ Wp 183 0 [some (vR 0), some (.inl i0), some (vR 59), none] [] (mk A F q) Q := by
    unfold Ew
    rw [rc_183 rfl rfl rfl, lc_183]
    exact ⟨fun h => h.2, fun h => ⟨rfl, h⟩⟩
  rw [h0]
  simp only [r183_0, r183_1, r183_2, r183_3, r183_4, Cn_n, Cn_v, Cn_x, dp_0, dp_1, dp_2, dp_3, dp_4, okv_n, okv_i, okv_r, eq_self, true_and, and_true, Option.some.injEq, exists_eq_left']
theorem wv_183 (hv : rg v) : Ch 183 4 7 [some (vR 0), some (.inl i0), some (vR 59), none] [.inl 0, vR 59] (.inl (some (.inl v)), mk A F q) Q ↔ Q (.inl (some (.inl 0)), mk (u2 A 59 0 v) F q) := by
  obtain ⟨h1, h2⟩ := hv
  simp (disch := omega) only [r183_7, r183_8, r183_9, r183_12, r183_13, r183_14, r183_15, r183_16, Ch_v, Cn_n, Cn_v, Cn_x, dp_0, dp_1, dp_2, dp_3, dp_4, okv_n, okv_i, okv_r, eq_self, true_and, and_true, Option.some.injEq, exists_eq_left', rgT, ixT, ixU, ↓if_pos, ↓if_neg, Int.toNat_natCast, bT0, bT1, a_59, b_59, d_59, tab_len, tn0]
theorem wx_183_0 : Ch 183 4 7 [some (vR 0), some (.inl i0), some (vR 59), none] [.inl 0, vR 59] (.inr 0, mk A F q) Q ↔ Q (.inl (some (.inl 1)), mk A F q) := by
  have hh : hnd 183 4 0 = some (0, 9, 12, 19) := by decide +kernel
  have hi : ins 183 12 = some (4, 13, 3, 0, 0) := rfl
  have e : Ch 183 4 7 [some (vR 0), some (.inl i0), some (vR 59), none] [.inl 0, vR 59] (.inr 0, mk A F q) Q ↔ ((3 < ([some (vR 0), some (.inl i0), some (vR 59), none] : AL).length ∧ okst [some (vR 0), some (.inl i0), some (vR 59), none] 3 = true) ∧ Wp 183 13 (([some (vR 0), some (.inl i0), some (vR 59), none] : AL).set 3 none) [] (mk A F q) Q) := by
    unfold Ch
    simp only [hh, hi]
  rw [e]
  have hc : (3 < ([some (vR 0), some (.inl i0), some (vR 59), none] : AL).length ∧ okst [some (vR 0), some (.inl i0), some (vR 59), none] 3 = true) := ⟨(by decide : 3 < 4), rfl⟩
  have e2 : Wp 183 13 (([some (vR 0), some (.inl i0), some (vR 59), none] : AL).set 3 none) [] (mk A F q) Q ↔ Wp 183 13 [some (vR 0), some (.inl i0), some (vR 59), none] [] (mk A F q) Q := Iff.rfl
  rw [e2]
  simp only [r183_13, r183_14, r183_15, r183_16, Cn_n, Cn_v, Cn_x, dp_0, dp_1, dp_2, dp_3, dp_4, okv_n, okv_i, okv_r, eq_self, true_and, and_true, Option.some.injEq, exists_eq_left']
  exact ⟨fun h => h.2, fun h => ⟨hc, h⟩⟩
theorem wq_184 : Ew 184 [vR 0, .inl i0, vR 59] (mk A F q) Q ↔ Ew 92 [vR 0, .inl i0] (mk A F q) (fun x => Ch 184 4 7 [some (vR 0), some (.inl i0), some (vR 59), none] [.inl 0, vR 59] x Q) := by
  have h0 : Ew 184 [vR 0, .inl i0, vR 59] (mk A F q) Q ↔ Wp 184 0 [some (vR 0), some (.inl i0), some (vR 59), none] [] (mk A F q) Q := by
    unfold Ew
    rw [rc_184 rfl rfl rfl, lc_184]
    exact ⟨fun h => h.2, fun h => ⟨rfl, h⟩⟩
  rw [h0]
  simp only [r184_0, r184_1, r184_2, r184_3, r184_4, Cn_n, Cn_v, Cn_x, dp_0, dp_1, dp_2, dp_3, dp_4, okv_n, okv_i, okv_r, eq_self, true_and, and_true, Option.some.injEq, exists_eq_left']
theorem wv_184 (hv : rg v) : Ch 184 4 7 [some (vR 0), some (.inl i0), some (vR 59), none] [.inl 0, vR 59] (.inl (some (.inl v)), mk A F q) Q ↔ Q (.inl (some (.inl 0)), mk (u2 A 59 0 v) F q) := by
  obtain ⟨h1, h2⟩ := hv
  simp (disch := omega) only [r184_7, r184_8, r184_9, r184_12, r184_13, r184_14, r184_15, r184_16, Ch_v, Cn_n, Cn_v, Cn_x, dp_0, dp_1, dp_2, dp_3, dp_4, okv_n, okv_i, okv_r, eq_self, true_and, and_true, Option.some.injEq, exists_eq_left', rgT, ixT, ixU, ↓if_pos, ↓if_neg, Int.toNat_natCast, bT0, bT1, a_59, b_59, d_59, tab_len, tn0]
theorem wx_184_0 : Ch 184 4 7 [some (vR 0), some (.inl i0), some (vR 59), none] [.inl 0, vR 59] (.inr 0, mk A F q) Q ↔ Q (.inl (some (.inl 1)), mk A F q) := by
  have hh : hnd 184 4 0 = some (0, 9, 12, 19) := by decide +kernel
  have hi : ins 184 12 = some (4, 13, 3, 0, 0) := rfl
  have e : Ch 184 4 7 [some (vR 0), some (.inl i0), some (vR 59), none] [.inl 0, vR 59] (.inr 0, mk A F q) Q ↔ ((3 < ([some (vR 0), some (.inl i0), some (vR 59), none] : AL).length ∧ okst [some (vR 0), some (.inl i0), some (vR 59), none] 3 = true) ∧ Wp 184 13 (([some (vR 0), some (.inl i0), some (vR 59), none] : AL).set 3 none) [] (mk A F q) Q) := by
    unfold Ch
    simp only [hh, hi]
  rw [e]
  have hc : (3 < ([some (vR 0), some (.inl i0), some (vR 59), none] : AL).length ∧ okst [some (vR 0), some (.inl i0), some (vR 59), none] 3 = true) := ⟨(by decide : 3 < 4), rfl⟩
  have e2 : Wp 184 13 (([some (vR 0), some (.inl i0), some (vR 59), none] : AL).set 3 none) [] (mk A F q) Q ↔ Wp 184 13 [some (vR 0), some (.inl i0), some (vR 59), none] [] (mk A F q) Q := Iff.rfl
  rw [e2]
  simp only [r184_13, r184_14, r184_15, r184_16, Cn_n, Cn_v, Cn_x, dp_0, dp_1, dp_2, dp_3, dp_4, okv_n, okv_i, okv_r, eq_self, true_and, and_true, Option.some.injEq, exists_eq_left']
  exact ⟨fun h => h.2, fun h => ⟨hc, h⟩⟩
theorem wq_185 : Ew 185 [vR 0, .inl i0, .inl i1, vR 59] (mk A F q) Q ↔ Ew 93 [vR 0, .inl i0, .inl i1] (mk A F q) (fun x => Ch 185 5 8 [some (vR 0), some (.inl i0), some (.inl i1), some (vR 59), none] [.inl 0, vR 59] x Q) := by
  have h0 : Ew 185 [vR 0, .inl i0, .inl i1, vR 59] (mk A F q) Q ↔ Wp 185 0 [some (vR 0), some (.inl i0), some (.inl i1), some (vR 59), none] [] (mk A F q) Q := by
    unfold Ew
    rw [rc_185 rfl rfl rfl rfl, lc_185]
    exact ⟨fun h => h.2, fun h => ⟨rfl, h⟩⟩
  rw [h0]
  simp only [r185_0, r185_1, r185_2, r185_3, r185_4, r185_5, Cn_n, Cn_v, Cn_x, dp_0, dp_1, dp_2, dp_3, dp_4, okv_n, okv_i, okv_r, eq_self, true_and, and_true, Option.some.injEq, exists_eq_left']
theorem wv_185 (hv : rg v) : Ch 185 5 8 [some (vR 0), some (.inl i0), some (.inl i1), some (vR 59), none] [.inl 0, vR 59] (.inl (some (.inl v)), mk A F q) Q ↔ Q (.inl (some (.inl 0)), mk (u2 A 59 0 v) F q) := by
  obtain ⟨h1, h2⟩ := hv
  simp (disch := omega) only [r185_8, r185_9, r185_10, r185_13, r185_15, r185_16, r185_17, r185_18, Ch_v, Cn_n, Cn_v, Cn_x, dp_0, dp_1, dp_2, dp_3, dp_4, okv_n, okv_i, okv_r, eq_self, true_and, and_true, Option.some.injEq, exists_eq_left', rgT, ixT, ixU, ↓if_pos, ↓if_neg, Int.toNat_natCast, bT0, bT1, a_59, b_59, d_59, tab_len, tn0]
theorem wx_185_0 : Ch 185 5 8 [some (vR 0), some (.inl i0), some (.inl i1), some (vR 59), none] [.inl 0, vR 59] (.inr 0, mk A F q) Q ↔ Q (.inl (some (.inl 1)), mk A F q) := by
  have hh : hnd 185 5 0 = some (0, 10, 13, 19) := by decide +kernel
  have hi : ins 185 13 = some (4, 15, 4, 0, 0) := rfl
  have e : Ch 185 5 8 [some (vR 0), some (.inl i0), some (.inl i1), some (vR 59), none] [.inl 0, vR 59] (.inr 0, mk A F q) Q ↔ ((4 < ([some (vR 0), some (.inl i0), some (.inl i1), some (vR 59), none] : AL).length ∧ okst [some (vR 0), some (.inl i0), some (.inl i1), some (vR 59), none] 4 = true) ∧ Wp 185 15 (([some (vR 0), some (.inl i0), some (.inl i1), some (vR 59), none] : AL).set 4 none) [] (mk A F q) Q) := by
    unfold Ch
    simp only [hh, hi]
  rw [e]
  have hc : (4 < ([some (vR 0), some (.inl i0), some (.inl i1), some (vR 59), none] : AL).length ∧ okst [some (vR 0), some (.inl i0), some (.inl i1), some (vR 59), none] 4 = true) := ⟨(by decide : 4 < 5), rfl⟩
  have e2 : Wp 185 15 (([some (vR 0), some (.inl i0), some (.inl i1), some (vR 59), none] : AL).set 4 none) [] (mk A F q) Q ↔ Wp 185 15 [some (vR 0), some (.inl i0), some (.inl i1), some (vR 59), none] [] (mk A F q) Q := Iff.rfl
  rw [e2]
  simp only [r185_15, r185_16, r185_17, r185_18, Cn_n, Cn_v, Cn_x, dp_0, dp_1, dp_2, dp_3, dp_4, okv_n, okv_i, okv_r, eq_self, true_and, and_true, Option.some.injEq, exists_eq_left']
  exact ⟨fun h => h.2, fun h => ⟨hc, h⟩⟩
theorem wq_186 : Ew 186 [vR 0, .inl i0, .inl i1, vR 59] (mk A F q) Q ↔ Ew 94 [vR 0, .inl i0, .inl i1] (mk A F q) (fun x => Ch 186 5 8 [some (vR 0), some (.inl i0), some (.inl i1), some (vR 59), none] [.inl 0, vR 59] x Q) := by
  have h0 : Ew 186 [vR 0, .inl i0, .inl i1, vR 59] (mk A F q) Q ↔ Wp 186 0 [some (vR 0), some (.inl i0), some (.inl i1), some (vR 59), none] [] (mk A F q) Q := by
    unfold Ew
    rw [rc_186 rfl rfl rfl rfl, lc_186]
    exact ⟨fun h => h.2, fun h => ⟨rfl, h⟩⟩
  rw [h0]
  simp only [r186_0, r186_1, r186_2, r186_3, r186_4, r186_5, Cn_n, Cn_v, Cn_x, dp_0, dp_1, dp_2, dp_3, dp_4, okv_n, okv_i, okv_r, eq_self, true_and, and_true, Option.some.injEq, exists_eq_left']
theorem wv_186 (hv : rg v) : Ch 186 5 8 [some (vR 0), some (.inl i0), some (.inl i1), some (vR 59), none] [.inl 0, vR 59] (.inl (some (.inl v)), mk A F q) Q ↔ Q (.inl (some (.inl 0)), mk (u2 A 59 0 v) F q) := by
  obtain ⟨h1, h2⟩ := hv
  simp (disch := omega) only [r186_8, r186_9, r186_10, r186_13, r186_15, r186_16, r186_17, r186_18, Ch_v, Cn_n, Cn_v, Cn_x, dp_0, dp_1, dp_2, dp_3, dp_4, okv_n, okv_i, okv_r, eq_self, true_and, and_true, Option.some.injEq, exists_eq_left', rgT, ixT, ixU, ↓if_pos, ↓if_neg, Int.toNat_natCast, bT0, bT1, a_59, b_59, d_59, tab_len, tn0]
theorem wx_186_0 : Ch 186 5 8 [some (vR 0), some (.inl i0), some (.inl i1), some (vR 59), none] [.inl 0, vR 59] (.inr 0, mk A F q) Q ↔ Q (.inl (some (.inl 1)), mk A F q) := by
  have hh : hnd 186 5 0 = some (0, 10, 13, 19) := by decide +kernel
  have hi : ins 186 13 = some (4, 15, 4, 0, 0) := rfl
  have e : Ch 186 5 8 [some (vR 0), some (.inl i0), some (.inl i1), some (vR 59), none] [.inl 0, vR 59] (.inr 0, mk A F q) Q ↔ ((4 < ([some (vR 0), some (.inl i0), some (.inl i1), some (vR 59), none] : AL).length ∧ okst [some (vR 0), some (.inl i0), some (.inl i1), some (vR 59), none] 4 = true) ∧ Wp 186 15 (([some (vR 0), some (.inl i0), some (.inl i1), some (vR 59), none] : AL).set 4 none) [] (mk A F q) Q) := by
    unfold Ch
    simp only [hh, hi]
  rw [e]
  have hc : (4 < ([some (vR 0), some (.inl i0), some (.inl i1), some (vR 59), none] : AL).length ∧ okst [some (vR 0), some (.inl i0), some (.inl i1), some (vR 59), none] 4 = true) := ⟨(by decide : 4 < 5), rfl⟩
  have e2 : Wp 186 15 (([some (vR 0), some (.inl i0), some (.inl i1), some (vR 59), none] : AL).set 4 none) [] (mk A F q) Q ↔ Wp 186 15 [some (vR 0), some (.inl i0), some (.inl i1), some (vR 59), none] [] (mk A F q) Q := Iff.rfl
  rw [e2]
  simp only [r186_15, r186_16, r186_17, r186_18, Cn_n, Cn_v, Cn_x, dp_0, dp_1, dp_2, dp_3, dp_4, okv_n, okv_i, okv_r, eq_self, true_and, and_true, Option.some.injEq, exists_eq_left']
  exact ⟨fun h => h.2, fun h => ⟨hc, h⟩⟩
theorem wq_187 : Ew 187 [vR 0, .inl i0, .inl i1, .inl i2, vR 59] (mk A F q) Q ↔ Ew 95 [vR 0, .inl i0, .inl i1, .inl i2] (mk A F q) (fun x => Ch 187 7 10 [some (vR 0), some (.inl i0), some (.inl i1), some (.inl i2), some (vR 59), none] [.inl 0, vR 59] x Q) := by
  have h0 : Ew 187 [vR 0, .inl i0, .inl i1, .inl i2, vR 59] (mk A F q) Q ↔ Wp 187 0 [some (vR 0), some (.inl i0), some (.inl i1), some (.inl i2), some (vR 59), none] [] (mk A F q) Q := by
    unfold Ew
    rw [rc_187 rfl rfl rfl rfl rfl, lc_187]
    exact ⟨fun h => h.2, fun h => ⟨rfl, h⟩⟩
  rw [h0]
  simp only [r187_0, r187_2, r187_3, r187_4, r187_5, r187_6, r187_7, Cn_n, Cn_v, Cn_x, dp_0, dp_1, dp_2, dp_3, dp_4, okv_n, okv_i, okv_r, eq_self, true_and, and_true, Option.some.injEq, exists_eq_left']
theorem wv_187 (hv : rg v) : Ch 187 7 10 [some (vR 0), some (.inl i0), some (.inl i1), some (.inl i2), some (vR 59), none] [.inl 0, vR 59] (.inl (some (.inl v)), mk A F q) Q ↔ Q (.inl (some (.inl 0)), mk (u2 A 59 0 v) F q) := by
  obtain ⟨h1, h2⟩ := hv
  simp (disch := omega) only [r187_10, r187_11, r187_12, r187_15, r187_17, r187_18, r187_19, r187_20, Ch_v, Cn_n, Cn_v, Cn_x, dp_0, dp_1, dp_2, dp_3, dp_4, okv_n, okv_i, okv_r, eq_self, true_and, and_true, Option.some.injEq, exists_eq_left', rgT, ixT, ixU, ↓if_pos, ↓if_neg, Int.toNat_natCast, bT0, bT1, a_59, b_59, d_59, tab_len, tn0]
theorem wx_187_0 : Ch 187 7 10 [some (vR 0), some (.inl i0), some (.inl i1), some (.inl i2), some (vR 59), none] [.inl 0, vR 59] (.inr 0, mk A F q) Q ↔ Q (.inl (some (.inl 1)), mk A F q) := by
  have hh : hnd 187 7 0 = some (0, 12, 15, 19) := by decide +kernel
  have hi : ins 187 15 = some (4, 17, 5, 0, 0) := rfl
  have e : Ch 187 7 10 [some (vR 0), some (.inl i0), some (.inl i1), some (.inl i2), some (vR 59), none] [.inl 0, vR 59] (.inr 0, mk A F q) Q ↔ ((5 < ([some (vR 0), some (.inl i0), some (.inl i1), some (.inl i2), some (vR 59), none] : AL).length ∧ okst [some (vR 0), some (.inl i0), some (.inl i1), some (.inl i2), some (vR 59), none] 5 = true) ∧ Wp 187 17 (([some (vR 0), some (.inl i0), some (.inl i1), some (.inl i2), some (vR 59), none] : AL).set 5 none) [] (mk A F q) Q) := by
    unfold Ch
    simp only [hh, hi]
  rw [e]
  have hc : (5 < ([some (vR 0), some (.inl i0), some (.inl i1), some (.inl i2), some (vR 59), none] : AL).length ∧ okst [some (vR 0), some (.inl i0), some (.inl i1), some (.inl i2), some (vR 59), none] 5 = true) := ⟨(by decide : 5 < 6), rfl⟩
  have e2 : Wp 187 17 (([some (vR 0), some (.inl i0), some (.inl i1), some (.inl i2), some (vR 59), none] : AL).set 5 none) [] (mk A F q) Q ↔ Wp 187 17 [some (vR 0), some (.inl i0), some (.inl i1), some (.inl i2), some (vR 59), none] [] (mk A F q) Q := Iff.rfl
  rw [e2]
  simp only [r187_17, r187_18, r187_19, r187_20, Cn_n, Cn_v, Cn_x, dp_0, dp_1, dp_2, dp_3, dp_4, okv_n, okv_i, okv_r, eq_self, true_and, and_true, Option.some.injEq, exists_eq_left']
  exact ⟨fun h => h.2, fun h => ⟨hc, h⟩⟩
theorem wq_188 : Ew 188 [vR 0, .inl i0, vR 59] (mk A F q) Q ↔ Ew 96 [vR 0, .inl i0] (mk A F q) (fun x => Ch 188 4 7 [some (vR 0), some (.inl i0), some (vR 59), none] [.inl 0, vR 59] x Q) := by
  have h0 : Ew 188 [vR 0, .inl i0, vR 59] (mk A F q) Q ↔ Wp 188 0 [some (vR 0), some (.inl i0), some (vR 59), none] [] (mk A F q) Q := by
    unfold Ew
    rw [rc_188 rfl rfl rfl, lc_188]
    exact ⟨fun h => h.2, fun h => ⟨rfl, h⟩⟩
  rw [h0]
  simp only [r188_0, r188_1, r188_2, r188_3, r188_4, Cn_n, Cn_v, Cn_x, dp_0, dp_1, dp_2, dp_3, dp_4, okv_n, okv_i, okv_r, eq_self, true_and, and_true, Option.some.injEq, exists_eq_left']
theorem wv_188 (hv : rg v) : Ch 188 4 7 [some (vR 0), some (.inl i0), some (vR 59), none] [.inl 0, vR 59] (.inl (some (.inl v)), mk A F q) Q ↔ Q (.inl (some (.inl 0)), mk (u2 A 59 0 v) F q) := by
  obtain ⟨h1, h2⟩ := hv
  simp (disch := omega) only [r188_7, r188_8, r188_9, r188_12, r188_13, r188_14, r188_15, r188_16, Ch_v, Cn_n, Cn_v, Cn_x, dp_0, dp_1, dp_2, dp_3, dp_4, okv_n, okv_i, okv_r, eq_self, true_and, and_true, Option.some.injEq, exists_eq_left', rgT, ixT, ixU, ↓if_pos, ↓if_neg, Int.toNat_natCast, bT0, bT1, a_59, b_59, d_59, tab_len, tn0]
theorem wx_188_0 : Ch 188 4 7 [some (vR 0), some (.inl i0), some (vR 59), none] [.inl 0, vR 59] (.inr 0, mk A F q) Q ↔ Q (.inl (some (.inl 1)), mk A F q) := by
  have hh : hnd 188 4 0 = some (0, 9, 12, 19) := by decide +kernel
  have hi : ins 188 12 = some (4, 13, 3, 0, 0) := rfl
  have e : Ch 188 4 7 [some (vR 0), some (.inl i0), some (vR 59), none] [.inl 0, vR 59] (.inr 0, mk A F q) Q ↔ ((3 < ([some (vR 0), some (.inl i0), some (vR 59), none] : AL).length ∧ okst [some (vR 0), some (.inl i0), some (vR 59), none] 3 = true) ∧ Wp 188 13 (([some (vR 0), some (.inl i0), some (vR 59), none] : AL).set 3 none) [] (mk A F q) Q) := by
    unfold Ch
    simp only [hh, hi]
  rw [e]
  have hc : (3 < ([some (vR 0), some (.inl i0), some (vR 59), none] : AL).length ∧ okst [some (vR 0), some (.inl i0), some (vR 59), none] 3 = true) := ⟨(by decide : 3 < 4), rfl⟩
  have e2 : Wp 188 13 (([some (vR 0), some (.inl i0), some (vR 59), none] : AL).set 3 none) [] (mk A F q) Q ↔ Wp 188 13 [some (vR 0), some (.inl i0), some (vR 59), none] [] (mk A F q) Q := Iff.rfl
  rw [e2]
  simp only [r188_13, r188_14, r188_15, r188_16, Cn_n, Cn_v, Cn_x, dp_0, dp_1, dp_2, dp_3, dp_4, okv_n, okv_i, okv_r, eq_self, true_and, and_true, Option.some.injEq, exists_eq_left']
  exact ⟨fun h => h.2, fun h => ⟨hc, h⟩⟩
theorem wq_189 : Ew 189 [vR 0, .inl i0, .inl i1, vR 59] (mk A F q) Q ↔ Ew 99 [vR 0, .inl i0, .inl i1] (mk A F q) (fun x => Ch 189 5 8 [some (vR 0), some (.inl i0), some (.inl i1), some (vR 59), none] [.inl 0, vR 59] x Q) := by
  have h0 : Ew 189 [vR 0, .inl i0, .inl i1, vR 59] (mk A F q) Q ↔ Wp 189 0 [some (vR 0), some (.inl i0), some (.inl i1), some (vR 59), none] [] (mk A F q) Q := by
    unfold Ew
    rw [rc_189 rfl rfl rfl rfl, lc_189]
    exact ⟨fun h => h.2, fun h => ⟨rfl, h⟩⟩
  rw [h0]
  simp only [r189_0, r189_1, r189_2, r189_3, r189_4, r189_5, Cn_n, Cn_v, Cn_x, dp_0, dp_1, dp_2, dp_3, dp_4, okv_n, okv_i, okv_r, eq_self, true_and, and_true, Option.some.injEq, exists_eq_left']
theorem wv_189 (hv : rg v) : Ch 189 5 8 [some (vR 0), some (.inl i0), some (.inl i1), some (vR 59), none] [.inl 0, vR 59] (.inl (some (.inl v)), mk A F q) Q ↔ Q (.inl (some (.inl 0)), mk (u2 A 59 0 v) F q) := by
  obtain ⟨h1, h2⟩ := hv
  simp (disch := omega) only [r189_8, r189_9, r189_10, r189_13, r189_15, r189_16, r189_17, r189_18, Ch_v, Cn_n, Cn_v, Cn_x, dp_0, dp_1, dp_2, dp_3, dp_4, okv_n, okv_i, okv_r, eq_self, true_and, and_true, Option.some.injEq, exists_eq_left', rgT, ixT, ixU, ↓if_pos, ↓if_neg, Int.toNat_natCast, bT0, bT1, a_59, b_59, d_59, tab_len, tn0]
theorem wx_189_0 : Ch 189 5 8 [some (vR 0), some (.inl i0), some (.inl i1), some (vR 59), none] [.inl 0, vR 59] (.inr 0, mk A F q) Q ↔ Q (.inl (some (.inl 1)), mk A F q) := by
  have hh : hnd 189 5 0 = some (0, 10, 13, 19) := by decide +kernel
  have hi : ins 189 13 = some (4, 15, 4, 0, 0) := rfl
  have e : Ch 189 5 8 [some (vR 0), some (.inl i0), some (.inl i1), some (vR 59), none] [.inl 0, vR 59] (.inr 0, mk A F q) Q ↔ ((4 < ([some (vR 0), some (.inl i0), some (.inl i1), some (vR 59), none] : AL).length ∧ okst [some (vR 0), some (.inl i0), some (.inl i1), some (vR 59), none] 4 = true) ∧ Wp 189 15 (([some (vR 0), some (.inl i0), some (.inl i1), some (vR 59), none] : AL).set 4 none) [] (mk A F q) Q) := by
    unfold Ch
    simp only [hh, hi]
  rw [e]
  have hc : (4 < ([some (vR 0), some (.inl i0), some (.inl i1), some (vR 59), none] : AL).length ∧ okst [some (vR 0), some (.inl i0), some (.inl i1), some (vR 59), none] 4 = true) := ⟨(by decide : 4 < 5), rfl⟩
  have e2 : Wp 189 15 (([some (vR 0), some (.inl i0), some (.inl i1), some (vR 59), none] : AL).set 4 none) [] (mk A F q) Q ↔ Wp 189 15 [some (vR 0), some (.inl i0), some (.inl i1), some (vR 59), none] [] (mk A F q) Q := Iff.rfl
  rw [e2]
  simp only [r189_15, r189_16, r189_17, r189_18, Cn_n, Cn_v, Cn_x, dp_0, dp_1, dp_2, dp_3, dp_4, okv_n, okv_i, okv_r, eq_self, true_and, and_true, Option.some.injEq, exists_eq_left']
  exact ⟨fun h => h.2, fun h => ⟨hc, h⟩⟩
theorem wq_190 : Ew 190 [vR 0, vR 59] (mk A F q) Q ↔ Ew 100 [vR 0] (mk A F q) (fun x => Ch 190 3 6 [some (vR 0), some (vR 59), none] [.inl 0, vR 59] x Q) := by
  have h0 : Ew 190 [vR 0, vR 59] (mk A F q) Q ↔ Wp 190 0 [some (vR 0), some (vR 59), none] [] (mk A F q) Q := by
    unfold Ew
    rw [rc_190 rfl rfl, lc_190]
    exact ⟨fun h => h.2, fun h => ⟨rfl, h⟩⟩
  rw [h0]
  simp only [r190_0, r190_1, r190_2, r190_3, Cn_n, Cn_v, Cn_x, dp_0, dp_1, dp_2, dp_3, dp_4, okv_n, okv_i, okv_r, eq_self, true_and, and_true, Option.some.injEq, exists_eq_left']
theorem wv_190 (hv : rg v) : Ch 190 3 6 [some (vR 0), some (vR 59), none] [.inl 0, vR 59] (.inl (some (.inl v)), mk A F q) Q ↔ Q (.inl (some (.inl 0)), mk (u2 A 59 0 v) F q) := by
  obtain ⟨h1, h2⟩ := hv
  simp (disch := omega) only [r190_6, r190_7, r190_8, r190_11, r190_12, r190_13, r190_14, r190_15, Ch_v, Cn_n, Cn_v, Cn_x, dp_0, dp_1, dp_2, dp_3, dp_4, okv_n, okv_i, okv_r, eq_self, true_and, and_true, Option.some.injEq, exists_eq_left', rgT, ixT, ixU, ↓if_pos, ↓if_neg, Int.toNat_natCast, bT0, bT1, a_59, b_59, d_59, tab_len, tn0]
theorem wx_190_2 : Ch 190 3 6 [some (vR 0), some (vR 59), none] [.inl 0, vR 59] (.inr 2, mk A F q) Q ↔ Q (.inl (some (.inl 1)), mk A F q) := by
  have hh : hnd 190 3 2 = some (0, 8, 11, 65) := by decide +kernel
  have hi : ins 190 11 = some (4, 12, 2, 0, 0) := rfl
  have e : Ch 190 3 6 [some (vR 0), some (vR 59), none] [.inl 0, vR 59] (.inr 2, mk A F q) Q ↔ ((2 < ([some (vR 0), some (vR 59), none] : AL).length ∧ okst [some (vR 0), some (vR 59), none] 2 = true) ∧ Wp 190 12 (([some (vR 0), some (vR 59), none] : AL).set 2 none) [] (mk A F q) Q) := by
    unfold Ch
    simp only [hh, hi]
  rw [e]
  have hc : (2 < ([some (vR 0), some (vR 59), none] : AL).length ∧ okst [some (vR 0), some (vR 59), none] 2 = true) := ⟨(by decide : 2 < 3), rfl⟩
  have e2 : Wp 190 12 (([some (vR 0), some (vR 59), none] : AL).set 2 none) [] (mk A F q) Q ↔ Wp 190 12 [some (vR 0), some (vR 59), none] [] (mk A F q) Q := Iff.rfl
  rw [e2]
  simp only [r190_12, r190_13, r190_14, r190_15, Cn_n, Cn_v, Cn_x, dp_0, dp_1, dp_2, dp_3, dp_4, okv_n, okv_i, okv_r, eq_self, true_and, and_true, Option.some.injEq, exists_eq_left']
  exact ⟨fun h => h.2, fun h => ⟨hc, h⟩⟩
theorem wq_191 : Ew 191 [vR 0, .inl i0, .inl i1, vR 59] (mk A F q) Q ↔ Ew 101 [vR 0, .inl i0, .inl i1] (mk A F q) (fun x => Ch 191 5 8 [some (vR 0), some (.inl i0), some (.inl i1), some (vR 59), none] [.inl 0, vR 59] x Q) := by
  have h0 : Ew 191 [vR 0, .inl i0, .inl i1, vR 59] (mk A F q) Q ↔ Wp 191 0 [some (vR 0), some (.inl i0), some (.inl i1), some (vR 59), none] [] (mk A F q) Q := by
    unfold Ew
    rw [rc_191 rfl rfl rfl rfl, lc_191]
    exact ⟨fun h => h.2, fun h => ⟨rfl, h⟩⟩
  rw [h0]
  simp only [r191_0, r191_1, r191_2, r191_3, r191_4, r191_5, Cn_n, Cn_v, Cn_x, dp_0, dp_1, dp_2, dp_3, dp_4, okv_n, okv_i, okv_r, eq_self, true_and, and_true, Option.some.injEq, exists_eq_left']
theorem wv_191 (hv : rg v) : Ch 191 5 8 [some (vR 0), some (.inl i0), some (.inl i1), some (vR 59), none] [.inl 0, vR 59] (.inl (some (.inl v)), mk A F q) Q ↔ Q (.inl (some (.inl 0)), mk (u2 A 59 0 v) F q) := by
  obtain ⟨h1, h2⟩ := hv
  simp (disch := omega) only [r191_8, r191_9, r191_10, r191_13, r191_15, r191_16, r191_17, r191_19, r191_20, r191_21, r191_22, Ch_v, Cn_n, Cn_v, Cn_x, dp_0, dp_1, dp_2, dp_3, dp_4, okv_n, okv_i, okv_r, eq_self, true_and, and_true, Option.some.injEq, exists_eq_left', rgT, ixT, ixU, ↓if_pos, ↓if_neg, Int.toNat_natCast, bT0, bT1, a_59, b_59, d_59, tab_len, tn0]
theorem wx_191_0 : Ch 191 5 8 [some (vR 0), some (.inl i0), some (.inl i1), some (vR 59), none] [.inl 0, vR 59] (.inr 0, mk A F q) Q ↔ Q (.inl (some (.inl 1)), mk A F q) := by
  have hh : hnd 191 5 0 = some (0, 10, 13, 19) := by decide +kernel
  have hi : ins 191 13 = some (4, 15, 4, 0, 0) := rfl
  have e : Ch 191 5 8 [some (vR 0), some (.inl i0), some (.inl i1), some (vR 59), none] [.inl 0, vR 59] (.inr 0, mk A F q) Q ↔ ((4 < ([some (vR 0), some (.inl i0), some (.inl i1), some (vR 59), none] : AL).length ∧ okst [some (vR 0), some (.inl i0), some (.inl i1), some (vR 59), none] 4 = true) ∧ Wp 191 15 (([some (vR 0), some (.inl i0), some (.inl i1), some (vR 59), none] : AL).set 4 none) [] (mk A F q) Q) := by
    unfold Ch
    simp only [hh, hi]
  rw [e]
  have hc : (4 < ([some (vR 0), some (.inl i0), some (.inl i1), some (vR 59), none] : AL).length ∧ okst [some (vR 0), some (.inl i0), some (.inl i1), some (vR 59), none] 4 = true) := ⟨(by decide : 4 < 5), rfl⟩
  have e2 : Wp 191 15 (([some (vR 0), some (.inl i0), some (.inl i1), some (vR 59), none] : AL).set 4 none) [] (mk A F q) Q ↔ Wp 191 15 [some (vR 0), some (.inl i0), some (.inl i1), some (vR 59), none] [] (mk A F q) Q := Iff.rfl
  rw [e2]
  simp only [r191_15, r191_16, r191_17, r191_19, r191_20, r191_21, r191_22, Cn_n, Cn_v, Cn_x, dp_0, dp_1, dp_2, dp_3, dp_4, okv_n, okv_i, okv_r, eq_self, true_and, and_true, Option.some.injEq, exists_eq_left']
  exact ⟨fun h => h.2, fun h => ⟨hc, h⟩⟩
theorem wx_191_2 : Ch 191 5 8 [some (vR 0), some (.inl i0), some (.inl i1), some (vR 59), none] [.inl 0, vR 59] (.inr 2, mk A F q) Q ↔ Q (.inl (some (.inl 2)), mk A F q) := by
  have hh : hnd 191 5 2 = some (0, 10, 17, 65) := by decide +kernel
  have hi : ins 191 17 = some (4, 19, 4, 0, 0) := rfl
  have e : Ch 191 5 8 [some (vR 0), some (.inl i0), some (.inl i1), some (vR 59), none] [.inl 0, vR 59] (.inr 2, mk A F q) Q ↔ ((4 < ([some (vR 0), some (.inl i0), some (.inl i1), some (vR 59), none] : AL).length ∧ okst [some (vR 0), some (.inl i0), some (.inl i1), some (vR 59), none] 4 = true) ∧ Wp 191 19 (([some (vR 0), some (.inl i0), some (.inl i1), some (vR 59), none] : AL).set 4 none) [] (mk A F q) Q) := by
    unfold Ch
    simp only [hh, hi]
  rw [e]
  have hc : (4 < ([some (vR 0), some (.inl i0), some (.inl i1), some (vR 59), none] : AL).length ∧ okst [some (vR 0), some (.inl i0), some (.inl i1), some (vR 59), none] 4 = true) := ⟨(by decide : 4 < 5), rfl⟩
  have e2 : Wp 191 19 (([some (vR 0), some (.inl i0), some (.inl i1), some (vR 59), none] : AL).set 4 none) [] (mk A F q) Q ↔ Wp 191 19 [some (vR 0), some (.inl i0), some (.inl i1), some (vR 59), none] [] (mk A F q) Q := Iff.rfl
  rw [e2]
  simp only [r191_19, r191_20, r191_21, r191_22, Cn_n, Cn_v, Cn_x, dp_0, dp_1, dp_2, dp_3, dp_4, okv_n, okv_i, okv_r, eq_self, true_and, and_true, Option.some.injEq, exists_eq_left']
  exact ⟨fun h => h.2, fun h => ⟨hc, h⟩⟩
theorem wq_192 : Ew 192 [vR 0, .inl i0, .inl i1, .inl i2, vR 59] (mk A F q) Q ↔ Ew 102 [vR 0, .inl i0, .inl i1, .inl i2] (mk A F q) (fun x => Ch 192 7 10 [some (vR 0), some (.inl i0), some (.inl i1), some (.inl i2), some (vR 59), none] [.inl 0, vR 59] x Q) := by
  have h0 : Ew 192 [vR 0, .inl i0, .inl i1, .inl i2, vR 59] (mk A F q) Q ↔ Wp 192 0 [some (vR 0), some (.inl i0), some (.inl i1), some (.inl i2), some (vR 59), none] [] (mk A F q) Q := by
    unfold Ew
    rw [rc_192 rfl rfl rfl rfl rfl, lc_192]
    exact ⟨fun h => h.2, fun h => ⟨rfl, h⟩⟩
  rw [h0]
  simp only [r192_0, r192_2, r192_3, r192_4, r192_5, r192_6, r192_7, Cn_n, Cn_v, Cn_x, dp_0, dp_1, dp_2, dp_3, dp_4, okv_n, okv_i, okv_r, eq_self, true_and, and_true, Option.some.injEq, exists_eq_left']
theorem wv_192 (hv : rg v) : Ch 192 7 10 [some (vR 0), some (.inl i0), some (.inl i1), some (.inl i2), some (vR 59), none] [.inl 0, vR 59] (.inl (some (.inl v)), mk A F q) Q ↔ Q (.inl (some (.inl 0)), mk (u2 A 59 0 v) F q) := by
  obtain ⟨h1, h2⟩ := hv
  simp (disch := omega) only [r192_10, r192_11, r192_12, r192_15, r192_17, r192_18, r192_19, r192_21, r192_22, r192_23, r192_24, Ch_v, Cn_n, Cn_v, Cn_x, dp_0, dp_1, dp_2, dp_3, dp_4, okv_n, okv_i, okv_r, eq_self, true_and, and_true, Option.some.injEq, exists_eq_left', rgT, ixT, ixU, ↓if_pos, ↓if_neg, Int.toNat_natCast, bT0, bT1, a_59, b_59, d_59, tab_len, tn0]
theorem wx_192_0 : Ch 192 7 10 [some (vR 0), some (.inl i0), some (.inl i1), some (.inl i2), some (vR 59), none] [.inl 0, vR 59] (.inr 0, mk A F q) Q ↔ Q (.inl (some (.inl 1)), mk A F q) := by
  have hh : hnd 192 7 0 = some (0, 12, 15, 19) := by decide +kernel
  have hi : ins 192 15 = some (4, 17, 5, 0, 0) := rfl
  have e : Ch 192 7 10 [some (vR 0), some (.inl i0), some (.inl i1), some (.inl i2), some (vR 59), none] [.inl 0, vR 59] (.inr 0, mk A F q) Q ↔ ((5 < ([some (vR 0), some (.inl i0), some (.inl i1), some (.inl i2), some (vR 59), none] : AL).length ∧ okst [some (vR 0), some (.inl i0), some (.inl i1), some (.inl i2), some (vR 59), none] 5 = true) ∧ Wp 192 17 (([some (vR 0), some (.inl i0), some (.inl i1), some (.inl i2), some (vR 59), none] : AL).set 5 none) [] (mk A F q) Q) := by
    unfold Ch
    simp only [hh, hi]
  rw [e]
  have hc : (5 < ([some (vR 0), some (.inl i0), some (.inl i1), some (.inl i2), some (vR 59), none] : AL).length ∧ okst [some (vR 0), some (.inl i0), some (.inl i1), some (.inl i2), some (vR 59), none] 5 = true) := ⟨(by decide : 5 < 6), rfl⟩
  have e2 : Wp 192 17 (([some (vR 0), some (.inl i0), some (.inl i1), some (.inl i2), some (vR 59), none] : AL).set 5 none) [] (mk A F q) Q ↔ Wp 192 17 [some (vR 0), some (.inl i0), some (.inl i1), some (.inl i2), some (vR 59), none] [] (mk A F q) Q := Iff.rfl
  rw [e2]
  simp only [r192_17, r192_18, r192_19, r192_21, r192_22, r192_23, r192_24, Cn_n, Cn_v, Cn_x, dp_0, dp_1, dp_2, dp_3, dp_4, okv_n, okv_i, okv_r, eq_self, true_and, and_true, Option.some.injEq, exists_eq_left']
  exact ⟨fun h => h.2, fun h => ⟨hc, h⟩⟩
theorem wx_192_1 : Ch 192 7 10 [some (vR 0), some (.inl i0), some (.inl i1), some (.inl i2), some (vR 59), none] [.inl 0, vR 59] (.inr 1, mk A F q) Q ↔ Q (.inl (some (.inl 2)), mk A F q) := by
  have hh : hnd 192 7 1 = some (0, 12, 19, 13) := by decide +kernel
  have hi : ins 192 19 = some (4, 21, 5, 0, 0) := rfl
  have e : Ch 192 7 10 [some (vR 0), some (.inl i0), some (.inl i1), some (.inl i2), some (vR 59), none] [.inl 0, vR 59] (.inr 1, mk A F q) Q ↔ ((5 < ([some (vR 0), some (.inl i0), some (.inl i1), some (.inl i2), some (vR 59), none] : AL).length ∧ okst [some (vR 0), some (.inl i0), some (.inl i1), some (.inl i2), some (vR 59), none] 5 = true) ∧ Wp 192 21 (([some (vR 0), some (.inl i0), some (.inl i1), some (.inl i2), some (vR 59), none] : AL).set 5 none) [] (mk A F q) Q) := by
    unfold Ch
    simp only [hh, hi]
  rw [e]
  have hc : (5 < ([some (vR 0), some (.inl i0), some (.inl i1), some (.inl i2), some (vR 59), none] : AL).length ∧ okst [some (vR 0), some (.inl i0), some (.inl i1), some (.inl i2), some (vR 59), none] 5 = true) := ⟨(by decide : 5 < 6), rfl⟩
  have e2 : Wp 192 21 (([some (vR 0), some (.inl i0), some (.inl i1), some (.inl i2), some (vR 59), none] : AL).set 5 none) [] (mk A F q) Q ↔ Wp 192 21 [some (vR 0), some (.inl i0), some (.inl i1), some (.inl i2), some (vR 59), none] [] (mk A F q) Q := Iff.rfl
  rw [e2]
  simp only [r192_21, r192_22, r192_23, r192_24, Cn_n, Cn_v, Cn_x, dp_0, dp_1, dp_2, dp_3, dp_4, okv_n, okv_i, okv_r, eq_self, true_and, and_true, Option.some.injEq, exists_eq_left']
  exact ⟨fun h => h.2, fun h => ⟨hc, h⟩⟩
theorem wq_193 : Ew 193 [vR 0, .inl i0, vR 59] (mk A F q) Q ↔ Ew 103 [vR 0, .inl i0] (mk A F q) (fun x => Ch 193 4 7 [some (vR 0), some (.inl i0), some (vR 59), none] [.inl 0, vR 59] x Q) := by
  have h0 : Ew 193 [vR 0, .inl i0, vR 59] (mk A F q) Q ↔ Wp 193 0 [some (vR 0), some (.inl i0), some (vR 59), none] [] (mk A F q) Q := by
    unfold Ew
    rw [rc_193 rfl rfl rfl, lc_193]
    exact ⟨fun h => h.2, fun h => ⟨rfl, h⟩⟩
  rw [h0]
  simp only [r193_0, r193_1, r193_2, r193_3, r193_4, Cn_n, Cn_v, Cn_x, dp_0, dp_1, dp_2, dp_3, dp_4, okv_n, okv_i, okv_r, eq_self, true_and, and_true, Option.some.injEq, exists_eq_left']
theorem wv_193 (hv : rg v) : Ch 193 4 7 [some (vR 0), some (.inl i0), some (vR 59), none] [.inl 0, vR 59] (.inl (some (.inl v)), mk A F q) Q ↔ Q (.inl (some (.inl 0)), mk (u2 A 59 0 v) F q) := by
  obtain ⟨h1, h2⟩ := hv
  simp (disch := omega) only [r193_7, r193_8, r193_9, r193_12, r193_13, r193_14, r193_15, r193_16, Ch_v, Cn_n, Cn_v, Cn_x, dp_0, dp_1, dp_2, dp_3, dp_4, okv_n, okv_i, okv_r, eq_self, true_and, and_true, Option.some.injEq, exists_eq_left', rgT, ixT, ixU, ↓if_pos, ↓if_neg, Int.toNat_natCast, bT0, bT1, a_59, b_59, d_59, tab_len, tn0]
theorem wx_193_1 : Ch 193 4 7 [some (vR 0), some (.inl i0), some (vR 59), none] [.inl 0, vR 59] (.inr 1, mk A F q) Q ↔ Q (.inl (some (.inl 1)), mk A F q) := by
  have hh : hnd 193 4 1 = some (0, 9, 12, 13) := by decide +kernel
  have hi : ins 193 12 = some (4, 13, 3, 0, 0) := rfl
  have e : Ch 193 4 7 [some (vR 0), some (.inl i0), some (vR 59), none] [.inl 0, vR 59] (.inr 1, mk A F q) Q ↔ ((3 < ([some (vR 0), some (.inl i0), some (vR 59), none] : AL).length ∧ okst [some (vR 0), some (.inl i0), some (vR 59), none] 3 = true) ∧ Wp 193 13 (([some (vR 0), some (.inl i0), some (vR 59), none] : AL).set 3 none) [] (mk A F q) Q) := by
    unfold Ch
    simp only [hh, hi]
  rw [e]
  have hc : (3 < ([some (vR 0), some (.inl i0), some (vR 59), none] : AL).length ∧ okst [some (vR 0), some (.inl i0), some (vR 59), none] 3 = true) := ⟨(by decide : 3 < 4), rfl⟩
  have e2 : Wp 193 13 (([some (vR 0), some (.inl i0), some (vR 59), none] : AL).set 3 none) [] (mk A F q) Q ↔ Wp 193 13 [some (vR 0), some (.inl i0), some (vR 59), none] [] (mk A F q) Q := Iff.rfl
  rw [e2]
  simp only [r193_13, r193_14, r193_15, r193_16, Cn_n, Cn_v, Cn_x, dp_0, dp_1, dp_2, dp_3, dp_4, okv_n, okv_i, okv_r, eq_self, true_and, and_true, Option.some.injEq, exists_eq_left']
  exact ⟨fun h => h.2, fun h => ⟨hc, h⟩⟩
theorem wq_194 : Ew 194 [vR 0, .inl i0, vR 59] (mk A F q) Q ↔ Ew 104 [vR 0, .inl i0] (mk A F q) (fun x => Ch 194 4 7 [some (vR 0), some (.inl i0), some (vR 59), none] [.inl 0, vR 59] x Q) := by
  have h0 : Ew 194 [vR 0, .inl i0, vR 59] (mk A F q) Q ↔ Wp 194 0 [some (vR 0), some (.inl i0), some (vR 59), none] [] (mk A F q) Q := by
    unfold Ew
    rw [rc_194 rfl rfl rfl, lc_194]
    exact ⟨fun h => h.2, fun h => ⟨rfl, h⟩⟩
  rw [h0]
  simp only [r194_0, r194_1, r194_2, r194_3, r194_4, Cn_n, Cn_v, Cn_x, dp_0, dp_1, dp_2, dp_3, dp_4, okv_n, okv_i, okv_r, eq_self, true_and, and_true, Option.some.injEq, exists_eq_left']
theorem wv_194 (hv : rg v) : Ch 194 4 7 [some (vR 0), some (.inl i0), some (vR 59), none] [.inl 0, vR 59] (.inl (some (.inl v)), mk A F q) Q ↔ Q (.inl (some (.inl 0)), mk (u2 A 59 0 v) F q) := by
  obtain ⟨h1, h2⟩ := hv
  simp (disch := omega) only [r194_7, r194_8, r194_9, r194_12, r194_13, r194_14, r194_15, r194_16, Ch_v, Cn_n, Cn_v, Cn_x, dp_0, dp_1, dp_2, dp_3, dp_4, okv_n, okv_i, okv_r, eq_self, true_and, and_true, Option.some.injEq, exists_eq_left', rgT, ixT, ixU, ↓if_pos, ↓if_neg, Int.toNat_natCast, bT0, bT1, a_59, b_59, d_59, tab_len, tn0]
theorem wx_194_1 : Ch 194 4 7 [some (vR 0), some (.inl i0), some (vR 59), none] [.inl 0, vR 59] (.inr 1, mk A F q) Q ↔ Q (.inl (some (.inl 1)), mk A F q) := by
  have hh : hnd 194 4 1 = some (0, 9, 12, 13) := by decide +kernel
  have hi : ins 194 12 = some (4, 13, 3, 0, 0) := rfl
  have e : Ch 194 4 7 [some (vR 0), some (.inl i0), some (vR 59), none] [.inl 0, vR 59] (.inr 1, mk A F q) Q ↔ ((3 < ([some (vR 0), some (.inl i0), some (vR 59), none] : AL).length ∧ okst [some (vR 0), some (.inl i0), some (vR 59), none] 3 = true) ∧ Wp 194 13 (([some (vR 0), some (.inl i0), some (vR 59), none] : AL).set 3 none) [] (mk A F q) Q) := by
    unfold Ch
    simp only [hh, hi]
  rw [e]
  have hc : (3 < ([some (vR 0), some (.inl i0), some (vR 59), none] : AL).length ∧ okst [some (vR 0), some (.inl i0), some (vR 59), none] 3 = true) := ⟨(by decide : 3 < 4), rfl⟩
  have e2 : Wp 194 13 (([some (vR 0), some (.inl i0), some (vR 59), none] : AL).set 3 none) [] (mk A F q) Q ↔ Wp 194 13 [some (vR 0), some (.inl i0), some (vR 59), none] [] (mk A F q) Q := Iff.rfl
  rw [e2]
  simp only [r194_13, r194_14, r194_15, r194_16, Cn_n, Cn_v, Cn_x, dp_0, dp_1, dp_2, dp_3, dp_4, okv_n, okv_i, okv_r, eq_self, true_and, and_true, Option.some.injEq, exists_eq_left']
  exact ⟨fun h => h.2, fun h => ⟨hc, h⟩⟩
end WRAP
