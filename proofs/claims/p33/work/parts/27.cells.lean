/-! rows and grids by cell -/
section LEAF
variable {A : Nat → Nat → Int} {F : Nat → Int} {q : List Int × Nat} {i j v : Int} {Q : AR → Prop}
theorem rget_7 (h0 : 0 ≤ i) (h1 : i < 10) : Ew 39 [.inr (.inr (.inr (some (some 7)))), .inl i] (mk A F q) Q ↔ Q (.inl (some (.inl (A 8 i.toNat))), mk A F q) := by
  rw [row_get g_7_0 a_8 (by rw [tab_len]; omega) ⟨by omega, by omega⟩]
  unfold gt
  rw [if_pos ⟨h0, by rw [tab_len]; omega⟩, tab_get (by omega)]
theorem rput_7 (h0 : 0 ≤ i) (h1 : i < 10) : Ew 40 [.inr (.inr (.inr (some (some 7)))), .inl i, .inl v] (mk A F q) Q ↔ Q (.inl none, mk (u2 A 8 i.toNat v) F q) := by
  rw [row_put g_7_0 a_8 (by rw [b_8, ua_id]) (by rw [tab_len]; omega) ⟨by omega, by omega⟩]
  unfold pt
  rw [if_pos ⟨h0, by rw [tab_len]; omega⟩, d_8]
theorem rfill_7 : Ew 41 [.inr (.inr (.inr (some (some 7)))), .inl v] (mk A F q) Q ↔ Q (.inl none, mk (ua A 8 (fun _ => v)) F q) := by
  rw [row_fill g_7_0 a_8 (by rw [tab_len]; omega), tab_len, tab_rep, b_8]
theorem rget_9 (h0 : 0 ≤ i) (h1 : i < 10) : Ew 39 [.inr (.inr (.inr (some (some 9)))), .inl i] (mk A F q) Q ↔ Q (.inl (some (.inl (A 10 i.toNat))), mk A F q) := by
  rw [row_get g_9_0 a_10 (by rw [tab_len]; omega) ⟨by omega, by omega⟩]
  unfold gt
  rw [if_pos ⟨h0, by rw [tab_len]; omega⟩, tab_get (by omega)]
theorem rput_9 (h0 : 0 ≤ i) (h1 : i < 10) : Ew 40 [.inr (.inr (.inr (some (some 9)))), .inl i, .inl v] (mk A F q) Q ↔ Q (.inl none, mk (u2 A 10 i.toNat v) F q) := by
  rw [row_put g_9_0 a_10 (by rw [b_10, ua_id]) (by rw [tab_len]; omega) ⟨by omega, by omega⟩]
  unfold pt
  rw [if_pos ⟨h0, by rw [tab_len]; omega⟩, d_10]
theorem rfill_9 : Ew 41 [.inr (.inr (.inr (some (some 9)))), .inl v] (mk A F q) Q ↔ Q (.inl none, mk (ua A 10 (fun _ => v)) F q) := by
  rw [row_fill g_9_0 a_10 (by rw [tab_len]; omega), tab_len, tab_rep, b_10]
theorem rget_11 (h0 : 0 ≤ i) (h1 : i < 10) : Ew 39 [.inr (.inr (.inr (some (some 11)))), .inl i] (mk A F q) Q ↔ Q (.inl (some (.inl (A 12 i.toNat))), mk A F q) := by
  rw [row_get g_11_0 a_12 (by rw [tab_len]; omega) ⟨by omega, by omega⟩]
  unfold gt
  rw [if_pos ⟨h0, by rw [tab_len]; omega⟩, tab_get (by omega)]
theorem rput_11 (h0 : 0 ≤ i) (h1 : i < 10) : Ew 40 [.inr (.inr (.inr (some (some 11)))), .inl i, .inl v] (mk A F q) Q ↔ Q (.inl none, mk (u2 A 12 i.toNat v) F q) := by
  rw [row_put g_11_0 a_12 (by rw [b_12, ua_id]) (by rw [tab_len]; omega) ⟨by omega, by omega⟩]
  unfold pt
  rw [if_pos ⟨h0, by rw [tab_len]; omega⟩, d_12]
theorem rfill_11 : Ew 41 [.inr (.inr (.inr (some (some 11)))), .inl v] (mk A F q) Q ↔ Q (.inl none, mk (ua A 12 (fun _ => v)) F q) := by
  rw [row_fill g_11_0 a_12 (by rw [tab_len]; omega), tab_len, tab_rep, b_12]
theorem rget_13 (h0 : 0 ≤ i) (h1 : i < 10) : Ew 39 [.inr (.inr (.inr (some (some 13)))), .inl i] (mk A F q) Q ↔ Q (.inl (some (.inl (A 14 i.toNat))), mk A F q) := by
  rw [row_get g_13_0 a_14 (by rw [tab_len]; omega) ⟨by omega, by omega⟩]
  unfold gt
  rw [if_pos ⟨h0, by rw [tab_len]; omega⟩, tab_get (by omega)]
theorem rput_13 (h0 : 0 ≤ i) (h1 : i < 10) : Ew 40 [.inr (.inr (.inr (some (some 13)))), .inl i, .inl v] (mk A F q) Q ↔ Q (.inl none, mk (u2 A 14 i.toNat v) F q) := by
  rw [row_put g_13_0 a_14 (by rw [b_14, ua_id]) (by rw [tab_len]; omega) ⟨by omega, by omega⟩]
  unfold pt
  rw [if_pos ⟨h0, by rw [tab_len]; omega⟩, d_14]
theorem rfill_13 : Ew 41 [.inr (.inr (.inr (some (some 13)))), .inl v] (mk A F q) Q ↔ Q (.inl none, mk (ua A 14 (fun _ => v)) F q) := by
  rw [row_fill g_13_0 a_14 (by rw [tab_len]; omega), tab_len, tab_rep, b_14]
theorem rget_15 (h0 : 0 ≤ i) (h1 : i < 60) : Ew 39 [.inr (.inr (.inr (some (some 15)))), .inl i] (mk A F q) Q ↔ Q (.inl (some (.inl (A 16 i.toNat))), mk A F q) := by
  rw [row_get g_15_0 a_16 (by rw [tab_len]; omega) ⟨by omega, by omega⟩]
  unfold gt
  rw [if_pos ⟨h0, by rw [tab_len]; omega⟩, tab_get (by omega)]
theorem rput_15 (h0 : 0 ≤ i) (h1 : i < 60) : Ew 40 [.inr (.inr (.inr (some (some 15)))), .inl i, .inl v] (mk A F q) Q ↔ Q (.inl none, mk (u2 A 16 i.toNat v) F q) := by
  rw [row_put g_15_0 a_16 (by rw [b_16, ua_id]) (by rw [tab_len]; omega) ⟨by omega, by omega⟩]
  unfold pt
  rw [if_pos ⟨h0, by rw [tab_len]; omega⟩, d_16]
theorem rfill_15 : Ew 41 [.inr (.inr (.inr (some (some 15)))), .inl v] (mk A F q) Q ↔ Q (.inl none, mk (ua A 16 (fun _ => v)) F q) := by
  rw [row_fill g_15_0 a_16 (by rw [tab_len]; omega), tab_len, tab_rep, b_16]
theorem rget_17 (h0 : 0 ≤ i) (h1 : i < 60) : Ew 39 [.inr (.inr (.inr (some (some 17)))), .inl i] (mk A F q) Q ↔ Q (.inl (some (.inl (A 18 i.toNat))), mk A F q) := by
  rw [row_get g_17_0 a_18 (by rw [tab_len]; omega) ⟨by omega, by omega⟩]
  unfold gt
  rw [if_pos ⟨h0, by rw [tab_len]; omega⟩, tab_get (by omega)]
theorem rput_17 (h0 : 0 ≤ i) (h1 : i < 60) : Ew 40 [.inr (.inr (.inr (some (some 17)))), .inl i, .inl v] (mk A F q) Q ↔ Q (.inl none, mk (u2 A 18 i.toNat v) F q) := by
  rw [row_put g_17_0 a_18 (by rw [b_18, ua_id]) (by rw [tab_len]; omega) ⟨by omega, by omega⟩]
  unfold pt
  rw [if_pos ⟨h0, by rw [tab_len]; omega⟩, d_18]
theorem rfill_17 : Ew 41 [.inr (.inr (.inr (some (some 17)))), .inl v] (mk A F q) Q ↔ Q (.inl none, mk (ua A 18 (fun _ => v)) F q) := by
  rw [row_fill g_17_0 a_18 (by rw [tab_len]; omega), tab_len, tab_rep, b_18]
theorem rget_24 (h0 : 0 ≤ i) (h1 : i < 5) : Ew 39 [.inr (.inr (.inr (some (some 24)))), .inl i] (mk A F q) Q ↔ Q (.inl (some (.inl (A 25 i.toNat))), mk A F q) := by
  rw [row_get g_24_0 a_25 (by rw [tab_len]; omega) ⟨by omega, by omega⟩]
  unfold gt
  rw [if_pos ⟨h0, by rw [tab_len]; omega⟩, tab_get (by omega)]
theorem rput_24 (h0 : 0 ≤ i) (h1 : i < 5) : Ew 40 [.inr (.inr (.inr (some (some 24)))), .inl i, .inl v] (mk A F q) Q ↔ Q (.inl none, mk (u2 A 25 i.toNat v) F q) := by
  rw [row_put g_24_0 a_25 (by rw [b_25, ua_id]) (by rw [tab_len]; omega) ⟨by omega, by omega⟩]
  unfold pt
  rw [if_pos ⟨h0, by rw [tab_len]; omega⟩, d_25]
theorem rfill_24 : Ew 41 [.inr (.inr (.inr (some (some 24)))), .inl v] (mk A F q) Q ↔ Q (.inl none, mk (ua A 25 (fun _ => v)) F q) := by
  rw [row_fill g_24_0 a_25 (by rw [tab_len]; omega), tab_len, tab_rep, b_25]
theorem rget_26 (h0 : 0 ≤ i) (h1 : i < 5) : Ew 39 [.inr (.inr (.inr (some (some 26)))), .inl i] (mk A F q) Q ↔ Q (.inl (some (.inl (A 27 i.toNat))), mk A F q) := by
  rw [row_get g_26_0 a_27 (by rw [tab_len]; omega) ⟨by omega, by omega⟩]
  unfold gt
  rw [if_pos ⟨h0, by rw [tab_len]; omega⟩, tab_get (by omega)]
theorem rput_26 (h0 : 0 ≤ i) (h1 : i < 5) : Ew 40 [.inr (.inr (.inr (some (some 26)))), .inl i, .inl v] (mk A F q) Q ↔ Q (.inl none, mk (u2 A 27 i.toNat v) F q) := by
  rw [row_put g_26_0 a_27 (by rw [b_27, ua_id]) (by rw [tab_len]; omega) ⟨by omega, by omega⟩]
  unfold pt
  rw [if_pos ⟨h0, by rw [tab_len]; omega⟩, d_27]
theorem rfill_26 : Ew 41 [.inr (.inr (.inr (some (some 26)))), .inl v] (mk A F q) Q ↔ Q (.inl none, mk (ua A 27 (fun _ => v)) F q) := by
  rw [row_fill g_26_0 a_27 (by rw [tab_len]; omega), tab_len, tab_rep, b_27]
theorem rget_32 (h0 : 0 ≤ i) (h1 : i < 14) : Ew 39 [.inr (.inr (.inr (some (some 32)))), .inl i] (mk A F q) Q ↔ Q (.inl (some (.inl (A 33 i.toNat))), mk A F q) := by
  rw [row_get g_32_0 a_33 (by rw [tab_len]; omega) ⟨by omega, by omega⟩]
  unfold gt
  rw [if_pos ⟨h0, by rw [tab_len]; omega⟩, tab_get (by omega)]
theorem rput_32 (h0 : 0 ≤ i) (h1 : i < 14) : Ew 40 [.inr (.inr (.inr (some (some 32)))), .inl i, .inl v] (mk A F q) Q ↔ Q (.inl none, mk (u2 A 33 i.toNat v) F q) := by
  rw [row_put g_32_0 a_33 (by rw [b_33, ua_id]) (by rw [tab_len]; omega) ⟨by omega, by omega⟩]
  unfold pt
  rw [if_pos ⟨h0, by rw [tab_len]; omega⟩, d_33]
theorem rfill_32 : Ew 41 [.inr (.inr (.inr (some (some 32)))), .inl v] (mk A F q) Q ↔ Q (.inl none, mk (ua A 33 (fun _ => v)) F q) := by
  rw [row_fill g_32_0 a_33 (by rw [tab_len]; omega), tab_len, tab_rep, b_33]
theorem rget_34 (h0 : 0 ≤ i) (h1 : i < 14) : Ew 39 [.inr (.inr (.inr (some (some 34)))), .inl i] (mk A F q) Q ↔ Q (.inl (some (.inl (A 35 i.toNat))), mk A F q) := by
  rw [row_get g_34_0 a_35 (by rw [tab_len]; omega) ⟨by omega, by omega⟩]
  unfold gt
  rw [if_pos ⟨h0, by rw [tab_len]; omega⟩, tab_get (by omega)]
theorem rput_34 (h0 : 0 ≤ i) (h1 : i < 14) : Ew 40 [.inr (.inr (.inr (some (some 34)))), .inl i, .inl v] (mk A F q) Q ↔ Q (.inl none, mk (u2 A 35 i.toNat v) F q) := by
  rw [row_put g_34_0 a_35 (by rw [b_35, ua_id]) (by rw [tab_len]; omega) ⟨by omega, by omega⟩]
  unfold pt
  rw [if_pos ⟨h0, by rw [tab_len]; omega⟩, d_35]
theorem rfill_34 : Ew 41 [.inr (.inr (.inr (some (some 34)))), .inl v] (mk A F q) Q ↔ Q (.inl none, mk (ua A 35 (fun _ => v)) F q) := by
  rw [row_fill g_34_0 a_35 (by rw [tab_len]; omega), tab_len, tab_rep, b_35]
theorem rget_40 (h0 : 0 ≤ i) (h1 : i < 14) : Ew 39 [.inr (.inr (.inr (some (some 40)))), .inl i] (mk A F q) Q ↔ Q (.inl (some (.inl (A 41 i.toNat))), mk A F q) := by
  rw [row_get g_40_0 a_41 (by rw [tab_len]; omega) ⟨by omega, by omega⟩]
  unfold gt
  rw [if_pos ⟨h0, by rw [tab_len]; omega⟩, tab_get (by omega)]
theorem rput_40 (h0 : 0 ≤ i) (h1 : i < 14) : Ew 40 [.inr (.inr (.inr (some (some 40)))), .inl i, .inl v] (mk A F q) Q ↔ Q (.inl none, mk (u2 A 41 i.toNat v) F q) := by
  rw [row_put g_40_0 a_41 (by rw [b_41, ua_id]) (by rw [tab_len]; omega) ⟨by omega, by omega⟩]
  unfold pt
  rw [if_pos ⟨h0, by rw [tab_len]; omega⟩, d_41]
theorem rfill_40 : Ew 41 [.inr (.inr (.inr (some (some 40)))), .inl v] (mk A F q) Q ↔ Q (.inl none, mk (ua A 41 (fun _ => v)) F q) := by
  rw [row_fill g_40_0 a_41 (by rw [tab_len]; omega), tab_len, tab_rep, b_41]
theorem rget_42 (h0 : 0 ≤ i) (h1 : i < 14) : Ew 39 [.inr (.inr (.inr (some (some 42)))), .inl i] (mk A F q) Q ↔ Q (.inl (some (.inl (A 43 i.toNat))), mk A F q) := by
  rw [row_get g_42_0 a_43 (by rw [tab_len]; omega) ⟨by omega, by omega⟩]
  unfold gt
  rw [if_pos ⟨h0, by rw [tab_len]; omega⟩, tab_get (by omega)]
theorem rput_42 (h0 : 0 ≤ i) (h1 : i < 14) : Ew 40 [.inr (.inr (.inr (some (some 42)))), .inl i, .inl v] (mk A F q) Q ↔ Q (.inl none, mk (u2 A 43 i.toNat v) F q) := by
  rw [row_put g_42_0 a_43 (by rw [b_43, ua_id]) (by rw [tab_len]; omega) ⟨by omega, by omega⟩]
  unfold pt
  rw [if_pos ⟨h0, by rw [tab_len]; omega⟩, d_43]
theorem rfill_42 : Ew 41 [.inr (.inr (.inr (some (some 42)))), .inl v] (mk A F q) Q ↔ Q (.inl none, mk (ua A 43 (fun _ => v)) F q) := by
  rw [row_fill g_42_0 a_43 (by rw [tab_len]; omega), tab_len, tab_rep, b_43]
theorem gget_2 (h0 : 0 ≤ i) (h1 : i < 5) (h2 : 0 ≤ j) (h3 : j < 5) : Ew 11 [.inr (.inr (.inr (some (some 2)))), .inl i, .inl j] (mk A F q) Q ↔ Q (.inl (some (.inl (A 3 (5 * i.toNat + j.toNat)))), mk A F q) := by
  have e1 : (i * 5 + j).toNat = 5 * i.toNat + j.toNat := by omega
  rw [grid_get g_2_0 g_2_1 a_3 (by rw [tab_len]; omega) ⟨by omega, by omega⟩ ⟨by omega, by omega⟩ ⟨by omega, by omega⟩ ⟨by omega, by omega⟩]
  unfold gg gt
  rw [if_pos ⟨h0, h2, h3⟩, if_pos ⟨by omega, by rw [tab_len]; omega⟩, tab_get (by omega), e1]
theorem gput_2 (h0 : 0 ≤ i) (h1 : i < 5) (h2 : 0 ≤ j) (h3 : j < 5) : Ew 12 [.inr (.inr (.inr (some (some 2)))), .inl i, .inl j, .inl v] (mk A F q) Q ↔ Q (.inl none, mk (u2 A 3 (5 * i.toNat + j.toNat) v) F q) := by
  have e1 : (i * 5 + j).toNat = 5 * i.toNat + j.toNat := by omega
  rw [grid_put g_2_0 g_2_1 a_3 (by rw [b_3, ua_id]) (by rw [tab_len]; omega) ⟨by omega, by omega⟩ ⟨by omega, by omega⟩ ⟨by omega, by omega⟩ ⟨by omega, by omega⟩]
  unfold pg pt
  rw [if_pos ⟨h0, h2, h3⟩, if_pos ⟨by omega, by rw [tab_len]; omega⟩, d_3, e1]
theorem gadd_2 (h0 : 0 ≤ i) (h1 : i < 5) (h2 : 0 ≤ j) (h3 : j < 5) : Ew 13 [.inr (.inr (.inr (some (some 2)))), .inl i, .inl j, .inl v] (mk A F q) Q ↔ Q (.inl none, mk (u2 A 3 (5 * i.toNat + j.toNat) (A 3 (5 * i.toNat + j.toNat) + v)) F q) := by
  unfold Ew
  rw [rc_13 g_2_0 rfl rfl rfl, lc_13]
  simp only [r13_0, r13_1, r13_2, r13_3, r13_4, r13_5, r13_6, r13_9, r13_10, r13_11, r13_14, Cn_n, Cn_v, Cn_x, dp_0, dp_1, dp_2, dp_3, dp_4, okv_n, okv_i, okv_r, eq_self, true_and, and_true, Option.some.injEq, exists_eq_left', gget_2 h0 h1 h2 h3, gput_2 h0 h1 h2 h3]
theorem gfill_2 : Ew 14 [.inr (.inr (.inr (some (some 2)))), .inl v] (mk A F q) Q ↔ Q (.inl none, mk (ua A 3 (fun _ => v)) F q) := by
  rw [grid_fill g_2_1 a_3 (by rw [tab_len]; omega), tab_len, tab_rep, b_3]
theorem gget_5 (h0 : 0 ≤ i) (h1 : i < 10) (h2 : 0 ≤ j) (h3 : j < 10) : Ew 11 [.inr (.inr (.inr (some (some 5)))), .inl i, .inl j] (mk A F q) Q ↔ Q (.inl (some (.inl (A 6 (10 * i.toNat + j.toNat)))), mk A F q) := by
  have e1 : (i * 10 + j).toNat = 10 * i.toNat + j.toNat := by omega
  rw [grid_get g_5_0 g_5_1 a_6 (by rw [tab_len]; omega) ⟨by omega, by omega⟩ ⟨by omega, by omega⟩ ⟨by omega, by omega⟩ ⟨by omega, by omega⟩]
  unfold gg gt
  rw [if_pos ⟨h0, h2, h3⟩, if_pos ⟨by omega, by rw [tab_len]; omega⟩, tab_get (by omega), e1]
theorem gput_5 (h0 : 0 ≤ i) (h1 : i < 10) (h2 : 0 ≤ j) (h3 : j < 10) : Ew 12 [.inr (.inr (.inr (some (some 5)))), .inl i, .inl j, .inl v] (mk A F q) Q ↔ Q (.inl none, mk (u2 A 6 (10 * i.toNat + j.toNat) v) F q) := by
  have e1 : (i * 10 + j).toNat = 10 * i.toNat + j.toNat := by omega
  rw [grid_put g_5_0 g_5_1 a_6 (by rw [b_6, ua_id]) (by rw [tab_len]; omega) ⟨by omega, by omega⟩ ⟨by omega, by omega⟩ ⟨by omega, by omega⟩ ⟨by omega, by omega⟩]
  unfold pg pt
  rw [if_pos ⟨h0, h2, h3⟩, if_pos ⟨by omega, by rw [tab_len]; omega⟩, d_6, e1]
theorem gadd_5 (h0 : 0 ≤ i) (h1 : i < 10) (h2 : 0 ≤ j) (h3 : j < 10) : Ew 13 [.inr (.inr (.inr (some (some 5)))), .inl i, .inl j, .inl v] (mk A F q) Q ↔ Q (.inl none, mk (u2 A 6 (10 * i.toNat + j.toNat) (A 6 (10 * i.toNat + j.toNat) + v)) F q) := by
  unfold Ew
  rw [rc_13 g_5_0 rfl rfl rfl, lc_13]
  simp only [r13_0, r13_1, r13_2, r13_3, r13_4, r13_5, r13_6, r13_9, r13_10, r13_11, r13_14, Cn_n, Cn_v, Cn_x, dp_0, dp_1, dp_2, dp_3, dp_4, okv_n, okv_i, okv_r, eq_self, true_and, and_true, Option.some.injEq, exists_eq_left', gget_5 h0 h1 h2 h3, gput_5 h0 h1 h2 h3]
theorem gfill_5 : Ew 14 [.inr (.inr (.inr (some (some 5)))), .inl v] (mk A F q) Q ↔ Q (.inl none, mk (ua A 6 (fun _ => v)) F q) := by
  rw [grid_fill g_5_1 a_6 (by rw [tab_len]; omega), tab_len, tab_rep, b_6]
theorem gget_19 (h0 : 0 ≤ i) (h1 : i < 60) (h2 : 0 ≤ j) (h3 : j < 5) : Ew 11 [.inr (.inr (.inr (some (some 19)))), .inl i, .inl j] (mk A F q) Q ↔ Q (.inl (some (.inl (A 20 (5 * i.toNat + j.toNat)))), mk A F q) := by
  have e1 : (i * 5 + j).toNat = 5 * i.toNat + j.toNat := by omega
  rw [grid_get g_19_0 g_19_1 a_20 (by rw [tab_len]; omega) ⟨by omega, by omega⟩ ⟨by omega, by omega⟩ ⟨by omega, by omega⟩ ⟨by omega, by omega⟩]
  unfold gg gt
  rw [if_pos ⟨h0, h2, h3⟩, if_pos ⟨by omega, by rw [tab_len]; omega⟩, tab_get (by omega), e1]
theorem gput_19 (h0 : 0 ≤ i) (h1 : i < 60) (h2 : 0 ≤ j) (h3 : j < 5) : Ew 12 [.inr (.inr (.inr (some (some 19)))), .inl i, .inl j, .inl v] (mk A F q) Q ↔ Q (.inl none, mk (u2 A 20 (5 * i.toNat + j.toNat) v) F q) := by
  have e1 : (i * 5 + j).toNat = 5 * i.toNat + j.toNat := by omega
  rw [grid_put g_19_0 g_19_1 a_20 (by rw [b_20, ua_id]) (by rw [tab_len]; omega) ⟨by omega, by omega⟩ ⟨by omega, by omega⟩ ⟨by omega, by omega⟩ ⟨by omega, by omega⟩]
  unfold pg pt
  rw [if_pos ⟨h0, h2, h3⟩, if_pos ⟨by omega, by rw [tab_len]; omega⟩, d_20, e1]
theorem gadd_19 (h0 : 0 ≤ i) (h1 : i < 60) (h2 : 0 ≤ j) (h3 : j < 5) : Ew 13 [.inr (.inr (.inr (some (some 19)))), .inl i, .inl j, .inl v] (mk A F q) Q ↔ Q (.inl none, mk (u2 A 20 (5 * i.toNat + j.toNat) (A 20 (5 * i.toNat + j.toNat) + v)) F q) := by
  unfold Ew
  rw [rc_13 g_19_0 rfl rfl rfl, lc_13]
  simp only [r13_0, r13_1, r13_2, r13_3, r13_4, r13_5, r13_6, r13_9, r13_10, r13_11, r13_14, Cn_n, Cn_v, Cn_x, dp_0, dp_1, dp_2, dp_3, dp_4, okv_n, okv_i, okv_r, eq_self, true_and, and_true, Option.some.injEq, exists_eq_left', gget_19 h0 h1 h2 h3, gput_19 h0 h1 h2 h3]
theorem gfill_19 : Ew 14 [.inr (.inr (.inr (some (some 19)))), .inl v] (mk A F q) Q ↔ Q (.inl none, mk (ua A 20 (fun _ => v)) F q) := by
  rw [grid_fill g_19_1 a_20 (by rw [tab_len]; omega), tab_len, tab_rep, b_20]
theorem gget_22 (h0 : 0 ≤ i) (h1 : i < 5) (h2 : 0 ≤ j) (h3 : j < 5) : Ew 11 [.inr (.inr (.inr (some (some 22)))), .inl i, .inl j] (mk A F q) Q ↔ Q (.inl (some (.inl (A 23 (5 * i.toNat + j.toNat)))), mk A F q) := by
  have e1 : (i * 5 + j).toNat = 5 * i.toNat + j.toNat := by omega
  rw [grid_get g_22_0 g_22_1 a_23 (by rw [tab_len]; omega) ⟨by omega, by omega⟩ ⟨by omega, by omega⟩ ⟨by omega, by omega⟩ ⟨by omega, by omega⟩]
  unfold gg gt
  rw [if_pos ⟨h0, h2, h3⟩, if_pos ⟨by omega, by rw [tab_len]; omega⟩, tab_get (by omega), e1]
theorem gput_22 (h0 : 0 ≤ i) (h1 : i < 5) (h2 : 0 ≤ j) (h3 : j < 5) : Ew 12 [.inr (.inr (.inr (some (some 22)))), .inl i, .inl j, .inl v] (mk A F q) Q ↔ Q (.inl none, mk (u2 A 23 (5 * i.toNat + j.toNat) v) F q) := by
  have e1 : (i * 5 + j).toNat = 5 * i.toNat + j.toNat := by omega
  rw [grid_put g_22_0 g_22_1 a_23 (by rw [b_23, ua_id]) (by rw [tab_len]; omega) ⟨by omega, by omega⟩ ⟨by omega, by omega⟩ ⟨by omega, by omega⟩ ⟨by omega, by omega⟩]
  unfold pg pt
  rw [if_pos ⟨h0, h2, h3⟩, if_pos ⟨by omega, by rw [tab_len]; omega⟩, d_23, e1]
theorem gadd_22 (h0 : 0 ≤ i) (h1 : i < 5) (h2 : 0 ≤ j) (h3 : j < 5) : Ew 13 [.inr (.inr (.inr (some (some 22)))), .inl i, .inl j, .inl v] (mk A F q) Q ↔ Q (.inl none, mk (u2 A 23 (5 * i.toNat + j.toNat) (A 23 (5 * i.toNat + j.toNat) + v)) F q) := by
  unfold Ew
  rw [rc_13 g_22_0 rfl rfl rfl, lc_13]
  simp only [r13_0, r13_1, r13_2, r13_3, r13_4, r13_5, r13_6, r13_9, r13_10, r13_11, r13_14, Cn_n, Cn_v, Cn_x, dp_0, dp_1, dp_2, dp_3, dp_4, okv_n, okv_i, okv_r, eq_self, true_and, and_true, Option.some.injEq, exists_eq_left', gget_22 h0 h1 h2 h3, gput_22 h0 h1 h2 h3]
theorem gfill_22 : Ew 14 [.inr (.inr (.inr (some (some 22)))), .inl v] (mk A F q) Q ↔ Q (.inl none, mk (ua A 23 (fun _ => v)) F q) := by
  rw [grid_fill g_22_1 a_23 (by rw [tab_len]; omega), tab_len, tab_rep, b_23]
theorem gget_30 (h0 : 0 ≤ i) (h1 : i < 14) (h2 : 0 ≤ j) (h3 : j < 14) : Ew 11 [.inr (.inr (.inr (some (some 30)))), .inl i, .inl j] (mk A F q) Q ↔ Q (.inl (some (.inl (A 31 (14 * i.toNat + j.toNat)))), mk A F q) := by
  have e1 : (i * 14 + j).toNat = 14 * i.toNat + j.toNat := by omega
  rw [grid_get g_30_0 g_30_1 a_31 (by rw [tab_len]; omega) ⟨by omega, by omega⟩ ⟨by omega, by omega⟩ ⟨by omega, by omega⟩ ⟨by omega, by omega⟩]
  unfold gg gt
  rw [if_pos ⟨h0, h2, h3⟩, if_pos ⟨by omega, by rw [tab_len]; omega⟩, tab_get (by omega), e1]
theorem gput_30 (h0 : 0 ≤ i) (h1 : i < 14) (h2 : 0 ≤ j) (h3 : j < 14) : Ew 12 [.inr (.inr (.inr (some (some 30)))), .inl i, .inl j, .inl v] (mk A F q) Q ↔ Q (.inl none, mk (u2 A 31 (14 * i.toNat + j.toNat) v) F q) := by
  have e1 : (i * 14 + j).toNat = 14 * i.toNat + j.toNat := by omega
  rw [grid_put g_30_0 g_30_1 a_31 (by rw [b_31, ua_id]) (by rw [tab_len]; omega) ⟨by omega, by omega⟩ ⟨by omega, by omega⟩ ⟨by omega, by omega⟩ ⟨by omega, by omega⟩]
  unfold pg pt
  rw [if_pos ⟨h0, h2, h3⟩, if_pos ⟨by omega, by rw [tab_len]; omega⟩, d_31, e1]
theorem gadd_30 (h0 : 0 ≤ i) (h1 : i < 14) (h2 : 0 ≤ j) (h3 : j < 14) : Ew 13 [.inr (.inr (.inr (some (some 30)))), .inl i, .inl j, .inl v] (mk A F q) Q ↔ Q (.inl none, mk (u2 A 31 (14 * i.toNat + j.toNat) (A 31 (14 * i.toNat + j.toNat) + v)) F q) := by
  unfold Ew
  rw [rc_13 g_30_0 rfl rfl rfl, lc_13]
  simp only [r13_0, r13_1, r13_2, r13_3, r13_4, r13_5, r13_6, r13_9, r13_10, r13_11, r13_14, Cn_n, Cn_v, Cn_x, dp_0, dp_1, dp_2, dp_3, dp_4, okv_n, okv_i, okv_r, eq_self, true_and, and_true, Option.some.injEq, exists_eq_left', gget_30 h0 h1 h2 h3, gput_30 h0 h1 h2 h3]
theorem gfill_30 : Ew 14 [.inr (.inr (.inr (some (some 30)))), .inl v] (mk A F q) Q ↔ Q (.inl none, mk (ua A 31 (fun _ => v)) F q) := by
  rw [grid_fill g_30_1 a_31 (by rw [tab_len]; omega), tab_len, tab_rep, b_31]
theorem gget_38 (h0 : 0 ≤ i) (h1 : i < 14) (h2 : 0 ≤ j) (h3 : j < 14) : Ew 11 [.inr (.inr (.inr (some (some 38)))), .inl i, .inl j] (mk A F q) Q ↔ Q (.inl (some (.inl (A 39 (14 * i.toNat + j.toNat)))), mk A F q) := by
  have e1 : (i * 14 + j).toNat = 14 * i.toNat + j.toNat := by omega
  rw [grid_get g_38_0 g_38_1 a_39 (by rw [tab_len]; omega) ⟨by omega, by omega⟩ ⟨by omega, by omega⟩ ⟨by omega, by omega⟩ ⟨by omega, by omega⟩]
  unfold gg gt
  rw [if_pos ⟨h0, h2, h3⟩, if_pos ⟨by omega, by rw [tab_len]; omega⟩, tab_get (by omega), e1]
theorem gput_38 (h0 : 0 ≤ i) (h1 : i < 14) (h2 : 0 ≤ j) (h3 : j < 14) : Ew 12 [.inr (.inr (.inr (some (some 38)))), .inl i, .inl j, .inl v] (mk A F q) Q ↔ Q (.inl none, mk (u2 A 39 (14 * i.toNat + j.toNat) v) F q) := by
  have e1 : (i * 14 + j).toNat = 14 * i.toNat + j.toNat := by omega
  rw [grid_put g_38_0 g_38_1 a_39 (by rw [b_39, ua_id]) (by rw [tab_len]; omega) ⟨by omega, by omega⟩ ⟨by omega, by omega⟩ ⟨by omega, by omega⟩ ⟨by omega, by omega⟩]
  unfold pg pt
  rw [if_pos ⟨h0, h2, h3⟩, if_pos ⟨by omega, by rw [tab_len]; omega⟩, d_39, e1]
theorem gadd_38 (h0 : 0 ≤ i) (h1 : i < 14) (h2 : 0 ≤ j) (h3 : j < 14) : Ew 13 [.inr (.inr (.inr (some (some 38)))), .inl i, .inl j, .inl v] (mk A F q) Q ↔ Q (.inl none, mk (u2 A 39 (14 * i.toNat + j.toNat) (A 39 (14 * i.toNat + j.toNat) + v)) F q) := by
  unfold Ew
  rw [rc_13 g_38_0 rfl rfl rfl, lc_13]
  simp only [r13_0, r13_1, r13_2, r13_3, r13_4, r13_5, r13_6, r13_9, r13_10, r13_11, r13_14, Cn_n, Cn_v, Cn_x, dp_0, dp_1, dp_2, dp_3, dp_4, okv_n, okv_i, okv_r, eq_self, true_and, and_true, Option.some.injEq, exists_eq_left', gget_38 h0 h1 h2 h3, gput_38 h0 h1 h2 h3]
theorem gfill_38 : Ew 14 [.inr (.inr (.inr (some (some 38)))), .inl v] (mk A F q) Q ↔ Q (.inl none, mk (ua A 39 (fun _ => v)) F q) := by
  rw [grid_fill g_38_1 a_39 (by rw [tab_len]; omega), tab_len, tab_rep, b_39]
theorem gget_44 (h0 : 0 ≤ i) (h1 : i < 5) (h2 : 0 ≤ j) (h3 : j < 5) : Ew 11 [.inr (.inr (.inr (some (some 44)))), .inl i, .inl j] (mk A F q) Q ↔ Q (.inl (some (.inl (A 45 (5 * i.toNat + j.toNat)))), mk A F q) := by
  have e1 : (i * 5 + j).toNat = 5 * i.toNat + j.toNat := by omega
  rw [grid_get g_44_0 g_44_1 a_45 (by rw [tab_len]; omega) ⟨by omega, by omega⟩ ⟨by omega, by omega⟩ ⟨by omega, by omega⟩ ⟨by omega, by omega⟩]
  unfold gg gt
  rw [if_pos ⟨h0, h2, h3⟩, if_pos ⟨by omega, by rw [tab_len]; omega⟩, tab_get (by omega), e1]
theorem gput_44 (h0 : 0 ≤ i) (h1 : i < 5) (h2 : 0 ≤ j) (h3 : j < 5) : Ew 12 [.inr (.inr (.inr (some (some 44)))), .inl i, .inl j, .inl v] (mk A F q) Q ↔ Q (.inl none, mk (u2 A 45 (5 * i.toNat + j.toNat) v) F q) := by
  have e1 : (i * 5 + j).toNat = 5 * i.toNat + j.toNat := by omega
  rw [grid_put g_44_0 g_44_1 a_45 (by rw [b_45, ua_id]) (by rw [tab_len]; omega) ⟨by omega, by omega⟩ ⟨by omega, by omega⟩ ⟨by omega, by omega⟩ ⟨by omega, by omega⟩]
  unfold pg pt
  rw [if_pos ⟨h0, h2, h3⟩, if_pos ⟨by omega, by rw [tab_len]; omega⟩, d_45, e1]
theorem gadd_44 (h0 : 0 ≤ i) (h1 : i < 5) (h2 : 0 ≤ j) (h3 : j < 5) : Ew 13 [.inr (.inr (.inr (some (some 44)))), .inl i, .inl j, .inl v] (mk A F q) Q ↔ Q (.inl none, mk (u2 A 45 (5 * i.toNat + j.toNat) (A 45 (5 * i.toNat + j.toNat) + v)) F q) := by
  unfold Ew
  rw [rc_13 g_44_0 rfl rfl rfl, lc_13]
  simp only [r13_0, r13_1, r13_2, r13_3, r13_4, r13_5, r13_6, r13_9, r13_10, r13_11, r13_14, Cn_n, Cn_v, Cn_x, dp_0, dp_1, dp_2, dp_3, dp_4, okv_n, okv_i, okv_r, eq_self, true_and, and_true, Option.some.injEq, exists_eq_left', gget_44 h0 h1 h2 h3, gput_44 h0 h1 h2 h3]
theorem gfill_44 : Ew 14 [.inr (.inr (.inr (some (some 44)))), .inl v] (mk A F q) Q ↔ Q (.inl none, mk (ua A 45 (fun _ => v)) F q) := by
  rw [grid_fill g_44_1 a_45 (by rw [tab_len]; omega), tab_len, tab_rep, b_45]
theorem gget_46 (h0 : 0 ≤ i) (h1 : i < 5) (h2 : 0 ≤ j) (h3 : j < 5) : Ew 11 [.inr (.inr (.inr (some (some 46)))), .inl i, .inl j] (mk A F q) Q ↔ Q (.inl (some (.inl (A 47 (5 * i.toNat + j.toNat)))), mk A F q) := by
  have e1 : (i * 5 + j).toNat = 5 * i.toNat + j.toNat := by omega
  rw [grid_get g_46_0 g_46_1 a_47 (by rw [tab_len]; omega) ⟨by omega, by omega⟩ ⟨by omega, by omega⟩ ⟨by omega, by omega⟩ ⟨by omega, by omega⟩]
  unfold gg gt
  rw [if_pos ⟨h0, h2, h3⟩, if_pos ⟨by omega, by rw [tab_len]; omega⟩, tab_get (by omega), e1]
theorem gput_46 (h0 : 0 ≤ i) (h1 : i < 5) (h2 : 0 ≤ j) (h3 : j < 5) : Ew 12 [.inr (.inr (.inr (some (some 46)))), .inl i, .inl j, .inl v] (mk A F q) Q ↔ Q (.inl none, mk (u2 A 47 (5 * i.toNat + j.toNat) v) F q) := by
  have e1 : (i * 5 + j).toNat = 5 * i.toNat + j.toNat := by omega
  rw [grid_put g_46_0 g_46_1 a_47 (by rw [b_47, ua_id]) (by rw [tab_len]; omega) ⟨by omega, by omega⟩ ⟨by omega, by omega⟩ ⟨by omega, by omega⟩ ⟨by omega, by omega⟩]
  unfold pg pt
  rw [if_pos ⟨h0, h2, h3⟩, if_pos ⟨by omega, by rw [tab_len]; omega⟩, d_47, e1]
theorem gadd_46 (h0 : 0 ≤ i) (h1 : i < 5) (h2 : 0 ≤ j) (h3 : j < 5) : Ew 13 [.inr (.inr (.inr (some (some 46)))), .inl i, .inl j, .inl v] (mk A F q) Q ↔ Q (.inl none, mk (u2 A 47 (5 * i.toNat + j.toNat) (A 47 (5 * i.toNat + j.toNat) + v)) F q) := by
  unfold Ew
  rw [rc_13 g_46_0 rfl rfl rfl, lc_13]
  simp only [r13_0, r13_1, r13_2, r13_3, r13_4, r13_5, r13_6, r13_9, r13_10, r13_11, r13_14, Cn_n, Cn_v, Cn_x, dp_0, dp_1, dp_2, dp_3, dp_4, okv_n, okv_i, okv_r, eq_self, true_and, and_true, Option.some.injEq, exists_eq_left', gget_46 h0 h1 h2 h3, gput_46 h0 h1 h2 h3]
theorem gfill_46 : Ew 14 [.inr (.inr (.inr (some (some 46)))), .inl v] (mk A F q) Q ↔ Q (.inl none, mk (ua A 47 (fun _ => v)) F q) := by
  rw [grid_fill g_46_1 a_47 (by rw [tab_len]; omega), tab_len, tab_rep, b_47]
end LEAF
