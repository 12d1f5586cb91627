/-! the law's loop -/
theorem and31 (z : Int) : 0 ≤ iop (fun x y => x &&& y) z 31 ∧ iop (fun x y => x &&& y) z 31 ≤ 31 := by
  have h : (Int32.ofInt z &&& Int32.ofInt 31).toBitVec.toNat ≤ 31 := by
    rw [Int32.toBitVec_and, BitVec.toNat_and]
    exact Nat.le_trans Nat.and_le_right (by decide)
  have e : iop (fun x y => x &&& y) z 31 = ((Int32.ofInt z &&& Int32.ofInt 31).toBitVec.toNat : Int) := by
    show (Int32.ofInt z &&& Int32.ofInt 31).toBitVec.toInt = _
    exact BitVec.toInt_eq_toNat_of_lt (by omega)
  omega
theorem swl_0 : (if (0 : Int) ≤ 0 ∧ (0 : Int) < swt.length then swt.getD (Int.toNat 0) 0 else 1630) = 172 := by decide +kernel
theorem swl_1 : (if (0 : Int) ≤ 1 ∧ (1 : Int) < swt.length then swt.getD (Int.toNat 1) 0 else 1630) = 240 := by decide +kernel
theorem swl_2 : (if (0 : Int) ≤ 2 ∧ (2 : Int) < swt.length then swt.getD (Int.toNat 2) 0 else 1630) = 320 := by decide +kernel
theorem swl_3 : (if (0 : Int) ≤ 3 ∧ (3 : Int) < swt.length then swt.getD (Int.toNat 3) 0 else 1630) = 400 := by decide +kernel
theorem swl_4 : (if (0 : Int) ≤ 4 ∧ (4 : Int) < swt.length then swt.getD (Int.toNat 4) 0 else 1630) = 468 := by decide +kernel
theorem swl_5 : (if (0 : Int) ≤ 5 ∧ (5 : Int) < swt.length then swt.getD (Int.toNat 5) 0 else 1630) = 481 := by decide +kernel
theorem swl_6 : (if (0 : Int) ≤ 6 ∧ (6 : Int) < swt.length then swt.getD (Int.toNat 6) 0 else 1630) = 494 := by decide +kernel
theorem swl_7 : (if (0 : Int) ≤ 7 ∧ (7 : Int) < swt.length then swt.getD (Int.toNat 7) 0 else 1630) = 507 := by decide +kernel
theorem swl_8 : (if (0 : Int) ≤ 8 ∧ (8 : Int) < swt.length then swt.getD (Int.toNat 8) 0 else 1630) = 575 := by decide +kernel
theorem swl_9 : (if (0 : Int) ≤ 9 ∧ (9 : Int) < swt.length then swt.getD (Int.toNat 9) 0 else 1630) = 631 := by decide +kernel
theorem swl_10 : (if (0 : Int) ≤ 10 ∧ (10 : Int) < swt.length then swt.getD (Int.toNat 10) 0 else 1630) = 687 := by decide +kernel
theorem swl_11 : (if (0 : Int) ≤ 11 ∧ (11 : Int) < swt.length then swt.getD (Int.toNat 11) 0 else 1630) = 700 := by decide +kernel
theorem swl_12 : (if (0 : Int) ≤ 12 ∧ (12 : Int) < swt.length then swt.getD (Int.toNat 12) 0 else 1630) = 713 := by decide +kernel
theorem swl_13 : (if (0 : Int) ≤ 13 ∧ (13 : Int) < swt.length then swt.getD (Int.toNat 13) 0 else 1630) = 726 := by decide +kernel
theorem swl_14 : (if (0 : Int) ≤ 14 ∧ (14 : Int) < swt.length then swt.getD (Int.toNat 14) 0 else 1630) = 794 := by decide +kernel
theorem swl_15 : (if (0 : Int) ≤ 15 ∧ (15 : Int) < swt.length then swt.getD (Int.toNat 15) 0 else 1630) = 807 := by decide +kernel
theorem swl_16 : (if (0 : Int) ≤ 16 ∧ (16 : Int) < swt.length then swt.getD (Int.toNat 16) 0 else 1630) = 863 := by decide +kernel
theorem swl_17 : (if (0 : Int) ≤ 17 ∧ (17 : Int) < swt.length then swt.getD (Int.toNat 17) 0 else 1630) = 919 := by decide +kernel
theorem swl_18 : (if (0 : Int) ≤ 18 ∧ (18 : Int) < swt.length then swt.getD (Int.toNat 18) 0 else 1630) = 987 := by decide +kernel
theorem swl_19 : (if (0 : Int) ≤ 19 ∧ (19 : Int) < swt.length then swt.getD (Int.toNat 19) 0 else 1630) = 1055 := by decide +kernel
theorem swl_20 : (if (0 : Int) ≤ 20 ∧ (20 : Int) < swt.length then swt.getD (Int.toNat 20) 0 else 1630) = 1135 := by decide +kernel
theorem swl_21 : (if (0 : Int) ≤ 21 ∧ (21 : Int) < swt.length then swt.getD (Int.toNat 21) 0 else 1630) = 1191 := by decide +kernel
theorem swl_22 : (if (0 : Int) ≤ 22 ∧ (22 : Int) < swt.length then swt.getD (Int.toNat 22) 0 else 1630) = 1204 := by decide +kernel
theorem swl_23 : (if (0 : Int) ≤ 23 ∧ (23 : Int) < swt.length then swt.getD (Int.toNat 23) 0 else 1630) = 1217 := by decide +kernel
theorem swl_24 : (if (0 : Int) ≤ 24 ∧ (24 : Int) < swt.length then swt.getD (Int.toNat 24) 0 else 1630) = 1285 := by decide +kernel
theorem swl_25 : (if (0 : Int) ≤ 25 ∧ (25 : Int) < swt.length then swt.getD (Int.toNat 25) 0 else 1630) = 1329 := by decide +kernel
theorem swl_26 : (if (0 : Int) ≤ 26 ∧ (26 : Int) < swt.length then swt.getD (Int.toNat 26) 0 else 1630) = 1397 := by decide +kernel
theorem swl_27 : (if (0 : Int) ≤ 27 ∧ (27 : Int) < swt.length then swt.getD (Int.toNat 27) 0 else 1630) = 1477 := by decide +kernel
theorem swl_28 : (if (0 : Int) ≤ 28 ∧ (28 : Int) < swt.length then swt.getD (Int.toNat 28) 0 else 1630) = 1533 := by decide +kernel
theorem swl_29 : (if (0 : Int) ≤ 29 ∧ (29 : Int) < swt.length then swt.getD (Int.toNat 29) 0 else 1630) = 1589 := by decide +kernel
theorem swl_30 : (if (0 : Int) ≤ 30 ∧ (30 : Int) < swt.length then swt.getD (Int.toNat 30) 0 else 1630) = 1630 := by decide +kernel
theorem swl_31 : (if (0 : Int) ≤ 31 ∧ (31 : Int) < swt.length then swt.getD (Int.toNat 31) 0 else 1630) = 1630 := by decide +kernel
theorem law_run (xs : List Int) (hlen : xs.length ≤ 2048) (hr : ∀ n, rg (xs.getD n 0)) : ∀ (d : Nat) (i : Int) (A : Nat → Nat → Int) (F : Nat → Int) (J M : Nat) (t : Nat → Int) (q : List Int × Nat) (x5 x6 x7 x8 : Option AV), 0 ≤ i → (xs.length : Int) - i ≤ 4 * d + 3 → i ≤ 4096 → q.1 = xs → q.2 + 7 * d ≤ 601024 → INV A F J M t → Wp 195 23 [some vS, some (vR 0), some (vR 48), some (vR 59), some (.inl i), x5, x6, x7, x8] [] (mk A F q) (fun r => ∃ h, r = (.inl (some (.inl 1)), h) ∧ h.2.2 ≤ 601024) := by
  intro d
  induction d with
  | zero =>
    intro i A F J M t q x5 x6 x7 x8 h0 h1 hi9 hq hu hI
    rw [r195_23]
    simp (disch := omega) only [r195_25, r195_26, r195_27, r195_28, r195_29, r195_1636, r195_1637, Cn_n, Cn_v, Cn_x, dp_0, dp_1, dp_2, dp_3, dp_4, okv_n, okv_i, okv_r, eq_self, true_and, and_true, Option.some.injEq, exists_eq_left', rgT, ixT, ixU, ↓if_pos, ↓if_neg, Int.toNat_natCast, bT0, bT1, q_1, hq]
    exact ⟨_, rfl, by rw [q_2]; omega⟩
  | succ d ih =>
    intro i A F J M t q x5 x6 x7 x8 h0 h1 hi9 hq hu hI
    by_cases c : (xs.length : Int) - 4 < i
    · rw [r195_23]
      simp (disch := omega) only [r195_25, r195_26, r195_27, r195_28, r195_29, r195_1636, r195_1637, Cn_n, Cn_v, Cn_x, dp_0, dp_1, dp_2, dp_3, dp_4, okv_n, okv_i, okv_r, eq_self, true_and, and_true, Option.some.injEq, exists_eq_left', rgT, ixT, ixU, ↓if_pos, ↓if_neg, Int.toNat_natCast, bT0, bT1, q_1, hq]
      exact ⟨_, rfl, by rw [q_2]; omega⟩
    · have hn : ∀ A1 F1 J1 M1 t1 q1 x5 x6 x7 x8, INV A1 F1 J1 M1 t1 → QFr q q1 → Wp 195 1630 [some vS, some (vR 0), some (vR 48), some (vR 59), some (.inl i), x5, x6, x7, x8] [] (mk A1 F1 q1) (fun r => ∃ h, r = (.inl (some (.inl 1)), h) ∧ h.2.2 ≤ 601024) := by
        intro A1 F1 J1 M1 t1 q1 x5 x6 x7 x8 hI1 hq1
        simp (disch := omega) only [r195_1630, r195_1633, Cn_n, Cn_v, Cn_x, dp_0, dp_1, dp_2, dp_3, dp_4, okv_n, okv_i, okv_r, eq_self, true_and, and_true, Option.some.injEq, exists_eq_left', rgT, ixT, ixU, ↓if_pos, ↓if_neg, Int.toNat_natCast, bT0, bT1]
        exact ih (i + 4) A1 F1 J1 M1 t1 q1 x5 x6 x7 x8 (by omega) (by omega) (by omega) (hq1.1.trans hq) (by have := hq1.2; omega) hI1
      have hi3 : i + 3 < q.1.length := by rw [hq]; omega
      have hl9 : q.1.length ≤ 2048 := by rw [hq]; exact hlen
      have hr9 : ∀ n, rg (q.1.getD n 0) := by rw [hq]; exact hr
      rw [r195_23]
      simp (disch := omega) only [r195_25, r195_26, r195_27, r195_28, r195_29, r195_32, r195_33, r195_35, r195_36, r195_38, Cn_n, Cn_v, Cn_x, dp_0, dp_1, dp_2, dp_3, dp_4, okv_n, okv_i, okv_r, eq_self, true_and, and_true, Option.some.injEq, exists_eq_left', rgT, ixT, ixU, ↓if_pos, ↓if_neg, Int.toNat_natCast, bT0, bT1, q_1]
      have bx := and31 (q.1.getD i.toNat 0)
      generalize iop (fun x y => x &&& y) (q.1.getD i.toNat 0) 31 = x at bx
      refine r195_39.mpr ⟨⟨by omega, by omega⟩, ?_⟩
      have hc : x = 0 ∨ x = 1 ∨ x = 2 ∨ x = 3 ∨ x = 4 ∨ x = 5 ∨ x = 6 ∨ x = 7 ∨ x = 8 ∨ x = 9 ∨ x = 10 ∨ x = 11 ∨ x = 12 ∨ x = 13 ∨ x = 14 ∨ x = 15 ∨ x = 16 ∨ x = 17 ∨ x = 18 ∨ x = 19 ∨ x = 20 ∨ x = 21 ∨ x = 22 ∨ x = 23 ∨ x = 24 ∨ x = 25 ∨ x = 26 ∨ x = 27 ∨ x = 28 ∨ x = 29 ∨ x = 30 ∨ x = 31 := by omega
      rcases hc with rfl | rfl | rfl | rfl | rfl | rfl | rfl | rfl | rfl | rfl | rfl | rfl | rfl | rfl | rfl | rfl | rfl | rfl | rfl | rfl | rfl | rfl | rfl | rfl | rfl | rfl | rfl | rfl | rfl | rfl | rfl | rfl
      · rw [swl_0]
        exact lwc_0 hI h0 hi3 hl9 hr9 hn
      · rw [swl_1]
        exact lwc_1 hI h0 hi3 hl9 hr9 hn
      · rw [swl_2]
        exact lwc_2 hI h0 hi3 hl9 hr9 hn
      · rw [swl_3]
        exact lwc_3 hI h0 hi3 hl9 hr9 hn
      · rw [swl_4]
        exact lwc_4 hI h0 hi3 hl9 hr9 hn
      · rw [swl_5]
        exact lwc_5 hI h0 hi3 hl9 hr9 hn
      · rw [swl_6]
        exact lwc_6 hI h0 hi3 hl9 hr9 hn
      · rw [swl_7]
        exact lwc_7 hI h0 hi3 hl9 hr9 hn
      · rw [swl_8]
        exact lwc_8 hI h0 hi3 hl9 hr9 hn
      · rw [swl_9]
        exact lwc_9 hI h0 hi3 hl9 hr9 hn
      · rw [swl_10]
        exact lwc_10 hI h0 hi3 hl9 hr9 hn
      · rw [swl_11]
        exact lwc_11 hI h0 hi3 hl9 hr9 hn
      · rw [swl_12]
        exact lwc_12 hI h0 hi3 hl9 hr9 hn
      · rw [swl_13]
        exact lwc_13 hI h0 hi3 hl9 hr9 hn
      · rw [swl_14]
        exact lwc_14 hI h0 hi3 hl9 hr9 hn
      · rw [swl_15]
        exact lwc_15 hI h0 hi3 hl9 hr9 hn
      · rw [swl_16]
        exact lwc_16 hI h0 hi3 hl9 hr9 hn
      · rw [swl_17]
        exact lwc_17 hI h0 hi3 hl9 hr9 hn
      · rw [swl_18]
        exact lwc_18 hI h0 hi3 hl9 hr9 hn
      · rw [swl_19]
        exact lwc_19 hI h0 hi3 hl9 hr9 hn
      · rw [swl_20]
        exact lwc_20 hI h0 hi3 hl9 hr9 hn
      · rw [swl_21]
        exact lwc_21 hI h0 hi3 hl9 hr9 hn
      · rw [swl_22]
        exact lwc_22 hI h0 hi3 hl9 hr9 hn
      · rw [swl_23]
        exact lwc_23 hI h0 hi3 hl9 hr9 hn
      · rw [swl_24]
        exact lwc_24 hI h0 hi3 hl9 hr9 hn
      · rw [swl_25]
        exact lwc_25 hI h0 hi3 hl9 hr9 hn
      · rw [swl_26]
        exact lwc_26 hI h0 hi3 hl9 hr9 hn
      · rw [swl_27]
        exact lwc_27 hI h0 hi3 hl9 hr9 hn
      · rw [swl_28]
        exact lwc_28 hI h0 hi3 hl9 hr9 hn
      · rw [swl_29]
        exact lwc_29 hI h0 hi3 hl9 hr9 hn
      · rw [swl_30]
        exact hn _ _ _ _ _ _ _ _ _ _ hI QFr_r
      · rw [swl_31]
        exact hn _ _ _ _ _ _ _ _ _ _ hI QFr_r
theorem INV_0 : INV A00 F00 3 3 (fun _ => 0) := ⟨⟨rfl, rfl, rfl, Or.inl rfl⟩, ⟨rfl, rfl, rfl⟩, by decide, by decide, by decide, by decide, fun _ _ => ⟨Int.le_refl _, (by decide : (0 : Int) ≤ 99)⟩⟩
theorem whole_start {p : Program} {e : Env} {s : State} {m : MethodId} {below : List Frame} {meth : Method} {c : Code} (l : Launch) (hflags : l.flags = flags0) {b L : Nat} {xs : Nat → Int32} (hL : L ≤ 2048) (C0 : lw_At p s m meth c b L xs) : W p l e room_1 s m #[Value.ref b] below meth c s.heap [] 0 0 (lw_Z below #[Value.ref b] s) (entryFrame m ([Value.ref b] : List Value).toArray 9) := by
  have hlen : ((List.range L).map (fun j => (xs j).toInt)).length = L := by simp
  have hr : ∀ n, rg (((List.range L).map (fun j => (xs j).toInt)).getD n 0) := by
    intro n
    rw [List.getD_eq_getElem?_getD, List.getElem?_map]
    cases h : (List.range L)[n]? with
    | none => exact rg0
    | some j =>
      have h1 := BitVec.le_toInt (xs j).toBitVec
      have h2 := @BitVec.toInt_lt 32 (xs j).toBitVec
      show rg ((xs j).toBitVec.toInt)
      exact ⟨by omega, by omega⟩
  obtain ⟨n, r, hrun, h9, rfl, hroom⟩ := law_init (law_run _ (by rw [hlen]; exact hL) hr 512 0 A00 F00 3 3 (fun _ => 0) ((List.range L).map (fun j => (xs j).toInt), 49831) none none none none (Int.le_refl _) (by rw [hlen]; omega) (by decide) rfl (show 49831 + 7 * 512 ≤ 601024 by decide) INV_0)
  exact law_from l hflags C0 n h9 hrun hroom
