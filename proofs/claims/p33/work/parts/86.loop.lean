/-! the law's loop -/
theorem andm (z : Int) : 0 ≤ iop (fun x y => x &&& y) z 2147483647 ∧ iop (fun x y => x &&& y) z 2147483647 ≤ 2147483647 := by
  have h : (Int32.ofInt z &&& Int32.ofInt 2147483647).toBitVec.toNat ≤ 2147483647 := by
    rw [Int32.toBitVec_and, BitVec.toNat_and]
    exact Nat.le_trans Nat.and_le_right (by decide +kernel)
  have e : iop (fun x y => x &&& y) z 2147483647 = ((Int32.ofInt z &&& Int32.ofInt 2147483647).toBitVec.toNat : Int) := by
    show (Int32.ofInt z &&& Int32.ofInt 2147483647).toBitVec.toInt = _
    exact BitVec.toInt_eq_toNat_of_lt (by omega)
  omega
section LLOP
variable {A A1 : Nat → Nat → Int} {F F1 : Nat → Int} {q : List Int × Nat} {Q : AR → Prop} {J M : Nat} {k : Int}
theorem PRE_fr (h : PRE A F J M) (a3 : A1 3 = A 3) (a16 : A1 16 = A 16) (a18 : A1 18 = A 18) (a20 : A1 20 = A 20) (f : ∀ k, k < 77 → F1 k = F k) : PRE A1 F1 J M := by
  obtain ⟨hr, hJ, hM, hJ5, hM5, hJ1, ht⟩ := h
  refine ⟨?_, by rw [f 17 (by decide)]; exact hJ, by rw [f 18 (by decide)]; exact hM, hJ5, hM5, hJ1, by rw [a3]; exact ht⟩
  rcases hr with h4 | ⟨h4, N, Ws, sg, ln, s1, s2, s3, s4, s5⟩
  · exact Or.inl (by rw [f 72 (by decide)]; exact h4)
  · refine Or.inr ⟨by rw [f 72 (by decide)]; exact h4, N, Ws, sg, ln, by rw [a3]; exact s1, by rw [f 76 (by decide)]; exact s2, by rw [f 73 (by decide)]; exact s3, by rw [f 74 (by decide)]; exact s4, fun k hk => ?_⟩
    rw [a16, a18, a20]
    exact s5 k hk
theorem l_tot (h : PRE A F J M) (hQ : ∀ A1 F1, PRE A1 F1 J M → Q (.inl (some (.inl 1)), mk A1 F1 q)) : Ew 113 [vR 0] (mk A F q) Q := by
  have h9 := h
  obtain ⟨hr, hJ, hM, hJ5, hM5, hJ1, ht⟩ := h
  refine l_totals hJ hM hJ5 hM5 ht (fun F1 R1 rf1 qu1 hs => hQ _ _ (PRE_fr h9 ?_ ?_ ?_ ?_ (fun k hk => hs k (by omega)))) <;> exact ha_n (by decide) (by decide) (by decide)
theorem l_pd (h : PRE A F J M) (hM1 : 1 ≤ M) (hQ : ∀ A1 F1, PRE A1 F1 J M → Q (.inl (some (.inl 1)), mk A1 F1 q)) : Ew 116 [vR 0, .inl 1] (mk A F q) Q := by
  have h9 := h
  obtain ⟨hr, hJ, hM, hJ5, hM5, hJ1, ht⟩ := h
  refine l_pland hJ hM hJ5 hM5 hM1 ht (fun s => hQ _ _ (PRE_fr h9 ?_ ?_ ?_ ?_ (fun _ _ => rfl))) <;> exact hs_n (by decide) (by decide) (by decide)
theorem l_pa (h : PRE A F J M) (hM2 : M = 2) (hQ : ∀ A1 F1, PRE A1 F1 J M → Q (.inl (some (.inl 1)), mk A1 F1 q)) : Ew 116 [vR 0, .inl 0] (mk A F q) Q := by
  have h9 := h
  obtain ⟨hr, hJ, hM, hJ5, hM5, hJ1, ht⟩ := h
  refine l_plana hJ hM hJ5 hM2 ht (fun s => hQ _ _ (PRE_fr h9 ?_ ?_ ?_ ?_ (fun _ _ => rfl))) <;> exact hs_n (by decide) (by decide) (by decide)
theorem l_rd (h : PRE A F J M) (hM1 : 1 ≤ M) (hd : 1 ≤ k) (hd1 : k ≤ 100) (hQ : ∀ A1 F1, PRE A1 F1 J M → Q (.inl (some (.inl 1)), mk A1 F1 q)) : Ew 118 [vR 0, .inl k] (mk A F q) Q := by
  have h9 := h
  obtain ⟨hr, hJ, hM, hJ5, hM5, hJ1, ht⟩ := h
  refine l_rounds hJ hM hJ5 hM5 hJ1 hM1 ht hd hd1 (fun A1 F1 g1 g2 => hQ _ _ (PRE_fr h9 ?_ ?_ ?_ ?_ (fun k hk => g2 k (by omega) (by omega) (by omega) (by omega) (by omega) (by omega)))) <;> exact g1 _ (by decide) (by decide) (by decide) (by decide) (by decide)
theorem l_draw (h0 : 0 ≤ k) (h1 : k < (q.1.length : Int)) (hlen : q.1.length ≤ 260) (hQ : ∀ v, 0 ≤ v → v ≤ 2147483647 → Q (.inl (some (.inl v)), mk A F q)) : Ew 111 [vS, .inl k] (mk A F q) Q := by
  have hv := andm (q.1.getD k.toNat 0)
  have hq := hQ _ hv.1 hv.2
  refine ⟨rc_111 rfl rfl, ?_⟩
  rw [lc_111]
  simp (disch := omega) only [r111_0, r111_1, r111_2, r111_3, r111_6, r111_7, r111_8, r111_9, r111_11, r111_12, r111_15, r111_17, r111_18, r111_19, r111_20, r111_21, r111_23, r111_24, Cn_n, Cn_v, Cn_x, dp_0, dp_1, dp_2, dp_3, dp_4, okv_n, okv_i, okv_r, eq_self, true_and, and_true, Option.some.injEq, exists_eq_left', rgT, ixT, ixU, ↓if_pos, ↓if_neg, Int.toNat_natCast, bT0, bT1, q_1]
  exact hq
theorem law_run (hlen : q.1.length ≤ 260) (hq : q.2 ≤ 600130) (T : Nat) (hT : 3 * T ≤ q.1.length) : ∀ d k : Nat, k + d = T → ∀ A F J M, PRE A F J M → 1 ≤ M → ∀ x5 : Option AV, Wp 119 73 [some vS, some (vR 0), some (.inl 1), some (.inl (T : Int)), some (.inl (k : Int)), x5] [] (mk A F q) (fun r => ∃ h, r = (.inl (some (.inl 1)), h) ∧ h.2.2 ≤ 600130) := by
  intro d
  induction d with
  | zero =>
    intro k hk A F J M hP hM1 x5
    rw [r119_73]
    simp (disch := omega) only [r119_75, r119_76, r119_79, r119_80, r119_218, r119_219, Cn_n, Cn_v, Cn_x, dp_0, dp_1, dp_2, dp_3, dp_4, okv_n, okv_i, okv_r, eq_self, true_and, and_true, Option.some.injEq, exists_eq_left', rgT, ixT, ixU, ↓if_pos, ↓if_neg, Int.toNat_natCast, bT0, bT1]
    exact ⟨_, rfl, hq⟩
  | succ d ih =>
    intro k hk A F J M hP hM1 x5
    have e4 : ((k : Nat) : Int).tmod 4 = ((k % 4 : Nat) : Int) := by
      rw [Int.tmod_eq_emod_of_nonneg (by omega)]
      omega
    rw [r119_73]
    simp (disch := omega) only [r119_75, r119_76, r119_79, r119_80, r119_83, r119_84, r119_85, r119_87, r119_88, r119_89, r119_90, Cn_n, Cn_v, Cn_x, dp_0, dp_1, dp_2, dp_3, dp_4, okv_n, okv_i, okv_r, eq_self, true_and, and_true, Option.some.injEq, exists_eq_left', rgT, ixT, ixU, ↓if_pos, ↓if_neg, Int.toNat_natCast, bT0, bT1]
    refine l_draw (by omega) (by omega) hlen (fun b hb0 hb1 => ?_)
    simp (disch := omega) only [r119_93, r119_95, r119_96, r119_97, r119_98, r119_100, r119_101, Cn_n, Cn_v, Cn_x, dp_0, dp_1, dp_2, dp_3, dp_4, okv_n, okv_i, okv_r, eq_self, true_and, and_true, Option.some.injEq, exists_eq_left', rgT, ixT, ixU, ↓if_pos, ↓if_neg, Int.toNat_natCast, bT0, bT1]
    refine l_draw (by omega) (by omega) hlen (fun w hw0 hw1 => ?_)
    simp (disch := omega) only [r119_104, r119_105, r119_106, r119_108, r119_109, r119_110, r119_111, Cn_n, Cn_v, Cn_x, dp_0, dp_1, dp_2, dp_3, dp_4, okv_n, okv_i, okv_r, eq_self, true_and, and_true, Option.some.injEq, exists_eq_left', rgT, ixT, ixU, ↓if_pos, ↓if_neg, Int.toNat_natCast, bT0, bT1]
    refine l_draw (by omega) (by omega) hlen (fun a ha0 ha1 => ?_)
    simp (disch := omega) only [r119_114, r119_116, Cn_n, Cn_v, Cn_x, dp_0, dp_1, dp_2, dp_3, dp_4, okv_n, okv_i, okv_r, eq_self, true_and, and_true, Option.some.injEq, exists_eq_left', rgT, ixT, ixU, ↓if_pos, ↓if_neg, Int.toNat_natCast, bT0, bT1]
    refine l_step hP hM1 ⟨hw0, hw1⟩ ⟨ha0, ha1⟩ ⟨hb0, hb1⟩ (fun A1 F1 J1 M1 h1 hm1 => ?_)
    simp (disch := omega) only [r119_119, r119_122, r119_123, Cn_n, Cn_v, Cn_x, dp_0, dp_1, dp_2, dp_3, dp_4, okv_n, okv_i, okv_r, eq_self, true_and, and_true, Option.some.injEq, exists_eq_left', rgT, ixT, ixU, ↓if_pos, ↓if_neg, Int.toNat_natCast, bT0, bT1]
    refine l_tot h1 (fun A2 F2 h2 => ?_)
    have e100 : b.tmod 100 = b % 100 := Int.tmod_eq_emod_of_nonneg hb0
    have e7 : b.tmod 7 = b % 7 := Int.tmod_eq_emod_of_nonneg hb0
    by_cases c : k % 4 = 3
    · simp (disch := omega) only [r119_126, r119_129, r119_130, r119_133, r119_134, r119_135, r119_136, r119_139, r119_141, r119_142, r119_143, r119_144, r119_147, r119_148, Cn_n, Cn_v, Cn_x, dp_0, dp_1, dp_2, dp_3, dp_4, okv_n, okv_i, okv_r, eq_self, true_and, and_true, Option.some.injEq, exists_eq_left', rgT, ixT, ixU, ↓if_pos, ↓if_neg, Int.toNat_natCast, bT0, bT1, l04, e4]
      refine l_slices h2 hm1 (fun A3 F3 _ _ h3 => ?_)
      simp (disch := omega) only [r119_151, r119_154, r119_155, r119_156, Cn_n, Cn_v, Cn_x, dp_0, dp_1, dp_2, dp_3, dp_4, okv_n, okv_i, okv_r, eq_self, true_and, and_true, Option.some.injEq, exists_eq_left', rgT, ixT, ixU, ↓if_pos, ↓if_neg, Int.toNat_natCast, bT0, bT1]
      refine l_pd h3 hm1 (fun A4 F4 h4 => ?_)
      suffices fin : ∀ A F, PRE A F J1 M1 → Wp 119 178 [some vS, some (vR 0), some (.inl 1), some (.inl (T : Int)), some (.inl (k : Int)), some (.inl b)] [] (mk A F q) (fun r => ∃ h, r = (.inl (some (.inl 1)), h) ∧ h.2.2 ≤ 600130) by
        have hM4 := h4.2.2.1
        have hM5 := h4.2.2.2.2.1
        by_cases cM : M1 = 2
        · simp (disch := omega) only [r119_159, r119_162, r119_163, r119_166, r119_167, r119_170, r119_171, r119_172, Cn_n, Cn_v, Cn_x, dp_0, dp_1, dp_2, dp_3, dp_4, okv_n, okv_i, okv_r, eq_self, true_and, and_true, Option.some.injEq, exists_eq_left', rgT, ixT, ixU, ↓if_pos, ↓if_neg, Int.toNat_natCast, bT0, bT1, o_machines, hM4]
          refine l_pa h4 cM (fun A5 F5 h5 => ?_)
          simp (disch := omega) only [r119_175, Cn_n, Cn_v, Cn_x, dp_0, dp_1, dp_2, dp_3, dp_4, okv_n, okv_i, okv_r, eq_self, true_and, and_true, Option.some.injEq, exists_eq_left', rgT, ixT, ixU, ↓if_pos, ↓if_neg, Int.toNat_natCast, bT0, bT1]
          exact fin A5 F5 h5
        · simp (disch := omega) only [r119_159, r119_162, r119_163, r119_166, r119_167, r119_170, r119_171, r119_172, Cn_n, Cn_v, Cn_x, dp_0, dp_1, dp_2, dp_3, dp_4, okv_n, okv_i, okv_r, eq_self, true_and, and_true, Option.some.injEq, exists_eq_left', rgT, ixT, ixU, ↓if_pos, ↓if_neg, Int.toNat_natCast, bT0, bT1, o_machines, hM4]
          exact fin A4 F4 h4
      intro A6 F6 h6
      simp (disch := omega) only [r119_178, r119_179, r119_180, r119_182, r119_184, r119_185, r119_186, Cn_n, Cn_v, Cn_x, dp_0, dp_1, dp_2, dp_3, dp_4, okv_n, okv_i, okv_r, eq_self, true_and, and_true, Option.some.injEq, exists_eq_left', rgT, ixT, ixU, ↓if_pos, ↓if_neg, Int.toNat_natCast, bT0, bT1, l99, e100]
      refine l_rd h6 hm1 (by omega) (by omega) (fun A7 F7 h7 => ?_)
      simp (disch := omega) only [r119_189, r119_192, r119_193, r119_194, r119_196, r119_198, r119_199, r119_200, Cn_n, Cn_v, Cn_x, dp_0, dp_1, dp_2, dp_3, dp_4, okv_n, okv_i, okv_r, eq_self, true_and, and_true, Option.some.injEq, exists_eq_left', rgT, ixT, ixU, ↓if_pos, ↓if_neg, Int.toNat_natCast, bT0, bT1, l07, e7]
      refine l_rd h7 hm1 (by omega) (by omega) (fun A8 F8 h8 => ?_)
      simp (disch := omega) only [r119_203, r119_206, r119_207, r119_210, r119_211, r119_212, r119_215, Cn_n, Cn_v, Cn_x, dp_0, dp_1, dp_2, dp_3, dp_4, okv_n, okv_i, okv_r, eq_self, true_and, and_true, Option.some.injEq, exists_eq_left', rgT, ixT, ixU, ↓if_pos, ↓if_neg, Int.toNat_natCast, bT0, bT1]
      exact ih (k + 1) (by omega) A8 F8 J1 M1 h8 hm1 _
    · simp (disch := omega) only [r119_126, r119_129, r119_130, r119_133, r119_134, r119_135, r119_136, r119_139, r119_141, r119_142, r119_143, r119_144, r119_212, r119_215, Cn_n, Cn_v, Cn_x, dp_0, dp_1, dp_2, dp_3, dp_4, okv_n, okv_i, okv_r, eq_self, true_and, and_true, Option.some.injEq, exists_eq_left', rgT, ixT, ixU, ↓if_pos, ↓if_neg, Int.toNat_natCast, bT0, bT1, l04, e4]
      exact ih (k + 1) (by omega) A2 F2 J1 M1 h2 hm1 _
theorem PRE_00 : PRE A00 F00 3 3 := ⟨Or.inl rfl, rfl, rfl, by decide, by decide, by decide, z_tok⟩
theorem law_top (hlen : q.1.length ≤ 260) (hq : q.2 ≤ 600130) : Wp 119 8 [some vS, some (vR 0), none, none, none, none] [] (mk A00 F00 q) (fun r => ∃ h, r = (.inl (some (.inl 1)), h) ∧ h.2.2 ≤ 600130) := by
  have hJ : F00 17 = ((3 : Nat) : Int) := rfl
  have hM : F00 18 = ((3 : Nat) : Int) := rfl
  have e0 : allS (A00 3) 3 3 = 0 := z_all
  have e3 : ((q.1.length : Nat) : Int).tdiv 3 = ((q.1.length / 3 : Nat) : Int) := by
    rw [Int.tdiv_eq_ediv_of_nonneg (by omega)]
    omega
  simp (disch := omega) only [r119_8, r119_9, r119_12, r119_13, r119_16, r119_17, r119_20, r119_21, r119_24, r119_25, r119_28, r119_31, r119_32, Cn_n, Cn_v, Cn_x, dp_0, dp_1, dp_2, dp_3, dp_4, okv_n, okv_i, okv_r, eq_self, true_and, and_true, Option.some.injEq, exists_eq_left', rgT, ixT, ixU, ↓if_pos, ↓if_neg, Int.toNat_natCast, bT0, bT1, o_jobs, o_machines, hJ, hM, o_total hJ hM (by decide) (by decide), e0]
  refine l_tot PRE_00 (fun A1 F1 h1 => ?_)
  simp (disch := omega) only [r119_35, r119_38, r119_39, Cn_n, Cn_v, Cn_x, dp_0, dp_1, dp_2, dp_3, dp_4, okv_n, okv_i, okv_r, eq_self, true_and, and_true, Option.some.injEq, exists_eq_left', rgT, ixT, ixU, ↓if_pos, ↓if_neg, Int.toNat_natCast, bT0, bT1]
  refine l_slices h1 (by decide) (fun A2 F2 _ _ h2 => ?_)
  by_cases c : 24 < q.1.length / 3
  · simp (disch := omega) only [r119_42, r119_45, r119_46, r119_49, r119_50, r119_51, r119_52, r119_53, r119_54, r119_55, r119_57, r119_60, r119_62, r119_65, r119_66, r119_67, r119_68, r119_69, r119_70, r119_71, Cn_n, Cn_v, Cn_x, dp_0, dp_1, dp_2, dp_3, dp_4, okv_n, okv_i, okv_r, eq_self, true_and, and_true, Option.some.injEq, exists_eq_left', rgT, ixT, ixU, ↓if_pos, ↓if_neg, Int.toNat_natCast, bT0, bT1, q_1, l03, e3]
    exact law_run hlen hq 24 (by omega) 24 0 rfl A2 F2 3 3 h2 (by decide) _
  · simp (disch := omega) only [r119_42, r119_45, r119_46, r119_49, r119_50, r119_51, r119_52, r119_53, r119_54, r119_55, r119_57, r119_60, r119_62, r119_65, r119_66, r119_67, r119_68, r119_69, r119_70, r119_71, Cn_n, Cn_v, Cn_x, dp_0, dp_1, dp_2, dp_3, dp_4, okv_n, okv_i, okv_r, eq_self, true_and, and_true, Option.some.injEq, exists_eq_left', rgT, ixT, ixU, ↓if_pos, ↓if_neg, Int.toNat_natCast, bT0, bT1, q_1, l03, e3]
    exact law_run hlen hq (q.1.length / 3) (by omega) (q.1.length / 3) 0 (by omega) A2 F2 3 3 h2 (by decide) _
end LLOP
theorem whole_start {p : Program} {e : Env} {s : State} {m : MethodId} {below : List Frame} {meth : Method} {c : Code} (l : Launch) (hflags : l.flags = flags0) {b L : Nat} {xs : Nat → Int32} (hL : L ≤ 260) (C0 : lw_At p s m meth c b L xs) : W p l e room_1 s m #[Value.ref b] below meth c s.heap [] 0 0 (lw_Z below #[Value.ref b] s) (entryFrame m ([Value.ref b] : List Value).toArray 6) := by
  have hlen : ((List.range L).map (fun j => (xs j).toInt)).length = L := by simp
  obtain ⟨n, r, hrun, h9, rfl, hroom⟩ := law_init (law_top (q := ((List.range L).map (fun j => (xs j).toInt), 1235)) (by rw [hlen]; exact hL) (show 1235 ≤ 600130 by decide))
  exact law_from l hflags C0 n h9 hrun hroom
