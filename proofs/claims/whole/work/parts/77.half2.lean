/-! the plan's questions, their halves -/
abbrev SPp (J M : Nat) (t : Nat → Int) (P : Nat → Prop) (val : Nat → (Nat → Nat → Nat) → (Nat → Int) → Int) (k v : Int) : Prop := ∃ N Ws sg ln, SEQ t J M N Ws sg ln ∧ ((P N ∧ k = 0 ∧ v = val N sg ln ∧ rg v) ∨ (¬ P N ∧ k = 1))
abbrev SPo (J M : Nat) (t : Nat → Int) (P : Prop) (val : Nat → (Nat → Nat → Nat) → (Nat → Int) → Int) (k v : Int) : Prop := (P ∧ k = 0 ∧ ∃ N Ws sg ln, SEQ t J M N Ws sg ln ∧ v = val N sg ln ∧ rg v) ∨ (¬ P ∧ k = 1)
theorem jl_bd {f : Nat → Int} {m a : Int} (h0 : -1 ≤ a) (h1 : a ≤ 5) : ∀ {n : Nat}, n ≤ 5 → -1 ≤ jl f m a n ∧ jl f m a n ≤ 5
  | 0, _ => ⟨h0, h1⟩
  | n + 1, hn => by
    have := jl_bd (f := f) (m := m) h0 h1 (n := n) (by omega)
    simp only [jl]
    split <;> omega
theorem ja_bd {sg : Nat → Nat → Nat} {ln : Nat → Int} {J M : Nat} {t m : Int} (hJ : J ≤ 5) : ∀ {n : Nat}, -1 ≤ ja sg ln J M t m n ∧ ja sg ln J M t m n ≤ 5
  | 0 => ⟨Int.le_refl _, (by decide : (-1 : Int) ≤ 5)⟩
  | n + 1 => by
    have h := ja_bd (sg := sg) (ln := ln) (M := M) (t := t) (m := m) hJ (n := n)
    simp only [ja]
    split
    · exact jl_bd h.1 h.2 hJ
    · exact h
theorem dn_rg {sg : Nat → Nat → Nat} {ln : Nat → Int} {M N j : Nat} {m t : Int} (hpos : ∀ k, k < N → 0 < ln k) (hs : isum ln N ≤ 495) : rg (isum (dn sg ln M j m t) N) := by
  have h1 : ∀ k, k < N → 0 ≤ dn sg ln M j m t k ∧ dn sg ln M j m t k ≤ ln k := fun k hk => by
    have := hpos k hk
    unfold dn
    split
    · split <;> omega
    · omega
  have g1 := isum_ge (f := dn sg ln M j m t) (n := N) (fun k hk => (h1 k hk).1)
  have g2 := isum_mono (f := dn sg ln M j m t) (g := ln) (n := N) (fun k hk => (h1 k hk).2)
  exact ⟨by omega, by omega⟩
theorem brks_rg {sg : Nat → Nat → Nat} {J M N : Nat} (hJ : J ≤ 5) (hN : N ≤ 60) : rg (isum (fun k => isum (fun j => bi (brk sg M N k j)) J) N) := by
  have h1 : ∀ k, 0 ≤ isum (fun j => bi (brk sg M N k j)) J ∧ isum (fun j => bi (brk sg M N k j)) J ≤ 5 := fun k => by
    have g1 := isum_ge (f := fun j => bi (brk sg M N k j)) (n := J) (fun j _ => bi_bd.1)
    have g2 := isum_le (f := fun j => bi (brk sg M N k j)) (b := 1) (n := J) (fun j _ => bi_bd.2)
    omega
  have g1 := isum_ge (f := fun k => isum (fun j => bi (brk sg M N k j)) J) (n := N) (fun k _ => (h1 k).1)
  have g2 := isum_le (f := fun k => isum (fun j => bi (brk sg M N k j)) J) (b := 5) (n := N) (fun k _ => (h1 k).2)
  exact ⟨by omega, by omega⟩
section HALF2
variable {A A1 : Nat → Nat → Int} {F F1 : Nat → Int} {q : List Int × Nat} {Q : AR → Prop} {J M N : Nat} {t : Nat → Int} {a b c v k n : Int} {SP : Int → Int → Prop} {Ws : Nat → Nat → Int} {sg : Nat → Nat → Nat} {ln : Nat → Int}
theorem PRE_oh (oh : OH A F J M (A 3)) (bd : BD J M (A 3)) : PRE A F J M := ⟨oh.2.2.2, oh.2.1, oh.2.2.1, bd.2.1, bd.2.2.2.1, bd.1, bd.2.2.2.2⟩
theorem OH_ppo (oh : OH A F J M (A 3)) (g : PPO A A1 F F1 J M N Ws sg ln) : OH A1 F1 J M (A 3) := ⟨g.1 3 (by decide) (by decide) (by decide) (by decide) (by decide) (by decide) (by decide) (by decide), by rw [g.2.1 17 (by decide) (by decide) (by decide) (by decide) (by decide)]; exact oh.2.1, by rw [g.2.1 18 (by decide) (by decide) (by decide) (by decide) (by decide)]; exact oh.2.2.1, Or.inr ⟨g.2.2.2.2.2, g.2.2.2.2.1⟩⟩
theorem OFr_ppo (g : PPO A A1 F F1 J M N Ws sg ln) : OFr A A1 := fun k h1 _ => g.1 k (by omega) (by omega) (by omega) (by omega) (by omega) (by omega) (by omega) (by omega)
theorem FFr_ppo (g : PPO A A1 F F1 J M N Ws sg ln) : FFr F F1 := fun k h1 => g.2.1 k (by omega) (by omega) (by omega) (by omega) (by omega)
theorem MPR_mh (mh : MH A F J M (A 49)) (bd : BD J M (A 49)) (hs : SEQ (A 49) J M N Ws sg ln) : MPR A F J M N Ws sg ln := ⟨mh.2.1, mh.2.2, bd.2.1, bd.2.2.2.1, bd.1, bd.2.2.2.2, hs⟩
theorem MFr_sax (g : SAX A A1) : MFr A A1 := fun k h => g k (by omega) (by omega) (by omega) (by omega)
theorem MQ_p (hQ : MQz A F q J M t k v Q) (mh : MH A F J M t) (g : SAX A A1) (hb : k = 0 → b = v) (rb : rg b) : Q (.inl (some (.inl b)), mk A1 (uf (uf F 775 n) 768 k) q) := hQ A1 _ b ⟨by rw [g 49 (by decide) (by decide) (by decide) (by decide)]; exact mh.1, by rw [uf_n (by decide), uf_n (by decide)]; exact mh.2.1, by rw [uf_n (by decide), uf_n (by decide)]; exact mh.2.2⟩ (MFr_sax g) (fun k hk => by rw [uf_n (by omega), uf_n (by omega)]) uf_s hb rb
theorem MQ_p2 (hQ : MQz A F q J M t k v Q) (mh : MH A F J M t) (g : SAX A A1) (hb : k = 0 → b = v) (rb : rg b) : Q (.inl (some (.inl b)), mk A1 (uf (uf F 768 k) 775 n) q) := hQ A1 _ b ⟨by rw [g 49 (by decide) (by decide) (by decide) (by decide)]; exact mh.1, by rw [uf_n (by decide), uf_n (by decide)]; exact mh.2.1, by rw [uf_n (by decide), uf_n (by decide)]; exact mh.2.2⟩ (MFr_sax g) (fun k hk => by rw [uf_n (by omega), uf_n (by omega)]) (by rw [uf_n (by decide), uf_s]) hb rb
theorem MN_p2 (hQ : MN A F q J M t v Q) (mh : MH A F J M t) (g : SAX A A1) : Q (.inl (some (.inl v)), mk A1 (uf (uf F 768 0) 775 n) q) := hQ A1 _ ⟨by rw [g 49 (by decide) (by decide) (by decide) (by decide)]; exact mh.1, by rw [uf_n (by decide), uf_n (by decide)]; exact mh.2.1, by rw [uf_n (by decide), uf_n (by decide)]; exact mh.2.2⟩ (MFr_sax g) (fun k hk => by rw [uf_n (by omega), uf_n (by omega)])
theorem zs_sliceStart (oh : OH A F J M t) (bd : BD J M t) (ha : rg a) (hQ : SQ A F q J M t (SPp J M t (fun N => 0 ≤ a ∧ a < N) (fun _ _ ln => isum ln a.toNat)) Q) : Ew 183 [vR 0, .inl a, vR 59] (mk A F q) Q := by
  obtain ⟨rfl, hJ, hM, hp⟩ := oh
  have oh : OH A F J M (A 3) := ⟨rfl, hJ, hM, hp⟩
  rw [wq_183]
  refine o_sliceStart (PRE_oh oh bd) ha (fun A1 F1 N Ws sg ln g h0 h1 => ?_) (fun A1 F1 N Ws sg ln g hx => ?_)
  · have x := st_bd g.2.2.2.1.2.2.2.2.2.2.1 g.2.2.2.1.2.2.2.2.2.2.2 (show a.toNat < N by omega)
    have hr : rg (isum ln a.toNat) := ⟨by omega, by omega⟩
    rw [wv_183 hr]
    exact SQ_v hQ ⟨N, Ws, sg, ln, g.2.2.1, Or.inl ⟨⟨h0, h1⟩, rfl, rfl, hr⟩⟩ (OH_ppo oh g) (OFr_ppo g) (FFr_ppo g)
  · rw [wx_183_0]
    exact SQ_y (v := 0) hQ (OH_ppo oh g) (OFr_ppo g) (FFr_ppo g) ⟨N, Ws, sg, ln, g.2.2.1, Or.inr ⟨fun h => by omega, rfl⟩⟩ (by decide)
theorem zm_sliceStart (mh : MH A F J M t) (bd : BD J M t) (ha : rg a) (sp : SPp J M t (fun N => 0 ≤ a ∧ a < N) (fun _ _ ln => isum ln a.toNat) k v) (hQ : MQz A F q J M t k v Q) : Ew 145 [vR 48, .inl a] (mk A F q) Q := by
  have mh9 := mh
  obtain ⟨rfl, hJ, hM⟩ := mh
  obtain ⟨N, Ws, sg, ln, hs, ⟨h1, rfl, rfl, hr⟩ | ⟨h1, rfl⟩⟩ := sp
  · exact m_sliceStart (MPR_mh mh9 bd hs) ha (fun _ _ A1 g => MQ_p hQ mh9 g (fun _ => rfl) hr) (fun hx => by omega)
  · exact m_sliceStart (MPR_mh mh9 bd hs) ha (fun g0 g1 => absurd ⟨g0, g1⟩ h1) (fun _ A1 g => MQ_p hQ mh9 g (fun h => absurd h (by decide)) rg0)
theorem zs_sliceLength (oh : OH A F J M t) (bd : BD J M t) (ha : rg a) (hQ : SQ A F q J M t (SPp J M t (fun N => 0 ≤ a ∧ a < N) (fun _ _ ln => ln a.toNat)) Q) : Ew 184 [vR 0, .inl a, vR 59] (mk A F q) Q := by
  obtain ⟨rfl, hJ, hM, hp⟩ := oh
  have oh : OH A F J M (A 3) := ⟨rfl, hJ, hM, hp⟩
  rw [wq_184]
  refine o_sliceLength (PRE_oh oh bd) ha (fun A1 F1 N Ws sg ln g h0 h1 => ?_) (fun A1 F1 N Ws sg ln g hx => ?_)
  · have x := st_bd g.2.2.2.1.2.2.2.2.2.2.1 g.2.2.2.1.2.2.2.2.2.2.2 (show a.toNat < N by omega)
    have hr : rg (ln a.toNat) := ⟨by omega, by omega⟩
    rw [wv_184 hr]
    exact SQ_v hQ ⟨N, Ws, sg, ln, g.2.2.1, Or.inl ⟨⟨h0, h1⟩, rfl, rfl, hr⟩⟩ (OH_ppo oh g) (OFr_ppo g) (FFr_ppo g)
  · rw [wx_184_0]
    exact SQ_y (v := 0) hQ (OH_ppo oh g) (OFr_ppo g) (FFr_ppo g) ⟨N, Ws, sg, ln, g.2.2.1, Or.inr ⟨fun h => by omega, rfl⟩⟩ (by decide)
theorem zm_sliceLength (mh : MH A F J M t) (bd : BD J M t) (ha : rg a) (sp : SPp J M t (fun N => 0 ≤ a ∧ a < N) (fun _ _ ln => ln a.toNat) k v) (hQ : MQz A F q J M t k v Q) : Ew 146 [vR 48, .inl a] (mk A F q) Q := by
  have mh9 := mh
  obtain ⟨rfl, hJ, hM⟩ := mh
  obtain ⟨N, Ws, sg, ln, hs, ⟨h1, rfl, rfl, hr⟩ | ⟨h1, rfl⟩⟩ := sp
  · exact m_sliceLength (MPR_mh mh9 bd hs) ha (fun _ _ A1 g => MQ_p hQ mh9 g (fun _ => rfl) hr) (fun hx => by omega)
  · exact m_sliceLength (MPR_mh mh9 bd hs) ha (fun g0 g1 => absurd ⟨g0, g1⟩ h1) (fun _ A1 g => MQ_p hQ mh9 g (fun h => absurd h (by decide)) rg0)
theorem zs_machineIn (oh : OH A F J M t) (bd : BD J M t) (ha : rg a) (hb : rg b) (hQ : SQ A F q J M t (SPp J M t (fun N => (0 ≤ a ∧ a < N) ∧ 0 ≤ b ∧ b < J) (fun _ sg _ => mo sg M a.toNat b.toNat)) Q) : Ew 185 [vR 0, .inl a, .inl b, vR 59] (mk A F q) Q := by
  obtain ⟨rfl, hJ, hM, hp⟩ := oh
  have oh : OH A F J M (A 3) := ⟨rfl, hJ, hM, hp⟩
  have M5 := bd.2.2.2.1
  rw [wq_185]
  refine o_machineIn (PRE_oh oh bd) ha hb (fun A1 F1 N Ws sg ln g h0 h1 h2 h3 => ?_) (fun A1 F1 N Ws sg ln g hx => ?_)
  · have x := @mo_bd sg M a.toNat b.toNat
    have hr : rg (mo sg M a.toNat b.toNat) := ⟨by omega, by omega⟩
    rw [wv_185 hr]
    exact SQ_v hQ ⟨N, Ws, sg, ln, g.2.2.1, Or.inl ⟨⟨⟨h0, h1⟩, h2, h3⟩, rfl, rfl, hr⟩⟩ (OH_ppo oh g) (OFr_ppo g) (FFr_ppo g)
  · rw [wx_185_0]
    exact SQ_y (v := 0) hQ (OH_ppo oh g) (OFr_ppo g) (FFr_ppo g) ⟨N, Ws, sg, ln, g.2.2.1, Or.inr ⟨fun h => by omega, rfl⟩⟩ (by decide)
theorem zm_machineIn (mh : MH A F J M t) (bd : BD J M t) (ha : rg a) (hb : rg b) (sp : SPp J M t (fun N => (0 ≤ a ∧ a < N) ∧ 0 ≤ b ∧ b < J) (fun _ sg _ => mo sg M a.toNat b.toNat) k v) (hQ : MQz A F q J M t k v Q) : Ew 147 [vR 48, .inl a, .inl b] (mk A F q) Q := by
  have mh9 := mh
  obtain ⟨rfl, hJ, hM⟩ := mh
  obtain ⟨N, Ws, sg, ln, hs, ⟨h1, rfl, rfl, hr⟩ | ⟨h1, rfl⟩⟩ := sp
  · exact m_machineIn (MPR_mh mh9 bd hs) ha hb (fun _ _ _ _ A1 g => MQ_p hQ mh9 g (fun _ => rfl) hr) (fun hx => by omega)
  · exact m_machineIn (MPR_mh mh9 bd hs) ha hb (fun g0 g1 g2 g3 => absurd ⟨⟨g0, g1⟩, g2, g3⟩ h1) (fun _ A1 g => MQ_p hQ mh9 g (fun h => absurd h (by decide)) rg0)
theorem m_finishOfy (hJ : F 769 = J) (hJ5 : J ≤ 5) (hi : rg a) (c1 : a < 0 ∨ (J : Int) ≤ a) : Ew 151 [vR 48, .inl a] (mk A F q) Q ↔ Q (.inl (some (.inl 0)), mk A (uf F 768 1) q) := by
  have o1 : rg 1 := ⟨by decide, by decide⟩
  have o2 : (1 : Int) ≠ 0 := by decide
  unfold Ew
  rw [rc_151 g_48_0 rfl, lc_151]
  simp (disch := omega) only [r151_0, r151_1, r151_2, r151_3, r151_6, r151_9, r151_10, r151_13, r151_14, r151_17, r151_20, r151_21, r151_22, r151_23, r151_26, r151_27, r151_28, r151_31, Cn_n, Cn_v, Cn_x, dp_0, dp_1, dp_2, dp_3, dp_4, okv_n, okv_i, okv_r, eq_self, true_and, and_true, Option.some.injEq, exists_eq_left', rgT, ixT, ixU, ↓if_pos, ↓if_neg, Int.toNat_natCast, bT0, bT1, g_48_0, s_48_0, g_48_1, s_48_1, g_48_2, s_48_2, g_48_3, g_48_4, g_48_5, g_48_6, g_48_7, s_48_7, g_48_8, g_48_9, g_48_10, g_48_11, g_48_12, g_48_13, m_isJobx hJ hJ5 hi, m_holdsx o1 o2]
theorem m_jobAty (hM : F 770 = M) (hM5 : M ≤ 5) (hv : rg v) (c1 : v < 0 ∨ (M : Int) ≤ v) : Ew 148 [vR 48, .inl a, .inl v] (mk A F q) Q ↔ Q (.inl (some (.inl 0)), mk A (uf F 768 1) q) := by
  have o1 : rg 1 := ⟨by decide, by decide⟩
  have o2 : (1 : Int) ≠ 0 := by decide
  unfold Ew
  rw [rc_148 g_48_0 rfl rfl, lc_148]
  simp (disch := omega) only [r148_0, r148_1, r148_2, r148_3, r148_6, r148_9, r148_10, r148_13, r148_14, r148_17, r148_20, r148_21, r148_22, r148_23, r148_26, r148_27, r148_28, r148_29, r148_33, r148_34, r148_37, r148_40, r148_41, r148_43, r148_46, r148_47, r148_50, r148_51, r148_52, r148_54, r148_55, r148_56, r148_59, r148_62, r148_63, r148_66, r148_67, r148_69, r148_70, r148_74, r148_75, r148_78, r148_81, r148_83, r148_86, r148_87, r148_89, r148_91, r148_94, r148_95, r148_98, r148_100, r148_103, r148_104, r148_105, r148_108, r148_111, r148_114, r148_117, r148_118, Cn_n, Cn_v, Cn_x, dp_0, dp_1, dp_2, dp_3, dp_4, okv_n, okv_i, okv_r, eq_self, true_and, and_true, Option.some.injEq, exists_eq_left', rgT, ixT, ixU, ↓if_pos, ↓if_neg, Int.toNat_natCast, bT0, bT1, g_48_0, s_48_0, g_48_1, s_48_1, g_48_2, s_48_2, g_48_3, g_48_4, g_48_5, g_48_6, g_48_7, s_48_7, g_48_8, g_48_9, g_48_10, g_48_11, g_48_12, g_48_13, m_isMacx hM hM5 hv, m_holdsx o1 o2]
theorem m_doney (hJ : F 769 = J) (hM : F 770 = M) (hJ5 : J ≤ 5) (hM5 : M ≤ 5) (hi : rg a) (hv : rg v) (c0 : a < 0 ∨ (J : Int) ≤ a ∨ v < 0 ∨ (M : Int) ≤ v) : Ew 149 [vR 48, .inl a, .inl v, .inl b] (mk A F q) Q ↔ Q (.inl (some (.inl 0)), mk A (uf F 768 1) q) := by
  unfold Ew
  rw [rc_149 g_48_0 rfl rfl rfl, lc_149]
  simp (disch := omega) only [r149_0, r149_1, r149_2, r149_3, r149_6, r149_9, r149_10, r149_11, r149_12, r149_15, r149_16, r149_18, r149_19, r149_23, r149_24, r149_27, r149_30, r149_31, r149_33, r149_36, r149_38, r149_39, r149_41, r149_42, r149_43, r149_46, r149_47, r149_50, r149_51, r149_53, r149_54, r149_55, r149_58, r149_61, r149_62, r149_64, r149_66, r149_67, r149_69, r149_70, r149_73, r149_74, r149_77, r149_79, r149_81, r149_84, r149_86, r149_88, r149_89, r149_92, r149_93, r149_94, r149_96, r149_99, r149_102, r149_104, Cn_n, Cn_v, Cn_x, dp_0, dp_1, dp_2, dp_3, dp_4, okv_n, okv_i, okv_r, eq_self, true_and, and_true, Option.some.injEq, exists_eq_left', rgT, ixT, ixU, ↓if_pos, ↓if_neg, Int.toNat_natCast, bT0, bT1, g_48_0, s_48_0, g_48_1, s_48_1, g_48_2, s_48_2, g_48_3, g_48_4, g_48_5, g_48_6, g_48_7, s_48_7, g_48_8, g_48_9, g_48_10, g_48_11, g_48_12, g_48_13, m_isPlacex hJ hM hJ5 hM5 hi hv]
theorem zs_finishOf (oh : OH A F J M t) (bd : BD J M t) (ha : rg a) (hQ : SQ A F q J M t (SPo J M t (0 ≤ a ∧ a < J) (fun N sg ln => fi sg ln M a.toNat N)) Q) : Ew 188 [vR 0, .inl a, vR 59] (mk A F q) Q := by
  obtain ⟨rfl, hJ, hM, hp⟩ := oh
  have oh : OH A F J M (A 3) := ⟨rfl, hJ, hM, hp⟩
  rw [wq_188]
  by_cases c : 0 ≤ a ∧ a < J
  · refine o_finishOf (PRE_oh oh bd) ha c.1 c.2 (fun A1 F1 N Ws sg ln g => ?_)
    have x := @fi_bd sg ln M a.toNat N g.2.2.2.1.2.2.2.2.2.2.1 g.2.2.2.1.2.2.2.2.2.2.2 N (Nat.le_refl N)
    have hr : rg (fi sg ln M a.toNat N) := ⟨by omega, by omega⟩
    rw [wv_188 hr]
    exact SQ_v hQ (Or.inl ⟨c, rfl, N, Ws, sg, ln, g.2.2.1, rfl, hr⟩) (OH_ppo oh g) (OFr_ppo g) (FFr_ppo g)
  · rw [o_finishOfx (PRE_oh oh bd) ha (by omega), wx_188_0]
    exact SQ_x (v := 0) hQ oh (Or.inr ⟨c, rfl⟩) (by decide)
theorem zm_finishOf (mh : MH A F J M t) (bd : BD J M t) (ha : rg a) (sp : SPo J M t (0 ≤ a ∧ a < J) (fun N sg ln => fi sg ln M a.toNat N) k v) (hQ : MQz A F q J M t k v Q) : Ew 151 [vR 48, .inl a] (mk A F q) Q := by
  have mh9 := mh
  obtain ⟨rfl, hJ, hM⟩ := mh
  obtain ⟨h1, rfl, N, Ws, sg, ln, hs, rfl, hr⟩ | ⟨h1, rfl⟩ := sp
  · exact m_finishOf (MPR_mh mh9 bd hs) ha h1.1 h1.2 (fun A1 g => MQ_p2 hQ mh9 g (fun _ => rfl) hr)
  · rw [m_finishOfy hJ bd.2.1 ha (by omega)]
    exact MQ_s hQ mh9 (fun h => absurd h (by decide)) rg0
theorem zs_jobAt (oh : OH A F J M t) (bd : BD J M t) (ha : rg a) (hb : rg b) (hQ : SQ A F q J M t (SPo J M t (0 ≤ b ∧ b < M) (fun N sg ln => ja sg ln J M a b N)) Q) : Ew 186 [vR 0, .inl a, .inl b, vR 59] (mk A F q) Q := by
  obtain ⟨rfl, hJ, hM, hp⟩ := oh
  have oh : OH A F J M (A 3) := ⟨rfl, hJ, hM, hp⟩
  rw [wq_186]
  by_cases c : 0 ≤ b ∧ b < M
  · refine o_jobAt (PRE_oh oh bd) ha hb c.1 c.2 (fun A1 F1 N Ws sg ln g => ?_)
    have x := @ja_bd sg ln J M a b bd.2.1 N
    have hr : rg (ja sg ln J M a b N) := ⟨by omega, by omega⟩
    rw [wv_186 hr]
    exact SQ_v hQ (Or.inl ⟨c, rfl, N, Ws, sg, ln, g.2.2.1, rfl, hr⟩) (OH_ppo oh g) (OFr_ppo g) (FFr_ppo g)
  · rw [o_jobAtx (PRE_oh oh bd) hb (by omega), wx_186_0]
    exact SQ_x (v := 0) hQ oh (Or.inr ⟨c, rfl⟩) (by decide)
theorem zm_jobAt (mh : MH A F J M t) (bd : BD J M t) (ha : rg a) (hb : rg b) (sp : SPo J M t (0 ≤ b ∧ b < M) (fun N sg ln => ja sg ln J M a b N) k v) (hQ : MQz A F q J M t k v Q) : Ew 148 [vR 48, .inl a, .inl b] (mk A F q) Q := by
  have mh9 := mh
  obtain ⟨rfl, hJ, hM⟩ := mh
  obtain ⟨h1, rfl, N, Ws, sg, ln, hs, rfl, hr⟩ | ⟨h1, rfl⟩ := sp
  · exact m_jobAt (MPR_mh mh9 bd hs) ha hb h1.1 h1.2 (fun A1 g => MQ_p2 hQ mh9 g (fun _ => rfl) hr)
  · rw [m_jobAty hM bd.2.2.2.1 hb (by omega)]
    exact MQ_s hQ mh9 (fun h => absurd h (by decide)) rg0
theorem zs_done (oh : OH A F J M t) (bd : BD J M t) (ha : rg a) (hb : rg b) (hc : rg c) (hQ : SQ A F q J M t (SPo J M t (0 ≤ a ∧ a < J ∧ 0 ≤ b ∧ b < M) (fun N sg ln => isum (dn sg ln M a.toNat b c) N)) Q) : Ew 187 [vR 0, .inl a, .inl b, .inl c, vR 59] (mk A F q) Q := by
  obtain ⟨rfl, hJ, hM, hp⟩ := oh
  have oh : OH A F J M (A 3) := ⟨rfl, hJ, hM, hp⟩
  rw [wq_187]
  by_cases c1 : 0 ≤ a ∧ a < J ∧ 0 ≤ b ∧ b < M
  · refine o_done (PRE_oh oh bd) hc ha hb c1.1 c1.2.1 c1.2.2.1 c1.2.2.2 (fun A1 F1 N Ws sg ln g => ?_)
    have hr : rg (isum (dn sg ln M a.toNat b c) N) := dn_rg g.2.2.2.1.2.2.2.2.2.2.1 g.2.2.2.1.2.2.2.2.2.2.2
    rw [wv_187 hr]
    exact SQ_v hQ (Or.inl ⟨c1, rfl, N, Ws, sg, ln, g.2.2.1, rfl, hr⟩) (OH_ppo oh g) (OFr_ppo g) (FFr_ppo g)
  · rw [o_donex (PRE_oh oh bd) ha hb (by omega), wx_187_0]
    exact SQ_x (v := 0) hQ oh (Or.inr ⟨c1, rfl⟩) (by decide)
theorem zm_done (mh : MH A F J M t) (bd : BD J M t) (ha : rg a) (hb : rg b) (hc : rg c) (sp : SPo J M t (0 ≤ a ∧ a < J ∧ 0 ≤ b ∧ b < M) (fun N sg ln => isum (dn sg ln M a.toNat b c) N) k v) (hQ : MQz A F q J M t k v Q) : Ew 149 [vR 48, .inl a, .inl b, .inl c] (mk A F q) Q := by
  have mh9 := mh
  obtain ⟨rfl, hJ, hM⟩ := mh
  obtain ⟨h1, rfl, N, Ws, sg, ln, hs, rfl, hr⟩ | ⟨h1, rfl⟩ := sp
  · exact m_done (MPR_mh mh9 bd hs) hc h1.1 h1.2.1 h1.2.2.1 h1.2.2.2 (fun A1 g => MQ_p2 hQ mh9 g (fun _ => rfl) hr)
  · rw [m_doney hJ hM bd.2.1 bd.2.2.2.1 ha hb (by omega)]
    exact MQ_s hQ mh9 (fun h => absurd h (by decide)) rg0
/-! calls that throw nothing -/
abbrev SPn (J M : Nat) (t : Nat → Int) (val : Nat → (Nat → Nat → Nat) → (Nat → Int) → Int) (v : Int) : Prop := ∃ N Ws sg ln, SEQ t J M N Ws sg ln ∧ v = val N sg ln
theorem zs_slices (oh : OH A F J M t) (bd : BD J M t) (hQ : SN A F q J M t (SPn J M t (fun N _ _ => (N : Int))) Q) : Ew 90 [vR 0] (mk A F q) Q := by
  obtain ⟨rfl, hJ, hM, hp⟩ := oh
  have oh : OH A F J M (A 3) := ⟨rfl, hJ, hM, hp⟩
  refine o_slices (PRE_oh oh bd) (fun A1 F1 N Ws sg ln g => ?_)
  have hN := g.2.2.2.1.2.2.1
  exact hQ A1 F1 _ ⟨N, Ws, sg, ln, g.2.2.1, rfl⟩ (OH_ppo oh g) (OFr_ppo g) (FFr_ppo g) ⟨by omega, by omega⟩
theorem zm_slices (mh : MH A F J M t) (bd : BD J M t) (sp : SPn J M t (fun N _ _ => (N : Int)) v) (hQ : MN A F q J M t v Q) : Ew 143 [vR 48] (mk A F q) Q := by
  have mh9 := mh
  obtain ⟨rfl, hJ, hM⟩ := mh
  obtain ⟨N, Ws, sg, ln, hs, rfl⟩ := sp
  exact m_slices (MPR_mh mh9 bd hs) (fun A1 g => MN_p2 hQ mh9 g)
theorem zs_interruptions (oh : OH A F J M t) (bd : BD J M t) (hQ : SN A F q J M t (SPn J M t (fun N sg _ => isum (fun k => isum (fun j => bi (brk sg M N k j)) J) N)) Q) : Ew 97 [vR 0] (mk A F q) Q := by
  obtain ⟨rfl, hJ, hM, hp⟩ := oh
  have oh : OH A F J M (A 3) := ⟨rfl, hJ, hM, hp⟩
  refine o_interruptions (PRE_oh oh bd) (fun A1 F1 N Ws sg ln g => ?_)
  exact hQ A1 F1 _ ⟨N, Ws, sg, ln, g.2.2.1, rfl⟩ (OH_ppo oh g) (OFr_ppo g) (FFr_ppo g) (brks_rg bd.2.1 g.2.2.2.1.2.2.1)
theorem zm_interruptions (mh : MH A F J M t) (bd : BD J M t) (sp : SPn J M t (fun N sg _ => isum (fun k => isum (fun j => bi (brk sg M N k j)) J) N) v) (hQ : MN A F q J M t v Q) : Ew 152 [vR 48] (mk A F q) Q := by
  have mh9 := mh
  obtain ⟨rfl, hJ, hM⟩ := mh
  obtain ⟨N, Ws, sg, ln, hs, rfl⟩ := sp
  exact m_interruptions (MPR_mh mh9 bd hs) (fun A1 g => MN_p2 hQ mh9 g)
theorem zs_mean (oh : OH A F J M t) (bd : BD J M t) (hQ : ∀ A1 F1 d, (∃ N Ws sg ln, SEQ t J M N Ws sg ln ∧ d = mnd (isum (fun j => fi sg ln M j N) J) J) → (Op.cmpValue (FP.dcmp d d) .l).toInt = 0 → OH A1 F1 J M t → OFr A A1 → FFr F F1 → Q (.inl (some (.inr (.inr (.inl d)))), mk A1 F1 q)) : Ew 105 [vR 0] (mk A F q) Q := by
  obtain ⟨rfl, hJ, hM, hp⟩ := oh
  have oh : OH A F J M (A 3) := ⟨rfl, hJ, hM, hp⟩
  refine o_mean (PRE_oh oh bd) (fun A1 F1 N Ws sg ln g => ?_)
  have hb := @fs_bd M N sg ln g.2.2.2.1.2.2.2.2.2.2.1 g.2.2.2.1.2.2.2.2.2.2.2 J bd.2.1
  have J1 := bd.1
  have J5 := bd.2.1
  exact hQ A1 F1 _ ⟨N, Ws, sg, ln, g.2.2.1, rfl⟩ (mnd_ok hb.1 hb.2 (by omega) (by omega)).2 (OH_ppo oh g) (OFr_ppo g) (FFr_ppo g)
theorem zm_mean {d : UInt64} (mh : MH A F J M t) (bd : BD J M t) (sp : ∃ N Ws sg ln, SEQ t J M N Ws sg ln ∧ d = mnd (isum (fun j => fi sg ln M j N) J) J) (hQ : ∀ A1 F1, MH A1 F1 J M t → MFr A A1 → MGr F F1 → Q (.inl (some (.inr (.inr (.inl d)))), mk A1 F1 q)) : Ew 174 [vR 48] (mk A F q) Q := by
  have mh9 := mh
  obtain ⟨rfl, hJ, hM⟩ := mh
  obtain ⟨N, Ws, sg, ln, hs, rfl⟩ := sp
  exact m_mean (MPR_mh mh9 bd hs) (fun A1 g => hQ A1 _ ⟨g 49 (by decide) (by decide) (by decide) (by decide), by rw [uf_n (by decide), uf_n (by decide)]; exact hJ, by rw [uf_n (by decide), uf_n (by decide)]; exact hM⟩ (MFr_sax g) (fun k hk => by rw [uf_n (by omega), uf_n (by omega)]))
theorem zs_jobs (oh : OH A F J M t) (bd : BD J M t) (hQ : SN A F q J M t (fun v => v = (J : Int)) Q) : Ew 81 [vR 0] (mk A F q) Q := by
  have J5 := bd.2.1
  rw [o_jobs]
  exact hQ A F _ oh.2.1 oh OFr_r FFr_r ⟨by rw [oh.2.1]; omega, by rw [oh.2.1]; omega⟩
theorem zm_jobs (mh : MH A F J M t) (sp : v = (J : Int)) (hQ : MN A F q J M t v Q) : Ew 127 [vR 48] (mk A F q) Q := by
  rw [m_jobs, mh.2.1, ← sp]
  exact MN_s hQ mh
theorem zs_machines (oh : OH A F J M t) (bd : BD J M t) (hQ : SN A F q J M t (fun v => v = (M : Int)) Q) : Ew 82 [vR 0] (mk A F q) Q := by
  have M5 := bd.2.2.2.1
  rw [o_machines]
  exact hQ A F _ oh.2.2.1 oh OFr_r FFr_r ⟨by rw [oh.2.2.1]; omega, by rw [oh.2.2.1]; omega⟩
theorem zm_machines (mh : MH A F J M t) (sp : v = (M : Int)) (hQ : MN A F q J M t v Q) : Ew 128 [vR 48] (mk A F q) Q := by
  rw [m_machines, mh.2.2, ← sp]
  exact MN_s hQ mh
theorem zs_total (oh : OH A F J M t) (bd : BD J M t) (hQ : SN A F q J M t (fun v => v = allS t J M) Q) : Ew 86 [vR 0] (mk A F q) Q := by
  have oh9 := oh
  obtain ⟨rfl, hJ, hM, -⟩ := oh
  obtain ⟨J1, J5, M1, M5, ht⟩ := bd
  have b1 := allS_bd ht J5 M5
  rw [o_total hJ hM J5 M5]
  exact hQ A F _ rfl oh9 OFr_r FFr_r ⟨by omega, by omega⟩
theorem zm_total (mh : MH A F J M t) (bd : BD J M t) (sp : v = allS t J M) (hQ : MN A F q J M t v Q) : Ew 133 [vR 48] (mk A F q) Q := by
  have mh9 := mh
  obtain ⟨rfl, hJ, hM⟩ := mh
  rw [m_total hJ hM bd.2.1 bd.2.2.2.1, ← sp]
  exact MN_s hQ mh9
theorem zs_bound (oh : OH A F J M t) (bd : BD J M t) (hQ : SN A F q J M t (fun v => v = bnd t J M) Q) : Ew 87 [vR 0] (mk A F q) Q := by
  have oh9 := oh
  obtain ⟨rfl, hJ, hM, -⟩ := oh
  obtain ⟨J1, J5, M1, M5, ht⟩ := bd
  have b1 := bnd_bd ht J5 M5
  rw [o_bound hJ hM J5 M5 ht]
  exact hQ A F _ rfl oh9 OFr_r FFr_r ⟨by omega, by omega⟩
theorem zm_bound (mh : MH A F J M t) (bd : BD J M t) (sp : v = bnd t J M) (hQ : MN A F q J M t v Q) : Ew 134 [vR 48] (mk A F q) Q := by
  have mh9 := mh
  obtain ⟨rfl, hJ, hM⟩ := mh
  rw [m_bound hJ hM bd.2.1 bd.2.2.2.1 bd.2.2.2.2, ← sp]
  exact MN_s hQ mh9
theorem zs_boundByFlow (oh : OH A F J M t) (bd : BD J M t) (hQ : SN A F q J M t (fun v => v = bnd t J M) Q) : Ew 88 [vR 0] (mk A F q) Q := by
  have oh9 := oh
  obtain ⟨rfl, hJ, hM, -⟩ := oh
  obtain ⟨J1, J5, M1, M5, ht⟩ := bd
  have b1 := bnd_bd ht J5 M5
  refine o_boundByFlow hJ hM J5 M5 ht (fun F1 R1 rf1 qu1 g => ?_)
  exact hQ _ F1 _ rfl (OH_fr oh9 (ha_n (by decide) (by decide) (by decide)) (ha_n (by decide) (by decide) (by decide)) (ha_n (by decide) (by decide) (by decide)) (ha_n (by decide) (by decide) (by decide)) (fun k hk => g k (by omega))) (fun k h1 _ => ha_n (by omega) (by omega) (by omega)) (fun k hk => g k (by omega)) ⟨by omega, by omega⟩
theorem zm_boundByFlow (mh : MH A F J M t) (bd : BD J M t) (sp : v = bnd t J M) (hQ : MN A F q J M t v Q) : Ew 135 [vR 48] (mk A F q) Q := by
  have mh9 := mh
  obtain ⟨rfl, hJ, hM⟩ := mh
  rw [m_boundByFlow hJ hM bd.2.1 bd.2.2.2.1 bd.2.2.2.2, ← sp]
  exact MN_s hQ mh9
theorem zs_denseLength (oh : OH A F J M t) (bd : BD J M t) (hQ : SN A F q J M t (fun v => v = imax (dclo t J M false 26 0 ds0).2.2 0 5) Q) : Ew 98 [vR 0] (mk A F q) Q := by
  have oh9 := oh
  obtain ⟨rfl, hJ, hM, -⟩ := oh
  obtain ⟨J1, J5, M1, M5, ht⟩ := bd
  rw [o_denseLength ht hJ hM J5 M5]
  exact hQ _ F _ rfl (OH_hs oh9) OFr_hs FFr_r (dln_rg ht J5 M5)
theorem zm_denseLength (mh : MH A F J M t) (bd : BD J M t) (sp : v = imax (dclo t J M false 26 0 ds0).2.2 0 5) (hQ : MN A F q J M t v Q) : Ew 156 [vR 48] (mk A F q) Q := by
  have mh9 := mh
  obtain ⟨rfl, hJ, hM⟩ := mh
  rw [m_denseLength bd.2.2.2.2 hJ hM bd.2.1 bd.2.2.2.1, ← sp]
  exact hQ _ _ ⟨hmd_n (by decide) (by decide) (by decide), mJ8 hJ, mM8 hM⟩ MFr_hmd (fun k hk => uf_n (by omega))
end HALF2
