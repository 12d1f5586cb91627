set_option maxHeartbeats 8000000 in
theorem snd_main : ∀ n : Nat, SNDn n
  | 0 => by
    intro k pc L st h r hr
    cases hr
  | n + 1 => by
    have hS := snd_main n
    intro k pc L st h r hr hk p l e R s m args below meth c Q b Lx xs cA D A H locs ad ls cells F hH hL hw hc1 hc2 eR eX eT
    have go : ∀ (pc' : Nat) (L' : AL) (st' : List AV) (h1 : AH), ax n k pc' L' st' h1 = some r → h.1.length ≤ h1.1.length → ∀ (H1 : Heap) (locs1 : List Loc) (ad1 : Nat → Nat) (ls1 : Array Slot) (cells1 : Nat), HR b Lx xs cA D A s H1 locs1 ad1 h1 → LH b ad1 ls1 (mt k).2.1 L' → wfS h1.1.length L' st' → (∀ q : Nat, q < h.1.length → ad1 q = ad q) → cells1 + h.2.2 = cells + h1.2.2 →
        W p l e R s m args below meth c H1 locs1 cells1 cells1 Q (F0 m pc' ls1 (st'.map (cV b ad1))) := by
      intro pc' L' st' h1 hr1 hle H1 locs1 ad1 ls1 cells1 hH1 hL1 hw1 hag hcn
      exact hS k pc' L' st' h1 r hr1 hk p l e R s m args below meth c Q b Lx xs cA D A H1 locs1 ad1 ls1 cells1 F hH1 hL1 hw1 (by omega) (by omega)
        (fun res hres H' locs' ad' ls' cells' pc9 hH' hag' hcn' hwf' hret' => eR res hres H' locs' ad' ls' cells' pc9 hH' (fun q hq => (hag' q (Nat.lt_of_lt_of_le hq hle)).trans (hag q hq)) (by omega) hwf' hret')
        (fun En hres hEn H' locs' ad' ls' cells' pc9 rest q ce hH' hag' hcn' hno hcell hv hcl => eX En hres hEn H' locs' ad' ls' cells' pc9 rest q ce hH' (fun q hq => (hag' q (Nat.lt_of_lt_of_le hq hle)).trans (hag q hq)) (by omega) hno hcell hv hcl)
        (fun En h0 hr0 H' locs' ad' ls' cells' pc9 nx ix bb hH' hag' hcn' hsz' hi' => eT En h0 hr0 H' locs' ad' ls' cells' pc9 nx ix bb hH' (fun q hq => (hag' q (Nat.lt_of_lt_of_le hq hle)).trans (hag q hq)) (by omega) hsz' hi')
    unfold ax at hr
    simp only [] at hr
    split at hr
    · cases hr
    · rename_i i hi
      have hv := vok_of hi
      obtain ⟨op9, nx9, a9, b9, ix9⟩ := i
      simp only [] at hr
      split at hr
      · -- a call
        split at hr
        · rename_i hc
          obtain ⟨hlen, hdep, hrc⟩ := hc
          have hsp : st.map (cV b ad) = (((st.take b9.toNat).reverse).map (cV b ad)).reverse ++ (st.drop b9.toNat).map (cV b ad) := by
            rw [← List.map_reverse, List.reverse_reverse, ← List.map_append, List.take_append_drop]
          have hcat : (((st.drop b9.toNat).map (cV b ad)).map fun v => v.category).sum ≤ 8 := by
            have := cat_le (b := b) (ad := ad) (st.drop b9.toNat)
            omega
          have hwa : ∀ v ∈ (st.take b9.toNat).reverse, wfV h.1.length v := fun v hv9 => hw.2 v (List.mem_of_mem_take (List.mem_reverse.mp hv9))
          have hwd : wfS h.1.length L (st.drop b9.toNat) := ⟨hw.1, fun v hv9 => hw.2 v (List.mem_of_mem_drop hv9)⟩
          have hAF : ∀ q, s.heap.size ≤ q → A q := F.2.2.2.2.2.2.2.2.2.2.2.2.2.1
          have hsub : ∀ q, va_A (cW b ad cA h.1) H.size q → A q := by
            intro q hq
            rcases hq with ⟨k9, e9, hq⟩ | hq
            · exact hH.2.1.2 k9 _ hq
            · exact hAF q (Nat.le_trans hH.2.2.1.1 hq)
          split at hr
          · cases hr
          · -- it returned nothing
            rename_i h1 u9
            have l1 := ax_le u9
            have l2 := ax_le hr
            simp only [] at l1
            obtain ⟨rfl, av9, hrun⟩ := call_run (e := e) (below := below) (locs := locs) (cells := cells) (mc := h1.2.2 - h.2.2) (rest := (st.drop b9.toNat).map (cV b ad)) hS F hv hH hL.1 hrc hlen u9 hwa hcat (by simp only []; omega) (by omega) (by omega)
            rw [hsp]
            intro T hT X
            rcases hrun T hT X with ⟨v, st₀, t, T', L9, h0, X', hL9, e1, e2, ⟨⟨res, ad', hres, ho, hwfr, hPT⟩, hF⟩, stp⟩ | ⟨q9, st₀, t, T', L9, Es, ce, h0, X', hL9, e1, e2, ⟨⟨En, ad', hres, -⟩, -⟩, -⟩
            · cases hres
              cases ho
              obtain ⟨k1, k2, k3⟩ := vx_keep h0 e1 hH.2.2.1 (fun q _ z => hsub q z) hsub hL9 hF
              have hH1 := HR_back hAF hH hPT e1.symm k3
              obtain ⟨t2, a1, b1⟩ := go _ _ _ h1 hr l1.2 T'.heap _ ad' ls _ hH1 (LH_ad hPT.2.2.1 hwd hL) (wfS_mono l1.2 hwd) hPT.2.2.1 (show cells + (h1.2.2 - h.2.2) + h.2.2 = cells + h1.2.2 by omega) T' rfl X'
              rw [map_ad hPT.2.2.1 hwd.2] at a1
              exact ⟨t2, stp t2 a1, b1⟩
            · cases hres
          · -- it returned a value
            rename_i v1 h1 u9
            have l1 := ax_le u9
            have l2 := ax_le hr
            simp only [] at l1
            obtain ⟨rfl, av9, hrun⟩ := call_run (e := e) (below := below) (locs := locs) (cells := cells) (mc := h1.2.2 - h.2.2) (rest := (st.drop b9.toNat).map (cV b ad)) hS F hv hH hL.1 hrc hlen u9 hwa hcat (by simp only []; omega) (by omega) (by omega)
            rw [hsp]
            intro T hT X
            rcases hrun T hT X with ⟨v, st₀, t, T', L9, h0, X', hL9, e1, e2, ⟨⟨res, ad', hres, ho, hwfr, hPT⟩, hF⟩, stp⟩ | ⟨q9, st₀, t, T', L9, Es, ce, h0, X', hL9, e1, e2, ⟨⟨En, ad', hres, -⟩, -⟩, -⟩
            · cases hres
              cases ho
              obtain ⟨k1, k2, k3⟩ := vx_keep h0 e1 hH.2.2.1 (fun q _ z => hsub q z) hsub hL9 hF
              have hH1 := HR_back hAF hH hPT e1.symm k3
              obtain ⟨t2, a1, b1⟩ := go _ _ _ h1 hr l1.2 T'.heap _ ad' ls _ hH1 (LH_ad hPT.2.2.1 hwd hL) (wfS_push (wfS_mono l1.2 hwd) (hwfr _ rfl)) hPT.2.2.1 (show cells + (h1.2.2 - h.2.2) + h.2.2 = cells + h1.2.2 by omega) T' rfl X'
              rw [List.map_cons, map_ad hPT.2.2.1 hwd.2] at a1
              exact ⟨t2, stp t2 a1, b1⟩
            · cases hres
          · -- it threw
            rename_i E1 h1 u9
            have l1 := ax_le u9
            simp only [] at l1
            have hrle : h1.2.2 ≤ r.2.2.2 := by
              split at hr
              · cases hr; exact Nat.le_refl _
              · split at hr
                · split at hr
                  · exact (ax_le hr).1
                  · cases hr
                · cases hr
            obtain ⟨rfl, av9, hrun⟩ := call_run (e := e) (below := below) (locs := locs) (cells := cells) (mc := h1.2.2 - h.2.2) (rest := (st.drop b9.toNat).map (cV b ad)) hS F hv hH hL.1 hrc hlen u9 hwa hcat (by simp only []; omega) (by omega) (by omega)
            rw [hsp]
            intro T hT X
            rcases hrun T hT X with ⟨v, st₀, t, T', L9, h0, X', hL9, e1, e2, ⟨⟨res, ad', hres, -⟩, -⟩, -⟩ | ⟨q9, st₀, t, T', L9, Es, ce, h0, X', hL9, e1, e2, ⟨⟨En, ad', hres, hEn, hEs, hPT⟩, hF⟩, hce, hcv, hcl, stp⟩
            · cases hres
            · cases hres
              subst hEs
              obtain ⟨k1, k2, k3⟩ := vx_keep h0 e1 hH.2.2.1 (fun q _ z => hsub q z) hsub hL9 hF
              have hH1 := HR_back hAF hH hPT e1.symm k3
              have hcn : cells + (h1.2.2 - h.2.2) + h.2.2 = cells + h1.2.2 := by omega
              have hce2 : T'.heap[q9]? = some ce := by rw [e1]; exact hce
              split at hr
              · rename_i hno
                cases hr
                obtain ⟨t2, a1, b1⟩ := eX E1 rfl hEn T'.heap _ ad' ls _ pc ((st.drop b9.toNat).map (cV b ad)) q9 ce hH1 hPT.2.2.1 hcn hno hce2 hcv hcl T' rfl X'
                exact ⟨t2, stp.trans a1, b1⟩
              · rename_i x9 hx9
                split at hr
                · rename_i nx8 a8 b8 ix8 hi8
                  split at hr
                  · rename_i hok
                    obtain ⟨px, as, bs, hsplit, hpre⟩ := List.find?_eq_some_iff_append.mp hx9
                    have hxm : x9 ∈ hhT k := by rw [hsplit]; simp
                    have hk5 : k < 119 := by
                      rcases Nat.lt_or_ge k 119 with z5 | z5
                      · exact z5
                      · have z6 : k = 119 := by omega
                        rw [z6] at hxm
                        exact absurd hxm List.not_mem_nil
                    simp only [Bool.and_eq_true, beq_iff_eq] at px
                    have hlk := ct_link hxm
                    rw [px.2] at hlk
                    have hv8 := vok_of hi8
                    have hcatch := vx_catch (Q := Q) (R := R) (args := args) (below := below) (meth := meth) (l := l) (p := p) (e := e) (ls := ls) (rest := (st.drop b9.toNat).map (cV b ad)) (locs := locs ++ L9) (cells := cells + (h1.2.2 - h.2.2)) (slots := cells + (h1.2.2 - h.2.2)) (pc := pc) F.2.2.2.2.1 (tableOf as) ⟨x9.1, x9.2.1, x9.2.2.1, x9.2.2.2⟩ (tableOf bs) (by rw [F.2.2.2.2.2.2.2.2.1 hk5, hsplit]; unfold tableOf; rw [List.map_append, List.map_cons])
                      (fun z hz => hnd_pass (hs := as) (fun y hy h8 => by have h9 := hpre y hy; simp only [Bool.not_eq_true'] at h9; exact Bool.noConfusion (h8.symm.trans h9)) (fun y hy => by rw [hsplit]; exact List.mem_append_left _ hy) hEn F.2.2.2.2.2.1 F.2.2.2.2.2.2.2.2.2.2.2.2.2.2.1.2.1 hz) (by simp only [covers, Bool.and_eq_true]; exact px.1) hlk.2.2
                      (F.2.2.2.2.2.1 _ hlk.1) ((F.2.2.2.2.2.2.2.2.2.2.2.2.2.2.1.2.2.1 E1 hEn).use rfl) hce2 hcv hcl
                    have hk8 : W p l e R s m args below meth c T'.heap (locs ++ L9) (cells + (h1.2.2 - h.2.2)) (cells + (h1.2.2 - h.2.2)) Q (F0 m x9.2.2.1 ls [.ref q9]) := by
                      unfold vok at hv8
                      simp only [Bool.and_eq_true, decide_eq_true_eq, Nat.blt_eq] at hv8
                      obtain ⟨⟨hlt8, hd8⟩, hw8⟩ := hv8
                      unfold iof at hd8
                      simp only [] at hd8
                      have hL1 := LH_ad hPT.2.2.1 hwd hL
                      have hal : a8 < (mt k).2.1 := by rw [← hL.2.2.1]; exact hok.1
                      have fin8 : ∀ ls' : Array Slot, lv_has ls' (mt k).2.1 ((a8, .ref q9) :: (lvl b ad' L).filter (fun q => !(q.1 == a8) && !(q.1 + 1 == a8 && q.2.category == 2))) → W p l e R s m args below meth c T'.heap (locs ++ L9) (cells + (h1.2.2 - h.2.2)) (cells + (h1.2.2 - h.2.2)) Q (F0 m nx8 ls' []) := fun ls' hl' =>
                        go nx8 _ [] h1 hr l1.2 T'.heap _ ad' ls' _ hH1 (LH_set hL1 hok.1 hok.2 none (fun y hy => by cases hy) hl') (wfS_set (wfS_mono l1.2 ⟨hw.1, fun v hv9 => absurd hv9 List.not_mem_nil⟩) _ (fun y hy => by cases hy)) hPT.2.2.1 hcn
                      rcases hw8 with ⟨w1, w4⟩ | w2
                      · obtain rfl : nx8 = x9.2.2.1 + 1 := by omega
                        rw [if_pos w1] at hd8
                        rw [Nat.add_sub_cancel_left] at hd8
                        exact lv_astore_n F.1 F.2.1 hd8 (by show a8 % 4 = a8; exact Nat.mod_eq_of_lt w4) (lvl_has hL1) hal rfl fin8
                      · obtain rfl : nx8 = x9.2.2.1 + 2 := by omega
                        rw [if_neg (by omega)] at hd8
                        rw [Nat.add_sub_cancel_left] at hd8
                        exact lv_astore F.1 F.2.1 hd8 (lvl_has hL1) hal rfl fin8
                    obtain ⟨t2, a1, b1⟩ := hcatch hk8 T' rfl X'
                    exact ⟨t2, stp.trans a1, b1⟩
                  · cases hr
                · cases hr
        · cases hr
      · split at hr
        · cases hr
          unfold vok at hv
          simp only [Bool.and_eq_true, decide_eq_true_eq, Nat.blt_eq] at hv
          obtain ⟨⟨hlt, hd⟩, h3, h4⟩ := hv
          unfold iof at hd
          simp only [] at hd
          rw [h3] at hd
          exact eR _ rfl H locs ad ls cells pc hH (fun _ _ => rfl) rfl (fun v hv9 => by cases hv9; trivial) (Or.inl ⟨_, rfl, h4, hd⟩)
        · cases hr
      · split at hr
        · split at hr
          · rename_i hz
            cases hr
            unfold vok at hv
            simp only [Bool.and_eq_true, decide_eq_true_eq, Nat.blt_eq] at hv
            obtain ⟨⟨hlt, hd⟩, h3, h4⟩ := hv
            unfold iof at hd
            simp only [] at hd
            rw [h3] at hd
            exact eR _ rfl H locs ad ls cells pc hH (fun _ _ => rfl) rfl (fun v hv9 => by cases hv9; trivial) (Or.inr (Or.inl ⟨_, rfl, hz, h4, hd⟩))
          · cases hr
        · cases hr
      · split at hr
        · cases hr
          unfold vok at hv
          simp only [Bool.and_eq_true, decide_eq_true_eq, Nat.blt_eq] at hv
          obtain ⟨⟨hlt, hd⟩, h3, h4⟩ := hv
          unfold iof at hd
          simp only [] at hd
          rw [h3] at hd
          exact eR _ rfl H locs ad ls cells pc hH (fun _ _ => rfl) rfl (fun v hv9 => by cases hv9) (Or.inr (Or.inr (Or.inl ⟨rfl, h4, hd⟩)))
        · cases hr
      · split at hr
        · cases hr
          unfold vok at hv
          simp only [Bool.and_eq_true, decide_eq_true_eq, Nat.blt_eq] at hv
          obtain ⟨⟨hlt, hd⟩, h3, h4⟩ := hv
          unfold iof at hd
          simp only [] at hd
          rw [h3] at hd
          exact eR _ rfl H locs ad ls cells pc hH (fun _ _ => rfl) rfl (fun v hv9 => by cases hv9; trivial) (Or.inr (Or.inr (Or.inr ⟨_, rfl, h4, hd⟩)))
        · cases hr
      · split at hr
        · cases hr
          exact eT _ h rfl H locs ad ls cells pc _ _ _ hH (fun _ _ => rfl) rfl hL.1 hi
        · cases hr
      · split at hr
        · cases hr
        · rename_i q9 hq9
          obtain ⟨pc', L', st', h'⟩ := q9
          have l1 := sx_le hq9
          have l2 := ax_le hr
          simp only [] at l1 l2
          exact snd_all hv F hH hL hw (by omega) (by omega) hq9 (fun H' locs' ad' ls' cells' hH' hL' hw' hag hcn => go _ _ _ _ hr l1.2 H' locs' ad' ls' cells' hH' hL' hw' hag hcn)
