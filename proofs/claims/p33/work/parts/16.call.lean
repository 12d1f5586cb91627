/-! a call, and the whole -/
section CALLS
variable {p : Program} {l : Launch} {e : Env} {R : Room} {s : State} {m : MethodId} {args : Array Value} {below : List Frame} {meth : Method} {c : Code} {Q : State → Prop} {b Lx : Nat} {xs : Nat → Int32} {cA : Nat → ClassId} {D : va_G} {A : Nat → Prop}
theorem PR_at {H : Heap} {locs : List Loc} {ad : Nat → Nat} {h : AH} {U : State} (hK : va_K D vwCl (tyA cA) s) (hX : va_X b Lx xs s s.heap) (hbl : b < s.heap.size) (hbA : ¬ A b) (hA : ∀ q, s.heap.size ≤ q → A q) (hE : EX A s) (hH : HR b Lx xs cA D A s H locs ad h) (hU : U.heap = H) (hW : s.WarmedH U.vm) : PR b Lx xs cA D ad h H.size U := by
  obtain ⟨h1, h2, h3, h4, h5⟩ := hH
  have hsub : ∀ q, va_A (cW b ad cA h.1) H.size q → A q := by
    intro q hq
    rcases hq with ⟨k9, e9, hq⟩ | hq
    · exact h2.2 k9 _ hq
    · exact hA q (Nat.le_trans h3.1 hq)
  have hbk : H[b]? = s.heap[b]? := h3.2.1 b hbl hbA
  exact ⟨by rw [hU], by rw [hU]; exact h1, va_K.moved hW.alike hK, h2.weaken (fun _ _ _ _ => trivial), h4, h5, by rw [hU]; exact (va_X.moved hW.alike hX).kept hbk, by rw [hU]; exact Nat.lt_of_lt_of_le hbl h3.1, fun z => hbA (hsub b z), EX_narrow hsub (EX_warm hW hU h3.1 (fun q hq hn => h3.2.1 q hq hn) hE)⟩
/-- behind a call -/
theorem HR_back {H : Heap} {locs locs1 : List Loc} {ad ad' : Nat → Nat} {h h1 : AH} {t : State} {H1 : Heap} (hA : ∀ q, s.heap.size ≤ q → A q) (hH : HR b Lx xs cA D A s H locs ad h) (hT : PT b Lx xs cA D ad h H.size ad' h1 t) (ht : t.heap = H1) (hS : va_S A s.heap H1 locs1) : HR b Lx xs cA D A s H1 locs1 ad' h1 := by
  obtain ⟨g1, g2, g3, g4, g5⟩ := hT
  have hsub : ∀ q, va_A (cW b ad cA h.1) H.size q → A q := by
    intro q hq
    rcases hq with ⟨k9, e9, hq⟩ | hq
    · exact hH.2.1.2 k9 _ hq
    · exact hA q (Nat.le_trans hH.2.2.1.1 hq)
  exact ⟨by rw [← ht]; exact g1, g2.weaken (fun k9 q9 _ z => hsub _ z), hS, g4, g5⟩
set_option maxHeartbeats 4000000 in
theorem call_run {n k pc a ix nx : Nat} {bb : Int} {av : List AV} {h : AH} {r : AR} {H : Heap} {locs : List Loc} {ad : Nat → Nat} {ls : Array Slot} {cells mc : Nat} {rest : List Value} (hS : SNDn n) (F : FX p l R s m args meth c b Lx xs cA D A k) (hi : vok k (pc, (60, nx, a, bb, ix)) = true) (hH : HR b Lx xs cA D A s H locs ad h) (hsz : ls.size = (mt k).2.1)
    (hrc : rck a av h = true) (hlen : av.length = bb.toNat) (hrun : ax n a 0 (lcs a av) [] h = some r) (hwf : ∀ v ∈ av, wfV h.1.length v) (hrest : (rest.map fun v => v.category).sum ≤ 8) (hmc : h.2.2 + mc = r.2.2.2) (hc1 : cells + mc ≤ R.cells) (hc2 : cells + mc ≤ R.slots) :
    nx = pc + 3 ∧ ∃ av9 : Array Value, vx_Run p l e R s m args below meth c H locs cells cells mc mc (F0 m pc ls ((av.map (cV b ad)).reverse ++ rest)) rest (QcR b Lx xs cA D ad h H.size r av9) (XcR b Lx xs cA D ad h H.size r) (va_A (cW b ad cA h.1) H.size) := by
  obtain ⟨hx, hb, hml, hr, hown, hts, hlocks, hin, hexc, hK, hX, hbl, hbA, hA, hE, hRf, hRl, htr⟩ := F
  unfold vok at hi
  simp only [Bool.and_eq_true, decide_eq_true_eq, Nat.blt_eq] at hi
  obtain ⟨⟨hlt, hd⟩, h3, ha, hlk, hfr, hlo, hnb, hbm⟩ := hi
  unfold iof at hd
  simp only [] at hd
  obtain rfl : nx = pc + 3 := by omega
  rw [Nat.add_sub_cancel_left] at hd
  refine ⟨rfl, ?_⟩
  have hm := mps_ok ha
  have hM := meth_of hS ha hrc (by omega) hrun hwf l htr b Lx xs cA D ad H.size mc hmc
  have hPU : ∀ U : State, U.heap = H → s.WarmedH U.vm → va_Pc (av.map (cV b ad)) (PR b Lx xs cA D ad h H.size) (av.map (cV b ad)).toArray U := fun U hU hW => ⟨rfl, PR_at hK hX hbl hbA hA hE hH hU hW⟩
  have hroom : (rmK a mc).frames + 1 ≤ R.frames ∧ 8 + ((mt a).2.1 + 11) + (rmK a mc).locals ≤ R.locals := ⟨by show (mt a).2.2.2.2.1 + 1 ≤ _; omega, by show 8 + ((mt a).2.1 + 11) + (mt a).2.2.2.2.2 ≤ _; omega⟩
  have hini : (Cond.initialized (yN a).cls).before args s = true := by rw [hm.2.2.2.2.2.2.1]; exact hts _ (ini_in hm.2.2.2.2.2.2.2.1)
  have hG : GoodIn GW (wsK a) := good_GW (wsK_in ha)
  have hfix : CallFix p m c (bN k) (mt k).2.1 s args GW (RN (mt k).1) := ⟨hx, hb, hml, hown, hts⟩
  have hkd := hm.2.2.2.2.2.2.2.2.2
  have hW8 : 2 * (F0 m pc ls ((av.map (cV b ad)).reverse ++ rest)).monitorRoom + (rest.map fun v => v.category).sum ≤ 8 := lv_room hrest
  have hml2 : ∀ {o9 i9 k9 : Nat}, (MLp.lookup (o9, i9)).map (fun q => q.1) = some k9 → (Cond.methodLink (RN o9) i9 (yN k9)) ∈ GW := by
    intro o9 i9 k9 h9
    obtain ⟨⟨c9, pl9⟩, hq9, he9⟩ := Option.map_eq_some_iff.mp h9
    cases he9
    exact GW_at (MLp_ok _ (lk_mem hq9)) rfl
  rcases (show (mt a).2.2.1 = 0 ∨ (mt a).2.2.1 = 1 ∨ (mt a).2.2.1 = 2 by omega) with k0 | k1 | k2
  · -- static
    rw [k0] at hd hnb
    simp only [if_true] at hd hnb
    have hl9 : (Cond.methodLink (RN (mt k).1) ix (yN a)) ∈ GW := by
      rcases hlk with h9 | ⟨-, h9⟩
      · exact hml2 h9
      · omega
    have hst : (Cond.static (yN a)) ∈ GW := GW_at (hm.2.1 k0) rfl
    have hGs : GoodIn GW (va_wsS (RN (mt k).1) ix (yN a) (wsK a)) := good_GW (fun w hw => by
      unfold va_wsS at hw
      rcases List.mem_append.mp hw with hw | hw
      · rcases List.mem_cons.mp hw with rfl | hw
        · exact hl9
        · rcases List.mem_cons.mp hw with rfl | hw
          · exact hst
          · rw [List.mem_singleton.mp hw, hm.2.2.2.2.2.2.1]; exact ini_in hm.2.2.2.2.2.2.2.1
      · exact wsK_in ha w hw)
    have hlen2 : (av.map (cV b ad)).length = (mps.getD a (0, 0, 0, 0)).2.2.2 := by rw [List.length_map]; omega
    refine ⟨(av.map (cV b ad)).toArray, ?_⟩
    cases hhc : hhT a with
    | nil => exact vx_runS (As := av.map (cV b ad)) hfix hM (va_cwS _ hts hGs (ws' := GW) (by unfold wsK codeW; rw [hhc]) rfl rfl hm.2.2.2.2.1 hroom) ⟨PR_blind, hPU⟩ rfl hlen2 hsz rfl hW8 hd ⟨hc1, hc2⟩
    | cons q9 r9 => exact vx_runSX (As := av.map (cV b ad)) (hh := q9 :: r9) hfix hM (vx_cwSW _ hts hGs (ws' := GW) (by unfold wsK codeW; rw [hhc]) rfl rfl hm.2.2.2.2.1 hroom) ⟨PR_blind, hPU⟩ rfl hlen2 hsz rfl hW8 hd ⟨hc1, hc2⟩
  · -- constructor
    rw [k1] at hd hnb
    simp only [] at hd
    rw [if_neg (by decide)] at hnb
    have hhc : hhT a = [] := by
      cases hh9 : hhT a with
      | nil => rfl
      | cons q9 r9 =>
        have h9 := hh_at (k := a) (x := q9) (by rw [hh9]; exact List.mem_cons_self)
        have h8 : ∀ k9 ∈ List.range 119, (mt k9).1 = 9 → (mt k9).2.2.1 = 0 := by decide +kernel
        have h7 := h8 a (List.mem_range.mpr ha) h9.1
        omega
    have hret : retT (mt a).2.2.2.1 = none := by rw [(hm.2.2.2.2.2.2.2.2.1 k1).2]; rfl
    have hcw : wsK a = Cond.code (yN a) (bN a) (mt a).2.1 none :: GW := by unfold wsK codeW; rw [hhc, hret]
    have hins : (Cond.instanceMethod (yN a)).before args s = true := hts _ (GW_at (hm.2.2.1 (by omega)) rfl)
    have hal := hrc
    unfold rck at hal
    rw [mts_at (by omega)] at hal
    simp only [k1, Bool.and_eq_true] at hal
    obtain ⟨q9, av9, rfl⟩ : ∃ (q9 : Nat) (av9 : List AV), av = vR q9 :: av9 := by
      have h9 := hal.2
      split at h9
      · exact ⟨_, _, rfl⟩
      · cases h9
    have hlen2 : (av9.map (cV b ad)).length = (mps.getD a (0, 0, 0, 0)).2.2.2 := by rw [List.length_map]; simp only [List.length_cons] at hlen; omega
    have hstk : (((vR q9 :: av9).map (cV b ad)).reverse ++ rest : List Value) = (av9.map (cV b ad)).reverse ++ .ref (ad q9) :: rest := by
      rw [List.map_cons, List.reverse_cons, List.append_assoc]; rfl
    refine ⟨(Value.ref (ad q9) :: av9.map (cV b ad)).toArray, ?_⟩
    rcases hlk with h9 | ⟨h9, -⟩
    · exact vx_runI (As := av9.map (cV b ad)) (b := ad q9) hfix hM (cwI _ hts hG hcw rfl rfl hini (hts _ (hml2 h9)) hins (hm.2.2.2.2.2.2.2.2.1 k1).1 hm.2.2.2.2.1 hroom) ⟨PR_blind, hPU⟩ rfl hlen2 hsz hstk hW8 hd ⟨hc1, hc2⟩
    · obtain ⟨⟨c9, pl9⟩, hq9, he9⟩ := Option.map_eq_some_iff.mp h9
      cases he9
      have hnl := hE.1 _ (lk_mem hq9)
      exact vx_runIN (As := av9.map (cV b ad)) (b := ad q9) hfix hM ⟨va_cnB _ hts hG hcw rfl rfl hnl hini hm.2.2.2.2.1 hroom, (hm.2.2.2.2.2.2.2.2.1 k1).1, hins⟩ ⟨PR_blind, hPU⟩ rfl hlen2 hsz hstk hW8 hd ⟨hc1, hc2⟩
  · -- virtual
    rw [k2] at hd hnb
    simp only [] at hd
    rw [if_neg (by decide)] at hnb
    have hhc : hhT a = [] := by
      cases hh9 : hhT a with
      | nil => rfl
      | cons q9 r9 =>
        have h9 := hh_at (k := a) (x := q9) (by rw [hh9]; exact List.mem_cons_self)
        have h8 : ∀ k9 ∈ List.range 119, (mt k9).1 = 9 → (mt k9).2.2.1 = 0 := by decide +kernel
        have h7 := h8 a (List.mem_range.mpr ha) h9.1
        omega
    have hl9 : (Cond.methodLink (RN (mt k).1) ix (yN a)) ∈ GW := by
      rcases hlk with h9 | ⟨-, h9⟩
      · exact hml2 h9
      · omega
    have hal := hrc
    unfold rck at hal
    rw [mts_at (by omega)] at hal
    simp only [k2, Bool.and_eq_true] at hal
    obtain ⟨q9, av9, fs9, rfl, hcell⟩ : ∃ (q9 : Nat) (av9 : List AV) (fs9 : List AV), av = vR q9 :: av9 ∧ h.1[q9]? = some (.inl ((mt a).1, fs9)) := by
      have h9 := hal.2
      split at h9
      · split at h9
        · rename_i c9 fs9 hc9
          have h8 := of_decide_eq_true h9
          subst h8
          exact ⟨_, _, _, rfl, hc9⟩
        · cases h9
      · cases h9
    have hc10 : (mt a).1 < 9 := by
      have h8 : ∀ k9 ∈ List.range 119, (mt k9).2.2.1 = 2 → (mt k9).1 < 9 := by decide +kernel
      exact h8 a (List.mem_range.mpr ha) k2
    have hGv : GoodIn GW (wsV (RN (mt k).1) ix (RN (mt a).1) (yN a) (wsK a)) := good_GW (fun w hw => by
      unfold wsV at hw
      rcases List.mem_append.mp hw with hw | hw
      · rcases List.mem_cons.mp hw with rfl | hw
        · exact hl9
        · rcases List.mem_cons.mp hw with rfl | hw
          · exact GW_at (hm.2.2.1 (by omega)) rfl
          · rcases List.mem_cons.mp hw with rfl | hw
            · exact GW_at (hm.2.2.2.1 k2) rfl
            · rw [List.mem_singleton.mp hw]; exact ini_in hm.2.2.2.2.2.2.2.1
      · exact wsK_in ha w hw)
    have hlen2 : (av9.map (cV b ad)).length = (mps.getD a (0, 0, 0, 0)).2.2.2 := by rw [List.length_map]; simp only [List.length_cons] at hlen; omega
    have hstk : (((vR q9 :: av9).map (cV b ad)).reverse ++ rest : List Value) = (av9.map (cV b ad)).reverse ++ .ref (ad q9) :: rest := by
      rw [List.map_cons, List.reverse_cons, List.append_assoc]; rfl
    refine ⟨(Value.ref (ad q9) :: av9.map (cV b ad)).toArray, ?_⟩
    exact vx_runV (As := av9.map (cV b ad)) (b := ad q9) hfix hM (cwV _ hts hGv (ws' := GW) (by unfold wsK codeW; rw [hhc]) rfl rfl ⟨hm.2.2.2.2.2.2.1, hm.2.2.2.2.1⟩ hroom) ⟨PR_blind, va_recv hK hH.1 (ci := (mt a).1) (q0 := q9) (cl_at hc10) (cW_get hcell), hPU⟩ rfl hlen2 hsz hstk hW8 hd ⟨hc1, hc2⟩
end CALLS
