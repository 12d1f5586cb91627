def SNDn (n : Nat) : Prop := ∀ (k pc : Nat) (L : AL) (st : List AV) (h : AH) (r : AR), ax n k pc L st h = some r → k < 120 →
  ∀ (p : Program) (l : Launch) (e : Env) (R : Room) (s : State) (m : MethodId) (args : Array Value) (below : List Frame) (meth : Method) (c : Code) (Q : State → Prop) (b Lx : Nat) (xs : Nat → Int32) (cA : Nat → ClassId) (D : va_G) (A : Nat → Prop) (H : Heap) (locs : List Loc) (ad : Nat → Nat) (ls : Array Slot) (cells : Nat),
  FX p l R s m args meth c b Lx xs cA D A k → HR b Lx xs cA D A s H locs ad h → LH b ad ls (mt k).2.1 L → wfS h.1.length L st → cells + r.2.2.2 ≤ R.cells + h.2.2 → cells + r.2.2.2 ≤ R.slots + h.2.2 →
  ENDR p l e R s m args below meth c Q b Lx xs cA D A k ad h cells r → ENDX p l e R s m args below meth c Q b Lx xs cA D A k ad h cells r → ENDT p l e R s m args below meth c Q b Lx xs cA D A k ad h cells r →
  W p l e R s m args below meth c H locs cells cells Q (F0 m pc ls (st.map (cV b ad)))
/-- what a method's frame knows at its start -/
theorem FX_of {p : Program} {l : Launch} {e : Env} {s s₁ : State} {m : MethodId} {args : Array Value} {below : List Frame} {meth : Method} {c : Code} {k mc : Nat} (hk : k < 119) (htr : l.stackTraces = false)
    {b Lx : Nat} {xs : Nat → Int32} {cA : Nat → ClassId} {D : va_G} {ad : Nat → Nat} {h : AH} {sz : Nat}
    (B : BodyLoose p l (yN k) (headSpec (wsK k) (rmK k mc)) (bN k) (mt k).2.1 (retT (mt k).2.2.2.1) e s m args below meth c s₁) (hml : c.maxLocals = (mt k).2.1) (htab : c.exceptionTable.toList = tableOf (hhT k)) (hPR : PR b Lx xs cA D ad h sz s) :
    FX p l (rmK k mc) s m args meth c b Lx xs cA D (va_A (cW b ad cA h.1) sz) k ∧ HR b Lx xs cA D (va_A (cW b ad cA h.1) sz) s s.heap [] ad h := by
  obtain ⟨q1, q2, q3, q4, q5, q6, q7, q8, q9, q10⟩ := hPR
  have hts := atoms_spec (ws := wsK k) B.pre
  have hm := mps_ok hk
  have hown : s.vm.findClass (yN k).cls = some m.cls := findClass_of_methodNamed B.named
  rw [hm.2.2.2.2.2.2.1] at hown
  refine ⟨⟨B.exec, B.bytes, hml, B.returns, hown, fun w hw => hts w (List.mem_cons_of_mem _ hw), B.notSynchronized, fun z => ((name_of_methodNamed B.named B.method).1).trans (hm.2.2.2.2.2.2.2.2.1 z).1, fun _ => htab, q3, q7, q8, q9, fun q hq => Or.inr (by rw [← q1]; exact hq), q10, Nat.le_refl _, Nat.le_refl _, htr⟩, q2, ?_, va_S.rf, q5, q6⟩
  subst q1
  exact q4.self
theorem PT_of {b Lx : Nat} {xs : Nat → Int32} {cA : Nat → ClassId} {D : va_G} {ad ad' : Nat → Nat} {h h' : AH} {sz : Nat} {s t : State} {H : Heap} {locs : List Loc} (hH : HR b Lx xs cA D (va_A (cW b ad cA h.1) sz) s H locs ad' h') (ht : t.heap = H) (hag : ∀ q : Nat, q < h.1.length → ad' q = ad q) : PT b Lx xs cA D ad h sz ad' h' t := by
  obtain ⟨h1, h2, h3, h4, h5⟩ := hH
  exact ⟨by rw [ht]; exact h1, h2, hag, h4, h5⟩
set_option maxHeartbeats 4000000 in
/-- the frame's end, for a method that was called -/
theorem ends_of {p : Program} {l : Launch} {e : Env} {s : State} {m : MethodId} {args : Array Value} {below : List Frame} {meth : Method} {c : Code} {k mc : Nat} (hk : k < 119)
    {b Lx : Nat} {xs : Nat → Int32} {cA : Nat → ClassId} {D : va_G} {ad : Nat → Nat} {h : AH} {sz : Nat} {r : AR} (hmc : h.2.2 + mc = r.2.2.2)
    (F : FX p l (rmK k mc) s m args meth c b Lx xs cA D (va_A (cW b ad cA h.1) sz) k) :
    ENDR p l e (rmK k mc) s m args below meth c (vx_MQ below (QcR b Lx xs cA D ad h sz r) (XcR b Lx xs cA D ad h sz r) args s mc mc (va_A (cW b ad cA h.1) sz)) b Lx xs cA D (va_A (cW b ad cA h.1) sz) k ad h 0 r ∧
    ENDX p l e (rmK k mc) s m args below meth c (vx_MQ below (QcR b Lx xs cA D ad h sz r) (XcR b Lx xs cA D ad h sz r) args s mc mc (va_A (cW b ad cA h.1) sz)) b Lx xs cA D (va_A (cW b ad cA h.1) sz) k ad h 0 r ∧
    ENDT p l e (rmK k mc) s m args below meth c (vx_MQ below (QcR b Lx xs cA D ad h sz r) (XcR b Lx xs cA D ad h sz r) args s mc mc (va_A (cW b ad cA h.1) sz)) b Lx xs cA D (va_A (cW b ad cA h.1) sz) k ad h 0 r := by
  obtain ⟨hx, hb, hml, hr, hown, hts, hlocks, hin, hexc, hK, hX, hbl, hbA, hA, hE, hRf, hRl, htr⟩ := F
  refine ⟨?_, ?_, ?_⟩
  · intro res hres H' locs' ad' ls' cells' pc' hH hag hcn hwf hret
    obtain rfl : cells' = mc := by omega
    have qq : ∀ t : State, t.heap = H' → QcR b Lx xs cA D ad h sz r args s (.returned (res.map (cV b ad'))) t := fun t ht => ⟨⟨res, ad', hres, rfl, hwf, PT_of hH ht hag⟩, hH.2.2.1.F ht⟩
    refine vx_ret ?_
    rcases hret with ⟨z, rfl, h1, hd⟩ | ⟨z, rfl, h0, h1, hd⟩ | ⟨rfl, h1, hd⟩ | ⟨d, rfl, h1, hd⟩
    · rw [h1] at hr
      exact W.iret hx hb hr (fun t ht hW => qq t ht) hH.2.2.1.2.2 hd hlocks
    · rw [h1] at hr
      exact W.zret hx hb hr (by rcases h0 with rfl | rfl <;> rfl) (fun t ht hW => qq t ht) hH.2.2.1.2.2 hd hlocks
    · rw [h1] at hr
      exact W.vret hx hb hr (fun t ht hW => qq t ht) hH.2.2.1.2.2 hd hlocks
    · rw [h1] at hr
      exact W.dret hx hb hr (fun t ht hW => qq t ht) hH.2.2.1.2.2 hd hlocks
  · intro En hres hEn H' locs' ad' ls' cells' pc' rest q ce hH hag hcn hno hcell hv hcl
    obtain rfl : cells' = mc := by omega
    refine vx_outP hown hlocks ?_ hcell hv hcl (fun t ht hal => ⟨⟨En, ad', hres, hEn, rfl, PT_of hH ht hag⟩, hH.2.2.1.F ht⟩) hH.2.2.1.2.2 (Nat.le_refl _) (Nat.le_refl _)
    intro z hz
    rw [hexc hk] at hz
    exact hnd_pass (List.find?_eq_none.mp hno) (fun _ z9 => z9) hEn hts hE.2.1 hz
  · intro En h0 hr0 H' locs' ad' ls' cells' pc' nx ix bb hH hag hcn hsz hi
    have hres : r.1 = .inr En := by rw [hr0]
    have hh1 : r.2.1 = h0.1 := by rw [hr0]
    have hh2 : r.2.2.1 = h0.2.1 := by rw [hr0]
    have hh3 : r.2.2.2 = h0.2.2 + 7 := by rw [hr0]
    have hH2 : HR b Lx xs cA D (va_A (cW b ad cA h.1) sz) s H' locs' ad' r.2 := by
      unfold HR
      rw [hh1, hh2]
      exact hH
    exact throw_of hx hb hml hown hts hlocks (hexc hk) hE hRf hRl htr hi hsz (by show cells' + 1 ≤ mc; omega) (by show cells' + 6 ≤ mc; omega) (by omega) (by omega) hH.2.2.1 (fun t hal hs1 hs2 => ⟨⟨En, ad', hres, thr_lt hi, rfl, ⟨va_P.kept hH2.1 (fun k9 q9 hq9 => hs2 _ ((hH2.1 k9 q9 hq9).lt)), hH2.2.1, hag, hH2.2.2.2⟩⟩, ⟨Nat.le_trans hH.2.2.1.1 hs1, fun q9 h9 hn9 => (hs2 q9 (Nat.lt_of_lt_of_le h9 hH.2.2.1.1)).trans (hH.2.2.1.2.1 q9 h9 hn9)⟩⟩)

set_option maxHeartbeats 4000000 in
/-- a method, out of its body -/
theorem meth_of {n : Nat} (hS : SNDn n) {k : Nat} (hk : k < 119) {args : List AV} {h : AH} {r : AR} (hrc : rck k args h = true) (hlen : args.length ≤ (mt k).2.1) (hrun : ax n k 0 (lcs k args) [] h = some r) (hwf : ∀ v ∈ args, wfV h.1.length v) (l : Launch) (htr : l.stackTraces = false)
    (b Lx : Nat) (xs : Nat → Int32) (cA : Nat → ClassId) (D : va_G) (ad : Nat → Nat) (sz mc : Nat) (hmc : h.2.2 + mc = r.2.2.2) :
    vx_Met l (yN k) (wsK k) (rmK k mc) (va_Pc (args.map (cV b ad)) (PR b Lx xs cA D ad h sz)) (QcR b Lx xs cA D ad h sz r) (XcR b Lx xs cA D ad h sz r) mc mc (va_A (cW b ad cA h.1) sz) := by
  have hm := mps_ok hk
  have hall : args.all c1 = true := by
    unfold rck at hrc
    simp only [Bool.and_eq_true] at hrc
    exact hrc.1
  have body : ∀ (p : Program) (e : Env) (s : State) (m : MethodId) (args9 : Array Value) (below : List Frame) (meth : Method) (c : Code) (s₁ : State), BodyLoose p l (yN k) (headSpec (wsK k) (rmK k mc)) (bN k) (mt k).2.1 (retT (mt k).2.2.2.1) e s m args9 below meth c s₁ → c.maxLocals = (mt k).2.1 → c.exceptionTable.toList = tableOf (hhT k) → va_Pc (args.map (cV b ad)) (PR b Lx xs cA D ad h sz) args9 s →
      W p l e (headSpec (wsK k) (rmK k mc)).room s m args9 below meth c s.heap [] 0 0 (vx_MQ below (QcR b Lx xs cA D ad h sz r) (XcR b Lx xs cA D ad h sz r) args9 s mc mc (va_A (cW b ad cA h.1) sz)) (entryFrame m args9 (mt k).2.1) := by
    intro p e s m args9 below meth c s₁ B hml htab hv
    obtain ⟨rfl, hPR⟩ := hv
    obtain ⟨F, hH⟩ := FX_of hk htr B hml htab hPR
    rw [lg_entry_eq]
    have hL := LH_entry (b := b) (ad := ad) args (mt k).2.1 hall hlen
    have hlc : lcs k args = args.map some ++ List.replicate ((mt k).2.1 - args.length) none := by
      unfold lcs
      rw [mts_at (by omega)]
    rw [← hlc] at hL
    obtain ⟨e1, e2, e3⟩ := ends_of (e := e) (below := below) hk hmc F
    refine hS k 0 (lcs k args) [] h r hrun (by omega) p l e (rmK k mc) s m _ below meth c _ b Lx xs cA D _ s.heap [] ad _ 0 F hH hL ⟨fun i v hi => ?_, fun v hv9 => absurd hv9 List.not_mem_nil⟩ (by show 0 + r.2.2.2 ≤ mc + h.2.2; omega) (by show 0 + r.2.2.2 ≤ mc + h.2.2; omega) e1 e2 e3
    rw [hlc] at hi
    by_cases hil : i < args.length
    · rw [List.getElem?_append_left (by simpa using hil), List.getElem?_map, List.getElem?_eq_getElem hil] at hi
      cases Option.some.inj (Option.some.inj hi)
      exact hwf _ (List.getElem_mem hil)
    · rw [List.getElem?_append_right (by simpa using hil), List.getElem?_replicate] at hi
      split at hi
      · cases Option.some.inj hi
      · cases hi
  cases hhc : hhT k with
  | nil =>
    refine vx_ofW (cc := bN k) (maxL := (mt k).2.1) (ret := retT (mt k).2.2.2.1) (ws' := GW) hm.2.2.2.2.2.1 (by unfold wsK codeW; rw [hhc]) ?_
    intro p e s m args9 below meth c s₁ B hml htab hv
    exact body p e s m args9 below meth c s₁ B hml (by rw [hhc, List.eq_nil_iff_forall_not_mem.mpr htab]; rfl) hv
  | cons q9 r9 =>
    refine vx_ofWH (cc := bN k) (maxL := (mt k).2.1) (ret := retT (mt k).2.2.2.1) (hh := q9 :: r9) (ws' := GW) hm.2.2.2.2.2.1 (by unfold wsK codeW; rw [hhc]) ?_
    intro p e s m args9 below meth c s₁ B hml hv
    have hts := atoms_spec (ws := wsK k) B.pre
    have hcw : (Cond.codeWith (yN k) (bN k) (mt k).2.1 (retT (mt k).2.2.2.1) (q9 :: r9)).before args9 s = true := hts _ (by unfold wsK codeW; rw [hhc]; exact List.mem_cons_self)
    exact body p e s m args9 below meth c s₁ B hml (by rw [hhc]; exact vx_table (x := yN k) B hcw) hv
