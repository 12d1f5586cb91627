/-! THE CLAIM OUT OF ONE WALK OF THE LAW'S BODY. Your part is whole_start (and what it stands on); all else here is the same for every law, but numbers. -/
def R_law : String := "OpenShopLaw"
def lw_P (b : Addr) (xs : List Int32) (args : Array Value) (s : State) : Prop := args = #[.ref b] ∧ s.IntsAt b xs ∧ xs.length ≤ 260 ∧ (Jvm.Cond.and given_1 narrow_1).before args s = true
/-- what a walk over the start with the record d0 says of its end, said of the start itself -/
theorem lw_closed {s t : State} {o : Outcome} {d0 : Drawn} {L : List Loc} {k n : Nat} (hd0 : s.drawn.sameBut d0 lw_cs) (hv : ∃ v, o = .returned v) (hW : (s.setDrawn d0).WarmedH t.vm) (hs : (s.setDrawn d0).sameButNew ({ t with vm := s.vm } : State) L k n) : State.butDraws s t lw_cs (fun t1 => Framed s o t1 L k n) := by
  have h2 : t.drawn = d0 := congrArg State.drawn hs.1
  refine ⟨⟨hv, hW, State.sameButNew.setDrawn hs s.drawn⟩, ?_, by decide⟩
  rw [h2]
  exact hd0
def lw_Q (_ : Array Value) (s : State) (o : Outcome) (t : State) : Prop := o = .returned (some (.int 1)) ∧ State.butDraws s t lw_cs (fun t1 => Framed s o t1 [] 600130 7301080)
def lw_Z (below : List Frame) (a : Array Value) (s : State) : State → Prop := fun t => ∃ o, t.status = .running ∧ Ended t below o ∧ lw_Q a s o t
/-- the law's own end, with 1 on the stack, nothing written that was there before, its room as the claim has it; d0: the record of draws at this point (at the entry s.drawn: begin with 'refine W.base ?_' and 'have hd0 := Drawn.sameBut.refl s.drawn lw_cs') -/
theorem lw_ret {p : Program} {l : Launch} {e : Env} {s : State} {m : MethodId} {below : List Frame} {meth : Method} {c : Code} {b : Nat} {d0 : Drawn} (hd0 : s.drawn.sameBut d0 lw_cs) (hx : p.tables.exec = Jvm.exec) (hb : c.code = code) (hr : meth.sig.returnType = ret) (hlocks : meth.locks = false) {pc : Nat} {H : Heap} {ls : Array Slot} (hdg : decode code pc = .ok (.ireturn, 1)) : W p l e room_1 (s.setDrawn d0) m #[Value.ref b] below meth c H [] 600130 7301080 (lw_Z below #[Value.ref b] s) (F0 m pc ls [.int 1]) := by
  intro T hT X
  obtain ⟨fs, hret, hrun, hended, hW, hframe⟩ := X.leave (v := some (.int 1)) (hlocks := hlocks) (fun h => by rw [hr] at h; cases h)
  have hmeth' : T.vm.method? m = some meth := X.method'
  refine ⟨T.setFrames fs, ?_, .returned (some (.int 1)), hrun, hended, rfl, lw_closed hd0 ⟨_, rfl⟩ hW hframe⟩
  jvm_step X.here [X.here.top, hx, hb, hdg, hmeth', hr, ret, narrow_b1]
  (try refine ⟨rfl, ?_⟩); (try refine ⟨rfl, ?_⟩)
  first | (intro acts; rw [hret _ acts rfl rfl rfl]) | rw [hret _ _ rfl rfl rfl]
  exact Steps.refl _
/-- what holds at the law's entry: the machine, the code, the tables' words (any of lw_tbl by 'hts w (by decide +kernel)'), the script of L ints xs at the cell b, what the Statement gives of the start (any of its parts by flat_of_before) -/
def lw_At (p : Program) (s : State) (m : MethodId) (meth : Method) (c : Code) (b L : Nat) (xs : Nat → Int32) : Prop :=
  p.tables.exec = Jvm.exec ∧ c.code = code ∧ meth.sig.returnType = ret ∧ c.maxLocals = 6 ∧ s.vm.findClass R_law = some m.cls ∧ (∀ w ∈ lw_tbl, w.before #[Value.ref b] s = true) ∧ va_X b L xs s s.heap ∧ b < s.heap.size ∧ meth.locks = false ∧ (Jvm.Cond.and given_1 narrow_1).before #[Value.ref b] s = true
theorem ex_str {own tx : String} {k : Nat} {args : Array Value} {s : State} (h1 : (Cond.stringRef own k tx).before args s = true) (h2 : (Cond.exactly (Term.string own k) "java/lang/String").before args s = true) : ∃ sa, vk_R own k tx sa s := by
  obtain ⟨a, c, cA, kA, q1, -⟩ := Cond.exactly_spec (args := args) (first := s) (o := none) (s := s) (idx := []) (t := Term.string own k) (cls := "java/lang/String") h2
  exact ⟨a, vk_R.of h1 q1⟩
set_option maxHeartbeats 4000000 in
theorem EX_start {b : Nat} {s : State} (hts : ∀ w ∈ lw_tbl, w.before #[Value.ref b] s = true) (hgv : (Jvm.Cond.and given_1 narrow_1).before #[Value.ref b] s = true) : EX (fun q : Nat => s.heap.size ≤ q) s := by
  have hs := flat_of_before _ hgv
  have hA : ∀ a : Nat, a < s.heap.size → ¬ (fun q : Nat => s.heap.size ≤ q) a := fun a h z => absurd h (Nat.not_lt.mpr z)
  refine ⟨fun q hq => va_Nw.of rfl (hts _ (List.mem_of_getElem? (NLp_ok q hq))), fun _ _ _ _ _ z => absurd rfl z, ?_, ?_, ex_str (hts _ (List.mem_of_getElem? (i := 409) (by decide +kernel))) (hs _ (by decide +kernel)), ex_str (hts _ (List.mem_of_getElem? (i := 337) (by decide +kernel))) (hs _ (by decide +kernel)), ex_str (hts _ (List.mem_of_getElem? (i := 723) (by decide +kernel))) (hs _ (by decide +kernel)),
    vx_Zqof (hts _ (List.mem_of_getElem? (i := 323) (by decide +kernel))) (hts _ (by decide +kernel)) (hs _ (by decide +kernel)) hA, vx_Zqof (hts _ (List.mem_of_getElem? (i := 325) (by decide +kernel))) (hts _ (by decide +kernel)) (hs _ (by decide +kernel)) hA⟩
  · intro E hE
    rcases (show E = 0 ∨ E = 1 ∨ E = 2 by omega) with rfl | rfl | rfl
    · exact va_Nw.of rfl (hts _ (List.mem_of_getElem? (i := 402) (by decide +kernel)))
    · exact va_Nw.of rfl (hts _ (List.mem_of_getElem? (i := 298) (by decide +kernel)))
    · exact va_Nw.of rfl (hts _ (List.mem_of_getElem? (i := 716) (by decide +kernel)))
  · intro C hC
    rcases List.mem_cons.mp hC with rfl | hC
    · exact va_Nw.of rfl (hts _ (by decide +kernel))
    · rcases List.mem_cons.mp hC with rfl | hC
      · exact va_Nw.of rfl (hts _ (by decide +kernel))
      · rw [List.mem_singleton.mp hC]
        exact va_Nw.of rfl (hts _ (by decide +kernel))
theorem arr_start {ty : FieldType} {b : Nat} {s : State} (h : (Cond.arrayClass ty).before #[Value.ref b] s = true) (hno : ∀ C, ty ≠ .object C) : ∃ c9 : ClassId, ArrOfT s c9 ty ∧ va_RA s c9 ty := by
  obtain ⟨c9, k9, comp, h1, h2, h3⟩ := Cond.arrayClass_spec (args := #[Value.ref b]) (first := s) (o := none) (s := s) (idx := []) h
  refine ⟨c9, fun n z => ⟨fun k h => (by cases h), k9, h2, comp, h3⟩, ?_⟩
  unfold va_RA
  cases ty with
  | object C => exact absurd rfl (hno C)
  | _ => exact h1
/-- the law's own body: what the small machine answers, the claim's end is -/
theorem law_from {p : Program} {e : Env} {s : State} {m : MethodId} {below : List Frame} {meth : Method} {c : Code} (l : Launch) (hflags : l.flags = flags0) {b L : Nat} {xs : Nat → Int32} (C0 : lw_At p s m meth c b L xs) (n : Nat) (h9 : AH)
    (hrun : ax n 119 0 (lcs 119 [vS]) [] ([], (List.range L).map (fun j => (xs j).toInt), 0) = some (.inl (some (.inl 1)), h9)) (hroom : h9.2.2 ≤ 600130) : W p l e room_1 s m #[Value.ref b] below meth c s.heap [] 0 0 (lw_Z below #[Value.ref b] s) (entryFrame m ([Value.ref b] : List Value).toArray 6) := by
  obtain ⟨hx, hb, hr, hml, hown, hts, hX, hbl, hlocks, hgv⟩ := C0
  have htr : l.stackTraces = false := by
    unfold Launch.stackTraces
    rw [hflags]
    decide +kernel
  have hGW : ∀ w ∈ GW, w.before #[Value.ref b] s = true := fun w hw => hts w (List.mem_filter.mp hw).1
  have hdI : ∀ c9 : Nat, ∃ q : ClassId × (Nat → Nat), c9 < 9 → u_Kn s (RN c9) (TN c9) (NN c9) q.1 q.2 := by
    intro c9
    by_cases hc : c9 < 9
    · obtain ⟨c0, iS, h0⟩ := u_known (C := RN c9) (T := TN c9) (N := NN c9) (n := NN c9) hGW (GWi c9 hc) (hGW _ (GW_at ((cps_ok c9 (List.mem_range.mpr (by omega))).2 hc) rfl))
      exact ⟨(c0, iS), fun _ => h0⟩
    · exact ⟨(0, fun _ => 0), fun z => absurd z hc⟩
  obtain ⟨DD, hDD⟩ := Classical.axiomOfChoice hdI
  obtain ⟨c0, a0⟩ := arr_start (b := b) (hGW _ (GW_at jj_a rfl)) (fun _ z => by cases z)
  have hK : va_K (fun q => (DD q).1, fun q => (DD q).2) vwCl (tyA (fun _ => c0)) s := by
    refine ⟨fun c9 q hq => ?_, fun k9 q hq => ?_⟩
    · have hc : c9 < 9 := (List.getElem?_eq_some_iff.mp hq).1
      rw [cl_at hc] at hq
      cases hq
      exact hDD c9 hc
    · match k9, hq with
      | 0, hq => cases hq; exact a0
      | k9 + 1, hq => simp [tyA] at hq
  have F : FX p l room_1 s m #[Value.ref b] meth c b L xs (fun _ => c0) (fun q => (DD q).1, fun q => (DD q).2) (fun q : Nat => s.heap.size ≤ q) 119 :=
    ⟨hx, hb, hml, hr, hown, hGW, hlocks, fun z => absurd z (by decide +kernel), fun z => absurd z (Nat.lt_irrefl 119), hK, hX, hbl, Nat.not_le.mpr hbl, fun _ z => z, EX_start hts hgv, by decide +kernel, by decide +kernel, htr⟩
  have hH : HR b L xs (fun _ => c0) (fun q => (DD q).1, fun q => (DD q).2) (fun q : Nat => s.heap.size ≤ q) s s.heap [] (fun _ => 0) ([], (List.range L).map (fun j => (xs j).toInt), 0) := by
    refine ⟨fun k9 q hq => by simp [cW] at hq, ⟨fun i j p9 q hq => by simp [cW] at hq, fun k9 q hq => by simp [cW] at hq⟩, va_S.rf, fun x hx9 => absurd hx9 List.not_mem_nil, by simp, fun j hj => ?_⟩
    rw [List.getD_eq_getElem?_getD, List.getElem?_map, List.getElem?_range hj]
    simp
  rw [lg_entry_eq]
  have hL := LH_entry (b := b) (ad := fun _ => 0) [vS] 6 rfl (by decide)
  have hlc : lcs 119 [vS] = [vS].map some ++ List.replicate (6 - [vS].length) none := by
    unfold lcs
    rw [mts_at (by omega)]
    rfl
  rw [← hlc] at hL
  refine snd_main n 119 0 (lcs 119 [vS]) [] _ _ hrun (by omega) p l e room_1 s m #[Value.ref b] below meth c _ b L xs _ _ _ s.heap [] (fun _ => 0) _ 0 F hH hL ⟨fun i v hi => ?_, fun v hv => absurd hv List.not_mem_nil⟩ (by show 0 + h9.2.2 ≤ 600130 + 0; omega) (by show 0 + h9.2.2 ≤ 7301080 + 0; omega) ?_ ?_ ?_
  · rw [hlc] at hi
    match i, hi with
    | 0, hi => cases Option.some.inj (Option.some.inj hi); trivial
    | i + 1, hi =>
      rw [List.map_cons, List.map_nil, List.cons_append, List.nil_append, List.getElem?_cons_succ, List.getElem?_replicate] at hi
      split at hi
      · cases Option.some.inj hi
      · cases hi
  · intro res hres H' locs' ad' ls' cells' pc' hH' hag hcn hwf hret
    cases hres
    have hcs : cells' = h9.2.2 := by simpa using hcn
    have hd0 := Drawn.sameBut.refl s.drawn lw_cs
    rcases hret with ⟨z, hz, h1, hd⟩ | ⟨z, hz, h0, h1, hd⟩ | ⟨hz, -⟩ | ⟨d, hz, -⟩
    · exact absurd h1 (by decide +kernel)
    · cases hz
      refine va_forget (fun q hq => hH'.2.2.1.2.2 q hq) ?_
      refine W.widen (k := 600130) (n := 7301080) (by omega) (by omega) ?_
      refine W.base ?_
      exact lw_ret hd0 hx hb hr hlocks hd
    · cases hz
    · cases hz
  · intro En hres
    cases hres
  · intro En h0 hres
    cases hres
