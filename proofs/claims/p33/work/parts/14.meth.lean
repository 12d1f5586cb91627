/-! a method of the small machine, called on the real one -/
def wsK (k : Nat) : List Cond := codeW k :: GW
def rmK (k mc : Nat) : Room := { frames := (mt k).2.2.2.2.1, cells := mc, slots := mc, locals := (mt k).2.2.2.2.2 }
/-- the world that a method starts in -/
def PR (b Lx : Nat) (xs : Nat → Int32) (cA : Nat → ClassId) (D : va_G) (ad : Nat → Nat) (h : AH) (sz : Nat) (U : State) : Prop :=
  U.heap.size = sz ∧ va_P D vwCl (cW b ad cA h.1) U.heap ∧ va_K D vwCl (tyA cA) U ∧ va_D (fun _ => True) (cW b ad cA h.1) ∧ (∀ x ∈ h.1, wfC h.1.length x) ∧ (h.2.1.length = Lx ∧ ∀ j : Nat, j < Lx → Int32.ofInt (h.2.1.getD j 0) = xs j) ∧ va_X b Lx xs U U.heap ∧ b < U.heap.size ∧ ¬ va_A (cW b ad cA h.1) sz b ∧ EX (va_A (cW b ad cA h.1) sz) U
/-- the world that it leaves -/
def PT (b Lx : Nat) (xs : Nat → Int32) (cA : Nat → ClassId) (D : va_G) (ad : Nat → Nat) (h : AH) (sz : Nat) (ad' : Nat → Nat) (h' : AH) (t : State) : Prop :=
  va_P D vwCl (cW b ad' cA h'.1) t.heap ∧ va_D (va_A (cW b ad cA h.1) sz) (cW b ad' cA h'.1) ∧ (∀ q : Nat, q < h.1.length → ad' q = ad q) ∧ (∀ x ∈ h'.1, wfC h'.1.length x) ∧ (h'.2.1.length = Lx ∧ ∀ j : Nat, j < Lx → Int32.ofInt (h'.2.1.getD j 0) = xs j)
def QcR (b Lx : Nat) (xs : Nat → Int32) (cA : Nat → ClassId) (D : va_G) (ad : Nat → Nat) (h : AH) (sz : Nat) (r : AR) : Array Value → State → Outcome → State → Prop := fun _ s o t =>
  (∃ (res : Option AV) (ad' : Nat → Nat), r.1 = .inl res ∧ o = .returned (res.map (cV b ad')) ∧ (∀ v, res = some v → wfV r.2.1.length v) ∧ PT b Lx xs cA D ad h sz ad' r.2 t) ∧ va_F (va_A (cW b ad cA h.1) sz) s t
def XcR (b Lx : Nat) (xs : Nat → Int32) (cA : Nat → ClassId) (D : va_G) (ad : Nat → Nat) (h : AH) (sz : Nat) (r : AR) : String → State → State → Prop := fun E s t =>
  (∃ (En : Nat) (ad' : Nat → Nat), r.1 = .inr En ∧ En < 3 ∧ E = xN En ∧ PT b Lx xs cA D ad h sz ad' r.2 t) ∧ va_F (va_A (cW b ad cA h.1) sz) s t
theorem EX_warm {A : Nat → Prop} {s U : State} (hW : s.WarmedH U.vm) {H : Heap} (hU : U.heap = H) (hk : s.heap.size ≤ H.size) (hq : ∀ q : Nat, q < s.heap.size → ¬ A q → H[q]? = s.heap[q]?) (hE : EX A s) : EX A U := by
  obtain ⟨h1, h2, h3, h9, ⟨a4, h4⟩, ⟨a5, h5⟩, ⟨a6, h6⟩, h7, h8⟩ := hE
  subst hU
  exact ⟨fun q hq => va_Nw.warmM hW (h1 q hq), fun E F hE hF hn hz => (h2 E F hE hF hn hz).moved hW.alike, fun E hE => va_Nw.warmC hW (h3 E hE), fun C hC => va_Nw.warmD hW (h9 C hC), ⟨a4, h4.warm hW⟩, ⟨a5, h5.warm hW⟩, ⟨a6, h6.warm hW⟩, (vx_Zq.moved hW.alike h7).kept hq, (vx_Zq.moved hW.alike h8).kept hq⟩
theorem EX_narrow {A B : Nat → Prop} {s : State} (hAB : ∀ q, B q → A q) (hE : EX A s) : EX B s :=
  ⟨hE.1, hE.2.1, hE.2.2.1, hE.2.2.2.1, hE.2.2.2.2.1, hE.2.2.2.2.2.1, hE.2.2.2.2.2.2.1, hE.2.2.2.2.2.2.2.1.narrow hAB, hE.2.2.2.2.2.2.2.2.narrow hAB⟩
theorem PR_blind {b Lx : Nat} {xs : Nat → Int32} {cA : Nat → ClassId} {D : va_G} {ad : Nat → Nat} {h : AH} {sz : Nat} {av : List Value} : FrameBlind (va_Pc av (PR b Lx xs cA D ad h sz)) := by
  intro a U g mk q
  obtain ⟨q0, q1, q2, q3, q4, q5, q6, q7, q8, q9, q10⟩ := q
  refine ⟨q0, q1, q2, va_K.moved (u := U) (U := U.calling g mk a) (Vm.Alike.refl U.vm) q3, q4, q5, q6, va_X.moved (u := U) (U := U.calling g mk a) (Vm.Alike.refl U.vm) q7, q8, q9, ?_⟩
  obtain ⟨h1, h2, h3, h9, ⟨a4, h4⟩, ⟨a5, h5⟩, ⟨a6, h6⟩, h7, h8⟩ := q10
  exact ⟨fun q hq => (h1 q hq).same rfl rfl, fun E F hE hF hn hz => (h2 E F hE hF hn hz).moved (U := U.calling g mk a) (Vm.Alike.refl U.vm), fun E hE => (h3 E hE).same rfl rfl, fun C hC => (h9 C hC).same rfl rfl, ⟨a4, h4.same rfl⟩, ⟨a5, h5.same rfl⟩, ⟨a6, h6.same rfl⟩, vx_Zq.moved (U := U.calling g mk a) (Vm.Alike.refl U.vm) h7, vx_Zq.moved (U := U.calling g mk a) (Vm.Alike.refl U.vm) h8⟩
theorem good_GW {ws : List Cond} (h : ∀ w ∈ ws, w ∈ GW) : GoodIn GW ws := fun w hw => ⟨h w hw, good_of_word (List.mem_filter.mp (h w hw)).2⟩
theorem mps_at {k : Nat} (h : k < 119) : k ∈ List.range 119 := List.mem_range.mpr h
theorem mps_ok {k : Nat} (h : k < 119) : lw_tbl[(mps.getD k (0, 0, 0, 0)).1]? = some (codeW k) ∧ ((mt k).2.2.1 = 0 → lw_tbl[(mps.getD k (0, 0, 0, 0)).2.1]? = some (.static (yN k))) ∧ ((mt k).2.2.1 ≠ 0 → lw_tbl[(mps.getD k (0, 0, 0, 0)).2.1]? = some (.instanceMethod (yN k))) ∧ ((mt k).2.2.1 = 2 → lw_tbl[(mps.getD k (0, 0, 0, 0)).2.2.1]? = some (.selects (RN (mt k).1) (yN k) (yN k))) ∧ ((yN k).cls ≠ "java/lang/invoke/MethodHandle" ∧ (yN k).cls ≠ "java/lang/invoke/VarHandle" ∧ (parseMethodDescriptor (yN k).desc).map (fun d => d.parameters.length) = some (mps.getD k (0, 0, 0, 0)).2.2.2) ∧ plainName (yN k).cls = true ∧ (yN k).cls = RN (mt k).1 ∧ (mt k).1 < 10 ∧ ((mt k).2.2.1 = 1 → (yN k).name = "<init>" ∧ (mt k).2.2.2.1 = 0) ∧ (mt k).2.2.1 < 3 := by
  have key : ∀ (lo hi : Nat), lo ≤ k → k < hi → k ∈ (List.range hi).drop lo := by
    intro lo hi h1 h2
    refine List.mem_iff_getElem?.mpr ⟨k - lo, ?_⟩
    rw [List.getElem?_drop, List.getElem?_range (by omega)]
    congr 1; omega
  by_cases h0 : k < 13
  · exact mps_ok_0 k (key 0 13 (by omega) h0)
  by_cases h13 : k < 26
  · exact mps_ok_13 k (key 13 26 (by omega) h13)
  by_cases h26 : k < 39
  · exact mps_ok_26 k (key 26 39 (by omega) h26)
  by_cases h39 : k < 52
  · exact mps_ok_39 k (key 39 52 (by omega) h39)
  by_cases h52 : k < 65
  · exact mps_ok_52 k (key 52 65 (by omega) h52)
  by_cases h65 : k < 78
  · exact mps_ok_65 k (key 65 78 (by omega) h65)
  by_cases h78 : k < 91
  · exact mps_ok_78 k (key 78 91 (by omega) h78)
  by_cases h91 : k < 104
  · exact mps_ok_91 k (key 91 104 (by omega) h91)
  by_cases h104 : k < 111
  · exact mps_ok_104 k (key 104 111 (by omega) h104)
  by_cases h111 : k < 112
  · exact mps_ok_111 k (key 111 112 (by omega) h111)
  by_cases h112 : k < 113
  · exact mps_ok_112 k (key 112 113 (by omega) h112)
  by_cases h113 : k < 114
  · exact mps_ok_113 k (key 113 114 (by omega) h113)
  by_cases h114 : k < 115
  · exact mps_ok_114 k (key 114 115 (by omega) h114)
  by_cases h115 : k < 116
  · exact mps_ok_115 k (key 115 116 (by omega) h115)
  by_cases h116 : k < 117
  · exact mps_ok_116 k (key 116 117 (by omega) h116)
  exact mps_ok_117 k (key 117 119 (by omega) h)
theorem codeW_in {k : Nat} (h : k < 119) : codeW k ∈ GW := GW_at (mps_ok h).1 (by unfold codeW; split <;> rfl)
theorem wsK_in {k : Nat} (h : k < 119) : ∀ w ∈ wsK k, w ∈ GW := fun w hw => (List.mem_cons.mp hw).elim (fun e => e ▸ codeW_in h) (fun z => z)
theorem ini_in {c : Nat} (h : c < 10) : (Cond.initialized (RN c)) ∈ GW := GW_at (cps_ok c (List.mem_range.mpr h)).1 rfl
/-- first locals -/
theorem LH_entry {b : Nat} {ad : Nat → Nat} : ∀ (vs : List AV) (n : Nat), vs.all c1 = true → vs.length ≤ n → LH b ad ((lg_sl (vs.map (cV b ad)) ++ List.replicate (n - (lg_sl (vs.map (cV b ad))).length) Slot.unset).toArray) n (vs.map some ++ List.replicate (n - vs.length) none) := by
  have cat : ∀ v : AV, c1 v = true → (cV b ad v).category = 1 := by
    intro v hv
    rcases v with z | z | d | (_ | _ | k) <;> first | rfl | cases hv
  have sl : ∀ vs : List AV, vs.all c1 = true → lg_sl (vs.map (cV b ad)) = vs.map (fun v => Slot.val (cV b ad v)) := by
    intro vs
    induction vs with
    | nil => intro _; rfl
    | cons v vs ih =>
      intro hv
      simp only [List.all_cons, Bool.and_eq_true] at hv
      have h1 := ih hv.2
      unfold lg_sl at h1 ⊢
      rw [List.map_cons, List.flatMap_cons, h1, if_neg (by rw [cat v hv.1]; decide)]
      rfl
  intro vs n hv hn
  have h1 := lv_entry (vs.map (cV b ad)) (n := n) (by rw [sl vs hv, List.length_map]; exact hn)
  refine ⟨h1.1, h1.2.1, by simp; omega, fun i v hi => ?_⟩
  rw [List.getElem?_toArray, sl vs hv]
  by_cases hil : i < vs.length
  · rw [List.getElem?_append_left (by simpa using hil), List.getElem?_map] at hi
    rw [List.getElem?_append_left (by simpa using hil), List.getElem?_map]
    rw [List.getElem?_eq_getElem hil] at hi ⊢
    cases Option.some.inj (Option.some.inj hi)
    rfl
  · rw [List.getElem?_append_right (by simpa using hil), List.getElem?_replicate] at hi
    split at hi
    · cases Option.some.inj hi
    · cases hi
/-- how a run in a frame may end -/
def ENDR (p : Program) (l : Launch) (e : Env) (R : Room) (s : State) (m : MethodId) (args : Array Value) (below : List Frame) (meth : Method) (c : Code) (Q : State → Prop) (b Lx : Nat) (xs : Nat → Int32) (cA : Nat → ClassId) (D : va_G) (A : Nat → Prop) (k : Nat) (ad : Nat → Nat) (h : AH) (cells : Nat) (r : AR) : Prop :=
  ∀ (res : Option AV), r.1 = .inl res → ∀ (H' : Heap) (locs' : List Loc) (ad' : Nat → Nat) (ls' : Array Slot) (cells' pc' : Nat), HR b Lx xs cA D A s H' locs' ad' r.2 → (∀ q : Nat, q < h.1.length → ad' q = ad q) → cells' + h.2.2 = cells + r.2.2.2 → (∀ v, res = some v → wfV r.2.1.length v) →
    ((∃ z, res = some (.inl z) ∧ (mt k).2.2.2.1 = 1 ∧ decode (bN k) pc' = .ok (.ireturn, 1)) ∨ (∃ z, res = some (.inl z) ∧ b01 z ∧ (mt k).2.2.2.1 = 2 ∧ decode (bN k) pc' = .ok (.ireturn, 1)) ∨ (res = none ∧ (mt k).2.2.2.1 = 0 ∧ decode (bN k) pc' = .ok (.return_, 1)) ∨ (∃ d, res = some (vD d) ∧ (mt k).2.2.2.1 = 3 ∧ decode (bN k) pc' = .ok (.dreturn, 1))) →
    W p l e R s m args below meth c H' locs' cells' cells' Q (F0 m pc' ls' (res.map (cV b ad')).toList)
def ENDX (p : Program) (l : Launch) (e : Env) (R : Room) (s : State) (m : MethodId) (args : Array Value) (below : List Frame) (meth : Method) (c : Code) (Q : State → Prop) (b Lx : Nat) (xs : Nat → Int32) (cA : Nat → ClassId) (D : va_G) (A : Nat → Prop) (k : Nat) (ad : Nat → Nat) (h : AH) (cells : Nat) (r : AR) : Prop :=
  ∀ (En : Nat), r.1 = .inr En → En < 3 → ∀ (H' : Heap) (locs' : List Loc) (ad' : Nat → Nat) (ls' : Array Slot) (cells' pc' : Nat) (rest : List Value) (q : Addr) (ce : Cell), HR b Lx xs cA D A s H' locs' ad' r.2 → (∀ q : Nat, q < h.1.length → ad' q = ad q) → cells' + h.2.2 = cells + r.2.2.2 → hnd k pc' En = none →
    H'[q]? = some ce → ce.vm = .none → s.vm.findClass (xN En) = some ce.cls → vx_W p l e R s m args below meth c H' locs' cells' cells' Q (F0 m pc' ls' rest) q
def ENDT (p : Program) (l : Launch) (e : Env) (R : Room) (s : State) (m : MethodId) (args : Array Value) (below : List Frame) (meth : Method) (c : Code) (Q : State → Prop) (b Lx : Nat) (xs : Nat → Int32) (cA : Nat → ClassId) (D : va_G) (A : Nat → Prop) (k : Nat) (ad : Nat → Nat) (h : AH) (cells : Nat) (r : AR) : Prop :=
  ∀ (En : Nat) (h0 : AH), r = (.inr En, (h0.1, h0.2.1, h0.2.2 + 7)) → ∀ (H' : Heap) (locs' : List Loc) (ad' : Nat → Nat) (ls' : Array Slot) (cells' pc' nx ix : Nat) (bb : Int), HR b Lx xs cA D A s H' locs' ad' h0 → (∀ q : Nat, q < h.1.length → ad' q = ad q) → cells' + h.2.2 = cells + h0.2.2 → ls'.size = (mt k).2.1 → ins k pc' = some (65, nx, En, bb, ix) →
    W p l e R s m args below meth c H' locs' cells' cells' Q (F0 m pc' ls' [])
