/-! each plain instruction of the small machine is one of the real one -/
def EX (A : Nat → Prop) (s : State) : Prop := (∀ q ∈ NLp, va_Nw (.methodLinkNest (RN q.1.1) q.1.2 (yN q.2.1) "OpenShop") s) ∧ (∀ E F : Nat, E < 3 → F < 3 → E ≠ F → hhs ≠ [] → va_Nc (xN E) (xN F) s) ∧ (∀ E : Nat, E < 3 → va_Nw (.castable (xN E) (xN E)) s) ∧ (∀ C ∈ ["java/lang/RuntimeException", "java/lang/Exception", "java/lang/Throwable"], va_Nw (.declares ⟨C, "<init>", "(Ljava/lang/String;)V"⟩) s) ∧
  (∃ sa, vk_R "OpenShop" 170 "no such job, machine, slice, row or column" sa s) ∧ (∃ sa, vk_R "OpenShop" 175 "an argument is out of range" sa s) ∧ (∃ sa, vk_R "OpenShop" 163 "there are not just two machines" sa s) ∧
  vx_Zq Bundle.tN "UNASSIGNED_STACK" Bundle.steD A s s.heap ∧ vx_Zq Bundle.tN "SUPPRESSED_SENTINEL" Bundle.listD A s s.heap
def FX (p : Program) (l : Launch) (R : Room) (s : State) (m : MethodId) (args : Array Value) (meth : Method) (c : Code) (b Lx : Nat) (xs : Nat → Int32) (cA : Nat → ClassId) (D : va_G) (A : Nat → Prop) (k : Nat) : Prop :=
  p.tables.exec = Jvm.exec ∧ c.code = bN k ∧ c.maxLocals = (mt k).2.1 ∧ meth.sig.returnType = retT (mt k).2.2.2.1 ∧ s.vm.findClass (RN (mt k).1) = some m.cls ∧ (∀ w ∈ GW, w.before args s = true) ∧ meth.locks = false ∧ ((mt k).2.2.1 = 1 → meth.name = "<init>") ∧
  (k < 119 → c.exceptionTable.toList = tableOf (hhT k)) ∧ va_K D vwCl (tyA cA) s ∧ va_X b Lx xs s s.heap ∧ b < s.heap.size ∧ ¬ A b ∧ (∀ q, s.heap.size ≤ q → A q) ∧ EX A s ∧ (mt k).2.2.2.2.1 ≤ R.frames ∧ (mt k).2.2.2.2.2 ≤ R.locals ∧ l.stackTraces = false
def KONT (p : Program) (l : Launch) (e : Env) (R : Room) (s : State) (m : MethodId) (args : Array Value) (below : List Frame) (meth : Method) (c : Code) (Q : State → Prop) (b Lx : Nat) (xs : Nat → Int32) (cA : Nat → ClassId) (D : va_G) (A : Nat → Prop) (k : Nat) (ad : Nat → Nat) (h : AH) (cells pc : Nat) (L : AL) (st : List AV) (h' : AH) : Prop :=
  ∀ (H' : Heap) (locs' : List Loc) (ad' : Nat → Nat) (ls' : Array Slot) (cells' : Nat), HR b Lx xs cA D A s H' locs' ad' h' → LH b ad' ls' (mt k).2.1 L → wfS h'.1.length L st → (∀ q : Nat, q < h.1.length → ad' q = ad q) → cells' + h.2.2 = cells + h'.2.2 →
    W p l e R s m args below meth c H' locs' cells' cells' Q (F0 m pc ls' (st.map (cV b ad')))
theorem GWi : ∀ c : Nat, c < 9 → ∀ w ∈ u_ws (RN c) (TN c) (NN c), w ∈ GW := by
  have key : ∀ (ws : List Cond) (is : List Nat), ws.map some = is.map (fun i => lw_tbl[i]?) → (ws.all goodWord) = true → ∀ w ∈ ws, w ∈ GW := by
    intro ws is h hg w hw
    have h1 : some w ∈ ws.map some := List.mem_map.mpr ⟨w, hw, rfl⟩
    rw [h] at h1
    obtain ⟨i, -, hi⟩ := List.mem_map.mp h1
    exact GW_at hi (List.all_eq_true.mp hg w hw)
  intro c hc
  rcases (show c = 0 ∨ c = 1 ∨ c = 2 ∨ c = 3 ∨ c = 4 ∨ c = 5 ∨ c = 6 ∨ c = 7 ∨ c = 8 by omega) with rfl | rfl | rfl | rfl | rfl | rfl | rfl | rfl | rfl
  · exact key _ _ lay_0 (by decide +kernel)
  · exact key _ _ lay_1 (by decide +kernel)
  · exact key _ _ lay_2 (by decide +kernel)
  · exact key _ _ lay_3 (by decide +kernel)
  · exact key _ _ lay_4 (by decide +kernel)
  · exact key _ _ lay_5 (by decide +kernel)
  · exact key _ _ lay_6 (by decide +kernel)
  · exact key _ _ lay_7 (by decide +kernel)
  · exact key _ _ lay_8 (by decide +kernel)
theorem cl_at {c : Nat} (hc : c < 9) : vwCl[c]? = some (RN c, TN c, NN c) := by
  rcases (show c = 0 ∨ c = 1 ∨ c = 2 ∨ c = 3 ∨ c = 4 ∨ c = 5 ∨ c = 6 ∨ c = 7 ∨ c = 8 by omega) with rfl | rfl | rfl | rfl | rfl | rfl | rfl | rfl | rfl <;> rfl
theorem ty_ok {c : Nat} (hc : c < 9) : ∀ k, k < NN c → parseFieldDescriptor (TN c k).2.2.1 = some (tyN c k) := by
  rcases (show c = 0 ∨ c = 1 ∨ c = 2 ∨ c = 3 ∨ c = 4 ∨ c = 5 ∨ c = 6 ∨ c = 7 ∨ c = 8 by omega) with rfl | rfl | rfl | rfl | rfl | rfl | rfl | rfl | rfl
  · exact tyX0_ok
  · exact tyX1_ok
  · exact tyX2_ok
  · exact tyX3_ok
  · exact tyX4_ok
  · exact tyX5_ok
  · exact tyX6_ok
  · exact tyX7_ok
  · exact tyX8_ok
theorem nm_ok {c : Nat} (hc : c < 9) : ∀ a, a < NN c → ∀ b, b < NN c → a ≠ b → (TN c a).2.1 ≠ (TN c b).2.1 := by
  rcases (show c = 0 ∨ c = 1 ∨ c = 2 ∨ c = 3 ∨ c = 4 ∨ c = 5 ∨ c = 6 ∨ c = 7 ∨ c = 8 by omega) with rfl | rfl | rfl | rfl | rfl | rfl | rfl | rfl | rfl
  · exact nmX0
  · exact nmX1
  · exact nmX2
  · exact nmX3
  · exact nmX4
  · exact nmX5
  · exact nmX6
  · exact nmX7
  · exact nmX8
theorem lk_mem {α : Type} {l : List ((Nat × Nat) × α)} {q : Nat × Nat} {x : α} (h : l.lookup q = some x) : (q, x) ∈ l := by
  obtain ⟨l1, l2, h1, -⟩ := List.lookup_eq_some_iff.mp h
  rw [h1]
  simp
theorem FL_of {own ix ci j : Nat} (h : (FLp.lookup (own, ix)).map (fun q => (q.1, q.2.1)) = some (ci, j)) : (Cond.fieldLink (RN own) ix (TN ci j).1 (TN ci j).2.1 (TN ci j).2.2.1) ∈ GW ∧ ci < 9 ∧ j < NN ci := by
  obtain ⟨⟨c1, j1, pl⟩, hq, he⟩ := Option.map_eq_some_iff.mp h
  cases he
  obtain ⟨h1, h2, h3⟩ := FLp_ok _ (lk_mem hq)
  exact ⟨GW_at h1 rfl, h2, h3⟩
section SND
variable {p : Program} {l : Launch} {e : Env} {R : Room} {s : State} {m : MethodId} {args : Array Value} {below : List Frame} {meth : Method} {c : Code} {Q : State → Prop} {b Lx : Nat} {xs : Nat → Int32} {cA : Nat → ClassId} {D : va_G} {A : Nat → Prop}
variable {k pc nx a ix : Nat} {bb : Int} {L L' : AL} {st st' : List AV} {h h' : AH} {pc' : Nat} {H : Heap} {locs : List Loc} {ad : Nat → Nat} {ls : Array Slot} {cells : Nat}
theorem lv_ref {i : Nat} {x : Nat} {own : Nat} (hl : ls[i]? = some (.val (.ref x))) : ls[i]? = some (.val (.ref x)) := hl
theorem snd_0 (hi : vok k (pc, (0, nx, a, bb, ix)) = true) (F : FX p l R s m args meth c b Lx xs cA D A k) (hH : HR b Lx xs cA D A s H locs ad h) (hL : LH b ad ls (mt k).2.1 L) (hw : wfS h.1.length L st) (hc1 : cells + h'.2.2 ≤ R.cells + h.2.2) (hc2 : cells + h'.2.2 ≤ R.slots + h.2.2)
    (hs : sx (0, nx, a, bb, ix) L st h = some (pc', L', st', h')) (K : KONT p l e R s m args below meth c Q b Lx xs cA D A k ad h cells pc' L' st' h') : W p l e R s m args below meth c H locs cells cells Q (F0 m pc ls (st.map (cV b ad))) := by
  unfold vok at hi
  simp only [Bool.and_eq_true, decide_eq_true_eq, Nat.blt_eq] at hi
  obtain ⟨⟨hlt, hd⟩, hv⟩ := hi
  obtain ⟨hx, hb, hml, hr, hown, hts, hlocks, hin, hexc, hK, hX, hbl, hbA, hA, hE, hRf, hRl, htr⟩ := F
  unfold iof at hd
  unfold sx at hs
  simp only [] at hd hs
  split at hs
  · rename_i z hz
    cases hs
    have hz2 := hL.2.2.2 a _ hz
    have hwz := hw.1 a _ hz
    rcases hv with ⟨h1, h4⟩ | h2
    · obtain rfl : nx = pc + 1 := by omega
      rw [if_pos h1] at hd
      rw [Nat.add_sub_cancel_left] at hd
      exact lv_iload_n hx hb hd (by show a % 4 = a; exact Nat.mod_eq_of_lt h4) hz2 (K H locs ad ls cells hH hL (wfS_push hw hwz) (fun _ _ => rfl) rfl)
    · obtain rfl : nx = pc + 2 := by omega
      rw [if_neg (by omega)] at hd
      rw [Nat.add_sub_cancel_left] at hd
      exact lv_iload hx hb hd hz2 (K H locs ad ls cells hH hL (wfS_push hw hwz) (fun _ _ => rfl) rfl)
  · cases hs
theorem snd_2 (hi : vok k (pc, (2, nx, a, bb, ix)) = true) (F : FX p l R s m args meth c b Lx xs cA D A k) (hH : HR b Lx xs cA D A s H locs ad h) (hL : LH b ad ls (mt k).2.1 L) (hw : wfS h.1.length L st) (hc1 : cells + h'.2.2 ≤ R.cells + h.2.2) (hc2 : cells + h'.2.2 ≤ R.slots + h.2.2)
    (hs : sx (2, nx, a, bb, ix) L st h = some (pc', L', st', h')) (K : KONT p l e R s m args below meth c Q b Lx xs cA D A k ad h cells pc' L' st' h') : W p l e R s m args below meth c H locs cells cells Q (F0 m pc ls (st.map (cV b ad))) := by
  unfold vok at hi
  simp only [Bool.and_eq_true, decide_eq_true_eq, Nat.blt_eq] at hi
  obtain ⟨⟨hlt, hd⟩, hv⟩ := hi
  obtain ⟨hx, hb, hml, hr, hown, hts, hlocks, hin, hexc, hK, hX, hbl, hbA, hA, hE, hRf, hRl, htr⟩ := F
  unfold iof at hd
  unfold sx at hs
  simp only [] at hd hs
  split at hs
  · rename_i z hz
    cases hs
    have hz2 := hL.2.2.2 a _ hz
    have hwz := hw.1 a _ hz
    rcases hv with ⟨h1, h4⟩ | h2
    · obtain rfl : nx = pc + 1 := by omega
      rw [if_pos h1] at hd
      rw [Nat.add_sub_cancel_left] at hd
      exact lv_dload_n hx hb hd (by show a % 4 = a; exact Nat.mod_eq_of_lt h4) hz2 (K H locs ad ls cells hH hL (wfS_push hw hwz) (fun _ _ => rfl) rfl)
    · obtain rfl : nx = pc + 2 := by omega
      rw [if_neg (by omega)] at hd
      rw [Nat.add_sub_cancel_left] at hd
      exact lv_dload hx hb hd hz2 (K H locs ad ls cells hH hL (wfS_push hw hwz) (fun _ _ => rfl) rfl)
  · cases hs
theorem snd_1 (hi : vok k (pc, (1, nx, a, bb, ix)) = true) (F : FX p l R s m args meth c b Lx xs cA D A k) (hH : HR b Lx xs cA D A s H locs ad h) (hL : LH b ad ls (mt k).2.1 L) (hw : wfS h.1.length L st) (hc1 : cells + h'.2.2 ≤ R.cells + h.2.2) (hc2 : cells + h'.2.2 ≤ R.slots + h.2.2)
    (hs : sx (1, nx, a, bb, ix) L st h = some (pc', L', st', h')) (K : KONT p l e R s m args below meth c Q b Lx xs cA D A k ad h cells pc' L' st' h') : W p l e R s m args below meth c H locs cells cells Q (F0 m pc ls (st.map (cV b ad))) := by
  unfold vok at hi
  simp only [Bool.and_eq_true, decide_eq_true_eq, Nat.blt_eq] at hi
  obtain ⟨⟨hlt, hd⟩, hv⟩ := hi
  obtain ⟨hx, hb, hml, hr, hown, hts, hlocks, hin, hexc, hK, hX, hbl, hbA, hA, hE, hRf, hRl, htr⟩ := F
  unfold iof at hd
  unfold sx at hs
  simp only [] at hd hs
  split at hs
  · rename_i z hz
    cases hs
    have hz2 := hL.2.2.2 a _ hz
    have hwz := hw.1 a _ hz
    rcases hv with ⟨h1, h4⟩ | h2
    · obtain rfl : nx = pc + 1 := by omega
      rw [if_pos h1] at hd
      rw [Nat.add_sub_cancel_left] at hd
      cases z with
      | none => exact lv_aload_n hx hb hd (by show a % 4 = a; exact Nat.mod_eq_of_lt h4) hz2 (K H locs ad ls cells hH hL (wfS_push hw hwz) (fun _ _ => rfl) rfl)
      | some z => exact lv_aload_n hx hb hd (by show a % 4 = a; exact Nat.mod_eq_of_lt h4) hz2 (K H locs ad ls cells hH hL (wfS_push hw hwz) (fun _ _ => rfl) rfl)
    · obtain rfl : nx = pc + 2 := by omega
      rw [if_neg (by omega)] at hd
      rw [Nat.add_sub_cancel_left] at hd
      cases z with
      | none => exact lv_aload hx hb hd  hz2 (K H locs ad ls cells hH hL (wfS_push hw hwz) (fun _ _ => rfl) rfl)
      | some z => exact lv_aload hx hb hd  hz2 (K H locs ad ls cells hH hL (wfS_push hw hwz) (fun _ _ => rfl) rfl)
  · cases hs
theorem snd_3 (hi : vok k (pc, (3, nx, a, bb, ix)) = true) (F : FX p l R s m args meth c b Lx xs cA D A k) (hH : HR b Lx xs cA D A s H locs ad h) (hL : LH b ad ls (mt k).2.1 L) (hw : wfS h.1.length L st) (hc1 : cells + h'.2.2 ≤ R.cells + h.2.2) (hc2 : cells + h'.2.2 ≤ R.slots + h.2.2)
    (hs : sx (3, nx, a, bb, ix) L st h = some (pc', L', st', h')) (K : KONT p l e R s m args below meth c Q b Lx xs cA D A k ad h cells pc' L' st' h') : W p l e R s m args below meth c H locs cells cells Q (F0 m pc ls (st.map (cV b ad))) := by
  unfold vok at hi
  simp only [Bool.and_eq_true, decide_eq_true_eq, Nat.blt_eq] at hi
  obtain ⟨⟨hlt, hd⟩, hv⟩ := hi
  obtain ⟨hx, hb, hml, hr, hown, hts, hlocks, hin, hexc, hK, hX, hbl, hbA, hA, hE, hRf, hRl, htr⟩ := F
  unfold iof at hd
  unfold sx at hs
  simp only [] at hd hs
  split at hs
  · rename_i z st
    split at hs
    · rename_i ha
      cases hs
      have hal : a < (mt k).2.1 := by rw [← hL.2.2.1]; omega
      rcases hv with ⟨h1, h4⟩ | h2
      · obtain rfl : nx = pc + 1 := by omega
        rw [if_pos h1] at hd
        rw [Nat.add_sub_cancel_left] at hd
        exact lv_istore_n hx hb hd (by show a % 4 = a; exact Nat.mod_eq_of_lt h4) (lvl_has hL) hal rfl (fun ls' hl' => K H locs ad ls' cells hH (LH_set hL ha.1 ha.2 _ (fun y hy => by cases hy; rfl) hl') (wfS_set (wfS_pop hw) _ (fun y hy => by cases hy; exact hw.2 _ List.mem_cons_self)) (fun _ _ => rfl) rfl)
      · obtain rfl : nx = pc + 2 := by omega
        rw [if_neg (by omega)] at hd
        rw [Nat.add_sub_cancel_left] at hd
        exact lv_istore hx hb hd (lvl_has hL) hal rfl (fun ls' hl' => K H locs ad ls' cells hH (LH_set hL ha.1 ha.2 _ (fun y hy => by cases hy; rfl) hl') (wfS_set (wfS_pop hw) _ (fun y hy => by cases hy; exact hw.2 _ List.mem_cons_self)) (fun _ _ => rfl) rfl)
    · cases hs
  · cases hs
theorem snd_4 (hi : vok k (pc, (4, nx, a, bb, ix)) = true) (F : FX p l R s m args meth c b Lx xs cA D A k) (hH : HR b Lx xs cA D A s H locs ad h) (hL : LH b ad ls (mt k).2.1 L) (hw : wfS h.1.length L st) (hc1 : cells + h'.2.2 ≤ R.cells + h.2.2) (hc2 : cells + h'.2.2 ≤ R.slots + h.2.2)
    (hs : sx (4, nx, a, bb, ix) L st h = some (pc', L', st', h')) (K : KONT p l e R s m args below meth c Q b Lx xs cA D A k ad h cells pc' L' st' h') : W p l e R s m args below meth c H locs cells cells Q (F0 m pc ls (st.map (cV b ad))) := by
  unfold vok at hi
  simp only [Bool.and_eq_true, decide_eq_true_eq, Nat.blt_eq] at hi
  obtain ⟨⟨hlt, hd⟩, hv⟩ := hi
  obtain ⟨hx, hb, hml, hr, hown, hts, hlocks, hin, hexc, hK, hX, hbl, hbA, hA, hE, hRf, hRl, htr⟩ := F
  unfold iof at hd
  unfold sx at hs
  simp only [] at hd hs
  split at hs
  · rename_i z st
    split at hs
    · rename_i ha
      cases hs
      have hal : a < (mt k).2.1 := by rw [← hL.2.2.1]; omega
      rcases hv with ⟨h1, h4⟩ | h2
      · obtain rfl : nx = pc + 1 := by omega
        rw [if_pos h1] at hd
        rw [Nat.add_sub_cancel_left] at hd
        cases z with
        | none => exact lv_astore_n hx hb hd (by show a % 4 = a; exact Nat.mod_eq_of_lt h4) (lvl_has hL) hal rfl (fun ls' hl' => K H locs ad ls' cells hH (LH_set hL ha.1 ha.2 _ (fun y hy => by cases hy; rfl) hl') (wfS_set (wfS_pop hw) _ (fun y hy => by cases hy; exact hw.2 _ List.mem_cons_self)) (fun _ _ => rfl) rfl)
        | some z => exact lv_astore_n hx hb hd (by show a % 4 = a; exact Nat.mod_eq_of_lt h4) (lvl_has hL) hal rfl (fun ls' hl' => K H locs ad ls' cells hH (LH_set hL ha.1 ha.2 _ (fun y hy => by cases hy; rfl) hl') (wfS_set (wfS_pop hw) _ (fun y hy => by cases hy; exact hw.2 _ List.mem_cons_self)) (fun _ _ => rfl) rfl)
      · obtain rfl : nx = pc + 2 := by omega
        rw [if_neg (by omega)] at hd
        rw [Nat.add_sub_cancel_left] at hd
        cases z with
        | none => exact lv_astore hx hb hd (lvl_has hL) hal rfl (fun ls' hl' => K H locs ad ls' cells hH (LH_set hL ha.1 ha.2 _ (fun y hy => by cases hy; rfl) hl') (wfS_set (wfS_pop hw) _ (fun y hy => by cases hy; exact hw.2 _ List.mem_cons_self)) (fun _ _ => rfl) rfl)
        | some z => exact lv_astore hx hb hd (lvl_has hL) hal rfl (fun ls' hl' => K H locs ad ls' cells hH (LH_set hL ha.1 ha.2 _ (fun y hy => by cases hy; rfl) hl') (wfS_set (wfS_pop hw) _ (fun y hy => by cases hy; exact hw.2 _ List.mem_cons_self)) (fun _ _ => rfl) rfl)
    · cases hs
  · cases hs
theorem snd_5 (hi : vok k (pc, (5, nx, a, bb, ix)) = true) (F : FX p l R s m args meth c b Lx xs cA D A k) (hH : HR b Lx xs cA D A s H locs ad h) (hL : LH b ad ls (mt k).2.1 L) (hw : wfS h.1.length L st) (hc1 : cells + h'.2.2 ≤ R.cells + h.2.2) (hc2 : cells + h'.2.2 ≤ R.slots + h.2.2)
    (hs : sx (5, nx, a, bb, ix) L st h = some (pc', L', st', h')) (K : KONT p l e R s m args below meth c Q b Lx xs cA D A k ad h cells pc' L' st' h') : W p l e R s m args below meth c H locs cells cells Q (F0 m pc ls (st.map (cV b ad))) := by
  unfold vok at hi
  simp only [Bool.and_eq_true, decide_eq_true_eq, Nat.blt_eq] at hi
  obtain ⟨⟨hlt, hd⟩, hv⟩ := hi
  obtain ⟨hx, hb, hml, hr, hown, hts, hlocks, hin, hexc, hK, hX, hbl, hbA, hA, hE, hRf, hRl, htr⟩ := F
  unfold iof at hd
  unfold sx at hs
  simp only [] at hd hs
  split at hs
  · rename_i z st
    split at hs
    · rename_i ha
      cases hs
      have hal : a + 1 < (mt k).2.1 := by rw [← hL.2.2.1]; omega
      rcases hv with ⟨h1, h4⟩ | h2
      · obtain rfl : nx = pc + 1 := by omega
        rw [if_pos h1] at hd
        rw [Nat.add_sub_cancel_left] at hd
        exact lv_dstore_n hx hb hd (by show a % 4 = a; exact Nat.mod_eq_of_lt h4) (lvl_has hL) hal rfl (fun ls' hl' => K H locs ad ls' cells hH (LH_set2 hL (by omega) ha.2 hl') (wfS_set (wfS_set (wfS_pop hw) _ (fun y hy => by cases hy; trivial)) _ (fun y hy => by cases hy)) (fun _ _ => rfl) rfl)
      · obtain rfl : nx = pc + 2 := by omega
        rw [if_neg (by omega)] at hd
        rw [Nat.add_sub_cancel_left] at hd
        exact lv_dstore hx hb hd (lvl_has hL) hal rfl (fun ls' hl' => K H locs ad ls' cells hH (LH_set2 hL (by omega) ha.2 hl') (wfS_set (wfS_set (wfS_pop hw) _ (fun y hy => by cases hy; trivial)) _ (fun y hy => by cases hy)) (fun _ _ => rfl) rfl)
    · cases hs
  · cases hs
theorem snd_6 (hi : vok k (pc, (6, nx, a, bb, ix)) = true) (F : FX p l R s m args meth c b Lx xs cA D A k) (hH : HR b Lx xs cA D A s H locs ad h) (hL : LH b ad ls (mt k).2.1 L) (hw : wfS h.1.length L st) (hc1 : cells + h'.2.2 ≤ R.cells + h.2.2) (hc2 : cells + h'.2.2 ≤ R.slots + h.2.2)
    (hs : sx (6, nx, a, bb, ix) L st h = some (pc', L', st', h')) (K : KONT p l e R s m args below meth c Q b Lx xs cA D A k ad h cells pc' L' st' h') : W p l e R s m args below meth c H locs cells cells Q (F0 m pc ls (st.map (cV b ad))) := by
  unfold vok at hi
  simp only [Bool.and_eq_true, decide_eq_true_eq, Nat.blt_eq] at hi
  obtain ⟨⟨hlt, hd⟩, hv⟩ := hi
  obtain ⟨hx, hb, hml, hr, hown, hts, hlocks, hin, hexc, hK, hX, hbl, hbA, hA, hE, hRf, hRl, htr⟩ := F
  unfold iof at hd
  unfold sx at hs
  simp only [] at hd hs
  cases hs
  have K2 := K H locs ad ls cells hH hL (wfS_push hw trivial) (fun _ _ => rfl) rfl
  rcases hv with h1 | ⟨h2, h3⟩ | ⟨h2, h3⟩
  · obtain rfl : nx = pc + 1 := by omega
    rw [if_pos h1] at hd
    rw [Nat.add_sub_cancel_left] at hd
    exact lv_iconst hx hb hd rfl K2
  · obtain rfl : nx = pc + 2 := by omega
    rw [if_neg (by omega), if_pos h2] at hd
    rw [Nat.add_sub_cancel_left] at hd
    exact lv_bipush hx hb hd h3 K2
  · obtain rfl : nx = pc + 3 := by omega
    rw [if_neg (by omega), if_neg (by omega)] at hd
    rw [Nat.add_sub_cancel_left] at hd
    exact lv_sipush hx hb hd h3 K2
theorem snd_7 (hi : vok k (pc, (7, nx, a, bb, ix)) = true) (F : FX p l R s m args meth c b Lx xs cA D A k) (hH : HR b Lx xs cA D A s H locs ad h) (hL : LH b ad ls (mt k).2.1 L) (hw : wfS h.1.length L st) (hc1 : cells + h'.2.2 ≤ R.cells + h.2.2) (hc2 : cells + h'.2.2 ≤ R.slots + h.2.2)
    (hs : sx (7, nx, a, bb, ix) L st h = some (pc', L', st', h')) (K : KONT p l e R s m args below meth c Q b Lx xs cA D A k ad h cells pc' L' st' h') : W p l e R s m args below meth c H locs cells cells Q (F0 m pc ls (st.map (cV b ad))) := by
  unfold vok at hi
  simp only [Bool.and_eq_true, decide_eq_true_eq, Nat.blt_eq] at hi
  obtain ⟨⟨hlt, hd⟩, hv⟩ := hi
  obtain ⟨hx, hb, hml, hr, hown, hts, hlocks, hin, hexc, hK, hX, hbl, hbA, hA, hE, hRf, hRl, htr⟩ := F
  unfold iof at hd
  unfold sx at hs
  simp only [] at hd hs
  cases hs
  have K2 := K H locs ad ls cells hH hL (wfS_push hw trivial) (fun _ _ => rfl) rfl
  obtain ⟨h1, h9, hv⟩ := hv
  obtain rfl : nx = pc + 2 := by omega
  rw [Nat.add_sub_cancel_left] at hd
  rw [h9] at hown
  rcases hv with ⟨rfl, rfl⟩ | ⟨rfl, rfl⟩ | ⟨rfl, rfl⟩
  · exact lv_ldc hx hb hown (hts _ (GW_at jj_m.2.1 rfl)) hd K2
  · exact lv_ldc hx hb hown (hts _ (GW_at jj_m.2.2.1 rfl)) hd K2
  · exact lv_ldc hx hb hown (hts _ (GW_at jj_m.2.2.2 rfl)) hd K2
theorem snd_8 (hi : vok k (pc, (8, nx, a, bb, ix)) = true) (F : FX p l R s m args meth c b Lx xs cA D A k) (hH : HR b Lx xs cA D A s H locs ad h) (hL : LH b ad ls (mt k).2.1 L) (hw : wfS h.1.length L st) (hc1 : cells + h'.2.2 ≤ R.cells + h.2.2) (hc2 : cells + h'.2.2 ≤ R.slots + h.2.2)
    (hs : sx (8, nx, a, bb, ix) L st h = some (pc', L', st', h')) (K : KONT p l e R s m args below meth c Q b Lx xs cA D A k ad h cells pc' L' st' h') : W p l e R s m args below meth c H locs cells cells Q (F0 m pc ls (st.map (cV b ad))) := by
  unfold vok at hi
  simp only [Bool.and_eq_true, decide_eq_true_eq, Nat.blt_eq] at hi
  obtain ⟨⟨hlt, hd⟩, hv⟩ := hi
  obtain ⟨hx, hb, hml, hr, hown, hts, hlocks, hin, hexc, hK, hX, hbl, hbA, hA, hE, hRf, hRl, htr⟩ := F
  unfold iof at hd
  unfold sx at hs
  simp only [] at hd hs
  obtain rfl : nx = pc + 1 := by omega
  rw [Nat.add_sub_cancel_left] at hd
  cases hs
  exact lv_dconst0 hx hb hd (K H locs ad ls cells hH hL (wfS_push hw trivial) (fun _ _ => rfl) rfl)
theorem snd_9 (hi : vok k (pc, (9, nx, a, bb, ix)) = true) (F : FX p l R s m args meth c b Lx xs cA D A k) (hH : HR b Lx xs cA D A s H locs ad h) (hL : LH b ad ls (mt k).2.1 L) (hw : wfS h.1.length L st) (hc1 : cells + h'.2.2 ≤ R.cells + h.2.2) (hc2 : cells + h'.2.2 ≤ R.slots + h.2.2)
    (hs : sx (9, nx, a, bb, ix) L st h = some (pc', L', st', h')) (K : KONT p l e R s m args below meth c Q b Lx xs cA D A k ad h cells pc' L' st' h') : W p l e R s m args below meth c H locs cells cells Q (F0 m pc ls (st.map (cV b ad))) := by
  unfold vok at hi
  simp only [Bool.and_eq_true, decide_eq_true_eq, Nat.blt_eq] at hi
  obtain ⟨⟨hlt, hd⟩, hv⟩ := hi
  obtain ⟨hx, hb, hml, hr, hown, hts, hlocks, hin, hexc, hK, hX, hbl, hbA, hA, hE, hRf, hRl, htr⟩ := F
  unfold iof at hd
  unfold sx at hs
  simp only [] at hd hs
  obtain rfl : nx = pc + 1 := by omega
  rw [Nat.add_sub_cancel_left] at hd
  split at hs
  · cases hs
    refine lv_iadd hx hb hd ?_
    rw [← Int32.ofInt_add]
    exact (K H locs ad ls cells hH hL (wfS_push (wfS_pop (wfS_pop hw)) trivial) (fun _ _ => rfl) rfl)
  · cases hs
theorem snd_10 (hi : vok k (pc, (10, nx, a, bb, ix)) = true) (F : FX p l R s m args meth c b Lx xs cA D A k) (hH : HR b Lx xs cA D A s H locs ad h) (hL : LH b ad ls (mt k).2.1 L) (hw : wfS h.1.length L st) (hc1 : cells + h'.2.2 ≤ R.cells + h.2.2) (hc2 : cells + h'.2.2 ≤ R.slots + h.2.2)
    (hs : sx (10, nx, a, bb, ix) L st h = some (pc', L', st', h')) (K : KONT p l e R s m args below meth c Q b Lx xs cA D A k ad h cells pc' L' st' h') : W p l e R s m args below meth c H locs cells cells Q (F0 m pc ls (st.map (cV b ad))) := by
  unfold vok at hi
  simp only [Bool.and_eq_true, decide_eq_true_eq, Nat.blt_eq] at hi
  obtain ⟨⟨hlt, hd⟩, hv⟩ := hi
  obtain ⟨hx, hb, hml, hr, hown, hts, hlocks, hin, hexc, hK, hX, hbl, hbA, hA, hE, hRf, hRl, htr⟩ := F
  unfold iof at hd
  unfold sx at hs
  simp only [] at hd hs
  obtain rfl : nx = pc + 1 := by omega
  rw [Nat.add_sub_cancel_left] at hd
  split at hs
  · cases hs
    refine lv_isub hx hb hd ?_
    rw [← Int32.ofInt_sub]
    exact (K H locs ad ls cells hH hL (wfS_push (wfS_pop (wfS_pop hw)) trivial) (fun _ _ => rfl) rfl)
  · cases hs
theorem snd_11 (hi : vok k (pc, (11, nx, a, bb, ix)) = true) (F : FX p l R s m args meth c b Lx xs cA D A k) (hH : HR b Lx xs cA D A s H locs ad h) (hL : LH b ad ls (mt k).2.1 L) (hw : wfS h.1.length L st) (hc1 : cells + h'.2.2 ≤ R.cells + h.2.2) (hc2 : cells + h'.2.2 ≤ R.slots + h.2.2)
    (hs : sx (11, nx, a, bb, ix) L st h = some (pc', L', st', h')) (K : KONT p l e R s m args below meth c Q b Lx xs cA D A k ad h cells pc' L' st' h') : W p l e R s m args below meth c H locs cells cells Q (F0 m pc ls (st.map (cV b ad))) := by
  unfold vok at hi
  simp only [Bool.and_eq_true, decide_eq_true_eq, Nat.blt_eq] at hi
  obtain ⟨⟨hlt, hd⟩, hv⟩ := hi
  obtain ⟨hx, hb, hml, hr, hown, hts, hlocks, hin, hexc, hK, hX, hbl, hbA, hA, hE, hRf, hRl, htr⟩ := F
  unfold iof at hd
  unfold sx at hs
  simp only [] at hd hs
  obtain rfl : nx = pc + 1 := by omega
  rw [Nat.add_sub_cancel_left] at hd
  split at hs
  · cases hs
    refine lv_imul hx hb hd ?_
    rw [← Int32.ofInt_mul]
    exact (K H locs ad ls cells hH hL (wfS_push (wfS_pop (wfS_pop hw)) trivial) (fun _ _ => rfl) rfl)
  · cases hs
theorem snd_12 (hi : vok k (pc, (12, nx, a, bb, ix)) = true) (F : FX p l R s m args meth c b Lx xs cA D A k) (hH : HR b Lx xs cA D A s H locs ad h) (hL : LH b ad ls (mt k).2.1 L) (hw : wfS h.1.length L st) (hc1 : cells + h'.2.2 ≤ R.cells + h.2.2) (hc2 : cells + h'.2.2 ≤ R.slots + h.2.2)
    (hs : sx (12, nx, a, bb, ix) L st h = some (pc', L', st', h')) (K : KONT p l e R s m args below meth c Q b Lx xs cA D A k ad h cells pc' L' st' h') : W p l e R s m args below meth c H locs cells cells Q (F0 m pc ls (st.map (cV b ad))) := by
  unfold vok at hi
  simp only [Bool.and_eq_true, decide_eq_true_eq, Nat.blt_eq] at hi
  obtain ⟨⟨hlt, hd⟩, hv⟩ := hi
  obtain ⟨hx, hb, hml, hr, hown, hts, hlocks, hin, hexc, hK, hX, hbl, hbA, hA, hE, hRf, hRl, htr⟩ := F
  unfold iof at hd
  unfold sx at hs
  simp only [] at hd hs
  obtain rfl : nx = pc + 1 := by omega
  rw [Nat.add_sub_cancel_left] at hd
  split at hs
  · split at hs
    · rename_i hc
      cases hs
      refine lv_idiv hx hb hd (i32_ne0 hc.2.1 hc.2.2) ?_
      rw [i32_div hc.1 hc.2.1 hc.2.2]
      exact (K H locs ad ls cells hH hL (wfS_push (wfS_pop (wfS_pop hw)) trivial) (fun _ _ => rfl) rfl)
    · cases hs
  · cases hs
theorem snd_13 (hi : vok k (pc, (13, nx, a, bb, ix)) = true) (F : FX p l R s m args meth c b Lx xs cA D A k) (hH : HR b Lx xs cA D A s H locs ad h) (hL : LH b ad ls (mt k).2.1 L) (hw : wfS h.1.length L st) (hc1 : cells + h'.2.2 ≤ R.cells + h.2.2) (hc2 : cells + h'.2.2 ≤ R.slots + h.2.2)
    (hs : sx (13, nx, a, bb, ix) L st h = some (pc', L', st', h')) (K : KONT p l e R s m args below meth c Q b Lx xs cA D A k ad h cells pc' L' st' h') : W p l e R s m args below meth c H locs cells cells Q (F0 m pc ls (st.map (cV b ad))) := by
  unfold vok at hi
  simp only [Bool.and_eq_true, decide_eq_true_eq, Nat.blt_eq] at hi
  obtain ⟨⟨hlt, hd⟩, hv⟩ := hi
  obtain ⟨hx, hb, hml, hr, hown, hts, hlocks, hin, hexc, hK, hX, hbl, hbA, hA, hE, hRf, hRl, htr⟩ := F
  unfold iof at hd
  unfold sx at hs
  simp only [] at hd hs
  obtain rfl : nx = pc + 1 := by omega
  rw [Nat.add_sub_cancel_left] at hd
  split at hs
  · split at hs
    · rename_i hc
      cases hs
      refine lv_irem hx hb hd (i32_ne0 hc.2.1 hc.2.2) ?_
      rw [i32_rem hc.1 hc.2.1 hc.2.2]
      exact (K H locs ad ls cells hH hL (wfS_push (wfS_pop (wfS_pop hw)) trivial) (fun _ _ => rfl) rfl)
    · cases hs
  · cases hs
theorem snd_14 (hi : vok k (pc, (14, nx, a, bb, ix)) = true) (F : FX p l R s m args meth c b Lx xs cA D A k) (hH : HR b Lx xs cA D A s H locs ad h) (hL : LH b ad ls (mt k).2.1 L) (hw : wfS h.1.length L st) (hc1 : cells + h'.2.2 ≤ R.cells + h.2.2) (hc2 : cells + h'.2.2 ≤ R.slots + h.2.2)
    (hs : sx (14, nx, a, bb, ix) L st h = some (pc', L', st', h')) (K : KONT p l e R s m args below meth c Q b Lx xs cA D A k ad h cells pc' L' st' h') : W p l e R s m args below meth c H locs cells cells Q (F0 m pc ls (st.map (cV b ad))) := by
  unfold vok at hi
  simp only [Bool.and_eq_true, decide_eq_true_eq, Nat.blt_eq] at hi
  obtain ⟨⟨hlt, hd⟩, hv⟩ := hi
  obtain ⟨hx, hb, hml, hr, hown, hts, hlocks, hin, hexc, hK, hX, hbl, hbA, hA, hE, hRf, hRl, htr⟩ := F
  unfold iof at hd
  unfold sx at hs
  simp only [] at hd hs
  obtain rfl : nx = pc + 1 := by omega
  rw [Nat.add_sub_cancel_left] at hd
  split at hs
  · cases hs
    refine lv_ineg hx hb hd ?_
    rw [← Int32.ofInt_neg]
    exact (K H locs ad ls cells hH hL (wfS_push (wfS_pop hw) trivial) (fun _ _ => rfl) rfl)
  · cases hs
theorem snd_15 (hi : vok k (pc, (15, nx, a, bb, ix)) = true) (F : FX p l R s m args meth c b Lx xs cA D A k) (hH : HR b Lx xs cA D A s H locs ad h) (hL : LH b ad ls (mt k).2.1 L) (hw : wfS h.1.length L st) (hc1 : cells + h'.2.2 ≤ R.cells + h.2.2) (hc2 : cells + h'.2.2 ≤ R.slots + h.2.2)
    (hs : sx (15, nx, a, bb, ix) L st h = some (pc', L', st', h')) (K : KONT p l e R s m args below meth c Q b Lx xs cA D A k ad h cells pc' L' st' h') : W p l e R s m args below meth c H locs cells cells Q (F0 m pc ls (st.map (cV b ad))) := by
  unfold vok at hi
  simp only [Bool.and_eq_true, decide_eq_true_eq, Nat.blt_eq] at hi
  obtain ⟨⟨hlt, hd⟩, hv⟩ := hi
  obtain ⟨hx, hb, hml, hr, hown, hts, hlocks, hin, hexc, hK, hX, hbl, hbA, hA, hE, hRf, hRl, htr⟩ := F
  unfold iof at hd
  unfold sx at hs
  simp only [] at hd hs
  obtain rfl : nx = pc + 1 := by omega
  rw [Nat.add_sub_cancel_left] at hd
  split at hs
  · cases hs
    refine lv_iand hx hb hd ?_
    have K2 := (K H locs ad ls cells hH hL (wfS_push (wfS_pop (wfS_pop hw)) trivial) (fun _ _ => rfl) rfl)
    simp only [List.map_cons, cV, iop, Int32.ofInt_toInt] at K2
    exact K2
  · cases hs
theorem snd_16 (hi : vok k (pc, (16, nx, a, bb, ix)) = true) (F : FX p l R s m args meth c b Lx xs cA D A k) (hH : HR b Lx xs cA D A s H locs ad h) (hL : LH b ad ls (mt k).2.1 L) (hw : wfS h.1.length L st) (hc1 : cells + h'.2.2 ≤ R.cells + h.2.2) (hc2 : cells + h'.2.2 ≤ R.slots + h.2.2)
    (hs : sx (16, nx, a, bb, ix) L st h = some (pc', L', st', h')) (K : KONT p l e R s m args below meth c Q b Lx xs cA D A k ad h cells pc' L' st' h') : W p l e R s m args below meth c H locs cells cells Q (F0 m pc ls (st.map (cV b ad))) := by
  unfold vok at hi
  simp only [Bool.and_eq_true, decide_eq_true_eq, Nat.blt_eq] at hi
  obtain ⟨⟨hlt, hd⟩, hv⟩ := hi
  obtain ⟨hx, hb, hml, hr, hown, hts, hlocks, hin, hexc, hK, hX, hbl, hbA, hA, hE, hRf, hRl, htr⟩ := F
  unfold iof at hd
  unfold sx at hs
  simp only [] at hd hs
  obtain rfl : nx = pc + 1 := by omega
  rw [Nat.add_sub_cancel_left] at hd
  split at hs
  · cases hs
    refine lv_ior hx hb hd ?_
    have K2 := (K H locs ad ls cells hH hL (wfS_push (wfS_pop (wfS_pop hw)) trivial) (fun _ _ => rfl) rfl)
    simp only [List.map_cons, cV, iop, Int32.ofInt_toInt] at K2
    exact K2
  · cases hs
theorem snd_17 (hi : vok k (pc, (17, nx, a, bb, ix)) = true) (F : FX p l R s m args meth c b Lx xs cA D A k) (hH : HR b Lx xs cA D A s H locs ad h) (hL : LH b ad ls (mt k).2.1 L) (hw : wfS h.1.length L st) (hc1 : cells + h'.2.2 ≤ R.cells + h.2.2) (hc2 : cells + h'.2.2 ≤ R.slots + h.2.2)
    (hs : sx (17, nx, a, bb, ix) L st h = some (pc', L', st', h')) (K : KONT p l e R s m args below meth c Q b Lx xs cA D A k ad h cells pc' L' st' h') : W p l e R s m args below meth c H locs cells cells Q (F0 m pc ls (st.map (cV b ad))) := by
  unfold vok at hi
  simp only [Bool.and_eq_true, decide_eq_true_eq, Nat.blt_eq] at hi
  obtain ⟨⟨hlt, hd⟩, hv⟩ := hi
  obtain ⟨hx, hb, hml, hr, hown, hts, hlocks, hin, hexc, hK, hX, hbl, hbA, hA, hE, hRf, hRl, htr⟩ := F
  unfold iof at hd
  unfold sx at hs
  simp only [] at hd hs
  obtain rfl : nx = pc + 1 := by omega
  rw [Nat.add_sub_cancel_left] at hd
  split at hs
  · cases hs
    refine lv_ishl hx hb hd ?_
    have K2 := (K H locs ad ls cells hH hL (wfS_push (wfS_pop (wfS_pop hw)) trivial) (fun _ _ => rfl) rfl)
    simp only [List.map_cons, cV, iop, Int32.ofInt_toInt] at K2
    exact K2
  · cases hs
theorem snd_18 (hi : vok k (pc, (18, nx, a, bb, ix)) = true) (F : FX p l R s m args meth c b Lx xs cA D A k) (hH : HR b Lx xs cA D A s H locs ad h) (hL : LH b ad ls (mt k).2.1 L) (hw : wfS h.1.length L st) (hc1 : cells + h'.2.2 ≤ R.cells + h.2.2) (hc2 : cells + h'.2.2 ≤ R.slots + h.2.2)
    (hs : sx (18, nx, a, bb, ix) L st h = some (pc', L', st', h')) (K : KONT p l e R s m args below meth c Q b Lx xs cA D A k ad h cells pc' L' st' h') : W p l e R s m args below meth c H locs cells cells Q (F0 m pc ls (st.map (cV b ad))) := by
  unfold vok at hi
  simp only [Bool.and_eq_true, decide_eq_true_eq, Nat.blt_eq] at hi
  obtain ⟨⟨hlt, hd⟩, hv⟩ := hi
  obtain ⟨hx, hb, hml, hr, hown, hts, hlocks, hin, hexc, hK, hX, hbl, hbA, hA, hE, hRf, hRl, htr⟩ := F
  unfold iof at hd
  unfold sx at hs
  simp only [] at hd hs
  obtain rfl : nx = pc + 1 := by omega
  rw [Nat.add_sub_cancel_left] at hd
  split at hs
  · cases hs
    refine lv_ishr hx hb hd ?_
    have K2 := (K H locs ad ls cells hH hL (wfS_push (wfS_pop (wfS_pop hw)) trivial) (fun _ _ => rfl) rfl)
    simp only [List.map_cons, cV, iop, Int32.ofInt_toInt] at K2
    exact K2
  · cases hs
theorem snd_19 (hi : vok k (pc, (19, nx, a, bb, ix)) = true) (F : FX p l R s m args meth c b Lx xs cA D A k) (hH : HR b Lx xs cA D A s H locs ad h) (hL : LH b ad ls (mt k).2.1 L) (hw : wfS h.1.length L st) (hc1 : cells + h'.2.2 ≤ R.cells + h.2.2) (hc2 : cells + h'.2.2 ≤ R.slots + h.2.2)
    (hs : sx (19, nx, a, bb, ix) L st h = some (pc', L', st', h')) (K : KONT p l e R s m args below meth c Q b Lx xs cA D A k ad h cells pc' L' st' h') : W p l e R s m args below meth c H locs cells cells Q (F0 m pc ls (st.map (cV b ad))) := by
  unfold vok at hi
  simp only [Bool.and_eq_true, decide_eq_true_eq, Nat.blt_eq] at hi
  obtain ⟨⟨hlt, hd⟩, hv⟩ := hi
  obtain ⟨hx, hb, hml, hr, hown, hts, hlocks, hin, hexc, hK, hX, hbl, hbA, hA, hE, hRf, hRl, htr⟩ := F
  unfold iof at hd
  unfold sx at hs
  simp only [] at hd hs
  obtain rfl : nx = pc + 3 := by omega
  rw [Nat.add_sub_cancel_left] at hd
  split at hs
  · rename_i z hz
    split at hs
    · rename_i ho
      cases hs
      have hal : a < L.length := (List.getElem?_eq_some_iff.mp hz).1
      have hme : (a, cV b ad (.inl z)) ∈ lvl b ad L := lvl_mem.mpr ⟨_, hz, rfl⟩
      obtain ⟨q, hq⟩ := List.getElem?_of_mem hme
      refine lv_iinc hx hb hd (lvl_has hL) hq rfl (by rw [← hL.2.2.1]; exact hal) rfl (fun ls' hl' => ?_)
      rw [← Int32.ofInt_add] at hl'
      exact K H locs ad ls' cells hH (LH_set hL hal ho _ (fun y hy => by cases hy; rfl) hl') (wfS_set hw _ (fun y hy => by cases hy; trivial)) (fun _ _ => rfl) rfl
    · cases hs
  · cases hs
theorem snd_20 (hi : vok k (pc, (20, nx, a, bb, ix)) = true) (F : FX p l R s m args meth c b Lx xs cA D A k) (hH : HR b Lx xs cA D A s H locs ad h) (hL : LH b ad ls (mt k).2.1 L) (hw : wfS h.1.length L st) (hc1 : cells + h'.2.2 ≤ R.cells + h.2.2) (hc2 : cells + h'.2.2 ≤ R.slots + h.2.2)
    (hs : sx (20, nx, a, bb, ix) L st h = some (pc', L', st', h')) (K : KONT p l e R s m args below meth c Q b Lx xs cA D A k ad h cells pc' L' st' h') : W p l e R s m args below meth c H locs cells cells Q (F0 m pc ls (st.map (cV b ad))) := by
  unfold vok at hi
  simp only [Bool.and_eq_true, decide_eq_true_eq, Nat.blt_eq] at hi
  obtain ⟨⟨hlt, hd⟩, hv⟩ := hi
  obtain ⟨hx, hb, hml, hr, hown, hts, hlocks, hin, hexc, hK, hX, hbl, hbA, hA, hE, hRf, hRl, htr⟩ := F
  unfold iof at hd
  unfold sx at hs
  simp only [] at hd hs
  obtain rfl : nx = pc + 1 := by omega
  rw [Nat.add_sub_cancel_left] at hd
  split at hs
  · split at hs
    · rename_i hc
      cases hs
      exact lv_i2l hx hb hd (Int32.toInt64_ofInt (by show -2147483648 ≤ _; omega) (by show _ ≤ 2147483647; omega)) (K H locs ad ls cells hH hL (wfS_push (wfS_pop hw) trivial) (fun _ _ => rfl) rfl)
    · cases hs
  · cases hs
theorem snd_21 (hi : vok k (pc, (21, nx, a, bb, ix)) = true) (F : FX p l R s m args meth c b Lx xs cA D A k) (hH : HR b Lx xs cA D A s H locs ad h) (hL : LH b ad ls (mt k).2.1 L) (hw : wfS h.1.length L st) (hc1 : cells + h'.2.2 ≤ R.cells + h.2.2) (hc2 : cells + h'.2.2 ≤ R.slots + h.2.2)
    (hs : sx (21, nx, a, bb, ix) L st h = some (pc', L', st', h')) (K : KONT p l e R s m args below meth c Q b Lx xs cA D A k ad h cells pc' L' st' h') : W p l e R s m args below meth c H locs cells cells Q (F0 m pc ls (st.map (cV b ad))) := by
  unfold vok at hi
  simp only [Bool.and_eq_true, decide_eq_true_eq, Nat.blt_eq] at hi
  obtain ⟨⟨hlt, hd⟩, hv⟩ := hi
  obtain ⟨hx, hb, hml, hr, hown, hts, hlocks, hin, hexc, hK, hX, hbl, hbA, hA, hE, hRf, hRl, htr⟩ := F
  unfold iof at hd
  unfold sx at hs
  simp only [] at hd hs
  obtain rfl : nx = pc + 1 := by omega
  rw [Nat.add_sub_cancel_left] at hd
  split at hs
  · cases hs
    exact lv_i2d hx hb hd (K H locs ad ls cells hH hL (wfS_push (wfS_pop hw) trivial) (fun _ _ => rfl) rfl)
  · cases hs
theorem snd_22 (hi : vok k (pc, (22, nx, a, bb, ix)) = true) (F : FX p l R s m args meth c b Lx xs cA D A k) (hH : HR b Lx xs cA D A s H locs ad h) (hL : LH b ad ls (mt k).2.1 L) (hw : wfS h.1.length L st) (hc1 : cells + h'.2.2 ≤ R.cells + h.2.2) (hc2 : cells + h'.2.2 ≤ R.slots + h.2.2)
    (hs : sx (22, nx, a, bb, ix) L st h = some (pc', L', st', h')) (K : KONT p l e R s m args below meth c Q b Lx xs cA D A k ad h cells pc' L' st' h') : W p l e R s m args below meth c H locs cells cells Q (F0 m pc ls (st.map (cV b ad))) := by
  unfold vok at hi
  simp only [Bool.and_eq_true, decide_eq_true_eq, Nat.blt_eq] at hi
  obtain ⟨⟨hlt, hd⟩, hv⟩ := hi
  obtain ⟨hx, hb, hml, hr, hown, hts, hlocks, hin, hexc, hK, hX, hbl, hbA, hA, hE, hRf, hRl, htr⟩ := F
  unfold iof at hd
  unfold sx at hs
  simp only [] at hd hs
  obtain rfl : nx = pc + 1 := by omega
  rw [Nat.add_sub_cancel_left] at hd
  split at hs
  · split at hs
    · rename_i hc
      cases hs
      refine W.lcmp hx hb hd ?_
      rw [i32_cmp hc.1 hc.2]
      exact (K H locs ad ls cells hH hL (wfS_push (wfS_pop (wfS_pop hw)) trivial) (fun _ _ => rfl) rfl)
    · cases hs
  · cases hs
theorem snd_23 (hi : vok k (pc, (23, nx, a, bb, ix)) = true) (F : FX p l R s m args meth c b Lx xs cA D A k) (hH : HR b Lx xs cA D A s H locs ad h) (hL : LH b ad ls (mt k).2.1 L) (hw : wfS h.1.length L st) (hc1 : cells + h'.2.2 ≤ R.cells + h.2.2) (hc2 : cells + h'.2.2 ≤ R.slots + h.2.2)
    (hs : sx (23, nx, a, bb, ix) L st h = some (pc', L', st', h')) (K : KONT p l e R s m args below meth c Q b Lx xs cA D A k ad h cells pc' L' st' h') : W p l e R s m args below meth c H locs cells cells Q (F0 m pc ls (st.map (cV b ad))) := by
  unfold vok at hi
  simp only [Bool.and_eq_true, decide_eq_true_eq, Nat.blt_eq] at hi
  obtain ⟨⟨hlt, hd⟩, hv⟩ := hi
  obtain ⟨hx, hb, hml, hr, hown, hts, hlocks, hin, hexc, hK, hX, hbl, hbA, hA, hE, hRf, hRl, htr⟩ := F
  unfold iof at hd
  unfold sx at hs
  simp only [] at hd hs
  obtain rfl : nx = pc + 1 := by omega
  rw [Nat.add_sub_cancel_left] at hd
  split at hs
  · cases hs
    refine lv_dcmp hx hb hd ?_
    have K2 := (K H locs ad ls cells hH hL (wfS_push (wfS_pop (wfS_pop hw)) trivial) (fun _ _ => rfl) rfl)
    simp only [List.map_cons, cV, Int32.ofInt_toInt] at K2
    exact K2
  · cases hs
theorem snd_24 (hi : vok k (pc, (24, nx, a, bb, ix)) = true) (F : FX p l R s m args meth c b Lx xs cA D A k) (hH : HR b Lx xs cA D A s H locs ad h) (hL : LH b ad ls (mt k).2.1 L) (hw : wfS h.1.length L st) (hc1 : cells + h'.2.2 ≤ R.cells + h.2.2) (hc2 : cells + h'.2.2 ≤ R.slots + h.2.2)
    (hs : sx (24, nx, a, bb, ix) L st h = some (pc', L', st', h')) (K : KONT p l e R s m args below meth c Q b Lx xs cA D A k ad h cells pc' L' st' h') : W p l e R s m args below meth c H locs cells cells Q (F0 m pc ls (st.map (cV b ad))) := by
  unfold vok at hi
  simp only [Bool.and_eq_true, decide_eq_true_eq, Nat.blt_eq] at hi
  obtain ⟨⟨hlt, hd⟩, hv⟩ := hi
  obtain ⟨hx, hb, hml, hr, hown, hts, hlocks, hin, hexc, hK, hX, hbl, hbA, hA, hE, hRf, hRl, htr⟩ := F
  unfold iof at hd
  unfold sx at hs
  simp only [] at hd hs
  obtain rfl : nx = pc + 1 := by omega
  rw [Nat.add_sub_cancel_left] at hd
  split at hs
  · split at hs
    · rename_i hc
      cases hs
      refine lv_ddiv hx hb hd ?_ (K H locs ad ls cells hH hL (wfS_push (wfS_pop (wfS_pop hw)) trivial) (fun _ _ => rfl) rfl)
      unfold vf_n64
      unfold isNaN64 at hc
      simpa using hc
    · cases hs
  · cases hs
theorem snd_25 (hi : vok k (pc, (25, nx, a, bb, ix)) = true) (F : FX p l R s m args meth c b Lx xs cA D A k) (hH : HR b Lx xs cA D A s H locs ad h) (hL : LH b ad ls (mt k).2.1 L) (hw : wfS h.1.length L st) (hc1 : cells + h'.2.2 ≤ R.cells + h.2.2) (hc2 : cells + h'.2.2 ≤ R.slots + h.2.2)
    (hs : sx (25, nx, a, bb, ix) L st h = some (pc', L', st', h')) (K : KONT p l e R s m args below meth c Q b Lx xs cA D A k ad h cells pc' L' st' h') : W p l e R s m args below meth c H locs cells cells Q (F0 m pc ls (st.map (cV b ad))) := by
  unfold vok at hi
  simp only [Bool.and_eq_true, decide_eq_true_eq, Nat.blt_eq] at hi
  obtain ⟨⟨hlt, hd⟩, hv⟩ := hi
  obtain ⟨hx, hb, hml, hr, hown, hts, hlocks, hin, hexc, hK, hX, hbl, hbA, hA, hE, hRf, hRl, htr⟩ := F
  unfold iof at hd
  unfold sx at hs
  simp only [] at hd hs
  obtain rfl : nx = pc + 1 := by omega
  rw [Nat.add_sub_cancel_left] at hd
  split at hs
  · cases hs
    exact lv_dup hx hb hd rfl (K H locs ad ls cells hH hL (wfS_push hw trivial) (fun _ _ => rfl) rfl)
  · rename_i q st
    cases hs
    have hq : wfV h.1.length (.inr (.inr (.inr q))) := hw.2 _ List.mem_cons_self
    rcases q with _ | _ | q
    · exact lv_dup hx hb hd rfl (K H locs ad ls cells hH hL (wfS_push hw hq) (fun _ _ => rfl) rfl)
    · exact lv_dup hx hb hd rfl (K H locs ad ls cells hH hL (wfS_push hw hq) (fun _ _ => rfl) rfl)
    · exact lv_dup hx hb hd rfl (K H locs ad ls cells hH hL (wfS_push hw hq) (fun _ _ => rfl) rfl)
  · cases hs
theorem snd_26 (hi : vok k (pc, (26, nx, a, bb, ix)) = true) (F : FX p l R s m args meth c b Lx xs cA D A k) (hH : HR b Lx xs cA D A s H locs ad h) (hL : LH b ad ls (mt k).2.1 L) (hw : wfS h.1.length L st) (hc1 : cells + h'.2.2 ≤ R.cells + h.2.2) (hc2 : cells + h'.2.2 ≤ R.slots + h.2.2)
    (hs : sx (26, nx, a, bb, ix) L st h = some (pc', L', st', h')) (K : KONT p l e R s m args below meth c Q b Lx xs cA D A k ad h cells pc' L' st' h') : W p l e R s m args below meth c H locs cells cells Q (F0 m pc ls (st.map (cV b ad))) := by
  unfold vok at hi
  simp only [Bool.and_eq_true, decide_eq_true_eq, Nat.blt_eq] at hi
  obtain ⟨⟨hlt, hd⟩, hv⟩ := hi
  obtain ⟨hx, hb, hml, hr, hown, hts, hlocks, hin, hexc, hK, hX, hbl, hbA, hA, hE, hRf, hRl, htr⟩ := F
  unfold iof at hd
  unfold sx at hs
  simp only [] at hd hs
  obtain rfl : nx = pc + 1 := by omega
  rw [Nat.add_sub_cancel_left] at hd
  split at hs
  · rename_i z q st
    cases hs
    have hq : wfV h.1.length (.inr (.inr (.inr q))) := hw.2 _ (List.mem_cons_of_mem _ List.mem_cons_self)
    rcases q with _ | _ | q
    · exact lv_dup2_11 hx hb hd rfl rfl (K H locs ad ls cells hH hL (wfS_push (wfS_push hw hq) trivial) (fun _ _ => rfl) rfl)
    · exact lv_dup2_11 hx hb hd rfl rfl (K H locs ad ls cells hH hL (wfS_push (wfS_push hw hq) trivial) (fun _ _ => rfl) rfl)
    · exact lv_dup2_11 hx hb hd rfl rfl (K H locs ad ls cells hH hL (wfS_push (wfS_push hw hq) trivial) (fun _ _ => rfl) rfl)
  · cases hs
theorem snd_27 (hi : vok k (pc, (27, nx, a, bb, ix)) = true) (F : FX p l R s m args meth c b Lx xs cA D A k) (hH : HR b Lx xs cA D A s H locs ad h) (hL : LH b ad ls (mt k).2.1 L) (hw : wfS h.1.length L st) (hc1 : cells + h'.2.2 ≤ R.cells + h.2.2) (hc2 : cells + h'.2.2 ≤ R.slots + h.2.2)
    (hs : sx (27, nx, a, bb, ix) L st h = some (pc', L', st', h')) (K : KONT p l e R s m args below meth c Q b Lx xs cA D A k ad h cells pc' L' st' h') : W p l e R s m args below meth c H locs cells cells Q (F0 m pc ls (st.map (cV b ad))) := by
  unfold vok at hi
  simp only [Bool.and_eq_true, decide_eq_true_eq, Nat.blt_eq] at hi
  obtain ⟨⟨hlt, hd⟩, hv⟩ := hi
  obtain ⟨hx, hb, hml, hr, hown, hts, hlocks, hin, hexc, hK, hX, hbl, hbA, hA, hE, hRf, hRl, htr⟩ := F
  unfold iof at hd
  unfold sx at hs
  simp only [] at hd hs
  obtain rfl : nx = pc + 1 := by omega
  rw [Nat.add_sub_cancel_left] at hd
  split at hs
  · cases hs
    exact lv_pop hx hb hd rfl (K H locs ad ls cells hH hL (wfS_pop hw) (fun _ _ => rfl) rfl)
  · cases hs
theorem snd_28 (hi : vok k (pc, (28, nx, a, bb, ix)) = true) (F : FX p l R s m args meth c b Lx xs cA D A k) (hH : HR b Lx xs cA D A s H locs ad h) (hL : LH b ad ls (mt k).2.1 L) (hw : wfS h.1.length L st) (hc1 : cells + h'.2.2 ≤ R.cells + h.2.2) (hc2 : cells + h'.2.2 ≤ R.slots + h.2.2)
    (hs : sx (28, nx, a, bb, ix) L st h = some (pc', L', st', h')) (K : KONT p l e R s m args below meth c Q b Lx xs cA D A k ad h cells pc' L' st' h') : W p l e R s m args below meth c H locs cells cells Q (F0 m pc ls (st.map (cV b ad))) := by
  unfold vok at hi
  simp only [Bool.and_eq_true, decide_eq_true_eq, Nat.blt_eq] at hi
  obtain ⟨⟨hlt, hd⟩, hv⟩ := hi
  obtain ⟨hx, hb, hml, hr, hown, hts, hlocks, hin, hexc, hK, hX, hbl, hbA, hA, hE, hRf, hRl, htr⟩ := F
  unfold iof at hd
  unfold sx at hs
  simp only [] at hd hs
  obtain rfl : nx = pc + 3 := by omega
  rw [Nat.add_sub_cancel_left] at hd
  cases hs
  exact lv_goto hx hb hd (by omega) (K H locs ad ls cells hH hL hw (fun _ _ => rfl) rfl)
theorem snd_29 (hi : vok k (pc, (29, nx, a, bb, ix)) = true) (F : FX p l R s m args meth c b Lx xs cA D A k) (hH : HR b Lx xs cA D A s H locs ad h) (hL : LH b ad ls (mt k).2.1 L) (hw : wfS h.1.length L st) (hc1 : cells + h'.2.2 ≤ R.cells + h.2.2) (hc2 : cells + h'.2.2 ≤ R.slots + h.2.2)
    (hs : sx (29, nx, a, bb, ix) L st h = some (pc', L', st', h')) (K : KONT p l e R s m args below meth c Q b Lx xs cA D A k ad h cells pc' L' st' h') : W p l e R s m args below meth c H locs cells cells Q (F0 m pc ls (st.map (cV b ad))) := by
  unfold vok at hi
  simp only [Bool.and_eq_true, decide_eq_true_eq, Nat.blt_eq] at hi
  obtain ⟨⟨hlt, hd⟩, hv⟩ := hi
  obtain ⟨hx, hb, hml, hr, hown, hts, hlocks, hin, hexc, hK, hX, hbl, hbA, hA, hE, hRf, hRl, htr⟩ := F
  unfold iof at hd
  unfold sx at hs
  simp only [] at hd hs
  obtain rfl : nx = pc + 3 := by omega
  rw [Nat.add_sub_cancel_left] at hd
  split at hs
  · rename_i x st
    split at hs
    · rename_i hc
      cases hs
      have K2 := K H locs ad ls cells hH hL (wfS_pop hw) (fun _ _ => rfl) rfl
      unfold cnd at K2
      split at hd
      · simp only [] at K2
        refine lv_if_eq (tgt := a) hx hb hd (by omega) (fun q => ?_) (fun q => ?_)
        · have hz : x = (0:Int) := (i32_eq (y := 0) hc ⟨by decide, by decide⟩).mp q
          simp only [hz, decide_true, decide_false, Bool.not_true, Bool.not_false, if_true, if_false, Bool.false_eq_true, reduceIte] at K2
          exact K2
        · have hz : ¬ (x = (0:Int)) := fun z => q ((i32_eq (y := 0) hc ⟨by decide, by decide⟩).mpr z)
          simp only [hz, decide_true, decide_false, Bool.not_true, Bool.not_false, if_true, if_false, Bool.false_eq_true, reduceIte] at K2
          exact K2
      · simp only [] at K2
        refine lv_if_ne (tgt := a) hx hb hd (by omega) (fun q => ?_) (fun q => ?_)
        · have hz : ¬ (x = (0:Int)) := fun z => q ((i32_eq (y := 0) hc ⟨by decide, by decide⟩).mpr z)
          simp only [hz, decide_true, decide_false, Bool.not_true, Bool.not_false, if_true, if_false, Bool.false_eq_true, reduceIte] at K2
          exact K2
        · have hz : x = (0:Int) := (i32_eq (y := 0) hc ⟨by decide, by decide⟩).mp q
          simp only [hz, decide_true, decide_false, Bool.not_true, Bool.not_false, if_true, if_false, Bool.false_eq_true, reduceIte] at K2
          exact K2
      · simp only [] at K2
        refine lv_if_lt (tgt := a) hx hb hd (by omega) (fun q => ?_) (fun q => ?_)
        · have hz : x < (0:Int) := (i32_lt (y := 0) hc ⟨by decide, by decide⟩).mp q
          simp only [hz, decide_true, decide_false, Bool.not_true, Bool.not_false, if_true, if_false, Bool.false_eq_true, reduceIte] at K2
          exact K2
        · have hz : ¬ (x < (0:Int)) := fun z => q ((i32_lt (y := 0) hc ⟨by decide, by decide⟩).mpr z)
          simp only [hz, decide_true, decide_false, Bool.not_true, Bool.not_false, if_true, if_false, Bool.false_eq_true, reduceIte] at K2
          exact K2
      · simp only [] at K2
        refine lv_if_ge (tgt := a) hx hb hd (by omega) (fun q => ?_) (fun q => ?_)
        · have hz : ¬ (x < (0:Int)) := Int.not_lt.mpr ((i32_le (x := 0) ⟨by decide, by decide⟩ hc).mp q)
          simp only [hz, decide_true, decide_false, Bool.not_true, Bool.not_false, if_true, if_false, Bool.false_eq_true, reduceIte] at K2
          exact K2
        · have hz : x < (0:Int) := Int.not_le.mp (fun z => q ((i32_le (x := 0) ⟨by decide, by decide⟩ hc).mpr z))
          simp only [hz, decide_true, decide_false, Bool.not_true, Bool.not_false, if_true, if_false, Bool.false_eq_true, reduceIte] at K2
          exact K2
      · simp only [] at K2
        refine lv_if_gt (tgt := a) hx hb hd (by omega) (fun q => ?_) (fun q => ?_)
        · have hz : (0:Int) < x := (i32_lt (x := 0) ⟨by decide, by decide⟩ hc).mp q
          simp only [hz, decide_true, decide_false, Bool.not_true, Bool.not_false, if_true, if_false, Bool.false_eq_true, reduceIte] at K2
          exact K2
        · have hz : ¬ ((0:Int) < x) := fun z => q ((i32_lt (x := 0) ⟨by decide, by decide⟩ hc).mpr z)
          simp only [hz, decide_true, decide_false, Bool.not_true, Bool.not_false, if_true, if_false, Bool.false_eq_true, reduceIte] at K2
          exact K2
      · simp only [] at K2
        refine lv_if_le (tgt := a) hx hb hd (by omega) (fun q => ?_) (fun q => ?_)
        · have hz : ¬ ((0:Int) < x) := Int.not_lt.mpr ((i32_le (y := 0) hc ⟨by decide, by decide⟩).mp q)
          simp only [hz, decide_true, decide_false, Bool.not_true, Bool.not_false, if_true, if_false, Bool.false_eq_true, reduceIte] at K2
          exact K2
        · have hz : (0:Int) < x := Int.not_le.mp (fun z => q ((i32_le (y := 0) hc ⟨by decide, by decide⟩).mpr z))
          simp only [hz, decide_true, decide_false, Bool.not_true, Bool.not_false, if_true, if_false, Bool.false_eq_true, reduceIte] at K2
          exact K2
    · cases hs
  · cases hs
theorem snd_30 (hi : vok k (pc, (30, nx, a, bb, ix)) = true) (F : FX p l R s m args meth c b Lx xs cA D A k) (hH : HR b Lx xs cA D A s H locs ad h) (hL : LH b ad ls (mt k).2.1 L) (hw : wfS h.1.length L st) (hc1 : cells + h'.2.2 ≤ R.cells + h.2.2) (hc2 : cells + h'.2.2 ≤ R.slots + h.2.2)
    (hs : sx (30, nx, a, bb, ix) L st h = some (pc', L', st', h')) (K : KONT p l e R s m args below meth c Q b Lx xs cA D A k ad h cells pc' L' st' h') : W p l e R s m args below meth c H locs cells cells Q (F0 m pc ls (st.map (cV b ad))) := by
  unfold vok at hi
  simp only [Bool.and_eq_true, decide_eq_true_eq, Nat.blt_eq] at hi
  obtain ⟨⟨hlt, hd⟩, hv⟩ := hi
  obtain ⟨hx, hb, hml, hr, hown, hts, hlocks, hin, hexc, hK, hX, hbl, hbA, hA, hE, hRf, hRl, htr⟩ := F
  unfold iof at hd
  unfold sx at hs
  simp only [] at hd hs
  obtain rfl : nx = pc + 3 := by omega
  rw [Nat.add_sub_cancel_left] at hd
  split at hs
  · rename_i y x st
    split at hs
    · rename_i hc
      cases hs
      have K2 := K H locs ad ls cells hH hL (wfS_pop (wfS_pop hw)) (fun _ _ => rfl) rfl
      unfold cnd at K2
      split at hd
      · simp only [] at K2
        refine lv_icmp_eq (tgt := a) hx hb hd (by omega) (fun q => ?_) (fun q => ?_)
        · have hz : x = y := (i32_eq (y := y) hc.1 hc.2).mp q
          simp only [hz, decide_true, decide_false, Bool.not_true, Bool.not_false, if_true, if_false, Bool.false_eq_true, reduceIte] at K2
          exact K2
        · have hz : ¬ (x = y) := fun z => q ((i32_eq (y := y) hc.1 hc.2).mpr z)
          simp only [hz, decide_true, decide_false, Bool.not_true, Bool.not_false, if_true, if_false, Bool.false_eq_true, reduceIte] at K2
          exact K2
      · simp only [] at K2
        refine lv_icmp_ne (tgt := a) hx hb hd (by omega) (fun q => ?_) (fun q => ?_)
        · have hz : ¬ (x = y) := fun z => q ((i32_eq (y := y) hc.1 hc.2).mpr z)
          simp only [hz, decide_true, decide_false, Bool.not_true, Bool.not_false, if_true, if_false, Bool.false_eq_true, reduceIte] at K2
          exact K2
        · have hz : x = y := (i32_eq (y := y) hc.1 hc.2).mp q
          simp only [hz, decide_true, decide_false, Bool.not_true, Bool.not_false, if_true, if_false, Bool.false_eq_true, reduceIte] at K2
          exact K2
      · simp only [] at K2
        refine lv_icmp_lt (tgt := a) hx hb hd (by omega) (fun q => ?_) (fun q => ?_)
        · have hz : x < y := (i32_lt (y := y) hc.1 hc.2).mp q
          simp only [hz, decide_true, decide_false, Bool.not_true, Bool.not_false, if_true, if_false, Bool.false_eq_true, reduceIte] at K2
          exact K2
        · have hz : ¬ (x < y) := fun z => q ((i32_lt (y := y) hc.1 hc.2).mpr z)
          simp only [hz, decide_true, decide_false, Bool.not_true, Bool.not_false, if_true, if_false, Bool.false_eq_true, reduceIte] at K2
          exact K2
      · simp only [] at K2
        refine lv_icmp_ge (tgt := a) hx hb hd (by omega) (fun q => ?_) (fun q => ?_)
        · have hz : ¬ (x < y) := Int.not_lt.mpr ((i32_le (x := y) hc.2 hc.1).mp q)
          simp only [hz, decide_true, decide_false, Bool.not_true, Bool.not_false, if_true, if_false, Bool.false_eq_true, reduceIte] at K2
          exact K2
        · have hz : x < y := Int.not_le.mp (fun z => q ((i32_le (x := y) hc.2 hc.1).mpr z))
          simp only [hz, decide_true, decide_false, Bool.not_true, Bool.not_false, if_true, if_false, Bool.false_eq_true, reduceIte] at K2
          exact K2
      · simp only [] at K2
        refine lv_icmp_gt (tgt := a) hx hb hd (by omega) (fun q => ?_) (fun q => ?_)
        · have hz : y < x := (i32_lt (x := y) hc.2 hc.1).mp q
          simp only [hz, decide_true, decide_false, Bool.not_true, Bool.not_false, if_true, if_false, Bool.false_eq_true, reduceIte] at K2
          exact K2
        · have hz : ¬ (y < x) := fun z => q ((i32_lt (x := y) hc.2 hc.1).mpr z)
          simp only [hz, decide_true, decide_false, Bool.not_true, Bool.not_false, if_true, if_false, Bool.false_eq_true, reduceIte] at K2
          exact K2
      · simp only [] at K2
        refine lv_icmp_le (tgt := a) hx hb hd (by omega) (fun q => ?_) (fun q => ?_)
        · have hz : ¬ (y < x) := Int.not_lt.mpr ((i32_le (y := y) hc.1 hc.2).mp q)
          simp only [hz, decide_true, decide_false, Bool.not_true, Bool.not_false, if_true, if_false, Bool.false_eq_true, reduceIte] at K2
          exact K2
        · have hz : y < x := Int.not_le.mp (fun z => q ((i32_le (y := y) hc.1 hc.2).mpr z))
          simp only [hz, decide_true, decide_false, Bool.not_true, Bool.not_false, if_true, if_false, Bool.false_eq_true, reduceIte] at K2
          exact K2
    · cases hs
  · cases hs
theorem snd_31 (hi : vok k (pc, (31, nx, a, bb, ix)) = true) (F : FX p l R s m args meth c b Lx xs cA D A k) (hH : HR b Lx xs cA D A s H locs ad h) (hL : LH b ad ls (mt k).2.1 L) (hw : wfS h.1.length L st) (hc1 : cells + h'.2.2 ≤ R.cells + h.2.2) (hc2 : cells + h'.2.2 ≤ R.slots + h.2.2)
    (hs : sx (31, nx, a, bb, ix) L st h = some (pc', L', st', h')) (K : KONT p l e R s m args below meth c Q b Lx xs cA D A k ad h cells pc' L' st' h') : W p l e R s m args below meth c H locs cells cells Q (F0 m pc ls (st.map (cV b ad))) := by
  unfold vok at hi
  simp only [Bool.and_eq_true, decide_eq_true_eq, Nat.blt_eq] at hi
  obtain ⟨⟨hlt, hd⟩, hv⟩ := hi
  obtain ⟨hx, hb, hml, hr, hown, hts, hlocks, hin, hexc, hK, hX, hbl, hbA, hA, hE, hRf, hRl, htr⟩ := F
  unfold iof at hd
  unfold sx at hs
  simp only [] at hd hs
  obtain ⟨h3, hf⟩ := hv
  obtain rfl : nx = pc + 3 := by omega
  rw [Nat.add_sub_cancel_left] at hd
  obtain ⟨f1, f2, f3⟩ := FL_of hf
  split at hs
  · rename_i r st
    split at hs
    · rename_i v hg
      cases hs
      unfold gf at hg
      split at hg
      · rename_i ci fs hr0
        split at hg
        · rename_i hci
          subst hci
          have hwv : wfV h.1.length v := (hH.2.2.2.1 _ (List.mem_of_getElem? hr0)) v (List.mem_of_getElem? hg)
          exact va_get (D := D) hx hb hts (GWi _ f2) hown hK hH.1 r (cW_get hr0) (cl_at f2) a f3 (hts _ f1) (fun _ z => z) (v := cV b ad v) (by rw [List.getElem?_map, hg]; rfl) hd (K H locs ad ls cells hH hL (wfS_push (wfS_pop hw) hwv) (fun _ _ => rfl) rfl)
        · cases hg
      · cases hg
    · cases hs
  · cases hs
theorem snd_32 (hi : vok k (pc, (32, nx, a, bb, ix)) = true) (F : FX p l R s m args meth c b Lx xs cA D A k) (hH : HR b Lx xs cA D A s H locs ad h) (hL : LH b ad ls (mt k).2.1 L) (hw : wfS h.1.length L st) (hc1 : cells + h'.2.2 ≤ R.cells + h.2.2) (hc2 : cells + h'.2.2 ≤ R.slots + h.2.2)
    (hs : sx (32, nx, a, bb, ix) L st h = some (pc', L', st', h')) (K : KONT p l e R s m args below meth c Q b Lx xs cA D A k ad h cells pc' L' st' h') : W p l e R s m args below meth c H locs cells cells Q (F0 m pc ls (st.map (cV b ad))) := by
  unfold vok at hi
  simp only [Bool.and_eq_true, decide_eq_true_eq, Nat.blt_eq] at hi
  obtain ⟨⟨hlt, hd⟩, hv⟩ := hi
  obtain ⟨hx, hb, hml, hr, hown, hts, hlocks, hin, hexc, hK, hX, hbl, hbA, hA, hE, hRf, hRl, htr⟩ := F
  unfold iof at hd
  unfold sx at hs
  simp only [] at hd hs
  obtain ⟨h3, hf, hty⟩ := hv
  obtain rfl : nx = pc + 3 := by omega
  rw [Nat.add_sub_cancel_left] at hd
  obtain ⟨f1, f2, f3⟩ := FL_of hf
  split at hs
  · rename_i z r st
    split at hs
    · rename_i h2 hg
      cases hs
      unfold sf at hg
      split at hg
      · rename_i ci fs hr0
        split at hg
        · rename_i hci
          obtain ⟨hci, hjl⟩ := hci
          subst hci
          cases hg
          have hH2 := hH.2.2.2.1 _ (List.mem_of_getElem? hr0)
          have hst2 : ∀ x ∈ h.1.set r (.inl (bb.toNat, fs.set a (.inl z))), wfC (h.1.set r (.inl (bb.toNat, fs.set a (.inl z)))).length x := by
            intro x hx9
            rw [List.length_set]
            rcases List.mem_or_eq_of_mem_set hx9 with q | q
            · exact hH.2.2.2.1 x q
            · rw [q]
              intro v hv9
              rcases List.mem_or_eq_of_mem_set hv9 with q | q
              · exact hH2 v q
              · rw [q]; exact hw.2 _ List.mem_cons_self
          refine va_put (D := D) hx hb hts (GWi _ f2) (tyN _) (ty_ok f2) (nm_ok f2) hown hK hH.1 hH.2.1 hH.2.2.1 r (cW_get hr0) (cl_at f2) a f3 (hts _ f1) (fun _ z => z) (by rw [hty]) (ty := .int) (v := .int (Int32.ofInt z)) (by rw [hty]; rfl) rfl rfl (by rw [List.length_map]; exact hjl) hd (fun H1 locs1 hP1 hD1 hS1 => ?_)
          refine K H1 locs1 ad ls cells ⟨?_, ?_, hS1, hst2, hH.2.2.2.2⟩ hL (by rw [show (h.1.set r (.inl (bb.toNat, fs.set a (.inl z))), h.2).1.length = h.1.length from List.length_set]; exact wfS_pop (wfS_pop hw)) (fun _ _ => rfl) rfl
          · rw [cW_set]; simp only [cC, List.map_set]; exact hP1
          · rw [cW_set]; simp only [cC, List.map_set]; exact hD1
        · cases hg
      · cases hg
    · cases hs
  · cases hs
theorem snd_33 (hi : vok k (pc, (33, nx, a, bb, ix)) = true) (F : FX p l R s m args meth c b Lx xs cA D A k) (hH : HR b Lx xs cA D A s H locs ad h) (hL : LH b ad ls (mt k).2.1 L) (hw : wfS h.1.length L st) (hc1 : cells + h'.2.2 ≤ R.cells + h.2.2) (hc2 : cells + h'.2.2 ≤ R.slots + h.2.2)
    (hs : sx (33, nx, a, bb, ix) L st h = some (pc', L', st', h')) (K : KONT p l e R s m args below meth c Q b Lx xs cA D A k ad h cells pc' L' st' h') : W p l e R s m args below meth c H locs cells cells Q (F0 m pc ls (st.map (cV b ad))) := by
  unfold vok at hi
  simp only [Bool.and_eq_true, decide_eq_true_eq, Nat.blt_eq] at hi
  obtain ⟨⟨hlt, hd⟩, hv⟩ := hi
  obtain ⟨hx, hb, hml, hr, hown, hts, hlocks, hin, hexc, hK, hX, hbl, hbA, hA, hE, hRf, hRl, htr⟩ := F
  unfold iof at hd
  unfold sx at hs
  simp only [] at hd hs
  obtain ⟨h3, hf, hty⟩ := hv
  obtain rfl : nx = pc + 3 := by omega
  rw [Nat.add_sub_cancel_left] at hd
  obtain ⟨f1, f2, f3⟩ := FL_of hf
  split at hs
  · rename_i z r st
    split at hs
    · rename_i hz01
      split at hs
      · rename_i h2 hg
        cases hs
        unfold sf at hg
        split at hg
        · rename_i ci fs hr0
          split at hg
          · rename_i hci
            obtain ⟨hci, hjl⟩ := hci
            subst hci
            cases hg
            have hH2 := hH.2.2.2.1 _ (List.mem_of_getElem? hr0)
            have hst2 : ∀ x ∈ h.1.set r (.inl (bb.toNat, fs.set a (.inl z))), wfC (h.1.set r (.inl (bb.toNat, fs.set a (.inl z)))).length x := by
              intro x hx9
              rw [List.length_set]
              rcases List.mem_or_eq_of_mem_set hx9 with q | q
              · exact hH.2.2.2.1 x q
              · rw [q]
                intro v hv9
                rcases List.mem_or_eq_of_mem_set hv9 with q | q
                · exact hH2 v q
                · rw [q]; exact hw.2 _ List.mem_cons_self
            refine va_put (D := D) hx hb hts (GWi _ f2) (tyN _) (ty_ok f2) (nm_ok f2) hown hK hH.1 hH.2.1 hH.2.2.1 r (cW_get hr0) (cl_at f2) a f3 (hts _ f1) (fun _ z => z) (by rw [hty]) (ty := .boolean) (v := .int (Int32.ofInt z)) (by rw [hty]; rfl) (by rcases hz01 with rfl | rfl <;> rfl) (by rcases hz01 with rfl | rfl <;> rfl) (by rw [List.length_map]; exact hjl) hd (fun H1 locs1 hP1 hD1 hS1 => ?_)
            refine K H1 locs1 ad ls cells ⟨?_, ?_, hS1, hst2, hH.2.2.2.2⟩ hL (by rw [show (h.1.set r (.inl (bb.toNat, fs.set a (.inl z))), h.2).1.length = h.1.length from List.length_set]; exact wfS_pop (wfS_pop hw)) (fun _ _ => rfl) rfl
            · rw [cW_set]; simp only [cC, List.map_set]; exact hP1
            · rw [cW_set]; simp only [cC, List.map_set]; exact hD1
          · cases hg
        · cases hg
      · cases hs
    · cases hs
  · cases hs
theorem snd_34 (hi : vok k (pc, (34, nx, a, bb, ix)) = true) (F : FX p l R s m args meth c b Lx xs cA D A k) (hH : HR b Lx xs cA D A s H locs ad h) (hL : LH b ad ls (mt k).2.1 L) (hw : wfS h.1.length L st) (hc1 : cells + h'.2.2 ≤ R.cells + h.2.2) (hc2 : cells + h'.2.2 ≤ R.slots + h.2.2)
    (hs : sx (34, nx, a, bb, ix) L st h = some (pc', L', st', h')) (K : KONT p l e R s m args below meth c Q b Lx xs cA D A k ad h cells pc' L' st' h') : W p l e R s m args below meth c H locs cells cells Q (F0 m pc ls (st.map (cV b ad))) := by
  unfold vok at hi
  simp only [Bool.and_eq_true, decide_eq_true_eq, Nat.blt_eq] at hi
  obtain ⟨⟨hlt, hd⟩, hv⟩ := hi
  obtain ⟨hx, hb, hml, hr, hown, hts, hlocks, hin, hexc, hK, hX, hbl, hbA, hA, hE, hRf, hRl, htr⟩ := F
  unfold iof at hd
  unfold sx at hs
  simp only [] at hd hs
  obtain ⟨h3, hf, hty, hini, hdc⟩ := hv
  obtain rfl : nx = pc + 3 := by omega
  rw [Nat.add_sub_cancel_left] at hd
  obtain ⟨f1, f2, f3⟩ := FL_of hf
  split at hs
  · rename_i z r st
    split at hs
    · rename_i h2 hg
      cases hs
      unfold sf at hg
      split at hg
      · rename_i ci fs hr0
        split at hg
        · rename_i hci
          obtain ⟨hci, hjl⟩ := hci
          subst hci
          cases hg
          have hH2 := hH.2.2.2.1 _ (List.mem_of_getElem? hr0)
          have hst2 : ∀ x ∈ h.1.set r (.inl (bb.toNat, fs.set a (.inl z))), wfC (h.1.set r (.inl (bb.toNat, fs.set a (.inl z)))).length x := by
            intro x hx9
            rw [List.length_set]
            rcases List.mem_or_eq_of_mem_set hx9 with q | q
            · exact hH.2.2.2.1 x q
            · rw [q]
              intro v hv9
              rcases List.mem_or_eq_of_mem_set hv9 with q | q
              · exact hH2 v q
              · rw [q]; exact hw.2 _ List.mem_cons_self
          refine va_putF (D := D) hx hb hts (GWi _ f2) (tyN _) (ty_ok f2) (nm_ok f2) hown hK hH.1 hH.2.1 hH.2.2.1 r (cW_get hr0) (cl_at f2) a f3 (hts _ f1) (fun _ z => z) (by rw [hty]) (hin hini) hdc (ty := .int) (v := .int (Int32.ofInt z)) (by rw [hty]; rfl) rfl rfl (by rw [List.length_map]; exact hjl) hd (fun H1 locs1 hP1 hD1 hS1 => ?_)
          refine K H1 locs1 ad ls cells ⟨?_, ?_, hS1, hst2, hH.2.2.2.2⟩ hL (by rw [show (h.1.set r (.inl (bb.toNat, fs.set a (.inl z))), h.2).1.length = h.1.length from List.length_set]; exact wfS_pop (wfS_pop hw)) (fun _ _ => rfl) rfl
          · rw [cW_set]; simp only [cC, List.map_set]; exact hP1
          · rw [cW_set]; simp only [cC, List.map_set]; exact hD1
        · cases hg
      · cases hg
    · cases hs
  · cases hs
theorem snd_35 (hi : vok k (pc, (35, nx, a, bb, ix)) = true) (F : FX p l R s m args meth c b Lx xs cA D A k) (hH : HR b Lx xs cA D A s H locs ad h) (hL : LH b ad ls (mt k).2.1 L) (hw : wfS h.1.length L st) (hc1 : cells + h'.2.2 ≤ R.cells + h.2.2) (hc2 : cells + h'.2.2 ≤ R.slots + h.2.2)
    (hs : sx (35, nx, a, bb, ix) L st h = some (pc', L', st', h')) (K : KONT p l e R s m args below meth c Q b Lx xs cA D A k ad h cells pc' L' st' h') : W p l e R s m args below meth c H locs cells cells Q (F0 m pc ls (st.map (cV b ad))) := by
  unfold vok at hi
  simp only [Bool.and_eq_true, decide_eq_true_eq, Nat.blt_eq] at hi
  obtain ⟨⟨hlt, hd⟩, hv⟩ := hi
  obtain ⟨hx, hb, hml, hr, hown, hts, hlocks, hin, hexc, hK, hX, hbl, hbA, hA, hE, hRf, hRl, htr⟩ := F
  unfold iof at hd
  unfold sx at hs
  simp only [] at hd hs
  obtain ⟨h3, hf, hfin, hini, hdc, hty⟩ := hv
  obtain rfl : nx = pc + 3 := by omega
  rw [Nat.add_sub_cancel_left] at hd
  obtain ⟨f1, f2, f3⟩ := FL_of hf
  split at hs
  · rename_i z r st
    split at hs
    · rename_i h2 hg
      cases hs
      unfold sf at hg
      split at hg
      · rename_i ci fs hr0
        split at hg
        · rename_i hci
          obtain ⟨hci, hjl⟩ := hci
          subst hci
          cases hg
          have hH2 := hH.2.2.2.1 _ (List.mem_of_getElem? hr0)
          have hst2 : ∀ x ∈ h.1.set r (.inl (bb.toNat, fs.set a (.inr (.inr (.inr (some (some z))))))), wfC (h.1.set r (.inl (bb.toNat, fs.set a (.inr (.inr (.inr (some (some z)))))))).length x := by
            intro x hx9
            rw [List.length_set]
            rcases List.mem_or_eq_of_mem_set hx9 with q | q
            · exact hH.2.2.2.1 x q
            · rw [q]
              intro v hv9
              rcases List.mem_or_eq_of_mem_set hv9 with q | q
              · exact hH2 v q
              · rw [q]; exact hw.2 _ List.mem_cons_self
          refine va_putF (D := D) hx hb hts (GWi _ f2) (tyN _) (ty_ok f2) (nm_ok f2) hown hK hH.1 hH.2.1 hH.2.2.1 r (cW_get hr0) (cl_at f2) a f3 (hts _ f1) (fun _ z => z) hfin (hin hini) hdc (ty := tyN _ a) (v := .ref (ad z)) (ty_ok f2 a f3) (by revert hty; cases tyN bb.toNat a <;> intro hty <;> first | rfl | cases hty) (by revert hty; cases tyN bb.toNat a <;> intro hty <;> first | rfl | cases hty) (by rw [List.length_map]; exact hjl) hd (fun H1 locs1 hP1 hD1 hS1 => ?_)
          refine K H1 locs1 ad ls cells ⟨?_, ?_, hS1, hst2, hH.2.2.2.2⟩ hL (by rw [show (h.1.set r (.inl (bb.toNat, fs.set a (.inr (.inr (.inr (some (some z))))))), h.2).1.length = h.1.length from List.length_set]; exact wfS_pop (wfS_pop hw)) (fun _ _ => rfl) rfl
          · rw [cW_set]; simp only [cC, List.map_set]; exact hP1
          · rw [cW_set]; simp only [cC, List.map_set]; exact hD1
        · cases hg
      · cases hg
    · cases hs
  · cases hs
theorem snd_36 (hi : vok k (pc, (36, nx, a, bb, ix)) = true) (F : FX p l R s m args meth c b Lx xs cA D A k) (hH : HR b Lx xs cA D A s H locs ad h) (hL : LH b ad ls (mt k).2.1 L) (hw : wfS h.1.length L st) (hc1 : cells + h'.2.2 ≤ R.cells + h.2.2) (hc2 : cells + h'.2.2 ≤ R.slots + h.2.2)
    (hs : sx (36, nx, a, bb, ix) L st h = some (pc', L', st', h')) (K : KONT p l e R s m args below meth c Q b Lx xs cA D A k ad h cells pc' L' st' h') : W p l e R s m args below meth c H locs cells cells Q (F0 m pc ls (st.map (cV b ad))) := by
  unfold vok at hi
  simp only [Bool.and_eq_true, decide_eq_true_eq, Nat.blt_eq] at hi
  obtain ⟨⟨hlt, hd⟩, hv⟩ := hi
  obtain ⟨hx, hb, hml, hr, hown, hts, hlocks, hin, hexc, hK, hX, hbl, hbA, hA, hE, hRf, hRl, htr⟩ := F
  unfold iof at hd
  unfold sx at hs
  simp only [] at hd hs
  obtain rfl : nx = pc + 1 := by omega
  rw [Nat.add_sub_cancel_left] at hd
  split at hs
  · rename_i r st
    split at hs
    · rename_i l hg
      cases hs
      unfold ga at hg
      split at hg
      · rename_i ci l0 hr0
        split at hg
        · rename_i hci
          subst hci
          cases hg
          exact va_alen hx hb hK hH.1 r 0 (cW_get hr0) rfl (v := Int32.ofInt (l.length : Int)) Int32.ofInt_eq_ofNat.symm hd (K H locs ad ls cells hH hL (wfS_push (wfS_pop hw) trivial) (fun _ _ => rfl) rfl)
        · cases hg
      · cases hg
    · cases hs
  · cases hs
    refine va_slen hx hb hX hbl hbA hH.2.2.1 hd ?_
    have K2 := K H locs ad ls cells hH hL (wfS_push (wfS_pop hw) trivial) (fun _ _ => rfl) rfl
    rw [hH.2.2.2.2.1] at K2
    simp only [List.map_cons, cV, Int32.ofInt_eq_ofNat] at K2
    exact K2
  · cases hs
theorem snd_37 (hi : vok k (pc, (37, nx, a, bb, ix)) = true) (F : FX p l R s m args meth c b Lx xs cA D A k) (hH : HR b Lx xs cA D A s H locs ad h) (hL : LH b ad ls (mt k).2.1 L) (hw : wfS h.1.length L st) (hc1 : cells + h'.2.2 ≤ R.cells + h.2.2) (hc2 : cells + h'.2.2 ≤ R.slots + h.2.2)
    (hs : sx (37, nx, a, bb, ix) L st h = some (pc', L', st', h')) (K : KONT p l e R s m args below meth c Q b Lx xs cA D A k ad h cells pc' L' st' h') : W p l e R s m args below meth c H locs cells cells Q (F0 m pc ls (st.map (cV b ad))) := by
  unfold vok at hi
  simp only [Bool.and_eq_true, decide_eq_true_eq, Nat.blt_eq] at hi
  obtain ⟨⟨hlt, hd⟩, hv⟩ := hi
  obtain ⟨hx, hb, hml, hr, hown, hts, hlocks, hin, hexc, hK, hX, hbl, hbA, hA, hE, hRf, hRl, htr⟩ := F
  unfold iof at hd
  unfold sx at hs
  simp only [] at hd hs
  obtain rfl : nx = pc + 1 := by omega
  rw [Nat.add_sub_cancel_left] at hd
  split at hs
  · rename_i i r st
    split at hs
    · rename_i l hg
      split at hs
      · rename_i hc
        cases hs
        unfold ga at hg
        split at hg
        · rename_i ci l0 hr0
          split at hg
          · rename_i hci
            subst hci
            cases hg
            refine va_iald hx hb hK hH.1 r 0 (cW_get hr0) rfl (i32_in hc.1 hc.2.1 hc.2.2) hd ?_
            have K2 := (K H locs ad ls cells hH hL (wfS_push (wfS_pop (wfS_pop hw)) trivial) (fun _ _ => rfl) rfl)
            rw [i32_cl hc.2.2]
            exact K2
          · cases hg
        · cases hg
      · cases hs
    · cases hs
  · rename_i i st
    split at hs
    · rename_i hc
      cases hs
      refine va_sld hx hb hX hbl hbA hH.2.2.1 (i := Int32.ofInt i) (by rw [← hH.2.2.2.2.1]; exact i32_in hc.1 hc.2.1 hc.2.2) hd ?_
      have K2 := (K H locs ad ls cells hH hL (wfS_push (wfS_pop (wfS_pop hw)) trivial) (fun _ _ => rfl) rfl)
      simp only [List.map_cons, cV] at K2
      rw [hH.2.2.2.2.2 i.toNat (by rw [← hH.2.2.2.2.1]; omega)] at K2
      rw [i32_cl hc.2.2]
      exact K2
    · cases hs
  · cases hs
theorem snd_38 (hi : vok k (pc, (38, nx, a, bb, ix)) = true) (F : FX p l R s m args meth c b Lx xs cA D A k) (hH : HR b Lx xs cA D A s H locs ad h) (hL : LH b ad ls (mt k).2.1 L) (hw : wfS h.1.length L st) (hc1 : cells + h'.2.2 ≤ R.cells + h.2.2) (hc2 : cells + h'.2.2 ≤ R.slots + h.2.2)
    (hs : sx (38, nx, a, bb, ix) L st h = some (pc', L', st', h')) (K : KONT p l e R s m args below meth c Q b Lx xs cA D A k ad h cells pc' L' st' h') : W p l e R s m args below meth c H locs cells cells Q (F0 m pc ls (st.map (cV b ad))) := by
  unfold vok at hi
  simp only [Bool.and_eq_true, decide_eq_true_eq, Nat.blt_eq] at hi
  obtain ⟨⟨hlt, hd⟩, hv⟩ := hi
  obtain ⟨hx, hb, hml, hr, hown, hts, hlocks, hin, hexc, hK, hX, hbl, hbA, hA, hE, hRf, hRl, htr⟩ := F
  unfold iof at hd
  unfold sx at hs
  simp only [] at hd hs
  cases hv
theorem snd_39 (hi : vok k (pc, (39, nx, a, bb, ix)) = true) (F : FX p l R s m args meth c b Lx xs cA D A k) (hH : HR b Lx xs cA D A s H locs ad h) (hL : LH b ad ls (mt k).2.1 L) (hw : wfS h.1.length L st) (hc1 : cells + h'.2.2 ≤ R.cells + h.2.2) (hc2 : cells + h'.2.2 ≤ R.slots + h.2.2)
    (hs : sx (39, nx, a, bb, ix) L st h = some (pc', L', st', h')) (K : KONT p l e R s m args below meth c Q b Lx xs cA D A k ad h cells pc' L' st' h') : W p l e R s m args below meth c H locs cells cells Q (F0 m pc ls (st.map (cV b ad))) := by
  unfold vok at hi
  simp only [Bool.and_eq_true, decide_eq_true_eq, Nat.blt_eq] at hi
  obtain ⟨⟨hlt, hd⟩, hv⟩ := hi
  obtain ⟨hx, hb, hml, hr, hown, hts, hlocks, hin, hexc, hK, hX, hbl, hbA, hA, hE, hRf, hRl, htr⟩ := F
  unfold iof at hd
  unfold sx at hs
  simp only [] at hd hs
  cases hv
theorem snd_40 (hi : vok k (pc, (40, nx, a, bb, ix)) = true) (F : FX p l R s m args meth c b Lx xs cA D A k) (hH : HR b Lx xs cA D A s H locs ad h) (hL : LH b ad ls (mt k).2.1 L) (hw : wfS h.1.length L st) (hc1 : cells + h'.2.2 ≤ R.cells + h.2.2) (hc2 : cells + h'.2.2 ≤ R.slots + h.2.2)
    (hs : sx (40, nx, a, bb, ix) L st h = some (pc', L', st', h')) (K : KONT p l e R s m args below meth c Q b Lx xs cA D A k ad h cells pc' L' st' h') : W p l e R s m args below meth c H locs cells cells Q (F0 m pc ls (st.map (cV b ad))) := by
  unfold vok at hi
  simp only [Bool.and_eq_true, decide_eq_true_eq, Nat.blt_eq] at hi
  obtain ⟨⟨hlt, hd⟩, hv⟩ := hi
  obtain ⟨hx, hb, hml, hr, hown, hts, hlocks, hin, hexc, hK, hX, hbl, hbA, hA, hE, hRf, hRl, htr⟩ := F
  unfold iof at hd
  unfold sx at hs
  simp only [] at hd hs
  obtain rfl : nx = pc + 1 := by omega
  rw [Nat.add_sub_cancel_left] at hd
  split at hs
  · rename_i x i r st
    split at hs
    · rename_i l hg
      split at hs
      · rename_i hc
        cases hs
        unfold ga at hg
        split at hg
        · rename_i ci l0 hr0
          split at hg
          · rename_i hci
            subst hci
            cases hg
            have hil : i.toNat < l.length := by omega
            have hst2 : ∀ x9 ∈ h.1.set r (.inr (0, l.set i.toNat x)), wfC (h.1.set r (.inr (0, l.set i.toNat x))).length x9 := by
              intro x9 hx9
              rw [List.length_set]
              rcases List.mem_or_eq_of_mem_set hx9 with q | q
              · exact hH.2.2.2.1 x9 q
              · rw [q]; trivial
            refine va_iast hx hb hK hH.1 hH.2.1 hH.2.2.1 r 0 (cW_get hr0) rfl (i32_in hc.1 hc.2.1 (by first | exact hc.2.2 | exact hc.2.2.1)) hd (fun H1 locs1 hP1 hD1 hS1 => ?_)
            rw [i32_cl (by first | exact hc.2.2 | exact hc.2.2.1)] at hP1 hD1
            have e9 : cC b ad cA (.inr (0, l.set i.toNat x)) = (.inl (cA 0, l.length, .inl (upd (fun j => Int32.ofInt (l.getD j 0)) i.toNat (Int32.ofInt x)))) := by
              have e7 : (fun j => Int32.ofInt ((l.set i.toNat x).getD j 0)) = (upd (fun j => Int32.ofInt (l.getD j 0)) i.toNat (Int32.ofInt x)) := by
                funext j
                simp only [upd, List.getD_eq_getElem?_getD, List.getElem?_set]
                by_cases hj : i.toNat = j
                · subst hj; simp [hil]
                · rw [if_neg hj, if_neg (fun q => hj q.symm)]
              show Sum.inl (cA 0, (l.set i.toNat x).length, _) = _
              rw [List.length_set, ← e7]
              rfl
            refine K H1 locs1 ad ls cells ⟨?_, ?_, hS1, hst2, hH.2.2.2.2⟩ hL (by rw [show (sa h r 0 (l.set i.toNat x)).1.length = h.1.length from List.length_set]; exact wfS_pop (wfS_pop (wfS_pop hw))) (fun _ _ => rfl) rfl
            · unfold sa; rw [cW_set, e9]; exact hP1
            · unfold sa; rw [cW_set, e9]; exact hD1
          · cases hg
        · cases hg
      · cases hs
    · cases hs
  · cases hs
theorem snd_41 (hi : vok k (pc, (41, nx, a, bb, ix)) = true) (F : FX p l R s m args meth c b Lx xs cA D A k) (hH : HR b Lx xs cA D A s H locs ad h) (hL : LH b ad ls (mt k).2.1 L) (hw : wfS h.1.length L st) (hc1 : cells + h'.2.2 ≤ R.cells + h.2.2) (hc2 : cells + h'.2.2 ≤ R.slots + h.2.2)
    (hs : sx (41, nx, a, bb, ix) L st h = some (pc', L', st', h')) (K : KONT p l e R s m args below meth c Q b Lx xs cA D A k ad h cells pc' L' st' h') : W p l e R s m args below meth c H locs cells cells Q (F0 m pc ls (st.map (cV b ad))) := by
  unfold vok at hi
  simp only [Bool.and_eq_true, decide_eq_true_eq, Nat.blt_eq] at hi
  obtain ⟨⟨hlt, hd⟩, hv⟩ := hi
  obtain ⟨hx, hb, hml, hr, hown, hts, hlocks, hin, hexc, hK, hX, hbl, hbA, hA, hE, hRf, hRl, htr⟩ := F
  unfold iof at hd
  unfold sx at hs
  simp only [] at hd hs
  cases hv
theorem snd_42 (hi : vok k (pc, (42, nx, a, bb, ix)) = true) (F : FX p l R s m args meth c b Lx xs cA D A k) (hH : HR b Lx xs cA D A s H locs ad h) (hL : LH b ad ls (mt k).2.1 L) (hw : wfS h.1.length L st) (hc1 : cells + h'.2.2 ≤ R.cells + h.2.2) (hc2 : cells + h'.2.2 ≤ R.slots + h.2.2)
    (hs : sx (42, nx, a, bb, ix) L st h = some (pc', L', st', h')) (K : KONT p l e R s m args below meth c Q b Lx xs cA D A k ad h cells pc' L' st' h') : W p l e R s m args below meth c H locs cells cells Q (F0 m pc ls (st.map (cV b ad))) := by
  unfold vok at hi
  simp only [Bool.and_eq_true, decide_eq_true_eq, Nat.blt_eq] at hi
  obtain ⟨⟨hlt, hd⟩, hv⟩ := hi
  obtain ⟨hx, hb, hml, hr, hown, hts, hlocks, hin, hexc, hK, hX, hbl, hbA, hA, hE, hRf, hRl, htr⟩ := F
  unfold iof at hd
  unfold sx at hs
  simp only [] at hd hs
  cases hv
theorem cA_uq {t : Nat} {c9 : ClassId} {ty : FieldType} (hK : va_K D vwCl (tyA cA) s) (hK2 : va_K D vwCl (tyA cA ++ [(c9, ty)]) s) (ht : (tyA cA)[t]? = some (cA t, ty)) (hty : ∀ C, ty ≠ .object C) : c9 = cA t := by
  have h1 := (hK.2 t _ ht).2
  have h2 := (hK2.2 1 (c9, ty) rfl).2
  unfold va_RA at h1 h2
  cases ty with
  | object C => exact absurd rfl (hty C)
  | _ => exact Option.some.inj (h2.symm.trans h1)
/-- behind the making of a cell -/
theorem HR_push {q : Nat} {x : AC} {H1 : Heap} {u : Nat} (hH : HR b Lx xs cA D A s H locs ad h) (hx : wfC (h.1.length + 1) x) (hP1 : va_P D vwCl (cW b ad cA h.1 ++ [(q, cC b (fun y => if y = h.1.length then q else ad y) cA x)]) H1) (hD1 : va_D A (cW b ad cA h.1 ++ [(q, cC b (fun y => if y = h.1.length then q else ad y) cA x)])) (hS1 : va_S A s.heap H1 locs) :
    HR b Lx xs cA D A s H1 locs (fun y => if y = h.1.length then q else ad y) (h.1 ++ [x], h.2.1, u) := by
  have e1 : cW b (fun y => if y = h.1.length then q else ad y) cA (h.1 ++ [x]) = cW b ad cA h.1 ++ [(q, cC b (fun y => if y = h.1.length then q else ad y) cA x)] := by
    rw [cW_push, cW_ad (ad := ad) (fun y hy => if_neg (Nat.ne_of_lt hy)) hH.2.2.2.1, if_pos rfl]
  refine ⟨by rw [e1]; exact hP1, by rw [e1]; exact hD1, hS1, fun y hy => ?_, hH.2.2.2.2⟩
  rw [List.length_append]
  rcases List.mem_append.mp hy with hy | hy
  · exact wfC_mono (by simp) (hH.2.2.2.1 y hy)
  · rw [List.mem_singleton.mp hy]; exact hx
theorem cat_le : ∀ (st : List AV), ((st.map (cV b ad)).map fun v => v.category).sum ≤ 2 * st.length
  | [] => Nat.zero_le _
  | v :: st => by
    have h1 := cat_le st
    have h2 : (cV b ad v).category ≤ 2 := by rcases v with z | z | d | (_ | _ | k) <;> exact Nat.le_of_ble_eq_true rfl
    simp only [List.map_cons, List.sum_cons, List.length_cons]
    omega
theorem snd_43 (hi : vok k (pc, (43, nx, a, bb, ix)) = true) (F : FX p l R s m args meth c b Lx xs cA D A k) (hH : HR b Lx xs cA D A s H locs ad h) (hL : LH b ad ls (mt k).2.1 L) (hw : wfS h.1.length L st) (hc1 : cells + h'.2.2 ≤ R.cells + h.2.2) (hc2 : cells + h'.2.2 ≤ R.slots + h.2.2)
    (hs : sx (43, nx, a, bb, ix) L st h = some (pc', L', st', h')) (K : KONT p l e R s m args below meth c Q b Lx xs cA D A k ad h cells pc' L' st' h') : W p l e R s m args below meth c H locs cells cells Q (F0 m pc ls (st.map (cV b ad))) := by
  unfold vok at hi
  simp only [Bool.and_eq_true, decide_eq_true_eq, Nat.blt_eq] at hi
  obtain ⟨⟨hlt, hd⟩, hv⟩ := hi
  obtain ⟨hx, hb, hml, hr, hown, hts, hlocks, hin, hexc, hK, hX, hbl, hbA, hA, hE, hRf, hRl, htr⟩ := F
  unfold iof at hd
  unfold sx at hs
  simp only [] at hd hs
  obtain ⟨h3, ha3⟩ := hv
  obtain rfl : nx = pc + 2 := by omega
  rw [Nat.add_sub_cancel_left] at hd
  split at hs
  · rename_i n st
    split at hs
    · rename_i hc
      cases hs
      have hrn : rg n := ⟨by omega, by omega⟩
      have hn0 : ¬ Int32.ofInt n < 0 := by
        intro z
        have := (i32_lt (y := 0) hrn ⟨by decide, by decide⟩).mp z
        omega
      simp only [] at hc1 hc2
      have fin9 : ∀ (ty : FieldType) (c9 : ClassId) (q : Nat) (H1 : Heap), (∀ C, ty ≠ .object C) → (tyA cA)[a]? = some (cA a, ty) → va_K D vwCl (tyA cA ++ [(c9, ty)]) s → va_P D vwCl (cW b ad cA h.1 ++ [(q, .inl (c9, cA0 a (List.replicate n.toNat 0)))]) H1 → va_D A (cW b ad cA h.1 ++ [(q, .inl (c9, cA0 a (List.replicate n.toNat 0)))]) → va_S A s.heap H1 locs →
          W p l e R s m args below meth c H1 locs (cells + 1) (cells + n.toNat) Q (F0 m (pc + 2) ls (.ref q :: st.map (cV b ad))) := by
        intro ty c9 q H1 hno ht hK9 hP1 hD1 hS1
        have e9 := cA_uq hK hK9 ht hno
        subst e9
        have hag : ∀ y : Nat, y < h.1.length → (fun y => if y = h.1.length then q else ad y) y = ad y := fun y hy => if_neg (Nat.ne_of_lt hy)
        have hw2 := wfS_pop hw
        refine W.widen (k := cells + 1 + n.toNat) (n := cells + 1 + n.toNat) (by omega) (by omega) ?_
        have K2 := K H1 locs (fun y => if y = h.1.length then q else ad y) ls (cells + 1 + n.toNat) (HR_push hH trivial hP1 hD1 hS1) (LH_ad hag hw2 hL) (wfS_push (wfS_mono (by simp) hw2) (by show _ < _; simp)) hag (by simp only []; omega)
        simp only [List.map_cons, cV, if_true] at K2
        rw [map_ad hag hw2.2] at K2
        exact K2
      have z9 : ∀ j : Nat, (List.replicate n.toNat (0 : Int)).getD j 0 = 0 := by
        intro j
        rw [List.getD_eq_getElem?_getD, List.getElem?_replicate]
        split <;> rfl
      have ai : ∀ (t : Nat), t ≠ 2 → ∀ c9 : ClassId, vp_cell c9 (cA0 t (List.replicate n.toNat 0)) = arrV c9 n.toNat (fun _ => .int 0) := by
        intro t ht c9
        unfold cA0
        rw [if_neg ht, List.length_replicate, vp_cell_i]
        congr 1
        funext j
        rw [z9]; rfl
      have al : ∀ c9 : ClassId, vp_cell c9 (cA0 2 (List.replicate n.toNat 0)) = arrV c9 n.toNat (fun _ => .long 0) := by
        intro c9
        unfold cA0
        rw [if_pos rfl, List.length_replicate, vp_cell_l]
        congr 1
        funext j
        rw [z9]; rfl
      subst ha3
      exact va_newa (atype := .int) hx hb (hts _ (GW_at jj_a rfl)) rfl hK hH.1 hH.2.1 hH.2.2.1 hA (N' := n.toNat) (a0 := cA0 0 (List.replicate n.toNat 0)) (fun c9 => ai 0 (by decide) c9) hn0 (i32_cl hrn) (by show n.toNat * 4 ≤ _; omega) (by omega) (by omega) hd (fun q c9 H1 hK9 hP1 hD1 hS1 => fin9 .int c9 q H1 (fun _ z => by cases z) rfl hK9 hP1 hD1 hS1)
    · cases hs
  · cases hs
theorem dfl_ok : ∀ (c9 : Nat), c9 < 9 → ∀ (b : Nat) (ad : Nat → Nat) (j : Nat), j < NN c9 → defaultValue (tyN c9 j) = vp_V ((dfl.getD c9 []).map (cV b ad)) j := by
  intro c9 hc9 b ad j hj
  rcases (show c9 = 0 ∨ c9 = 1 ∨ c9 = 2 ∨ c9 = 3 ∨ c9 = 4 ∨ c9 = 5 ∨ c9 = 6 ∨ c9 = 7 ∨ c9 = 8 by omega) with rfl | rfl | rfl | rfl | rfl | rfl | rfl | rfl | rfl
  · have hj : j < 3 := hj
    rcases (show j = 0 ∨ j = 1 ∨ j = 2 by omega) with rfl | rfl | rfl <;> rfl
  · have hj : j < 2 := hj
    rcases (show j = 0 ∨ j = 1 by omega) with rfl | rfl <;> rfl
  · have hj : j < 1 := hj
    rcases (show j = 0 by omega) with rfl
    rfl
  · have hj : j < 4 := hj
    rcases (show j = 0 ∨ j = 1 ∨ j = 2 ∨ j = 3 by omega) with rfl | rfl | rfl | rfl <;> rfl
  · have hj : j < 8 := hj
    rcases (show j = 0 ∨ j = 1 ∨ j = 2 ∨ j = 3 ∨ j = 4 ∨ j = 5 ∨ j = 6 ∨ j = 7 by omega) with rfl | rfl | rfl | rfl | rfl | rfl | rfl | rfl <;> rfl
  · have hj : j < 1 := hj
    rcases (show j = 0 by omega) with rfl
    rfl
  · have hj : j < 13 := hj
    rcases (show j = 0 ∨ j = 1 ∨ j = 2 ∨ j = 3 ∨ j = 4 ∨ j = 5 ∨ j = 6 ∨ j = 7 ∨ j = 8 ∨ j = 9 ∨ j = 10 ∨ j = 11 ∨ j = 12 by omega) with rfl | rfl | rfl | rfl | rfl | rfl | rfl | rfl | rfl | rfl | rfl | rfl | rfl <;> rfl
  · have hj : j < 3 := hj
    rcases (show j = 0 ∨ j = 1 ∨ j = 2 by omega) with rfl | rfl | rfl <;> rfl
  · have hj : j < 5 := hj
    rcases (show j = 0 ∨ j = 1 ∨ j = 2 ∨ j = 3 ∨ j = 4 by omega) with rfl | rfl | rfl | rfl | rfl <;> rfl
theorem dfl_wf : ∀ (c9 : Nat) (n : Nat), ∀ v ∈ dfl.getD c9 [], wfV n v := by
  have key : (dfl.all fun fs => fs.all fun v => match v with | .inl _ => true | .inr (.inr (.inr none)) => true | _ => false) = true := by decide +kernel
  intro c9 n v hv
  by_cases hc : c9 < dfl.length
  · rw [List.getD_eq_getElem?_getD, List.getElem?_eq_getElem hc] at hv
    have k2 := List.all_eq_true.mp (List.all_eq_true.mp key _ (List.getElem_mem hc)) v hv
    rcases v with z | z | d | (_ | _ | k)
    · trivial
    · cases k2
    · cases k2
    · trivial
    · cases k2
    · cases k2
  · rw [List.getD_eq_getElem?_getD, List.getElem?_eq_none (by omega)] at hv
    cases hv
theorem CL_of {own ix ci : Nat} (h : (CLp.lookup (own, ix)).map (fun q => q.1) = some ci) : (Cond.classLink (RN own) ix (RN ci)) ∈ GW ∧ ci < 9 := by
  obtain ⟨⟨c1, pl⟩, hq, he⟩ := Option.map_eq_some_iff.mp h
  cases he
  obtain ⟨h1, h2⟩ := CLp_ok _ (lk_mem hq)
  exact ⟨GW_at h1 rfl, h2⟩
theorem OL_of {own ix op : Nat} (h : (OLp.lookup (own, ix)).map (fun q => q.1) = some op) : (op = 45 → (Cond.methodLink (RN own) ix Lib.objectInit) ∈ GW) ∧ (op = 46 → (Cond.methodLink (RN own) ix Lib.Math.max.name) ∈ GW) ∧ (op = 47 → (Cond.methodLink (RN own) ix Lib.Math.min.name) ∈ GW) := by
  obtain ⟨⟨c1, pl⟩, hq, he⟩ := Option.map_eq_some_iff.mp h
  cases he
  obtain ⟨h1, h2, h3⟩ := OLp_ok _ (lk_mem hq)
  exact ⟨fun z => GW_at (h1 z) rfl, fun z => GW_at (h2 z) rfl, fun z => GW_at (h3 z) rfl⟩
theorem nfl_ok : ∀ c9 ∈ List.range 9, nfl[c9]? = some (NN c9) ∧ (dfl[c9]?).isSome = true := by decide +kernel
theorem snd_44 (hi : vok k (pc, (44, nx, a, bb, ix)) = true) (F : FX p l R s m args meth c b Lx xs cA D A k) (hH : HR b Lx xs cA D A s H locs ad h) (hL : LH b ad ls (mt k).2.1 L) (hw : wfS h.1.length L st) (hc1 : cells + h'.2.2 ≤ R.cells + h.2.2) (hc2 : cells + h'.2.2 ≤ R.slots + h.2.2)
    (hs : sx (44, nx, a, bb, ix) L st h = some (pc', L', st', h')) (K : KONT p l e R s m args below meth c Q b Lx xs cA D A k ad h cells pc' L' st' h') : W p l e R s m args below meth c H locs cells cells Q (F0 m pc ls (st.map (cV b ad))) := by
  unfold vok at hi
  simp only [Bool.and_eq_true, decide_eq_true_eq, Nat.blt_eq] at hi
  obtain ⟨⟨hlt, hd⟩, hv⟩ := hi
  obtain ⟨hx, hb, hml, hr, hown, hts, hlocks, hin, hexc, hK, hX, hbl, hbA, hA, hE, hRf, hRl, htr⟩ := F
  unfold iof at hd
  unfold sx at hs
  simp only [] at hd hs
  obtain ⟨h3, hf⟩ := hv
  obtain rfl : nx = pc + 3 := by omega
  rw [Nat.add_sub_cancel_left] at hd
  obtain ⟨f1, f2⟩ := CL_of hf
  have hn9 := (nfl_ok a (List.mem_range.mpr f2)).1
  split at hs
  · rename_i fs n9 hfs hnn
    cases hs
    cases Option.some.inj (hn9.symm.trans hnn)
    have hfs2 : dfl.getD a [] = fs := by rw [List.getD_eq_getElem?_getD, hfs]; rfl
    have hcp := cps_ok a (List.mem_range.mpr (by omega))
    simp only [] at hc1 hc2
    refine va_new (ci := a) hx hb hts (GWi _ f2) (tyN a) (ty_ok f2) hown (hts _ f1) (hts _ (GW_at (hcp.2 f2) rfl)) (hts _ (GW_at hcp.1 rfl)) hK hH.1 hH.2.1 hH.2.2.1 hA (cl_at f2) (fs := (dfl.getD a []).map (cV b ad)) (fun j hj => dfl_ok a f2 b ad j hj) (by omega) (by omega) hd (fun q H1 hP1 hD1 hS1 => ?_)
    have hag : ∀ y : Nat, y < h.1.length → (fun y => if y = h.1.length then q else ad y) y = ad y := fun y hy => if_neg (Nat.ne_of_lt hy)
    have hwf : wfC h.1.length (.inl (a, fs)) := fun v hv => dfl_wf a _ v (by rw [hfs2]; exact hv)
    refine W.widen (k := cells + 1 + NN a) (n := cells + 1 + NN a) (by omega) (by omega) ?_
    have e9 : (.inr (a, (dfl.getD a []).map (cV b ad)) : va_E) = cC b (fun y => if y = h.1.length then q else ad y) cA (.inl (a, fs)) := by
      rw [cC_ad hag hwf, hfs2]; rfl
    rw [e9] at hP1 hD1
    have K2 := K H1 locs (fun y => if y = h.1.length then q else ad y) ls (cells + 1 + NN a) (HR_push hH (wfC_mono (by omega) hwf) hP1 hD1 hS1) (LH_ad hag hw hL) (wfS_push (wfS_mono (by simp) hw) (by show _ < _; simp)) hag (by simp only []; omega)
    simp only [List.map_cons, cV, if_true] at K2
    rw [map_ad hag hw.2] at K2
    exact K2
  · cases hs
theorem snd_45 (hi : vok k (pc, (45, nx, a, bb, ix)) = true) (F : FX p l R s m args meth c b Lx xs cA D A k) (hH : HR b Lx xs cA D A s H locs ad h) (hL : LH b ad ls (mt k).2.1 L) (hw : wfS h.1.length L st) (hc1 : cells + h'.2.2 ≤ R.cells + h.2.2) (hc2 : cells + h'.2.2 ≤ R.slots + h.2.2)
    (hs : sx (45, nx, a, bb, ix) L st h = some (pc', L', st', h')) (K : KONT p l e R s m args below meth c Q b Lx xs cA D A k ad h cells pc' L' st' h') : W p l e R s m args below meth c H locs cells cells Q (F0 m pc ls (st.map (cV b ad))) := by
  unfold vok at hi
  simp only [Bool.and_eq_true, decide_eq_true_eq, Nat.blt_eq] at hi
  obtain ⟨⟨hlt, hd⟩, hv⟩ := hi
  obtain ⟨hx, hb, hml, hr, hown, hts, hlocks, hin, hexc, hK, hX, hbl, hbA, hA, hE, hRf, hRl, htr⟩ := F
  unfold iof at hd
  unfold sx at hs
  simp only [] at hd hs
  obtain ⟨h3, hf, hfr, hlo⟩ := hv
  obtain rfl : nx = pc + 3 := by omega
  rw [Nat.add_sub_cancel_left] at hd
  split at hs
  · rename_i r st
    split at hs
    · rename_i hc
      have hcat := cat_le (b := b) (ad := ad) st
      cases hs
      refine W.objInit hx hb hown (hts _ ((OL_of hf).1 rfl)) (hts _ (GW_at jj_o.2 rfl)) (hts _ (GW_at jj_o.1 rfl)) rfl (by rw [hml]; exact hL.1) rfl hd (by omega) (by show 2 * 0 + _ + 12 ≤ _; omega) ?_
      exact K H locs ad ls cells hH hL (wfS_pop hw) (fun _ _ => rfl) rfl
    · cases hs
  · cases hs
theorem snd_46 (hi : vok k (pc, (46, nx, a, bb, ix)) = true) (F : FX p l R s m args meth c b Lx xs cA D A k) (hH : HR b Lx xs cA D A s H locs ad h) (hL : LH b ad ls (mt k).2.1 L) (hw : wfS h.1.length L st) (hc1 : cells + h'.2.2 ≤ R.cells + h.2.2) (hc2 : cells + h'.2.2 ≤ R.slots + h.2.2)
    (hs : sx (46, nx, a, bb, ix) L st h = some (pc', L', st', h')) (K : KONT p l e R s m args below meth c Q b Lx xs cA D A k ad h cells pc' L' st' h') : W p l e R s m args below meth c H locs cells cells Q (F0 m pc ls (st.map (cV b ad))) := by
  unfold vok at hi
  simp only [Bool.and_eq_true, decide_eq_true_eq, Nat.blt_eq] at hi
  obtain ⟨⟨hlt, hd⟩, hv⟩ := hi
  obtain ⟨hx, hb, hml, hr, hown, hts, hlocks, hin, hexc, hK, hX, hbl, hbA, hA, hE, hRf, hRl, htr⟩ := F
  unfold iof at hd
  unfold sx at hs
  simp only [] at hd hs
  obtain ⟨h3, hf, hfr, hlo⟩ := hv
  obtain rfl : nx = pc + 3 := by omega
  rw [Nat.add_sub_cancel_left] at hd
  split at hs
  · rename_i y x st
    split at hs
    · rename_i hc
      have hcat := cat_le (b := b) (ad := ad) st
      cases hs
      refine va_mmax hx hb (by rw [hml]; exact hL.1.symm) hown (hts _ ((OL_of hf).2.1 rfl)) (hts _ (GW_at jj_x.2 rfl)) (hts _ (GW_at jj_m.1 rfl)) (hts _ (GW_at jj_x.1 rfl)) (by omega) (by omega) (by omega) (by omega) hd ?_
      have K2 := (K H locs ad ls cells hH hL (wfS_push (wfS_pop (wfS_pop hw)) trivial) (fun _ _ => rfl) rfl)
      simp only [List.map_cons, cV] at K2
      by_cases hxy : x < y
      · rw [if_pos hxy] at K2
        rw [if_pos ((i32_lt hc.1 hc.2.1).mpr hxy)]
        exact K2
      · rw [if_neg hxy] at K2
        rw [if_neg (fun z => hxy ((i32_lt hc.1 hc.2.1).mp z))]
        exact K2
    · cases hs
  · cases hs
theorem snd_47 (hi : vok k (pc, (47, nx, a, bb, ix)) = true) (F : FX p l R s m args meth c b Lx xs cA D A k) (hH : HR b Lx xs cA D A s H locs ad h) (hL : LH b ad ls (mt k).2.1 L) (hw : wfS h.1.length L st) (hc1 : cells + h'.2.2 ≤ R.cells + h.2.2) (hc2 : cells + h'.2.2 ≤ R.slots + h.2.2)
    (hs : sx (47, nx, a, bb, ix) L st h = some (pc', L', st', h')) (K : KONT p l e R s m args below meth c Q b Lx xs cA D A k ad h cells pc' L' st' h') : W p l e R s m args below meth c H locs cells cells Q (F0 m pc ls (st.map (cV b ad))) := by
  unfold vok at hi
  simp only [Bool.and_eq_true, decide_eq_true_eq, Nat.blt_eq] at hi
  obtain ⟨⟨hlt, hd⟩, hv⟩ := hi
  obtain ⟨hx, hb, hml, hr, hown, hts, hlocks, hin, hexc, hK, hX, hbl, hbA, hA, hE, hRf, hRl, htr⟩ := F
  unfold iof at hd
  unfold sx at hs
  simp only [] at hd hs
  obtain ⟨h3, hf, hfr, hlo⟩ := hv
  obtain rfl : nx = pc + 3 := by omega
  rw [Nat.add_sub_cancel_left] at hd
  split at hs
  · rename_i y x st
    split at hs
    · rename_i hc
      have hcat := cat_le (b := b) (ad := ad) st
      cases hs
      refine va_mmin hx hb (by rw [hml]; exact hL.1.symm) hown (hts _ ((OL_of hf).2.2 rfl)) (hts _ (GW_at jj_n.2 rfl)) (hts _ (GW_at jj_m.1 rfl)) (hts _ (GW_at jj_n.1 rfl)) (by omega) (by omega) (by omega) (by omega) hd ?_
      have K2 := (K H locs ad ls cells hH hL (wfS_push (wfS_pop (wfS_pop hw)) trivial) (fun _ _ => rfl) rfl)
      simp only [List.map_cons, cV] at K2
      by_cases hxy : y < x
      · rw [if_pos hxy] at K2
        rw [if_pos ((i32_lt hc.2.1 hc.1).mpr hxy)]
        exact K2
      · rw [if_neg hxy] at K2
        rw [if_neg (fun z => hxy ((i32_lt hc.2.1 hc.1).mp z))]
        exact K2
    · cases hs
  · cases hs
theorem snd_48 (hi : vok k (pc, (48, nx, a, bb, ix)) = true) (F : FX p l R s m args meth c b Lx xs cA D A k) (hH : HR b Lx xs cA D A s H locs ad h) (hL : LH b ad ls (mt k).2.1 L) (hw : wfS h.1.length L st) (hc1 : cells + h'.2.2 ≤ R.cells + h.2.2) (hc2 : cells + h'.2.2 ≤ R.slots + h.2.2)
    (hs : sx (48, nx, a, bb, ix) L st h = some (pc', L', st', h')) (K : KONT p l e R s m args below meth c Q b Lx xs cA D A k ad h cells pc' L' st' h') : W p l e R s m args below meth c H locs cells cells Q (F0 m pc ls (st.map (cV b ad))) := by
  unfold vok at hi
  simp only [Bool.and_eq_true, decide_eq_true_eq, Nat.blt_eq] at hi
  obtain ⟨⟨hlt, hd⟩, hv⟩ := hi
  obtain ⟨hx, hb, hml, hr, hown, hts, hlocks, hin, hexc, hK, hX, hbl, hbA, hA, hE, hRf, hRl, htr⟩ := F
  unfold iof at hd
  unfold sx at hs
  simp only [] at hd hs
  split at hs
  · rename_i x st
    split at hs
    · rename_i hc
      cases hs
      have K2 := K H locs ad ls cells hH hL (wfS_pop hw) (fun _ _ => rfl) rfl
      have hxi : (Int32.ofInt x).toInt = x := Int32.toInt_ofInt_of_le (by omega) (by omega)
      by_cases hin9 : 0 ≤ x ∧ x < swt.length
      · rw [if_pos hin9] at K2
        have hlen : x.toNat < swt.length := by omega
        refine lv_tableIn hx hb hd (by rw [hxi]; omega) (by rw [hxi]; omega) (off := ((swt.getD x.toNat 0 : Nat) : Int) - pc) (by rw [hxi, Int.sub_zero, List.getElem?_toArray, List.getElem?_map, List.getD_eq_getElem?_getD, List.getElem?_eq_getElem hlen]; rfl) (by omega) K2
      · rw [if_neg hin9] at K2
        exact lv_tableOut hx hb hd (by rw [hxi]; omega) (by omega) K2
    · cases hs
  · cases hs
end SND
