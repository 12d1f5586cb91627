/-! handlers, and the three throws -/
theorem hh_ok : ∀ q ∈ hhs, (mt q.1).1 = 9 ∧ ∀ x ∈ q.2, x.2.2.2 = 19 ∨ x.2.2.2 = 13 ∨ x.2.2.2 = 65 := by decide +kernel
theorem hh_at {k : Nat} {x : Nat × Nat × Nat × Nat} (h : x ∈ hhT k) : (mt k).1 = 9 ∧ (x.2.2.2 = 19 ∨ x.2.2.2 = 13 ∨ x.2.2.2 = 65) := by
  unfold hhT at h
  cases hl : hhs.lookup k with
  | none => rw [hl] at h; cases h
  | some y =>
    rw [hl] at h
    obtain ⟨l1, l2, h1, -⟩ := List.lookup_eq_some_iff.mp hl
    have h2 := hh_ok (k, y) (by rw [h1]; simp)
    exact ⟨h2.1, h2.2 x h⟩
theorem ct_link {k : Nat} {x : Nat × Nat × Nat × Nat} (h : x ∈ hhT k) : (Cond.classLink (RN (mt k).1) x.2.2.2 (xN (ctc x.2.2.2))) ∈ GW ∧ ctc x.2.2.2 < 3 ∧ x.2.2.2 ≠ 0 := absurd h List.not_mem_nil
theorem hnd_pass {k pc En : Nat} {s : State} {args : Array Value} {hs : List (Nat × Nat × Nat × Nat)} (hno : ∀ x ∈ hs, ¬ ((decide (x.1 ≤ pc) && decide (pc < x.2.1) && ctc x.2.2.2 == En) = true)) (hsub : ∀ x ∈ hs, x ∈ hhT k) (hEn : En < 3) (hts : ∀ w ∈ GW, w.before args s = true) (hN : ∀ E F : Nat, E < 3 → F < 3 → E ≠ F → hhs ≠ [] → va_Nc (xN E) (xN F) s) {z : ExceptionTableEntry} (hz : z ∈ tableOf hs) :
    covers z pc = false ∨ (z.catchType ≠ 0 ∧ ∃ nm : String, (Cond.classLink (RN (mt k).1) z.catchType nm).before args s = true ∧ va_Nc (xN En) nm s) := by
  unfold tableOf at hz
  obtain ⟨x, hx, rfl⟩ := List.mem_map.mp hz
  exact absurd (hsub x hx) List.not_mem_nil
theorem thr_all : (tbs.zipIdx.all fun q => q.1.all fun e => e.2.1 != 65 || ([(108, 11, 2), (109, 9, 0), (110, 10, 1)] : List (Nat × Nat × Nat)).contains (q.2, e.1, e.2.2.2.1)) = true := by decide +kernel
theorem thr_at {k pc nx a ix : Nat} {bb : Int} (h : ins k pc = some (65, nx, a, bb, ix)) : (k = 108 ∧ pc = 11 ∧ a = 2) ∨ (k = 109 ∧ pc = 9 ∧ a = 0) ∨ (k = 110 ∧ pc = 10 ∧ a = 1) := by
  unfold ins at h
  split at h
  · cases h
  · rename_i t ht
    have h0 : (tbs.zipIdx)[k]? = some (t, k) := by rw [List.getElem?_zipIdx, ht]; simp
    obtain ⟨l1, l2, h1, -⟩ := List.lookup_eq_some_iff.mp h
    have h2 := List.all_eq_true.mp (List.all_eq_true.mp thr_all (t, k) (List.mem_of_getElem? h0)) (pc, (65, nx, a, bb, ix)) (by rw [h1]; simp)
    simpa using h2
theorem thr_lt {k pc nx a ix : Nat} {bb : Int} (h : ins k pc = some (65, nx, a, bb, ix)) : a < 3 := by
  rcases thr_at h with ⟨-, -, rfl⟩ | ⟨-, -, rfl⟩ | ⟨-, -, rfl⟩ <;> decide
theorem wsL_x1 : ∀ w ∈ (vx_atS RX8 172 "java/lang/IndexOutOfBoundsException" ["java/lang/RuntimeException", "java/lang/Exception"]).filter goodWord, w ∈ lw_tbl := by decide +kernel
theorem wsL_x1_n : ∀ w ∈ (vx_atS RX8 172 "java/lang/IndexOutOfBoundsException" ["java/lang/RuntimeException", "java/lang/Exception"]).filter (fun w => !goodWord w), w ∈ Cond.castable "java/lang/IndexOutOfBoundsException" "java/lang/IndexOutOfBoundsException" :: ["java/lang/RuntimeException", "java/lang/Exception", "java/lang/Throwable"].map (fun C => Cond.declares ⟨C, "<init>", "(Ljava/lang/String;)V"⟩) := by decide +kernel
theorem wsL_x1_g : ∀ w ∈ Cond.classLink RX8 168 "java/lang/IndexOutOfBoundsException" :: Cond.initialized "java/lang/IndexOutOfBoundsException" :: vx_atS RX8 172 "java/lang/IndexOutOfBoundsException" ["java/lang/RuntimeException", "java/lang/Exception"], vx_ot w = true := by decide +kernel
theorem wsL_x1_k : lw_tbl[400]? = some (.classLink RX8 168 "java/lang/IndexOutOfBoundsException") ∧ lw_tbl[41]? = some (.initialized "java/lang/IndexOutOfBoundsException") := by decide +kernel
theorem wsL_x1_d : decode (bN 109) 9 = .ok (.new 168, 3) ∧ decode (bN 109) (9 + 3) = .ok (.dup, 1) ∧ decode (bN 109) (9 + 4) = .ok (.ldc 170, 2) ∧ decode (bN 109) (9 + 6) = .ok (.invokespecial 172, 3) ∧ decode (bN 109) (9 + 9) = .ok (.athrow, 1) := by decide +kernel
theorem wsL_x1_m : (mt 109).1 = 8 ∧ hhT 109 = [] ∧ (mt 109).2.2.2.2.1 = 6 ∧ 90 ≤ (mt 109).2.2.2.2.2 := by decide +kernel
theorem wsL_x0 : ∀ w ∈ (vx_atS RX8 177 "java/lang/IllegalArgumentException" ["java/lang/RuntimeException", "java/lang/Exception"]).filter goodWord, w ∈ lw_tbl := by decide +kernel
theorem wsL_x0_n : ∀ w ∈ (vx_atS RX8 177 "java/lang/IllegalArgumentException" ["java/lang/RuntimeException", "java/lang/Exception"]).filter (fun w => !goodWord w), w ∈ Cond.castable "java/lang/IllegalArgumentException" "java/lang/IllegalArgumentException" :: ["java/lang/RuntimeException", "java/lang/Exception", "java/lang/Throwable"].map (fun C => Cond.declares ⟨C, "<init>", "(Ljava/lang/String;)V"⟩) := by decide +kernel
theorem wsL_x0_g : ∀ w ∈ Cond.classLink RX8 173 "java/lang/IllegalArgumentException" :: Cond.initialized "java/lang/IllegalArgumentException" :: vx_atS RX8 177 "java/lang/IllegalArgumentException" ["java/lang/RuntimeException", "java/lang/Exception"], vx_ot w = true := by decide +kernel
theorem wsL_x0_k : lw_tbl[296]? = some (.classLink RX8 173 "java/lang/IllegalArgumentException") ∧ lw_tbl[42]? = some (.initialized "java/lang/IllegalArgumentException") := by decide +kernel
theorem wsL_x0_d : decode (bN 110) 10 = .ok (.new 173, 3) ∧ decode (bN 110) (10 + 3) = .ok (.dup, 1) ∧ decode (bN 110) (10 + 4) = .ok (.ldc 175, 2) ∧ decode (bN 110) (10 + 6) = .ok (.invokespecial 177, 3) ∧ decode (bN 110) (10 + 9) = .ok (.athrow, 1) := by decide +kernel
theorem wsL_x0_m : (mt 110).1 = 8 ∧ hhT 110 = [] ∧ (mt 110).2.2.2.2.1 = 6 ∧ 90 ≤ (mt 110).2.2.2.2.2 := by decide +kernel
theorem wsL_x2 : ∀ w ∈ (vx_atS RX8 165 "java/lang/IllegalStateException" ["java/lang/RuntimeException", "java/lang/Exception"]).filter goodWord, w ∈ lw_tbl := by decide +kernel
theorem wsL_x2_n : ∀ w ∈ (vx_atS RX8 165 "java/lang/IllegalStateException" ["java/lang/RuntimeException", "java/lang/Exception"]).filter (fun w => !goodWord w), w ∈ Cond.castable "java/lang/IllegalStateException" "java/lang/IllegalStateException" :: ["java/lang/RuntimeException", "java/lang/Exception", "java/lang/Throwable"].map (fun C => Cond.declares ⟨C, "<init>", "(Ljava/lang/String;)V"⟩) := by decide +kernel
theorem wsL_x2_g : ∀ w ∈ Cond.classLink RX8 161 "java/lang/IllegalStateException" :: Cond.initialized "java/lang/IllegalStateException" :: vx_atS RX8 165 "java/lang/IllegalStateException" ["java/lang/RuntimeException", "java/lang/Exception"], vx_ot w = true := by decide +kernel
theorem wsL_x2_k : lw_tbl[714]? = some (.classLink RX8 161 "java/lang/IllegalStateException") ∧ lw_tbl[43]? = some (.initialized "java/lang/IllegalStateException") := by decide +kernel
theorem wsL_x2_d : decode (bN 108) 11 = .ok (.new 161, 3) ∧ decode (bN 108) (11 + 3) = .ok (.dup, 1) ∧ decode (bN 108) (11 + 4) = .ok (.ldc 163, 2) ∧ decode (bN 108) (11 + 6) = .ok (.invokespecial 165, 3) ∧ decode (bN 108) (11 + 9) = .ok (.athrow, 1) := by decide +kernel
theorem wsL_x2_m : (mt 108).1 = 8 ∧ hhT 108 = [] ∧ (mt 108).2.2.2.2.1 = 6 ∧ 90 ≤ (mt 108).2.2.2.2.2 := by decide +kernel
set_option maxHeartbeats 4000000 in
theorem throw_of {p : Program} {l : Launch} {e : Env} {R : Room} {s : State} {m : MethodId} {args : Array Value} {below : List Frame} {meth : Method} {c : Code} {A : Nat → Prop} {H : Heap} {locs : List Loc} {ls : Array Slot} {cells mc k pc nx En ix : Nat} {bb : Int} {Qc : Array Value → State → Outcome → State → Prop} {XC : String → State → State → Prop}
    (hx : p.tables.exec = Jvm.exec) (hb : c.code = bN k) (hml : c.maxLocals = (mt k).2.1) (hown : s.vm.findClass (RN (mt k).1) = some m.cls) (hts : ∀ w ∈ GW, w.before args s = true) (hlocks : meth.locks = false) (hexc : c.exceptionTable.toList = tableOf (hhT k)) (hE : EX A s) (hRf : (mt k).2.2.2.2.1 ≤ R.frames) (hRl : (mt k).2.2.2.2.2 ≤ R.locals) (htr : l.stackTraces = false)
    (hi : ins k pc = some (65, nx, En, bb, ix)) (hsz : ls.size = (mt k).2.1) (hc1 : cells + 1 ≤ R.cells) (hc2 : cells + 6 ≤ R.slots) (hc3 : cells + 1 ≤ mc) (hc4 : cells + 6 ≤ mc) (hS : va_S A s.heap H locs) (hX : ∀ t : State, s.vm.Alike t.vm → H.size ≤ t.heap.size → (∀ q : Nat, q < H.size → t.heap[q]? = H[q]?) → XC (xN En) s t) :
    W p l e R s m args below meth c H locs cells cells (vx_MQ below Qc XC args s mc mc A) (F0 m pc ls []) := by
  obtain ⟨-, -, hE3, hE4, ⟨a4, h4⟩, ⟨a5, h5⟩, ⟨a6, h6⟩, h7, h8⟩ := hE
  rcases thr_at hi with ⟨rfl, rfl, rfl⟩ | ⟨rfl, rfl, rfl⟩ | ⟨rfl, rfl, rfl⟩
  · have hcl : (mt 108).1 = 8 := wsL_x2_m.1
    rw [hcl] at hown
    rw [wsL_x2_m.2.2.1] at hRf
    have hL9 := wsL_x2_m.2.2.2
    refine vx_throwS (own := RX8) (cls := "java/lang/IllegalStateException") (names := ["java/lang/RuntimeException", "java/lang/Exception"]) (ik := 161) (is := 163) (ic := 165) hx hb htr hown (by decide +kernel) (by decide +kernel) (hts _ (GW_at wsL_x2_k.1 rfl)) (hts _ (GW_at wsL_x2_k.2 rfl)) h6 ?_ wsL_x2_g h7 h8 hS (by rw [hml]; exact hsz) wsL_x2_d.1 wsL_x2_d.2.1 wsL_x2_d.2.2.1 wsL_x2_d.2.2.2.1 wsL_x2_d.2.2.2.2 ?_ (by show 2 + 3 < _; omega) (by show 0 + (13 * (2 + 1) + 43) ≤ _; omega) hc1 hc2 hlocks hX hS.2.2 hc3 hc4
    · exact vx_hat (fun w hw => hts w (List.mem_filter.mpr ⟨wsL_x2 w hw, (List.mem_filter.mp hw).2⟩)) wsL_x2_n (fun w hw => by
        rcases List.mem_cons.mp hw with rfl | hw
        · exact (hE3 2 (by decide)).use rfl
        · obtain ⟨C9, hC9, rfl⟩ := List.mem_map.mp hw
          exact (hE4 C9 hC9).use rfl)
    · intro x hx9
      rw [hexc, wsL_x2_m.2.1] at hx9
      cases hx9
  · have hcl : (mt 109).1 = 8 := wsL_x1_m.1
    rw [hcl] at hown
    rw [wsL_x1_m.2.2.1] at hRf
    have hL9 := wsL_x1_m.2.2.2
    refine vx_throwS (own := RX8) (cls := "java/lang/IndexOutOfBoundsException") (names := ["java/lang/RuntimeException", "java/lang/Exception"]) (ik := 168) (is := 170) (ic := 172) hx hb htr hown (by decide +kernel) (by decide +kernel) (hts _ (GW_at wsL_x1_k.1 rfl)) (hts _ (GW_at wsL_x1_k.2 rfl)) h4 ?_ wsL_x1_g h7 h8 hS (by rw [hml]; exact hsz) wsL_x1_d.1 wsL_x1_d.2.1 wsL_x1_d.2.2.1 wsL_x1_d.2.2.2.1 wsL_x1_d.2.2.2.2 ?_ (by show 2 + 3 < _; omega) (by show 0 + (13 * (2 + 1) + 43) ≤ _; omega) hc1 hc2 hlocks hX hS.2.2 hc3 hc4
    · exact vx_hat (fun w hw => hts w (List.mem_filter.mpr ⟨wsL_x1 w hw, (List.mem_filter.mp hw).2⟩)) wsL_x1_n (fun w hw => by
        rcases List.mem_cons.mp hw with rfl | hw
        · exact (hE3 0 (by decide)).use rfl
        · obtain ⟨C9, hC9, rfl⟩ := List.mem_map.mp hw
          exact (hE4 C9 hC9).use rfl)
    · intro x hx9
      rw [hexc, wsL_x1_m.2.1] at hx9
      cases hx9
  · have hcl : (mt 110).1 = 8 := wsL_x0_m.1
    rw [hcl] at hown
    rw [wsL_x0_m.2.2.1] at hRf
    have hL9 := wsL_x0_m.2.2.2
    refine vx_throwS (own := RX8) (cls := "java/lang/IllegalArgumentException") (names := ["java/lang/RuntimeException", "java/lang/Exception"]) (ik := 173) (is := 175) (ic := 177) hx hb htr hown (by decide +kernel) (by decide +kernel) (hts _ (GW_at wsL_x0_k.1 rfl)) (hts _ (GW_at wsL_x0_k.2 rfl)) h5 ?_ wsL_x0_g h7 h8 hS (by rw [hml]; exact hsz) wsL_x0_d.1 wsL_x0_d.2.1 wsL_x0_d.2.2.1 wsL_x0_d.2.2.2.1 wsL_x0_d.2.2.2.2 ?_ (by show 2 + 3 < _; omega) (by show 0 + (13 * (2 + 1) + 43) ≤ _; omega) hc1 hc2 hlocks hX hS.2.2 hc3 hc4
    · exact vx_hat (fun w hw => hts w (List.mem_filter.mpr ⟨wsL_x0 w hw, (List.mem_filter.mp hw).2⟩)) wsL_x0_n (fun w hw => by
        rcases List.mem_cons.mp hw with rfl | hw
        · exact (hE3 1 (by decide)).use rfl
        · obtain ⟨C9, hC9, rfl⟩ := List.mem_map.mp hw
          exact (hE4 C9 hC9).use rfl)
    · intro x hx9
      rw [hexc, wsL_x0_m.2.1] at hx9
      cases hx9
