/-! what a state of the small machine is on the real one -/
def cV (b : Nat) (ad : Nat → Nat) (v : AV) : Value := match v with
  | .inl z => .int (Int32.ofInt z)
  | .inr (.inl z) => .long (Int64.ofInt z)
  | .inr (.inr (.inl d)) => .double d
  | .inr (.inr (.inr none)) => .null
  | .inr (.inr (.inr (some none))) => .ref b
  | .inr (.inr (.inr (some (some k)))) => .ref (ad k)
def cA0 (t : Nat) (l : List Int) : vp_A := (l.length, if t = 2 then .inr (.inl fun j => Int64.ofInt (l.getD j 0)) else .inl fun j => Int32.ofInt (l.getD j 0))
def cC (b : Nat) (ad : Nat → Nat) (cA : Nat → ClassId) (x : AC) : va_E := match x with
  | .inl (ci, fs) => .inr (ci, fs.map (cV b ad))
  | .inr (t, l) => .inl (cA t, cA0 t l)
def cW (b : Nat) (ad : Nat → Nat) (cA : Nat → ClassId) (cs : List AC) : va_W := cs.mapIdx fun k x => (ad k, cC b ad cA x)
def wfV (n : Nat) (v : AV) : Prop := match v with
  | .inr (.inr (.inr (some (some k)))) => k < n
  | _ => True
def wfC (n : Nat) (x : AC) : Prop := match x with
  | .inl (_, fs) => ∀ v ∈ fs, wfV n v
  | _ => True
def wfS (n : Nat) (L : AL) (st : List AV) : Prop := (∀ (i : Nat) (v : AV), L[i]? = some (some v) → wfV n v) ∧ ∀ v ∈ st, wfV n v
def tyA (cA : Nat → ClassId) : List (ClassId × FieldType) := [(cA 0, .int)]
def HR (b Lx : Nat) (xs : Nat → Int32) (cA : Nat → ClassId) (D : va_G) (A : Nat → Prop) (s : State) (H : Heap) (locs : List Loc) (ad : Nat → Nat) (h : AH) : Prop :=
  va_P D vwCl (cW b ad cA h.1) H ∧ va_D A (cW b ad cA h.1) ∧ va_S A s.heap H locs ∧ (∀ x ∈ h.1, wfC h.1.length x) ∧ h.2.1.length = Lx ∧ ∀ j : Nat, j < Lx → Int32.ofInt (h.2.1.getD j 0) = xs j
def LH (b : Nat) (ad : Nat → Nat) (ls : Array Slot) (n : Nat) (L : AL) : Prop := ls.size = n ∧ lv_wf ls ∧ L.length = n ∧ ∀ (i : Nat) (v : AV), L[i]? = some (some v) → ls[i]? = some (.val (cV b ad v))
theorem cW_get {b : Nat} {ad : Nat → Nat} {cA : Nat → ClassId} {cs : List AC} {k : Nat} {x : AC} (h : cs[k]? = some x) : (cW b ad cA cs)[k]? = some (ad k, cC b ad cA x) := by
  simp [cW, h]
theorem cW_len {b : Nat} {ad : Nat → Nat} {cA : Nat → ClassId} {cs : List AC} : (cW b ad cA cs).length = cs.length := by simp [cW]
theorem cW_set {b : Nat} {ad : Nat → Nat} {cA : Nat → ClassId} {cs : List AC} {k : Nat} {x : AC} : cW b ad cA (cs.set k x) = (cW b ad cA cs).set k (ad k, cC b ad cA x) := by
  apply List.ext_getElem?
  intro i
  simp only [cW, List.getElem?_mapIdx, List.getElem?_set, List.length_mapIdx]
  by_cases h : k = i
  · subst h
    by_cases hk : k < cs.length <;> simp [hk]
  · simp [h]
theorem cV_ad {b n : Nat} {ad ad' : Nat → Nat} (h : ∀ q : Nat, q < n → ad' q = ad q) {v : AV} (hv : wfV n v) : cV b ad' v = cV b ad v := by
  unfold cV
  rcases v with z | z | d | (_ | _ | k) <;> try rfl
  exact congrArg Value.ref (h k hv)
theorem cC_ad {b n : Nat} {ad ad' : Nat → Nat} {cA : Nat → ClassId} (h : ∀ q : Nat, q < n → ad' q = ad q) {x : AC} (hx : wfC n x) : cC b ad' cA x = cC b ad cA x := by
  rcases x with ⟨ci, fs⟩ | ⟨t, l⟩
  · simp only [cC]
    rw [List.map_congr_left fun v hv => cV_ad h (hx v hv)]
  · rfl
theorem cW_ad {b : Nat} {ad ad' : Nat → Nat} {cA : Nat → ClassId} {cs : List AC} (h : ∀ q : Nat, q < cs.length → ad' q = ad q) (hx : ∀ x ∈ cs, wfC cs.length x) : cW b ad' cA cs = cW b ad cA cs := by
  apply List.ext_getElem?
  intro i
  simp only [cW, List.getElem?_mapIdx]
  cases hi : cs[i]? with
  | none => rfl
  | some x =>
    have hl := (List.getElem?_eq_some_iff.mp hi).1
    simp only [Option.map_some]
    rw [h i hl, cC_ad h (hx x (List.mem_of_getElem? hi))]
theorem cW_push {b : Nat} {ad : Nat → Nat} {cA : Nat → ClassId} {cs : List AC} {x : AC} : cW b ad cA (cs ++ [x]) = cW b ad cA cs ++ [(ad cs.length, cC b ad cA x)] := by
  simp [cW]
theorem wfV_mono {n m : Nat} (h : n ≤ m) {v : AV} (hv : wfV n v) : wfV m v := by
  unfold wfV at *
  rcases v with z | z | d | (_ | _ | k) <;> try trivial
  exact Nat.lt_of_lt_of_le hv h
theorem wfC_mono {n m : Nat} (h : n ≤ m) {x : AC} (hx : wfC n x) : wfC m x := by
  rcases x with ⟨ci, fs⟩ | ⟨t, l⟩
  · exact fun v hv => wfV_mono h (hx v hv)
  · trivial
theorem wfS_mono {n m : Nat} (h : n ≤ m) {L : AL} {st : List AV} (hx : wfS n L st) : wfS m L st := ⟨fun i v hv => wfV_mono h (hx.1 i v hv), fun v hv => wfV_mono h (hx.2 v hv)⟩
theorem LH_ad {b n m : Nat} {ad ad' : Nat → Nat} {ls : Array Slot} {L : AL} {st : List AV} (h : ∀ q : Nat, q < m → ad' q = ad q) (hw : wfS m L st) (hl : LH b ad ls n L) : LH b ad' ls n L :=
  ⟨hl.1, hl.2.1, hl.2.2.1, fun i v hv => by rw [cV_ad h (hw.1 i v hv)]; exact hl.2.2.2 i v hv⟩
theorem map_ad {b m : Nat} {ad ad' : Nat → Nat} {st : List AV} (h : ∀ q : Nat, q < m → ad' q = ad q) (hw : ∀ v ∈ st, wfV m v) : st.map (cV b ad') = st.map (cV b ad) :=
  List.map_congr_left fun v hv => cV_ad h (hw v hv)
/-- all that is known of the locals, as the kit lists it -/
def lvl (b : Nat) (ad : Nat → Nat) (L : AL) : List (Nat × Value) := (L.mapIdx fun i o => o.map fun v => (i, cV b ad v)).filterMap id
theorem lvl_mem {b : Nat} {ad : Nat → Nat} {L : AL} {q : Nat × Value} : q ∈ lvl b ad L ↔ ∃ v, L[q.1]? = some (some v) ∧ q.2 = cV b ad v := by
  unfold lvl
  rw [List.mem_filterMap]
  constructor
  · rintro ⟨o, ho, hq⟩
    obtain ⟨i, hi, rfl⟩ := List.mem_mapIdx.mp ho
    simp only [id_eq, Option.map_eq_some_iff] at hq
    obtain ⟨v, hv, rfl⟩ := hq
    exact ⟨v, by simp only []; rw [List.getElem?_eq_getElem hi, hv], rfl⟩
  · rintro ⟨v, hv, hq⟩
    refine ⟨some q, ?_, rfl⟩
    obtain ⟨hl, he⟩ := List.getElem?_eq_some_iff.mp hv
    refine List.mem_mapIdx.mpr ⟨q.1, hl, ?_⟩
    rw [he]
    simp only [Option.map_some]
    rw [← hq]
theorem lvl_has {b n : Nat} {ad : Nat → Nat} {ls : Array Slot} {L : AL} (h : LH b ad ls n L) : lv_has ls n (lvl b ad L) :=
  ⟨h.1, h.2.1, fun q hq => by
    obtain ⟨v, hv, he⟩ := lvl_mem.mp hq
    rw [he]
    exact h.2.2.2 q.1 v hv⟩
theorem okst_at {L : AL} {i : Nat} (h : okst L (i + 1) = true) {v : AV} {b : Nat} {ad : Nat → Nat} (hv : L[i]? = some (some v)) : (cV b ad v).category ≠ 2 := by
  simp only [okst, hv] at h
  rcases v with z | z | d | (_ | _ | k)
  · intro q; cases q
  · cases h
  · cases h
  · intro q; cases q
  · intro q; cases q
  · intro q; cases q
/-- behind a store of one place -/
theorem LH_set {b n i : Nat} {ad : Nat → Nat} {ls ls' : Array Slot} {L : AL} {v : Value} (hl : LH b ad ls n L) (hi : i < L.length) (ho : okst L i = true) (x : Option AV) (hx : ∀ y, x = some y → cV b ad y = v)
    (h : lv_has ls' n ((i, v) :: (lvl b ad L).filter (fun q => !(q.1 == i) && !(q.1 + 1 == i && q.2.category == 2)))) : LH b ad ls' n (L.set i x) := by
  refine ⟨h.1, h.2.1, by rw [List.length_set]; exact hl.2.2.1, fun j w hj => ?_⟩
  rw [List.getElem?_set] at hj
  by_cases hji : i = j
  · subst hji
    rw [if_pos rfl, if_pos hi] at hj
    have := hx w (Option.some.inj hj)
    rw [this]
    exact h.2.2 (i, v) List.mem_cons_self
  · rw [if_neg hji] at hj
    refine h.2.2 (j, cV b ad w) (List.mem_cons_of_mem _ (List.mem_filter.mpr ⟨lvl_mem.mpr ⟨w, hj, rfl⟩, ?_⟩))
    simp only [Bool.and_eq_true, Bool.not_eq_true', Bool.and_eq_false_iff, beq_eq_false_iff_ne, ne_eq]
    refine ⟨fun q => hji q.symm, ?_⟩
    by_cases hj1 : j + 1 = i
    · right
      subst hj1
      exact okst_at ho hj
    · left; exact hj1
theorem LH_set2 {b n i : Nat} {ad : Nat → Nat} {ls ls' : Array Slot} {L : AL} {d : UInt64} (hl : LH b ad ls n L) (hi : i < L.length) (ho : okst L i = true)
    (h : lv_has ls' n ((i, .double d) :: (lvl b ad L).filter (fun q => !(q.1 == i) && (!(q.1 == i + 1) && !(q.1 + 1 == i && q.2.category == 2))))) : LH b ad ls' n ((L.set i (some (vD d))).set (i + 1) none) := by
  refine ⟨h.1, h.2.1, by rw [List.length_set, List.length_set]; exact hl.2.2.1, fun j w hj => ?_⟩
  rw [List.getElem?_set] at hj
  by_cases hj1 : i + 1 = j
  · rw [if_pos hj1] at hj
    split at hj
    · cases Option.some.inj hj
    · cases hj
  · rw [if_neg hj1, List.getElem?_set] at hj
    by_cases hji : i = j
    · subst hji
      rw [if_pos rfl, if_pos hi] at hj
      cases Option.some.inj (Option.some.inj hj)
      exact h.2.2 (i, .double d) List.mem_cons_self
    · rw [if_neg hji] at hj
      refine h.2.2 (j, cV b ad w) (List.mem_cons_of_mem _ (List.mem_filter.mpr ⟨lvl_mem.mpr ⟨w, hj, rfl⟩, ?_⟩))
      simp only [Bool.and_eq_true, Bool.not_eq_true', Bool.and_eq_false_iff, beq_eq_false_iff_ne, ne_eq]
      refine ⟨fun q => hji q.symm, fun q => hj1 q.symm, ?_⟩
      by_cases hj2 : j + 1 = i
      · right
        subst hj2
        exact okst_at ho hj
      · left; exact hj2
theorem wfS_set {n i : Nat} {L : AL} {st : List AV} (h : wfS n L st) (x : Option AV) (hx : ∀ y, x = some y → wfV n y) : wfS n (L.set i x) st := by
  refine ⟨fun j v hj => ?_, h.2⟩
  rw [List.getElem?_set] at hj
  split at hj
  · split at hj
    · exact hx v (Option.some.inj hj)
    · cases hj
  · exact h.1 j v hj
theorem wfS_pop {n : Nat} {L : AL} {v : AV} {st : List AV} (h : wfS n L (v :: st)) : wfS n L st := ⟨h.1, fun w hw => h.2 w (List.mem_cons_of_mem _ hw)⟩
theorem wfS_push {n : Nat} {L : AL} {v : AV} {st : List AV} (h : wfS n L st) (hv : wfV n v) : wfS n L (v :: st) := ⟨h.1, fun w hw => (List.mem_cons.mp hw).elim (fun e => e ▸ hv) (h.2 w)⟩
theorem i32_lt {x y : Int} (hx : rg x) (hy : rg y) : Int32.ofInt x < Int32.ofInt y ↔ x < y := by
  rw [Int32.lt_iff_toInt_lt, Int32.toInt_ofInt_of_le (by omega) (by omega), Int32.toInt_ofInt_of_le (by omega) (by omega)]
theorem i32_le {x y : Int} (hx : rg x) (hy : rg y) : Int32.ofInt x ≤ Int32.ofInt y ↔ x ≤ y := by
  rw [Int32.le_iff_toInt_le, Int32.toInt_ofInt_of_le (by omega) (by omega), Int32.toInt_ofInt_of_le (by omega) (by omega)]
theorem i32_eq {x y : Int} (hx : rg x) (hy : rg y) : Int32.ofInt x = Int32.ofInt y ↔ x = y := by
  rw [← Int32.toInt_inj, Int32.toInt_ofInt_of_le (by omega) (by omega), Int32.toInt_ofInt_of_le (by omega) (by omega)]
theorem i32_in {i : Int} {n : Nat} (h0 : 0 ≤ i) (h1 : i < n) (hr : rg i) : vp_in (Int32.ofInt i) n := by
  rw [vp_in_iff, Int32.toInt_ofInt_of_le (by omega) (by omega)]
  exact ⟨h0, h1⟩
theorem i32_cl {i : Int} (hr : rg i) : (Int32.ofInt i).toNatClampNeg = i.toNat := Int32.toNatClampNeg_ofInt_of_le (by omega) (by omega)
theorem i32_div {x y : Int} (hx : rg x) (hy : rg y) (h : 0 < y) : Int32.ofInt x / Int32.ofInt y = Int32.ofInt (x.tdiv y) := by
  rw [Int32.ofInt_tdiv]
  · show -2147483648 ≤ x; omega
  · show x ≤ 2147483647; omega
  · show -2147483648 ≤ y; omega
  · show y ≤ 2147483647; omega
theorem i32_ne0 {y : Int} (hy : rg y) (h : 0 < y) : ¬ Int32.ofInt y = 0 := by
  intro q
  have := (i32_eq (x := y) (y := 0) hy ⟨by decide, by decide⟩).mp q
  omega
theorem i32_rem {x y : Int} (hx : rg x) (hy : rg y) (h : 0 < y) : Int32.ofInt x - Int32.ofInt x / Int32.ofInt y * Int32.ofInt y = Int32.ofInt (x.tmod y) := by
  rw [i32_div hx hy h, ← Int32.ofInt_mul, ← Int32.ofInt_sub]
  congr 1
  have := Int.mul_tdiv_add_tmod x y
  rw [Int.mul_comm] at this
  omega
theorem i32_cmp {x y : Int} (hx : rg x) (hy : rg y) : lg_cmp (Int64.ofInt x) (Int64.ofInt y) = Int32.ofInt (if x < y then -1 else if x = y then 0 else 1) := by
  have e1 : Int64.ofInt y < Int64.ofInt x ↔ y < x := by
    rw [Int64.lt_iff_toInt_lt, Int64.toInt_ofInt_of_le (by omega) (by omega), Int64.toInt_ofInt_of_le (by omega) (by omega)]
  have e2 : Int64.ofInt x = Int64.ofInt y ↔ x = y := by
    rw [← Int64.toInt_inj, Int64.toInt_ofInt_of_le (by omega) (by omega), Int64.toInt_ofInt_of_le (by omega) (by omega)]
  unfold lg_cmp
  rcases Int.lt_trichotomy x y with h | h | h
  · have n1 : ¬ y < x := by omega
    have n2 : ¬ x = y := by omega
    simp [e1, e2, h, n1, n2]
  · subst h
    simp
  · have n1 : ¬ x < y := by omega
    have n2 : ¬ x = y := by omega
    simp [e1, h, n1, n2]
