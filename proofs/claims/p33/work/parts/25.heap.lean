/-! the heap behind the constructors: cells by number. A: the arrays as functions, F: the whole numbers that objects hold (16 * cell + field), q: the script and the room used. Cell 0: the shop -/
def tab (n : Nat) (f : Nat → Int) : List Int := (List.range n).map f
theorem tab_len {n : Nat} {f : Nat → Int} : (tab n f).length = n := by simp [tab]
theorem tab_get {n i : Nat} {f : Nat → Int} {d : Int} (h : i < n) : (tab n f).getD i d = f i := by
  unfold tab
  rw [List.getD_eq_getElem?_getD, List.getElem?_map, List.getElem?_range h]
  rfl
def uq (f : Nat → Int) (i : Nat) (v : Int) : Nat → Int := fun j => if j = i then v else f j
theorem uq_s {f : Nat → Int} {i : Nat} {v : Int} : uq f i v i = v := by simp [uq]
theorem uq_n {f : Nat → Int} {i j : Nat} {v : Int} (h : j ≠ i) : uq f i v j = f j := by simp [uq, h]
theorem tab_set {n i : Nat} {f : Nat → Int} {v : Int} : (tab n f).set i v = tab n (uq f i v) := by
  apply List.ext_getElem?
  intro j
  unfold tab
  rw [List.getElem?_set, List.getElem?_map, List.getElem?_map, List.length_map, List.length_range]
  by_cases h : i = j
  · subst h
    by_cases hi : i < n
    · rw [if_pos rfl, if_pos hi, List.getElem?_range hi]; simp [uq]
    · rw [if_pos rfl, if_neg hi, List.getElem?_eq_none (by simpa using hi)]; rfl
  · rw [if_neg h]
    by_cases hj : j < n
    · rw [List.getElem?_range hj]; simp only [Option.map_some, uq_n (fun z => h z.symm)]
    · rw [List.getElem?_eq_none (by simpa using hj)]; rfl
theorem tab_congr {n : Nat} {f g : Nat → Int} (h : ∀ j, j < n → f j = g j) : tab n f = tab n g := by
  unfold tab
  exact List.map_congr_left fun j hj => h j (List.mem_range.mp hj)
theorem tab_rep {n : Nat} {v : Int} : List.replicate n v = tab n (fun _ => v) := by
  unfold tab
  induction n with
  | zero => rfl
  | succ n ih => rw [List.range_succ, List.map_append, ← ih, List.replicate_succ']; rfl
def mk (A : Nat → Nat → Int) (F : Nat → Int) (q : List Int × Nat) : AH := ([
  .inl (8, [.inr (.inr (.inr (some (some 1)))), .inr (.inr (.inr (some (some 4)))), .inr (.inr (.inr (some (some 21)))), .inr (.inr (.inr (some (some 28)))), .inr (.inr (.inr (some (some 36))))]),
  .inl (7, [.inr (.inr (.inr (some (some 2)))), .inl (F 17), .inl (F 18)]),
  .inl (1, [.inl 5, .inr (.inr (.inr (some (some 3))))]),
  .inr (0, tab 25 (A 3)),
  .inl (6, [.inr (.inr (.inr (some (some 5)))), .inr (.inr (.inr (some (some 7)))), .inr (.inr (.inr (some (some 9)))), .inr (.inr (.inr (some (some 11)))), .inr (.inr (.inr (some (some 13)))), .inr (.inr (.inr (some (some 15)))), .inr (.inr (.inr (some (some 17)))), .inr (.inr (.inr (some (some 19)))), .inl (F 72), .inl (F 73), .inl (F 74), .inl (F 75), .inl (F 76)]),
  .inl (1, [.inl 10, .inr (.inr (.inr (some (some 6))))]),
  .inr (0, tab 100 (A 6)),
  .inl (5, [.inr (.inr (.inr (some (some 8))))]),
  .inr (0, tab 10 (A 8)),
  .inl (5, [.inr (.inr (.inr (some (some 10))))]),
  .inr (0, tab 10 (A 10)),
  .inl (5, [.inr (.inr (.inr (some (some 12))))]),
  .inr (0, tab 10 (A 12)),
  .inl (5, [.inr (.inr (.inr (some (some 14))))]),
  .inr (0, tab 10 (A 14)),
  .inl (5, [.inr (.inr (.inr (some (some 16))))]),
  .inr (0, tab 60 (A 16)),
  .inl (5, [.inr (.inr (.inr (some (some 18))))]),
  .inr (0, tab 60 (A 18)),
  .inl (1, [.inl 5, .inr (.inr (.inr (some (some 20))))]),
  .inr (0, tab 300 (A 20)),
  .inl (0, [.inr (.inr (.inr (some (some 22)))), .inr (.inr (.inr (some (some 24)))), .inr (.inr (.inr (some (some 26))))]),
  .inl (1, [.inl 5, .inr (.inr (.inr (some (some 23))))]),
  .inr (0, tab 25 (A 23)),
  .inl (5, [.inr (.inr (.inr (some (some 25))))]),
  .inr (0, tab 5 (A 25)),
  .inl (5, [.inr (.inr (.inr (some (some 27))))]),
  .inr (0, tab 5 (A 27)),
  .inl (2, [.inr (.inr (.inr (some (some 29))))]),
  .inl (3, [.inr (.inr (.inr (some (some 30)))), .inr (.inr (.inr (some (some 32)))), .inr (.inr (.inr (some (some 34)))), .inl (F 467)]),
  .inl (1, [.inl 14, .inr (.inr (.inr (some (some 31))))]),
  .inr (0, tab 196 (A 31)),
  .inl (5, [.inr (.inr (.inr (some (some 33))))]),
  .inr (0, tab 14 (A 33)),
  .inl (5, [.inr (.inr (.inr (some (some 35))))]),
  .inr (0, tab 14 (A 35)),
  .inl (4, [.inr (.inr (.inr (some (some 37)))), .inr (.inr (.inr (some (some 44)))), .inr (.inr (.inr (some (some 46)))), .inl (F 579), .inl (F 580), .inl (F 581), .inl (F 582), .inl (F 583)]),
  .inl (3, [.inr (.inr (.inr (some (some 38)))), .inr (.inr (.inr (some (some 40)))), .inr (.inr (.inr (some (some 42)))), .inl (F 595)]),
  .inl (1, [.inl 14, .inr (.inr (.inr (some (some 39))))]),
  .inr (0, tab 196 (A 39)),
  .inl (5, [.inr (.inr (.inr (some (some 41))))]),
  .inr (0, tab 14 (A 41)),
  .inl (5, [.inr (.inr (.inr (some (some 43))))]),
  .inr (0, tab 14 (A 43)),
  .inl (1, [.inl 5, .inr (.inr (.inr (some (some 45))))]),
  .inr (0, tab 25 (A 45)),
  .inl (1, [.inl 5, .inr (.inr (.inr (some (some 47))))]),
  .inr (0, tab 25 (A 47))], q)
/-- an array anew -/
def ua (A : Nat → Nat → Int) (k : Nat) (f : Nat → Int) : Nat → Nat → Int := fun j => if j = k then f else A j
/-- a place of an array anew -/
def u2 (A : Nat → Nat → Int) (k i : Nat) (v : Int) : Nat → Nat → Int := ua A k (uq (A k) i v)
def uf (F : Nat → Int) (k : Nat) (v : Int) : Nat → Int := fun j => if j = k then v else F j
theorem ua_s {A : Nat → Nat → Int} {k : Nat} {f : Nat → Int} : ua A k f k = f := by simp [ua]
theorem ua_n {A : Nat → Nat → Int} {k j : Nat} {f : Nat → Int} (h : j ≠ k) : ua A k f j = A j := by simp [ua, h]
theorem u2_s {A : Nat → Nat → Int} {k i : Nat} {v : Int} : u2 A k i v k = uq (A k) i v := ua_s
theorem u2_n {A : Nat → Nat → Int} {k j i : Nat} {v : Int} (h : j ≠ k) : u2 A k i v j = A j := ua_n h
theorem uf_s {F : Nat → Int} {k : Nat} {v : Int} : uf F k v k = v := by simp [uf]
theorem uf_n {F : Nat → Int} {k j : Nat} {v : Int} (h : j ≠ k) : uf F k v j = F j := by simp [uf, h]
theorem ua_ua {A : Nat → Nat → Int} {k : Nat} {v w : Nat → Int} : ua (ua A k v) k w = ua A k w := by funext j; by_cases h : j = k <;> simp [ua, h]
theorem uf_uf {F : Nat → Int} {k : Nat} {v w : Int} : uf (uf F k v) k w = uf F k w := by funext j; by_cases h : j = k <;> simp [uf, h]
theorem ua_id {A : Nat → Nat → Int} {k : Nat} : ua A k (A k) = A := by funext j; by_cases h : j = k <;> simp [ua, h]
theorem uf_id {F : Nat → Int} {k : Nat} : uf F k (F k) = F := by funext j; by_cases h : j = k <;> simp [uf, h]
section HEAP
variable {A : Nat → Nat → Int} {F : Nat → Int} {q : List Int × Nat}
theorem g_0_0 : gf (mk A F q) 0 8 0 = some (.inr (.inr (.inr (some (some 1))))) := rfl
theorem g_0_1 : gf (mk A F q) 0 8 1 = some (.inr (.inr (.inr (some (some 4))))) := rfl
theorem g_0_2 : gf (mk A F q) 0 8 2 = some (.inr (.inr (.inr (some (some 21))))) := rfl
theorem g_0_3 : gf (mk A F q) 0 8 3 = some (.inr (.inr (.inr (some (some 28))))) := rfl
theorem g_0_4 : gf (mk A F q) 0 8 4 = some (.inr (.inr (.inr (some (some 36))))) := rfl
theorem g_1_0 : gf (mk A F q) 1 7 0 = some (.inr (.inr (.inr (some (some 2))))) := rfl
theorem g_1_1 : gf (mk A F q) 1 7 1 = some (.inl (F 17)) := rfl
theorem s_1_1 {z : Int} : sf (mk A F q) 1 7 1 (.inl z) = some (mk A (uf F 17 z) q) := rfl
theorem g_1_2 : gf (mk A F q) 1 7 2 = some (.inl (F 18)) := rfl
theorem s_1_2 {z : Int} : sf (mk A F q) 1 7 2 (.inl z) = some (mk A (uf F 18 z) q) := rfl
theorem g_2_0 : gf (mk A F q) 2 1 0 = some (.inl 5) := rfl
theorem g_2_1 : gf (mk A F q) 2 1 1 = some (.inr (.inr (.inr (some (some 3))))) := rfl
theorem a_3 : ga (mk A F q) 3 0 = some (tab 25 (A 3)) := rfl
theorem b_3 {f : Nat → Int} : sa (mk A F q) 3 0 (tab 25 f) = mk (ua A 3 f) F q := rfl
theorem d_3 {i : Nat} {v : Int} : sa (mk A F q) 3 0 ((tab 25 (A 3)).set i v) = mk (u2 A 3 i v) F q := by rw [tab_set]; rfl
theorem g_4_0 : gf (mk A F q) 4 6 0 = some (.inr (.inr (.inr (some (some 5))))) := rfl
theorem g_4_1 : gf (mk A F q) 4 6 1 = some (.inr (.inr (.inr (some (some 7))))) := rfl
theorem g_4_2 : gf (mk A F q) 4 6 2 = some (.inr (.inr (.inr (some (some 9))))) := rfl
theorem g_4_3 : gf (mk A F q) 4 6 3 = some (.inr (.inr (.inr (some (some 11))))) := rfl
theorem g_4_4 : gf (mk A F q) 4 6 4 = some (.inr (.inr (.inr (some (some 13))))) := rfl
theorem g_4_5 : gf (mk A F q) 4 6 5 = some (.inr (.inr (.inr (some (some 15))))) := rfl
theorem g_4_6 : gf (mk A F q) 4 6 6 = some (.inr (.inr (.inr (some (some 17))))) := rfl
theorem g_4_7 : gf (mk A F q) 4 6 7 = some (.inr (.inr (.inr (some (some 19))))) := rfl
theorem g_4_8 : gf (mk A F q) 4 6 8 = some (.inl (F 72)) := rfl
theorem s_4_8 {z : Int} : sf (mk A F q) 4 6 8 (.inl z) = some (mk A (uf F 72 z) q) := rfl
theorem g_4_9 : gf (mk A F q) 4 6 9 = some (.inl (F 73)) := rfl
theorem s_4_9 {z : Int} : sf (mk A F q) 4 6 9 (.inl z) = some (mk A (uf F 73 z) q) := rfl
theorem g_4_10 : gf (mk A F q) 4 6 10 = some (.inl (F 74)) := rfl
theorem s_4_10 {z : Int} : sf (mk A F q) 4 6 10 (.inl z) = some (mk A (uf F 74 z) q) := rfl
theorem g_4_11 : gf (mk A F q) 4 6 11 = some (.inl (F 75)) := rfl
theorem s_4_11 {z : Int} : sf (mk A F q) 4 6 11 (.inl z) = some (mk A (uf F 75 z) q) := rfl
theorem g_4_12 : gf (mk A F q) 4 6 12 = some (.inl (F 76)) := rfl
theorem s_4_12 {z : Int} : sf (mk A F q) 4 6 12 (.inl z) = some (mk A (uf F 76 z) q) := rfl
theorem g_5_0 : gf (mk A F q) 5 1 0 = some (.inl 10) := rfl
theorem g_5_1 : gf (mk A F q) 5 1 1 = some (.inr (.inr (.inr (some (some 6))))) := rfl
theorem a_6 : ga (mk A F q) 6 0 = some (tab 100 (A 6)) := rfl
theorem b_6 {f : Nat → Int} : sa (mk A F q) 6 0 (tab 100 f) = mk (ua A 6 f) F q := rfl
theorem d_6 {i : Nat} {v : Int} : sa (mk A F q) 6 0 ((tab 100 (A 6)).set i v) = mk (u2 A 6 i v) F q := by rw [tab_set]; rfl
theorem g_7_0 : gf (mk A F q) 7 5 0 = some (.inr (.inr (.inr (some (some 8))))) := rfl
theorem a_8 : ga (mk A F q) 8 0 = some (tab 10 (A 8)) := rfl
theorem b_8 {f : Nat → Int} : sa (mk A F q) 8 0 (tab 10 f) = mk (ua A 8 f) F q := rfl
theorem d_8 {i : Nat} {v : Int} : sa (mk A F q) 8 0 ((tab 10 (A 8)).set i v) = mk (u2 A 8 i v) F q := by rw [tab_set]; rfl
theorem g_9_0 : gf (mk A F q) 9 5 0 = some (.inr (.inr (.inr (some (some 10))))) := rfl
theorem a_10 : ga (mk A F q) 10 0 = some (tab 10 (A 10)) := rfl
theorem b_10 {f : Nat → Int} : sa (mk A F q) 10 0 (tab 10 f) = mk (ua A 10 f) F q := rfl
theorem d_10 {i : Nat} {v : Int} : sa (mk A F q) 10 0 ((tab 10 (A 10)).set i v) = mk (u2 A 10 i v) F q := by rw [tab_set]; rfl
theorem g_11_0 : gf (mk A F q) 11 5 0 = some (.inr (.inr (.inr (some (some 12))))) := rfl
theorem a_12 : ga (mk A F q) 12 0 = some (tab 10 (A 12)) := rfl
theorem b_12 {f : Nat → Int} : sa (mk A F q) 12 0 (tab 10 f) = mk (ua A 12 f) F q := rfl
theorem d_12 {i : Nat} {v : Int} : sa (mk A F q) 12 0 ((tab 10 (A 12)).set i v) = mk (u2 A 12 i v) F q := by rw [tab_set]; rfl
theorem g_13_0 : gf (mk A F q) 13 5 0 = some (.inr (.inr (.inr (some (some 14))))) := rfl
theorem a_14 : ga (mk A F q) 14 0 = some (tab 10 (A 14)) := rfl
theorem b_14 {f : Nat → Int} : sa (mk A F q) 14 0 (tab 10 f) = mk (ua A 14 f) F q := rfl
theorem d_14 {i : Nat} {v : Int} : sa (mk A F q) 14 0 ((tab 10 (A 14)).set i v) = mk (u2 A 14 i v) F q := by rw [tab_set]; rfl
theorem g_15_0 : gf (mk A F q) 15 5 0 = some (.inr (.inr (.inr (some (some 16))))) := rfl
theorem a_16 : ga (mk A F q) 16 0 = some (tab 60 (A 16)) := rfl
theorem b_16 {f : Nat → Int} : sa (mk A F q) 16 0 (tab 60 f) = mk (ua A 16 f) F q := rfl
theorem d_16 {i : Nat} {v : Int} : sa (mk A F q) 16 0 ((tab 60 (A 16)).set i v) = mk (u2 A 16 i v) F q := by rw [tab_set]; rfl
theorem g_17_0 : gf (mk A F q) 17 5 0 = some (.inr (.inr (.inr (some (some 18))))) := rfl
theorem a_18 : ga (mk A F q) 18 0 = some (tab 60 (A 18)) := rfl
theorem b_18 {f : Nat → Int} : sa (mk A F q) 18 0 (tab 60 f) = mk (ua A 18 f) F q := rfl
theorem d_18 {i : Nat} {v : Int} : sa (mk A F q) 18 0 ((tab 60 (A 18)).set i v) = mk (u2 A 18 i v) F q := by rw [tab_set]; rfl
theorem g_19_0 : gf (mk A F q) 19 1 0 = some (.inl 5) := rfl
theorem g_19_1 : gf (mk A F q) 19 1 1 = some (.inr (.inr (.inr (some (some 20))))) := rfl
theorem a_20 : ga (mk A F q) 20 0 = some (tab 300 (A 20)) := rfl
theorem b_20 {f : Nat → Int} : sa (mk A F q) 20 0 (tab 300 f) = mk (ua A 20 f) F q := rfl
theorem d_20 {i : Nat} {v : Int} : sa (mk A F q) 20 0 ((tab 300 (A 20)).set i v) = mk (u2 A 20 i v) F q := by rw [tab_set]; rfl
theorem g_21_0 : gf (mk A F q) 21 0 0 = some (.inr (.inr (.inr (some (some 22))))) := rfl
theorem g_21_1 : gf (mk A F q) 21 0 1 = some (.inr (.inr (.inr (some (some 24))))) := rfl
theorem g_21_2 : gf (mk A F q) 21 0 2 = some (.inr (.inr (.inr (some (some 26))))) := rfl
theorem g_22_0 : gf (mk A F q) 22 1 0 = some (.inl 5) := rfl
theorem g_22_1 : gf (mk A F q) 22 1 1 = some (.inr (.inr (.inr (some (some 23))))) := rfl
theorem a_23 : ga (mk A F q) 23 0 = some (tab 25 (A 23)) := rfl
theorem b_23 {f : Nat → Int} : sa (mk A F q) 23 0 (tab 25 f) = mk (ua A 23 f) F q := rfl
theorem d_23 {i : Nat} {v : Int} : sa (mk A F q) 23 0 ((tab 25 (A 23)).set i v) = mk (u2 A 23 i v) F q := by rw [tab_set]; rfl
theorem g_24_0 : gf (mk A F q) 24 5 0 = some (.inr (.inr (.inr (some (some 25))))) := rfl
theorem a_25 : ga (mk A F q) 25 0 = some (tab 5 (A 25)) := rfl
theorem b_25 {f : Nat → Int} : sa (mk A F q) 25 0 (tab 5 f) = mk (ua A 25 f) F q := rfl
theorem d_25 {i : Nat} {v : Int} : sa (mk A F q) 25 0 ((tab 5 (A 25)).set i v) = mk (u2 A 25 i v) F q := by rw [tab_set]; rfl
theorem g_26_0 : gf (mk A F q) 26 5 0 = some (.inr (.inr (.inr (some (some 27))))) := rfl
theorem a_27 : ga (mk A F q) 27 0 = some (tab 5 (A 27)) := rfl
theorem b_27 {f : Nat → Int} : sa (mk A F q) 27 0 (tab 5 f) = mk (ua A 27 f) F q := rfl
theorem d_27 {i : Nat} {v : Int} : sa (mk A F q) 27 0 ((tab 5 (A 27)).set i v) = mk (u2 A 27 i v) F q := by rw [tab_set]; rfl
theorem g_28_0 : gf (mk A F q) 28 2 0 = some (.inr (.inr (.inr (some (some 29))))) := rfl
theorem g_29_0 : gf (mk A F q) 29 3 0 = some (.inr (.inr (.inr (some (some 30))))) := rfl
theorem g_29_1 : gf (mk A F q) 29 3 1 = some (.inr (.inr (.inr (some (some 32))))) := rfl
theorem g_29_2 : gf (mk A F q) 29 3 2 = some (.inr (.inr (.inr (some (some 34))))) := rfl
theorem g_29_3 : gf (mk A F q) 29 3 3 = some (.inl (F 467)) := rfl
theorem s_29_3 {z : Int} : sf (mk A F q) 29 3 3 (.inl z) = some (mk A (uf F 467 z) q) := rfl
theorem g_30_0 : gf (mk A F q) 30 1 0 = some (.inl 14) := rfl
theorem g_30_1 : gf (mk A F q) 30 1 1 = some (.inr (.inr (.inr (some (some 31))))) := rfl
theorem a_31 : ga (mk A F q) 31 0 = some (tab 196 (A 31)) := rfl
theorem b_31 {f : Nat → Int} : sa (mk A F q) 31 0 (tab 196 f) = mk (ua A 31 f) F q := rfl
theorem d_31 {i : Nat} {v : Int} : sa (mk A F q) 31 0 ((tab 196 (A 31)).set i v) = mk (u2 A 31 i v) F q := by rw [tab_set]; rfl
theorem g_32_0 : gf (mk A F q) 32 5 0 = some (.inr (.inr (.inr (some (some 33))))) := rfl
theorem a_33 : ga (mk A F q) 33 0 = some (tab 14 (A 33)) := rfl
theorem b_33 {f : Nat → Int} : sa (mk A F q) 33 0 (tab 14 f) = mk (ua A 33 f) F q := rfl
theorem d_33 {i : Nat} {v : Int} : sa (mk A F q) 33 0 ((tab 14 (A 33)).set i v) = mk (u2 A 33 i v) F q := by rw [tab_set]; rfl
theorem g_34_0 : gf (mk A F q) 34 5 0 = some (.inr (.inr (.inr (some (some 35))))) := rfl
theorem a_35 : ga (mk A F q) 35 0 = some (tab 14 (A 35)) := rfl
theorem b_35 {f : Nat → Int} : sa (mk A F q) 35 0 (tab 14 f) = mk (ua A 35 f) F q := rfl
theorem d_35 {i : Nat} {v : Int} : sa (mk A F q) 35 0 ((tab 14 (A 35)).set i v) = mk (u2 A 35 i v) F q := by rw [tab_set]; rfl
theorem g_36_0 : gf (mk A F q) 36 4 0 = some (.inr (.inr (.inr (some (some 37))))) := rfl
theorem g_36_1 : gf (mk A F q) 36 4 1 = some (.inr (.inr (.inr (some (some 44))))) := rfl
theorem g_36_2 : gf (mk A F q) 36 4 2 = some (.inr (.inr (.inr (some (some 46))))) := rfl
theorem g_36_3 : gf (mk A F q) 36 4 3 = some (.inl (F 579)) := rfl
theorem s_36_3 {z : Int} : sf (mk A F q) 36 4 3 (.inl z) = some (mk A (uf F 579 z) q) := rfl
theorem g_36_4 : gf (mk A F q) 36 4 4 = some (.inl (F 580)) := rfl
theorem s_36_4 {z : Int} : sf (mk A F q) 36 4 4 (.inl z) = some (mk A (uf F 580 z) q) := rfl
theorem g_36_5 : gf (mk A F q) 36 4 5 = some (.inl (F 581)) := rfl
theorem s_36_5 {z : Int} : sf (mk A F q) 36 4 5 (.inl z) = some (mk A (uf F 581 z) q) := rfl
theorem g_36_6 : gf (mk A F q) 36 4 6 = some (.inl (F 582)) := rfl
theorem s_36_6 {z : Int} : sf (mk A F q) 36 4 6 (.inl z) = some (mk A (uf F 582 z) q) := rfl
theorem g_36_7 : gf (mk A F q) 36 4 7 = some (.inl (F 583)) := rfl
theorem s_36_7 {z : Int} : sf (mk A F q) 36 4 7 (.inl z) = some (mk A (uf F 583 z) q) := rfl
theorem g_37_0 : gf (mk A F q) 37 3 0 = some (.inr (.inr (.inr (some (some 38))))) := rfl
theorem g_37_1 : gf (mk A F q) 37 3 1 = some (.inr (.inr (.inr (some (some 40))))) := rfl
theorem g_37_2 : gf (mk A F q) 37 3 2 = some (.inr (.inr (.inr (some (some 42))))) := rfl
theorem g_37_3 : gf (mk A F q) 37 3 3 = some (.inl (F 595)) := rfl
theorem s_37_3 {z : Int} : sf (mk A F q) 37 3 3 (.inl z) = some (mk A (uf F 595 z) q) := rfl
theorem g_38_0 : gf (mk A F q) 38 1 0 = some (.inl 14) := rfl
theorem g_38_1 : gf (mk A F q) 38 1 1 = some (.inr (.inr (.inr (some (some 39))))) := rfl
theorem a_39 : ga (mk A F q) 39 0 = some (tab 196 (A 39)) := rfl
theorem b_39 {f : Nat → Int} : sa (mk A F q) 39 0 (tab 196 f) = mk (ua A 39 f) F q := rfl
theorem d_39 {i : Nat} {v : Int} : sa (mk A F q) 39 0 ((tab 196 (A 39)).set i v) = mk (u2 A 39 i v) F q := by rw [tab_set]; rfl
theorem g_40_0 : gf (mk A F q) 40 5 0 = some (.inr (.inr (.inr (some (some 41))))) := rfl
theorem a_41 : ga (mk A F q) 41 0 = some (tab 14 (A 41)) := rfl
theorem b_41 {f : Nat → Int} : sa (mk A F q) 41 0 (tab 14 f) = mk (ua A 41 f) F q := rfl
theorem d_41 {i : Nat} {v : Int} : sa (mk A F q) 41 0 ((tab 14 (A 41)).set i v) = mk (u2 A 41 i v) F q := by rw [tab_set]; rfl
theorem g_42_0 : gf (mk A F q) 42 5 0 = some (.inr (.inr (.inr (some (some 43))))) := rfl
theorem a_43 : ga (mk A F q) 43 0 = some (tab 14 (A 43)) := rfl
theorem b_43 {f : Nat → Int} : sa (mk A F q) 43 0 (tab 14 f) = mk (ua A 43 f) F q := rfl
theorem d_43 {i : Nat} {v : Int} : sa (mk A F q) 43 0 ((tab 14 (A 43)).set i v) = mk (u2 A 43 i v) F q := by rw [tab_set]; rfl
theorem g_44_0 : gf (mk A F q) 44 1 0 = some (.inl 5) := rfl
theorem g_44_1 : gf (mk A F q) 44 1 1 = some (.inr (.inr (.inr (some (some 45))))) := rfl
theorem a_45 : ga (mk A F q) 45 0 = some (tab 25 (A 45)) := rfl
theorem b_45 {f : Nat → Int} : sa (mk A F q) 45 0 (tab 25 f) = mk (ua A 45 f) F q := rfl
theorem d_45 {i : Nat} {v : Int} : sa (mk A F q) 45 0 ((tab 25 (A 45)).set i v) = mk (u2 A 45 i v) F q := by rw [tab_set]; rfl
theorem g_46_0 : gf (mk A F q) 46 1 0 = some (.inl 5) := rfl
theorem g_46_1 : gf (mk A F q) 46 1 1 = some (.inr (.inr (.inr (some (some 47))))) := rfl
theorem a_47 : ga (mk A F q) 47 0 = some (tab 25 (A 47)) := rfl
theorem b_47 {f : Nat → Int} : sa (mk A F q) 47 0 (tab 25 f) = mk (ua A 47 f) F q := rfl
theorem d_47 {i : Nat} {v : Int} : sa (mk A F q) 47 0 ((tab 25 (A 47)).set i v) = mk (u2 A 47 i v) F q := by rw [tab_set]; rfl
theorem q_1 : (mk A F q).2.1 = q.1 := rfl
theorem q_2 : (mk A F q).2.2 = q.2 := rfl
end HEAP
theorem rck_of {k q j : Nat} {x : Nat × Nat × Nat × Nat × Nat × Nat} {h : AH} {v : AV} {rest : List AV} (hm : mts[k]? = some x) {c : Nat} (hg : gf h q c j = some v) (ha : rest.all c1 = true) (hk : x.2.2.1 = 2 := by rfl) (hc : x.1 = c := by rfl) : rck k (vR q :: rest) h = true := by
  unfold gf at hg
  split at hg
  · rename_i c9 fs9 hc9
    split at hg
    · rename_i e9
      subst e9
      unfold rck
      rw [hm]
      simp only [List.all_cons, ha, hk, hc9, hc, decide_true, Bool.and_true]
      rfl
    · cases hg
  · cases hg
/-! first locals, receivers -/
theorem lc_0 {a0 : AV} : lcs 0 [a0] = [some a0] := rfl
theorem lc_1 {a0 a1 : AV} : lcs 1 [a0, a1] = [some a0, some a1] := rfl
theorem lc_2 {a0 a1 : AV} : lcs 2 [a0, a1] = [some a0, some a1] := rfl
theorem lc_3 {a0 a1 a2 : AV} : lcs 3 [a0, a1, a2] = [some a0, some a1, some a2, none, none, none] := rfl
theorem lc_4 {a0 a1 a2 a3 a4 : AV} : lcs 4 [a0, a1, a2, a3, a4] = [some a0, some a1, some a2, some a3, some a4, none, none, none, none] := rfl
theorem lc_5 {a0 a1 a2 a3 : AV} : lcs 5 [a0, a1, a2, a3] = [some a0, some a1, some a2, some a3] := rfl
theorem lc_6 {a0 a1 a2 a3 a4 : AV} : lcs 6 [a0, a1, a2, a3, a4] = [some a0, some a1, some a2, some a3, some a4, none] := rfl
theorem lc_7 {a0 a1 : AV} : lcs 7 [a0, a1] = [some a0, some a1, none, none, none] := rfl
theorem lc_8 {a0 a1 a2 : AV} : lcs 8 [a0, a1, a2] = [some a0, some a1, some a2] := rfl
theorem lc_9 {a0 : AV} : lcs 9 [a0] = [some a0, none, none] := rfl
theorem lc_10 {a0 a1 a2 : AV} : lcs 10 [a0, a1, a2] = [some a0, some a1, some a2] := rfl
theorem lc_11 {a0 a1 a2 : AV} : lcs 11 [a0, a1, a2] = [some a0, some a1, some a2, none] := rfl
theorem lc_12 {a0 a1 a2 a3 : AV} : lcs 12 [a0, a1, a2, a3] = [some a0, some a1, some a2, some a3, none] := rfl
theorem lc_13 {a0 a1 a2 a3 : AV} : lcs 13 [a0, a1, a2, a3] = [some a0, some a1, some a2, some a3] := rfl
theorem lc_14 {a0 a1 : AV} : lcs 14 [a0, a1] = [some a0, some a1, none] := rfl
theorem lc_15 {a0 : AV} : lcs 15 [a0] = [some a0] := rfl
theorem lc_16 {a0 a1 : AV} : lcs 16 [a0, a1] = [some a0, some a1, none, none, none, none, none] := rfl
theorem lc_17 {a0 a1 a2 a3 : AV} : lcs 17 [a0, a1, a2, a3] = [some a0, some a1, some a2, some a3, none, none, none, none] := rfl
theorem lc_18 {a0 : AV} : lcs 18 [a0] = [some a0] := rfl
theorem lc_19 {a0 a1 : AV} : lcs 19 [a0, a1] = [some a0, some a1] := rfl
theorem lc_20 {a0 a1 a2 a3 : AV} : lcs 20 [a0, a1, a2, a3] = [some a0, some a1, some a2, some a3] := rfl
theorem lc_21 {a0 a1 a2 : AV} : lcs 21 [a0, a1, a2] = [some a0, some a1, some a2] := rfl
theorem lc_22 {a0 a1 a2 : AV} : lcs 22 [a0, a1, a2] = [some a0, some a1, some a2] := rfl
theorem lc_23 {a0 a1 a2 a3 : AV} : lcs 23 [a0, a1, a2, a3] = [some a0, some a1, some a2, some a3, none, none] := rfl
theorem lc_24 {a0 a1 a2 : AV} : lcs 24 [a0, a1, a2] = [some a0, some a1, some a2, none, none, none, none] := rfl
theorem lc_25 {a0 a1 a2 a3 : AV} : lcs 25 [a0, a1, a2, a3] = [some a0, some a1, some a2, some a3, none, none, none, none] := rfl
theorem lc_26 {a0 : AV} : lcs 26 [a0] = [some a0] := rfl
theorem lc_27 {a0 a1 a2 : AV} : lcs 27 [a0, a1, a2] = [some a0, some a1, some a2, none, none] := rfl
theorem lc_28 {a0 a1 a2 : AV} : lcs 28 [a0, a1, a2] = [some a0, some a1, some a2, none, none] := rfl
theorem lc_29 {a0 a1 : AV} : lcs 29 [a0, a1] = [some a0, some a1] := rfl
theorem lc_30 {a0 a1 a2 : AV} : lcs 30 [a0, a1, a2] = [some a0, some a1, some a2, none, none, none] := rfl
theorem lc_31 {a0 a1 a2 : AV} : lcs 31 [a0, a1, a2] = [some a0, some a1, some a2, none, none, none, none] := rfl
theorem lc_32 {a0 a1 a2 a3 a4 a5 : AV} : lcs 32 [a0, a1, a2, a3, a4, a5] = [some a0, some a1, some a2, some a3, some a4, some a5, none, none] := rfl
theorem lc_33 {a0 a1 a2 : AV} : lcs 33 [a0, a1, a2] = [some a0, some a1, some a2, none] := rfl
theorem lc_34 {a0 a1 : AV} : lcs 34 [a0, a1] = [some a0, some a1] := rfl
theorem lc_35 {a0 a1 a2 : AV} : lcs 35 [a0, a1, a2] = [some a0, some a1, some a2] := rfl
theorem lc_36 {a0 : AV} : lcs 36 [a0] = [some a0, none, none, none] := rfl
theorem lc_37 {a0 : AV} : lcs 37 [a0] = [some a0, none, none, none] := rfl
theorem lc_38 {a0 a1 : AV} : lcs 38 [a0, a1] = [some a0, some a1] := rfl
theorem lc_39 {a0 a1 : AV} : lcs 39 [a0, a1] = [some a0, some a1] := rfl
theorem lc_40 {a0 a1 a2 : AV} : lcs 40 [a0, a1, a2] = [some a0, some a1, some a2] := rfl
theorem lc_41 {a0 a1 : AV} : lcs 41 [a0, a1] = [some a0, some a1, none] := rfl
theorem lc_42 {a0 : AV} : lcs 42 [a0] = [some a0] := rfl
theorem lc_43 {a0 : AV} : lcs 43 [a0] = [some a0] := rfl
theorem lc_44 {a0 a1 : AV} : lcs 44 [a0, a1] = [some a0, some a1, none, none, none, none] := rfl
theorem lc_45 {a0 a1 : AV} : lcs 45 [a0, a1] = [some a0, some a1, none, none] := rfl
theorem lc_46 {a0 : AV} : lcs 46 [a0] = [some a0, none] := rfl
theorem lc_47 {a0 a1 a2 : AV} : lcs 47 [a0, a1, a2] = [some a0, some a1, some a2, none, none, none, none, none, none] := rfl
theorem lc_48 {a0 a1 a2 : AV} : lcs 48 [a0, a1, a2] = [some a0, some a1, some a2, none, none, none, none] := rfl
theorem lc_49 {a0 a1 : AV} : lcs 49 [a0, a1] = [some a0, some a1, none, none, none] := rfl
theorem lc_50 {a0 : AV} : lcs 50 [a0] = [some a0, none, none] := rfl
theorem lc_51 {a0 a1 a2 a3 : AV} : lcs 51 [a0, a1, a2, a3] = [some a0, some a1, some a2, some a3, none, none] := rfl
theorem lc_52 {a0 : AV} : lcs 52 [a0] = [some a0] := rfl
theorem lc_53 {a0 a1 : AV} : lcs 53 [a0, a1] = [some a0, some a1] := rfl
theorem lc_54 {a0 a1 : AV} : lcs 54 [a0, a1] = [some a0, some a1] := rfl
theorem lc_55 {a0 a1 a2 : AV} : lcs 55 [a0, a1, a2] = [some a0, some a1, some a2] := rfl
theorem lc_56 {a0 a1 a2 : AV} : lcs 56 [a0, a1, a2] = [some a0, some a1, some a2, none, none] := rfl
theorem lc_57 {a0 a1 a2 : AV} : lcs 57 [a0, a1, a2] = [some a0, some a1, some a2, none] := rfl
theorem lc_58 {a0 a1 a2 a3 : AV} : lcs 58 [a0, a1, a2, a3] = [some a0, some a1, some a2, some a3, none, none, none] := rfl
theorem lc_59 {a0 a1 : AV} : lcs 59 [a0, a1] = [some a0, some a1, none] := rfl
theorem lc_60 {a0 : AV} : lcs 60 [a0] = [some a0, none, none, none] := rfl
theorem lc_61 {a0 a1 a2 : AV} : lcs 61 [a0, a1, a2] = [some a0, some a1, some a2, none, none] := rfl
theorem lc_62 {a0 : AV} : lcs 62 [a0] = [some a0] := rfl
theorem lc_63 {a0 a1 a2 : AV} : lcs 63 [a0, a1, a2] = [some a0, some a1, some a2] := rfl
theorem lc_64 {a0 : AV} : lcs 64 [a0] = [some a0] := rfl
theorem lc_65 {a0 : AV} : lcs 65 [a0] = [some a0] := rfl
theorem lc_66 {a0 a1 a2 : AV} : lcs 66 [a0, a1, a2] = [some a0, some a1, some a2] := rfl
theorem lc_67 {a0 a1 a2 a3 : AV} : lcs 67 [a0, a1, a2, a3] = [some a0, some a1, some a2, some a3] := rfl
theorem lc_68 {a0 a1 a2 : AV} : lcs 68 [a0, a1, a2] = [some a0, some a1, some a2, none, none] := rfl
theorem lc_69 {a0 : AV} : lcs 69 [a0] = [some a0, none, none, none] := rfl
theorem lc_70 {a0 a1 : AV} : lcs 70 [a0, a1] = [some a0, some a1, none, none] := rfl
theorem lc_71 {a0 a1 : AV} : lcs 71 [a0, a1] = [some a0, some a1, none, none] := rfl
theorem lc_72 {a0 : AV} : lcs 72 [a0] = [some a0, none, none] := rfl
theorem lc_73 {a0 : AV} : lcs 73 [a0] = [some a0, none, none] := rfl
theorem lc_74 {a0 a1 a2 : AV} : lcs 74 [a0, a1, a2] = [some a0, some a1, some a2, none, none, none, none] := rfl
theorem lc_75 {a0 : AV} : lcs 75 [a0] = [some a0] := rfl
theorem lc_76 {a0 a1 a2 : AV} : lcs 76 [a0, a1, a2] = [some a0, some a1, some a2, none] := rfl
theorem lc_77 {a0 a1 a2 a3 : AV} : lcs 77 [a0, a1, a2, a3] = [some a0, some a1, some a2, some a3, none] := rfl
theorem lc_78 {a0 a1 a2 a3 : AV} : lcs 78 [a0, a1, a2, a3] = [some a0, some a1, some a2, some a3, none, none] := rfl
theorem lc_79 {a0 a1 a2 : AV} : lcs 79 [a0, a1, a2] = [some a0, some a1, some a2] := rfl
theorem lc_80 {a0 : AV} : lcs 80 [a0] = [some a0] := rfl
theorem lc_81 {a0 : AV} : lcs 81 [a0] = [some a0] := rfl
theorem lc_82 {a0 : AV} : lcs 82 [a0] = [some a0] := rfl
theorem lc_83 {a0 a1 a2 : AV} : lcs 83 [a0, a1, a2] = [some a0, some a1, some a2] := rfl
theorem lc_84 {a0 a1 : AV} : lcs 84 [a0, a1] = [some a0, some a1] := rfl
theorem lc_85 {a0 a1 : AV} : lcs 85 [a0, a1] = [some a0, some a1] := rfl
theorem lc_86 {a0 : AV} : lcs 86 [a0] = [some a0] := rfl
theorem lc_87 {a0 : AV} : lcs 87 [a0] = [some a0] := rfl
theorem lc_88 {a0 : AV} : lcs 88 [a0] = [some a0] := rfl
theorem lc_89 {a0 a1 a2 : AV} : lcs 89 [a0, a1, a2] = [some a0, some a1, some a2, none] := rfl
theorem lc_90 {a0 : AV} : lcs 90 [a0] = [some a0] := rfl
theorem lc_91 {a0 a1 : AV} : lcs 91 [a0, a1] = [some a0, some a1] := rfl
theorem lc_92 {a0 a1 : AV} : lcs 92 [a0, a1] = [some a0, some a1] := rfl
theorem lc_93 {a0 a1 a2 : AV} : lcs 93 [a0, a1, a2] = [some a0, some a1, some a2] := rfl
theorem lc_94 {a0 a1 a2 : AV} : lcs 94 [a0, a1, a2] = [some a0, some a1, some a2] := rfl
theorem lc_95 {a0 a1 a2 a3 : AV} : lcs 95 [a0, a1, a2, a3] = [some a0, some a1, some a2, some a3] := rfl
theorem lc_96 {a0 a1 : AV} : lcs 96 [a0, a1] = [some a0, some a1] := rfl
theorem lc_97 {a0 : AV} : lcs 97 [a0] = [some a0] := rfl
theorem lc_98 {a0 : AV} : lcs 98 [a0] = [some a0] := rfl
theorem lc_99 {a0 a1 a2 : AV} : lcs 99 [a0, a1, a2] = [some a0, some a1, some a2] := rfl
theorem lc_100 {a0 : AV} : lcs 100 [a0] = [some a0] := rfl
theorem lc_101 {a0 a1 a2 : AV} : lcs 101 [a0, a1, a2] = [some a0, some a1, some a2] := rfl
theorem lc_102 {a0 a1 a2 a3 : AV} : lcs 102 [a0, a1, a2, a3] = [some a0, some a1, some a2, some a3] := rfl
theorem lc_103 {a0 a1 : AV} : lcs 103 [a0, a1] = [some a0, some a1] := rfl
theorem lc_104 {a0 a1 : AV} : lcs 104 [a0, a1] = [some a0, some a1] := rfl
theorem lc_105 {a0 : AV} : lcs 105 [a0] = [some a0, none, none, none] := rfl
theorem lc_106 {a0 a1 : AV} : lcs 106 [a0, a1] = [some a0, some a1] := rfl
theorem lc_107 {a0 a1 : AV} : lcs 107 [a0, a1] = [some a0, some a1] := rfl
theorem lc_108 {a0 : AV} : lcs 108 [a0] = [some a0] := rfl
theorem lc_109 {a0 a1 : AV} : lcs 109 [a0, a1] = [some a0, some a1] := rfl
theorem lc_110 {a0 a1 a2 : AV} : lcs 110 [a0, a1, a2] = [some a0, some a1, some a2] := rfl
theorem rc_1 {h : AH} {q j : Nat} {v : AV} {a0 : AV} (hg : gf h q 0 j = some v) (k0 : c1 a0 = true) : rck 1 [vR q, a0] h = true := rck_of rfl hg (by simp only [List.all_cons, List.all_nil, k0, Bool.and_self])
theorem rc_2 {h : AH} {q j : Nat} {v : AV} {a0 : AV} (hg : gf h q 0 j = some v) (k0 : c1 a0 = true) : rck 2 [vR q, a0] h = true := rck_of rfl hg (by simp only [List.all_cons, List.all_nil, k0, Bool.and_self])
theorem rc_3 {h : AH} {q j : Nat} {v : AV} {a0 a1 : AV} (hg : gf h q 0 j = some v) (k0 : c1 a0 = true) (k1 : c1 a1 = true) : rck 3 [vR q, a0, a1] h = true := rck_of rfl hg (by simp only [List.all_cons, List.all_nil, k0, k1, Bool.and_self])
theorem rc_4 {h : AH} {q j : Nat} {v : AV} {a0 a1 a2 a3 : AV} (hg : gf h q 0 j = some v) (k0 : c1 a0 = true) (k1 : c1 a1 = true) (k2 : c1 a2 = true) (k3 : c1 a3 = true) : rck 4 [vR q, a0, a1, a2, a3] h = true := rck_of rfl hg (by simp only [List.all_cons, List.all_nil, k0, k1, k2, k3, Bool.and_self])
theorem rc_5 {h : AH} {q j : Nat} {v : AV} {a0 a1 a2 : AV} (hg : gf h q 0 j = some v) (k0 : c1 a0 = true) (k1 : c1 a1 = true) (k2 : c1 a2 = true) : rck 5 [vR q, a0, a1, a2] h = true := rck_of rfl hg (by simp only [List.all_cons, List.all_nil, k0, k1, k2, Bool.and_self])
theorem rc_6 {h : AH} {q j : Nat} {v : AV} {a0 a1 a2 a3 : AV} (hg : gf h q 0 j = some v) (k0 : c1 a0 = true) (k1 : c1 a1 = true) (k2 : c1 a2 = true) (k3 : c1 a3 = true) : rck 6 [vR q, a0, a1, a2, a3] h = true := rck_of rfl hg (by simp only [List.all_cons, List.all_nil, k0, k1, k2, k3, Bool.and_self])
theorem rc_7 {h : AH} {q j : Nat} {v : AV} {a0 : AV} (hg : gf h q 0 j = some v) (k0 : c1 a0 = true) : rck 7 [vR q, a0] h = true := rck_of rfl hg (by simp only [List.all_cons, List.all_nil, k0, Bool.and_self])
theorem rc_8 {h : AH} {q j : Nat} {v : AV} {a0 a1 : AV} (hg : gf h q 0 j = some v) (k0 : c1 a0 = true) (k1 : c1 a1 = true) : rck 8 [vR q, a0, a1] h = true := rck_of rfl hg (by simp only [List.all_cons, List.all_nil, k0, k1, Bool.and_self])
theorem rc_9 {h : AH} {q j : Nat} {v : AV} (hg : gf h q 0 j = some v) : rck 9 [vR q] h = true := rck_of rfl hg (by simp only [List.all_cons, List.all_nil, Bool.and_self])
theorem rc_11 {h : AH} {q j : Nat} {v : AV} {a0 a1 : AV} (hg : gf h q 1 j = some v) (k0 : c1 a0 = true) (k1 : c1 a1 = true) : rck 11 [vR q, a0, a1] h = true := rck_of rfl hg (by simp only [List.all_cons, List.all_nil, k0, k1, Bool.and_self])
theorem rc_12 {h : AH} {q j : Nat} {v : AV} {a0 a1 a2 : AV} (hg : gf h q 1 j = some v) (k0 : c1 a0 = true) (k1 : c1 a1 = true) (k2 : c1 a2 = true) : rck 12 [vR q, a0, a1, a2] h = true := rck_of rfl hg (by simp only [List.all_cons, List.all_nil, k0, k1, k2, Bool.and_self])
theorem rc_13 {h : AH} {q j : Nat} {v : AV} {a0 a1 a2 : AV} (hg : gf h q 1 j = some v) (k0 : c1 a0 = true) (k1 : c1 a1 = true) (k2 : c1 a2 = true) : rck 13 [vR q, a0, a1, a2] h = true := rck_of rfl hg (by simp only [List.all_cons, List.all_nil, k0, k1, k2, Bool.and_self])
theorem rc_14 {h : AH} {q j : Nat} {v : AV} {a0 : AV} (hg : gf h q 1 j = some v) (k0 : c1 a0 = true) : rck 14 [vR q, a0] h = true := rck_of rfl hg (by simp only [List.all_cons, List.all_nil, k0, Bool.and_self])
theorem rc_16 {h : AH} {q j : Nat} {v : AV} {a0 : AV} (hg : gf h q 2 j = some v) (k0 : c1 a0 = true) : rck 16 [vR q, a0] h = true := rck_of rfl hg (by simp only [List.all_cons, List.all_nil, k0, Bool.and_self])
theorem rc_17 {h : AH} {q j : Nat} {v : AV} {a0 a1 a2 : AV} (hg : gf h q 2 j = some v) (k0 : c1 a0 = true) (k1 : c1 a1 = true) (k2 : c1 a2 = true) : rck 17 [vR q, a0, a1, a2] h = true := rck_of rfl hg (by simp only [List.all_cons, List.all_nil, k0, k1, k2, Bool.and_self])
theorem rc_19 {h : AH} {q j : Nat} {v : AV} {a0 : AV} (hg : gf h q 3 j = some v) (k0 : c1 a0 = true) : rck 19 [vR q, a0] h = true := rck_of rfl hg (by simp only [List.all_cons, List.all_nil, k0, Bool.and_self])
theorem rc_20 {h : AH} {q j : Nat} {v : AV} {a0 a1 a2 : AV} (hg : gf h q 3 j = some v) (k0 : c1 a0 = true) (k1 : c1 a1 = true) (k2 : c1 a2 = true) : rck 20 [vR q, a0, a1, a2] h = true := rck_of rfl hg (by simp only [List.all_cons, List.all_nil, k0, k1, k2, Bool.and_self])
theorem rc_21 {h : AH} {q j : Nat} {v : AV} {a0 a1 : AV} (hg : gf h q 3 j = some v) (k0 : c1 a0 = true) (k1 : c1 a1 = true) : rck 21 [vR q, a0, a1] h = true := rck_of rfl hg (by simp only [List.all_cons, List.all_nil, k0, k1, Bool.and_self])
theorem rc_22 {h : AH} {q j : Nat} {v : AV} {a0 a1 : AV} (hg : gf h q 3 j = some v) (k0 : c1 a0 = true) (k1 : c1 a1 = true) : rck 22 [vR q, a0, a1] h = true := rck_of rfl hg (by simp only [List.all_cons, List.all_nil, k0, k1, Bool.and_self])
theorem rc_23 {h : AH} {q j : Nat} {v : AV} {a0 a1 a2 : AV} (hg : gf h q 3 j = some v) (k0 : c1 a0 = true) (k1 : c1 a1 = true) (k2 : c1 a2 = true) : rck 23 [vR q, a0, a1, a2] h = true := rck_of rfl hg (by simp only [List.all_cons, List.all_nil, k0, k1, k2, Bool.and_self])
theorem rc_24 {h : AH} {q j : Nat} {v : AV} {a0 a1 : AV} (hg : gf h q 3 j = some v) (k0 : c1 a0 = true) (k1 : c1 a1 = true) : rck 24 [vR q, a0, a1] h = true := rck_of rfl hg (by simp only [List.all_cons, List.all_nil, k0, k1, Bool.and_self])
theorem rc_25 {h : AH} {q j : Nat} {v : AV} {a0 a1 a2 : AV} (hg : gf h q 3 j = some v) (k0 : c1 a0 = true) (k1 : c1 a1 = true) (k2 : c1 a2 = true) : rck 25 [vR q, a0, a1, a2] h = true := rck_of rfl hg (by simp only [List.all_cons, List.all_nil, k0, k1, k2, Bool.and_self])
theorem rc_27 {h : AH} {q j : Nat} {v : AV} {a0 a1 : AV} (hg : gf h q 4 j = some v) (k0 : c1 a0 = true) (k1 : c1 a1 = true) : rck 27 [vR q, a0, a1] h = true := rck_of rfl hg (by simp only [List.all_cons, List.all_nil, k0, k1, Bool.and_self])
theorem rc_28 {h : AH} {q j : Nat} {v : AV} {a0 a1 : AV} (hg : gf h q 4 j = some v) (k0 : c1 a0 = true) (k1 : c1 a1 = true) : rck 28 [vR q, a0, a1] h = true := rck_of rfl hg (by simp only [List.all_cons, List.all_nil, k0, k1, Bool.and_self])
theorem rc_29 {h : AH} {q j : Nat} {v : AV} {a0 : AV} (hg : gf h q 4 j = some v) (k0 : c1 a0 = true) : rck 29 [vR q, a0] h = true := rck_of rfl hg (by simp only [List.all_cons, List.all_nil, k0, Bool.and_self])
theorem rc_30 {h : AH} {q j : Nat} {v : AV} {a0 a1 : AV} (hg : gf h q 4 j = some v) (k0 : c1 a0 = true) (k1 : c1 a1 = true) : rck 30 [vR q, a0, a1] h = true := rck_of rfl hg (by simp only [List.all_cons, List.all_nil, k0, k1, Bool.and_self])
theorem rc_31 {h : AH} {q j : Nat} {v : AV} {a0 a1 : AV} (hg : gf h q 4 j = some v) (k0 : c1 a0 = true) (k1 : c1 a1 = true) : rck 31 [vR q, a0, a1] h = true := rck_of rfl hg (by simp only [List.all_cons, List.all_nil, k0, k1, Bool.and_self])
theorem rc_32 {h : AH} {q j : Nat} {v : AV} {a0 a1 a2 a3 a4 : AV} (hg : gf h q 4 j = some v) (k0 : c1 a0 = true) (k1 : c1 a1 = true) (k2 : c1 a2 = true) (k3 : c1 a3 = true) (k4 : c1 a4 = true) : rck 32 [vR q, a0, a1, a2, a3, a4] h = true := rck_of rfl hg (by simp only [List.all_cons, List.all_nil, k0, k1, k2, k3, k4, Bool.and_self])
theorem rc_33 {h : AH} {q j : Nat} {v : AV} {a0 a1 : AV} (hg : gf h q 4 j = some v) (k0 : c1 a0 = true) (k1 : c1 a1 = true) : rck 33 [vR q, a0, a1] h = true := rck_of rfl hg (by simp only [List.all_cons, List.all_nil, k0, k1, Bool.and_self])
theorem rc_34 {h : AH} {a0 a1 : AV} (k0 : c1 a0 = true) (k1 : c1 a1 = true) : rck 34 [a0, a1] h = true := by
  unfold rck
  simp only [List.all_cons, List.all_nil, k0, k1, Bool.and_self, Bool.true_and]
  rfl
theorem rc_35 {h : AH} {q j : Nat} {v : AV} {a0 a1 : AV} (hg : gf h q 4 j = some v) (k0 : c1 a0 = true) (k1 : c1 a1 = true) : rck 35 [vR q, a0, a1] h = true := rck_of rfl hg (by simp only [List.all_cons, List.all_nil, k0, k1, Bool.and_self])
theorem rc_36 {h : AH} {q j : Nat} {v : AV} (hg : gf h q 4 j = some v) : rck 36 [vR q] h = true := rck_of rfl hg (by simp only [List.all_cons, List.all_nil, Bool.and_self])
theorem rc_37 {h : AH} {q j : Nat} {v : AV} (hg : gf h q 4 j = some v) : rck 37 [vR q] h = true := rck_of rfl hg (by simp only [List.all_cons, List.all_nil, Bool.and_self])
theorem rc_39 {h : AH} {q j : Nat} {v : AV} {a0 : AV} (hg : gf h q 5 j = some v) (k0 : c1 a0 = true) : rck 39 [vR q, a0] h = true := rck_of rfl hg (by simp only [List.all_cons, List.all_nil, k0, Bool.and_self])
theorem rc_40 {h : AH} {q j : Nat} {v : AV} {a0 a1 : AV} (hg : gf h q 5 j = some v) (k0 : c1 a0 = true) (k1 : c1 a1 = true) : rck 40 [vR q, a0, a1] h = true := rck_of rfl hg (by simp only [List.all_cons, List.all_nil, k0, k1, Bool.and_self])
theorem rc_41 {h : AH} {q j : Nat} {v : AV} {a0 : AV} (hg : gf h q 5 j = some v) (k0 : c1 a0 = true) : rck 41 [vR q, a0] h = true := rck_of rfl hg (by simp only [List.all_cons, List.all_nil, k0, Bool.and_self])
theorem rc_43 {h : AH} {q j : Nat} {v : AV} (hg : gf h q 6 j = some v) : rck 43 [vR q] h = true := rck_of rfl hg (by simp only [List.all_cons, List.all_nil, Bool.and_self])
theorem rc_44 {h : AH} {q j : Nat} {v : AV} {a0 : AV} (hg : gf h q 6 j = some v) (k0 : c1 a0 = true) : rck 44 [vR q, a0] h = true := rck_of rfl hg (by simp only [List.all_cons, List.all_nil, k0, Bool.and_self])
theorem rc_45 {h : AH} {q j : Nat} {v : AV} {a0 : AV} (hg : gf h q 6 j = some v) (k0 : c1 a0 = true) : rck 45 [vR q, a0] h = true := rck_of rfl hg (by simp only [List.all_cons, List.all_nil, k0, Bool.and_self])
theorem rc_46 {h : AH} {q j : Nat} {v : AV} (hg : gf h q 6 j = some v) : rck 46 [vR q] h = true := rck_of rfl hg (by simp only [List.all_cons, List.all_nil, Bool.and_self])
theorem rc_47 {h : AH} {q j : Nat} {v : AV} {a0 a1 : AV} (hg : gf h q 6 j = some v) (k0 : c1 a0 = true) (k1 : c1 a1 = true) : rck 47 [vR q, a0, a1] h = true := rck_of rfl hg (by simp only [List.all_cons, List.all_nil, k0, k1, Bool.and_self])
theorem rc_48 {h : AH} {q j : Nat} {v : AV} {a0 a1 : AV} (hg : gf h q 6 j = some v) (k0 : c1 a0 = true) (k1 : c1 a1 = true) : rck 48 [vR q, a0, a1] h = true := rck_of rfl hg (by simp only [List.all_cons, List.all_nil, k0, k1, Bool.and_self])
theorem rc_49 {h : AH} {q j : Nat} {v : AV} {a0 : AV} (hg : gf h q 6 j = some v) (k0 : c1 a0 = true) : rck 49 [vR q, a0] h = true := rck_of rfl hg (by simp only [List.all_cons, List.all_nil, k0, Bool.and_self])
theorem rc_50 {h : AH} {q j : Nat} {v : AV} (hg : gf h q 6 j = some v) : rck 50 [vR q] h = true := rck_of rfl hg (by simp only [List.all_cons, List.all_nil, Bool.and_self])
theorem rc_51 {h : AH} {q j : Nat} {v : AV} {a0 a1 a2 : AV} (hg : gf h q 6 j = some v) (k0 : c1 a0 = true) (k1 : c1 a1 = true) (k2 : c1 a2 = true) : rck 51 [vR q, a0, a1, a2] h = true := rck_of rfl hg (by simp only [List.all_cons, List.all_nil, k0, k1, k2, Bool.and_self])
theorem rc_52 {h : AH} {q j : Nat} {v : AV} (hg : gf h q 6 j = some v) : rck 52 [vR q] h = true := rck_of rfl hg (by simp only [List.all_cons, List.all_nil, Bool.and_self])
theorem rc_53 {h : AH} {q j : Nat} {v : AV} {a0 : AV} (hg : gf h q 6 j = some v) (k0 : c1 a0 = true) : rck 53 [vR q, a0] h = true := rck_of rfl hg (by simp only [List.all_cons, List.all_nil, k0, Bool.and_self])
theorem rc_54 {h : AH} {q j : Nat} {v : AV} {a0 : AV} (hg : gf h q 6 j = some v) (k0 : c1 a0 = true) : rck 54 [vR q, a0] h = true := rck_of rfl hg (by simp only [List.all_cons, List.all_nil, k0, Bool.and_self])
theorem rc_55 {h : AH} {q j : Nat} {v : AV} {a0 a1 : AV} (hg : gf h q 6 j = some v) (k0 : c1 a0 = true) (k1 : c1 a1 = true) : rck 55 [vR q, a0, a1] h = true := rck_of rfl hg (by simp only [List.all_cons, List.all_nil, k0, k1, Bool.and_self])
theorem rc_56 {h : AH} {q j : Nat} {v : AV} {a0 a1 : AV} (hg : gf h q 6 j = some v) (k0 : c1 a0 = true) (k1 : c1 a1 = true) : rck 56 [vR q, a0, a1] h = true := rck_of rfl hg (by simp only [List.all_cons, List.all_nil, k0, k1, Bool.and_self])
theorem rc_57 {h : AH} {q j : Nat} {v : AV} {a0 a1 : AV} (hg : gf h q 6 j = some v) (k0 : c1 a0 = true) (k1 : c1 a1 = true) : rck 57 [vR q, a0, a1] h = true := rck_of rfl hg (by simp only [List.all_cons, List.all_nil, k0, k1, Bool.and_self])
theorem rc_58 {h : AH} {q j : Nat} {v : AV} {a0 a1 a2 : AV} (hg : gf h q 6 j = some v) (k0 : c1 a0 = true) (k1 : c1 a1 = true) (k2 : c1 a2 = true) : rck 58 [vR q, a0, a1, a2] h = true := rck_of rfl hg (by simp only [List.all_cons, List.all_nil, k0, k1, k2, Bool.and_self])
theorem rc_59 {h : AH} {q j : Nat} {v : AV} {a0 : AV} (hg : gf h q 6 j = some v) (k0 : c1 a0 = true) : rck 59 [vR q, a0] h = true := rck_of rfl hg (by simp only [List.all_cons, List.all_nil, k0, Bool.and_self])
theorem rc_60 {h : AH} {q j : Nat} {v : AV} (hg : gf h q 6 j = some v) : rck 60 [vR q] h = true := rck_of rfl hg (by simp only [List.all_cons, List.all_nil, Bool.and_self])
theorem rc_61 {h : AH} {q j : Nat} {v : AV} {a0 a1 : AV} (hg : gf h q 6 j = some v) (k0 : c1 a0 = true) (k1 : c1 a1 = true) : rck 61 [vR q, a0, a1] h = true := rck_of rfl hg (by simp only [List.all_cons, List.all_nil, k0, k1, Bool.and_self])
theorem rc_63 {h : AH} {q j : Nat} {v : AV} {a0 a1 : AV} (hg : gf h q 7 j = some v) (k0 : c1 a0 = true) (k1 : c1 a1 = true) : rck 63 [vR q, a0, a1] h = true := rck_of rfl hg (by simp only [List.all_cons, List.all_nil, k0, k1, Bool.and_self])
theorem rc_64 {h : AH} {q j : Nat} {v : AV} (hg : gf h q 7 j = some v) : rck 64 [vR q] h = true := rck_of rfl hg (by simp only [List.all_cons, List.all_nil, Bool.and_self])
theorem rc_65 {h : AH} {q j : Nat} {v : AV} (hg : gf h q 7 j = some v) : rck 65 [vR q] h = true := rck_of rfl hg (by simp only [List.all_cons, List.all_nil, Bool.and_self])
theorem rc_66 {h : AH} {q j : Nat} {v : AV} {a0 a1 : AV} (hg : gf h q 7 j = some v) (k0 : c1 a0 = true) (k1 : c1 a1 = true) : rck 66 [vR q, a0, a1] h = true := rck_of rfl hg (by simp only [List.all_cons, List.all_nil, k0, k1, Bool.and_self])
theorem rc_67 {h : AH} {q j : Nat} {v : AV} {a0 a1 a2 : AV} (hg : gf h q 7 j = some v) (k0 : c1 a0 = true) (k1 : c1 a1 = true) (k2 : c1 a2 = true) : rck 67 [vR q, a0, a1, a2] h = true := rck_of rfl hg (by simp only [List.all_cons, List.all_nil, k0, k1, k2, Bool.and_self])
theorem rc_68 {h : AH} {q j : Nat} {v : AV} {a0 a1 : AV} (hg : gf h q 7 j = some v) (k0 : c1 a0 = true) (k1 : c1 a1 = true) : rck 68 [vR q, a0, a1] h = true := rck_of rfl hg (by simp only [List.all_cons, List.all_nil, k0, k1, Bool.and_self])
theorem rc_69 {h : AH} {q j : Nat} {v : AV} (hg : gf h q 7 j = some v) : rck 69 [vR q] h = true := rck_of rfl hg (by simp only [List.all_cons, List.all_nil, Bool.and_self])
theorem rc_70 {h : AH} {q j : Nat} {v : AV} {a0 : AV} (hg : gf h q 7 j = some v) (k0 : c1 a0 = true) : rck 70 [vR q, a0] h = true := rck_of rfl hg (by simp only [List.all_cons, List.all_nil, k0, Bool.and_self])
theorem rc_71 {h : AH} {q j : Nat} {v : AV} {a0 : AV} (hg : gf h q 7 j = some v) (k0 : c1 a0 = true) : rck 71 [vR q, a0] h = true := rck_of rfl hg (by simp only [List.all_cons, List.all_nil, k0, Bool.and_self])
theorem rc_72 {h : AH} {q j : Nat} {v : AV} (hg : gf h q 7 j = some v) : rck 72 [vR q] h = true := rck_of rfl hg (by simp only [List.all_cons, List.all_nil, Bool.and_self])
theorem rc_73 {h : AH} {q j : Nat} {v : AV} (hg : gf h q 7 j = some v) : rck 73 [vR q] h = true := rck_of rfl hg (by simp only [List.all_cons, List.all_nil, Bool.and_self])
theorem rc_74 {h : AH} {q j : Nat} {v : AV} {a0 a1 : AV} (hg : gf h q 7 j = some v) (k0 : c1 a0 = true) (k1 : c1 a1 = true) : rck 74 [vR q, a0, a1] h = true := rck_of rfl hg (by simp only [List.all_cons, List.all_nil, k0, k1, Bool.and_self])
theorem rc_76 {h : AH} {q j : Nat} {v : AV} {a0 a1 : AV} (hg : gf h q 8 j = some v) (k0 : c1 a0 = true) (k1 : c1 a1 = true) : rck 76 [vR q, a0, a1] h = true := rck_of rfl hg (by simp only [List.all_cons, List.all_nil, k0, k1, Bool.and_self])
theorem rc_77 {h : AH} {q j : Nat} {v : AV} {a0 a1 a2 : AV} (hg : gf h q 8 j = some v) (k0 : c1 a0 = true) (k1 : c1 a1 = true) (k2 : c1 a2 = true) : rck 77 [vR q, a0, a1, a2] h = true := rck_of rfl hg (by simp only [List.all_cons, List.all_nil, k0, k1, k2, Bool.and_self])
theorem rc_78 {h : AH} {q j : Nat} {v : AV} {a0 a1 a2 : AV} (hg : gf h q 8 j = some v) (k0 : c1 a0 = true) (k1 : c1 a1 = true) (k2 : c1 a2 = true) : rck 78 [vR q, a0, a1, a2] h = true := rck_of rfl hg (by simp only [List.all_cons, List.all_nil, k0, k1, k2, Bool.and_self])
theorem rc_79 {h : AH} {q j : Nat} {v : AV} {a0 a1 : AV} (hg : gf h q 8 j = some v) (k0 : c1 a0 = true) (k1 : c1 a1 = true) : rck 79 [vR q, a0, a1] h = true := rck_of rfl hg (by simp only [List.all_cons, List.all_nil, k0, k1, Bool.and_self])
theorem rc_80 {h : AH} {q j : Nat} {v : AV} (hg : gf h q 8 j = some v) : rck 80 [vR q] h = true := rck_of rfl hg (by simp only [List.all_cons, List.all_nil, Bool.and_self])
theorem rc_81 {h : AH} {q j : Nat} {v : AV} (hg : gf h q 8 j = some v) : rck 81 [vR q] h = true := rck_of rfl hg (by simp only [List.all_cons, List.all_nil, Bool.and_self])
theorem rc_82 {h : AH} {q j : Nat} {v : AV} (hg : gf h q 8 j = some v) : rck 82 [vR q] h = true := rck_of rfl hg (by simp only [List.all_cons, List.all_nil, Bool.and_self])
theorem rc_83 {h : AH} {q j : Nat} {v : AV} {a0 a1 : AV} (hg : gf h q 8 j = some v) (k0 : c1 a0 = true) (k1 : c1 a1 = true) : rck 83 [vR q, a0, a1] h = true := rck_of rfl hg (by simp only [List.all_cons, List.all_nil, k0, k1, Bool.and_self])
theorem rc_84 {h : AH} {q j : Nat} {v : AV} {a0 : AV} (hg : gf h q 8 j = some v) (k0 : c1 a0 = true) : rck 84 [vR q, a0] h = true := rck_of rfl hg (by simp only [List.all_cons, List.all_nil, k0, Bool.and_self])
theorem rc_85 {h : AH} {q j : Nat} {v : AV} {a0 : AV} (hg : gf h q 8 j = some v) (k0 : c1 a0 = true) : rck 85 [vR q, a0] h = true := rck_of rfl hg (by simp only [List.all_cons, List.all_nil, k0, Bool.and_self])
theorem rc_86 {h : AH} {q j : Nat} {v : AV} (hg : gf h q 8 j = some v) : rck 86 [vR q] h = true := rck_of rfl hg (by simp only [List.all_cons, List.all_nil, Bool.and_self])
theorem rc_87 {h : AH} {q j : Nat} {v : AV} (hg : gf h q 8 j = some v) : rck 87 [vR q] h = true := rck_of rfl hg (by simp only [List.all_cons, List.all_nil, Bool.and_self])
theorem rc_88 {h : AH} {q j : Nat} {v : AV} (hg : gf h q 8 j = some v) : rck 88 [vR q] h = true := rck_of rfl hg (by simp only [List.all_cons, List.all_nil, Bool.and_self])
theorem rc_89 {h : AH} {q j : Nat} {v : AV} {a0 a1 : AV} (hg : gf h q 8 j = some v) (k0 : c1 a0 = true) (k1 : c1 a1 = true) : rck 89 [vR q, a0, a1] h = true := rck_of rfl hg (by simp only [List.all_cons, List.all_nil, k0, k1, Bool.and_self])
theorem rc_90 {h : AH} {q j : Nat} {v : AV} (hg : gf h q 8 j = some v) : rck 90 [vR q] h = true := rck_of rfl hg (by simp only [List.all_cons, List.all_nil, Bool.and_self])
theorem rc_91 {h : AH} {q j : Nat} {v : AV} {a0 : AV} (hg : gf h q 8 j = some v) (k0 : c1 a0 = true) : rck 91 [vR q, a0] h = true := rck_of rfl hg (by simp only [List.all_cons, List.all_nil, k0, Bool.and_self])
theorem rc_92 {h : AH} {q j : Nat} {v : AV} {a0 : AV} (hg : gf h q 8 j = some v) (k0 : c1 a0 = true) : rck 92 [vR q, a0] h = true := rck_of rfl hg (by simp only [List.all_cons, List.all_nil, k0, Bool.and_self])
theorem rc_93 {h : AH} {q j : Nat} {v : AV} {a0 a1 : AV} (hg : gf h q 8 j = some v) (k0 : c1 a0 = true) (k1 : c1 a1 = true) : rck 93 [vR q, a0, a1] h = true := rck_of rfl hg (by simp only [List.all_cons, List.all_nil, k0, k1, Bool.and_self])
theorem rc_94 {h : AH} {q j : Nat} {v : AV} {a0 a1 : AV} (hg : gf h q 8 j = some v) (k0 : c1 a0 = true) (k1 : c1 a1 = true) : rck 94 [vR q, a0, a1] h = true := rck_of rfl hg (by simp only [List.all_cons, List.all_nil, k0, k1, Bool.and_self])
theorem rc_95 {h : AH} {q j : Nat} {v : AV} {a0 a1 a2 : AV} (hg : gf h q 8 j = some v) (k0 : c1 a0 = true) (k1 : c1 a1 = true) (k2 : c1 a2 = true) : rck 95 [vR q, a0, a1, a2] h = true := rck_of rfl hg (by simp only [List.all_cons, List.all_nil, k0, k1, k2, Bool.and_self])
theorem rc_96 {h : AH} {q j : Nat} {v : AV} {a0 : AV} (hg : gf h q 8 j = some v) (k0 : c1 a0 = true) : rck 96 [vR q, a0] h = true := rck_of rfl hg (by simp only [List.all_cons, List.all_nil, k0, Bool.and_self])
theorem rc_97 {h : AH} {q j : Nat} {v : AV} (hg : gf h q 8 j = some v) : rck 97 [vR q] h = true := rck_of rfl hg (by simp only [List.all_cons, List.all_nil, Bool.and_self])
theorem rc_98 {h : AH} {q j : Nat} {v : AV} (hg : gf h q 8 j = some v) : rck 98 [vR q] h = true := rck_of rfl hg (by simp only [List.all_cons, List.all_nil, Bool.and_self])
theorem rc_99 {h : AH} {q j : Nat} {v : AV} {a0 a1 : AV} (hg : gf h q 8 j = some v) (k0 : c1 a0 = true) (k1 : c1 a1 = true) : rck 99 [vR q, a0, a1] h = true := rck_of rfl hg (by simp only [List.all_cons, List.all_nil, k0, k1, Bool.and_self])
theorem rc_100 {h : AH} {q j : Nat} {v : AV} (hg : gf h q 8 j = some v) : rck 100 [vR q] h = true := rck_of rfl hg (by simp only [List.all_cons, List.all_nil, Bool.and_self])
theorem rc_101 {h : AH} {q j : Nat} {v : AV} {a0 a1 : AV} (hg : gf h q 8 j = some v) (k0 : c1 a0 = true) (k1 : c1 a1 = true) : rck 101 [vR q, a0, a1] h = true := rck_of rfl hg (by simp only [List.all_cons, List.all_nil, k0, k1, Bool.and_self])
theorem rc_102 {h : AH} {q j : Nat} {v : AV} {a0 a1 a2 : AV} (hg : gf h q 8 j = some v) (k0 : c1 a0 = true) (k1 : c1 a1 = true) (k2 : c1 a2 = true) : rck 102 [vR q, a0, a1, a2] h = true := rck_of rfl hg (by simp only [List.all_cons, List.all_nil, k0, k1, k2, Bool.and_self])
theorem rc_103 {h : AH} {q j : Nat} {v : AV} {a0 : AV} (hg : gf h q 8 j = some v) (k0 : c1 a0 = true) : rck 103 [vR q, a0] h = true := rck_of rfl hg (by simp only [List.all_cons, List.all_nil, k0, Bool.and_self])
theorem rc_104 {h : AH} {q j : Nat} {v : AV} {a0 : AV} (hg : gf h q 8 j = some v) (k0 : c1 a0 = true) : rck 104 [vR q, a0] h = true := rck_of rfl hg (by simp only [List.all_cons, List.all_nil, k0, Bool.and_self])
theorem rc_105 {h : AH} {q j : Nat} {v : AV} (hg : gf h q 8 j = some v) : rck 105 [vR q] h = true := rck_of rfl hg (by simp only [List.all_cons, List.all_nil, Bool.and_self])
theorem rc_106 {h : AH} {q j : Nat} {v : AV} {a0 : AV} (hg : gf h q 8 j = some v) (k0 : c1 a0 = true) : rck 106 [vR q, a0] h = true := rck_of rfl hg (by simp only [List.all_cons, List.all_nil, k0, Bool.and_self])
theorem rc_107 {h : AH} {q j : Nat} {v : AV} {a0 : AV} (hg : gf h q 8 j = some v) (k0 : c1 a0 = true) : rck 107 [vR q, a0] h = true := rck_of rfl hg (by simp only [List.all_cons, List.all_nil, k0, Bool.and_self])
theorem rc_108 {h : AH} {q j : Nat} {v : AV} (hg : gf h q 8 j = some v) : rck 108 [vR q] h = true := rck_of rfl hg (by simp only [List.all_cons, List.all_nil, Bool.and_self])
theorem rc_109 {h : AH} {a0 a1 : AV} (k0 : c1 a0 = true) (k1 : c1 a1 = true) : rck 109 [a0, a1] h = true := by
  unfold rck
  simp only [List.all_cons, List.all_nil, k0, k1, Bool.and_self, Bool.true_and]
  rfl
theorem rc_110 {h : AH} {a0 a1 a2 : AV} (k0 : c1 a0 = true) (k1 : c1 a1 = true) (k2 : c1 a2 = true) : rck 110 [a0, a1, a2] h = true := by
  unfold rck
  simp only [List.all_cons, List.all_nil, k0, k1, k2, Bool.and_self, Bool.true_and]
  rfl
theorem lc_111 {a0 a1 : AV} : lcs 111 [a0, a1] = [some a0, some a1] := rfl
theorem rc_111 {h : AH} {a0 a1 : AV} (k0 : c1 a0 = true) (k1 : c1 a1 = true) : rck 111 [a0, a1] h = true := by
  unfold rck
  simp only [List.all_cons, List.all_nil, k0, k1, Bool.and_self, Bool.true_and]
  rfl
theorem lc_112 {a0 a1 a2 a3 : AV} : lcs 112 [a0, a1, a2, a3] = [some a0, some a1, some a2, some a3, none, none, none, none, none, none, none, none, none, none, none, none] := rfl
theorem rc_112 {h : AH} {a0 a1 a2 a3 : AV} (k0 : c1 a0 = true) (k1 : c1 a1 = true) (k2 : c1 a2 = true) (k3 : c1 a3 = true) : rck 112 [a0, a1, a2, a3] h = true := by
  unfold rck
  simp only [List.all_cons, List.all_nil, k0, k1, k2, k3, Bool.and_self, Bool.true_and]
  rfl
theorem lc_113 {a0 : AV} : lcs 113 [a0] = [some a0, none, none, none, none, none, none, none] := rfl
theorem rc_113 {h : AH} {a0 : AV} (k0 : c1 a0 = true) : rck 113 [a0] h = true := by
  unfold rck
  simp only [List.all_cons, List.all_nil, k0, Bool.and_self, Bool.true_and]
  rfl
theorem lc_114 {a0 : AV} : lcs 114 [a0] = [some a0, none, none, none, none, none, none, none] := rfl
theorem rc_114 {h : AH} {a0 : AV} (k0 : c1 a0 = true) : rck 114 [a0] h = true := by
  unfold rck
  simp only [List.all_cons, List.all_nil, k0, Bool.and_self, Bool.true_and]
  rfl
theorem lc_115 {a0 a1 a2 : AV} : lcs 115 [a0, a1, a2] = [some a0, some a1, some a2, none, none] := rfl
theorem rc_115 {h : AH} {a0 a1 a2 : AV} (k0 : c1 a0 = true) (k1 : c1 a1 = true) (k2 : c1 a2 = true) : rck 115 [a0, a1, a2] h = true := by
  unfold rck
  simp only [List.all_cons, List.all_nil, k0, k1, k2, Bool.and_self, Bool.true_and]
  rfl
theorem lc_116 {a0 a1 : AV} : lcs 116 [a0, a1] = [some a0, some a1, none, none, none, none, none, none, none, none, none, none] := rfl
theorem rc_116 {h : AH} {a0 a1 : AV} (k0 : c1 a0 = true) (k1 : c1 a1 = true) : rck 116 [a0, a1] h = true := by
  unfold rck
  simp only [List.all_cons, List.all_nil, k0, k1, Bool.and_self, Bool.true_and]
  rfl
theorem lc_117 {a0 a1 a2 : AV} : lcs 117 [a0, a1, a2] = [some a0, some a1, some a2] := rfl
theorem rc_117 {h : AH} {a0 a1 a2 : AV} (k0 : c1 a0 = true) (k1 : c1 a1 = true) (k2 : c1 a2 = true) : rck 117 [a0, a1, a2] h = true := by
  unfold rck
  simp only [List.all_cons, List.all_nil, k0, k1, k2, Bool.and_self, Bool.true_and]
  rfl
theorem lc_118 {a0 a1 : AV} : lcs 118 [a0, a1] = [some a0, some a1, none, none, none, none, none, none, none] := rfl
theorem rc_118 {h : AH} {a0 a1 : AV} (k0 : c1 a0 = true) (k1 : c1 a1 = true) : rck 118 [a0, a1] h = true := by
  unfold rck
  simp only [List.all_cons, List.all_nil, k0, k1, Bool.and_self, Bool.true_and]
  rfl
