/-! THE SMALL MACHINE: method numbers, cells by numbers, whole numbers for ints (what is compared, divided, used as an index must lie in an int's range). It is run over the tables of 02; part 05 proves that what it answers, the real machine answers. -/
abbrev AV : Type := Int ⊕ Int ⊕ UInt64 ⊕ Option (Option Nat)
abbrev vI (z : Int) : AV := .inl z
abbrev vL (z : Int) : AV := .inr (.inl z)
abbrev vD (d : UInt64) : AV := .inr (.inr (.inl d))
abbrev vN : AV := .inr (.inr (.inr none))
abbrev vS : AV := .inr (.inr (.inr (some none)))
abbrev vR (k : Nat) : AV := .inr (.inr (.inr (some (some k))))
/-- a cell: an object (class, fields), or an array (0 int, 1 boolean, 2 long; contents) -/
abbrev AC : Type := (Nat × List AV) ⊕ (Nat × List Int)
/-- cells, the script, room used -/
abbrev AH : Type := List AC × List Int × Nat
abbrev AL : Type := List (Option AV)
/-- a return (a value or none), or a throw (which class) -/
abbrev AR : Type := (Option AV ⊕ Nat) × AH
abbrev rg (z : Int) : Prop := -2147483648 ≤ z ∧ z ≤ 2147483647
abbrev b01 (z : Int) : Prop := z = 0 ∨ z = 1
def ins (k pc : Nat) : Option AI := match tbs[k]? with
  | none => none
  | some t => t.lookup pc
def gf (h : AH) (r ci j : Nat) : Option AV := match h.1[r]? with
  | some (.inl (c, fs)) => if c = ci then fs[j]? else none
  | _ => none
def sf (h : AH) (r ci j : Nat) (v : AV) : Option AH := match h.1[r]? with
  | some (.inl (c, fs)) => if c = ci ∧ j < fs.length then some (h.1.set r (.inl (c, fs.set j v)), h.2) else none
  | _ => none
def ga (h : AH) (r t : Nat) : Option (List Int) := match h.1[r]? with
  | some (.inr (c, l)) => if c = t then some l else none
  | _ => none
def sa (h : AH) (r t : Nat) (l : List Int) : AH := (h.1.set r (.inr (t, l)), h.2)
def iop (f : Int32 → Int32 → Int32) (x y : Int) : Int := (f (Int32.ofInt x) (Int32.ofInt y)).toInt
def cnd (b : Int) (x y : Int) : Bool := match b with
  | 0 => decide (x = y)
  | 1 => !decide (x = y)
  | 2 => decide (x < y)
  | 3 => !decide (x < y)
  | 4 => decide (y < x)
  | _ => !decide (y < x)
/-- a store there doesn't break a value of two places -/
def okst (L : AL) (a : Nat) : Bool := match a with
  | 0 => true
  | a + 1 => match L[a]? with
    | some (some (.inr (.inl _))) => false
    | some (some (.inr (.inr (.inl _)))) => false
    | _ => true
/-- the next state of a plain instruction -/
def sx (i : AI) (L : AL) (st : List AV) (h : AH) : Option (Nat × AL × List AV × AH) := match i with
  | (op, nx, a, b, _) => match op with
    | 0 => match L[a]? with
      | some (some (.inl z)) => some (nx, L, .inl z :: st, h)
      | _ => none
    | 1 => match L[a]? with
      | some (some (.inr (.inr (.inr (some q))))) => some (nx, L, .inr (.inr (.inr (some q))) :: st, h)
      | _ => none
    | 2 => match L[a]? with
      | some (some (.inr (.inr (.inl d)))) => some (nx, L, .inr (.inr (.inl d)) :: st, h)
      | _ => none
    | 3 => match st with
      | .inl z :: st => if a < L.length ∧ okst L a = true then some (nx, L.set a (some (.inl z)), st, h) else none
      | _ => none
    | 4 => match st with
      | .inr (.inr (.inr (some q))) :: st => if a < L.length ∧ okst L a = true then some (nx, L.set a (some (.inr (.inr (.inr (some q))))), st, h) else none
      | _ => none
    | 5 => match st with
      | .inr (.inr (.inl d)) :: st => if a + 1 < L.length ∧ okst L a = true then some (nx, (L.set a (some (.inr (.inr (.inl d))))).set (a + 1) none, st, h) else none
      | _ => none
    | 6 => some (nx, L, .inl b :: st, h)
    | 7 => some (nx, L, .inl b :: st, h)
    | 8 => some (nx, L, .inr (.inr (.inl 0)) :: st, h)
    | 9 => match st with
      | .inl y :: .inl x :: st => some (nx, L, .inl (x + y) :: st, h)
      | _ => none
    | 10 => match st with
      | .inl y :: .inl x :: st => some (nx, L, .inl (x - y) :: st, h)
      | _ => none
    | 11 => match st with
      | .inl y :: .inl x :: st => some (nx, L, .inl (x * y) :: st, h)
      | _ => none
    | 12 => match st with
      | .inl y :: .inl x :: st => if rg x ∧ rg y ∧ 0 < y then some (nx, L, .inl (x.tdiv y) :: st, h) else none
      | _ => none
    | 13 => match st with
      | .inl y :: .inl x :: st => if rg x ∧ rg y ∧ 0 < y then some (nx, L, .inl (x.tmod y) :: st, h) else none
      | _ => none
    | 14 => match st with
      | .inl x :: st => some (nx, L, .inl (-x) :: st, h)
      | _ => none
    | 15 => match st with
      | .inl y :: .inl x :: st => some (nx, L, .inl (iop (fun x y => x &&& y) x y) :: st, h)
      | _ => none
    | 16 => match st with
      | .inl y :: .inl x :: st => some (nx, L, .inl (iop (fun x y => x ||| y) x y) :: st, h)
      | _ => none
    | 17 => match st with
      | .inl y :: .inl x :: st => some (nx, L, .inl (iop (fun x y => x <<< (y &&& 31)) x y) :: st, h)
      | _ => none
    | 18 => match st with
      | .inl y :: .inl x :: st => some (nx, L, .inl (iop (fun x y => x >>> (y &&& 31)) x y) :: st, h)
      | _ => none
    | 19 => match L[a]? with
      | some (some (.inl z)) => if okst L a = true then some (nx, L.set a (some (.inl (z + b))), st, h) else none
      | _ => none
    | 20 => match st with
      | .inl x :: st => if rg x then some (nx, L, .inr (.inl x) :: st, h) else none
      | _ => none
    | 21 => match st with
      | .inl x :: st => some (nx, L, .inr (.inr (.inl (FP.i2d (Int32.ofInt x)))) :: st, h)
      | _ => none
    | 22 => match st with
      | .inr (.inl y) :: .inr (.inl x) :: st => if rg x ∧ rg y then some (nx, L, .inl (if x < y then -1 else if x = y then 0 else 1) :: st, h) else none
      | _ => none
    | 23 => match st with
      | .inr (.inr (.inl y)) :: .inr (.inr (.inl x)) :: st => some (nx, L, .inl (Op.cmpValue (FP.dcmp x y) .l).toInt :: st, h)
      | _ => none
    | 24 => match st with
      | .inr (.inr (.inl y)) :: .inr (.inr (.inl x)) :: st => if isNaN64 (FP.ddiv x y) = false then some (nx, L, .inr (.inr (.inl (FP.ddiv x y))) :: st, h) else none
      | _ => none
    | 25 => match st with
      | .inl z :: st => some (nx, L, .inl z :: .inl z :: st, h)
      | .inr (.inr (.inr q)) :: st => some (nx, L, .inr (.inr (.inr q)) :: .inr (.inr (.inr q)) :: st, h)
      | _ => none
    | 26 => match st with
      | .inl z :: .inr (.inr (.inr q)) :: st => some (nx, L, .inl z :: .inr (.inr (.inr q)) :: .inl z :: .inr (.inr (.inr q)) :: st, h)
      | _ => none
    | 27 => match st with
      | .inl _ :: st => some (nx, L, st, h)
      | _ => none
    | 28 => some (a, L, st, h)
    | 29 => match st with
      | .inl x :: st => if rg x then some (if cnd b x 0 then a else nx, L, st, h) else none
      | _ => none
    | 30 => match st with
      | .inl y :: .inl x :: st => if rg x ∧ rg y then some (if cnd b x y then a else nx, L, st, h) else none
      | _ => none
    | 31 => match st with
      | .inr (.inr (.inr (some (some r)))) :: st => match gf h r b.toNat a with
        | some v => some (nx, L, v :: st, h)
        | none => none
      | _ => none
    | 32 => match st with
      | .inl z :: .inr (.inr (.inr (some (some r)))) :: st => match sf h r b.toNat a (.inl z) with
        | some h => some (nx, L, st, h)
        | none => none
      | _ => none
    | 33 => match st with
      | .inl z :: .inr (.inr (.inr (some (some r)))) :: st => if b01 z then match sf h r b.toNat a (.inl z) with
        | some h => some (nx, L, st, h)
        | none => none
        else none
      | _ => none
    | 34 => match st with
      | .inl z :: .inr (.inr (.inr (some (some r)))) :: st => match sf h r b.toNat a (.inl z) with
        | some h => some (nx, L, st, h)
        | none => none
      | _ => none
    | 35 => match st with
      | .inr (.inr (.inr (some (some q)))) :: .inr (.inr (.inr (some (some r)))) :: st => match sf h r b.toNat a (.inr (.inr (.inr (some (some q))))) with
        | some h => some (nx, L, st, h)
        | none => none
      | _ => none
    | 36 => match st with
      | .inr (.inr (.inr (some (some r)))) :: st => match ga h r 0 with
        | some l => some (nx, L, .inl l.length :: st, h)
        | none => none
      | .inr (.inr (.inr (some none))) :: st => some (nx, L, .inl h.2.1.length :: st, h)
      | _ => none
    | 37 => match st with
      | .inl i :: .inr (.inr (.inr (some (some r)))) :: st => match ga h r 0 with
        | some l => if 0 ≤ i ∧ i < l.length ∧ rg i then some (nx, L, .inl (l.getD i.toNat 0) :: st, h) else none
        | none => none
      | .inl i :: .inr (.inr (.inr (some none))) :: st => if 0 ≤ i ∧ i < h.2.1.length ∧ rg i then some (nx, L, .inl (h.2.1.getD i.toNat 0) :: st, h) else none
      | _ => none
    | 38 => match st with
      | .inl i :: .inr (.inr (.inr (some (some r)))) :: st => match ga h r 1 with
        | some l => if 0 ≤ i ∧ i < l.length ∧ rg i then some (nx, L, .inl (l.getD i.toNat 0) :: st, h) else none
        | none => none
      | _ => none
    | 39 => match st with
      | .inl i :: .inr (.inr (.inr (some (some r)))) :: st => match ga h r 2 with
        | some l => if 0 ≤ i ∧ i < l.length ∧ rg i then some (nx, L, .inr (.inl (l.getD i.toNat 0)) :: st, h) else none
        | none => none
      | _ => none
    | 40 => match st with
      | .inl x :: .inl i :: .inr (.inr (.inr (some (some r)))) :: st => match ga h r 0 with
        | some l => if 0 ≤ i ∧ i < l.length ∧ rg i then some (nx, L, st, sa h r 0 (l.set i.toNat x)) else none
        | none => none
      | _ => none
    | 41 => match st with
      | .inl x :: .inl i :: .inr (.inr (.inr (some (some r)))) :: st => match ga h r 1 with
        | some l => if 0 ≤ i ∧ i < l.length ∧ rg i ∧ b01 x then some (nx, L, st, sa h r 1 (l.set i.toNat x)) else none
        | none => none
      | _ => none
    | 42 => match st with
      | .inr (.inl x) :: .inl i :: .inr (.inr (.inr (some (some r)))) :: st => match ga h r 2 with
        | some l => if 0 ≤ i ∧ i < l.length ∧ rg i then some (nx, L, st, sa h r 2 (l.set i.toNat x)) else none
        | none => none
      | _ => none
    | 43 => match st with
      | .inl n :: st => if 0 ≤ n ∧ n ≤ 100000 then some (nx, L, .inr (.inr (.inr (some (some h.1.length)))) :: st, (h.1 ++ [.inr (a, List.replicate n.toNat 0)], h.2.1, h.2.2 + 1 + n.toNat)) else none
      | _ => none
    | 44 => match dfl[a]?, nfl[a]? with
      | some fs, some n => some (nx, L, .inr (.inr (.inr (some (some h.1.length)))) :: st, (h.1 ++ [.inl (a, fs)], h.2.1, h.2.2 + 1 + n))
      | _, _ => none
    | 45 => match st with
      | .inr (.inr (.inr (some (some _)))) :: st => if st.length ≤ 4 then some (nx, L, st, h) else none
      | _ => none
    | 46 => match st with
      | .inl y :: .inl x :: st => if rg x ∧ rg y ∧ st.length ≤ 4 then some (nx, L, .inl (if x < y then y else x) :: st, h) else none
      | _ => none
    | 47 => match st with
      | .inl y :: .inl x :: st => if rg x ∧ rg y ∧ st.length ≤ 4 then some (nx, L, .inl (if y < x then y else x) :: st, h) else none
      | _ => none
    | 48 => match st with
      | .inl x :: st => if rg x then some (if 0 ≤ x ∧ x < swt.length then swt.getD x.toNat 0 else a, L, st, h) else none
      | _ => none
    | _ => none
/-- method k's first locals -/
def lcs (k : Nat) (args : List AV) : AL := match mts[k]? with
  | some q => args.map some ++ List.replicate (q.2.1 - args.length) none
  | none => []
/-- what a call asks of its receiver -/
def c1 (v : AV) : Bool := match v with
  | .inr (.inl _) => false
  | .inr (.inr (.inl _)) => false
  | _ => true
def rck (k : Nat) (args : List AV) (h : AH) : Bool := args.all c1 && match mts[k]? with
  | some q => match q.2.2.1 with
    | 0 => true
    | 1 => match args with
      | .inr (.inr (.inr (some (some _)))) :: _ => true
      | _ => false
    | _ => match args with
      | .inr (.inr (.inr (some (some r)))) :: _ => match h.1[r]? with
        | some (.inl (c, _)) => decide (c = q.1)
        | _ => false
      | _ => false
  | none => false
/-- the law's catch types -/
def ctc (t : Nat) : Nat := match t with
  | 19 => 0
  | 13 => 1
  | _ => 2
/-- the first handler that takes it -/
def hnd (k pc E : Nat) : Option (Nat × Nat × Nat × Nat) := (hhT k).find? (fun q => decide (q.1 ≤ pc) && decide (pc < q.2.1) && ctc q.2.2.2 == E)
def ax : Nat → Nat → Nat → AL → List AV → AH → Option AR
  | 0, _, _, _, _, _ => none
  | n + 1, k, pc, L, st, h => match ins k pc with
    | none => none
    | some i => match i.1 with
      | 60 =>
        let na := i.2.2.2.1.toNat
        let args := (st.take na).reverse
        if args.length = na ∧ (st.drop na).length ≤ 4 ∧ rck i.2.2.1 args h = true then match ax n i.2.2.1 0 (lcs i.2.2.1 args) [] h with
          | none => none
          | some (.inl none, h1) => ax n k i.2.1 L (st.drop na) h1
          | some (.inl (some v), h1) => ax n k i.2.1 L (v :: st.drop na) h1
          | some (.inr E, h1) => match hnd k pc E with
            | none => some (.inr E, h1)
            | some q => match ins k q.2.2.1 with
              | some (4, nx, a, _, _) => if a < L.length ∧ okst L a = true then ax n k nx (L.set a none) [] h1 else none
              | _ => none
        else none
      | 61 => match st with
        | [.inl z] => some (.inl (some (.inl z)), h)
        | _ => none
      | 62 => match st with
        | [.inl z] => if b01 z then some (.inl (some (.inl z)), h) else none
        | _ => none
      | 63 => match st with
        | [] => some (.inl none, h)
        | _ => none
      | 64 => match st with
        | [.inr (.inr (.inl d))] => some (.inl (some (.inr (.inr (.inl d)))), h)
        | _ => none
      | 65 => match st with
        | [] => some (.inr i.2.2.1, (h.1, h.2.1, h.2.2 + 7))
        | _ => none
      | _ => match sx i L st h with
        | none => none
        | some q => ax n k q.1 q.2.1 q.2.2.1 q.2.2.2
/-- from here the small machine comes to r -/
def Rn (k pc : Nat) (L : AL) (st : List AV) (h : AH) (r : AR) : Prop := ∃ n, ax n k pc L st h = some r
/-- method k, called with args, comes to r -/
def Ev (k : Nat) (args : List AV) (h : AH) (r : AR) : Prop := rck k args h = true ∧ Rn k 0 (lcs k args) [] h r
