/-! sets of columns as numbers -/
theorem shl_1 : ∀ c : Fin 10, iop (fun x y => x <<< (y &&& 31)) 1 (c.val : Int) = ((2 ^ c.val : Nat) : Int) := by decide +kernel
theorem shl_n : ∀ c : Fin 11, iop (fun x y => x <<< (y &&& 31)) 1 (c.val : Int) = ((2 ^ c.val : Nat) : Int) := by decide +kernel
theorem shr_b : ∀ s : Fin 1024, ∀ c : Fin 10, iop (fun x y => x &&& y) (iop (fun x y => x >>> (y &&& 31)) (s.val : Int) (c.val : Int)) 1 = if s.val.testBit c.val then 1 else 0 := by decide +kernel
theorem or_b : ∀ s : Fin 1024, ∀ c : Fin 10, iop (fun x y => x ||| y) (s.val : Int) ((2 ^ c.val : Nat) : Int) = ((s.val ||| 2 ^ c.val : Nat) : Int) := by decide +kernel
def pcn : Nat → Nat → Nat
  | 0, _ => 0
  | k + 1, s => s % 2 + pcn k (s / 2)
theorem pcn_or : ∀ s : Fin 1024, ∀ c : Fin 10, s.val.testBit c.val = false → pcn 10 (s.val ||| 2 ^ c.val) = pcn 10 s.val + 1 := by decide +kernel
theorem or_gt : ∀ s : Fin 1024, ∀ c : Fin 10, s.val.testBit c.val = false → s.val < (s.val ||| 2 ^ c.val) := by decide +kernel
theorem or_lt : ∀ n : Fin 11, ∀ s : Fin 1024, ∀ c : Fin 10, s.val < 2 ^ n.val → c.val < n.val → (s.val ||| 2 ^ c.val) < 2 ^ n.val := by decide +kernel
theorem pcn_full : ∀ n : Fin 11, pcn 10 (2 ^ n.val - 1) = n.val := by decide +kernel
theorem pcn_less : ∀ n : Fin 11, ∀ s : Fin 1024, s.val < 2 ^ n.val → s.val ≠ 2 ^ n.val - 1 → pcn 10 s.val < n.val := by decide +kernel
theorem full_bit : ∀ n : Fin 11, ∀ c : Fin 10, c.val < n.val → (2 ^ n.val - 1).testBit c.val = true := by decide +kernel
theorem two_le : ∀ n : Fin 11, 2 ^ n.val ≤ 1024 := by decide +kernel
