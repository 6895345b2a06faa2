/-! words of the class -/
def WN (j i : Nat) : Nat := (wordsB.getD (6 * j + i) 0).toNatClampNeg
def pdw (c : Nat → Nat) (m i : Nat) : Nat := if i < m then c i else 32
def pkc (c : Nat → Nat) : Nat → Nat
  | 0 => 0
  | m + 1 => pkc c m * 256 + c m
theorem wcase_0 {m : Nat} {c : Nat → Nat} (hm1 : 1 ≤ m) (hm : m ≤ 6) (hc : ∀ i, i < m → 48 ≤ c i ∧ c i ≤ 122) : ((WN 0 0 = pdw c m 0) ∧ (WN 0 1 = pdw c m 1) ∧ (WN 0 2 = pdw c m 2) ∧ (WN 0 3 = pdw c m 3) ∧ (WN 0 4 = pdw c m 4) ∧ (WN 0 5 = pdw c m 5)) ↔ Wl.getD 0 0 = pkc c m := by
  have hms : m = 1 ∨ m = 2 ∨ m = 3 ∨ m = 4 ∨ m = 5 ∨ m = 6 := by omega
  rcases hms with rfl | rfl | rfl | rfl | rfl | rfl
  · show ((112 = c 0) ∧ (97 = 32) ∧ (114 = 32) ∧ (116 = 32) ∧ (32 = 32) ∧ (32 = 32)) ↔ 1885434484 = (0 * 256 + c 0)
    have h0 := hc 0 (by decide)
    omega
  · show ((112 = c 0) ∧ (97 = c 1) ∧ (114 = 32) ∧ (116 = 32) ∧ (32 = 32) ∧ (32 = 32)) ↔ 1885434484 = ((0 * 256 + c 0) * 256 + c 1)
    have h0 := hc 0 (by decide); have h1 := hc 1 (by decide)
    omega
  · show ((112 = c 0) ∧ (97 = c 1) ∧ (114 = c 2) ∧ (116 = 32) ∧ (32 = 32) ∧ (32 = 32)) ↔ 1885434484 = (((0 * 256 + c 0) * 256 + c 1) * 256 + c 2)
    have h0 := hc 0 (by decide); have h1 := hc 1 (by decide); have h2 := hc 2 (by decide)
    omega
  · show ((112 = c 0) ∧ (97 = c 1) ∧ (114 = c 2) ∧ (116 = c 3) ∧ (32 = 32) ∧ (32 = 32)) ↔ 1885434484 = ((((0 * 256 + c 0) * 256 + c 1) * 256 + c 2) * 256 + c 3)
    have h0 := hc 0 (by decide); have h1 := hc 1 (by decide); have h2 := hc 2 (by decide); have h3 := hc 3 (by decide)
    omega
  · show ((112 = c 0) ∧ (97 = c 1) ∧ (114 = c 2) ∧ (116 = c 3) ∧ (32 = c 4) ∧ (32 = 32)) ↔ 1885434484 = (((((0 * 256 + c 0) * 256 + c 1) * 256 + c 2) * 256 + c 3) * 256 + c 4)
    have h0 := hc 0 (by decide); have h1 := hc 1 (by decide); have h2 := hc 2 (by decide); have h3 := hc 3 (by decide); have h4 := hc 4 (by decide)
    omega
  · show ((112 = c 0) ∧ (97 = c 1) ∧ (114 = c 2) ∧ (116 = c 3) ∧ (32 = c 4) ∧ (32 = c 5)) ↔ 1885434484 = ((((((0 * 256 + c 0) * 256 + c 1) * 256 + c 2) * 256 + c 3) * 256 + c 4) * 256 + c 5)
    have h0 := hc 0 (by decide); have h1 := hc 1 (by decide); have h2 := hc 2 (by decide); have h3 := hc 3 (by decide); have h4 := hc 4 (by decide); have h5 := hc 5 (by decide)
    omega
theorem wcase_1 {m : Nat} {c : Nat → Nat} (hm1 : 1 ≤ m) (hm : m ≤ 6) (hc : ∀ i, i < m → 48 ≤ c i ∧ c i ≤ 122) : ((WN 1 0 = pdw c m 0) ∧ (WN 1 1 = pdw c m 1) ∧ (WN 1 2 = pdw c m 2) ∧ (WN 1 3 = pdw c m 3) ∧ (WN 1 4 = pdw c m 4) ∧ (WN 1 5 = pdw c m 5)) ↔ Wl.getD 1 0 = pkc c m := by
  have hms : m = 1 ∨ m = 2 ∨ m = 3 ∨ m = 4 ∨ m = 5 ∨ m = 6 := by omega
  rcases hms with rfl | rfl | rfl | rfl | rfl | rfl
  · show ((115 = c 0) ∧ (104 = 32) ∧ (111 = 32) ∧ (119 = 32) ∧ (32 = 32) ∧ (32 = 32)) ↔ 1936224119 = (0 * 256 + c 0)
    have h0 := hc 0 (by decide)
    omega
  · show ((115 = c 0) ∧ (104 = c 1) ∧ (111 = 32) ∧ (119 = 32) ∧ (32 = 32) ∧ (32 = 32)) ↔ 1936224119 = ((0 * 256 + c 0) * 256 + c 1)
    have h0 := hc 0 (by decide); have h1 := hc 1 (by decide)
    omega
  · show ((115 = c 0) ∧ (104 = c 1) ∧ (111 = c 2) ∧ (119 = 32) ∧ (32 = 32) ∧ (32 = 32)) ↔ 1936224119 = (((0 * 256 + c 0) * 256 + c 1) * 256 + c 2)
    have h0 := hc 0 (by decide); have h1 := hc 1 (by decide); have h2 := hc 2 (by decide)
    omega
  · show ((115 = c 0) ∧ (104 = c 1) ∧ (111 = c 2) ∧ (119 = c 3) ∧ (32 = 32) ∧ (32 = 32)) ↔ 1936224119 = ((((0 * 256 + c 0) * 256 + c 1) * 256 + c 2) * 256 + c 3)
    have h0 := hc 0 (by decide); have h1 := hc 1 (by decide); have h2 := hc 2 (by decide); have h3 := hc 3 (by decide)
    omega
  · show ((115 = c 0) ∧ (104 = c 1) ∧ (111 = c 2) ∧ (119 = c 3) ∧ (32 = c 4) ∧ (32 = 32)) ↔ 1936224119 = (((((0 * 256 + c 0) * 256 + c 1) * 256 + c 2) * 256 + c 3) * 256 + c 4)
    have h0 := hc 0 (by decide); have h1 := hc 1 (by decide); have h2 := hc 2 (by decide); have h3 := hc 3 (by decide); have h4 := hc 4 (by decide)
    omega
  · show ((115 = c 0) ∧ (104 = c 1) ∧ (111 = c 2) ∧ (119 = c 3) ∧ (32 = c 4) ∧ (32 = c 5)) ↔ 1936224119 = ((((((0 * 256 + c 0) * 256 + c 1) * 256 + c 2) * 256 + c 3) * 256 + c 4) * 256 + c 5)
    have h0 := hc 0 (by decide); have h1 := hc 1 (by decide); have h2 := hc 2 (by decide); have h3 := hc 3 (by decide); have h4 := hc 4 (by decide); have h5 := hc 5 (by decide)
    omega
theorem wcase_2 {m : Nat} {c : Nat → Nat} (hm1 : 1 ≤ m) (hm : m ≤ 6) (hc : ∀ i, i < m → 48 ≤ c i ∧ c i ≤ 122) : ((WN 2 0 = pdw c m 0) ∧ (WN 2 1 = pdw c m 1) ∧ (WN 2 2 = pdw c m 2) ∧ (WN 2 3 = pdw c m 3) ∧ (WN 2 4 = pdw c m 4) ∧ (WN 2 5 = pdw c m 5)) ↔ Wl.getD 2 0 = pkc c m := by
  have hms : m = 1 ∨ m = 2 ∨ m = 3 ∨ m = 4 ∨ m = 5 ∨ m = 6 := by omega
  rcases hms with rfl | rfl | rfl | rfl | rfl | rfl
  · show ((99 = c 0) ∧ (97 = 32) ∧ (109 = 32) ∧ (32 = 32) ∧ (32 = 32) ∧ (32 = 32)) ↔ 6513005 = (0 * 256 + c 0)
    have h0 := hc 0 (by decide)
    omega
  · show ((99 = c 0) ∧ (97 = c 1) ∧ (109 = 32) ∧ (32 = 32) ∧ (32 = 32) ∧ (32 = 32)) ↔ 6513005 = ((0 * 256 + c 0) * 256 + c 1)
    have h0 := hc 0 (by decide); have h1 := hc 1 (by decide)
    omega
  · show ((99 = c 0) ∧ (97 = c 1) ∧ (109 = c 2) ∧ (32 = 32) ∧ (32 = 32) ∧ (32 = 32)) ↔ 6513005 = (((0 * 256 + c 0) * 256 + c 1) * 256 + c 2)
    have h0 := hc 0 (by decide); have h1 := hc 1 (by decide); have h2 := hc 2 (by decide)
    omega
  · show ((99 = c 0) ∧ (97 = c 1) ∧ (109 = c 2) ∧ (32 = c 3) ∧ (32 = 32) ∧ (32 = 32)) ↔ 6513005 = ((((0 * 256 + c 0) * 256 + c 1) * 256 + c 2) * 256 + c 3)
    have h0 := hc 0 (by decide); have h1 := hc 1 (by decide); have h2 := hc 2 (by decide); have h3 := hc 3 (by decide)
    omega
  · show ((99 = c 0) ∧ (97 = c 1) ∧ (109 = c 2) ∧ (32 = c 3) ∧ (32 = c 4) ∧ (32 = 32)) ↔ 6513005 = (((((0 * 256 + c 0) * 256 + c 1) * 256 + c 2) * 256 + c 3) * 256 + c 4)
    have h0 := hc 0 (by decide); have h1 := hc 1 (by decide); have h2 := hc 2 (by decide); have h3 := hc 3 (by decide); have h4 := hc 4 (by decide)
    omega
  · show ((99 = c 0) ∧ (97 = c 1) ∧ (109 = c 2) ∧ (32 = c 3) ∧ (32 = c 4) ∧ (32 = c 5)) ↔ 6513005 = ((((((0 * 256 + c 0) * 256 + c 1) * 256 + c 2) * 256 + c 3) * 256 + c 4) * 256 + c 5)
    have h0 := hc 0 (by decide); have h1 := hc 1 (by decide); have h2 := hc 2 (by decide); have h3 := hc 3 (by decide); have h4 := hc 4 (by decide); have h5 := hc 5 (by decide)
    omega
theorem wcase_3 {m : Nat} {c : Nat → Nat} (hm1 : 1 ≤ m) (hm : m ≤ 6) (hc : ∀ i, i < m → 48 ≤ c i ∧ c i ≤ 122) : ((WN 3 0 = pdw c m 0) ∧ (WN 3 1 = pdw c m 1) ∧ (WN 3 2 = pdw c m 2) ∧ (WN 3 3 = pdw c m 3) ∧ (WN 3 4 = pdw c m 4) ∧ (WN 3 5 = pdw c m 5)) ↔ Wl.getD 3 0 = pkc c m := by
  have hms : m = 1 ∨ m = 2 ∨ m = 3 ∨ m = 4 ∨ m = 5 ∨ m = 6 := by omega
  rcases hms with rfl | rfl | rfl | rfl | rfl | rfl
  · show ((98 = c 0) ∧ (101 = 32) ∧ (108 = 32) ∧ (108 = 32) ∧ (32 = 32) ∧ (32 = 32)) ↔ 1650814060 = (0 * 256 + c 0)
    have h0 := hc 0 (by decide)
    omega
  · show ((98 = c 0) ∧ (101 = c 1) ∧ (108 = 32) ∧ (108 = 32) ∧ (32 = 32) ∧ (32 = 32)) ↔ 1650814060 = ((0 * 256 + c 0) * 256 + c 1)
    have h0 := hc 0 (by decide); have h1 := hc 1 (by decide)
    omega
  · show ((98 = c 0) ∧ (101 = c 1) ∧ (108 = c 2) ∧ (108 = 32) ∧ (32 = 32) ∧ (32 = 32)) ↔ 1650814060 = (((0 * 256 + c 0) * 256 + c 1) * 256 + c 2)
    have h0 := hc 0 (by decide); have h1 := hc 1 (by decide); have h2 := hc 2 (by decide)
    omega
  · show ((98 = c 0) ∧ (101 = c 1) ∧ (108 = c 2) ∧ (108 = c 3) ∧ (32 = 32) ∧ (32 = 32)) ↔ 1650814060 = ((((0 * 256 + c 0) * 256 + c 1) * 256 + c 2) * 256 + c 3)
    have h0 := hc 0 (by decide); have h1 := hc 1 (by decide); have h2 := hc 2 (by decide); have h3 := hc 3 (by decide)
    omega
  · show ((98 = c 0) ∧ (101 = c 1) ∧ (108 = c 2) ∧ (108 = c 3) ∧ (32 = c 4) ∧ (32 = 32)) ↔ 1650814060 = (((((0 * 256 + c 0) * 256 + c 1) * 256 + c 2) * 256 + c 3) * 256 + c 4)
    have h0 := hc 0 (by decide); have h1 := hc 1 (by decide); have h2 := hc 2 (by decide); have h3 := hc 3 (by decide); have h4 := hc 4 (by decide)
    omega
  · show ((98 = c 0) ∧ (101 = c 1) ∧ (108 = c 2) ∧ (108 = c 3) ∧ (32 = c 4) ∧ (32 = c 5)) ↔ 1650814060 = ((((((0 * 256 + c 0) * 256 + c 1) * 256 + c 2) * 256 + c 3) * 256 + c 4) * 256 + c 5)
    have h0 := hc 0 (by decide); have h1 := hc 1 (by decide); have h2 := hc 2 (by decide); have h3 := hc 3 (by decide); have h4 := hc 4 (by decide); have h5 := hc 5 (by decide)
    omega
theorem wcase_4 {m : Nat} {c : Nat → Nat} (hm1 : 1 ≤ m) (hm : m ≤ 6) (hc : ∀ i, i < m → 48 ≤ c i ∧ c i ≤ 122) : ((WN 4 0 = pdw c m 0) ∧ (WN 4 1 = pdw c m 1) ∧ (WN 4 2 = pdw c m 2) ∧ (WN 4 3 = pdw c m 3) ∧ (WN 4 4 = pdw c m 4) ∧ (WN 4 5 = pdw c m 5)) ↔ Wl.getD 4 0 = pkc c m := by
  have hms : m = 1 ∨ m = 2 ∨ m = 3 ∨ m = 4 ∨ m = 5 ∨ m = 6 := by omega
  rcases hms with rfl | rfl | rfl | rfl | rfl | rfl
  · show ((116 = c 0) ∧ (104 = 32) ∧ (101 = 32) ∧ (110 = 32) ∧ (32 = 32) ∧ (32 = 32)) ↔ 1952998766 = (0 * 256 + c 0)
    have h0 := hc 0 (by decide)
    omega
  · show ((116 = c 0) ∧ (104 = c 1) ∧ (101 = 32) ∧ (110 = 32) ∧ (32 = 32) ∧ (32 = 32)) ↔ 1952998766 = ((0 * 256 + c 0) * 256 + c 1)
    have h0 := hc 0 (by decide); have h1 := hc 1 (by decide)
    omega
  · show ((116 = c 0) ∧ (104 = c 1) ∧ (101 = c 2) ∧ (110 = 32) ∧ (32 = 32) ∧ (32 = 32)) ↔ 1952998766 = (((0 * 256 + c 0) * 256 + c 1) * 256 + c 2)
    have h0 := hc 0 (by decide); have h1 := hc 1 (by decide); have h2 := hc 2 (by decide)
    omega
  · show ((116 = c 0) ∧ (104 = c 1) ∧ (101 = c 2) ∧ (110 = c 3) ∧ (32 = 32) ∧ (32 = 32)) ↔ 1952998766 = ((((0 * 256 + c 0) * 256 + c 1) * 256 + c 2) * 256 + c 3)
    have h0 := hc 0 (by decide); have h1 := hc 1 (by decide); have h2 := hc 2 (by decide); have h3 := hc 3 (by decide)
    omega
  · show ((116 = c 0) ∧ (104 = c 1) ∧ (101 = c 2) ∧ (110 = c 3) ∧ (32 = c 4) ∧ (32 = 32)) ↔ 1952998766 = (((((0 * 256 + c 0) * 256 + c 1) * 256 + c 2) * 256 + c 3) * 256 + c 4)
    have h0 := hc 0 (by decide); have h1 := hc 1 (by decide); have h2 := hc 2 (by decide); have h3 := hc 3 (by decide); have h4 := hc 4 (by decide)
    omega
  · show ((116 = c 0) ∧ (104 = c 1) ∧ (101 = c 2) ∧ (110 = c 3) ∧ (32 = c 4) ∧ (32 = c 5)) ↔ 1952998766 = ((((((0 * 256 + c 0) * 256 + c 1) * 256 + c 2) * 256 + c 3) * 256 + c 4) * 256 + c 5)
    have h0 := hc 0 (by decide); have h1 := hc 1 (by decide); have h2 := hc 2 (by decide); have h3 := hc 3 (by decide); have h4 := hc 4 (by decide); have h5 := hc 5 (by decide)
    omega
theorem wcase_5 {m : Nat} {c : Nat → Nat} (hm1 : 1 ≤ m) (hm : m ≤ 6) (hc : ∀ i, i < m → 48 ≤ c i ∧ c i ≤ 122) : ((WN 5 0 = pdw c m 0) ∧ (WN 5 1 = pdw c m 1) ∧ (WN 5 2 = pdw c m 2) ∧ (WN 5 3 = pdw c m 3) ∧ (WN 5 4 = pdw c m 4) ∧ (WN 5 5 = pdw c m 5)) ↔ Wl.getD 5 0 = pkc c m := by
  have hms : m = 1 ∨ m = 2 ∨ m = 3 ∨ m = 4 ∨ m = 5 ∨ m = 6 := by omega
  rcases hms with rfl | rfl | rfl | rfl | rfl | rfl
  · show ((119 = c 0) ∧ (104 = 32) ∧ (101 = 32) ∧ (110 = 32) ∧ (32 = 32) ∧ (32 = 32)) ↔ 2003330414 = (0 * 256 + c 0)
    have h0 := hc 0 (by decide)
    omega
  · show ((119 = c 0) ∧ (104 = c 1) ∧ (101 = 32) ∧ (110 = 32) ∧ (32 = 32) ∧ (32 = 32)) ↔ 2003330414 = ((0 * 256 + c 0) * 256 + c 1)
    have h0 := hc 0 (by decide); have h1 := hc 1 (by decide)
    omega
  · show ((119 = c 0) ∧ (104 = c 1) ∧ (101 = c 2) ∧ (110 = 32) ∧ (32 = 32) ∧ (32 = 32)) ↔ 2003330414 = (((0 * 256 + c 0) * 256 + c 1) * 256 + c 2)
    have h0 := hc 0 (by decide); have h1 := hc 1 (by decide); have h2 := hc 2 (by decide)
    omega
  · show ((119 = c 0) ∧ (104 = c 1) ∧ (101 = c 2) ∧ (110 = c 3) ∧ (32 = 32) ∧ (32 = 32)) ↔ 2003330414 = ((((0 * 256 + c 0) * 256 + c 1) * 256 + c 2) * 256 + c 3)
    have h0 := hc 0 (by decide); have h1 := hc 1 (by decide); have h2 := hc 2 (by decide); have h3 := hc 3 (by decide)
    omega
  · show ((119 = c 0) ∧ (104 = c 1) ∧ (101 = c 2) ∧ (110 = c 3) ∧ (32 = c 4) ∧ (32 = 32)) ↔ 2003330414 = (((((0 * 256 + c 0) * 256 + c 1) * 256 + c 2) * 256 + c 3) * 256 + c 4)
    have h0 := hc 0 (by decide); have h1 := hc 1 (by decide); have h2 := hc 2 (by decide); have h3 := hc 3 (by decide); have h4 := hc 4 (by decide)
    omega
  · show ((119 = c 0) ∧ (104 = c 1) ∧ (101 = c 2) ∧ (110 = c 3) ∧ (32 = c 4) ∧ (32 = c 5)) ↔ 2003330414 = ((((((0 * 256 + c 0) * 256 + c 1) * 256 + c 2) * 256 + c 3) * 256 + c 4) * 256 + c 5)
    have h0 := hc 0 (by decide); have h1 := hc 1 (by decide); have h2 := hc 2 (by decide); have h3 := hc 3 (by decide); have h4 := hc 4 (by decide); have h5 := hc 5 (by decide)
    omega
theorem wcase_6 {m : Nat} {c : Nat → Nat} (hm1 : 1 ≤ m) (hm : m ≤ 6) (hc : ∀ i, i < m → 48 ≤ c i ∧ c i ≤ 122) : ((WN 6 0 = pdw c m 0) ∧ (WN 6 1 = pdw c m 1) ∧ (WN 6 2 = pdw c m 2) ∧ (WN 6 3 = pdw c m 3) ∧ (WN 6 4 = pdw c m 4) ∧ (WN 6 5 = pdw c m 5)) ↔ Wl.getD 6 0 = pkc c m := by
  have hms : m = 1 ∨ m = 2 ∨ m = 3 ∨ m = 4 ∨ m = 5 ∨ m = 6 := by omega
  rcases hms with rfl | rfl | rfl | rfl | rfl | rfl
  · show ((111 = c 0) ∧ (108 = 32) ∧ (100 = 32) ∧ (32 = 32) ∧ (32 = 32) ∧ (32 = 32)) ↔ 7302244 = (0 * 256 + c 0)
    have h0 := hc 0 (by decide)
    omega
  · show ((111 = c 0) ∧ (108 = c 1) ∧ (100 = 32) ∧ (32 = 32) ∧ (32 = 32) ∧ (32 = 32)) ↔ 7302244 = ((0 * 256 + c 0) * 256 + c 1)
    have h0 := hc 0 (by decide); have h1 := hc 1 (by decide)
    omega
  · show ((111 = c 0) ∧ (108 = c 1) ∧ (100 = c 2) ∧ (32 = 32) ∧ (32 = 32) ∧ (32 = 32)) ↔ 7302244 = (((0 * 256 + c 0) * 256 + c 1) * 256 + c 2)
    have h0 := hc 0 (by decide); have h1 := hc 1 (by decide); have h2 := hc 2 (by decide)
    omega
  · show ((111 = c 0) ∧ (108 = c 1) ∧ (100 = c 2) ∧ (32 = c 3) ∧ (32 = 32) ∧ (32 = 32)) ↔ 7302244 = ((((0 * 256 + c 0) * 256 + c 1) * 256 + c 2) * 256 + c 3)
    have h0 := hc 0 (by decide); have h1 := hc 1 (by decide); have h2 := hc 2 (by decide); have h3 := hc 3 (by decide)
    omega
  · show ((111 = c 0) ∧ (108 = c 1) ∧ (100 = c 2) ∧ (32 = c 3) ∧ (32 = c 4) ∧ (32 = 32)) ↔ 7302244 = (((((0 * 256 + c 0) * 256 + c 1) * 256 + c 2) * 256 + c 3) * 256 + c 4)
    have h0 := hc 0 (by decide); have h1 := hc 1 (by decide); have h2 := hc 2 (by decide); have h3 := hc 3 (by decide); have h4 := hc 4 (by decide)
    omega
  · show ((111 = c 0) ∧ (108 = c 1) ∧ (100 = c 2) ∧ (32 = c 3) ∧ (32 = c 4) ∧ (32 = c 5)) ↔ 7302244 = ((((((0 * 256 + c 0) * 256 + c 1) * 256 + c 2) * 256 + c 3) * 256 + c 4) * 256 + c 5)
    have h0 := hc 0 (by decide); have h1 := hc 1 (by decide); have h2 := hc 2 (by decide); have h3 := hc 3 (by decide); have h4 := hc 4 (by decide); have h5 := hc 5 (by decide)
    omega
theorem wcase_7 {m : Nat} {c : Nat → Nat} (hm1 : 1 ≤ m) (hm : m ≤ 6) (hc : ∀ i, i < m → 48 ≤ c i ∧ c i ≤ 122) : ((WN 7 0 = pdw c m 0) ∧ (WN 7 1 = pdw c m 1) ∧ (WN 7 2 = pdw c m 2) ∧ (WN 7 3 = pdw c m 3) ∧ (WN 7 4 = pdw c m 4) ∧ (WN 7 5 = pdw c m 5)) ↔ Wl.getD 7 0 = pkc c m := by
  have hms : m = 1 ∨ m = 2 ∨ m = 3 ∨ m = 4 ∨ m = 5 ∨ m = 6 := by omega
  rcases hms with rfl | rfl | rfl | rfl | rfl | rfl
  · show ((115 = c 0) ∧ (116 = 32) ∧ (101 = 32) ∧ (112 = 32) ∧ (32 = 32) ∧ (32 = 32)) ↔ 1937007984 = (0 * 256 + c 0)
    have h0 := hc 0 (by decide)
    omega
  · show ((115 = c 0) ∧ (116 = c 1) ∧ (101 = 32) ∧ (112 = 32) ∧ (32 = 32) ∧ (32 = 32)) ↔ 1937007984 = ((0 * 256 + c 0) * 256 + c 1)
    have h0 := hc 0 (by decide); have h1 := hc 1 (by decide)
    omega
  · show ((115 = c 0) ∧ (116 = c 1) ∧ (101 = c 2) ∧ (112 = 32) ∧ (32 = 32) ∧ (32 = 32)) ↔ 1937007984 = (((0 * 256 + c 0) * 256 + c 1) * 256 + c 2)
    have h0 := hc 0 (by decide); have h1 := hc 1 (by decide); have h2 := hc 2 (by decide)
    omega
  · show ((115 = c 0) ∧ (116 = c 1) ∧ (101 = c 2) ∧ (112 = c 3) ∧ (32 = 32) ∧ (32 = 32)) ↔ 1937007984 = ((((0 * 256 + c 0) * 256 + c 1) * 256 + c 2) * 256 + c 3)
    have h0 := hc 0 (by decide); have h1 := hc 1 (by decide); have h2 := hc 2 (by decide); have h3 := hc 3 (by decide)
    omega
  · show ((115 = c 0) ∧ (116 = c 1) ∧ (101 = c 2) ∧ (112 = c 3) ∧ (32 = c 4) ∧ (32 = 32)) ↔ 1937007984 = (((((0 * 256 + c 0) * 256 + c 1) * 256 + c 2) * 256 + c 3) * 256 + c 4)
    have h0 := hc 0 (by decide); have h1 := hc 1 (by decide); have h2 := hc 2 (by decide); have h3 := hc 3 (by decide); have h4 := hc 4 (by decide)
    omega
  · show ((115 = c 0) ∧ (116 = c 1) ∧ (101 = c 2) ∧ (112 = c 3) ∧ (32 = c 4) ∧ (32 = c 5)) ↔ 1937007984 = ((((((0 * 256 + c 0) * 256 + c 1) * 256 + c 2) * 256 + c 3) * 256 + c 4) * 256 + c 5)
    have h0 := hc 0 (by decide); have h1 := hc 1 (by decide); have h2 := hc 2 (by decide); have h3 := hc 3 (by decide); have h4 := hc 4 (by decide); have h5 := hc 5 (by decide)
    omega
theorem wcase_8 {m : Nat} {c : Nat → Nat} (hm1 : 1 ≤ m) (hm : m ≤ 6) (hc : ∀ i, i < m → 48 ≤ c i ∧ c i ≤ 122) : ((WN 8 0 = pdw c m 0) ∧ (WN 8 1 = pdw c m 1) ∧ (WN 8 2 = pdw c m 2) ∧ (WN 8 3 = pdw c m 3) ∧ (WN 8 4 = pdw c m 4) ∧ (WN 8 5 = pdw c m 5)) ↔ Wl.getD 8 0 = pkc c m := by
  have hms : m = 1 ∨ m = 2 ∨ m = 3 ∨ m = 4 ∨ m = 5 ∨ m = 6 := by omega
  rcases hms with rfl | rfl | rfl | rfl | rfl | rfl
  · show ((116 = c 0) ∧ (105 = 32) ∧ (99 = 32) ∧ (107 = 32) ∧ (115 = 32) ∧ (32 = 32)) ↔ 499984329587 = (0 * 256 + c 0)
    have h0 := hc 0 (by decide)
    omega
  · show ((116 = c 0) ∧ (105 = c 1) ∧ (99 = 32) ∧ (107 = 32) ∧ (115 = 32) ∧ (32 = 32)) ↔ 499984329587 = ((0 * 256 + c 0) * 256 + c 1)
    have h0 := hc 0 (by decide); have h1 := hc 1 (by decide)
    omega
  · show ((116 = c 0) ∧ (105 = c 1) ∧ (99 = c 2) ∧ (107 = 32) ∧ (115 = 32) ∧ (32 = 32)) ↔ 499984329587 = (((0 * 256 + c 0) * 256 + c 1) * 256 + c 2)
    have h0 := hc 0 (by decide); have h1 := hc 1 (by decide); have h2 := hc 2 (by decide)
    omega
  · show ((116 = c 0) ∧ (105 = c 1) ∧ (99 = c 2) ∧ (107 = c 3) ∧ (115 = 32) ∧ (32 = 32)) ↔ 499984329587 = ((((0 * 256 + c 0) * 256 + c 1) * 256 + c 2) * 256 + c 3)
    have h0 := hc 0 (by decide); have h1 := hc 1 (by decide); have h2 := hc 2 (by decide); have h3 := hc 3 (by decide)
    omega
  · show ((116 = c 0) ∧ (105 = c 1) ∧ (99 = c 2) ∧ (107 = c 3) ∧ (115 = c 4) ∧ (32 = 32)) ↔ 499984329587 = (((((0 * 256 + c 0) * 256 + c 1) * 256 + c 2) * 256 + c 3) * 256 + c 4)
    have h0 := hc 0 (by decide); have h1 := hc 1 (by decide); have h2 := hc 2 (by decide); have h3 := hc 3 (by decide); have h4 := hc 4 (by decide)
    omega
  · show ((116 = c 0) ∧ (105 = c 1) ∧ (99 = c 2) ∧ (107 = c 3) ∧ (115 = c 4) ∧ (32 = c 5)) ↔ 499984329587 = ((((((0 * 256 + c 0) * 256 + c 1) * 256 + c 2) * 256 + c 3) * 256 + c 4) * 256 + c 5)
    have h0 := hc 0 (by decide); have h1 := hc 1 (by decide); have h2 := hc 2 (by decide); have h3 := hc 3 (by decide); have h4 := hc 4 (by decide); have h5 := hc 5 (by decide)
    omega
theorem wcase_9 {m : Nat} {c : Nat → Nat} (hm1 : 1 ≤ m) (hm : m ≤ 6) (hc : ∀ i, i < m → 48 ≤ c i ∧ c i ≤ 122) : ((WN 9 0 = pdw c m 0) ∧ (WN 9 1 = pdw c m 1) ∧ (WN 9 2 = pdw c m 2) ∧ (WN 9 3 = pdw c m 3) ∧ (WN 9 4 = pdw c m 4) ∧ (WN 9 5 = pdw c m 5)) ↔ Wl.getD 9 0 = pkc c m := by
  have hms : m = 1 ∨ m = 2 ∨ m = 3 ∨ m = 4 ∨ m = 5 ∨ m = 6 := by omega
  rcases hms with rfl | rfl | rfl | rfl | rfl | rfl
  · show ((102 = c 0) ∧ (108 = 32) ∧ (111 = 32) ∧ (111 = 32) ∧ (114 = 32) ∧ (32 = 32)) ↔ 439905906546 = (0 * 256 + c 0)
    have h0 := hc 0 (by decide)
    omega
  · show ((102 = c 0) ∧ (108 = c 1) ∧ (111 = 32) ∧ (111 = 32) ∧ (114 = 32) ∧ (32 = 32)) ↔ 439905906546 = ((0 * 256 + c 0) * 256 + c 1)
    have h0 := hc 0 (by decide); have h1 := hc 1 (by decide)
    omega
  · show ((102 = c 0) ∧ (108 = c 1) ∧ (111 = c 2) ∧ (111 = 32) ∧ (114 = 32) ∧ (32 = 32)) ↔ 439905906546 = (((0 * 256 + c 0) * 256 + c 1) * 256 + c 2)
    have h0 := hc 0 (by decide); have h1 := hc 1 (by decide); have h2 := hc 2 (by decide)
    omega
  · show ((102 = c 0) ∧ (108 = c 1) ∧ (111 = c 2) ∧ (111 = c 3) ∧ (114 = 32) ∧ (32 = 32)) ↔ 439905906546 = ((((0 * 256 + c 0) * 256 + c 1) * 256 + c 2) * 256 + c 3)
    have h0 := hc 0 (by decide); have h1 := hc 1 (by decide); have h2 := hc 2 (by decide); have h3 := hc 3 (by decide)
    omega
  · show ((102 = c 0) ∧ (108 = c 1) ∧ (111 = c 2) ∧ (111 = c 3) ∧ (114 = c 4) ∧ (32 = 32)) ↔ 439905906546 = (((((0 * 256 + c 0) * 256 + c 1) * 256 + c 2) * 256 + c 3) * 256 + c 4)
    have h0 := hc 0 (by decide); have h1 := hc 1 (by decide); have h2 := hc 2 (by decide); have h3 := hc 3 (by decide); have h4 := hc 4 (by decide)
    omega
  · show ((102 = c 0) ∧ (108 = c 1) ∧ (111 = c 2) ∧ (111 = c 3) ∧ (114 = c 4) ∧ (32 = c 5)) ↔ 439905906546 = ((((((0 * 256 + c 0) * 256 + c 1) * 256 + c 2) * 256 + c 3) * 256 + c 4) * 256 + c 5)
    have h0 := hc 0 (by decide); have h1 := hc 1 (by decide); have h2 := hc 2 (by decide); have h3 := hc 3 (by decide); have h4 := hc 4 (by decide); have h5 := hc 5 (by decide)
    omega
theorem wcase_10 {m : Nat} {c : Nat → Nat} (hm1 : 1 ≤ m) (hm : m ≤ 6) (hc : ∀ i, i < m → 48 ≤ c i ∧ c i ≤ 122) : ((WN 10 0 = pdw c m 0) ∧ (WN 10 1 = pdw c m 1) ∧ (WN 10 2 = pdw c m 2) ∧ (WN 10 3 = pdw c m 3) ∧ (WN 10 4 = pdw c m 4) ∧ (WN 10 5 = pdw c m 5)) ↔ Wl.getD 10 0 = pkc c m := by
  have hms : m = 1 ∨ m = 2 ∨ m = 3 ∨ m = 4 ∨ m = 5 ∨ m = 6 := by omega
  rcases hms with rfl | rfl | rfl | rfl | rfl | rfl
  · show ((99 = c 0) ∧ (101 = 32) ∧ (105 = 32) ∧ (108 = 32) ∧ (32 = 32) ∧ (32 = 32)) ↔ 1667590508 = (0 * 256 + c 0)
    have h0 := hc 0 (by decide)
    omega
  · show ((99 = c 0) ∧ (101 = c 1) ∧ (105 = 32) ∧ (108 = 32) ∧ (32 = 32) ∧ (32 = 32)) ↔ 1667590508 = ((0 * 256 + c 0) * 256 + c 1)
    have h0 := hc 0 (by decide); have h1 := hc 1 (by decide)
    omega
  · show ((99 = c 0) ∧ (101 = c 1) ∧ (105 = c 2) ∧ (108 = 32) ∧ (32 = 32) ∧ (32 = 32)) ↔ 1667590508 = (((0 * 256 + c 0) * 256 + c 1) * 256 + c 2)
    have h0 := hc 0 (by decide); have h1 := hc 1 (by decide); have h2 := hc 2 (by decide)
    omega
  · show ((99 = c 0) ∧ (101 = c 1) ∧ (105 = c 2) ∧ (108 = c 3) ∧ (32 = 32) ∧ (32 = 32)) ↔ 1667590508 = ((((0 * 256 + c 0) * 256 + c 1) * 256 + c 2) * 256 + c 3)
    have h0 := hc 0 (by decide); have h1 := hc 1 (by decide); have h2 := hc 2 (by decide); have h3 := hc 3 (by decide)
    omega
  · show ((99 = c 0) ∧ (101 = c 1) ∧ (105 = c 2) ∧ (108 = c 3) ∧ (32 = c 4) ∧ (32 = 32)) ↔ 1667590508 = (((((0 * 256 + c 0) * 256 + c 1) * 256 + c 2) * 256 + c 3) * 256 + c 4)
    have h0 := hc 0 (by decide); have h1 := hc 1 (by decide); have h2 := hc 2 (by decide); have h3 := hc 3 (by decide); have h4 := hc 4 (by decide)
    omega
  · show ((99 = c 0) ∧ (101 = c 1) ∧ (105 = c 2) ∧ (108 = c 3) ∧ (32 = c 4) ∧ (32 = c 5)) ↔ 1667590508 = ((((((0 * 256 + c 0) * 256 + c 1) * 256 + c 2) * 256 + c 3) * 256 + c 4) * 256 + c 5)
    have h0 := hc 0 (by decide); have h1 := hc 1 (by decide); have h2 := hc 2 (by decide); have h3 := hc 3 (by decide); have h4 := hc 4 (by decide); have h5 := hc 5 (by decide)
    omega
theorem wcase_11 {m : Nat} {c : Nat → Nat} (hm1 : 1 ≤ m) (hm : m ≤ 6) (hc : ∀ i, i < m → 48 ≤ c i ∧ c i ≤ 122) : ((WN 11 0 = pdw c m 0) ∧ (WN 11 1 = pdw c m 1) ∧ (WN 11 2 = pdw c m 2) ∧ (WN 11 3 = pdw c m 3) ∧ (WN 11 4 = pdw c m 4) ∧ (WN 11 5 = pdw c m 5)) ↔ Wl.getD 11 0 = pkc c m := by
  have hms : m = 1 ∨ m = 2 ∨ m = 3 ∨ m = 4 ∨ m = 5 ∨ m = 6 := by omega
  rcases hms with rfl | rfl | rfl | rfl | rfl | rfl
  · show ((114 = c 0) ∧ (105 = 32) ∧ (110 = 32) ∧ (116 = 32) ∧ (32 = 32) ∧ (32 = 32)) ↔ 1919512180 = (0 * 256 + c 0)
    have h0 := hc 0 (by decide)
    omega
  · show ((114 = c 0) ∧ (105 = c 1) ∧ (110 = 32) ∧ (116 = 32) ∧ (32 = 32) ∧ (32 = 32)) ↔ 1919512180 = ((0 * 256 + c 0) * 256 + c 1)
    have h0 := hc 0 (by decide); have h1 := hc 1 (by decide)
    omega
  · show ((114 = c 0) ∧ (105 = c 1) ∧ (110 = c 2) ∧ (116 = 32) ∧ (32 = 32) ∧ (32 = 32)) ↔ 1919512180 = (((0 * 256 + c 0) * 256 + c 1) * 256 + c 2)
    have h0 := hc 0 (by decide); have h1 := hc 1 (by decide); have h2 := hc 2 (by decide)
    omega
  · show ((114 = c 0) ∧ (105 = c 1) ∧ (110 = c 2) ∧ (116 = c 3) ∧ (32 = 32) ∧ (32 = 32)) ↔ 1919512180 = ((((0 * 256 + c 0) * 256 + c 1) * 256 + c 2) * 256 + c 3)
    have h0 := hc 0 (by decide); have h1 := hc 1 (by decide); have h2 := hc 2 (by decide); have h3 := hc 3 (by decide)
    omega
  · show ((114 = c 0) ∧ (105 = c 1) ∧ (110 = c 2) ∧ (116 = c 3) ∧ (32 = c 4) ∧ (32 = 32)) ↔ 1919512180 = (((((0 * 256 + c 0) * 256 + c 1) * 256 + c 2) * 256 + c 3) * 256 + c 4)
    have h0 := hc 0 (by decide); have h1 := hc 1 (by decide); have h2 := hc 2 (by decide); have h3 := hc 3 (by decide); have h4 := hc 4 (by decide)
    omega
  · show ((114 = c 0) ∧ (105 = c 1) ∧ (110 = c 2) ∧ (116 = c 3) ∧ (32 = c 4) ∧ (32 = c 5)) ↔ 1919512180 = ((((((0 * 256 + c 0) * 256 + c 1) * 256 + c 2) * 256 + c 3) * 256 + c 4) * 256 + c 5)
    have h0 := hc 0 (by decide); have h1 := hc 1 (by decide); have h2 := hc 2 (by decide); have h3 := hc 3 (by decide); have h4 := hc 4 (by decide); have h5 := hc 5 (by decide)
    omega
theorem wcase_12 {m : Nat} {c : Nat → Nat} (hm1 : 1 ≤ m) (hm : m ≤ 6) (hc : ∀ i, i < m → 48 ≤ c i ∧ c i ≤ 122) : ((WN 12 0 = pdw c m 0) ∧ (WN 12 1 = pdw c m 1) ∧ (WN 12 2 = pdw c m 2) ∧ (WN 12 3 = pdw c m 3) ∧ (WN 12 4 = pdw c m 4) ∧ (WN 12 5 = pdw c m 5)) ↔ Wl.getD 12 0 = pkc c m := by
  have hms : m = 1 ∨ m = 2 ∨ m = 3 ∨ m = 4 ∨ m = 5 ∨ m = 6 := by omega
  rcases hms with rfl | rfl | rfl | rfl | rfl | rfl
  · show ((97 = c 0) ∧ (98 = 32) ∧ (115 = 32) ∧ (32 = 32) ∧ (32 = 32) ∧ (32 = 32)) ↔ 6382195 = (0 * 256 + c 0)
    have h0 := hc 0 (by decide)
    omega
  · show ((97 = c 0) ∧ (98 = c 1) ∧ (115 = 32) ∧ (32 = 32) ∧ (32 = 32) ∧ (32 = 32)) ↔ 6382195 = ((0 * 256 + c 0) * 256 + c 1)
    have h0 := hc 0 (by decide); have h1 := hc 1 (by decide)
    omega
  · show ((97 = c 0) ∧ (98 = c 1) ∧ (115 = c 2) ∧ (32 = 32) ∧ (32 = 32) ∧ (32 = 32)) ↔ 6382195 = (((0 * 256 + c 0) * 256 + c 1) * 256 + c 2)
    have h0 := hc 0 (by decide); have h1 := hc 1 (by decide); have h2 := hc 2 (by decide)
    omega
  · show ((97 = c 0) ∧ (98 = c 1) ∧ (115 = c 2) ∧ (32 = c 3) ∧ (32 = 32) ∧ (32 = 32)) ↔ 6382195 = ((((0 * 256 + c 0) * 256 + c 1) * 256 + c 2) * 256 + c 3)
    have h0 := hc 0 (by decide); have h1 := hc 1 (by decide); have h2 := hc 2 (by decide); have h3 := hc 3 (by decide)
    omega
  · show ((97 = c 0) ∧ (98 = c 1) ∧ (115 = c 2) ∧ (32 = c 3) ∧ (32 = c 4) ∧ (32 = 32)) ↔ 6382195 = (((((0 * 256 + c 0) * 256 + c 1) * 256 + c 2) * 256 + c 3) * 256 + c 4)
    have h0 := hc 0 (by decide); have h1 := hc 1 (by decide); have h2 := hc 2 (by decide); have h3 := hc 3 (by decide); have h4 := hc 4 (by decide)
    omega
  · show ((97 = c 0) ∧ (98 = c 1) ∧ (115 = c 2) ∧ (32 = c 3) ∧ (32 = c 4) ∧ (32 = c 5)) ↔ 6382195 = ((((((0 * 256 + c 0) * 256 + c 1) * 256 + c 2) * 256 + c 3) * 256 + c 4) * 256 + c 5)
    have h0 := hc 0 (by decide); have h1 := hc 1 (by decide); have h2 := hc 2 (by decide); have h3 := hc 3 (by decide); have h4 := hc 4 (by decide); have h5 := hc 5 (by decide)
    omega
theorem wcase_13 {m : Nat} {c : Nat → Nat} (hm1 : 1 ≤ m) (hm : m ≤ 6) (hc : ∀ i, i < m → 48 ≤ c i ∧ c i ≤ 122) : ((WN 13 0 = pdw c m 0) ∧ (WN 13 1 = pdw c m 1) ∧ (WN 13 2 = pdw c m 2) ∧ (WN 13 3 = pdw c m 3) ∧ (WN 13 4 = pdw c m 4) ∧ (WN 13 5 = pdw c m 5)) ↔ Wl.getD 13 0 = pkc c m := by
  have hms : m = 1 ∨ m = 2 ∨ m = 3 ∨ m = 4 ∨ m = 5 ∨ m = 6 := by omega
  rcases hms with rfl | rfl | rfl | rfl | rfl | rfl
  · show ((108 = c 0) ∧ (101 = 32) ∧ (97 = 32) ∧ (115 = 32) ∧ (116 = 32) ∧ (32 = 32)) ↔ 465557353332 = (0 * 256 + c 0)
    have h0 := hc 0 (by decide)
    omega
  · show ((108 = c 0) ∧ (101 = c 1) ∧ (97 = 32) ∧ (115 = 32) ∧ (116 = 32) ∧ (32 = 32)) ↔ 465557353332 = ((0 * 256 + c 0) * 256 + c 1)
    have h0 := hc 0 (by decide); have h1 := hc 1 (by decide)
    omega
  · show ((108 = c 0) ∧ (101 = c 1) ∧ (97 = c 2) ∧ (115 = 32) ∧ (116 = 32) ∧ (32 = 32)) ↔ 465557353332 = (((0 * 256 + c 0) * 256 + c 1) * 256 + c 2)
    have h0 := hc 0 (by decide); have h1 := hc 1 (by decide); have h2 := hc 2 (by decide)
    omega
  · show ((108 = c 0) ∧ (101 = c 1) ∧ (97 = c 2) ∧ (115 = c 3) ∧ (116 = 32) ∧ (32 = 32)) ↔ 465557353332 = ((((0 * 256 + c 0) * 256 + c 1) * 256 + c 2) * 256 + c 3)
    have h0 := hc 0 (by decide); have h1 := hc 1 (by decide); have h2 := hc 2 (by decide); have h3 := hc 3 (by decide)
    omega
  · show ((108 = c 0) ∧ (101 = c 1) ∧ (97 = c 2) ∧ (115 = c 3) ∧ (116 = c 4) ∧ (32 = 32)) ↔ 465557353332 = (((((0 * 256 + c 0) * 256 + c 1) * 256 + c 2) * 256 + c 3) * 256 + c 4)
    have h0 := hc 0 (by decide); have h1 := hc 1 (by decide); have h2 := hc 2 (by decide); have h3 := hc 3 (by decide); have h4 := hc 4 (by decide)
    omega
  · show ((108 = c 0) ∧ (101 = c 1) ∧ (97 = c 2) ∧ (115 = c 3) ∧ (116 = c 4) ∧ (32 = c 5)) ↔ 465557353332 = ((((((0 * 256 + c 0) * 256 + c 1) * 256 + c 2) * 256 + c 3) * 256 + c 4) * 256 + c 5)
    have h0 := hc 0 (by decide); have h1 := hc 1 (by decide); have h2 := hc 2 (by decide); have h3 := hc 3 (by decide); have h4 := hc 4 (by decide); have h5 := hc 5 (by decide)
    omega
theorem wcase_14 {m : Nat} {c : Nat → Nat} (hm1 : 1 ≤ m) (hm : m ≤ 6) (hc : ∀ i, i < m → 48 ≤ c i ∧ c i ≤ 122) : ((WN 14 0 = pdw c m 0) ∧ (WN 14 1 = pdw c m 1) ∧ (WN 14 2 = pdw c m 2) ∧ (WN 14 3 = pdw c m 3) ∧ (WN 14 4 = pdw c m 4) ∧ (WN 14 5 = pdw c m 5)) ↔ Wl.getD 14 0 = pkc c m := by
  have hms : m = 1 ∨ m = 2 ∨ m = 3 ∨ m = 4 ∨ m = 5 ∨ m = 6 := by omega
  rcases hms with rfl | rfl | rfl | rfl | rfl | rfl
  · show ((109 = c 0) ∧ (111 = 32) ∧ (115 = 32) ∧ (116 = 32) ∧ (32 = 32) ∧ (32 = 32)) ↔ 1836020596 = (0 * 256 + c 0)
    have h0 := hc 0 (by decide)
    omega
  · show ((109 = c 0) ∧ (111 = c 1) ∧ (115 = 32) ∧ (116 = 32) ∧ (32 = 32) ∧ (32 = 32)) ↔ 1836020596 = ((0 * 256 + c 0) * 256 + c 1)
    have h0 := hc 0 (by decide); have h1 := hc 1 (by decide)
    omega
  · show ((109 = c 0) ∧ (111 = c 1) ∧ (115 = c 2) ∧ (116 = 32) ∧ (32 = 32) ∧ (32 = 32)) ↔ 1836020596 = (((0 * 256 + c 0) * 256 + c 1) * 256 + c 2)
    have h0 := hc 0 (by decide); have h1 := hc 1 (by decide); have h2 := hc 2 (by decide)
    omega
  · show ((109 = c 0) ∧ (111 = c 1) ∧ (115 = c 2) ∧ (116 = c 3) ∧ (32 = 32) ∧ (32 = 32)) ↔ 1836020596 = ((((0 * 256 + c 0) * 256 + c 1) * 256 + c 2) * 256 + c 3)
    have h0 := hc 0 (by decide); have h1 := hc 1 (by decide); have h2 := hc 2 (by decide); have h3 := hc 3 (by decide)
    omega
  · show ((109 = c 0) ∧ (111 = c 1) ∧ (115 = c 2) ∧ (116 = c 3) ∧ (32 = c 4) ∧ (32 = 32)) ↔ 1836020596 = (((((0 * 256 + c 0) * 256 + c 1) * 256 + c 2) * 256 + c 3) * 256 + c 4)
    have h0 := hc 0 (by decide); have h1 := hc 1 (by decide); have h2 := hc 2 (by decide); have h3 := hc 3 (by decide); have h4 := hc 4 (by decide)
    omega
  · show ((109 = c 0) ∧ (111 = c 1) ∧ (115 = c 2) ∧ (116 = c 3) ∧ (32 = c 4) ∧ (32 = c 5)) ↔ 1836020596 = ((((((0 * 256 + c 0) * 256 + c 1) * 256 + c 2) * 256 + c 3) * 256 + c 4) * 256 + c 5)
    have h0 := hc 0 (by decide); have h1 := hc 1 (by decide); have h2 := hc 2 (by decide); have h3 := hc 3 (by decide); have h4 := hc 4 (by decide); have h5 := hc 5 (by decide)
    omega
theorem wcase_15 {m : Nat} {c : Nat → Nat} (hm1 : 1 ≤ m) (hm : m ≤ 6) (hc : ∀ i, i < m → 48 ≤ c i ∧ c i ≤ 122) : ((WN 15 0 = pdw c m 0) ∧ (WN 15 1 = pdw c m 1) ∧ (WN 15 2 = pdw c m 2) ∧ (WN 15 3 = pdw c m 3) ∧ (WN 15 4 = pdw c m 4) ∧ (WN 15 5 = pdw c m 5)) ↔ Wl.getD 15 0 = pkc c m := by
  have hms : m = 1 ∨ m = 2 ∨ m = 3 ∨ m = 4 ∨ m = 5 ∨ m = 6 := by omega
  rcases hms with rfl | rfl | rfl | rfl | rfl | rfl
  · show ((103 = c 0) ∧ (99 = 32) ∧ (100 = 32) ∧ (32 = 32) ∧ (32 = 32) ∧ (32 = 32)) ↔ 6775652 = (0 * 256 + c 0)
    have h0 := hc 0 (by decide)
    omega
  · show ((103 = c 0) ∧ (99 = c 1) ∧ (100 = 32) ∧ (32 = 32) ∧ (32 = 32) ∧ (32 = 32)) ↔ 6775652 = ((0 * 256 + c 0) * 256 + c 1)
    have h0 := hc 0 (by decide); have h1 := hc 1 (by decide)
    omega
  · show ((103 = c 0) ∧ (99 = c 1) ∧ (100 = c 2) ∧ (32 = 32) ∧ (32 = 32) ∧ (32 = 32)) ↔ 6775652 = (((0 * 256 + c 0) * 256 + c 1) * 256 + c 2)
    have h0 := hc 0 (by decide); have h1 := hc 1 (by decide); have h2 := hc 2 (by decide)
    omega
  · show ((103 = c 0) ∧ (99 = c 1) ∧ (100 = c 2) ∧ (32 = c 3) ∧ (32 = 32) ∧ (32 = 32)) ↔ 6775652 = ((((0 * 256 + c 0) * 256 + c 1) * 256 + c 2) * 256 + c 3)
    have h0 := hc 0 (by decide); have h1 := hc 1 (by decide); have h2 := hc 2 (by decide); have h3 := hc 3 (by decide)
    omega
  · show ((103 = c 0) ∧ (99 = c 1) ∧ (100 = c 2) ∧ (32 = c 3) ∧ (32 = c 4) ∧ (32 = 32)) ↔ 6775652 = (((((0 * 256 + c 0) * 256 + c 1) * 256 + c 2) * 256 + c 3) * 256 + c 4)
    have h0 := hc 0 (by decide); have h1 := hc 1 (by decide); have h2 := hc 2 (by decide); have h3 := hc 3 (by decide); have h4 := hc 4 (by decide)
    omega
  · show ((103 = c 0) ∧ (99 = c 1) ∧ (100 = c 2) ∧ (32 = c 3) ∧ (32 = c 4) ∧ (32 = c 5)) ↔ 6775652 = ((((((0 * 256 + c 0) * 256 + c 1) * 256 + c 2) * 256 + c 3) * 256 + c 4) * 256 + c 5)
    have h0 := hc 0 (by decide); have h1 := hc 1 (by decide); have h2 := hc 2 (by decide); have h3 := hc 3 (by decide); have h4 := hc 4 (by decide); have h5 := hc 5 (by decide)
    omega
theorem wcase_16 {m : Nat} {c : Nat → Nat} (hm1 : 1 ≤ m) (hm : m ≤ 6) (hc : ∀ i, i < m → 48 ≤ c i ∧ c i ≤ 122) : ((WN 16 0 = pdw c m 0) ∧ (WN 16 1 = pdw c m 1) ∧ (WN 16 2 = pdw c m 2) ∧ (WN 16 3 = pdw c m 3) ∧ (WN 16 4 = pdw c m 4) ∧ (WN 16 5 = pdw c m 5)) ↔ Wl.getD 16 0 = pkc c m := by
  have hms : m = 1 ∨ m = 2 ∨ m = 3 ∨ m = 4 ∨ m = 5 ∨ m = 6 := by omega
  rcases hms with rfl | rfl | rfl | rfl | rfl | rfl
  · show ((116 = c 0) ∧ (114 = 32) ∧ (117 = 32) ∧ (101 = 32) ∧ (32 = 32) ∧ (32 = 32)) ↔ 1953658213 = (0 * 256 + c 0)
    have h0 := hc 0 (by decide)
    omega
  · show ((116 = c 0) ∧ (114 = c 1) ∧ (117 = 32) ∧ (101 = 32) ∧ (32 = 32) ∧ (32 = 32)) ↔ 1953658213 = ((0 * 256 + c 0) * 256 + c 1)
    have h0 := hc 0 (by decide); have h1 := hc 1 (by decide)
    omega
  · show ((116 = c 0) ∧ (114 = c 1) ∧ (117 = c 2) ∧ (101 = 32) ∧ (32 = 32) ∧ (32 = 32)) ↔ 1953658213 = (((0 * 256 + c 0) * 256 + c 1) * 256 + c 2)
    have h0 := hc 0 (by decide); have h1 := hc 1 (by decide); have h2 := hc 2 (by decide)
    omega
  · show ((116 = c 0) ∧ (114 = c 1) ∧ (117 = c 2) ∧ (101 = c 3) ∧ (32 = 32) ∧ (32 = 32)) ↔ 1953658213 = ((((0 * 256 + c 0) * 256 + c 1) * 256 + c 2) * 256 + c 3)
    have h0 := hc 0 (by decide); have h1 := hc 1 (by decide); have h2 := hc 2 (by decide); have h3 := hc 3 (by decide)
    omega
  · show ((116 = c 0) ∧ (114 = c 1) ∧ (117 = c 2) ∧ (101 = c 3) ∧ (32 = c 4) ∧ (32 = 32)) ↔ 1953658213 = (((((0 * 256 + c 0) * 256 + c 1) * 256 + c 2) * 256 + c 3) * 256 + c 4)
    have h0 := hc 0 (by decide); have h1 := hc 1 (by decide); have h2 := hc 2 (by decide); have h3 := hc 3 (by decide); have h4 := hc 4 (by decide)
    omega
  · show ((116 = c 0) ∧ (114 = c 1) ∧ (117 = c 2) ∧ (101 = c 3) ∧ (32 = c 4) ∧ (32 = c 5)) ↔ 1953658213 = ((((((0 * 256 + c 0) * 256 + c 1) * 256 + c 2) * 256 + c 3) * 256 + c 4) * 256 + c 5)
    have h0 := hc 0 (by decide); have h1 := hc 1 (by decide); have h2 := hc 2 (by decide); have h3 := hc 3 (by decide); have h4 := hc 4 (by decide); have h5 := hc 5 (by decide)
    omega
theorem wcase_17 {m : Nat} {c : Nat → Nat} (hm1 : 1 ≤ m) (hm : m ≤ 6) (hc : ∀ i, i < m → 48 ≤ c i ∧ c i ≤ 122) : ((WN 17 0 = pdw c m 0) ∧ (WN 17 1 = pdw c m 1) ∧ (WN 17 2 = pdw c m 2) ∧ (WN 17 3 = pdw c m 3) ∧ (WN 17 4 = pdw c m 4) ∧ (WN 17 5 = pdw c m 5)) ↔ Wl.getD 17 0 = pkc c m := by
  have hms : m = 1 ∨ m = 2 ∨ m = 3 ∨ m = 4 ∨ m = 5 ∨ m = 6 := by omega
  rcases hms with rfl | rfl | rfl | rfl | rfl | rfl
  · show ((102 = c 0) ∧ (97 = 32) ∧ (108 = 32) ∧ (115 = 32) ∧ (101 = 32) ∧ (32 = 32)) ↔ 439721161573 = (0 * 256 + c 0)
    have h0 := hc 0 (by decide)
    omega
  · show ((102 = c 0) ∧ (97 = c 1) ∧ (108 = 32) ∧ (115 = 32) ∧ (101 = 32) ∧ (32 = 32)) ↔ 439721161573 = ((0 * 256 + c 0) * 256 + c 1)
    have h0 := hc 0 (by decide); have h1 := hc 1 (by decide)
    omega
  · show ((102 = c 0) ∧ (97 = c 1) ∧ (108 = c 2) ∧ (115 = 32) ∧ (101 = 32) ∧ (32 = 32)) ↔ 439721161573 = (((0 * 256 + c 0) * 256 + c 1) * 256 + c 2)
    have h0 := hc 0 (by decide); have h1 := hc 1 (by decide); have h2 := hc 2 (by decide)
    omega
  · show ((102 = c 0) ∧ (97 = c 1) ∧ (108 = c 2) ∧ (115 = c 3) ∧ (101 = 32) ∧ (32 = 32)) ↔ 439721161573 = ((((0 * 256 + c 0) * 256 + c 1) * 256 + c 2) * 256 + c 3)
    have h0 := hc 0 (by decide); have h1 := hc 1 (by decide); have h2 := hc 2 (by decide); have h3 := hc 3 (by decide)
    omega
  · show ((102 = c 0) ∧ (97 = c 1) ∧ (108 = c 2) ∧ (115 = c 3) ∧ (101 = c 4) ∧ (32 = 32)) ↔ 439721161573 = (((((0 * 256 + c 0) * 256 + c 1) * 256 + c 2) * 256 + c 3) * 256 + c 4)
    have h0 := hc 0 (by decide); have h1 := hc 1 (by decide); have h2 := hc 2 (by decide); have h3 := hc 3 (by decide); have h4 := hc 4 (by decide)
    omega
  · show ((102 = c 0) ∧ (97 = c 1) ∧ (108 = c 2) ∧ (115 = c 3) ∧ (101 = c 4) ∧ (32 = c 5)) ↔ 439721161573 = ((((((0 * 256 + c 0) * 256 + c 1) * 256 + c 2) * 256 + c 3) * 256 + c 4) * 256 + c 5)
    have h0 := hc 0 (by decide); have h1 := hc 1 (by decide); have h2 := hc 2 (by decide); have h3 := hc 3 (by decide); have h4 := hc 4 (by decide); have h5 := hc 5 (by decide)
    omega
theorem wcase_18 {m : Nat} {c : Nat → Nat} (hm1 : 1 ≤ m) (hm : m ≤ 6) (hc : ∀ i, i < m → 48 ≤ c i ∧ c i ≤ 122) : ((WN 18 0 = pdw c m 0) ∧ (WN 18 1 = pdw c m 1) ∧ (WN 18 2 = pdw c m 2) ∧ (WN 18 3 = pdw c m 3) ∧ (WN 18 4 = pdw c m 4) ∧ (WN 18 5 = pdw c m 5)) ↔ Wl.getD 18 0 = pkc c m := by
  have hms : m = 1 ∨ m = 2 ∨ m = 3 ∨ m = 4 ∨ m = 5 ∨ m = 6 := by omega
  rcases hms with rfl | rfl | rfl | rfl | rfl | rfl
  · show ((116 = c 0) ∧ (114 = 32) ∧ (117 = 32) ∧ (116 = 32) ∧ (104 = 32) ∧ (32 = 32)) ↔ 500136506472 = (0 * 256 + c 0)
    have h0 := hc 0 (by decide)
    omega
  · show ((116 = c 0) ∧ (114 = c 1) ∧ (117 = 32) ∧ (116 = 32) ∧ (104 = 32) ∧ (32 = 32)) ↔ 500136506472 = ((0 * 256 + c 0) * 256 + c 1)
    have h0 := hc 0 (by decide); have h1 := hc 1 (by decide)
    omega
  · show ((116 = c 0) ∧ (114 = c 1) ∧ (117 = c 2) ∧ (116 = 32) ∧ (104 = 32) ∧ (32 = 32)) ↔ 500136506472 = (((0 * 256 + c 0) * 256 + c 1) * 256 + c 2)
    have h0 := hc 0 (by decide); have h1 := hc 1 (by decide); have h2 := hc 2 (by decide)
    omega
  · show ((116 = c 0) ∧ (114 = c 1) ∧ (117 = c 2) ∧ (116 = c 3) ∧ (104 = 32) ∧ (32 = 32)) ↔ 500136506472 = ((((0 * 256 + c 0) * 256 + c 1) * 256 + c 2) * 256 + c 3)
    have h0 := hc 0 (by decide); have h1 := hc 1 (by decide); have h2 := hc 2 (by decide); have h3 := hc 3 (by decide)
    omega
  · show ((116 = c 0) ∧ (114 = c 1) ∧ (117 = c 2) ∧ (116 = c 3) ∧ (104 = c 4) ∧ (32 = 32)) ↔ 500136506472 = (((((0 * 256 + c 0) * 256 + c 1) * 256 + c 2) * 256 + c 3) * 256 + c 4)
    have h0 := hc 0 (by decide); have h1 := hc 1 (by decide); have h2 := hc 2 (by decide); have h3 := hc 3 (by decide); have h4 := hc 4 (by decide)
    omega
  · show ((116 = c 0) ∧ (114 = c 1) ∧ (117 = c 2) ∧ (116 = c 3) ∧ (104 = c 4) ∧ (32 = c 5)) ↔ 500136506472 = ((((((0 * 256 + c 0) * 256 + c 1) * 256 + c 2) * 256 + c 3) * 256 + c 4) * 256 + c 5)
    have h0 := hc 0 (by decide); have h1 := hc 1 (by decide); have h2 := hc 2 (by decide); have h3 := hc 3 (by decide); have h4 := hc 4 (by decide); have h5 := hc 5 (by decide)
    omega
theorem wcase_19 {m : Nat} {c : Nat → Nat} (hm1 : 1 ≤ m) (hm : m ≤ 6) (hc : ∀ i, i < m → 48 ≤ c i ∧ c i ≤ 122) : ((WN 19 0 = pdw c m 0) ∧ (WN 19 1 = pdw c m 1) ∧ (WN 19 2 = pdw c m 2) ∧ (WN 19 3 = pdw c m 3) ∧ (WN 19 4 = pdw c m 4) ∧ (WN 19 5 = pdw c m 5)) ↔ Wl.getD 19 0 = pkc c m := by
  have hms : m = 1 ∨ m = 2 ∨ m = 3 ∨ m = 4 ∨ m = 5 ∨ m = 6 := by omega
  rcases hms with rfl | rfl | rfl | rfl | rfl | rfl
  · show ((98 = c 0) ∧ (121 = 32) ∧ (116 = 32) ∧ (101 = 32) ∧ (32 = 32) ∧ (32 = 32)) ↔ 1652126821 = (0 * 256 + c 0)
    have h0 := hc 0 (by decide)
    omega
  · show ((98 = c 0) ∧ (121 = c 1) ∧ (116 = 32) ∧ (101 = 32) ∧ (32 = 32) ∧ (32 = 32)) ↔ 1652126821 = ((0 * 256 + c 0) * 256 + c 1)
    have h0 := hc 0 (by decide); have h1 := hc 1 (by decide)
    omega
  · show ((98 = c 0) ∧ (121 = c 1) ∧ (116 = c 2) ∧ (101 = 32) ∧ (32 = 32) ∧ (32 = 32)) ↔ 1652126821 = (((0 * 256 + c 0) * 256 + c 1) * 256 + c 2)
    have h0 := hc 0 (by decide); have h1 := hc 1 (by decide); have h2 := hc 2 (by decide)
    omega
  · show ((98 = c 0) ∧ (121 = c 1) ∧ (116 = c 2) ∧ (101 = c 3) ∧ (32 = 32) ∧ (32 = 32)) ↔ 1652126821 = ((((0 * 256 + c 0) * 256 + c 1) * 256 + c 2) * 256 + c 3)
    have h0 := hc 0 (by decide); have h1 := hc 1 (by decide); have h2 := hc 2 (by decide); have h3 := hc 3 (by decide)
    omega
  · show ((98 = c 0) ∧ (121 = c 1) ∧ (116 = c 2) ∧ (101 = c 3) ∧ (32 = c 4) ∧ (32 = 32)) ↔ 1652126821 = (((((0 * 256 + c 0) * 256 + c 1) * 256 + c 2) * 256 + c 3) * 256 + c 4)
    have h0 := hc 0 (by decide); have h1 := hc 1 (by decide); have h2 := hc 2 (by decide); have h3 := hc 3 (by decide); have h4 := hc 4 (by decide)
    omega
  · show ((98 = c 0) ∧ (121 = c 1) ∧ (116 = c 2) ∧ (101 = c 3) ∧ (32 = c 4) ∧ (32 = c 5)) ↔ 1652126821 = ((((((0 * 256 + c 0) * 256 + c 1) * 256 + c 2) * 256 + c 3) * 256 + c 4) * 256 + c 5)
    have h0 := hc 0 (by decide); have h1 := hc 1 (by decide); have h2 := hc 2 (by decide); have h3 := hc 3 (by decide); have h4 := hc 4 (by decide); have h5 := hc 5 (by decide)
    omega
theorem wcase_20 {m : Nat} {c : Nat → Nat} (hm1 : 1 ≤ m) (hm : m ≤ 6) (hc : ∀ i, i < m → 48 ≤ c i ∧ c i ≤ 122) : ((WN 20 0 = pdw c m 0) ∧ (WN 20 1 = pdw c m 1) ∧ (WN 20 2 = pdw c m 2) ∧ (WN 20 3 = pdw c m 3) ∧ (WN 20 4 = pdw c m 4) ∧ (WN 20 5 = pdw c m 5)) ↔ Wl.getD 20 0 = pkc c m := by
  have hms : m = 1 ∨ m = 2 ∨ m = 3 ∨ m = 4 ∨ m = 5 ∨ m = 6 := by omega
  rcases hms with rfl | rfl | rfl | rfl | rfl | rfl
  · show ((115 = c 0) ∧ (104 = 32) ∧ (111 = 32) ∧ (114 = 32) ∧ (116 = 32) ∧ (32 = 32)) ↔ 495673373300 = (0 * 256 + c 0)
    have h0 := hc 0 (by decide)
    omega
  · show ((115 = c 0) ∧ (104 = c 1) ∧ (111 = 32) ∧ (114 = 32) ∧ (116 = 32) ∧ (32 = 32)) ↔ 495673373300 = ((0 * 256 + c 0) * 256 + c 1)
    have h0 := hc 0 (by decide); have h1 := hc 1 (by decide)
    omega
  · show ((115 = c 0) ∧ (104 = c 1) ∧ (111 = c 2) ∧ (114 = 32) ∧ (116 = 32) ∧ (32 = 32)) ↔ 495673373300 = (((0 * 256 + c 0) * 256 + c 1) * 256 + c 2)
    have h0 := hc 0 (by decide); have h1 := hc 1 (by decide); have h2 := hc 2 (by decide)
    omega
  · show ((115 = c 0) ∧ (104 = c 1) ∧ (111 = c 2) ∧ (114 = c 3) ∧ (116 = 32) ∧ (32 = 32)) ↔ 495673373300 = ((((0 * 256 + c 0) * 256 + c 1) * 256 + c 2) * 256 + c 3)
    have h0 := hc 0 (by decide); have h1 := hc 1 (by decide); have h2 := hc 2 (by decide); have h3 := hc 3 (by decide)
    omega
  · show ((115 = c 0) ∧ (104 = c 1) ∧ (111 = c 2) ∧ (114 = c 3) ∧ (116 = c 4) ∧ (32 = 32)) ↔ 495673373300 = (((((0 * 256 + c 0) * 256 + c 1) * 256 + c 2) * 256 + c 3) * 256 + c 4)
    have h0 := hc 0 (by decide); have h1 := hc 1 (by decide); have h2 := hc 2 (by decide); have h3 := hc 3 (by decide); have h4 := hc 4 (by decide)
    omega
  · show ((115 = c 0) ∧ (104 = c 1) ∧ (111 = c 2) ∧ (114 = c 3) ∧ (116 = c 4) ∧ (32 = c 5)) ↔ 495673373300 = ((((((0 * 256 + c 0) * 256 + c 1) * 256 + c 2) * 256 + c 3) * 256 + c 4) * 256 + c 5)
    have h0 := hc 0 (by decide); have h1 := hc 1 (by decide); have h2 := hc 2 (by decide); have h3 := hc 3 (by decide); have h4 := hc 4 (by decide); have h5 := hc 5 (by decide)
    omega
theorem wcase_21 {m : Nat} {c : Nat → Nat} (hm1 : 1 ≤ m) (hm : m ≤ 6) (hc : ∀ i, i < m → 48 ≤ c i ∧ c i ≤ 122) : ((WN 21 0 = pdw c m 0) ∧ (WN 21 1 = pdw c m 1) ∧ (WN 21 2 = pdw c m 2) ∧ (WN 21 3 = pdw c m 3) ∧ (WN 21 4 = pdw c m 4) ∧ (WN 21 5 = pdw c m 5)) ↔ Wl.getD 21 0 = pkc c m := by
  have hms : m = 1 ∨ m = 2 ∨ m = 3 ∨ m = 4 ∨ m = 5 ∨ m = 6 := by omega
  rcases hms with rfl | rfl | rfl | rfl | rfl | rfl
  · show ((99 = c 0) ∧ (104 = 32) ∧ (97 = 32) ∧ (114 = 32) ∧ (32 = 32) ∧ (32 = 32)) ↔ 1667785074 = (0 * 256 + c 0)
    have h0 := hc 0 (by decide)
    omega
  · show ((99 = c 0) ∧ (104 = c 1) ∧ (97 = 32) ∧ (114 = 32) ∧ (32 = 32) ∧ (32 = 32)) ↔ 1667785074 = ((0 * 256 + c 0) * 256 + c 1)
    have h0 := hc 0 (by decide); have h1 := hc 1 (by decide)
    omega
  · show ((99 = c 0) ∧ (104 = c 1) ∧ (97 = c 2) ∧ (114 = 32) ∧ (32 = 32) ∧ (32 = 32)) ↔ 1667785074 = (((0 * 256 + c 0) * 256 + c 1) * 256 + c 2)
    have h0 := hc 0 (by decide); have h1 := hc 1 (by decide); have h2 := hc 2 (by decide)
    omega
  · show ((99 = c 0) ∧ (104 = c 1) ∧ (97 = c 2) ∧ (114 = c 3) ∧ (32 = 32) ∧ (32 = 32)) ↔ 1667785074 = ((((0 * 256 + c 0) * 256 + c 1) * 256 + c 2) * 256 + c 3)
    have h0 := hc 0 (by decide); have h1 := hc 1 (by decide); have h2 := hc 2 (by decide); have h3 := hc 3 (by decide)
    omega
  · show ((99 = c 0) ∧ (104 = c 1) ∧ (97 = c 2) ∧ (114 = c 3) ∧ (32 = c 4) ∧ (32 = 32)) ↔ 1667785074 = (((((0 * 256 + c 0) * 256 + c 1) * 256 + c 2) * 256 + c 3) * 256 + c 4)
    have h0 := hc 0 (by decide); have h1 := hc 1 (by decide); have h2 := hc 2 (by decide); have h3 := hc 3 (by decide); have h4 := hc 4 (by decide)
    omega
  · show ((99 = c 0) ∧ (104 = c 1) ∧ (97 = c 2) ∧ (114 = c 3) ∧ (32 = c 4) ∧ (32 = c 5)) ↔ 1667785074 = ((((((0 * 256 + c 0) * 256 + c 1) * 256 + c 2) * 256 + c 3) * 256 + c 4) * 256 + c 5)
    have h0 := hc 0 (by decide); have h1 := hc 1 (by decide); have h2 := hc 2 (by decide); have h3 := hc 3 (by decide); have h4 := hc 4 (by decide); have h5 := hc 5 (by decide)
    omega
theorem wcase_22 {m : Nat} {c : Nat → Nat} (hm1 : 1 ≤ m) (hm : m ≤ 6) (hc : ∀ i, i < m → 48 ≤ c i ∧ c i ≤ 122) : ((WN 22 0 = pdw c m 0) ∧ (WN 22 1 = pdw c m 1) ∧ (WN 22 2 = pdw c m 2) ∧ (WN 22 3 = pdw c m 3) ∧ (WN 22 4 = pdw c m 4) ∧ (WN 22 5 = pdw c m 5)) ↔ Wl.getD 22 0 = pkc c m := by
  have hms : m = 1 ∨ m = 2 ∨ m = 3 ∨ m = 4 ∨ m = 5 ∨ m = 6 := by omega
  rcases hms with rfl | rfl | rfl | rfl | rfl | rfl
  · show ((105 = c 0) ∧ (110 = 32) ∧ (116 = 32) ∧ (32 = 32) ∧ (32 = 32) ∧ (32 = 32)) ↔ 6909556 = (0 * 256 + c 0)
    have h0 := hc 0 (by decide)
    omega
  · show ((105 = c 0) ∧ (110 = c 1) ∧ (116 = 32) ∧ (32 = 32) ∧ (32 = 32) ∧ (32 = 32)) ↔ 6909556 = ((0 * 256 + c 0) * 256 + c 1)
    have h0 := hc 0 (by decide); have h1 := hc 1 (by decide)
    omega
  · show ((105 = c 0) ∧ (110 = c 1) ∧ (116 = c 2) ∧ (32 = 32) ∧ (32 = 32) ∧ (32 = 32)) ↔ 6909556 = (((0 * 256 + c 0) * 256 + c 1) * 256 + c 2)
    have h0 := hc 0 (by decide); have h1 := hc 1 (by decide); have h2 := hc 2 (by decide)
    omega
  · show ((105 = c 0) ∧ (110 = c 1) ∧ (116 = c 2) ∧ (32 = c 3) ∧ (32 = 32) ∧ (32 = 32)) ↔ 6909556 = ((((0 * 256 + c 0) * 256 + c 1) * 256 + c 2) * 256 + c 3)
    have h0 := hc 0 (by decide); have h1 := hc 1 (by decide); have h2 := hc 2 (by decide); have h3 := hc 3 (by decide)
    omega
  · show ((105 = c 0) ∧ (110 = c 1) ∧ (116 = c 2) ∧ (32 = c 3) ∧ (32 = c 4) ∧ (32 = 32)) ↔ 6909556 = (((((0 * 256 + c 0) * 256 + c 1) * 256 + c 2) * 256 + c 3) * 256 + c 4)
    have h0 := hc 0 (by decide); have h1 := hc 1 (by decide); have h2 := hc 2 (by decide); have h3 := hc 3 (by decide); have h4 := hc 4 (by decide)
    omega
  · show ((105 = c 0) ∧ (110 = c 1) ∧ (116 = c 2) ∧ (32 = c 3) ∧ (32 = c 4) ∧ (32 = c 5)) ↔ 6909556 = ((((((0 * 256 + c 0) * 256 + c 1) * 256 + c 2) * 256 + c 3) * 256 + c 4) * 256 + c 5)
    have h0 := hc 0 (by decide); have h1 := hc 1 (by decide); have h2 := hc 2 (by decide); have h3 := hc 3 (by decide); have h4 := hc 4 (by decide); have h5 := hc 5 (by decide)
    omega
theorem wcase_23 {m : Nat} {c : Nat → Nat} (hm1 : 1 ≤ m) (hm : m ≤ 6) (hc : ∀ i, i < m → 48 ≤ c i ∧ c i ≤ 122) : ((WN 23 0 = pdw c m 0) ∧ (WN 23 1 = pdw c m 1) ∧ (WN 23 2 = pdw c m 2) ∧ (WN 23 3 = pdw c m 3) ∧ (WN 23 4 = pdw c m 4) ∧ (WN 23 5 = pdw c m 5)) ↔ Wl.getD 23 0 = pkc c m := by
  have hms : m = 1 ∨ m = 2 ∨ m = 3 ∨ m = 4 ∨ m = 5 ∨ m = 6 := by omega
  rcases hms with rfl | rfl | rfl | rfl | rfl | rfl
  · show ((108 = c 0) ∧ (111 = 32) ∧ (110 = 32) ∧ (103 = 32) ∧ (32 = 32) ∧ (32 = 32)) ↔ 1819242087 = (0 * 256 + c 0)
    have h0 := hc 0 (by decide)
    omega
  · show ((108 = c 0) ∧ (111 = c 1) ∧ (110 = 32) ∧ (103 = 32) ∧ (32 = 32) ∧ (32 = 32)) ↔ 1819242087 = ((0 * 256 + c 0) * 256 + c 1)
    have h0 := hc 0 (by decide); have h1 := hc 1 (by decide)
    omega
  · show ((108 = c 0) ∧ (111 = c 1) ∧ (110 = c 2) ∧ (103 = 32) ∧ (32 = 32) ∧ (32 = 32)) ↔ 1819242087 = (((0 * 256 + c 0) * 256 + c 1) * 256 + c 2)
    have h0 := hc 0 (by decide); have h1 := hc 1 (by decide); have h2 := hc 2 (by decide)
    omega
  · show ((108 = c 0) ∧ (111 = c 1) ∧ (110 = c 2) ∧ (103 = c 3) ∧ (32 = 32) ∧ (32 = 32)) ↔ 1819242087 = ((((0 * 256 + c 0) * 256 + c 1) * 256 + c 2) * 256 + c 3)
    have h0 := hc 0 (by decide); have h1 := hc 1 (by decide); have h2 := hc 2 (by decide); have h3 := hc 3 (by decide)
    omega
  · show ((108 = c 0) ∧ (111 = c 1) ∧ (110 = c 2) ∧ (103 = c 3) ∧ (32 = c 4) ∧ (32 = 32)) ↔ 1819242087 = (((((0 * 256 + c 0) * 256 + c 1) * 256 + c 2) * 256 + c 3) * 256 + c 4)
    have h0 := hc 0 (by decide); have h1 := hc 1 (by decide); have h2 := hc 2 (by decide); have h3 := hc 3 (by decide); have h4 := hc 4 (by decide)
    omega
  · show ((108 = c 0) ∧ (111 = c 1) ∧ (110 = c 2) ∧ (103 = c 3) ∧ (32 = c 4) ∧ (32 = c 5)) ↔ 1819242087 = ((((((0 * 256 + c 0) * 256 + c 1) * 256 + c 2) * 256 + c 3) * 256 + c 4) * 256 + c 5)
    have h0 := hc 0 (by decide); have h1 := hc 1 (by decide); have h2 := hc 2 (by decide); have h3 := hc 3 (by decide); have h4 := hc 4 (by decide); have h5 := hc 5 (by decide)
    omega
theorem wcase_24 {m : Nat} {c : Nat → Nat} (hm1 : 1 ≤ m) (hm : m ≤ 6) (hc : ∀ i, i < m → 48 ≤ c i ∧ c i ≤ 122) : ((WN 24 0 = pdw c m 0) ∧ (WN 24 1 = pdw c m 1) ∧ (WN 24 2 = pdw c m 2) ∧ (WN 24 3 = pdw c m 3) ∧ (WN 24 4 = pdw c m 4) ∧ (WN 24 5 = pdw c m 5)) ↔ Wl.getD 24 0 = pkc c m := by
  have hms : m = 1 ∨ m = 2 ∨ m = 3 ∨ m = 4 ∨ m = 5 ∨ m = 6 := by omega
  rcases hms with rfl | rfl | rfl | rfl | rfl | rfl
  · show ((102 = c 0) ∧ (108 = 32) ∧ (111 = 32) ∧ (97 = 32) ∧ (116 = 32) ∧ (32 = 32)) ↔ 439905902964 = (0 * 256 + c 0)
    have h0 := hc 0 (by decide)
    omega
  · show ((102 = c 0) ∧ (108 = c 1) ∧ (111 = 32) ∧ (97 = 32) ∧ (116 = 32) ∧ (32 = 32)) ↔ 439905902964 = ((0 * 256 + c 0) * 256 + c 1)
    have h0 := hc 0 (by decide); have h1 := hc 1 (by decide)
    omega
  · show ((102 = c 0) ∧ (108 = c 1) ∧ (111 = c 2) ∧ (97 = 32) ∧ (116 = 32) ∧ (32 = 32)) ↔ 439905902964 = (((0 * 256 + c 0) * 256 + c 1) * 256 + c 2)
    have h0 := hc 0 (by decide); have h1 := hc 1 (by decide); have h2 := hc 2 (by decide)
    omega
  · show ((102 = c 0) ∧ (108 = c 1) ∧ (111 = c 2) ∧ (97 = c 3) ∧ (116 = 32) ∧ (32 = 32)) ↔ 439905902964 = ((((0 * 256 + c 0) * 256 + c 1) * 256 + c 2) * 256 + c 3)
    have h0 := hc 0 (by decide); have h1 := hc 1 (by decide); have h2 := hc 2 (by decide); have h3 := hc 3 (by decide)
    omega
  · show ((102 = c 0) ∧ (108 = c 1) ∧ (111 = c 2) ∧ (97 = c 3) ∧ (116 = c 4) ∧ (32 = 32)) ↔ 439905902964 = (((((0 * 256 + c 0) * 256 + c 1) * 256 + c 2) * 256 + c 3) * 256 + c 4)
    have h0 := hc 0 (by decide); have h1 := hc 1 (by decide); have h2 := hc 2 (by decide); have h3 := hc 3 (by decide); have h4 := hc 4 (by decide)
    omega
  · show ((102 = c 0) ∧ (108 = c 1) ∧ (111 = c 2) ∧ (97 = c 3) ∧ (116 = c 4) ∧ (32 = c 5)) ↔ 439905902964 = ((((((0 * 256 + c 0) * 256 + c 1) * 256 + c 2) * 256 + c 3) * 256 + c 4) * 256 + c 5)
    have h0 := hc 0 (by decide); have h1 := hc 1 (by decide); have h2 := hc 2 (by decide); have h3 := hc 3 (by decide); have h4 := hc 4 (by decide); have h5 := hc 5 (by decide)
    omega
theorem wcase_25 {m : Nat} {c : Nat → Nat} (hm1 : 1 ≤ m) (hm : m ≤ 6) (hc : ∀ i, i < m → 48 ≤ c i ∧ c i ≤ 122) : ((WN 25 0 = pdw c m 0) ∧ (WN 25 1 = pdw c m 1) ∧ (WN 25 2 = pdw c m 2) ∧ (WN 25 3 = pdw c m 3) ∧ (WN 25 4 = pdw c m 4) ∧ (WN 25 5 = pdw c m 5)) ↔ Wl.getD 25 0 = pkc c m := by
  have hms : m = 1 ∨ m = 2 ∨ m = 3 ∨ m = 4 ∨ m = 5 ∨ m = 6 := by omega
  rcases hms with rfl | rfl | rfl | rfl | rfl | rfl
  · show ((100 = c 0) ∧ (111 = 32) ∧ (117 = 32) ∧ (98 = 32) ∧ (108 = 32) ∧ (101 = 32)) ↔ 110429873532005 = (0 * 256 + c 0)
    have h0 := hc 0 (by decide)
    omega
  · show ((100 = c 0) ∧ (111 = c 1) ∧ (117 = 32) ∧ (98 = 32) ∧ (108 = 32) ∧ (101 = 32)) ↔ 110429873532005 = ((0 * 256 + c 0) * 256 + c 1)
    have h0 := hc 0 (by decide); have h1 := hc 1 (by decide)
    omega
  · show ((100 = c 0) ∧ (111 = c 1) ∧ (117 = c 2) ∧ (98 = 32) ∧ (108 = 32) ∧ (101 = 32)) ↔ 110429873532005 = (((0 * 256 + c 0) * 256 + c 1) * 256 + c 2)
    have h0 := hc 0 (by decide); have h1 := hc 1 (by decide); have h2 := hc 2 (by decide)
    omega
  · show ((100 = c 0) ∧ (111 = c 1) ∧ (117 = c 2) ∧ (98 = c 3) ∧ (108 = 32) ∧ (101 = 32)) ↔ 110429873532005 = ((((0 * 256 + c 0) * 256 + c 1) * 256 + c 2) * 256 + c 3)
    have h0 := hc 0 (by decide); have h1 := hc 1 (by decide); have h2 := hc 2 (by decide); have h3 := hc 3 (by decide)
    omega
  · show ((100 = c 0) ∧ (111 = c 1) ∧ (117 = c 2) ∧ (98 = c 3) ∧ (108 = c 4) ∧ (101 = 32)) ↔ 110429873532005 = (((((0 * 256 + c 0) * 256 + c 1) * 256 + c 2) * 256 + c 3) * 256 + c 4)
    have h0 := hc 0 (by decide); have h1 := hc 1 (by decide); have h2 := hc 2 (by decide); have h3 := hc 3 (by decide); have h4 := hc 4 (by decide)
    omega
  · show ((100 = c 0) ∧ (111 = c 1) ∧ (117 = c 2) ∧ (98 = c 3) ∧ (108 = c 4) ∧ (101 = c 5)) ↔ 110429873532005 = ((((((0 * 256 + c 0) * 256 + c 1) * 256 + c 2) * 256 + c 3) * 256 + c 4) * 256 + c 5)
    have h0 := hc 0 (by decide); have h1 := hc 1 (by decide); have h2 := hc 2 (by decide); have h3 := hc 3 (by decide); have h4 := hc 4 (by decide); have h5 := hc 5 (by decide)
    omega
theorem wcase {j m : Nat} {c : Nat → Nat} (hj : j < 26) (hm1 : 1 ≤ m) (hm : m ≤ 6) (hc : ∀ i, i < m → 48 ≤ c i ∧ c i ≤ 122) : ((WN j 0 = pdw c m 0) ∧ (WN j 1 = pdw c m 1) ∧ (WN j 2 = pdw c m 2) ∧ (WN j 3 = pdw c m 3) ∧ (WN j 4 = pdw c m 4) ∧ (WN j 5 = pdw c m 5)) ↔ Wl.getD j 0 = pkc c m := by
  have hjs : j = 0 ∨ j = 1 ∨ j = 2 ∨ j = 3 ∨ j = 4 ∨ j = 5 ∨ j = 6 ∨ j = 7 ∨ j = 8 ∨ j = 9 ∨ j = 10 ∨ j = 11 ∨ j = 12 ∨ j = 13 ∨ j = 14 ∨ j = 15 ∨ j = 16 ∨ j = 17 ∨ j = 18 ∨ j = 19 ∨ j = 20 ∨ j = 21 ∨ j = 22 ∨ j = 23 ∨ j = 24 ∨ j = 25 := by omega
  rcases hjs with rfl | rfl | rfl | rfl | rfl | rfl | rfl | rfl | rfl | rfl | rfl | rfl | rfl | rfl | rfl | rfl | rfl | rfl | rfl | rfl | rfl | rfl | rfl | rfl | rfl | rfl
  · exact wcase_0 hm1 hm hc
  · exact wcase_1 hm1 hm hc
  · exact wcase_2 hm1 hm hc
  · exact wcase_3 hm1 hm hc
  · exact wcase_4 hm1 hm hc
  · exact wcase_5 hm1 hm hc
  · exact wcase_6 hm1 hm hc
  · exact wcase_7 hm1 hm hc
  · exact wcase_8 hm1 hm hc
  · exact wcase_9 hm1 hm hc
  · exact wcase_10 hm1 hm hc
  · exact wcase_11 hm1 hm hc
  · exact wcase_12 hm1 hm hc
  · exact wcase_13 hm1 hm hc
  · exact wcase_14 hm1 hm hc
  · exact wcase_15 hm1 hm hc
  · exact wcase_16 hm1 hm hc
  · exact wcase_17 hm1 hm hc
  · exact wcase_18 hm1 hm hc
  · exact wcase_19 hm1 hm hc
  · exact wcase_20 hm1 hm hc
  · exact wcase_21 hm1 hm hc
  · exact wcase_22 hm1 hm hc
  · exact wcase_23 hm1 hm hc
  · exact wcase_24 hm1 hm hc
  · exact wcase_25 hm1 hm hc
