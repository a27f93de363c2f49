/-! the count of bits -/
def pcN (a : Nat) : Nat → Nat
  | 0 => 0
  | d + 1 => pcN a d + a / 2 ^ d % 2
def bc1 (a : Nat) : Nat := a - (a / 2 &&& 1431655765)
def bc2 (a : Nat) : Nat := (a &&& 858993459) + (a / 4 &&& 858993459)
def bc3 (a : Nat) : Nat := (a + a / 16) &&& 252645135
def bc4 (a : Nat) : Nat := a + a / 256
def bc5 (a : Nat) : Nat := (a + a / 65536) &&& 63
theorem bc_ok0 : ∀ h, h < 16 → ∀ l, l < 256 → bc5 (bc4 (bc3 (bc2 (bc1 ((0 + h) * 256 + l))))) = pcN ((0 + h) * 256 + l) 16 := by decide +kernel
theorem bc_ok1 : ∀ h, h < 16 → ∀ l, l < 256 → bc5 (bc4 (bc3 (bc2 (bc1 ((16 + h) * 256 + l))))) = pcN ((16 + h) * 256 + l) 16 := by decide +kernel
theorem bc_ok2 : ∀ h, h < 16 → ∀ l, l < 256 → bc5 (bc4 (bc3 (bc2 (bc1 ((32 + h) * 256 + l))))) = pcN ((32 + h) * 256 + l) 16 := by decide +kernel
theorem bc_ok3 : ∀ h, h < 16 → ∀ l, l < 256 → bc5 (bc4 (bc3 (bc2 (bc1 ((48 + h) * 256 + l))))) = pcN ((48 + h) * 256 + l) 16 := by decide +kernel
theorem bc_ok4 : ∀ h, h < 16 → ∀ l, l < 256 → bc5 (bc4 (bc3 (bc2 (bc1 ((64 + h) * 256 + l))))) = pcN ((64 + h) * 256 + l) 16 := by decide +kernel
theorem bc_ok5 : ∀ h, h < 16 → ∀ l, l < 256 → bc5 (bc4 (bc3 (bc2 (bc1 ((80 + h) * 256 + l))))) = pcN ((80 + h) * 256 + l) 16 := by decide +kernel
theorem bc_ok6 : ∀ h, h < 16 → ∀ l, l < 256 → bc5 (bc4 (bc3 (bc2 (bc1 ((96 + h) * 256 + l))))) = pcN ((96 + h) * 256 + l) 16 := by decide +kernel
theorem bc_ok7 : ∀ h, h < 16 → ∀ l, l < 256 → bc5 (bc4 (bc3 (bc2 (bc1 ((112 + h) * 256 + l))))) = pcN ((112 + h) * 256 + l) 16 := by decide +kernel
theorem bc_ok8 : ∀ h, h < 16 → ∀ l, l < 256 → bc5 (bc4 (bc3 (bc2 (bc1 ((128 + h) * 256 + l))))) = pcN ((128 + h) * 256 + l) 16 := by decide +kernel
theorem bc_ok9 : ∀ h, h < 16 → ∀ l, l < 256 → bc5 (bc4 (bc3 (bc2 (bc1 ((144 + h) * 256 + l))))) = pcN ((144 + h) * 256 + l) 16 := by decide +kernel
theorem bc_ok10 : ∀ h, h < 16 → ∀ l, l < 256 → bc5 (bc4 (bc3 (bc2 (bc1 ((160 + h) * 256 + l))))) = pcN ((160 + h) * 256 + l) 16 := by decide +kernel
theorem bc_ok11 : ∀ h, h < 16 → ∀ l, l < 256 → bc5 (bc4 (bc3 (bc2 (bc1 ((176 + h) * 256 + l))))) = pcN ((176 + h) * 256 + l) 16 := by decide +kernel
theorem bc_ok12 : ∀ h, h < 16 → ∀ l, l < 256 → bc5 (bc4 (bc3 (bc2 (bc1 ((192 + h) * 256 + l))))) = pcN ((192 + h) * 256 + l) 16 := by decide +kernel
theorem bc_ok13 : ∀ h, h < 16 → ∀ l, l < 256 → bc5 (bc4 (bc3 (bc2 (bc1 ((208 + h) * 256 + l))))) = pcN ((208 + h) * 256 + l) 16 := by decide +kernel
theorem bc_ok14 : ∀ h, h < 16 → ∀ l, l < 256 → bc5 (bc4 (bc3 (bc2 (bc1 ((224 + h) * 256 + l))))) = pcN ((224 + h) * 256 + l) 16 := by decide +kernel
theorem bc_ok15 : ∀ h, h < 16 → ∀ l, l < 256 → bc5 (bc4 (bc3 (bc2 (bc1 ((240 + h) * 256 + l))))) = pcN ((240 + h) * 256 + l) 16 := by decide +kernel
theorem bc_ok : ∀ h, h < 256 → ∀ l, l < 256 → bc5 (bc4 (bc3 (bc2 (bc1 (h * 256 + l))))) = pcN (h * 256 + l) 16 := by
  intro h hh l hl
  obtain ⟨c, r, hc, hr, rfl⟩ : ∃ c r, c < 16 ∧ r < 16 ∧ h = 16 * c + r := ⟨h / 16, h % 16, by omega, by omega, by omega⟩
  have hcs : c = 0 ∨ c = 1 ∨ c = 2 ∨ c = 3 ∨ c = 4 ∨ c = 5 ∨ c = 6 ∨ c = 7 ∨ c = 8 ∨ c = 9 ∨ c = 10 ∨ c = 11 ∨ c = 12 ∨ c = 13 ∨ c = 14 ∨ c = 15 := by omega
  rcases hcs with rfl | rfl | rfl | rfl | rfl | rfl | rfl | rfl | rfl | rfl | rfl | rfl | rfl | rfl | rfl | rfl
  · exact bc_ok0 r hr l hl
  · exact bc_ok1 r hr l hl
  · exact bc_ok2 r hr l hl
  · exact bc_ok3 r hr l hl
  · exact bc_ok4 r hr l hl
  · exact bc_ok5 r hr l hl
  · exact bc_ok6 r hr l hl
  · exact bc_ok7 r hr l hl
  · exact bc_ok8 r hr l hl
  · exact bc_ok9 r hr l hl
  · exact bc_ok10 r hr l hl
  · exact bc_ok11 r hr l hl
  · exact bc_ok12 r hr l hl
  · exact bc_ok13 r hr l hl
  · exact bc_ok14 r hr l hl
  · exact bc_ok15 r hr l hl
