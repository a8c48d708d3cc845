/-! my words for the walks: mirrors' checks and binds, contracts of three kinds, one row a call -/
abbrev chk {α : Type} (c : Prop) [Decidable c] (x : Option α) : Option α := if c then x else none
theorem chk_of {α : Type} {c : Prop} [Decidable c] {x : Option α} {r : α} (h : chk c x = some r) : c ∧ x = some r := by
  by_cases hc : c
  · rw [chk, if_pos hc] at h; exact ⟨hc, h⟩
  · rw [chk, if_neg hc] at h; cases h
def FU : Nat := 40000
def bd1 {β a : Type} (x : Option a) (k : a → Option β) : Option β := match x with
  | some y => k y
  | none => none
theorem bd1_of {β a : Type} {x : Option a} {k : a → Option β} {r : β} (h : bd1 x k = some r) : ∃ y, x = some y ∧ k y = some r := by
  cases x with
  | none => cases h
  | some y => exact ⟨y, rfl, h⟩
def bd2 {β a1 a2 : Type} (x : Option (a1 × a2)) (k : a1 → a2 → Option β) : Option β := match x with
  | some (y1, y2) => k y1 y2
  | none => none
theorem bd2_of {β a1 a2 : Type} {x : Option (a1 × a2)} {k : a1 → a2 → Option β} {r : β} (h : bd2 x k = some r) : ∃ y1 y2, x = some (y1, y2) ∧ k y1 y2 = some r := by
  cases x with
  | none => cases h
  | some y => exact ⟨y.1, y.2, rfl, h⟩
def bd3 {β a1 a2 a3 : Type} (x : Option (a1 × a2 × a3)) (k : a1 → a2 → a3 → Option β) : Option β := match x with
  | some (y1, y2, y3) => k y1 y2 y3
  | none => none
theorem bd3_of {β a1 a2 a3 : Type} {x : Option (a1 × a2 × a3)} {k : a1 → a2 → a3 → Option β} {r : β} (h : bd3 x k = some r) : ∃ y1 y2 y3, x = some (y1, y2, y3) ∧ k y1 y2 y3 = some r := by
  cases x with
  | none => cases h
  | some y => exact ⟨y.1, y.2.1, y.2.2, rfl, h⟩
def bd4 {β a1 a2 a3 a4 : Type} (x : Option (a1 × a2 × a3 × a4)) (k : a1 → a2 → a3 → a4 → Option β) : Option β := match x with
  | some (y1, y2, y3, y4) => k y1 y2 y3 y4
  | none => none
theorem bd4_of {β a1 a2 a3 a4 : Type} {x : Option (a1 × a2 × a3 × a4)} {k : a1 → a2 → a3 → a4 → Option β} {r : β} (h : bd4 x k = some r) : ∃ y1 y2 y3 y4, x = some (y1, y2, y3, y4) ∧ k y1 y2 y3 y4 = some r := by
  cases x with
  | none => cases h
  | some y => exact ⟨y.1, y.2.1, y.2.2.1, y.2.2.2, rfl, h⟩
def bd5 {β a1 a2 a3 a4 a5 : Type} (x : Option (a1 × a2 × a3 × a4 × a5)) (k : a1 → a2 → a3 → a4 → a5 → Option β) : Option β := match x with
  | some (y1, y2, y3, y4, y5) => k y1 y2 y3 y4 y5
  | none => none
theorem bd5_of {β a1 a2 a3 a4 a5 : Type} {x : Option (a1 × a2 × a3 × a4 × a5)} {k : a1 → a2 → a3 → a4 → a5 → Option β} {r : β} (h : bd5 x k = some r) : ∃ y1 y2 y3 y4 y5, x = some (y1, y2, y3, y4, y5) ∧ k y1 y2 y3 y4 y5 = some r := by
  cases x with
  | none => cases h
  | some y => exact ⟨y.1, y.2.1, y.2.2.1, y.2.2.2.1, y.2.2.2.2, rfl, h⟩
def bd6 {β a1 a2 a3 a4 a5 a6 : Type} (x : Option (a1 × a2 × a3 × a4 × a5 × a6)) (k : a1 → a2 → a3 → a4 → a5 → a6 → Option β) : Option β := match x with
  | some (y1, y2, y3, y4, y5, y6) => k y1 y2 y3 y4 y5 y6
  | none => none
theorem bd6_of {β a1 a2 a3 a4 a5 a6 : Type} {x : Option (a1 × a2 × a3 × a4 × a5 × a6)} {k : a1 → a2 → a3 → a4 → a5 → a6 → Option β} {r : β} (h : bd6 x k = some r) : ∃ y1 y2 y3 y4 y5 y6, x = some (y1, y2, y3, y4, y5, y6) ∧ k y1 y2 y3 y4 y5 y6 = some r := by
  cases x with
  | none => cases h
  | some y => exact ⟨y.1, y.2.1, y.2.2.1, y.2.2.2.1, y.2.2.2.2.1, y.2.2.2.2.2, rfl, h⟩
def bd7 {β a1 a2 a3 a4 a5 a6 a7 : Type} (x : Option (a1 × a2 × a3 × a4 × a5 × a6 × a7)) (k : a1 → a2 → a3 → a4 → a5 → a6 → a7 → Option β) : Option β := match x with
  | some (y1, y2, y3, y4, y5, y6, y7) => k y1 y2 y3 y4 y5 y6 y7
  | none => none
theorem bd7_of {β a1 a2 a3 a4 a5 a6 a7 : Type} {x : Option (a1 × a2 × a3 × a4 × a5 × a6 × a7)} {k : a1 → a2 → a3 → a4 → a5 → a6 → a7 → Option β} {r : β} (h : bd7 x k = some r) : ∃ y1 y2 y3 y4 y5 y6 y7, x = some (y1, y2, y3, y4, y5, y6, y7) ∧ k y1 y2 y3 y4 y5 y6 y7 = some r := by
  cases x with
  | none => cases h
  | some y => exact ⟨y.1, y.2.1, y.2.2.1, y.2.2.2.1, y.2.2.2.2.1, y.2.2.2.2.2.1, y.2.2.2.2.2.2, rfl, h⟩
def bd8 {β a1 a2 a3 a4 a5 a6 a7 a8 : Type} (x : Option (a1 × a2 × a3 × a4 × a5 × a6 × a7 × a8)) (k : a1 → a2 → a3 → a4 → a5 → a6 → a7 → a8 → Option β) : Option β := match x with
  | some (y1, y2, y3, y4, y5, y6, y7, y8) => k y1 y2 y3 y4 y5 y6 y7 y8
  | none => none
theorem bd8_of {β a1 a2 a3 a4 a5 a6 a7 a8 : Type} {x : Option (a1 × a2 × a3 × a4 × a5 × a6 × a7 × a8)} {k : a1 → a2 → a3 → a4 → a5 → a6 → a7 → a8 → Option β} {r : β} (h : bd8 x k = some r) : ∃ y1 y2 y3 y4 y5 y6 y7 y8, x = some (y1, y2, y3, y4, y5, y6, y7, y8) ∧ k y1 y2 y3 y4 y5 y6 y7 y8 = some r := by
  cases x with
  | none => cases h
  | some y => exact ⟨y.1, y.2.1, y.2.2.1, y.2.2.2.1, y.2.2.2.2.1, y.2.2.2.2.2.1, y.2.2.2.2.2.2.1, y.2.2.2.2.2.2.2, rfl, h⟩
def bd9 {β a1 a2 a3 a4 a5 a6 a7 a8 a9 : Type} (x : Option (a1 × a2 × a3 × a4 × a5 × a6 × a7 × a8 × a9)) (k : a1 → a2 → a3 → a4 → a5 → a6 → a7 → a8 → a9 → Option β) : Option β := match x with
  | some (y1, y2, y3, y4, y5, y6, y7, y8, y9) => k y1 y2 y3 y4 y5 y6 y7 y8 y9
  | none => none
theorem bd9_of {β a1 a2 a3 a4 a5 a6 a7 a8 a9 : Type} {x : Option (a1 × a2 × a3 × a4 × a5 × a6 × a7 × a8 × a9)} {k : a1 → a2 → a3 → a4 → a5 → a6 → a7 → a8 → a9 → Option β} {r : β} (h : bd9 x k = some r) : ∃ y1 y2 y3 y4 y5 y6 y7 y8 y9, x = some (y1, y2, y3, y4, y5, y6, y7, y8, y9) ∧ k y1 y2 y3 y4 y5 y6 y7 y8 y9 = some r := by
  cases x with
  | none => cases h
  | some y => exact ⟨y.1, y.2.1, y.2.2.1, y.2.2.2.1, y.2.2.2.2.1, y.2.2.2.2.2.1, y.2.2.2.2.2.2.1, y.2.2.2.2.2.2.2.1, y.2.2.2.2.2.2.2.2, rfl, h⟩
def bd10 {β a1 a2 a3 a4 a5 a6 a7 a8 a9 a10 : Type} (x : Option (a1 × a2 × a3 × a4 × a5 × a6 × a7 × a8 × a9 × a10)) (k : a1 → a2 → a3 → a4 → a5 → a6 → a7 → a8 → a9 → a10 → Option β) : Option β := match x with
  | some (y1, y2, y3, y4, y5, y6, y7, y8, y9, y10) => k y1 y2 y3 y4 y5 y6 y7 y8 y9 y10
  | none => none
theorem bd10_of {β a1 a2 a3 a4 a5 a6 a7 a8 a9 a10 : Type} {x : Option (a1 × a2 × a3 × a4 × a5 × a6 × a7 × a8 × a9 × a10)} {k : a1 → a2 → a3 → a4 → a5 → a6 → a7 → a8 → a9 → a10 → Option β} {r : β} (h : bd10 x k = some r) : ∃ y1 y2 y3 y4 y5 y6 y7 y8 y9 y10, x = some (y1, y2, y3, y4, y5, y6, y7, y8, y9, y10) ∧ k y1 y2 y3 y4 y5 y6 y7 y8 y9 y10 = some r := by
  cases x with
  | none => cases h
  | some y => exact ⟨y.1, y.2.1, y.2.2.1, y.2.2.2.1, y.2.2.2.2.1, y.2.2.2.2.2.1, y.2.2.2.2.2.2.1, y.2.2.2.2.2.2.2.1, y.2.2.2.2.2.2.2.2.1, y.2.2.2.2.2.2.2.2.2, rfl, h⟩
def bd11 {β a1 a2 a3 a4 a5 a6 a7 a8 a9 a10 a11 : Type} (x : Option (a1 × a2 × a3 × a4 × a5 × a6 × a7 × a8 × a9 × a10 × a11)) (k : a1 → a2 → a3 → a4 → a5 → a6 → a7 → a8 → a9 → a10 → a11 → Option β) : Option β := match x with
  | some (y1, y2, y3, y4, y5, y6, y7, y8, y9, y10, y11) => k y1 y2 y3 y4 y5 y6 y7 y8 y9 y10 y11
  | none => none
theorem bd11_of {β a1 a2 a3 a4 a5 a6 a7 a8 a9 a10 a11 : Type} {x : Option (a1 × a2 × a3 × a4 × a5 × a6 × a7 × a8 × a9 × a10 × a11)} {k : a1 → a2 → a3 → a4 → a5 → a6 → a7 → a8 → a9 → a10 → a11 → Option β} {r : β} (h : bd11 x k = some r) : ∃ y1 y2 y3 y4 y5 y6 y7 y8 y9 y10 y11, x = some (y1, y2, y3, y4, y5, y6, y7, y8, y9, y10, y11) ∧ k y1 y2 y3 y4 y5 y6 y7 y8 y9 y10 y11 = some r := by
  cases x with
  | none => cases h
  | some y => exact ⟨y.1, y.2.1, y.2.2.1, y.2.2.2.1, y.2.2.2.2.1, y.2.2.2.2.2.1, y.2.2.2.2.2.2.1, y.2.2.2.2.2.2.2.1, y.2.2.2.2.2.2.2.2.1, y.2.2.2.2.2.2.2.2.2.1, y.2.2.2.2.2.2.2.2.2.2, rfl, h⟩
def bd12 {β a1 a2 a3 a4 a5 a6 a7 a8 a9 a10 a11 a12 : Type} (x : Option (a1 × a2 × a3 × a4 × a5 × a6 × a7 × a8 × a9 × a10 × a11 × a12)) (k : a1 → a2 → a3 → a4 → a5 → a6 → a7 → a8 → a9 → a10 → a11 → a12 → Option β) : Option β := match x with
  | some (y1, y2, y3, y4, y5, y6, y7, y8, y9, y10, y11, y12) => k y1 y2 y3 y4 y5 y6 y7 y8 y9 y10 y11 y12
  | none => none
theorem bd12_of {β a1 a2 a3 a4 a5 a6 a7 a8 a9 a10 a11 a12 : Type} {x : Option (a1 × a2 × a3 × a4 × a5 × a6 × a7 × a8 × a9 × a10 × a11 × a12)} {k : a1 → a2 → a3 → a4 → a5 → a6 → a7 → a8 → a9 → a10 → a11 → a12 → Option β} {r : β} (h : bd12 x k = some r) : ∃ y1 y2 y3 y4 y5 y6 y7 y8 y9 y10 y11 y12, x = some (y1, y2, y3, y4, y5, y6, y7, y8, y9, y10, y11, y12) ∧ k y1 y2 y3 y4 y5 y6 y7 y8 y9 y10 y11 y12 = some r := by
  cases x with
  | none => cases h
  | some y => exact ⟨y.1, y.2.1, y.2.2.1, y.2.2.2.1, y.2.2.2.2.1, y.2.2.2.2.2.1, y.2.2.2.2.2.2.1, y.2.2.2.2.2.2.2.1, y.2.2.2.2.2.2.2.2.1, y.2.2.2.2.2.2.2.2.2.1, y.2.2.2.2.2.2.2.2.2.2.1, y.2.2.2.2.2.2.2.2.2.2.2, rfl, h⟩
def bd13 {β a1 a2 a3 a4 a5 a6 a7 a8 a9 a10 a11 a12 a13 : Type} (x : Option (a1 × a2 × a3 × a4 × a5 × a6 × a7 × a8 × a9 × a10 × a11 × a12 × a13)) (k : a1 → a2 → a3 → a4 → a5 → a6 → a7 → a8 → a9 → a10 → a11 → a12 → a13 → Option β) : Option β := match x with
  | some (y1, y2, y3, y4, y5, y6, y7, y8, y9, y10, y11, y12, y13) => k y1 y2 y3 y4 y5 y6 y7 y8 y9 y10 y11 y12 y13
  | none => none
theorem bd13_of {β a1 a2 a3 a4 a5 a6 a7 a8 a9 a10 a11 a12 a13 : Type} {x : Option (a1 × a2 × a3 × a4 × a5 × a6 × a7 × a8 × a9 × a10 × a11 × a12 × a13)} {k : a1 → a2 → a3 → a4 → a5 → a6 → a7 → a8 → a9 → a10 → a11 → a12 → a13 → Option β} {r : β} (h : bd13 x k = some r) : ∃ y1 y2 y3 y4 y5 y6 y7 y8 y9 y10 y11 y12 y13, x = some (y1, y2, y3, y4, y5, y6, y7, y8, y9, y10, y11, y12, y13) ∧ k y1 y2 y3 y4 y5 y6 y7 y8 y9 y10 y11 y12 y13 = some r := by
  cases x with
  | none => cases h
  | some y => exact ⟨y.1, y.2.1, y.2.2.1, y.2.2.2.1, y.2.2.2.2.1, y.2.2.2.2.2.1, y.2.2.2.2.2.2.1, y.2.2.2.2.2.2.2.1, y.2.2.2.2.2.2.2.2.1, y.2.2.2.2.2.2.2.2.2.1, y.2.2.2.2.2.2.2.2.2.2.1, y.2.2.2.2.2.2.2.2.2.2.2.1, y.2.2.2.2.2.2.2.2.2.2.2.2, rfl, h⟩
def bd14 {β a1 a2 a3 a4 a5 a6 a7 a8 a9 a10 a11 a12 a13 a14 : Type} (x : Option (a1 × a2 × a3 × a4 × a5 × a6 × a7 × a8 × a9 × a10 × a11 × a12 × a13 × a14)) (k : a1 → a2 → a3 → a4 → a5 → a6 → a7 → a8 → a9 → a10 → a11 → a12 → a13 → a14 → Option β) : Option β := match x with
  | some (y1, y2, y3, y4, y5, y6, y7, y8, y9, y10, y11, y12, y13, y14) => k y1 y2 y3 y4 y5 y6 y7 y8 y9 y10 y11 y12 y13 y14
  | none => none
theorem bd14_of {β a1 a2 a3 a4 a5 a6 a7 a8 a9 a10 a11 a12 a13 a14 : Type} {x : Option (a1 × a2 × a3 × a4 × a5 × a6 × a7 × a8 × a9 × a10 × a11 × a12 × a13 × a14)} {k : a1 → a2 → a3 → a4 → a5 → a6 → a7 → a8 → a9 → a10 → a11 → a12 → a13 → a14 → Option β} {r : β} (h : bd14 x k = some r) : ∃ y1 y2 y3 y4 y5 y6 y7 y8 y9 y10 y11 y12 y13 y14, x = some (y1, y2, y3, y4, y5, y6, y7, y8, y9, y10, y11, y12, y13, y14) ∧ k y1 y2 y3 y4 y5 y6 y7 y8 y9 y10 y11 y12 y13 y14 = some r := by
  cases x with
  | none => cases h
  | some y => exact ⟨y.1, y.2.1, y.2.2.1, y.2.2.2.1, y.2.2.2.2.1, y.2.2.2.2.2.1, y.2.2.2.2.2.2.1, y.2.2.2.2.2.2.2.1, y.2.2.2.2.2.2.2.2.1, y.2.2.2.2.2.2.2.2.2.1, y.2.2.2.2.2.2.2.2.2.2.1, y.2.2.2.2.2.2.2.2.2.2.2.1, y.2.2.2.2.2.2.2.2.2.2.2.2.1, y.2.2.2.2.2.2.2.2.2.2.2.2.2, rfl, h⟩
def bd15 {β a1 a2 a3 a4 a5 a6 a7 a8 a9 a10 a11 a12 a13 a14 a15 : Type} (x : Option (a1 × a2 × a3 × a4 × a5 × a6 × a7 × a8 × a9 × a10 × a11 × a12 × a13 × a14 × a15)) (k : a1 → a2 → a3 → a4 → a5 → a6 → a7 → a8 → a9 → a10 → a11 → a12 → a13 → a14 → a15 → Option β) : Option β := match x with
  | some (y1, y2, y3, y4, y5, y6, y7, y8, y9, y10, y11, y12, y13, y14, y15) => k y1 y2 y3 y4 y5 y6 y7 y8 y9 y10 y11 y12 y13 y14 y15
  | none => none
theorem bd15_of {β a1 a2 a3 a4 a5 a6 a7 a8 a9 a10 a11 a12 a13 a14 a15 : Type} {x : Option (a1 × a2 × a3 × a4 × a5 × a6 × a7 × a8 × a9 × a10 × a11 × a12 × a13 × a14 × a15)} {k : a1 → a2 → a3 → a4 → a5 → a6 → a7 → a8 → a9 → a10 → a11 → a12 → a13 → a14 → a15 → Option β} {r : β} (h : bd15 x k = some r) : ∃ y1 y2 y3 y4 y5 y6 y7 y8 y9 y10 y11 y12 y13 y14 y15, x = some (y1, y2, y3, y4, y5, y6, y7, y8, y9, y10, y11, y12, y13, y14, y15) ∧ k y1 y2 y3 y4 y5 y6 y7 y8 y9 y10 y11 y12 y13 y14 y15 = some r := by
  cases x with
  | none => cases h
  | some y => exact ⟨y.1, y.2.1, y.2.2.1, y.2.2.2.1, y.2.2.2.2.1, y.2.2.2.2.2.1, y.2.2.2.2.2.2.1, y.2.2.2.2.2.2.2.1, y.2.2.2.2.2.2.2.2.1, y.2.2.2.2.2.2.2.2.2.1, y.2.2.2.2.2.2.2.2.2.2.1, y.2.2.2.2.2.2.2.2.2.2.2.1, y.2.2.2.2.2.2.2.2.2.2.2.2.1, y.2.2.2.2.2.2.2.2.2.2.2.2.2.1, y.2.2.2.2.2.2.2.2.2.2.2.2.2.2, rfl, h⟩
def bd16 {β a1 a2 a3 a4 a5 a6 a7 a8 a9 a10 a11 a12 a13 a14 a15 a16 : Type} (x : Option (a1 × a2 × a3 × a4 × a5 × a6 × a7 × a8 × a9 × a10 × a11 × a12 × a13 × a14 × a15 × a16)) (k : a1 → a2 → a3 → a4 → a5 → a6 → a7 → a8 → a9 → a10 → a11 → a12 → a13 → a14 → a15 → a16 → Option β) : Option β := match x with
  | some (y1, y2, y3, y4, y5, y6, y7, y8, y9, y10, y11, y12, y13, y14, y15, y16) => k y1 y2 y3 y4 y5 y6 y7 y8 y9 y10 y11 y12 y13 y14 y15 y16
  | none => none
theorem bd16_of {β a1 a2 a3 a4 a5 a6 a7 a8 a9 a10 a11 a12 a13 a14 a15 a16 : Type} {x : Option (a1 × a2 × a3 × a4 × a5 × a6 × a7 × a8 × a9 × a10 × a11 × a12 × a13 × a14 × a15 × a16)} {k : a1 → a2 → a3 → a4 → a5 → a6 → a7 → a8 → a9 → a10 → a11 → a12 → a13 → a14 → a15 → a16 → Option β} {r : β} (h : bd16 x k = some r) : ∃ y1 y2 y3 y4 y5 y6 y7 y8 y9 y10 y11 y12 y13 y14 y15 y16, x = some (y1, y2, y3, y4, y5, y6, y7, y8, y9, y10, y11, y12, y13, y14, y15, y16) ∧ k y1 y2 y3 y4 y5 y6 y7 y8 y9 y10 y11 y12 y13 y14 y15 y16 = some r := by
  cases x with
  | none => cases h
  | some y => exact ⟨y.1, y.2.1, y.2.2.1, y.2.2.2.1, y.2.2.2.2.1, y.2.2.2.2.2.1, y.2.2.2.2.2.2.1, y.2.2.2.2.2.2.2.1, y.2.2.2.2.2.2.2.2.1, y.2.2.2.2.2.2.2.2.2.1, y.2.2.2.2.2.2.2.2.2.2.1, y.2.2.2.2.2.2.2.2.2.2.2.1, y.2.2.2.2.2.2.2.2.2.2.2.2.1, y.2.2.2.2.2.2.2.2.2.2.2.2.2.1, y.2.2.2.2.2.2.2.2.2.2.2.2.2.2.1, y.2.2.2.2.2.2.2.2.2.2.2.2.2.2.2, rfl, h⟩
def bd17 {β a1 a2 a3 a4 a5 a6 a7 a8 a9 a10 a11 a12 a13 a14 a15 a16 a17 : Type} (x : Option (a1 × a2 × a3 × a4 × a5 × a6 × a7 × a8 × a9 × a10 × a11 × a12 × a13 × a14 × a15 × a16 × a17)) (k : a1 → a2 → a3 → a4 → a5 → a6 → a7 → a8 → a9 → a10 → a11 → a12 → a13 → a14 → a15 → a16 → a17 → Option β) : Option β := match x with
  | some (y1, y2, y3, y4, y5, y6, y7, y8, y9, y10, y11, y12, y13, y14, y15, y16, y17) => k y1 y2 y3 y4 y5 y6 y7 y8 y9 y10 y11 y12 y13 y14 y15 y16 y17
  | none => none
theorem bd17_of {β a1 a2 a3 a4 a5 a6 a7 a8 a9 a10 a11 a12 a13 a14 a15 a16 a17 : Type} {x : Option (a1 × a2 × a3 × a4 × a5 × a6 × a7 × a8 × a9 × a10 × a11 × a12 × a13 × a14 × a15 × a16 × a17)} {k : a1 → a2 → a3 → a4 → a5 → a6 → a7 → a8 → a9 → a10 → a11 → a12 → a13 → a14 → a15 → a16 → a17 → Option β} {r : β} (h : bd17 x k = some r) : ∃ y1 y2 y3 y4 y5 y6 y7 y8 y9 y10 y11 y12 y13 y14 y15 y16 y17, x = some (y1, y2, y3, y4, y5, y6, y7, y8, y9, y10, y11, y12, y13, y14, y15, y16, y17) ∧ k y1 y2 y3 y4 y5 y6 y7 y8 y9 y10 y11 y12 y13 y14 y15 y16 y17 = some r := by
  cases x with
  | none => cases h
  | some y => exact ⟨y.1, y.2.1, y.2.2.1, y.2.2.2.1, y.2.2.2.2.1, y.2.2.2.2.2.1, y.2.2.2.2.2.2.1, y.2.2.2.2.2.2.2.1, y.2.2.2.2.2.2.2.2.1, y.2.2.2.2.2.2.2.2.2.1, y.2.2.2.2.2.2.2.2.2.2.1, y.2.2.2.2.2.2.2.2.2.2.2.1, y.2.2.2.2.2.2.2.2.2.2.2.2.1, y.2.2.2.2.2.2.2.2.2.2.2.2.2.1, y.2.2.2.2.2.2.2.2.2.2.2.2.2.2.1, y.2.2.2.2.2.2.2.2.2.2.2.2.2.2.2.1, y.2.2.2.2.2.2.2.2.2.2.2.2.2.2.2.2, rfl, h⟩
def bd18 {β a1 a2 a3 a4 a5 a6 a7 a8 a9 a10 a11 a12 a13 a14 a15 a16 a17 a18 : Type} (x : Option (a1 × a2 × a3 × a4 × a5 × a6 × a7 × a8 × a9 × a10 × a11 × a12 × a13 × a14 × a15 × a16 × a17 × a18)) (k : a1 → a2 → a3 → a4 → a5 → a6 → a7 → a8 → a9 → a10 → a11 → a12 → a13 → a14 → a15 → a16 → a17 → a18 → Option β) : Option β := match x with
  | some (y1, y2, y3, y4, y5, y6, y7, y8, y9, y10, y11, y12, y13, y14, y15, y16, y17, y18) => k y1 y2 y3 y4 y5 y6 y7 y8 y9 y10 y11 y12 y13 y14 y15 y16 y17 y18
  | none => none
theorem bd18_of {β a1 a2 a3 a4 a5 a6 a7 a8 a9 a10 a11 a12 a13 a14 a15 a16 a17 a18 : Type} {x : Option (a1 × a2 × a3 × a4 × a5 × a6 × a7 × a8 × a9 × a10 × a11 × a12 × a13 × a14 × a15 × a16 × a17 × a18)} {k : a1 → a2 → a3 → a4 → a5 → a6 → a7 → a8 → a9 → a10 → a11 → a12 → a13 → a14 → a15 → a16 → a17 → a18 → Option β} {r : β} (h : bd18 x k = some r) : ∃ y1 y2 y3 y4 y5 y6 y7 y8 y9 y10 y11 y12 y13 y14 y15 y16 y17 y18, x = some (y1, y2, y3, y4, y5, y6, y7, y8, y9, y10, y11, y12, y13, y14, y15, y16, y17, y18) ∧ k y1 y2 y3 y4 y5 y6 y7 y8 y9 y10 y11 y12 y13 y14 y15 y16 y17 y18 = some r := by
  cases x with
  | none => cases h
  | some y => exact ⟨y.1, y.2.1, y.2.2.1, y.2.2.2.1, y.2.2.2.2.1, y.2.2.2.2.2.1, y.2.2.2.2.2.2.1, y.2.2.2.2.2.2.2.1, y.2.2.2.2.2.2.2.2.1, y.2.2.2.2.2.2.2.2.2.1, y.2.2.2.2.2.2.2.2.2.2.1, y.2.2.2.2.2.2.2.2.2.2.2.1, y.2.2.2.2.2.2.2.2.2.2.2.2.1, y.2.2.2.2.2.2.2.2.2.2.2.2.2.1, y.2.2.2.2.2.2.2.2.2.2.2.2.2.2.1, y.2.2.2.2.2.2.2.2.2.2.2.2.2.2.2.1, y.2.2.2.2.2.2.2.2.2.2.2.2.2.2.2.2.1, y.2.2.2.2.2.2.2.2.2.2.2.2.2.2.2.2.2, rfl, h⟩
/-- a method without a world: the arguments are what they are -/
abbrev psPc (As : List Value) : Array Value → State → Prop := fun v _ => v = As.toArray
/-- what a method answers that writes nothing -/
abbrev rdQ (r0 : Int32) : Array Value → State → Outcome → State → Prop := vp_Si (fun r => r = r0)
/-- the start of a method that writes nothing -/
abbrev rdPc (D : va_G) (tys : List (ClassId × FieldType)) (ws : va_W) (As : List Value) : Array Value → State → Prop := va_Pc As (fun U => va_P D vwCl ws U.heap ∧ va_K D vwCl tys U)
/-- the start of a method that writes -/
abbrev mtPc (D : va_G) (tys : List (ClassId × FieldType)) (ws : va_W) (As : List Value) (sz : Nat) : Array Value → State → Prop := va_Pc As (fun U => U.heap.size = sz ∧ va_P D vwCl ws U.heap ∧ va_K D vwCl tys U ∧ va_D (fun _ => True) ws)
abbrev mtB (D : va_G) (tys : List (ClassId × FieldType)) (ws ws' : va_W) (sz : Nat) : Unit → State → Prop := fun _ t => va_P D vwCl ws' t.heap ∧ va_K D vwCl tys t ∧ va_D (va_A ws sz) ws'
abbrev mtQi (D : va_G) (tys : List (ClassId × FieldType)) (ws ws' : va_W) (r0 : Int32) (sz : Nat) : Array Value → State → Outcome → State → Prop := va_Qi (fun r _ => r = r0) (mtB D tys ws ws' sz) (va_A ws sz)
abbrev mtQv (D : va_G) (tys : List (ClassId × FieldType)) (ws ws' : va_W) (sz : Nat) : Array Value → State → Outcome → State → Prop := va_Qv (fun _ => True) (mtB D tys ws ws' sz) (va_A ws sz)
theorem rd_fb {D : va_G} {tys : List (ClassId × FieldType)} {ws : va_W} {As : List Value} : FrameBlind (rdPc D tys ws As) := fun a U g mk q => ⟨q.1, q.2.1, va_K.moved (u := U) (U := U.calling g mk a) (Vm.Alike.refl U.vm) q.2.2⟩
theorem mt_fb {D : va_G} {tys : List (ClassId × FieldType)} {ws : va_W} {As : List Value} {sz : Nat} : FrameBlind (mtPc D tys ws As sz) := fun a U g mk q => ⟨q.1, q.2.1, q.2.2.1, va_K.moved (u := U) (U := U.calling g mk a) (Vm.Alike.refl U.vm) q.2.2.2.1, q.2.2.2.2⟩
theorem ne_tn {x k : Int32} {z : Int} (h : ¬ x = k) (hz : k.toInt = z) : x.toInt ≠ z := fun e => h (Int32.toInt_inj.mp (e.trans hz.symm))
theorem zb_nar {v : Int32} (h : v = 0 ∨ v = 1) : narrow .boolean (.int v) = .int v := by rcases h with rfl | rfl <;> rfl
theorem zb_fit {v : Int32} (h : v = 0 ∨ v = 1) : fits .boolean (.int v) = true := by rcases h with rfl | rfl <;> rfl
section WRAP
variable {p : Program} {l : Launch} {e : Env} {R : Room} {s : State} {m : MethodId} {args : Array Value} {below : List Frame} {meth : Method} {c : Code} {H : Heap} {locs : List Loc} {cells slots : Nat} {Q : State → Prop}
variable {cc : ByteArray} {pc : Nat} {ls : Array Slot} {rest : List Value} {D : va_G} {A : Nat → Prop} {tys : List (ClassId × FieldType)} {ws : va_W} {H0 : Heap}
variable {nL n index : Nat} {y : MethodName} {bytes : ByteArray} {maxL : Nat} {ret : Option FieldType} {wsy : List Cond} {rm : Room} {Ts : List Cond} {own C : String} {b : Addr} {As st0 : List Value} {wsc wsc' wr : va_W} {r0 : Int32}
theorem cl_pS (S : CallFix p m c cc nL s args Ts own) (hM : Met l y wsy rm (psPc As) (rdQ r0) 0 0 (fun _ => False)) (cw : CallB R s args own index y bytes maxL ret wsy rm 0 0 n ∧ (Cond.static y).before args s = true)
    (hst : st0 = As.reverse ++ rest) (hn : As.length = n) (hsize : ls.size = nL) (hW : (rest.map fun v => v.category).sum ≤ 8) (hcs : cells + 0 ≤ R.cells ∧ slots + 0 ≤ R.slots) (hdg : decode cc pc = .ok (.invokestatic index, 3))
    (kk : W p l e R s m args below meth c H locs cells slots Q (F0 m (pc + 3) ls (.int r0 :: rest))) : W p l e R s m args below meth c H locs cells slots Q (F0 m pc ls st0) := by
  subst hst
  refine vp_callSi (a := As.toArray) (W.runS (g := F0 m pc ls (As.reverse ++ rest)) S hM cw preEq rfl hn hsize rfl (lv_room hW) hdg hcs) (fun r hr => ?_)
  subst hr
  exact kk
theorem cl_rS (S : CallFix p m c cc nL s args Ts own) (hM : Met l y wsy rm (rdPc D tys wsc As) (rdQ r0) 0 0 (fun _ => False)) (cw : CallB R s args own index y bytes maxL ret wsy rm 0 0 n ∧ (Cond.static y).before args s = true) (hK : va_K D vwCl tys s) (hP : va_P D vwCl ws H) (is : List Nat) (hs : is.filterMap (fun i => ws[i]?) = wsc)
    (hst : st0 = As.reverse ++ rest) (hn : As.length = n) (hsize : ls.size = nL) (hW : (rest.map fun v => v.category).sum ≤ 8) (hcs : cells + 0 ≤ R.cells ∧ slots + 0 ≤ R.slots) (hdg : decode cc pc = .ok (.invokestatic index, 3))
    (kk : W p l e R s m args below meth c H locs cells slots Q (F0 m (pc + 3) ls (.int r0 :: rest))) : W p l e R s m args below meth c H locs cells slots Q (F0 m pc ls st0) := by
  subst hst
  refine vp_callSi (a := As.toArray) (W.runS (g := F0 m pc ls (As.reverse ++ rest)) S hM cw ⟨rd_fb, fun U hU hW => ⟨rfl, by rw [hU]; exact hP.sub is hs, va_K.moved hW.alike hK⟩⟩ rfl hn hsize rfl (lv_room hW) hdg hcs) (fun r hr => ?_)
  subst hr
  exact kk
theorem cl_rV (S : CallFix p m c cc nL s args Ts own) (hM : Met l y wsy rm (rdPc D tys wsc (.ref b :: As)) (rdQ r0) 0 0 (fun _ => False)) (cw : CallW R s args own C index y bytes maxL ret wsy rm 0 0 n) (hK : va_K D vwCl tys s) (hP : va_P D vwCl ws H) (is : List Nat) (hs : is.filterMap (fun i => ws[i]?) = wsc) {ci : Nat} {T : u_T} {N : Nat} {fs : List Value} (he : wsc[0]? = some (b, .inr (ci, fs))) (hc : vwCl[ci]? = some (C, T, N))
    (hst : st0 = As.reverse ++ .ref b :: rest) (hn : As.length = n) (hsize : ls.size = nL) (hW : (rest.map fun v => v.category).sum ≤ 8) (hcs : cells + 0 ≤ R.cells ∧ slots + 0 ≤ R.slots) (hdg : decode cc pc = .ok (.invokevirtual index, 3))
    (kk : W p l e R s m args below meth c H locs cells slots Q (F0 m (pc + 3) ls (.int r0 :: rest))) : W p l e R s m args below meth c H locs cells slots Q (F0 m pc ls st0) := by
  subst hst
  have hPc := hP.sub is hs
  refine vp_callSi (a := (Value.ref b :: As).toArray) (W.runV (g := F0 m pc ls (As.reverse ++ .ref b :: rest)) S hM cw ⟨rd_fb, va_recv hK hPc hc he, fun U hU hW => ⟨rfl, by rw [hU]; exact hPc, va_K.moved hW.alike hK⟩⟩ rfl hn hsize rfl (lv_room hW) hdg hcs) (fun r hr => ?_)
  subst hr
  exact kk
/-- behind a writing call: the cells in their order -/
theorem cl_back {ws' : va_W} {H1 : Heap} (hP : va_P D vwCl ws H) (hD : va_D A ws) (isC isR : List Nat) (hC : isC.map (fun i => ws[i]?) = wsc.map some) (hR : isR.map (fun i => ws[i]?) = wr.map some) (hn : va_nd isR = true) (hdis : ∀ i ∈ isR, i ∉ isC) (is2 : List Nat) (hn2 : va_nd is2 = true) (h2 : is2.map (fun i => (wr ++ wsc')[i]?) = ws'.map some)
    (hk : ∀ q : Nat, q < H.size → ¬ va_A wsc H.size q → H1[q]? = H[q]?) (hF : ∀ q, va_A wsc H.size q → A q) (hP1 : va_P D vwCl wsc' H1) (hD1 : va_D (va_A wsc H.size) wsc') : va_P D vwCl ws' H1 ∧ va_D A ws' := by
  obtain ⟨hP2, hD2⟩ := va_join (wr := wr) (w1 := wsc') hP hD isC isR hC hR hn hdis hk hF hP1 hD1
  refine ⟨hP2.sub is2 ?_, hD2.sub is2 hn2 h2⟩
  have key : ∀ (l : List Nat) (z : va_W), l.map (fun i => (wr ++ wsc')[i]?) = z.map some → l.filterMap (fun i => (wr ++ wsc')[i]?) = z := by
    intro l
    induction l with
    | nil => intro z hz; cases z with
      | nil => rfl
      | cons a z => simp at hz
    | cons i l ih => intro z hz; cases z with
      | nil => simp at hz
      | cons a z =>
        simp only [List.map_cons, List.cons.injEq] at hz
        rw [List.filterMap_cons, hz.1]
        simp only
        rw [ih z hz.2]
  exact key is2 ws' h2
theorem cl_mVi (S : CallFix p m c cc nL s args Ts own) (hM : Met l y wsy rm (mtPc D tys wsc (.ref b :: As) H.size) (mtQi D tys wsc wsc' r0 H.size) 0 0 (va_A wsc H.size)) (cw : CallW R s args own C index y bytes maxL ret wsy rm 0 0 n) (hK : va_K D vwCl tys s) (hP : va_P D vwCl ws H) (hD : va_D A ws) (hS : va_S A H0 H locs) (hA : ∀ q, H0.size ≤ q → A q) (isC isR : List Nat) (hC : isC.map (fun i => ws[i]?) = wsc.map some) (hR : isR.map (fun i => ws[i]?) = wr.map some) (hnC : va_nd isC = true) (hnR : va_nd isR = true) (hdis : ∀ i ∈ isR, i ∉ isC) {ws' : va_W} (is2 : List Nat) (hn2 : va_nd is2 = true) (h2 : is2.map (fun i => (wr ++ wsc')[i]?) = ws'.map some) {ci : Nat} {T : u_T} {N : Nat} {fs : List Value} (he : wsc[0]? = some (b, .inr (ci, fs))) (hc : vwCl[ci]? = some (C, T, N)) (hs : isC.filterMap (fun i => ws[i]?) = wsc)
    (hst : st0 = As.reverse ++ .ref b :: rest) (hn : As.length = n) (hsize : ls.size = nL) (hW : (rest.map fun v => v.category).sum ≤ 8) (hcs : cells + 0 ≤ R.cells ∧ slots + 0 ≤ R.slots) (hdg : decode cc pc = .ok (.invokevirtual index, 3))
    (kk : ∀ (H1 : Heap) (locs1 : List Loc), va_P D vwCl ws' H1 → va_D A ws' → va_S A H0 H1 locs1 → W p l e R s m args below meth c H1 locs1 cells slots Q (F0 m (pc + 3) ls (.int r0 :: rest))) : W p l e R s m args below meth c H locs cells slots Q (F0 m pc ls st0) := by
  subst hst
  have hPc := hP.sub isC hs
  have hDc := hD.sub isC hnC hC
  have hFc := va_free hD hS hA isC hC
  refine va_calli (va_runV (g := F0 m pc ls (As.reverse ++ .ref b :: rest)) S hM cw ⟨mt_fb, va_recv hK hPc hc he, fun U hU hW => ⟨rfl, by rw [hU], by rw [hU]; exact hPc, va_K.moved hW.alike hK, hDc.weaken (fun _ _ _ _ => trivial)⟩⟩ rfl hn hsize rfl (lv_room hW) hdg hcs) hS (fun q _ h => hFc q h) hFc (fun r u t H1 locs1 ht hvm hw hB hz1 hk1 hS1 => ?_)
  subst hw
  obtain ⟨hP1, hK1, hD1⟩ := hB
  rw [ht] at hP1
  obtain ⟨hP2, hD2⟩ := cl_back hP hD isC isR hC hR hnR hdis is2 hn2 h2 hk1 hFc hP1 hD1
  exact kk H1 locs1 hP2 hD2 hS1
theorem cl_mVv (S : CallFix p m c cc nL s args Ts own) (hM : Met l y wsy rm (mtPc D tys wsc (.ref b :: As) H.size) (mtQv D tys wsc wsc' H.size) 0 0 (va_A wsc H.size)) (cw : CallW R s args own C index y bytes maxL ret wsy rm 0 0 n) (hK : va_K D vwCl tys s) (hP : va_P D vwCl ws H) (hD : va_D A ws) (hS : va_S A H0 H locs) (hA : ∀ q, H0.size ≤ q → A q) (isC isR : List Nat) (hC : isC.map (fun i => ws[i]?) = wsc.map some) (hR : isR.map (fun i => ws[i]?) = wr.map some) (hnC : va_nd isC = true) (hnR : va_nd isR = true) (hdis : ∀ i ∈ isR, i ∉ isC) {ws' : va_W} (is2 : List Nat) (hn2 : va_nd is2 = true) (h2 : is2.map (fun i => (wr ++ wsc')[i]?) = ws'.map some) {ci : Nat} {T : u_T} {N : Nat} {fs : List Value} (he : wsc[0]? = some (b, .inr (ci, fs))) (hc : vwCl[ci]? = some (C, T, N)) (hs : isC.filterMap (fun i => ws[i]?) = wsc)
    (hst : st0 = As.reverse ++ .ref b :: rest) (hn : As.length = n) (hsize : ls.size = nL) (hW : (rest.map fun v => v.category).sum ≤ 8) (hcs : cells + 0 ≤ R.cells ∧ slots + 0 ≤ R.slots) (hdg : decode cc pc = .ok (.invokevirtual index, 3))
    (kk : ∀ (H1 : Heap) (locs1 : List Loc), va_P D vwCl ws' H1 → va_D A ws' → va_S A H0 H1 locs1 → W p l e R s m args below meth c H1 locs1 cells slots Q (F0 m (pc + 3) ls (rest))) : W p l e R s m args below meth c H locs cells slots Q (F0 m pc ls st0) := by
  subst hst
  have hPc := hP.sub isC hs
  have hDc := hD.sub isC hnC hC
  have hFc := va_free hD hS hA isC hC
  refine va_callv (va_runV (g := F0 m pc ls (As.reverse ++ .ref b :: rest)) S hM cw ⟨mt_fb, va_recv hK hPc hc he, fun U hU hW => ⟨rfl, by rw [hU], by rw [hU]; exact hPc, va_K.moved hW.alike hK, hDc.weaken (fun _ _ _ _ => trivial)⟩⟩ rfl hn hsize rfl (lv_room hW) hdg hcs) hS (fun q _ h => hFc q h) hFc (fun u t H1 locs1 ht hvm hw hB hz1 hk1 hS1 => ?_)
  obtain ⟨hP1, hK1, hD1⟩ := hB
  rw [ht] at hP1
  obtain ⟨hP2, hD2⟩ := cl_back hP hD isC isR hC hR hnR hdis is2 hn2 h2 hk1 hFc hP1 hD1
  exact kk H1 locs1 hP2 hD2 hS1
theorem cl_mSv (S : CallFix p m c cc nL s args Ts own) (hM : Met l y wsy rm (mtPc D tys wsc As H.size) (mtQv D tys wsc wsc' H.size) 0 0 (va_A wsc H.size)) (cw : CallB R s args own index y bytes maxL ret wsy rm 0 0 n ∧ (Cond.static y).before args s = true) (hK : va_K D vwCl tys s) (hP : va_P D vwCl ws H) (hD : va_D A ws) (hS : va_S A H0 H locs) (hA : ∀ q, H0.size ≤ q → A q) (isC isR : List Nat) (hC : isC.map (fun i => ws[i]?) = wsc.map some) (hR : isR.map (fun i => ws[i]?) = wr.map some) (hnC : va_nd isC = true) (hnR : va_nd isR = true) (hdis : ∀ i ∈ isR, i ∉ isC) {ws' : va_W} (is2 : List Nat) (hn2 : va_nd is2 = true) (h2 : is2.map (fun i => (wr ++ wsc')[i]?) = ws'.map some) (hs : isC.filterMap (fun i => ws[i]?) = wsc)
    (hst : st0 = As.reverse ++ rest) (hn : As.length = n) (hsize : ls.size = nL) (hW : (rest.map fun v => v.category).sum ≤ 8) (hcs : cells + 0 ≤ R.cells ∧ slots + 0 ≤ R.slots) (hdg : decode cc pc = .ok (.invokestatic index, 3))
    (kk : ∀ (H1 : Heap) (locs1 : List Loc), va_P D vwCl ws' H1 → va_D A ws' → va_S A H0 H1 locs1 → W p l e R s m args below meth c H1 locs1 cells slots Q (F0 m (pc + 3) ls (rest))) : W p l e R s m args below meth c H locs cells slots Q (F0 m pc ls st0) := by
  subst hst
  have hPc := hP.sub isC hs
  have hDc := hD.sub isC hnC hC
  have hFc := va_free hD hS hA isC hC
  refine va_callv (va_runS (g := F0 m pc ls (As.reverse ++ rest)) S hM cw ⟨mt_fb, fun U hU hW => ⟨rfl, by rw [hU], by rw [hU]; exact hPc, va_K.moved hW.alike hK, hDc.weaken (fun _ _ _ _ => trivial)⟩⟩ rfl hn hsize rfl (lv_room hW) hdg hcs) hS (fun q _ h => hFc q h) hFc (fun u t H1 locs1 ht hvm hw hB hz1 hk1 hS1 => ?_)
  obtain ⟨hP1, hK1, hD1⟩ := hB
  rw [ht] at hP1
  obtain ⟨hP2, hD2⟩ := cl_back hP hD isC isR hC hR hnR hdis is2 hn2 h2 hk1 hFc hP1 hD1
  exact kk H1 locs1 hP2 hD2 hS1
end WRAP
