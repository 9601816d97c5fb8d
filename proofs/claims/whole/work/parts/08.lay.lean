/-! LAYOUTS: labels of the class side (Main 0, streets 7, tapes 10, kept 11, values 12, towns 20 40 60, notes 80 90, streets 100 .. 150, the reader's 160, reader 170, acts 180, tapes 200 .. 250; a field's row stands at the object's label + its slot); model: object 0, a row at its slot -/
def flX0 (a : Nat) (ad : Nat → Nat) (f : Int → Int) : List Value := [.int (oI (f 0)), .ref (ad (a + 1)), .int (oI (f 2)), .int (oI (f 3)), .int (oI (f 4))]
def flX1 (a : Nat) (ad : Nat → Nat) (f : Int → Int) : List Value := [.int (oI (f 0)), .ref (ad (a + 1)), .ref (ad (a + 2)), .int (oI (f 3)), .ref (ad (a + 4))]
def flX2 (a : Nat) (ad : Nat → Nat) (f : Int → Int) : List Value := [.int (oI (f 0)), .int (oI (f 1)), .ref (ad (a + 2)), .ref (ad (a + 3)), .int (oI (f 4)), .ref (ad (a + 5)), .ref (ad (a + 6)), .ref (ad (a + 7))]
def flX3 (_a : Nat) (ad : Nat → Nat) (f : Int → Int) : List Value := [.int (oI (f 0)), .ref (ad 160), .ref (ad 172), .int (oI (f 3))]
def flX4 (a : Nat) (ad : Nat → Nat) (f : Int → Int) : List Value := [.int (oI (f 0)), .int (oI (f 1)), .ref (ad (a + 2))]
def flX5 (a : Nat) (ad : Nat → Nat) (f : Int → Int) : List Value := [.int (oI (f 0)), .int (oI (f 1)), zm ad (f 2), .ref (ad (a + 3)), .ref (ad (a + 4)), .ref (ad (a + 5)), .ref (ad (a + 6)), .ref (ad (a + 7)), .ref (ad (a + 8)), .ref (ad (a + 9)), .int (oI (f 10)), .ref (ad (a + 11))]
def flX6 (_a : Nat) (ad : Nat → Nat) (f : Int → Int) : List Value := [.ref (ad 20), .ref (ad 40), .ref (ad 60), .ref (ad 80), .ref (ad 90), .int (oI (f 5)), .ref (ad 170), .ref (ad 7), .int (oI (f 8)), .ref (ad 180), .ref (ad 10), .ref (ad 11), .ref (ad 12)]
def flX7 (_a : Nat) (ad : Nat → Nat) (f : Int → Int) : List Value := [.int (oI (f 0)), .int (oI (f 1)), .ref (ad 2), .ref (ad 3), .ref (ad 4), .ref (ad 5), .int (oI (f 6)), .int (oI (f 7)), .int (oI (f 8)), .int (oI (f 9)), .int (oI (f 10)), .ref (ad 11), .ref (ad 12), .ref (ad 13), .ref (ad 14), .ref (ad 15), .ref (ad 16), .ref (ad 17), .ref (ad 18), .int (oI (f 19)), .int (oI (f 20)), .int (oI (f 21)), .ref (ad 22), .ref (ad 23), .int (oI (f 24)), .ref (ad 25), .int (oI (f 26)), .ref (ad 27), .ref (ad 28), .int (oI (f 29)), .ref (ad 30), .ref (ad 31), .ref (ad 32), .ref (ad 33), .ref (ad 34), .ref (ad 35), .int (oI (f 36)), .int (oI (f 37)), .ref (ad 38), .ref (ad 39), .int (oI (f 40)), .ref (ad 41), .int (oI (f 42)), .int (oI (f 43)), .int (oI (f 44)), .int (oI (f 45)), .int (oI (f 46)), .int (oI (f 47)), .ref (ad 48), .ref (ad 49), .ref (ad 50), .ref (ad 51), .ref (ad 52), .ref (ad 53), .ref (ad 54), .int (oI (f 55)), .ref (ad 56), .ref (ad 57), .ref (ad 58), .ref (ad 59), .ref (ad 60)]
def LSC : List Nat := [0, 7, 10, 11, 12, 20, 23, 24, 25, 26, 27, 28, 29, 31, 40, 43, 44, 45, 46, 47, 48, 49, 51, 60, 63, 64, 65, 66, 67, 68, 69, 71, 80, 81, 82, 84, 90, 91, 92, 94, 100, 102, 103, 105, 106, 107, 110, 112, 113, 115, 116, 117, 120, 122, 123, 125, 126, 127, 130, 132, 133, 135, 136, 137, 140, 142, 143, 145, 146, 147, 150, 152, 153, 155, 156, 157, 160, 162, 163, 165, 166, 167, 170, 172, 180, 181, 200, 202, 210, 212, 220, 222, 230, 232, 240, 242, 250, 252]
def ceC (E : Nat → ClassId) (ad : Nat → Nat) (a : Nat) (f : Int → Int) : va_E :=
  if a = 0 then .inr (6, flX6 0 ad f) else
  if a = 7 then .inl (E 4, 6, .inr (.inr (.inr (.inr (fun j => some (ad (100 + 10 * j))))))) else
  if a = 10 then .inl (E 5, 6, .inr (.inr (.inr (.inr (fun j => some (ad (200 + 10 * j))))))) else
  if a = 11 then .inl (E 0, 7, .inl (fun j => oI (f (j : Int)))) else
  if a = 12 then .inl (E 0, 7, .inl (fun j => oI (f (j : Int)))) else
  if a = 20 then .inr (5, flX5 20 ad f) else
  if a = 23 then .inl (E 0, 7, .inl (fun j => oI (f (j : Int)))) else
  if a = 24 then .inl (E 0, 7, .inl (fun j => oI (f (j : Int)))) else
  if a = 25 then .inl (E 0, 7, .inl (fun j => oI (f (j : Int)))) else
  if a = 26 then .inl (E 0, 28, .inl (fun j => oI (f (j : Int)))) else
  if a = 27 then .inl (E 0, 7, .inl (fun j => oI (f (j : Int)))) else
  if a = 28 then .inl (E 0, 7, .inl (fun j => oI (f (j : Int)))) else
  if a = 29 then .inl (E 0, 5, .inl (fun j => oI (f (j : Int)))) else
  if a = 31 then .inl (E 0, 6, .inl (fun j => oI (f (j : Int)))) else
  if a = 40 then .inr (5, flX5 40 ad f) else
  if a = 43 then .inl (E 0, 7, .inl (fun j => oI (f (j : Int)))) else
  if a = 44 then .inl (E 0, 7, .inl (fun j => oI (f (j : Int)))) else
  if a = 45 then .inl (E 0, 7, .inl (fun j => oI (f (j : Int)))) else
  if a = 46 then .inl (E 0, 28, .inl (fun j => oI (f (j : Int)))) else
  if a = 47 then .inl (E 0, 7, .inl (fun j => oI (f (j : Int)))) else
  if a = 48 then .inl (E 0, 7, .inl (fun j => oI (f (j : Int)))) else
  if a = 49 then .inl (E 0, 5, .inl (fun j => oI (f (j : Int)))) else
  if a = 51 then .inl (E 0, 6, .inl (fun j => oI (f (j : Int)))) else
  if a = 60 then .inr (5, flX5 60 ad f) else
  if a = 63 then .inl (E 0, 7, .inl (fun j => oI (f (j : Int)))) else
  if a = 64 then .inl (E 0, 7, .inl (fun j => oI (f (j : Int)))) else
  if a = 65 then .inl (E 0, 7, .inl (fun j => oI (f (j : Int)))) else
  if a = 66 then .inl (E 0, 28, .inl (fun j => oI (f (j : Int)))) else
  if a = 67 then .inl (E 0, 7, .inl (fun j => oI (f (j : Int)))) else
  if a = 68 then .inl (E 0, 7, .inl (fun j => oI (f (j : Int)))) else
  if a = 69 then .inl (E 0, 5, .inl (fun j => oI (f (j : Int)))) else
  if a = 71 then .inl (E 0, 6, .inl (fun j => oI (f (j : Int)))) else
  if a = 80 then .inr (1, flX1 80 ad f) else
  if a = 81 then .inl (E 0, 8, .inl (fun j => oI (f (j : Int)))) else
  if a = 82 then .inl (E 0, 8, .inl (fun j => oI (f (j : Int)))) else
  if a = 84 then .inl (E 0, 12, .inl (fun j => oI (f (j : Int)))) else
  if a = 90 then .inr (1, flX1 90 ad f) else
  if a = 91 then .inl (E 0, 8, .inl (fun j => oI (f (j : Int)))) else
  if a = 92 then .inl (E 0, 8, .inl (fun j => oI (f (j : Int)))) else
  if a = 94 then .inl (E 0, 12, .inl (fun j => oI (f (j : Int)))) else
  if a = 100 then .inr (2, flX2 100 ad f) else
  if a = 102 then .inl (E 0, 10, .inl (fun j => oI (f (j : Int)))) else
  if a = 103 then .inl (E 0, 10, .inl (fun j => oI (f (j : Int)))) else
  if a = 105 then .inl (E 0, 100, .inl (fun j => oI (f (j : Int)))) else
  if a = 106 then .inl (E 0, 100, .inl (fun j => oI (f (j : Int)))) else
  if a = 107 then .inl (E 0, 100, .inl (fun j => oI (f (j : Int)))) else
  if a = 110 then .inr (2, flX2 110 ad f) else
  if a = 112 then .inl (E 0, 10, .inl (fun j => oI (f (j : Int)))) else
  if a = 113 then .inl (E 0, 10, .inl (fun j => oI (f (j : Int)))) else
  if a = 115 then .inl (E 0, 100, .inl (fun j => oI (f (j : Int)))) else
  if a = 116 then .inl (E 0, 100, .inl (fun j => oI (f (j : Int)))) else
  if a = 117 then .inl (E 0, 100, .inl (fun j => oI (f (j : Int)))) else
  if a = 120 then .inr (2, flX2 120 ad f) else
  if a = 122 then .inl (E 0, 10, .inl (fun j => oI (f (j : Int)))) else
  if a = 123 then .inl (E 0, 10, .inl (fun j => oI (f (j : Int)))) else
  if a = 125 then .inl (E 0, 100, .inl (fun j => oI (f (j : Int)))) else
  if a = 126 then .inl (E 0, 100, .inl (fun j => oI (f (j : Int)))) else
  if a = 127 then .inl (E 0, 100, .inl (fun j => oI (f (j : Int)))) else
  if a = 130 then .inr (2, flX2 130 ad f) else
  if a = 132 then .inl (E 0, 10, .inl (fun j => oI (f (j : Int)))) else
  if a = 133 then .inl (E 0, 10, .inl (fun j => oI (f (j : Int)))) else
  if a = 135 then .inl (E 0, 100, .inl (fun j => oI (f (j : Int)))) else
  if a = 136 then .inl (E 0, 100, .inl (fun j => oI (f (j : Int)))) else
  if a = 137 then .inl (E 0, 100, .inl (fun j => oI (f (j : Int)))) else
  if a = 140 then .inr (2, flX2 140 ad f) else
  if a = 142 then .inl (E 0, 10, .inl (fun j => oI (f (j : Int)))) else
  if a = 143 then .inl (E 0, 10, .inl (fun j => oI (f (j : Int)))) else
  if a = 145 then .inl (E 0, 100, .inl (fun j => oI (f (j : Int)))) else
  if a = 146 then .inl (E 0, 100, .inl (fun j => oI (f (j : Int)))) else
  if a = 147 then .inl (E 0, 100, .inl (fun j => oI (f (j : Int)))) else
  if a = 150 then .inr (2, flX2 150 ad f) else
  if a = 152 then .inl (E 0, 10, .inl (fun j => oI (f (j : Int)))) else
  if a = 153 then .inl (E 0, 10, .inl (fun j => oI (f (j : Int)))) else
  if a = 155 then .inl (E 0, 100, .inl (fun j => oI (f (j : Int)))) else
  if a = 156 then .inl (E 0, 100, .inl (fun j => oI (f (j : Int)))) else
  if a = 157 then .inl (E 0, 100, .inl (fun j => oI (f (j : Int)))) else
  if a = 160 then .inr (2, flX2 160 ad f) else
  if a = 162 then .inl (E 0, 10, .inl (fun j => oI (f (j : Int)))) else
  if a = 163 then .inl (E 0, 10, .inl (fun j => oI (f (j : Int)))) else
  if a = 165 then .inl (E 0, 100, .inl (fun j => oI (f (j : Int)))) else
  if a = 166 then .inl (E 0, 100, .inl (fun j => oI (f (j : Int)))) else
  if a = 167 then .inl (E 0, 100, .inl (fun j => oI (f (j : Int)))) else
  if a = 170 then .inr (3, flX3 170 ad f) else
  if a = 172 then .inl (E 1, 100, .inl (fun j => oI (f (j : Int)))) else
  if a = 180 then .inr (0, flX0 180 ad f) else
  if a = 181 then .inl (E 0, 20, .inl (fun j => oI (f (j : Int)))) else
  if a = 200 then .inr (4, flX4 200 ad f) else
  if a = 202 then .inl (E 3, 60, .inr (.inl (fun j => oL (f (j : Int))))) else
  if a = 210 then .inr (4, flX4 210 ad f) else
  if a = 212 then .inl (E 3, 60, .inr (.inl (fun j => oL (f (j : Int))))) else
  if a = 220 then .inr (4, flX4 220 ad f) else
  if a = 222 then .inl (E 3, 60, .inr (.inl (fun j => oL (f (j : Int))))) else
  if a = 230 then .inr (4, flX4 230 ad f) else
  if a = 232 then .inl (E 3, 60, .inr (.inl (fun j => oL (f (j : Int))))) else
  if a = 240 then .inr (4, flX4 240 ad f) else
  if a = 242 then .inl (E 3, 60, .inr (.inl (fun j => oL (f (j : Int))))) else
  if a = 250 then .inr (4, flX4 250 ad f) else
  if a = 252 then .inl (E 3, 60, .inr (.inl (fun j => oL (f (j : Int))))) else
  .inl (E 0, 0, .inl (fun _ => 0))
def sC : SD := (LSC, ceC, true)
def LSM : List Nat := [0, 2, 3, 4, 5, 11, 12, 13, 14, 15, 16, 17, 18, 22, 23, 25, 27, 28, 30, 31, 32, 33, 34, 35, 38, 39, 41, 48, 49, 50, 51, 52, 53, 54, 56, 57, 58, 59, 60]
def ceM (E : Nat → ClassId) (ad : Nat → Nat) (a : Nat) (f : Int → Int) : va_E :=
  if a = 0 then .inr (7, flX7 0 ad f) else
  if a = 2 then .inl (E 0, 8, .inl (fun j => oI (f (j : Int)))) else
  if a = 3 then .inl (E 0, 8, .inl (fun j => oI (f (j : Int)))) else
  if a = 4 then .inl (E 0, 8, .inl (fun j => oI (f (j : Int)))) else
  if a = 5 then .inl (E 0, 32, .inl (fun j => oI (f (j : Int)))) else
  if a = 11 then .inl (E 0, 100, .inl (fun j => oI (f (j : Int)))) else
  if a = 12 then .inl (E 0, 6, .inl (fun j => oI (f (j : Int)))) else
  if a = 13 then .inl (E 0, 60, .inl (fun j => oI (f (j : Int)))) else
  if a = 14 then .inl (E 0, 60, .inl (fun j => oI (f (j : Int)))) else
  if a = 15 then .inl (E 0, 60, .inl (fun j => oI (f (j : Int)))) else
  if a = 16 then .inl (E 0, 60, .inl (fun j => oI (f (j : Int)))) else
  if a = 17 then .inl (E 0, 600, .inl (fun j => oI (f (j : Int)))) else
  if a = 18 then .inl (E 0, 101, .inl (fun j => oI (f (j : Int)))) else
  if a = 22 then .inl (E 0, 13, .inl (fun j => oI (f (j : Int)))) else
  if a = 23 then .inl (E 2, 100, .inl (fun j => oI (f (j : Int)))) else
  if a = 25 then .inl (E 0, 8, .inl (fun j => oI (f (j : Int)))) else
  if a = 27 then .inl (E 0, 8, .inl (fun j => oI (f (j : Int)))) else
  if a = 28 then .inl (E 0, 8, .inl (fun j => oI (f (j : Int)))) else
  if a = 30 then .inl (E 0, 8, .inl (fun j => oI (f (j : Int)))) else
  if a = 31 then .inl (E 0, 8, .inl (fun j => oI (f (j : Int)))) else
  if a = 32 then .inl (E 0, 8, .inl (fun j => oI (f (j : Int)))) else
  if a = 33 then .inl (E 0, 8, .inl (fun j => oI (f (j : Int)))) else
  if a = 34 then .inl (E 0, 8, .inl (fun j => oI (f (j : Int)))) else
  if a = 35 then .inl (E 0, 8, .inl (fun j => oI (f (j : Int)))) else
  if a = 38 then .inl (E 0, 8, .inl (fun j => oI (f (j : Int)))) else
  if a = 39 then .inl (E 0, 8, .inl (fun j => oI (f (j : Int)))) else
  if a = 41 then .inl (E 0, 12, .inl (fun j => oI (f (j : Int)))) else
  if a = 48 then .inl (E 0, 8, .inl (fun j => oI (f (j : Int)))) else
  if a = 49 then .inl (E 0, 8, .inl (fun j => oI (f (j : Int)))) else
  if a = 50 then .inl (E 0, 8, .inl (fun j => oI (f (j : Int)))) else
  if a = 51 then .inl (E 0, 32, .inl (fun j => oI (f (j : Int)))) else
  if a = 52 then .inl (E 0, 8, .inl (fun j => oI (f (j : Int)))) else
  if a = 53 then .inl (E 0, 8, .inl (fun j => oI (f (j : Int)))) else
  if a = 54 then .inl (E 0, 12, .inl (fun j => oI (f (j : Int)))) else
  if a = 56 then .inl (E 0, 20, .inl (fun j => oI (f (j : Int)))) else
  if a = 57 then .inl (E 0, 6, .inl (fun j => oI (f (j : Int)))) else
  if a = 58 then .inl (E 0, 6, .inl (fun j => oI (f (j : Int)))) else
  if a = 59 then .inl (E 3, 360, .inr (.inl (fun j => oL (f (j : Int))))) else
  if a = 60 then .inl (E 3, 60, .inr (.inl (fun j => oL (f (j : Int))))) else
  .inl (E 0, 0, .inl (fun _ => 0))
def sM : SD := (LSM, ceM, false)
def IsTown (a : Nat) : Prop := a = 20 ∨ a = 40 ∨ a = 60
def IsNotes (a : Nat) : Prop := a = 80 ∨ a = 90
def IsStreet (a : Nat) : Prop := a = 100 ∨ a = 110 ∨ a = 120 ∨ a = 130 ∨ a = 140 ∨ a = 150 ∨ a = 160
def IsTape (a : Nat) : Prop := a = 200 ∨ a = 210 ∨ a = 220 ∨ a = 230 ∨ a = 240 ∨ a = 250
def IsFacts (a : Nat) : Prop := a = 31 ∨ a = 51 ∨ a = 71
theorem town_facts {a : Nat} (h : IsTown a) : IsFacts (a + 11) := by
  rcases h with rfl | rfl | rfl
  · exact Or.inl rfl
  · exact Or.inr (Or.inl rfl)
  · exact Or.inr (Or.inr rfl)
theorem obX5 {a : Nat} (h : IsTown a) : zOb sC a 5 (flX5 a) := by
  rcases h with rfl | rfl | rfl <;> exact ⟨by decide, fun _ _ _ => rfl⟩
theorem arX5_3 {a : Nat} (h : IsTown a) : zIA sC (a + 3) 7 0 := by
  rcases h with rfl | rfl | rfl <;> exact ⟨by decide, fun _ _ _ => rfl⟩
theorem arX5_4 {a : Nat} (h : IsTown a) : zIA sC (a + 4) 7 0 := by
  rcases h with rfl | rfl | rfl <;> exact ⟨by decide, fun _ _ _ => rfl⟩
theorem arX5_5 {a : Nat} (h : IsTown a) : zIA sC (a + 5) 7 0 := by
  rcases h with rfl | rfl | rfl <;> exact ⟨by decide, fun _ _ _ => rfl⟩
theorem arX5_6 {a : Nat} (h : IsTown a) : zIA sC (a + 6) 28 0 := by
  rcases h with rfl | rfl | rfl <;> exact ⟨by decide, fun _ _ _ => rfl⟩
theorem arX5_7 {a : Nat} (h : IsTown a) : zIA sC (a + 7) 7 0 := by
  rcases h with rfl | rfl | rfl <;> exact ⟨by decide, fun _ _ _ => rfl⟩
theorem arX5_8 {a : Nat} (h : IsTown a) : zIA sC (a + 8) 7 0 := by
  rcases h with rfl | rfl | rfl <;> exact ⟨by decide, fun _ _ _ => rfl⟩
theorem arX5_9 {a : Nat} (h : IsTown a) : zIA sC (a + 9) 5 0 := by
  rcases h with rfl | rfl | rfl <;> exact ⟨by decide, fun _ _ _ => rfl⟩
theorem arX5_11 {a : Nat} (h : IsTown a) : zIA sC (a + 11) 6 0 := by
  rcases h with rfl | rfl | rfl <;> exact ⟨by decide, fun _ _ _ => rfl⟩
theorem obX1 {a : Nat} (h : IsNotes a) : zOb sC a 1 (flX1 a) := by
  rcases h with rfl | rfl <;> exact ⟨by decide, fun _ _ _ => rfl⟩
theorem arX1_1 {a : Nat} (h : IsNotes a) : zIA sC (a + 1) 8 0 := by
  rcases h with rfl | rfl <;> exact ⟨by decide, fun _ _ _ => rfl⟩
theorem arX1_2 {a : Nat} (h : IsNotes a) : zIA sC (a + 2) 8 0 := by
  rcases h with rfl | rfl <;> exact ⟨by decide, fun _ _ _ => rfl⟩
theorem arX1_4 {a : Nat} (h : IsNotes a) : zIA sC (a + 4) 12 0 := by
  rcases h with rfl | rfl <;> exact ⟨by decide, fun _ _ _ => rfl⟩
theorem obX2 {a : Nat} (h : IsStreet a) : zOb sC a 2 (flX2 a) := by
  rcases h with rfl | rfl | rfl | rfl | rfl | rfl | rfl <;> exact ⟨by decide, fun _ _ _ => rfl⟩
theorem arX2_2 {a : Nat} (h : IsStreet a) : zIA sC (a + 2) 10 0 := by
  rcases h with rfl | rfl | rfl | rfl | rfl | rfl | rfl <;> exact ⟨by decide, fun _ _ _ => rfl⟩
theorem arX2_3 {a : Nat} (h : IsStreet a) : zIA sC (a + 3) 10 0 := by
  rcases h with rfl | rfl | rfl | rfl | rfl | rfl | rfl <;> exact ⟨by decide, fun _ _ _ => rfl⟩
theorem arX2_5 {a : Nat} (h : IsStreet a) : zIA sC (a + 5) 100 0 := by
  rcases h with rfl | rfl | rfl | rfl | rfl | rfl | rfl <;> exact ⟨by decide, fun _ _ _ => rfl⟩
theorem arX2_6 {a : Nat} (h : IsStreet a) : zIA sC (a + 6) 100 0 := by
  rcases h with rfl | rfl | rfl | rfl | rfl | rfl | rfl <;> exact ⟨by decide, fun _ _ _ => rfl⟩
theorem arX2_7 {a : Nat} (h : IsStreet a) : zIA sC (a + 7) 100 0 := by
  rcases h with rfl | rfl | rfl | rfl | rfl | rfl | rfl <;> exact ⟨by decide, fun _ _ _ => rfl⟩
theorem obX4 {a : Nat} (h : IsTape a) : zOb sC a 4 (flX4 a) := by
  rcases h with rfl | rfl | rfl | rfl | rfl | rfl <;> exact ⟨by decide, fun _ _ _ => rfl⟩
theorem arX4_2 {a : Nat} (h : IsTape a) : zLA sC (a + 2) 60 := by
  rcases h with rfl | rfl | rfl | rfl | rfl | rfl <;> exact ⟨by decide, fun _ _ _ => rfl⟩
theorem arFacts {a : Nat} (h : IsFacts a) : zIA sC a 6 0 := by
  rcases h with rfl | rfl | rfl <;> exact ⟨by decide, fun _ _ _ => rfl⟩
theorem obX0 : zOb sC 180 0 (flX0 180) := ⟨by decide, fun _ _ _ => rfl⟩
theorem obX3 : zOb sC 170 3 (flX3 170) := ⟨by decide, fun _ _ _ => rfl⟩
theorem obX6 : zOb sC 0 6 (flX6 0) := ⟨by decide, fun _ _ _ => rfl⟩
theorem arX0_1 : zIA sC 181 20 0 := ⟨by decide, fun _ _ _ => rfl⟩
theorem arX3_2 : zIA sC 172 100 1 := ⟨by decide, fun _ _ _ => rfl⟩
theorem arX6_11 : zIA sC 11 7 0 := ⟨by decide, fun _ _ _ => rfl⟩
theorem arX6_12 : zIA sC 12 7 0 := ⟨by decide, fun _ _ _ => rfl⟩
theorem arX6_7 : zRA sC 7 6 4 100 10 := ⟨by decide, fun _ _ _ => rfl⟩
theorem arX6_10 : zRA sC 10 6 5 200 10 := ⟨by decide, fun _ _ _ => rfl⟩
theorem obX7 : zOb sM 0 7 (flX7 0) := ⟨by decide, fun _ _ _ => rfl⟩
theorem arX7_2 : zIA sM 2 8 0 := ⟨by decide, fun _ _ _ => rfl⟩
theorem arX7_3 : zIA sM 3 8 0 := ⟨by decide, fun _ _ _ => rfl⟩
theorem arX7_4 : zIA sM 4 8 0 := ⟨by decide, fun _ _ _ => rfl⟩
theorem arX7_5 : zIA sM 5 32 0 := ⟨by decide, fun _ _ _ => rfl⟩
theorem arX7_11 : zIA sM 11 100 0 := ⟨by decide, fun _ _ _ => rfl⟩
theorem arX7_12 : zIA sM 12 6 0 := ⟨by decide, fun _ _ _ => rfl⟩
theorem arX7_13 : zIA sM 13 60 0 := ⟨by decide, fun _ _ _ => rfl⟩
theorem arX7_14 : zIA sM 14 60 0 := ⟨by decide, fun _ _ _ => rfl⟩
theorem arX7_15 : zIA sM 15 60 0 := ⟨by decide, fun _ _ _ => rfl⟩
theorem arX7_16 : zIA sM 16 60 0 := ⟨by decide, fun _ _ _ => rfl⟩
theorem arX7_17 : zIA sM 17 600 0 := ⟨by decide, fun _ _ _ => rfl⟩
theorem arX7_18 : zIA sM 18 101 0 := ⟨by decide, fun _ _ _ => rfl⟩
theorem arX7_22 : zIA sM 22 13 0 := ⟨by decide, fun _ _ _ => rfl⟩
theorem arX7_25 : zIA sM 25 8 0 := ⟨by decide, fun _ _ _ => rfl⟩
theorem arX7_27 : zIA sM 27 8 0 := ⟨by decide, fun _ _ _ => rfl⟩
theorem arX7_28 : zIA sM 28 8 0 := ⟨by decide, fun _ _ _ => rfl⟩
theorem arX7_30 : zIA sM 30 8 0 := ⟨by decide, fun _ _ _ => rfl⟩
theorem arX7_31 : zIA sM 31 8 0 := ⟨by decide, fun _ _ _ => rfl⟩
theorem arX7_32 : zIA sM 32 8 0 := ⟨by decide, fun _ _ _ => rfl⟩
theorem arX7_33 : zIA sM 33 8 0 := ⟨by decide, fun _ _ _ => rfl⟩
theorem arX7_34 : zIA sM 34 8 0 := ⟨by decide, fun _ _ _ => rfl⟩
theorem arX7_35 : zIA sM 35 8 0 := ⟨by decide, fun _ _ _ => rfl⟩
theorem arX7_38 : zIA sM 38 8 0 := ⟨by decide, fun _ _ _ => rfl⟩
theorem arX7_39 : zIA sM 39 8 0 := ⟨by decide, fun _ _ _ => rfl⟩
theorem arX7_41 : zIA sM 41 12 0 := ⟨by decide, fun _ _ _ => rfl⟩
theorem arX7_48 : zIA sM 48 8 0 := ⟨by decide, fun _ _ _ => rfl⟩
theorem arX7_49 : zIA sM 49 8 0 := ⟨by decide, fun _ _ _ => rfl⟩
theorem arX7_50 : zIA sM 50 8 0 := ⟨by decide, fun _ _ _ => rfl⟩
theorem arX7_51 : zIA sM 51 32 0 := ⟨by decide, fun _ _ _ => rfl⟩
theorem arX7_52 : zIA sM 52 8 0 := ⟨by decide, fun _ _ _ => rfl⟩
theorem arX7_53 : zIA sM 53 8 0 := ⟨by decide, fun _ _ _ => rfl⟩
theorem arX7_54 : zIA sM 54 12 0 := ⟨by decide, fun _ _ _ => rfl⟩
theorem arX7_56 : zIA sM 56 20 0 := ⟨by decide, fun _ _ _ => rfl⟩
theorem arX7_57 : zIA sM 57 6 0 := ⟨by decide, fun _ _ _ => rfl⟩
theorem arX7_58 : zIA sM 58 6 0 := ⟨by decide, fun _ _ _ => rfl⟩
theorem arX7_23 : zIA sM 23 100 2 := ⟨by decide, fun _ _ _ => rfl⟩
theorem arX7_59 : zLA sM 59 360 := ⟨by decide, fun _ _ _ => rfl⟩
theorem arX7_60 : zLA sM 60 60 := ⟨by decide, fun _ _ _ => rfl⟩
theorem sixIsStreet {k : Int} (h : 0 ≤ k ∧ k < (6 : Nat)) : IsStreet (100 + 10 * k.toNat) := by
  have h6 : k.toNat = 0 ∨ k.toNat = 1 ∨ k.toNat = 2 ∨ k.toNat = 3 ∨ k.toNat = 4 ∨ k.toNat = 5 := by omega
  unfold IsStreet
  omega
theorem sixIsTape {k : Int} (h : 0 ≤ k ∧ k < (6 : Nat)) : IsTape (200 + 10 * k.toNat) := by
  have h6 : k.toNat = 0 ∨ k.toNat = 1 ∨ k.toNat = 2 ∨ k.toNat = 3 ∨ k.toNat = 4 ∨ k.toNat = 5 := by omega
  unfold IsTape
  omega
theorem is160 : IsStreet 160 := by unfold IsStreet; omega
theorem is20 : IsTown 20 := by unfold IsTown; omega
theorem is40 : IsTown 40 := by unfold IsTown; omega
theorem is60 : IsTown 60 := by unfold IsTown; omega
theorem is80 : IsNotes 80 := by unfold IsNotes; omega
theorem is90 : IsNotes 90 := by unfold IsNotes; omega
theorem znar {x : Int} (h : x = 0 ∨ x = 1) : narrow .boolean (.int (oI x)) = .int (oI x) := by
  rcases h with rfl | rfl <;> rfl
theorem zfit {x : Int} (h : x = 0 ∨ x = 1) : fits .boolean (.int (oI x)) = true := by
  rcases h with rfl | rfl <;> rfl
set_option maxRecDepth 20000 in
theorem inX0 : ∀ w ∈ u_ws RX0 TX0 5, w ∈ zT := by
  have h1 : ∀ w ∈ u_ws RX0 TX0 5, w ∈ lw_tbl := by decide +kernel
  have h2 : (u_ws RX0 TX0 5).all goodWord = true := by decide +kernel
  exact fun w hw => List.mem_filter.mpr ⟨h1 w hw, List.all_eq_true.mp h2 w hw⟩
set_option maxRecDepth 20000 in
theorem inX1 : ∀ w ∈ u_ws RX1 TX1 5, w ∈ zT := by
  have h1 : ∀ w ∈ u_ws RX1 TX1 5, w ∈ lw_tbl := by decide +kernel
  have h2 : (u_ws RX1 TX1 5).all goodWord = true := by decide +kernel
  exact fun w hw => List.mem_filter.mpr ⟨h1 w hw, List.all_eq_true.mp h2 w hw⟩
set_option maxRecDepth 20000 in
theorem inX2 : ∀ w ∈ u_ws RX2 TX2 8, w ∈ zT := by
  have h1 : ∀ w ∈ u_ws RX2 TX2 8, w ∈ lw_tbl := by decide +kernel
  have h2 : (u_ws RX2 TX2 8).all goodWord = true := by decide +kernel
  exact fun w hw => List.mem_filter.mpr ⟨h1 w hw, List.all_eq_true.mp h2 w hw⟩
set_option maxRecDepth 20000 in
theorem inX3 : ∀ w ∈ u_ws RX3 TX3 4, w ∈ zT := by
  have h1 : ∀ w ∈ u_ws RX3 TX3 4, w ∈ lw_tbl := by decide +kernel
  have h2 : (u_ws RX3 TX3 4).all goodWord = true := by decide +kernel
  exact fun w hw => List.mem_filter.mpr ⟨h1 w hw, List.all_eq_true.mp h2 w hw⟩
set_option maxRecDepth 20000 in
theorem inX4 : ∀ w ∈ u_ws RX4 TX4 3, w ∈ zT := by
  have h1 : ∀ w ∈ u_ws RX4 TX4 3, w ∈ lw_tbl := by decide +kernel
  have h2 : (u_ws RX4 TX4 3).all goodWord = true := by decide +kernel
  exact fun w hw => List.mem_filter.mpr ⟨h1 w hw, List.all_eq_true.mp h2 w hw⟩
set_option maxRecDepth 20000 in
theorem inX5 : ∀ w ∈ u_ws RX5 TX5 12, w ∈ zT := by
  have h1 : ∀ w ∈ u_ws RX5 TX5 12, w ∈ lw_tbl := by decide +kernel
  have h2 : (u_ws RX5 TX5 12).all goodWord = true := by decide +kernel
  exact fun w hw => List.mem_filter.mpr ⟨h1 w hw, List.all_eq_true.mp h2 w hw⟩
set_option maxRecDepth 20000 in
theorem inX6 : ∀ w ∈ u_ws RX6 TX6 13, w ∈ zT := by
  have h1 : ∀ w ∈ u_ws RX6 TX6 13, w ∈ lw_tbl := by decide +kernel
  have h2 : (u_ws RX6 TX6 13).all goodWord = true := by decide +kernel
  exact fun w hw => List.mem_filter.mpr ⟨h1 w hw, List.all_eq_true.mp h2 w hw⟩
set_option maxRecDepth 20000 in
theorem inX7 : ∀ w ∈ u_ws RX7 TX7 61, w ∈ zT := by
  have h1 : ∀ w ∈ u_ws RX7 TX7 61, w ∈ lw_tbl := by decide +kernel
  have h2 : (u_ws RX7 TX7 61).all goodWord = true := by decide +kernel
  exact fun w hw => List.mem_filter.mpr ⟨h1 w hw, List.all_eq_true.mp h2 w hw⟩
