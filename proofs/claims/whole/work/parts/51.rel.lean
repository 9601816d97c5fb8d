/-! THE TWO SIDES TOGETHER -/
/-- rows r .. r+3 of the model hold town a of the class: n houses; year at slot q -/
def RW (sc sm : PS) (a n : Nat) (y p q : Int) (r : Nat) : Prop := TW sc a n y ∧ sm 0 p = n ∧ sm 0 q = y ∧ ∀ h : Int, 0 ≤ h → h < n → sm r h = sc (a + 3) h ∧ sm (r + 1) h = sc (a + 4) h ∧ sm (r + 2) h = sc (a + 5) h ∧ ∀ p : Int, 0 ≤ p → p < 4 → sm (r + 3) (h * 4 + p) = sc (a + 6) (h * 4 + p)
theorem RW.same {sc sm sc' sm' : PS} {a n r : Nat} {y p q : Int} {P Q : Nat → Int → Prop} (h : RW sc sm a n y p q r) (hS : Same sc sc' P) (hT : Same sm sm' Q) (hP : ∀ (b : Nat) (j : Int), (b = a ∧ 0 ≤ j ∧ j ≤ 1) ∨ (a + 3 ≤ b ∧ b ≤ a + 6) → ¬ P b j) (hQ : ∀ (b : Nat) (j : Int), (b = 0 ∧ (j = p ∨ j = q)) ∨ (r ≤ b ∧ b ≤ r + 2 ∧ 0 ≤ j ∧ j < n) ∨ (b = r + 3 ∧ 0 ≤ j ∧ j < 4 * n) → ¬ Q b j) : RW sc' sm' a n y p q r := by
  obtain ⟨T, h1, h2, h3⟩ := h
  refine ⟨T.same hS (hP _ _ (by omega)) (hP _ _ (by omega)) (fun j => ⟨hP _ _ (by omega), hP _ _ (by omega), hP _ _ (by omega), hP _ _ (by omega)⟩), (hT _ _ (hQ _ _ (by omega))).trans h1, (hT _ _ (hQ _ _ (by omega))).trans h2, fun h a1 a2 => ?_⟩
  obtain ⟨b1, b2, b3, b4⟩ := h3 h a1 a2
  refine ⟨?_, ?_, ?_, fun p p1 p2 => ?_⟩
  · rw [hT _ _ (hQ _ _ (by omega)), hS _ _ (hP _ _ (by omega))]; exact b1
  · rw [hT _ _ (hQ _ _ (by omega)), hS _ _ (hP _ _ (by omega))]; exact b2
  · rw [hT _ _ (hQ _ _ (by omega)), hS _ _ (hP _ _ (by omega))]; exact b3
  · rw [hT _ _ (hQ _ _ (by omega)), hS _ _ (hP _ _ (by omega))]; exact b4 p p1 p2
theorem RW.mw {sc sm : PS} {a n : Nat} {y : Int} (h : RW sc sm a n y 0 1 2) : MW sm n y := by
  obtain ⟨⟨t1, t2, t3, t4, t5, t6⟩, h1, h2, h3⟩ := h
  refine ⟨h1, t2, h2, t4, t5, fun h a1 a2 => ?_⟩
  obtain ⟨b1, b2, b3, b4⟩ := h3 h a1 a2
  obtain ⟨c1, c2, c3, c4⟩ := t6 h a1 a2
  refine ⟨by rw [b1]; exact c1, by rw [b2]; exact c2, by rw [b3]; exact c3, fun p p1 p2 => by rw [b4 p p1 p2]; exact c4 p p1 p2⟩
/-- town a of the class and the town of the model are one, with one street, nobody lying by a guess -/
def EQ (sc sm : PS) (a n : Nat) (y : Int) (L : Cl) : Prop := RW sc sm a n y 0 1 2 ∧ TS sc a L ∧ MT sm L ∧ sm 0 24 = -1
theorem EQ.same {sc sm sc' sm' : PS} {a n : Nat} {y : Int} {L : Cl} {P Q : Nat → Int → Prop} (h : EQ sc sm a n y L) (hS : Same sc sc' P) (hT : Same sm sm' Q) (hP : ∀ (b : Nat) (j : Int), (b = a ∧ 0 ≤ j ∧ j ≤ 2) ∨ (a + 3 ≤ b ∧ b ≤ a + 6) ∨ (100 ≤ b ∧ b < 158) → ¬ P b j) (hQ : ∀ (b : Nat) (j : Int), (b = 0 ∧ (j = 0 ∨ j = 1 ∨ j = 7 ∨ j = 24)) ∨ (2 ≤ b ∧ b ≤ 4 ∧ 0 ≤ j ∧ j < n) ∨ (b = 5 ∧ 0 ≤ j ∧ j < 4 * n) ∨ (12 ≤ b ∧ b ≤ 17) → ¬ Q b j) : EQ sc' sm' a n y L := by
  obtain ⟨h1, h2, h3, h4⟩ := h
  exact ⟨h1.same hS hT (fun b j q => hP b j (by omega)) (fun b j q => hQ b j (by omega)), h2.same hS (hP _ _ (by omega)) (fun b j q1 q2 => hP _ _ (by omega)), h3.same hT (hQ _ _ (by omega)) (fun b j q1 q2 => hQ _ _ (by omega)), (hT _ _ (hQ _ _ (by omega))).trans h4⟩
/-- the streets, and which one holds -/
def RS (sc sm : PS) : Prop := ∃ c : Nat, c ≤ 6 ∧ sc 0 8 = c ∧ sm 0 6 = c ∧ (-1 ≤ sc 20 2 ∧ sc 20 2 < c) ∧ sm 0 7 = sc 20 2 ∧ ∀ k : Nat, k < c → ∃ L, SR sc (100 + 10 * k) L ∧ MR sm k L
def RT (sc sm : PS) : Prop := ∃ f : Nat, f ≤ 100 ∧ sc 170 0 = f ∧ sm 0 8 = f ∧ ∀ i : Int, 0 ≤ i → i < f → sm 11 i = sc 172 i ∧ 0 ≤ sc 172 i ∧ sc 172 i ≤ 127
/-- notes a of the class, and the model's -/
def RN (sc sm : PS) (a n : Nat) (p q : Int) (r1 r2 r3 : Nat) : Prop := ∃ u v : Nat, u ≤ 8 ∧ v ≤ 12 ∧ sc a 0 = u ∧ sm 0 p = u ∧ sc a 3 = v ∧ sm 0 q = v ∧ (∀ i : Int, 0 ≤ i → i < u → sm r1 i = sc (a + 1) i ∧ sm r2 i = sc (a + 2) i ∧ 0 ≤ sc (a + 1) i ∧ sc (a + 1) i < n) ∧ ∀ i : Int, 0 ≤ i → i < v → sm r3 i = sc (a + 4) i
def RI (sc sm : PS) : Prop := (sc 0 5 = 0 ∧ sm 0 42 = 0) ∨ ((sc 0 5 = 1 ∧ sm 0 42 = 1) ∧ (-1 ≤ sc 60 2 ∧ sc 60 2 < sc 0 8) ∧ sm 0 43 = sc 60 2 ∧ ∃ (n : Nat) (y : Int), RW sc sm 60 n y 44 45 48 ∧ y ≤ 999 ∧ RN sc sm 90 n 46 47 52 53 54)
def RC (sc sm : PS) : Prop := ∃ k : Nat, k ≤ 200 ∧ sc 180 0 = k ∧ sm 0 55 = k ∧ ∀ i : Int, 0 ≤ i → i < k → i < 20 → sm 56 i = sc 181 i
def RP (sc sm : PS) : Prop := ∀ k : Nat, k < 6 → (-1 ≤ sc (200 + 10 * k) 0 ∧ sc (200 + 10 * k) 0 ≤ 4) ∧ (0 ≤ sc (200 + 10 * k) 1 ∧ sc (200 + 10 * k) 1 ≤ 60) ∧ (sc (200 + 10 * k) 0 = -1 → sc (200 + 10 * k) 1 = 0) ∧ sm 57 k = sc (200 + 10 * k) 0 ∧ sm 58 k = sc (200 + 10 * k) 1 ∧ ∀ i : Int, 0 ≤ i → i < 60 → sm 59 (60 * k + i) = sc (200 + 10 * k + 2) i
/-- the model's letters: what the words of a clause are made of -/
def RLt (sm : PS) : Prop := ∀ i : Int, 0 ≤ i → i < 13 → sm 22 i = stM0 22 i
def Rel (sc sm : PS) : Prop := (∃ (n : Nat) (y : Int), RW sc sm 20 n y 0 1 2 ∧ y ≤ 999 ∧ RN sc sm 80 n 37 40 38 39 41) ∧ RS sc sm ∧ sm 0 24 = -1 ∧ RLt sm ∧ RT sc sm ∧ RI sc sm ∧ RC sc sm ∧ RP sc sm
/-- what the calls use to reckon with, of the class -/
def clS (b : Nat) (j : Int) : Prop := (40 ≤ b ∧ b ≤ 51) ∨ b = 11 ∨ b = 12 ∨ (27 ≤ b ∧ b ≤ 29) ∨ b = 31 ∨ (b = 20 ∧ j = 10) ∨ (160 ≤ b ∧ b ≤ 169) ∨ (b = 170 ∧ j = 3) ∨ (b = 180 ∧ 2 ≤ j)
/-- and of the model, with n houses -/
def smS (n : Int) (b : Nat) (j : Int) : Prop := b = 18 ∨ b = 23 ∨ b = 25 ∨ b = 27 ∨ b = 28 ∨ (30 ≤ b ∧ b ≤ 35) ∨ b = 60 ∨ (b = 0 ∧ (j = 2 ∨ j = 3 ∨ j = 4 ∨ j = 9 ∨ j = 10 ∨ j = 19 ∨ j = 20 ∨ j = 21 ∨ j = 26 ∨ j = 29 ∨ j = 36)) ∨ (2 ≤ b ∧ b ≤ 4 ∧ (j < 0 ∨ n ≤ j)) ∨ (b = 5 ∧ (j < 0 ∨ 4 * n ≤ j))
theorem RN.same {sc sm sc' sm' : PS} {a n r1 r2 r3 : Nat} {p q : Int} {P Q : Nat → Int → Prop} (h : RN sc sm a n p q r1 r2 r3) (hS : Same sc sc' P) (hT : Same sm sm' Q) (hP : ∀ (b : Nat) (j : Int), a ≤ b ∧ b ≤ a + 4 → ¬ P b j) (hQ : ∀ (b : Nat) (j : Int), (b = 0 ∧ (j = p ∨ j = q)) ∨ b = r1 ∨ b = r2 ∨ b = r3 → ¬ Q b j) : RN sc' sm' a n p q r1 r2 r3 := by
  obtain ⟨u, v, h1, h2, h3, h4, h5, h6, h7, h8⟩ := h
  refine ⟨u, v, h1, h2, (hS _ _ (hP _ _ (by omega))).trans h3, (hT _ _ (hQ _ _ (by omega))).trans h4, (hS _ _ (hP _ _ (by omega))).trans h5, (hT _ _ (hQ _ _ (by omega))).trans h6, fun i i1 i2 => ?_, fun i i1 i2 => ?_⟩
  · rw [hS _ _ (hP (a + 1) i (by omega)), hS _ _ (hP (a + 2) i (by omega)), hT _ _ (hQ r1 i (by omega)), hT _ _ (hQ r2 i (by omega))]; exact h7 i i1 i2
  · rw [hS _ _ (hP _ _ (by omega)), hT _ _ (hQ _ _ (by omega))]; exact h8 i i1 i2
theorem RS.same {sc sm sc' sm' : PS} {P Q : Nat → Int → Prop} (h : RS sc sm) (hS : Same sc sc' P) (hT : Same sm sm' Q) (hP : ∀ (b : Nat) (j : Int), (b = 0 ∧ j = 8) ∨ (b = 20 ∧ j = 2) ∨ (100 ≤ b ∧ b < 158) → ¬ P b j) (hQ : ∀ (b : Nat) (j : Int), (b = 0 ∧ (j = 6 ∨ j = 7)) ∨ (12 ≤ b ∧ b ≤ 17) → ¬ Q b j) : RS sc' sm' := by
  obtain ⟨c, h1, h2, h3, h4, h5, h6⟩ := h
  refine ⟨c, h1, (hS _ _ (hP _ _ (by omega))).trans h2, (hT _ _ (hQ _ _ (by omega))).trans h3, by rw [hS _ _ (hP _ _ (by omega))]; exact h4, by rw [hS _ _ (hP _ _ (by omega)), hT _ _ (hQ _ _ (by omega))]; exact h5, fun k hk => ?_⟩
  obtain ⟨L, l1, l2⟩ := h6 k hk
  exact ⟨L, l1.same hS (fun b j q1 q2 => hP _ _ (by omega)), l2.same hT (fun b j q1 q2 => hQ _ _ (by omega))⟩
theorem RT.same {sc sm sc' sm' : PS} {P Q : Nat → Int → Prop} (h : RT sc sm) (hS : Same sc sc' P) (hT : Same sm sm' Q) (hP : ∀ (b : Nat) (j : Int), (b = 170 ∧ j = 0) ∨ b = 172 → ¬ P b j) (hQ : ∀ (b : Nat) (j : Int), (b = 0 ∧ j = 8) ∨ b = 11 → ¬ Q b j) : RT sc' sm' := by
  obtain ⟨f, h1, h2, h3, h4⟩ := h
  refine ⟨f, h1, (hS _ _ (hP _ _ (by omega))).trans h2, (hT _ _ (hQ _ _ (by omega))).trans h3, fun i i1 i2 => ?_⟩
  rw [hS _ _ (hP 172 i (by omega)), hT _ _ (hQ 11 i (by omega))]; exact h4 i i1 i2
theorem RI.same {sc sm sc' sm' : PS} {P Q : Nat → Int → Prop} (h : RI sc sm) (hS : Same sc sc' P) (hT : Same sm sm' Q) (hP : ∀ (b : Nat) (j : Int), (b = 0 ∧ (j = 5 ∨ j = 8)) ∨ (60 ≤ b ∧ b < 70) ∨ (90 ≤ b ∧ b ≤ 94) → ¬ P b j) (hQ : ∀ (b : Nat) (j : Int), (b = 0 ∧ 42 ≤ j ∧ j ≤ 47) ∨ (48 ≤ b ∧ b ≤ 54) → ¬ Q b j) : RI sc' sm' := by
  rcases h with ⟨h1, h2⟩ | ⟨⟨h1, h2⟩, h3, h4, n, y, h5, h6, h7⟩
  · exact Or.inl ⟨(hS _ _ (hP _ _ (by omega))).trans h1, (hT _ _ (hQ _ _ (by omega))).trans h2⟩
  · refine Or.inr ⟨⟨(hS _ _ (hP _ _ (by omega))).trans h1, (hT _ _ (hQ _ _ (by omega))).trans h2⟩, by rw [hS _ _ (hP 60 2 (by omega)), hS _ _ (hP 0 8 (by omega))]; exact h3, by rw [hS _ _ (hP 60 2 (by omega)), hT _ _ (hQ _ _ (by omega))]; exact h4, n, y, h5.same hS hT (fun b j q => hP b j (by omega)) (fun b j q => hQ b j (by omega)), h6, h7.same hS hT (fun b j q => hP b j (by omega)) (fun b j q => hQ b j (by omega))⟩
theorem RC.same {sc sm sc' sm' : PS} {P Q : Nat → Int → Prop} (h : RC sc sm) (hS : Same sc sc' P) (hT : Same sm sm' Q) (hP : ∀ (b : Nat) (j : Int), (b = 180 ∧ j = 0) ∨ b = 181 → ¬ P b j) (hQ : ∀ (b : Nat) (j : Int), (b = 0 ∧ j = 55) ∨ b = 56 → ¬ Q b j) : RC sc' sm' := by
  obtain ⟨k, h0, h1, h2, h3⟩ := h
  refine ⟨k, h0, (hS _ _ (hP _ _ (by omega))).trans h1, (hT _ _ (hQ _ _ (by omega))).trans h2, fun i i1 i2 i3 => ?_⟩
  rw [hS _ _ (hP 181 i (by omega)), hT _ _ (hQ 56 i (by omega))]; exact h3 i i1 i2 i3
theorem RP.same {sc sm sc' sm' : PS} {P Q : Nat → Int → Prop} (h : RP sc sm) (hS : Same sc sc' P) (hT : Same sm sm' Q) (hP : ∀ (b : Nat) (j : Int), 200 ≤ b ∧ b < 260 → ¬ P b j) (hQ : ∀ (b : Nat) (j : Int), b = 57 ∨ b = 58 ∨ b = 59 → ¬ Q b j) : RP sc' sm' := by
  intro k hk
  have := h k hk
  rw [← hS _ _ (hP (200 + 10 * k) 0 (by omega)), ← hS _ _ (hP (200 + 10 * k) 1 (by omega)), ← hT _ _ (hQ 57 k (by omega)), ← hT _ _ (hQ 58 k (by omega))] at this
  obtain ⟨a1, a2, a3, a4, a5, a6⟩ := this
  refine ⟨a1, a2, a3, a4, a5, fun i i1 i2 => ?_⟩
  rw [hS _ _ (hP _ _ (by omega)), hT _ _ (hQ _ _ (by omega))]; exact a6 i i1 i2
theorem Rel.same {sc sm sc' sm' : PS} (h : Rel sc sm) (hS : Same sc sc' clS) (hT : Same sm sm' (smS (sm 0 0))) : Rel sc' sm' := by
  obtain ⟨⟨n, y, h1, h2, h3⟩, h4, h5, h6, h7, h8, h9, h10⟩ := h
  have hn : sm 0 0 = n := h1.2.1
  rw [hn] at hT
  refine ⟨⟨n, y, h1.same hS hT (fun b j q => by unfold clS; omega) (fun b j q => by unfold smS; omega), h2, h3.same hS hT (fun b j q => by unfold clS; omega) (fun b j q => by unfold smS; omega)⟩, h4.same hS hT (fun b j q => by unfold clS; omega) (fun b j q => by unfold smS; omega), (hT _ _ (by unfold smS; omega)).trans h5, fun i i1 i2 => (hT _ _ (by unfold smS; omega)).trans (h6 i i1 i2), h7.same hS hT (fun b j q => by unfold clS; omega) (fun b j q => by unfold smS; omega), h8.same hS hT (fun b j q => by unfold clS; omega) (fun b j q => by unfold smS; omega), h9.same hS hT (fun b j q => by unfold clS; omega) (fun b j q => by unfold smS; omega), h10.same hS hT (fun b j q => by unfold clS; omega) (fun b j q => by unfold smS; omega)⟩
/-- the town and its street out of Rel -/
theorem Rel.eq {sc sm : PS} (h : Rel sc sm) : ∃ (n : Nat) (y : Int) (L : Cl), EQ sc sm 20 n y L ∧ y ≤ 999 := by
  obtain ⟨⟨n, y, h1, h2, h3⟩, ⟨c, c1, c2, c3, c4, c5, c6⟩, h5, -⟩ := h
  by_cases g : sc 20 2 = -1
  · exact ⟨n, y, [], ⟨h1, Or.inl ⟨g, rfl⟩, Or.inl ⟨c5.trans g, rfl⟩, h5⟩, h2⟩
  · obtain ⟨L, l1, l2⟩ := c6 (sc 20 2).toNat (by omega)
    have e : ((sc 20 2).toNat : Int) = sc 20 2 := by omega
    rw [e] at l2
    exact ⟨n, y, L, ⟨h1, Or.inr ⟨by omega, l1⟩, Or.inr ⟨by omega, by rw [c5]; exact l2⟩, h5⟩, h2⟩
