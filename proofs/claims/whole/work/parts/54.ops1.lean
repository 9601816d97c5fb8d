/-! CALLS: house, of, earn, row, told, year -/
theorem w10 : (wI 1 = 0) = False := by simp only [eq_iff_iff, iff_false]; decide
theorem w00 : (wI 0 = 0) = True := by simp only [eq_iff_iff, iff_true]; decide
theorem isH_c {st : PS} {n : Nat} {l : Int} (h0 : st 20 0 = n) (n7 : n ≤ 7) (r : rng l) : X6_isHouse st l = if 0 ≤ l ∧ l < n then 1 else 0 := by
  unfold X6_isHouse
  rw [h0, wI_r r, wI_id (z := (n : Int)) (by omega) (by omega)]
  by_cases c1 : l < 0
  · rw [if_pos c1, if_neg (by omega)]
  · by_cases c2 : (n : Int) ≤ l
    · rw [if_neg c1, if_pos c2, if_neg (by omega)]
    · rw [if_neg c1, if_neg c2, if_pos (by omega)]
theorem in_m {st : PS} {l a b : Int} (r : rng l) (ra : rng a) (rb : rng b) : X7_in st l a b = if a ≤ l ∧ l ≤ b then 1 else 0 := by
  unfold X7_in
  rw [wI_r r, wI_r ra, wI_r rb]
  by_cases c1 : l < a
  · rw [if_pos c1, if_neg (by omega)]
  · by_cases c2 : b < l
    · rw [if_neg c1, if_pos c2, if_neg (by omega)]
    · rw [if_neg c1, if_neg c2, if_pos (by omega)]
theorem isH_m {st : PS} {n : Nat} {l : Int} (h0 : st 0 0 = n) (n7 : n ≤ 7) (r : rng l) : X7_isHouse st l = if 0 ≤ l ∧ l < n then 1 else 0 := by
  unfold X7_isHouse
  rw [in_m r (rngs (by omega) (by omega)) (rngs (by omega) (by omega)), h0]
  by_cases c1 : 0 ≤ l ∧ l < n
  · rw [if_pos c1, if_pos (by omega)]
  · rw [if_neg c1, if_neg (by omega)]
theorem isK_c {st : PS} {l : Int} (r : rng l) : X6_isKind st l = if 0 ≤ l ∧ l ≤ 6 then 1 else 0 := by
  unfold X6_isKind
  rw [wI_r r, wI_id (z := 6) (by omega) (by omega)]
  by_cases c1 : l < 0
  · rw [if_pos c1, if_neg (by omega)]
  · by_cases c2 : 6 < l
    · rw [if_neg c1, if_pos c2, if_neg (by omega)]
    · rw [if_neg c1, if_neg c2, if_pos (by omega)]
theorem isV_c {st : PS} {l : Int} (r : rng l) : X6_isV st l = if 0 ≤ l ∧ l ≤ 9 then 1 else 0 := by
  unfold X6_isV
  rw [wI_r r, wI_id (z := 9) (by omega) (by omega)]
  by_cases c1 : l < 0
  · rw [if_pos c1, if_neg (by omega)]
  · by_cases c2 : 9 < l
    · rw [if_neg c1, if_pos c2, if_neg (by omega)]
    · rw [if_neg c1, if_neg c2, if_pos (by omega)]
theorem isE_c {st : PS} {l : Int} (r : rng l) : X6_isEarned st l = if 0 ≤ l ∧ l ≤ 99 then 1 else 0 := by
  unfold X6_isEarned
  rw [wI_r r, wI_id (z := 99) (by omega) (by omega)]
  by_cases c1 : l < 0
  · rw [if_pos c1, if_neg (by omega)]
  · by_cases c2 : 99 < l
    · rw [if_neg c1, if_pos c2, if_neg (by omega)]
    · rw [if_neg c1, if_neg c2, if_pos (by omega)]
theorem in_l {st : PS} {l a b : Int} (r : rng l) (h : (-2147483648 ≤ a ∧ a < 2147483648) ∧ (-2147483648 ≤ b ∧ b < 2147483648)) : X7_in st l a b = if a ≤ l ∧ l ≤ b then 1 else 0 := in_m r h.1 h.2
theorem RN.mono {sc sm : PS} {a n n' r1 r2 r3 : Nat} {p q : Int} (h : RN sc sm a n p q r1 r2 r3) (hn : n ≤ n') : RN sc sm a n' p q r1 r2 r3 := by
  obtain ⟨u, v, h1, h2, h3, h4, h5, h6, h7, h8⟩ := h
  refine ⟨u, v, h1, h2, h3, h4, h5, h6, fun i i1 i2 => ?_, h8⟩
  obtain ⟨b1, b2, b3, b4⟩ := h7 i i1 i2
  exact ⟨b1, b2, b3, by omega⟩
def clT (b : Nat) (j : Int) : Prop := clS b j ∨ (b = 20 ∧ (j = 0 ∨ j = 1)) ∨ (23 ≤ b ∧ b ≤ 26)
def smT (b : Nat) (j : Int) : Prop := b = 18 ∨ b = 23 ∨ b = 25 ∨ b = 27 ∨ b = 28 ∨ (30 ≤ b ∧ b ≤ 35) ∨ b = 60 ∨ (b = 0 ∧ (j = 0 ∨ j = 1 ∨ j = 2 ∨ j = 3 ∨ j = 4 ∨ j = 9 ∨ j = 10 ∨ j = 19 ∨ j = 20 ∨ j = 21 ∨ j = 26 ∨ j = 29 ∨ j = 36)) ∨ (2 ≤ b ∧ b ≤ 5)
/-- a call that changes the town alone -/
theorem Rel.town {sc sm sc' sm' : PS} {n : Nat} {y : Int} (h : Rel sc sm) (hS : Same sc sc' clT) (hT : Same sm sm' smT) (hW : RW sc' sm' 20 n y 0 1 2) (hy : y ≤ 999) (hn : sm 0 0 ≤ n) : Rel sc' sm' := by
  obtain ⟨⟨n0, y0, h1, h2, h3⟩, h4, h5, h6, h7, h8, h9, h10⟩ := h
  have e := h1.2.1
  refine ⟨⟨n, y, hW, hy, (h3.mono (n' := n) (by omega)).same hS hT (fun b j q => by unfold clT clS; omega) (fun b j q => by unfold smT; omega)⟩, h4.same hS hT (fun b j q => by unfold clT clS; omega) (fun b j q => by unfold smT; omega), (hT _ _ (by unfold smT; omega)).trans h5, fun i i1 i2 => (hT _ _ (by unfold smT; omega)).trans (h6 i i1 i2), h7.same hS hT (fun b j q => by unfold clT clS; omega) (fun b j q => by unfold smT; omega), h8.same hS hT (fun b j q => by unfold clT clS; omega) (fun b j q => by unfold smT; omega), h9.same hS hT (fun b j q => by unfold clT clS; omega) (fun b j q => by unfold smT; omega), h10.same hS hT (fun b j q => by unfold clT clS; omega) (fun b j q => by unfold smT; omega)⟩
theorem ins85 {st : PS} {a : Nat} {l : Int} (h0 : 0 ≤ l) (h6 : l ≤ 6) : ∀ (k i : Nat) (s0 : PS), i ≤ 4 → 4 - i < k → Same st s0 (fun b j => b = a + 6 ∧ l * 4 ≤ j ∧ j < l * 4 + 4) → (∀ p : Int, 0 ≤ p → p < i → s0 (a + 6) (l * 4 + p) = 0) → ∃ s', X5_insert_L85 a l k s0 i = some s' ∧ Same st s' (fun b j => b = a + 6 ∧ l * 4 ≤ j ∧ j < l * 4 + 4) ∧ ∀ p : Int, 0 ≤ p → p < 4 → s' (a + 6) (l * 4 + p) = 0 := by
  intro k
  induction k with
  | zero => intro i _ _ h; omega
  | succ k ih =>
    intro i s0 hi hk hS hv
    rw [X5_insert_L85, wI_id (z := 4) (by omega) (by omega), wI_id (z := (i : Int)) (by omega) (by omega)]
    by_cases h : 4 ≤ i
    · rw [if_pos (by omega)]
      exact ⟨s0, rfl, hS, fun p p1 p2 => hv p p1 (by omega)⟩
    · rw [if_neg (by omega), zwr_ok (by omega) (by omega) (by omega), bI_some]
      refine ih (i + 1) _ (by omega) (by omega) (fun b j hb => (zu_o (by omega)).trans (hS b j hb)) (fun p h1 h2 => ?_)
      by_cases he : p = i
      · rw [he, zu_at]
      · rw [zu_o (by omega)]; exact hv p h1 (by omega)
theorem lay25 {st : PS} {l : Int} (h0 : 0 ≤ l) (h6 : l ≤ 7) : ∀ (k i : Nat) (s0 : PS), i ≤ 4 → 4 - i < k → Same st s0 (fun b j => b = 5 ∧ l * 4 ≤ j ∧ j < l * 4 + 4) → (∀ p : Int, 0 ≤ p → p < i → s0 5 (l * 4 + p) = 0) → ∃ s', X7_lay_L25 l k s0 i = some s' ∧ Same st s' (fun b j => b = 5 ∧ l * 4 ≤ j ∧ j < l * 4 + 4) ∧ ∀ p : Int, 0 ≤ p → p < 4 → s' 5 (l * 4 + p) = 0 := by
  intro k
  induction k with
  | zero => intro i _ _ h; omega
  | succ k ih =>
    intro i s0 hi hk hS hv
    rw [X7_lay_L25, wI_id (z := 4) (by omega) (by omega), wI_id (z := (i : Int)) (by omega) (by omega)]
    by_cases h : 4 ≤ i
    · rw [if_pos (by omega)]
      exact ⟨s0, rfl, hS, fun p p1 p2 => hv p p1 (by omega)⟩
    · rw [if_neg (by omega), zwr_ok (by omega) (by omega) (by omega), bI_some]
      refine ih (i + 1) _ (by omega) (by omega) (fun b j hb => (zu_o (by omega)).trans (hS b j hb)) (fun p h1 h2 => ?_)
      by_cases he : p = i
      · rw [he, show 4 * l + (i : Int) = l * 4 + i by omega, zu_at]
      · rw [zu_o (by omega)]; exact hv p h1 (by omega)
abbrev hsP (a : Nat) (l : Int) (b : Nat) (j : Int) : Prop := (a + 3 ≤ b ∧ b ≤ a + 5 ∧ j = l) ∨ (b = a + 6 ∧ l * 4 ≤ j ∧ j < l * 4 + 4)
/-- what a new house is set to, in the class -/
theorem ins_base {st : PS} {a : Nat} {l x1 x2 x3 : Int} (h0 : 0 ≤ l) (h6 : l ≤ 6) : ∃ s', bI (zwr st (a + 3) 7 l x1) (fun s2 => bI (zwr s2 (a + 4) 7 l x2) (fun s3 => bI (zwr s3 (a + 5) 7 l x3) (fun s4 => X5_insert_L85 a l FU s4 0))) = some s' ∧ Same st s' (hsP a l) ∧ s' (a + 3) l = x1 ∧ s' (a + 4) l = x2 ∧ s' (a + 5) l = x3 ∧ ∀ p : Int, 0 ≤ p → p < 4 → s' (a + 6) (l * 4 + p) = 0 := by
  rw [zwr_ok (by omega) (by omega) (by omega), bI_some, zwr_ok (by omega) (by omega) (by omega), bI_some, zwr_ok (by omega) (by omega) (by omega), bI_some]
  obtain ⟨s', a1, a2, a3⟩ := ins85 (a := a) h0 h6 FU 0 (zu (zu (zu st (a + 3) l x1) (a + 4) l x2) (a + 5) l x3) (by omega) (by unfold FU; omega) Same.rf (fun p h1 h2 => by omega)
  refine ⟨s', a1, fun b j hb => ?_, ?_, ?_, ?_, a3⟩
  · rw [a2 _ _ (by omega)]
    simp (disch := omega) only [zu_o]
  all_goals rw [a2 _ _ (by omega)]; simp (disch := omega) only [zu_o, zu_at]
theorem lay_ok {st : PS} {l x1 x2 x3 : Int} (h0 : 0 ≤ l) (h6 : l ≤ 7) : ∃ s', X7_lay st l x1 x2 x3 = some s' ∧ Same st s' (fun b j => (2 ≤ b ∧ b ≤ 4 ∧ j = l) ∨ (b = 5 ∧ l * 4 ≤ j ∧ j < l * 4 + 4)) ∧ s' 2 l = x1 ∧ s' 3 l = x2 ∧ s' 4 l = x3 ∧ ∀ p : Int, 0 ≤ p → p < 4 → s' 5 (l * 4 + p) = 0 := by
  unfold X7_lay
  rw [zwr_ok (by omega) (by omega) (by omega), bI_some, zwr_ok (by omega) (by omega) (by omega), bI_some, zwr_ok (by omega) (by omega) (by omega), bI_some]
  obtain ⟨s', a1, a2, a3⟩ := lay25 h0 h6 FU 0 (zu (zu (zu st 2 l x1) 3 l x2) 4 l x3) (by omega) (by unfold FU; omega) Same.rf (fun p h1 h2 => by omega)
  refine ⟨s', a1, fun b j hb => ?_, ?_, ?_, ?_, a3⟩
  · rw [a2 _ _ (by omega)]
    simp (disch := omega) only [zu_o]
  all_goals rw [a2 _ _ (by omega)]; simp (disch := omega) only [zu_o, zu_at]
theorem sim_house : Sim_house Rel := by
  intro sc sm R a1 a2 a3 r1 r2 r3
  obtain ⟨n, y, L, E, hy⟩ := R.eq
  obtain ⟨⟨⟨t1, n7, t3, t4, t5, t6⟩, m0, m1, h3⟩, -⟩ := E
  unfold X6_house X7_house
  rw [isK_c r1, isV_c r2, isE_c r3, in_l r1 (by decide), in_l r2 (by decide), in_l r3 (by decide), t1, m0, wI_id (z := (n : Int)) (by omega) (by omega), wI_id (z := 7) (by omega) (by omega)]
  by_cases g1 : 0 ≤ a1 ∧ a1 ≤ 6
  · by_cases g2 : 0 ≤ a2 ∧ a2 ≤ 9
    · by_cases g3 : 0 ≤ a3 ∧ a3 ≤ 99
      · simp only [if_pos g1, if_pos g2, if_pos g3, w10, if_false]
        by_cases g4 : n = 7
        · rw [if_neg (by omega), if_pos (by omega)]
          exact ⟨_, _, _, _, rfl, rfl, rfl, R⟩
        · rw [if_pos (by omega), if_neg (by omega)]
          have e1 : X5_insert 20 sc n a1 a2 a3 = bI (zwr (zu sc 20 0 (n + 1)) (20 + 3) 7 n a1) (fun s2 => bI (zwr s2 (20 + 4) 7 n a2) (fun s3 => bI (zwr s3 (20 + 5) 7 n a3) (fun s4 => X5_insert_L85 20 n FU s4 0))) := by
            unfold X5_insert
            rw [t1, wI_id (z := (n : Int)) (by omega) (by omega), wI_id (z := 7) (by omega) (by omega), if_neg (by omega), if_neg (by omega), if_pos (by omega)]
            have e : ∀ F, X5_insert_L28 20 n a1 a2 a3 (F + 1) sc n = bI (zwr (zu sc 20 0 (n + 1)) (20 + 3) 7 n a1) (fun s2 => bI (zwr s2 (20 + 4) 7 n a2) (fun s3 => bI (zwr s3 (20 + 5) 7 n a3) (fun s4 => X5_insert_L85 20 n FU s4 0))) := by
              intro F
              rw [X5_insert_L28, if_pos (by omega), t1, zlet]
            exact e 99999
          obtain ⟨s', b1, b2, b3, b4, b5, b6⟩ := ins_base (st := zu sc 20 0 (n + 1)) (a := 20) (l := n) (x1 := a1) (x2 := a2) (x3 := a3) (by omega) (by omega)
          obtain ⟨m', c1, c2, c3, c4, c5, c6⟩ := lay_ok (st := sm) (l := n) (x1 := a1) (x2 := a2) (x3 := a3) (by omega) (by omega)
          have z1 : s' 20 0 = n + 1 := (b2 _ _ (by unfold hsP; omega)).trans zu_at
          have z2 : zu m' 0 0 (m' 0 0 + 1) 0 0 = n + 1 := by rw [zu_at, c2 _ _ (by omega), m0]
          have S1 : Same sc s' (fun b j => hsP 20 n b j ∨ (b = 20 ∧ j = 0)) := fun b j hb => (b2 _ _ (fun q => hb (Or.inl q))).trans (zu_o (by omega))
          have S2 : Same sm (zu m' 0 0 (m' 0 0 + 1)) (fun b j => (2 ≤ b ∧ b ≤ 4 ∧ j = n) ∨ (b = 5 ∧ (n : Int) * 4 ≤ j ∧ j < (n : Int) * 4 + 4) ∨ (b = 0 ∧ j = 0)) := fun b j hb => (zu_o (by omega)).trans (c2 _ _ (by omega))
          rw [e1, b1, c1, bI_some, bI_some]
          refine ⟨_, _, _, _, rfl, rfl, by show wI (s' 20 0 - 1) = wI (zu m' 0 0 (m' 0 0 + 1) 0 0 - 1); rw [z1, z2], R.town (n := n + 1) (y := y) (S1.wk fun b j q => by unfold clT; revert q; unfold hsP; omega) (S2.wk fun b j q => by unfold smT; omega) ⟨⟨by rw [z1]; omega, by omega, (S1 _ _ (by unfold hsP; omega)).trans t3, t4, t5, fun h q1 q2 => ?_⟩, by rw [z2]; omega, (S2 _ _ (by omega)).trans m1, fun h q1 q2 => ?_⟩ hy (by omega)⟩
          · by_cases he : h = n
            · rw [he, b3, b4, b5]
              exact ⟨g1, g2, g3, fun p p1 p2 => by rw [b6 p p1 p2]; omega⟩
            · obtain ⟨u1, u2, u3, u4⟩ := t6 h q1 (by omega)
              refine ⟨by rw [S1 _ _ (by unfold hsP; omega)]; exact u1, by rw [S1 _ _ (by unfold hsP; omega)]; exact u2, by rw [S1 _ _ (by unfold hsP; omega)]; exact u3, fun p p1 p2 => by rw [S1 _ _ (by unfold hsP; omega)]; exact u4 p p1 p2⟩
          · by_cases he : h = n
            · rw [he]
              refine ⟨?_, ?_, ?_, fun p p1 p2 => ?_⟩
              · rw [zu_o (by omega), b3, c3]
              · rw [zu_o (by omega), b4, c4]
              · rw [zu_o (by omega), b5, c5]
              · rw [zu_o (by omega), b6 p p1 p2, c6 p p1 p2]
            · obtain ⟨u1, u2, u3, u4⟩ := h3 h q1 (by omega)
              refine ⟨by rw [S1 _ _ (by unfold hsP; omega), S2 _ _ (by omega)]; exact u1, by rw [S1 _ _ (by unfold hsP; omega), S2 _ _ (by omega)]; exact u2, by rw [S1 _ _ (by unfold hsP; omega), S2 _ _ (by omega)]; exact u3, fun p p1 p2 => by rw [S1 _ _ (by unfold hsP; omega), S2 _ _ (by omega)]; exact u4 p p1 p2⟩
      · simp only [if_pos g1, if_pos g2, if_neg g3, w10, w00, if_false, if_true]
        exact ⟨_, _, _, _, rfl, rfl, rfl, R⟩
    · simp only [if_pos g1, if_neg g2, w10, w00, if_false, if_true]
      exact ⟨_, _, _, _, rfl, rfl, rfl, R⟩
  · simp only [if_neg g1, w00, if_true]
    exact ⟨_, _, _, _, rfl, rfl, rfl, R⟩
