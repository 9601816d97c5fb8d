/-! WORDS OF THE TEXT -/
def MK (m0 m : PS) (p : Int) : Prop := Same m0 m (fun b j => b = 0 ∧ (j = 9 ∨ j = 10)) ∧ m 0 9 = p
def wrd (g : Int → Int) : List Int → Int → Bool × Int
  | [], p => (true, p)
  | x :: w, p => if g p = x then wrd g w (p + 1) else (false, p)
def LW (r : Nat) : Int → List Int → Prop
  | _, [] => True
  | i, x :: w => zsch r i = x ∧ (0 ≤ x ∧ x ≤ 127) ∧ LW r (i + 1) w
def LM (m : PS) : Int → List Int → Prop
  | _, [] => True
  | i, x :: w => m 22 i = x ∧ (0 ≤ x ∧ x ≤ 127) ∧ LM m (i + 1) w
section WORDS
variable {c0 m0 c m : PS} {f : Nat} {z0 p : Int} {C : List Int}
theorem msignQ (T : TG c0 m0 f) (h : MK m0 m p) (hp : 0 ≤ p ∧ p ≤ f) : X7_next m = some (gS f (c0 172) p) := by
  obtain ⟨f1, f2, f3, f4, -⟩ := T
  obtain ⟨h1, h2⟩ := h
  have e0 : m 0 8 = f := (h1 _ _ (by omega)).trans f3
  unfold X7_next gS
  rw [e0, h2, wI_id (z := (f : Int)) (by omega) (by omega), wI_id (z := p) (by omega) (by omega)]
  by_cases q : (f : Int) ≤ p
  · rw [if_pos q, if_neg (by omega)]
  · rw [if_neg q, if_pos (by omega), zrd_ok (by omega) (by omega) (by omega), bI_some, h1 _ _ (by omega), (f4 p hp.1 (by omega)).1]
theorem mnextQ (h : MK m0 m p) : MK m0 (zu m 0 9 ((m 0 9) + 1)) (p + 1) := ⟨fun b j hb => by rw [zu_o (by omega)]; exact h.1 b j hb, by rw [zu_at, h.2]⟩
theorem m10Q (h : MK m0 m p) (x : Int) : MK m0 (zu m 0 10 x) p := ⟨fun b j hb => by rw [zu_o (by omega)]; exact h.1 b j hb, (zu_o (by omega)).trans h.2⟩
theorem mdigQ (T : TG c0 m0 f) (h : MK m0 m p) (hp : 0 ≤ p ∧ p ≤ f) : X7_isDigit m = some (if 48 ≤ gS f (c0 172) p ∧ gS f (c0 172) p ≤ 57 then 1 else 0) := by
  have r := T.rng hp.1
  unfold X7_isDigit
  rw [msignQ T h hp, bI_some, in_l (rngs (by omega) (by omega)) (by decide)]
theorem mnumQ (T : TG c0 m0 f) (h : MK m0 m p) (hp : 0 ≤ p ∧ p ≤ f) : ∃ r m', X7_takesNumber m = some (r, m') ∧ MK m0 m' (numP (gS f (c0 172)) p).2 ∧ ((r = 0 ∧ (numP (gS f (c0 172)) p).1 = -1) ∨ (r = 1 ∧ m' 0 10 = (numP (gS f (c0 172)) p).1 ∧ 0 ≤ (numP (gS f (c0 172)) p).1)) := by
  have f1 := T.1
  have r0 := T.rng hp.1
  have r1 := T.rng (p := p + 1) (by omega)
  have lt0 := TG.lt (f := f) (c0 := c0) (p := p)
  have D0 := mdigQ T h hp
  unfold X7_takesNumber
  rw [D0, bI_some]
  unfold numP
  by_cases q1 : 48 ≤ gS f (c0 172) p ∧ gS f (c0 172) p ≤ 57
  · simp only [if_pos q1, w10, if_false]
    have pf := lt0 (by omega)
    have hA := m10Q h 0
    have hB := m10Q hA (10 * (zu m 0 10 0 0 10) + gS f (c0 172) p - 48)
    have hC := mnextQ hB
    have e : ∀ F, ∃ r m', X7_takesNumber_L16 (F + 1 + 1 + 1) (zu m 0 10 0) 0 = some (r, m') ∧ MK m0 m' (if 48 ≤ gS f (c0 172) (p + 1) ∧ gS f (c0 172) (p + 1) ≤ 57 then ((gS f (c0 172) p - 48) * 10 + gS f (c0 172) (p + 1) - 48, p + 2) else (gS f (c0 172) p - 48, p + 1)).2 ∧ r = 1 ∧ m' 0 10 = (if 48 ≤ gS f (c0 172) (p + 1) ∧ gS f (c0 172) (p + 1) ≤ 57 then ((gS f (c0 172) p - 48) * 10 + gS f (c0 172) (p + 1) - 48, p + 2) else (gS f (c0 172) p - 48, p + 1)).1 := by
      intro F
      have DA := mdigQ T hA hp
      have DC := mdigQ T hC (by omega)
      rw [X7_takesNumber_L16, if_neg (by decide), DA, bI_some]
      simp only [if_pos q1, w10, if_false]
      rw [msignQ T hA hp, bI_some, zlet_eq, zlet_eq, X7_takesNumber_L16, if_neg (by decide), DC, bI_some]
      have v1 : ∀ x, zu (zu (zu m 0 10 0) 0 10 (10 * (zu m 0 10 0 0 10) + gS f (c0 172) p - 48)) 0 9 x 0 10 = gS f (c0 172) p - 48 := fun x => by
        rw [zu_o (by omega), zu_at, zu_at]; omega
      by_cases q2 : 48 ≤ gS f (c0 172) (p + 1) ∧ gS f (c0 172) (p + 1) ≤ 57
      · simp only [if_pos q2, w10, if_false]
        rw [msignQ T hC (by omega), bI_some, zlet_eq, zlet_eq, X7_takesNumber_L16, if_pos (by decide)]
        have hD := mnextQ (m10Q hC (10 * (zu (zu (zu m 0 10 0) 0 10 (10 * (zu m 0 10 0 0 10) + gS f (c0 172) p - 48)) 0 9 (zu (zu m 0 10 0) 0 10 (10 * (zu m 0 10 0 0 10) + gS f (c0 172) p - 48) 0 9 + 1) 0 10) + gS f (c0 172) (p + 1) - 48))
        refine ⟨_, _, rfl, by rw [show p + 2 = p + 1 + 1 by omega]; exact hD, rfl, ?_⟩
        rw [zu_o (by omega), zu_at, v1]; omega
      · simp only [if_neg q2, w00, if_true]
        exact ⟨_, _, rfl, hC, rfl, v1 _⟩
    rw [zlet_eq]
    obtain ⟨r, m', e1, e2, e3, e4⟩ := e 99997
    refine ⟨r, m', e1, e2, Or.inr ⟨e3, e4, ?_⟩⟩
    split <;> simp only [] <;> omega
  · simp only [if_neg q1, w00, if_true]
    exact ⟨_, _, rfl, h, Or.inl (by constructor <;> first | rfl | trivial)⟩
theorem wrd_rng (T : TG c0 m0 f) : ∀ (w : List Int) (p : Int), (∀ x ∈ w, 0 ≤ x) → (0 ≤ p ∧ p ≤ f) → p ≤ (wrd (gS f (c0 172)) w p).2 ∧ (wrd (gS f (c0 172)) w p).2 ≤ f ∧ ((wrd (gS f (c0 172)) w p).1 = true → (wrd (gS f (c0 172)) w p).2 = p + w.length)
  | [], p, _, hp => by
    rw [wrd]
    exact ⟨Int.le_refl _, hp.2, fun _ => by simp⟩
  | x :: w, p, hw, hp => by
    rw [wrd]
    by_cases q : gS f (c0 172) p = x
    · rw [if_pos q]
      have hx := hw x List.mem_cons_self
      have pf := TG.lt (f := f) (c0 := c0) (p := p) (by omega)
      obtain ⟨a, b, c⟩ := wrd_rng T w (p + 1) (fun y hy => hw y (List.mem_cons_of_mem _ hy)) (by omega)
      refine ⟨by omega, b, fun h => ?_⟩
      rw [c h, List.length_cons]; omega
    · rw [if_neg q]
      exact ⟨Int.le_refl _, hp.2, fun h => absurd h Bool.false_ne_true⟩
theorem cword_L {r : Nat} (T : TG c0 m0 f) (hr : (zsl r : Int) ≤ 100) : ∀ (w : List Int) (k : Nat) (c : PS) (p i : Int), w.length < k → 0 ≤ i → i + w.length = zsl r → LW r i w → CP c0 z0 c p C → (0 ≤ p ∧ p ≤ f) → ∃ c', X3_word_L2 r k c i = some ((if (wrd (gS f (c0 172)) w p).1 then 1 else 0), c') ∧ CP c0 z0 c' (wrd (gS f (c0 172)) w p).2 C
  | [], k, c, p, i, hk, hi, hl, hL, h, hp => by
    obtain ⟨k, rfl⟩ : ∃ q, k = q + 1 := ⟨k - 1, by omega⟩
    simp only [List.length_nil] at hl
    rw [X3_word_L2, wI_id (z := ((zsl r : Nat) : Int)) (by omega) (by omega), wI_id (z := i) (by omega) (by omega), if_pos (by omega), wrd]
    exact ⟨c, rfl, h⟩
  | x :: w, k, c, p, i, hk, hi, hl, hL, h, hp => by
    obtain ⟨k, rfl⟩ : ∃ q, k = q + 1 := ⟨k - 1, by omega⟩
    simp only [List.length_cons] at hl hk
    obtain ⟨l1, l2, l3⟩ := hL
    have g := T.rng hp.1
    rw [X3_word_L2, wI_id (z := ((zsl r : Nat) : Int)) (by omega) (by omega), wI_id (z := i) (by omega) (by omega), if_neg (by omega), csign T h hp, bI_some, zchk_ok (by omega), l1, wI_id (z := gS f (c0 172) p) (by omega) (by omega), wI_id (z := x) (by omega) (by omega), wrd]
    by_cases q : gS f (c0 172) p = x
    · have pf := TG.lt (f := f) (c0 := c0) (p := p) (by omega)
      rw [if_pos q, if_pos q, zlet_eq]
      exact cword_L T hr w k _ (p + 1) (i + 1) (by omega) (by omega) (by omega) l3 (cnext h) (by omega)
    · rw [if_neg q, if_neg q]
      exact ⟨c, rfl, h⟩
theorem cword {r : Nat} {w : List Int} (T : TG c0 m0 f) (hw : w.length = zsl r) (hl : w.length ≤ 100) (hL : LW r 0 w) (h : CP c0 z0 c p C) (hp : 0 ≤ p ∧ p ≤ f) : ∃ c', X3_word r c = some ((if (wrd (gS f (c0 172)) w p).1 then 1 else 0), c') ∧ CP c0 z0 c' (wrd (gS f (c0 172)) w p).2 C :=
  cword_L T (by omega) w FU c p 0 (by unfold FU; omega) (by omega) (by omega) hL h hp
theorem mtakes {x : Int} (T : TG c0 m0 f) (hx : 0 ≤ x ∧ x ≤ 127) (h : MK m0 m p) (hp : 0 ≤ p ∧ p ≤ f) : X7_takes m x = (if gS f (c0 172) p = x then some (1, zu m 0 9 ((m 0 9) + 1)) else some (0, m)) := by
  have g := T.rng hp.1
  unfold X7_takes
  rw [msignQ T h hp, bI_some, wI_id (z := gS f (c0 172) p) (by omega) (by omega), wI_id (z := x) (by omega) (by omega), zlet_eq]
theorem mword_L {a : Int} {n : Int} (T : TG c0 m0 f) (ha : 0 ≤ a ∧ a + n ≤ 13) : ∀ (w : List Int) (k : Nat) (m : PS) (p i : Int), w.length < k → 0 ≤ i → i + w.length = n → LM m0 (a + i) w → MK m0 m p → (0 ≤ p ∧ p ≤ f) → ∃ m', X7_takesAlone_L2 a n k m i = some ((if (wrd (gS f (c0 172)) w p).1 then 1 else 0), m') ∧ MK m0 m' (wrd (gS f (c0 172)) w p).2
  | [], k, m, p, i, hk, hi, hl, hL, h, hp => by
    obtain ⟨k, rfl⟩ : ∃ q, k = q + 1 := ⟨k - 1, by omega⟩
    simp only [List.length_nil] at hl
    rw [X7_takesAlone_L2, wI_id (z := n) (by omega) (by omega), wI_id (z := i) (by omega) (by omega), if_pos (by omega), wrd]
    exact ⟨m, rfl, h⟩
  | x :: w, k, m, p, i, hk, hi, hl, hL, h, hp => by
    obtain ⟨k, rfl⟩ : ∃ q, k = q + 1 := ⟨k - 1, by omega⟩
    simp only [List.length_cons] at hl hk
    obtain ⟨l1, l2, l3⟩ := hL
    have e22 : m 22 (a + i) = x := (h.1 _ _ (by omega)).trans l1
    rw [X7_takesAlone_L2, wI_id (z := n) (by omega) (by omega), wI_id (z := i) (by omega) (by omega), if_neg (by omega), zrd_ok (by omega) (by omega) (by omega), bI_some, e22, mtakes T l2 h hp, wrd]
    by_cases q : gS f (c0 172) p = x
    · have pf := TG.lt (f := f) (c0 := c0) (p := p) (by omega)
      rw [if_pos q, if_pos q, bP_some, if_neg (by decide : ¬ wI 1 = 0)]
      exact mword_L T ha w k _ (p + 1) (i + 1) (by omega) (by omega) (by omega) (by rw [show a + (i + 1) = a + i + 1 by omega]; exact l3) (mnextQ h) (by omega)
    · rw [if_neg q, if_neg q, bP_some, if_pos (by decide)]
      exact ⟨m, rfl, h⟩
theorem malone {a n : Int} {w : List Int} (T : TG c0 m0 f) (ha : 0 ≤ a ∧ a + n ≤ 13) (hw : w.length = n) (hL : LM m0 a w) (h : MK m0 m p) (hp : 0 ≤ p ∧ p ≤ f) : ∃ m', X7_takesAlone m a n = some ((if (wrd (gS f (c0 172)) w p).1 then 1 else 0), m') ∧ MK m0 m' (wrd (gS f (c0 172)) w p).2 :=
  mword_L T ha w FU m p 0 (by unfold FU; omega) (by omega) (by omega) (by rw [Int.add_zero]; exact hL) h hp
theorem wrd_app (g : Int → Int) (x : Int) : ∀ (w : List Int) (p : Int), wrd g (w ++ [x]) p = if (wrd g w p).1 = true then (if g (wrd g w p).2 = x then (true, (wrd g w p).2 + 1) else (false, (wrd g w p).2)) else (false, (wrd g w p).2)
  | [], p => rfl
  | y :: w, p => by
    rw [List.cons_append, wrd, wrd]
    by_cases q : g p = y
    · rw [if_pos q, if_pos q]; exact wrd_app g x w (p + 1)
    · rw [if_neg q, if_neg q]; rfl
theorem mword {a n : Int} {w : List Int} (T : TG c0 m0 f) (ha : 0 ≤ a ∧ a + n ≤ 13) (hw : w.length = n) (hw0 : ∀ x ∈ w, 0 ≤ x) (hL : LM m0 a w) (h : MK m0 m p) (hp : 0 ≤ p ∧ p ≤ f) : ∃ m', X7_takesWord m a n = some ((if (wrd (gS f (c0 172)) (w ++ [32]) p).1 then 1 else 0), m') ∧ MK m0 m' (wrd (gS f (c0 172)) (w ++ [32]) p).2 := by
  obtain ⟨m1, a1, a2⟩ := malone T ha hw hL h hp
  have r := wrd_rng T w p hw0 hp
  unfold X7_takesWord
  rw [a1, bP_some, wrd_app]
  by_cases q : (wrd (gS f (c0 172)) w p).1 = true
  · rw [if_pos q, if_pos q, if_neg (by decide : ¬ wI 1 = 0), mtakes T (by omega) a2 (by omega)]
    by_cases q' : gS f (c0 172) (wrd (gS f (c0 172)) w p).2 = 32
    · rw [if_pos q', if_pos q', bP_some, if_neg (by decide : ¬ wI 1 = 0)]
      exact ⟨_, rfl, mnextQ a2⟩
    · rw [if_neg q', if_neg q', bP_some, if_pos (by decide)]
      exact ⟨_, rfl, a2⟩
  · rw [if_neg q, if_neg q, if_pos (by decide)]
    exact ⟨_, rfl, a2⟩
end WORDS
theorem LW_1 : LW 1 0 [105, 110, 103] := ⟨by decide, by decide, by decide, by decide, by decide, by decide, trivial⟩
theorem LW_2 : LW 2 0 [111, 119] := ⟨by decide, by decide, by decide, by decide, trivial⟩
theorem LW_3 : LW 3 0 ([116, 97, 120] ++ [32]) := ⟨by decide, by decide, by decide, by decide, by decide, by decide, by decide, by decide, trivial⟩
theorem LW_4 : LW 4 0 ([97, 100, 100] ++ [32]) := ⟨by decide, by decide, by decide, by decide, by decide, by decide, by decide, by decide, trivial⟩
theorem LM_0 {m : PS} (h : RLt m) : LM m 0 [97, 100, 100] ∧ LM m 3 [116, 97, 120] ∧ LM m 6 [114, 105, 110, 103] ∧ LM m 10 [114, 111, 119] := by
  refine ⟨⟨h _ (by decide) (by decide), by decide, h _ (by decide) (by decide), by decide, h _ (by decide) (by decide), by decide, trivial⟩, ⟨h _ (by decide) (by decide), by decide, h _ (by decide) (by decide), by decide, h _ (by decide) (by decide), by decide, trivial⟩, ⟨h _ (by decide) (by decide), by decide, h _ (by decide) (by decide), by decide, h _ (by decide) (by decide), by decide, h _ (by decide) (by decide), by decide, trivial⟩, ⟨h _ (by decide) (by decide), by decide, h _ (by decide) (by decide), by decide, h _ (by decide) (by decide), by decide, trivial⟩⟩
