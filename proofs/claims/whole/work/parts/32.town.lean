/-! TOWNS of the class -/
def TW (st : PS) (a n : Nat) (y : Int) : Prop := st a 0 = (n : Int) ∧ n ≤ 7 ∧ st a 1 = y ∧ 0 ≤ y ∧ y ≤ 2000 ∧ ∀ h : Int, 0 ≤ h → h < n → (0 ≤ st (a + 3) h ∧ st (a + 3) h ≤ 6) ∧ (0 ≤ st (a + 4) h ∧ st (a + 4) h ≤ 9) ∧ (0 ≤ st (a + 5) h ∧ st (a + 5) h ≤ 99) ∧ ∀ p : Int, 0 ≤ p → p < 4 → 0 ≤ st (a + 6) (h * 4 + p) ∧ st (a + 6) (h * 4 + p) ≤ 4
theorem TW.same {st s' : PS} {a n : Nat} {y : Int} {P : Nat → Int → Prop} (h : TW st a n y) (hS : Same st s' P) (h0 : ¬ P a 0) (h1 : ¬ P a 1) (hk : ∀ j, ¬ P (a + 3) j ∧ ¬ P (a + 4) j ∧ ¬ P (a + 5) j ∧ ¬ P (a + 6) j) : TW s' a n y := by
  obtain ⟨t1, t2, t3, t4, t5, t6⟩ := h
  refine ⟨by rw [hS _ _ h0]; exact t1, t2, by rw [hS _ _ h1]; exact t3, t4, t5, fun h a1 a2 => ?_⟩
  obtain ⟨b1, b2, b3, b4⟩ := t6 h a1 a2
  refine ⟨by rw [hS _ _ (hk h).1]; exact b1, by rw [hS _ _ (hk h).2.1]; exact b2, by rw [hS _ _ (hk h).2.2.1]; exact b3, fun p p1 p2 => by rw [hS _ _ (hk _).2.2.2]; exact b4 p p1 p2⟩
theorem total_L {st : PS} {a n : Nat} {y : Int} (T : TW st a n y) : ∀ (k i : Nat), i ≤ n → n - i < k → X5_total_L4 a st k (sumF (st (a + 5)) i) i = some (sumF (st (a + 5)) n) := by
  obtain ⟨t1, t2, t3, t4, t5, t6⟩ := T
  intro k
  induction k with
  | zero => intro i _ h; omega
  | succ k ih =>
    intro i hi hk
    rw [X5_total_L4, t1, wI_id (z := (n : Int)) (by omega) (by omega), wI_id (z := (i : Int)) (by omega) (by omega)]
    by_cases h : n ≤ i
    · have e : i = n := by omega
      subst e
      rw [if_pos (by omega)]
    · rw [if_neg (by omega), zrd_ok (by omega) (by omega) (by omega), bI_some]
      exact ih (i + 1) (by omega) (by omega)
theorem total_ok {st : PS} {a n : Nat} {y : Int} (T : TW st a n y) : X5_total a st = some (sumF (st (a + 5)) n) := by
  have h := total_L T FU 0 (Nat.zero_le _) (by have := T.2.1; unfold FU; omega)
  exact h
theorem say_L {st : PS} {a n : Nat} {y : Int} (T : TW st a n y) : ∀ (k i : Nat) (s0 : PS), i ≤ n → n - i < k → Same st s0 (fun b _ => b = a + 7) → (∀ h : Int, 0 ≤ h → h < i → s0 (a + 7) h = sayF y (st (a + 3)) (st (a + 4)) (st (a + 5)) h) →
    ∃ s', X5_sayByKind_L2 a k s0 i = some s' ∧ Same st s' (fun b _ => b = a + 7) ∧ ∀ h : Int, 0 ≤ h → h < n → s' (a + 7) h = sayF y (st (a + 3)) (st (a + 4)) (st (a + 5)) h := by
  obtain ⟨t1, t2, t3, t4, t5, t6⟩ := T
  intro k
  induction k with
  | zero => intro i _ _ h; omega
  | succ k ih =>
    intro i s0 hi hk hS hv
    have e0 : s0 a 0 = n := (hS _ _ (by omega)).trans t1
    have e1 : s0 a 1 = y := (hS _ _ (by omega)).trans t3
    rw [X5_sayByKind_L2, e0, wI_id (z := (n : Int)) (by omega) (by omega), wI_id (z := (i : Int)) (by omega) (by omega)]
    by_cases h : n ≤ i
    · have e : i = n := by omega
      subst e
      rw [if_pos (by omega)]
      exact ⟨s0, rfl, hS, hv⟩
    · obtain ⟨b1, b2, b3, -⟩ := t6 i (by omega) (by omega)
      have k3 : s0 (a + 3) i = st (a + 3) i := hS _ _ (by omega)
      have k4 : s0 (a + 4) i = st (a + 4) i := hS _ _ (by omega)
      have k5 : s0 (a + 5) i = st (a + 5) i := hS _ _ (by omega)
      rw [if_neg (by omega)]
      simp (disch := omega) only [zrd_ok, zwr_ok, bI_some, k3, k4, k5, e1, wI_id, zrem_nn]
      have next : ∀ x, x = sayF y (st (a + 3)) (st (a + 4)) (st (a + 5)) i → ∃ s', X5_sayByKind_L2 a k (zu s0 (a + 7) i x) ((i : Int) + 1) = some s' ∧ Same st s' (fun b _ => b = a + 7) ∧ ∀ h : Int, 0 ≤ h → h < n → s' (a + 7) h = sayF y (st (a + 3)) (st (a + 4)) (st (a + 5)) h := by
        intro x hx
        refine ih (i + 1) _ (by omega) (by omega) (fun b j hb => (zu_o (by omega)).trans (hS b j hb)) (fun h h1 h2 => ?_)
        by_cases he : h = i
        · rw [he, zu_at, hx]
        · rw [zu_o (by omega)]; exact hv h h1 (by omega)
      by_cases c1 : st (a + 3) i = 5
      · rw [if_pos c1]
        by_cases c2 : y % 9 = st (a + 4) i
        · rw [if_pos c2]; exact next _ (by rw [sayF, if_pos c1, if_pos c2])
        · rw [if_neg c2]; exact next _ (by rw [sayF, if_pos c1, if_neg c2])
      · rw [if_neg c1]; exact next _ (by rw [sayF, if_neg c1])
theorem say_ok {st : PS} {a n : Nat} {y : Int} (T : TW st a n y) : ∃ s', X5_sayByKind a st = some s' ∧ Same st s' (fun b _ => b = a + 7) ∧ ∀ h : Int, 0 ≤ h → h < n → s' (a + 7) h = sayF y (st (a + 3)) (st (a + 4)) (st (a + 5)) h :=
  say_L T FU 0 st (Nat.zero_le _) (by have := T.2.1; unfold FU; omega) Same.rf (fun h h1 h2 => by omega)
theorem plain_L {st : PS} {a n : Nat} {y l : Int} (T : TW st a n y) (hl : -1 ≤ l ∧ l < n) : ∀ (k i : Nat) (s0 : PS), i ≤ n → n - i < k → Same st s0 (fun b _ => b = a + 7) → (∀ h : Int, 0 ≤ h → h < i → s0 (a + 7) h = if h = l then 0 else st (a + 5) h) →
    ∃ s', X5_sayPlain_L2 a l k s0 i = some s' ∧ Same st s' (fun b _ => b = a + 7) ∧ ∀ h : Int, 0 ≤ h → h < n → s' (a + 7) h = if h = l then 0 else st (a + 5) h := by
  obtain ⟨t1, t2, t3, t4, t5, t6⟩ := T
  intro k
  induction k with
  | zero => intro i _ _ h; omega
  | succ k ih =>
    intro i s0 hi hk hS hv
    have e0 : s0 a 0 = n := (hS _ _ (by omega)).trans t1
    rw [X5_sayPlain_L2, e0, wI_id (z := (n : Int)) (by omega) (by omega), wI_id (z := (i : Int)) (by omega) (by omega), wI_id (z := l) (by omega) (by omega)]
    by_cases h : n ≤ i
    · have e : i = n := by omega
      subst e
      rw [if_pos (by omega)]
      exact ⟨s0, rfl, hS, hv⟩
    · have k5 : s0 (a + 5) i = st (a + 5) i := hS _ _ (by omega)
      rw [if_neg (by omega)]
      simp (disch := omega) only [zrd_ok, zwr_ok, bI_some, k5]
      have next : ∀ x, x = (if (i : Int) = l then 0 else st (a + 5) i) → ∃ s', X5_sayPlain_L2 a l k (zu s0 (a + 7) i x) ((i : Int) + 1) = some s' ∧ Same st s' (fun b _ => b = a + 7) ∧ ∀ h : Int, 0 ≤ h → h < n → s' (a + 7) h = if h = l then 0 else st (a + 5) h := by
        intro x hx
        refine ih (i + 1) _ (by omega) (by omega) (fun b j hb => (zu_o (by omega)).trans (hS b j hb)) (fun h h1 h2 => ?_)
        by_cases he : h = i
        · rw [he, zu_at, hx]
        · rw [zu_o (by omega)]; exact hv h h1 (by omega)
      by_cases c1 : (i : Int) = l
      · rw [if_pos c1]; exact next _ (by rw [if_pos c1])
      · rw [if_neg c1]; exact next _ (by rw [if_neg c1])
theorem plain_ok {st : PS} {a n : Nat} {y l : Int} (T : TW st a n y) (hl : -1 ≤ l ∧ l < n) : ∃ s', X5_sayPlain a st l = some s' ∧ Same st s' (fun b _ => b = a + 7) ∧ ∀ h : Int, 0 ≤ h → h < n → s' (a + 7) h = if h = l then 0 else st (a + 5) h :=
  plain_L T hl FU 0 st (Nat.zero_le _) (by have := T.2.1; unfold FU; omega) Same.rf (fun h h1 h2 => by omega)
/-! the street's code, as the class has it -/
def stpC (t : Int) : Int := if t = -33 then 6 else if t = -38 then 7 else if t = -124 then 8 else t / 1000
def CAt (st : PS) (S : Nat) : Int → List Int → Prop
  | _, [] => True
  | p, t :: c => st (S + 5) p = stpC t ∧ (0 ≤ t → st (S + 6) p = 60 + t / 100 % 10 ∧ st (S + 7) p = t % 100) ∧ CAt st S (p + 1) c
def FAt (st : PS) (S : Nat) : Int → Int → Cl → Prop
  | i, p, [] => st S 1 = i ∧ st S 4 = p
  | i, p, (w, m, c) :: L => if w = 0 ∨ w = 1 then st (S + 2) i = (if w = 0 then m else -m) ∧ st (S + 3) i = p + c.length ∧ CAt st S p c ∧ FAt st S (i + 1) (p + c.length) L else FAt st S i p L
/-- street S of the class holds these clauses -/
def SR (st : PS) (S : Nat) (L : Cl) : Prop := st S 0 = ringL L 0 ∧ (0 ≤ st S 1 ∧ st S 1 ≤ 10) ∧ (0 ≤ st S 4 ∧ st S 4 ≤ 100) ∧ FAt st S 0 0 L ∧ okL L
/-- the street that holds in a town: none, or one of six -/
def TS (st : PS) (a : Nat) (L : Cl) : Prop := (st a 2 = -1 ∧ L = []) ∨ ((0 ≤ st a 2 ∧ st a 2 < (6 : Nat)) ∧ SR st (100 + 10 * (st a 2).toNat) L)
theorem ringL_bit : ∀ (L : Cl) (r : Int), r = 0 ∨ r = 1 → ringL L r = 0 ∨ ringL L r = 1
  | [], r, h => h
  | (w, _, _) :: L, r, h => by
    rw [ringL]
    apply ringL_bit
    split
    · exact Or.inr rfl
    · split
      · exact Or.inl rfl
      · exact h
theorem isRing_ok {st : PS} {a : Nat} {L : Cl} (h : TS st a L) : X5_isRing a st = some (ringL L 0) := by
  unfold X5_isRing
  rcases h with ⟨h, rfl⟩ | ⟨h1, h2⟩
  · rw [h, if_pos (by decide)]; rfl
  · rw [if_neg (by omega), zchk_ok h1, h2.1]
    rcases ringL_bit L 0 (Or.inl rfl) with e | e <;> rw [e] <;> rfl
