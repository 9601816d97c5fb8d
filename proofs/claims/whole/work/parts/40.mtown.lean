/-! TOWNS of the model -/
def MW (st : PS) (n : Nat) (y : Int) : Prop := st 0 0 = (n : Int) ∧ n ≤ 7 ∧ st 0 1 = y ∧ 0 ≤ y ∧ y ≤ 2000 ∧ ∀ h : Int, 0 ≤ h → h < n → (0 ≤ st 2 h ∧ st 2 h ≤ 6) ∧ (0 ≤ st 3 h ∧ st 3 h ≤ 9) ∧ (0 ≤ st 4 h ∧ st 4 h ≤ 99) ∧ ∀ p : Int, 0 ≤ p → p < 4 → 0 ≤ st 5 (h * 4 + p) ∧ st 5 (h * 4 + p) ≤ 4
theorem MW.same {st s' : PS} {n : Nat} {y : Int} {P : Nat → Int → Prop} (h : MW st n y) (hS : Same st s' P) (h0 : ¬ P 0 0) (h1 : ¬ P 0 1) (hk : ∀ j, ¬ P 2 j ∧ ¬ P 3 j ∧ ¬ P 4 j ∧ ¬ P 5 j) : MW s' n y := by
  obtain ⟨t1, t2, t3, t4, t5, t6⟩ := h
  refine ⟨by rw [hS _ _ h0]; exact t1, t2, by rw [hS _ _ h1]; exact t3, t4, t5, fun h a1 a2 => ?_⟩
  obtain ⟨b1, b2, b3, b4⟩ := t6 h a1 a2
  refine ⟨by rw [hS _ _ (hk h).1]; exact b1, by rw [hS _ _ (hk h).2.1]; exact b2, by rw [hS _ _ (hk h).2.2.1]; exact b3, fun p p1 p2 => by rw [hS _ _ (hk _).2.2.2]; exact b4 p p1 p2⟩
theorem MW.erng {st : PS} {n : Nat} {y : Int} (T : MW st n y) : ∀ h : Int, 0 ≤ h → h < n → 0 ≤ st 4 h ∧ st 4 h ≤ 99 := fun h h0 h1 => (T.2.2.2.2.2 h h0 h1).2.2.1
def MC (st : PS) : Int → List Int → Prop
  | _, [] => True
  | p, t :: c => st 17 p = t ∧ MC st (p + 1) c
def MF (st : PS) (B : Int) : Int → Cl → Prop
  | _, [] => True
  | i, (w, m, c) :: L => st 13 i = w ∧ (w = 0 ∨ w = 1 → st 14 i = m ∧ 0 ≤ st 15 i ∧ st 16 i = st 15 i + c.length ∧ st 16 i ≤ B ∧ MC st (st 15 i) c) ∧ MF st B (i + 1) L
/-- street k of the model holds these clauses -/
def MR (st : PS) (k : Int) (L : Cl) : Prop := st 12 k = L.length ∧ L.length ≤ 10 ∧ MF st (100 * (k + 1)) (10 * k) L ∧ okL L
def MT (st : PS) (L : Cl) : Prop := (st 0 7 = -1 ∧ L = []) ∨ ((0 ≤ st 0 7 ∧ st 0 7 < 6) ∧ MR st (st 0 7) L)
theorem MC.same {st s' : PS} {P : Nat → Int → Prop} (hS : Same st s' P) (hP : ∀ j, ¬ P 17 j) : ∀ {c : List Int} {p : Int}, MC st p c → MC s' p c
  | [], _, _ => trivial
  | t :: c, p, h => ⟨(hS _ _ (hP _)).trans h.1, MC.same hS hP h.2⟩
theorem MF.same {st s' : PS} {B : Int} {P : Nat → Int → Prop} (hS : Same st s' P) (hP : ∀ j, ¬ P 13 j ∧ ¬ P 14 j ∧ ¬ P 15 j ∧ ¬ P 16 j ∧ ¬ P 17 j) : ∀ {L : Cl} {i : Int}, MF st B i L → MF s' B i L
  | [], _, _ => trivial
  | (w, m, c) :: L, i, h => by
    obtain ⟨h1, h2, h3⟩ := h
    refine ⟨(hS _ _ (hP _).1).trans h1, fun q => ?_, MF.same hS hP h3⟩
    obtain ⟨g1, g2, g3, g4, g5⟩ := h2 q
    have e15 := hS 15 i (hP i).2.2.1
    have e16 := hS 16 i (hP i).2.2.2.1
    refine ⟨(hS _ _ (hP _).2.1).trans g1, by rw [e15]; exact g2, by rw [e15, e16]; exact g3, by rw [e16]; exact g4, by rw [e15]; exact MC.same hS (fun j => (hP j).2.2.2.2) g5⟩
theorem MR.same {st s' : PS} {k : Int} {L : Cl} {P : Nat → Int → Prop} (h : MR st k L) (hS : Same st s' P) (hP : ∀ b j, 12 ≤ b → b ≤ 17 → ¬ P b j) : MR s' k L :=
  ⟨(hS _ _ (hP _ _ (by omega) (by omega))).trans h.1, h.2.1, MF.same hS (fun j => ⟨hP _ _ (by omega) (by omega), hP _ _ (by omega) (by omega), hP _ _ (by omega) (by omega), hP _ _ (by omega) (by omega), hP _ _ (by omega) (by omega)⟩) h.2.2.1, h.2.2.2⟩
theorem MT.same {st s' : PS} {L : Cl} {P : Nat → Int → Prop} (h : MT st L) (hS : Same st s' P) (h7 : ¬ P 0 7) (hP : ∀ b j, 12 ≤ b → b ≤ 17 → ¬ P b j) : MT s' L := by
  have e : s' 0 7 = st 0 7 := hS _ _ h7
  rcases h with ⟨h, hL⟩ | ⟨h1, h2⟩
  · exact Or.inl ⟨e.trans h, hL⟩
  · refine Or.inr ?_
    rw [e]; exact ⟨h1, h2.same hS hP⟩
theorem begin_ok {st : PS} {L : Cl} (h : MT st L) : X7_begin st = if st 0 7 < 0 then 0 else 10 * st 0 7 := by
  unfold X7_begin
  rcases h with ⟨h, -⟩ | ⟨h1, -⟩
  · rw [h]; rfl
  · rw [wI_id (by omega) (by omega), if_pos h1.1, if_neg (by omega)]
theorem behind_ok {st : PS} {L : Cl} (h : MT st L) : X7_behind st = some ((if st 0 7 < 0 then 0 else 10 * st 0 7) + L.length) := by
  unfold X7_behind
  rcases h with ⟨h, rfl⟩ | ⟨h1, h2⟩
  · rw [h]; rfl
  · rw [wI_id (by omega) (by omega), if_pos h1.1, if_neg (by omega), zrd_ok (by omega) (by omega) (by omega), bI_some, h2.1]
theorem MT.mf {st : PS} {L : Cl} (h : MT st L) : MF st (if st 0 7 < 0 then 100 else 100 * (st 0 7 + 1)) (if st 0 7 < 0 then 0 else 10 * st 0 7) L ∧ okL L ∧ L.length ≤ 10 ∧ 0 ≤ (if st 0 7 < 0 then 0 else 10 * st 0 7) ∧ (if st 0 7 < 0 then 0 else 10 * st 0 7) ≤ 50 ∧ (if st 0 7 < 0 then 100 else 100 * (st 0 7 + 1)) ≤ 600 := by
  rcases h with ⟨h, rfl⟩ | ⟨h1, h2⟩
  · rw [h]; exact ⟨trivial, fun x hx => absurd hx (List.not_mem_nil), by decide, by decide, by decide, by decide⟩
  · rw [if_neg (by omega), if_neg (by omega)]; exact ⟨h2.2.2.1, h2.2.2.2, h2.2.1, by omega, by omega, by omega⟩
theorem mring_L {st : PS} {L0 : Cl} {B e : Int} (hb : X7_behind st = some e) (he : e ≤ 60) : ∀ (L : Cl) (k : Nat) (i r : Int), L.length < k → 0 ≤ i → i + L.length = e → MF st B i L → okL L → (r = 0 ∨ r = 1) → X7_isRing_L7 st k r i = some (ringL L r) := by
  intro L
  induction L with
  | nil =>
    intro k i r hk h0 hi _ _ hr
    obtain ⟨k, rfl⟩ : ∃ k', k = k' + 1 := ⟨k - 1, by simp at hk; omega⟩
    simp at hi
    rw [X7_isRing_L7, hb, bI_some, hi, if_pos (Int.le_refl _), zbit_ok hr]; rfl
  | cons x L ih =>
    obtain ⟨w, m, c⟩ := x
    intro k i r hk h0 hi hF hO hr
    simp only [List.length_cons] at hk hi
    obtain ⟨k, rfl⟩ : ∃ k', k = k' + 1 := ⟨k - 1, by omega⟩
    obtain ⟨g1, g2, g3⟩ := hF
    have hox := (hO (w, m, c) (List.mem_cons_self)).1
    have hw : w = 0 ∨ w = 1 ∨ w = 2 ∨ w = 3 := hox
    have hoL : okL L := fun x hx => hO x (List.mem_cons_of_mem _ hx)
    have nx := fun r' hr' => ih k (i + 1) r' (by omega) (by omega) (by omega) g3 hoL hr'
    rw [X7_isRing_L7, hb, bI_some, wI_id (by omega) (by omega), wI_id (by omega) (by omega), if_neg (by omega), zrd_ok (by omega) (by omega) (by omega), bI_some, bI_some, g1, ringL]
    rcases hw with rfl | rfl | rfl | rfl
    · exact nx r hr
    · exact nx r hr
    · exact nx 1 (Or.inr rfl)
    · exact nx 0 (Or.inl rfl)
theorem mring_ok {st : PS} {L : Cl} (h : MT st L) : X7_isRing st = some (ringL L 0) := by
  obtain ⟨h1, h2, h3, h4, h5, h6⟩ := h.mf
  unfold X7_isRing
  rw [begin_ok h]
  exact mring_L (L0 := L) (behind_ok h) (by omega) L FU _ 0 (by unfold FU; omega) h4 rfl h1 h2 (Or.inl rfl)
theorem many_L {st : PS} {n : Nat} {y : Int} (T : MW st n y) {h : Int} (h0 : 0 ≤ h) (h1 : h < n) : ∀ (k i : Nat), i ≤ n → n - i < k → X7_manyMore_L4 h st k (richF (st 4) (st 4 h) i) i = some (richF (st 4) (st 4 h) n) := by
  obtain ⟨t1, t2, t3, t4, t5, t6⟩ := id T
  intro k
  induction k with
  | zero => intro i _ hk; omega
  | succ k ih =>
    intro i hi hk
    rw [X7_manyMore_L4, t1, wI_id (z := (n : Int)) (by omega) (by omega), wI_id (z := (i : Int)) (by omega) (by omega)]
    by_cases c : n ≤ i
    · have e : i = n := by omega
      subst e
      rw [if_pos (by omega)]
    · have b5 := T.erng i (by omega) (by omega)
      have b6 := T.erng h h0 h1
      rw [if_neg (by omega)]
      simp (disch := omega) only [zrd_ok, bI_some, wI_id]
      have q := ih (i + 1) (by omega) (by omega)
      rw [richF] at q
      by_cases c2 : st 4 i ≤ st 4 h
      · rw [if_pos c2]
        rw [if_neg (by omega)] at q
        exact q
      · rw [if_neg c2]
        rw [if_pos (by omega)] at q
        exact q
theorem fact_ok {st : PS} {n : Nat} {y : Int} (T : MW st n y) {h f : Int} (h0 : 0 ≤ h) (h1 : h < n) (f0 : 0 ≤ f) (f1 : f < 6) : X7_factOf st f h = some (fctF n y (st 2) (st 3) (st 4) h f) := by
  obtain ⟨t1, t2, t3, t4, t5, t6⟩ := id T
  have b := T.erng h h0 h1
  unfold X7_factOf fctF
  rw [wI_id (by omega) (by omega), show X7_manyMore st h = some (richF (st 4) (st 4 h) n) from many_L T h0 h1 FU 0 (Nat.zero_le _) (by unfold FU; omega), t3]
  simp (disch := omega) only [zrd_ok, bI_some, zdiv_nn, zrem_nn]
  split
  · rfl
  · split
    · rfl
    · split
      · rfl
      · split
        · rfl
        · split
          · rfl
          · rfl
theorem fact_rng {st : PS} {n : Nat} {y : Int} (T : MW st n y) {h : Int} (h0 : 0 ≤ h) (h1 : h < n) (f : Int) : 0 ≤ fctF n y (st 2) (st 3) (st 4) h f ∧ fctF n y (st 2) (st 3) (st 4) h f ≤ 100 := by
  obtain ⟨t1, t2, t3, t4, t5, t6⟩ := id T
  obtain ⟨b1, b2, b3, b4⟩ := t6 h h0 h1
  have g := richF_rng (f := st 4) (x := st 4 h) (n := n)
  unfold fctF
  split
  · omega
  · split
    · omega
    · split
      · omega
      · split
        · omega
        · split <;> omega
