/-! CALLS: image, undo -/
theorem notes_ok {st : PS} {a r : Nat} (hd : a + 5 ≤ r ∨ r + 5 ≤ a) : ∃ s', X1_takeFrom a r st = some s' ∧ Same st s' (fun b _ => a ≤ b ∧ b ≤ a + 4) ∧ (s' a 0 = st r 0 ∧ s' a 3 = st r 3) ∧ (∀ j : Int, 0 ≤ j → j < 8 → s' (a + 1) j = st (r + 1) j ∧ s' (a + 2) j = st (r + 2) j) ∧ ∀ j : Int, 0 ≤ j → j < 12 → s' (a + 4) j = st (r + 4) j := by
  unfold X1_takeFrom zlet
  simp (disch := omega) only [zcp_ok, bI_some]
  refine ⟨_, rfl, fun b j h => ?_, ⟨?_, ?_⟩, fun j j1 j2 => ⟨?_, ?_⟩, fun j j1 j2 => ?_⟩
  · simp (disch := omega) only [zcpf_o, zu_o]
  all_goals simp (disch := omega) only [zcpf_o, zcpf_at, zu_o, zu_at, Int.zero_add, Int.sub_zero]
theorem RW.mrow {sc sm sm' : PS} {a n r r' : Nat} {y p q p' q' : Int} (h : RW sc sm a n y p q r) (h1 : sm' 0 p' = sm 0 p) (h2 : sm' 0 q' = sm 0 q) (h3 : ∀ j : Int, 0 ≤ j → j < 7 → sm' r' j = sm r j ∧ sm' (r' + 1) j = sm (r + 1) j ∧ sm' (r' + 2) j = sm (r + 2) j) (h4 : ∀ j : Int, 0 ≤ j → j < 28 → sm' (r' + 3) j = sm (r + 3) j) : RW sc sm' a n y p' q' r' := by
  obtain ⟨T, a1, a2, a3⟩ := h
  have n7 := T.2.1
  refine ⟨T, h1.trans a1, h2.trans a2, fun h q1 q2 => ?_⟩
  obtain ⟨b1, b2, b3⟩ := h3 h q1 (by omega)
  obtain ⟨c1, c2, c3, c4⟩ := a3 h q1 q2
  exact ⟨b1.trans c1, b2.trans c2, b3.trans c3, fun p p1 p2 => (h4 _ (by omega) (by omega)).trans (c4 p p1 p2)⟩
theorem RN.mrow {sc sm sm' : PS} {a n r1 r2 r3 t1 t2 t3 : Nat} {p q p' q' : Int} (h : RN sc sm a n p q r1 r2 r3) (h1 : sm' 0 p' = sm 0 p) (h2 : sm' 0 q' = sm 0 q) (h3 : ∀ j : Int, 0 ≤ j → j < 8 → sm' t1 j = sm r1 j ∧ sm' t2 j = sm r2 j) (h4 : ∀ j : Int, 0 ≤ j → j < 12 → sm' t3 j = sm r3 j) : RN sc sm' a n p' q' t1 t2 t3 := by
  obtain ⟨u, v, g1, g2, g3, g4, g5, g6, g7, g8⟩ := h
  refine ⟨u, v, g1, g2, g3, h1.trans g4, g5, h2.trans g6, fun i i1 i2 => ?_, fun i i1 i2 => (h4 i i1 (by omega)).trans (g8 i i1 i2)⟩
  obtain ⟨b1, b2⟩ := h3 i i1 (by omega)
  obtain ⟨c1, c2, c3⟩ := g7 i i1 i2
  exact ⟨b1.trans c1, b2.trans c2, c3⟩
theorem RN.crow {sc sc' sm : PS} {a a' n r1 r2 r3 : Nat} {p q : Int} (h : RN sc sm a n p q r1 r2 r3) (h1 : sc' a' 0 = sc a 0 ∧ sc' a' 3 = sc a 3) (h3 : ∀ j : Int, 0 ≤ j → j < 8 → sc' (a' + 1) j = sc (a + 1) j ∧ sc' (a' + 2) j = sc (a + 2) j) (h4 : ∀ j : Int, 0 ≤ j → j < 12 → sc' (a' + 4) j = sc (a + 4) j) : RN sc' sm a' n p q r1 r2 r3 := by
  obtain ⟨u, v, g1, g2, g3, g4, g5, g6, g7, g8⟩ := h
  refine ⟨u, v, g1, g2, h1.1.trans g3, g4, h1.2.trans g5, g6, fun i i1 i2 => ?_, fun i i1 i2 => (g8 i i1 i2).trans (h4 i i1 (by omega)).symm⟩
  obtain ⟨b1, b2⟩ := h3 i i1 (by omega)
  obtain ⟨c1, c2, c3⟩ := g7 i i1 i2
  exact ⟨c1.trans b1.symm, c2.trans b2.symm, by rw [b1]; exact c3⟩
theorem img147 {st : PS} : ∀ (k i : Nat) (s0 : PS), i ≤ 12 → 12 - i < k → Same st s0 (fun b _ => b = 54) → (∀ h : Int, 0 ≤ h → h < i → s0 54 h = st 41 h) → ∃ s', X7_image_L147 k s0 i = some (s' 0 0, s') ∧ Same st s' (fun b _ => b = 54) ∧ ∀ h : Int, 0 ≤ h → h < 12 → s' 54 h = st 41 h := by
  intro k
  induction k with
  | zero => intro i _ _ h; omega
  | succ k ih =>
    intro i s0 hi hk hS hv
    rw [X7_image_L147, wI_id (z := 12) (by omega) (by omega), wI_id (z := (i : Int)) (by omega) (by omega)]
    by_cases h : 12 ≤ i
    · rw [if_pos (by omega)]
      exact ⟨s0, rfl, hS, fun h h1 h2 => hv h h1 (by omega)⟩
    · rw [if_neg (by omega), zrd_ok (by omega) (by omega) (by omega), bI_some, zwr_ok (by omega) (by omega) (by omega), bI_some]
      refine ih (i + 1) _ (by omega) (by omega) (fun b j hb => (zu_o (by omega)).trans (hS b j hb)) (fun h h1 h2 => ?_)
      by_cases he : h = i
      · rw [he, zu_at]; exact hS _ _ (by omega)
      · rw [zu_o (by omega)]; exact hv h h1 (by omega)
theorem img121 {st : PS} : ∀ (k i : Nat) (s0 : PS), i ≤ 32 → 32 - i < k → Same st s0 (fun b _ => b = 51) → (∀ h : Int, 0 ≤ h → h < i → s0 51 h = st 5 h) → ∃ s', X7_image_L121 k s0 i = X7_image_L147 FU s' 0 ∧ Same st s' (fun b _ => b = 51) ∧ ∀ h : Int, 0 ≤ h → h < 32 → s' 51 h = st 5 h := by
  intro k
  induction k with
  | zero => intro i _ _ h; omega
  | succ k ih =>
    intro i s0 hi hk hS hv
    rw [X7_image_L121, wI_id (z := 32) (by omega) (by omega), wI_id (z := (i : Int)) (by omega) (by omega)]
    by_cases h : 32 ≤ i
    · rw [if_pos (by omega)]
      exact ⟨s0, rfl, hS, fun h h1 h2 => hv h h1 (by omega)⟩
    · rw [if_neg (by omega), zrd_ok (by omega) (by omega) (by omega), bI_some, zwr_ok (by omega) (by omega) (by omega), bI_some]
      refine ih (i + 1) _ (by omega) (by omega) (fun b j hb => (zu_o (by omega)).trans (hS b j hb)) (fun h h1 h2 => ?_)
      by_cases he : h = i
      · rw [he, zu_at]; exact hS _ _ (by omega)
      · rw [zu_o (by omega)]; exact hv h h1 (by omega)
theorem img47 {st : PS} : ∀ (k i : Nat) (s0 : PS), i ≤ 8 → 8 - i < k → Same st s0 (fun b _ => b = 48 ∨ b = 49 ∨ b = 50 ∨ b = 52 ∨ b = 53) → (∀ h : Int, 0 ≤ h → h < i → s0 48 h = st 2 h ∧ s0 49 h = st 3 h ∧ s0 50 h = st 4 h ∧ s0 52 h = st 38 h ∧ s0 53 h = st 39 h) → ∃ s', X7_image_L47 k s0 i = X7_image_L121 FU s' 0 ∧ Same st s' (fun b _ => b = 48 ∨ b = 49 ∨ b = 50 ∨ b = 52 ∨ b = 53) ∧ ∀ h : Int, 0 ≤ h → h < 8 → s' 48 h = st 2 h ∧ s' 49 h = st 3 h ∧ s' 50 h = st 4 h ∧ s' 52 h = st 38 h ∧ s' 53 h = st 39 h := by
  intro k
  induction k with
  | zero => intro i _ _ h; omega
  | succ k ih =>
    intro i s0 hi hk hS hv
    rw [X7_image_L47, wI_id (z := 8) (by omega) (by omega), wI_id (z := (i : Int)) (by omega) (by omega)]
    by_cases h : 8 ≤ i
    · rw [if_pos (by omega)]
      exact ⟨s0, rfl, hS, fun h h1 h2 => hv h h1 (by omega)⟩
    · rw [if_neg (by omega)]
      simp (disch := omega) only [zrd_ok, zwr_ok, bI_some]
      refine ih (i + 1) _ (by omega) (by omega) (fun b j hb => ?_) (fun h h1 h2 => ?_)
      · simp (disch := omega) only [zu_o]
        exact hS b j hb
      by_cases he : h = i
      · subst he
        simp (disch := omega) only [zu_o, zu_at]
        exact ⟨hS _ _ (by omega), hS _ _ (by omega), hS _ _ (by omega), hS _ _ (by omega), hS _ _ (by omega)⟩
      · simp (disch := omega) only [zu_o]
        exact hv h h1 (by omega)
theorem mimage_ok (sm : PS) : ∃ s', X7_image sm = some (sm 0 0, s') ∧ Same sm s' (fun b j => (b = 0 ∧ 42 ≤ j ∧ j ≤ 47) ∨ (48 ≤ b ∧ b ≤ 54)) ∧ (s' 0 42 = 1 ∧ s' 0 43 = sm 0 7 ∧ s' 0 44 = sm 0 0 ∧ s' 0 45 = sm 0 1 ∧ s' 0 46 = sm 0 37 ∧ s' 0 47 = sm 0 40) ∧ (∀ h : Int, 0 ≤ h → h < 8 → s' 48 h = sm 2 h ∧ s' 49 h = sm 3 h ∧ s' 50 h = sm 4 h ∧ s' 52 h = sm 38 h ∧ s' 53 h = sm 39 h) ∧ (∀ h : Int, 0 ≤ h → h < 32 → s' 51 h = sm 5 h) ∧ ∀ h : Int, 0 ≤ h → h < 12 → s' 54 h = sm 41 h := by
  obtain ⟨s1, h1⟩ : ∃ s1, s1 = zu (zu (zu (zu (zu (zu sm 0 42 1) 0 43 (sm 0 7)) 0 44 (sm 0 0)) 0 45 (sm 0 1)) 0 46 (sm 0 37)) 0 47 (sm 0 40) := ⟨_, rfl⟩
  have e : X7_image sm = X7_image_L47 FU s1 0 := by
    unfold X7_image
    rw [zlet_eq, zlet_eq, zlet_eq, zlet_eq, zlet_eq, zlet_eq, h1]
    simp (disch := omega) only [zu_o]
  have S1 : Same sm s1 (fun b j => b = 0 ∧ 42 ≤ j ∧ j ≤ 47) := fun b j hb => by rw [h1]; simp (disch := omega) only [zu_o]
  have v : s1 0 42 = 1 ∧ s1 0 43 = sm 0 7 ∧ s1 0 44 = sm 0 0 ∧ s1 0 45 = sm 0 1 ∧ s1 0 46 = sm 0 37 ∧ s1 0 47 = sm 0 40 := by
    rw [h1]
    refine ⟨?_, ?_, ?_, ?_, ?_, ?_⟩ <;> simp (disch := omega) only [zu_o, zu_at]
  clear h1
  obtain ⟨s2, a1, a2, a3⟩ := img47 (st := s1) FU 0 s1 (by omega) (by unfold FU; omega) Same.rf (fun h h1 h2 => by omega)
  obtain ⟨s3, b1, b2, b3⟩ := img121 (st := s2) FU 0 s2 (by omega) (by unfold FU; omega) Same.rf (fun h h1 h2 => by omega)
  obtain ⟨s4, c1, c2, c3⟩ := img147 (st := s3) FU 0 s3 (by omega) (by unfold FU; omega) Same.rf (fun h h1 h2 => by omega)
  have S13 : ∀ (b : Nat) (j : Int), (b < 48 ∨ 54 < b) → s4 b j = s1 b j := fun b j hb => by rw [c2 _ _ (by omega), b2 _ _ (by omega), a2 _ _ (by omega)]
  refine ⟨s4, ?_, fun b j hb => (S13 b j (by omega)).trans (S1 b j (by omega)), ?_, fun h q1 q2 => ?_, fun h q1 q2 => ?_, fun h q1 q2 => ?_⟩
  · have e4 : s4 0 0 = sm 0 0 := (S13 0 0 (by omega)).trans (S1 _ _ (by omega))
    rw [e, ← e4]
    exact a1.trans (b1.trans c1)
  · obtain ⟨v1, v2, v3, v4, v5, v6⟩ := v
    exact ⟨(S13 _ _ (by omega)).trans v1, (S13 _ _ (by omega)).trans v2, (S13 _ _ (by omega)).trans v3, (S13 _ _ (by omega)).trans v4, (S13 _ _ (by omega)).trans v5, (S13 _ _ (by omega)).trans v6⟩
  · obtain ⟨d1, d2, d3, d4, d5⟩ := a3 h q1 q2
    refine ⟨?_, ?_, ?_, ?_, ?_⟩
    · rw [c2 _ _ (by omega), b2 _ _ (by omega), d1]; exact S1 _ _ (by omega)
    · rw [c2 _ _ (by omega), b2 _ _ (by omega), d2]; exact S1 _ _ (by omega)
    · rw [c2 _ _ (by omega), b2 _ _ (by omega), d3]; exact S1 _ _ (by omega)
    · rw [c2 _ _ (by omega), b2 _ _ (by omega), d4]; exact S1 _ _ (by omega)
    · rw [c2 _ _ (by omega), b2 _ _ (by omega), d5]; exact S1 _ _ (by omega)
  · rw [c2 _ _ (by omega), b3 h q1 q2, a2 _ _ (by omega)]; exact S1 _ _ (by omega)
  · rw [c3 h q1 q2, b2 _ _ (by omega), a2 _ _ (by omega)]; exact S1 _ _ (by omega)
theorem sim_image : Sim_image Rel := by
  intro sc sm R
  obtain ⟨⟨n, y, h1, h2, h3⟩, h4, h5, h6, h7, h8, h9, h10⟩ := id R
  obtain ⟨c1, a1, a2, a3, a4⟩ := take_rw (a := 60) (by omega) h1
  obtain ⟨c2, b1, b2, b3, b4, b5⟩ := notes_ok (st := c1) (a := 90) (r := 80) (by omega)
  obtain ⟨m, d1, d2, d3, d4, d5, d6⟩ := mimage_ok sm
  have S3 : Same sc (zu c2 0 5 1) (fun b j => (b = 60 ∧ 0 ≤ j ∧ j ≤ 2) ∨ (63 ≤ b ∧ b ≤ 66) ∨ (90 ≤ b ∧ b ≤ 94) ∨ (b = 0 ∧ j = 5)) := fun b j hb => by rw [zu_o (by omega), b2 _ _ (by omega), a4 _ _ (by unfold tkP; omega)]
  have S2 : Same c1 (zu c2 0 5 1) (fun b j => (90 ≤ b ∧ b ≤ 94) ∨ (b = 0 ∧ j = 5)) := fun b j hb => by rw [zu_o (by omega), b2 _ _ (by omega)]
  have e2 : zu c2 0 5 1 60 2 = sc 20 2 := by rw [zu_o (by omega), b2 _ _ (by omega)]; exact a3
  refine ⟨zu c2 0 5 1 20 0, zu c2 0 5 1, sm 0 0, m, ?_, d1, ?_, ⟨n, y, h1.same S3 d2 (fun b j q => by omega) (fun b j q => by omega), h2, h3.same S3 d2 (fun b j q => by omega) (fun b j q => by omega)⟩, h4.same S3 d2 (fun b j q => by omega) (fun b j q => by omega), (d2 _ _ (by omega)).trans h5, fun i i1 i2 => (d2 _ _ (by omega)).trans (h6 i i1 i2), h7.same S3 d2 (fun b j q => by omega) (fun b j q => by omega), Or.inr ?_, h9.same S3 d2 (fun b j q => by omega) (fun b j q => by omega), h10.same S3 d2 (fun b j q => by omega) (fun b j q => by omega)⟩
  · unfold X6_image
    rw [a1, bI_some, b1, bI_some, zlet_eq]
  · rw [S3 _ _ (by omega), h1.1.1, h1.2.1]
  · obtain ⟨c, g1, g2, g3, g4, g5, -⟩ := h4
    refine ⟨⟨zu_at, d3.1⟩, by rw [e2, S3 0 8 (by omega), g2]; exact g4, by rw [e2, d3.2.1]; exact g5, n, y, ?_, h2, ?_⟩
    · refine (a2.mrow (sm' := m) (p' := 44) (q' := 45) (r' := 48) d3.2.2.1 d3.2.2.2.1 (fun j j1 j2 => ?_) (fun j j1 j2 => d5 j j1 (by omega))).same S2 Same.rf (fun b j q => by omega) (fun b j _ q => q)
      obtain ⟨q1, q2, q3, q4, q5⟩ := d4 j j1 (by omega)
      exact ⟨q1, q2, q3⟩
    · refine ((h3.mrow (sm' := m) (p' := 46) (q' := 47) (t1 := 52) (t2 := 53) (t3 := 54) d3.2.2.2.2.1 d3.2.2.2.2.2 (fun j j1 j2 => ?_) d6).crow (sc' := c2) (a' := 90) ⟨?_, ?_⟩ (fun j j1 j2 => ?_) (fun j j1 j2 => ?_)).same (P := fun b j => b = 0 ∧ j = 5) (fun b j hb => zu_o (by omega)) Same.rf (fun b j q => by omega) (fun b j _ q => q)
      · obtain ⟨q1, q2, q3, q4, q5⟩ := d4 j j1 (by omega)
        exact ⟨q4, q5⟩
      · rw [b3.1]; exact a4 _ _ (by unfold tkP; omega)
      · rw [b3.2]; exact a4 _ _ (by unfold tkP; omega)
      · rw [(b4 j j1 j2).1, (b4 j j1 j2).2]; exact ⟨a4 _ _ (by unfold tkP; omega), a4 _ _ (by unfold tkP; omega)⟩
      · rw [b5 j j1 j2]; exact a4 _ _ (by unfold tkP; omega)
