/-! CALLS: undo -/
theorem und152 {st : PS} : ∀ (k i : Nat) (s0 : PS), i ≤ 12 → 12 - i < k → Same st s0 (fun b _ => b = 41) → (∀ h : Int, 0 ≤ h → h < i → s0 41 h = st 54 h) → ∃ s', X7_undo_L152 k s0 i = some (s' 0 0, s') ∧ Same st s' (fun b _ => b = 41) ∧ ∀ h : Int, 0 ≤ h → h < 12 → s' 41 h = st 54 h := by
  intro k
  induction k with
  | zero => intro i _ _ h; omega
  | succ k ih =>
    intro i s0 hi hk hS hv
    rw [X7_undo_L152, wI_id (z := 12) (by omega) (by omega), wI_id (z := (i : Int)) (by omega) (by omega)]
    by_cases h : 12 ≤ i
    · rw [if_pos (by omega)]
      exact ⟨s0, rfl, hS, fun h h1 h2 => hv h h1 (by omega)⟩
    · rw [if_neg (by omega), zrd_ok (by omega) (by omega) (by omega), bI_some, zwr_ok (by omega) (by omega) (by omega), bI_some]
      refine ih (i + 1) _ (by omega) (by omega) (fun b j hb => (zu_o (by omega)).trans (hS b j hb)) (fun h h1 h2 => ?_)
      by_cases he : h = i
      · rw [he, zu_at]; exact hS _ _ (by omega)
      · rw [zu_o (by omega)]; exact hv h h1 (by omega)
theorem und126 {st : PS} : ∀ (k i : Nat) (s0 : PS), i ≤ 32 → 32 - i < k → Same st s0 (fun b _ => b = 5) → (∀ h : Int, 0 ≤ h → h < i → s0 5 h = st 51 h) → ∃ s', X7_undo_L126 k s0 i = X7_undo_L152 FU s' 0 ∧ Same st s' (fun b _ => b = 5) ∧ ∀ h : Int, 0 ≤ h → h < 32 → s' 5 h = st 51 h := by
  intro k
  induction k with
  | zero => intro i _ _ h; omega
  | succ k ih =>
    intro i s0 hi hk hS hv
    rw [X7_undo_L126, wI_id (z := 32) (by omega) (by omega), wI_id (z := (i : Int)) (by omega) (by omega)]
    by_cases h : 32 ≤ i
    · rw [if_pos (by omega)]
      exact ⟨s0, rfl, hS, fun h h1 h2 => hv h h1 (by omega)⟩
    · rw [if_neg (by omega), zrd_ok (by omega) (by omega) (by omega), bI_some, zwr_ok (by omega) (by omega) (by omega), bI_some]
      refine ih (i + 1) _ (by omega) (by omega) (fun b j hb => (zu_o (by omega)).trans (hS b j hb)) (fun h h1 h2 => ?_)
      by_cases he : h = i
      · rw [he, zu_at]; exact hS _ _ (by omega)
      · rw [zu_o (by omega)]; exact hv h h1 (by omega)
theorem und52 {st : PS} : ∀ (k i : Nat) (s0 : PS), i ≤ 8 → 8 - i < k → Same st s0 (fun b _ => b = 2 ∨ b = 3 ∨ b = 4 ∨ b = 38 ∨ b = 39) → (∀ h : Int, 0 ≤ h → h < i → s0 2 h = st 48 h ∧ s0 3 h = st 49 h ∧ s0 4 h = st 50 h ∧ s0 38 h = st 52 h ∧ s0 39 h = st 53 h) → ∃ s', X7_undo_L52 k s0 i = X7_undo_L126 FU s' 0 ∧ Same st s' (fun b _ => b = 2 ∨ b = 3 ∨ b = 4 ∨ b = 38 ∨ b = 39) ∧ ∀ h : Int, 0 ≤ h → h < 8 → s' 2 h = st 48 h ∧ s' 3 h = st 49 h ∧ s' 4 h = st 50 h ∧ s' 38 h = st 52 h ∧ s' 39 h = st 53 h := by
  intro k
  induction k with
  | zero => intro i _ _ h; omega
  | succ k ih =>
    intro i s0 hi hk hS hv
    rw [X7_undo_L52, wI_id (z := 8) (by omega) (by omega), wI_id (z := (i : Int)) (by omega) (by omega)]
    by_cases h : 8 ≤ i
    · rw [if_pos (by omega)]
      exact ⟨s0, rfl, hS, fun h h1 h2 => hv h h1 (by omega)⟩
    · rw [if_neg (by omega)]
      simp (disch := omega) only [zrd_ok, zwr_ok, bI_some]
      refine ih (i + 1) _ (by omega) (by omega) (fun b j hb => ?_) (fun h h1 h2 => ?_)
      · simp (disch := omega) only [zu_o]
        exact hS b j hb
      by_cases he : h = i
      · subst he
        simp (disch := omega) only [zu_o, zu_at]
        exact ⟨hS _ _ (by omega), hS _ _ (by omega), hS _ _ (by omega), hS _ _ (by omega), hS _ _ (by omega)⟩
      · simp (disch := omega) only [zu_o]
        exact hv h h1 (by omega)
theorem mundo_ok {sm : PS} (hT : sm 0 42 = 1) : ∃ s', X7_undo sm = some (sm 0 44, s') ∧ Same sm s' (fun b j => (b = 0 ∧ (j = 7 ∨ j = 0 ∨ j = 1 ∨ j = 37 ∨ j = 40)) ∨ (2 ≤ b ∧ b ≤ 5) ∨ b = 38 ∨ b = 39 ∨ b = 41) ∧ (s' 0 7 = sm 0 43 ∧ s' 0 0 = sm 0 44 ∧ s' 0 1 = sm 0 45 ∧ s' 0 37 = sm 0 46 ∧ s' 0 40 = sm 0 47) ∧ (∀ h : Int, 0 ≤ h → h < 8 → s' 2 h = sm 48 h ∧ s' 3 h = sm 49 h ∧ s' 4 h = sm 50 h ∧ s' 38 h = sm 52 h ∧ s' 39 h = sm 53 h) ∧ (∀ h : Int, 0 ≤ h → h < 32 → s' 5 h = sm 51 h) ∧ ∀ h : Int, 0 ≤ h → h < 12 → s' 41 h = sm 54 h := by
  obtain ⟨s1, h1⟩ : ∃ s1, s1 = zu (zu (zu (zu (zu sm 0 7 (sm 0 43)) 0 0 (sm 0 44)) 0 1 (sm 0 45)) 0 37 (sm 0 46)) 0 40 (sm 0 47) := ⟨_, rfl⟩
  have e : X7_undo sm = X7_undo_L52 FU s1 0 := by
    unfold X7_undo
    rw [hT, if_neg (by decide), zlet_eq, zlet_eq, zlet_eq, zlet_eq, zlet_eq, h1]
    simp (disch := omega) only [zu_o]
  have S1 : Same sm s1 (fun b j => b = 0 ∧ (j = 7 ∨ j = 0 ∨ j = 1 ∨ j = 37 ∨ j = 40)) := fun b j hb => by rw [h1]; simp (disch := omega) only [zu_o]
  have v : s1 0 7 = sm 0 43 ∧ s1 0 0 = sm 0 44 ∧ s1 0 1 = sm 0 45 ∧ s1 0 37 = sm 0 46 ∧ s1 0 40 = sm 0 47 := by
    rw [h1]
    refine ⟨?_, ?_, ?_, ?_, ?_⟩ <;> simp (disch := omega) only [zu_o, zu_at]
  clear h1
  obtain ⟨s2, a1, a2, a3⟩ := und52 (st := s1) FU 0 s1 (by omega) (by unfold FU; omega) Same.rf (fun h h1 h2 => by omega)
  obtain ⟨s3, b1, b2, b3⟩ := und126 (st := s2) FU 0 s2 (by omega) (by unfold FU; omega) Same.rf (fun h h1 h2 => by omega)
  obtain ⟨s4, c1, c2, c3⟩ := und152 (st := s3) FU 0 s3 (by omega) (by unfold FU; omega) Same.rf (fun h h1 h2 => by omega)
  have S13 : ∀ (b : Nat) (j : Int), ¬ ((2 ≤ b ∧ b ≤ 5) ∨ b = 38 ∨ b = 39 ∨ b = 41) → s4 b j = s1 b j := fun b j hb => by rw [c2 _ _ (by omega), b2 _ _ (by omega), a2 _ _ (by omega)]
  obtain ⟨v1, v2, v3, v4, v5⟩ := v
  refine ⟨s4, ?_, fun b j hb => (S13 b j (by omega)).trans (S1 b j (by omega)), ?_, fun h q1 q2 => ?_, fun h q1 q2 => ?_, fun h q1 q2 => ?_⟩
  · have e4 : s4 0 0 = sm 0 44 := (S13 0 0 (by omega)).trans v2
    rw [e, ← e4]
    exact a1.trans (b1.trans c1)
  · exact ⟨(S13 _ _ (by omega)).trans v1, (S13 _ _ (by omega)).trans v2, (S13 _ _ (by omega)).trans v3, (S13 _ _ (by omega)).trans v4, (S13 _ _ (by omega)).trans v5⟩
  · obtain ⟨d1, d2, d3, d4, d5⟩ := a3 h q1 q2
    refine ⟨?_, ?_, ?_, ?_, ?_⟩
    · rw [c2 _ _ (by omega), b2 _ _ (by omega), d1]; exact S1 _ _ (by omega)
    · rw [c2 _ _ (by omega), b2 _ _ (by omega), d2]; exact S1 _ _ (by omega)
    · rw [c2 _ _ (by omega), b2 _ _ (by omega), d3]; exact S1 _ _ (by omega)
    · rw [c2 _ _ (by omega), b2 _ _ (by omega), d4]; exact S1 _ _ (by omega)
    · rw [c2 _ _ (by omega), b2 _ _ (by omega), d5]; exact S1 _ _ (by omega)
  · rw [c2 _ _ (by omega), b3 h q1 q2, a2 _ _ (by omega)]; exact S1 _ _ (by omega)
  · rw [c3 h q1 q2, b2 _ _ (by omega), a2 _ _ (by omega)]; exact S1 _ _ (by omega)
theorem sim_undo : Sim_undo Rel := by
  intro sc sm R
  obtain ⟨⟨n0, y0, h1, h2, h3⟩, h4, h5, h6, h7, h8, h9, h10⟩ := id R
  rcases id h8 with ⟨g1, g2⟩ | ⟨⟨g1, g2⟩, g3, g4, n, y, g5, g6, g7⟩
  · unfold X6_undo X7_undo
    rw [g1, g2, if_pos (by decide), if_pos (by decide)]
    exact ⟨_, _, _, _, rfl, rfl, rfl, R⟩
  · obtain ⟨c1, a1, a2, a3, a4⟩ := take_rw (a := 20) (by omega) g5
    obtain ⟨c2, b1, b2, b3, b4, b5⟩ := notes_ok (st := c1) (a := 80) (r := 90) (by omega)
    obtain ⟨m, d1, d2, d3, d4, d5, d6⟩ := mundo_ok g2
    have S3 : Same sc c2 (fun b j => (b = 20 ∧ 0 ≤ j ∧ j ≤ 2) ∨ (23 ≤ b ∧ b ≤ 26) ∨ (80 ≤ b ∧ b ≤ 84)) := fun b j hb => by rw [b2 _ _ (by omega), a4 _ _ (by unfold tkP; omega)]
    have e2 : c2 20 2 = sc 60 2 := by rw [b2 _ _ (by omega)]; exact a3
    have e0 : c2 20 0 = n := by rw [b2 _ _ (by omega)]; exact a2.1.1
    refine ⟨c2 20 0, c2, sm 0 44, m, ?_, d1, by rw [e0, g5.2.1], ⟨n, y, ?_, g6, ?_⟩, ?_, (d2 _ _ (by omega)).trans h5, fun i i1 i2 => (d2 _ _ (by omega)).trans (h6 i i1 i2), h7.same S3 d2 (fun b j q => by omega) (fun b j q => by omega), h8.same S3 d2 (fun b j q => by omega) (fun b j q => by omega), h9.same S3 d2 (fun b j q => by omega) (fun b j q => by omega), h10.same S3 d2 (fun b j q => by omega) (fun b j q => by omega)⟩
    · unfold X6_undo
      rw [g1, if_neg (by decide), a1, bI_some, b1, bI_some]
    · refine (a2.mrow (sm' := m) (p' := 0) (q' := 1) (r' := 2) d3.2.1 d3.2.2.1 (fun j j1 j2 => ?_) (fun j j1 j2 => d5 j j1 (by omega))).same b2 Same.rf (fun b j q => by omega) (fun b j _ q => q)
      obtain ⟨q1, q2, q3, q4, q5⟩ := d4 j j1 (by omega)
      exact ⟨q1, q2, q3⟩
    · refine (g7.mrow (sm' := m) (p' := 37) (q' := 40) (t1 := 38) (t2 := 39) (t3 := 41) d3.2.2.2.1 d3.2.2.2.2 (fun j j1 j2 => ?_) d6).crow (sc' := c2) (a' := 80) ⟨?_, ?_⟩ (fun j j1 j2 => ?_) (fun j j1 j2 => ?_)
      · obtain ⟨q1, q2, q3, q4, q5⟩ := d4 j j1 (by omega)
        exact ⟨q4, q5⟩
      · rw [b3.1]; exact a4 _ _ (by unfold tkP; omega)
      · rw [b3.2]; exact a4 _ _ (by unfold tkP; omega)
      · rw [(b4 j j1 j2).1, (b4 j j1 j2).2]; exact ⟨a4 _ _ (by unfold tkP; omega), a4 _ _ (by unfold tkP; omega)⟩
      · rw [b5 j j1 j2]; exact a4 _ _ (by unfold tkP; omega)
    · obtain ⟨c, q1, q2, q3, q4, q5, q6⟩ := h4
      refine ⟨c, q1, (S3 _ _ (by omega)).trans q2, (d2 _ _ (by omega)).trans q3, by rw [e2, ← q2]; exact g3, by rw [e2, d3.1]; exact g4, fun k hk => ?_⟩
      obtain ⟨L, l1, l2⟩ := q6 k hk
      exact ⟨L, l1.same S3 (fun b j q1 q2 => by omega), l2.same d2 (fun b j q1 q2 => by omega)⟩
