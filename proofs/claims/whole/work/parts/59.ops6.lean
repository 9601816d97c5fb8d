/-! CALLS: see, book, feed, count, trace -/
theorem Rel.notes {sc sm sc' sm' : PS} (h : Rel sc sm) (hS : Same sc sc' (fun b _ => 80 ≤ b ∧ b ≤ 84)) (hT : Same sm sm' (fun b j => (b = 0 ∧ (j = 37 ∨ j = 40)) ∨ b = 38 ∨ b = 39 ∨ b = 41)) (hN : ∀ n : Nat, sm 0 0 = n → RN sc sm 80 n 37 40 38 39 41 → RN sc' sm' 80 n 37 40 38 39 41) : Rel sc' sm' := by
  obtain ⟨⟨n, y, h1, h2, h3⟩, h4, h5, h6, h7, h8, h9, h10⟩ := h
  exact ⟨⟨n, y, h1.same hS hT (fun b j q => by omega) (fun b j q => by omega), h2, hN n h1.2.1 h3⟩, h4.same hS hT (fun b j q => by omega) (fun b j q => by omega), (hT _ _ (by omega)).trans h5, fun i i1 i2 => (hT _ _ (by omega)).trans (h6 i i1 i2), h7.same hS hT (fun b j q => by omega) (fun b j q => by omega), h8.same hS hT (fun b j q => by omega) (fun b j q => by omega), h9.same hS hT (fun b j q => by omega) (fun b j q => by omega), h10.same hS hT (fun b j q => by omega) (fun b j q => by omega)⟩
theorem Rel.text {sc sm sc' sm' : PS} (h : Rel sc sm) (hS : Same sc sc' (fun b j => (b = 170 ∧ j = 0) ∨ b = 172)) (hT : Same sm sm' (fun b j => (b = 0 ∧ j = 8) ∨ b = 11)) (hN : RT sc' sm') : Rel sc' sm' := by
  obtain ⟨⟨n, y, h1, h2, h3⟩, h4, h5, h6, h7, h8, h9, h10⟩ := h
  exact ⟨⟨n, y, h1.same hS hT (fun b j q => by omega) (fun b j q => by omega), h2, h3.same hS hT (fun b j q => by omega) (fun b j q => by omega)⟩, h4.same hS hT (fun b j q => by omega) (fun b j q => by omega), (hT _ _ (by omega)).trans h5, fun i i1 i2 => (hT _ _ (by omega)).trans (h6 i i1 i2), hN, h8.same hS hT (fun b j q => by omega) (fun b j q => by omega), h9.same hS hT (fun b j q => by omega) (fun b j q => by omega), h10.same hS hT (fun b j q => by omega) (fun b j q => by omega)⟩
theorem Rel.tapes {sc sm sc' sm' : PS} (h : Rel sc sm) (hS : Same sc sc' (fun b _ => 200 ≤ b)) (hT : Same sm sm' (fun b _ => b = 57 ∨ b = 58 ∨ b = 59 ∨ b = 60)) (hN : RP sc' sm') : Rel sc' sm' := by
  obtain ⟨⟨n, y, h1, h2, h3⟩, h4, h5, h6, h7, h8, h9, h10⟩ := h
  exact ⟨⟨n, y, h1.same hS hT (fun b j q => by omega) (fun b j q => by omega), h2, h3.same hS hT (fun b j q => by omega) (fun b j q => by omega)⟩, h4.same hS hT (fun b j q => by omega) (fun b j q => by omega), (hT _ _ (by omega)).trans h5, fun i i1 i2 => (hT _ _ (by omega)).trans (h6 i i1 i2), h7.same hS hT (fun b j q => by omega) (fun b j q => by omega), h8.same hS hT (fun b j q => by omega) (fun b j q => by omega), h9.same hS hT (fun b j q => by omega) (fun b j q => by omega), hN⟩
theorem sim_see : Sim_see Rel := by
  intro sc sm R a1 a2 r1 r2
  obtain ⟨n, y, L, E, hy⟩ := R.eq
  have n7 := E.1.1.2.1
  have m0 := E.1.2.1
  unfold X6_see X7_see
  rw [wI_r r1, wI_id (z := -1) (by omega) (by omega), isH_c E.1.1.1 n7 r1, isH_m m0 n7 r1, isE_c r2, in_l r2 (by decide), wI_id (z := 8) (by omega) (by omega)]
  by_cases g0 : a1 = -1
  · rw [if_pos g0, if_pos g0]
    refine ⟨_, _, _, _, rfl, rfl, rfl, R.notes (fun b j hb => zu_o (by omega)) (fun b j hb => zu_o (by omega)) (fun n hn N => ?_)⟩
    obtain ⟨u, v, g1, g2, g3, g4, g5, g6, g7, g8⟩ := N
    exact ⟨0, v, by omega, g2, zu_at, zu_at, (zu_o (by omega)).trans g5, (zu_o (by omega)).trans g6, fun i i1 i2 => by omega, fun i i1 i2 => by rw [zu_o (by omega), zu_o (by omega)]; exact g8 i i1 i2⟩
  rw [if_neg g0, if_neg g0]
  by_cases g1 : 0 ≤ a1 ∧ a1 < n
  · by_cases g2 : 0 ≤ a2 ∧ a2 ≤ 99
    · simp only [if_pos g1, if_pos g2, w10, if_false]
      obtain ⟨⟨n', y', h1, h2, u, v, k1, k2, k3, k4, k5, k6, k7, k8⟩, -⟩ := id R
      have en : n' = n := by have := h1.2.1; omega
      subst en
      unfold X1_addSeen
      rw [k3, k4, wI_id (z := (u : Int)) (by omega) (by omega), wI_id (z := 8) (by omega) (by omega)]
      by_cases c : u = 8
      · rw [if_neg (by omega), if_pos (by omega)]
        exact ⟨_, _, _, _, rfl, rfl, rfl, R⟩
      · have e5 : zu sc (80 + 1) u a1 80 0 = u := (zu_o (by omega)).trans k3
        have e6 : zu sm 38 u a1 0 37 = u := (zu_o (by omega)).trans k4
        rw [if_pos (by omega), if_neg (by omega), zwr_ok (by omega) (by omega) (by omega), bI_some, e5, zwr_ok (by omega) (by omega) (by omega), bI_some, zwr_ok (by omega) (by omega) (by omega), bI_some, e6, zwr_ok (by omega) (by omega) (by omega), bI_some]
        simp only [zlet, bP_some]
        have e1 : ∀ x, zu (zu (zu sc (80 + 1) u a1) (80 + 2) u a2) 80 0 x 80 0 = x := fun x => zu_at
        have e2 : ∀ x, zu (zu (zu sm 38 u a1) 39 u a2) 0 37 x 0 37 = x := fun x => zu_at
        have e3 : zu (zu sc (80 + 1) u a1) (80 + 2) u a2 80 0 = u := by rw [zu_o (by omega), zu_o (by omega)]; exact k3
        have e4 : zu (zu sm 38 u a1) 39 u a2 0 37 = u := by rw [zu_o (by omega), zu_o (by omega)]; exact k4
        rw [e1, e2, e3, e4]
        refine ⟨_, _, _, _, rfl, rfl, rfl, R.notes (fun b j hb => by simp (disch := omega) only [zu_o]) (fun b j hb => by simp (disch := omega) only [zu_o]) (fun n hn _ => ?_)⟩
        have en : n = n' := by omega
        subst en
        refine ⟨u + 1, v, by omega, k2, by rw [zu_at]; omega, by rw [zu_at]; omega, by simp (disch := omega) only [zu_o]; exact k5, by simp (disch := omega) only [zu_o]; exact k6, fun i i1 i2 => ?_, fun i i1 i2 => by simp (disch := omega) only [zu_o]; exact k8 i i1 i2⟩
        by_cases he : i = u
        · subst he
          simp (disch := omega) only [zu_o, zu_at]
          exact ⟨trivial, trivial, g1⟩
        · simp (disch := omega) only [zu_o]
          exact k7 i i1 (by omega)
    · simp only [if_pos g1, if_neg g2, w10, w00, if_false, if_true]
      exact ⟨_, _, _, _, rfl, rfl, rfl, R⟩
  · simp only [if_neg g1, w00, if_true]
    exact ⟨_, _, _, _, rfl, rfl, rfl, R⟩
theorem addBook_eq {sc sm : PS} (R : Rel sc sm) (x : Int) : ∃ r sc' r' sm', bP (X1_addBook 80 sc x) (fun v1 s2 => some (v1, s2)) = some (r, sc') ∧ (if wI (sm 0 40) = wI 12 then some ((-4), sm) else (bI (zwr sm 41 12 (sm 0 40) x) (fun s2 => zlet (zu s2 0 40 ((s2 0 40) + 1)) (fun s3 => some (s3 0 40, s3))))) = some (r', sm') ∧ wI r = wI r' ∧ Rel sc' sm' := by
  obtain ⟨⟨n', y', h1, h2, u, v, k1, k2, k3, k4, k5, k6, k7, k8⟩, -⟩ := id R
  unfold X1_addBook
  rw [k5, k6, wI_id (z := (v : Int)) (by omega) (by omega), wI_id (z := 12) (by omega) (by omega)]
  by_cases c : v = 12
  · rw [if_neg (by omega), if_pos (by omega)]
    exact ⟨_, _, _, _, rfl, rfl, rfl, R⟩
  · rw [if_pos (by omega), if_neg (by omega), zwr_ok (by omega) (by omega) (by omega), bI_some, zwr_ok (by omega) (by omega) (by omega), bI_some]
    simp only [zlet, bP_some]
    have e1 : ∀ x', zu (zu sc (80 + 4) v x) 80 3 x' 80 3 = x' := fun x => zu_at
    have e2 : ∀ x', zu (zu sm 41 v x) 0 40 x' 0 40 = x' := fun x => zu_at
    have e3 : zu sc (80 + 4) v x 80 3 = v := by rw [zu_o (by omega)]; exact k5
    have e4 : zu sm 41 v x 0 40 = v := by rw [zu_o (by omega)]; exact k6
    rw [e1, e2, e3, e4]
    refine ⟨_, _, _, _, rfl, rfl, rfl, R.notes (fun b j hb => by simp (disch := omega) only [zu_o]) (fun b j hb => by simp (disch := omega) only [zu_o]) (fun n hn _ => ?_)⟩
    have en : n = n' := by have := h1.2.1; omega
    subst en
    refine ⟨u, v + 1, k1, by omega, by simp (disch := omega) only [zu_o]; exact k3, by simp (disch := omega) only [zu_o]; exact k4, by rw [zu_at]; omega, by rw [zu_at]; omega, fun i i1 i2 => by simp (disch := omega) only [zu_o]; exact k7 i i1 i2, fun i i1 i2 => ?_⟩
    by_cases he : i = v
    · subst he
      simp (disch := omega) only [zu_o, zu_at]
    · simp (disch := omega) only [zu_o]
      exact k8 i i1 (by omega)
theorem sim_book : Sim_book Rel := by
  intro sc sm R a1 r1
  unfold X6_book X7_book
  rw [wI_r r1, wI_id (z := -1) (by omega) (by omega), wI_id (z := -2) (by omega) (by omega), isE_c r1, in_l r1 (by decide)]
  by_cases g0 : a1 = -1
  · rw [if_pos g0, if_pos g0]
    refine ⟨_, _, _, _, rfl, rfl, rfl, R.notes (fun b j hb => zu_o (by omega)) (fun b j hb => zu_o (by omega)) (fun n hn N => ?_)⟩
    obtain ⟨u, v, g1, g2, g3, g4, g5, g6, g7, g8⟩ := N
    exact ⟨u, 0, g1, by omega, (zu_o (by omega)).trans g3, (zu_o (by omega)).trans g4, zu_at, zu_at, fun i i1 i2 => by rw [zu_o (by omega), zu_o (by omega), zu_o (by omega), zu_o (by omega)]; exact g7 i i1 i2, fun i i1 i2 => by omega⟩
  rw [if_neg g0, if_neg g0]
  by_cases g1 : a1 = -2
  · rw [if_pos g1, if_neg (by omega : ¬ (0 ≤ a1 ∧ a1 ≤ 99))]
    simp only [w00, if_true, if_pos g1]
    exact addBook_eq R a1
  · rw [if_neg g1]
    by_cases g2 : 0 ≤ a1 ∧ a1 ≤ 99
    · rw [if_pos g2]
      simp only [w10, if_false]
      exact addBook_eq R a1
    · rw [if_neg g2, if_neg g1]
      simp only [w00, if_true]
      exact ⟨_, _, _, _, rfl, rfl, rfl, R⟩
theorem wB_id {z : Int} (h1 : 0 ≤ z) (h2 : z < 128) : wB z = z := by
  unfold wB
  rw [Int.bmod_def]
  omega
theorem sim_feed : Sim_feed Rel := by
  intro sc sm R a1 r1
  unfold X6_feed X7_feed
  rw [wI_r r1, wI_id (z := 127) (by omega) (by omega), in_l r1 (by decide)]
  by_cases g : 0 ≤ a1 ∧ a1 ≤ 127
  · obtain ⟨-, -, -, -, ⟨f, f1, f2, f3, f4⟩, -⟩ := id R
    rw [if_neg (by omega), if_pos g.2, if_pos g]
    simp only [w10, if_false]
    unfold X3_addSign
    rw [f2, f3, wI_id (z := (f : Int)) (by omega) (by omega), wI_id (z := 100) (by omega) (by omega)]
    by_cases c : f = 100
    · rw [if_neg (by omega), if_pos (by omega)]
      exact ⟨_, _, _, _, rfl, rfl, rfl, R⟩
    · rw [if_pos (by omega), if_neg (by omega), zwr_ok (by omega) (by omega) (by omega), bI_some, zwr_ok (by omega) (by omega) (by omega), bI_some, wB_id (z := wB a1) (by rw [wB_id g.1 (by omega)]; exact g.1) (by rw [wB_id g.1 (by omega)]; omega), wB_id g.1 (by omega)]
      simp only [zlet, bP_some]
      have e1 : ∀ x', zu (zu sc 172 f a1) 170 0 x' 170 0 = x' := fun x => zu_at
      have e2 : ∀ x', zu (zu sm 11 f a1) 0 8 x' 0 8 = x' := fun x => zu_at
      have e3 : zu sc 172 f a1 170 0 = f := by rw [zu_o (by omega)]; exact f2
      have e4 : zu sm 11 f a1 0 8 = f := by rw [zu_o (by omega)]; exact f3
      rw [e1, e2, e3, e4]
      refine ⟨_, _, _, _, rfl, rfl, rfl, R.text (fun b j hb => by simp (disch := omega) only [zu_o]) (fun b j hb => by simp (disch := omega) only [zu_o]) ⟨f + 1, by omega, by rw [zu_at]; omega, by rw [zu_at]; omega, fun i i1 i2 => ?_⟩⟩
      by_cases he : i = f
      · subst he
        simp (disch := omega) only [zu_o, zu_at]
        exact ⟨trivial, g⟩
      · simp (disch := omega) only [zu_o]
        exact f4 i i1 (by omega)
  · rw [if_neg g]
    simp only [w00, if_true]
    by_cases c : a1 < 0
    · rw [if_pos c]
      exact ⟨_, _, _, _, rfl, rfl, rfl, R⟩
    · rw [if_neg c, if_neg (by omega)]
      exact ⟨_, _, _, _, rfl, rfl, rfl, R⟩
theorem sim_count : Sim_count Rel := by
  intro sc sm R a1 r1
  obtain ⟨⟨n, y, h1, h2, u, v, k1, k2, k3, k4, k5, k6, k7, k8⟩, ⟨c, c1, c2, c3, -⟩, -, -, ⟨f, f1, f2, f3, f4⟩, -, ⟨k, q0, q1, q2, -⟩, -⟩ := R
  unfold X6_count X7_count
  rw [wI_r r1, h1.1.1, h1.2.1, k3, k4, k5, k6, c2, c3, f2, f3, q1, q2]
theorem sim_trace : Sim_trace Rel := by
  intro sc sm R a1 r1
  obtain ⟨-, -, -, -, -, -, ⟨k, q0, q1, q2, q3⟩, -⟩ := id R
  unfold X6_trace X7_trace
  rw [wI_r r1, in_l r1 (by decide), q1, q2, wI_id (z := (k : Int)) (by omega) (by omega), wI_id (z := 20) (by omega) (by omega)]
  by_cases g : 0 ≤ a1 ∧ a1 ≤ 19
  · rw [if_pos g, if_neg (by omega)]
    simp only [w10, if_false]
    by_cases c : (k : Int) ≤ a1
    · rw [if_pos c, if_pos c]
      exact ⟨_, _, rfl, rfl, rfl, R⟩
    · rw [if_neg c, if_neg c, if_pos (by omega), zrd_ok (by omega) (by omega) (by omega), bI_some, zrd_ok (by omega) (by omega) (by omega), bI_some]
      exact ⟨_, _, rfl, rfl, by rw [q3 a1 g.1 (by omega) (by omega)], R⟩
  · rw [if_neg g]
    simp only [w00, if_true]
    by_cases c : a1 < 0
    · rw [if_pos c]
      exact ⟨_, _, rfl, rfl, rfl, R⟩
    · rw [if_neg c]
      by_cases d : (k : Int) ≤ a1
      · rw [if_pos d]
        exact ⟨_, _, rfl, rfl, rfl, R⟩
      · rw [if_neg d, if_neg (by omega)]
        exact ⟨_, _, rfl, rfl, rfl, R⟩
