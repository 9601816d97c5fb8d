/-! CALLS: of, earn, row, told, year -/
theorem sim_earn : Sim_earn Rel := by
  intro sc sm R a1 a2 r1 r2
  obtain ⟨n, y, L, E, hy⟩ := R.eq
  obtain ⟨⟨⟨t1, n7, t3, t4, t5, t6⟩, m0, m1, h3⟩, -⟩ := E
  unfold X6_earn X7_earn
  rw [isH_c t1 n7 r1, isH_m m0 n7 r1, isE_c r2, in_l r2 (by decide)]
  by_cases g1 : 0 ≤ a1 ∧ a1 < n
  · by_cases g2 : 0 ≤ a2 ∧ a2 ≤ 99
    · simp only [if_pos g1, if_pos g2, w10, if_false]
      simp (disch := omega) only [zrd_ok, zwr_ok, bI_some]
      obtain ⟨u1, u2, u3, u4⟩ := h3 a1 g1.1 g1.2
      refine ⟨_, _, _, _, rfl, rfl, by rw [show (4 : Nat) = 2 + 2 from rfl, u3], R.town (n := n) (y := y) (fun b j hb => zu_o (by unfold clT at hb; omega)) (fun b j hb => zu_o (by unfold smT at hb; omega)) ⟨⟨by rw [zu_o (by omega)]; exact t1, n7, by rw [zu_o (by omega)]; exact t3, t4, t5, fun h q1 q2 => ?_⟩, by rw [zu_o (by omega)]; exact m0, by rw [zu_o (by omega)]; exact m1, fun h q1 q2 => ?_⟩ hy (by omega)⟩
      · obtain ⟨v1, v2, v3, v4⟩ := t6 h q1 q2
        refine ⟨by rw [zu_o (by omega)]; exact v1, by rw [zu_o (by omega)]; exact v2, ?_, fun p p1 p2 => by rw [zu_o (by omega)]; exact v4 p p1 p2⟩
        by_cases he : h = a1
        · rw [he, zu_at]; exact g2
        · rw [zu_o (by omega)]; exact v3
      · obtain ⟨v1, v2, v3, v4⟩ := h3 h q1 q2
        refine ⟨by rw [zu_o (by omega), zu_o (by omega)]; exact v1, by rw [zu_o (by omega), zu_o (by omega)]; exact v2, ?_, fun p p1 p2 => by rw [zu_o (by omega), zu_o (by omega)]; exact v4 p p1 p2⟩
        by_cases he : h = a1
        · rw [he, zu_at, zu_at]
        · rw [zu_o (by omega), zu_o (by omega)]; exact v3
    · simp only [if_pos g1, if_neg g2, w10, w00, if_false, if_true]
      exact ⟨_, _, _, _, rfl, rfl, rfl, R⟩
  · simp only [if_neg g1, w00, if_true]
    exact ⟨_, _, _, _, rfl, rfl, rfl, R⟩
theorem sim_row : Sim_row Rel := by
  intro sc sm R a1 a2 a3 r1 r2 r3
  obtain ⟨n, y, L, E, hy⟩ := R.eq
  obtain ⟨⟨⟨t1, n7, t3, t4, t5, t6⟩, m0, m1, h3⟩, -⟩ := E
  unfold X6_row X7_row
  rw [isH_c t1 n7 r1, isH_m m0 n7 r1, in_l r2 (by decide), in_l r3 (by decide), wI_r r2, wI_r r3, wI_id (z := 4) (by omega) (by omega), wI_id (z := 5) (by omega) (by omega), wI_id (z := 6) (by omega) (by omega)]
  by_cases g1 : 0 ≤ a1 ∧ a1 < n
  · by_cases g2 : 0 ≤ a2 ∧ a2 ≤ 3
    · by_cases g3 : 0 ≤ a3 ∧ a3 ≤ 4
      · simp only [if_pos g1, if_pos g2, if_pos g3, w10, if_false]
        obtain ⟨u1, u2, u3, u4⟩ := h3 a1 g1.1 g1.2
        obtain ⟨v1, v2, v3, v4⟩ := t6 a1 g1.1 g1.2
        rw [if_neg (by omega : ¬ a2 < 0), if_pos (by omega : a2 < 4), if_neg (by omega : ¬ a3 < 0), if_pos (by omega : a3 < 5)]
        simp (disch := omega) only [zrd_ok, zwr_ok, bI_some]
        rw [u1, wI_id (z := sc (20 + 3) a1) (by omega) (by omega)]
        by_cases g4 : sc (20 + 3) a1 = 6
        · rw [if_pos g4, if_pos g4]
          rw [show 4 * a1 + a2 = a1 * 4 + a2 by omega]
          refine ⟨_, _, _, _, rfl, rfl, by rw [show (5 : Nat) = 2 + 3 from rfl, u4 a2 g2.1 (by omega)], R.town (n := n) (y := y) (fun b j hb => zu_o (by unfold clT at hb; omega)) (fun b j hb => zu_o (by unfold smT at hb; omega)) ⟨⟨by rw [zu_o (by omega)]; exact t1, n7, by rw [zu_o (by omega)]; exact t3, t4, t5, fun h q1 q2 => ?_⟩, by rw [zu_o (by omega)]; exact m0, by rw [zu_o (by omega)]; exact m1, fun h q1 q2 => ?_⟩ hy (by omega)⟩
          · obtain ⟨v1, v2, v3, v4⟩ := t6 h q1 q2
            refine ⟨by rw [zu_o (by omega)]; exact v1, by rw [zu_o (by omega)]; exact v2, by rw [zu_o (by omega)]; exact v3, fun p p1 p2 => ?_⟩
            by_cases he : h * 4 + p = a1 * 4 + a2
            · rw [he, zu_at]; exact g3
            · rw [zu_o (by omega)]; exact v4 p p1 p2
          · obtain ⟨v1, v2, v3, v4⟩ := h3 h q1 q2
            refine ⟨by rw [zu_o (by omega), zu_o (by omega)]; exact v1, by rw [zu_o (by omega), zu_o (by omega)]; exact v2, by rw [zu_o (by omega), zu_o (by omega)]; exact v3, fun p p1 p2 => ?_⟩
            by_cases he : h * 4 + p = a1 * 4 + a2
            · rw [he, zu_at, zu_at]
            · rw [zu_o (by omega), zu_o (by omega)]; exact v4 p p1 p2
        · rw [if_neg g4, if_neg g4]
          exact ⟨_, _, _, _, rfl, rfl, rfl, R⟩
      · simp only [if_pos g1, if_pos g2, if_neg g3, w10, w00, if_false, if_true]
        rw [if_neg (by omega : ¬ a2 < 0), if_pos (by omega : a2 < 4)]
        by_cases g5 : a3 < 0
        · rw [if_pos g5]
          exact ⟨_, _, _, _, rfl, rfl, rfl, R⟩
        · rw [if_neg g5, if_neg (by omega)]
          exact ⟨_, _, _, _, rfl, rfl, rfl, R⟩
    · simp only [if_pos g1, if_neg g2, w10, w00, if_false, if_true]
      by_cases g5 : a2 < 0
      · rw [if_pos g5]
        exact ⟨_, _, _, _, rfl, rfl, rfl, R⟩
      · rw [if_neg g5, if_neg (by omega)]
        exact ⟨_, _, _, _, rfl, rfl, rfl, R⟩
  · simp only [if_neg g1, w00, if_true]
    exact ⟨_, _, _, _, rfl, rfl, rfl, R⟩
theorem sim_told : Sim_told Rel := by
  intro sc sm R a1 r1
  obtain ⟨n, y, L, E, hy⟩ := R.eq
  obtain ⟨t, q1, q2, -⟩ := total_eq E.1
  unfold X6_told X7_told
  rw [wI_r r1, wI_id (z := 1) (by omega) (by omega), wI_id (z := 2) (by omega) (by omega), isRing_ok E.2.1, mring_ok E.2.2.1, q1, q2]
  by_cases g0 : a1 = 0
  · rw [if_pos g0, if_pos g0]
    exact ⟨_, _, rfl, rfl, by rw [E.1.1.2.2.1, E.1.2.2.1], R⟩
  · rw [if_neg g0, if_neg g0]
    by_cases g1 : a1 = 1
    · rw [if_pos g1]
      rcases ringL_bit L 0 (Or.inl rfl) with e | e <;> rw [e] <;> exact ⟨_, _, rfl, rfl, rfl, R⟩
    · rw [if_neg g1]
      by_cases g2 : a1 = 2
      · rw [if_pos g2]
        exact ⟨_, _, rfl, rfl, rfl, R⟩
      · rw [if_neg g2]
        exact ⟨_, _, rfl, rfl, rfl, R⟩
theorem sim_year : Sim_year Rel := by
  intro sc sm R
  obtain ⟨n, y, L, E, hy⟩ := R.eq
  have t3 := E.1.1.2.2.1
  have t4 := E.1.1.2.2.2.1
  have m1 := E.1.2.2.1
  unfold X6_year X7_year
  rw [t3, m1, wI_id (z := y) (by omega) (by omega), wI_id (z := 999) (by omega) (by omega)]
  by_cases g : y = 999
  · rw [if_neg (by omega), if_pos g]
    exact ⟨_, _, _, _, rfl, rfl, rfl, R⟩
  · obtain ⟨sc', sm', b1, b2, b3, b4, b5⟩ := year_eq (by omega) E (by omega)
    rw [if_pos (by omega), if_neg g, b1, b2, bI_some, bI_some]
    refine ⟨_, _, _, _, rfl, rfl, by rw [b3.1.1.2.2.1, b3.1.2.2.1], R.town (n := n) (y := y + 1) (b4.wk fun b j q => by unfold clT clS; revert q; unfold goP; omega) (b5.wk fun b j q => by unfold smT; revert q; unfold mG; omega) b3.1 (by omega) (by rw [E.1.2.1]; omega)⟩
theorem sim_of : Sim_of Rel := by
  intro sc sm R a1 a2 r1 r2
  obtain ⟨n, y, L, E, hy⟩ := R.eq
  have MW := E.1.mw
  obtain ⟨⟨T, m0, m1, h3⟩, hTS, hMT, h24⟩ := E
  obtain ⟨t1, n7, t3, t4, t5, t6⟩ := id T
  unfold X6_of X7_of
  rw [isH_c t1 n7 r1, isH_m m0 n7 r1, wI_r r2]
  by_cases g1 : 0 ≤ a1 ∧ a1 < n
  · simp only [if_pos g1, w10, if_false]
    obtain ⟨u1, u2, u3, u4⟩ := h3 a1 g1.1 g1.2
    by_cases g20 : a2 = 0
    · rw [if_pos g20, if_pos g20, zrd_ok (by omega) (by omega) (by omega), zrd_ok (by omega) (by omega) (by omega), bI_some, bI_some]
      exact ⟨_, _, _, _, rfl, rfl, by rw [u1], R⟩
    rw [if_neg g20, if_neg g20]
    by_cases g21 : a2 = 1
    · rw [if_pos g21, if_pos g21, zrd_ok (by omega) (by omega) (by omega), zrd_ok (by omega) (by omega) (by omega), bI_some, bI_some]
      exact ⟨_, _, _, _, rfl, rfl, by rw [show (3 : Nat) = 2 + 1 from rfl, u2], R⟩
    rw [if_neg g21, if_neg g21]
    by_cases g22 : a2 = 2
    · rw [if_pos g22, if_pos g22, zrd_ok (by omega) (by omega) (by omega), zrd_ok (by omega) (by omega) (by omega), bI_some, bI_some]
      exact ⟨_, _, _, _, rfl, rfl, by rw [show (4 : Nat) = 2 + 2 from rfl, u3], R⟩
    rw [if_neg g22, if_neg g22]
    obtain ⟨s1, b1, b2, b3⟩ := say_ok T
    have ex : ∀ h : Int, 0 ≤ h → h < n → sayF y (sm 2) (sm 3) (sm 4) h = sayF y (sc (20 + 3)) (sc (20 + 4)) (sc (20 + 5)) h := fun h q1 q2 => sayF_ext (fun o o1 o2 => (h3 o o1 o2).1) (fun o o1 o2 => (h3 o o1 o2).2.1) (fun o o1 o2 => (h3 o o1 o2).2.2.1) q1 q2
    by_cases g23 : a2 = 3
    · rw [if_pos g23, if_pos g23, b1, bI_some, zrd_ok (by omega) (by omega) (by omega), msays_ok MW h24 g1.1 g1.2, bI_some, bI_some]
      exact ⟨_, _, _, _, rfl, rfl, by rw [b3 a1 g1.1 g1.2, ex a1 g1.1 g1.2], R.same (b2.wk fun b j q => by unfold clS; omega) Same.rf⟩
    rw [if_neg g23, if_neg g23]
    by_cases g24 : a2 = 4
    · have T1 : TW s1 20 n y := T.same b2 (by omega) (by omega) (fun j => by omega)
      have hB : SB s1 20 n := fun h q1 q2 => by rw [b3 h q1 q2]; exact sayF_rng (t6 h q1 q2).2.2.1
      obtain ⟨s2, c1, c2, c3⟩ := reckon_ok (by omega) T1 hB (hTS.same b2 (by omega) (fun b j z1 z2 => by omega))
      obtain ⟨m', d1, d2⟩ := mnext_ok MW (Or.inl ⟨h24, rfl⟩ : MS sm y (sayF y (sm 2) (sm 3) (sm 4))) hMT g1.1 g1.2
      rw [if_pos g24, if_pos g24, b1, bI_some, c1, bI_some, zrd_ok (by omega) (by omega) (by omega), bI_some, d1, bP_some]
      refine ⟨_, _, _, _, rfl, rfl, congrArg wI ?_, R.same ((b2.wk fun b j q => by unfold clS; omega).tr (c2.wk (R := clS) fun b j q => by unfold clS; omega) (fun _ _ q => q) (fun _ _ q => q)) (d2.wk fun b j q => by unfold smS; revert q; unfold mQ; omega)⟩
      rw [c3 a1 g1.1 g1.2]
      refine nextF_ext t4 (fun o o1 o2 => ?_) (fun o o1 o2 => ?_) (fun o o1 o2 => ?_) (fun o p o1 o2 p1 p2 => ?_) (fun o o1 o2 => ?_) g1.1 g1.2
      · rw [b2 _ _ (by omega)]; exact (h3 o o1 o2).1.symm
      · rw [b2 _ _ (by omega)]; exact (h3 o o1 o2).2.1.symm
      · rw [b2 _ _ (by omega)]; exact (h3 o o1 o2).2.2.1.symm
      · rw [b2 _ _ (by omega)]; exact ((h3 o o1 o2).2.2.2 p p1 p2).symm
      · rw [b3 o o1 o2]; exact (ex o o1 o2).symm
    rw [if_neg g24, if_neg g24]
    exact ⟨_, _, _, _, rfl, rfl, rfl, R⟩
  · simp only [if_neg g1, w00, if_true]
    exact ⟨_, _, _, _, rfl, rfl, rfl, R⟩
