/-! CALLS: shift, image, undo -/
theorem reach_ok {st : PS} {a : Nat} {p q : Int} (hp : rng p) (hq : rng q) (hz : 0 ≤ st a 1 ∧ st a 1 ≤ 60) : X4_reaches a st p q = if 0 ≤ p ∧ 0 ≤ q ∧ p + q ≤ st a 1 then 1 else 0 := by
  unfold X4_reaches
  obtain ⟨p1, p2⟩ := id hp
  obtain ⟨q1, q2⟩ := id hq
  rw [wI_r hp, wI_r hq, wI_id (z := st a 1) (by omega) (by omega)]
  by_cases c1 : p < 0
  · rw [if_pos c1, if_neg (by omega)]
  · by_cases c2 : q < 0
    · rw [if_neg c1, if_pos c2, if_neg (by omega)]
    · rw [if_neg c1, if_neg c2, wI_id (z := st a 1 - q) (by omega) (by omega)]
      by_cases c3 : st a 1 < q
      · rw [if_pos c3, if_neg (by omega)]
      · rw [if_neg c3]
        by_cases c4 : st a 1 - q < p
        · rw [if_pos c4, if_neg (by omega)]
        · rw [if_neg c4, if_pos (by omega)]
theorem shift141 {st : PS} {t : Nat} {p N : Int} (ht : t < 6) (hp : 0 ≤ p) (hN : 0 ≤ N) (hpN : p + N ≤ 60) : ∀ (k : Nat) (i : Nat) (s0 : PS), i ≤ N → N - i < k → Same st s0 (fun b j => b = 59 ∧ 60 * t + p ≤ j ∧ j < 60 * t + p + N) → (∀ h : Int, 0 ≤ h → h < i → s0 59 (60 * t + p + h) = st 60 h) → ∃ s', X7_shift_L141 t p N k s0 i = some (N, s') ∧ Same st s' (fun b j => b = 59 ∧ 60 * t + p ≤ j ∧ j < 60 * t + p + N) ∧ ∀ h : Int, 0 ≤ h → h < N → s' 59 (60 * t + p + h) = st 60 h := by
  intro k
  induction k with
  | zero => intro i _ _ h; omega
  | succ k ih =>
    intro i s0 hi hk hS hv
    rw [X7_shift_L141, wI_id (z := N) (by omega) (by omega), wI_id (z := (i : Int)) (by omega) (by omega)]
    by_cases h : N ≤ i
    · rw [if_pos (by omega)]
      exact ⟨s0, rfl, hS, fun h h1 h2 => hv h h1 (by omega)⟩
    · rw [if_neg (by omega), zrd_ok (by omega) (by omega) (by omega), bI_some, zwr_ok (by omega) (by omega) (by omega), bI_some]
      refine ih (i + 1) _ (by omega) (by omega) (fun b j hb => (zu_o (by omega)).trans (hS b j hb)) (fun h h1 h2 => ?_)
      by_cases he : h = i
      · rw [he, zu_at]; exact hS _ _ (by omega)
      · rw [zu_o (by omega)]; exact hv h h1 (by omega)
theorem shift104 {st : PS} {t u : Nat} {p q N : Int} (ht : t < 6) (hp : 0 ≤ p) (hN : 0 ≤ N) (hpN : p + N ≤ 60) : ∀ (k : Nat) (i : Nat) (s0 : PS), i ≤ N → N - i < k → Same st s0 (fun b _ => b = 60) → (∀ h : Int, 0 ≤ h → h < i → s0 60 h = st 59 (60 * t + p + h)) → ∃ s', X7_shift_L104 t p u q N k s0 i = X7_shift_L141 u q N FU s' 0 ∧ Same st s' (fun b _ => b = 60) ∧ ∀ h : Int, 0 ≤ h → h < N → s' 60 h = st 59 (60 * t + p + h) := by
  intro k
  induction k with
  | zero => intro i _ _ h; omega
  | succ k ih =>
    intro i s0 hi hk hS hv
    rw [X7_shift_L104, wI_id (z := N) (by omega) (by omega), wI_id (z := (i : Int)) (by omega) (by omega)]
    by_cases h : N ≤ i
    · rw [if_pos (by omega)]
      exact ⟨s0, rfl, hS, fun h h1 h2 => hv h h1 (by omega)⟩
    · rw [if_neg (by omega), zrd_ok (by omega) (by omega) (by omega), bI_some, zwr_ok (by omega) (by omega) (by omega), bI_some]
      refine ih (i + 1) _ (by omega) (by omega) (fun b j hb => (zu_o (by omega)).trans (hS b j hb)) (fun h h1 h2 => ?_)
      by_cases he : h = i
      · rw [he, zu_at]; exact hS _ _ (by omega)
      · rw [zu_o (by omega)]; exact hv h h1 (by omega)
theorem sim_shift : Sim_shift Rel := by
  intro sc sm R a1 a2 a3 a4 a5 r1 r2 r3 r4 r5
  unfold X6_shift X7_shift
  rw [isT_c r1, isT_m r1, isT_c r3, isT_m r3]
  by_cases g1 : 0 ≤ a1 ∧ a1 ≤ 5
  · by_cases g3 : 0 ≤ a3 ∧ a3 ≤ 5
    · rw [if_pos g1, if_pos g3]
      simp only [w10, if_false]
      obtain ⟨t, rfl⟩ : ∃ t : Nat, a1 = t := ⟨a1.toNat, by omega⟩
      obtain ⟨u, rfl⟩ : ∃ t : Nat, a3 = t := ⟨a3.toNat, by omega⟩
      obtain ⟨u1, u2, u3, u4, u5, u6⟩ := R.2.2.2.2.2.2.2 t (by omega)
      obtain ⟨v1, v2, v3, v4, v5, v6⟩ := R.2.2.2.2.2.2.2 u (by omega)
      have z57 : zrd sm 57 6 (t : Int) = some (sc (200 + 10 * t) 0) := by rw [zrd_ok (by omega) (by omega) (by omega), u4]
      have z58 : zrd sm 58 6 (t : Int) = some (sc (200 + 10 * t) 1) := by rw [zrd_ok (by omega) (by omega) (by omega), u5]
      have y57 : zrd sm 57 6 (u : Int) = some (sc (200 + 10 * u) 0) := by rw [zrd_ok (by omega) (by omega) (by omega), v4]
      have y58 : zrd sm 58 6 (u : Int) = some (sc (200 + 10 * u) 1) := by rw [zrd_ok (by omega) (by omega) (by omega), v5]
      rw [zchk_ok (by rw [wI_id (by omega) (by omega)]; omega), zchk_ok (by rw [wI_id (by omega) (by omega)]; omega), tN (by omega), tN (by omega), z57, bI_some, y57, bI_some, bI_some, bI_some, z58, y58, reach_ok r2 r5 u2, reach_ok r4 r5 v2, wI_id (z := -1) (by omega) (by omega), wI_id (z := sc (200 + 10 * t) 0) (by omega) (by omega), wI_id (z := sc (200 + 10 * u) 0) (by omega) (by omega), wI_r r2, wI_r r4, wI_r r5]
      by_cases c1 : sc (200 + 10 * t) 0 = -1
      · rw [if_pos c1, if_pos (by omega : sc (200 + 10 * t) 0 < 0)]
        exact ⟨_, _, _, _, rfl, rfl, rfl, R⟩
      rw [if_neg c1, if_neg (by omega : ¬ sc (200 + 10 * t) 0 < 0)]
      by_cases c2 : sc (200 + 10 * u) 0 = -1
      · rw [if_pos c2, if_neg (by omega : ¬ 0 ≤ sc (200 + 10 * u) 0)]
        exact ⟨_, _, _, _, rfl, rfl, rfl, R⟩
      rw [if_neg c2, if_pos (by omega : 0 ≤ sc (200 + 10 * u) 0)]
      by_cases c3 : sc (200 + 10 * t) 0 = sc (200 + 10 * u) 0
      · rw [if_pos c3, if_pos c3]
        obtain ⟨q1, q2⟩ := id r5
        obtain ⟨q3, q4⟩ := id r2
        obtain ⟨q5, q6⟩ := id r4
        have o13 : ∃ r sc' r' sm', (some ((-13 : Int), sc) = some (r, sc')) ∧ (some ((-13 : Int), sm) = some (r', sm')) ∧ wI r = wI r' ∧ Rel sc' sm' := ⟨_, _, _, _, rfl, rfl, rfl, R⟩
        by_cases d1 : a5 < 0
        · rw [if_pos d1, if_neg (by omega : ¬ (0 ≤ a2 ∧ 0 ≤ a5 ∧ a2 + a5 ≤ sc (200 + 10 * t) 1))]
          simp only [w00, if_true]
          exact o13
        rw [if_neg d1]
        by_cases d2 : a2 < 0
        · rw [if_pos d2, if_neg (by omega : ¬ (0 ≤ a2 ∧ 0 ≤ a5 ∧ a2 + a5 ≤ sc (200 + 10 * t) 1))]
          simp only [w00, if_true]
          exact o13
        rw [if_neg d2]
        have o13' : ∀ X : Option (Int × PS), (if wI (if 0 ≤ a2 ∧ 0 ≤ a5 ∧ a2 + a5 ≤ sc (200 + 10 * t) 1 then 1 else 0) = 0 then some ((-13 : Int), sc) else some ((-13 : Int), sc)) = some (-13, sc) := fun _ => by split <;> rfl
        by_cases d3 : a4 < 0
        · rw [if_pos d3, if_neg (by omega : ¬ (0 ≤ a4 ∧ 0 ≤ a5 ∧ a4 + a5 ≤ sc (200 + 10 * u) 1))]
          simp only [w00, if_true]
          rw [o13' none]
          exact o13
        rw [if_neg d3, bI_some, wI_id (z := sc (200 + 10 * t) 1 - a5) (by omega) (by omega), bI_some, wI_id (z := sc (200 + 10 * u) 1 - a5) (by omega) (by omega)]
        by_cases d4 : sc (200 + 10 * t) 1 - a5 < a2
        · rw [if_pos d4, if_neg (by omega : ¬ (0 ≤ a2 ∧ 0 ≤ a5 ∧ a2 + a5 ≤ sc (200 + 10 * t) 1))]
          simp only [w00, if_true]
          exact o13
        rw [if_neg d4, if_pos (by omega : 0 ≤ a2 ∧ 0 ≤ a5 ∧ a2 + a5 ≤ sc (200 + 10 * t) 1)]
        simp only [w10, if_false]
        by_cases d5 : a4 ≤ sc (200 + 10 * u) 1 - a5
        · rw [if_pos d5, if_pos (by omega : 0 ≤ a4 ∧ 0 ≤ a5 ∧ a4 + a5 ≤ sc (200 + 10 * u) 1)]
          simp only [w10, if_false]
          obtain ⟨m1, e1, e2, e3⟩ := shift104 (st := sm) (t := t) (u := u) (p := a2) (q := a4) (N := a5) (by omega) (by omega) (by omega) (by omega) FU 0 sm (by omega) (by unfold FU; omega) Same.rf (fun h h1 h2 => by omega)
          obtain ⟨m2, f1, f2, f3⟩ := shift141 (st := m1) (t := u) (p := a4) (N := a5) (by omega) (by omega) (by omega) (by omega) FU 0 m1 (by omega) (by unfold FU; omega) Same.rf (fun h h1 h2 => by omega)
          rw [zcp_ok (by omega) (by omega) (by omega) (by omega) (by omega) (by omega) (by omega), bI_some]
          refine ⟨_, _, _, _, rfl, e1.trans f1, rfl, R.tapes (fun b j hb => zcpf_o (by omega)) (fun b j hb => by rw [f2 _ _ (by omega), e2 _ _ (by omega)]) (fun k hk => ?_)⟩
          obtain ⟨x1, x2, x3, x4, x5, x6⟩ := R.2.2.2.2.2.2.2 k hk
          rw [f2 57 _ (by omega), e2 57 _ (by omega), f2 58 _ (by omega), e2 58 _ (by omega)]
          simp (disch := omega) only [zcpf_o]
          refine ⟨x1, x2, x3, x4, x5, fun i i1 i2 => ?_⟩
          by_cases e : k = u ∧ a4 ≤ i ∧ i < a4 + a5
          · obtain ⟨rfl, w1, w2⟩ := e
            rw [zcpf_at w1 w2, show 60 * (k : Int) + i = 60 * k + a4 + (i - a4) by omega, f3 _ (by omega) (by omega), e3 _ (by omega) (by omega), show 60 * (t : Int) + a2 + (i - a4) = 60 * t + (a2 + (i - a4)) by omega]
            exact u6 _ (by omega) (by omega)
          · rw [zcpf_o (by omega), f2 _ _ (by omega), e2 _ _ (by omega)]
            exact x6 i i1 i2
        · rw [if_neg d5, if_neg (by omega : ¬ (0 ≤ a4 ∧ 0 ≤ a5 ∧ a4 + a5 ≤ sc (200 + 10 * u) 1))]
          simp only [w00, if_true]
          exact o13
      · rw [if_neg c3, if_neg c3]
        exact ⟨_, _, _, _, rfl, rfl, rfl, R⟩
    · rw [if_pos g1, if_neg g3]
      simp only [w10, w00, if_false, if_true]
      exact ⟨_, _, _, _, rfl, rfl, rfl, R⟩
  · rw [if_neg g1]
    simp only [w00, if_true]
    exact ⟨_, _, _, _, rfl, rfl, rfl, R⟩
