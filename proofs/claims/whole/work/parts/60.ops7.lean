/-! CALLS: tape, item, read, judge -/
theorem zlet_eq {R : Type} (v : PS) (k : PS → Option R) : zlet v k = k v := rfl
theorem isT_c {st : PS} {l : Int} (r : rng l) : X6_isTape st l = if 0 ≤ l ∧ l ≤ 5 then 1 else 0 := by
  unfold X6_isTape
  rw [wI_r r, wI_id (z := 6) (by omega) (by omega)]
  by_cases c1 : l < 0
  · rw [if_pos c1, if_neg (by omega)]
  · by_cases c2 : 6 ≤ l
    · rw [if_neg c1, if_pos c2, if_neg (by omega)]
    · rw [if_neg c1, if_neg c2, if_pos (by omega)]
theorem isT_m {st : PS} {l : Int} (r : rng l) : X7_isTape st l = if 0 ≤ l ∧ l ≤ 5 then 1 else 0 := in_l r (by decide)
theorem tN {k : Nat} (h : k < 6) : (wI (k : Int)).toNat = k := by rw [wI_id (by omega) (by omega)]; omega
theorem become_L {st : PS} {a : Nat} : ∀ (k i : Nat) (s0 : PS), i ≤ 60 → 60 - i < k → Same st s0 (fun b _ => b = a + 2) → (∀ h : Int, 0 ≤ h → h < i → s0 (a + 2) h = 0) → ∃ s', X4_become_L12 a k s0 i = some s' ∧ Same st s' (fun b _ => b = a + 2) ∧ ∀ h : Int, 0 ≤ h → h < 60 → s' (a + 2) h = 0 := by
  intro k
  induction k with
  | zero => intro i _ _ h; omega
  | succ k ih =>
    intro i s0 hi hk hS hv
    rw [X4_become_L12, wI_id (z := 60) (by omega) (by omega), wI_id (z := (i : Int)) (by omega) (by omega)]
    by_cases h : 60 ≤ i
    · rw [if_pos (by omega)]
      exact ⟨s0, rfl, hS, fun h h1 h2 => hv h h1 (by omega)⟩
    · rw [if_neg (by omega), zwr_ok (by omega) (by omega) (by omega), bI_some]
      refine ih (i + 1) _ (by omega) (by omega) (fun b j hb => (zu_o (by omega)).trans (hS b j hb)) (fun h h1 h2 => ?_)
      by_cases he : h = i
      · rw [he, zu_at]
      · rw [zu_o (by omega)]; exact hv h h1 (by omega)
theorem become_ok {st : PS} {a : Nat} {x y : Int} : ∃ s', X4_become a st x y = some s' ∧ Same st s' (fun b j => (b = a ∧ (j = 0 ∨ j = 1)) ∨ b = a + 2) ∧ s' a 0 = x ∧ s' a 1 = y ∧ ∀ h : Int, 0 ≤ h → h < 60 → s' (a + 2) h = 0 := by
  obtain ⟨s', h1, h2, h3⟩ := become_L (a := a) FU 0 (zu (zu st a 0 x) a 1 y) (by omega) (by unfold FU; omega) Same.rf (fun h h1 h2 => by omega)
  refine ⟨s', by unfold X4_become; rw [zlet_eq, zlet_eq]; exact h1, fun b j hb => ?_, ?_, ?_, h3⟩
  · rw [h2 _ _ (by omega)]; simp (disch := omega) only [zu_o]
  · rw [h2 _ _ (by omega)]; simp (disch := omega) only [zu_o, zu_at]
  · rw [h2 _ _ (by omega), zu_at]
theorem tape69 {st : PS} {t : Nat} (ht : t < 6) : ∀ (k i : Nat) (s0 : PS), i ≤ 60 → 60 - i < k → Same st s0 (fun b j => b = 59 ∧ 60 * t ≤ j ∧ j < 60 * t + 60) → (∀ h : Int, 0 ≤ h → h < i → s0 59 (60 * t + h) = 0) → ∃ s', X7_tape_L69 t k s0 i = some (1, s') ∧ Same st s' (fun b j => b = 59 ∧ 60 * t ≤ j ∧ j < 60 * t + 60) ∧ ∀ h : Int, 0 ≤ h → h < 60 → s' 59 (60 * t + h) = 0 := by
  intro k
  induction k with
  | zero => intro i _ _ h; omega
  | succ k ih =>
    intro i s0 hi hk hS hv
    rw [X7_tape_L69, wI_id (z := 60) (by omega) (by omega), wI_id (z := (i : Int)) (by omega) (by omega)]
    by_cases h : 60 ≤ i
    · rw [if_pos (by omega)]
      exact ⟨s0, rfl, hS, fun h h1 h2 => hv h h1 (by omega)⟩
    · rw [if_neg (by omega), zwr_ok (by omega) (by omega) (by omega), bI_some]
      refine ih (i + 1) _ (by omega) (by omega) (fun b j hb => (zu_o (by omega)).trans (hS b j hb)) (fun h h1 h2 => ?_)
      by_cases he : h = i
      · rw [he, zu_at]
      · rw [zu_o (by omega)]; exact hv h h1 (by omega)
theorem tape_eq {sc sm : PS} (R : Rel sc sm) {t : Nat} (ht : t < 6) {s z : Int} (hs : -1 ≤ s ∧ s ≤ 4) (hz : 0 ≤ z ∧ z ≤ 60) (hsz : s = -1 → z = 0) : ∃ sc' sm', X4_become (200 + 10 * t) sc s z = some sc' ∧ bI (zwr sm 57 6 t s) (fun s1 => bI (zwr s1 58 6 t z) (fun s2 => X7_tape_L69 t FU s2 0)) = some (1, sm') ∧ Rel sc' sm' := by
  obtain ⟨sc', a1, a2, a3, a4, a5⟩ := become_ok (st := sc) (a := 200 + 10 * t) (x := s) (y := z)
  obtain ⟨sm', b1, b2, b3⟩ := tape69 ht FU 0 (zu (zu sm 57 t s) 58 t z) (by omega) (by unfold FU; omega) Same.rf (fun h h1 h2 => by omega)
  refine ⟨sc', sm', a1, ?_, R.tapes (a2.wk fun b j q => by omega) (fun b j hb => by rw [b2 _ _ (by omega)]; simp (disch := omega) only [zu_o]) (fun k hk => ?_)⟩
  · rw [zwr_ok (by omega) (by omega) (by omega), bI_some, zwr_ok (by omega) (by omega) (by omega), bI_some]
    exact b1
  · by_cases e : k = t
    · subst e
      rw [a3, a4]
      refine ⟨hs, hz, hsz, ?_, ?_, fun i i1 i2 => by rw [a5 i i1 i2, b3 i i1 i2]⟩
      · rw [b2 _ _ (by omega)]; simp (disch := omega) only [zu_o, zu_at]
      · rw [b2 _ _ (by omega)]; simp (disch := omega) only [zu_o, zu_at]
    · obtain ⟨u1, u2, u3, u4, u5, u6⟩ := R.2.2.2.2.2.2.2 k hk
      rw [a2 (200 + 10 * k) 0 (by omega), a2 (200 + 10 * k) 1 (by omega), b2 57 k (by omega), b2 58 k (by omega)]
      refine ⟨u1, u2, u3, by simp (disch := omega) only [zu_o]; exact u4, by simp (disch := omega) only [zu_o]; exact u5, fun i i1 i2 => ?_⟩
      rw [a2 _ _ (by omega), b2 _ _ (by omega)]
      simp (disch := omega) only [zu_o]
      exact u6 i i1 i2
theorem sim_tape : Sim_tape Rel := by
  intro sc sm R a1 a2 a3 r1 r2 r3
  unfold X6_tape X7_tape
  rw [isT_c r1, isT_m r1, in_l r2 (by decide), wI_r r2, wI_r r3, wI_id (z := -1) (by omega) (by omega), wI_id (z := 4) (by omega) (by omega), wI_id (z := 60) (by omega) (by omega)]
  by_cases g1 : 0 ≤ a1 ∧ a1 ≤ 5
  · rw [if_pos g1]
    simp only [w10, if_false]
    obtain ⟨t, rfl⟩ : ∃ t : Nat, a1 = t := ⟨a1.toNat, by omega⟩
    rw [tN (by omega)]
    by_cases g2 : -1 ≤ a2 ∧ a2 ≤ 4
    · rw [if_pos g2, if_neg (by omega : ¬ a2 < -1), if_pos g2.2]
      simp only [w10, if_false]
      by_cases g3 : a2 = -1
      · obtain ⟨sc', sm', e1, e2, e3⟩ := tape_eq R (t := t) (s := -1) (z := 0) (by omega) (by omega) (by omega) (fun _ => rfl)
        rw [if_pos g3, zchk_ok (by rw [wI_id (by omega) (by omega)]; omega), e1, bI_some, if_pos (by omega : a2 < 0), if_pos (by omega : a2 < 0)]
        simp only [if_neg (by omega : ¬ 0 ≤ a2)]
        rw [g3]
        exact ⟨_, _, _, _, rfl, e2, rfl, e3⟩
      · rw [if_neg g3, if_neg (by omega : ¬ a2 < 0)]
        by_cases g4 : a3 ≤ 60
        · rw [if_pos g4, if_pos g4, if_neg (by omega : ¬ a2 < 0)]
          by_cases g5 : 0 ≤ a3
          · obtain ⟨sc', sm', e1, e2, e3⟩ := tape_eq R (t := t) (s := a2) (z := a3) (by omega) (by omega) (by omega) (fun q => absurd q g3)
            rw [if_pos g5, if_pos g5, zchk_ok (by rw [wI_id (by omega) (by omega)]; omega), e1, bI_some]
            simp only [if_pos (by omega : 0 ≤ a2)]
            exact ⟨_, _, _, _, rfl, e2, rfl, e3⟩
          · rw [if_neg g5, if_neg g5]
            exact ⟨_, _, _, _, rfl, rfl, rfl, R⟩
        · rw [if_neg g4, if_neg g4]
          exact ⟨_, _, _, _, rfl, rfl, rfl, R⟩
    · rw [if_neg g2]
      simp only [w00, if_true]
      by_cases c : a2 < -1
      · rw [if_pos c]
        exact ⟨_, _, _, _, rfl, rfl, rfl, R⟩
      · rw [if_neg c, if_neg (by omega)]
        exact ⟨_, _, _, _, rfl, rfl, rfl, R⟩
  · rw [if_neg g1]
    simp only [w00, if_true]
    exact ⟨_, _, _, _, rfl, rfl, rfl, R⟩
theorem fit_eq {sc sm : PS} {a : Nat} {x : Int} (h : -1 ≤ sc a 0 ∧ sc a 0 ≤ 4) : X4_fitted a sc x = X7_narrow sm (sc a 0) x := by
  unfold X4_fitted X7_narrow
  rw [wI_id (z := 1) (by omega) (by omega), wI_id (z := 2) (by omega) (by omega), wI_id (z := 4) (by omega) (by omega)]
theorem sim_item : Sim_item Rel := by
  intro sc sm R a1 a2 a3 r1 r2 r3
  unfold X6_item X7_item
  rw [isT_c r1, isT_m r1, wI_r r2, wI_id (z := -1) (by omega) (by omega)]
  by_cases g1 : 0 ≤ a1 ∧ a1 ≤ 5
  · rw [if_pos g1]
    simp only [w10, if_false]
    obtain ⟨t, rfl⟩ : ∃ t : Nat, a1 = t := ⟨a1.toNat, by omega⟩
    obtain ⟨u1, u2, u3, u4, u5, u6⟩ := R.2.2.2.2.2.2.2 t (by omega)
    rw [tN (by omega), zchk_ok (by rw [wI_id (by omega) (by omega)]; omega), zrd_ok (by omega) (by omega) (by omega), bI_some, zrd_ok (by omega) (by omega) (by omega), bI_some, bI_some, u4, u5, in_l r2 (by omega), wI_id (z := sc (200 + 10 * t) 0) (by omega) (by omega), wI_id (z := sc (200 + 10 * t) 1) (by omega) (by omega)]
    by_cases g2 : sc (200 + 10 * t) 0 = -1
    · rw [if_pos g2, if_neg (by omega)]
      exact ⟨_, _, _, _, rfl, rfl, rfl, R⟩
    · rw [if_neg g2, if_pos (by omega : 0 ≤ sc (200 + 10 * t) 0)]
      by_cases g3 : 0 ≤ a2 ∧ a2 ≤ sc (200 + 10 * t) 1 - 1
      · rw [if_neg (by omega : ¬ a2 < 0), if_pos (by omega : a2 < sc (200 + 10 * t) 1), if_pos g3]
        simp only [w10, if_false]
        rw [zwr_ok (by omega) (by omega) (by omega), bI_some, zwr_ok (by omega) (by omega) (by omega), bI_some, fit_eq (sm := sm) u1]
        refine ⟨_, _, _, _, rfl, rfl, rfl, R.tapes (fun b j hb => zu_o (by omega)) (fun b j hb => zu_o (by omega)) (fun k hk => ?_)⟩
        obtain ⟨v1, v2, v3, v4, v5, v6⟩ := R.2.2.2.2.2.2.2 k hk
        simp (disch := omega) only [zu_o]
        refine ⟨v1, v2, v3, v4, v5, fun i i1 i2 => ?_⟩
        by_cases e : k = t ∧ i = a2
        · obtain ⟨rfl, rfl⟩ := e
          rw [zu_at, zu_at]
        · rw [zu_o (by omega), zu_o (by omega)]
          exact v6 i i1 i2
      · rw [if_neg g3]
        simp only [w00, if_true]
        by_cases c : a2 < 0
        · rw [if_pos c]
          exact ⟨_, _, _, _, rfl, rfl, rfl, R⟩
        · rw [if_neg c, if_neg (by omega)]
          exact ⟨_, _, _, _, rfl, rfl, rfl, R⟩
  · rw [if_neg g1]
    simp only [w00, if_true]
    exact ⟨_, _, _, _, rfl, rfl, rfl, R⟩
theorem sim_read : Sim_read Rel := by
  intro sc sm R a1 a2 r1 r2
  unfold X6_read X7_read
  rw [isT_c r1, isT_m r1, wI_r r2]
  by_cases g1 : 0 ≤ a1 ∧ a1 ≤ 5
  · rw [if_pos g1]
    simp only [w10, if_false]
    obtain ⟨t, rfl⟩ : ∃ t : Nat, a1 = t := ⟨a1.toNat, by omega⟩
    obtain ⟨u1, u2, u3, u4, u5, u6⟩ := R.2.2.2.2.2.2.2 t (by omega)
    have z57 : zrd sm 57 6 (t : Int) = some (sc (200 + 10 * t) 0) := by rw [zrd_ok (by omega) (by omega) (by omega), u4]
    have z58 : zrd sm 58 6 (t : Int) = some (sc (200 + 10 * t) 1) := by rw [zrd_ok (by omega) (by omega) (by omega), u5]
    rw [tN (by omega), zchk_ok (by rw [wI_id (by omega) (by omega)]; omega), zchk_ok (by rw [wI_id (by omega) (by omega)]; omega), z57, bI_some, z58, bI_some, in_l r2 (by omega), wI_id (z := sc (200 + 10 * t) 0) (by omega) (by omega), wI_id (z := sc (200 + 10 * t) 1) (by omega) (by omega)]
    by_cases g3 : 0 ≤ a2 ∧ a2 ≤ sc (200 + 10 * t) 1 - 1
    · rw [if_neg (by omega : ¬ a2 < 0), if_pos (by omega : a2 < sc (200 + 10 * t) 1), if_pos g3, if_neg (by omega)]
      simp only [w10, if_false]
      rw [zrd_ok (by omega) (by omega) (by omega), bI_some, zrd_ok (by omega) (by omega) (by omega), bI_some, u6 a2 g3.1 (by omega)]
      exact ⟨_, _, rfl, rfl, rfl, R⟩
    · rw [if_neg g3]
      simp only [w00, if_true]
      have hm : (if sc (200 + 10 * t) 0 < 0 then some (-9223372036854775808 : Int) else some (-9223372036854775808)) = some (-9223372036854775808) := by split <;> rfl
      rw [hm]
      by_cases c : a2 < 0
      · rw [if_pos c]
        exact ⟨_, _, rfl, rfl, rfl, R⟩
      · rw [if_neg c, if_neg (by omega)]
        exact ⟨_, _, rfl, rfl, rfl, R⟩
  · rw [if_neg g1]
    simp only [w00, if_true]
    exact ⟨_, _, rfl, rfl, rfl, R⟩
theorem judge_L {sc sm : PS} (R : Rel sc sm) {t n : Nat} (ht : t < 6) (h0 : sc 20 0 = n) (m0 : sm 0 0 = n) (n7 : n ≤ 7) (hr : ∀ h : Int, 0 ≤ h → h < n → sm 4 h = sc (20 + 5) h) {p : Int} (hp : rng p) : ∀ (k i : Nat), i ≤ n → n - i < k → ∃ r, X6_judge_L38 p (200 + 10 * t) sc k i = some r ∧ X7_judge_L34 t p sm k i = some r := by
  obtain ⟨u1, u2, u3, u4, u5, u6⟩ := R.2.2.2.2.2.2.2 t (by omega)
  intro k
  induction k with
  | zero => intro i _ h; omega
  | succ k ih =>
    intro i hi hk
    obtain ⟨p1, p2⟩ := id hp
    rw [X6_judge_L38, X7_judge_L34, h0, m0, wI_id (z := (n : Int)) (by omega) (by omega), wI_id (z := (i : Int)) (by omega) (by omega), wI_r hp]
    by_cases h : n ≤ i
    · rw [if_pos (by omega), if_pos (by omega)]
      exact ⟨_, rfl, rfl⟩
    · have z57 : zrd sm 57 6 (t : Int) = some (sc (200 + 10 * t) 0) := by rw [zrd_ok (by omega) (by omega) (by omega), u4]
      have z58 : zrd sm 58 6 (t : Int) = some (sc (200 + 10 * t) 1) := by rw [zrd_ok (by omega) (by omega) (by omega), u5]
      rw [if_neg (by omega : ¬ (n : Int) ≤ i), if_neg (by omega : ¬ (n : Int) ≤ i), z57, bI_some, z58, bI_some, wI_id (z := sc (200 + 10 * t) 0) (by omega) (by omega), wI_id (z := sc (200 + 10 * t) 1 - (i : Int)) (by omega) (by omega), wI_id (z := sc (200 + 10 * t) 1 - (i : Int) - 1) (by omega) (by omega)]
      by_cases c1 : p < 0
      · rw [if_pos c1, if_pos c1]
        have hm : (if sc (200 + 10 * t) 0 < 0 then some (100 + (i : Int)) else some (100 + (i : Int))) = some (100 + (i : Int)) := by split <;> rfl
        rw [hm]
        exact ⟨_, rfl, rfl⟩
      · rw [if_neg c1, if_neg c1]
        by_cases c2 : p < sc (200 + 10 * t) 1 - (i : Int)
        · rw [if_pos c2, if_neg (by omega), if_pos (by omega), zrd_ok (by omega) (by omega) (by omega), bI_some, zrd_ok (by omega) (by omega) (by omega), bI_some, zrd_ok (by omega) (by omega) (by omega), bI_some, zrd_ok (by omega) (by omega) (by omega), bI_some, hr i (by omega) (by omega), show 60 * (t : Int) + p + (i : Int) = 60 * t + (p + i) by omega, u6 (p + i) (by omega) (by omega)]
          by_cases c3 : wI (zcmp (sc (200 + 10 * t + 2) (p + i)) (wI (sc (20 + 5) i))) = 0
          · rw [if_pos c3, if_pos c3]
            exact ih (i + 1) (by omega) (by omega)
          · rw [if_neg c3, if_neg c3]
            exact ⟨_, rfl, rfl⟩
        · rw [if_neg c2, if_neg (by omega : ¬ p ≤ sc (200 + 10 * t) 1 - (i : Int) - 1)]
          have hm : (if sc (200 + 10 * t) 0 < 0 then some (100 + (i : Int)) else some (100 + (i : Int))) = some (100 + (i : Int)) := by split <;> rfl
          rw [hm]
          exact ⟨_, rfl, rfl⟩
theorem sim_judge : Sim_judge Rel := by
  intro sc sm R a1 a2 r1 r2
  obtain ⟨n, y, L, E, hy⟩ := R.eq
  obtain ⟨⟨⟨t1, n7, t3, t4, t5, t6⟩, m0, m1, h3⟩, -⟩ := E
  unfold X6_judge X7_judge
  rw [isT_c r1, isT_m r1, wI_id (z := -1) (by omega) (by omega), wI_id (z := 1) (by omega) (by omega)]
  by_cases g1 : 0 ≤ a1 ∧ a1 ≤ 5
  · rw [if_pos g1]
    simp only [w10, if_false]
    obtain ⟨t, rfl⟩ : ∃ t : Nat, a1 = t := ⟨a1.toNat, by omega⟩
    obtain ⟨u1, u2, u3, u4, u5, u6⟩ := R.2.2.2.2.2.2.2 t (by omega)
    obtain ⟨r, e1, e2⟩ := judge_L R (t := t) (by omega) t1 m0 n7 (fun h q1 q2 => (h3 h q1 q2).2.2.1) r2 FU 0 (by omega) (by unfold FU; omega)
    have e1' : X6_judge_L38 a2 (200 + 10 * t) sc FU 0 = some r := e1
    have e2' : X7_judge_L34 t a2 sm FU 0 = some r := e2
    rw [tN (by omega), zchk_ok (by rw [wI_id (by omega) (by omega)]; omega), zrd_ok (by omega) (by omega) (by omega), bI_some, bI_some, u4, wI_id (z := sc (200 + 10 * t) 0) (by omega) (by omega), e1', e2']
    by_cases g2 : sc (200 + 10 * t) 0 = -1
    · rw [if_pos g2, if_pos (by omega)]
      exact ⟨_, _, rfl, rfl, rfl, R⟩
    · rw [if_neg g2, if_neg (by omega : ¬ sc (200 + 10 * t) 0 < 0)]
      by_cases g3 : sc (200 + 10 * t) 0 = 1
      · rw [if_pos g3]
        exact ⟨_, _, rfl, rfl, rfl, R⟩
      · rw [if_neg g3]
        exact ⟨_, _, rfl, rfl, rfl, R⟩
  · rw [if_neg g1]
    simp only [w00, if_true]
    exact ⟨_, _, rfl, rfl, rfl, R⟩
