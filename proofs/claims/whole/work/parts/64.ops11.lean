/-! CALLS: odds, mean -/
theorem euc {sc sm : PS} {x y z : Int} : ∀ (f : Nat) (a b l5 : Int) (k k' : Nat), f ≤ 16 → 0 ≤ a → a < 2147483648 → 0 ≤ b → b < 2 ^ f → 0 < a ∨ 0 < b → 2 * f + 2 ≤ k → 2 * f + 2 ≤ k' → 0 ≤ l5 → l5 + 2 * f + 1 ≤ 100 → ∃ g, 0 < g ∧ g < 2147483648 ∧ X7_divisor_L5 sm k' a b = some g ∧ X6_lowest_L8 x y z sc k a b l5 = (if wI z = 0 then znz g (some (wI (zdiv x g))) else znz g (some (wI (zdiv y g)))) := by
  have fin : ∀ (a l5 : Int) (k k' : Nat), 0 < a → a < 2147483648 → 0 ≤ l5 → l5 < 100 → ∃ g, 0 < g ∧ g < 2147483648 ∧ X7_divisor_L5 sm (k' + 1) a 0 = some g ∧ X6_lowest_L8 x y z sc (k + 1) a 0 l5 = (if wI z = 0 then znz g (some (wI (zdiv x g))) else znz g (some (wI (zdiv y g)))) := by
    intro a l5 k k' h1 h2 h3 h4
    refine ⟨a, h1, h2, ?_, ?_⟩
    · rw [X7_divisor_L5]; simp only [w00, if_true]
    · rw [X6_lowest_L8, wI_id (z := 100) (by omega) (by omega), wI_id (z := l5) (by omega) (by omega), if_neg (by omega)]
      simp only [w00, if_true]
      rw [wI_id (z := a) (by omega) (by omega), if_neg (by omega)]
  have step : ∀ (a b l5 : Int) (k k' : Nat), 0 ≤ a → a < 2147483648 → 0 < b → b < 2147483648 → 0 ≤ l5 → l5 < 100 → X7_divisor_L5 sm (k' + 1) a b = X7_divisor_L5 sm k' b (a % b) ∧ X6_lowest_L8 x y z sc (k + 1) a b l5 = X6_lowest_L8 x y z sc k b (a % b) (l5 + 1) := by
    intro a b l5 k k' h1 h2 h3 h4 h5 h6
    constructor
    · rw [X7_divisor_L5, wI_id (z := b) (by omega) (by omega), if_neg (by omega), znz_ok (rngs (by omega) (by omega)) (by omega), zrem_nn h1 h2 h3 h4]
    · rw [X6_lowest_L8, wI_id (z := 100) (by omega) (by omega), wI_id (z := l5) (by omega) (by omega), if_neg (by omega : ¬ (100 : Int) ≤ l5), wI_id (z := b) (by omega) (by omega), if_neg (by omega : ¬ b = 0), znz_ok (rngs (by omega) (by omega)) (by omega), zrem_nn h1 h2 h3 h4]
  intro f
  induction f with
  | zero =>
    intro a b l5 k k' hf ha ha' hb hb' hab hk hk' hl hl'
    obtain ⟨k, rfl⟩ : ∃ q, k = q + 1 := ⟨k - 1, by omega⟩
    obtain ⟨k', rfl⟩ : ∃ q, k' = q + 1 := ⟨k' - 1, by omega⟩
    have e : b = 0 := by rw [show (2 : Int) ^ 0 = 1 from rfl] at hb'; omega
    subst e
    exact fin a l5 k k' (by omega) ha' hl (by omega)
  | succ f ih =>
    intro a b l5 k k' hf ha ha' hb hb' hab hk hk' hl hl'
    obtain ⟨k, rfl⟩ : ∃ q, k = q + 1 + 1 := ⟨k - 2, by omega⟩
    obtain ⟨k', rfl⟩ : ∃ q, k' = q + 1 + 1 := ⟨k' - 2, by omega⟩
    have e2 : (2 : Int) ^ (f + 1) = 2 ^ f * 2 := Int.pow_succ 2 f
    have b16 : (2 : Int) ^ (f + 1) ≤ 2 ^ 16 := by
      have := Nat.pow_le_pow_right (n := 2) (by decide) hf
      exact_mod_cast this
    rw [show (2 : Int) ^ 16 = 65536 from rfl] at b16
    by_cases c : b = 0
    · subst c
      exact fin a l5 (k + 1) (k' + 1) (by omega) ha' hl (by omega)
    · obtain ⟨s1, s2⟩ := step a b l5 (k + 1) (k' + 1) ha ha' (by omega) (by omega) hl (by omega)
      rw [s1, s2]
      have r0 : 0 ≤ a % b := Int.emod_nonneg _ c
      have r1 : a % b < b := Int.emod_lt_of_pos _ (by omega)
      generalize a % b = r at r0 r1
      by_cases c' : r = 0
      · subst c'
        exact fin b (l5 + 1) k k' (by omega) (by omega) (by omega) (by omega)
      · obtain ⟨s3, s4⟩ := step b r (l5 + 1) k k' hb (by omega) (by omega) (by omega) (by omega) (by omega)
        rw [s3, s4]
        have q0 : 0 ≤ b % r := Int.emod_nonneg _ c'
        have q1 : b % r < r := Int.emod_lt_of_pos _ (by omega)
        have q2 := Int.mul_ediv_add_emod b r
        have q3 : 1 ≤ b / r := by
          have := Int.le_ediv_of_mul_le (a := 1) (b := b) (c := r) (by omega) (by omega)
          exact this
        have q4 : r * 1 ≤ r * (b / r) := Int.mul_le_mul_of_nonneg_left q3 (by omega)
        exact ih r (b % r) (l5 + 1 + 1) k k' (by omega) (by omega) (by omega) q0 (by omega) (by omega) (by omega) (by omega) (by omega) (by omega)
theorem lowest_eq {sc sm : PS} {x y z : Int} (x0 : 0 ≤ x) (x1 : x < 2147483648) (y0 : 0 < y) (y1 : y < 65536) : ∃ r, X6_lowest sc x y z = some r ∧ X7_lowest sm x y z = some r := by
  obtain ⟨g, g0, g1, g2, g3⟩ := euc (sc := sc) (sm := sm) (x := x) (y := y) (z := z) 16 x y 0 FU FU (by omega) x0 x1 (by omega) (by rw [show (2 : Int) ^ 16 = 65536 from rfl]; omega) (Or.inr y0) (by unfold FU; omega) (by unfold FU; omega) (by omega) (by omega)
  have g3' : X6_lowest sc x y z = _ := g3
  have g2' : X7_divisor sm x y = some g := g2
  unfold X7_lowest
  rw [g3', g2', bI_some, znz_ok (rngs (by omega) (by omega)) (by omega), znz_ok (rngs (by omega) (by omega)) (by omega)]
  by_cases c : wI z = 0
  · rw [if_pos c]; exact ⟨_, rfl, rfl⟩
  · rw [if_neg c]; exact ⟨_, rfl, rfl⟩
theorem isW_c {st : PS} {l : Int} (r : rng l) : X6_isWhich st l = if 0 ≤ l ∧ l ≤ 1 then 1 else 0 := by
  unfold X6_isWhich
  rw [wI_r r, wI_id (z := 1) (by omega) (by omega)]
  by_cases q : l = 0
  · rw [if_pos q, if_pos (by omega)]
  · by_cases q' : l = 1
    · rw [if_neg q, if_pos q', if_pos (by omega)]
    · rw [if_neg q, if_neg q', if_neg (by omega)]
theorem odds_L {sc sm : PS} {n : Nat} {y w p z : Int} {L : Cl} (E : EQ sc sm 20 n y L) (hy : y ≤ 999) (w0 : 0 ≤ w) (w1 : w < n) (p0 : 0 ≤ p) (p1 : p ≤ 99) : ∀ (d k k' i : Nat) (c m : PS) (t : Int), i + d = n → d < k → d < k' → Same sc c clS → Same sm m (smS n) → 0 ≤ t → t ≤ i → ∃ r c' m', X6_odds_L32 w p z k c t i = some (r, c') ∧ X7_odds_L39 w p z k' m t i = some (r, m') ∧ Same sc c' clS ∧ Same sm m' (smS n) := by
  intro d
  induction d with
  | zero =>
    intro k k' i c m t hi hk hk' hS hT h0 h1
    obtain ⟨k, rfl⟩ : ∃ q, k = q + 1 := ⟨k - 1, by omega⟩
    obtain ⟨k', rfl⟩ : ∃ q, k' = q + 1 := ⟨k' - 1, by omega⟩
    have E1 := E.sc hS hT
    have n7 := E1.1.1.2.1
    obtain ⟨r, l1, l2⟩ := lowest_eq (sc := c) (sm := m) (x := t) (y := n) (z := z) h0 (by omega) (by omega) (by omega)
    rw [X6_odds_L32, X7_odds_L39, E1.1.1.1, E1.1.2.1, wI_id (z := (n : Int)) (by omega) (by omega), wI_id (z := (i : Int)) (by omega) (by omega), if_pos (by omega), if_pos (by omega), l1, l2]
    exact ⟨_, _, _, rfl, rfl, hS, hT⟩
  | succ d ih =>
    intro k k' i c m t hi hk hk' hS hT h0 h1
    obtain ⟨k, rfl⟩ : ∃ q, k = q + 1 := ⟨k - 1, by omega⟩
    obtain ⟨k', rfl⟩ : ∃ q, k' = q + 1 := ⟨k' - 1, by omega⟩
    have E1 := E.sc hS hT
    have n7 := E1.1.1.2.1
    obtain ⟨c1, f1, f2, f3⟩ := take_eq E1
    obtain ⟨c4, c5, m5, v5, e1, e2, e3, e4, e5, e6, e7, e8, e9⟩ := gift_eq f2 (g := 9) (w := w) (by omega) (by omega : (0 : Int) ≤ i) (by omega : (i : Int) < n) (by omega) (by omega) (Or.inr ⟨w0, w1⟩)
    rw [if_neg (by omega)] at e3
    have S5 : Same sc c5 clS := (hS.tr (f3.wk fun b j q => cl_tk q) (fun _ _ q => q) (fun _ _ q => q)).tr e5 (fun _ _ q => q) (fun _ _ q => q)
    have T5 : Same sm m5 (smS n) := hT.tr e7 (fun _ _ q => q) (fun _ _ q => q)
    rw [X6_odds_L32, X7_odds_L39, E1.1.1.1, E1.1.2.1, wI_id (z := (n : Int)) (by omega) (by omega), wI_id (z := (i : Int)) (by omega) (by omega), if_neg (by omega), if_neg (by omega), f1, bI_some, e1, bI_some, e2, bI_some, e3, bI_some, e4, bP_some, wI_id (z := v5) (by omega) (by omega), wI_id (z := p) (by omega) (by omega), Int.add_zero]
    by_cases q : v5 < p
    · rw [if_pos q, if_pos q]
      exact ih k k' (i + 1) c5 m5 t (by omega) (by omega) (by omega) S5 T5 h0 (by omega)
    · rw [if_neg q, if_neg q]
      exact ih k k' (i + 1) c5 m5 (t + 1) (by omega) (by omega) (by omega) S5 T5 (by omega) (by omega)
theorem sim_odds : Sim_odds Rel := by
  intro sc sm R a1 a2 a3 r1 r2 r3
  obtain ⟨n, y, L, E, hy⟩ := R.eq
  have n7 := E.1.1.2.1
  have m0 := E.1.2.1
  unfold X6_odds X7_odds
  rw [isH_c E.1.1.1 n7 r1, isH_m m0 n7 r1, isE_c r2, in_l r2 (by decide), isW_c r3, in_l r3 (by decide)]
  by_cases g1 : 0 ≤ a1 ∧ a1 < n
  · by_cases g2 : 0 ≤ a2 ∧ a2 ≤ 99
    · by_cases g3 : 0 ≤ a3 ∧ a3 ≤ 1
      · simp only [if_pos g1, if_pos g2, if_pos g3, w10, if_false]
        obtain ⟨r, c', m', h1, h2, h3, h4⟩ := odds_L (z := a3) E hy g1.1 g1.2 g2.1 g2.2 n FU FU 0 sc sm 0 (by omega) (by unfold FU; omega) (by unfold FU; omega) Same.rf Same.rf (by omega) (by omega)
        exact ⟨r, c', r, m', h1, h2, rfl, R.same h3 (by rw [m0]; exact h4)⟩
      · simp only [if_pos g1, if_pos g2, if_neg g3, w10, w00, if_false, if_true]
        exact ⟨_, _, _, _, rfl, rfl, rfl, R⟩
    · simp only [if_pos g1, if_neg g2, w10, w00, if_false, if_true]
      exact ⟨_, _, _, _, rfl, rfl, rfl, R⟩
  · simp only [if_neg g1, w00, if_true]
    exact ⟨_, _, _, _, rfl, rfl, rfl, R⟩
theorem mean_L {sm : PS} {n K : Nat} {L : Cl} {z : Int} (hK : 1 ≤ K ∧ K ≤ 60) (n1 : 1 ≤ n) : ∀ (d k k' i : Nat) (c m : PS) (y t : Int), i + d = K → d < k → d < k' → EQ c m 40 n y L → c 20 0 = n → y + d ≤ 2000 → KP sm m → sm 0 0 = n → 0 ≤ t → t ≤ 693 * i → ∃ r c' m', X6_mean_L48 K z k c t ((i : Int) + 1) = some (r, c') ∧ X7_mean_L41 K z k' m t i = some (r, m') ∧ Same c c' clS ∧ Same sm m' (smS n) := by
  intro d
  induction d with
  | zero =>
    intro k k' i c m y t hi hk hk' E hc hy Kp hm h0 h1
    obtain ⟨k, rfl⟩ : ∃ q, k = q + 1 := ⟨k - 1, by omega⟩
    obtain ⟨k', rfl⟩ : ∃ q, k' = q + 1 := ⟨k' - 1, by omega⟩
    have n7 := E.1.1.2.1
    obtain ⟨m', a1, a2⟩ := Kp.back (n := n) (by omega)
    have kn : (K : Int) * n ≤ 60 * 7 := Int.mul_le_mul (by omega) (by omega) (by omega) (by omega)
    have kn1 : (1 : Int) * 1 ≤ K * n := Int.mul_le_mul (by omega) (by omega) (by omega) (by omega)
    obtain ⟨r, l1, l2⟩ := lowest_eq (sc := c) (sm := m') (x := t) (y := K * n) (z := z) h0 (by omega) (by omega) (by omega)
    have e0 : m' 0 0 = n := (a2 _ _ (by unfold smS; omega)).trans hm
    rw [X6_mean_L48, X7_mean_L41, hc, wI_id (z := (K : Int)) (by omega) (by omega), wI_id (z := (i : Int) + 1) (by omega) (by omega), wI_id (z := (i : Int)) (by omega) (by omega), if_pos (by omega), if_pos (by omega), a1, bI_some, e0, l1, l2]
    exact ⟨_, _, _, rfl, rfl, Same.rf, a2⟩
  | succ d ih =>
    intro k k' i c m y t hi hk hk' E hc hy Kp hm h0 h1
    obtain ⟨k, rfl⟩ : ∃ q, k = q + 1 := ⟨k - 1, by omega⟩
    obtain ⟨k', rfl⟩ : ∃ q, k' = q + 1 := ⟨k' - 1, by omega⟩
    obtain ⟨c2, m2, b1, b2, b3, b4, b5⟩ := year_eq (by omega) E (by omega)
    obtain ⟨v, q1, q2, q3, q4⟩ := total_eq b3.1
    have Kp2 : KP sm m2 := Kp.go (b5.wk fun b j q => Or.inl q)
    obtain ⟨r, c', m', f1, f2, f3, f4⟩ := ih k k' (i + 1) c2 m2 (y + 1) (t + v) (by omega) (by omega) (by omega) b3 ((b4 _ _ (by unfold goP; omega)).trans hc) (by omega) Kp2 hm (by omega) (by omega)
    rw [X6_mean_L48, X7_mean_L41, wI_id (z := (K : Int)) (by omega) (by omega), wI_id (z := (i : Int) + 1) (by omega) (by omega), wI_id (z := (i : Int)) (by omega) (by omega), if_neg (by omega), if_neg (by omega), b1, bI_some, q1, bI_some, b2, bI_some, q2, bI_some]
    exact ⟨r, c', m', f1, f2, (b4.wk fun b j q => cl_go q).tr f3 (fun _ _ q => q) (fun _ _ q => q), f4⟩
theorem sim_mean : Sim_mean Rel := by
  intro sc sm R a1 a2 r1 r2
  obtain ⟨n, y, L, E, hy⟩ := R.eq
  have n7 := E.1.1.2.1
  have m0 := E.1.2.1
  unfold X6_mean X7_mean
  rw [E.1.1.1, m0, isW_c r2, in_l r1 (by decide), in_l r2 (by decide), wI_r r1, wI_id (z := 1) (by omega) (by omega), wI_id (z := 60) (by omega) (by omega), wI_id (z := (n : Int)) (by omega) (by omega)]
  by_cases g1 : 1 ≤ a1 ∧ a1 ≤ 60
  · rw [if_neg (by omega : ¬ a1 < 1), if_neg (by omega : ¬ 60 < a1), if_pos g1]
    by_cases g2 : 0 ≤ a2 ∧ a2 ≤ 1
    · simp only [if_pos g2, w10, if_false]
      by_cases g3 : n = 0
      · rw [if_pos (by omega), if_pos (by omega)]
        exact ⟨_, _, _, _, rfl, rfl, rfl, R⟩
      · obtain ⟨K, rfl⟩ : ∃ t : Nat, a1 = t := ⟨a1.toNat, by omega⟩
        obtain ⟨c1, d1, d2, d3⟩ := take_eq E
        obtain ⟨m1, e1, e2, e3⟩ := keep_ok sm
        have E1 : EQ c1 m1 40 n y L := d2.same Same.rf e3 (fun b j _ q => q) (fun b j q => by omega)
        obtain ⟨r, c', m', f1, f2, f3, f4⟩ := mean_L (sm := sm) (n := n) (K := K) (z := a2) (by omega) (by omega) K FU FU 0 c1 m1 y 0 (by omega) (by unfold FU; omega) (by unfold FU; omega) E1 ((d3 _ _ (by unfold tkP; omega)).trans E.1.1.1) (by omega) e2 m0 (by omega) (by omega)
        rw [if_neg (by omega), if_neg (by omega), d1, bI_some, e1, bI_some]
        exact ⟨r, c', r, m', f1, f2, rfl, R.same ((d3.wk fun b j q => cl_tk q).tr f3 (fun _ _ q => q) (fun _ _ q => q)) (by rw [m0]; exact f4)⟩
    · simp only [if_neg g2, w10, w00, if_false, if_true]
      exact ⟨_, _, _, _, rfl, rfl, rfl, R⟩
  · rw [if_neg g1]
    simp only [w00, if_true]
    by_cases c : a1 < 1
    · rw [if_pos c]
      exact ⟨_, _, _, _, rfl, rfl, rfl, R⟩
    · rw [if_neg c, if_pos (by omega)]
      exact ⟨_, _, _, _, rfl, rfl, rfl, R⟩
