/-! CALLS: at, gift, best -/
theorem EQ.sc {sc sm c m : PS} {n : Nat} {y : Int} {L : Cl} (E : EQ sc sm 20 n y L) (hS : Same sc c clS) (hT : Same sm m (smS n)) : EQ c m 20 n y L := E.same hS hT (fun b j q => by unfold clS; omega) (fun b j q => by unfold smS; omega)
theorem cl_tk {b : Nat} {j : Int} (q : tkP 40 b j) : clS b j := by revert q; unfold tkP clS; omega
theorem cl_go {b : Nat} {j : Int} (q : goP 40 b j) : clS b j := by revert q; unfold goP clS; omega
theorem sim_at : Sim_at Rel := by
  intro sc sm R a1 a2 r1 r2
  obtain ⟨n, y, L, E, hy⟩ := R.eq
  obtain ⟨t1, n7, t3, t4, t5, t6⟩ := id E.1.1
  have m0 := E.1.2.1
  unfold X6_at X7_at
  rw [isH_c t1 n7 r2, m0, in_l r2 (by omega), in_l r1 (by decide), wI_r r1, wI_r r2, wI_id (z := 10) (by omega) (by omega), wI_id (z := 60) (by omega) (by omega)]
  have key : ∀ hw : a2 = 10 ∨ (0 ≤ a2 ∧ a2 < n), 0 ≤ a1 → a1 ≤ 60 → ∃ c1 c2 v m', X5_takeFrom 40 20 sc = some c1 ∧ X5_go 40 c1 a1 = some c2 ∧ (if a2 = 10 then X5_total 40 c2 else zrd c2 (40 + 5) 7 a2) = some v ∧ X7_earnsThen sm a1 a2 = some (v, m') ∧ Rel c2 m' := by
    intro hw h1 h2
    obtain ⟨K, rfl⟩ : ∃ K : Nat, a1 = K := ⟨a1.toNat, by omega⟩
    obtain ⟨c1, d1, d2, d3⟩ := take_eq E
    obtain ⟨c2, m', v, e1, e2, e3, e4, e5, e6, -⟩ := earns_eq d2 (K := K) (by omega) (by omega) hw
    exact ⟨c1, c2, v, m', d1, e1, e2, e3, R.same ((d3.wk fun b j q => cl_tk q).tr (e4.wk fun b j q => cl_go q) (fun _ _ q => q) (fun _ _ q => q)) (by rw [m0]; exact e6)⟩
  by_cases gk : 0 ≤ a1 ∧ a1 ≤ 60
  · rw [if_neg (by omega : ¬ a1 < 0), if_pos (by omega : a1 ≤ 60), if_pos gk]
    by_cases g : 0 ≤ a2 ∧ a2 < n
    · obtain ⟨c1, c2, v, m', d1, d2, d3, d4, d5⟩ := key (Or.inr g) gk.1 gk.2
      rw [if_neg (by omega)] at d3
      rw [if_pos g, if_pos (by omega : 0 ≤ a2 ∧ a2 ≤ (n : Int) - 1), d1, d4]
      simp only [w10, if_false, bI_some, bP_some, d2, d3]
      exact ⟨_, _, _, _, rfl, rfl, rfl, d5⟩
    · rw [if_neg g, if_neg (by omega : ¬ (0 ≤ a2 ∧ a2 ≤ (n : Int) - 1))]
      simp only [w00, if_true]
      by_cases g10 : a2 = 10
      · obtain ⟨c1, c2, v, m', d1, d2, d3, d4, d5⟩ := key (Or.inl g10) gk.1 gk.2
        rw [if_pos g10] at d3
        rw [if_pos g10, if_pos g10, d1, d4]
        simp only [w10, if_false, bI_some, bP_some, d2, d3]
        exact ⟨_, _, _, _, rfl, rfl, rfl, d5⟩
      · rw [if_neg g10, if_neg g10]
        exact ⟨_, _, _, _, rfl, rfl, rfl, R⟩
  · rw [if_neg gk]
    have hc : ∀ {A B : Option (Int × PS)}, (if a1 < 0 then A else if a1 ≤ 60 then B else A) = A := by
      intro A B
      by_cases g5 : a1 < 0
      · rw [if_pos g5]
      · rw [if_neg g5, if_neg (by omega)]
    rw [hc]
    simp only [w00, if_true]
    by_cases g : 0 ≤ a2 ∧ a2 < n
    · rw [if_pos g, if_pos (by omega : 0 ≤ a2 ∧ a2 ≤ (n : Int) - 1)]
      simp only [w10, if_false]
      exact ⟨_, _, _, _, rfl, rfl, rfl, R⟩
    · rw [if_neg g, if_neg (by omega : ¬ (0 ≤ a2 ∧ a2 ≤ (n : Int) - 1))]
      simp only [w00, if_true]
      by_cases g10 : a2 = 10
      · rw [if_pos g10, if_pos g10]
        exact ⟨_, _, _, _, rfl, rfl, rfl, R⟩
      · rw [if_neg g10, if_neg g10]
        exact ⟨_, _, _, _, rfl, rfl, rfl, R⟩
/-- a gift of g to house h, and then K years -/
theorem gift_eq {sc sm : PS} {n : Nat} {y : Int} {L : Cl} (E : EQ sc sm 40 n y L) (hy : y + 40 ≤ 2000) {h g w : Int} (h0 : 0 ≤ h) (h1 : h < n) (g0 : 0 ≤ g) (g1 : g ≤ 99) (hw : w = 10 ∨ (0 ≤ w ∧ w < n)) : ∃ c1 c2 m' v, X5_give 40 sc h g = some c1 ∧ X5_go 40 c1 40 = some c2 ∧ (if w = 10 then X5_total 40 c2 else zrd c2 (40 + 5) 7 w) = some v ∧ X7_withGift sm h g w = some (v, m') ∧ Same sc c2 clS ∧ TW c2 40 n (y + 40) ∧ Same sm m' (smS n) ∧ 0 ≤ v ∧ v ≤ 693 := by
  obtain ⟨⟨T, m0, m1, h3⟩, hTS, hMT, h24⟩ := id E
  obtain ⟨t1, n7, t3, t4, t5, t6⟩ := id T
  have eh := (h3 h h0 h1).2.2.1
  have rh := T.erng h h0 h1
  rw [show (2 : Nat) + 2 = 4 from rfl] at eh
  have E1 : EQ (zu sc (40 + 5) h (min 99 (sc (40 + 5) h + g))) (zu sm 4 h (min 99 (sc (40 + 5) h + g))) 40 n y L := by
    refine ⟨⟨⟨by rw [zu_o (by omega)]; exact t1, n7, by rw [zu_o (by omega)]; exact t3, t4, t5, fun o q1 q2 => ?_⟩, by rw [zu_o (by omega)]; exact m0, by rw [zu_o (by omega)]; exact m1, fun o q1 q2 => ?_⟩, hTS.same (P := fun b j => b = 45) (fun b j hb => zu_o (by omega)) (by omega) (fun b j z1 z2 => by omega), hMT.same (P := fun b j => b = 4) (fun b j hb => zu_o (by omega)) (by omega) (fun b j z1 z2 => by omega), by rw [zu_o (by omega)]; exact h24⟩
    · obtain ⟨v1, v2, v3, v4⟩ := t6 o q1 q2
      refine ⟨by rw [zu_o (by omega)]; exact v1, by rw [zu_o (by omega)]; exact v2, ?_, fun p p1 p2 => by rw [zu_o (by omega)]; exact v4 p p1 p2⟩
      by_cases he : o = h
      · rw [he, zu_at]; omega
      · rw [zu_o (by omega)]; exact v3
    · obtain ⟨v1, v2, v3, v4⟩ := h3 o q1 q2
      refine ⟨by rw [zu_o (by omega), zu_o (by omega)]; exact v1, by rw [zu_o (by omega), zu_o (by omega)]; exact v2, ?_, fun p p1 p2 => by rw [zu_o (by omega), zu_o (by omega)]; exact v4 p p1 p2⟩
      by_cases he : o = h
      · rw [he, zu_at, zu_at]
      · rw [zu_o (by omega), zu_o (by omega)]; exact v3
  obtain ⟨c2, m2, v, b1, b2, b3, b4, b5, b6, b7, b8⟩ := earns_eq E1 (K := 40) (by omega) (by omega) hw
  refine ⟨_, c2, zu m2 4 h (sm 4 h), v, ?_, b1, b2, ?_, fun b j hb => ?_, b5, fun b j hb => ?_, b7, b8⟩
  · unfold X5_give
    rw [zrd_ok (by omega) (by omega) (by omega), bI_some, zmin_ok (rngs (by omega) (by omega)) (rngs (by omega) (by omega)), zwr_ok (by omega) (by omega) (by omega), bI_some]
  · unfold X7_withGift
    rw [zrd_ok (by omega) (by omega) (by omega), bI_some, eh, least_ok (rngs (by omega) (by omega)) (rngs (by omega) (by omega)), zwr_ok (by omega) (by omega) (by omega), bI_some]
    have b3' : X7_earnsThen (zu sm 4 h (min 99 (sc (40 + 5) h + g))) 40 w = some (v, m2) := b3
    rw [b3', bP_some, zwr_ok (by omega) (by omega) (by omega), bI_some]
  · rw [b4 b j (fun q => hb (cl_go q)), zu_o (by unfold clS at hb; omega)]
  · by_cases he : b = 4 ∧ j = h
    · obtain ⟨rfl, rfl⟩ := he
      exact zu_at
    · rw [zu_o (by omega), b6 b j hb, zu_o (by omega)]
theorem sim_gift : Sim_gift Rel := by
  intro sc sm R a1 a2 a3 r1 r2 r3
  obtain ⟨n, y, L, E, hy⟩ := R.eq
  obtain ⟨t1, n7, t3, t4, t5, t6⟩ := id E.1.1
  have m0 := E.1.2.1
  have w3 : X6_isWhich sc a3 = if 0 ≤ a3 ∧ a3 ≤ 1 then 1 else 0 := by
    unfold X6_isWhich
    rw [wI_r r3, wI_id (z := 1) (by omega) (by omega)]
    by_cases q : a3 = 0
    · rw [if_pos q, if_pos (by omega)]
    · by_cases q' : a3 = 1
      · rw [if_neg q, if_pos q', if_pos (by omega)]
      · rw [if_neg q, if_neg q', if_neg (by omega)]
  unfold X6_gift X7_gift
  rw [isH_c t1 n7 r1, isH_m m0 n7 r1, w3, isE_c r2, in_l r3 (by decide), in_l r2 (by decide), wI_r r3]
  by_cases g1 : 0 ≤ a1 ∧ a1 < n
  · by_cases g3 : 0 ≤ a3 ∧ a3 ≤ 1
    · by_cases g2 : 0 ≤ a2 ∧ a2 ≤ 99
      · simp only [if_pos g1, if_pos g2, if_pos g3, w10, if_false]
        have hw : (if a3 = 0 then a1 else 10) = 10 ∨ (0 ≤ (if a3 = 0 then a1 else 10) ∧ (if a3 = 0 then a1 else 10) < (n : Int)) := by
          by_cases q : a3 = 0
          · rw [if_pos q]; exact Or.inr g1
          · rw [if_neg q]; exact Or.inl rfl
        obtain ⟨c1, d1, d2, d3⟩ := take_eq E
        obtain ⟨c2, m2, v, b1, b2, b3, b4, b5, b6, b7, b8⟩ := earns_eq d2 (K := 40) (by omega) (by omega) hw
        have S2 : Same sc c2 clS := (d3.wk fun b j q => cl_tk q).tr (b4.wk fun b j q => cl_go q) (fun _ _ q => q) (fun _ _ q => q)
        obtain ⟨c3, f1, f2, f3⟩ := take_eq (E.sc S2 Same.rf)
        obtain ⟨c4, c5, m5, v5, e1, e2, e3, e4, e5, e6, e7, e8, e9⟩ := gift_eq f2 (by omega) g1.1 g1.2 g2.1 g2.2 hw
        have E1 : EQ c1 m5 40 n y L := d2.same Same.rf e7 (fun b j _ q => q) (fun b j q => by unfold smS; omega)
        obtain ⟨c2', m6, v', k1, k2, k3, k4, k5, k6, k7, k8⟩ := earns_eq E1 (K := 40) (by omega) (by omega) hw
        have ec : c2' = c2 := Option.some.inj (k1.symm.trans b1)
        subst ec
        have ev : v' = v := Option.some.inj (k2.symm.trans b2)
        subst ev
        have b1' : X5_go 40 c1 40 = some c2' := b1
        have k3' : X7_earnsThen m5 40 (if a3 = 0 then a1 else 10) = some (v', m6) := k3
        have S5 : Same sc c5 clS := (S2.tr (f3.wk fun b j q => cl_tk q) (fun _ _ q => q) (fun _ _ q => q)).tr e5 (fun _ _ q => q) (fun _ _ q => q)
        rw [d1, bI_some, b1', bI_some, total_ok b5, bI_some, zrd_ok (by omega) (by omega) (by omega), bI_some, f1, bI_some, e1, bI_some, e2, bI_some, total_ok e6, bI_some, e4, bP_some, k3', bP_some]
        have R' : Rel c5 m6 := R.same S5 (by rw [m0]; exact e7.tr k6 (fun _ _ q => q) (fun _ _ q => q))
        by_cases q : a3 = 0
        · rw [if_pos q] at b2 e3
          have hn10 : a1 ≠ 10 := by omega
          rw [if_neg hn10, zrd_ok (by omega) (by omega) (by omega)] at b2 e3
          rw [if_pos q, zrd_ok (by omega) (by omega) (by omega), bI_some, Option.some.inj b2, Option.some.inj e3]
          exact ⟨_, _, _, _, rfl, rfl, rfl, R'⟩
        · rw [if_neg q, if_pos rfl] at b2 e3
          rw [total_ok b5] at b2
          rw [total_ok e6] at e3
          rw [if_neg q, Option.some.inj b2, Option.some.inj e3]
          exact ⟨_, _, _, _, rfl, rfl, rfl, R'⟩
      · simp only [if_pos g1, if_neg g2, if_pos g3, w10, w00, if_false, if_true]
        exact ⟨_, _, _, _, rfl, rfl, rfl, R⟩
    · simp only [if_pos g1, if_neg g3, w10, w00, if_false, if_true]
      exact ⟨_, _, _, _, rfl, rfl, rfl, R⟩
  · simp only [if_neg g1, w00, if_true]
    exact ⟨_, _, _, _, rfl, rfl, rfl, R⟩
theorem best_L {sc sm : PS} {n : Nat} {y g : Int} {L : Cl} (E : EQ sc sm 20 n y L) (hy : y ≤ 999) (g0 : 0 ≤ g) (g1 : g ≤ 99) : ∀ (d k k' i : Nat) (c m : PS) (b tc tm : Int), i + d = n → d < k → d < k' → Same sc c clS → Same sm m (smS n) → ((b = -5 ∧ tc = -1) ∨ (0 ≤ b ∧ b ≤ 7 ∧ tc = tm ∧ 0 ≤ tc ∧ tc ≤ 693)) → ∃ r c' m', X6_best_L18 g k c b tc i = some (r, c') ∧ X7_best_L22 g k' m b tm i = some (r, m') ∧ Same sc c' clS ∧ Same sm m' (smS n) := by
  intro d
  induction d with
  | zero =>
    intro k k' i c m b tc tm hi hk hk' hS hT hI
    obtain ⟨k, rfl⟩ : ∃ q, k = q + 1 := ⟨k - 1, by omega⟩
    obtain ⟨k', rfl⟩ : ∃ q, k' = q + 1 := ⟨k' - 1, by omega⟩
    have E1 := E.sc hS hT
    have n7 := E1.1.1.2.1
    rw [X6_best_L18, X7_best_L22, E1.1.1.1, E1.1.2.1, wI_id (z := (n : Int)) (by omega) (by omega), wI_id (z := (i : Int)) (by omega) (by omega), if_pos (by omega), if_pos (by omega)]
    exact ⟨_, _, _, rfl, rfl, hS, hT⟩
  | succ d ih =>
    intro k k' i c m b tc tm hi hk hk' hS hT hI
    obtain ⟨k, rfl⟩ : ∃ q, k = q + 1 := ⟨k - 1, by omega⟩
    obtain ⟨k', rfl⟩ : ∃ q, k' = q + 1 := ⟨k' - 1, by omega⟩
    have E1 := E.sc hS hT
    have n7 := E1.1.1.2.1
    obtain ⟨c1, f1, f2, f3⟩ := take_eq E1
    obtain ⟨c4, c5, m5, v5, e1, e2, e3, e4, e5, e6, e7, e8, e9⟩ := gift_eq f2 (w := 10) (by omega) (by omega : (0 : Int) ≤ i) (by omega : (i : Int) < n) g0 g1 (Or.inl rfl)
    rw [if_pos rfl] at e3
    have S5 : Same sc c5 clS := (hS.tr (f3.wk fun b j q => cl_tk q) (fun _ _ q => q) (fun _ _ q => q)).tr e5 (fun _ _ q => q) (fun _ _ q => q)
    have T5 : Same sm m5 (smS n) := hT.tr e7 (fun _ _ q => q) (fun _ _ q => q)
    rw [X6_best_L18, X7_best_L22, E1.1.1.1, E1.1.2.1, wI_id (z := (n : Int)) (by omega) (by omega), wI_id (z := (i : Int)) (by omega) (by omega), if_neg (by omega), if_neg (by omega), f1, bI_some, e1, bI_some, e2, bI_some, e3, bI_some, e4, bP_some, wI_id (z := v5) (by omega) (by omega)]
    have nx : ∀ b' t' t'', ((b' = -5 ∧ t' = -1) ∨ (0 ≤ b' ∧ b' ≤ 7 ∧ t' = t'' ∧ 0 ≤ t' ∧ t' ≤ 693)) → ∃ r c' m', X6_best_L18 g k c5 b' t' ((i : Int) + 1) = some (r, c') ∧ X7_best_L22 g k' m5 b' t'' ((i : Int) + 1) = some (r, m') ∧ Same sc c' clS ∧ Same sm m' (smS n) := fun b' t' t'' h => ih k k' (i + 1) c5 m5 b' t' t'' (by omega) (by omega) (by omega) S5 T5 h
    rcases hI with ⟨rfl, rfl⟩ | ⟨i1, i2, rfl, i3, i4⟩
    · rw [wI_id (z := -1) (by omega) (by omega), wI_id (z := -5) (by omega) (by omega), if_neg (by omega : ¬ v5 ≤ -1), if_pos (by omega : (-5 : Int) < 0)]
      exact nx _ _ _ (Or.inr ⟨by omega, by omega, rfl, e8, e9⟩)
    · rw [wI_id (z := tc) (by omega) (by omega), wI_id (z := b) (by omega) (by omega), if_neg (by omega : ¬ b < 0)]
      by_cases q : v5 ≤ tc
      · rw [if_pos q, if_neg (by omega)]
        exact nx _ _ _ (Or.inr ⟨by omega, by omega, rfl, i3, i4⟩)
      · rw [if_neg q, if_pos (by omega)]
        exact nx _ _ _ (Or.inr ⟨by omega, by omega, rfl, e8, e9⟩)
theorem sim_best : Sim_best Rel := by
  intro sc sm R a1 r1
  obtain ⟨n, y, L, E, hy⟩ := R.eq
  have n7 := E.1.1.2.1
  have m0 := E.1.2.1
  unfold X6_best X7_best
  rw [isE_c r1, in_l r1 (by decide)]
  by_cases g1 : 0 ≤ a1 ∧ a1 ≤ 99
  · simp only [if_pos g1, w10, if_false]
    obtain ⟨r, c', m', h1, h2, h3, h4⟩ := best_L E hy g1.1 g1.2 n FU FU 0 sc sm (-5) (-1) 0 (by omega) (by unfold FU; omega) (by unfold FU; omega) Same.rf Same.rf (Or.inl ⟨rfl, rfl⟩)
    exact ⟨r, c', r, m', h1, h2, rfl, R.same h3 (by rw [m0]; exact h4)⟩
  · simp only [if_neg g1, w00, if_true]
    exact ⟨_, _, _, _, rfl, rfl, rfl, R⟩
