/-! THE MODEL'S ROWS KEPT AND PUT BACK -/
theorem keep_L {st : PS} : ∀ (k i : Nat) (s0 : PS), i ≤ 8 → 8 - i < k → Same st s0 (fun b _ => b = 28) → (∀ h : Int, 0 ≤ h → h < i → s0 28 h = st 4 h) → ∃ s', X7_keep_L2 k s0 i = some s' ∧ Same st s' (fun b j => b = 28 ∨ (b = 0 ∧ j = 29)) ∧ (∀ h : Int, 0 ≤ h → h < 8 → s' 28 h = st 4 h) ∧ s' 0 29 = st 0 1 := by
  intro k
  induction k with
  | zero => intro i _ _ h; omega
  | succ k ih =>
    intro i s0 hi hk hS hv
    rw [X7_keep_L2, wI_id (z := 8) (by omega) (by omega), wI_id (z := (i : Int)) (by omega) (by omega)]
    by_cases h : 8 ≤ i
    · rw [if_pos (by omega)]
      exact ⟨zu s0 0 29 (s0 0 1), rfl, fun b j hb => (zu_o (by omega)).trans (hS b j (by omega)), fun h h1 h2 => (zu_o (by omega)).trans (hv h h1 (by omega)), zu_at.trans (hS _ _ (by omega))⟩
    · rw [if_neg (by omega), zrd_ok (by omega) (by omega) (by omega), bI_some, zwr_ok (by omega) (by omega) (by omega), bI_some]
      refine ih (i + 1) _ (by omega) (by omega) (fun b j hb => (zu_o (by omega)).trans (hS b j hb)) (fun h h1 h2 => ?_)
      by_cases he : h = i
      · rw [he, zu_at]; exact hS _ _ (by omega)
      · rw [zu_o (by omega)]; exact hv h h1 (by omega)
theorem back_L {st : PS} : ∀ (k i : Nat) (s0 : PS), i ≤ 8 → 8 - i < k → Same st s0 (fun b _ => b = 4) → (∀ h : Int, 0 ≤ h → h < i → s0 4 h = st 28 h) → ∃ s', X7_putBack_L2 k s0 i = some s' ∧ Same st s' (fun b j => b = 4 ∨ (b = 0 ∧ j = 1)) ∧ (∀ h : Int, 0 ≤ h → h < 8 → s' 4 h = st 28 h) ∧ s' 0 1 = st 0 29 := by
  intro k
  induction k with
  | zero => intro i _ _ h; omega
  | succ k ih =>
    intro i s0 hi hk hS hv
    rw [X7_putBack_L2, wI_id (z := 8) (by omega) (by omega), wI_id (z := (i : Int)) (by omega) (by omega)]
    by_cases h : 8 ≤ i
    · rw [if_pos (by omega)]
      exact ⟨zu s0 0 1 (s0 0 29), rfl, fun b j hb => (zu_o (by omega)).trans (hS b j (by omega)), fun h h1 h2 => (zu_o (by omega)).trans (hv h h1 (by omega)), zu_at.trans (hS _ _ (by omega))⟩
    · rw [if_neg (by omega), zrd_ok (by omega) (by omega) (by omega), bI_some, zwr_ok (by omega) (by omega) (by omega), bI_some]
      refine ih (i + 1) _ (by omega) (by omega) (fun b j hb => (zu_o (by omega)).trans (hS b j hb)) (fun h h1 h2 => ?_)
      by_cases he : h = i
      · rw [he, zu_at]; exact hS _ _ (by omega)
      · rw [zu_o (by omega)]; exact hv h h1 (by omega)
/-- m has gone on from sm, which is kept -/
abbrev kpP (b : Nat) (j : Int) : Prop := b = 4 ∨ b = 23 ∨ b = 25 ∨ b = 27 ∨ b = 28 ∨ b = 31 ∨ (b = 0 ∧ (j = 1 ∨ j = 26 ∨ j = 29))
def KP (sm m : PS) : Prop := Same sm m kpP ∧ (∀ h : Int, 0 ≤ h → h < 8 → m 28 h = sm 4 h) ∧ m 0 29 = sm 0 1
theorem keep_ok (sm : PS) : ∃ m, X7_keep sm = some m ∧ KP sm m ∧ Same sm m (fun b j => b = 28 ∨ (b = 0 ∧ j = 29)) := by
  obtain ⟨m, h1, h2, h3, h4⟩ := keep_L (st := sm) FU 0 sm (by omega) (by unfold FU; omega) Same.rf (fun h h1 h2 => by omega)
  exact ⟨m, h1, ⟨h2.wk (fun b j q => by unfold kpP; omega), h3, h4⟩, h2⟩
theorem KP.go {sm m m' : PS} (h : KP sm m) (hS : Same m m' (fun b j => mG b j ∨ b = 31)) : KP sm m' := by
  obtain ⟨h1, h2, h3⟩ := h
  refine ⟨h1.tr hS (fun _ _ q => q) (fun b j q => by revert q; unfold mG kpP; omega), fun h a1 a2 => (hS _ _ (by unfold mG; omega)).trans (h2 h a1 a2), (hS _ _ (by unfold mG; omega)).trans h3⟩
theorem KP.back {sm m : PS} (h : KP sm m) {n : Int} (hn : n ≤ 7) : ∃ m', X7_putBack m = some m' ∧ Same sm m' (smS n) := by
  obtain ⟨h1, h2, h3⟩ := h
  obtain ⟨m', a1, a2, a3, a4⟩ := back_L (st := m) FU 0 m (by omega) (by unfold FU; omega) Same.rf (fun h h1 h2 => by omega)
  refine ⟨m', a1, fun b j hb => ?_⟩
  by_cases g : b = 4 ∧ 0 ≤ j ∧ j < 8
  · obtain ⟨rfl, g1, g2⟩ := g
    exact (a3 j g1 g2).trans (h2 j g1 g2)
  · by_cases g' : b = 0 ∧ j = 1
    · obtain ⟨rfl, rfl⟩ := g'
      exact a4.trans h3
    · unfold smS at hb
      exact (a2 b j (by omega)).trans (h1 b j (by unfold kpP; omega))
theorem then_L64 {st : PS} {w v : Int} {n : Int} (hn : n ≤ 8) : ∀ (k i : Nat) (s0 : PS), i ≤ 8 → 8 - i < k → Same st s0 (fun b j => b = 4 ∨ b = 23 ∨ b = 25 ∨ b = 27 ∨ b = 30 ∨ (b = 0 ∧ (j = 1 ∨ j = 26))) → (∀ h : Int, 0 ≤ h → h < 8 → s0 30 h = st 4 h) → (∀ h : Int, 0 ≤ h → h < i → s0 4 h = st 4 h) → w = st 0 1 → ∃ s', X7_earnsThen_L64 w v k s0 i = some (v, s') ∧ Same st s' (smS n) := by
  intro k
  induction k with
  | zero => intro i _ _ h; omega
  | succ k ih =>
    intro i s0 hi hk hS hv hw he
    rw [X7_earnsThen_L64, wI_id (z := 8) (by omega) (by omega), wI_id (z := (i : Int)) (by omega) (by omega)]
    by_cases h : 8 ≤ i
    · rw [if_pos (by omega)]
      refine ⟨zu s0 0 1 w, rfl, fun b j hb => ?_⟩
      by_cases g' : b = 0 ∧ j = 1
      · obtain ⟨rfl, rfl⟩ := g'
        exact zu_at.trans he
      · rw [zu_o (by omega)]
        by_cases g : b = 4 ∧ 0 ≤ j ∧ j < 8
        · obtain ⟨rfl, g1, g2⟩ := g
          exact hw j g1 (by omega)
        · unfold smS at hb
          exact hS b j (by omega)
    · rw [if_neg (by omega), zrd_ok (by omega) (by omega) (by omega), bI_some, zwr_ok (by omega) (by omega) (by omega), bI_some]
      refine ih (i + 1) _ (by omega) (by omega) (fun b j hb => (zu_o (by omega)).trans (hS b j hb)) (fun h h1 h2 => (zu_o (by omega)).trans (hv h h1 h2)) (fun h h1 h2 => ?_) he
      by_cases he : h = i
      · rw [he, zu_at]; exact hv _ (by omega) (by omega)
      · rw [zu_o (by omega)]; exact hw h h1 (by omega)
theorem then_L8 {st : PS} {K w y : Int} : ∀ (k i : Nat) (s0 : PS), i ≤ 8 → 8 - i < k → Same st s0 (fun b _ => b = 30) → (∀ h : Int, 0 ≤ h → h < i → s0 30 h = st 4 h) → ∃ s', X7_earnsThen_L8 K w y k s0 i = (bI (X7_goYears s' K) (fun s1 => if wI w = wI 10 then bI (X7_allEarn s1) (fun v2 => X7_earnsThen_L64 y v2 FU s1 0) else (bI (zrd s1 4 8 w) (fun v4 => X7_earnsThen_L64 y v4 FU s1 0)))) ∧ Same st s' (fun b _ => b = 30) ∧ ∀ h : Int, 0 ≤ h → h < 8 → s' 30 h = st 4 h := by
  intro k
  induction k with
  | zero => intro i _ _ h; omega
  | succ k ih =>
    intro i s0 hi hk hS hv
    rw [X7_earnsThen_L8, wI_id (z := 8) (by omega) (by omega), wI_id (z := (i : Int)) (by omega) (by omega)]
    by_cases h : 8 ≤ i
    · rw [if_pos (by omega)]
      exact ⟨s0, rfl, hS, fun h h1 h2 => hv h h1 (by omega)⟩
    · rw [if_neg (by omega), zrd_ok (by omega) (by omega) (by omega), bI_some, zwr_ok (by omega) (by omega) (by omega), bI_some]
      refine ih (i + 1) _ (by omega) (by omega) (fun b j hb => (zu_o (by omega)).trans (hS b j hb)) (fun h h1 h2 => ?_)
      by_cases he : h = i
      · rw [he, zu_at]; exact hS _ _ (by omega)
      · rw [zu_o (by omega)]; exact hv h h1 (by omega)
/-- what is earned after K years: by all (10), or by house w -/
theorem earns_eq8 {sc sm : PS} {n : Nat} {y : Int} {L : Cl} (E : EQ sc sm 40 n y L) {K : Nat} (hK : K ≤ 1000) (hy : y + K ≤ 2000) {w : Int} (hw : w = 10 ∨ (0 ≤ w ∧ w < n)) : ∃ sc' sm' v, X5_go 40 sc K = some sc' ∧ (if w = 10 then X5_total 40 sc' else zrd sc' (40 + 5) 7 w) = some v ∧ X7_earnsThen sm K w = some (v, sm') ∧ Same sc sc' (goP 40) ∧ TW sc' 40 n (y + K) ∧ Same sm sm' (smS 8) ∧ 0 ≤ v ∧ v ≤ 693 := by
  have n7 := E.1.1.2.1
  obtain ⟨m, a1, a2, a3⟩ := then_L8 (st := sm) (K := K) (w := w) (y := sm 0 1) FU 0 sm (by omega) (by unfold FU; omega) Same.rf (fun h h1 h2 => by omega)
  have E1 : EQ sc m 40 n y L := E.same Same.rf a2 (fun b j _ q => q) (fun b j q => by omega)
  obtain ⟨sc', m', b1, b2, b3, b4, b5⟩ := go_eq (by omega) hK E1 hy
  have S2 : Same sm m' (fun b j => b = 4 ∨ b = 23 ∨ b = 25 ∨ b = 27 ∨ b = 30 ∨ (b = 0 ∧ (j = 1 ∨ j = 26))) := a2.tr b5 (fun b j q => by omega) (fun b j q => by revert q; unfold mG; omega)
  have kp : ∀ h : Int, 0 ≤ h → h < 8 → m' 30 h = sm 4 h := fun h h1 h2 => (b5 _ _ (by unfold mG; omega)).trans (a3 h h1 h2)
  have e0 : X7_earnsThen sm K w = (bI (X7_goYears m K) (fun s1 => if wI w = wI 10 then bI (X7_allEarn s1) (fun v2 => X7_earnsThen_L64 (sm 0 1) v2 FU s1 0) else (bI (zrd s1 4 8 w) (fun v4 => X7_earnsThen_L64 (sm 0 1) v4 FU s1 0)))) := a1
  rw [e0, b2, bI_some, wI_id (z := w) (by omega) (by omega), wI_id (z := 10) (by omega) (by omega)]
  by_cases c : w = 10
  · obtain ⟨t, t1, t2, t3, t4⟩ := total_eq b3.1
    obtain ⟨s', u1, u2⟩ := then_L64 (st := sm) (w := sm 0 1) (v := t) (n := 8) (by omega) FU 0 m' (by omega) (by unfold FU; omega) S2 kp (fun h h1 h2 => by omega) rfl
    exact ⟨sc', s', t, b1, by rw [if_pos c]; exact t1, by rw [if_pos c, t2, bI_some]; exact u1, b4, b3.1.1, u2, t3, t4⟩
  · have hw' : 0 ≤ w ∧ w < n := by omega
    obtain ⟨s', u1, u2⟩ := then_L64 (st := sm) (w := sm 0 1) (v := m' 4 w) (n := 8) (by omega) FU 0 m' (by omega) (by unfold FU; omega) S2 kp (fun h h1 h2 => by omega) rfl
    have ev : m' 4 w = sc' (40 + 5) w := (b3.1.2.2.2 w hw'.1 hw'.2).2.2.1
    have r := b3.1.1.erng w hw'.1 hw'.2
    refine ⟨sc', s', m' 4 w, b1, by rw [if_neg c, zrd_ok (by omega) (by omega) (by omega), ev], by rw [if_neg c, zrd_ok (by omega) (by omega) (by omega), bI_some]; exact u1, b4, b3.1.1, u2, by omega, by omega⟩
theorem sm8 {n : Int} (hn : n ≤ 7) {b : Nat} {j : Int} (q : smS 8 b j) : smS n b j := by revert q; unfold smS; omega
theorem earns_eq {sc sm : PS} {n : Nat} {y : Int} {L : Cl} (E : EQ sc sm 40 n y L) {K : Nat} (hK : K ≤ 1000) (hy : y + K ≤ 2000) {w : Int} (hw : w = 10 ∨ (0 ≤ w ∧ w < n)) : ∃ sc' sm' v, X5_go 40 sc K = some sc' ∧ (if w = 10 then X5_total 40 sc' else zrd sc' (40 + 5) 7 w) = some v ∧ X7_earnsThen sm K w = some (v, sm') ∧ Same sc sc' (goP 40) ∧ TW sc' 40 n (y + K) ∧ Same sm sm' (smS n) ∧ 0 ≤ v ∧ v ≤ 693 := by
  obtain ⟨a, b, c, h1, h2, h3, h4, h5, h6, h7⟩ := earns_eq8 E hK hy hw
  have n7 := E.1.1.2.1
  exact ⟨a, b, c, h1, h2, h3, h4, h5, h6.wk fun b j q => sm8 (by omega) q, h7⟩
/-- what is put back stays kept -/
theorem KP.back2 {sm m : PS} (h : KP sm m) {n : Int} (hn : n ≤ 7) : ∃ m', X7_putBack m = some m' ∧ Same sm m' (smS n) ∧ KP sm m' ∧ Same m m' (fun b j => b = 4 ∨ (b = 0 ∧ j = 1)) := by
  obtain ⟨m', a1, a2⟩ := h.back hn
  obtain ⟨m'', b1, b2, b3, b4⟩ := back_L (st := m) FU 0 m (by omega) (by unfold FU; omega) Same.rf (fun h h1 h2 => by omega)
  have e : m'' = m' := Option.some.inj (b1.symm.trans a1)
  subst e
  exact ⟨m'', a1, a2, h.go (b2.wk fun b j q => by unfold mG; omega), b2⟩
theorem EQ.set {sc sm : PS} {a n : Nat} {y : Int} {L : Cl} (ha : a ≤ 60) (E : EQ sc sm a n y L) {h x : Int} (h0 : 0 ≤ h) (h1 : h < n) (x0 : 0 ≤ x) (x1 : x ≤ 99) : EQ (zu sc (a + 5) h x) (zu sm 4 h x) a n y L := by
  obtain ⟨⟨T, m0, m1, h3⟩, hTS, hMT, h24⟩ := id E
  obtain ⟨t1, n7, t3, t4, t5, t6⟩ := id T
  refine ⟨⟨⟨by rw [zu_o (by omega)]; exact t1, n7, by rw [zu_o (by omega)]; exact t3, t4, t5, fun o q1 q2 => ?_⟩, by rw [zu_o (by omega)]; exact m0, by rw [zu_o (by omega)]; exact m1, fun o q1 q2 => ?_⟩, hTS.same (P := fun b j => b = a + 5) (fun b j hb => zu_o (by omega)) (by omega) (fun b j z1 z2 => by omega), hMT.same (P := fun b j => b = 4) (fun b j hb => zu_o (by omega)) (by omega) (fun b j z1 z2 => by omega), by rw [zu_o (by omega)]; exact h24⟩
  · obtain ⟨v1, v2, v3, v4⟩ := t6 o q1 q2
    refine ⟨by rw [zu_o (by omega)]; exact v1, by rw [zu_o (by omega)]; exact v2, ?_, fun p p1 p2 => by rw [zu_o (by omega)]; exact v4 p p1 p2⟩
    by_cases he : o = h
    · rw [he, zu_at]; omega
    · rw [zu_o (by omega)]; exact v3
  · obtain ⟨v1, v2, v3, v4⟩ := h3 o q1 q2
    refine ⟨by rw [zu_o (by omega), zu_o (by omega)]; exact v1, by rw [zu_o (by omega), zu_o (by omega)]; exact v2, ?_, fun p p1 p2 => by rw [zu_o (by omega), zu_o (by omega)]; exact v4 p p1 p2⟩
    by_cases he : o = h
    · rw [he, zu_at, zu_at]
    · rw [zu_o (by omega), zu_o (by omega)]; exact v3
