/-! CALLS: before -/
abbrev bmP (b : Nat) (j : Int) : Prop := b = 4 ∨ b = 23 ∨ b = 25 ∨ b = 27 ∨ b = 28 ∨ (32 ≤ b ∧ b ≤ 35) ∨ (b = 0 ∧ (j = 1 ∨ j = 26 ∨ j = 29 ∨ j = 36))
def BI (sc sm c m : PS) (n : Nat) (y v : Int) : Prop := Same sc c clS ∧ (c 40 0 = n ∧ c 40 2 = sc 20 2) ∧ (∀ j : Int, 0 ≤ j → j < 7 → c (40 + 3) j = sc (20 + 3) j ∧ c (40 + 4) j = sc (20 + 4) j) ∧ (∀ j : Int, 0 ≤ j → j < 28 → c (40 + 6) j = sc (20 + 6) j) ∧ Same sm m bmP ∧ m 0 1 = y - 1 ∧ (∀ h : Int, 0 ≤ h → h < 8 → m 28 h = sm 4 h) ∧ m 0 29 = sm 0 1 ∧ (∀ h : Int, 0 ≤ h → h < 8 → m 33 h = sm 4 h) ∧ m 0 36 = v ∧ (∀ j : Int, 0 ≤ j → j < v → m 32 j = c 12 j ∧ 0 ≤ c 12 j ∧ c 12 j ≤ 99) ∧ (∀ h : Int, 0 ≤ h → h < n → 0 ≤ m 35 h ∧ m 35 h < v)
theorem BI.same {sc sm c m c' m' : PS} {n : Nat} {y v : Int} (h : BI sc sm c m n y v) (hS : Same c c' (fun b j => b = 45 ∨ b = 47 ∨ b = 48 ∨ b = 49 ∨ b = 51 ∨ (b = 40 ∧ (j = 1 ∨ j = 10)))) (hT : Same m m' (fun b j => b = 4 ∨ b = 23 ∨ b = 25 ∨ b = 27 ∨ b = 34 ∨ (b = 0 ∧ j = 26))) : BI sc sm c' m' n y v := by
  obtain ⟨h1, ⟨h2, h3⟩, h4, h5, h6, h7, h8, h9, h10, h11, h12, h13⟩ := h
  refine ⟨h1.tr hS (fun _ _ q => q) (fun b j q => by unfold clS; omega), ⟨(hS _ _ (by omega)).trans h2, (hS _ _ (by omega)).trans h3⟩, fun j j1 j2 => ⟨(hS _ _ (by omega)).trans (h4 j j1 j2).1, (hS _ _ (by omega)).trans (h4 j j1 j2).2⟩, fun j j1 j2 => (hS _ _ (by omega)).trans (h5 j j1 j2), h6.tr hT (fun _ _ q => q) (fun b j q => by unfold bmP; omega), (hT _ _ (by omega)).trans h7, fun j j1 j2 => (hT _ _ (by omega)).trans (h8 j j1 j2), (hT _ _ (by omega)).trans h9, fun j j1 j2 => (hT _ _ (by omega)).trans (h10 j j1 j2), (hT _ _ (by omega)).trans h11, fun j j1 j2 => ?_, fun j j1 j2 => ?_⟩
  · rw [hT _ _ (by omega), hS _ _ (by omega)]; exact h12 j j1 j2
  · rw [hT _ _ (by omega)]; exact h13 j j1 j2
theorem BI.eq {sc sm c m c1 m1 : PS} {n : Nat} {y v : Int} {L : Cl} (E : EQ sc sm 20 n y L) (B : BI sc sm c m n y v) (hy : 1 ≤ y) (hS : Same c c1 (fun b j => b = 45 ∨ (b = 40 ∧ j = 1))) (hT : Same m m1 (fun b _ => b = 4)) (e1 : c1 40 1 = y - 1) (er : ∀ h : Int, 0 ≤ h → h < n → c1 (40 + 5) h = m1 4 h ∧ 0 ≤ m1 4 h ∧ m1 4 h ≤ 99) : EQ c1 m1 40 n (y - 1) L := by
  obtain ⟨h1, ⟨h2, h3⟩, h4, h5, h6, h7, -⟩ := B
  obtain ⟨⟨⟨t1, n7, t3, t4, t5, t6⟩, m0, my, hr⟩, hTS, hMT, h24⟩ := E
  have Sc : Same sc c1 clS := h1.tr hS (fun _ _ q => q) (fun b j q => by unfold clS; omega)
  have Sm : Same sm m1 bmP := h6.tr hT (fun _ _ q => q) (fun b j q => by unfold bmP; omega)
  have k3 : ∀ j : Int, 0 ≤ j → j < 7 → c1 (40 + 3) j = sc (20 + 3) j ∧ c1 (40 + 4) j = sc (20 + 4) j := fun j j1 j2 => ⟨(hS _ _ (by omega)).trans (h4 j j1 j2).1, (hS _ _ (by omega)).trans (h4 j j1 j2).2⟩
  have k6 : ∀ j : Int, 0 ≤ j → j < 28 → c1 (40 + 6) j = sc (20 + 6) j := fun j j1 j2 => (hS _ _ (by omega)).trans (h5 j j1 j2)
  refine ⟨⟨⟨(hS _ _ (by omega)).trans h2, n7, e1, by omega, by omega, fun h q1 q2 => ?_⟩, (Sm _ _ (by unfold bmP; omega)).trans m0, (hT _ _ (by omega)).trans h7, fun h q1 q2 => ?_⟩, ?_, hMT.same Sm (by unfold bmP; omega) (fun b j z1 z2 => by unfold bmP; omega), (Sm _ _ (by unfold bmP; omega)).trans h24⟩
  · obtain ⟨u1, u2, u3, u4⟩ := t6 h q1 q2
    obtain ⟨w1, w2⟩ := k3 h q1 (by omega)
    obtain ⟨x1, x2⟩ := er h q1 q2
    exact ⟨by rw [w1]; exact u1, by rw [w2]; exact u2, by rw [x1]; exact x2, fun p p1 p2 => by rw [k6 _ (by omega) (by omega)]; exact u4 p p1 p2⟩
  · obtain ⟨u1, u2, u3, u4⟩ := hr h q1 q2
    obtain ⟨w1, w2⟩ := k3 h q1 (by omega)
    refine ⟨?_, ?_, (er h q1 q2).1.symm, fun p p1 p2 => ?_⟩
    · rw [Sm _ _ (by unfold bmP; omega), u1, w1]
    · rw [Sm _ _ (by unfold bmP; omega), u2, w2]
    · rw [Sm _ _ (by unfold bmP; omega), u4 p p1 p2, k6 _ (by omega) (by omega)]
  · have e2 : c1 40 2 = sc 20 2 := (hS _ _ (by omega)).trans h3
    rcases hTS with ⟨g1, g2⟩ | ⟨g1, g2⟩
    · exact Or.inl ⟨e2.trans g1, g2⟩
    · refine Or.inr ⟨by rw [e2]; exact g1, ?_⟩
      rw [e2]
      exact g2.same Sc (fun b j z1 z2 => by unfold clS; omega)
theorem before_step {sc sm c m : PS} {n : Nat} {y v : Int} {L : Cl} (E : EQ sc sm 20 n y L) (n4 : n ≤ 4) (v4 : v ≤ 4) (hy : 1 ≤ y) (B : BI sc sm c m n y v) : ∃ c1 c3 m2 d, X6_setLaterRow c (hornF v (m 35) n) v = some c1 ∧ X5_go 40 (zu c1 40 1 ((c1 20 1) - 1)) 1 = some c3 ∧ X6_laterAsNow c3 = some d ∧ X7_bringsNow m = some (d, m2) ∧ (d = 0 ∨ d = 1) ∧ BI sc sm c3 m2 n y v ∧ Same m m2 (fun b j => b = 4 ∨ b = 23 ∨ b = 25 ∨ b = 27 ∨ (b = 0 ∧ j = 26)) ∧ ∀ h : Int, 0 ≤ h → h < n → m2 4 h = c1 (40 + 5) h := by
  obtain ⟨h1, ⟨h2, h3⟩, h4, h5, h6, h7, h8, h9, h10, h11, h12, h13⟩ := id B
  obtain ⟨⟨⟨t1, n7, t3, t4, t5, t6⟩, m0, my, hr⟩, hTS, hMT, h24⟩ := id E
  have c20 : c 20 0 = n := (h1 _ _ (by unfold clS; omega)).trans t1
  obtain ⟨c1, a1, a2, a3⟩ := set_L (v := v) (D := m 35) v4 n FU c (by unfold FU; omega) n4 h13
  obtain ⟨m1, b1, b2, b3⟩ := brings_L2 n4 v4 ((h6 _ _ (by unfold bmP; omega)).trans m0) h13 FU 0 m (by omega) (by unfold FU; omega) Same.rf (fun h q1 q2 => by omega)
  have e20 : c1 20 1 = y := (a2 _ _ (by omega)).trans ((h1 _ _ (by unfold clS; omega)).trans t3)
  have S2 : Same c (zu c1 40 1 ((c1 20 1) - 1)) (fun b j => b = 45 ∨ (b = 40 ∧ j = 1)) := fun b j hb => (zu_o (by omega)).trans (a2 _ _ (by omega))
  have er : ∀ h : Int, 0 ≤ h → h < n → c1 (40 + 5) h = m1 4 h ∧ 0 ≤ m1 4 h ∧ m1 4 h ≤ 99 := fun h q1 q2 => by
    obtain ⟨x1, x2⟩ := h13 h q1 q2
    obtain ⟨x3, x4⟩ := h12 _ x1 x2
    rw [a3 h q1 q2, b3 h q1 q2, x3]
    exact ⟨rfl, x4⟩
  have E2 : EQ (zu c1 40 1 ((c1 20 1) - 1)) m1 40 n (y - 1) L := BI.eq E B hy S2 b2 (by rw [zu_at, e20]) (fun h q1 q2 => by rw [zu_o (by omega)]; exact er h q1 q2)
  generalize hc2 : zu c1 40 1 ((c1 20 1) - 1) = c2 at S2 E2
  obtain ⟨g1, g2, g3, g4⟩ := id E2
  obtain ⟨c3, d1, d2, d3, d4⟩ := go_ok (a := 40) (by omega) (K := 1) (by omega) g1.1 (by omega) g2
  obtain ⟨m2, e1, e2, e3⟩ := mlay_ok g1.mw (Or.inl ⟨g4, rfl⟩ : MS m1 (y - 1) (sayF (y - 1) (m1 2) (m1 3) (m1 4))) g3
  have r45 : ∀ h : Int, 0 ≤ h → h < n → c3 (40 + 5) h = m2 27 h := by
    intro h q1 q2
    rw [d4 h q1 q2, e3 h q1 q2]
    refine (goF_ext (fun o o1 o2 => ?_) (fun o o1 o2 => ?_) (fun o p o1 o2 p1 p2 => ?_) 1 (y - 1) _ _ (by omega) (fun o o1 o2 => ?_) h q1 q2 : _ = goF n L (m1 2) (m1 3) (m1 5) 1 (y - 1) (m1 4) h)
    · exact (g1.2.2.2 o o1 o2).1.symm
    · exact (g1.2.2.2 o o1 o2).2.1.symm
    · exact ((g1.2.2.2 o o1 o2).2.2.2 p p1 p2).symm
    · exact (g1.2.2.2 o o1 o2).2.2.1.symm
  have r25 : ∀ h : Int, 0 ≤ h → h < n → c3 (20 + 5) h = m2 33 h := by
    intro h q1 q2
    rw [d2 _ _ (by omega), S2 _ _ (by omega), h1 _ _ (by unfold clS; omega), e2 _ _ (by unfold mQ; omega), b2 _ _ (by omega), h10 h q1 (by omega)]
    exact (hr h q1 q2).2.2.1.symm
  have bd : ∀ h : Int, 0 ≤ h → h < n → 0 ≤ m2 33 h ∧ m2 33 h ≤ 99 := by
    intro h q1 q2
    rw [← r25 h q1 q2, d2 _ _ (by omega), S2 _ _ (by omega), h1 _ _ (by unfold clS; omega)]
    exact (t6 h q1 q2).2.2.1
  obtain ⟨d, f1, f2⟩ := now_L (s := c3) (n := n) ((d2 _ _ (by omega)).trans ((S2 _ _ (by omega)).trans c20)) (by omega) (fun h q1 q2 => ⟨d3.erng h q1 q2, by rw [r25 h q1 q2]; exact bd h q1 q2⟩) FU 0 (by omega) (by unfold FU; omega)
  obtain ⟨d', i1, i2⟩ := brings39 (s := m2) (n := n) ((e2 _ _ (by unfold mQ; omega)).trans g1.2.1) (by omega) (fun h q1 q2 => ⟨by rw [← r45 h q1 q2]; exact d3.erng h q1 q2, bd h q1 q2⟩) FU 0 (by omega) (by unfold FU; omega)
  have key : (∀ h : Int, ((0 : Nat) : Int) ≤ h → h < n → c3 (40 + 5) h = c3 (20 + 5) h) ↔ ∀ h : Int, ((0 : Nat) : Int) ≤ h → h < n → m2 27 h = m2 33 h := by
    constructor
    · intro q h q1 q2
      rw [← r45 h (by omega) q2, ← r25 h (by omega) q2]; exact q h q1 q2
    · intro q h q1 q2
      rw [r45 h (by omega) q2, r25 h (by omega) q2]; exact q h q1 q2
  have ed : d' = d := by
    rcases f2 with ⟨x, p⟩ | ⟨x, p⟩ <;> rcases i2 with ⟨x', p'⟩ | ⟨x', p'⟩
    · omega
    · exact absurd (key.mp p) p'
    · exact absurd (key.mpr p') p
    · omega
  subst ed
  have Sm2 : Same m m2 (fun b j => b = 4 ∨ b = 23 ∨ b = 25 ∨ b = 27 ∨ (b = 0 ∧ j = 26)) := b2.tr e2 (fun b j q => by omega) (fun b j q => by revert q; unfold mQ; omega)
  refine ⟨c1, c3, m2, d', ?_, by rw [hc2]; exact d1, f1, ?_, ?_, B.same (S2.tr d2 (fun b j q => by omega) (fun b j q => by omega)) (Sm2.wk fun b j q => by omega), Sm2, fun h q1 q2 => ?_⟩
  · unfold X6_setLaterRow
    rw [c20]; exact a1
  · have b1' : X7_bringsNow m = _ := b1
    rw [b1', e1, bI_some]; exact i1
  · rcases f2 with ⟨x, p⟩ | ⟨x, p⟩
    · exact Or.inr x
    · exact Or.inl x
  · rw [e2 _ _ (by unfold mQ; omega)]; exact (er h q1 q2).1.symm
/-- one more: the digits, and whether there are more -/
theorem nrow_ok {sc sm c m : PS} {n : Nat} {y v : Int} {L : Cl} (E : EQ sc sm 20 n y L) (n4 : n ≤ 4) (v4 : v ≤ 4) (B : BI sc sm c m n y v) : ∃ r m', X7_nextRow m = some (r, m') ∧ BI sc sm c m' n y v ∧ Same m m' (fun b _ => b = 35) ∧ ((r = 1 ∧ hornF v (m' 35) n = hornF v (m 35) n + 1) ∨ (r = 0 ∧ hornF v (m 35) n + 1 = powF v n)) := by
  obtain ⟨h1, ⟨h2, h3⟩, h4, h5, h6, h7, h8, h9, h10, h11, h12, h13⟩ := id B
  obtain ⟨r, m', a1, a2, a3, a4⟩ := nrow_L (v := v) v4 n FU m (by unfold FU; omega) n4 h11 h13
  refine ⟨r, m', ?_, ⟨h1, ⟨h2, h3⟩, h4, h5, h6.tr a2 (fun _ _ q => q) (fun b j q => by unfold bmP; omega), (a2 _ _ (by omega)).trans h7, fun j j1 j2 => (a2 _ _ (by omega)).trans (h8 j j1 j2), (a2 _ _ (by omega)).trans h9, fun j j1 j2 => (a2 _ _ (by omega)).trans (h10 j j1 j2), (a2 _ _ (by omega)).trans h11, fun j j1 j2 => by rw [a2 _ _ (by omega)]; exact h12 j j1 j2, a3⟩, a2.wk fun b j q => q.1, ?_⟩
  · unfold X7_nextRow
    rw [h6 _ _ (by unfold bmP; omega), E.1.2.1]; exact a1
  · rcases a4 with q | ⟨q, q', -⟩
    · exact Or.inl q
    · exact Or.inr ⟨q, q'⟩
theorem before_L {sc sm : PS} {n : Nat} {y v w : Int} {L : Cl} (E : EQ sc sm 20 n y L) (n4 : n ≤ 4) (v0 : 0 ≤ v) (v4 : v ≤ 4) (hy : 1 ≤ y) (hw : w = -1 ∨ (0 ≤ w ∧ w < n)) : ∀ (d k k' : Nat) (c m : PS) (cnt first idx l3 : Int), idx + d = powF v n → d < k → d < k' → BI sc sm c m n y v → 0 ≤ cnt → cnt ≤ idx → ((l3 = 1 ∧ idx = hornF v (m 35) n ∧ 1 ≤ d) ∨ (l3 = 0 ∧ d = 0)) → (cnt = 0 → first = -5) → (cnt ≠ 0 → 0 ≤ w → first = m 34 w) → ∃ r c' m', X6_before_L95 w v (powF v n) k c cnt first idx = some (r, c') ∧ X7_before_L91 w k' m cnt l3 = some (r, m') ∧ Same sc c' clS ∧ Same sm m' (smS n) := by
  have pw := powF_256 v0 v4 n4
  intro d
  induction d with
  | zero =>
    intro k k' c m cnt first idx l3 hi hk hk' B hc hc' hl hf0 hf1
    obtain ⟨k, rfl⟩ : ∃ q, k = q + 1 := ⟨k - 1, by omega⟩
    obtain ⟨k', rfl⟩ : ∃ q, k' = q + 1 := ⟨k' - 1, by omega⟩
    obtain ⟨h1, ⟨h2, h3⟩, h4, h5, h6, h7, h8, h9, h10, h11, h12, h13⟩ := id B
    have hl0 : l3 = 0 := by omega
    obtain ⟨m', a1, a2, a3, a4⟩ := back_L (st := m) FU 0 m (by omega) (by unfold FU; omega) Same.rf (fun h h1 h2 => by omega)
    have a1' : X7_putBack m = some m' := a1
    have Sf : Same sm m' (smS n) := by
      intro b j hb
      by_cases g : b = 4 ∧ 0 ≤ j ∧ j < 8
      · obtain ⟨rfl, g1, g2⟩ := g
        exact (a3 j g1 g2).trans (h8 j g1 g2)
      · by_cases g' : b = 0 ∧ j = 1
        · obtain ⟨rfl, rfl⟩ := g'
          exact a4.trans h9
        · unfold smS at hb
          exact (a2 b j (by omega)).trans (h6 b j (by unfold bmP; omega))
    rw [X6_before_L95, X7_before_L91, wI_id (z := powF v n) (by omega) (by omega), wI_id (z := idx) (by omega) (by omega), if_pos (by omega : powF v n ≤ idx), hl0]
    simp only [w00, if_true]
    rw [a1', bI_some, wI_id (z := w) (by omega) (by omega), wI_id (z := -1) (by omega) (by omega), wI_id (z := cnt) (by omega) (by omega)]
    rcases hw with e | ⟨e1, e2⟩
    · rw [if_pos e, if_neg (by omega)]
      exact ⟨_, _, _, rfl, rfl, h1, Sf⟩
    · rw [if_neg (by omega : ¬ w = -1), if_pos e1]
      by_cases q : cnt = 0
      · rw [if_pos q, hf0 q]
        exact ⟨_, _, _, rfl, rfl, h1, Sf⟩
      · rw [if_neg q, zrd_ok (by omega) (by omega) (by omega), bI_some, hf1 q e1, a2 _ _ (by omega)]
        exact ⟨_, _, _, rfl, rfl, h1, Sf⟩
  | succ d ih =>
    intro k k' c m cnt first idx l3 hi hk hk' B hc hc' hl hf0 hf1
    obtain ⟨k, rfl⟩ : ∃ q, k = q + 1 := ⟨k - 1, by omega⟩
    obtain ⟨k', rfl⟩ : ∃ q, k' = q + 1 := ⟨k' - 1, by omega⟩
    have hl' : l3 = 1 ∧ idx = hornF v (m 35) n := by omega
    obtain ⟨rfl, ex⟩ := hl'
    obtain ⟨c1, c3, m2, dd, a1, a2, a3, a4, a5, a6, a7, a8⟩ := before_step E n4 v4 hy B
    rw [← ex] at a1
    have h35 : m2 35 = m 35 := funext fun j => a7 _ _ (by omega)
    -- what follows once the digits went on
    have nx : ∀ (m3 : PS) (cnt' first' : Int), BI sc sm c3 m3 n y v → m3 35 = m 35 → 0 ≤ cnt' → cnt' ≤ idx + 1 → (cnt' = 0 → first' = -5) → (cnt' ≠ 0 → 0 ≤ w → first' = m3 34 w) → ∃ r c' m', X6_before_L95 w v (powF v n) k c3 cnt' first' (idx + 1) = some (r, c') ∧ bP (X7_nextRow m3) (fun v3 s6 => X7_before_L91 w k' s6 cnt' v3) = some (r, m') ∧ Same sc c' clS ∧ Same sm m' (smS n) := by
      intro m3 cnt' first' B3 e35 g1 g2 g3 g4
      obtain ⟨r, m4, b1, b2, b3, b4⟩ := nrow_ok E n4 v4 B3
      rw [b1, bP_some]
      rw [e35, ← ex] at b4
      refine ih k k' c3 m4 cnt' first' (idx + 1) r (by omega) (by omega) (by omega) b2 g1 g2 ?_ g3 (fun q q' => by rw [b3 _ _ (by omega)]; exact g4 q q')
      have hr := hornF_rng (v := v) (D := m4 35) v0 v4 (k := n) b2.2.2.2.2.2.2.2.2.2.2.2
      rcases b4 with ⟨q, q'⟩ | ⟨q, q'⟩
      · exact Or.inl ⟨q, q'.symm, by omega⟩
      · exact Or.inr ⟨q, by omega⟩
    obtain ⟨m3, b1, b2, b3, b4⟩ := copy105 (m := m2) (n := n) (w := w) (cnt := cnt) (co := fun s_ x2 x3 => X7_before_L91 w k' s_ x2 x3) ((a7 _ _ (by omega)).trans ((B.2.2.2.2.1 _ _ (by unfold bmP; omega)).trans E.1.2.1)) (by omega) (by omega) FU 0 m2 (by omega) (by unfold FU; omega) Same.rf (fun h q1 q2 => by omega) (fun _ => rfl)
    have b1' : X7_before_L105 w cnt (fun s_ x2 x3 => X7_before_L91 w k' s_ x2 x3) FU m2 0 = bP (X7_nextRow m3) (fun v4 s7 => X7_before_L91 w k' s7 (cnt + 1) v4) := b1
    have B3 : BI sc sm c3 m3 n y v := a6.same Same.rf (b2.wk fun b j q => by omega)
    have g34 : m2 34 = m 34 := funext fun j => a7 _ _ (by omega)
    rw [X6_before_L95, X7_before_L91, wI_id (z := powF v n) (by omega) (by omega), wI_id (z := idx) (by omega) (by omega), if_neg (by omega : ¬ powF v n ≤ idx), if_neg (by decide), a1, bI_some, a4, bP_some, wI_id (z := w) (by omega) (by omega), wI_id (z := -1) (by omega) (by omega), b1', zlet_eq, a2, bI_some, a3, bI_some, wI_id (z := cnt) (by omega) (by omega)]
    have no := nx m2 cnt first a6 h35 hc (by omega) hf0 (fun q q' => by rw [g34]; exact hf1 q q')
    rcases hw with e | ⟨e1, e2⟩
    · rw [if_pos e]
      rcases a5 with q | q
      · rw [q, if_pos (by decide), if_pos (by decide)]
        exact no
      · rw [q, if_neg (by decide : ¬ wI 1 = 0), if_neg (by decide : ¬ wI 1 = 0)]
        by_cases c0 : cnt = 0
        · rw [if_pos c0]
          exact nx m3 (cnt + 1) 0 B3 ((funext fun j => b2 _ _ (by omega)).trans h35) (by omega) (by omega) (fun q => by omega) (fun q q' => by omega)
        · rw [if_neg c0]
          exact nx m3 (cnt + 1) first B3 ((funext fun j => b2 _ _ (by omega)).trans h35) (by omega) (by omega) (fun q => by omega) (fun q q' => by omega)
    · rw [if_neg (by omega : ¬ w = -1), zrd_ok (by omega) (by omega) (by omega), bI_some, zlet_eq, a2, bI_some, a3, bI_some]
      rcases a5 with q | q
      · rw [q, if_pos (by decide), if_pos (by decide)]
        exact no
      · rw [q, if_neg (by decide : ¬ wI 1 = 0), if_neg (by decide : ¬ wI 1 = 0)]
        by_cases c0 : cnt = 0
        · rw [if_pos c0]
          exact nx m3 (cnt + 1) _ B3 ((funext fun j => b2 _ _ (by omega)).trans h35) (by omega) (by omega) (fun q => by omega) (fun q q' => by rw [b3 c0 w e1 e2, a8 w e1 e2])
        · rw [if_neg c0]
          exact nx m3 (cnt + 1) first B3 ((funext fun j => b2 _ _ (by omega)).trans h35) (by omega) (by omega) (fun q => by omega) (fun q q' => by rw [b4 c0, g34]; exact hf1 c0 e1)
theorem pow52 {c : PS} {n : Nat} {w v : Int} (n4 : n ≤ 4) (v0 : 0 ≤ v) (v4 : v ≤ 4) (h0 : c 20 0 = n) : ∀ (d k i : Nat), i + d = n → d < k → X6_before_L52 w v k c (powF v i) i = bI (X5_takeFrom 40 20 c) (fun s2 => X6_before_L95 w v (powF v n) FU s2 0 (-5) 0) := by
  intro d
  induction d with
  | zero =>
    intro k i hi hk
    obtain ⟨k, rfl⟩ : ∃ q, k = q + 1 := ⟨k - 1, by omega⟩
    have e : i = n := by omega
    subst e
    rw [X6_before_L52, h0, if_pos (Int.le_refl _)]
  | succ d ih =>
    intro k i hi hk
    obtain ⟨k, rfl⟩ : ∃ q, k = q + 1 := ⟨k - 1, by omega⟩
    rw [X6_before_L52, h0, wI_id (z := (n : Int)) (by omega) (by omega), wI_id (z := (i : Int)) (by omega) (by omega), if_neg (by omega)]
    exact ih k (i + 1) (by omega) (by omega)
theorem lay46 {m : PS} {w : Int} : ∀ (k i : Nat) (s0 : PS), i ≤ 8 → 8 - i < k → Same m s0 (fun b _ => b = 33 ∨ b = 35) → (∀ h : Int, 0 ≤ h → h < i → s0 33 h = m 4 h ∧ s0 35 h = 0) → ∃ s', X7_before_L46 w k s0 i = X7_before_L91 w FU (zu s' 0 1 (s' 0 1 - 1)) 0 1 ∧ Same m s' (fun b _ => b = 33 ∨ b = 35) ∧ ∀ h : Int, 0 ≤ h → h < 8 → s' 33 h = m 4 h ∧ s' 35 h = 0 := by
  intro k
  induction k with
  | zero => intro i _ _ h; omega
  | succ k ih =>
    intro i s0 hi hk hS hv
    rw [X7_before_L46, wI_id (z := 8) (by omega) (by omega), wI_id (z := (i : Int)) (by omega) (by omega)]
    by_cases h : 8 ≤ i
    · rw [if_pos (by omega), zlet_eq]
      exact ⟨s0, rfl, hS, fun h h1 h2 => hv h h1 (by omega)⟩
    · rw [if_neg (by omega), zrd_ok (by omega) (by omega) (by omega), bI_some, zwr_ok (by omega) (by omega) (by omega), bI_some, zwr_ok (by omega) (by omega) (by omega), bI_some]
      refine ih (i + 1) _ (by omega) (by omega) (fun b j hb => by rw [zu_o (by omega), zu_o (by omega)]; exact hS b j hb) (fun h h1 h2 => ?_)
      by_cases he : h = i
      · rw [he, zu_o (by omega), zu_at, zu_at]; exact ⟨hS _ _ (by omega), rfl⟩
      · rw [zu_o (by omega), zu_o (by omega), zu_o (by omega), zu_o (by omega)]; exact hv h h1 (by omega)
theorem horn0 {v : Int} {D : Int → Int} : ∀ {k : Nat}, (∀ h : Int, 0 ≤ h → h < k → D h = 0) → hornF v D k = 0
  | 0, _ => rfl
  | k + 1, H => by rw [hornF, horn0 (k := k) (fun h h1 h2 => H h h1 (by omega)), H k (by omega) (by omega)]; omega
theorem before_go {sc sm : PS} {n : Nat} {y w : Int} {L : Cl} (E : EQ sc sm 20 n y L) (n4 : n ≤ 4) (hy : 1 ≤ y) (hw : w = -1 ∨ (0 ≤ w ∧ w < n)) : ∃ r c' m', bP (X6_listValues sc) (fun v1 s1 => X6_before_L52 w v1 FU s1 1 0) = some (r, c') ∧ bI (X7_layValues sm) (fun s1 => bI (X7_keep s1) (fun s2 => X7_before_L46 w FU s2 0)) = some (r, m') ∧ Same sc c' clS ∧ Same sm m' (smS n) := by
  obtain ⟨⟨⟨t1, n7, t3, t4, t5, t6⟩, m0, my, hr⟩, hTS, hMT, h24⟩ := id E
  have S0 : Same sm (zu sm 0 36 0) (fun b j => b = 0 ∧ j = 36) := fun b j hb => zu_o (by omega)
  have cl := cntB_le (e := sc (20 + 5)) (n := n) (fun h h1 h2 => (t6 h h1 h2).2.2.1.1)
  obtain ⟨c1, m1, a1, a2, a3, a4, a5, a6⟩ := vals_L (sc := sc) (sm := zu sm 0 36 0) n4 t1 ((S0 _ _ (by omega)).trans m0) (fun h q1 q2 => by rw [S0 _ _ (by omega)]; exact (hr h q1 q2).2.2.1) (fun h q1 q2 => (t6 h q1 q2).2.2.1) 100 FU FU 0 sc (zu sm 0 36 0) (by omega) (by unfold FU; omega) (by unfold FU; omega) Same.rf Same.rf (by rw [zu_at]; rfl) (fun j j1 j2 => by rw [cntB] at j2; omega)
  have a1' : X6_listValues sc = some (((cntB (sc (20 + 5)) n 100 : Nat) : Int), c1) := a1
  have a2' : X7_layValues sm = some m1 := by unfold X7_layValues; rw [zlet_eq]; exact a2
  have Sm1 : Same sm m1 (fun b j => b = 32 ∨ (b = 0 ∧ j = 36)) := S0.tr a4 (fun b j q => Or.inr q) (fun _ _ q => q)
  have vp : 1 ≤ n → 1 ≤ cntB (sc (20 + 5)) n 100 := fun q => by
    have b0 := (t6 0 (by omega) (by omega)).2.2.1
    have e : ((sc (20 + 5) 0).toNat : Int) = sc (20 + 5) 0 := by omega
    exact cntB_pos (x := (sc (20 + 5) 0).toNat) (by rw [e]; exact hasB_iff.mpr ⟨0, by omega, by omega, rfl⟩) 100 (by omega)
  have vl := cl 100
  generalize cntB (sc (20 + 5)) n 100 = v at a1' a5 a6 vp vl
  obtain ⟨m2, b1, ⟨b2, b3, b4⟩, b5⟩ := keep_ok m1
  obtain ⟨m3, d1, d2, d3⟩ := lay46 (m := m2) (w := w) FU 0 m2 (by omega) (by unfold FU; omega) Same.rf (fun h q1 q2 => by omega)
  have d1' : X7_before_L46 w FU m2 0 = _ := d1
  obtain ⟨c2, e1, e2, ⟨e3, e4, e5⟩, e6, e7⟩ := take_ok (st := c1) (a := 40) (r := 20) (by omega)
  have Sc2 : Same sc c2 clS := (a3.wk (R := clS) fun b j q => by unfold clS; omega).tr e2 (fun _ _ q => q) (fun b j q => cl_tk q)
  have Sm3 : Same sm m3 (fun b j => b = 28 ∨ b = 32 ∨ b = 33 ∨ b = 35 ∨ (b = 0 ∧ (j = 29 ∨ j = 36))) := fun b j hb => by rw [d2 _ _ (by omega), b5 _ _ (by omega), Sm1 _ _ (by omega)]
  have B : BI sc sm c2 (zu m3 0 1 (m3 0 1 - 1)) n y v := by
    refine ⟨Sc2, ⟨e3.trans ((a3 _ _ (by omega)).trans t1), e5.trans (a3 _ _ (by omega))⟩, fun j j1 j2 => ⟨(e6 j j1 j2).1.trans (a3 _ _ (by omega)), (e6 j j1 j2).2.1.trans (a3 _ _ (by omega))⟩, fun j j1 j2 => (e7 j j1 j2).trans (a3 _ _ (by omega)), fun b j hb => by unfold bmP at hb; rw [zu_o (by omega)]; exact Sm3 _ _ (by omega), by rw [zu_at, Sm3 _ _ (by omega), my], fun h q1 q2 => ?_, ?_, fun h q1 q2 => ?_, ?_, fun j j1 j2 => ?_, fun h q1 q2 => ?_⟩
    · rw [zu_o (by omega), d2 _ _ (by omega), b3 h q1 q2]; exact Sm1 _ _ (by omega)
    · rw [zu_o (by omega), d2 _ _ (by omega), b4]; exact Sm1 _ _ (by omega)
    · rw [zu_o (by omega), (d3 h q1 q2).1, b5 _ _ (by omega)]; exact Sm1 _ _ (by omega)
    · rw [zu_o (by omega), d2 _ _ (by omega), b5 _ _ (by omega)]; exact a5
    · rw [zu_o (by omega), d2 _ _ (by omega), b5 _ _ (by omega), e2 _ _ (by unfold tkP; omega)]; exact a6 j j1 j2
    · rw [zu_o (by omega), (d3 h q1 (by omega)).2]
      have := vp (by omega)
      omega
  have h0 : hornF v (zu m3 0 1 (m3 0 1 - 1) 35) n = 0 := horn0 fun h q1 q2 => by rw [zu_o (by omega), (d3 h q1 (by omega)).2]
  have hr := hornF_rng (v := v) (D := zu m3 0 1 (m3 0 1 - 1) 35) (by omega) (by omega) (k := n) B.2.2.2.2.2.2.2.2.2.2.2
  have pw := powF_256 (v := v) (by omega) (by omega) n4
  obtain ⟨r, c', m', f1, f2, f3, f4⟩ := before_L E n4 (by omega) (by omega) hy hw (powF v n).toNat FU FU c2 (zu m3 0 1 (m3 0 1 - 1)) 0 (-5) 0 1 (by omega) (by unfold FU; omega) (by unfold FU; omega) B (by omega) (by omega) (Or.inl ⟨rfl, h0.symm, by omega⟩) (fun _ => rfl) (fun q => absurd rfl q)
  refine ⟨r, c', m', ?_, ?_, f3, f4⟩
  · have p := pow52 (c := c1) (w := w) (v := v) n4 (by omega) (by omega) ((a3 _ _ (by omega)).trans t1) n FU 0 (by omega) (by unfold FU; omega)
    have p' : X6_before_L52 w v FU c1 1 0 = _ := p
    rw [a1', bP_some, p', e1, bI_some]
    exact f1
  · rw [a2', bI_some, b1, bI_some, d1']
    exact f2
theorem sim_before : Sim_before Rel := by
  intro sc sm R a1 r1
  obtain ⟨n, y, L, E, hy⟩ := R.eq
  have n7 := E.1.1.2.1
  have m0 := E.1.2.1
  have t4 := E.1.1.2.2.2.1
  unfold X6_before X7_before
  rw [isH_c E.1.1.1 n7 r1, isH_m m0 n7 r1, E.1.1.1, m0, E.1.1.2.2.1, E.1.2.2.1, wI_r r1, wI_id (z := -1) (by omega) (by omega), wI_id (z := 4) (by omega) (by omega), wI_id (z := (n : Int)) (by omega) (by omega), wI_id (z := y) (by omega) (by omega)]
  have key : (a1 = -1 ∨ (0 ≤ a1 ∧ a1 < n)) → ∃ r sc' r' sm', (if (n : Int) ≤ 4 then if y = 0 then some ((-8), sc) else (bP (X6_listValues sc) (fun v1 s1 => X6_before_L52 a1 v1 FU s1 1 0)) else (some ((-9), sc))) = some (r, sc') ∧ (if (n : Int) ≤ 4 then if y = 0 then some ((-8), sm) else (bI (X7_layValues sm) (fun s1 => bI (X7_keep s1) (fun s2 => X7_before_L46 a1 FU s2 0))) else (some ((-9), sm))) = some (r', sm') ∧ wI r = wI r' ∧ Rel sc' sm' := by
    intro hw
    by_cases c : (n : Int) ≤ 4
    · rw [if_pos c, if_pos c]
      by_cases c' : y = 0
      · rw [if_pos c', if_pos c']
        exact ⟨_, _, _, _, rfl, rfl, rfl, R⟩
      · rw [if_neg c', if_neg c']
        obtain ⟨r, c', m', h1, h2, h3, h4⟩ := before_go E (by omega) (by omega) hw
        exact ⟨r, c', r, m', h1, h2, rfl, R.same h3 (by rw [m0]; exact h4)⟩
    · rw [if_neg c, if_neg c]
      exact ⟨_, _, _, _, rfl, rfl, rfl, R⟩
  by_cases g : a1 = -1
  · rw [if_pos g, if_pos g]
    exact key (Or.inl g)
  · rw [if_neg g, if_neg g]
    by_cases g1 : 0 ≤ a1 ∧ a1 < n
    · rw [if_pos g1]
      simp only [w10, if_false]
      exact key (Or.inr g1)
    · rw [if_neg g1]
      simp only [w00, if_true]
      exact ⟨_, _, _, _, rfl, rfl, rfl, R⟩
