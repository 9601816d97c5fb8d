/-! CALLS: swings, looked -/
theorem asOld_L {s : PS} {n : Nat} (h0 : s 0 0 = n) (n7 : n ≤ 7) (hb : ∀ h : Int, 0 ≤ h → h < n → (0 ≤ s 4 h ∧ s 4 h ≤ 99) ∧ (0 ≤ s 31 h ∧ s 31 h ≤ 99)) : ∀ (k i : Nat), i ≤ n → n - i < k → ∃ d, X7_isAsOld_L2 s k i = some d ∧ ((d = 1 ∧ ∀ h : Int, i ≤ h → h < n → s 4 h = s 31 h) ∨ (d = 0 ∧ ¬ ∀ h : Int, i ≤ h → h < n → s 4 h = s 31 h)) := by
  intro k
  induction k with
  | zero => intro i _ h; omega
  | succ k ih =>
    intro i hi hk
    rw [X7_isAsOld_L2, h0, wI_id (z := (n : Int)) (by omega) (by omega), wI_id (z := (i : Int)) (by omega) (by omega)]
    by_cases h : n ≤ i
    · rw [if_pos (by omega)]
      exact ⟨1, rfl, Or.inl ⟨rfl, fun h a1 a2 => by omega⟩⟩
    · obtain ⟨b1, b2⟩ := hb i (by omega) (by omega)
      rw [if_neg (by omega), zrd_ok (by omega) (by omega) (by omega), bI_some, zrd_ok (by omega) (by omega) (by omega), bI_some, wI_id (z := s 4 i) (by omega) (by omega), wI_id (z := s 31 i) (by omega) (by omega)]
      by_cases c : s 4 i = s 31 i
      · rw [if_pos c]
        obtain ⟨d, d1, d2⟩ := ih (i + 1) (by omega) (by omega)
        refine ⟨d, d1, ?_⟩
        rcases d2 with ⟨e1, e2⟩ | ⟨e1, e2⟩
        · refine Or.inl ⟨e1, fun h a1 a2 => ?_⟩
          by_cases he : h = i
          · rw [he]; exact c
          · exact e2 h (by omega) a2
        · exact Or.inr ⟨e1, fun q => e2 fun h a1 a2 => q h (by omega) a2⟩
      · rw [if_neg c]
        exact ⟨0, rfl, Or.inr ⟨rfl, fun q => c (q i (by omega) (by omega))⟩⟩
theorem old_L12 {st : PS} : ∀ (k i : Nat) (s0 : PS), i ≤ 8 → 8 - i < k → Same st s0 (fun b _ => b = 31) → (∀ h : Int, 0 ≤ h → h < i → s0 31 h = st 4 h) → ∃ s', X7_swings_L12 k s0 i = X7_swings_L41 FU s' (-5) 1 ∧ Same st s' (fun b _ => b = 31) ∧ ∀ h : Int, 0 ≤ h → h < 8 → s' 31 h = st 4 h := by
  intro k
  induction k with
  | zero => intro i _ _ h; omega
  | succ k ih =>
    intro i s0 hi hk hS hv
    rw [X7_swings_L12, wI_id (z := 8) (by omega) (by omega), wI_id (z := (i : Int)) (by omega) (by omega)]
    by_cases h : 8 ≤ i
    · rw [if_pos (by omega)]
      exact ⟨s0, rfl, hS, fun h h1 h2 => hv h h1 (by omega)⟩
    · rw [if_neg (by omega), zrd_ok (by omega) (by omega) (by omega), bI_some, zwr_ok (by omega) (by omega) (by omega), bI_some]
      refine ih (i + 1) _ (by omega) (by omega) (fun b j hb => (zu_o (by omega)).trans (hS b j hb)) (fun h h1 h2 => ?_)
      by_cases he : h = i
      · rw [he, zu_at]; exact hS _ _ (by omega)
      · rw [zu_o (by omega)]; exact hv h h1 (by omega)
theorem swings_end {sm m : PS} (K : KP sm m) {n k : Nat} {r i : Int} (hn : n ≤ 7) (hr : -5 ≤ r ∧ r ≤ 61) (hi : 0 ≤ i ∧ i ≤ 62) (h : 21 ≤ i ∨ 0 ≤ r) : ∃ m', X7_swings_L41 (k + 1) m r i = some (r, m') ∧ Same sm m' (smS n) := by
  obtain ⟨m', a1, a2⟩ := K.back (n := n) (by omega)
  refine ⟨m', ?_, a2⟩
  rw [X7_swings_L41, wI_id (z := 21) (by omega) (by omega), wI_id (z := i) (by omega) (by omega), wI_id (z := r) (by omega) (by omega), a1]
  by_cases c : 21 ≤ i
  · rw [if_pos c]; rfl
  · rw [if_neg c, if_pos (by omega)]; rfl
theorem swings_L {sm : PS} {n : Nat} {L : Cl} : ∀ (d k k' i : Nat) (c m : PS) (y : Int), i + d = 21 → d < k → d + 1 < k' → EQ c m 40 n y L → y + d ≤ 2000 → KP sm m → (∀ h : Int, 0 ≤ h → h < n → c 11 h = m 31 h ∧ 0 ≤ c 11 h ∧ c 11 h ≤ 99) → ∃ r c' m', X6_swings_L26 k c i = some (r, c') ∧ X7_swings_L41 k' m (-5) i = some (r, m') ∧ Same c c' clS ∧ Same sm m' (smS n) := by
  intro d
  induction d with
  | zero =>
    intro k k' i c m y hi hk hk' E hy K hO
    obtain ⟨k, rfl⟩ : ∃ q, k = q + 1 := ⟨k - 1, by omega⟩
    obtain ⟨k', rfl⟩ : ∃ q, k' = q + 1 := ⟨k' - 1, by omega⟩
    obtain ⟨m', a1, a2⟩ := swings_end K (k := k') (r := -5) (i := i) E.1.1.2.1 (by omega) (by omega) (Or.inl (by omega))
    rw [X6_swings_L26, wI_id (z := 20) (by omega) (by omega), wI_id (z := (i : Int)) (by omega) (by omega), if_pos (by omega)]
    exact ⟨_, _, _, rfl, a1, Same.rf, a2⟩
  | succ d ih =>
    intro k k' i c m y hi hk hk' E hy K hO
    obtain ⟨k, rfl⟩ : ∃ q, k = q + 1 := ⟨k - 1, by omega⟩
    obtain ⟨k', rfl⟩ : ∃ q, k' = q + 1 + 1 := ⟨k' - 2, by omega⟩
    have n7 := E.1.1.2.1
    obtain ⟨c2, m2, b1, b2, b3, b4, b5⟩ := year_eq (by omega) E (by omega)
    have K2 : KP sm m2 := K.go (b5.wk fun b j q => Or.inl q)
    have hO2 : ∀ h : Int, 0 ≤ h → h < n → c2 11 h = m2 31 h ∧ 0 ≤ c2 11 h ∧ c2 11 h ≤ 99 := by
      intro h q1 q2
      rw [b4 _ _ (by unfold goP; omega), b5 _ _ (by unfold mG; omega)]
      exact hO h q1 q2
    have r45 : ∀ h : Int, 0 ≤ h → h < n → c2 (40 + 5) h = m2 4 h := fun h q1 q2 => (b3.1.2.2.2 h q1 q2).2.2.1.symm
    obtain ⟨dd, d1, d2, d3, d4⟩ := later_ok b3.1.1.1 n7 (fun h q1 q2 => ⟨b3.1.1.erng h q1 q2, (hO2 h q1 q2).2⟩)
    obtain ⟨v, v1, v2⟩ := asOld_L (s := m2) (n := n) b3.1.2.1 n7 (fun h q1 q2 => ⟨b3.1.mw.erng h q1 q2, by rw [← (hO2 h q1 q2).1]; exact (hO2 h q1 q2).2⟩) FU 0 (by omega) (by unfold FU; omega)
    have key : (∀ h : Int, 0 ≤ h → h < n → c2 (40 + 5) h = c2 11 h) ↔ ∀ h : Int, ((0 : Nat) : Int) ≤ h → h < n → m2 4 h = m2 31 h := by
      constructor
      · intro q h q1 q2
        have := q h (by omega) q2
        rw [r45 h (by omega) q2, (hO2 h (by omega) q2).1] at this
        exact this
      · intro q h q1 q2
        have := q h (by omega) q2
        rw [← r45 h q1 q2, ← (hO2 h q1 q2).1] at this
        exact this
    have v1' : X7_isAsOld m2 = some v := v1
    have Sc : Same c c2 clS := b4.wk fun b j q => cl_go q
    rw [X6_swings_L26, X7_swings_L41, wI_id (z := 20) (by omega) (by omega), wI_id (z := (i : Int)) (by omega) (by omega), wI_id (z := 21) (by omega) (by omega), wI_id (z := -5) (by omega) (by omega), if_neg (by omega), if_neg (by omega), if_neg (by omega), b1, bI_some, d1, bI_some, b2, bI_some, v1', bI_some, wI_id (z := dd) (by omega) (by omega)]
    rcases v2 with ⟨e, f⟩ | ⟨e, f⟩
    · rw [e, if_pos (d4.mpr (key.mpr f)), if_neg (by decide)]
      obtain ⟨m', f1, f2⟩ := swings_end K2 (k := k') (r := i) (i := i + 1) n7 (by omega) (by omega) (Or.inr (by omega))
      exact ⟨_, _, _, rfl, f1, Sc, f2⟩
    · rw [e, if_neg (fun q => f (key.mp (d4.mp q))), if_pos (by decide)]
      obtain ⟨r, c', m', f1, f2, f3, f4⟩ := ih k (k' + 1) (i + 1) c2 m2 (y + 1) (by omega) (by omega) (by omega) b3 (by omega) K2 hO2
      exact ⟨r, c', m', f1, f2, Sc.tr f3 (fun _ _ q => q) (fun _ _ q => q), f4⟩
theorem sim_swings : Sim_swings Rel := by
  intro sc sm R
  obtain ⟨n, y, L, E, hy⟩ := R.eq
  have m0 := E.1.2.1
  obtain ⟨c1, d1, d2, d3⟩ := take_eq E
  obtain ⟨m1, e1, e2, e3⟩ := keep_ok sm
  have E1 : EQ c1 m1 40 n y L := d2.same Same.rf e3 (fun b j _ q => q) (fun b j q => by omega)
  obtain ⟨c2, m2, b1, b2, b3, b4, b5⟩ := go_eq (by omega) (K := 40) (by omega) E1 (by omega)
  have K2 : KP sm m2 := e2.go (b5.wk fun b j q => Or.inl q)
  obtain ⟨m3, g1, g2, g3⟩ := old_L12 (st := m2) FU 0 m2 (by omega) (by unfold FU; omega) Same.rf (fun h h1 h2 => by omega)
  have S3 : Same c2 (zcpf c2 (40 + 5) 11 0 0 7) (fun b _ => b = 11) := fun b j hb => zcpf_o (by omega)
  have k1 : X6_keepLater c2 = some (zcpf c2 (40 + 5) 11 0 0 7) := by
    unfold X6_keepLater
    rw [zcp_ok (by omega) (by omega) (by omega) (by omega) (by omega) (by omega) (by omega), bI_some]
  have E3 : EQ (zcpf c2 (40 + 5) 11 0 0 7) m3 40 n (y + 40) L := b3.same S3 g2 (fun b j q => by omega) (fun b j q => by omega)
  have K3 : KP sm m3 := K2.go (g2.wk fun b j q => Or.inr q)
  obtain ⟨r, c', m', f1, f2, f3, f4⟩ := swings_L (sm := sm) 20 FU FU 1 (zcpf c2 (40 + 5) 11 0 0 7) m3 (y + 40) (by omega) (by unfold FU; omega) (by unfold FU; omega) E3 (by omega) K3 (fun h q1 q2 => by
    have n7 := b3.1.1.2.1
    have q := b3.1.1.erng h q1 q2
    rw [g3 h q1 (by omega), zcpf_at (by omega) (by omega), Int.zero_add, Int.sub_zero]
    exact ⟨(b3.1.2.2.2 h q1 q2).2.2.1.symm, q⟩)
  unfold X6_swings X7_swings
  have b1' : X5_go 40 c1 40 = some c2 := b1
  have b2' : X7_goYears m1 40 = some m2 := b2
  rw [d1, bI_some, b1', bI_some, k1, bI_some, e1, bI_some, b2', bI_some]
  refine ⟨r, c', r, m', f1, g1.trans f2, rfl, R.same (((d3.wk fun b j q => cl_tk q).tr (b4.wk (R := clS) fun b j q => cl_go q) (fun _ _ q => q) (fun _ _ q => q)).tr ((S3.wk (R := clS) fun b j q => by unfold clS; omega).tr f3 (fun _ _ q => q) (fun _ _ q => q)) (fun _ _ q => q) (fun _ _ q => q)) (by rw [m0]; exact f4)⟩
theorem looked_end {sm m : PS} (K : KP sm m) {n k u : Nat} {r i : Int} (hn : n ≤ 7) (hu : m 0 40 = u) (u12 : u ≤ 12) (hr : -5 ≤ r ∧ r ≤ 61) (hi : 0 ≤ i ∧ i ≤ 62) (h : u ≤ i ∨ 0 ≤ r) : ∃ m', X7_looked_L19 (k + 1) m r i = some (r, m') ∧ Same sm m' (smS n) := by
  obtain ⟨m', a1, a2⟩ := K.back (n := n) (by omega)
  refine ⟨m', ?_, a2⟩
  rw [X7_looked_L19, hu, wI_id (z := (u : Int)) (by omega) (by omega), wI_id (z := i) (by omega) (by omega), wI_id (z := r) (by omega) (by omega), a1]
  by_cases c : (u : Int) ≤ i
  · rw [if_pos c]; rfl
  · rw [if_neg c, if_pos (by omega)]; rfl
theorem looked_L {sm : PS} {n u : Nat} {L : Cl} (u12 : u ≤ 12) (n1 : 1 ≤ n) : ∀ (d k k' i : Nat) (c m : PS) (y : Int), i + d = u → d < k → d + 1 < k' → EQ c m 40 n y L → y + d ≤ 2000 → KP sm m → (c 80 3 = u ∧ m 0 40 = u ∧ ∀ h : Int, 0 ≤ h → h < u → m 41 h = c (80 + 4) h) → ∃ r c' m', X6_looked_L26 k c i = some (r, c') ∧ X7_looked_L19 k' m (-5) i = some (r, m') ∧ Same c c' clS ∧ Same sm m' (smS n) := by
  intro d
  induction d with
  | zero =>
    intro k k' i c m y hi hk hk' E hy K hO
    obtain ⟨k, rfl⟩ : ∃ q, k = q + 1 := ⟨k - 1, by omega⟩
    obtain ⟨k', rfl⟩ : ∃ q, k' = q + 1 := ⟨k' - 1, by omega⟩
    obtain ⟨m', a1, a2⟩ := looked_end K (k := k') (r := -5) (i := i) E.1.1.2.1 hO.2.1 u12 (by omega) (by omega) (Or.inl (by omega))
    rw [X6_looked_L26, hO.1, wI_id (z := (u : Int)) (by omega) (by omega), wI_id (z := (i : Int)) (by omega) (by omega), if_pos (by omega)]
    exact ⟨_, _, _, rfl, a1, Same.rf, a2⟩
  | succ d ih =>
    intro k k' i c m y hi hk hk' E hy K hO
    obtain ⟨k, rfl⟩ : ∃ q, k = q + 1 := ⟨k - 1, by omega⟩
    obtain ⟨k', rfl⟩ : ∃ q, k' = q + 1 + 1 := ⟨k' - 2, by omega⟩
    have n7 := E.1.1.2.1
    obtain ⟨c2, m2, b1, b2, b3, b4, b5⟩ := year_eq (by omega) E (by omega)
    have K2 : KP sm m2 := K.go (b5.wk fun b j q => Or.inl q)
    have hO2 : c2 80 3 = u ∧ m2 0 40 = u ∧ ∀ h : Int, 0 ≤ h → h < u → m2 41 h = c2 (80 + 4) h := by
      refine ⟨(b4 _ _ (by unfold goP; omega)).trans hO.1, (b5 _ _ (by unfold mG; omega)).trans hO.2.1, fun h q1 q2 => ?_⟩
      rw [b4 _ _ (by unfold goP; omega), b5 _ _ (by unfold mG; omega)]
      exact hO.2.2 h q1 q2
    have ev := hO2.2.2 i (by omega) (by omega)
    have e0 := (b3.1.2.2.2 0 (by omega) (by omega)).2.2.1
    rw [show (2 : Nat) + 2 = 4 from rfl] at e0
    have Sc : Same c c2 clS := b4.wk fun b j q => cl_go q
    obtain ⟨r, c', m', f1, f2, f3, f4⟩ := ih k (k' + 1) (i + 1) c2 m2 (y + 1) (by omega) (by omega) (by omega) b3 (by omega) K2 hO2
    have nx : ∃ r c' m', X6_looked_L26 k c2 ((i : Int) + 1) = some (r, c') ∧ X7_looked_L19 (k' + 1) m2 (-5) ((i : Int) + 1) = some (r, m') ∧ Same c c' clS ∧ Same sm m' (smS n) := ⟨r, c', m', f1, f2, Sc.tr f3 (fun _ _ q => q) (fun _ _ q => q), f4⟩
    rw [X6_looked_L26, X7_looked_L19, hO.1, hO.2.1, wI_id (z := (u : Int)) (by omega) (by omega), wI_id (z := (i : Int)) (by omega) (by omega), wI_id (z := -5) (by omega) (by omega), if_neg (by omega), if_neg (by omega), if_neg (by omega), b1, bI_some, b2, bI_some, zrd_ok (by omega) (by omega) (by omega), bI_some, zrd_ok (by omega) (by omega) (by omega), bI_some, zrd_ok (by omega) (by omega) (by omega), bI_some, bI_some, bI_some, zrd_ok (by omega) (by omega) (by omega), bI_some, ev, e0]
    by_cases q1 : wI (c2 (80 + 4) i) = wI (-2)
    · rw [if_pos q1, if_pos q1]; exact nx
    · rw [if_neg q1, if_neg q1]
      by_cases q2 : wI (c2 (80 + 4) i) = wI (c2 (40 + 5) 0)
      · rw [if_pos q2, if_pos q2]; exact nx
      · rw [if_neg q2, if_neg q2]
        obtain ⟨m', f1, f2⟩ := looked_end K2 (k := k') (r := i) (i := i + 1) n7 hO2.2.1 u12 (by omega) (by omega) (Or.inr (by omega))
        exact ⟨_, _, _, rfl, f1, Sc, f2⟩
theorem sim_looked : Sim_looked Rel := by
  intro sc sm R
  obtain ⟨n, y, L, E, hy⟩ := R.eq
  obtain ⟨⟨n', y', h1, h2, u, v, g1, g2, g3, g4, g5, g6, g7, g8⟩, -⟩ := id R
  have m0 := E.1.2.1
  have t1 := E.1.1.1
  have n7 := E.1.1.2.1
  unfold X6_looked X7_looked
  rw [t1, m0, wI_id (z := (n : Int)) (by omega) (by omega)]
  by_cases c : n = 0
  · rw [if_pos (by omega), if_pos (by omega)]
    exact ⟨_, _, _, _, rfl, rfl, rfl, R⟩
  · obtain ⟨c1, d1, d2, d3⟩ := take_eq E
    obtain ⟨m1, e1, e2, e3⟩ := keep_ok sm
    have E1 : EQ c1 m1 40 n y L := d2.same Same.rf e3 (fun b j _ q => q) (fun b j q => by omega)
    obtain ⟨r, c', m', f1, f2, f3, f4⟩ := looked_L (sm := sm) (u := v) g2 (by omega) v FU FU 0 c1 m1 y (by omega) (by unfold FU; omega) (by unfold FU; omega) E1 (by omega) e2 ⟨(d3 _ _ (by unfold tkP; omega)).trans g5, (e3 _ _ (by omega)).trans g6, fun h q1 q2 => by rw [d3 _ _ (by unfold tkP; omega), e3 _ _ (by omega)]; exact g8 h q1 q2⟩
    rw [if_neg (by omega), if_neg (by omega), d1, bI_some, e1, bI_some]
    exact ⟨r, c', r, m', f1, f2, rfl, R.same ((d3.wk fun b j q => cl_tk q).tr f3 (fun _ _ q => q) (fun _ _ q => q)) (by rw [m0]; exact f4)⟩
