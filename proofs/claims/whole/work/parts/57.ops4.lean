/-! CALLS: stays, swings, looked -/
theorem later_L {s : PS} {n : Nat} (h0 : s 40 0 = n) (n7 : n ≤ 7) (hb : ∀ h : Int, 0 ≤ h → h < n → (0 ≤ s (40 + 5) h ∧ s (40 + 5) h ≤ 99) ∧ (0 ≤ s 11 h ∧ s 11 h ≤ 99)) : ∀ (k i : Nat) (acc : Int), i ≤ n → n - i < k → 0 ≤ acc → acc ≤ i → ∃ d, X6_laterOtherwise_L4 s k acc i = some d ∧ acc ≤ d ∧ d ≤ 7 ∧ (d = acc ↔ ∀ h : Int, i ≤ h → h < n → s (40 + 5) h = s 11 h) := by
  intro k
  induction k with
  | zero => intro i _ _ h; omega
  | succ k ih =>
    intro i acc hi hk ha hai
    rw [X6_laterOtherwise_L4, h0, wI_id (z := (n : Int)) (by omega) (by omega), wI_id (z := (i : Int)) (by omega) (by omega)]
    by_cases h : n ≤ i
    · rw [if_pos (by omega)]
      exact ⟨acc, rfl, by omega, by omega, fun _ h a1 a2 => by omega, fun _ => rfl⟩
    · obtain ⟨b1, b2⟩ := hb i (by omega) (by omega)
      rw [if_neg (by omega), zrd_ok (by omega) (by omega) (by omega), bI_some, zrd_ok (by omega) (by omega) (by omega), bI_some, wI_id (z := s (40 + 5) i) (by omega) (by omega), wI_id (z := s 11 i) (by omega) (by omega)]
      by_cases c : s (40 + 5) i = s 11 i
      · rw [if_pos c]
        obtain ⟨d, d1, d2, d3, d4⟩ := ih (i + 1) acc (by omega) (by omega) ha (by omega)
        refine ⟨d, d1, d2, d3, fun q h a1 a2 => ?_, fun q => d4.mpr fun h a1 a2 => q h (by omega) a2⟩
        by_cases he : h = i
        · rw [he]; exact c
        · exact d4.mp q h (by omega) a2
      · rw [if_neg c]
        obtain ⟨d, d1, d2, d3, d4⟩ := ih (i + 1) (acc + 1) (by omega) (by omega) (by omega) (by omega)
        refine ⟨d, d1, by omega, d3, fun q => by omega, fun q => absurd (q i (by omega) (by omega)) c⟩
theorem later_ok {s : PS} {n : Nat} (h0 : s 40 0 = n) (n7 : n ≤ 7) (hb : ∀ h : Int, 0 ≤ h → h < n → (0 ≤ s (40 + 5) h ∧ s (40 + 5) h ≤ 99) ∧ (0 ≤ s 11 h ∧ s 11 h ≤ 99)) : ∃ d, X6_laterOtherwise s = some d ∧ 0 ≤ d ∧ d ≤ 7 ∧ (d = 0 ↔ ∀ h : Int, 0 ≤ h → h < n → s (40 + 5) h = s 11 h) :=
  later_L h0 n7 hb FU 0 0 (by omega) (by unfold FU; omega) (by omega) (by omega)
theorem calm_L {s : PS} {n : Nat} (h0 : s 0 0 = n) (n7 : n ≤ 7) (hb : ∀ h : Int, 0 ≤ h → h < n → (0 ≤ s 27 h ∧ s 27 h ≤ 99) ∧ (0 ≤ s 4 h ∧ s 4 h ≤ 99)) : ∀ (k i : Nat), i ≤ n → n - i < k → ∃ d, X7_isCalm_L6 k s i = some (d, s) ∧ ((d = 1 ∧ ∀ h : Int, i ≤ h → h < n → s 27 h = s 4 h) ∨ (d = 0 ∧ ¬ ∀ h : Int, i ≤ h → h < n → s 27 h = s 4 h)) := by
  intro k
  induction k with
  | zero => intro i _ h; omega
  | succ k ih =>
    intro i hi hk
    rw [X7_isCalm_L6, h0, wI_id (z := (n : Int)) (by omega) (by omega), wI_id (z := (i : Int)) (by omega) (by omega)]
    by_cases h : n ≤ i
    · rw [if_pos (by omega)]
      exact ⟨1, rfl, Or.inl ⟨rfl, fun h a1 a2 => by omega⟩⟩
    · obtain ⟨b1, b2⟩ := hb i (by omega) (by omega)
      rw [if_neg (by omega), zrd_ok (by omega) (by omega) (by omega), bI_some, zrd_ok (by omega) (by omega) (by omega), bI_some, wI_id (z := s 27 i) (by omega) (by omega), wI_id (z := s 4 i) (by omega) (by omega)]
      by_cases c : s 27 i = s 4 i
      · rw [if_pos c]
        obtain ⟨d, d1, d2⟩ := ih (i + 1) (by omega) (by omega)
        refine ⟨d, d1, ?_⟩
        rcases d2 with ⟨e1, e2⟩ | ⟨e1, e2⟩
        · refine Or.inl ⟨e1, fun h a1 a2 => ?_⟩
          by_cases he : h = i
          · rw [he]; exact c
          · exact e2 h (by omega) a2
        · exact Or.inr ⟨e1, fun q => e2 fun h a1 a2 => q h (by omega) a2⟩
      · rw [if_neg c]
        exact ⟨0, rfl, Or.inr ⟨rfl, fun q => c (q i (by omega) (by omega))⟩⟩
theorem stay_step {c m : PS} {n : Nat} {y : Int} {L : Cl} (E : EQ c m 40 n y L) (hy : y + 1 ≤ 2000) : ∃ c1 c2 d v m1 m2, X6_keepLater c = some c1 ∧ X5_go 40 c1 1 = some c2 ∧ X6_laterOtherwise c2 = some d ∧ X7_isCalm m = some (v, m1) ∧ X7_goYear m1 = some m2 ∧ EQ c2 m2 40 n (y + 1) L ∧ Same c c2 clS ∧ Same m m2 mG ∧ 0 ≤ d ∧ d ≤ 7 ∧ (v = 0 ∨ v = 1) ∧ (d = 0 ↔ v = 1) := by
  obtain ⟨⟨T, m0, my, h3⟩, hTS, hMT, h24⟩ := id E
  obtain ⟨t1, n7, t3, t4, t5, t6⟩ := id T
  have M := E.1.mw
  have k1 : X6_keepLater c = some (zcpf c (40 + 5) 11 0 0 7) := by
    unfold X6_keepLater
    rw [zcp_ok (by omega) (by omega) (by omega) (by omega) (by omega) (by omega) (by omega), bI_some]
  obtain ⟨m1, a1, a2, a3⟩ := mlay_ok M (Or.inl ⟨h24, rfl⟩ : MS m y (sayF y (m 2) (m 3) (m 4))) hMT
  have S1 : Same c (zcpf c (40 + 5) 11 0 0 7) (fun b _ => b = 11) := fun b j hb => zcpf_o (by omega)
  have E1 : EQ (zcpf c (40 + 5) 11 0 0 7) m1 40 n y L := E.same S1 a2 (fun b j q => by omega) (fun b j q => by unfold mQ; omega)
  obtain ⟨c2, m2, b1, b2, b3, b4, b5⟩ := year_eq (by omega) E1 hy
  obtain ⟨m2', e1, e2, e3, e4⟩ := myear_ok E1.1.mw (by omega) E1.2.2.2 E1.2.2.1
  have em : m2' = m2 := Option.some.inj (e1.symm.trans b2)
  subst em
  have r4 : ∀ h : Int, 0 ≤ h → h < n → m1 27 h = m2' 4 h := by
    intro h q1 q2
    rw [a3 h q1 q2, e4 h q1 q2, show m1 2 = m 2 from funext fun j => a2 _ _ (by unfold mQ; omega), show m1 3 = m 3 from funext fun j => a2 _ _ (by unfold mQ; omega), show m1 4 = m 4 from funext fun j => a2 _ _ (by unfold mQ; omega), show m1 5 = m 5 from funext fun j => a2 _ _ (by unfold mQ; omega)]
  have r45 : ∀ h : Int, 0 ≤ h → h < n → c2 (40 + 5) h = m2' 4 h := fun h q1 q2 => (b3.1.2.2.2 h q1 q2).2.2.1.symm
  have r11 : ∀ h : Int, 0 ≤ h → h < n → c2 11 h = m 4 h := by
    intro h q1 q2
    rw [b4 _ _ (by unfold goP; omega), zcpf_at (by omega) (by omega), Int.zero_add, Int.sub_zero]
    exact (h3 h q1 q2).2.2.1.symm
  have m14 : ∀ h : Int, m1 4 h = m 4 h := fun h => a2 _ _ (by unfold mQ; omega)
  obtain ⟨d, d1, d2, d3, d4⟩ := later_ok b3.1.1.1 n7 (fun h q1 q2 => ⟨b3.1.1.erng h q1 q2, by rw [r11 h q1 q2]; exact M.erng h q1 q2⟩)
  obtain ⟨v, v1, v2⟩ := calm_L (s := m1) (n := n) ((a2 _ _ (by unfold mQ; omega)).trans m0) n7 (fun h q1 q2 => ⟨by rw [a3 h q1 q2]; exact nextF_rng _ _ _ _ _ _ _ _ _, by rw [m14]; exact M.erng h q1 q2⟩) FU 0 (by omega) (by unfold FU; omega)
  have key : (∀ h : Int, 0 ≤ h → h < n → c2 (40 + 5) h = c2 11 h) ↔ ∀ h : Int, ((0 : Nat) : Int) ≤ h → h < n → m1 27 h = m1 4 h := by
    constructor
    · intro q h q1 q2
      have := q h (by omega) q2
      rw [r45 h (by omega) q2, r11 h (by omega) q2] at this
      rw [r4 h (by omega) q2, m14]; exact this
    · intro q h q1 q2
      have := q h (by omega) q2
      rw [r4 h q1 q2, m14] at this
      rw [r45 h q1 q2, r11 h q1 q2]; exact this
  refine ⟨_, c2, d, v, m1, m2', k1, b1, d1, ?_, b2, b3, (S1.wk (R := clS) fun b j q => by unfold clS; omega).tr b4 (fun _ _ q => q) (fun b j q => cl_go q), (a2.wk (R := mG) fun b j q => by revert q; unfold mQ mG; omega).tr b5 (fun _ _ q => q) (fun _ _ q => q), d2, d3, ?_, ?_⟩
  · unfold X7_isCalm
    rw [a1, bI_some]
    exact v1
  · rcases v2 with ⟨e, -⟩ | ⟨e, -⟩
    · exact Or.inr e
    · exact Or.inl e
  · rcases v2 with ⟨e, f⟩ | ⟨e, f⟩
    · exact ⟨fun _ => e, fun _ => d4.mpr (key.mpr f)⟩
    · exact ⟨fun q => absurd (key.mp (d4.mp q)) f, fun q => by omega⟩
theorem stays_end {sm m : PS} (K : KP sm m) {n k : Nat} {r i : Int} (hn : n ≤ 7) (hr : -5 ≤ r ∧ r ≤ 61) (hi : 0 ≤ i ∧ i ≤ 62) (h : 61 ≤ i ∨ 0 ≤ r) : ∃ m', X7_stays_L9 (k + 1) m r i = some (r, m') ∧ Same sm m' (smS n) := by
  obtain ⟨m', a1, a2⟩ := K.back (n := n) (by omega)
  refine ⟨m', ?_, a2⟩
  rw [X7_stays_L9, wI_id (z := 61) (by omega) (by omega), wI_id (z := i) (by omega) (by omega), wI_id (z := r) (by omega) (by omega), a1]
  by_cases c : 61 ≤ i
  · rw [if_pos c]; rfl
  · rw [if_neg c, if_pos (by omega)]; rfl
theorem stays_L {sm : PS} {n : Nat} {L : Cl} : ∀ (d k k' i : Nat) (c m : PS) (y : Int), i + d = 61 → d < k → d + 1 < k' → EQ c m 40 n y L → y + d ≤ 2000 → KP sm m → ∃ r c' m', X6_stays_L13 k c i = some (r, c') ∧ X7_stays_L9 k' m (-5) i = some (r, m') ∧ Same c c' clS ∧ Same sm m' (smS n) := by
  intro d
  induction d with
  | zero =>
    intro k k' i c m y hi hk hk' E hy K
    obtain ⟨k, rfl⟩ : ∃ q, k = q + 1 := ⟨k - 1, by omega⟩
    obtain ⟨k', rfl⟩ : ∃ q, k' = q + 1 := ⟨k' - 1, by omega⟩
    obtain ⟨m', a1, a2⟩ := stays_end K (k := k') (r := -5) (i := i) E.1.1.2.1 (by omega) (by omega) (Or.inl (by omega))
    rw [X6_stays_L13, wI_id (z := 60) (by omega) (by omega), wI_id (z := (i : Int)) (by omega) (by omega), if_pos (by omega)]
    exact ⟨_, _, _, rfl, a1, Same.rf, a2⟩
  | succ d ih =>
    intro k k' i c m y hi hk hk' E hy K
    obtain ⟨k, rfl⟩ : ∃ q, k = q + 1 := ⟨k - 1, by omega⟩
    obtain ⟨k', rfl⟩ : ∃ q, k' = q + 1 + 1 := ⟨k' - 2, by omega⟩
    obtain ⟨c1, c2, dd, v, m1, m2, a1, a2, a3, a4, a5, a6, a7, a8, a9, a10, a11, a12⟩ := stay_step E (by omega)
    have K2 : KP sm m2 := K.go (a8.wk fun b j q => Or.inl q)
    rw [X6_stays_L13, X7_stays_L9, wI_id (z := 60) (by omega) (by omega), wI_id (z := (i : Int)) (by omega) (by omega), wI_id (z := 61) (by omega) (by omega), wI_id (z := -5) (by omega) (by omega), if_neg (by omega), if_neg (by omega), if_neg (by omega), a1, bI_some, a2, bI_some, a3, bI_some, a4, bP_some, a5, bI_some, bI_some, wI_id (z := dd) (by omega) (by omega)]
    rcases a11 with e | e
    · rw [e, if_neg (by omega), if_pos (by decide)]
      obtain ⟨r, c', m', f1, f2, f3, f4⟩ := ih k (k' + 1) (i + 1) c2 m2 (y + 1) (by omega) (by omega) (by omega) a6 (by omega) K2
      exact ⟨r, c', m', f1, f2, a7.tr f3 (fun _ _ q => q) (fun _ _ q => q), f4⟩
    · rw [e, if_pos (a12.mpr e), if_neg (by decide)]
      obtain ⟨m', f1, f2⟩ := stays_end K2 (k := k') (r := i) (i := i + 1) E.1.1.2.1 (by omega) (by omega) (Or.inr (by omega))
      exact ⟨_, _, _, rfl, f1, a7, f2⟩
theorem sim_stays : Sim_stays Rel := by
  intro sc sm R
  obtain ⟨n, y, L, E, hy⟩ := R.eq
  have m0 := E.1.2.1
  obtain ⟨c1, d1, d2, d3⟩ := take_eq E
  obtain ⟨m1, e1, e2, e3⟩ := keep_ok sm
  have E1 : EQ c1 m1 40 n y L := d2.same Same.rf e3 (fun b j _ q => q) (fun b j q => by omega)
  obtain ⟨r, c', m', f1, f2, f3, f4⟩ := stays_L (sm := sm) 61 FU FU 0 c1 m1 y (by omega) (by unfold FU; omega) (by unfold FU; omega) E1 (by omega) e2
  unfold X6_stays X7_stays
  rw [d1, bI_some, e1, bI_some]
  exact ⟨r, c', r, m', f1, f2, rfl, R.same ((d3.wk fun b j q => cl_tk q).tr f3 (fun _ _ q => q) (fun _ _ q => q)) (by rw [m0]; exact f4)⟩
