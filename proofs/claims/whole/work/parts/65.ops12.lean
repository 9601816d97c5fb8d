/-! CALLS: wed, lied -/
theorem wed38 {st : PS} {p q : Int} : ∀ (k i : Nat) (s0 : PS), i ≤ 8 → 8 - i < k → Same st s0 (fun b _ => b = 31) → (∀ h : Int, 0 ≤ h → h < i → s0 31 h = st 4 h) → ∃ s', X7_wed_L38 p q k s0 i = (bI (X7_putBack s') (fun s3 => bI (zrd s3 4 8 p) (fun v1 => bI (zrd s3 4 8 q) (fun v2 => bI (zwr s3 4 8 p (zdiv (v1 + v2) 2)) (fun s4 => bI (zwr s4 4 8 q (zdiv (v1 + v2) 2)) (fun s5 => bI (X7_goYears s5 10) (fun s6 => X7_wed_L108 FU s6 0 0))))))) ∧ Same st s' (fun b _ => b = 31) ∧ ∀ h : Int, 0 ≤ h → h < 8 → s' 31 h = st 4 h := by
  intro k
  induction k with
  | zero => intro i _ _ h; omega
  | succ k ih =>
    intro i s0 hi hk hS hv
    rw [X7_wed_L38, wI_id (z := 8) (by omega) (by omega), wI_id (z := (i : Int)) (by omega) (by omega)]
    by_cases h : 8 ≤ i
    · rw [if_pos (by omega)]
      exact ⟨s0, rfl, hS, fun h h1 h2 => hv h h1 (by omega)⟩
    · rw [if_neg (by omega), zrd_ok (by omega) (by omega) (by omega), bI_some, zwr_ok (by omega) (by omega) (by omega), bI_some]
      refine ih (i + 1) _ (by omega) (by omega) (fun b j hb => (zu_o (by omega)).trans (hS b j hb)) (fun h h1 h2 => ?_)
      by_cases he : h = i
      · rw [he, zu_at]; exact hS _ _ (by omega)
      · rw [zu_o (by omega)]; exact hv h h1 (by omega)
theorem wed108 {c m : PS} {n : Nat} (h0 : c 40 0 = n) (m0 : m 0 0 = n) (n7 : n ≤ 7) (hb : ∀ h : Int, 0 ≤ h → h < n → c (40 + 5) h = m 4 h ∧ c 11 h = m 31 h) : ∀ (k k' i : Nat) (acc : Int), i ≤ n → n - i < k → n - i < k' → ∃ d, X6_laterOtherwise_L4 c k acc i = some d ∧ X7_wed_L108 k' m acc i = bI (X7_putBack m) (fun s7 => some (d, s7)) := by
  intro k
  induction k with
  | zero => intro k' i _ _ h; omega
  | succ k ih =>
    intro k' i acc hi hk hk'
    obtain ⟨k', rfl⟩ : ∃ q, k' = q + 1 := ⟨k' - 1, by omega⟩
    rw [X6_laterOtherwise_L4, X7_wed_L108, h0, m0, wI_id (z := (n : Int)) (by omega) (by omega), wI_id (z := (i : Int)) (by omega) (by omega)]
    by_cases h : n ≤ i
    · rw [if_pos (by omega), if_pos (by omega)]
      exact ⟨acc, rfl, rfl⟩
    · obtain ⟨b1, b2⟩ := hb i (by omega) (by omega)
      rw [if_neg (by omega : ¬ (n : Int) ≤ i), if_neg (by omega : ¬ (n : Int) ≤ i), zrd_ok (by omega) (by omega) (by omega), bI_some, zrd_ok (by omega) (by omega) (by omega), bI_some, zrd_ok (by omega) (by omega) (by omega), bI_some, zrd_ok (by omega) (by omega) (by omega), bI_some, b1, b2, Int.add_zero]
      by_cases c : wI (m 4 i) = wI (m 31 i)
      · rw [if_pos c, if_pos c]
        exact ih k' (i + 1) acc (by omega) (by omega) (by omega)
      · rw [if_neg c, if_neg c]
        exact ih k' (i + 1) (acc + 1) (by omega) (by omega) (by omega)
theorem sim_wed : Sim_wed Rel := by
  intro sc sm R a1 a2 r1 r2
  obtain ⟨n, y, L, E, hy⟩ := R.eq
  have n7 := E.1.1.2.1
  have m0 := E.1.2.1
  unfold X6_wed X7_wed
  rw [isH_c E.1.1.1 n7 r1, isH_m m0 n7 r1, isH_c E.1.1.1 n7 r2, isH_m m0 n7 r2, wI_r r1, wI_r r2]
  by_cases g1 : 0 ≤ a1 ∧ a1 < n
  · by_cases g2 : 0 ≤ a2 ∧ a2 < n
    · simp only [if_pos g1, if_pos g2, w10, if_false]
      by_cases g3 : a1 = a2
      · rw [if_pos g3, if_pos g3]
        exact ⟨_, _, _, _, rfl, rfl, rfl, R⟩
      · rw [if_neg g3, if_neg g3]
        obtain ⟨c1, d1, d2, d3⟩ := take_eq E
        obtain ⟨m1, e1, e2, e3⟩ := keep_ok sm
        have E1 : EQ c1 m1 40 n y L := d2.same Same.rf e3 (fun b j _ q => q) (fun b j q => by omega)
        obtain ⟨c2, m2, f1, f2, f3, f4, f5⟩ := go_eq (by omega) (K := 10) (by omega) E1 (by omega)
        have K2 : KP sm m2 := e2.go (f5.wk fun b j q => Or.inl q)
        obtain ⟨m3, i1, i2, i3⟩ := wed38 (st := m2) (p := a1) (q := a2) FU 0 m2 (by omega) (by unfold FU; omega) Same.rf (fun h h1 h2 => by omega)
        have K3 : KP sm m3 := K2.go (i2.wk fun b j q => Or.inr q)
        have k1 : X6_keepLater c2 = some (zcpf c2 (40 + 5) 11 0 0 7) := by
          unfold X6_keepLater
          rw [zcp_ok (by omega) (by omega) (by omega) (by omega) (by omega) (by omega) (by omega), bI_some]
        have S3 : Same c2 (zcpf c2 (40 + 5) 11 0 0 7) (fun b _ => b = 11) := fun b j hb => zcpf_o (by omega)
        have r11 : ∀ h : Int, 0 ≤ h → h < n → zcpf c2 (40 + 5) 11 0 0 7 11 h = m3 31 h := fun h q1 q2 => by
          rw [i3 h q1 (by omega), zcpf_at (by omega) (by omega), Int.zero_add, Int.sub_zero]
          exact (f3.1.2.2.2 h q1 q2).2.2.1.symm
        generalize zcpf c2 (40 + 5) 11 0 0 7 = c3 at k1 S3 r11
        have Sc3 : Same sc c3 clS := ((d3.wk fun b j q => cl_tk q).tr (f4.wk (R := clS) fun b j q => cl_go q) (fun _ _ q => q) (fun _ _ q => q)).tr S3 (fun _ _ q => q) (fun b j q => by unfold clS; omega)
        obtain ⟨m4, j1, j2, j3, j4⟩ := K3.back2 (n := n) (by omega)
        obtain ⟨c4, l1, l2, l3⟩ := take_eq (E.sc Sc3 j2)
        have x1 : c4 (20 + 5) a1 = sc (20 + 5) a1 := by rw [l3 _ _ (by unfold tkP; omega), Sc3 _ _ (by unfold clS; omega)]
        have x2 : c4 (20 + 5) a2 = sc (20 + 5) a2 := by rw [l3 _ _ (by unfold tkP; omega), Sc3 _ _ (by unfold clS; omega)]
        have y1 : m4 4 a1 = sc (20 + 5) a1 := (j2 _ _ (by unfold smS; omega)).trans (E.1.2.2.2 a1 g1.1 g1.2).2.2.1
        have y2 : m4 4 a2 = sc (20 + 5) a2 := (j2 _ _ (by unfold smS; omega)).trans (E.1.2.2.2 a2 g2.1 g2.2).2.2.1
        have b1 := E.1.1.erng a1 g1.1 g1.2
        have b2 := E.1.1.erng a2 g2.1 g2.2
        have E5 := (l2.set (by omega) g1.1 g1.2 (x := (sc (20 + 5) a1 + sc (20 + 5) a2) / 2) (by omega) (by omega)).set (by omega) g2.1 g2.2 (x := (sc (20 + 5) a1 + sc (20 + 5) a2) / 2) (by omega) (by omega)
        have ec : bI (zrd c4 (20 + 5) 7 a1) (fun v1 => bI (zrd c4 (20 + 5) 7 a2) (fun v2 => bI (zwr c4 (40 + 5) 7 a1 (zdiv (v1 + v2) 2)) (fun s5 => bI (zwr s5 (40 + 5) 7 a2 (zdiv (v1 + v2) 2)) (fun s6 => bI (X5_go 40 s6 10) (fun s7 => bI (X6_laterOtherwise s7) (fun v3 => some (v3, s7))))))) = bI (X5_go 40 (zu (zu c4 (40 + 5) a1 ((sc (20 + 5) a1 + sc (20 + 5) a2) / 2)) (40 + 5) a2 ((sc (20 + 5) a1 + sc (20 + 5) a2) / 2)) 10) (fun s7 => bI (X6_laterOtherwise s7) (fun v3 => some (v3, s7))) := by
          rw [zrd_ok (by omega) (by omega) (by omega), bI_some, zrd_ok (by omega) (by omega) (by omega), bI_some, x1, x2, zdiv_nn (by omega) (by omega) (by omega) (by omega), zwr_ok (by omega) (by omega) (by omega), bI_some, zwr_ok (by omega) (by omega) (by omega), bI_some]
        have em : (bI (zrd m4 4 8 a1) (fun v1 => bI (zrd m4 4 8 a2) (fun v2 => bI (zwr m4 4 8 a1 (zdiv (v1 + v2) 2)) (fun s4 => bI (zwr s4 4 8 a2 (zdiv (v1 + v2) 2)) (fun s5 => bI (X7_goYears s5 10) (fun s6 => X7_wed_L108 FU s6 0 0)))))) = bI (X7_goYears (zu (zu m4 4 a1 ((sc (20 + 5) a1 + sc (20 + 5) a2) / 2)) 4 a2 ((sc (20 + 5) a1 + sc (20 + 5) a2) / 2)) 10) (fun s6 => X7_wed_L108 FU s6 0 0) := by
          rw [zrd_ok (by omega) (by omega) (by omega), bI_some, zrd_ok (by omega) (by omega) (by omega), bI_some, y1, y2, zdiv_nn (by omega) (by omega) (by omega) (by omega), zwr_ok (by omega) (by omega) (by omega), bI_some, zwr_ok (by omega) (by omega) (by omega), bI_some]
        have Sc5 : Same c4 (zu (zu c4 (40 + 5) a1 ((sc (20 + 5) a1 + sc (20 + 5) a2) / 2)) (40 + 5) a2 ((sc (20 + 5) a1 + sc (20 + 5) a2) / 2)) (fun b _ => b = 45) := fun b j hb => by rw [zu_o (by omega), zu_o (by omega)]
        have Sm5 : Same m4 (zu (zu m4 4 a1 ((sc (20 + 5) a1 + sc (20 + 5) a2) / 2)) 4 a2 ((sc (20 + 5) a1 + sc (20 + 5) a2) / 2)) (fun b _ => b = 4) := fun b j hb => by rw [zu_o (by omega), zu_o (by omega)]
        generalize zu (zu c4 (40 + 5) a1 ((sc (20 + 5) a1 + sc (20 + 5) a2) / 2)) (40 + 5) a2 ((sc (20 + 5) a1 + sc (20 + 5) a2) / 2) = c5 at ec Sc5 E5
        generalize zu (zu m4 4 a1 ((sc (20 + 5) a1 + sc (20 + 5) a2) / 2)) 4 a2 ((sc (20 + 5) a1 + sc (20 + 5) a2) / 2) = m5 at em Sm5 E5
        obtain ⟨c6, m6, u1, u2, u3, u4, u5⟩ := go_eq (by omega) (K := 10) (by omega) E5 (by omega)
        have K6 : KP sm m6 := (j3.go (Sm5.wk fun b j q => Or.inl (by unfold mG; omega))).go (u5.wk fun b j q => Or.inl q)
        obtain ⟨dd, v1, v2⟩ := wed108 (c := c6) (m := m6) u3.1.1.1 u3.1.2.1 n7 (fun h q1 q2 => ⟨(u3.1.2.2.2 h q1 q2).2.2.1.symm, by
          rw [u4 _ _ (by unfold goP; omega), Sc5 _ _ (by omega), l3 _ _ (by unfold tkP; omega), u5 _ _ (by unfold mG; omega), Sm5 _ _ (by omega), j4 _ _ (by omega)]
          exact r11 h q1 q2⟩) FU FU 0 0 (by omega) (by unfold FU; omega) (by unfold FU; omega)
        obtain ⟨m7, w1, w2⟩ := K6.back (n := n) (by omega)
        have f1' : X5_go 40 c1 10 = some c2 := f1
        have f2' : X7_goYears m1 10 = some m2 := f2
        have u1' : X5_go 40 c5 10 = some c6 := u1
        have u2' : X7_goYears m5 10 = some m6 := u2
        have v1' : X6_laterOtherwise c6 = some dd := v1
        have i1' : X7_wed_L38 a1 a2 FU m2 0 = _ := i1
        have v2' : X7_wed_L108 FU m6 0 0 = _ := v2
        rw [d1, bI_some, f1', bI_some, k1, bI_some, l1, bI_some, ec, u1', bI_some, v1', bI_some, e1, bI_some, f2', bI_some, i1', j1, bI_some, em, u2', bI_some, v2', w1, bI_some]
        exact ⟨_, _, _, _, rfl, rfl, rfl, R.same ((Sc3.tr (l3.wk (R := clS) fun b j q => cl_tk q) (fun _ _ q => q) (fun _ _ q => q)).tr ((Sc5.wk (R := clS) fun b j q => by unfold clS; omega).tr (u4.wk (R := clS) fun b j q => cl_go q) (fun _ _ q => q) (fun _ _ q => q)) (fun _ _ q => q) (fun _ _ q => q)) (by rw [m0]; exact w2)⟩
    · simp only [if_pos g1, if_neg g2, w10, w00, if_false, if_true]
      exact ⟨_, _, _, _, rfl, rfl, rfl, R⟩
  · simp only [if_neg g1, w00, if_true]
    exact ⟨_, _, _, _, rfl, rfl, rfl, R⟩
theorem seen_L {c m : PS} {n u : Nat} (h0 : c 20 0 = n) (n7 : n ≤ 7) (u8 : u ≤ 8) (hc : c 80 0 = u) (hm : m 0 37 = u) (hr : ∀ i : Int, 0 ≤ i → i < u → m 38 i = c (80 + 1) i ∧ m 39 i = c (80 + 2) i ∧ 0 ≤ c (80 + 1) i ∧ c (80 + 1) i < n) (hv : ∀ h : Int, 0 ≤ h → h < n → c (40 + 8) h = m 27 h) : ∀ (k i : Nat), i ≤ u → u - i < k → ∃ d, X6_allSeenIfLies_L17 k c i = some (d, c) ∧ X7_isSeen_L16 k m i = some (d, m) ∧ (d = 0 ∨ d = 1) := by
  intro k
  induction k with
  | zero => intro i _ h; omega
  | succ k ih =>
    intro i hi hk
    rw [X6_allSeenIfLies_L17, X7_isSeen_L16, hc, hm, wI_id (z := (u : Int)) (by omega) (by omega), wI_id (z := (i : Int)) (by omega) (by omega)]
    by_cases h : u ≤ i
    · rw [if_pos (by omega), if_pos (by omega)]
      exact ⟨1, rfl, rfl, Or.inr rfl⟩
    · obtain ⟨b1, b2, b3, b4⟩ := hr i (by omega) (by omega)
      have z38 : zrd m 38 8 (i : Int) = some (c (80 + 1) i) := by rw [zrd_ok (by omega) (by omega) (by omega), b1]
      rw [if_neg (by omega : ¬ (u : Int) ≤ i), if_neg (by omega : ¬ (u : Int) ≤ i), zrd_ok (by omega) (by omega) (by omega), bI_some, z38, bI_some, isH_c h0 n7 (rngs (by omega) (by omega)), if_pos (⟨b3, b4⟩ : 0 ≤ c (80 + 1) (i : Int) ∧ c (80 + 1) (i : Int) < n)]
      simp only [w10, if_false]
      rw [zrd_ok (by omega) (by omega) (by omega), bI_some, zrd_ok (by omega) (by omega) (by omega), bI_some, zrd_ok (by omega) (by omega) (by omega), bI_some, zrd_ok (by omega) (by omega) (by omega), bI_some, hv _ b3 b4, b2]
      by_cases c' : wI (m 27 (c (80 + 1) i)) = wI (c (80 + 2) i)
      · rw [if_pos c', if_pos c']
        exact ih (i + 1) (by omega) (by omega)
      · rw [if_neg c', if_neg c']
        exact ⟨0, rfl, rfl, Or.inl rfl⟩
/-- whether all that was seen fits, if house l lies (none: -1 here, 7 there) -/
theorem seen_eq {c m : PS} {n u : Nat} {y l l' : Int} {L : Cl} (E : EQ c m 40 n y L) (h0 : c 20 0 = n) (u8 : u ≤ 8) (hc : c 80 0 = u) (hm : m 0 37 = u) (hr : ∀ i : Int, 0 ≤ i → i < u → m 38 i = c (80 + 1) i ∧ m 39 i = c (80 + 2) i ∧ 0 ≤ c (80 + 1) i ∧ c (80 + 1) i < n) (hl : (l = -1 ∧ l' = 7) ∨ (0 ≤ l ∧ l < n ∧ l' = l)) : ∃ d c' m', X6_allSeenIfLies c l = some (d, c') ∧ X7_isSeen m l' = some (d, m') ∧ (d = 0 ∨ d = 1) ∧ Same c c' (fun b j => b = 47 ∨ b = 48 ∨ b = 49 ∨ b = 51 ∨ (b = 40 ∧ j = 10)) ∧ Same m m' (fun b j => mQ b j ∨ b = 27) := by
  obtain ⟨⟨T, m0, m1, h3⟩, hTS, hMT, h24⟩ := id E
  obtain ⟨t1, n7, t3, t4, t5, t6⟩ := id T
  obtain ⟨s1, a1, a2, a3⟩ := plain_ok T (l := l) (by omega)
  have T1 : TW s1 40 n y := T.same a2 (by omega) (by omega) (fun j => by omega)
  have hB : SB s1 40 n := fun h q1 q2 => by
    have := T.erng h q1 q2
    rw [a3 h q1 q2]
    by_cases q : h = l
    · rw [if_pos q]; omega
    · rw [if_neg q]; exact this
  obtain ⟨s2, b1, b2, b3⟩ := reckon_ok (by omega) T1 hB (hTS.same a2 (by omega) (fun b j z1 z2 => by omega))
  have Sm1 : Same m (zu m 0 24 l') (fun b j => b = 0 ∧ j = 24) := fun b j hb => zu_o (by omega)
  have M1 : MW (zu m 0 24 l') n y := E.1.mw.same Sm1 (by omega) (by omega) (fun j => by omega)
  have x24 : zu m 0 24 l' 0 24 = l' := zu_at
  have hMS : MS (zu m 0 24 l') y (fun h => if h = zu m 0 24 l' 0 24 then 0 else zu m 0 24 l' 4 h) := Or.inr ⟨by rw [x24]; omega, rfl⟩
  obtain ⟨m2, d1, d2, d3⟩ := mlay_ok M1 hMS (hMT.same Sm1 (by omega) (fun b j z1 z2 => by omega))
  have Sm3 : Same m (zu m2 0 24 (-1)) (fun b j => mQ b j ∨ b = 27) := fun b j hb => by
    by_cases q : b = 0 ∧ j = 24
    · obtain ⟨rfl, rfl⟩ := q
      rw [zu_at, h24]
    · rw [zu_o (by omega), d2 _ _ hb, zu_o (by omega)]
  have Sc2 : Same c s2 (fun b j => b = 47 ∨ b = 48 ∨ b = 49 ∨ b = 51 ∨ (b = 40 ∧ j = 10)) := fun b j hb => by rw [b2 _ _ (by omega), a2 _ _ (by omega)]
  have hv : ∀ h : Int, 0 ≤ h → h < n → s2 (40 + 8) h = zu m2 0 24 (-1) 27 h := by
    intro h q1 q2
    rw [zu_o (by omega), b3 h q1 q2, d3 h q1 q2]
    refine nextF_ext t4 (fun o o1 o2 => ?_) (fun o o1 o2 => ?_) (fun o o1 o2 => ?_) (fun o p o1 o2 p1 p2 => ?_) (fun o o1 o2 => ?_) q1 q2
    · rw [a2 _ _ (by omega), zu_o (by omega)]; exact (h3 o o1 o2).1.symm
    · rw [a2 _ _ (by omega), zu_o (by omega)]; exact (h3 o o1 o2).2.1.symm
    · rw [a2 _ _ (by omega), zu_o (by omega)]; exact (h3 o o1 o2).2.2.1.symm
    · rw [a2 _ _ (by omega), zu_o (by omega)]; exact ((h3 o o1 o2).2.2.2 p p1 p2).symm
    · rw [a3 o o1 o2, x24]
      by_cases q : o = l
      · rw [if_pos q, if_pos (by omega)]
      · rw [if_neg q, if_neg (by omega), zu_o (by omega)]; exact (h3 o o1 o2).2.2.1.symm
  obtain ⟨d, e1, e2, e3⟩ := seen_L (c := s2) (m := zu m2 0 24 (-1)) (n := n) (u := u) ((Sc2 _ _ (by omega)).trans h0) n7 u8 ((Sc2 _ _ (by omega)).trans hc) ((Sm3 _ _ (by unfold mQ; omega)).trans hm) (fun i i1 i2 => by
    rw [Sc2 _ _ (by omega), Sc2 _ _ (by omega), Sm3 _ _ (by unfold mQ; omega), Sm3 _ _ (by unfold mQ; omega)]
    exact hr i i1 i2) hv FU 0 (by omega) (by unfold FU; omega)
  refine ⟨d, s2, zu m2 0 24 (-1), ?_, ?_, e3, Sc2, Sm3⟩
  · unfold X6_allSeenIfLies
    rw [a1, bI_some, b1, bI_some]
    exact e1
  · unfold X7_isSeen
    rw [zlet_eq, d1, bI_some, zlet_eq]
    exact e2
theorem zor_0 {x : Int} (h : rng x) : zor x 0 = x := by
  unfold zor
  rw [show oI 0 = 0 from rfl, Int32.or_zero, oI_toInt, wI_r h]
theorem lied_L {sc sm : PS} {n u : Nat} {y : Int} {L : Cl} (u8 : u ≤ 8) : ∀ (d k k' i : Nat) (c m : PS) (t : Int), i + d = n → d < k → d < k' → EQ c m 40 n y L → Same sc c clS → Same sm m (smS n) → c 20 0 = n → c 80 0 = u → m 0 37 = u → (∀ i : Int, 0 ≤ i → i < u → m 38 i = c (80 + 1) i ∧ m 39 i = c (80 + 2) i ∧ 0 ≤ c (80 + 1) i ∧ c (80 + 1) i < n) → rng t → ∃ r c' m', X6_lied_L43 k c t i = some (r, c') ∧ X7_lied_L36 k' m t i = some (r, m') ∧ Same sc c' clS ∧ Same sm m' (smS n) := by
  intro d
  induction d with
  | zero =>
    intro k k' i c m t hi hk hk' E hS hT h0 hc hm hr ht
    obtain ⟨k, rfl⟩ : ∃ q, k = q + 1 := ⟨k - 1, by omega⟩
    obtain ⟨k', rfl⟩ : ∃ q, k' = q + 1 := ⟨k' - 1, by omega⟩
    have n7 := E.1.1.2.1
    rw [X6_lied_L43, X7_lied_L36, h0, E.1.2.1, wI_id (z := (n : Int)) (by omega) (by omega), wI_id (z := (i : Int)) (by omega) (by omega), if_pos (by omega), if_pos (by omega)]
    exact ⟨_, _, _, rfl, rfl, hS, hT⟩
  | succ d ih =>
    intro k k' i c m t hi hk hk' E hS hT h0 hc hm hr ht
    obtain ⟨k, rfl⟩ : ∃ q, k = q + 1 := ⟨k - 1, by omega⟩
    obtain ⟨k', rfl⟩ : ∃ q, k' = q + 1 := ⟨k' - 1, by omega⟩
    have n7 := E.1.1.2.1
    obtain ⟨e, c2, m2, a1, a2, a3, a4, a5⟩ := seen_eq E h0 u8 hc hm hr (l := i) (l' := i) (Or.inr ⟨by omega, by omega, rfl⟩)
    have E2 : EQ c2 m2 40 n y L := E.same a4 a5 (fun b j q => by omega) (fun b j q => by unfold mQ; omega)
    rw [X6_lied_L43, X7_lied_L36, h0, E.1.2.1, wI_id (z := (n : Int)) (by omega) (by omega), wI_id (z := (i : Int)) (by omega) (by omega), if_neg (by omega), if_neg (by omega), a1, bP_some, a2, bP_some, zor_0 ht]
    have nx : ∀ t', rng t' → ∃ r c' m', X6_lied_L43 k c2 t' ((i : Int) + 1) = some (r, c') ∧ X7_lied_L36 k' m2 t' ((i : Int) + 1) = some (r, m') ∧ Same sc c' clS ∧ Same sm m' (smS n) := fun t' ht' => ih k k' (i + 1) c2 m2 t' (by omega) (by omega) (by omega) E2 (hS.tr a4 (fun _ _ q => q) (fun b j q => by unfold clS; omega)) (hT.tr a5 (fun _ _ q => q) (fun b j q => by revert q; unfold smS mQ; omega)) ((a4 _ _ (by omega)).trans h0) ((a4 _ _ (by omega)).trans hc) ((a5 _ _ (by unfold mQ; omega)).trans hm) (fun i i1 i2 => by
      rw [a4 _ _ (by omega), a4 _ _ (by omega), a5 _ _ (by unfold mQ; omega), a5 _ _ (by unfold mQ; omega)]
      exact hr i i1 i2) ht'
    rcases a3 with q | q
    · rw [q, if_pos (by decide), if_pos (by decide)]
      exact nx t ht
    · rw [q, if_neg (by decide), if_neg (by decide)]
      exact nx _ (rng_of _)
theorem sim_lied : Sim_lied Rel := by
  intro sc sm R a1 r1
  obtain ⟨n, y, L, E, hy⟩ := R.eq
  obtain ⟨⟨n', y', h1, h2, u, v, g1, g2, g3, g4, g5, g6, g7, g8⟩, -⟩ := id R
  have n7 := E.1.1.2.1
  have m0 := E.1.2.1
  have en : n' = n := by have := h1.2.1; omega
  subst en
  unfold X6_lied X7_lied
  rw [isW_c r1, in_l r1 (by decide), wI_r r1, wI_id (z := 1) (by omega) (by omega)]
  by_cases k1 : 0 ≤ a1 ∧ a1 ≤ 1
  · simp only [if_pos k1, w10, if_false]
    obtain ⟨c1, d1, d2, d3⟩ := take_eq E
    have S1 : Same sc c1 clS := d3.wk fun b j q => cl_tk q
    have hc : c1 80 0 = u := (d3 _ _ (by unfold tkP; omega)).trans g3
    have h0 : c1 20 0 = n' := (d3 _ _ (by unfold tkP; omega)).trans E.1.1.1
    have hr : ∀ i : Int, 0 ≤ i → i < u → sm 38 i = c1 (80 + 1) i ∧ sm 39 i = c1 (80 + 2) i ∧ 0 ≤ c1 (80 + 1) i ∧ c1 (80 + 1) i < n' := fun i i1 i2 => by
      rw [d3 _ _ (by unfold tkP; omega), d3 _ _ (by unfold tkP; omega)]
      exact g7 i i1 i2
    rw [d1, bI_some]
    by_cases k2 : a1 = 1
    · rw [if_pos k2, if_pos k2]
      obtain ⟨d, c2, m2, e1, e2, e3, e4, e5⟩ := seen_eq d2 h0 g1 hc g4 hr (l := -1) (l' := 7) (Or.inl ⟨rfl, rfl⟩)
      rw [e1, bP_some, e2, bP_some]
      have R' : Rel c2 m2 := R.same (S1.tr e4 (fun _ _ q => q) (fun b j q => by unfold clS; omega)) (e5.wk fun b j q => by revert q; unfold smS mQ; omega)
      rcases e3 with q | q
      · rw [q, if_pos (by decide), if_pos (by decide)]
        exact ⟨_, _, _, _, rfl, rfl, rfl, R'⟩
      · rw [q, if_neg (by decide), if_neg (by decide)]
        exact ⟨_, _, _, _, rfl, rfl, rfl, R'⟩
    · rw [if_neg k2, if_neg k2]
      obtain ⟨r, c', m', e1, e2, e3, e4⟩ := lied_L (sc := sc) (sm := sm) g1 n' FU FU 0 c1 sm 0 (by omega) (by unfold FU; omega) (by unfold FU; omega) d2 S1 Same.rf h0 hc g4 hr (rngs (by omega) (by omega))
      exact ⟨r, c', r, m', e1, e2, rfl, R.same e3 (by rw [m0]; exact e4)⟩
  · simp only [if_neg k1, w00, if_true]
    exact ⟨_, _, _, _, rfl, rfl, rfl, R⟩
