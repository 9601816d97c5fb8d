/-! CALLS: lots -/
theorem change_ok {m : PS} {i j : Int} (i0 : 0 ≤ i ∧ i < 7) (j0 : 0 ≤ j ∧ j < 7) : X7_change m i j = some (zu (zu m 4 i (m 4 j)) 4 j (m 4 i)) := by
  unfold X7_change
  rw [zrd_ok (by omega) (by omega) (by omega), bI_some, zrd_ok (by omega) (by omega) (by omega), bI_some, zwr_ok (by omega) (by omega) (by omega), bI_some, zwr_ok (by omega) (by omega) (by omega), bI_some]
theorem lot_step {c m : PS} {n : Nat} {y : Int} {L : Cl} (E : EQ c m 20 n y L) (hy : y ≤ 999) {i j : Int} (i0 : 0 ≤ i) (ij : i < j) (jn : j < n) : ∃ c5 m5 v, (∀ K : PS → Int → Option (Int × PS), bI (X5_takeFrom 40 20 c) (fun s3 => bI (zrd s3 (20 + 5) 7 j) (fun v2 => bI (zwr s3 (40 + 5) 7 i v2) (fun s4 => bI (zrd s4 (20 + 5) 7 i) (fun v3 => bI (zwr s4 (40 + 5) 7 j v3) (fun s5 => bI (X5_go 40 s5 20) (fun s6 => bI (X5_total 40 s6) (fun v4 => K s6 v4))))))) = K c5 v) ∧ (∀ K : PS → Int → Option (Int × PS), bI (X7_change m i j) (fun s2 => bP (X7_earnsThen s2 20 10) (fun v2 s3 => bI (X7_change s3 i j) (fun s4 => K s4 v2))) = K m5 v) ∧ Same c c5 clS ∧ Same m m5 (smS n) ∧ 0 ≤ v ∧ v ≤ 693 := by
  have n7 := E.1.1.2.1
  obtain ⟨c1, f1, f2, f3⟩ := take_eq E
  have ei : c1 (20 + 5) i = m 4 i := by rw [f3 _ _ (by unfold tkP; omega)]; exact (E.1.2.2.2 i i0 (by omega)).2.2.1.symm
  have ej : c1 (20 + 5) j = m 4 j := by rw [f3 _ _ (by unfold tkP; omega)]; exact (E.1.2.2.2 j (by omega) jn).2.2.1.symm
  have bi := E.1.mw.erng i i0 (by omega)
  have bj := E.1.mw.erng j (by omega) jn
  have E2 := (f2.set (by omega) i0 (by omega : i < n) (x := m 4 j) (by omega) (by omega)).set (by omega) (by omega : 0 ≤ j) jn (x := m 4 i) (by omega) (by omega)
  obtain ⟨c5, m2, v, b1, b2, b3, b4, b5, b6, b7, b8⟩ := earns_eq E2 (K := 20) (by omega) (by omega) (w := 10) (Or.inl rfl)
  rw [if_pos rfl] at b2
  have b1' : X5_go 40 (zu (zu c1 (40 + 5) i (m 4 j)) (40 + 5) j (m 4 i)) 20 = some c5 := b1
  have b3' : X7_earnsThen (zu (zu m 4 i (m 4 j)) 4 j (m 4 i)) 20 10 = some (v, m2) := b3
  have x1 : m2 4 i = m 4 j := by rw [b6 _ _ (by unfold smS; omega), zu_o (by omega), zu_at]
  have x2 : m2 4 j = m 4 i := by rw [b6 _ _ (by unfold smS; omega), zu_at]
  refine ⟨c5, zu (zu m2 4 i (m 4 i)) 4 j (m 4 j), v, fun K => ?_, fun K => ?_, fun b q hb => ?_, fun b q hb => ?_, b7, b8⟩
  · rw [f1, bI_some, zrd_ok (by omega) (by omega) (by omega), bI_some, ej, zwr_ok (by omega) (by omega) (by omega), bI_some, zrd_ok (by omega) (by omega) (by omega), bI_some, zu_o (by omega), ei, zwr_ok (by omega) (by omega) (by omega), bI_some, b1', bI_some, b2, bI_some]
  · rw [change_ok (by omega) (by omega), bI_some, b3', bP_some, change_ok (by omega) (by omega), bI_some, x1, x2]
  · rw [b4 _ _ (fun h => hb (cl_go h)), zu_o (by unfold clS at hb; omega), zu_o (by unfold clS at hb; omega), f3 _ _ (fun h => hb (cl_tk h))]
  · by_cases e : b = 4 ∧ q = j
    · obtain ⟨rfl, rfl⟩ := e
      exact zu_at
    · rw [zu_o (by omega)]
      by_cases e' : b = 4 ∧ q = i
      · obtain ⟨rfl, rfl⟩ := e'
        exact zu_at
      · rw [zu_o (by omega), b6 _ _ hb, zu_o (by omega), zu_o (by omega)]
theorem lots_in {sc sm : PS} {n : Nat} {y : Int} {L : Cl} (E : EQ sc sm 20 n y L) (hy : y ≤ 999) {i : Nat} {co co' : PS → Int → Int → Int → Option (Int × PS)} (hco : ∀ (c m : PS) (t b : Int), Same sc c clS → Same sm m (smS n) → 0 ≤ t → t ≤ 693 → ∃ r c' m', co c t b (i + 1) = some (r, c') ∧ co' m t b (i + 1) = some (r, m') ∧ Same sc c' clS ∧ Same sm m' (smS n)) : ∀ (d k k' j : Nat) (c m : PS) (t b : Int), j + d = n → i < j → d < k → d < k' → Same sc c clS → Same sm m (smS n) → 0 ≤ t → t ≤ 693 → ∃ r c' m', X6_lots_L49 i co k c t b j = some (r, c') ∧ X7_lots_L27 i co' k' m t b j = some (r, m') ∧ Same sc c' clS ∧ Same sm m' (smS n) := by
  intro d
  induction d with
  | zero =>
    intro k k' j c m t b hj hij hk hk' hS hT h0 h1
    obtain ⟨k, rfl⟩ : ∃ q, k = q + 1 := ⟨k - 1, by omega⟩
    obtain ⟨k', rfl⟩ : ∃ q, k' = q + 1 := ⟨k' - 1, by omega⟩
    have E1 := E.sc hS hT
    have n7 := E1.1.1.2.1
    rw [X6_lots_L49, X7_lots_L27, E1.1.1.1, E1.1.2.1, wI_id (z := (n : Int)) (by omega) (by omega), wI_id (z := (j : Int)) (by omega) (by omega), if_pos (by omega), if_pos (by omega)]
    exact hco c m t b hS hT h0 h1
  | succ d ih =>
    intro k k' j c m t b hj hij hk hk' hS hT h0 h1
    obtain ⟨k, rfl⟩ : ∃ q, k = q + 1 := ⟨k - 1, by omega⟩
    obtain ⟨k', rfl⟩ : ∃ q, k' = q + 1 := ⟨k' - 1, by omega⟩
    have E1 := E.sc hS hT
    have n7 := E1.1.1.2.1
    obtain ⟨c5, m5, v, a1, a2, a3, a4, a5, a6⟩ := lot_step E1 hy (i := i) (j := j) (by omega) (by omega) (by omega)
    rw [X6_lots_L49, X7_lots_L27, E1.1.1.1, E1.1.2.1, wI_id (z := (n : Int)) (by omega) (by omega), wI_id (z := (j : Int)) (by omega) (by omega), if_neg (by omega), if_neg (by omega), a1, a2, wI_id (z := v) (by omega) (by omega), wI_id (z := t) (by omega) (by omega)]
    have S5 : Same sc c5 clS := hS.tr a3 (fun _ _ q => q) (fun _ _ q => q)
    have T5 : Same sm m5 (smS n) := hT.tr a4 (fun _ _ q => q) (fun _ _ q => q)
    by_cases q : v ≤ t
    · rw [if_pos q, if_neg (by omega)]
      exact ih k k' (j + 1) c5 m5 t b (by omega) (by omega) (by omega) (by omega) S5 T5 h0 h1
    · rw [if_neg q, if_pos (by omega)]
      exact ih k k' (j + 1) c5 m5 v (10 * i + j) (by omega) (by omega) (by omega) (by omega) S5 T5 a5 a6
theorem lots_L {sc sm : PS} {n : Nat} {y : Int} {L : Cl} (E : EQ sc sm 20 n y L) (hy : y ≤ 999) : ∀ (d k k' i : Nat) (c m : PS) (t b : Int), i + d = n → d < k → d < k' → Same sc c clS → Same sm m (smS n) → 0 ≤ t → t ≤ 693 → ∃ r c' m', X6_lots_L33 k c t b i = some (r, c') ∧ X7_lots_L14 k' m t b i = some (r, m') ∧ Same sc c' clS ∧ Same sm m' (smS n) := by
  intro d
  induction d with
  | zero =>
    intro k k' i c m t b hj hk hk' hS hT h0 h1
    obtain ⟨k, rfl⟩ : ∃ q, k = q + 1 := ⟨k - 1, by omega⟩
    obtain ⟨k', rfl⟩ : ∃ q, k' = q + 1 := ⟨k' - 1, by omega⟩
    have E1 := E.sc hS hT
    have n7 := E1.1.1.2.1
    rw [X6_lots_L33, X7_lots_L14, E1.1.1.1, E1.1.2.1, wI_id (z := (n : Int)) (by omega) (by omega), wI_id (z := (i : Int)) (by omega) (by omega), if_pos (by omega), if_pos (by omega)]
    exact ⟨_, _, _, rfl, rfl, hS, hT⟩
  | succ d ih =>
    intro k k' i c m t b hj hk hk' hS hT h0 h1
    obtain ⟨k, rfl⟩ : ∃ q, k = q + 1 := ⟨k - 1, by omega⟩
    obtain ⟨k', rfl⟩ : ∃ q, k' = q + 1 := ⟨k' - 1, by omega⟩
    have E1 := E.sc hS hT
    have n7 := E1.1.1.2.1
    rw [X6_lots_L33, X7_lots_L14, E1.1.1.1, E1.1.2.1, wI_id (z := (n : Int)) (by omega) (by omega), wI_id (z := (i : Int)) (by omega) (by omega), if_neg (by omega), if_neg (by omega)]
    exact lots_in E hy (i := i) (co := fun s_ x1 x2 x3 => X6_lots_L33 k s_ x1 x2 x3) (co' := fun s_ x1 x2 x3 => X7_lots_L14 k' s_ x1 x2 x3) (fun c m t b hS hT h0 h1 => ih k k' (i + 1) c m t b (by omega) (by omega) (by omega) hS hT h0 h1) d FU FU (i + 1) c m t b (by omega) (by omega) (by unfold FU; omega) (by unfold FU; omega) hS hT h0 h1
theorem sim_lots : Sim_lots Rel := by
  intro sc sm R
  obtain ⟨n, y, L, E, hy⟩ := R.eq
  have n7 := E.1.1.2.1
  have m0 := E.1.2.1
  obtain ⟨c1, d1, d2, d3⟩ := take_eq E
  obtain ⟨c2, m2, v, b1, b2, b3, b4, b5, b6, b7, b8⟩ := earns_eq d2 (K := 20) (by omega) (by omega) (w := 10) (Or.inl rfl)
  rw [if_pos rfl] at b2
  have b1' : X5_go 40 c1 20 = some c2 := b1
  have b3' : X7_earnsThen sm 20 10 = some (v, m2) := b3
  obtain ⟨r, c', m', h1, h2, h3, h4⟩ := lots_L E hy n FU FU 0 c2 m2 v (-5) (by omega) (by unfold FU; omega) (by unfold FU; omega) ((d3.wk fun b j q => cl_tk q).tr (b4.wk (R := clS) fun b j q => cl_go q) (fun _ _ q => q) (fun _ _ q => q)) b6 b7 b8
  unfold X6_lots X7_lots
  rw [d1, bI_some, b1', bI_some, b2, bI_some, b3', bP_some]
  exact ⟨r, c', r, m', h1, h2, rfl, R.same h3 (by rw [m0]; exact h4)⟩
