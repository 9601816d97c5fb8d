/-! BEFORE: the rows one by one -/
def hornF (v : Int) (D : Int → Int) : Nat → Int
  | 0 => 0
  | k + 1 => hornF v D k * v + D k
def powF (v : Int) : Nat → Int
  | 0 => 1
  | k + 1 => powF v k * v
theorem hornF_ext {v : Int} {D D' : Int → Int} : ∀ {k : Nat}, (∀ h : Int, 0 ≤ h → h < k → D h = D' h) → hornF v D k = hornF v D' k
  | 0, _ => rfl
  | k + 1, H => by rw [hornF, hornF, hornF_ext (k := k) (fun h h1 h2 => H h h1 (by omega)), H k (by omega) (by omega)]
theorem powF_4 {v : Int} (h0 : 0 ≤ v) (h4 : v ≤ 4) : ∀ k : Nat, 0 ≤ powF v k ∧ powF v k ≤ powF 4 k
  | 0 => ⟨by rw [powF]; omega, by rw [powF, powF]; omega⟩
  | k + 1 => by
    obtain ⟨a, b⟩ := powF_4 h0 h4 k
    rw [powF, powF]
    exact ⟨Int.mul_nonneg a h0, Int.mul_le_mul b h4 h0 (by omega)⟩
theorem powF_256 {v : Int} (h0 : 0 ≤ v) (h4 : v ≤ 4) {k : Nat} (hk : k ≤ 4) : 0 ≤ powF v k ∧ powF v k ≤ 256 := by
  obtain ⟨a, b⟩ := powF_4 h0 h4 k
  refine ⟨a, Int.le_trans b ?_⟩
  have hk' : k = 0 ∨ k = 1 ∨ k = 2 ∨ k = 3 ∨ k = 4 := by omega
  rcases hk' with e | e | e | e | e <;> subst e <;> decide
theorem hornF_rng {v : Int} {D : Int → Int} (h0 : 0 ≤ v) (h4 : v ≤ 4) : ∀ {k : Nat}, (∀ h : Int, 0 ≤ h → h < k → 0 ≤ D h ∧ D h < v) → 0 ≤ hornF v D k ∧ hornF v D k < powF v k
  | 0, _ => ⟨by rw [hornF]; omega, by rw [hornF, powF]; omega⟩
  | k + 1, H => by
    obtain ⟨a, b⟩ := hornF_rng h0 h4 (k := k) (fun h h1 h2 => H h h1 (by omega))
    obtain ⟨c, d⟩ := H k (by omega) (by omega)
    rw [hornF, powF]
    have hv : v = 1 ∨ v = 2 ∨ v = 3 ∨ v = 4 := by omega
    rcases hv with e | e | e | e <;> subst e <;> omega
theorem dm {H d v : Int} (hv : 1 ≤ v ∧ v ≤ 4) (hd : 0 ≤ d ∧ d < v) (hH : 0 ≤ H) : (H * v + d) % v = d ∧ (H * v + d) / v = H := by
  obtain ⟨v1, v2⟩ := hv
  have hv : v = 1 ∨ v = 2 ∨ v = 3 ∨ v = 4 := by omega
  rcases hv with e | e | e | e <;> subst e <;> omega
theorem set_L {v : Int} {D : Int → Int} (h4 : v ≤ 4) : ∀ (k f : Nat) (s0 : PS), k < f → k ≤ 4 → (∀ h : Int, 0 ≤ h → h < k → 0 ≤ D h ∧ D h < v) → ∃ s', X6_setLaterRow_L13 v f s0 (hornF v D k) ((k : Int) - 1) = some s' ∧ Same s0 s' (fun b j => b = 45 ∧ 0 ≤ j ∧ j < k) ∧ ∀ h : Int, 0 ≤ h → h < k → s' (40 + 5) h = s0 12 (D h) := by
  intro k
  induction k with
  | zero =>
    intro f s0 hf _ _
    obtain ⟨f, rfl⟩ : ∃ q, f = q + 1 := ⟨f - 1, by omega⟩
    rw [X6_setLaterRow_L13, if_pos (by decide)]
    exact ⟨s0, rfl, Same.rf, fun h h1 h2 => by omega⟩
  | succ k ih =>
    intro f s0 hf hk hD
    obtain ⟨f, rfl⟩ : ∃ q, f = q + 1 := ⟨f - 1, by omega⟩
    obtain ⟨d0, d1⟩ := hD k (by omega) (by omega)
    obtain ⟨a, b⟩ := hornF_rng (v := v) (D := D) (by omega) h4 (k := k) (fun h h1 h2 => hD h h1 (by omega))
    obtain ⟨a', b'⟩ := hornF_rng (v := v) (D := D) (by omega) h4 (k := k + 1) hD
    have p := powF_256 (v := v) (by omega) h4 (k := k + 1) hk
    obtain ⟨e1, e2⟩ := dm (H := hornF v D k) (d := D k) (v := v) (by omega) ⟨d0, d1⟩ a
    rw [X6_setLaterRow_L13, wI_id (z := ((k + 1 : Nat) : Int) - 1) (by omega) (by omega), wI_id (z := v) (by omega) (by omega), if_neg (by omega), if_neg (by omega), znz_ok (rngs (by omega) (by omega)) (by omega), zrem_nn a' (by omega) (by omega) (by omega), zdiv_nn a' (by omega) (by omega) (by omega), hornF, e1, e2, zrd_ok (by omega) (by omega) (by omega), bI_some, zwr_ok (by omega) (by omega) (by omega), bI_some, znz_ok (rngs (by omega) (by omega)) (by omega), show ((k + 1 : Nat) : Int) - 1 = k by omega]
    obtain ⟨s', r1, r2, r3⟩ := ih f (zu s0 (40 + 5) k (s0 12 (D k))) (by omega) (by omega) (fun h h1 h2 => hD h h1 (by omega))
    refine ⟨s', r1, fun b j hb => by rw [r2 _ _ (by omega), zu_o (by omega)], fun h h1 h2 => ?_⟩
    by_cases q : h = k
    · subst q
      rw [r2 _ _ (by omega), zu_at]
    · rw [r3 h h1 (by omega), zu_o (by omega)]
theorem nrow_L {v : Int} (h4 : v ≤ 4) : ∀ (k f : Nat) (s : PS), k < f → k ≤ 4 → s 0 36 = v → (∀ h : Int, 0 ≤ h → h < k → 0 ≤ s 35 h ∧ s 35 h < v) → ∃ r s', X7_nextRow_L7 f s ((k : Int) - 1) = some (r, s') ∧ Same s s' (fun b j => b = 35 ∧ 0 ≤ j ∧ j < k) ∧ (∀ h : Int, 0 ≤ h → h < k → 0 ≤ s' 35 h ∧ s' 35 h < v) ∧ ((r = 1 ∧ hornF v (s' 35) k = hornF v (s 35) k + 1) ∨ (r = 0 ∧ hornF v (s 35) k + 1 = powF v k ∧ hornF v (s' 35) k = 0)) := by
  intro k
  induction k with
  | zero =>
    intro f s hf _ _ _
    obtain ⟨f, rfl⟩ : ∃ q, f = q + 1 := ⟨f - 1, by omega⟩
    rw [X7_nextRow_L7, if_pos (by decide)]
    exact ⟨0, s, rfl, Same.rf, fun h h1 h2 => by omega, Or.inr ⟨rfl, rfl, rfl⟩⟩
  | succ k ih =>
    intro f s hf hk hv hD
    obtain ⟨f, rfl⟩ : ∃ q, f = q + 1 := ⟨f - 1, by omega⟩
    obtain ⟨d0, d1⟩ := hD k (by omega) (by omega)
    have e1 : zu s 35 k (s 35 k + 1) 35 k = s 35 k + 1 := zu_at
    have e2 : zu s 35 k (s 35 k + 1) 0 36 = v := (zu_o (by omega)).trans hv
    rw [X7_nextRow_L7, wI_id (z := ((k + 1 : Nat) : Int) - 1) (by omega) (by omega), if_neg (by omega), show ((k + 1 : Nat) : Int) - 1 = k by omega, zrd_ok (by omega) (by omega) (by omega), bI_some, zwr_ok (by omega) (by omega) (by omega), bI_some, zrd_ok (by omega) (by omega) (by omega), bI_some, e1, e2, wI_id (z := v) (by omega) (by omega), wI_id (z := s 35 k + 1) (by omega) (by omega)]
    by_cases c : v ≤ s 35 k + 1
    · rw [if_pos c, zwr_ok (by omega) (by omega) (by omega), bI_some]
      have z : ∀ h : Int, 0 ≤ h → h < k → zu (zu s 35 k (s 35 k + 1)) 35 k 0 35 h = s 35 h := fun h h1 h2 => by rw [zu_o (by omega), zu_o (by omega)]
      obtain ⟨r, s', r1, r2, r3, r4⟩ := ih f (zu (zu s 35 k (s 35 k + 1)) 35 k 0) (by omega) (by omega) (by rw [zu_o (by omega), zu_o (by omega)]; exact hv) (fun h h1 h2 => by rw [z h h1 h2]; exact hD h h1 (by omega))
      have ek : s' 35 k = 0 := by rw [r2 _ _ (by omega), zu_at]
      rw [hornF_ext (D := zu (zu s 35 k (s 35 k + 1)) 35 k 0 35) (D' := s 35) z] at r4
      refine ⟨r, s', r1, fun b j hb => by rw [r2 _ _ (by omega), zu_o (by omega), zu_o (by omega)], fun h h1 h2 => ?_, ?_⟩
      · by_cases q : h = k
        · subst q; rw [ek]; omega
        · exact r3 h h1 (by omega)
      · rcases r4 with ⟨g1, g2⟩ | ⟨g1, g2, g3⟩
        · refine Or.inl ⟨g1, ?_⟩
          rw [hornF, hornF, ek, g2, Int.add_mul]; omega
        · refine Or.inr ⟨g1, ?_, ?_⟩
          · rw [hornF, powF, ← g2, Int.add_mul]; omega
          · rw [hornF, g3, ek]; omega
    · rw [if_neg c]
      refine ⟨1, _, rfl, fun b j hb => zu_o (by omega), fun h h1 h2 => ?_, Or.inl ⟨rfl, ?_⟩⟩
      · by_cases q : h = k
        · subst q; rw [zu_at]; omega
        · rw [zu_o (by omega)]; exact hD h h1 h2
      · rw [hornF, hornF, e1, hornF_ext (D := zu s 35 k (s 35 k + 1) 35) (D' := s 35) (fun h h1 h2 => zu_o (by omega))]; omega
theorem brings_L2 {m : PS} {n : Nat} {v : Int} (n4 : n ≤ 4) (h4 : v ≤ 4) (m0 : m 0 0 = n) (hD : ∀ h : Int, 0 ≤ h → h < n → 0 ≤ m 35 h ∧ m 35 h < v) : ∀ (k i : Nat) (s0 : PS), i ≤ n → n - i < k → Same m s0 (fun b _ => b = 4) → (∀ h : Int, 0 ≤ h → h < i → s0 4 h = m 32 (m 35 h)) → ∃ s', X7_bringsNow_L2 k s0 i = bI (X7_layNext s') (fun s1 => X7_bringsNow_L39 FU s1 0) ∧ Same m s' (fun b _ => b = 4) ∧ ∀ h : Int, 0 ≤ h → h < n → s' 4 h = m 32 (m 35 h) := by
  intro k
  induction k with
  | zero => intro i _ _ h; omega
  | succ k ih =>
    intro i s0 hi hk hS hv
    rw [X7_bringsNow_L2, (hS _ _ (by omega)).trans m0, wI_id (z := (n : Int)) (by omega) (by omega), wI_id (z := (i : Int)) (by omega) (by omega)]
    by_cases h : n ≤ i
    · rw [if_pos (by omega)]
      exact ⟨s0, rfl, hS, fun h h1 h2 => hv h h1 (by omega)⟩
    · obtain ⟨d0, d1⟩ := hD i (by omega) (by omega)
      have e1 : s0 35 i = m 35 i := hS _ _ (by omega)
      have e2 : s0 32 (m 35 i) = m 32 (m 35 i) := hS _ _ (by omega)
      rw [if_neg (by omega), zrd_ok (by omega) (by omega) (by omega), bI_some, e1, zrd_ok (by omega) (by omega) (by omega), bI_some, e2, zwr_ok (by omega) (by omega) (by omega), bI_some]
      refine ih (i + 1) _ (by omega) (by omega) (fun b j hb => (zu_o (by omega)).trans (hS b j hb)) (fun h h1 h2 => ?_)
      by_cases he : h = i
      · rw [he, zu_at]
      · rw [zu_o (by omega)]; exact hv h h1 (by omega)
theorem brings39 {s : PS} {n : Nat} (h0 : s 0 0 = n) (n7 : n ≤ 7) (hb : ∀ h : Int, 0 ≤ h → h < n → (0 ≤ s 27 h ∧ s 27 h ≤ 99) ∧ (0 ≤ s 33 h ∧ s 33 h ≤ 99)) : ∀ (k i : Nat), i ≤ n → n - i < k → ∃ d, X7_bringsNow_L39 k s i = some (d, s) ∧ ((d = 1 ∧ ∀ h : Int, i ≤ h → h < n → s 27 h = s 33 h) ∨ (d = 0 ∧ ¬ ∀ h : Int, i ≤ h → h < n → s 27 h = s 33 h)) := by
  intro k
  induction k with
  | zero => intro i _ h; omega
  | succ k ih =>
    intro i hi hk
    rw [X7_bringsNow_L39, h0, wI_id (z := (n : Int)) (by omega) (by omega), wI_id (z := (i : Int)) (by omega) (by omega)]
    by_cases h : n ≤ i
    · rw [if_pos (by omega)]
      exact ⟨1, rfl, Or.inl ⟨rfl, fun h a1 a2 => by omega⟩⟩
    · obtain ⟨b1, b2⟩ := hb i (by omega) (by omega)
      rw [if_neg (by omega), zrd_ok (by omega) (by omega) (by omega), bI_some, zrd_ok (by omega) (by omega) (by omega), bI_some, wI_id (z := s 27 i) (by omega) (by omega), wI_id (z := s 33 i) (by omega) (by omega)]
      by_cases c : s 27 i = s 33 i
      · rw [if_pos c]
        obtain ⟨d, d1, d2⟩ := ih (i + 1) (by omega) (by omega)
        refine ⟨d, d1, ?_⟩
        rcases d2 with ⟨e1, e2⟩ | ⟨e1, e2⟩
        · refine Or.inl ⟨e1, fun h a1 a2 => ?_⟩
          by_cases he : h = i
          · rw [he]; exact c
          · exact e2 h (by omega) a2
        · exact Or.inr ⟨e1, fun q => e2 fun h a1 a2 => q h (by omega) a2⟩
      · rw [if_neg c]
        exact ⟨0, rfl, Or.inr ⟨rfl, fun q => c (q i (by omega) (by omega))⟩⟩
theorem now_L {s : PS} {n : Nat} (h0 : s 20 0 = n) (n7 : n ≤ 7) (hb : ∀ h : Int, 0 ≤ h → h < n → (0 ≤ s (40 + 5) h ∧ s (40 + 5) h ≤ 99) ∧ (0 ≤ s (20 + 5) h ∧ s (20 + 5) h ≤ 99)) : ∀ (k i : Nat), i ≤ n → n - i < k → ∃ d, X6_laterAsNow_L2 s k i = some d ∧ ((d = 1 ∧ ∀ h : Int, i ≤ h → h < n → s (40 + 5) h = s (20 + 5) h) ∨ (d = 0 ∧ ¬ ∀ h : Int, i ≤ h → h < n → s (40 + 5) h = s (20 + 5) h)) := by
  intro k
  induction k with
  | zero => intro i _ h; omega
  | succ k ih =>
    intro i hi hk
    rw [X6_laterAsNow_L2, h0, wI_id (z := (n : Int)) (by omega) (by omega), wI_id (z := (i : Int)) (by omega) (by omega)]
    by_cases h : n ≤ i
    · rw [if_pos (by omega)]
      exact ⟨1, rfl, Or.inl ⟨rfl, fun h a1 a2 => by omega⟩⟩
    · obtain ⟨b1, b2⟩ := hb i (by omega) (by omega)
      rw [if_neg (by omega), zrd_ok (by omega) (by omega) (by omega), bI_some, zrd_ok (by omega) (by omega) (by omega), bI_some, wI_id (z := s (40 + 5) i) (by omega) (by omega), wI_id (z := s (20 + 5) i) (by omega) (by omega)]
      by_cases c : s (40 + 5) i = s (20 + 5) i
      · rw [if_pos c]
        obtain ⟨d, d1, d2⟩ := ih (i + 1) (by omega) (by omega)
        refine ⟨d, d1, ?_⟩
        rcases d2 with ⟨e1, e2⟩ | ⟨e1, e2⟩
        · refine Or.inl ⟨e1, fun h a1 a2 => ?_⟩
          by_cases he : h = i
          · rw [he]; exact c
          · exact e2 h (by omega) a2
        · exact Or.inr ⟨e1, fun q => e2 fun h a1 a2 => q h (by omega) a2⟩
      · rw [if_neg c]
        exact ⟨0, rfl, Or.inr ⟨rfl, fun q => c (q i (by omega) (by omega))⟩⟩
theorem copy105 {m : PS} {n : Nat} {w cnt : Int} {co : PS → Int → Int → Option (Int × PS)} (m0 : m 0 0 = n) (n7 : n ≤ 7) (hc : 0 ≤ cnt ∧ cnt ≤ 1000) : ∀ (k i : Nat) (s0 : PS), i ≤ n → n - i < k → Same m s0 (fun b _ => b = 34) → (∀ h : Int, 0 ≤ h → h < i → s0 34 h = m 4 h) → (cnt ≠ 0 → s0 = m) → ∃ s', X7_before_L105 w cnt co k s0 i = bP (X7_nextRow s') (fun v4 s7 => co s7 (cnt + 1) v4) ∧ Same m s' (fun b _ => b = 34) ∧ (cnt = 0 → ∀ h : Int, 0 ≤ h → h < n → s' 34 h = m 4 h) ∧ (cnt ≠ 0 → s' = m) := by
  intro k
  induction k with
  | zero => intro i _ _ h; omega
  | succ k ih =>
    intro i s0 hi hk hS hv hm
    rw [X7_before_L105, (hS _ _ (by omega)).trans m0, wI_id (z := (n : Int)) (by omega) (by omega), wI_id (z := (i : Int)) (by omega) (by omega), wI_id (z := cnt) (by omega) (by omega)]
    by_cases h : n ≤ i
    · rw [if_pos (by omega)]
      exact ⟨s0, rfl, hS, fun _ h h1 h2 => hv h h1 (by omega), hm⟩
    · rw [if_neg (by omega)]
      by_cases c : cnt = 0
      · have e1 : s0 4 i = m 4 i := hS _ _ (by omega)
        rw [if_pos c, zrd_ok (by omega) (by omega) (by omega), bI_some, zwr_ok (by omega) (by omega) (by omega), bI_some, e1]
        refine ih (i + 1) _ (by omega) (by omega) (fun b j hb => (zu_o (by omega)).trans (hS b j hb)) (fun h h1 h2 => ?_) (fun q => absurd c q)
        by_cases he : h = i
        · rw [he, zu_at]
        · rw [zu_o (by omega)]; exact hv h h1 (by omega)
      · rw [if_neg c]
        exact ⟨s0, rfl, hS, fun q => absurd q c, hm⟩
