/-! the model's sorted row -/
def MWR (st : PS) (l : List Int) : Prop := st 0 26 = l.length ∧ ∀ j : Nat, j < l.length → st 25 j = l.getD j 0
theorem sortIn_L {st : PS} {x : Int} {l : List Int} (hl : l.length < 8) (hr : ∀ y ∈ l, 0 ≤ y ∧ y ≤ 99) (hx : 0 ≤ x ∧ x ≤ 99) (hs : srtL l) (hW : MWR st l) : ∀ (k i : Nat) (s0 : PS), i < k → i ≤ l.length → Same st s0 (fun b _ => b = 25) → (∀ j : Nat, j < i → s0 25 j = l.getD j 0) → (∀ j : Nat, i ≤ j → j < l.length → s0 25 ((j + 1 : Nat) : Int) = l.getD j 0) → (i < l.length → x < l.getD i 0) →
    ∃ s', X7_sortIn_L5 x k s0 i = some s' ∧ Same st s' (fun b j => b = 25 ∨ (b = 0 ∧ j = 26)) ∧ MWR s' (insL x l) := by
  intro k
  induction k with
  | zero => intro i _ h; omega
  | succ k ih =>
    intro i s0 hk hi hS h1 h2 h3
    have stop : (∀ j, j < i → l.getD j 0 ≤ x) → ∃ s', (bI (zwr s0 25 8 i x) (fun s1 => zlet (zu s1 0 26 ((s1 0 26) + 1)) (fun s2 => some s2))) = some s' ∧ Same st s' (fun b j => b = 25 ∨ (b = 0 ∧ j = 26)) ∧ MWR s' (insL x l) := by
      intro hle
      rw [zwr_ok (by omega) (by omega) (by omega), bI_some]
      have e10 : zu s0 25 i x 0 26 = l.length := (zu_o (by omega)).trans ((hS _ _ (by omega)).trans hW.1)
      refine ⟨_, rfl, fun b j hb => ?_, ?_, fun j hj => ?_⟩
      · rw [zu_o (by omega), zu_o (by omega)]; exact hS b j (by omega)
      · rw [zu_at, e10, insL_len]; rfl
      · rw [insL_len] at hj
        rw [insL_get x l i hi hle h3 j (by omega), zu_o (by omega)]
        by_cases c1 : j < i
        · rw [if_pos c1, zu_o (by omega)]; exact h1 j c1
        · rw [if_neg c1]
          by_cases c2 : j = i
          · rw [if_pos c2, c2, zu_at]
          · rw [if_neg c2, zu_o (by omega)]
            have q := h2 (j - 1) (by omega) (by omega)
            rw [show j - 1 + 1 = j by omega] at q
            exact q
    rw [X7_sortIn_L5, wI_id (z := (i : Int)) (by omega) (by omega)]
    by_cases c0 : i = 0
    · rw [if_pos (by omega)]
      exact stop (fun j hj => by omega)
    · obtain ⟨i, rfl⟩ : ∃ i', i = i' + 1 := ⟨i - 1, by omega⟩
      have e1 : s0 25 (((i + 1 : Nat) : Int) - 1) = l.getD i 0 := by rw [← h1 i (by omega)]; congr 1; omega
      have r1 := getD_rng hr i
      rw [if_neg (by omega), zrd_ok (by omega) (by omega) (by omega), bI_some, e1, wI_id (by omega) (by omega), wI_id (by omega) (by omega)]
      by_cases c : l.getD i 0 ≤ x
      · rw [if_pos c]
        exact stop (fun j hj => Int.le_trans (hs j i (by omega) (by omega)) c)
      · rw [if_neg c, bI_some, zwr_ok (by omega) (by omega) (by omega), bI_some, show ((i + 1 : Nat) : Int) + (-1) = (i : Int) by omega]
        refine ih i _ (by omega) (by omega) (fun b j hb => (zu_o (by omega)).trans (hS b j hb)) (fun j hj => ?_) (fun j hj hj2 => ?_) (fun _ => by omega)
        · rw [zu_o (by omega)]; exact h1 j (by omega)
        · by_cases q : j = i
          · rw [q, zu_at]
          · rw [zu_o (by omega)]; exact h2 j (by omega) hj2
theorem sortIn_ok {st : PS} {x : Int} {l : List Int} (hl : l.length < 8) (hr : ∀ y ∈ l, 0 ≤ y ∧ y ≤ 99) (hx : 0 ≤ x ∧ x ≤ 99) (hs : srtL l) (hW : MWR st l) : ∃ s', X7_sortIn st x = some s' ∧ Same st s' (fun b j => b = 25 ∨ (b = 0 ∧ j = 26)) ∧ MWR s' (insL x l) := by
  unfold X7_sortIn
  rw [hW.1]
  exact sortIn_L hl hr hx hs hW FU l.length st (by unfold FU; omega) (Nat.le_refl _) Same.rf (fun j hj => hW.2 j hj) (fun j h1 h2 => by omega) (fun h => by omega)
theorem maway_ok {st : PS} {n : Nat} (hn : st 0 0 = n) (n7 : n ≤ 7) {h m r : Int} (h0 : 0 ≤ h) (h1 : h < n) (m0 : 0 ≤ m) (m1 : m < n) (hr : r = 0 ∨ r = 1) : X7_away st h m r = awayF n h m r := by
  unfold X7_away awayF
  rw [hn]
  rcases hr with rfl | rfl
  · rw [if_pos (by decide), if_pos rfl, wI_id (by omega) (by omega), wI_id (by omega) (by omega)]
  · rw [if_neg (by decide : ¬ wI 1 = 0), if_neg (by decide : ¬ (1 : Int) = 0), wI_id (z := h) (by omega) (by omega), wI_id (z := m) (by omega) (by omega)]
    have b : 0 ≤ (if m ≤ h then h - m else m - h) ∧ (if m ≤ h then h - m else m - h) < n := by split <;> omega
    generalize (if m ≤ h then h - m else m - h) = d at b ⊢
    rw [wI_id (by omega) (by omega), wI_id (by omega) (by omega)]
