/-- what a reckoning of the model's may write -/
abbrev mQ (b : Nat) (j : Int) : Prop := b = 23 ∨ b = 25 ∨ (b = 0 ∧ j = 26)
theorem mmiddle_ok {st : PS} {n : Nat} {y : Int} {L : Cl} {s : Int → Int} (T : MW st n y) (hM : MS st y s) (hT : MT st L) {h : Int} (h0 : 0 ≤ h) (h1 : h < n) : ∃ s', X7_middle st h = some (midF n (ringL L 0) (st 4) s h, s') ∧ Same st s' mQ := by
  obtain ⟨s1, g1, g2, g3⟩ := some_ok T hM hT (far := 1) (by omega) h0 h1
  have hn := T.2.1
  have e := wide_mid (e := st 4) (s := s) hn (ringL_bit L 0 (Or.inl rfl)) h0 h1
  have hlen : (wideF n (ringL L 0) (st 4) s h 1 n).length ≤ 8 := by
    rw [wideF_len]; have := wideN_lt (n := n) (ring := ringL L 0) (h := h) (far := 1) n; omega
  have hS : Same st s1 mQ := g2.wk (fun b j q => Or.inr q)
  unfold X7_middle
  rw [g1, bI_some, g3.1, wI_id (z := ((List.length _ : Nat) : Int)) (by omega) (by omega), show wI 3 = 3 from rfl, ← e]
  by_cases c : 3 ≤ (wideF n (ringL L 0) (st 4) s h 1 n).length
  · have q := g3.2 1 (by omega)
    rw [if_pos (by omega), if_pos c, zrd_ok (by omega) (by omega) (by omega), bI_some]
    exact ⟨s1, by rw [← q]; rfl, hS⟩
  · rw [if_neg (by omega), if_neg c, zrd_ok (by omega) (by omega) (by omega), bI_some, g2 _ _ (by omega)]
    exact ⟨s1, rfl, hS⟩
theorem least_ok {st : PS} {a b : Int} (ha : rng a) (hb : rng b) : X7_least st a b = min a b := by
  unfold X7_least; rw [wI_r ha, wI_r hb]; split <;> omega
theorem most_ok {st : PS} {a b : Int} (ha : rng a) (hb : rng b) : X7_most st a b = max a b := by
  unfold X7_most; rw [wI_r ha, wI_r hb]; split <;> omega
