/-! the model's next year -/
theorem wideN_lt {n : Nat} {ring h far : Int} : ∀ m, wideN n ring h far m ≤ m + 1
  | 0 => Nat.le_refl _
  | m + 1 => by
    have := wideN_lt (n := n) (ring := ring) (h := h) (far := far) m
    rw [wideN]; split
    · omega
    · split <;> omega
theorem some_L {st : PS} {n : Nat} {y r far : Int} {s : Int → Int} (T : MW st n y) (hM : MS st y s) (hr : r = 0 ∨ r = 1) (hf : 0 ≤ far ∧ far ≤ 10) {h : Int} (h0 : 0 ≤ h) (h1 : h < n) : ∀ (k m : Nat) (s0 : PS), m ≤ n → n - m < k → Same st s0 (fun b j => b = 25 ∨ (b = 0 ∧ j = 26)) → MWR s0 (wideF n r (st 4) (s) h far m) →
    ∃ s', X7_laySome_L23 h far r k s0 m = some s' ∧ Same st s' (fun b j => b = 25 ∨ (b = 0 ∧ j = 26)) ∧ MWR s' (wideF n r (st 4) (s) h far n) := by
  obtain ⟨t1, t2, t3, t4, t5, t6⟩ := id T
  intro k
  induction k with
  | zero => intro m _ _ hk; omega
  | succ k ih =>
    intro m s0 hm hk hS hW
    have e0 : s0 0 0 = n := (hS _ _ (by omega)).trans t1
    rw [X7_laySome_L23, e0, wI_id (z := (n : Int)) (by omega) (by omega), wI_id (z := (m : Int)) (by omega) (by omega), wI_id (z := h) (by omega) (by omega)]
    by_cases c : n ≤ m
    · have e : m = n := by omega
      subst e
      rw [if_pos (by omega)]
      exact ⟨s0, rfl, hS, hW⟩
    · obtain ⟨d1, d2, d3⟩ := away_0 (n := n) (h := h) (m := m) (r := r) h0 h1 (by omega) (by omega)
      have d0 : 0 ≤ awayF n h m r := by
        by_cases q : (m : Int) = h
        · rw [d1 q]; decide
        · have := d2 q; omega
      rw [if_neg (by omega), maway_ok e0 t2 h0 h1 (by omega) (by omega) hr, wI_id (z := far) (by omega) (by omega), wI_id (z := awayF n h m r) (by omega) (by omega)]
      by_cases q1 : (m : Int) = h
      · rw [if_pos q1]
        exact ih (m + 1) s0 (by omega) (by omega) hS (by rw [wideF, if_pos q1]; exact hW)
      · rw [if_neg q1]
        by_cases q2 : far < awayF n h m r
        · rw [if_pos q2]
          exact ih (m + 1) s0 (by omega) (by omega) hS (by rw [wideF, if_neg q1, if_pos q2]; exact hW)
        · rw [if_neg q2]
          have T0 : MW s0 n y := T.same hS (by omega) (by omega) (fun j => by omega)
          have sr := hM.rng T
          have M0 : MS s0 y s := hM.same hS (by omega) (fun j => by omega)
          rw [msay_ok T0 M0 (h := m) (by omega) (by omega), bI_some]
          have hlen := wideN_lt (n := n) (ring := r) (h := h) (far := far) m
          obtain ⟨s1, g1, g2, g3⟩ := sortIn_ok (x := s m) (by rw [wideF_len]; omega) (wideF_rng (T.erng h h0 h1) m (fun o o0 o1 => sr o o0 (by omega))) (sr m (by omega) (by omega)) (wideF_srt m) hW
          rw [g1, bI_some]
          refine ih (m + 1) s1 (by omega) (by omega) (hS.tr g2 (fun _ _ q => q) (fun _ _ q => q)) ?_
          rw [wideF, if_neg q1, if_neg q2]; exact g3
theorem some_ok {st : PS} {n : Nat} {y far : Int} {L : Cl} {s : Int → Int} (T : MW st n y) (hM : MS st y s) (hT : MT st L) (hf : 0 ≤ far ∧ far ≤ 10) {h : Int} (h0 : 0 ≤ h) (h1 : h < n) : ∃ s', X7_laySome st h far = some s' ∧ Same st s' (fun b j => b = 25 ∨ (b = 0 ∧ j = 26)) ∧ MWR s' (wideF n (ringL L 0) (st 4) (s) h far n) := by
  obtain ⟨t1, t2, t3, t4, t5, t6⟩ := id T
  have hr := ringL_bit L 0 (Or.inl rfl)
  have S1 : Same st (zu st 0 26 0) (fun b j => b = 25 ∨ (b = 0 ∧ j = 26)) := fun b j q => zu_o (by omega)
  have W1 : MWR (zu st 0 26 0) [] := ⟨zu_at, fun j hj => by simp at hj⟩
  obtain ⟨s1, g1, g2, g3⟩ := sortIn_ok (x := st 4 h) (by simp) (by simp) (T.erng h h0 h1) (fun i j _ hj => by simp at hj) W1
  unfold X7_laySome
  rw [mring_ok hT, bI_some]
  show ∃ s', (bI (zrd (zu st 0 26 0) 4 8 h) _) = some s' ∧ _
  rw [zrd_ok (by omega) (by omega) (by omega), bI_some, zu_o (by omega), g1, bI_some]
  exact some_L T hM hr hf h0 h1 FU 0 s1 (Nat.zero_le _) (by unfold FU; omega) (S1.tr g2 (fun _ _ q => q) (fun _ _ q => q)) g3
