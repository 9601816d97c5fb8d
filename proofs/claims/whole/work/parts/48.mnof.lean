theorem mplain_ok {st : PS} {n : Nat} {y : Int} {L : Cl} {s : Int → Int} (T : MW st n y) (hM : MS st y s) (hT : MT st L) {h : Int} (h0 : 0 ≤ h) (h1 : h < n) : ∃ s', X7_plainNext st h = some (plainF n y (ringL L 0) (st 2) (st 3) (st 4) (st 5) s h, s') ∧ Same st s' mQ := by
  obtain ⟨t1, t2, t3, t4, t5, t6⟩ := id T
  obtain ⟨b1, b2, b3, b4⟩ := t6 h h0 h1
  have gm := midF_rng (ring := ringL L 0) T.erng (s := s) (hM.rng T) h0 h1
  have hr := ringL_bit L 0 (Or.inl rfl)
  have hlen : (wideF n (ringL L 0) (st 4) s h 2 n).length ≤ 5 := by rw [wideF_len]; exact wideN_le t2 (Nat.le_refl _) hr h0 h1
  have hpos := wideF_pos (n := n) (ring := ringL L 0) (e := st 4) (s := s) (h := h) (far := 2) n
  obtain ⟨sm, m1, m2⟩ := mmiddle_ok T hM hT h0 h1
  obtain ⟨sw, f1, f2, f3⟩ := some_ok T hM hT (far := 2) (by omega) h0 h1
  have fQ : Same st sw mQ := f2.wk (fun b j q => Or.inr q)
  have e3 : sm 3 h = st 3 h := m2 _ _ (by unfold mQ; omega)
  have e4 : sm 4 h = st 4 h := m2 _ _ (by unfold mQ; omega)
  unfold X7_plainNext plainF
  rw [zrd_ok (by omega) (by omega) (by omega), bI_some, wI_id (by omega) (by omega)]
  by_cases k1 : st 2 h = 1
  · rw [if_pos k1, if_pos k1, m1, bP_some, zrd_ok (by omega) (by omega) (by omega), bI_some, e3, most_ok (rngs (by omega) (by omega)) (rngs (by omega) (by omega))]
    exact ⟨sm, rfl, m2⟩
  · rw [if_neg k1, if_neg k1]
    by_cases k2 : st 2 h = 2 ∨ st 2 h = 5
    · rw [if_pos k2, if_pos k2, m1, bP_some, zrd_ok (by omega) (by omega) (by omega), bI_some, e4, least_ok (rngs (by omega) (by omega)) (rngs (by omega) (by omega))]
      exact ⟨sm, rfl, m2⟩
    · rw [if_neg k2, if_neg k2]
      by_cases k3 : st 2 h = 3
      · rw [if_pos k3, if_pos k3, f1, bI_some, f3.1, zdiv_nn (by omega) (by omega) (by omega) (by omega), zrd_ok (by omega) (by omega) (by omega), bI_some]
        refine ⟨sw, ?_, fQ⟩
        have q := f3.2 (((wideF n (ringL L 0) (st 4) s h 2 n).length - 1) / 2) (by omega)
        rw [← q]
        congr 3
        omega
      · rw [if_neg k3, if_neg k3]
        by_cases k4 : st 2 h = 4
        · have q1 := Int.emod_nonneg y (b := st 3 h + 2) (by omega)
          have q2 := Int.emod_lt_of_pos y (b := st 3 h + 2) (by omega)
          rw [if_pos k4, if_pos k4, zrd_ok (by omega) (by omega) (by omega), bI_some, znz_ok (rngs (by omega) (by omega)) (by omega), t3, zrem_nn (by omega) (by omega) (by omega) (by omega), wI_id (by omega) (by omega), m1, bP_some, bP_some, zrd_ok (by omega) (by omega) (by omega), bI_some, bI_some, e3, most_ok (rngs (by omega) (by omega)) (rngs (by omega) (by omega))]
          by_cases c : y % (st 3 h + 2) = 0
          · rw [if_pos c, if_pos c, zdiv_nn (by omega) (by omega) (by omega) (by omega)]
            exact ⟨sm, rfl, m2⟩
          · rw [if_neg c, if_neg c]
            exact ⟨sm, rfl, m2⟩
        · rw [if_neg k4, if_neg k4]
          by_cases k6 : st 2 h = 6
          · have e1 : sw 0 1 = y := (f2 _ _ (by omega)).trans t3
            have e6 : ∀ j, sw 5 j = st 5 j := fun j => f2 _ _ (by omega)
            have g4 := b4 (y % 4) (by omega) (by omega)
            have ej : 4 * h + y % 4 = h * 4 + y % 4 := by omega
            rw [if_pos k6, if_pos k6, f1, bI_some, e1, zrem_nn (by omega) (by omega) (by omega) (by omega), zrd_ok (by omega) (by omega) (by omega), bI_some, e6, ej, f3.1, least_ok (rngs (by omega) (by omega)) (rngs (by omega) (by omega)), zrd_ok (by omega) (by omega) (by omega), bI_some]
            refine ⟨sw, ?_, fQ⟩
            have q := f3.2 (min (st 5 (h * 4 + y % 4)) (((wideF n (ringL L 0) (st 4) s h 2 n).length : Int) - 1)).toNat (by omega)
            rw [← q, Int.toNat_of_nonneg (by omega)]
          · rw [if_neg k6, if_neg k6, m1, bP_some]
            exact ⟨sm, rfl, m2⟩
