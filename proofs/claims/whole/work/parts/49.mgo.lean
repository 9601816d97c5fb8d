theorem MT_rng {st : PS} {L : Cl} (h : MT st L) (fx : Int → Int) : -990 ≤ addsL fx L ∧ addsL fx L ≤ 990 := by
  have key : ∀ L : Cl, okL L → -(99 * (L.length : Int)) ≤ addsL fx L ∧ addsL fx L ≤ 99 * (L.length : Int) := by
    intro L
    induction L with
    | nil => intro _; simp [addsL]
    | cons x L ih =>
      obtain ⟨w, m, c⟩ := x
      intro hO
      have hox := hO (w, m, c) (List.mem_cons_self)
      have i := ih (fun x hx => hO x (List.mem_cons_of_mem _ hx))
      rw [addsL, List.length_cons]
      by_cases hw : w = 0 ∨ w = 1
      · have q := hox.2 hw
        have q1 : 0 ≤ m := q.1
        have q2 : m ≤ 99 := q.2.1
        split
        · split <;> omega
        · split
          · split <;> omega
          · omega
      · rw [if_neg (fun q => hw (Or.inl q)), if_neg (fun q => hw (Or.inr q))]
        omega
  obtain ⟨q1, q2, q3, q4, q5, q6⟩ := h.mf
  have := key L q2
  omega
theorem mnext_ok {st : PS} {n : Nat} {y : Int} {L : Cl} {s : Int → Int} (T : MW st n y) (hM : MS st y s) (hT : MT st L) {h : Int} (h0 : 0 ≤ h) (h1 : h < n) : ∃ s', X7_nextOf st h = some (nextF n y L (st 2) (st 3) (st 4) (st 5) s h, s') ∧ Same st s' mQ := by
  obtain ⟨s1, a1, a2⟩ := mplain_ok T hM hT h0 h1
  have T1 : MW s1 n y := T.same a2 (by unfold mQ; omega) (by unfold mQ; omega) (fun j => by unfold mQ; omega)
  have MT1 : MT s1 L := hT.same a2 (by unfold mQ; omega) (fun b j z1 z2 => by unfold mQ; omega)
  obtain ⟨s2, b1, b2⟩ := madds_ok T1 MT1 h0 h1
  have k2 : s1 2 = st 2 := funext fun j => a2 _ _ (by unfold mQ; omega)
  have k3 : s1 3 = st 3 := funext fun j => a2 _ _ (by unfold mQ; omega)
  have k4 : s1 4 = st 4 := funext fun j => a2 _ _ (by unfold mQ; omega)
  unfold X7_nextOf
  rw [a1, bP_some, b1, bP_some, k2, k3, k4]
  have gA := MT_rng hT (fctF n y (st 2) (st 3) (st 4) h)
  have sr := hM.rng T
  have gP : 0 ≤ plainF n y (ringL L 0) (st 2) (st 3) (st 4) (st 5) s h ∧ plainF n y (ringL L 0) (st 2) (st 3) (st 4) (st 5) s h ≤ 99 := by
    have gm := midF_rng (ring := ringL L 0) T.erng (s := s) sr h0 h1
    obtain ⟨b1, b2, b3, b4⟩ := T.2.2.2.2.2 h h0 h1
    have gw := getD_rng (wideF_rng (n := n) (ring := ringL L 0) (far := 2) (s := s) b3 n sr)
    unfold plainF
    split
    · omega
    · split
      · omega
      · split
        · exact gw _
        · split
          · split <;> omega
          · split
            · exact gw _
            · omega
  rw [least_ok (rngs (by omega) (by omega)) (rngs (by omega) (by omega)), most_ok (rngs (by omega) (by omega)) (rngs (by omega) (by omega))]
  exact ⟨s2, rfl, a2.tr b2 (fun _ _ q => q) (fun b j q => Or.inl q)⟩
