theorem mholds_ok {st s0 : PS} {n : Nat} {y : Int} (T : MW st n y) (hS : Same st s0 (fun b _ => b = 23)) {h i : Int} (h0 : 0 ≤ h) (h1 : h < n) (i0 : 0 ≤ i) (i1 : i < 60) {c : List Int} (a0 : 0 ≤ st 15 i) (a1 : st 16 i = st 15 i + c.length) (a2 : st 16 i ≤ 600) (hM : MC st (st 15 i) c) (hc : okC c 0 = true) :
    ∃ s', X7_holds s0 i h = some (b2i (holdC (fctF n y (st 2) (st 3) (st 4) h) c), s') ∧ Same st s' (fun b _ => b = 23) := by
  unfold X7_holds
  rw [zrd_ok (by omega) (by omega) (by omega), bI_some, hS _ _ (by omega)]
  exact mholds_L T h0 h1 i0 i1 rfl a2 c FU (st 15 i) [] s0 (by unfold FU; omega) a0 (by omega) hS (MC.same hS (fun j => by omega) hM) hc (by simp) trivial
theorem madds_L {st : PS} {n : Nat} {y : Int} (T : MW st n y) {h e B : Int} (hB : B ≤ 600) (h0 : 0 ≤ h) (h1 : h < n) (he : e ≤ 60) (hb : ∀ s0, Same st s0 (fun b _ => b = 23) → X7_behind s0 = some e) : ∀ (L : Cl) (k : Nat) (acc i : Int) (s0 : PS), L.length < k → 0 ≤ i → i + L.length = e → Same st s0 (fun b _ => b = 23) → MF st B i L → okL L →
    ∃ s', X7_adds_L7 h k s0 acc i = some (acc + addsL (fctF n y (st 2) (st 3) (st 4) h) L, s') ∧ Same st s' (fun b _ => b = 23) := by
  intro L
  induction L with
  | nil =>
    intro k acc i s0 hk i0 hi hS _ _
    obtain ⟨k, rfl⟩ : ∃ k', k = k' + 1 := ⟨k - 1, by simp at hk; omega⟩
    simp at hi
    rw [X7_adds_L7, hb s0 hS, bI_some, hi, if_pos (Int.le_refl _)]
    exact ⟨s0, by simp [addsL], hS⟩
  | cons x L ih =>
    obtain ⟨w, m, c⟩ := x
    intro k acc i s0 hk i0 hi hS hF hO
    simp only [List.length_cons] at hk hi
    obtain ⟨k, rfl⟩ : ∃ k', k = k' + 1 := ⟨k - 1, by omega⟩
    obtain ⟨g1, g2, g3⟩ := hF
    have hox := hO (w, m, c) (List.mem_cons_self)
    have hw : w = 0 ∨ w = 1 ∨ w = 2 ∨ w = 3 := hox.1
    have hoL : okL L := fun x hx => hO x (List.mem_cons_of_mem _ hx)
    have e13 : s0 13 i = w := (hS _ _ (by omega)).trans g1
    rw [X7_adds_L7, hb s0 hS, bI_some, wI_id (by omega) (by omega), wI_id (by omega) (by omega), if_neg (by omega), zrd_ok (by omega) (by omega) (by omega), bI_some, e13, wI_id (z := w) (by omega) (by omega), show wI 1 = 1 from rfl]
    by_cases cw : w = 0 ∨ w = 1
    · obtain ⟨q1, q2, q3, q4, q5⟩ := g2 cw
      obtain ⟨o1, o2, o3⟩ := hox.2 cw
      obtain ⟨s1, u1, u2⟩ := mholds_ok (s0 := s0) T hS h0 h1 i0 (by omega) q2 q3 (by omega) q5 o3
      have f13 : s1 13 i = w := (u2 _ _ (by omega)).trans g1
      have f14 : s1 14 i = m := (u2 _ _ (by omega)).trans q1
      rw [if_neg (by omega), u1, bP_some, addsL]
      have nx := fun acc' => ih k acc' (i + 1) s1 (by omega) (by omega) (by omega) u2 g3 hoL
      cases hh : holdC (fctF n y (st 2) (st 3) (st 4) h) c
      · rw [if_pos (by decide)]
        obtain ⟨s', r1, r2⟩ := nx acc
        refine ⟨s', ?_, r2⟩
        rw [r1]
        rcases cw with rfl | rfl <;> simp
      · rw [if_neg (by decide), zrd_ok (by omega) (by omega) (by omega), bI_some, f13, zrd_ok (by omega) (by omega) (by omega), bI_some, bI_some, f14]
        rcases cw with rfl | rfl
        · rw [if_pos (by decide)]
          obtain ⟨s', r1, r2⟩ := nx (acc + m)
          exact ⟨s', by rw [r1]; simp; omega, r2⟩
        · rw [if_neg (by decide)]
          obtain ⟨s', r1, r2⟩ := nx (acc + -m)
          exact ⟨s', by rw [r1]; simp; omega, r2⟩
    · rw [if_pos (by omega), addsL, if_neg (fun q => cw (Or.inl q)), if_neg (fun q => cw (Or.inr q)), Int.zero_add]
      exact ih k acc (i + 1) s0 (by omega) (by omega) (by omega) hS g3 hoL
theorem madds_ok {st : PS} {n : Nat} {y : Int} {L : Cl} (T : MW st n y) (hT : MT st L) {h : Int} (h0 : 0 ≤ h) (h1 : h < n) :
    ∃ s', X7_adds st h = some (addsL (fctF n y (st 2) (st 3) (st 4) h) L, s') ∧ Same st s' (fun b _ => b = 23) := by
  obtain ⟨q1, q2, q3, q4, q5, q6⟩ := hT.mf
  unfold X7_adds
  rw [begin_ok hT]
  have hb : ∀ s0, Same st s0 (fun b _ => b = 23) → X7_behind s0 = some ((if st 0 7 < 0 then 0 else 10 * st 0 7) + L.length) := by
    intro s0 hS
    have e := behind_ok (hT.same hS (by omega) (fun b j z1 z2 => by omega))
    rw [hS 0 7 (by omega)] at e
    exact e
  have r := madds_L T q6 h0 h1 (by omega) hb L FU 0 _ st (by unfold FU; omega) q4 rfl Same.rf q1 q2
  rw [Int.zero_add] at r
  exact r
theorem msays_ok {st : PS} {n : Nat} {y : Int} (T : MW st n y) (hl : st 0 24 = -1) {h : Int} (h0 : 0 ≤ h) (h1 : h < n) : X7_saysOf st h = some (sayF y (st 2) (st 3) (st 4) h) := by
  obtain ⟨t1, t2, t3, t4, t5, t6⟩ := id T
  obtain ⟨b1, b2, b3, b4⟩ := t6 h h0 h1
  unfold X7_saysOf sayF
  rw [hl, if_pos (by decide), t3, zrem_nn (by omega) (by omega) (by omega) (by omega)]
  simp (disch := omega) only [zrd_ok, bI_some, wI_id]
  split
  · split <;> rfl
  · rfl
/-- what the houses say: by kind, or plainly with one liar (7: none) -/
def MS (st : PS) (y : Int) (s : Int → Int) : Prop := (st 0 24 = -1 ∧ s = sayF y (st 2) (st 3) (st 4)) ∨ ((0 ≤ st 0 24 ∧ st 0 24 ≤ 7) ∧ s = fun h => if h = st 0 24 then 0 else st 4 h)
theorem MS.same {st s' : PS} {y : Int} {s : Int → Int} {P : Nat → Int → Prop} (h : MS st y s) (hS : Same st s' P) (h24 : ¬ P 0 24) (hk : ∀ j, ¬ P 2 j ∧ ¬ P 3 j ∧ ¬ P 4 j) : MS s' y s := by
  have e : s' 0 24 = st 0 24 := hS _ _ h24
  have k2 : s' 2 = st 2 := funext fun j => hS _ _ (hk j).1
  have k3 : s' 3 = st 3 := funext fun j => hS _ _ (hk j).2.1
  have k4 : s' 4 = st 4 := funext fun j => hS _ _ (hk j).2.2
  unfold MS
  rw [e, k2, k3, k4]
  exact h
theorem MS.rng {st : PS} {n : Nat} {y : Int} {s : Int → Int} (h : MS st y s) (T : MW st n y) : ∀ o : Int, 0 ≤ o → o < n → 0 ≤ s o ∧ s o ≤ 99 := by
  intro o o0 o1
  have g := T.erng o o0 o1
  rcases h with ⟨-, rfl⟩ | ⟨-, rfl⟩
  · exact sayF_rng g
  · show 0 ≤ (if o = st 0 24 then 0 else st 4 o) ∧ (if o = st 0 24 then 0 else st 4 o) ≤ 99
    split <;> omega
theorem msay_ok {st : PS} {n : Nat} {y : Int} {s : Int → Int} (T : MW st n y) (hM : MS st y s) {h : Int} (h0 : 0 ≤ h) (h1 : h < n) : X7_saysOf st h = some (s h) := by
  rcases hM with ⟨hl, rfl⟩ | ⟨hl, rfl⟩
  · exact msays_ok T hl h0 h1
  · have g := T.erng h h0 h1
    have hn := T.2.1
    unfold X7_saysOf
    rw [wI_id (z := st 0 24) (by omega) (by omega), if_neg (by omega), wI_id (z := h) (by omega) (by omega), zrd_ok (by omega) (by omega) (by omega), bI_some]
    show _ = some (if h = st 0 24 then 0 else st 4 h)
    split <;> rfl
