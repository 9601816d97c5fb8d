/-! the class's town: reckon and go -/
theorem midF_rng {n : Nat} {ring : Int} {e s : Int → Int} (he : ∀ h : Int, 0 ≤ h → h < n → 0 ≤ e h ∧ e h ≤ 99) (hs : ∀ h : Int, 0 ≤ h → h < n → 0 ≤ s h ∧ s h ≤ 99) {h : Int} (h0 : 0 ≤ h) (h1 : h < n) : 0 ≤ midF n ring e s h ∧ midF n ring e s h ≤ 99 := by
  have g0 := he h h0 h1
  unfold midF
  split
  · exact g0
  · have g1 := hs (if h = 0 then (n : Int) - 1 else h - 1) (by split <;> omega) (by split <;> omega)
    have g2 := hs (if h = (n : Int) - 1 then 0 else h + 1) (by split <;> omega) (by split <;> omega)
    show 0 ≤ max (min (s (if h = 0 then (n : Int) - 1 else h - 1)) (s (if h = (n : Int) - 1 then 0 else h + 1))) (min (max (s (if h = 0 then (n : Int) - 1 else h - 1)) (s (if h = (n : Int) - 1 then 0 else h + 1))) (e h)) ∧ max (min (s (if h = 0 then (n : Int) - 1 else h - 1)) (s (if h = (n : Int) - 1 then 0 else h + 1))) (min (max (s (if h = 0 then (n : Int) - 1 else h - 1)) (s (if h = (n : Int) - 1 then 0 else h + 1))) (e h)) ≤ 99
    omega
theorem TW.erng {st : PS} {a n : Nat} {y : Int} (T : TW st a n y) : ∀ h : Int, 0 ≤ h → h < n → 0 ≤ st (a + 5) h ∧ st (a + 5) h ≤ 99 := fun h h0 h1 => (T.2.2.2.2.2 h h0 h1).2.2.1
theorem proud_ok {st : PS} {a n : Nat} {y : Int} {L : Cl} (T : TW st a n y) (hB : SB st a n) (hT : TS st a L) {h : Int} (h0 : 0 ≤ h) (h1 : h < n) : X5_proud a st h = some (max (midF n (ringL L 0) (st (a + 5)) (st (a + 7)) h) (5 * st (a + 4) h)) := by
  have g := midF_rng (ring := ringL L 0) T.erng hB h0 h1
  have g2 := (T.2.2.2.2.2 h h0 h1).2.1
  have hn := T.2.1
  unfold X5_proud
  rw [middle_ok T hB hT h0 h1, bI_some, zrd_ok (by omega) (by omega) (by omega), bI_some, zmax_ok (rngs (by omega) (by omega)) (rngs (by omega) (by omega))]
theorem half_ok {st : PS} {a n : Nat} {y : Int} (T : TW st a n y) {h : Int} (h0 : 0 ≤ h) (h1 : h < n) : X5_takesHalf a st h = some (if y % (st (a + 4) h + 2) = 0 then 1 else 0) := by
  obtain ⟨t1, t2, t3, t4, t5, t6⟩ := id T
  have g2 := (t6 h h0 h1).2.1
  unfold X5_takesHalf
  rw [zrd_ok (by omega) (by omega) (by omega), bI_some, wI_id (by omega) (by omega), if_neg (by omega), znz_ok (rngs (by omega) (by omega)) (by omega), t3, zrem_nn (by omega) (by omega) (by omega) (by omega)]
  have q1 := Int.emod_nonneg y (b := st (a + 4) h + 2) (by omega)
  have q2 := Int.emod_lt_of_pos y (b := st (a + 4) h + 2) (by omega)
  rw [wI_id (by omega) (by omega)]
  split <;> rfl
theorem wideF_pos {n : Nat} {ring : Int} {e s : Int → Int} {h far : Int} (m : Nat) : 1 ≤ (wideF n ring e s h far m).length := by rw [wideF_len]; exact wideN_pos m
theorem nbk_ok {st : PS} {a n : Nat} {y : Int} {L : Cl} (T : TW st a n y) (hB : SB st a n) (hT : TS st a L) {h : Int} (h0 : 0 ≤ h) (h1 : h < n) : ∃ s', X5_nextByKind a st h = some (plainF n y (ringL L 0) (st (a + 3)) (st (a + 4)) (st (a + 5)) (st (a + 6)) (st (a + 7)) h, s') ∧ Same st s' (fun b j => b = a + 9 ∨ (b = a ∧ j = 10)) := by
  obtain ⟨t1, t2, t3, t4, t5, t6⟩ := id T
  obtain ⟨b1, b2, b3, b4⟩ := t6 h h0 h1
  have gm := midF_rng (ring := ringL L 0) T.erng hB h0 h1
  have hr := ringL_bit L 0 (Or.inl rfl)
  have hlen : (wideF n (ringL L 0) (st (a + 5)) (st (a + 7)) h 2 n).length ≤ 5 := by rw [wideF_len]; exact wideN_le t2 (Nat.le_refl _) hr h0 h1
  have hpos := wideF_pos (n := n) (ring := ringL L 0) (e := st (a + 5)) (s := st (a + 7)) (h := h) (far := 2) n
  unfold X5_nextByKind plainF
  rw [zrd_ok (by omega) (by omega) (by omega), bI_some, wI_id (by omega) (by omega)]
  have w1 : wI 1 = 1 := rfl
  by_cases k1 : st (a + 3) h = 1
  · rw [if_pos k1, if_pos k1, proud_ok T hB hT h0 h1, bI_some]
    exact ⟨st, rfl, Same.rf⟩
  · rw [if_neg k1, if_neg k1]
    by_cases k2 : st (a + 3) h = 2 ∨ st (a + 3) h = 5
    · rw [if_pos k2, if_pos k2, middle_ok T hB hT h0 h1, bI_some, zrd_ok (by omega) (by omega) (by omega), bI_some, zmin_ok (rngs (by omega) (by omega)) (rngs (by omega) (by omega))]
      exact ⟨st, rfl, Same.rf⟩
    · rw [if_neg k2, if_neg k2]
      by_cases k3 : st (a + 3) h = 3
      · rw [if_pos k3, if_pos k3]
        obtain ⟨s1, f1, f2, f3⟩ := fill_ok T hB hT h0 h1
        rw [f1, bI_some, f3.1, zdiv_nn (by omega) (by omega) (by omega) (by omega), zrd_ok (by omega) (by omega) (by omega), bI_some]
        refine ⟨s1, ?_, f2⟩
        have q := f3.2 (((wideF n (ringL L 0) (st (a + 5)) (st (a + 7)) h 2 n).length - 1) / 2) (by omega)
        rw [← q]
        congr 3
        omega
      · rw [if_neg k3, if_neg k3]
        by_cases k4 : st (a + 3) h = 4
        · rw [if_pos k4, if_pos k4, half_ok T h0 h1, bI_some, proud_ok T hB hT h0 h1, bI_some, bI_some]
          by_cases c : y % (st (a + 4) h + 2) = 0
          · rw [if_pos c, if_pos c, if_neg (by decide), zdiv_nn (by omega) (by omega) (by omega) (by omega)]
            exact ⟨st, rfl, Same.rf⟩
          · rw [if_neg c, if_neg c, if_pos (by decide)]
            exact ⟨st, rfl, Same.rf⟩
        · rw [if_neg k4, if_neg k4]
          by_cases k6 : st (a + 3) h = 6
          · rw [if_pos k6, if_pos k6]
            obtain ⟨s1, f1, f2, f3⟩ := fill_ok T hB hT h0 h1
            have e1 : s1 a 1 = y := (f2 _ _ (by omega)).trans t3
            have e6 : ∀ j, s1 (a + 6) j = st (a + 6) j := fun j => f2 _ _ (by omega)
            have g4 := b4 (y % 4) (by omega) (by omega)
            rw [f1, bI_some, e1, zrem_nn (by omega) (by omega) (by omega) (by omega), zrd_ok (by omega) (by omega) (by omega), bI_some, e6, f3.1, zmin_ok (rngs (by omega) (by omega)) (rngs (by omega) (by omega)), zrd_ok (by omega) (by omega) (by omega), bI_some]
            refine ⟨s1, ?_, f2⟩
            have q := f3.2 (min (st (a + 6) (h * 4 + y % 4)) (((wideF n (ringL L 0) (st (a + 5)) (st (a + 7)) h 2 n).length : Int) - 1)).toNat (by omega)
            rw [← q, Int.toNat_of_nonneg (by omega)]
          · rw [if_neg k6, if_neg k6, middle_ok T hB hT h0 h1, bI_some]
            exact ⟨st, rfl, Same.rf⟩
theorem FR_mk {st : PS} {r : Nat} {fx : Int → Int} (h : ∀ f : Int, 0 ≤ f → f < 6 → st r f = fx f ∧ 0 ≤ fx f ∧ fx f ≤ 100) : FR st r fx := h
theorem adds_L {st : PS} {a n : Nat} {y : Int} {L : Cl} (ha : a ≤ 60) (T : TW st a n y) (hT : TS st a L) (hn : 0 ≤ st a 2) {h : Int} (h0 : 0 ≤ h) (h1 : h < n) : ∀ (k i : Nat), i ≤ n → n - i < k →
    ∃ s', X5_adds_L13 a h k st (richF (st (a + 5)) (st (a + 5) h) i) i = some (addsL (fctF n y (st (a + 3)) (st (a + 4)) (st (a + 5)) h) L, s') ∧ Same st s' (fun b _ => b = a + 11) := by
  obtain ⟨t1, t2, t3, t4, t5, t6⟩ := id T
  obtain ⟨b1, b2, b3, b4⟩ := t6 h h0 h1
  intro k
  induction k with
  | zero => intro i _ hk; omega
  | succ k ih =>
    intro i hi hk
    rw [X5_adds_L13, t1, wI_id (z := (n : Int)) (by omega) (by omega), wI_id (z := (i : Int)) (by omega) (by omega)]
    by_cases c : n ≤ i
    · have e : i = n := by omega
      subst e
      have gr := richF_rng (f := st (a + 5)) (x := st (a + 5) h) (n := i)
      rw [if_pos (by omega)]
      rcases hT with ⟨hT, -⟩ | ⟨q1, q2⟩
      · omega
      · have u : ∀ (s : PS) (j x : Int) (b : Nat) (q : Int), b ≠ a + 11 → zu s (a + 11) j x b q = s b q := fun s j x b q hb => zu_o (by omega)
        have u3 : a + 3 ≠ a + 11 := by omega
        have u4 : a + 4 ≠ a + 11 := by omega
        have u5 : a + 5 ≠ a + 11 := by omega
        have u0 : a ≠ a + 11 := by omega
        simp (disch := first | assumption | omega) only [zrd_ok, zwr_ok, bI_some, u, t3, zdiv_nn, zrem_nn, zchk_ok]
        have hS : Same st (zu (zu (zu (zu (zu (zu st (a + 11) 0 h) (a + 11) 1 (st (a + 3) h)) (a + 11) 2 (st (a + 4) h)) (a + 11) 3 (st (a + 5) h / 10)) (a + 11) 4 (richF (st (a + 5)) (st (a + 5) h) i)) (a + 11) 5 (y % 10)) (fun b _ => b = a + 11) := by
          intro b j hb
          rw [u _ _ _ _ _ hb, u _ _ _ _ _ hb, u _ _ _ _ _ hb, u _ _ _ _ _ hb, u _ _ _ _ _ hb, u _ _ _ _ _ hb]
        refine ⟨_, ?_, hS⟩
        rw [addsBy_ok (fx := fctF i y (st (a + 3)) (st (a + 4)) (st (a + 5)) h) (FR_mk fun f f0 f6 => ?_) (q2.same hS (fun b j z1 z2 => by omega)), bI_some]
        have fc : f = 0 ∨ f = 1 ∨ f = 2 ∨ f = 3 ∨ f = 4 ∨ f = 5 := by omega
        rcases fc with rfl | rfl | rfl | rfl | rfl | rfl
        · refine ⟨by simp [zu, fctF], ?_⟩
          show 0 ≤ h ∧ h ≤ 100
          omega
        · refine ⟨by simp [zu, fctF], ?_⟩
          show 0 ≤ st (a + 3) h ∧ st (a + 3) h ≤ 100
          omega
        · refine ⟨by simp [zu, fctF], ?_⟩
          show 0 ≤ st (a + 4) h ∧ st (a + 4) h ≤ 100
          omega
        · refine ⟨by simp [zu, fctF], ?_⟩
          show 0 ≤ st (a + 5) h / 10 ∧ st (a + 5) h / 10 ≤ 100
          omega
        · refine ⟨by simp [zu, fctF], ?_⟩
          show 0 ≤ richF (st (a + 5)) (st (a + 5) h) i ∧ richF (st (a + 5)) (st (a + 5) h) i ≤ 100
          omega
        · refine ⟨by simp [zu, fctF], ?_⟩
          show 0 ≤ y % 10 ∧ y % 10 ≤ 100
          omega
    · obtain ⟨-, -, b5, -⟩ := t6 i (by omega) (by omega)
      rw [if_neg (by omega)]
      simp (disch := omega) only [zrd_ok, bI_some, wI_id]
      by_cases c2 : st (a + 5) i ≤ st (a + 5) h
      · rw [if_pos c2]
        have q := ih (i + 1) (by omega) (by omega)
        rw [richF, if_neg (by omega), Int.add_zero] at q
        exact q
      · rw [if_neg c2]
        have q := ih (i + 1) (by omega) (by omega)
        rw [richF, if_pos (by omega)] at q
        exact q
theorem adds_ok {st : PS} {a n : Nat} {y : Int} {L : Cl} (ha : a ≤ 60) (T : TW st a n y) (hT : TS st a L) {h : Int} (h0 : 0 ≤ h) (h1 : h < n) :
    ∃ s', X5_adds a st h = some (addsL (fctF n y (st (a + 3)) (st (a + 4)) (st (a + 5)) h) L, s') ∧ Same st s' (fun b _ => b = a + 11) := by
  unfold X5_adds
  by_cases c : st a 2 < 0
  · rw [if_pos c]
    rcases hT with ⟨-, rfl⟩ | ⟨q1, q2⟩
    · exact ⟨st, rfl, Same.rf⟩
    · omega
  · rw [if_neg c]
    have := T.2.1
    exact adds_L ha T hT (by omega) h0 h1 FU 0 (Nat.zero_le _) (by unfold FU; omega)
theorem reckon_L {st : PS} {a n : Nat} {y : Int} {L : Cl} (ha : a ≤ 60) (T : TW st a n y) (hB : SB st a n) (hT : TS st a L) : ∀ (k i : Nat) (s0 : PS), i ≤ n → n - i < k → Same st s0 (fun b j => b = a + 8 ∨ b = a + 9 ∨ b = a + 11 ∨ (b = a ∧ j = 10)) → (∀ h : Int, 0 ≤ h → h < i → s0 (a + 8) h = nextF n y L (st (a + 3)) (st (a + 4)) (st (a + 5)) (st (a + 6)) (st (a + 7)) h) →
    ∃ s', X5_reckon_L2 a k s0 i = some s' ∧ Same st s' (fun b j => b = a + 8 ∨ b = a + 9 ∨ b = a + 11 ∨ (b = a ∧ j = 10)) ∧ ∀ h : Int, 0 ≤ h → h < n → s' (a + 8) h = nextF n y L (st (a + 3)) (st (a + 4)) (st (a + 5)) (st (a + 6)) (st (a + 7)) h := by
  obtain ⟨t1, t2, t3, t4, t5, t6⟩ := id T
  intro k
  induction k with
  | zero => intro i _ _ hk; omega
  | succ k ih =>
    intro i s0 hi hk hS hv
    have e0 : s0 a 0 = n := (hS _ _ (by omega)).trans t1
    rw [X5_reckon_L2, e0, wI_id (z := (n : Int)) (by omega) (by omega), wI_id (z := (i : Int)) (by omega) (by omega)]
    by_cases c : n ≤ i
    · have e : i = n := by omega
      subst e
      rw [if_pos (by omega)]
      exact ⟨s0, rfl, hS, hv⟩
    · rw [if_neg (by omega)]
      have r3 : s0 (a + 3) = st (a + 3) := funext fun j => hS _ _ (by omega)
      have r4 : s0 (a + 4) = st (a + 4) := funext fun j => hS _ _ (by omega)
      have r5 : s0 (a + 5) = st (a + 5) := funext fun j => hS _ _ (by omega)
      have r6 : s0 (a + 6) = st (a + 6) := funext fun j => hS _ _ (by omega)
      have r7 : s0 (a + 7) = st (a + 7) := funext fun j => hS _ _ (by omega)
      have T0 : TW s0 a n y := T.same hS (by omega) (by omega) (fun j => by omega)
      have B0 : SB s0 a n := fun h q1 q2 => by rw [r7]; exact hB h q1 q2
      have TS0 : TS s0 a L := hT.same hS (by omega) (fun b j z1 z2 => by omega)
      obtain ⟨s1, n1, n2⟩ := nbk_ok T0 B0 TS0 (h := i) (by omega) (by omega)
      rw [n1, bP_some]
      have T1 : TW s1 a n y := T0.same n2 (by omega) (by omega) (fun j => by omega)
      have TS1 : TS s1 a L := TS0.same n2 (by omega) (fun b j z1 z2 => by omega)
      obtain ⟨s2, m1, m2⟩ := adds_ok ha T1 TS1 (h := i) (by omega) (by omega)
      rw [m1, bP_some]
      have r3' : s1 (a + 3) = s0 (a + 3) := funext fun j => n2 _ _ (by omega)
      have r4' : s1 (a + 4) = s0 (a + 4) := funext fun j => n2 _ _ (by omega)
      have r5' : s1 (a + 5) = s0 (a + 5) := funext fun j => n2 _ _ (by omega)
      rw [r3', r4', r5', r3, r4, r5, r6, r7]
      have gA := TS_rng hT (fctF n y (st (a + 3)) (st (a + 4)) (st (a + 5)) i)
      have gP : 0 ≤ plainF n y (ringL L 0) (st (a + 3)) (st (a + 4)) (st (a + 5)) (st (a + 6)) (st (a + 7)) i ∧ plainF n y (ringL L 0) (st (a + 3)) (st (a + 4)) (st (a + 5)) (st (a + 6)) (st (a + 7)) i ≤ 99 := by
        have gm := midF_rng (ring := ringL L 0) T.erng hB (h := i) (by omega) (by omega)
        obtain ⟨b1, b2, b3, b4⟩ := t6 i (by omega) (by omega)
        have gw := getD_rng (wideF_rng (n := n) (ring := ringL L 0) (far := 2) b3 n (fun o o1 o2 => hB o o1 o2))
        unfold plainF
        split
        · omega
        · split
          · omega
          · split
            · exact gw _
            · split
              · split <;> omega
              · split
                · exact gw _
                · omega
      rw [zmin_ok (rngs (by omega) (by omega)) (rngs (by omega) (by omega)), zmax_ok (rngs (by omega) (by omega)) (rngs (by omega) (by omega)), zwr_ok (by omega) (by omega) (by omega), bI_some]
      have S2 : Same st s2 (fun b j => b = a + 8 ∨ b = a + 9 ∨ b = a + 11 ∨ (b = a ∧ j = 10)) := (hS.tr n2 (R := fun b j => b = a + 8 ∨ b = a + 9 ∨ b = a + 11 ∨ (b = a ∧ j = 10)) (fun _ _ q => q) (fun b j q => by omega)).tr m2 (fun _ _ q => q) (fun b j q => by omega)
      refine ih (i + 1) _ (by omega) (by omega) (fun b j hb => (zu_o (by omega)).trans (S2 b j hb)) (fun h q1 q2 => ?_)
      by_cases qe : h = i
      · rw [qe, zu_at]; rfl
      · rw [zu_o (by omega), m2 _ _ (by omega), n2 _ _ (by omega)]
        exact hv h q1 (by omega)
theorem reckon_ok {st : PS} {a n : Nat} {y : Int} {L : Cl} (ha : a ≤ 60) (T : TW st a n y) (hB : SB st a n) (hT : TS st a L) : ∃ s', X5_reckon a st = some s' ∧ Same st s' (fun b j => b = a + 8 ∨ b = a + 9 ∨ b = a + 11 ∨ (b = a ∧ j = 10)) ∧ ∀ h : Int, 0 ≤ h → h < n → s' (a + 8) h = nextF n y L (st (a + 3)) (st (a + 4)) (st (a + 5)) (st (a + 6)) (st (a + 7)) h :=
  reckon_L ha T hB hT FU 0 st (Nat.zero_le _) (by have := T.2.1; unfold FU; omega) Same.rf (fun h h1 h2 => by omega)
