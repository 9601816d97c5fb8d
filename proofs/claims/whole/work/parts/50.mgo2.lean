theorem mlay_L {st : PS} {n : Nat} {y : Int} {L : Cl} {s : Int → Int} (T : MW st n y) (hM : MS st y s) (hT : MT st L) : ∀ (k i : Nat) (s0 : PS), i ≤ n → n - i < k → Same st s0 (fun b j => mQ b j ∨ b = 27) → (∀ h : Int, 0 ≤ h → h < i → s0 27 h = nextF n y L (st 2) (st 3) (st 4) (st 5) s h) →
    ∃ s', X7_layNext_L2 k s0 i = some s' ∧ Same st s' (fun b j => mQ b j ∨ b = 27) ∧ ∀ h : Int, 0 ≤ h → h < n → s' 27 h = nextF n y L (st 2) (st 3) (st 4) (st 5) s h := by
  obtain ⟨t1, t2, t3, t4, t5, t6⟩ := id T
  intro k
  induction k with
  | zero => intro i _ _ hk; omega
  | succ k ih =>
    intro i s0 hi hk hS hv
    have e0 : s0 0 0 = n := (hS _ _ (by unfold mQ; omega)).trans t1
    rw [X7_layNext_L2, e0, wI_id (z := (n : Int)) (by omega) (by omega), wI_id (z := (i : Int)) (by omega) (by omega)]
    by_cases c : n ≤ i
    · have e : i = n := by omega
      subst e
      rw [if_pos (by omega)]
      exact ⟨s0, rfl, hS, hv⟩
    · have k2 : s0 2 = st 2 := funext fun j => hS _ _ (by unfold mQ; omega)
      have k3 : s0 3 = st 3 := funext fun j => hS _ _ (by unfold mQ; omega)
      have k4 : s0 4 = st 4 := funext fun j => hS _ _ (by unfold mQ; omega)
      have k5 : s0 5 = st 5 := funext fun j => hS _ _ (by unfold mQ; omega)
      have T0 : MW s0 n y := T.same hS (by unfold mQ; omega) (by unfold mQ; omega) (fun j => by unfold mQ; omega)
      have MT0 : MT s0 L := hT.same hS (by unfold mQ; omega) (fun b j z1 z2 => by unfold mQ; omega)
      obtain ⟨s1, a1, a2⟩ := mnext_ok T0 (hM.same hS (by unfold mQ; omega) (fun j => by unfold mQ; omega)) MT0 (h := i) (by omega) (by omega)
      rw [if_neg (by omega), a1, bP_some, k2, k3, k4, k5, zwr_ok (by omega) (by omega) (by omega), bI_some]
      refine ih (i + 1) _ (by omega) (by omega) (fun b j hb => ?_) (fun h q1 q2 => ?_)
      · unfold mQ at hb
        rw [zu_o (by omega), a2 _ _ (by unfold mQ; omega)]; exact hS _ _ (by unfold mQ; omega)
      · by_cases qe : h = i
        · rw [qe, zu_at]
        · rw [zu_o (by omega), a2 _ _ (by unfold mQ; omega)]; exact hv h q1 (by omega)
theorem mlay_ok {st : PS} {n : Nat} {y : Int} {L : Cl} {s : Int → Int} (T : MW st n y) (hM : MS st y s) (hT : MT st L) : ∃ s', X7_layNext st = some s' ∧ Same st s' (fun b j => mQ b j ∨ b = 27) ∧ ∀ h : Int, 0 ≤ h → h < n → s' 27 h = nextF n y L (st 2) (st 3) (st 4) (st 5) s h :=
  mlay_L T hM hT FU 0 st (Nat.zero_le _) (by have := T.2.1; unfold FU; omega) Same.rf (fun h h1 h2 => by omega)
theorem myear_L {st : PS} {n : Nat} {y : Int} (hn : n ≤ 7) (h0 : st 0 0 = n) (h1 : st 0 1 = y) : ∀ (k i : Nat) (s0 : PS), i ≤ n → n - i < k → Same st s0 (fun b _ => b = 4) → (∀ h : Int, 0 ≤ h → h < i → s0 4 h = st 27 h) →
    ∃ s', X7_goYear_L6 k s0 i = some s' ∧ Same st s' (fun b j => b = 4 ∨ (b = 0 ∧ j = 1)) ∧ s' 0 1 = y + 1 ∧ ∀ h : Int, 0 ≤ h → h < n → s' 4 h = st 27 h := by
  intro k
  induction k with
  | zero => intro i _ _ hk; omega
  | succ k ih =>
    intro i s0 hi hk hS hv
    have e0 : s0 0 0 = n := (hS _ _ (by omega)).trans h0
    have e1 : s0 0 1 = y := (hS _ _ (by omega)).trans h1
    rw [X7_goYear_L6, e0, wI_id (z := (n : Int)) (by omega) (by omega), wI_id (z := (i : Int)) (by omega) (by omega)]
    by_cases c : n ≤ i
    · have e : i = n := by omega
      subst e
      rw [if_pos (by omega)]
      refine ⟨_, rfl, fun b j hb => (zu_o (by omega)).trans (hS _ _ (by omega)), by rw [zu_at, e1], fun h q1 q2 => (zu_o (by omega)).trans (hv h q1 q2)⟩
    · rw [if_neg (by omega), zrd_ok (by omega) (by omega) (by omega), bI_some, zwr_ok (by omega) (by omega) (by omega), bI_some]
      refine ih (i + 1) _ (by omega) (by omega) (fun b j hb => (zu_o (by omega)).trans (hS b j hb)) (fun h q1 q2 => ?_)
      by_cases qe : h = i
      · rw [qe, zu_at]; exact hS _ _ (by omega)
      · rw [zu_o (by omega)]; exact hv h q1 (by omega)
/-- what years of the model's may write -/
abbrev mG (b : Nat) (j : Int) : Prop := b = 4 ∨ b = 23 ∨ b = 25 ∨ b = 27 ∨ (b = 0 ∧ (j = 1 ∨ j = 26))
theorem myear_ok {st : PS} {n : Nat} {y : Int} {L : Cl} (T : MW st n y) (hy : y < 2000) (hl : st 0 24 = -1) (hT : MT st L) : ∃ s', X7_goYear st = some s' ∧ Same st s' mG ∧ MW s' n (y + 1) ∧ ∀ h : Int, 0 ≤ h → h < n → s' 4 h = nextF n y L (st 2) (st 3) (st 4) (st 5) (sayF y (st 2) (st 3) (st 4)) h := by
  obtain ⟨t1, t2, t3, t4, t5, t6⟩ := id T
  obtain ⟨s1, a1, a2, a3⟩ := mlay_ok T (Or.inl ⟨hl, rfl⟩) hT
  obtain ⟨s2, b1, b2, b3, b4⟩ := myear_L t2 ((a2 _ _ (by unfold mQ; omega)).trans t1) ((a2 _ _ (by unfold mQ; omega)).trans t3) FU 0 s1 (Nat.zero_le _) (by unfold FU; omega) Same.rf (fun h h1 h2 => by omega)
  have hS : Same st s2 mG := fun b j hb => by
    unfold mG at hb
    exact (b2 _ _ (by omega)).trans (a2 _ _ (by unfold mQ; omega))
  have hv : ∀ h : Int, 0 ≤ h → h < n → s2 4 h = nextF n y L (st 2) (st 3) (st 4) (st 5) (sayF y (st 2) (st 3) (st 4)) h := fun h q1 q2 => (b4 h q1 q2).trans (a3 h q1 q2)
  refine ⟨s2, ?_, hS, ⟨(hS _ _ (by unfold mG; omega)).trans t1, t2, b3, by omega, by omega, fun h q1 q2 => ?_⟩, hv⟩
  · unfold X7_goYear; rw [a1, bI_some]; exact b1
  · obtain ⟨u1, u2, u3, u4⟩ := t6 h q1 q2
    refine ⟨by rw [hS _ _ (by unfold mG; omega)]; exact u1, by rw [hS _ _ (by unfold mG; omega)]; exact u2, by rw [hv h q1 q2]; exact nextF_rng _ _ _ _ _ _ _ _ _, fun p p1 p2 => by rw [hS _ _ (by unfold mG; omega)]; exact u4 p p1 p2⟩
theorem mgo_L {n : Nat} {L : Cl} {l : Nat} (hl : l ≤ 1000) : ∀ (d k i : Nat) (s0 : PS) (y : Int), i + d = l → d < k → MW s0 n y → y + d ≤ 2000 → s0 0 24 = -1 → MT s0 L →
    ∃ s', X7_goYears_L2 l k s0 i = some s' ∧ Same s0 s' mG ∧ MW s' n (y + d) ∧ ∀ h : Int, 0 ≤ h → h < n → s' 4 h = goF n L (s0 2) (s0 3) (s0 5) d y (s0 4) h := by
  intro d
  induction d with
  | zero =>
    intro k i s0 y hi hk T hy hq hT
    obtain ⟨k, rfl⟩ : ∃ k', k = k' + 1 := ⟨k - 1, by omega⟩
    rw [X7_goYears_L2, if_pos (by rw [wI_id (by omega) (by omega), wI_id (by omega) (by omega)]; omega)]
    exact ⟨s0, rfl, Same.rf, by rw [show y + ((0 : Nat) : Int) = y by omega]; exact T, fun h _ _ => rfl⟩
  | succ d ih =>
    intro k i s0 y hi hk T hy hq hT
    obtain ⟨k, rfl⟩ : ∃ k', k = k' + 1 := ⟨k - 1, by omega⟩
    rw [X7_goYears_L2, if_neg (by rw [wI_id (by omega) (by omega), wI_id (by omega) (by omega)]; omega)]
    obtain ⟨s1, a1, a2, a3, a4⟩ := myear_ok T (by omega) hq hT
    rw [a1, bI_some]
    obtain ⟨s', r1, r2, r3, r4⟩ := ih k (i + 1) s1 (y + 1) (by omega) (by omega) a3 (by omega) ((a2 _ _ (by unfold mG; omega)).trans hq) (hT.same a2 (by unfold mG; omega) (fun b j z1 z2 => by unfold mG; omega))
    refine ⟨s', r1, a2.tr r2 (fun _ _ q => q) (fun _ _ q => q), by rw [show y + ((d + 1 : Nat) : Int) = y + 1 + (d : Int) by omega]; exact r3, fun h q1 q2 => ?_⟩
    have k2 : s1 2 = s0 2 := funext fun j => a2 _ _ (by unfold mG; omega)
    have k3 : s1 3 = s0 3 := funext fun j => a2 _ _ (by unfold mG; omega)
    have k5 : s1 5 = s0 5 := funext fun j => a2 _ _ (by unfold mG; omega)
    rw [r4 h q1 q2, goF, k2, k3, k5]
    exact goF_ext (fun _ _ _ => rfl) (fun _ _ _ => rfl) (fun _ _ _ _ _ _ => rfl) d (y + 1) _ _ (by have := T.2.2.2.1; omega) a4 h q1 q2
theorem mgo_ok {st : PS} {n : Nat} {y : Int} {L : Cl} {K : Nat} (hK : K ≤ 1000) (T : MW st n y) (hy : y + K ≤ 2000) (hl : st 0 24 = -1) (hT : MT st L) :
    ∃ s', X7_goYears st K = some s' ∧ Same st s' mG ∧ MW s' n (y + K) ∧ ∀ h : Int, 0 ≤ h → h < n → s' 4 h = goF n L (st 2) (st 3) (st 5) K y (st 4) h :=
  mgo_L hK K FU 0 st y (by omega) (by unfold FU; omega) T hy hl hT
