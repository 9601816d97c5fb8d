/-! the class's town: the next year -/
theorem zmax_ok {a b : Int} (ha : rng a) (hb : rng b) : zmax a b = max a b := by
  unfold zmax; rw [wI_r ha, wI_r hb]; split <;> omega
theorem zmin_ok {a b : Int} (ha : rng a) (hb : rng b) : zmin a b = min a b := by
  unfold zmin; rw [wI_r ha, wI_r hb]; split <;> omega
theorem rngs {a : Int} (h1 : -2147483648 ≤ a) (h2 : a < 2147483648) : rng a := ⟨h1, h2⟩
theorem zabs_ok {a : Int} (ha : rng a) : zabs a = if 0 ≤ a then a else -a := by
  unfold zabs; rw [wI_r ha]; split <;> omega
theorem CAt.same {st s' : PS} {S : Nat} {P : Nat → Int → Prop} (hS : Same st s' P) (hP : ∀ b j, S ≤ b → b < S + 8 → ¬ P b j) : ∀ {c : List Int} {p : Int}, CAt st S p c → CAt s' S p c
  | [], _, _ => trivial
  | t :: c, p, h => by
    rw [CAt] at h ⊢
    refine ⟨(hS _ _ (hP _ _ (by omega) (by omega))).trans h.1, fun q => ⟨(hS _ _ (hP _ _ (by omega) (by omega))).trans (h.2.1 q).1, (hS _ _ (hP _ _ (by omega) (by omega))).trans (h.2.1 q).2⟩, CAt.same hS hP h.2.2⟩
theorem FAt.same {st s' : PS} {S : Nat} {P : Nat → Int → Prop} (hS : Same st s' P) (hP : ∀ b j, S ≤ b → b < S + 8 → ¬ P b j) : ∀ {L : Cl} {i p : Int}, FAt st S i p L → FAt s' S i p L
  | [], i, p, h => by
    rw [FAt] at h ⊢
    exact ⟨(hS _ _ (hP _ _ (by omega) (by omega))).trans h.1, (hS _ _ (hP _ _ (by omega) (by omega))).trans h.2⟩
  | (w, m, c) :: L, i, p, h => by
    rw [FAt] at h ⊢
    split
    · next hw =>
      rw [if_pos hw] at h
      exact ⟨(hS _ _ (hP _ _ (by omega) (by omega))).trans h.1, (hS _ _ (hP _ _ (by omega) (by omega))).trans h.2.1, CAt.same hS hP h.2.2.1, FAt.same hS hP h.2.2.2⟩
    · next hw =>
      rw [if_neg hw] at h
      exact FAt.same hS hP h
theorem SR.same {st s' : PS} {S : Nat} {L : Cl} {P : Nat → Int → Prop} (h : SR st S L) (hS : Same st s' P) (hP : ∀ b j, S ≤ b → b < S + 8 → ¬ P b j) : SR s' S L := by
  obtain ⟨h0, h1, h4, hF, hO⟩ := h
  have e := fun j => hS S j (hP _ _ (by omega) (by omega))
  refine ⟨(e 0).trans h0, by rw [e 1]; exact h1, by rw [e 4]; exact h4, FAt.same hS hP hF, hO⟩
theorem TS.same {st s' : PS} {a : Nat} {L : Cl} {P : Nat → Int → Prop} (h : TS st a L) (hS : Same st s' P) (h2 : ¬ P a 2) (hP : ∀ b j, 100 ≤ b → b < 158 → ¬ P b j) : TS s' a L := by
  have e : s' a 2 = st a 2 := hS _ _ h2
  rcases h with ⟨h, hL⟩ | ⟨h1, h2⟩
  · exact Or.inl ⟨e.trans h, hL⟩
  · refine Or.inr ?_
    rw [e]
    exact ⟨h1, h2.same hS (fun b j q1 q2 => hP b j (by omega) (by omega))⟩
theorem FAt_rng {st : PS} {S : Nat} {fx : Int → Int} : ∀ (L : Cl) (i p : Int), FAt st S i p L → okL L → -(99 * (st S 1 - i)) ≤ addsL fx L ∧ addsL fx L ≤ 99 * (st S 1 - i)
  | [], i, p, h, _ => by rw [FAt] at h; rw [addsL]; omega
  | (w, m, c) :: L, i, p, h, ho => by
    rw [FAt] at h
    rw [addsL]
    have hox := ho (w, m, c) (List.mem_cons_self)
    have hoL : okL L := fun x hx => ho x (List.mem_cons_of_mem _ hx)
    by_cases hw : w = 0 ∨ w = 1
    · rw [if_pos hw] at h
      have ih := FAt_rng (fx := fx) L _ _ h.2.2.2 hoL
      have hb := FAt_le L _ _ h.2.2.2
      have q := hox.2 hw
      have q1 : 0 ≤ m := q.1
      have q2 : m ≤ 99 := q.2.1
      split
      · split <;> omega
      · split
        · split <;> omega
        · omega
    · rw [if_neg hw] at h
      have ih := FAt_rng (fx := fx) L _ _ h hoL
      rw [if_neg (fun q => hw (Or.inl q)), if_neg (fun q => hw (Or.inr q))]
      omega
theorem TS_rng {st : PS} {a : Nat} {L : Cl} (h : TS st a L) (fx : Int → Int) : -990 ≤ addsL fx L ∧ addsL fx L ≤ 990 := by
  rcases h with ⟨-, rfl⟩ | ⟨-, h⟩
  · rw [addsL]; omega
  · obtain ⟨h0, h1, h4, hF, hO⟩ := h
    have q := FAt_rng (fx := fx) L 0 0 hF hO
    omega
def SB (st : PS) (a n : Nat) : Prop := ∀ h : Int, 0 ≤ h → h < n → 0 ≤ st (a + 7) h ∧ st (a + 7) h ≤ 99
theorem away_ok {n : Nat} {h m r : Int} (hn : n ≤ 7) (h0 : 0 ≤ h) (h1 : h < n) (m0 : 0 ≤ m) (m1 : m < n) (hr : r = 0 ∨ r = 1) : (if wI r = 0 then zabs (m - h) else zmin (zabs (m - h)) ((n : Int) - zabs (m - h))) = awayF n h m r := by
  rw [zabs_ok (rngs (by omega) (by omega))]
  have e : (if 0 ≤ m - h then m - h else -(m - h)) = if m ≤ h then h - m else m - h := by split <;> split <;> omega
  rw [e]
  have b : 0 ≤ (if m ≤ h then h - m else m - h) ∧ (if m ≤ h then h - m else m - h) < n := by split <;> omega
  unfold awayF
  generalize (if m ≤ h then h - m else m - h) = d at b ⊢
  rw [zmin_ok (rngs (by omega) (by omega)) (rngs (by omega) (by omega))]
  rcases hr with rfl | rfl
  · rw [if_pos (by decide), if_pos rfl]
  · rw [if_neg (by decide), if_neg (by decide)]
    split <;> omega
theorem away_0 {n : Nat} {h m r : Int} (h0 : 0 ≤ h) (h1 : h < n) (m0 : 0 ≤ m) (m1 : m < n) : (m = h → awayF n h m r = 0) ∧ (m ≠ h → 1 ≤ awayF n h m r) ∧ awayF n h m r ≤ 7 + n := by
  unfold awayF
  refine ⟨fun e => ?_, fun e => ?_, ?_⟩ <;> (split <;> split <;> (try split) <;> omega)
theorem fill_L {st : PS} {a n : Nat} {y r : Int} (T : TW st a n y) (hB : SB st a n) (hr : r = 0 ∨ r = 1) {h : Int} (h0 : 0 ≤ h) (h1 : h < n) : ∀ (k m : Nat) (s0 : PS), m ≤ n → n - m < k → Same st s0 (fun b j => b = a + 9 ∨ (b = a ∧ j = 10)) → WR s0 a (wideF n r (st (a + 5)) (st (a + 7)) h 2 m) →
    ∃ s', X5_fillWide_L22 a h r k s0 m = some s' ∧ Same st s' (fun b j => b = a + 9 ∨ (b = a ∧ j = 10)) ∧ WR s' a (wideF n r (st (a + 5)) (st (a + 7)) h 2 n) := by
  have T' := T
  obtain ⟨t1, t2, t3, t4, t5, t6⟩ := T
  intro k
  induction k with
  | zero => intro m _ _ hk; omega
  | succ k ih =>
    intro m s0 hm hk hS hW
    have e0 : s0 a 0 = n := (hS _ _ (by omega)).trans t1
    rw [X5_fillWide_L22, e0, wI_id (z := (n : Int)) (by omega) (by omega), wI_id (z := (m : Int)) (by omega) (by omega)]
    by_cases c : n ≤ m
    · have e : m = n := by omega
      subst e
      rw [if_pos (by omega)]
      exact ⟨s0, rfl, hS, hW⟩
    · rw [if_neg (by omega), away_ok t2 h0 h1 (by omega : (0 : Int) ≤ m) (by omega : (m : Int) < n) hr]
      obtain ⟨d1, d2, d3⟩ := away_0 (n := n) (h := h) (m := m) (r := r) h0 h1 (by omega) (by omega)
      have d0 : 0 ≤ awayF n h m r := by
        by_cases q : (m : Int) = h
        · rw [d1 q]; decide
        · have := d2 q; omega
      have ev : s0 (a + 7) m = st (a + 7) m := hS _ _ (by omega)
      have eb := hB m (by omega) (by omega)
      obtain ⟨-, -, b3, -⟩ := t6 h h0 h1
      have hlen : ∀ q, m < n → (wideF n r (st (a + 5)) (st (a + 7)) h 2 (m + 1)).length = q → q ≤ 5 := by
        intro q hq hq2; rw [wideF_len] at hq2; have := wideN_le (m := m + 1) t2 (by omega) hr h0 h1; omega
      have ins : ¬ (m : Int) = h → ¬ 2 < awayF n h m r → ∃ s', (bI (zrd s0 (a + 7) 7 m) (fun v4 => bI (X5_addWide a s0 v4) (fun s4 => X5_fillWide_L22 a h r k s4 ((m : Int) + 1)))) = some s' ∧ Same st s' (fun b j => b = a + 9 ∨ (b = a ∧ j = 10)) ∧ WR s' a (wideF n r (st (a + 5)) (st (a + 7)) h 2 n) := by
        intro q1 q2
        rw [zrd_ok (by omega) (by omega) (by omega), bI_some, ev]
        have ew : wideF n r (st (a + 5)) (st (a + 7)) h 2 (m + 1) = insL (st (a + 7) m) (wideF n r (st (a + 5)) (st (a + 7)) h 2 m) := by rw [wideF, if_neg q1, if_neg q2]
        have hl := hlen _ (by omega) (by rw [ew, insL_len])
        obtain ⟨s1, g1, g2, g3⟩ := addWide_ok (x := st (a + 7) m) (by omega) (wideF_rng b3 m (fun o o1 o2 => hB o o1 (by omega))) eb (wideF_srt m) hW
        rw [g1, bI_some]
        rw [← ew] at g3
        exact ih (m + 1) s1 (by omega) (by omega) (hS.tr g2 (fun _ _ q => q) (fun _ _ q => q)) g3
      have skip : ((m : Int) = h ∨ 2 < awayF n h m r) → ∃ s', X5_fillWide_L22 a h r k s0 ((m : Int) + 1) = some s' ∧ Same st s' (fun b j => b = a + 9 ∨ (b = a ∧ j = 10)) ∧ WR s' a (wideF n r (st (a + 5)) (st (a + 7)) h 2 n) := by
        intro q
        have ew : wideF n r (st (a + 5)) (st (a + 7)) h 2 (m + 1) = wideF n r (st (a + 5)) (st (a + 7)) h 2 m := by
          rw [wideF]; split
          · rfl
          · next q1 => rw [if_pos (q.resolve_left q1)]
        exact ih (m + 1) s0 (by omega) (by omega) hS (ew.symm ▸ hW)
      rw [wI_id (z := awayF n h m r) (by omega) (by omega), show wI 1 = 1 from rfl, show wI 2 = 2 from rfl]
      by_cases c1 : awayF n h m r = 1
      · rw [if_pos c1]
        exact ins (fun q => by have := d1 q; omega) (by omega)
      · rw [if_neg c1]
        by_cases c2 : awayF n h m r = 2
        · rw [if_pos c2]
          exact ins (fun q => by have := d1 q; omega) (by omega)
        · rw [if_neg c2]
          refine skip ?_
          by_cases q : (m : Int) = h
          · exact Or.inl q
          · have := d2 q; exact Or.inr (by omega)
theorem fill_ok {st : PS} {a n : Nat} {y : Int} {L : Cl} (T : TW st a n y) (hB : SB st a n) (hT : TS st a L) {h : Int} (h0 : 0 ≤ h) (h1 : h < n) : ∃ s', X5_fillWide a st h = some s' ∧ Same st s' (fun b j => b = a + 9 ∨ (b = a ∧ j = 10)) ∧ WR s' a (wideF n (ringL L 0) (st (a + 5)) (st (a + 7)) h 2 n) := by
  obtain ⟨t1, t2, t3, t4, t5, t6⟩ := id T
  obtain ⟨-, -, b3, -⟩ := t6 h h0 h1
  have hr := ringL_bit L 0 (Or.inl rfl)
  have S1 : Same st (zu st a 10 0) (fun b j => b = a + 9 ∨ (b = a ∧ j = 10)) := fun b j q => zu_o (by omega)
  have W1 : WR (zu st a 10 0) a [] := ⟨zu_at, fun j hj => by simp at hj⟩
  obtain ⟨s1, g1, g2, g3⟩ := addWide_ok (x := st (a + 5) h) (by simp) (by simp) b3 (fun i j _ hj => by simp at hj) W1
  unfold X5_fillWide
  rw [isRing_ok hT, bI_some]
  show ∃ s', (bI (zrd (zu st a 10 0) (a + 5) 7 h) _) = some s' ∧ _
  rw [zrd_ok (by omega) (by omega) (by omega), bI_some, zu_o (by omega), g1, bI_some]
  exact fill_L T hB hr h0 h1 FU 0 s1 (Nat.zero_le _) (by unfold FU; omega) (S1.tr g2 (fun _ _ q => q) (fun _ _ q => q)) g3
theorem middle_ok {st : PS} {a n : Nat} {y : Int} {L : Cl} (T : TW st a n y) (hB : SB st a n) (hT : TS st a L) {h : Int} (h0 : 0 ≤ h) (h1 : h < n) : X5_middle a st h = some (midF n (ringL L 0) (st (a + 5)) (st (a + 7)) h) := by
  obtain ⟨t1, t2, t3, t4, t5, t6⟩ := id T
  obtain ⟨-, -, b3, -⟩ := t6 h h0 h1
  have hr := ringL_bit L 0 (Or.inl rfl)
  have pq : ∀ p q : Int, p = (if h = 0 then (n : Int) - 1 else h - 1) → q = (if h = (n : Int) - 1 then 0 else h + 1) → 3 ≤ n → (bI (zrd st (a + 7) 7 p) (fun v4 => bI (zrd st (a + 7) 7 q) (fun v5 => bI (zrd st (a + 5) 7 h) (fun v6 => some (zmax (zmin v4 v5) (zmin (zmax v4 v5) v6)))))) = some (max (min (st (a + 7) p) (st (a + 7) q)) (min (max (st (a + 7) p) (st (a + 7) q)) (st (a + 5) h))) := by
    intro p q hp hq hn
    have p1 : 0 ≤ p ∧ p < n := by rw [hp]; split <;> omega
    have q1 : 0 ≤ q ∧ q < n := by rw [hq]; split <;> omega
    have g1 := hB p p1.1 p1.2
    have g2 := hB q q1.1 q1.2
    rw [zrd_ok (by omega) (by omega) (by omega), bI_some, zrd_ok (by omega) (by omega) (by omega), bI_some, zrd_ok (by omega) (by omega) (by omega), bI_some, zmin_ok (rngs (by omega) (by omega)) (rngs (by omega) (by omega)), zmax_ok (a := st (a + 7) p) (b := st (a + 7) q) (rngs (by omega) (by omega)) (rngs (by omega) (by omega)), zmin_ok (rngs (by omega) (by omega)) (rngs (by omega) (by omega)), zmax_ok (rngs (by omega) (by omega)) (rngs (by omega) (by omega))]
  have own : (bI (zrd st (a + 5) 7 h) (fun v1 => some v1)) = some (st (a + 5) h) := by
    rw [zrd_ok (by omega) (by omega) (by omega), bI_some]
  unfold X5_middle
  rw [t1, wI_id (z := h) (by omega) (by omega), wI_id (z := (n : Int)) (by omega) (by omega), wI_id (z := (n : Int) - 1) (by omega) (by omega), show wI 3 = 3 from rfl, isRing_ok hT, own]
  simp only [bI_some]
  rw [wI_id (z := ringL L 0) (by omega) (by omega)]
  unfold midF
  by_cases c3 : n < 3
  · simp only [if_pos (by omega : (n : Int) < 3)]; rw [if_pos (Or.inl c3)]
    split
    · rfl
    · split <;> rfl
  · have P := pq _ _ rfl rfl (by omega)
    simp only [if_neg (by omega : ¬ (n : Int) < 3)]
    rw [P]
    by_cases e0 : h = 0 ∨ h = (n : Int) - 1
    · by_cases er : ringL L 0 = 0
      · simp only [if_pos er]; rw [if_pos (Or.inr ⟨e0, er⟩)]
        rcases e0 with e | e
        · rw [if_pos e]
        · by_cases e' : h = 0
          · rw [if_pos e']
          · rw [if_neg e', if_pos e]
      · simp only [if_neg er]; rw [if_neg (by omega : ¬ (n < 3 ∨ (h = 0 ∨ h = (n : Int) - 1) ∧ ringL L 0 = 0))]
        split
        · rfl
        · split <;> rfl
    · have n0 : ¬ h = 0 := fun q => e0 (Or.inl q)
      have n1 : ¬ h = (n : Int) - 1 := fun q => e0 (Or.inr q)
      simp only [if_neg n0, if_neg n1]
      rw [if_neg (by omega : ¬ (n < 3 ∨ (h = 0 ∨ h = (n : Int) - 1) ∧ ringL L 0 = 0))]
