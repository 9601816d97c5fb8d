/-! YEARS, TOTALS, A TOWN TAKEN: the two sides together -/
theorem zcpf_o {st : PS} {a b q : Nat} {sp dp n j : Int} (h : ¬ (q = b ∧ dp ≤ j ∧ j < dp + n)) : zcpf st a b sp dp n q j = st q j := if_neg h
theorem zcpf_at {st : PS} {a b : Nat} {sp dp n j : Int} (h1 : dp ≤ j) (h2 : j < dp + n) : zcpf st a b sp dp n b j = st a (sp + (j - dp)) := if_pos ⟨rfl, h1, h2⟩
abbrev goP (a b : Nat) (j : Int) : Prop := b = a + 5 ∨ b = a + 7 ∨ b = a + 8 ∨ b = a + 9 ∨ b = a + 11 ∨ (b = a ∧ (j = 1 ∨ j = 10))
theorem mall_L {st : PS} {n : Nat} {y : Int} (T : MW st n y) : ∀ (k i : Nat), i ≤ n → n - i < k → X7_allEarn_L4 st k (sumF (st 4) i) i = some (sumF (st 4) n) := by
  obtain ⟨t1, t2, t3, t4, t5, t6⟩ := T
  intro k
  induction k with
  | zero => intro i _ h; omega
  | succ k ih =>
    intro i hi hk
    rw [X7_allEarn_L4, t1, wI_id (z := (n : Int)) (by omega) (by omega), wI_id (z := (i : Int)) (by omega) (by omega)]
    by_cases h : n ≤ i
    · have e : i = n := by omega
      subst e
      rw [if_pos (by omega)]
    · rw [if_neg (by omega), zrd_ok (by omega) (by omega) (by omega), bI_some]
      exact ih (i + 1) (by omega) (by omega)
theorem mall_ok {st : PS} {n : Nat} {y : Int} (T : MW st n y) : X7_allEarn st = some (sumF (st 4) n) := by
  have h := mall_L T FU 0 (Nat.zero_le _) (by have := T.2.1; unfold FU; omega)
  exact h
theorem total_eq {sc sm : PS} {a n : Nat} {y : Int} (h : RW sc sm a n y 0 1 2) : ∃ t, X5_total a sc = some t ∧ X7_allEarn sm = some t ∧ 0 ≤ t ∧ t ≤ 693 := by
  have r := sumF_rng (n := n) h.1.erng
  refine ⟨_, total_ok h.1, ?_, r.1, by have := h.1.2.1; omega⟩
  rw [mall_ok h.mw]
  exact congrArg some (sumF_ext fun o o1 o2 => (h.2.2.2 o o1 o2).2.2.1)
theorem go_eq {sc sm : PS} {a n : Nat} {y : Int} {L : Cl} (ha : a ≤ 60) {K : Nat} (hK : K ≤ 1000) (E : EQ sc sm a n y L) (hy : y + K ≤ 2000) : ∃ sc' sm', X5_go a sc K = some sc' ∧ X7_goYears sm K = some sm' ∧ EQ sc' sm' a n (y + K) L ∧ Same sc sc' (goP a) ∧ Same sm sm' mG := by
  obtain ⟨h1, h2, h3, h4⟩ := E
  obtain ⟨T, r1, r2, r3⟩ := id h1
  obtain ⟨sc', a1, a2, a3, a4⟩ := go_ok ha hK T hy h2
  obtain ⟨sm', b1, b2, b3, b4⟩ := mgo_ok hK h1.mw hy h4 h3
  refine ⟨sc', sm', a1, b1, ⟨⟨a3, b3.1, b3.2.2.1, fun h q1 q2 => ?_⟩, h2.same a2 (by omega) (fun b j z1 z2 => by omega), h3.same b2 (by unfold mG; omega) (fun b j z1 z2 => by unfold mG; omega), (b2 _ _ (by unfold mG; omega)).trans h4⟩, a2, b2⟩
  obtain ⟨u1, u2, u3, u4⟩ := r3 h q1 q2
  refine ⟨by rw [b2 _ _ (by unfold mG; omega), a2 _ _ (by omega)]; exact u1, by rw [b2 _ _ (by unfold mG; omega), a2 _ _ (by omega)]; exact u2, ?_, fun p p1 p2 => by rw [b2 _ _ (by unfold mG; omega), a2 _ _ (by omega)]; exact u4 p p1 p2⟩
  rw [show (2 : Nat) + 2 = 4 from rfl, b4 h q1 q2, a4 h q1 q2]
  exact goF_ext (fun o o1 o2 => (r3 o o1 o2).1) (fun o o1 o2 => (r3 o o1 o2).2.1) (fun o p o1 o2 p1 p2 => (r3 o o1 o2).2.2.2 p p1 p2) K y _ _ T.2.2.2.1 (fun o o1 o2 => (r3 o o1 o2).2.2.1) h q1 q2
theorem year_eq {sc sm : PS} {a n : Nat} {y : Int} {L : Cl} (ha : a ≤ 60) (E : EQ sc sm a n y L) (hy : y + 1 ≤ 2000) : ∃ sc' sm', X5_go a sc 1 = some sc' ∧ X7_goYear sm = some sm' ∧ EQ sc' sm' a n (y + 1) L ∧ Same sc sc' (goP a) ∧ Same sm sm' mG := by
  obtain ⟨h1, h2, h3, h4⟩ := E
  obtain ⟨T, r1, r2, r3⟩ := id h1
  obtain ⟨sc', a1, a2, a3, a4⟩ := go_ok ha (K := 1) (by omega) T (by omega) h2
  obtain ⟨sm', b1, b2, b3, b4⟩ := myear_ok h1.mw (by omega) h4 h3
  refine ⟨sc', sm', a1, b1, ⟨⟨a3, b3.1, b3.2.2.1, fun h q1 q2 => ?_⟩, h2.same a2 (by omega) (fun b j z1 z2 => by omega), h3.same b2 (by unfold mG; omega) (fun b j z1 z2 => by unfold mG; omega), (b2 _ _ (by unfold mG; omega)).trans h4⟩, a2, b2⟩
  obtain ⟨u1, u2, u3, u4⟩ := r3 h q1 q2
  refine ⟨by rw [b2 _ _ (by unfold mG; omega), a2 _ _ (by omega)]; exact u1, by rw [b2 _ _ (by unfold mG; omega), a2 _ _ (by omega)]; exact u2, ?_, fun p p1 p2 => by rw [b2 _ _ (by unfold mG; omega), a2 _ _ (by omega)]; exact u4 p p1 p2⟩
  rw [show (2 : Nat) + 2 = 4 from rfl, b4 h q1 q2, a4 h q1 q2]
  exact goF_ext (fun o o1 o2 => (r3 o o1 o2).1) (fun o o1 o2 => (r3 o o1 o2).2.1) (fun o p o1 o2 p1 p2 => (r3 o o1 o2).2.2.2 p p1 p2) 1 y _ _ T.2.2.2.1 (fun o o1 o2 => (r3 o o1 o2).2.2.1) h q1 q2
abbrev tkP (a b : Nat) (j : Int) : Prop := (b = a ∧ 0 ≤ j ∧ j ≤ 2) ∨ (a + 3 ≤ b ∧ b ≤ a + 6)
theorem take_ok {st : PS} {a r : Nat} (hd : a + 7 ≤ r ∨ r + 7 ≤ a) : ∃ s', X5_takeFrom a r st = some s' ∧ Same st s' (tkP a) ∧ (s' a 0 = st r 0 ∧ s' a 1 = st r 1 ∧ s' a 2 = st r 2) ∧ (∀ j : Int, 0 ≤ j → j < 7 → s' (a + 3) j = st (r + 3) j ∧ s' (a + 4) j = st (r + 4) j ∧ s' (a + 5) j = st (r + 5) j) ∧ ∀ j : Int, 0 ≤ j → j < 28 → s' (a + 6) j = st (r + 6) j := by
  unfold X5_takeFrom zlet
  simp (disch := omega) only [zcp_ok, bI_some]
  refine ⟨_, rfl, fun b j h => ?_, ⟨?_, ?_, ?_⟩, fun j j1 j2 => ⟨?_, ?_, ?_⟩, fun j j1 j2 => ?_⟩
  · simp (disch := omega) only [zcpf_o, zu_o]
  all_goals simp (disch := omega) only [zcpf_o, zcpf_at, zu_o, zu_at, Int.zero_add, Int.sub_zero]
theorem take_rw {sc sm : PS} {a r n s : Nat} {y p q : Int} (hd : a + 7 ≤ r ∨ r + 7 ≤ a) (h : RW sc sm r n y p q s) : ∃ sc', X5_takeFrom a r sc = some sc' ∧ RW sc' sm a n y p q s ∧ sc' a 2 = sc r 2 ∧ Same sc sc' (tkP a) := by
  obtain ⟨sc', a1, a2, ⟨a3, a4, a5⟩, a6, a7⟩ := take_ok (st := sc) hd
  obtain ⟨⟨t1, t2, t3, t4, t5, t6⟩, h1, h2, h3⟩ := h
  refine ⟨sc', a1, ⟨⟨a3.trans t1, t2, a4.trans t3, t4, t5, fun h q1 q2 => ?_⟩, h1, h2, fun h q1 q2 => ?_⟩, a5, a2⟩
  · obtain ⟨b1, b2, b3⟩ := a6 h q1 (by omega)
    obtain ⟨c1, c2, c3, c4⟩ := t6 h q1 q2
    exact ⟨by rw [b1]; exact c1, by rw [b2]; exact c2, by rw [b3]; exact c3, fun p p1 p2 => by rw [a7 _ (by omega) (by omega)]; exact c4 p p1 p2⟩
  · obtain ⟨b1, b2, b3⟩ := a6 h q1 (by omega)
    obtain ⟨c1, c2, c3, c4⟩ := h3 h q1 q2
    exact ⟨by rw [b1]; exact c1, by rw [b2]; exact c2, by rw [b3]; exact c3, fun p p1 p2 => by rw [a7 _ (by omega) (by omega)]; exact c4 p p1 p2⟩
theorem take_eq {sc sm : PS} {n : Nat} {y : Int} {L : Cl} (E : EQ sc sm 20 n y L) : ∃ sc', X5_takeFrom 40 20 sc = some sc' ∧ EQ sc' sm 40 n y L ∧ Same sc sc' (tkP 40) := by
  obtain ⟨h1, h2, h3, h4⟩ := E
  obtain ⟨sc', a1, a2, a3, a4⟩ := take_rw (a := 40) (by omega) h1
  refine ⟨sc', a1, ⟨a2, ?_, h3, h4⟩, a4⟩
  rcases h2 with ⟨g1, g2⟩ | ⟨g1, g2⟩
  · exact Or.inl ⟨a3.trans g1, g2⟩
  · refine Or.inr ⟨by rw [a3]; exact g1, ?_⟩
    rw [a3]
    exact g2.same a4 (fun b j z1 z2 => by unfold tkP; omega)
