/-! CALLS: street -/
theorem CAt.copy {st st' : PS} {S S' : Nat} : ∀ {C : List Int} {p : Int}, CAt st S p C → (∀ j : Int, p ≤ j → j < p + C.length → st' (S' + 5) j = st (S + 5) j ∧ st' (S' + 6) j = st (S + 6) j ∧ st' (S' + 7) j = st (S + 7) j) → CAt st' S' p C
  | [], _, _, _ => trivial
  | t :: C, p, h, H => by
    simp only [List.length_cons] at H
    obtain ⟨a, b, c⟩ := h
    obtain ⟨h5, h6, h7⟩ := H p (by omega) (by omega)
    exact ⟨h5.trans a, fun q => ⟨h6.trans (b q).1, h7.trans (b q).2⟩, CAt.copy c (fun j h1 h2 => H j (by omega) (by omega))⟩
theorem FAt.copy {st st' : PS} {S S' : Nat} (h1 : st' S' 1 = st S 1) (h4 : st' S' 4 = st S 4) (l1 : st S 1 ≤ 10) (l4 : st S 4 ≤ 100) (H1 : ∀ j : Int, 0 ≤ j → j < 10 → st' (S' + 2) j = st (S + 2) j ∧ st' (S' + 3) j = st (S + 3) j) (H2 : ∀ j : Int, 0 ≤ j → j < 100 → st' (S' + 5) j = st (S + 5) j ∧ st' (S' + 6) j = st (S + 6) j ∧ st' (S' + 7) j = st (S + 7) j) : ∀ {L : Cl} {i p : Int}, 0 ≤ i → 0 ≤ p → FAt st S i p L → FAt st' S' i p L
  | [], _, _, _, _, h => ⟨h1.trans h.1, h4.trans h.2⟩
  | (w, m, c) :: L, i, p, hi, hp, h => by
    rw [FAt] at h ⊢
    by_cases q : w = 0 ∨ w = 1
    · rw [if_pos q] at h ⊢
      obtain ⟨a, b, d, e⟩ := h
      have le := FAt_le _ _ _ e
      exact ⟨(H1 i hi (by omega)).1.trans a, (H1 i hi (by omega)).2.trans b, d.copy fun j j1 j2 => H2 j (by omega) (by omega), FAt.copy h1 h4 l1 l4 H1 H2 (by omega) (by omega) e⟩
    · rw [if_neg q] at h ⊢
      exact FAt.copy h1 h4 l1 l4 H1 H2 hi hp h
theorem streetCopy {st : PS} {a : Nat} {L : Cl} (ha : a + 8 ≤ 160) (h : SR st 160 L) : ∃ s', X2_takeFrom a 160 st = some s' ∧ Same st s' (fun b _ => a ≤ b ∧ b ≤ a + 7) ∧ SR s' a L := by
  obtain ⟨g1, g2, g3, g4, g5⟩ := h
  unfold X2_takeFrom
  rw [zbit_ok (by rw [g1]; exact ringL_bit L 0 (Or.inl rfl)), zlet_eq, zlet_eq, zlet_eq]
  simp (disch := omega) only [zcp_ok, bI_some]
  refine ⟨_, rfl, fun b j hb => ?_, ?_, ?_, ?_, FAt.copy (st := st) (S := 160) ?_ ?_ g2.2 g3.2 (fun j j1 j2 => ⟨?_, ?_⟩) (fun j j1 j2 => ⟨?_, ?_, ?_⟩) (by omega) (by omega) g4, g5⟩
  · simp (disch := omega) only [zcpf_o, zu_o]
  · simp (disch := omega) only [zcpf_o, zu_o, zu_at]; exact g1
  · simp (disch := omega) only [zcpf_o, zu_o, zu_at]; exact g2
  · simp (disch := omega) only [zcpf_o, zu_o, zu_at]; exact g3
  all_goals simp (disch := omega) only [zcpf_o, zcpf_at, zu_o, zu_at, Int.zero_add, Int.sub_zero]
theorem MR.keep {m m' : PS} {k kk : Nat} {L : Cl} {P : Nat → Int → Prop} (h : MR m k L) (hk : k < kk) (hS : Same m m' P) (hP : ∀ (b : Nat) (j : Int), P b j → bPM kk b j ∨ b = 0) : MR m' k L := by
  obtain ⟨h1, h2, h3, h4⟩ := h
  have s : ∀ (b : Nat) (j : Int), ¬ (bPM kk b j ∨ b = 0) → m' b j = m b j := fun b j hb => hS b j (fun q => hb (hP b j q))
  refine ⟨(s _ _ (by unfold bPM; omega)).trans h1, h2, MF.keep (Int.le_refl _) h3 (fun b j b1 b2 j1 j2 => s _ _ (by unfold bPM; omega)) (fun j j1 j2 => s _ _ (by unfold bPM; omega)), h4⟩
theorem RI.grow {sc sm sc' sm' : PS} {P Q : Nat → Int → Prop} (h : RI sc sm) (hS : Same sc sc' P) (hT : Same sm sm' Q) (h8 : sc 0 8 ≤ sc' 0 8) (hP : ∀ (b : Nat) (j : Int), (b = 0 ∧ j = 5) ∨ (60 ≤ b ∧ b < 70) ∨ (90 ≤ b ∧ b ≤ 94) → ¬ P b j) (hQ : ∀ (b : Nat) (j : Int), (b = 0 ∧ 42 ≤ j ∧ j ≤ 47) ∨ (48 ≤ b ∧ b ≤ 54) → ¬ Q b j) : RI sc' sm' := by
  rcases h with ⟨h1, h2⟩ | ⟨⟨h1, h2⟩, h3, h4, n, y, h5, h6, h7⟩
  · exact Or.inl ⟨(hS _ _ (hP _ _ (by omega))).trans h1, (hT _ _ (hQ _ _ (by omega))).trans h2⟩
  · refine Or.inr ⟨⟨(hS _ _ (hP _ _ (by omega))).trans h1, (hT _ _ (hQ _ _ (by omega))).trans h2⟩, by rw [hS _ _ (hP 60 2 (by omega))]; omega, by rw [hS _ _ (hP 60 2 (by omega)), hT _ _ (hQ _ _ (by omega))]; exact h4, n, y, h5.same hS hT (fun b j q => hP b j (by omega)) (fun b j q => hQ b j (by omega)), h6, h7.same hS hT (fun b j q => hP b j (by omega)) (fun b j q => hQ b j (by omega))⟩
theorem sim_street : Sim_street Rel := by
  intro sc sm R
  obtain ⟨⟨n, y, h1, h2, h3⟩, ⟨cn, c1, c2, c3, c4, c5, c6⟩, h5, h6, ⟨f, f1, f2, f3, f4⟩, h8, h9, h10⟩ := id R
  unfold X6_street X7_street
  rw [c2, c3, wI_id (z := (cn : Int)) (by omega) (by omega), wI_id (z := 6) (by omega) (by omega)]
  by_cases g6 : cn = 6
  · rw [if_neg (by omega), if_pos (by omega)]
    exact ⟨_, _, _, _, rfl, rfl, rfl, R⟩
  rw [if_pos (by omega), if_neg (by omega)]
  obtain ⟨s1, hs1⟩ : ∃ s1, s1 = zu (zu (zu (zu sc 170 3 0) 160 0 0) 160 1 0) 160 4 0 := ⟨_, rfl⟩
  have e1 : X3_readStreet sc = X3_readStreet_L14 FU s1 1 := by
    unfold X3_readStreet X2_clear
    rw [zlet_eq, zlet_eq, zlet_eq, zlet_eq, bI_some, hs1]
  have S1 : Same sc s1 bPC := fun b j hb => by rw [hs1, zu_o (by unfold bPC at hb; omega), zu_o (by unfold bPC at hb; omega), zu_o (by unfold bPC at hb; omega), zu_o (by unfold bPC at hb; omega)]
  have v1 : s1 170 3 = 0 ∧ s1 160 0 = 0 ∧ s1 160 1 = 0 ∧ s1 160 4 = 0 := by
    rw [hs1]
    refine ⟨?_, ?_, ?_, ?_⟩ <;> simp (disch := omega) only [zu_o, zu_at]
  clear hs1
  have e2 : X7_goesText sm cn = X7_goesText_L15 cn FU (zu (zu sm 0 9 0) 0 19 (100 * cn)) 0 := by
    unfold X7_goesText
    rw [zlet_eq, zlet_eq]
  have S2 : Same sm (zu (zu sm 0 9 0) 0 19 (100 * cn)) (bPM cn) := fun b j hb => by rw [zu_o (by unfold bPM at hb; omega), zu_o (by unfold bPM at hb; omega)]
  have w1 : zu (zu sm 0 9 0) 0 19 (100 * cn) 0 9 = 0 := by rw [zu_o (by omega), zu_at]
  have w2 : zu (zu sm 0 9 0) 0 19 (100 * cn) 0 19 = 100 * cn := zu_at
  generalize zu (zu sm 0 9 0) 0 19 (100 * (cn : Int)) = m1 at *
  have T : TG s1 m1 f := ⟨f1, (S1 _ _ (by unfold bPC; omega)).trans f2, (S2 _ _ (by unfold bPM; omega)).trans f3, fun i i1 i2 => by rw [S1 _ _ (by unfold bPC; omega), S2 _ _ (by unfold bPM; omega)]; exact f4 i i1 i2, fun i i1 i2 => (S2 _ _ (by unfold bPM; omega)).trans (h6 i i1 i2)⟩
  have hI : LI s1 m1 f cn 0 0 0 [] := ⟨T, v1.1, w1, v1.2.2.2, by omega, v1.2.2.1, ⟨rfl, rfl⟩, v1.2.1, trivial, fun x hx => absurd hx List.not_mem_nil, by omega, by omega, by simp⟩
  obtain ⟨v, r, s', m', b1, b2, b3, b4, b5⟩ := street_L (by omega) 9 FU FU s1 m1 0 0 0 [] rfl (by unfold FU; omega) (by unfold FU; omega) hI
  rw [show (([] : Cl).length : Int) + 1 = 1 from rfl] at b1
  rw [show (([] : Cl).length : Int) = 0 from rfl] at b2
  have Sc : Same sc s' bPC := S1.tr b3 (fun _ _ q => q) (fun _ _ q => q)
  have Sm : Same sm m' (bPM cn) := S2.tr b4 (fun _ _ q => q) (fun _ _ q => q)
  rw [e1, b1, bP_some, e2, b2, bP_some]
  unfold X3_clear
  rw [zlet_eq, bI_some, zlet_eq]
  have Sc2 : Same sc (zu s' 170 0 0) (fun b j => bPC b j ∨ (b = 170 ∧ j = 0)) := fun b j hb => by rw [zu_o (by omega)]; exact Sc b j (fun q => hb (Or.inl q))
  have Sm2 : Same sm (zu m' 0 8 0) (fun b j => bPM cn b j ∨ (b = 0 ∧ j = 8)) := fun b j hb => by rw [zu_o (by omega)]; exact Sm b j (fun q => hb (Or.inl q))
  have x170 : zu s' 170 0 0 170 0 = 0 := zu_at
  have x8 : zu m' 0 8 0 0 8 = 0 := zu_at
  have x9 : zu m' 0 8 0 0 9 = m' 0 9 := zu_o (by omega)
  have y8 : zu s' 170 0 0 0 8 = cn := (Sc2 _ _ (by unfold bPC; omega)).trans c2
  have y6 : zu m' 0 8 0 0 6 = cn := (Sm2 _ _ (by unfold bPM; omega)).trans c3
  have Ss : Same s' (zu s' 170 0 0) (fun b j => b = 170 ∧ j = 0) := fun b j hb => zu_o (by omega)
  have Ms : Same m' (zu m' 0 8 0) (fun b j => b = 0 ∧ j = 8) := fun b j hb => zu_o (by omega)
  generalize zu s' 170 0 0 = c' at *
  generalize zu m' 0 8 0 = mm at *
  have pP : ∀ (b : Nat) (j : Int), (bPC b j ∨ (b = 170 ∧ j = 0)) → (160 ≤ b ∧ b ≤ 170) := fun b j q => by unfold bPC at q; omega
  have pQ : ∀ (b : Nat) (j : Int), (bPM cn b j ∨ (b = 0 ∧ j = 8)) → (b = 0 ∧ (j = 8 ∨ j = 9 ∨ j = 10 ∨ j = 19 ∨ j = 20 ∨ j = 21)) ∨ (12 ≤ b ∧ b ≤ 18) := fun b j q => by unfold bPM at q; omega
  have Rt : RT c' mm := ⟨0, by omega, x170, x8, fun i i1 i2 => by omega⟩
  have Sk : Same sc c' (fun b _ => 160 ≤ b ∧ b ≤ 170) := Sc2.wk pP
  have Mk : Same sm mm (fun b j => (b = 0 ∧ (j = 8 ∨ j = 9 ∨ j = 10 ∨ j = 19 ∨ j = 20 ∨ j = 21)) ∨ (12 ≤ b ∧ b ≤ 18)) := Sm2.wk pQ
  have mkq : ∀ (b : Nat) (j : Int), (bPM cn b j ∨ (b = 0 ∧ j = 8)) → bPM cn b j ∨ b = 0 := fun b j q => by
    rcases q with q | q
    · exact Or.inl q
    · exact Or.inr q.1
  rcases b5 with ⟨rfl, q1, q2⟩ | ⟨rfl, rfl, L, q1, q2⟩
  · rw [wI_id (z := v) (by omega) (by omega), wI_id (z := -1) (by omega) (by omega), if_neg (by omega), if_pos (by decide), x9, q2]
    refine ⟨_, _, _, _, rfl, rfl, rfl, ⟨n, y, h1.same Sk Mk (fun b j q => by omega) (fun b j q => by omega), h2, h3.same Sk Mk (fun b j q => by omega) (fun b j q => by omega)⟩, ⟨cn, c1, y8, y6, by rw [Sk _ _ (by omega)]; exact c4, by rw [Sk _ _ (by omega), Mk _ _ (by omega)]; exact c5, fun k hk => ?_⟩, (Mk _ _ (by omega)).trans h5, fun i i1 i2 => (Mk _ _ (by omega)).trans (h6 i i1 i2), Rt, h8.same Sk Mk (fun b j q => by omega) (fun b j q => by omega), h9.same Sk Mk (fun b j q => by omega) (fun b j q => by omega), h10.same Sk Mk (fun b j q => by omega) (fun b j q => by omega)⟩
    obtain ⟨L, l1, l2⟩ := c6 k hk
    exact ⟨L, l1.same Sk (fun b j z1 z2 => by omega), l2.keep hk Sm2 mkq⟩
  · have q1' : SR c' 160 L := q1.same Ss (fun b j z1 z2 => by omega)
    have q2' : MR mm cn L := q2.same Ms (fun b j z1 z2 => by omega)
    obtain ⟨c3', d1, d2, d3⟩ := streetCopy (a := 100 + 10 * cn) (by omega) q1'
    rw [if_pos rfl, y8, zchk_ok (by rw [wI_id (by omega) (by omega)]; omega), wI_id (z := (cn : Int)) (by omega) (by omega), Int.toNat_natCast, d1, bI_some, zlet_eq, zlet_eq, if_neg (by decide : ¬ wI 1 = 0), zlet_eq, zlet_eq]
    have z8 : zu c3' 20 2 cn 0 8 = cn := by rw [zu_o (by omega), d2 _ _ (by omega)]; exact y8
    have z6 : zu mm 0 7 (mm 0 6) 0 6 = cn := by rw [zu_o (by omega)]; exact y6
    rw [z8, z6, y6]
    have Sf : Same sc (zu (zu c3' 20 2 cn) 0 8 (cn + 1)) (fun b j => (160 ≤ b ∧ b ≤ 170) ∨ (b = 20 ∧ j = 2) ∨ (b = 0 ∧ j = 8) ∨ (100 + 10 * cn ≤ b ∧ b ≤ 107 + 10 * cn)) := fun b j hb => by rw [zu_o (by omega), zu_o (by omega), d2 _ _ (by omega)]; exact Sk b j (by omega)
    have Mf : Same sm (zu (zu mm 0 7 cn) 0 6 (cn + 1)) (fun b j => (b = 0 ∧ (j = 6 ∨ j = 7 ∨ j = 8 ∨ j = 9 ∨ j = 10 ∨ j = 19 ∨ j = 20 ∨ j = 21)) ∨ (12 ≤ b ∧ b ≤ 18)) := fun b j hb => by rw [zu_o (by omega), zu_o (by omega)]; exact Mk b j (by omega)
    have Mg : Same mm (zu (zu mm 0 7 cn) 0 6 (cn + 1)) (fun b j => b = 0 ∧ (j = 6 ∨ j = 7)) := fun b j hb => by rw [zu_o (by omega), zu_o (by omega)]
    have Sg : Same c3' (zu (zu c3' 20 2 cn) 0 8 (cn + 1)) (fun b j => (b = 20 ∧ j = 2) ∨ (b = 0 ∧ j = 8)) := fun b j hb => by rw [zu_o (by omega), zu_o (by omega)]
    have k8 : zu (zu c3' 20 2 cn) 0 8 (cn + 1) 0 8 = cn + 1 := zu_at
    have k2 : zu (zu c3' 20 2 cn) 0 8 (cn + 1) 20 2 = cn := by rw [zu_o (by omega), zu_at]
    have k7 : zu (zu mm 0 7 cn) 0 6 (cn + 1) 0 7 = cn := by rw [zu_o (by omega), zu_at]
    have k6 : zu (zu mm 0 7 cn) 0 6 (cn + 1) 0 6 = cn + 1 := zu_at
    refine ⟨_, _, _, _, rfl, rfl, by rw [k8, k7]; exact congrArg wI (by omega), ⟨n, y, h1.same Sf Mf (fun b j q => by omega) (fun b j q => by omega), h2, h3.same Sf Mf (fun b j q => by omega) (fun b j q => by omega)⟩, ⟨cn + 1, by omega, by rw [k8]; omega, by rw [k6]; omega, by rw [k2]; omega, by rw [k2, k7], fun k hk => ?_⟩, (Mf _ _ (by omega)).trans h5, fun i i1 i2 => (Mf _ _ (by omega)).trans (h6 i i1 i2), Rt.same (Sg.tr (R := fun b j => (b = 20 ∧ j = 2) ∨ (b = 0 ∧ j = 8)) Same.rf (fun _ _ q => q) (fun _ _ q => q) |> fun h => (d2.tr (R := fun b j => (100 + 10 * cn ≤ b ∧ b ≤ 107 + 10 * cn) ∨ (b = 20 ∧ j = 2) ∨ (b = 0 ∧ j = 8)) h (fun b j q => by omega) (fun b j q => by omega))) Mg (fun b j q => by omega) (fun b j q => by omega), h8.grow Sf Mf (by rw [k8, c2]; omega) (fun b j q => by omega) (fun b j q => by omega), h9.same Sf Mf (fun b j q => by omega) (fun b j q => by omega), h10.same Sf Mf (fun b j q => by omega) (fun b j q => by omega)⟩
    by_cases e : k = cn
    · subst e
      exact ⟨L, d3.same Sg (fun b j z1 z2 => by omega), q2'.same Mg (fun b j z1 z2 => by omega)⟩
    · obtain ⟨L', l1, l2⟩ := c6 k (by omega)
      refine ⟨L', l1.same Sf (fun b j z1 z2 => by omega), ?_⟩
      exact (l2.keep (kk := cn) (by omega) Sm2 mkq).same Mg (fun b j z1 z2 => by omega)
