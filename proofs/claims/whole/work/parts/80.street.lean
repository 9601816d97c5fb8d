/-! CALLS: street -/
def FAx (st : PS) (S : Nat) : Int → Int → Cl → Int → Int → Prop
  | i, p, [], i', p' => i = i' ∧ p = p'
  | i, p, (w, m, c) :: L, i', p' => if w = 0 ∨ w = 1 then st (S + 2) i = (if w = 0 then m else -m) ∧ st (S + 3) i = p + c.length ∧ CAt st S p c ∧ FAx st S (i + 1) (p + c.length) L i' p' else FAx st S i p L i' p'
theorem FAx_le {st : PS} {S : Nat} : ∀ {L : Cl} {i p i' p' : Int}, FAx st S i p L i' p' → i ≤ i' ∧ p ≤ p'
  | [], _, _, _, _, h => ⟨by have := h.1; omega, by have := h.2; omega⟩
  | (w, m, c) :: L, i, p, i', p', h => by
    rw [FAx] at h
    by_cases q : w = 0 ∨ w = 1
    · rw [if_pos q] at h
      have := FAx_le h.2.2.2
      omega
    · rw [if_neg q] at h; exact FAx_le h
theorem FAx.keep {st st' : PS} {S : Nat} : ∀ {L : Cl} {i p i' p' : Int}, FAx st S i p L i' p' → (∀ (b : Nat) (j : Int), S + 2 ≤ b → b ≤ S + 3 → i ≤ j → j < i' → st' b j = st b j) → (∀ (b : Nat) (j : Int), S + 5 ≤ b → b ≤ S + 7 → p ≤ j → j < p' → st' b j = st b j) → FAx st' S i p L i' p'
  | [], _, _, _, _, h, _, _ => h
  | (w, m, c) :: L, i, p, i', p', h, H1, H2 => by
    rw [FAx] at h ⊢
    by_cases q : w = 0 ∨ w = 1
    · rw [if_pos q] at h ⊢
      obtain ⟨h1, h2, h3, h4⟩ := h
      have le := FAx_le h4
      exact ⟨(H1 _ _ (by omega) (by omega) (by omega) (by omega)).trans h1, (H1 _ _ (by omega) (by omega) (by omega) (by omega)).trans h2, h3.keep fun b j b1 b2 j1 j2 => H2 b j b1 b2 j1 (by omega), FAx.keep h4 (fun b j b1 b2 j1 j2 => H1 b j b1 b2 (by omega) j2) (fun b j b1 b2 j1 j2 => H2 b j b1 b2 (by omega) j2)⟩
    · rw [if_neg q] at h ⊢
      exact FAx.keep h H1 H2
theorem FAx.app {st : PS} {S : Nat} {x : Int × Int × List Int} : ∀ {L : Cl} {i p i' p' i'' p'' : Int}, FAx st S i p L i' p' → FAx st S i' p' [x] i'' p'' → FAx st S i p (L ++ [x]) i'' p''
  | [], i, p, i', p', i'', p'', h, hx => by
    obtain ⟨rfl, rfl⟩ := h
    exact hx
  | (w, m, c) :: L, i, p, i', p', i'', p'', h, hx => by
    rw [List.cons_append, FAx]
    rw [FAx] at h
    by_cases q : w = 0 ∨ w = 1
    · rw [if_pos q] at h ⊢
      exact ⟨h.1, h.2.1, h.2.2.1, FAx.app h.2.2.2 hx⟩
    · rw [if_neg q] at h ⊢
      exact FAx.app h hx
theorem FAx.at {st : PS} {S : Nat} : ∀ {L : Cl} {i p i' p' : Int}, FAx st S i p L i' p' → st S 1 = i' → st S 4 = p' → FAt st S i p L
  | [], _, _, _, _, h, h1, h2 => ⟨h1.trans h.1.symm, h2.trans h.2.symm⟩
  | (w, m, c) :: L, i, p, i', p', h, h1, h2 => by
    rw [FAx] at h
    rw [FAt]
    by_cases q : w = 0 ∨ w = 1
    · rw [if_pos q] at h ⊢
      exact ⟨h.1, h.2.1, h.2.2.1, FAx.at h.2.2.2 h1 h2⟩
    · rw [if_neg q] at h ⊢
      exact FAx.at h h1 h2
theorem MF.keep {st st' : PS} {B B' : Int} (hB : B ≤ B') : ∀ {L : Cl} {i : Int}, MF st B i L → (∀ (b : Nat) (j : Int), 13 ≤ b → b ≤ 16 → i ≤ j → j < i + L.length → st' b j = st b j) → (∀ j : Int, 0 ≤ j → j < B → st' 17 j = st 17 j) → MF st' B' i L
  | [], _, _, _, _ => trivial
  | (w, m, c) :: L, i, h, H1, H2 => by
    simp only [List.length_cons] at H1
    obtain ⟨h1, h2, h3⟩ := h
    refine ⟨(H1 _ _ (by omega) (by omega) (by omega) (by omega)).trans h1, fun q => ?_, MF.keep hB h3 (fun b j b1 b2 j1 j2 => H1 b j b1 b2 (by omega) (by omega)) H2⟩
    obtain ⟨a1, a2, a3, a4, a5⟩ := h2 q
    rw [H1 14 _ (by omega) (by omega) (by omega) (by omega), H1 15 _ (by omega) (by omega) (by omega) (by omega), H1 16 _ (by omega) (by omega) (by omega) (by omega)]
    exact ⟨a1, a2, a3, by omega, a5.keep fun j j1 j2 => H2 j (by omega) (by omega)⟩
theorem MF.app {st : PS} {B : Int} {x : Int × Int × List Int} : ∀ {L : Cl} {i : Int}, MF st B i L → MF st B (i + L.length) [x] → MF st B i (L ++ [x])
  | [], i, _, hx => by simpa using hx
  | (w, m, c) :: L, i, h, hx => by
    simp only [List.length_cons] at hx
    exact ⟨h.1, h.2.1, MF.app h.2.2 (by rw [show i + 1 + (L.length : Int) = i + ((L.length + 1 : Nat) : Int) by omega]; exact hx)⟩
theorem ringL_app {x : Int × Int × List Int} : ∀ (L : Cl) (r : Int), ringL (L ++ [x]) r = if x.1 = 2 then 1 else if x.1 = 3 then 0 else ringL L r
  | [], r => rfl
  | (w, m, c) :: L, r => by
    rw [List.cons_append, ringL, ringL_app L]
    rfl
def bPC (b : Nat) (j : Int) : Prop := (160 ≤ b ∧ b ≤ 167) ∨ (b = 170 ∧ j = 3)
def bPM (kk : Int) (b : Nat) (j : Int) : Prop := (b = 0 ∧ (j = 9 ∨ j = 10 ∨ j = 19 ∨ j = 20 ∨ j = 21)) ∨ b = 18 ∨ (b = 12 ∧ j = kk) ∨ (13 ≤ b ∧ b ≤ 16 ∧ 10 * kk ≤ j ∧ j < 10 * kk + 10) ∨ (b = 17 ∧ 100 * kk ≤ j ∧ j < 100 * kk + 100)
def LI (c m : PS) (f : Nat) (kk p z cnt : Int) (L : Cl) : Prop := TG c m f ∧ c 170 3 = p ∧ m 0 9 = p ∧ c 160 4 = z ∧ m 0 19 = 100 * kk + z ∧ c 160 1 = cnt ∧ FAx c 160 0 0 L cnt z ∧ c 160 0 = ringL L 0 ∧ MF m (100 * kk + z) (10 * kk) L ∧ okL L ∧ (0 ≤ z ∧ z ≤ p) ∧ (0 ≤ p ∧ p ≤ f) ∧ (0 ≤ cnt ∧ cnt ≤ L.length)
theorem clause_step {f : Nat} {kk p z cnt : Int} {c m : PS} {L : Cl} (hk : 0 ≤ kk ∧ kk ≤ 5) (hL : L.length ≤ 9) (hI : LI c m f kk p z cnt L) : ∃ (r : Int) (c1 m1 : PS), X3_clause c = some (r, c1) ∧ X7_takesClause m (10 * kk + L.length) = some (r, m1) ∧ Same c c1 bPC ∧ Same m m1 (bPM kk) ∧ ∃ q : Int, c1 170 3 = q ∧ m1 0 9 = q ∧ (0 ≤ q ∧ q ≤ f) ∧ (r = 0 ∨ (r = 1 ∧ ∃ (x : Int × Int × List Int) (z' cnt' : Int), LI c1 m1 f kk q z' cnt' (L ++ [x]))) := by
  obtain ⟨T, i1, i2, i3, i4, i5, i6, i7, i8, i9, i10, i11, i12⟩ := hI
  have f1 := T.1
  obtain ⟨r, c1, m1, a1, a2, a3, a4, q, a5, a6, a7, a8⟩ := clause_sim (hi := 100 * kk + 100) (s0 := 100 * kk + z) (e := 10 * kk + L.length) (cnt := cnt) T (by omega) (by omega) (by omega) (by omega) i10 i11 i1 i2 i3 i5 (by omega) i4
  refine ⟨r, c1, m1, a1, a2, a3.wk fun b j q => by (unfold kPC at q; unfold bPC; omega), a4.wk fun b j q => by (unfold kPM at q; unfold bPM; omega), q, a5, a6, a7, ?_⟩
  rcases a8 with x | ⟨x, w, n, D, x1, x2, x3, x4, x5, x6, x7, x8⟩
  · exact Or.inl x
  have T' : TG c1 m1 f := T.same a3 a4 (fun b j q => by unfold kPC; omega) (fun b j q => by unfold kPM; omega)
  have kF : FAx c1 160 0 0 L cnt z := i6.keep (fun b j b1 b2 j1 j2 => a3 _ _ (by unfold kPC; omega)) (fun b j b1 b2 j1 j2 => a3 _ _ (by unfold kPC; omega))
  have kM : MF m1 (100 * kk + (z + D.length)) (10 * kk) L := MF.keep (by omega) i8 (fun b j b1 b2 j1 j2 => a4 _ _ (by unfold kPM; omega)) (fun j j1 j2 => a4 _ _ (by unfold kPM; omega))
  have len1 : ((L ++ [(w, n, D)]).length : Int) = L.length + 1 := by rw [List.length_append, List.length_singleton]; omega
  by_cases hw : w = 0 ∨ w = 1
  · obtain ⟨y1, y2, y3, y4, y5, y6, y7, y8, y9, y10, y11⟩ := x7 hw
    refine Or.inr ⟨x, (w, n, D), z + D.length, cnt + 1, T', a5, a6, x4, by rw [x5]; omega, y7, kF.app ?_, ?_, kM.app ?_, ?_, by omega, a7, by omega⟩
    · rw [FAx, if_pos hw]
      exact ⟨y4, y5, y6, rfl, rfl⟩
    · rw [ringL_app, if_neg (by show ¬ w = 2; omega), if_neg (by show ¬ w = 3; omega), y3, i7]
    · refine ⟨x3, fun _ => ⟨y8, by omega, by omega, by omega, ?_⟩, trivial⟩
      rw [y9]; exact y11
    · intro u hu
      rw [List.mem_append, List.mem_singleton] at hu
      rcases hu with hu | rfl
      · exact i9 u hu
      · exact ⟨x2, fun _ => ⟨y1.1, y1.2, y2⟩⟩
  · obtain ⟨y1, y2, y3⟩ := x8 (by omega)
    subst y3
    simp only [List.length_nil] at x4 x5 x6 kM
    refine Or.inr ⟨x, (w, n, []), z, cnt, T', a5, a6, by omega, by rw [x5]; omega, y2, kF.app ?_, ?_, MF.app (MF.keep (by omega) kM (fun b j b1 b2 j1 j2 => rfl) (fun j j1 j2 => rfl)) ?_, ?_, by omega, a7, by omega⟩
    · rw [FAx, if_neg hw]
      exact ⟨rfl, rfl⟩
    · rw [ringL_app, y1]
      show (if w = 2 then (1 : Int) else 0) = if w = 2 then 1 else if w = 3 then 0 else _
      by_cases q2 : w = 2
      · rw [if_pos q2, if_pos q2]
      · rw [if_neg q2, if_neg q2, if_pos (by omega)]
    · exact ⟨x3, fun q => absurd q hw, trivial⟩
    · intro u hu
      rw [List.mem_append, List.mem_singleton] at hu
      rcases hu with hu | rfl
      · exact i9 u hu
      · exact ⟨x2, fun q => absurd q hw⟩
theorem LI.w12 {c m : PS} {f : Nat} {kk p z cnt x : Int} {L : Cl} (h : LI c m f kk p z cnt L) : LI c (zu m 12 kk x) f kk p z cnt L := by
  obtain ⟨T, i1, i2, i3, i4, i5, i6, i7, i8, i9, i10, i11, i12⟩ := h
  have S : Same m (zu m 12 kk x) (fun b _ => b = 12) := fun b j hb => zu_o (by omega)
  exact ⟨T.same Same.rf S (fun b j _ q => q) (fun b j q => by omega), i1, (S _ _ (by omega)).trans i2, i3, (S _ _ (by omega)).trans i4, i5, i6, i7, MF.same S (fun j => by omega) i8, i9, i10, i11, i12⟩
theorem LI.done {c m : PS} {f : Nat} {kk p z cnt : Int} {L : Cl} (hf : f ≤ 100) (hl : L.length ≤ 10) (h : LI c m f kk p z cnt L) (h12 : m 12 kk = L.length) : SR c 160 L ∧ MR m kk L := by
  obtain ⟨T, i1, i2, i3, i4, i5, i6, i7, i8, i9, i10, i11, i12⟩ := h
  refine ⟨⟨i7, by omega, by omega, FAx.at i6 i5 i3, i9⟩, h12, hl, MF.keep (by omega) i8 (fun b j b1 b2 j1 j2 => rfl) (fun j j1 j2 => rfl), i9⟩
theorem street_L {f : Nat} {kk : Int} (hk : 0 ≤ kk ∧ kk ≤ 5) : ∀ (d k k' : Nat) (c m : PS) (p z cnt : Int) (L : Cl), L.length + (d + 1) = 10 → d + 1 < k → d + 1 < k' → LI c m f kk p z cnt L → ∃ (v r : Int) (c' m' : PS), X3_readStreet_L14 k c ((L.length : Int) + 1) = some (v, c') ∧ X7_goesText_L15 kk k' m L.length = some (r, m') ∧ Same c c' bPC ∧ Same m m' (bPM kk) ∧ ((r = 0 ∧ (0 ≤ v ∧ v ≤ 100) ∧ m' 0 9 = v) ∨ (r = 1 ∧ v = -1 ∧ ∃ L', SR c' 160 L' ∧ MR m' kk L')) := by
  intro d
  induction d with
  | zero =>
    intro k k' c m p z cnt L hd hkf hkf' hI
    obtain ⟨k, rfl⟩ : ∃ q, k = q + 1 := ⟨k - 1, by omega⟩
    obtain ⟨k', rfl⟩ : ∃ q, k' = q + 1 := ⟨k' - 1, by omega⟩
    have T := hI.1
    have f1 := T.1
    obtain ⟨r, c1, m1, a1, a2, Sc, Sm, q, a5, a6, a7, a8⟩ := clause_step hk (by omega) hI
    rw [X3_readStreet_L14, X7_goesText_L15, wI_id (z := 10) (by omega) (by omega), wI_id (z := (L.length : Int) + 1) (by omega) (by omega), if_neg (by omega), a1, bP_some, a2, bP_some]
    rcases a8 with rfl | ⟨rfl, x, z', cnt', hI'⟩
    · rw [if_pos (by decide), if_pos (by decide)]
      exact ⟨_, _, _, _, rfl, rfl, Sc, Sm, Or.inl ⟨rfl, by omega, by omega⟩⟩
    · rw [if_neg (by decide : ¬ wI 1 = 0), if_neg (by decide : ¬ wI 1 = 0), zwr_ok (by omega) (by omega) (by omega), bI_some]
      have ef : c1 170 0 = f := hI'.1.2.1
      have m8 : zu m1 12 kk ((L.length : Int) + 1) 0 8 = f := by rw [zu_o (by omega)]; exact hI'.1.2.2.1
      have m9 : zu m1 12 kk ((L.length : Int) + 1) 0 9 = q := (zu_o (by omega)).trans a6
      have Sm' : Same m (zu m1 12 kk ((L.length : Int) + 1)) (bPM kk) := fun b j hb => by rw [zu_o (by unfold bPM at hb; omega)]; exact Sm b j hb
      rw [a5, ef, m8, m9, wI_id (z := q) (by omega) (by omega), wI_id (z := (f : Int)) (by omega) (by omega)]
      by_cases c1' : q < f
      · rw [if_pos c1', if_pos (by omega : (L.length : Int) + 1 = 10), if_neg (by omega : ¬ q = f), if_pos (by omega : (L.length : Int) + 1 = 10)]
        exact ⟨_, _, _, _, rfl, rfl, Sc, Sm', Or.inl ⟨rfl, by omega, m9⟩⟩
      · rw [if_neg c1', if_pos (by omega : q = f)]
        exact ⟨_, _, _, _, rfl, rfl, Sc, Sm', Or.inr ⟨rfl, rfl, L ++ [x], LI.done f1 (by rw [List.length_append, List.length_singleton]; omega) hI'.w12 (by rw [zu_at, List.length_append, List.length_singleton]; omega)⟩⟩
  | succ d ih =>
    intro k k' c m p z cnt L hd hkf hkf' hI
    obtain ⟨k, rfl⟩ : ∃ q, k = q + 1 := ⟨k - 1, by omega⟩
    obtain ⟨k', rfl⟩ : ∃ q, k' = q + 1 := ⟨k' - 1, by omega⟩
    have T := hI.1
    have f1 := T.1
    obtain ⟨r, c1, m1, a1, a2, Sc, Sm, q, a5, a6, a7, a8⟩ := clause_step hk (by omega) hI
    rw [X3_readStreet_L14, X7_goesText_L15, wI_id (z := 10) (by omega) (by omega), wI_id (z := (L.length : Int) + 1) (by omega) (by omega), if_neg (by omega), a1, bP_some, a2, bP_some]
    rcases a8 with rfl | ⟨rfl, x, z', cnt', hI'⟩
    · rw [if_pos (by decide), if_pos (by decide)]
      exact ⟨_, _, _, _, rfl, rfl, Sc, Sm, Or.inl ⟨rfl, by omega, by omega⟩⟩
    · rw [if_neg (by decide : ¬ wI 1 = 0), if_neg (by decide : ¬ wI 1 = 0), zwr_ok (by omega) (by omega) (by omega), bI_some]
      have hI2 : LI c1 (zu m1 12 kk ((L.length : Int) + 1)) f kk q z' cnt' (L ++ [x]) := hI'.w12
      have e12 : zu m1 12 kk ((L.length : Int) + 1) 12 kk = (L ++ [x]).length := by rw [zu_at, List.length_append, List.length_singleton]; omega
      have Sm' : Same m (zu m1 12 kk ((L.length : Int) + 1)) (bPM kk) := fun b j hb => by rw [zu_o (by unfold bPM at hb; omega)]; exact Sm b j hb
      generalize zu m1 12 kk ((L.length : Int) + 1) = m2 at *
      have T2 := hI2.1
      have m9 : m2 0 9 = q := hI2.2.2.1
      rw [a5, T2.2.1, T2.2.2.1, m9, wI_id (z := q) (by omega) (by omega), wI_id (z := (f : Int)) (by omega) (by omega)]
      by_cases c1' : q < f
      · rw [if_pos c1', if_neg (by omega : ¬ (L.length : Int) + 1 = 10), if_neg (by omega : ¬ q = f), if_neg (by omega : ¬ (L.length : Int) + 1 = 10)]
        have hCP : CP c1 z' c1 q [] := ⟨Same.rf, a5, by rw [hI2.2.2.2.1]; simp, trivial⟩
        rw [word1 T2 rfl (by decide : zsch 7 0 = 59) (by omega) hCP a7, mtakes T2 (x := 59) (by omega) (⟨Same.rf, m9⟩ : MK m2 m2 q) a7]
        by_cases g59 : gS f (c1 172) q = 59
        · rw [if_pos g59, if_pos g59, bP_some, bP_some, if_neg (by decide : ¬ wI 1 = 0), if_neg (by decide : ¬ wI 1 = 0)]
          have hI3 : LI (zu c1 170 3 (c1 170 3 + 1)) (zu m2 0 9 (m2 0 9 + 1)) f kk (q + 1) z' cnt' (L ++ [x]) := by
            obtain ⟨T, i1, i2, i3, i4, i5, i6, i7, i8, i9, i10, i11, i12⟩ := hI2
            have S1 : Same c1 (zu c1 170 3 (c1 170 3 + 1)) (fun b j => b = 170 ∧ j = 3) := fun b j hb => zu_o (by omega)
            have S2 : Same m2 (zu m2 0 9 (m2 0 9 + 1)) (fun b j => b = 0 ∧ j = 9) := fun b j hb => zu_o (by omega)
            exact ⟨T.same S1 S2 (fun b j q => by omega) (fun b j q => by omega), by rw [zu_at, i1], by rw [zu_at, i2], (S1 _ _ (by omega)).trans i3, (S2 _ _ (by omega)).trans i4, (S1 _ _ (by omega)).trans i5, i6.keep (fun b j b1 b2 j1 j2 => S1 _ _ (by omega)) (fun b j b1 b2 j1 j2 => S1 _ _ (by omega)), (S1 _ _ (by omega)).trans i7, MF.same S2 (fun j => by omega) i8, i9, by omega, by omega, i12⟩
          have ell : ((L ++ [x]).length : Int) = (L.length : Int) + 1 := by rw [List.length_append, List.length_singleton]; omega
          obtain ⟨v, r, c', m', b1, b2, b3, b4, b5⟩ := ih k k' _ _ (q + 1) z' cnt' (L ++ [x]) (by rw [List.length_append, List.length_singleton]; omega) (by omega) (by omega) hI3
          rw [ell] at b1 b2
          exact ⟨v, r, c', m', b1, b2, (Sc.tr (fun b j hb => zu_o (by unfold bPC at hb; omega) : Same c1 _ bPC) (fun _ _ q => q) (fun _ _ q => q)).tr b3 (fun _ _ q => q) (fun _ _ q => q), (Sm'.tr (fun b j hb => zu_o (by unfold bPM at hb; omega) : Same m2 _ (bPM kk)) (fun _ _ q => q) (fun _ _ q => q)).tr b4 (fun _ _ q => q) (fun _ _ q => q), b5⟩
        · rw [if_neg g59, if_neg g59, bP_some, bP_some, if_pos (by decide), if_pos (by decide)]
          exact ⟨_, _, _, _, rfl, rfl, Sc, Sm', Or.inl ⟨rfl, by omega, by omega⟩⟩
      · rw [if_neg c1', if_pos (by omega : q = f)]
        exact ⟨_, _, _, _, rfl, rfl, Sc, Sm', Or.inr ⟨rfl, rfl, L ++ [x], LI.done f1 (by rw [List.length_append, List.length_singleton]; omega) hI2 e12⟩⟩
