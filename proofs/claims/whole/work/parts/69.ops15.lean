/-! CALLS: build, down -/
def HB (s : PS) (r : Nat) (h : Int) : Prop := (0 ≤ s r h ∧ s r h ≤ 6) ∧ (0 ≤ s (r + 1) h ∧ s (r + 1) h ≤ 9) ∧ (0 ≤ s (r + 2) h ∧ s (r + 2) h ≤ 99) ∧ ∀ p : Int, 0 ≤ p → p < 4 → 0 ≤ s (r + 3) (h * 4 + p) ∧ s (r + 3) (h * 4 + p) ≤ 4
def HR (sc sm : PS) (r : Nat) (h : Int) : Prop := sm 2 h = sc r h ∧ sm 3 h = sc (r + 1) h ∧ sm 4 h = sc (r + 2) h ∧ ∀ p : Int, 0 ≤ p → p < 4 → sm 5 (h * 4 + p) = sc (r + 3) (h * 4 + p)
theorem HB.tr {st s : PS} {r : Nat} {p q : Int} (h : HB st r p) (e : HE st s r p q) : HB s r q := by
  obtain ⟨a1, a2, a3, a4⟩ := h
  obtain ⟨b1, b2, b3, b4⟩ := e
  exact ⟨by rw [b1]; exact a1, by rw [b2]; exact a2, by rw [b3]; exact a3, fun t t1 t2 => by rw [b4 t t1 t2]; exact a4 t t1 t2⟩
theorem HR.tr {sc sm sc' sm' : PS} {r : Nat} {p q : Int} (h : HR sc sm r p) (e : HE sc sc' r p q) (f : HE sm sm' 2 p q) : HR sc' sm' r q := by
  obtain ⟨a1, a2, a3, a4⟩ := h
  obtain ⟨b1, b2, b3, b4⟩ := e
  obtain ⟨c1, c2, c3, c4⟩ := f
  exact ⟨c1.trans (a1.trans b1.symm), c2.trans (a2.trans b2.symm), c3.trans (a3.trans b3.symm), fun t t1 t2 => (c4 t t1 t2).trans ((a4 t t1 t2).trans (b4 t t1 t2).symm)⟩
theorem RW.hb {sc sm : PS} {a n : Nat} {y : Int} (h : RW sc sm a n y 0 1 2) {o : Int} (o0 : 0 ≤ o) (o1 : o < n) : HB sc (a + 3) o := h.1.2.2.2.2.2 o o0 o1
theorem RW.hr {sc sm : PS} {a n : Nat} {y : Int} (h : RW sc sm a n y 0 1 2) {o : Int} (o0 : 0 ≤ o) (o1 : o < n) : HR sc sm (a + 3) o := h.2.2.2 o o0 o1
theorem RW.mk' {sc sm : PS} {a n : Nat} {y : Int} (h0 : sc a 0 = n) (h1 : n ≤ 7) (h2 : sc a 1 = y) (h3 : 0 ≤ y) (h4 : y ≤ 2000) (m0 : sm 0 0 = n) (m1 : sm 0 1 = y) (hb : ∀ o : Int, 0 ≤ o → o < n → HB sc (a + 3) o) (hr : ∀ o : Int, 0 ≤ o → o < n → HR sc sm (a + 3) o) : RW sc sm a n y 0 1 2 := ⟨⟨h0, h1, h2, h3, h4, hb⟩, m0, m1, hr⟩
theorem same_of {m m' : PS} {n : Nat} (h : ∀ o : Int, 0 ≤ o → o < n → HE m m' 2 o o) (h2 : ∀ (b : Nat) (j : Int), ¬ (2 ≤ b ∧ b ≤ 5) → ¬ smS n b j → m' b j = m b j) : Same m m' (smS n) := by
  intro b j hb
  by_cases g : 2 ≤ b ∧ b ≤ 5
  · by_cases g5 : b = 5
    · subst g5
      have q : 0 ≤ j ∧ j < 4 * n := by unfold smS at hb; omega
      have e : j = j / 4 * 4 + j % 4 := by omega
      rw [e]
      exact (h (j / 4) (by omega) (by omega)).2.2.2 (j % 4) (by omega) (by omega)
    · have q : 0 ≤ j ∧ j < n := by unfold smS at hb; omega
      obtain ⟨a1, a2, a3, -⟩ := h j q.1 q.2
      have g' : b = 2 ∨ b = 3 ∨ b = 4 := by omega
      rcases g' with e | e | e <;> subst e
      · exact a1
      · exact a2
      · exact a3
  · exact h2 b j g hb
theorem build_step {c m : PS} {n : Nat} {y : Int} {L : Cl} (E : EQ c m 20 n y L) (hy : y ≤ 999) (hn : n < 7) {w x1 x2 x3 : Int} (w0 : 0 ≤ w) (wn : w ≤ n) (g1 : 0 ≤ x1 ∧ x1 ≤ 6) (g2 : 0 ≤ x2 ∧ x2 ≤ 9) (g3 : 0 ≤ x3 ∧ x3 ≤ 99) : ∃ c5 m5 v, (∀ K : PS → Int → Option (Int × PS), bI (X5_takeFrom 40 20 c) (fun s1 => bI (X5_insert 40 s1 w x1 x2 x3) (fun s2 => bI (X5_go 40 s2 20) (fun s3 => bI (X5_total 40 s3) (fun v1 => K s3 v1)))) = K c5 v) ∧ (∀ K : PS → Int → Option (Int × PS), bI (X7_opens m w) (fun s1 => bI (X7_lay s1 w x1 x2 x3) (fun s2 => bP (X7_earnsThen s2 20 10) (fun v1 s3 => bI (X7_closes s3 w) (fun s4 => K s4 v1)))) = K m5 v) ∧ Same c c5 clS ∧ Same m m5 (smS n) ∧ 0 ≤ v ∧ v ≤ 693 := by
  obtain ⟨c1, f1, f2, f3⟩ := take_eq E
  obtain ⟨⟨⟨t1, n7, t3, t4, t5, t6⟩, m0, my, h3⟩, hTS, hMT, h24⟩ := id f2
  obtain ⟨c2, a1, a2, a3, ⟨a4, a5, a6, a7⟩, a8⟩ := insert_ok (st := c1) (a := 40) hn t1 (x1 := x1) (x2 := x2) (x3 := x3) w0 wn
  obtain ⟨m1, b1, b2, b3, b4⟩ := opens_ok (st := m) hn m0 w0 wn
  obtain ⟨m2, d1, d2, d3, d4, d5, d6⟩ := lay_ok (st := m1) (l := w) (x1 := x1) (x2 := x2) (x3 := x3) w0 (by omega)
  have d2' : Same m1 m2 (PO 2 w w) := d2.wk fun b j q => by unfold PO; omega
  have Sm2 : Same m m2 (fun b j => PO 2 w n b j ∨ (b = 0 ∧ j = 0)) := b2.tr d2' (fun b j q => by unfold PO at *; omega) (fun b j q => by unfold PO at *; omega)
  have lo : ∀ h : Int, 0 ≤ h → h < w → HE m m2 2 h h := fun h q1 q2 => HE.sm Sm2 (fun b j q => by unfold PO at *; omega)
  have hi : ∀ h : Int, w < h → h ≤ n → HE m m2 2 (h - 1) h := fun h q1 q2 => (b4 h q1 q2).tr (HE.id d2' (by omega))
  have E2 : EQ c2 m2 40 (n + 1) y L := by
    refine ⟨RW.mk' (by rw [a3]; omega) (by omega) ((a2 _ _ (by unfold PO; omega)).trans t3) t4 t5 ((d2' _ _ (by unfold PO; omega)).trans (b3.trans (by omega))) ((Sm2 _ _ (by unfold PO; omega)).trans my) (fun o o0 o1 => ?_) (fun o o0 o1 => ?_), hTS.same a2 (by unfold PO; omega) (fun b j z1 z2 => by unfold PO; omega), hMT.same Sm2 (by unfold PO; omega) (fun b j z1 z2 => by unfold PO; omega), (Sm2 _ _ (by unfold PO; omega)).trans h24⟩
    · by_cases e : o = w
      · subst e
        exact ⟨by rw [a4]; exact g1, by rw [show 40 + 3 + 1 = 40 + 4 from rfl, a5]; exact g2, by rw [show 40 + 3 + 2 = 40 + 5 from rfl, a6]; exact g3, fun p p1 p2 => by rw [show 40 + 3 + 3 = 40 + 6 from rfl, a7 p p1 p2]; omega⟩
      · by_cases e' : o < w
        · exact (f2.1.hb o0 (by omega)).tr (HE.sm a2 (fun b j q => by unfold PO at *; omega))
        · exact (f2.1.hb (o := o - 1) (by omega) (by omega)).tr (a8 o (by omega) (by omega))
    · by_cases e : o = w
      · subst e
        exact ⟨by rw [a4, d3], by rw [show 40 + 3 + 1 = 40 + 4 from rfl, a5, d4], by rw [show 40 + 3 + 2 = 40 + 5 from rfl, a6, d5], fun p p1 p2 => by rw [show 40 + 3 + 3 = 40 + 6 from rfl, a7 p p1 p2, d6 p p1 p2]⟩
      · by_cases e' : o < w
        · exact (f2.1.hr o0 (by omega)).tr (HE.sm a2 (fun b j q => by unfold PO at *; omega)) (lo o o0 e')
        · exact (f2.1.hr (o := o - 1) (by omega) (by omega)).tr (a8 o (by omega) (by omega)) (hi o (by omega) (by omega))
  obtain ⟨c5, m3, v, e1, e2, e3, e4, e5, e6, e7, e8⟩ := earns_eq E2 (K := 20) (by omega) (by omega) (w := 10) (Or.inl rfl)
  rw [if_pos rfl] at e2
  have e1' : X5_go 40 c2 20 = some c5 := e1
  have e3' : X7_earnsThen m2 20 10 = some (v, m3) := e3
  have z3 : m3 0 0 = n + 1 := by rw [e6 _ _ (by unfold smS; omega), E2.1.2.1]; omega
  obtain ⟨m4, i1, i2, i3, i4⟩ := closes_ok (st := m3) (n := n) (by omega) z3 w0 wn
  refine ⟨c5, m4, v, fun K => ?_, fun K => ?_, fun b j hb => ?_, same_of (fun o o0 o1 => ?_) (fun b j g hb => ?_), e7, e8⟩
  · rw [f1, bI_some, a1, bI_some, e1', bI_some, e2, bI_some]
  · rw [b1, bI_some, d1, bI_some, e3', bP_some, i1, bI_some]
  · rw [e4 _ _ (fun h => hb (cl_go h)), a2 _ _ (by unfold clS at hb; unfold PO; omega), f3 _ _ (fun h => hb (cl_tk h))]
  · by_cases e' : o < w
    · exact ((lo o o0 e').tr (HE.sm e6 (fun b j q => by unfold PO at q; unfold smS; omega))).tr (HE.sm i2 (fun b j q => by unfold PO at *; omega))
    · have k1 : HE m m2 2 (o + 1 - 1) (o + 1) := hi (o + 1) (by omega) (by omega)
      rw [show o + 1 - 1 = o by omega] at k1
      exact (k1.tr (HE.sm e6 (fun b j q => by unfold PO at q; unfold smS; omega))).tr (i4 o (by omega) o1)
  · by_cases z : b = 0 ∧ j = 0
    · obtain ⟨rfl, rfl⟩ := z
      exact i3.trans m0.symm
    · rw [i2 _ _ (by unfold PO; omega), e6 _ _ (by unfold smS at *; omega), Sm2 _ _ (by unfold PO; omega)]
theorem down_step {c m : PS} {n : Nat} {y : Int} {L : Cl} (E : EQ c m 20 (n + 1) y L) (hy : y ≤ 999) {w : Int} (w0 : 0 ≤ w) (wn : w ≤ n) : ∃ c5 m5 v, (∀ K : PS → Int → Option (Int × PS), bI (X5_takeFrom 40 20 c) (fun s1 => bI (X5_remove 40 s1 w) (fun s2 => bI (X5_go 40 s2 20) (fun s3 => bI (X5_total 40 s3) (fun v1 => K s3 v1)))) = K c5 v) ∧ (∀ K : PS → Int → Option (Int × PS), bI (X7_copy m 7 w) (fun s1 => bI (X7_closes s1 w) (fun s2 => bP (X7_earnsThen s2 20 10) (fun v1 s3 => bI (X7_opensWith s3 w) (fun s4 => K s4 v1)))) = K m5 v) ∧ Same c c5 clS ∧ Same m m5 (smS (n + 1)) ∧ 0 ≤ v ∧ v ≤ 693 := by
  obtain ⟨c1, f1, f2, f3⟩ := take_eq E
  obtain ⟨⟨⟨t1, n7, t3, t4, t5, t6⟩, m0, my, h3⟩, hTS, hMT, h24⟩ := id f2
  obtain ⟨c2, a1, a2, a3, a4⟩ := remove_ok (st := c1) (a := 40) (n := n) (by omega) (by rw [t1]; omega) w0 wn
  obtain ⟨m1, b1, b2, b3⟩ := mcopy_ok (st := m) (p := w) (q := 7) (by omega) (by omega) (by omega)
  obtain ⟨m2, d1, d2, d3, d4⟩ := closes_ok (st := m1) (n := n) (by omega) (by rw [b2 _ _ (by unfold PO; omega), m0]; omega) w0 wn
  have Sm2 : Same m m2 (fun b j => PO 2 w (n - 1) b j ∨ PO 2 7 7 b j ∨ (b = 0 ∧ j = 0)) := b2.tr d2 (fun b j q => Or.inr (Or.inl q)) (fun b j q => by rcases q with q | q; exact Or.inl q; exact Or.inr (Or.inr q))
  have lo : ∀ h : Int, 0 ≤ h → h < w → HE m m2 2 h h := fun h q1 q2 => HE.sm Sm2 (fun b j q => by unfold PO at *; omega)
  have hi : ∀ h : Int, w ≤ h → h < n → HE m m2 2 (h + 1) h := fun h q1 q2 => (HE.id b2 (by omega)).tr (d4 h q1 q2)
  have s7 : HE m m2 2 w 7 := b3.tr (HE.sm d2 (fun b j q => by unfold PO at *; omega))
  have E2 : EQ c2 m2 40 n y L := by
    refine ⟨RW.mk' a3 (by omega) ((a2 _ _ (by unfold PO; omega)).trans t3) t4 t5 d3 ((Sm2 _ _ (by unfold PO; omega)).trans my) (fun o o0 o1 => ?_) (fun o o0 o1 => ?_), hTS.same a2 (by unfold PO; omega) (fun b j z1 z2 => by unfold PO; omega), hMT.same Sm2 (by unfold PO; omega) (fun b j z1 z2 => by unfold PO; omega), (Sm2 _ _ (by unfold PO; omega)).trans h24⟩
    · by_cases e' : o < w
      · exact (f2.1.hb o0 (by omega)).tr (HE.sm a2 (fun b j q => by unfold PO at *; omega))
      · exact (f2.1.hb (o := o + 1) (by omega) (by omega)).tr (a4 o (by omega) o1)
    · by_cases e' : o < w
      · exact (f2.1.hr o0 (by omega)).tr (HE.sm a2 (fun b j q => by unfold PO at *; omega)) (lo o o0 e')
      · exact (f2.1.hr (o := o + 1) (by omega) (by omega)).tr (a4 o (by omega) o1) (hi o (by omega) o1)
  obtain ⟨c5, m3, v, e1, e2, e3, e4, e5, e6, e7, e8⟩ := earns_eq8 E2 (K := 20) (by omega) (by omega) (w := 10) (Or.inl rfl)
  rw [if_pos rfl] at e2
  have e1' : X5_go 40 c2 20 = some c5 := e1
  have e3' : X7_earnsThen m2 20 10 = some (v, m3) := e3
  have h8 : ∀ h : Int, 0 ≤ h → h ≤ 7 → HE m2 m3 2 h h := fun h q1 q2 => HE.sm e6 (fun b j q => by unfold PO at q; unfold smS; omega)
  obtain ⟨m4, i1, i2, i3, i4⟩ := opens_ok (st := m3) (n := n) (by omega) (by rw [e6 _ _ (by unfold smS; omega)]; exact d3) w0 wn
  obtain ⟨m5, j1, j2, j3⟩ := mcopy_ok (st := m4) (p := 7) (q := w) (by omega) (by omega) (by omega)
  refine ⟨c5, m5, v, fun K => ?_, fun K => ?_, fun b j hb => ?_, same_of (n := n + 1) (fun o o0 o1 => ?_) (fun b j g hb => ?_), e7, e8⟩
  · rw [f1, bI_some, a1, bI_some, e1', bI_some, e2, bI_some]
  · unfold X7_opensWith
    rw [b1, bI_some, d1, bI_some, e3', bP_some, i1, bI_some, j1, bI_some, bI_some]
  · rw [e4 _ _ (fun h => hb (cl_go h)), a2 _ _ (by unfold clS at hb; unfold PO; omega), f3 _ _ (fun h => hb (cl_tk h))]
  · by_cases e' : o < w
    · exact (((lo o o0 e').tr (h8 o o0 (by omega))).tr (HE.sm i2 (fun b j q => by unfold PO at *; omega))).tr (HE.id j2 (by omega))
    · by_cases e'' : o = w
      · subst e''
        exact ((s7.tr (h8 7 (by omega) (by omega))).tr (HE.sm i2 (fun b j q => by unfold PO at *; omega))).tr j3
      · have k1 : HE m m2 2 (o - 1 + 1) (o - 1) := hi (o - 1) (by omega) (by omega)
        rw [show o - 1 + 1 = o by omega] at k1
        exact ((k1.tr (h8 (o - 1) (by omega) (by omega))).tr (i4 o (by omega) (by omega))).tr (HE.id j2 (by omega))
  · by_cases z : b = 0 ∧ j = 0
    · obtain ⟨rfl, rfl⟩ := z
      rw [j2 _ _ (by unfold PO; omega), i3, m0]; omega
    · rw [j2 _ _ (by unfold PO; omega), i2 _ _ (by unfold PO; omega), e6 _ _ (by unfold smS at *; omega), Sm2 _ _ (by unfold PO; omega)]
theorem build_L {sc sm : PS} {n : Nat} {y : Int} {L : Cl} (E : EQ sc sm 20 n y L) (hy : y ≤ 999) (hn : n < 7) {x1 x2 x3 z : Int} (g1 : 0 ≤ x1 ∧ x1 ≤ 6) (g2 : 0 ≤ x2 ∧ x2 ≤ 9) (g3 : 0 ≤ x3 ∧ x3 ≤ 99) : ∀ (d k k' i : Nat) (c m : PS) (b b' t t' : Int), i + d = n + 1 → d < k → d < k' → Same sc c clS → Same sm m (smS n) → ((i = 0 ∧ b = 0 ∧ t = -1 ∧ b' = -1 ∧ t' = 0) ∨ (b' = b ∧ t' = t ∧ 0 ≤ b ∧ b ≤ 7 ∧ 0 ≤ t ∧ t ≤ 693)) → ∃ r c' m', X6_build_L58 x1 x2 x3 z k c b t i = some (r, c') ∧ X7_build_L70 x1 x2 x3 z k' m b' t' i = some (r, m') ∧ Same sc c' clS ∧ Same sm m' (smS n) := by
  intro d
  induction d with
  | zero =>
    intro k k' i c m b b' t t' hi hk hk' hS hT hI
    obtain ⟨k, rfl⟩ : ∃ q, k = q + 1 := ⟨k - 1, by omega⟩
    obtain ⟨k', rfl⟩ : ∃ q, k' = q + 1 := ⟨k' - 1, by omega⟩
    have E1 := E.sc hS hT
    rcases hI with hI | ⟨rfl, rfl, -⟩
    · omega
    · rw [X6_build_L58, X7_build_L70, E1.1.1.1, E1.1.2.1, wI_id (z := (n : Int)) (by omega) (by omega), wI_id (z := (i : Int)) (by omega) (by omega), if_pos (by omega : (n : Int) < i), if_pos (by omega : (n : Int) < i)]
      by_cases q : wI z = 0
      · rw [if_pos q, if_pos q]
        exact ⟨_, _, _, rfl, rfl, hS, hT⟩
      · rw [if_neg q, if_neg q]
        exact ⟨_, _, _, rfl, rfl, hS, hT⟩
  | succ d ih =>
    intro k k' i c m b b' t t' hi hk hk' hS hT hI
    obtain ⟨k, rfl⟩ : ∃ q, k = q + 1 := ⟨k - 1, by omega⟩
    obtain ⟨k', rfl⟩ : ∃ q, k' = q + 1 := ⟨k' - 1, by omega⟩
    have E1 := E.sc hS hT
    obtain ⟨c5, m5, v, a1, a2, a3, a4, a5, a6⟩ := build_step E1 hy hn (w := i) (by omega) (by omega) g1 g2 g3
    have S5 : Same sc c5 clS := hS.tr a3 (fun _ _ q => q) (fun _ _ q => q)
    have T5 : Same sm m5 (smS n) := hT.tr a4 (fun _ _ q => q) (fun _ _ q => q)
    rw [X6_build_L58, X7_build_L70, E1.1.1.1, E1.1.2.1, wI_id (z := (n : Int)) (by omega) (by omega), wI_id (z := (i : Int)) (by omega) (by omega), if_neg (by omega), if_neg (by omega), a1, a2, wI_id (z := v) (by omega) (by omega), wI_id (z := t) (by omega) (by omega), wI_id (z := t') (by omega) (by omega), wI_id (z := b') (by omega) (by omega)]
    have nx : ∀ b0 t0, 0 ≤ b0 → b0 ≤ 7 → 0 ≤ t0 → t0 ≤ 693 → ∃ r c' m', X6_build_L58 x1 x2 x3 z k c5 b0 t0 ((i : Int) + 1) = some (r, c') ∧ X7_build_L70 x1 x2 x3 z k' m5 b0 t0 ((i : Int) + 1) = some (r, m') ∧ Same sc c' clS ∧ Same sm m' (smS n) := fun b0 t0 h1 h2 h3 h4 => ih k k' (i + 1) c5 m5 b0 b0 t0 t0 (by omega) (by omega) (by omega) S5 T5 (Or.inr ⟨rfl, rfl, h1, h2, h3, h4⟩)
    rcases hI with ⟨i0, rfl, rfl, rfl, rfl⟩ | ⟨rfl, rfl, h1, h2, h3, h4⟩
    · rw [if_neg (by omega : ¬ v ≤ -1), if_pos (by omega : (-1 : Int) < 0)]
      exact nx _ _ (by omega) (by omega) a5 a6
    · rw [if_neg (by omega : ¬ b' < 0)]
      by_cases q : v ≤ t'
      · rw [if_pos q, if_neg (by omega)]
        exact nx _ _ h1 h2 h3 h4
      · rw [if_neg q, if_pos (by omega)]
        exact nx _ _ (by omega) (by omega) a5 a6
theorem sim_build : Sim_build Rel := by
  intro sc sm R a1 a2 a3 a4 r1 r2 r3 r4
  obtain ⟨n, y, L, E, hy⟩ := R.eq
  have n7 := E.1.1.2.1
  have m0 := E.1.2.1
  unfold X6_build X7_build
  rw [isK_c r1, isW_c r4, isV_c r2, isE_c r3, in_l r1 (by decide), in_l r2 (by decide), in_l r3 (by decide), in_l r4 (by decide), E.1.1.1, m0, wI_id (z := (n : Int)) (by omega) (by omega), wI_id (z := 7) (by omega) (by omega)]
  by_cases g1 : 0 ≤ a1 ∧ a1 ≤ 6
  · by_cases g4 : 0 ≤ a4 ∧ a4 ≤ 1
    · by_cases g2 : 0 ≤ a2 ∧ a2 ≤ 9
      · by_cases g3 : 0 ≤ a3 ∧ a3 ≤ 99
        · simp only [if_pos g1, if_pos g2, if_pos g3, if_pos g4, w10, if_false]
          by_cases g5 : n = 7
          · rw [if_neg (by omega), if_pos (by omega)]
            exact ⟨_, _, _, _, rfl, rfl, rfl, R⟩
          · rw [if_pos (by omega), if_neg (by omega)]
            obtain ⟨r, c', m', h1, h2, h3, h4⟩ := build_L (z := a4) E hy (by omega) g1 g2 g3 (n + 1) FU FU 0 sc sm 0 (-1) (-1) 0 (by omega) (by unfold FU; omega) (by unfold FU; omega) Same.rf Same.rf (Or.inl ⟨rfl, rfl, rfl, rfl, rfl⟩)
            exact ⟨r, c', r, m', h1, h2, rfl, R.same h3 (by rw [m0]; exact h4)⟩
        · simp only [if_pos g1, if_pos g2, if_neg g3, if_pos g4, w10, w00, if_false, if_true]
          exact ⟨_, _, _, _, rfl, rfl, rfl, R⟩
      · simp only [if_pos g1, if_neg g2, if_pos g4, w10, w00, if_false, if_true]
        exact ⟨_, _, _, _, rfl, rfl, rfl, R⟩
    · simp only [if_pos g1, if_neg g4, w10, w00, if_false, if_true]
      exact ⟨_, _, _, _, rfl, rfl, rfl, R⟩
  · simp only [if_neg g1, w00, if_true]
    exact ⟨_, _, _, _, rfl, rfl, rfl, R⟩
theorem down_L {sc sm : PS} {n : Nat} {y : Int} {L : Cl} (E : EQ sc sm 20 n y L) (hy : y ≤ 999) {z : Int} : ∀ (d k k' i : Nat) (c m : PS) (b t t' : Int), i + d = n → d < k → d < k' → Same sc c clS → Same sm m (smS n) → ((b = -5 ∧ t = -5 ∧ t' = 0) ∨ (t' = t ∧ 0 ≤ b ∧ b ≤ 7 ∧ 0 ≤ t ∧ t ≤ 693)) → ∃ r c' m', X6_down_L18 z k c b t i = some (r, c') ∧ X7_down_L20 z k' m b t' i = some (r, m') ∧ Same sc c' clS ∧ Same sm m' (smS n) := by
  intro d
  induction d with
  | zero =>
    intro k k' i c m b t t' hi hk hk' hS hT hI
    obtain ⟨k, rfl⟩ : ∃ q, k = q + 1 := ⟨k - 1, by omega⟩
    obtain ⟨k', rfl⟩ : ∃ q, k' = q + 1 := ⟨k' - 1, by omega⟩
    have E1 := E.sc hS hT
    have n7 := E1.1.1.2.1
    rw [X6_down_L18, X7_down_L20, E1.1.1.1, E1.1.2.1, wI_id (z := (n : Int)) (by omega) (by omega), wI_id (z := (i : Int)) (by omega) (by omega), wI_id (z := b) (by omega) (by omega), if_pos (by omega : (n : Int) ≤ i), if_pos (by omega : (n : Int) ≤ i)]
    rcases hI with ⟨rfl, rfl, rfl⟩ | ⟨rfl, h1, h2, h3, h4⟩
    · rw [if_pos (by omega : (-5 : Int) < 0)]
      by_cases q : wI z = 0
      · rw [if_pos q]
        exact ⟨_, _, _, rfl, rfl, hS, hT⟩
      · rw [if_neg q]
        exact ⟨_, _, _, rfl, rfl, hS, hT⟩
    · rw [if_neg (by omega : ¬ b < 0)]
      by_cases q : wI z = 0
      · rw [if_pos q, if_pos q]
        exact ⟨_, _, _, rfl, rfl, hS, hT⟩
      · rw [if_neg q, if_neg q]
        exact ⟨_, _, _, rfl, rfl, hS, hT⟩
  | succ d ih =>
    intro k k' i c m b t t' hi hk hk' hS hT hI
    obtain ⟨k, rfl⟩ : ∃ q, k = q + 1 := ⟨k - 1, by omega⟩
    obtain ⟨k', rfl⟩ : ∃ q, k' = q + 1 := ⟨k' - 1, by omega⟩
    obtain ⟨p, rfl⟩ : ∃ q, n = q + 1 := ⟨n - 1, by omega⟩
    have E1 := E.sc hS hT
    have n7 := E1.1.1.2.1
    obtain ⟨c5, m5, v, a1, a2, a3, a4, a5, a6⟩ := down_step E1 hy (w := i) (by omega) (by omega)
    have S5 : Same sc c5 clS := hS.tr a3 (fun _ _ q => q) (fun _ _ q => q)
    have T5 : Same sm m5 (smS ((p + 1 : Nat) : Int)) := hT.tr a4 (fun _ _ q => q) (fun _ _ q => q)
    rw [X6_down_L18, X7_down_L20, E1.1.1.1, E1.1.2.1, wI_id (z := ((p + 1 : Nat) : Int)) (by omega) (by omega), wI_id (z := (i : Int)) (by omega) (by omega), if_neg (by omega), if_neg (by omega), a1, a2, wI_id (z := v) (by omega) (by omega), wI_id (z := t) (by omega) (by omega), wI_id (z := t') (by omega) (by omega), wI_id (z := b) (by omega) (by omega)]
    have nx : ∀ b0 t0, 0 ≤ b0 → b0 ≤ 7 → 0 ≤ t0 → t0 ≤ 693 → ∃ r c' m', X6_down_L18 z k c5 b0 t0 ((i : Int) + 1) = some (r, c') ∧ X7_down_L20 z k' m5 b0 t0 ((i : Int) + 1) = some (r, m') ∧ Same sc c' clS ∧ Same sm m' (smS ((p + 1 : Nat) : Int)) := fun b0 t0 h1 h2 h3 h4 => ih k k' (i + 1) c5 m5 b0 t0 t0 (by omega) (by omega) (by omega) S5 T5 (Or.inr ⟨rfl, h1, h2, h3, h4⟩)
    rcases hI with ⟨rfl, rfl, rfl⟩ | ⟨rfl, h1, h2, h3, h4⟩
    · rw [if_neg (by omega : ¬ v ≤ -5), if_pos (by omega : (-5 : Int) < 0)]
      exact nx _ _ (by omega) (by omega) a5 a6
    · rw [if_neg (by omega : ¬ b < 0)]
      by_cases q : v ≤ t'
      · rw [if_pos q, if_neg (by omega)]
        exact nx _ _ h1 h2 h3 h4
      · rw [if_neg q, if_pos (by omega)]
        exact nx _ _ (by omega) (by omega) a5 a6
theorem sim_down : Sim_down Rel := by
  intro sc sm R a1 r1
  obtain ⟨n, y, L, E, hy⟩ := R.eq
  have n7 := E.1.1.2.1
  have m0 := E.1.2.1
  unfold X6_down X7_down
  rw [isW_c r1, in_l r1 (by decide)]
  by_cases g1 : 0 ≤ a1 ∧ a1 ≤ 1
  · simp only [if_pos g1, w10, if_false]
    obtain ⟨r, c', m', h1, h2, h3, h4⟩ := down_L (z := a1) E hy n FU FU 0 sc sm (-5) (-5) 0 (by omega) (by unfold FU; omega) (by unfold FU; omega) Same.rf Same.rf (Or.inl ⟨rfl, rfl, rfl⟩)
    exact ⟨r, c', r, m', h1, h2, rfl, R.same h3 (by rw [m0]; exact h4)⟩
  · simp only [if_neg g1, w00, if_true]
    exact ⟨_, _, _, _, rfl, rfl, rfl, R⟩
