/-! HOUSES COPIED, A LOT OPENED, A LOT CLOSED -/
/-- house q of s is house p of st; rows r .. r+3 -/
def HE (st s : PS) (r : Nat) (p q : Int) : Prop := s r q = st r p ∧ s (r + 1) q = st (r + 1) p ∧ s (r + 2) q = st (r + 2) p ∧ ∀ t : Int, 0 ≤ t → t < 4 → s (r + 3) (q * 4 + t) = st (r + 3) (p * 4 + t)
/-- the places u .. v -/
def PO (r : Nat) (u v : Int) (b : Nat) (j : Int) : Prop := (r ≤ b ∧ b ≤ r + 2 ∧ u ≤ j ∧ j ≤ v) ∨ (b = r + 3 ∧ u * 4 ≤ j ∧ j < v * 4 + 4)
theorem HE.id {st s : PS} {r : Nat} {u v q : Int} (h : Same st s (PO r u v)) (hq : q < u ∨ v < q) : HE st s r q q := by
  refine ⟨h _ _ ?_, h _ _ ?_, h _ _ ?_, fun t t1 t2 => h _ _ ?_⟩ <;> unfold PO <;> omega
theorem HE.tr {st s s' : PS} {r : Nat} {p q w : Int} (h1 : HE st s r p q) (h2 : HE s s' r q w) : HE st s' r p w := by
  obtain ⟨a1, a2, a3, a4⟩ := h1
  obtain ⟨b1, b2, b3, b4⟩ := h2
  exact ⟨b1.trans a1, b2.trans a2, b3.trans a3, fun t t1 t2 => (b4 t t1 t2).trans (a4 t t1 t2)⟩
theorem HE.sm {st s : PS} {r : Nat} {q : Int} {P : Nat → Int → Prop} (h : Same st s P) (hP : ∀ (b : Nat) (j : Int), PO r q q b j → ¬ P b j) : HE st s r q q := by
  refine ⟨h _ _ (hP _ _ ?_), h _ _ (hP _ _ ?_), h _ _ (hP _ _ ?_), fun t t1 t2 => h _ _ (hP _ _ ?_)⟩ <;> unfold PO <;> omega
theorem ccopy_ok {st : PS} {a : Nat} {p q : Int} (hp : 0 ≤ p ∧ p ≤ 6) (hq : 0 ≤ q ∧ q ≤ 6) : ∃ s', X5_copyHouse a st p q = some s' ∧ Same st s' (PO (a + 3) q q) ∧ HE st s' (a + 3) p q := by
  unfold X5_copyHouse
  simp (disch := omega) only [zrd_ok, zwr_ok, zcp_ok, bI_some]
  refine ⟨_, rfl, fun b j hb => ?_, ?_, ?_, ?_, fun t t1 t2 => ?_⟩
  · unfold PO at hb
    rw [zcpf_o (by omega), zu_o (by omega), zu_o (by omega), zu_o (by omega)]
  · rw [zcpf_o (by omega), zu_o (by omega), zu_o (by omega), zu_at]
  · rw [zcpf_o (by omega), zu_o (by omega)]
    exact zu_at.trans (zu_o (by omega))
  · rw [zcpf_o (by omega)]
    exact zu_at.trans ((zu_o (by omega)).trans (zu_o (by omega)))
  · have e : ∀ s3 : PS, zcpf s3 (a + 6) (a + 6) (p * 4) (q * 4) 4 (a + 3 + 3) (q * 4 + t) = s3 (a + 6) (p * 4 + t) := fun s3 => by
      rw [show a + 3 + 3 = a + 6 from rfl, zcpf_at (by omega) (by omega), show p * 4 + (q * 4 + t - q * 4) = p * 4 + t by omega]
    rw [e, zu_o (by omega), zu_o (by omega), zu_o (by omega)]
theorem copy38 {st : PS} {p q : Int} (hp : 0 ≤ p ∧ p ≤ 7) (hq : 0 ≤ q ∧ q ≤ 7) (hn : p ≠ q) : ∀ (k i : Nat) (s0 : PS), i ≤ 4 → 4 - i < k → Same st s0 (fun b j => b = 5 ∧ q * 4 ≤ j ∧ j < q * 4 + 4) → (∀ t : Int, 0 ≤ t → t < i → s0 5 (q * 4 + t) = st 5 (p * 4 + t)) → ∃ s', X7_copy_L38 q p k s0 i = some s' ∧ Same st s' (fun b j => b = 5 ∧ q * 4 ≤ j ∧ j < q * 4 + 4) ∧ ∀ t : Int, 0 ≤ t → t < 4 → s' 5 (q * 4 + t) = st 5 (p * 4 + t) := by
  intro k
  induction k with
  | zero => intro i _ _ h; omega
  | succ k ih =>
    intro i s0 hi hk hS hv
    rw [X7_copy_L38, wI_id (z := 4) (by omega) (by omega), wI_id (z := (i : Int)) (by omega) (by omega)]
    by_cases h : 4 ≤ i
    · rw [if_pos (by omega)]
      exact ⟨s0, rfl, hS, fun t p1 p2 => hv t p1 (by omega)⟩
    · rw [if_neg (by omega), zrd_ok (by omega) (by omega) (by omega), bI_some, zwr_ok (by omega) (by omega) (by omega), bI_some]
      refine ih (i + 1) _ (by omega) (by omega) (fun b j hb => (zu_o (by omega)).trans (hS b j hb)) (fun t h1 h2 => ?_)
      by_cases he : t = i
      · rw [he, show q * 4 + (i : Int) = 4 * q + i by omega, zu_at, show p * 4 + (i : Int) = 4 * p + i by omega]
        exact hS _ _ (by omega)
      · rw [zu_o (by omega)]; exact hv t h1 (by omega)
theorem mcopy_ok {st : PS} {p q : Int} (hp : 0 ≤ p ∧ p ≤ 7) (hq : 0 ≤ q ∧ q ≤ 7) (hn : p ≠ q) : ∃ s', X7_copy st q p = some s' ∧ Same st s' (PO 2 q q) ∧ HE st s' 2 p q := by
  unfold X7_copy
  rw [zrd_ok (by omega) (by omega) (by omega), bI_some, zwr_ok (by omega) (by omega) (by omega), bI_some, zrd_ok (by omega) (by omega) (by omega), bI_some, zwr_ok (by omega) (by omega) (by omega), bI_some, zrd_ok (by omega) (by omega) (by omega), bI_some, zwr_ok (by omega) (by omega) (by omega), bI_some]
  have e1 : zu st 2 q (st 2 p) 3 p = st 3 p := zu_o (by omega)
  have e2 : ∀ x, zu (zu st 2 q (st 2 p)) 3 q x 4 p = st 4 p := fun x => by rw [zu_o (by omega), zu_o (by omega)]
  rw [e1, e2]
  obtain ⟨s', a1, a2, a3⟩ := copy38 hp hq hn FU 0 (zu (zu (zu st 2 q (st 2 p)) 3 q (st 3 p)) 4 q (st 4 p)) (by omega) (by unfold FU; omega) Same.rf (fun t h1 h2 => by omega)
  refine ⟨s', a1, fun b j hb => ?_, ?_, ?_, ?_, fun t t1 t2 => ?_⟩
  · unfold PO at hb
    rw [a2 _ _ (by omega), zu_o (by omega), zu_o (by omega), zu_o (by omega)]
  · rw [a2 _ _ (by omega), zu_o (by omega), zu_o (by omega), zu_at]
  · rw [a2 _ _ (by omega), zu_o (by omega), zu_at]
  · rw [a2 _ _ (by omega), zu_at]
  · rw [a3 t t1 t2, zu_o (by omega), zu_o (by omega), zu_o (by omega)]
/-- the shift upwards: one step -/
theorem up_step {st s0 s1 : PS} {r n : Nat} {x : Int} (hx : x ≤ n) (hS : Same st s0 (PO r (x + 1) n)) (hv : ∀ h : Int, x < h → h ≤ n → HE st s0 r (h - 1) h) (h1 : Same s0 s1 (PO r x x)) (h2 : HE s0 s1 r (x - 1) x) : Same st s1 (PO r (x - 1 + 1) n) ∧ ∀ h : Int, x - 1 < h → h ≤ n → HE st s1 r (h - 1) h := by
  constructor
  · exact hS.tr h1 (fun b j q => by unfold PO at *; omega) (fun b j q => by unfold PO at *; omega)
  · intro h q1 q2
    by_cases e : h = x
    · subst e
      exact (HE.id hS (q := h - 1) (by omega)).tr h2
    · exact (hv h (by omega) q2).tr (HE.id h1 (by omega))
theorem ins28 {st : PS} {a n : Nat} (hn : n < 7) (h0 : st a 0 = n) {l x1 x2 x3 : Int} (l0 : 0 ≤ l) (ln : l ≤ n) : ∀ (d k : Nat) (x : Int) (s0 : PS), x = l + d → x ≤ n → d < k → Same st s0 (PO (a + 3) (x + 1) n) → (∀ h : Int, x < h → h ≤ n → HE st s0 (a + 3) (h - 1) h) → ∃ s', X5_insert_L28 a l x1 x2 x3 k s0 x = some s' ∧ Same st s' (fun b j => PO (a + 3) l n b j ∨ (b = a ∧ j = 0)) ∧ s' a 0 = n + 1 ∧ (s' (a + 3) l = x1 ∧ s' (a + 4) l = x2 ∧ s' (a + 5) l = x3 ∧ ∀ p : Int, 0 ≤ p → p < 4 → s' (a + 6) (l * 4 + p) = 0) ∧ ∀ h : Int, l < h → h ≤ n → HE st s' (a + 3) (h - 1) h := by
  intro d
  induction d with
  | zero =>
    intro k x s0 hx hxn hk hS hv
    obtain ⟨k, rfl⟩ : ∃ q, k = q + 1 := ⟨k - 1, by omega⟩
    have ex : x = l := by omega
    subst ex
    rw [X5_insert_L28, if_pos (Int.le_refl _), zlet_eq]
    have g0 : s0 a 0 = n := (hS _ _ (by unfold PO; omega)).trans h0
    obtain ⟨s', a1, a2, a3, a4, a5, a6⟩ := ins_base (st := zu s0 a 0 (s0 a 0 + 1)) (a := a) (l := x) (x1 := x1) (x2 := x2) (x3 := x3) l0 (by omega)
    have S1 : Same s0 s' (fun b j => hsP a x b j ∨ (b = a ∧ j = 0)) := fun b j hb => (a2 _ _ (fun q => hb (Or.inl q))).trans (zu_o (by omega))
    refine ⟨s', a1, hS.tr S1 (fun b j q => by unfold PO at *; omega) (fun b j q => by revert q; unfold PO hsP; omega), ?_, ⟨a3, a4, a5, a6⟩, fun h q1 q2 => ?_⟩
    · rw [a2 _ _ (by unfold hsP; omega), zu_at, g0]
    · exact (hv h q1 q2).tr (HE.sm S1 (fun b j q => by revert q; unfold PO hsP; omega))
  | succ d ih =>
    intro k x s0 hx hxn hk hS hv
    obtain ⟨k, rfl⟩ : ∃ q, k = q + 1 := ⟨k - 1, by omega⟩
    rw [X5_insert_L28, wI_id (z := x) (by omega) (by omega), wI_id (z := l) (by omega) (by omega), if_neg (by omega)]
    obtain ⟨s1, b1, b2, b3⟩ := ccopy_ok (st := s0) (a := a) (p := x - 1) (q := x) (by omega) (by omega)
    rw [b1, bI_some]
    obtain ⟨u1, u2⟩ := up_step hxn hS hv b2 b3
    exact ih k (x - 1) s1 (by omega) (by omega) (by omega) u1 u2
theorem insert_ok {st : PS} {a n : Nat} (hn : n < 7) (h0 : st a 0 = n) {l x1 x2 x3 : Int} (l0 : 0 ≤ l) (ln : l ≤ n) : ∃ s', X5_insert a st l x1 x2 x3 = some s' ∧ Same st s' (fun b j => PO (a + 3) l n b j ∨ (b = a ∧ j = 0)) ∧ s' a 0 = n + 1 ∧ (s' (a + 3) l = x1 ∧ s' (a + 4) l = x2 ∧ s' (a + 5) l = x3 ∧ ∀ p : Int, 0 ≤ p → p < 4 → s' (a + 6) (l * 4 + p) = 0) ∧ ∀ h : Int, l < h → h ≤ n → HE st s' (a + 3) (h - 1) h := by
  unfold X5_insert
  rw [h0, wI_id (z := l) (by omega) (by omega), wI_id (z := (n : Int)) (by omega) (by omega), wI_id (z := 7) (by omega) (by omega), if_neg (by omega : ¬ l < 0), if_neg (by omega : ¬ (n : Int) < l), if_pos (by omega : (n : Int) < 7)]
  exact ins28 hn h0 l0 ln (n - l.toNat) FU n st (by omega) (by omega) (by unfold FU; omega) Same.rf (fun h q1 q2 => by omega)
theorem opens5 {st : PS} {n : Nat} (hn : n < 7) (h0 : st 0 0 = n) {l : Int} (l0 : 0 ≤ l) (ln : l ≤ n) : ∀ (d k : Nat) (x : Int) (s0 : PS), x = l + d → x ≤ n → d < k → Same st s0 (PO 2 (x + 1) n) → (∀ h : Int, x < h → h ≤ n → HE st s0 2 (h - 1) h) → ∃ s', X7_opens_L5 l k s0 x = some s' ∧ Same st s' (fun b j => PO 2 (l + 1) n b j ∨ (b = 0 ∧ j = 0)) ∧ s' 0 0 = n + 1 ∧ ∀ h : Int, l < h → h ≤ n → HE st s' 2 (h - 1) h := by
  intro d
  induction d with
  | zero =>
    intro k x s0 hx hxn hk hS hv
    obtain ⟨k, rfl⟩ : ∃ q, k = q + 1 := ⟨k - 1, by omega⟩
    have ex : x = l := by omega
    subst ex
    rw [X7_opens_L5, if_pos (Int.le_refl _), zlet_eq]
    have g0 : s0 0 0 = n := (hS _ _ (by unfold PO; omega)).trans h0
    have S1 : Same s0 (zu s0 0 0 (s0 0 0 + 1)) (fun b j => b = 0 ∧ j = 0) := fun b j hb => zu_o (by omega)
    refine ⟨_, rfl, hS.tr S1 (fun b j q => Or.inl q) (fun b j q => Or.inr q), by rw [zu_at, g0], fun h q1 q2 => (hv h q1 q2).tr (HE.sm S1 (fun b j q => by unfold PO at q; omega))⟩
  | succ d ih =>
    intro k x s0 hx hxn hk hS hv
    obtain ⟨k, rfl⟩ : ∃ q, k = q + 1 := ⟨k - 1, by omega⟩
    rw [X7_opens_L5, wI_id (z := x) (by omega) (by omega), wI_id (z := l) (by omega) (by omega), if_neg (by omega)]
    obtain ⟨s1, b1, b2, b3⟩ := mcopy_ok (st := s0) (p := x - 1) (q := x) (by omega) (by omega) (by omega)
    rw [b1, bI_some]
    obtain ⟨u1, u2⟩ := up_step hxn hS hv b2 b3
    exact ih k (x - 1) s1 (by omega) (by omega) (by omega) u1 u2
theorem opens_ok {st : PS} {n : Nat} (hn : n < 7) (h0 : st 0 0 = n) {l : Int} (l0 : 0 ≤ l) (ln : l ≤ n) : ∃ s', X7_opens st l = some s' ∧ Same st s' (fun b j => PO 2 (l + 1) n b j ∨ (b = 0 ∧ j = 0)) ∧ s' 0 0 = n + 1 ∧ ∀ h : Int, l < h → h ≤ n → HE st s' 2 (h - 1) h := by
  unfold X7_opens
  rw [h0]
  exact opens5 hn h0 l0 ln (n - l.toNat) FU n st (by omega) (by omega) (by unfold FU; omega) Same.rf (fun h q1 q2 => by omega)
/-- the shift downwards: one step -/
theorem dn_step {st s0 s1 : PS} {r : Nat} {l x : Int} (hx : l ≤ x) (hS : Same st s0 (PO r l (x - 1))) (hv : ∀ h : Int, l ≤ h → h < x → HE st s0 r (h + 1) h) (h1 : Same s0 s1 (PO r x x)) (h2 : HE s0 s1 r (x + 1) x) : Same st s1 (PO r l (x + 1 - 1)) ∧ ∀ h : Int, l ≤ h → h < x + 1 → HE st s1 r (h + 1) h := by
  constructor
  · exact hS.tr h1 (fun b j q => by unfold PO at *; omega) (fun b j q => by unfold PO at *; omega)
  · intro h q1 q2
    by_cases e : h = x
    · subst e
      exact (HE.id hS (q := h + 1) (by omega)).tr h2
    · exact (hv h q1 (by omega)).tr (HE.id h1 (by omega))
theorem rem25 {st : PS} {a n : Nat} (hn : n < 7) (h0 : st a 0 = n) {l : Int} (l0 : 0 ≤ l) : ∀ (d k : Nat) (x : Int) (s0 : PS), x + d = n → l ≤ x → d < k → Same st s0 (PO (a + 3) l (x - 1)) → (∀ h : Int, l ≤ h → h < x → HE st s0 (a + 3) (h + 1) h) → ∃ s', X5_remove_L25 a k s0 x = some s' ∧ Same st s' (PO (a + 3) l (n - 1)) ∧ ∀ h : Int, l ≤ h → h < n → HE st s' (a + 3) (h + 1) h := by
  intro d
  induction d with
  | zero =>
    intro k x s0 hx hxl hk hS hv
    obtain ⟨k, rfl⟩ : ∃ q, k = q + 1 := ⟨k - 1, by omega⟩
    have ex : x = n := by omega
    subst ex
    rw [X5_remove_L25, (hS _ _ (by unfold PO; omega)).trans h0, if_pos (Int.le_refl _)]
    exact ⟨s0, rfl, hS, hv⟩
  | succ d ih =>
    intro k x s0 hx hxl hk hS hv
    obtain ⟨k, rfl⟩ : ∃ q, k = q + 1 := ⟨k - 1, by omega⟩
    rw [X5_remove_L25, (hS _ _ (by unfold PO; omega)).trans h0, wI_id (z := x) (by omega) (by omega), wI_id (z := (n : Int)) (by omega) (by omega), if_neg (by omega)]
    obtain ⟨s1, b1, b2, b3⟩ := ccopy_ok (st := s0) (a := a) (p := x + 1) (q := x) (by omega) (by omega)
    rw [b1, bI_some]
    obtain ⟨u1, u2⟩ := dn_step hxl hS hv b2 b3
    exact ih k (x + 1) s1 (by omega) (by omega) (by omega) u1 u2
theorem remove_ok {st : PS} {a n : Nat} (hn : n < 7) (h0 : st a 0 = n + 1) {l : Int} (l0 : 0 ≤ l) (ln : l ≤ n) : ∃ s', X5_remove a st l = some s' ∧ Same st s' (fun b j => PO (a + 3) l (n - 1) b j ∨ (b = a ∧ j = 0)) ∧ s' a 0 = n ∧ ∀ h : Int, l ≤ h → h < n → HE st s' (a + 3) (h + 1) h := by
  unfold X5_remove
  rw [h0, wI_id (z := l) (by omega) (by omega), wI_id (z := (n : Int) + 1) (by omega) (by omega), if_neg (by omega : ¬ l < 0), if_pos (by omega : l < (n : Int) + 1), zlet_eq]
  have S1 : Same st (zu st a 0 ((n : Int) + 1 - 1)) (fun b j => b = a ∧ j = 0) := fun b j hb => zu_o (by omega)
  obtain ⟨s', a1, a2, a3⟩ := rem25 (st := zu st a 0 ((n : Int) + 1 - 1)) (a := a) hn (by rw [zu_at]; omega) l0 (n - l.toNat) FU l (zu st a 0 ((n : Int) + 1 - 1)) (by omega) (by omega) (by unfold FU; omega) Same.rf (fun h q1 q2 => by omega)
  refine ⟨s', a1, S1.tr a2 (fun b j q => Or.inr q) (fun b j q => Or.inl q), ?_, fun h q1 q2 => (HE.sm S1 (fun b j q => by unfold PO at q; omega)).tr (a3 h q1 q2)⟩
  rw [a2 _ _ (by unfold PO; omega), zu_at]; omega
theorem clo12 {st : PS} {n : Nat} (hn : n ≤ 7) (h0 : st 0 0 = n) {l : Int} (l0 : 0 ≤ l) : ∀ (d k : Nat) (x : Int) (s0 : PS), x + d = n → l ≤ x → d < k → Same st s0 (PO 2 l (x - 1)) → (∀ h : Int, l ≤ h → h < x → HE st s0 2 (h + 1) h) → ∃ s', X7_closes_L12 k s0 x = some s' ∧ Same st s' (PO 2 l (n - 1)) ∧ ∀ h : Int, l ≤ h → h < n → HE st s' 2 (h + 1) h := by
  intro d
  induction d with
  | zero =>
    intro k x s0 hx hxl hk hS hv
    obtain ⟨k, rfl⟩ : ∃ q, k = q + 1 := ⟨k - 1, by omega⟩
    have ex : x = n := by omega
    subst ex
    rw [X7_closes_L12, (hS _ _ (by unfold PO; omega)).trans h0, if_pos (Int.le_refl _)]
    exact ⟨s0, rfl, hS, hv⟩
  | succ d ih =>
    intro k x s0 hx hxl hk hS hv
    obtain ⟨k, rfl⟩ : ∃ q, k = q + 1 := ⟨k - 1, by omega⟩
    rw [X7_closes_L12, (hS _ _ (by unfold PO; omega)).trans h0, wI_id (z := x) (by omega) (by omega), wI_id (z := (n : Int)) (by omega) (by omega), if_neg (by omega)]
    obtain ⟨s1, b1, b2, b3⟩ := mcopy_ok (st := s0) (p := x + 1) (q := x) (by omega) (by omega) (by omega)
    rw [b1, bI_some]
    obtain ⟨u1, u2⟩ := dn_step hxl hS hv b2 b3
    exact ih k (x + 1) s1 (by omega) (by omega) (by omega) u1 u2
theorem closes_ok {st : PS} {n : Nat} (hn : n ≤ 7) (h0 : st 0 0 = n + 1) {l : Int} (l0 : 0 ≤ l) (ln : l ≤ n) : ∃ s', X7_closes st l = some s' ∧ Same st s' (fun b j => PO 2 l (n - 1) b j ∨ (b = 0 ∧ j = 0)) ∧ s' 0 0 = n ∧ ∀ h : Int, l ≤ h → h < n → HE st s' 2 (h + 1) h := by
  unfold X7_closes
  rw [h0, zlet_eq]
  have S1 : Same st (zu st 0 0 ((n : Int) + 1 - 1)) (fun b j => b = 0 ∧ j = 0) := fun b j hb => zu_o (by omega)
  obtain ⟨s', a1, a2, a3⟩ := clo12 (st := zu st 0 0 ((n : Int) + 1 - 1)) hn (by rw [zu_at]; omega) l0 (n - l.toNat) FU l (zu st 0 0 ((n : Int) + 1 - 1)) (by omega) (by omega) (by unfold FU; omega) Same.rf (fun h q1 q2 => by omega)
  refine ⟨s', a1, S1.tr a2 (fun b j q => Or.inr q) (fun b j q => Or.inl q), ?_, fun h q1 q2 => (HE.sm S1 (fun b j q => by unfold PO at q; omega)).tr (a3 h q1 q2)⟩
  rw [a2 _ _ (by unfold PO; omega), zu_at]; omega
