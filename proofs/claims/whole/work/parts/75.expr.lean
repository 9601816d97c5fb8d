/-! EXPRESSIONS OF THE TEXT: recursion there, a pile here -/
def fl (a b : Int) (S0 : List Int) : List Int := (if a = 1 then [38] else []) ++ ((if b = 1 then [124] else []) ++ S0)
def bs (S0 : List Int) : Prop := S0 = [] ∨ ∃ S1, S0 = 40 :: S1
theorem whN_bs {S0 : List Int} (h : bs S0) : whN S0 = 0 ∧ whS S0 = S0 := by
  rcases h with rfl | ⟨S1, rfl⟩
  · exact ⟨rfl, rfl⟩
  · exact ⟨rfl, rfl⟩
theorem whN_fl {a b : Int} {S0 : List Int} (h : bs S0) : whN (fl a b S0) = 0 ∧ whS (fl a b S0) = fl a b S0 := by
  unfold fl
  by_cases q : a = 1
  · rw [if_pos q]; exact ⟨rfl, rfl⟩
  · rw [if_neg q]
    by_cases q' : b = 1
    · rw [if_pos q']; exact ⟨rfl, rfl⟩
    · rw [if_neg q']; exact whN_bs h
theorem okS_fl {a b : Int} {S0 : List Int} (h : okS S0) : okS (fl a b S0) := by
  intro x hx
  unfold fl at hx
  rw [List.mem_append, List.mem_append] at hx
  rcases hx with hx | hx | hx
  · split at hx
    · rw [List.mem_singleton] at hx; omega
    · exact absurd hx List.not_mem_nil
  · split at hx
    · rw [List.mem_singleton] at hx; omega
    · exact absurd hx List.not_mem_nil
  · exact h x hx
section EXPR
variable {c0 m0 c m : PS} {f : Nat} {z0 s0 hi e p d : Int} {C S : List Int}
theorem set_stop {w : Int} {k : Nat} (h : MP m0 s0 hi e m p C S d) (hb : bs S) (hl : S.length < 101) : X7_settle_L0 w (k + 1) m = some m := by
  rcases hb with rfl | ⟨S1, rfl⟩
  · have e0 : m 0 20 = 0 := h.2.2.2.2.1
    rw [X7_settle_L0, e0, if_pos (by decide)]
  · simp only [List.length_cons] at hl
    obtain ⟨t1, t2⟩ := mtop h (by omega)
    rw [X7_settle_L0, t2, bI_some, bI_some, t1, wI_id (z := (S1.length : Int) + 1) (by omega) (by omega), if_neg (by omega), if_neg (by decide), if_neg (by decide)]
theorem set_38 {w : Int} {k : Nat} (h : MP m0 s0 hi e m p C (38 :: S) d) (hs : 0 ≤ s0) (hh : hi ≤ 600) (hl : S.length < 101) (hsum : s0 + C.length + S.length < hi) : ∃ m', X7_settle_L0 w (k + 1) m = X7_settle_L0 w k m' ∧ MP m0 s0 hi e m' p (C ++ [-38]) S d := by
  obtain ⟨t1, t2⟩ := mtop h (by omega)
  have h1 := mpop h
  have e20 : zu m 0 20 (m 0 20 - 1) 0 20 = S.length := by rw [zu_at]; omega
  have e18 : zu m 0 20 (m 0 20 - 1) 18 S.length = 38 := (zu_o (by omega)).trans h.2.2.2.2.2.1.1
  obtain ⟨m', b1, b2⟩ := memit h1 hs (by omega) hh (-38)
  refine ⟨m', ?_, b2⟩
  rw [X7_settle_L0, t2, bI_some, t1, wI_id (z := (S.length : Int) + 1) (by omega) (by omega), if_neg (by omega), if_pos rfl, ← t1, zlet_eq, e20, zrd_ok (by omega) (by omega) (by omega), bI_some, e18, b1, bI_some]
theorem set_124 {w : Int} {k : Nat} (h : MP m0 s0 hi e m p C (124 :: S) d) (hw : w = 124) (hs : 0 ≤ s0) (hh : hi ≤ 600) (hl : S.length < 101) (hsum : s0 + C.length + S.length < hi) : ∃ m', X7_settle_L0 w (k + 1) m = X7_settle_L0 w k m' ∧ MP m0 s0 hi e m' p (C ++ [-124]) S d := by
  obtain ⟨t1, t2⟩ := mtop h (by omega)
  have h1 := mpop h
  have e20 : zu m 0 20 (m 0 20 - 1) 0 20 = S.length := by rw [zu_at]; omega
  have e18 : zu m 0 20 (m 0 20 - 1) 18 S.length = 124 := (zu_o (by omega)).trans h.2.2.2.2.2.1.1
  obtain ⟨m', b1, b2⟩ := memit h1 hs (by omega) hh (-124)
  refine ⟨m', ?_, b2⟩
  subst hw
  rw [X7_settle_L0, t2, bI_some, bI_some, t1, wI_id (z := (S.length : Int) + 1) (by omega) (by omega), if_neg (by omega), if_neg (by decide), if_pos rfl, if_neg (by decide), ← t1, zlet_eq, e20, zrd_ok (by omega) (by omega) (by omega), bI_some, e18, b1, bI_some]
theorem set_stop2 {k : Nat} (h : MP m0 s0 hi e m p C (124 :: S) d) (hl : S.length < 101) : X7_settle_L0 38 (k + 1) m = some m := by
  obtain ⟨t1, t2⟩ := mtop h (by omega)
  rw [X7_settle_L0, t2, bI_some, bI_some, t1, wI_id (z := (S.length : Int) + 1) (by omega) (by omega), if_neg (by omega), if_neg (by decide), if_pos rfl, if_pos rfl]
def cA (a : Int) : List Int := if a = 1 then [-38] else []
def cB (b : Int) : List Int := if b = 1 then [-124] else []
theorem settle38 {a b : Int} {S0 : List Int} (ha : a = 0 ∨ a = 1) (hb : b = 0 ∨ b = 1) (h0 : bs S0) (h : MP m0 s0 hi e m p C (fl a b S0) d) (hs : 0 ≤ s0) (hh : hi ≤ 600) (hl : (fl a b S0).length < 101) (hsum : s0 + C.length + (fl a b S0).length ≤ hi) : ∃ m', X7_settle m 38 = some m' ∧ MP m0 s0 hi e m' p (C ++ cA a) (fl 0 b S0) d := by
  have st : ∀ (k : Nat) (m : PS) (C : List Int), MP m0 s0 hi e m p C (fl 0 b S0) d → (fl 0 b S0).length < 101 → X7_settle_L0 38 (k + 1) m = some m := by
    intro k m C h hl
    rcases hb with rfl | rfl
    · exact set_stop h h0 hl
    · have hl' : (124 :: S0).length < 101 := hl
      simp only [List.length_cons] at hl'
      exact set_stop2 (S := S0) h (by omega)
  rcases ha with rfl | rfl
  · refine ⟨m, st 99999 m C h hl, ?_⟩
    simp only [cA, show ¬ ((0 : Int) = 1) by decide, if_false, List.append_nil]
    exact h
  · have e1 : fl 1 b S0 = 38 :: fl 0 b S0 := rfl
    rw [e1] at h hl hsum
    simp only [List.length_cons] at hl hsum
    obtain ⟨m', b1, b2⟩ := set_38 (w := 38) (k := 99999) h hs hh (by omega) (by omega)
    exact ⟨m', b1.trans (st 99998 m' _ b2 (by omega)), b2⟩
theorem settle124 {a b : Int} {S0 : List Int} (ha : a = 0 ∨ a = 1) (hb : b = 0 ∨ b = 1) (h0 : bs S0) (h : MP m0 s0 hi e m p C (fl a b S0) d) (hs : 0 ≤ s0) (hh : hi ≤ 600) (hl : (fl a b S0).length < 101) (hsum : s0 + C.length + (fl a b S0).length ≤ hi) : ∃ m', X7_settle m 124 = some m' ∧ MP m0 s0 hi e m' p (C ++ cA a ++ cB b) S0 d := by
  have st : ∀ (k : Nat) (m : PS) (C : List Int), MP m0 s0 hi e m p C (fl 0 b S0) d → (fl 0 b S0).length < 101 → s0 + C.length + (fl 0 b S0).length ≤ hi → ∃ m', X7_settle_L0 124 (k + 2) m = some m' ∧ MP m0 s0 hi e m' p (C ++ cB b) S0 d := by
    intro k m C h hl hsum
    rcases hb with rfl | rfl
    · refine ⟨m, set_stop h h0 hl, ?_⟩
      simp only [cB, show ¬ ((0 : Int) = 1) by decide, if_false, List.append_nil]
      exact h
    · have hl' : (124 :: S0).length < 101 := hl
      have hs' : s0 + C.length + (124 :: S0).length ≤ hi := hsum
      simp only [List.length_cons] at hl' hs'
      obtain ⟨m', b1, b2⟩ := set_124 (w := 124) (k := k + 1) (S := S0) h rfl hs hh (by omega) (by omega)
      exact ⟨m', b1.trans (set_stop b2 h0 (by omega)), b2⟩
  rcases ha with rfl | rfl
  · obtain ⟨m', b1, b2⟩ := st 99998 m C h hl hsum
    refine ⟨m', b1, ?_⟩
    simp only [cA, show ¬ ((0 : Int) = 1) by decide, if_false, List.append_nil]
    exact b2
  · have e1 : fl 1 b S0 = 38 :: fl 0 b S0 := rfl
    rw [e1] at h hl hsum
    simp only [List.length_cons] at hl hsum
    obtain ⟨m', b1, b2⟩ := set_38 (w := 124) (k := 99999) h hs hh (by omega) (by omega)
    obtain ⟨m'', b3, b4⟩ := st 99997 m' (C ++ [-38]) b2 (by omega) (by rw [List.length_append, List.length_singleton]; omega)
    exact ⟨m'', b1.trans b3, b4⟩
/-- both stop at the same place -/
def FL (c0 m0 : PS) (f : Nat) (z0 s0 hi e : Int) (c' : PS) (o : Option (Int × PS)) : Prop := ∃ (q : Int) (m' : PS), (0 ≤ q ∧ q ≤ f) ∧ Same c0 c' (ceP z0) ∧ c' 170 3 = q ∧ o = some (0, m') ∧ Same m0 m' (meP s0 hi e) ∧ m' 0 9 = q
theorem FL.mk' {q : Int} {m' : PS} {o : Option (Int × PS)} (hq : 0 ≤ q ∧ q ≤ f) (hc : CP c0 z0 c q C) (ho : o = some (0, m')) (hm : MP m0 s0 hi e m' q S S d ∨ ∃ C' S' d', MP m0 s0 hi e m' q C' S' d') : FL c0 m0 f z0 s0 hi e c o := by
  rcases hm with hm | ⟨C', S', d', hm⟩
  · exact ⟨q, m', hq, hc.1, hc.2.1, ho, hm.1, hm.2.1⟩
  · exact ⟨q, m', hq, hc.1, hc.2.1, ho, hm.1, hm.2.1⟩
def FacOK (c0 m0 : PS) (f : Nat) (z0 s0 hi e : Int) (n : Nat) : Prop := ∀ (dpt : Nat) (c m : PS) (p : Int) (C S : List Int) (H k : Nat), dpt ≤ 4 → 5 ≤ n + dpt → CP c0 z0 c p C → MP m0 s0 hi e m p C S dpt → (0 ≤ p ∧ p ≤ f) → z0 + C.length + S.length ≤ p → okS S → hC C 0 = some H → H ≤ 2 * dpt + 2 → 200 ≤ (k : Int) + p → ∃ (r : Int) (c' : PS), X3_factor n c dpt = some (r, c') ∧ ((r = 0 ∧ FL c0 m0 f z0 s0 hi e c' (X7_takesE_L22 e k m 1)) ∨ (r = 1 ∧ ∃ (q : Int) (D : List Int) (m' : PS) (k' : Nat), p + 3 ≤ q ∧ q ≤ f ∧ CP c0 z0 c' q (C ++ D) ∧ X7_takesE_L22 e k m 1 = X7_takesE_L22 e k' m' 0 ∧ (k : Int) + p ≤ k' + q ∧ MP m0 s0 hi e m' q (C ++ D ++ List.replicate (whN S) (-33)) (whS S) ((dpt : Int) - whN S) ∧ z0 + (C ++ D).length + S.length + 2 ≤ q ∧ hC (C ++ D) 0 = some (H + 1)))
def tailE (e : Int) (k : Nat) (m' : PS) : Option (Int × PS) := zlet (zu m' 0 20 ((m' 0 20) - 1)) (fun s14 => zlet (zu s14 0 21 ((s14 0 21) - 1)) (fun s15 => zlet (zu s15 0 9 ((s15 0 9) + 1)) (fun s16 => bI (X7_whole s16) (fun s17 => X7_takesE_L22 e k s17 0))))
def EitOK (c0 m0 : PS) (f : Nat) (z0 s0 hi e : Int) (n : Nat) (j : Nat) : Prop := ∀ (dpt : Nat) (c m : PS) (p : Int) (C S0 : List Int) (H0 : Nat) (a b l4 : Int) (k kc : Nat), (f : Int) - p ≤ j → dpt ≤ 4 → 5 ≤ n + dpt → bs S0 → okS S0 → (a = 0 ∨ a = 1) → (b = 0 ∨ b = 1) → CP c0 z0 c p C → MP m0 s0 hi e m p C (fl a b S0) dpt → (0 ≤ p ∧ p ≤ f) → z0 + C.length + (fl a b S0).length ≤ p → hC C 0 = some (H0 + a.toNat + b.toNat) → H0 ≤ 2 * dpt → (0 ≤ l4 ∧ 2 * l4 ≤ p) → 200 ≤ (kc : Int) + p → 200 ≤ (k : Int) + p → ∃ (r : Int) (c' : PS), X3_either_L7 (X3_factor n) dpt kc c b a l4 = some (r, c') ∧ ((r = 0 ∧ FL c0 m0 f z0 s0 hi e c' (X7_takesE_L22 e k m 1)) ∨ (r = 1 ∧ ∃ (q : Int) (D : List Int) (m' : PS) (k' : Nat), p + 3 ≤ q ∧ q ≤ f ∧ CP c0 z0 c' q (C ++ D) ∧ X7_takesE_L22 e k m 1 = (if wI (m' 0 20) = 0 then some (1, m') else (if wI (gS f (c0 172) q) = wI 41 then tailE e k' m' else some (0, m'))) ∧ MP m0 s0 hi e m' q (C ++ D) S0 dpt ∧ m' 16 e = s0 + (C ++ D).length ∧ (k : Int) + p ≤ k' + 1 + q ∧ z0 + (C ++ D).length + S0.length + 2 ≤ q ∧ hC (C ++ D) 0 = some (H0 + 1)))
theorem hC_not {H : Nat} (h : hC C 0 = some (H + 1)) : hC (C ++ [-33]) 0 = some (H + 1) := by
  rw [hC_app h, hC, if_pos rfl, if_pos (by omega), hC]
theorem hC_and {H : Nat} {t : Int} (ht : t = -38 ∨ t = -124) (h : hC C 0 = some (H + 2)) : hC (C ++ [t]) 0 = some (H + 1) := by
  rw [hC_app h, hC, if_neg (by omega), if_pos ht, if_pos (by omega), hC]
  exact congrArg some (by omega)
theorem word1 {r : Nat} {ch : Int} (T : TG c0 m0 f) (hz : zsl r = 1) (hc : zsch r 0 = ch) (hch : 0 ≤ ch ∧ ch ≤ 127) (h : CP c0 z0 c p C) (hp : 0 ≤ p ∧ p ≤ f) : X3_word r c = if gS f (c0 172) p = ch then some (1, zu c 170 3 ((c 170 3) + 1)) else some (0, c) := by
  have g := T.rng hp.1
  have e : ∀ F, X3_word_L2 r (F + 1 + 1) c 0 = if gS f (c0 172) p = ch then some (1, zu c 170 3 ((c 170 3) + 1)) else some (0, c) := by
    intro F
    rw [X3_word_L2, hz, if_neg (by decide), csign T h hp, bI_some, zchk_ok (by decide), hc, wI_id (z := gS f (c0 172) p) (by omega) (by omega), wI_id (z := ch) (by omega) (by omega)]
    by_cases q : gS f (c0 172) p = ch
    · rw [if_pos q, if_pos q, zlet_eq, X3_word_L2, hz, if_pos (by decide)]
    · rw [if_neg q, if_neg q]
  exact e 99998
end EXPR
