/-! NUMBERS AND TESTS OF THE TEXT -/
def numP (g : Int → Int) (p : Int) : Int × Int := if 48 ≤ g p ∧ g p ≤ 57 then (if 48 ≤ g (p + 1) ∧ g (p + 1) ≤ 57 then ((g p - 48) * 10 + g (p + 1) - 48, p + 2) else (g p - 48, p + 1)) else (-1, p)
def whN : List Int → Nat
  | [] => 0
  | x :: S => if x = 33 then whN S + 1 else 0
def whS : List Int → List Int
  | [] => []
  | x :: S => if x = 33 then whS S else x :: S
def okS (S : List Int) : Prop := ∀ x ∈ S, 0 ≤ x ∧ x ≤ 127
theorem okS.tl {x : Int} {S : List Int} (h : okS (x :: S)) : okS S := fun y hy => h y (List.mem_cons_of_mem _ hy)
theorem okS.hd {x : Int} {S : List Int} (h : okS (x :: S)) : 0 ≤ x ∧ x ≤ 127 := h x List.mem_cons_self
theorem okS.wh : ∀ {S : List Int}, okS S → okS (whS S)
  | [], h => h
  | x :: S, h => by
    rw [whS]
    split
    · exact okS.wh h.tl
    · exact h
section TESTS
variable {c0 m0 c m : PS} {f : Nat} {z0 s0 hi e p d : Int} {C S : List Int}
theorem m10 (h : MP m0 s0 hi e m p C S d) (x : Int) : MP m0 s0 hi e (zu m 0 10 x) p C S d := by
  obtain ⟨h1, h2, h3, h4, h5, h6, h7⟩ := h
  exact ⟨fun b j hb => by rw [zu_o (by unfold meP at hb; omega)]; exact h1 b j hb, (zu_o (by omega)).trans h2, (zu_o (by omega)).trans h3, h4.keep fun j j1 j2 => zu_o (by omega), (zu_o (by omega)).trans h5, h6.keep fun j j1 j2 => zu_o (by omega), (zu_o (by omega)).trans h7⟩
theorem cnum (T : TG c0 m0 f) (h : CP c0 z0 c p C) (hp : 0 ≤ p ∧ p ≤ f) : ∃ c', X3_number c = some ((numP (gS f (c0 172)) p).1, c') ∧ CP c0 z0 c' (numP (gS f (c0 172)) p).2 C := by
  have f1 := T.1
  have e : ∀ F, ∃ c', X3_number_L4 (F + 1 + 1 + 1) c (-1) 0 = some ((numP (gS f (c0 172)) p).1, c') ∧ CP c0 z0 c' (numP (gS f (c0 172)) p).2 C := by
    intro F
    have r0 := T.rng hp.1
    have r1 := T.rng (p := p + 1) (by omega)
    have lt0 := TG.lt (f := f) (c0 := c0) (p := p)
    have s0 := csign T h hp
    rw [X3_number_L4, if_neg (by decide), s0, bI_some]
    unfold numP
    generalize hg0 : gS f (c0 172) p = g0 at *
    rw [wI_id (z := g0) (by omega) (by omega), wI_id (z := 48) (by omega) (by omega), wI_id (z := 57) (by omega) (by omega)]
    by_cases q1 : g0 < 48
    · rw [if_pos q1, if_neg (by omega)]
      exact ⟨c, rfl, h⟩
    · rw [if_neg q1]
      by_cases q2 : g0 ≤ 57
      · have h1 := cnext h
        have pf := lt0 (by omega)
        have s1 := csign T h1 (by omega)
        have lt1 := TG.lt (f := f) (c0 := c0) (p := p + 1)
        rw [if_pos q2, if_pos ⟨by omega, q2⟩, zlet_eq, X3_number_L4, if_neg (by decide), s1, bI_some]
        generalize hg1 : gS f (c0 172) (p + 1) = g1 at *
        rw [wI_id (z := g1) (by omega) (by omega), wI_id (z := 48) (by omega) (by omega), wI_id (z := 57) (by omega) (by omega), zmax_ok (rngs (by omega) (by omega)) (rngs (by omega) (by omega))]
        by_cases q3 : g1 < 48
        · rw [if_pos q3, if_neg (by omega)]
          refine ⟨_, ?_, h1⟩
          rw [show max (-1 : Int) 0 * 10 + g0 - 48 = g0 - 48 by omega]
        · rw [if_neg q3]
          by_cases q4 : g1 ≤ 57
          · have h2 := cnext h1
            rw [if_pos q4, if_pos ⟨by omega, q4⟩, zlet_eq, X3_number_L4, if_pos (by decide), zmax_ok (rngs (by omega) (by omega)) (rngs (by omega) (by omega))]
            refine ⟨_, ?_, by rw [show p + 2 = p + 1 + 1 by omega]; exact h2⟩
            rw [show max (max (-1 : Int) 0 * 10 + g0 - 48) 0 * 10 + g1 - 48 = (g0 - 48) * 10 + g1 - 48 by omega]
          · rw [if_neg q4, if_neg (by omega)]
            refine ⟨_, ?_, h1⟩
            rw [show max (-1 : Int) 0 * 10 + g0 - 48 = g0 - 48 by omega]
      · rw [if_neg q2, if_neg (by omega)]
        exact ⟨c, rfl, h⟩
  exact e 99997
theorem mdig (T : TG c0 m0 f) (h : MP m0 s0 hi e m p C S d) (hp : 0 ≤ p ∧ p ≤ f) : X7_isDigit m = some (if 48 ≤ gS f (c0 172) p ∧ gS f (c0 172) p ≤ 57 then 1 else 0) := by
  have r := T.rng hp.1
  unfold X7_isDigit
  rw [msign T h hp, bI_some, in_l (rngs (by omega) (by omega)) (by decide)]
theorem mnum (T : TG c0 m0 f) (h : MP m0 s0 hi e m p C S d) (hp : 0 ≤ p ∧ p ≤ f) : ∃ r m', X7_takesNumber m = some (r, m') ∧ MP m0 s0 hi e m' (numP (gS f (c0 172)) p).2 C S d ∧ ((r = 0 ∧ (numP (gS f (c0 172)) p).1 = -1) ∨ (r = 1 ∧ m' 0 10 = (numP (gS f (c0 172)) p).1 ∧ 0 ≤ (numP (gS f (c0 172)) p).1)) := by
  have f1 := T.1
  have r0 := T.rng hp.1
  have r1 := T.rng (p := p + 1) (by omega)
  have lt0 := TG.lt (f := f) (c0 := c0) (p := p)
  have D0 := mdig T h hp
  unfold X7_takesNumber
  rw [D0, bI_some]
  unfold numP
  by_cases q1 : 48 ≤ gS f (c0 172) p ∧ gS f (c0 172) p ≤ 57
  · simp only [if_pos q1, w10, if_false]
    have pf := lt0 (by omega)
    have hA := m10 h 0
    have hB := m10 hA (10 * (zu m 0 10 0 0 10) + gS f (c0 172) p - 48)
    have hC := mnext hB
    have e : ∀ F, ∃ r m', X7_takesNumber_L16 (F + 1 + 1 + 1) (zu m 0 10 0) 0 = some (r, m') ∧ MP m0 s0 hi e m' (if 48 ≤ gS f (c0 172) (p + 1) ∧ gS f (c0 172) (p + 1) ≤ 57 then ((gS f (c0 172) p - 48) * 10 + gS f (c0 172) (p + 1) - 48, p + 2) else (gS f (c0 172) p - 48, p + 1)).2 C S d ∧ r = 1 ∧ m' 0 10 = (if 48 ≤ gS f (c0 172) (p + 1) ∧ gS f (c0 172) (p + 1) ≤ 57 then ((gS f (c0 172) p - 48) * 10 + gS f (c0 172) (p + 1) - 48, p + 2) else (gS f (c0 172) p - 48, p + 1)).1 := by
      intro F
      have DA := mdig T hA hp
      have DC := mdig T hC (by omega)
      rw [X7_takesNumber_L16, if_neg (by decide), DA, bI_some]
      simp only [if_pos q1, w10, if_false]
      rw [msign T hA hp, bI_some, zlet_eq, zlet_eq, X7_takesNumber_L16, if_neg (by decide), DC, bI_some]
      have v1 : ∀ x, zu (zu (zu m 0 10 0) 0 10 (10 * (zu m 0 10 0 0 10) + gS f (c0 172) p - 48)) 0 9 x 0 10 = gS f (c0 172) p - 48 := fun x => by
        rw [zu_o (by omega), zu_at, zu_at]; omega
      by_cases q2 : 48 ≤ gS f (c0 172) (p + 1) ∧ gS f (c0 172) (p + 1) ≤ 57
      · simp only [if_pos q2, w10, if_false]
        rw [msign T hC (by omega), bI_some, zlet_eq, zlet_eq, X7_takesNumber_L16, if_pos (by decide)]
        have hD := mnext (m10 hC (10 * (zu (zu (zu m 0 10 0) 0 10 (10 * (zu m 0 10 0 0 10) + gS f (c0 172) p - 48)) 0 9 (zu (zu m 0 10 0) 0 10 (10 * (zu m 0 10 0 0 10) + gS f (c0 172) p - 48) 0 9 + 1) 0 10) + gS f (c0 172) (p + 1) - 48))
        refine ⟨_, _, rfl, by rw [show p + 2 = p + 1 + 1 by omega]; exact hD, rfl, ?_⟩
        rw [zu_o (by omega), zu_at, v1]; omega
      · simp only [if_neg q2, w00, if_true]
        exact ⟨_, _, rfl, hC, rfl, v1 _⟩
    rw [zlet_eq]
    obtain ⟨r, m', e1, e2, e3, e4⟩ := e 99997
    refine ⟨r, m', e1, e2, Or.inr ⟨e3, e4, ?_⟩⟩
    split <;> simp only [] <;> omega
  · simp only [if_neg q1, w00, if_true]
    exact ⟨_, _, rfl, h, Or.inl (by constructor <;> first | rfl | trivial)⟩
theorem mwhole (hs : 0 ≤ s0) (hh : hi ≤ 600) : ∀ (S : List Int) (k : Nat) (m : PS) (C : List Int) (d : Int), S.length < k → S.length < 101 → okS S → s0 + C.length + S.length ≤ hi → MP m0 s0 hi e m p C S d → ∃ m', X7_whole_L0 k m = some m' ∧ MP m0 s0 hi e m' p (C ++ List.replicate (whN S) (-33)) (whS S) (d - whN S)
  | [], k, m, C, d, hk, hl, ho, hsum, h => by
    obtain ⟨k, rfl⟩ : ∃ q, k = q + 1 := ⟨k - 1, by omega⟩
    have e0 : m 0 20 = 0 := h.2.2.2.2.1
    rw [X7_whole_L0, e0, if_pos (by decide)]
    refine ⟨m, rfl, ?_⟩
    simp only [whN, whS, List.replicate_zero, List.append_nil]
    rw [show d - ((0 : Nat) : Int) = d by omega]
    exact h
  | x :: S, k, m, C, d, hk, hl, ho, hsum, h => by
    obtain ⟨k, rfl⟩ : ∃ q, k = q + 1 := ⟨k - 1, by omega⟩
    simp only [List.length_cons] at hk hl hsum
    obtain ⟨t1, t2⟩ := mtop h (by omega)
    have hx := ho.hd
    rw [X7_whole_L0, t2, bI_some, t1, wI_id (z := (S.length : Int) + 1) (by omega) (by omega), if_neg (by omega), wI_id (z := x) (by omega) (by omega), wI_id (z := 33) (by omega) (by omega)]
    by_cases q : x = 33
    · rw [if_pos q]
      obtain ⟨m1, b1, b2⟩ := memit h hs (by omega) hh (-33)
      have b3 := mpop b2
      rw [b1, bI_some, zlet_eq, zlet_eq]
      have b4 := mdep b3 (zu m1 0 20 (m1 0 20 - 1) 0 21 - 1)
      have e21 : zu m1 0 20 (m1 0 20 - 1) 0 21 = d := b3.2.2.2.2.2.2
      rw [e21] at b4 ⊢
      obtain ⟨m', r1, r2⟩ := mwhole hs hh S k _ (C ++ [-33]) (d - 1) (by omega) (by omega) ho.tl (by rw [List.length_append, List.length_singleton]; omega) b4
      refine ⟨m', r1, ?_⟩
      rw [whN, whS, if_pos q, if_pos q, List.replicate_succ]
      rw [List.append_assoc] at r2
      rw [show d - ((whN S + 1 : Nat) : Int) = d - 1 - whN S by omega]
      exact r2
    · rw [if_neg q]
      refine ⟨m, rfl, ?_⟩
      rw [whN, whS, if_neg q, if_neg q, List.replicate_zero, List.append_nil, show d - ((0 : Nat) : Int) = d by omega]
      exact h
theorem hC_test {t : Int} {H : Nat} (h : hC C 0 = some H) (ht : 0 ≤ t ∧ t < 6000 ∧ t / 100 % 10 ≤ 2) (hH : H + 1 ≤ 12) : hC (C ++ [t]) 0 = some (H + 1) := by
  rw [hC_app h, hC, if_neg (by omega), if_neg (by omega), if_pos ⟨ht.1, ht.2.1, ht.2.2, hH⟩, hC]
theorem test_sim {H : Nat} (T : TG c0 m0 f) (hc : CP c0 z0 c p C) (hm : MP m0 s0 hi e m p C S d) (hp : 0 ≤ p ∧ p ≤ f) (hz : 0 ≤ z0) (hs : s0 = hi - 100 + z0) (hs0 : 0 ≤ s0) (hh : hi ≤ 600) (hlen : z0 + C.length + S.length ≤ p) (ho : okS S) (hH : hC C 0 = some H) (hH' : H + 1 ≤ 12) : ∃ (r : Int) (c' : PS), X3_test c = some (r, c') ∧ ((r = 0 ∧ ∃ (q : Int) (m' : PS), (0 ≤ q ∧ q ≤ f) ∧ CP c0 z0 c' q C ∧ X7_takesTest m = some (0, m') ∧ MP m0 s0 hi e m' q C S d) ∨ (r = 1 ∧ ∃ (q t : Int) (m' : PS), p + 3 ≤ q ∧ q ≤ f ∧ CP c0 z0 c' q (C ++ [t]) ∧ X7_takesTest m = some (1, m') ∧ MP m0 s0 hi e m' q (C ++ [t] ++ List.replicate (whN S) (-33)) (whS S) (d - whN S) ∧ hC (C ++ [t]) 0 = some (H + 1))) := by
  have f1 := T.1
  have r0 := T.rng hp.1
  have lt0 := TG.lt (f := f) (c0 := c0) (p := p)
  unfold X3_test X7_takesTest
  rw [csign T hc hp, bI_some, bI_some, msign T hm hp, bI_some, place_ok r0, wI_id (z := gS f (c0 172) p) (by omega) (by omega), wI_id (z := -1) (by omega) (by omega)]
  have lr := letP_rng (gS f (c0 172) p)
  by_cases q0 : gS f (c0 172) p = -1
  · rw [if_pos q0, if_neg (by omega), q0, if_neg (by decide)]
    exact ⟨_, _, rfl, Or.inl ⟨rfl, p, m, hp, hc, rfl, hm⟩⟩
  rw [if_neg q0, zix_ok (by omega), bI_some]
  generalize hg0 : letP (gS f (c0 172) p) = l at *
  rw [wI_id (z := l) (by omega) (by omega)]
  by_cases q1 : 0 ≤ l
  · rw [if_pos q1, if_pos q1, zlet_eq, zlet_eq]
    have pf := lt0 q0
    have hc1 := cnext hc
    have hm1 := mnext hm
    have r1 := T.rng (p := p + 1) (by omega)
    have lt1 := TG.lt (f := f) (c0 := c0) (p := p + 1)
    rw [csign T hc1 (by omega), bI_some, msign T hm1 (by omega), bI_some, in_l (rngs (by omega) (by omega)) (by decide)]
    generalize hg1 : gS f (c0 172) (p + 1) = o at *
    rw [wI_id (z := o) (by omega) (by omega), wI_id (z := 60) (by omega) (by omega), wI_id (z := 61) (by omega) (by omega), wI_id (z := 62) (by omega) (by omega)]
    by_cases q2 : 60 ≤ o ∧ o ≤ 62
    · have pf1 := lt1 (by omega)
      have hc2 := cnext hc1
      have hm2 := mnext hm1
      obtain ⟨c3, n1, n2⟩ := cnum T hc2 (by omega)
      obtain ⟨rr, m3, n3, n4, n5⟩ := mnum T hm2 (by omega)
      have key : ∃ (r : Int) (c' : PS), (bP (X3_number (zu (zu c 170 3 (c 170 3 + 1)) 170 3 (zu c 170 3 (c 170 3 + 1) 170 3 + 1))) (fun v11 s13 => if 0 ≤ wI v11 then bI (X2_put 160 s13 l o v11) (fun s14 => some ((1 : Int), s14)) else (some ((0 : Int), s13)))) = some (r, c') ∧ ((r = 0 ∧ ∃ (q : Int) (m' : PS), (0 ≤ q ∧ q ≤ f) ∧ CP c0 z0 c' q C ∧ (bP (X7_takesNumber (zu (zu m 0 9 (m 0 9 + 1)) 0 9 (zu m 0 9 (m 0 9 + 1) 0 9 + 1))) (fun v3 s3 => if wI v3 = 0 then some ((0 : Int), s3) else (bI (X7_emits s3 (((1000 * l) + (100 * (o - 60))) + (s3 0 10))) (fun s4 => bI (X7_whole s4) (fun s5 => some ((1 : Int), s5)))))) = some (0, m') ∧ MP m0 s0 hi e m' q C S d) ∨ (r = 1 ∧ ∃ (q t : Int) (m' : PS), p + 3 ≤ q ∧ q ≤ f ∧ CP c0 z0 c' q (C ++ [t]) ∧ (bP (X7_takesNumber (zu (zu m 0 9 (m 0 9 + 1)) 0 9 (zu m 0 9 (m 0 9 + 1) 0 9 + 1))) (fun v3 s3 => if wI v3 = 0 then some ((0 : Int), s3) else (bI (X7_emits s3 (((1000 * l) + (100 * (o - 60))) + (s3 0 10))) (fun s4 => bI (X7_whole s4) (fun s5 => some ((1 : Int), s5)))))) = some (1, m') ∧ MP m0 s0 hi e m' q (C ++ [t] ++ List.replicate (whN S) (-33)) (whS S) (d - whN S) ∧ hC (C ++ [t]) 0 = some (H + 1))) := by
        have nr : numP (gS f (c0 172)) (p + 1 + 1) = (-1, p + 1 + 1) ∨ (0 ≤ (numP (gS f (c0 172)) (p + 1 + 1)).1 ∧ (numP (gS f (c0 172)) (p + 1 + 1)).1 ≤ 99 ∧ p + 3 ≤ (numP (gS f (c0 172)) (p + 1 + 1)).2 ∧ (numP (gS f (c0 172)) (p + 1 + 1)).2 ≤ f) := by
          have lt2 := TG.lt (f := f) (c0 := c0) (p := p + 1 + 1)
          have lt3 := TG.lt (f := f) (c0 := c0) (p := p + 1 + 1 + 1)
          unfold numP
          by_cases w1 : 48 ≤ gS f (c0 172) (p + 1 + 1) ∧ gS f (c0 172) (p + 1 + 1) ≤ 57
          · rw [if_pos w1]
            have := lt2 (by omega)
            by_cases w2 : 48 ≤ gS f (c0 172) (p + 1 + 1 + 1) ∧ gS f (c0 172) (p + 1 + 1 + 1) ≤ 57
            · rw [if_pos w2]
              have := lt3 (by omega)
              refine Or.inr ⟨?_, ?_, ?_, ?_⟩ <;> simp only [] <;> omega
            · rw [if_neg w2]
              refine Or.inr ⟨?_, ?_, ?_, ?_⟩ <;> simp only [] <;> omega
          · rw [if_neg w1]; exact Or.inl rfl
        rw [n1, bP_some, n3, bP_some]
        generalize numP (gS f (c0 172)) (p + 1 + 1) = vq at *
        rcases nr with e1 | ⟨e1, e2, e3, e4⟩
        · have ea : vq.1 = -1 := by rw [e1]
          have eb : vq.2 = p + 1 + 1 := by rw [e1]
          rw [eb] at n2 n4
          rcases n5 with ⟨u1, u2⟩ | ⟨u1, u2, u3⟩
          · rw [u1, ea, if_pos (by decide : wI 0 = 0), if_neg (by decide : ¬ 0 ≤ wI (-1))]
            exact ⟨_, _, rfl, Or.inl ⟨rfl, p + 1 + 1, m3, by omega, n2, rfl, n4⟩⟩
          · omega
        · rcases n5 with ⟨u1, u2⟩ | ⟨u1, u2, u3⟩
          · omega
          · rw [u1, if_neg (by decide : ¬ wI 1 = 0), wI_id (z := vq.1) (by omega) (by omega), if_pos e1, u2]
            obtain ⟨c4, x1, x2⟩ := cput n2 hz (t := 1000 * l + 100 * (o - 60) + vq.1) (s := o) (n := vq.1) (by omega) (fun _ => by omega)
            have es : stpC (1000 * l + 100 * (o - 60) + vq.1) = l := by
              unfold stpC
              rw [if_neg (by omega), if_neg (by omega), if_neg (by omega)]; omega
            rw [es] at x1
            obtain ⟨m4, y1, y2⟩ := memit n4 hs0 (by omega) hh (1000 * l + 100 * (o - 60) + vq.1)
            obtain ⟨m5, z1, z2⟩ := mwhole hs0 hh S FU m4 _ d (by unfold FU; omega) (by omega) ho (by rw [List.length_append, List.length_singleton]; omega) y2
            have z1' : X7_whole m4 = some m5 := z1
            rw [x1, bI_some, y1, bI_some, z1', bI_some]
            exact ⟨_, _, rfl, Or.inr ⟨rfl, vq.2, _, m5, e3, e4, x2, rfl, z2, hC_test hH (by omega) hH'⟩⟩
      simp only [if_pos q2, w10, if_false]
      rw [zlet_eq]
      by_cases o1 : o = 60
      · rw [if_pos o1, zlet_eq]; exact key
      · by_cases o2 : o = 61
        · rw [if_neg o1, if_pos o2, zlet_eq]; exact key
        · rw [if_neg o1, if_neg o2, if_pos (by omega : o = 62), zlet_eq]; exact key
    · rw [if_neg (by omega : ¬ o = 60), if_neg (by omega : ¬ o = 61), if_neg (by omega : ¬ o = 62), if_neg q2]
      simp only [w00, if_true]
      exact ⟨_, _, rfl, Or.inl ⟨rfl, p + 1, _, by omega, hc1, rfl, hm1⟩⟩
  · rw [if_neg q1, if_neg q1]
    exact ⟨_, _, rfl, Or.inl ⟨rfl, p, m, hp, hc, rfl, hm⟩⟩
end TESTS
