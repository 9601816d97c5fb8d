/-! EXPRESSIONS: the two walks -/
theorem len_fl {a b : Int} {S0 : List Int} (ha : a = 0 ∨ a = 1) (hb : b = 0 ∨ b = 1) : ((fl a b S0).length : Int) = a + b + S0.length := by
  unfold fl
  rcases ha with rfl | rfl <;> rcases hb with rfl | rfl <;> simp <;> omega
theorem len_cA {a : Int} (ha : a = 0 ∨ a = 1) : ((cA a).length : Int) = a := by
  rcases ha with rfl | rfl <;> rfl
theorem len_cB {a : Int} (ha : a = 0 ∨ a = 1) : ((cB a).length : Int) = a := by
  rcases ha with rfl | rfl <;> rfl
section EXPR2
variable {c0 m0 : PS} {f : Nat} {z0 s0 hi e : Int}
theorem either_sim {n : Nat} (T : TG c0 m0 f) (hz : 0 ≤ z0) (hs : s0 = hi - 100 + z0) (hs0 : 0 ≤ s0) (hh : hi ≤ 600) (he : 0 ≤ e ∧ e < 60) (hF : FacOK c0 m0 f z0 s0 hi e n) : ∀ j : Nat, EitOK c0 m0 f z0 s0 hi e n j := by
  have f1 := T.1
  intro j
  induction j using Nat.strongRecOn with
  | _ j ih =>
  intro dpt c m p C S0 H0 a b l4 k kc hj hd hn hb ho ha hb' hc hm hp hlen hH hH0 hl4 hkc hk
  obtain ⟨kc, rfl⟩ : ∃ q, kc = q + 1 := ⟨kc - 1, by omega⟩
  have lfl := len_fl (S0 := S0) ha hb'
  rw [X3_either_L7, wI_id (z := 100) (by omega) (by omega), wI_id (z := l4) (by omega) (by omega), if_neg (by omega : ¬ (100 : Int) ≤ l4)]
  obtain ⟨r, c1, a1, a2⟩ := hF dpt c m p C (fl a b S0) (H0 + a.toNat + b.toNat) k hd hn hc hm hp hlen (okS_fl ho) hH (by omega) hk
  rw [a1, bP_some]
  rcases a2 with ⟨rfl, a2⟩ | ⟨rfl, q, D, m1, k1, q1, q2, q3, q4, q5, q6, q7, q8⟩
  · rw [if_pos (by decide)]
    exact ⟨0, c1, rfl, Or.inl ⟨rfl, a2⟩⟩
  rw [if_neg (by decide : ¬ wI 1 = 0)]
  rw [(whN_fl hb).1, (whN_fl hb).2, List.replicate_zero, List.append_nil, show (dpt : Int) - ((0 : Nat) : Int) = dpt by omega] at q6
  obtain ⟨k2, rfl⟩ : ∃ x, k1 = x + 1 := ⟨k1 - 1, by omega⟩
  have g := T.rng (p := q) (by omega)
  have lt0 := TG.lt (f := f) (c0 := c0) (p := q)
  have la := len_cA ha
  have lb := len_cB hb'
  have sg : ∀ c2 C2, CP c0 z0 c2 q C2 → X3_sign c2 = some (gS f (c0 172) q) := fun c2 C2 h => csign T h (by omega)
  have mg := msign T q6 (by omega)
  have hj' : ((f : Int) - (q + 1)).toNat < j := by omega
  have hCa : hC (C ++ D ++ cA a) 0 = some (H0 + 1 + b.toNat) := by
    rcases ha with rfl | rfl
    · simp only [cA, show ¬ ((0 : Int) = 1) by decide, if_false, List.append_nil]
      rw [q8]; exact congrArg some (by omega)
    · have := hC_and (C := C ++ D) (H := H0 + b.toNat) (Or.inl rfl) (q8.trans (congrArg some (by omega)))
      rw [show cA 1 = [-38] from rfl, this]; exact congrArg some (by omega)
  have hCb : hC (C ++ D ++ cA a ++ cB b) 0 = some (H0 + 1) := by
    rcases hb' with rfl | rfl
    · simp only [cB, show ¬ ((0 : Int) = 1) by decide, if_false, List.append_nil]
      rw [hCa]; exact congrArg some (by omega)
    · have := hC_and (C := C ++ D ++ cA a) (H := H0) (Or.inr rfl) (hCa.trans (congrArg some (by omega)))
      rw [show cB 1 = [-124] from rfl, this]
  -- one more round of the loop
  have again : ∀ (c3 m4 : PS) (a' b' : Int) (X : List Int), (a' = 0 ∨ a' = 1) → (b' = 0 ∨ b' = 1) → gS f (c0 172) q ≠ -1 → CP c0 z0 c3 (q + 1) (C ++ X) → MP m0 s0 hi e m4 (q + 1) (C ++ X) (fl a' b' S0) dpt → z0 + (C ++ X).length + (fl a' b' S0).length ≤ q + 1 → hC (C ++ X) 0 = some (H0 + a'.toNat + b'.toNat) → X7_takesE_L22 e (k2 + 1) m1 0 = X7_takesE_L22 e k2 m4 1 → ∃ (r : Int) (c' : PS), X3_either_L7 (X3_factor n) dpt kc c3 b' a' (l4 + 1) = some (r, c') ∧ ((r = 0 ∧ FL c0 m0 f z0 s0 hi e c' (X7_takesE_L22 e k m 1)) ∨ (r = 1 ∧ ∃ (q : Int) (D : List Int) (m' : PS) (k' : Nat), p + 3 ≤ q ∧ q ≤ f ∧ CP c0 z0 c' q (C ++ D) ∧ X7_takesE_L22 e k m 1 = (if wI (m' 0 20) = 0 then some (1, m') else (if wI (gS f (c0 172) q) = wI 41 then tailE e k' m' else some (0, m'))) ∧ MP m0 s0 hi e m' q (C ++ D) S0 dpt ∧ m' 16 e = s0 + (C ++ D).length ∧ (k : Int) + p ≤ k' + 1 + q ∧ z0 + (C ++ D).length + S0.length + 2 ≤ q ∧ hC (C ++ D) 0 = some (H0 + 1))) := by
    intro c3 m4 a' b' X h1 h2 h3 h4 h5 h6 h7 h8
    have pf := lt0 h3
    obtain ⟨r, c', b1, b2⟩ := ih _ hj' dpt c3 m4 (q + 1) (C ++ X) S0 H0 a' b' (l4 + 1) k2 kc (by omega) hd hn hb ho h1 h2 h4 h5 (by omega) h6 h7 hH0 (by omega) (by omega) (by omega)
    refine ⟨r, c', b1, ?_⟩
    rw [q4, h8]
    rcases b2 with ⟨x1, x2⟩ | ⟨x1, q', D', m', k', x2, x3, x4, x5, x6, x7, x8, x9, x10⟩
    · exact Or.inl ⟨x1, x2⟩
    · rw [List.append_assoc] at x4 x6 x7 x9 x10
      exact Or.inr ⟨x1, q', X ++ D', m', k', by omega, x3, x4, x5, x6, x7, by omega, x9, x10⟩
  -- after an & or a |, or neither
  have tail2 : ∀ c3 : PS, gS f (c0 172) q ≠ 38 → CP c0 z0 c3 q (C ++ D ++ cA a ++ cB b) → ∃ (r : Int) (c' : PS), (if wI (gS f (c0 172) q) = wI 124 then zlet (zu c3 170 3 ((c3 170 3) + 1)) (fun s7 => X3_either_L7 (X3_factor n) dpt kc s7 1 0 (l4 + 1)) else some (1, c3)) = some (r, c') ∧ ((r = 0 ∧ FL c0 m0 f z0 s0 hi e c' (X7_takesE_L22 e k m 1)) ∨ (r = 1 ∧ ∃ (q : Int) (D : List Int) (m' : PS) (k' : Nat), p + 3 ≤ q ∧ q ≤ f ∧ CP c0 z0 c' q (C ++ D) ∧ X7_takesE_L22 e k m 1 = (if wI (m' 0 20) = 0 then some (1, m') else (if wI (gS f (c0 172) q) = wI 41 then tailE e k' m' else some (0, m'))) ∧ MP m0 s0 hi e m' q (C ++ D) S0 dpt ∧ m' 16 e = s0 + (C ++ D).length ∧ (k : Int) + p ≤ k' + 1 + q ∧ z0 + (C ++ D).length + S0.length + 2 ≤ q ∧ hC (C ++ D) 0 = some (H0 + 1))) := by
    intro c3 n38 h3
    obtain ⟨m2, b1, b2⟩ := settle124 ha hb' hb q6 hs0 hh (by omega) (by omega)
    rw [wI_id (z := gS f (c0 172) q) (by omega) (by omega), wI_id (z := 124) (by omega) (by omega)]
    by_cases g124 : gS f (c0 172) q = 124
    · rw [if_pos g124, zlet_eq]
      obtain ⟨m3, b3, b4⟩ := mpush b2 (by omega) 124
      have b5 := mnext b4
      have en : X7_takesE_L22 e (k2 + 1) m1 0 = X7_takesE_L22 e k2 (zu (zu m3 0 20 ((m3 0 20) + 1)) 0 9 ((zu m3 0 20 ((m3 0 20) + 1)) 0 9 + 1)) 1 := by
        rw [X7_takesE_L22, mg, bI_some, if_pos (by decide : wI 0 = 0), g124, if_neg (by decide : ¬ wI 124 = wI 38), if_pos rfl, b1, bI_some, b3, bI_some, zlet_eq, zlet_eq]
      rw [List.append_assoc, List.append_assoc] at h3 b5 hCb
      refine again _ _ 0 1 (D ++ (cA a ++ cB b)) (Or.inl rfl) (Or.inr rfl) (by omega) (cnext h3) b5 ?_ hCb en
      have := len_fl (S0 := S0) (a := 0) (b := 1) (Or.inl rfl) (Or.inr rfl)
      simp only [List.length_append] at q7 ⊢
      omega
    · rw [if_neg g124]
      obtain ⟨m3, b3, b4, b5⟩ := mto b2 he
      refine ⟨1, c3, rfl, Or.inr ⟨rfl, q, D ++ (cA a ++ cB b), m3, k2, q1, q2, ?_, ?_, ?_, ?_, by omega, ?_, ?_⟩⟩
      · rw [← List.append_assoc, ← List.append_assoc]; exact h3
      · rw [q4, X7_takesE_L22, mg, bI_some, if_pos (by decide : wI 0 = 0), wI_id (z := gS f (c0 172) q) (by omega) (by omega), wI_id (z := 38) (by omega) (by omega), wI_id (z := 124) (by omega) (by omega), if_neg n38, if_neg g124, b1, bI_some, b3, bI_some]
        rfl
      · rw [← List.append_assoc, ← List.append_assoc]; exact b4
      · rw [← List.append_assoc, ← List.append_assoc]; exact b5
      · simp only [List.length_append] at q7 ⊢
        omega
      · rw [← List.append_assoc, ← List.append_assoc]; exact hCb
  have tail : ∀ c2 : PS, CP c0 z0 c2 q (C ++ D ++ cA a) → ∃ (r : Int) (c' : PS), bI (X3_sign c2) (fun v2 => if wI v2 = wI 38 then zlet (zu c2 170 3 ((c2 170 3) + 1)) (fun s3 => X3_either_L7 (X3_factor n) dpt kc s3 b 1 (l4 + 1)) else (if wI b = 0 then bI (X3_sign c2) (fun v3 => if wI v3 = wI 124 then zlet (zu c2 170 3 ((c2 170 3) + 1)) (fun s5 => X3_either_L7 (X3_factor n) dpt kc s5 1 0 (l4 + 1)) else (some (1, c2))) else (bI (X2_put 160 c2 8 0 0) (fun s6 => bI (X3_sign s6) (fun v4 => if wI v4 = wI 124 then zlet (zu s6 170 3 ((s6 170 3) + 1)) (fun s7 => X3_either_L7 (X3_factor n) dpt kc s7 1 0 (l4 + 1)) else (some (1, s6))))))) = some (r, c') ∧ ((r = 0 ∧ FL c0 m0 f z0 s0 hi e c' (X7_takesE_L22 e k m 1)) ∨ (r = 1 ∧ ∃ (q : Int) (D : List Int) (m' : PS) (k' : Nat), p + 3 ≤ q ∧ q ≤ f ∧ CP c0 z0 c' q (C ++ D) ∧ X7_takesE_L22 e k m 1 = (if wI (m' 0 20) = 0 then some (1, m') else (if wI (gS f (c0 172) q) = wI 41 then tailE e k' m' else some (0, m'))) ∧ MP m0 s0 hi e m' q (C ++ D) S0 dpt ∧ m' 16 e = s0 + (C ++ D).length ∧ (k : Int) + p ≤ k' + 1 + q ∧ z0 + (C ++ D).length + S0.length + 2 ≤ q ∧ hC (C ++ D) 0 = some (H0 + 1))) := by
    intro c2 h2
    rw [sg c2 _ h2, bI_some]
    by_cases g38 : gS f (c0 172) q = 38
    · rw [g38, if_pos rfl, zlet_eq]
      obtain ⟨m2, b1, b2⟩ := settle38 ha hb' hb q6 hs0 hh (by omega) (by omega)
      have l0 := len_fl (S0 := S0) (a := 0) (Or.inl rfl) hb'
      have l1 := len_fl (S0 := S0) (a := 1) (Or.inr rfl) hb'
      obtain ⟨m3, b3, b4⟩ := mpush b2 (by omega) 38
      have b5 := mnext b4
      have en : X7_takesE_L22 e (k2 + 1) m1 0 = X7_takesE_L22 e k2 (zu (zu m3 0 20 ((m3 0 20) + 1)) 0 9 ((zu m3 0 20 ((m3 0 20) + 1)) 0 9 + 1)) 1 := by
        rw [X7_takesE_L22, mg, bI_some, if_pos (by decide : wI 0 = 0), g38, if_pos rfl, b1, bI_some, b3, bI_some, zlet_eq, zlet_eq]
      rw [List.append_assoc] at h2 b5 hCa
      refine again _ _ 1 b (D ++ cA a) (Or.inr rfl) hb' (by omega) (cnext h2) b5 ?_ (hCa.trans (congrArg some (by omega))) en
      simp only [List.length_append] at q7 ⊢
      omega
    · rw [wI_id (z := gS f (c0 172) q) (by omega) (by omega), wI_id (z := 38) (by omega) (by omega), if_neg g38]
      rcases hb' with rfl | rfl
      · rw [if_pos (by decide : wI 0 = 0), bI_some]
        exact tail2 c2 g38 (by rw [show cB 0 = [] from rfl, List.append_nil]; exact h2)
      · rw [if_neg (by decide : ¬ wI 1 = 0)]
        obtain ⟨c3, x1, x2⟩ := cput h2 hz (t := -124) (s := 0) (n := 0) (by simp only [List.length_append] at q7 ⊢; omega) (fun w => by omega)
        have x1' : X2_put 160 c2 8 0 0 = some c3 := x1
        rw [x1', bI_some, sg c3 _ x2, bI_some]
        exact tail2 c3 g38 x2
  rcases ha with rfl | rfl
  · rw [if_pos (by decide : wI 0 = 0)]
    exact tail c1 (by rw [show cA 0 = [] from rfl, List.append_nil]; exact q3)
  · rw [if_neg (by decide : ¬ wI 1 = 0)]
    obtain ⟨c3, x1, x2⟩ := cput q3 hz (t := -38) (s := 0) (n := 0) (by omega) (fun w => by omega)
    have x1' : X2_put 160 c1 7 0 0 = some c3 := x1
    rw [x1', bI_some]
    exact tail c3 x2
theorem factor_sim (T : TG c0 m0 f) (hz : 0 ≤ z0) (hs : s0 = hi - 100 + z0) (hs0 : 0 ≤ s0) (hh : hi ≤ 600) (he : 0 ≤ e ∧ e < 60) : ∀ n : Nat, FacOK c0 m0 f z0 s0 hi e n := by
  have f1 := T.1
  intro n
  induction n with
  | zero =>
    intro dpt c m p C S H k hd hn
    omega
  | succ n ihF =>
  have hE := either_sim T hz hs hs0 hh he ihF
  intro dpt c m p C S H k hd hn hc hm hp hlen ho hH hH2 hk
  obtain ⟨k2, rfl⟩ : ∃ x, k = x + 1 := ⟨k - 1, by omega⟩
  have g := T.rng (p := p) hp.1
  have lt0 := TG.lt (f := f) (c0 := c0) (p := p)
  have e21 : m 0 21 = dpt := hm.2.2.2.2.2.2
  rw [X3_factor, csign T hc hp, bI_some, X7_takesE_L22, msign T hm hp, bI_some, if_neg (by decide : ¬ wI 1 = 0), e21, wI_id (z := 4) (by omega) (by omega), wI_id (z := (dpt : Int)) (by omega) (by omega)]
  have tst : ∃ (r : Int) (c' : PS), bP (X3_test c) (fun v9 s12 => zbit v9 (some (v9, s12))) = some (r, c') ∧ ((r = 0 ∧ FL c0 m0 f z0 s0 hi e c' (bP (X7_takesTest m) (fun v2 s26 => if wI v2 = 0 then some (0, s26) else (X7_takesE_L22 e k2 s26 0)))) ∨ (r = 1 ∧ ∃ (q : Int) (D : List Int) (m' : PS) (k' : Nat), p + 3 ≤ q ∧ q ≤ f ∧ CP c0 z0 c' q (C ++ D) ∧ bP (X7_takesTest m) (fun v2 s26 => if wI v2 = 0 then some (0, s26) else (X7_takesE_L22 e k2 s26 0)) = X7_takesE_L22 e k' m' 0 ∧ ((k2 + 1 : Nat) : Int) + p ≤ k' + q ∧ MP m0 s0 hi e m' q (C ++ D ++ List.replicate (whN S) (-33)) (whS S) ((dpt : Int) - whN S) ∧ z0 + (C ++ D).length + S.length + 2 ≤ q ∧ hC (C ++ D) 0 = some (H + 1))) := by
    obtain ⟨r, c', t1, t2⟩ := test_sim T hc hm hp hz hs hs0 hh hlen ho hH (by omega)
    rw [t1, bP_some]
    rcases t2 with ⟨rfl, q, m', t3, t4, t5, t6⟩ | ⟨rfl, q, t, m', t3, t4, t5, t6, t7, t8⟩
    · rw [zbit_ok (Or.inl rfl), t5, bP_some, if_pos (by decide)]
      exact ⟨0, c', rfl, Or.inl ⟨rfl, q, m', t3, t4.1, t4.2.1, rfl, t6.1, t6.2.1⟩⟩
    · rw [zbit_ok (Or.inr rfl), t6, bP_some, if_neg (by decide)]
      refine ⟨1, c', rfl, Or.inr ⟨rfl, q, [t], m', k2, t3, t4, t5, rfl, by omega, t7, ?_, t8⟩⟩
      rw [List.length_append, List.length_singleton]; omega
  have nonl : ∀ {x : Int}, gS f (c0 172) p = x → (x = 33 ∨ x = 40) → X3_test c = some (0, c) := by
    intro x hx hx'
    unfold X3_test
    rw [csign T hc hp, bI_some, bI_some, hx, wI_id (z := x) (by omega) (by omega), wI_id (z := -1) (by omega) (by omega), if_neg (by omega), zix_ok (by omega), bI_some]
    rcases hx' with rfl | rfl
    · rw [if_neg (by decide)]
    · rw [if_neg (by decide)]
  by_cases d4 : dpt = 4
  · rw [if_pos (by omega : (4 : Int) ≤ dpt), if_pos (by omega : (dpt : Int) = 4)]
    have fail : (gS f (c0 172) p = 33 ∨ gS f (c0 172) p = 40) → ∃ (r : Int) (c' : PS), bP (X3_test c) (fun v2 s1 => zbit v2 (some (v2, s1))) = some (r, c') ∧ ((r = 0 ∧ FL c0 m0 f z0 s0 hi e c' (some (0, m))) ∨ (r = 1 ∧ ∃ (q : Int) (D : List Int) (m' : PS) (k' : Nat), p + 3 ≤ q ∧ q ≤ f ∧ CP c0 z0 c' q (C ++ D) ∧ some (0, m) = X7_takesE_L22 e k' m' 0 ∧ ((k2 + 1 : Nat) : Int) + p ≤ k' + q ∧ MP m0 s0 hi e m' q (C ++ D ++ List.replicate (whN S) (-33)) (whS S) ((dpt : Int) - whN S) ∧ z0 + (C ++ D).length + S.length + 2 ≤ q ∧ hC (C ++ D) 0 = some (H + 1))) := by
      intro h
      rw [nonl rfl h, bP_some, zbit_ok (Or.inl rfl)]
      exact ⟨0, c, rfl, Or.inl ⟨rfl, p, m, hp, hc.1, hc.2.1, rfl, hm.1, hm.2.1⟩⟩
    rw [wI_id (z := gS f (c0 172) p) (by omega) (by omega), wI_id (z := 33) (by omega) (by omega), wI_id (z := 40) (by omega) (by omega)]
    by_cases g33 : gS f (c0 172) p = 33
    · rw [if_pos g33]; exact fail (Or.inl g33)
    · rw [if_neg g33]
      by_cases g40 : gS f (c0 172) p = 40
      · rw [if_pos g40]; exact fail (Or.inr g40)
      · rw [if_neg g40]; exact tst
  · rw [if_neg (by omega : ¬ (4 : Int) ≤ dpt), if_neg (by omega : ¬ (dpt : Int) = 4)]
    have d1 : (dpt : Int) + 1 = ((dpt + 1 : Nat) : Int) := by omega
    by_cases g33 : gS f (c0 172) p = 33
    · have pf := lt0 (by omega)
      rw [g33, if_pos rfl, if_pos rfl, zlet_eq, if_neg (by decide : ¬ wI 33 = wI 40), zlet_eq]
      have b0 := mdep hm ((dpt : Int) + 1)
      obtain ⟨m3, b3, b4⟩ := mpush b0 (by omega) 33
      have b5 := mnext b4
      rw [d1] at b5 b3 ⊢
      rw [b3, bI_some, zlet_eq, zlet_eq]
      obtain ⟨r, c1, a1, a2⟩ := ihF (dpt + 1) _ _ (p + 1) C (33 :: S) H k2 (by omega) (by omega) (cnext hc) b5 (by omega) (by rw [List.length_cons]; omega) (fun x hx => by
        rw [List.mem_cons] at hx
        rcases hx with rfl | hx
        · omega
        · exact ho x hx) hH (by omega) (by omega)
      rw [a1, bP_some]
      rcases a2 with ⟨rfl, a2⟩ | ⟨rfl, q, D, m1, k1, q1, q2, q3, q4, q5, q6, q7, q8⟩
      · rw [if_pos (by decide)]
        exact ⟨0, c1, rfl, Or.inl ⟨rfl, a2⟩⟩
      · rw [if_neg (by decide : ¬ wI 1 = 0)]
        rw [List.length_cons] at q7
        obtain ⟨c3, x1, x2⟩ := cput q3 hz (t := -33) (s := 0) (n := 0) (by omega) (fun w => by omega)
        have x1' : X2_put 160 c1 6 0 0 = some c3 := x1
        rw [x1', bI_some]
        rw [List.append_assoc] at x2
        refine ⟨1, c3, rfl, Or.inr ⟨rfl, q, D ++ [-33], m1, k1, by omega, q2, x2, q4, by omega, ?_, ?_, ?_⟩⟩
        · have w1 : whN (33 :: S) = whN S + 1 := by rw [whN, if_pos rfl]
          have w2 : whS (33 :: S) = whS S := by rw [whS, if_pos rfl]
          rw [w1, w2, List.replicate_succ] at q6
          rw [show (dpt : Int) - whN S = ((dpt + 1 : Nat) : Int) - ((whN S + 1 : Nat) : Int) by omega, show C ++ (D ++ [-33]) ++ List.replicate (whN S) (-33) = C ++ D ++ (-33 :: List.replicate (whN S) (-33)) by simp [List.append_assoc]]
          exact q6
        · rw [← List.append_assoc, List.length_append, List.length_singleton]; omega
        · rw [← List.append_assoc]; exact hC_not q8
    · rw [wI_id (z := gS f (c0 172) p) (by omega) (by omega), wI_id (z := 33) (by omega) (by omega), wI_id (z := 40) (by omega) (by omega), if_neg g33, if_neg g33]
      by_cases g40 : gS f (c0 172) p = 40
      · have pf := lt0 (by omega)
        rw [if_pos g40, if_pos g40, zlet_eq, if_pos g40, zlet_eq, g40]
        have b0 := mdep hm ((dpt : Int) + 1)
        obtain ⟨m3, b3, b4⟩ := mpush b0 (by omega) 40
        have b5 := mnext b4
        rw [d1] at b5 b3 ⊢
        rw [b3, bI_some, zlet_eq, zlet_eq]
        have hfl : fl 0 0 (40 :: S) = 40 :: S := rfl
        obtain ⟨r, c1, a1, a2⟩ := hE (f - (p + 1).toNat) (dpt + 1) _ _ (p + 1) C (40 :: S) H 0 0 0 k2 FU (by omega) (by omega) (by omega) (Or.inr ⟨S, rfl⟩) (fun x hx => by
          rw [List.mem_cons] at hx
          rcases hx with rfl | hx
          · omega
          · exact ho x hx) (Or.inl rfl) (Or.inl rfl) (cnext hc) (by rw [hfl]; exact b5) (by omega) (by rw [hfl, List.length_cons]; omega) hH (by omega) (by omega) (by unfold FU; omega) (by omega)
        have a1' : X3_either (X3_factor n) (zu c 170 3 (c 170 3 + 1)) ((dpt + 1 : Nat) : Int) = some (r, c1) := a1
        rw [a1', bP_some]
        rcases a2 with ⟨rfl, a2⟩ | ⟨rfl, q, D, m1, k1, q1, q2, q3, q4, q5, q6, q7, q8, q9⟩
        · rw [if_pos (by decide)]
          exact ⟨0, c1, rfl, Or.inl ⟨rfl, a2⟩⟩
        · rw [if_neg (by decide : ¬ wI 1 = 0)]
          rw [List.length_cons] at q8
          have gq := T.rng (p := q) (by omega)
          have ltq := TG.lt (f := f) (c0 := c0) (p := q)
          have e20 : m1 0 20 = S.length + 1 := by have := q5.2.2.2.2.1; rw [List.length_cons] at this; omega
          rw [word1 T rfl (by decide : zsch 6 0 = 41) (by omega) q3 (by omega), q4, e20, wI_id (z := (S.length : Int) + 1) (by omega) (by omega), if_neg (by omega : ¬ (S.length : Int) + 1 = 0), wI_id (z := gS f (c0 172) q) (by omega) (by omega), wI_id (z := 41) (by omega) (by omega)]
          by_cases g41 : gS f (c0 172) q = 41
          · have qf := ltq (by omega)
            rw [if_pos g41, if_pos g41, bP_some, if_neg (by decide : ¬ wI 1 = 0)]
            have y1 := mpop q5
            have e21' : zu m1 0 20 (m1 0 20 - 1) 0 21 = ((dpt + 1 : Nat) : Int) := y1.2.2.2.2.2.2
            have y2 := mnext (mdep y1 (((dpt + 1 : Nat) : Int) - 1))
            obtain ⟨m5, y3, y4⟩ := mwhole hs0 hh S FU _ _ _ (by unfold FU; omega) (by omega) ho (by omega) y2
            have et : tailE e k1 m1 = X7_takesE_L22 e k1 m5 0 := by
              unfold tailE
              rw [zlet_eq, zlet_eq, zlet_eq, e21']
              have y3' : X7_whole _ = some m5 := y3
              rw [y3', bI_some]
            rw [et]
            rw [show ((dpt + 1 : Nat) : Int) - 1 = dpt by omega] at y4
            exact ⟨1, _, rfl, Or.inr ⟨rfl, q + 1, D, m5, k1, by omega, by omega, cnext q3, rfl, by omega, y4, by omega, q9⟩⟩
          · rw [if_neg g41, if_neg g41, bP_some, if_pos (by decide)]
            exact ⟨0, c1, rfl, Or.inl ⟨rfl, q, m1, by omega, q3.1, q3.2.1, rfl, q5.1, q5.2.1⟩⟩
      · rw [if_neg g40, if_neg g40]
        exact tst
end EXPR2
