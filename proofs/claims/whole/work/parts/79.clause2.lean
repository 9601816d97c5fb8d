/-! CLAUSES: one by one -/
def kPC (cnt z : Int) (b : Nat) (j : Int) : Prop := (b = 170 ∧ j = 3) ∨ (b = 160 ∧ (j = 0 ∨ j = 1 ∨ j = 4)) ∨ ((b = 162 ∨ b = 163) ∧ j = cnt) ∨ (165 ≤ b ∧ b ≤ 167 ∧ z ≤ j)
def kPM (e s0 hi : Int) (b : Nat) (j : Int) : Prop := (b = 0 ∧ (j = 9 ∨ j = 10 ∨ j = 19 ∨ j = 20 ∨ j = 21)) ∨ b = 18 ∨ (13 ≤ b ∧ b ≤ 16 ∧ j = e) ∨ (b = 17 ∧ s0 ≤ j ∧ j < hi)
section CLAUSE2
variable {c m : PS} {f : Nat} {p z s0 hi e cnt : Int}
theorem msecond (T : TG c m f) (hm : m 0 9 = p) (hp : 0 ≤ p ∧ p ≤ f) : X7_second m = some (gS f (c 172) (p + 1)) := by
  obtain ⟨f1, f2, f3, f4, -⟩ := T
  unfold X7_second gS
  rw [f3, hm, wI_id (z := (f : Int)) (by omega) (by omega), wI_id (z := p + 1) (by omega) (by omega)]
  by_cases q : (f : Int) ≤ p + 1
  · rw [if_pos q, if_neg (by omega)]
  · rw [if_neg q, if_pos (by omega), zrd_ok (by omega) (by omega) (by omega), bI_some, (f4 (p + 1) (by omega) (by omega)).1]
def CLo (c c' m m' : PS) (f : Nat) (p z s0 hi e cnt r : Int) : Prop := Same c c' (kPC cnt z) ∧ Same m m' (kPM e s0 hi) ∧ ∃ q' : Int, c' 170 3 = q' ∧ m' 0 9 = q' ∧ (0 ≤ q' ∧ q' ≤ f) ∧ (r = 0 ∨ (r = 1 ∧ ∃ (w n : Int) (D : List Int), p + 3 ≤ q' ∧ (w = 0 ∨ w = 1 ∨ w = 2 ∨ w = 3) ∧ m' 13 e = w ∧ c' 160 4 = z + D.length ∧ m' 0 19 = s0 + D.length ∧ z + D.length ≤ q' ∧ ((w = 0 ∨ w = 1) → (0 ≤ n ∧ n ≤ 99) ∧ okC D 0 = true ∧ c' 160 0 = c 160 0 ∧ c' 162 cnt = (if w = 0 then n else -n) ∧ c' 163 cnt = z + D.length ∧ CAt c' 160 z D ∧ c' 160 1 = cnt + 1 ∧ m' 14 e = n ∧ m' 15 e = s0 ∧ m' 16 e = s0 + D.length ∧ MC m' s0 D) ∧ ((w = 2 ∨ w = 3) → c' 160 0 = (if w = 2 then 1 else 0) ∧ c' 160 1 = cnt ∧ D = [])))
theorem clause_sim (T : TG c m f) (hh : hi ≤ 600) (hs : s0 = hi - 100 + z) (hs0 : 0 ≤ s0) (he : 0 ≤ e ∧ e < 60) (hz : 0 ≤ z ∧ z ≤ p) (hp : 0 ≤ p ∧ p ≤ f) (hc : c 170 3 = p) (hm : m 0 9 = p) (c4 : c 160 4 = z) (c1 : c 160 1 = cnt) (hcnt : 0 ≤ cnt ∧ cnt ≤ 9) (m19 : m 0 19 = s0) : ∃ (r : Int) (c' m' : PS), X3_clause c = some (r, c') ∧ X7_takesClause m e = some (r, m') ∧ CLo c c' m m' f p z s0 hi e cnt r := by
  have f1 := T.1
  have hCP : CP c z c p [] := ⟨Same.rf, hc, by rw [c4]; simp, trivial⟩
  have g := T.rng hp.1
  have cs := csign T hCP hp
  have ms := msignQ T (⟨Same.rf, hm⟩ : MK m m p) hp
  have m2nd := msecond T hm hp
  have S13 : ∀ w : Int, Same m (zu m 13 e w) (fun b j => b = 13 ∧ j = e) := fun w b j hb => zu_o (by omega)
  have T13 : ∀ w : Int, TG c (zu m 13 e w) f := fun w => T.same Same.rf (S13 w) (fun b j _ q => q) (fun b j q => by omega)
  have K13 : ∀ w : Int, MK (zu m 13 e w) (zu m 13 e w) p := fun w => ⟨Same.rf, (zu_o (by omega)).trans hm⟩
  have wkc : ∀ {b j}, ceP z b j → kPC cnt z b j := fun {b j} q => by unfold ceP at q; unfold kPC; omega
  -- an amount: word r there, letters from a here
  have amount : ∀ (rw_ : Nat) (a w : Int) (wd : List Int) (X : Int → Int), (wd ++ [32]).length = zsl rw_ → (wd ++ [32]).length ≤ 100 → LW rw_ 0 (wd ++ [32]) → 0 ≤ a ∧ a + 3 ≤ 13 → (wd.length : Int) = 3 → (∀ x ∈ wd, 0 ≤ x) → LM m a wd → (w = 0 ∨ w = 1) → (∀ n, X n = if w = 0 then n else -n) → ∃ (r : Int) (c' m' : PS), bP (X3_word rw_ c) (fun v4 s2 => if wI v4 = 0 then some (0, s2) else (bP (X3_number s2) (fun v5 s3 => if wI v5 < 0 then some (0, s3) else (bP (X3_word 5 s3) (fun v6 s4 => if wI v6 = 0 then some (0, s4) else (bP (X3_either (X3_factor 8) s4 0) (fun v7 s5 => if wI v7 = 0 then some (0, s5) else (bP (X2_close 160 s5 (X v5)) (fun v8 s6 => if wI v8 = 0 then some (0, s6) else (some (1, s6))))))))))) = some (r, c') ∧ bP (bI (zwr m 13 60 e w) (fun s1 => bP (X7_takesWord s1 a 3) (fun v3 s2 => zbit v3 (some (v3, s2))))) (fun v1 s1 => if wI v1 = 0 then some (0, s1) else (bI (zrd s1 13 60 e) (fun v2 => if wI v2 ≤ wI 1 then bP (X7_takesNumber s1) (fun v3 s2 => if wI v3 = 0 then some (0, s2) else (bI (zwr s2 14 60 e (s2 0 10)) (fun s3 => bP (X7_takes s3 32) (fun v4 s4 => if wI v4 = 0 then some (0, s4) else (bP (X7_takesE s4 e) (fun v5 s5 => if wI v5 = 0 then some (0, s5) else (some (1, s5)))))))) else (some (1, s1))))) = some (r, m') ∧ CLo c c' m m' f p z s0 hi e cnt r := by
    intro rw_ a w wd X k1 k2 k3 k4 k5 k6 k7 k8 k9
    have L13 : LM (zu m 13 e w) a wd := by
      have : ∀ (wd : List Int) (a : Int), LM m a wd → LM (zu m 13 e w) a wd := by
        intro wd
        induction wd with
        | nil => intro a _; exact trivial
        | cons x wd ih => intro a h; exact ⟨(zu_o (by omega)).trans h.1, h.2.1, ih _ h.2.2⟩
      exact this wd a k7
    obtain ⟨c2, b1, b2⟩ := cword (T13 w) k1 k2 k3 hCP hp
    obtain ⟨m2, b3, b4⟩ := mword (T13 w) k4 k5 k6 L13 (K13 w) hp
    have wr := wrd_rng (T13 w) (wd ++ [32]) p (fun x hx => by
      rw [List.mem_append, List.mem_singleton] at hx
      rcases hx with hx | rfl
      · exact k6 x hx
      · omega) hp
    have S2 : Same m m2 (fun b j => (b = 13 ∧ j = e) ∨ (b = 0 ∧ (j = 9 ∨ j = 10))) := (S13 w).tr b4.1 (fun b j q => Or.inl q) (fun b j q => Or.inr q)
    have e13 : m2 13 e = w := by rw [b4.1 _ _ (by omega)]; exact zu_at
    rw [b1, bP_some, zwr_ok (by omega) (by omega) (by omega), bI_some, b3, bP_some]
    by_cases q : (wrd (gS f (c 172)) (wd ++ [32]) p).1 = true
    · rw [if_pos q, if_neg (by decide : ¬ wI 1 = 0), zbit_ok (Or.inr rfl), bP_some, if_neg (by decide : ¬ wI 1 = 0), zrd_ok (by omega) (by omega) (by omega), bI_some, e13, wI_id (z := w) (by omega) (by omega), wI_id (z := 1) (by omega) (by omega), if_pos (by omega : w ≤ 1)]
      have wl := wr.2.2 q
      obtain ⟨h1, h2, h3, h4⟩ := b2
      simp only [List.length_nil] at h3
      have T2 : TG c2 m2 f := T.same h1 S2 (fun b j q => by unfold ceP; omega) (fun b j q => by omega)
      rw [List.length_append, List.length_singleton] at wl
      obtain ⟨r, c', m', a1, a2, a3, a4, q', a5, a6, a7, a8⟩ := amount_sim (X := X) (cnt := cnt) (z := z) T2 hh hs hs0 he (by omega) ⟨by omega, wr.2.1⟩ h2 b4.2 (by omega) ((h1 _ _ (by unfold ceP; omega)).trans c1) hcnt ((S2 _ _ (by omega)).trans m19)
      refine ⟨r, c', m', a1, a2, (h1.wk (R := kPC cnt z) fun b j q => wkc q).tr a3 (fun _ _ q => q) (fun b j q => by unfold aPC at q; unfold kPC; omega), (S2.wk (R := kPM e s0 hi) fun b j q => by unfold kPM; omega).tr a4 (fun _ _ q => q) (fun b j q => by unfold aPM at q; unfold kPM; omega), q', a5, a6, a7, ?_⟩
      rcases a8 with x | ⟨x, n, D, x1, x2, x3, x4, x5, x6, x7, x8, x9, x10, x11, x12, x13, x14⟩
      · exact Or.inl x
      · refine Or.inr ⟨x, w, n, D, by omega, by omega, by rw [a4 _ _ (by unfold aPM; omega)]; exact e13, x8, x13, x14, fun _ => ⟨x2, x3, ?_, by rw [x4, k9], x5, x6, x7, x9, x10, x11, x12⟩, fun h => by omega⟩
        rw [a3 _ _ (by unfold aPC; omega), h1 _ _ (by unfold ceP; omega)]
    · rw [if_neg q, if_pos (by decide), zbit_ok (Or.inl rfl), bP_some, if_pos (by decide)]
      exact ⟨0, c2, m2, rfl, rfl, b2.1.wk fun b j q => wkc q, S2.wk fun b j q => by unfold kPM; omega, _, b2.2.1, b4.2, ⟨by omega, wr.2.1⟩, Or.inl rfl⟩
  -- a shape: ring or row
  have shape : ∀ (rw_ : Nat) (a n w x : Int) (wd : List Int), gS f (c 172) p = 114 → wd.length = zsl rw_ → wd.length ≤ 100 → LW rw_ 0 wd → 0 ≤ a ∧ a + n ≤ 13 → ((114 :: wd).length : Int) = n → (∀ y ∈ (114 :: wd), 0 ≤ y) → LM m a (114 :: wd) → (w = 2 ∧ x = 1 ∨ w = 3 ∧ x = 0) → 2 ≤ wd.length → ∃ (r : Int) (c' m' : PS), bP (X3_word rw_ (zu (zu c 170 3 ((c 170 3) + 1)) 160 0 x)) (fun v3 s4 => zbit v3 (some (v3, s4))) = some (r, c') ∧ (r = 0 ∨ r = 1) ∧ bP (bI (zwr m 13 60 e w) (fun s5 => bP (X7_takesAlone s5 a n) (fun v5 s6 => zbit v5 (some (v5, s6))))) (fun v1 s1 => if wI v1 = 0 then some (0, s1) else (bI (zrd s1 13 60 e) (fun v2 => if wI v2 ≤ wI 1 then bP (X7_takesNumber s1) (fun v3 s2 => if wI v3 = 0 then some (0, s2) else (bI (zwr s2 14 60 e (s2 0 10)) (fun s3 => bP (X7_takes s3 32) (fun v4 s4 => if wI v4 = 0 then some (0, s4) else (bP (X7_takesE s4 e) (fun v5 s5 => if wI v5 = 0 then some (0, s5) else (some (1, s5)))))))) else (some (1, s1))))) = some (r, m') ∧ CLo c c' m m' f p z s0 hi e cnt r := by
    intro rw_ a n w x wd g0 k1 k2 k3 k4 k5 k6 k7 k8 k10
    have pf := TG.lt (f := f) (c0 := c) (p := p) (by omega)
    have L13 : LM (zu m 13 e w) a (114 :: wd) := by
      have : ∀ (wd : List Int) (a : Int), LM m a wd → LM (zu m 13 e w) a wd := by
        intro wd
        induction wd with
        | nil => intro a _; exact trivial
        | cons x wd ih => intro a h; exact ⟨(zu_o (by omega)).trans h.1, h.2.1, ih _ h.2.2⟩
      exact this _ a k7
    have S2 : Same c (zu (zu c 170 3 ((c 170 3) + 1)) 160 0 x) (fun b j => (b = 170 ∧ j = 3) ∨ (b = 160 ∧ j = 0)) := fun b j hb => by rw [zu_o (by omega), zu_o (by omega)]
    have x3 : zu (zu c 170 3 ((c 170 3) + 1)) 160 0 x 170 3 = p + 1 := by rw [zu_o (by omega), zu_at, hc]
    have x0 : zu (zu c 170 3 ((c 170 3) + 1)) 160 0 x 160 0 = x := zu_at
    generalize zu (zu c 170 3 ((c 170 3) + 1)) 160 0 x = c2 at *
    have T2 : TG c2 (zu m 13 e w) f := (T13 w).same S2 Same.rf (fun b j q => by omega) (fun b j _ q => q)
    have e172 : c2 172 = c 172 := funext fun j => S2 _ _ (by omega)
    have hCP2 : CP c2 z c2 (p + 1) [] := ⟨Same.rf, x3, by rw [S2 _ _ (by omega), c4]; simp, trivial⟩
    obtain ⟨c3, b1, b2⟩ := cword T2 k1 k2 k3 hCP2 (by omega)
    obtain ⟨m2, b3, b4⟩ := malone (T13 w) k4 k5 L13 (K13 w) hp
    have ew : wrd (gS f (c 172)) (114 :: wd) p = wrd (gS f (c 172)) wd (p + 1) := by rw [wrd, if_pos g0]
    rw [e172] at b1 b2
    rw [ew] at b3 b4
    have wr := wrd_rng (T13 w) wd (p + 1) (fun y hy => k6 y (List.mem_cons_of_mem _ hy)) (by omega)
    have Sm : Same m m2 (fun b j => (b = 13 ∧ j = e) ∨ (b = 0 ∧ (j = 9 ∨ j = 10))) := (S13 w).tr b4.1 (fun b j q => Or.inl q) (fun b j q => Or.inr q)
    have e13 : m2 13 e = w := by rw [b4.1 _ _ (by omega)]; exact zu_at
    have Sc : Same c c3 (kPC cnt z) := (S2.wk (R := kPC cnt z) fun b j q => by unfold kPC; omega).tr b2.1 (fun _ _ q => q) (fun b j q => wkc q)
    rw [b1, bP_some, zwr_ok (by omega) (by omega) (by omega), bI_some, b3, bP_some]
    by_cases q : (wrd (gS f (c 172)) wd (p + 1)).1 = true
    · rw [if_pos q, zbit_ok (Or.inr rfl), zbit_ok (Or.inr rfl), bP_some, if_neg (by decide : ¬ wI 1 = 0), zrd_ok (by omega) (by omega) (by omega), bI_some, e13, wI_id (z := w) (by omega) (by omega), wI_id (z := 1) (by omega) (by omega), if_neg (by omega : ¬ w ≤ 1)]
      have wl := wr.2.2 q
      have n4 : c3 160 4 = z := by have := b2.2.2.1; simpa using this
      refine ⟨1, c3, m2, rfl, Or.inr rfl, rfl, Sc, Sm.wk fun b j q => by unfold kPM; omega, _, b2.2.1, b4.2, ⟨by omega, wr.2.1⟩, Or.inr ⟨rfl, w, 0, [], by omega, by omega, e13, ?_, ?_, ?_, fun h => by omega, fun h => ⟨?_, ?_, rfl⟩⟩⟩
      · rw [n4]; simp
      · rw [Sm _ _ (by omega), m19]; simp
      · simp only [List.length_nil]; omega
      · rw [b2.1 _ _ (by unfold ceP; omega), x0]
        rcases k8 with ⟨rfl, rfl⟩ | ⟨rfl, rfl⟩ <;> rfl
      · rw [b2.1 _ _ (by unfold ceP; omega), S2 _ _ (by omega)]; exact c1
    · rw [if_neg q, zbit_ok (Or.inl rfl), zbit_ok (Or.inl rfl), bP_some, if_pos (by decide)]
      exact ⟨0, c3, m2, rfl, Or.inl rfl, rfl, Sc, Sm.wk fun b j q => by unfold kPM; omega, _, b2.2.1, b4.2, ⟨by omega, wr.2.1⟩, Or.inl rfl⟩
  obtain ⟨lm0, lm3, lm6, lm10⟩ := LM_0 T.2.2.2.2
  unfold X3_clause X7_takesClause X7_takesHead
  rw [cs, bI_some, bI_some, bI_some, m2nd, bI_some, ms, bI_some]
  by_cases g116 : gS f (c 172) p = 116
  · rw [g116, if_pos rfl, if_neg (by decide : ¬ wI 116 = wI 114), if_neg (by decide : ¬ wI 116 = 97), if_pos (by decide : wI 116 = 116)]
    exact amount 3 3 1 [116, 97, 120] (fun n => -n) rfl (by decide) LW_3 (by omega) rfl (by decide) lm3 (Or.inr rfl) (fun n => by rw [if_neg (by decide)])
  · rw [wI_id (z := gS f (c 172) p) (by omega) (by omega), wI_id (z := 116) (by omega) (by omega), wI_id (z := 114) (by omega) (by omega), if_neg g116, if_neg g116]
    by_cases g114 : gS f (c 172) p = 114
    · rw [if_pos g114, if_neg (by omega : ¬ gS f (c 172) p = 97)]
      have pf := TG.lt (f := f) (c0 := c) (p := p) (by omega)
      have cs1 := csign T (cnext hCP) (by omega)
      have g1 := T.rng (p := p + 1) (by omega)
      unfold X3_shape
      rw [zlet_eq, cs1, bI_some, wI_id (z := gS f (c 172) (p + 1)) (by omega) (by omega), wI_id (z := 105) (by omega) (by omega)]
      by_cases g105 : gS f (c 172) (p + 1) = 105
      · obtain ⟨r, c', m', a1, a2, a3, a4⟩ := shape 1 6 4 2 1 [105, 110, 103] g114 rfl (by decide) LW_1 (by omega) rfl (by decide) lm6 (Or.inl ⟨rfl, rfl⟩) (by decide)
        have y0 : zu (zu c 170 3 (c 170 3 + 1)) 160 0 1 160 0 = 1 := zu_at
        simp only [if_pos g105]
        rw [zlet_eq, y0, if_neg (by decide : ¬ wI 1 = 0), a1, bP_some, zbit_ok a2]
        exact ⟨r, c', m', rfl, a3, a4⟩
      · obtain ⟨r, c', m', a1, a2, a3, a4⟩ := shape 2 10 3 3 0 [111, 119] g114 rfl (by decide) LW_2 (by omega) rfl (by decide) lm10 (Or.inr ⟨rfl, rfl⟩) (by decide)
        have y0 : zu (zu c 170 3 (c 170 3 + 1)) 160 0 0 160 0 = 0 := zu_at
        simp only [if_neg g105]
        rw [zlet_eq, y0, if_pos (by decide : wI 0 = 0), a1, bP_some, zbit_ok a2]
        exact ⟨r, c', m', rfl, a3, a4⟩
    · rw [if_neg g114]
      by_cases g97 : gS f (c 172) p = 97
      · rw [if_pos g97]
        exact amount 4 0 0 [97, 100, 100] (fun n => n) rfl (by decide) LW_4 (by omega) rfl (by decide) lm0 (Or.inl rfl) (fun n => by rw [if_pos rfl])
      · rw [if_neg g97]
        obtain ⟨c2, b1, b2⟩ := cword T (w := [97, 100, 100] ++ [32]) (r := 4) rfl (by decide) LW_4 hCP hp
        have ew : wrd (gS f (c 172)) ([97, 100, 100] ++ [32]) p = (false, p) := by
          show (if gS f (c 172) p = 97 then _ else (false, p)) = (false, p)
          rw [if_neg g97]
        rw [ew] at b1 b2
        have b1' : X3_word 4 c = some (0, c2) := b1
        have b2' : CP c z c2 p [] := b2
        have no : ∀ (a n w : Int) (wd : List Int), 0 ≤ a ∧ a + n ≤ 13 → ((114 :: wd).length : Int) = n → LM m a (114 :: wd) → (w = 2 ∨ w = 3) → bP (bI (zwr m 13 60 e w) (fun s5 => bP (X7_takesAlone s5 a n) (fun v5 s6 => zbit v5 (some (v5, s6))))) (fun v1 s1 => if wI v1 = 0 then some ((0 : Int), s1) else (bI (zrd s1 13 60 e) (fun v2 => if wI v2 ≤ wI 1 then bP (X7_takesNumber s1) (fun v3 s2 => if wI v3 = 0 then some (0, s2) else (bI (zwr s2 14 60 e (s2 0 10)) (fun s3 => bP (X7_takes s3 32) (fun v4 s4 => if wI v4 = 0 then some (0, s4) else (bP (X7_takesE s4 e) (fun v5 s5 => if wI v5 = 0 then some (0, s5) else (some (1, s5)))))))) else (some (1, s1))))) = some (0, zu m 13 e w) := by
          intro a n w wd k4 k5 k7 k8
          have L13 : ∀ (wd : List Int) (a : Int), LM m a wd → LM (zu m 13 e w) a wd := by
            intro wd
            induction wd with
            | nil => intro a _; exact trivial
            | cons x wd ih => intro a h; exact ⟨(zu_o (by omega)).trans h.1, h.2.1, ih _ h.2.2⟩
          have F1 : ∀ F, X7_takesAlone_L2 a n (F + 1) (zu m 13 e w) 0 = some (0, zu m 13 e w) := by
            intro F
            have l0 := L13 _ a k7
            simp only [List.length_cons] at k5
            rw [X7_takesAlone_L2, wI_id (z := n) (by omega) (by omega), if_neg (by rw [wI_id (by omega) (by omega)]; omega), zrd_ok (by omega) (by omega) (by omega), bI_some, Int.add_zero, l0.1, mtakes (T13 w) (x := 114) (by omega) (K13 w) hp, if_neg g114, bP_some, if_pos (by decide)]
          have F2 : X7_takesAlone (zu m 13 e w) a n = some (0, zu m 13 e w) := F1 99999
          rw [zwr_ok (by omega) (by omega) (by omega), bI_some, F2, bP_some, zbit_ok (Or.inl rfl), bP_some, if_pos (by decide)]
        have Sc : Same c c2 (kPC cnt z) := b2'.1.wk fun b j q => wkc q
        have fin : ∀ w : Int, CLo c c2 m (zu m 13 e w) f p z s0 hi e cnt 0 := fun w => ⟨Sc, (S13 w).wk fun b j q => by unfold kPM; omega, p, b2'.2.1, (zu_o (by omega)).trans hm, hp, Or.inl rfl⟩
        rw [b1', bP_some, if_pos (by decide)]
        by_cases g105 : wI (gS f (c 172) (p + 1)) = wI 105
        · simp only [if_pos g105]
          exact ⟨0, c2, _, rfl, no 6 4 2 [105, 110, 103] (by omega) rfl lm6 (Or.inl rfl), fin 2⟩
        · simp only [if_neg g105]
          exact ⟨0, c2, _, rfl, no 10 3 3 [111, 119] (by omega) rfl lm10 (Or.inr rfl), fin 3⟩
end CLAUSE2
