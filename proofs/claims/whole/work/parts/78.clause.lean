/-! CLAUSES OF THE TEXT -/
theorem TG.same {c m c' m' : PS} {f : Nat} {P Q : Nat → Int → Prop} (T : TG c m f) (hS : Same c c' P) (hT : Same m m' Q) (hP : ∀ (b : Nat) (j : Int), (b = 170 ∧ j = 0) ∨ b = 172 → ¬ P b j) (hQ : ∀ (b : Nat) (j : Int), (b = 0 ∧ j = 8) ∨ b = 11 ∨ b = 22 → ¬ Q b j) : TG c' m' f := by
  obtain ⟨f1, f2, f3, f4, f5⟩ := T
  refine ⟨f1, (hS _ _ (hP _ _ (by omega))).trans f2, (hT _ _ (hQ _ _ (by omega))).trans f3, fun i i1 i2 => ?_, fun i i1 i2 => (hT _ _ (hQ _ _ (by omega))).trans (f5 i i1 i2)⟩
  rw [hS _ _ (hP 172 i (by omega)), hT _ _ (hQ 11 i (by omega))]
  exact f4 i i1 i2
def aPC (cnt z : Int) (b : Nat) (j : Int) : Prop := (b = 170 ∧ j = 3) ∨ (b = 160 ∧ (j = 1 ∨ j = 4)) ∨ ((b = 162 ∨ b = 163) ∧ j = cnt) ∨ (165 ≤ b ∧ b ≤ 167 ∧ z ≤ j)
def aPM (e s0 hi : Int) (b : Nat) (j : Int) : Prop := (b = 0 ∧ (j = 9 ∨ j = 10 ∨ j = 19 ∨ j = 20 ∨ j = 21)) ∨ b = 18 ∨ ((b = 14 ∨ b = 15 ∨ b = 16) ∧ j = e) ∨ (b = 17 ∧ s0 ≤ j ∧ j < hi)
section CLAUSES
variable {c m : PS} {f : Nat} {q z s0 hi e cnt : Int}
theorem expr_sim (T : TG c m f) (hh : hi ≤ 600) (hs : s0 = hi - 100 + z) (hs0 : 0 ≤ s0) (he : 0 ≤ e ∧ e < 60) (hz : 0 ≤ z ∧ z ≤ q) (hq : 0 ≤ q ∧ q ≤ f) (hc : c 170 3 = q) (hm : m 0 9 = q) (c4 : c 160 4 = z) (m19 : m 0 19 = s0) : ∃ (r : Int) (c' m' : PS), X3_either (X3_factor 8) c 0 = some (r, c') ∧ X7_takesE m e = some (r, m') ∧ Same c c' (ceP z) ∧ Same m m' (aPM e s0 hi) ∧ ∃ q' : Int, c' 170 3 = q' ∧ m' 0 9 = q' ∧ (0 ≤ q' ∧ q' ≤ f) ∧ (r = 0 ∨ (r = 1 ∧ ∃ D : List Int, q + 3 ≤ q' ∧ CAt c' 160 z D ∧ c' 160 4 = z + D.length ∧ MC m' s0 D ∧ m' 0 19 = s0 + D.length ∧ m' 15 e = s0 ∧ m' 16 e = s0 + D.length ∧ z + D.length + 2 ≤ q' ∧ okC D 0 = true ∧ m' 14 = m 14)) := by
  have f1 := T.1
  have S3 : Same m (zu (zu (zu m 0 20 0) 0 21 0) 15 e s0) (fun b j => (b = 0 ∧ (j = 20 ∨ j = 21)) ∨ (b = 15 ∧ j = e)) := fun b j hb => by rw [zu_o (by omega), zu_o (by omega), zu_o (by omega)]
  have e19 : zu (zu m 0 20 0) 0 21 0 0 19 = s0 := by rw [zu_o (by omega), zu_o (by omega)]; exact m19
  have eE : X7_takesE m e = X7_takesE_L22 e FU (zu (zu (zu m 0 20 0) 0 21 0) 15 e s0) 1 := by
    unfold X7_takesE
    rw [zlet_eq, zlet_eq, e19, zwr_ok (by omega) (by omega) (by omega), bI_some]
  have x20 : zu (zu (zu m 0 20 0) 0 21 0) 15 e s0 0 20 = 0 := by rw [zu_o (by omega), zu_o (by omega), zu_at]
  have x21 : zu (zu (zu m 0 20 0) 0 21 0) 15 e s0 0 21 = 0 := by rw [zu_o (by omega), zu_at]
  have x15 : zu (zu (zu m 0 20 0) 0 21 0) 15 e s0 15 e = s0 := zu_at
  generalize zu (zu (zu m 0 20 0) 0 21 0) 15 e s0 = m3 at *
  have T3 : TG c m3 f := T.same Same.rf S3 (fun b j _ q => q) (fun b j q => by omega)
  have hCP : CP c z c q [] := ⟨Same.rf, hc, by rw [c4]; simp, trivial⟩
  have hMP : MP m3 s0 hi e m3 q [] [] ((0 : Nat) : Int) := ⟨Same.rf, (S3 _ _ (by omega)).trans hm, by rw [S3 _ _ (by omega), m19]; simp, trivial, x20, trivial, x21⟩
  obtain ⟨r, c', a1, a2⟩ := either_sim T3 hz.1 hs hs0 hh he (factor_sim T3 hz.1 hs hs0 hh he 8) f 0 c m3 q [] [] 0 0 0 0 FU FU (by omega) (by omega) (by omega) (Or.inl rfl) (fun x hx => absurd hx List.not_mem_nil) (Or.inl rfl) (Or.inl rfl) hCP hMP hq (by simp [fl]; omega) rfl (by omega) (by omega) (by unfold FU; omega) (by unfold FU; omega)
  have a1' : X3_either (X3_factor 8) c 0 = some (r, c') := a1
  rcases a2 with ⟨rfl, q', m', b1, b2, b3, b4, b5, b6⟩ | ⟨rfl, q', D, m', k', b1, b2, b3, b4, b5, b6, b7, b8, b9⟩
  · refine ⟨0, c', m', a1', eE.trans b4, b2, S3.tr b5 (fun b j q => by unfold aPM; omega) (fun b j q => by unfold meP at q; unfold aPM; omega), q', b3, b6, b1, Or.inl rfl⟩
  · have e20 : m' 0 20 = 0 := b5.2.2.2.2.1
    rw [e20, if_pos (by decide)] at b4
    rw [List.nil_append] at b3 b5 b6 b8 b9
    obtain ⟨u1, u2, u3, u4⟩ := b3
    obtain ⟨w1, w2, w3, w4, -⟩ := b5
    refine ⟨1, c', m', a1', eE.trans b4, u1, S3.tr w1 (fun b j q => by unfold aPM; omega) (fun b j q => by unfold meP at q; unfold aPM; omega), q', u2, w2, ⟨by omega, b2⟩, Or.inr ⟨rfl, D, b1, u4, u3, w4, w3, ?_, b6, ?_, hC_ok b9, ?_⟩⟩
    · rw [w1 _ _ (by unfold meP; omega)]; exact x15
    · simp only [List.length_nil] at b8; omega
    · funext j
      rw [w1 _ _ (by unfold meP; omega), S3 _ _ (by omega)]
theorem close_ok {x : Int} (h1 : c 160 1 = cnt) (hc : 0 ≤ cnt ∧ cnt ≤ 9) (h4 : c 160 4 = z) : ∃ c', X2_close 160 c x = some (1, c') ∧ Same c c' (fun b j => (b = 160 ∧ j = 1) ∨ ((b = 162 ∨ b = 163) ∧ j = cnt)) ∧ c' 160 1 = cnt + 1 ∧ c' 162 cnt = x ∧ c' 163 cnt = z := by
  have g1 : zu c (160 + 2) cnt x 160 1 = cnt := (zu_o (by omega)).trans h1
  have g4 : zu c (160 + 2) cnt x 160 4 = z := (zu_o (by omega)).trans h4
  unfold X2_close
  rw [h1, wI_id (z := cnt) (by omega) (by omega), wI_id (z := 10) (by omega) (by omega), if_pos (by omega), zwr_ok (by omega) (by omega) (by omega), bI_some, g1, g4, zwr_ok (by omega) (by omega) (by omega), bI_some, zlet_eq]
  refine ⟨_, rfl, fun b j hb => ?_, ?_, ?_, ?_⟩
  · rw [zu_o (by omega), zu_o (by omega), zu_o (by omega)]
  · rw [zu_at, zu_o (by omega), g1]
  · rw [zu_o (by omega), zu_o (by omega), zu_at]
  · rw [zu_o (by omega), zu_at]
theorem amount_sim {X : Int → Int} (T : TG c m f) (hh : hi ≤ 600) (hs : s0 = hi - 100 + z) (hs0 : 0 ≤ s0) (he : 0 ≤ e ∧ e < 60) (hz : 0 ≤ z ∧ z ≤ q) (hq : 0 ≤ q ∧ q ≤ f) (hc : c 170 3 = q) (hm : m 0 9 = q) (c4 : c 160 4 = z) (c1 : c 160 1 = cnt) (hcnt : 0 ≤ cnt ∧ cnt ≤ 9) (m19 : m 0 19 = s0) : ∃ (r : Int) (c' m' : PS), bP (X3_number c) (fun v5 s3 => if wI v5 < 0 then some (0, s3) else (bP (X3_word 5 s3) (fun v6 s4 => if wI v6 = 0 then some (0, s4) else (bP (X3_either (X3_factor 8) s4 0) (fun v7 s5 => if wI v7 = 0 then some (0, s5) else (bP (X2_close 160 s5 (X v5)) (fun v8 s6 => if wI v8 = 0 then some (0, s6) else (some (1, s6))))))))) = some (r, c') ∧ bP (X7_takesNumber m) (fun v3 s2 => if wI v3 = 0 then some (0, s2) else (bI (zwr s2 14 60 e (s2 0 10)) (fun s3 => bP (X7_takes s3 32) (fun v4 s4 => if wI v4 = 0 then some (0, s4) else (bP (X7_takesE s4 e) (fun v5 s5 => if wI v5 = 0 then some (0, s5) else (some (1, s5)))))))) = some (r, m') ∧ Same c c' (aPC cnt z) ∧ Same m m' (aPM e s0 hi) ∧ ∃ q' : Int, c' 170 3 = q' ∧ m' 0 9 = q' ∧ (0 ≤ q' ∧ q' ≤ f) ∧ (r = 0 ∨ (r = 1 ∧ ∃ (n : Int) (D : List Int), q + 3 ≤ q' ∧ (0 ≤ n ∧ n ≤ 99) ∧ okC D 0 = true ∧ c' 162 cnt = X n ∧ c' 163 cnt = z + D.length ∧ CAt c' 160 z D ∧ c' 160 1 = cnt + 1 ∧ c' 160 4 = z + D.length ∧ m' 14 e = n ∧ m' 15 e = s0 ∧ m' 16 e = s0 + D.length ∧ MC m' s0 D ∧ m' 0 19 = s0 + D.length ∧ z + D.length ≤ q')) := by
  have f1 := T.1
  have hCP : CP c z c q [] := ⟨Same.rf, hc, by rw [c4]; simp, trivial⟩
  have hMK : MK m m q := ⟨Same.rf, hm⟩
  obtain ⟨c2, n1, n2⟩ := cnum T hCP hq
  obtain ⟨rr, m2, n3, n4, n5⟩ := mnumQ T hMK hq
  have nr : (numP (gS f (c 172)) q).2 = q ∧ (numP (gS f (c 172)) q).1 = -1 ∨ (0 ≤ (numP (gS f (c 172)) q).1 ∧ (numP (gS f (c 172)) q).1 ≤ 99 ∧ q + 1 ≤ (numP (gS f (c 172)) q).2 ∧ (numP (gS f (c 172)) q).2 ≤ f) := by
    have lt2 := TG.lt (f := f) (c0 := c) (p := q)
    have lt3 := TG.lt (f := f) (c0 := c) (p := q + 1)
    unfold numP
    by_cases w1 : 48 ≤ gS f (c 172) q ∧ gS f (c 172) q ≤ 57
    · rw [if_pos w1]
      have := lt2 (by omega)
      by_cases w2 : 48 ≤ gS f (c 172) (q + 1) ∧ gS f (c 172) (q + 1) ≤ 57
      · rw [if_pos w2]
        have := lt3 (by omega)
        refine Or.inr ⟨?_, ?_, ?_, ?_⟩ <;> simp only [] <;> omega
      · rw [if_neg w2]
        refine Or.inr ⟨?_, ?_, ?_, ?_⟩ <;> simp only [] <;> omega
    · rw [if_neg w1]; exact Or.inl ⟨rfl, rfl⟩
  rw [n1, bP_some, n3, bP_some]
  generalize numP (gS f (c 172)) q = vq at *
  have wk1 : ∀ {b j}, ceP z b j → aPC cnt z b j := fun {b j} q => by unfold ceP at q; unfold aPC; omega
  rcases nr with ⟨ea, eb⟩ | ⟨e1, e2, e3, e4⟩
  · rcases n5 with ⟨u1, u2⟩ | ⟨u1, u2, u3⟩
    · rw [u1, eb, if_pos (by decide : wI 0 = 0), if_pos (by decide : wI (-1) < 0)]
      exact ⟨0, c2, m2, rfl, rfl, n2.1.wk fun b j q => wk1 q, n4.1.wk fun b j q => by unfold aPM; omega, vq.2, n2.2.1, n4.2, by omega, Or.inl rfl⟩
    · omega
  · rcases n5 with ⟨u1, u2⟩ | ⟨u1, u2, u3⟩
    · omega
    rw [u1, if_neg (by decide : ¬ wI 1 = 0), wI_id (z := vq.1) (by omega) (by omega), if_neg (by omega : ¬ vq.1 < 0), u2, zwr_ok (by omega) (by omega) (by omega), bI_some]
    have S3 : Same m (zu m2 14 e vq.1) (fun b j => (b = 0 ∧ (j = 9 ∨ j = 10)) ∨ (b = 14 ∧ j = e)) := fun b j hb => by rw [zu_o (by omega)]; exact n4.1 b j (by omega)
    have z9 : zu m2 14 e vq.1 0 9 = vq.2 := (zu_o (by omega)).trans n4.2
    have z14 : zu m2 14 e vq.1 14 e = vq.1 := zu_at
    generalize zu m2 14 e vq.1 = m3 at *
    have T3 : TG c m3 f := T.same Same.rf S3 (fun b j _ q => q) (fun b j q => by omega)
    have g := T3.rng (p := vq.2) (by omega)
    have ltq := TG.lt (f := f) (c0 := c) (p := vq.2)
    rw [word1 T3 rfl (by decide : zsch 5 0 = 32) (by omega) n2 (by omega), mtakes T3 (x := 32) (by omega) (⟨Same.rf, z9⟩ : MK m3 m3 vq.2) (by omega)]
    by_cases g32 : gS f (c 172) vq.2 = 32
    · have qf := ltq (by omega)
      rw [if_pos g32, if_pos g32, bP_some, bP_some, if_neg (by decide : ¬ wI 1 = 0), if_neg (by decide : ¬ wI 1 = 0)]
      have hc4 := cnext n2
      have S4 : Same m (zu m3 0 9 (m3 0 9 + 1)) (fun b j => (b = 0 ∧ (j = 9 ∨ j = 10)) ∨ (b = 14 ∧ j = e)) := fun b j hb => by rw [zu_o (by omega)]; exact S3 b j hb
      have y9 : zu m3 0 9 (m3 0 9 + 1) 0 9 = vq.2 + 1 := by rw [zu_at, z9]
      have y14 : zu m3 0 9 (m3 0 9 + 1) 14 e = vq.1 := (zu_o (by omega)).trans z14
      generalize zu m3 0 9 (m3 0 9 + 1) = m4 at *
      generalize zu c2 170 3 (c2 170 3 + 1) = c4' at *
      obtain ⟨h1, h2, h3, h4⟩ := hc4
      simp only [List.length_nil] at h3
      have T4 : TG c4' m4 f := T.same h1 S4 (fun b j q => by unfold ceP; omega) (fun b j q => by omega)
      obtain ⟨r, c5, m5, a1, a2, a3, a4, q', a5, a6, a7, a8⟩ := expr_sim (z := z) T4 hh hs hs0 he (by omega) (by omega) h2 y9 (by omega) ((S4 _ _ (by omega)).trans m19)
      rw [a1, bP_some, a2, bP_some]
      have Sc5 : Same c c5 (aPC cnt z) := (h1.wk (R := aPC cnt z) fun b j q => wk1 q).tr a3 (fun _ _ q => q) (fun b j q => wk1 q)
      have Sm5 : Same m m5 (aPM e s0 hi) := (S4.wk (R := aPM e s0 hi) fun b j q => by unfold aPM; omega).tr a4 (fun _ _ q => q) (fun _ _ q => q)
      rcases a8 with rfl | ⟨rfl, D, b1, b2, b3, b4, b5, b6, b7, b8, b9, b10⟩
      · rw [if_pos (by decide), if_pos (by decide)]
        exact ⟨0, c5, m5, rfl, rfl, Sc5, Sm5, q', a5, a6, a7, Or.inl rfl⟩
      · rw [if_neg (by decide : ¬ wI 1 = 0), if_neg (by decide : ¬ wI 1 = 0)]
        have k1 : c5 160 1 = cnt := by rw [a3 _ _ (by unfold ceP; omega), h1 _ _ (by unfold ceP; omega)]; exact c1
        obtain ⟨c6, w1, w2, w3, w4, w5⟩ := close_ok (x := X vq.1) k1 hcnt b3
        rw [w1, bP_some, if_neg (by decide : ¬ wI 1 = 0)]
        refine ⟨1, c6, m5, rfl, rfl, Sc5.tr w2 (fun _ _ q => q) (fun b j q => by unfold aPC; omega), Sm5, q', (w2 _ _ (by omega)).trans a5, a6, a7, Or.inr ⟨rfl, vq.1, D, by omega, ⟨e1, e2⟩, b9, w4, w5, b2.keep fun b j b1 b2 j1 j2 => w2 _ _ (by omega), w3, (w2 _ _ (by omega)).trans b3, by rw [b10]; exact y14, b6, b7, b4, b5, by omega⟩⟩
    · rw [if_neg g32, if_neg g32, bP_some, bP_some, if_pos (by decide), if_pos (by decide)]
      exact ⟨0, c2, m3, rfl, rfl, n2.1.wk fun b j q => wk1 q, S3.wk fun b j q => by unfold aPM; omega, vq.2, n2.2.1, z9, by omega, Or.inl rfl⟩
end CLAUSES
