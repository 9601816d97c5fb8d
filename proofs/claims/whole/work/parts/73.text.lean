/-! THE TEXT: how both sides read it, and what they write of it -/
def gS (f : Nat) (t : Int → Int) (p : Int) : Int := if p < f then t p else -1
def TG (c0 m0 : PS) (f : Nat) : Prop := f ≤ 100 ∧ c0 170 0 = f ∧ m0 0 8 = f ∧ (∀ i : Int, 0 ≤ i → i < f → m0 11 i = c0 172 i ∧ 0 ≤ c0 172 i ∧ c0 172 i ≤ 127) ∧ RLt m0
theorem TG.rng {c0 m0 : PS} {f : Nat} (T : TG c0 m0 f) {p : Int} (h : 0 ≤ p) : -1 ≤ gS f (c0 172) p ∧ gS f (c0 172) p ≤ 127 := by
  unfold gS
  by_cases q : p < f
  · rw [if_pos q]; have := (T.2.2.2.1 p h q).2; omega
  · rw [if_neg q]; omega
theorem TG.lt {c0 : PS} {f : Nat} {p : Int} (h : gS f (c0 172) p ≠ -1) : p < f := by
  by_cases q : p < f
  · exact q
  · unfold gS at h; rw [if_neg q] at h; exact absurd rfl h
def ceP (z0 : Int) (b : Nat) (j : Int) : Prop := (165 ≤ b ∧ b ≤ 167 ∧ z0 ≤ j) ∨ (b = 160 ∧ j = 4) ∨ (b = 170 ∧ j = 3)
def meP (s0 hi e : Int) (b : Nat) (j : Int) : Prop := (b = 16 ∧ j = e) ∨ (b = 17 ∧ s0 ≤ j ∧ j < hi) ∨ b = 18 ∨ (b = 0 ∧ (j = 9 ∨ j = 10 ∨ j = 19 ∨ j = 20 ∨ j = 21))
def WS (m : PS) : List Int → Prop
  | [] => True
  | x :: S => m 18 S.length = x ∧ WS m S
theorem WS.keep {m m' : PS} : ∀ {S : List Int}, WS m S → (∀ j : Int, 0 ≤ j → j < S.length → m' 18 j = m 18 j) → WS m' S
  | [], _, _ => trivial
  | x :: S, h, H => by
    simp only [List.length_cons] at H
    exact ⟨(H _ (by omega) (by omega)).trans h.1, WS.keep h.2 (fun j j1 j2 => H j j1 (by omega))⟩
theorem CAt_app {st : PS} {S : Nat} : ∀ {C D : List Int} {p : Int}, CAt st S p (C ++ D) ↔ CAt st S p C ∧ CAt st S (p + C.length) D
  | [], D, p => by simp [CAt]
  | t :: C, D, p => by
    simp only [List.cons_append, CAt, List.length_cons]
    rw [CAt_app, show p + 1 + (C.length : Int) = p + ((C.length + 1 : Nat) : Int) by omega]
    constructor
    · rintro ⟨a, b, c, d⟩; exact ⟨⟨a, b, c⟩, d⟩
    · rintro ⟨⟨a, b, c⟩, d⟩; exact ⟨a, b, c, d⟩
theorem MC_app {st : PS} : ∀ {C D : List Int} {p : Int}, MC st p (C ++ D) ↔ MC st p C ∧ MC st (p + C.length) D
  | [], D, p => by simp [MC]
  | t :: C, D, p => by
    simp only [List.cons_append, MC, List.length_cons]
    rw [MC_app, show p + 1 + (C.length : Int) = p + ((C.length + 1 : Nat) : Int) by omega]
    constructor
    · rintro ⟨a, c, d⟩; exact ⟨⟨a, c⟩, d⟩
    · rintro ⟨⟨a, c⟩, d⟩; exact ⟨a, c, d⟩
theorem CAt.keep {st st' : PS} {S : Nat} : ∀ {C : List Int} {p : Int}, CAt st S p C → (∀ (b : Nat) (j : Int), S + 5 ≤ b → b ≤ S + 7 → p ≤ j → j < p + C.length → st' b j = st b j) → CAt st' S p C
  | [], _, _, _ => trivial
  | t :: C, p, h, H => by
    simp only [List.length_cons] at H
    obtain ⟨a, b, c⟩ := h
    exact ⟨(H _ _ (by omega) (by omega) (by omega) (by omega)).trans a, fun q => ⟨(H _ _ (by omega) (by omega) (by omega) (by omega)).trans (b q).1, (H _ _ (by omega) (by omega) (by omega) (by omega)).trans (b q).2⟩, CAt.keep c (fun b j h1 h2 h3 h4 => H b j h1 h2 (by omega) (by omega))⟩
theorem MC.keep {st st' : PS} : ∀ {C : List Int} {p : Int}, MC st p C → (∀ j : Int, p ≤ j → j < p + C.length → st' 17 j = st 17 j) → MC st' p C
  | [], _, _, _ => trivial
  | t :: C, p, h, H => by
    simp only [List.length_cons] at H
    exact ⟨(H _ (by omega) (by omega)).trans h.1, MC.keep h.2 (fun j h1 h2 => H j (by omega) (by omega))⟩
def hC : List Int → Nat → Option Nat
  | [], h => some h
  | t :: c, h => if t = -33 then (if 1 ≤ h then hC c h else none) else if t = -38 ∨ t = -124 then (if 2 ≤ h then hC c (h - 1) else none) else if 0 ≤ t ∧ t < 6000 ∧ t / 100 % 10 ≤ 2 ∧ h + 1 ≤ 12 then hC c (h + 1) else none
theorem hC_app : ∀ {C D : List Int} {h k : Nat}, hC C h = some k → hC (C ++ D) h = hC D k
  | [], D, h, k, q => by rw [hC] at q; rw [List.nil_append, Option.some.inj q]
  | t :: C, D, h, k, q => by
    rw [List.cons_append, hC]
    rw [hC] at q
    by_cases c1 : t = -33
    · rw [if_pos c1] at q ⊢
      by_cases c2 : 1 ≤ h
      · rw [if_pos c2] at q ⊢; exact hC_app q
      · rw [if_neg c2] at q; exact absurd q (by simp)
    · rw [if_neg c1] at q ⊢
      by_cases c2 : t = -38 ∨ t = -124
      · rw [if_pos c2] at q ⊢
        by_cases c3 : 2 ≤ h
        · rw [if_pos c3] at q ⊢; exact hC_app q
        · rw [if_neg c3] at q; exact absurd q (by simp)
      · rw [if_neg c2] at q ⊢
        by_cases c3 : 0 ≤ t ∧ t < 6000 ∧ t / 100 % 10 ≤ 2 ∧ h + 1 ≤ 12
        · rw [if_pos c3] at q ⊢; exact hC_app q
        · rw [if_neg c3] at q; exact absurd q (by simp)
theorem hC_ok : ∀ {C : List Int} {h : Nat}, hC C h = some 1 → okC C h = true
  | [], h, q => by rw [hC] at q; rw [okC]; exact decide_eq_true (Option.some.inj q)
  | t :: C, h, q => by
    rw [hC] at q
    rw [okC]
    by_cases c1 : t = -33
    · rw [if_pos c1] at q ⊢
      by_cases c2 : 1 ≤ h
      · rw [if_pos c2] at q; rw [decide_eq_true c2, hC_ok q]; rfl
      · rw [if_neg c2] at q; exact absurd q (by simp)
    · rw [if_neg c1] at q ⊢
      by_cases c2 : t = -38 ∨ t = -124
      · rw [if_pos c2] at q ⊢
        by_cases c3 : 2 ≤ h
        · rw [if_pos c3] at q; rw [decide_eq_true c3, hC_ok q]; rfl
        · rw [if_neg c3] at q; exact absurd q (by simp)
      · rw [if_neg c2] at q ⊢
        by_cases c3 : 0 ≤ t ∧ t < 6000 ∧ t / 100 % 10 ≤ 2 ∧ h + 1 ≤ 12
        · rw [if_pos c3] at q; rw [decide_eq_true c3, hC_ok q]; rfl
        · rw [if_neg c3] at q; exact absurd q (by simp)
def CP (c0 : PS) (z0 : Int) (c : PS) (p : Int) (C : List Int) : Prop := Same c0 c (ceP z0) ∧ c 170 3 = p ∧ c 160 4 = z0 + C.length ∧ CAt c 160 z0 C
def MP (m0 : PS) (s0 hi e : Int) (m : PS) (p : Int) (C S : List Int) (d : Int) : Prop := Same m0 m (meP s0 hi e) ∧ m 0 9 = p ∧ m 0 19 = s0 + C.length ∧ MC m s0 C ∧ m 0 20 = S.length ∧ WS m S ∧ m 0 21 = d
section TEXTS
variable {c0 m0 c m : PS} {f : Nat} {z0 s0 hi e p d : Int} {C S : List Int}
theorem csign (T : TG c0 m0 f) (h : CP c0 z0 c p C) (hp : 0 ≤ p ∧ p ≤ f) : X3_sign c = some (gS f (c0 172) p) := by
  obtain ⟨f1, f2, f3, f4, -⟩ := T
  obtain ⟨h1, h2, h3, h4⟩ := h
  have e0 : c 170 0 = f := (h1 _ _ (by unfold ceP; omega)).trans f2
  unfold X3_sign gS
  rw [e0, h2, wI_id (z := (f : Int)) (by omega) (by omega), wI_id (z := p) (by omega) (by omega)]
  by_cases q : (f : Int) ≤ p
  · rw [if_pos q, if_neg (by omega)]
  · rw [if_neg q, if_pos (by omega), zrd_ok (by omega) (by omega) (by omega), bI_some, h1 _ _ (by unfold ceP; omega)]
theorem cnext (h : CP c0 z0 c p C) : CP c0 z0 (zu c 170 3 ((c 170 3) + 1)) (p + 1) C := by
  obtain ⟨h1, h2, h3, h4⟩ := h
  exact ⟨fun b j hb => by rw [zu_o (by unfold ceP at hb; omega)]; exact h1 b j hb, by rw [zu_at, h2], by rw [zu_o (by omega)]; exact h3, h4.keep fun b j b1 b2 j1 j2 => zu_o (by omega)⟩
theorem cput (h : CP c0 z0 c p C) (hz : 0 ≤ z0) (hl : z0 + C.length < 100) {t s n : Int} (ht : 0 ≤ t → s = 60 + t / 100 % 10 ∧ n = t % 100) : ∃ c', X2_put 160 c (stpC t) s n = some c' ∧ CP c0 z0 c' p (C ++ [t]) := by
  obtain ⟨h1, h2, h3, h4⟩ := h
  unfold X2_put
  have g1 : zu c (160 + 5) (z0 + C.length) (stpC t) 160 4 = z0 + C.length := (zu_o (by omega)).trans h3
  have g2 : zu (zu c (160 + 5) (z0 + C.length) (stpC t)) (160 + 6) (z0 + C.length) s 160 4 = z0 + C.length := (zu_o (by omega)).trans g1
  rw [h3, wI_id (z := 100) (by omega) (by omega), wI_id (z := z0 + (C.length : Int)) (by omega) (by omega), if_neg (by omega), zwr_ok (by omega) (by omega) (by omega), bI_some, g1, zwr_ok (by omega) (by omega) (by omega), bI_some, g2, zwr_ok (by omega) (by omega) (by omega), bI_some, zlet_eq]
  refine ⟨_, rfl, fun b j hb => ?_, ?_, ?_, CAt_app.mpr ⟨h4.keep fun b j b1 b2 j1 j2 => ?_, ?_, fun q => ⟨?_, ?_⟩, trivial⟩⟩
  · unfold ceP at hb
    rw [zu_o (by omega), zu_o (by omega), zu_o (by omega), zu_o (by omega)]
    exact h1 b j (by unfold ceP; omega)
  · rw [zu_o (by omega), zu_o (by omega), zu_o (by omega), zu_o (by omega)]; exact h2
  · rw [zu_at, zu_o (by omega), g2, List.length_append, List.length_singleton]; omega
  · rw [zu_o (by omega), zu_o (by omega), zu_o (by omega), zu_o (by omega)]
  · rw [zu_o (by omega), zu_o (by omega), zu_o (by omega), zu_at]
  · rw [zu_o (by omega), zu_o (by omega), zu_at]; exact (ht q).1
  · rw [zu_o (by omega), zu_at]; exact (ht q).2
theorem msign (T : TG c0 m0 f) (h : MP m0 s0 hi e m p C S d) (hp : 0 ≤ p ∧ p ≤ f) : X7_next m = some (gS f (c0 172) p) := by
  obtain ⟨f1, f2, f3, f4, -⟩ := T
  obtain ⟨h1, h2, -⟩ := h
  have e0 : m 0 8 = f := (h1 _ _ (by unfold meP; omega)).trans f3
  unfold X7_next gS
  rw [e0, h2, wI_id (z := (f : Int)) (by omega) (by omega), wI_id (z := p) (by omega) (by omega)]
  by_cases q : (f : Int) ≤ p
  · rw [if_pos q, if_neg (by omega)]
  · rw [if_neg q, if_pos (by omega), zrd_ok (by omega) (by omega) (by omega), bI_some, h1 _ _ (by unfold meP; omega), (f4 p hp.1 (by omega)).1]
theorem mnext (h : MP m0 s0 hi e m p C S d) : MP m0 s0 hi e (zu m 0 9 ((m 0 9) + 1)) (p + 1) C S d := by
  obtain ⟨h1, h2, h3, h4, h5, h6, h7⟩ := h
  exact ⟨fun b j hb => by rw [zu_o (by unfold meP at hb; omega)]; exact h1 b j hb, by rw [zu_at, h2], (zu_o (by omega)).trans h3, h4.keep fun j j1 j2 => zu_o (by omega), (zu_o (by omega)).trans h5, h6.keep fun j j1 j2 => zu_o (by omega), (zu_o (by omega)).trans h7⟩
theorem memit (h : MP m0 s0 hi e m p C S d) (hs : 0 ≤ s0) (hl : s0 + C.length < hi) (hh : hi ≤ 600) (t : Int) : ∃ m', X7_emits m t = some m' ∧ MP m0 s0 hi e m' p (C ++ [t]) S d := by
  obtain ⟨h1, h2, h3, h4, h5, h6, h7⟩ := h
  unfold X7_emits
  have g1 : zu m 17 (s0 + C.length) t 0 19 = s0 + C.length := (zu_o (by omega)).trans h3
  rw [h3, zwr_ok (by omega) (by omega) (by omega), bI_some, g1, zlet_eq]
  refine ⟨_, rfl, fun b j hb => ?_, ?_, ?_, MC_app.mpr ⟨h4.keep fun j j1 j2 => ?_, ?_, trivial⟩, ?_, h6.keep fun j j1 j2 => ?_, ?_⟩
  · unfold meP at hb
    rw [zu_o (by omega), zu_o (by omega)]
    exact h1 b j (by unfold meP; omega)
  · rw [zu_o (by omega), zu_o (by omega)]; exact h2
  · rw [zu_at, List.length_append, List.length_singleton]; omega
  · rw [zu_o (by omega), zu_o (by omega)]
  · rw [zu_o (by omega), zu_at]
  · rw [zu_o (by omega), zu_o (by omega)]; exact h5
  · rw [zu_o (by omega), zu_o (by omega)]
  · rw [zu_o (by omega), zu_o (by omega)]; exact h7
theorem mpush (h : MP m0 s0 hi e m p C S d) (hl : S.length < 101) (x : Int) : ∃ m', zwr m 18 101 (m 0 20) x = some m' ∧ MP m0 s0 hi e (zu m' 0 20 ((m' 0 20) + 1)) p C (x :: S) d := by
  obtain ⟨h1, h2, h3, h4, h5, h6, h7⟩ := h
  rw [h5, zwr_ok (by omega) (by omega) (by omega)]
  refine ⟨_, rfl, fun b j hb => ?_, ?_, ?_, h4.keep fun j j1 j2 => ?_, ?_, ⟨?_, h6.keep fun j j1 j2 => ?_⟩, ?_⟩
  · unfold meP at hb
    rw [zu_o (by omega), zu_o (by omega)]
    exact h1 b j (by unfold meP; omega)
  · rw [zu_o (by omega), zu_o (by omega)]; exact h2
  · rw [zu_o (by omega), zu_o (by omega)]; exact h3
  · rw [zu_o (by omega), zu_o (by omega)]
  · rw [zu_at, zu_o (by omega), h5, List.length_cons]; omega
  · rw [zu_o (by omega), zu_at]
  · rw [zu_o (by omega), zu_o (by omega)]
  · rw [zu_o (by omega), zu_o (by omega)]; exact h7
theorem mpop {x : Int} (h : MP m0 s0 hi e m p C (x :: S) d) : MP m0 s0 hi e (zu m 0 20 ((m 0 20) - 1)) p C S d := by
  obtain ⟨h1, h2, h3, h4, h5, h6, h7⟩ := h
  rw [List.length_cons] at h5
  exact ⟨fun b j hb => by rw [zu_o (by unfold meP at hb; omega)]; exact h1 b j hb, (zu_o (by omega)).trans h2, (zu_o (by omega)).trans h3, h4.keep fun j j1 j2 => zu_o (by omega), by rw [zu_at]; omega, h6.2.keep fun j j1 j2 => zu_o (by omega), (zu_o (by omega)).trans h7⟩
theorem mtop {x : Int} (h : MP m0 s0 hi e m p C (x :: S) d) (hl : S.length < 101) : m 0 20 = S.length + 1 ∧ zrd m 18 101 ((m 0 20) - 1) = some x := by
  obtain ⟨h1, h2, h3, h4, h5, h6, h7⟩ := h
  rw [List.length_cons] at h5
  refine ⟨by omega, ?_⟩
  rw [zrd_ok (by omega) (by omega) (by omega), show m 0 20 - 1 = S.length by omega, h6.1]
theorem mdep (h : MP m0 s0 hi e m p C S d) (x : Int) : MP m0 s0 hi e (zu m 0 21 x) p C S x := by
  obtain ⟨h1, h2, h3, h4, h5, h6, h7⟩ := h
  exact ⟨fun b j hb => by rw [zu_o (by unfold meP at hb; omega)]; exact h1 b j hb, (zu_o (by omega)).trans h2, (zu_o (by omega)).trans h3, h4.keep fun j j1 j2 => zu_o (by omega), (zu_o (by omega)).trans h5, h6.keep fun j j1 j2 => zu_o (by omega), zu_at⟩
theorem mto (h : MP m0 s0 hi e m p C S d) (he : 0 ≤ e ∧ e < 60) : ∃ m', zwr m 16 60 e (m 0 19) = some m' ∧ MP m0 s0 hi e m' p C S d ∧ m' 16 e = s0 + C.length := by
  obtain ⟨h1, h2, h3, h4, h5, h6, h7⟩ := h
  rw [zwr_ok (by omega) (by omega) (by omega)]
  refine ⟨_, rfl, ⟨fun b j hb => by rw [zu_o (by unfold meP at hb; omega)]; exact h1 b j hb, (zu_o (by omega)).trans h2, (zu_o (by omega)).trans h3, h4.keep fun j j1 j2 => zu_o (by omega), (zu_o (by omega)).trans h5, h6.keep fun j j1 j2 => zu_o (by omega), (zu_o (by omega)).trans h7⟩, by rw [zu_at, h3]⟩
end TEXTS
def letP (v : Int) : Int := if v = 104 then 0 else if v = 107 then 1 else if v = 118 then 2 else if v = 101 then 3 else if v = 98 then 4 else if v = 121 then 5 else -1
theorem zix_all : ∀ v : Fin 128, zix 0 (wC (v.val : Int)) = some (letP (v.val : Int)) := by decide +kernel
theorem zix_ok {v : Int} (h : 0 ≤ v ∧ v ≤ 127) : zix 0 (wC v) = some (letP v) := by
  have := zix_all ⟨v.toNat, by omega⟩
  rw [show ((v.toNat : Nat) : Int) = v by omega] at this
  exact this
theorem place_ok {st : PS} {v : Int} (h : -1 ≤ v ∧ v ≤ 127) : X7_place st v = letP v := by
  unfold X7_place letP
  rw [wI_id (by omega) (by omega)]
  repeat' split
  all_goals omega
theorem letP_rng (v : Int) : -1 ≤ letP v ∧ letP v ≤ 5 := by
  unfold letP
  repeat' split
  all_goals omega
