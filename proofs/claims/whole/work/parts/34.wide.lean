/-! the sorted row, and the class's wide row -/
theorem insL_len (x : Int) : ∀ l : List Int, (insL x l).length = l.length + 1
  | [] => rfl
  | a :: l => by
    rw [insL]; split
    · rw [List.length_cons, insL_len x l]; rfl
    · rfl
theorem insL_get (x : Int) : ∀ (l : List Int) (i : Nat), i ≤ l.length → (∀ j, j < i → l.getD j 0 ≤ x) → (i < l.length → x < l.getD i 0) → ∀ j, j ≤ l.length → (insL x l).getD j 0 = if j < i then l.getD j 0 else if j = i then x else l.getD (j - 1) 0
  | [], i, hi, _, _, j, hj => by
    have e1 : i = 0 := by simp at hi; exact hi
    have e2 : j = 0 := by simp at hj; exact hj
    subst e1; subst e2; rfl
  | a :: l, 0, _, _, h2, j, hj => by
    have h := h2 (by simp)
    simp only [List.getD_cons_zero] at h
    rw [insL, if_neg (by omega), if_neg (by omega)]
    cases j with
    | zero => rfl
    | succ j => rw [if_neg (by omega)]; rfl
  | a :: l, i + 1, hi, h1, h2, j, hj => by
    have h := h1 0 (by omega)
    simp only [List.getD_cons_zero] at h
    rw [insL, if_pos h]
    cases j with
    | zero => rw [if_pos (by omega)]; rfl
    | succ j =>
      have ih := insL_get x l i (by simp at hi; omega) (fun j hj => by have := h1 (j + 1) (by omega); simpa using this) (fun hl => by have := h2 (by simp; omega); simpa using this) j (by simp at hj; omega)
      rw [List.getD_cons_succ, ih]
      by_cases c : j < i
      · rw [if_pos c, if_pos (by omega : j + 1 < i + 1)]; rfl
      · rw [if_neg c, if_neg (by omega : ¬ j + 1 < i + 1)]
        by_cases c2 : j = i
        · rw [if_pos c2, if_pos (by omega : j + 1 = i + 1)]
        · rw [if_neg c2, if_neg (by omega : ¬ j + 1 = i + 1)]
          obtain ⟨j, rfl⟩ : ∃ j', j = j' + 1 := ⟨j - 1, by omega⟩
          rfl
def srtL (l : List Int) : Prop := ∀ i j, i ≤ j → j < l.length → l.getD i 0 ≤ l.getD j 0
theorem srtL_ins {x : Int} {l : List Int} (h : srtL l) : srtL (insL x l) := by
  have key : ∃ i, i ≤ l.length ∧ (∀ j, j < i → l.getD j 0 ≤ x) ∧ (i < l.length → x < l.getD i 0) := by
    have aux : ∀ m, m ≤ l.length → (∃ i, i ≤ m ∧ (∀ j, j < i → l.getD j 0 ≤ x) ∧ (i < m → x < l.getD i 0)) := by
      intro m
      induction m with
      | zero => intro _; exact ⟨0, by omega, fun j hj => by omega, fun h => by omega⟩
      | succ m ih =>
        intro hm
        obtain ⟨i, a1, a2, a3⟩ := ih (by omega)
        by_cases c : i < m
        · exact ⟨i, by omega, a2, fun _ => a3 c⟩
        · have e : i = m := by omega
          subst e
          by_cases d : l.getD i 0 ≤ x
          · exact ⟨i + 1, by omega, fun j hj => by
              by_cases q : j = i
              · rw [q]; exact d
              · exact a2 j (by omega), fun h => by omega⟩
          · exact ⟨i, by omega, a2, fun _ => by omega⟩
    exact aux l.length (Nat.le_refl _)
  obtain ⟨i, a1, a2, a3⟩ := key
  intro p q hpq hq
  rw [insL_len] at hq
  rw [insL_get x l i a1 a2 a3 p (by omega), insL_get x l i a1 a2 a3 q (by omega)]
  by_cases c1 : p < i
  · rw [if_pos c1]
    by_cases c2 : q < i
    · rw [if_pos c2]; exact h p q hpq (by omega)
    · rw [if_neg c2]
      by_cases c3 : q = i
      · rw [if_pos c3]; exact a2 p c1
      · rw [if_neg c3]; exact h p (q - 1) (by omega) (by omega)
  · rw [if_neg c1, if_neg (by omega : ¬ q < i)]
    by_cases c2 : p = i
    · rw [if_pos c2]
      by_cases c3 : q = i
      · rw [if_pos c3]; exact Int.le_refl _
      · rw [if_neg c3]
        have g1 := a3 (by omega)
        have g2 := h i (q - 1) (by omega) (by omega)
        omega
    · rw [if_neg c2, if_neg (by omega : ¬ q = i)]
      exact h (p - 1) (q - 1) (by omega) (by omega)
theorem wideF_srt {n : Nat} {ring : Int} {e s : Int → Int} {h far : Int} : ∀ m, srtL (wideF n ring e s h far m)
  | 0 => by
    intro i j hij hj
    simp [wideF] at hj
    have e1 : i = 0 := by omega
    rw [e1, hj]; exact Int.le_refl _
  | m + 1 => by
    rw [wideF]; split
    · exact wideF_srt m
    · split
      · exact wideF_srt m
      · exact srtL_ins (wideF_srt m)
def wideN (n : Nat) (ring h far : Int) : Nat → Nat
  | 0 => 1
  | o + 1 => if (o : Int) = h then wideN n ring h far o else if far < awayF n h o ring then wideN n ring h far o else wideN n ring h far o + 1
theorem wideF_len {n : Nat} {ring : Int} {e s : Int → Int} {h far : Int} : ∀ m, (wideF n ring e s h far m).length = wideN n ring h far m
  | 0 => rfl
  | m + 1 => by
    rw [wideF, wideN]; split
    · exact wideF_len m
    · split
      · exact wideF_len m
      · rw [insL_len, wideF_len m]
theorem wideN_all : ∀ n : Fin 8, ∀ h : Fin 8, ∀ r : Fin 2, ∀ m : Fin 8, m.val ≤ n.val → h.val < n.val → wideN n.val (r.val : Int) (h.val : Int) 2 m.val ≤ 5 := by decide +kernel
theorem wideN_le {n m : Nat} {ring h : Int} (hn : n ≤ 7) (hm : m ≤ n) (hr : ring = 0 ∨ ring = 1) (h0 : 0 ≤ h) (h1 : h < n) : wideN n ring h 2 m ≤ 5 := by
  have q := fun r : Fin 2 => wideN_all ⟨n, by omega⟩ ⟨h.toNat, by omega⟩ r ⟨m, by omega⟩ hm (by show h.toNat < n; omega)
  have e : ((h.toNat : Nat) : Int) = h := Int.toNat_of_nonneg h0
  rcases hr with rfl | rfl
  · have := q 0; simp only [e] at this; exact this
  · have := q 1; simp only [e] at this; exact this
theorem wideN_mono {n : Nat} {ring h far : Int} : ∀ m, wideN n ring h far m ≤ wideN n ring h far (m + 1) := by
  intro m; rw [wideN]; split
  · exact Nat.le_refl _
  · split <;> omega
theorem wideN_pos {n : Nat} {ring h far : Int} : ∀ m, 1 ≤ wideN n ring h far m
  | 0 => Nat.le_refl _
  | m + 1 => Nat.le_trans (wideN_pos m) (wideN_mono m)
theorem insL_rng {x : Int} {l : List Int} (hx : 0 ≤ x ∧ x ≤ 99) (h : ∀ y ∈ l, 0 ≤ y ∧ y ≤ 99) : ∀ y ∈ insL x l, 0 ≤ y ∧ y ≤ 99 := by
  induction l with
  | nil => intro y hy; simp [insL] at hy; rw [hy]; exact hx
  | cons a l ih =>
    intro y hy
    rw [insL] at hy
    split at hy
    · rcases List.mem_cons.mp hy with q | q
      · rw [q]; exact h a (List.mem_cons_self)
      · exact ih (fun y hy => h y (List.mem_cons_of_mem _ hy)) y q
    · rcases List.mem_cons.mp hy with q | q
      · rw [q]; exact hx
      · exact h y q
theorem wideF_rng {n : Nat} {ring : Int} {e s : Int → Int} {h far : Int} (he : 0 ≤ e h ∧ e h ≤ 99) : ∀ m : Nat, (∀ o : Int, 0 ≤ o → o < m → 0 ≤ s o ∧ s o ≤ 99) → ∀ y ∈ wideF n ring e s h far m, 0 ≤ y ∧ y ≤ 99
  | 0, _ => by intro y hy; simp [wideF] at hy; rw [hy]; exact he
  | m + 1, hs => by
    have ih := wideF_rng (n := n) (ring := ring) (far := far) he m (fun o h1 h2 => hs o h1 (by omega))
    rw [wideF]; split
    · exact ih
    · split
      · exact ih
      · exact insL_rng (hs m (by omega) (by omega)) ih
theorem getD_rng {l : List Int} (h : ∀ y ∈ l, 0 ≤ y ∧ y ≤ 99) (i : Nat) : 0 ≤ l.getD i 0 ∧ l.getD i 0 ≤ 99 := by
  rw [List.getD_eq_getElem?_getD]
  by_cases c : i < l.length
  · rw [List.getElem?_eq_getElem c]; exact h _ (List.getElem_mem c)
  · rw [List.getElem?_eq_none (by omega)]; decide
/-- the wide row of the class holds this list -/
def WR (st : PS) (a : Nat) (l : List Int) : Prop := st a 10 = l.length ∧ ∀ j : Nat, j < l.length → st (a + 9) j = l.getD j 0
theorem addWide_L {st : PS} {a : Nat} {x : Int} {l : List Int} (hl : l.length < 5) (hr : ∀ y ∈ l, 0 ≤ y ∧ y ≤ 99) (hx : 0 ≤ x ∧ x ≤ 99) (hs : srtL l) (hW : WR st a l) : ∀ (k i : Nat) (s0 : PS), i < k → i ≤ l.length → Same st s0 (fun b _ => b = a + 9) → (∀ j : Nat, j < i → s0 (a + 9) j = l.getD j 0) → (∀ j : Nat, i ≤ j → j < l.length → s0 (a + 9) ((j + 1 : Nat) : Int) = l.getD j 0) → (i < l.length → x < l.getD i 0) →
    ∃ s', X5_addWide_L14 a x k s0 i = some s' ∧ Same st s' (fun b j => b = a + 9 ∨ (b = a ∧ j = 10)) ∧ WR s' a (insL x l) := by
  intro k
  induction k with
  | zero => intro i _ h; omega
  | succ k ih =>
    intro i s0 hk hi hS h1 h2 h3
    have stop : (∀ j, j < i → l.getD j 0 ≤ x) → ∃ s', (bI (zwr s0 (a + 9) 5 i x) (fun s1 => zlet (zu s1 a 10 ((s1 a 10) + 1)) (fun s2 => some s2))) = some s' ∧ Same st s' (fun b j => b = a + 9 ∨ (b = a ∧ j = 10)) ∧ WR s' a (insL x l) := by
      intro hle
      rw [zwr_ok (by omega) (by omega) (by omega), bI_some]
      have e10 : zu s0 (a + 9) i x a 10 = l.length := (zu_o (by omega)).trans ((hS _ _ (by omega)).trans hW.1)
      refine ⟨_, rfl, fun b j hb => ?_, ?_, fun j hj => ?_⟩
      · rw [zu_o (by omega), zu_o (by omega)]; exact hS b j (by omega)
      · rw [zu_at, e10, insL_len]; rfl
      · rw [insL_len] at hj
        rw [insL_get x l i hi hle h3 j (by omega), zu_o (by omega)]
        by_cases c1 : j < i
        · rw [if_pos c1, zu_o (by omega)]; exact h1 j c1
        · rw [if_neg c1]
          by_cases c2 : j = i
          · rw [if_pos c2, c2, zu_at]
          · rw [if_neg c2, zu_o (by omega)]
            have q := h2 (j - 1) (by omega) (by omega)
            rw [show j - 1 + 1 = j by omega] at q
            exact q
    rw [X5_addWide_L14, wI_id (z := (i : Int)) (by omega) (by omega)]
    by_cases c0 : i = 0
    · rw [if_pos (by omega)]
      exact stop (fun j hj => by omega)
    · obtain ⟨i, rfl⟩ : ∃ i', i = i' + 1 := ⟨i - 1, by omega⟩
      have e1 : s0 (a + 9) (((i + 1 : Nat) : Int) - 1) = l.getD i 0 := by rw [← h1 i (by omega)]; congr 1; omega
      have r1 := getD_rng hr i
      rw [if_neg (by omega), zrd_ok (by omega) (by omega) (by omega), bI_some, e1, wI_id (by omega) (by omega), wI_id (by omega) (by omega)]
      by_cases c : l.getD i 0 ≤ x
      · rw [if_pos c]
        exact stop (fun j hj => Int.le_trans (hs j i (by omega) (by omega)) c)
      · rw [if_neg c, bI_some, zwr_ok (by omega) (by omega) (by omega), bI_some, show ((i + 1 : Nat) : Int) + (-1) = (i : Int) by omega]
        refine ih i _ (by omega) (by omega) (fun b j hb => (zu_o (by omega)).trans (hS b j hb)) (fun j hj => ?_) (fun j hj hj2 => ?_) (fun _ => by omega)
        · rw [zu_o (by omega)]; exact h1 j (by omega)
        · by_cases q : j = i
          · rw [q, zu_at]
          · rw [zu_o (by omega)]; exact h2 j (by omega) hj2
theorem addWide_ok {st : PS} {a : Nat} {x : Int} {l : List Int} (hl : l.length < 5) (hr : ∀ y ∈ l, 0 ≤ y ∧ y ≤ 99) (hx : 0 ≤ x ∧ x ≤ 99) (hs : srtL l) (hW : WR st a l) : ∃ s', X5_addWide a st x = some s' ∧ Same st s' (fun b j => b = a + 9 ∨ (b = a ∧ j = 10)) ∧ WR s' a (insL x l) := by
  unfold X5_addWide
  rw [hW.1, wI_id (by omega) (by omega), if_pos (by rw [show wI 5 = 5 from rfl]; omega)]
  exact addWide_L hl hr hx hs hW FU l.length st (by unfold FU; omega) (Nat.le_refl _) Same.rf (fun j hj => hW.2 j hj) (fun j h1 h2 => by omega) (fun h => by omega)
