/-! BEFORE: the values that are earned now, each once -/
def hasB (e : Int → Int) : Nat → Int → Bool
  | 0, _ => false
  | n + 1, x => hasB e n x || decide (e n = x)
def cntB (e : Int → Int) (n : Nat) : Nat → Nat
  | 0 => 0
  | x + 1 => cntB e n x + (if hasB e n (x : Int) then 1 else 0)
theorem hasB_iff {e : Int → Int} {x : Int} : ∀ {n : Nat}, hasB e n x = true ↔ ∃ h : Int, 0 ≤ h ∧ h < n ∧ e h = x
  | 0 => ⟨fun q => absurd q (by simp [hasB]), fun ⟨h, h1, h2, _⟩ => by omega⟩
  | n + 1 => by
    rw [hasB, Bool.or_eq_true, hasB_iff, decide_eq_true_iff]
    constructor
    · rintro (⟨h, h1, h2, h3⟩ | h)
      · exact ⟨h, h1, by omega, h3⟩
      · exact ⟨n, by omega, by omega, h⟩
    · rintro ⟨h, h1, h2, h3⟩
      by_cases q : h = n
      · subst q; exact Or.inr h3
      · exact Or.inl ⟨h, h1, by omega, h3⟩
theorem cntB_succ {e : Int → Int} {n : Nat} (he : 0 ≤ e n) : ∀ x : Nat, cntB e (n + 1) x ≤ cntB e n x + (if e n < x then 1 else 0)
  | 0 => by rw [cntB, cntB]; omega
  | x + 1 => by
    have ih := cntB_succ he x
    rw [cntB, cntB, hasB]
    by_cases q : hasB e n (x : Int) = true
    · rw [q, Bool.true_or, if_pos rfl]
      by_cases q1 : e n < (x : Int)
      · rw [if_pos q1] at ih
        rw [if_pos (by omega)]; omega
      · rw [if_neg q1] at ih
        split <;> omega
    · have q' : hasB e n (x : Int) = false := by simpa using q
      rw [q', Bool.false_or]
      simp only [Bool.false_eq_true, if_false]
      by_cases q2 : e n = x
      · rw [if_neg (by omega)] at ih
        rw [if_pos (decide_eq_true q2), if_pos (by omega : e n < ((x + 1 : Nat) : Int))]
        omega
      · rw [if_neg (by simpa using q2)]
        by_cases q1 : e n < (x : Int)
        · rw [if_pos q1] at ih
          rw [if_pos (by omega : e n < ((x + 1 : Nat) : Int))]
          omega
        · rw [if_neg q1] at ih
          rw [if_neg (by omega : ¬ e n < ((x + 1 : Nat) : Int))]
          omega
theorem cntB_le {e : Int → Int} : ∀ {n : Nat}, (∀ h : Int, 0 ≤ h → h < n → 0 ≤ e h) → ∀ x : Nat, cntB e n x ≤ n
  | 0, _, 0 => by rw [cntB]; omega
  | 0, _, x + 1 => by
    have := cntB_le (e := e) (n := 0) (fun h h1 h2 => by omega) x
    rw [cntB, hasB]; simp only [Bool.false_eq_true, if_false]; omega
  | n + 1, H, x => by
    have h1 := cntB_le (n := n) (fun h h1 h2 => H h h1 (by omega)) x
    have h2 := cntB_succ (e := e) (n := n) (H n (by omega) (by omega)) x
    split at h2 <;> omega
theorem cntB_pos {e : Int → Int} {n : Nat} {x : Nat} (h : hasB e n (x : Int) = true) : ∀ y : Nat, x < y → 1 ≤ cntB e n y
  | 0, q => by omega
  | y + 1, q => by
    rw [cntB]
    by_cases q' : x = y
    · subst q'; rw [h, if_pos rfl]; omega
    · have := cntB_pos h y (by omega); omega
theorem someE_L {st : PS} {n : Nat} {x : Int} (h0 : st 20 0 = n) (n7 : n ≤ 7) (hb : ∀ h : Int, 0 ≤ h → h < n → 0 ≤ st (20 + 5) h ∧ st (20 + 5) h ≤ 99) (hx : 0 ≤ x ∧ x ≤ 99) : ∀ (k i : Nat), i ≤ n → n - i < k → ∃ r, X5_someEarns_L2 20 x st k i = some r ∧ ((r = 1 ∧ ∃ h : Int, i ≤ h ∧ h < n ∧ st (20 + 5) h = x) ∨ (r = 0 ∧ ¬ ∃ h : Int, i ≤ h ∧ h < n ∧ st (20 + 5) h = x)) := by
  intro k
  induction k with
  | zero => intro i _ h; omega
  | succ k ih =>
    intro i hi hk
    rw [X5_someEarns_L2, h0, wI_id (z := (n : Int)) (by omega) (by omega), wI_id (z := (i : Int)) (by omega) (by omega)]
    by_cases h : n ≤ i
    · rw [if_pos (by omega)]
      exact ⟨0, rfl, Or.inr ⟨rfl, fun ⟨h, h1, h2, _⟩ => by omega⟩⟩
    · have b := hb i (by omega) (by omega)
      rw [if_neg (by omega), zrd_ok (by omega) (by omega) (by omega), bI_some, wI_id (z := st (20 + 5) i) (by omega) (by omega), wI_id (z := x) (by omega) (by omega)]
      by_cases c : st (20 + 5) i = x
      · rw [if_pos c]
        exact ⟨1, rfl, Or.inl ⟨rfl, i, by omega, by omega, c⟩⟩
      · rw [if_neg c]
        obtain ⟨r, r1, r2⟩ := ih (i + 1) (by omega) (by omega)
        refine ⟨r, r1, ?_⟩
        rcases r2 with ⟨e, h, h1, h2, h3⟩ | ⟨e, f⟩
        · exact Or.inl ⟨e, h, by omega, h2, h3⟩
        · refine Or.inr ⟨e, fun ⟨h, h1, h2, h3⟩ => ?_⟩
          by_cases q : h = i
          · subst q; exact c h3
          · exact f ⟨h, by omega, h2, h3⟩
theorem someE_ok {st : PS} {n : Nat} {x : Int} (h0 : st 20 0 = n) (n7 : n ≤ 7) (hb : ∀ h : Int, 0 ≤ h → h < n → 0 ≤ st (20 + 5) h ∧ st (20 + 5) h ≤ 99) (hx : 0 ≤ x ∧ x ≤ 99) : X5_someEarns 20 st x = some (if hasB (st (20 + 5)) n x then 1 else 0) := by
  obtain ⟨r, r1, r2⟩ := someE_L h0 n7 hb hx FU 0 (by omega) (by unfold FU; omega)
  have r1' : X5_someEarns 20 st x = some r := r1
  rw [r1']
  rcases r2 with ⟨e, f⟩ | ⟨e, f⟩
  · rw [if_pos (hasB_iff.mpr f), e]
  · rw [if_neg (fun q => f (hasB_iff.mp q)), e]
theorem lay17 {st : PS} {n : Nat} {x : Int} {co : PS → Int → Option PS} (h0 : st 0 0 = n) (n7 : n ≤ 7) (hb : ∀ h : Int, 0 ≤ h → h < n → 0 ≤ st 4 h ∧ st 4 h ≤ 99) (hx : 0 ≤ x ∧ x ≤ 99) : ∀ (k i : Nat) (f : Int), i ≤ n → n - i < k → (f = 0 ∨ f = 1) → ∃ b : Bool, X7_layValues_L17 x co k st f i = (if b = true then bI (zwr st 32 8 (st 0 36) x) (fun s4 => zlet (zu s4 0 36 ((s4 0 36) + 1)) (fun s5 => co s5 (x + 1))) else co st (x + 1)) ∧ (b = true ↔ f = 1 ∨ ∃ h : Int, i ≤ h ∧ h < n ∧ st 4 h = x) := by
  intro k
  induction k with
  | zero => intro i _ _ h; omega
  | succ k ih =>
    intro i f hi hk hf
    rw [X7_layValues_L17, h0, wI_id (z := (n : Int)) (by omega) (by omega), wI_id (z := (i : Int)) (by omega) (by omega), wI_id (z := f) (by omega) (by omega)]
    by_cases h : n ≤ i
    · rw [if_pos (by omega : (n : Int) ≤ i)]
      rcases hf with e | e
      · refine ⟨false, by rw [if_pos e]; rfl, fun q => absurd q (by decide), fun q => ?_⟩
        rcases q with q | ⟨h, h1, h2, _⟩ <;> omega
      · exact ⟨true, by rw [if_neg (by omega), if_pos rfl], fun _ => Or.inl e, fun _ => rfl⟩
    · have b := hb i (by omega) (by omega)
      rw [if_neg (by omega : ¬ (n : Int) ≤ i)]
      rcases hf with e | e
      · rw [if_pos e, zrd_ok (by omega) (by omega) (by omega), bI_some, wI_id (z := st 4 i) (by omega) (by omega), wI_id (z := x) (by omega) (by omega)]
        by_cases c : st 4 i = x
        · rw [if_pos c]
          obtain ⟨b, b1, b2⟩ := ih (i + 1) 1 (by omega) (by omega) (Or.inr rfl)
          exact ⟨b, b1, fun _ => Or.inr ⟨i, by omega, by omega, c⟩, fun _ => b2.mpr (Or.inl rfl)⟩
        · rw [if_neg c]
          obtain ⟨b, b1, b2⟩ := ih (i + 1) 0 (by omega) (by omega) (Or.inl rfl)
          refine ⟨b, b1, fun q => ?_, fun q => b2.mpr (Or.inr ?_)⟩
          · rcases b2.mp q with q | ⟨h, h1, h2, h3⟩
            · omega
            · exact Or.inr ⟨h, by omega, h2, h3⟩
          · rcases q with q | ⟨h, h1, h2, h3⟩
            · omega
            · by_cases w : h = i
              · subst w; exact absurd h3 c
              · exact ⟨h, by omega, h2, h3⟩
      · rw [if_neg (by omega)]
        obtain ⟨b, b1, b2⟩ := ih (i + 1) 1 (by omega) (by omega) (Or.inr rfl)
        exact ⟨b, b1, fun _ => Or.inl e, fun _ => b2.mpr (Or.inl rfl)⟩
theorem vals_L {sc sm : PS} {n : Nat} (n4 : n ≤ 4) (h0 : sc 20 0 = n) (m0 : sm 0 0 = n) (hr : ∀ h : Int, 0 ≤ h → h < n → sm 4 h = sc (20 + 5) h) (hb : ∀ h : Int, 0 ≤ h → h < n → 0 ≤ sc (20 + 5) h ∧ sc (20 + 5) h ≤ 99) : ∀ (d k k' x : Nat) (c m : PS), x + d = 100 → d < k → d < k' → Same sc c (fun b _ => b = 12) → Same sm m (fun b j => b = 32 ∨ (b = 0 ∧ j = 36)) → m 0 36 = cntB (sc (20 + 5)) n x → (∀ j : Int, 0 ≤ j → j < cntB (sc (20 + 5)) n x → m 32 j = c 12 j ∧ 0 ≤ c 12 j ∧ c 12 j ≤ 99) → ∃ c' m', X6_listValues_L4 k c (cntB (sc (20 + 5)) n x) x = some (((cntB (sc (20 + 5)) n 100 : Nat) : Int), c') ∧ X7_layValues_L7 k' m x = some m' ∧ Same sc c' (fun b _ => b = 12) ∧ Same sm m' (fun b j => b = 32 ∨ (b = 0 ∧ j = 36)) ∧ m' 0 36 = cntB (sc (20 + 5)) n 100 ∧ ∀ j : Int, 0 ≤ j → j < cntB (sc (20 + 5)) n 100 → m' 32 j = c' 12 j ∧ 0 ≤ c' 12 j ∧ c' 12 j ≤ 99 := by
  have cl := fun x => cntB_le (e := sc (20 + 5)) (n := n) (fun h h1 h2 => (hb h h1 h2).1) x
  intro d
  induction d with
  | zero =>
    intro k k' x c m hx hk hk' hS hT hc hv
    obtain ⟨k, rfl⟩ : ∃ q, k = q + 1 := ⟨k - 1, by omega⟩
    obtain ⟨k', rfl⟩ : ∃ q, k' = q + 1 := ⟨k' - 1, by omega⟩
    have ex : x = 100 := by omega
    subst ex
    rw [X6_listValues_L4, X7_layValues_L7, if_pos (by decide), if_pos (by decide)]
    exact ⟨c, m, rfl, rfl, hS, hT, hc, hv⟩
  | succ d ih =>
    intro k k' x c m hx hk hk' hS hT hc hv
    obtain ⟨k, rfl⟩ : ∃ q, k = q + 1 := ⟨k - 1, by omega⟩
    obtain ⟨k', rfl⟩ : ∃ q, k' = q + 1 := ⟨k' - 1, by omega⟩
    have cx := cl x
    have ec : c (20 + 5) = sc (20 + 5) := funext fun j => hS _ _ (by omega)
    have e1 := someE_ok (st := c) (x := x) ((hS _ _ (by omega)).trans h0) (by omega) (fun h q1 q2 => by rw [ec]; exact hb h q1 q2) (by omega)
    obtain ⟨b, b1, b2⟩ := lay17 (st := m) (x := x) (co := fun s_ x1 => X7_layValues_L7 k' s_ x1) ((hT _ _ (by omega)).trans m0) (by omega) (fun h q1 q2 => by rw [hT _ _ (by omega), hr h q1 q2]; exact hb h q1 q2) (by omega) FU 0 0 (by omega) (by unfold FU; omega) (Or.inl rfl)
    have b3 : b = hasB (sc (20 + 5)) n x := by
      rw [Bool.eq_iff_iff, b2, hasB_iff]
      constructor
      · rintro (q | ⟨h, h1, h2, h3⟩)
        · omega
        · exact ⟨h, by omega, h2, by rw [← hr h (by omega) h2, ← hT 4 h (by omega)]; exact h3⟩
      · rintro ⟨h, h1, h2, h3⟩
        exact Or.inr ⟨h, by omega, h2, by rw [hT 4 h (by omega), hr h h1 h2]; exact h3⟩
    have b1' : X7_layValues_L17 x (fun s_ x1 => X7_layValues_L7 k' s_ x1) FU m 0 0 = _ := b1
    rw [X6_listValues_L4, X7_layValues_L7, wI_id (z := 99) (by omega) (by omega), wI_id (z := 100) (by omega) (by omega), wI_id (z := (x : Int)) (by omega) (by omega), if_neg (by omega : ¬ (99 : Int) < x), if_neg (by omega : ¬ (100 : Int) ≤ x), e1, bI_some, b1', b3, ec]
    by_cases q : hasB (sc (20 + 5)) n (x : Int) = true
    · have en : cntB (sc (20 + 5)) n (x + 1) = cntB (sc (20 + 5)) n x + 1 := by rw [cntB, if_pos q]
      rw [if_pos q, if_neg (by decide), if_pos q, wI_id (z := 7) (by omega) (by omega), wI_id (z := ((cntB (sc (20 + 5)) n x : Nat) : Int)) (by omega) (by omega), if_neg (by omega), hc, zwr_ok (by omega) (by omega) (by omega), bI_some, zwr_ok (by omega) (by omega) (by omega), bI_some, zlet_eq]
      have r := ih k k' (x + 1) (zu c 12 (cntB (sc (20 + 5)) n x) x) (zu (zu m 32 (cntB (sc (20 + 5)) n x) x) 0 36 (zu m 32 (cntB (sc (20 + 5)) n x) x 0 36 + 1)) (by omega) (by omega) (by omega) (fun b j hb => (zu_o (by omega)).trans (hS b j hb)) (fun b j hb => by rw [zu_o (by omega), zu_o (by omega)]; exact hT b j hb) (by rw [zu_at, zu_o (by omega), hc, en]; omega) (fun j j1 j2 => by
        rw [en] at j2
        by_cases e : j = cntB (sc (20 + 5)) n x
        · subst e
          rw [zu_o (by omega), zu_at, zu_at]; omega
        · rw [zu_o (by omega), zu_o (by omega), zu_o (by omega)]
          exact hv j j1 (by omega))
      rw [en] at r
      exact r
    · have en : cntB (sc (20 + 5)) n (x + 1) = cntB (sc (20 + 5)) n x := by rw [cntB, if_neg q]; omega
      rw [if_neg q, if_pos (by decide), if_neg q]
      have r := ih k k' (x + 1) c m (by omega) (by omega) (by omega) hS hT (by rw [en]; exact hc) (by rw [en]; exact hv)
      rw [en] at r
      exact r
