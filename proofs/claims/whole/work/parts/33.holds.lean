/-! the pile of a test as a number, and the adds of a street of the class -/
def bitsP (x : Nat) : Prop := zand (x : Int) 1 = ((x % 2 : Nat) : Int) ∧ zxor (x : Int) 1 = ((x / 2 * 2 + (1 - x % 2) : Nat) : Int) ∧ zor (zshl (x : Int) 1) 0 = ((2 * x : Nat) : Int) ∧ zor (zshl (x : Int) 1) 1 = ((2 * x + 1 : Nat) : Int) ∧ zand (zshr (x : Int) 1) (zor (zand (x : Int) 1) (-2)) = ((x / 2 / 2 * 2 + (x / 2 % 2) * (x % 2) : Nat) : Int) ∧ zor (zshr (x : Int) 1) (zand (x : Int) 1) = ((x / 2 / 2 * 2 + max (x / 2 % 2) (x % 2) : Nat) : Int)
def bitsB (x : Nat) : Bool := decide (zand (x : Int) 1 = ((x % 2 : Nat) : Int) ∧ zxor (x : Int) 1 = ((x / 2 * 2 + (1 - x % 2) : Nat) : Int) ∧ zor (zshl (x : Int) 1) 0 = ((2 * x : Nat) : Int) ∧ zor (zshl (x : Int) 1) 1 = ((2 * x + 1 : Nat) : Int) ∧ zand (zshr (x : Int) 1) (zor (zand (x : Int) 1) (-2)) = ((x / 2 / 2 * 2 + (x / 2 % 2) * (x % 2) : Nat) : Int) ∧ zor (zshr (x : Int) 1) (zand (x : Int) 1) = ((x / 2 / 2 * 2 + max (x / 2 % 2) (x % 2) : Nat) : Int))
theorem bits_64 : ∀ i j : Fin 64, bitsB (64 * i.val + j.val) = true := by decide +kernel
theorem bits_all (i : Fin 4096) : bitsP i.val := by
  have h := of_decide_eq_true (bits_64 ⟨i.val / 64, by omega⟩ ⟨i.val % 64, by omega⟩)
  have e : 64 * (i.val / 64) + i.val % 64 = i.val := by omega
  exact e ▸ h
def pz : List Bool → Nat
  | [] => 0
  | b :: s => 2 * pz s + b.toNat
theorem pz_lt : ∀ s : List Bool, pz s < 2 ^ s.length
  | [] => by simp [pz]
  | b :: s => by
    have h := pz_lt s
    have : b.toNat ≤ 1 := by cases b <;> decide
    rw [pz, List.length_cons, Nat.pow_succ]; omega
theorem pz_small {s : List Bool} (h : s.length ≤ 12) : pz s < 4096 :=
  Nat.lt_of_lt_of_le (pz_lt s) (Nat.pow_le_pow_right (n := 2) (by decide) h)
theorem pz_not (b : Bool) (s : List Bool) (h : (b :: s).length ≤ 12) : zxor (pz (b :: s) : Int) 1 = (pz ((!b) :: s) : Int) := by
  rw [(bits_all ⟨pz (b :: s), pz_small h⟩).2.1]
  cases b <;> simp [pz] <;> omega
theorem pz_push0 (s : List Bool) (h : s.length ≤ 12) : zor (zshl (pz s : Int) 1) 0 = (pz (false :: s) : Int) := by
  rw [(bits_all ⟨pz s, pz_small h⟩).2.2.1]; simp [pz]
theorem pz_push1 (s : List Bool) (h : s.length ≤ 12) : zor (zshl (pz s : Int) 1) 1 = (pz (true :: s) : Int) := by
  rw [(bits_all ⟨pz s, pz_small h⟩).2.2.2.1]; simp [pz]
theorem pz_and (a b : Bool) (s : List Bool) (h : (a :: b :: s).length ≤ 12) : zand (zshr (pz (a :: b :: s) : Int) 1) (zor (zand (pz (a :: b :: s) : Int) 1) (-2)) = (pz ((b && a) :: s) : Int) := by
  rw [(bits_all ⟨pz (a :: b :: s), pz_small h⟩).2.2.2.2.1]
  have e1 : pz (a :: b :: s) = 4 * pz s + 2 * b.toNat + a.toNat := by simp [pz]; omega
  have e2 : pz ((b && a) :: s) = 2 * pz s + (b && a).toNat := rfl
  show ((pz (a :: b :: s) / 2 / 2 * 2 + (pz (a :: b :: s) / 2 % 2) * (pz (a :: b :: s) % 2) : Nat) : Int) = _
  rw [e1, e2]
  have q1 : (4 * pz s + 2 * b.toNat + a.toNat) / 2 / 2 = pz s := by cases a <;> cases b <;> simp <;> omega
  have q2 : (4 * pz s + 2 * b.toNat + a.toNat) / 2 % 2 = b.toNat := by cases a <;> cases b <;> simp <;> omega
  have q3 : (4 * pz s + 2 * b.toNat + a.toNat) % 2 = a.toNat := by cases a <;> cases b <;> simp <;> omega
  rw [q1, q2, q3]
  cases a <;> cases b <;> simp <;> omega
theorem pz_or (a b : Bool) (s : List Bool) (h : (a :: b :: s).length ≤ 12) : zor (zshr (pz (a :: b :: s) : Int) 1) (zand (pz (a :: b :: s) : Int) 1) = (pz ((b || a) :: s) : Int) := by
  rw [(bits_all ⟨pz (a :: b :: s), pz_small h⟩).2.2.2.2.2]
  have e1 : pz (a :: b :: s) = 4 * pz s + 2 * b.toNat + a.toNat := by simp [pz]; omega
  have e2 : pz ((b || a) :: s) = 2 * pz s + (b || a).toNat := rfl
  show ((pz (a :: b :: s) / 2 / 2 * 2 + max (pz (a :: b :: s) / 2 % 2) (pz (a :: b :: s) % 2) : Nat) : Int) = _
  rw [e1, e2]
  have q1 : (4 * pz s + 2 * b.toNat + a.toNat) / 2 / 2 = pz s := by cases a <;> cases b <;> simp <;> omega
  have q2 : (4 * pz s + 2 * b.toNat + a.toNat) / 2 % 2 = b.toNat := by cases a <;> cases b <;> simp <;> omega
  have q3 : (4 * pz s + 2 * b.toNat + a.toNat) % 2 = a.toNat := by cases a <;> cases b <;> simp <;> omega
  rw [q1, q2, q3]
  cases a <;> cases b <;> simp <;> omega
theorem runC_n (fx : Int → Int) (c : List Int) (b : Bool) (s : List Bool) : runC fx (-33 :: c) (b :: s) = runC fx c ((!b) :: s) := rfl
theorem runC_a (fx : Int → Int) (c : List Int) (a b : Bool) (s : List Bool) : runC fx (-38 :: c) (a :: b :: s) = runC fx c ((b && a) :: s) := rfl
theorem runC_o (fx : Int → Int) (c : List Int) (a b : Bool) (s : List Bool) : runC fx (-124 :: c) (a :: b :: s) = runC fx c ((b || a) :: s) := rfl
theorem runC_t (fx : Int → Int) (t : Int) (c : List Int) (s : List Bool) (h1 : t ≠ -33) (h2 : t ≠ -38) (h3 : t ≠ -124) : runC fx (t :: c) s = runC fx c (tstC fx t :: s) := by
  show runC fx c (if t = -33 then _ else if t = -38 then _ else if t = -124 then _ else tstC fx t :: s) = _
  rw [if_neg h1, if_neg h2, if_neg h3]
/-- the facts of a house, in a row -/
def FR (st : PS) (r : Nat) (fx : Int → Int) : Prop := ∀ f : Int, 0 ≤ f → f < 6 → st r f = fx f ∧ 0 ≤ fx f ∧ fx f ≤ 100
theorem passes_ok {st : PS} {S r : Nat} {fx : Int → Int} {p t : Int} (hF : FR st r fx) (hp : 0 ≤ p ∧ p < 100) (ht : 0 ≤ t ∧ t < 6000 ∧ t / 100 % 10 ≤ 2) (h5 : st (S + 5) p = t / 1000) (h6 : st (S + 6) p = 60 + t / 100 % 10) (h7 : st (S + 7) p = t % 100) : X2_passes S r st p = some (if tstC fx t then 1 else 0) := by
  obtain ⟨f1, f2, f3⟩ := hF (t / 1000) (by omega) (by omega)
  have g : 0 ≤ t / 100 % 10 := by omega
  unfold X2_passes tstC
  simp (disch := omega) only [zrd_ok, bI_some, h5, h6, h7, f1, wI_id]
  rw [if_neg (by omega), if_pos (by omega)]
  by_cases c0 : t / 100 % 10 = 0
  · rw [if_pos (by omega), if_pos c0]
    by_cases c : fx (t / 1000) < t % 100
    · rw [if_neg (by omega), decide_eq_true c]; rfl
    · rw [if_pos (by omega), decide_eq_false c]; rfl
  · rw [if_neg (by omega), if_neg c0]
    by_cases c2 : t / 100 % 10 = 1
    · rw [if_neg (by omega), if_pos c2]
      by_cases c : fx (t / 1000) = t % 100
      · rw [if_pos c, decide_eq_true c]; rfl
      · rw [if_neg c, decide_eq_false c]; rfl
    · rw [if_pos (by omega), if_neg c2]
      by_cases c : t % 100 < fx (t / 1000)
      · rw [if_neg (by omega), decide_eq_true c]; rfl
      · rw [if_pos (by omega), decide_eq_false c]; rfl
theorem holds_L {st : PS} {S r : Nat} {fx : Int → Int} (hF : FR st r fx) {e : Int} (he : e ≤ 100) : ∀ (c : List Int) (k : Nat) (p : Int) (s : List Bool), c.length < k → 0 ≤ p → p + c.length = e → CAt st S p c → okC c s.length = true → s.length ≤ 12 →
    X2_holds_L6 S e r st k (pz s) p = some (if (runC fx c s).headD false then 1 else 0) := by
  intro c
  induction c with
  | nil =>
    intro k p s hk h0 hp _ hc hs
    obtain ⟨k, rfl⟩ : ∃ k', k = k' + 1 := ⟨k - 1, by simp at hk; omega⟩
    have hl : s.length = 1 := of_decide_eq_true hc
    rw [X2_holds_L6]
    simp at hp
    rw [if_pos (by rw [hp]; exact Int.le_refl _)]
    match s, hl with
    | [b], _ =>
      rw [(bits_all ⟨pz [b], pz_small (by simp)⟩).1]
      cases b <;> rfl
  | cons t c ih =>
    intro k p s hk h0 hp hA hc hs
    obtain ⟨k, rfl⟩ : ∃ k', k = k' + 1 := ⟨k - 1, by simp at hk; omega⟩
    simp only [List.length_cons] at hk hp
    obtain ⟨a1, a2, a3⟩ := hA
    rw [X2_holds_L6, if_neg (by rw [wI_id (by omega) (by omega), wI_id (by omega) (by omega)]; omega), zrd_ok (by omega) (by omega) (by omega), bI_some, a1]
    rw [okC] at hc
    by_cases c1 : t = -33
    · rw [if_pos c1] at hc
      have hc := (Bool.and_eq_true _ _).mp hc
      have hh := of_decide_eq_true hc.1
      match s, hh with
      | b :: s, _ =>
        subst c1
        rw [show stpC (-33) = 6 from rfl, if_pos (by decide), pz_not b s hs, runC_n]
        exact ih k (p + 1) ((!b) :: s) (by omega) (by omega) (by omega) a3 hc.2 hs
    · rw [if_neg c1] at hc
      by_cases c2 : t = -38
      · rw [if_pos (Or.inl c2)] at hc
        have hc := (Bool.and_eq_true _ _).mp hc
        have hh := of_decide_eq_true hc.1
        match s, hh with
        | a :: b :: s, _ =>
          subst c2
          rw [show stpC (-38) = 7 from rfl, if_neg (by decide), if_pos (by decide), pz_and a b s hs, runC_a]
          exact ih k (p + 1) ((b && a) :: s) (by omega) (by omega) (by omega) a3 hc.2 (by simp at hs ⊢; omega)
      · by_cases c3 : t = -124
        · rw [if_pos (Or.inr c3)] at hc
          have hc := (Bool.and_eq_true _ _).mp hc
          have hh := of_decide_eq_true hc.1
          match s, hh with
          | a :: b :: s, _ =>
            subst c3
            rw [show stpC (-124) = 8 from rfl, if_neg (by decide), if_neg (by decide), if_pos (by decide), pz_or a b s hs, runC_o]
            exact ih k (p + 1) ((b || a) :: s) (by omega) (by omega) (by omega) a3 hc.2 (by simp at hs ⊢; omega)
        · rw [if_neg (fun q => q.elim c2 c3)] at hc
          have hc := (Bool.and_eq_true _ _).mp hc
          obtain ⟨t0, t1, t2, t3⟩ := of_decide_eq_true hc.1
          obtain ⟨b1, b2⟩ := a2 t0
          have e1 : stpC t = t / 1000 := by unfold stpC; rw [if_neg c1, if_neg c2, if_neg c3]
          rw [runC_t fx t c s c1 c2 c3, e1, wI_id (by omega) (by omega), if_neg (by omega), if_neg (by omega), if_neg (by omega), passes_ok hF (by omega) ⟨t0, t1, t2⟩ (a1.trans e1) b1 b2, bI_some]
          cases hb : tstC fx t
          · rw [if_pos (by decide), pz_push0 s (by omega)]
            exact ih k (p + 1) (false :: s) (by omega) (by omega) (by omega) a3 hc.2 (by simp; omega)
          · rw [if_pos rfl, if_neg (by decide), pz_push1 s (by omega)]
            exact ih k (p + 1) (true :: s) (by omega) (by omega) (by omega) a3 hc.2 (by simp; omega)
theorem holds_ok {st : PS} {S r : Nat} {fx : Int → Int} (hF : FR st r fx) {p e : Int} {c : List Int} (he : e ≤ 100) (h0 : 0 ≤ p) (hp : p + c.length = e) (hA : CAt st S p c) (hc : okC c 0 = true) : X2_holds S r st p e = some (if holdC fx c then 1 else 0) :=
  holds_L hF he c FU p [] (by unfold FU; omega) h0 hp hA hc (by simp)
theorem FAt_le {st : PS} {S : Nat} : ∀ (L : Cl) (i p : Int), FAt st S i p L → i ≤ st S 1 ∧ p ≤ st S 4
  | [], i, p, h => by rw [FAt] at h; omega
  | (w, m, c) :: L, i, p, h => by
    rw [FAt] at h
    split at h
    · have := FAt_le L _ _ h.2.2.2; omega
    · exact FAt_le L _ _ h
theorem addsBy_L {st : PS} {S r : Nat} {fx : Int → Int} (hF : FR st r fx) (h1 : st S 1 ≤ 10) (h4 : st S 4 ≤ 100) : ∀ (L : Cl) (k : Nat) (acc i p : Int), st S 1 - i < k → 0 ≤ i → 0 ≤ p → FAt st S i p L → okL L →
    X2_addsBy_L7 S r st k acc p i = some (acc + addsL fx L) := by
  intro L
  induction L with
  | nil =>
    intro k acc i p hk hi hp h _
    obtain ⟨k, rfl⟩ : ∃ k', k = k' + 1 := ⟨k - 1, by rw [FAt] at h; omega⟩
    rw [FAt] at h
    rw [X2_addsBy_L7, h.1, if_pos (Int.le_refl _)]
    simp [addsL]
  | cons x L ih =>
    obtain ⟨w, m, c⟩ := x
    intro k acc i p hk hi hp h ho
    rw [FAt] at h
    have hox := ho (w, m, c) (List.mem_cons_self)
    have hoL : okL L := fun x hx => ho x (List.mem_cons_of_mem _ hx)
    by_cases hw : w = 0 ∨ w = 1
    · rw [if_pos hw] at h
      obtain ⟨g1, g2, g3, g4⟩ := h
      obtain ⟨q1, q2, q3⟩ := hox.2 hw
      have hb := FAt_le L _ _ g4
      obtain ⟨k, rfl⟩ : ∃ k', k = k' + 1 := ⟨k - 1, by omega⟩
      rw [X2_addsBy_L7, if_neg (by rw [wI_id (by omega) (by omega), wI_id (by omega) (by omega)]; omega)]
      simp (disch := omega) only [zrd_ok, bI_some, g1, g2]
      rw [holds_ok hF (by omega) hp rfl g3 q3, bI_some]
      rw [addsL]
      cases hh : holdC fx c
      · rw [if_pos (by decide), ih k _ _ _ (by omega) (by omega) (by omega) g4 hoL]
        simp
      · rw [if_pos rfl, if_neg (by decide), ih k _ _ _ (by omega) (by omega) (by omega) g4 hoL]
        rcases hw with rfl | rfl <;> simp <;> omega
    · rw [if_neg hw] at h
      rw [addsL, ih k acc i p hk hi hp h hoL, if_neg (fun q => hw (Or.inl q)), if_neg (fun q => hw (Or.inr q))]
      simp
theorem addsBy_ok {st : PS} {S r : Nat} {fx : Int → Int} {L : Cl} (hF : FR st r fx) (hS : SR st S L) : X2_addsBy S r st = some (addsL fx L) := by
  obtain ⟨s0, s1, s4, sF, sO⟩ := hS
  have h := addsBy_L hF s1.2 s4.2 L FU 0 0 0 (by have := s1.2; unfold FU; omega) (by omega) (by omega) sF sO
  rw [Int.zero_add] at h
  exact h
