/-! the model's pile, and what its street adds -/
def b2i (b : Bool) : Int := if b then 1 else 0
def PL (st : PS) : List Bool → Prop
  | [] => True
  | b :: s => st 23 s.length = b2i b ∧ PL st s
theorem PL.push {st : PS} {x : Int} {p : Int} : ∀ {s : List Bool}, PL st s → (s.length : Int) ≤ p → PL (zu st 23 p x) s
  | [], _, _ => trivial
  | b :: s, h, hp => by
    simp only [List.length_cons] at hp
    exact ⟨(zu_o (by omega)).trans h.1, PL.push h.2 (by omega)⟩
theorem mholds_L {st : PS} {n : Nat} {y : Int} (T : MW st n y) {h i : Int} (h0 : 0 ≤ h) (h1 : h < n) (i0 : 0 ≤ i) (i1 : i < 60) {e : Int} (he : st 16 i = e) (he6 : e ≤ 600) : ∀ (c : List Int) (k : Nat) (p : Int) (s : List Bool) (s0 : PS), c.length < k → 0 ≤ p → p + c.length = e → Same st s0 (fun b _ => b = 23) → MC s0 p c → okC c s.length = true → s.length ≤ 12 → PL s0 s →
    ∃ s', X7_holds_L10 i h k s0 s.length p = some (b2i ((runC (fctF n y (st 2) (st 3) (st 4) h) c s).headD false), s') ∧ Same st s' (fun b _ => b = 23) := by
  intro c
  induction c with
  | nil =>
    intro k p s s0 hk p0 hp hS _ hc hs hP
    obtain ⟨k, rfl⟩ : ∃ k', k = k' + 1 := ⟨k - 1, by simp at hk; omega⟩
    have hl : s.length = 1 := of_decide_eq_true hc
    simp at hp
    rw [X7_holds_L10, zrd_ok (by omega) (by omega) (by omega), bI_some, hS _ _ (by omega), he, hp, if_pos (Int.le_refl _), zrd_ok (by omega) (by omega) (by omega), bI_some]
    match s, hl, hP with
    | [b], _, hP =>
      have e0 : s0 23 0 = b2i b := hP.1
      rw [e0, zbit_ok (by cases b <;> simp [b2i])]
      exact ⟨s0, rfl, hS⟩
  | cons t c ih =>
    intro k p s s0 hk p0 hp hS hM hc hs hP
    simp only [List.length_cons] at hk hp
    obtain ⟨k, rfl⟩ : ∃ k', k = k' + 1 := ⟨k - 1, by omega⟩
    obtain ⟨m1, m2⟩ := hM
    have e16 : s0 16 i = e := (hS _ _ (by omega)).trans he
    have SU : ∀ (q x : Int), Same st (zu s0 23 q x) (fun b _ => b = 23) := fun q x b j hb => (zu_o (by omega)).trans (hS b j hb)
    have MU : ∀ (q x : Int), MC (zu s0 23 q x) (p + 1) c := fun q x => MC.same (P := fun b _ => b = 23) (fun b j hb => zu_o (by omega)) (fun j => by omega) m2
    rw [X7_holds_L10, zrd_ok (by omega) (by omega) (by omega), bI_some, e16, wI_id (by omega) (by omega), wI_id (by omega) (by omega), if_neg (by omega), zrd_ok (by omega) (by omega) (by omega), bI_some, m1]
    rw [okC] at hc
    by_cases c1 : t = -33
    · rw [if_pos c1] at hc
      have hc := (Bool.and_eq_true _ _).mp hc
      have hh := of_decide_eq_true hc.1
      match s, hh, hP with
      | b :: s, _, hP =>
        subst c1
        obtain ⟨P1, P2⟩ := hP
        simp only [List.length_cons] at hs ⊢
        have eb : s0 23 (((s.length + 1 : Nat) : Int) - 1) = b2i b := by rw [show ((s.length + 1 : Nat) : Int) - 1 = s.length by omega]; exact P1
        rw [if_pos trivial, zrd_ok (by omega) (by omega) (by omega), bI_some, eb, runC_n]
        have nx := ih k (p + 1) ((!b) :: s) (zu s0 23 s.length (b2i (!b))) (by omega) (by omega) (by omega) (SU _ _) (MU _ _) hc.2 (by simpa using hs) ⟨zu_at, P2.push (Int.le_refl _)⟩
        cases b
        · rw [if_pos (by decide), zwr_ok (by omega) (by omega) (by omega), bI_some, show ((s.length + 1 : Nat) : Int) - 1 = s.length by omega]
          exact nx
        · rw [if_neg (by decide), zwr_ok (by omega) (by omega) (by omega), bI_some, show ((s.length + 1 : Nat) : Int) - 1 = s.length by omega]
          exact nx
    · rw [if_neg c1] at hc
      by_cases c2 : t = -38
      · rw [if_pos (Or.inl c2)] at hc
        have hc := (Bool.and_eq_true _ _).mp hc
        have hh := of_decide_eq_true hc.1
        match s, hh, hP with
        | x :: z :: s, _, hP =>
          subst c2
          obtain ⟨P1, P2, P3⟩ := hP
          simp only [List.length_cons] at hs P1 ⊢
          have l1 : ((s.length + 1 + 1 : Nat) : Int) + (-1) = ((s.length + 1 : Nat) : Int) := by omega
          have l2 : ((s.length + 1 : Nat) : Int) - 1 = s.length := by omega
          rw [if_neg (by decide), if_neg (by decide), if_pos trivial, l1, l2, zrd_ok (by omega) (by omega) (by omega), bI_some, P2, runC_a]
          have nx := ih k (p + 1) ((z && x) :: s) (zu s0 23 s.length (b2i (z && x))) (by omega) (by omega) (by omega) (SU _ _) (MU _ _) hc.2 (by simp; omega) ⟨zu_at, P3.push (Int.le_refl _)⟩
          simp (disch := omega) only [zrd_ok, zwr_ok, bI_some, P1]
          cases z <;> cases x <;> exact nx
      · by_cases c3 : t = -124
        · rw [if_pos (Or.inr c3)] at hc
          have hc := (Bool.and_eq_true _ _).mp hc
          have hh := of_decide_eq_true hc.1
          match s, hh, hP with
          | x :: z :: s, _, hP =>
            subst c3
            obtain ⟨P1, P2, P3⟩ := hP
            simp only [List.length_cons] at hs P1 ⊢
            have l1 : ((s.length + 1 + 1 : Nat) : Int) + (-1) = ((s.length + 1 : Nat) : Int) := by omega
            have l2 : ((s.length + 1 : Nat) : Int) - 1 = s.length := by omega
            rw [if_neg (by decide), if_neg (by decide), if_neg (by decide), l1, l2, zrd_ok (by omega) (by omega) (by omega), bI_some, P2, runC_o]
            have nx := ih k (p + 1) ((z || x) :: s) (zu s0 23 s.length (b2i (z || x))) (by omega) (by omega) (by omega) (SU _ _) (MU _ _) hc.2 (by simp; omega) ⟨zu_at, P3.push (Int.le_refl _)⟩
            simp (disch := omega) only [zrd_ok, zwr_ok, bI_some, P1]
            cases z <;> cases x <;> exact nx
        · rw [if_neg (fun q => q.elim c2 c3)] at hc
          have hc := (Bool.and_eq_true _ _).mp hc
          obtain ⟨t0, t1, t2, t3⟩ := of_decide_eq_true hc.1
          have k2 : s0 2 = st 2 := funext fun j => hS _ _ (by omega)
          have k3 : s0 3 = st 3 := funext fun j => hS _ _ (by omega)
          have k4 : s0 4 = st 4 := funext fun j => hS _ _ (by omega)
          have T0 : MW s0 n y := T.same hS (by omega) (by omega) (fun j => by omega)
          have g := fact_rng T h0 h1 (t / 1000)
          rw [runC_t _ t c s c1 c2 c3, wI_id (z := t) (by omega) (by omega), if_neg (by rw [show wI (-33) = -33 from rfl]; exact c1), if_pos t0, zdiv_nn (by omega) (by omega) (by omega) (by omega), fact_ok T0 h0 h1 (by omega) (by omega), bI_some, k2, k3, k4, zdiv_nn (by omega) (by omega) (by omega) (by omega), zrem_nn (by omega) (by omega) (by omega) (by omega), zrem_nn (by omega) (by omega) (by omega) (by omega)]
          rw [wI_id (z := t / 100 % 10) (by omega) (by omega), wI_id (z := t % 100) (by omega) (by omega), wI_id (z := fctF n y (st 2) (st 3) (st 4) h (t / 1000)) (by omega) (by omega), show wI 1 = 1 from rfl]
          simp (disch := omega) only [zwr_ok, bI_some]
          have nx : ∀ b : Bool, tstC (fctF n y (st 2) (st 3) (st 4) h) t = b → ∃ s', X7_holds_L10 i h k (zu s0 23 s.length (b2i b)) ((s.length : Int) + 1) (p + 1) = some (b2i ((runC (fctF n y (st 2) (st 3) (st 4) h) c (tstC (fctF n y (st 2) (st 3) (st 4) h) t :: s)).headD false), s') ∧ Same st s' (fun b _ => b = 23) := by
            intro b hb
            rw [hb]
            exact ih k (p + 1) (b :: s) (zu s0 23 s.length (b2i b)) (by omega) (by omega) (by omega) (SU _ _) (MU _ _) hc.2 (by simp; omega) ⟨zu_at, hP.push (Int.le_refl _)⟩
          by_cases d0 : t / 100 % 10 = 0
          · rw [if_pos d0]
            by_cases q : t % 100 ≤ fctF n y (st 2) (st 3) (st 4) h (t / 1000)
            · rw [if_pos q]
              exact nx false (by unfold tstC; rw [if_pos d0]; exact decide_eq_false (by omega))
            · rw [if_neg q]
              exact nx true (by unfold tstC; rw [if_pos d0]; exact decide_eq_true (by omega))
          · rw [if_neg d0]
            by_cases d1 : t / 100 % 10 = 1
            · rw [if_pos d1]
              by_cases q : fctF n y (st 2) (st 3) (st 4) h (t / 1000) = t % 100
              · rw [if_pos q]
                exact nx true (by unfold tstC; rw [if_neg d0, if_pos d1]; exact decide_eq_true q)
              · rw [if_neg q]
                exact nx false (by unfold tstC; rw [if_neg d0, if_pos d1]; exact decide_eq_false q)
            · rw [if_neg d1]
              by_cases q : fctF n y (st 2) (st 3) (st 4) h (t / 1000) ≤ t % 100
              · rw [if_pos q]
                exact nx false (by unfold tstC; rw [if_neg d0, if_neg d1]; exact decide_eq_false (by omega))
              · rw [if_neg q]
                exact nx true (by unfold tstC; rw [if_neg d0, if_neg d1]; exact decide_eq_true (by omega))
