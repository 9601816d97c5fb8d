/-! PURE: what the functions answer. Numbers small enough stand for themselves. -/
def Same (st st' : PS) (P : Nat → Int → Prop) : Prop := ∀ b j, ¬ P b j → st' b j = st b j
theorem Same.rf {st : PS} {P : Nat → Int → Prop} : Same st st P := fun _ _ _ => rfl
theorem Same.tr {st s1 s2 : PS} {P Q R : Nat → Int → Prop} (h1 : Same st s1 P) (h2 : Same s1 s2 Q) (hP : ∀ b j, P b j → R b j) (hQ : ∀ b j, Q b j → R b j) : Same st s2 R := fun b j h => (h2 b j (fun q => h (hQ b j q))).trans (h1 b j (fun q => h (hP b j q)))
theorem Same.wk {st s1 : PS} {P R : Nat → Int → Prop} (h1 : Same st s1 P) (hP : ∀ b j, P b j → R b j) : Same st s1 R := fun b j h => h1 b j (fun q => h (hP b j q))
theorem zrd_ok {st : PS} {a n : Nat} {i : Int} (h1 : 0 ≤ i) (h2 : i < (n : Int)) (h3 : n ≤ 1000) : zrd st a n i = some (st a i) := by
  have e : wI i = i := wI_id (by omega) (by omega)
  unfold zrd; rw [e, if_pos ⟨h1, h2⟩]
theorem zwr_ok {st : PS} {a n : Nat} {i x : Int} (h1 : 0 ≤ i) (h2 : i < (n : Int)) (h3 : n ≤ 1000) : zwr st a n i x = some (zu st a i x) := by
  have e : wI i = i := wI_id (by omega) (by omega)
  unfold zwr; rw [e, if_pos ⟨h1, h2⟩]
theorem zcp_ok {st : PS} {a na b nb : Nat} {sp dp n : Int} (h1 : 0 ≤ sp) (h2 : 0 ≤ dp) (h3 : 0 ≤ n) (h4 : sp + n ≤ na) (h5 : dp + n ≤ nb) (h6 : na ≤ 1000) (h7 : nb ≤ 1000) : zcp st a na b nb sp dp n = some (zcpf st a b sp dp n) := by
  have e1 : wI sp = sp := wI_id (by omega) (by omega)
  have e2 : wI dp = dp := wI_id (by omega) (by omega)
  have e3 : wI n = n := wI_id (by omega) (by omega)
  unfold zcp; rw [e1, e2, e3, if_pos ⟨h1, h2, h3, h4, h5⟩]
theorem zchk_ok {R : Type} {i : Int} {n : Nat} {k : Option R} (h : 0 ≤ i ∧ i < n) : zchk i n k = k := if_pos h
theorem zbit_ok {R : Type} {i : Int} {k : Option R} (h : i = 0 ∨ i = 1) : zbit i k = k := if_pos h
theorem znz_ok {R : Type} {i : Int} {k : Option R} (h1 : rng i) (h : i ≠ 0) : znz i k = k := by
  unfold znz; rw [wI_id h1.1 h1.2, if_neg h]
theorem wI_r {i : Int} (h : rng i) : wI i = i := wI_id h.1 h.2
theorem zu_at {st : PS} {a : Nat} {i x : Int} : zu st a i x a i = x := if_pos ⟨rfl, rfl⟩
theorem zu_o {st : PS} {a b : Nat} {i j x : Int} (h : ¬ (b = a ∧ j = i)) : zu st a i x b j = st b j := if_neg h
theorem zdiv_nn {a b : Int} (h1 : 0 ≤ a) (h2 : a < 2147483648) (h3 : 0 < b) (h4 : b < 2147483648) : zdiv a b = a / b := by
  unfold zdiv; rw [wI_id (by omega) (by omega), wI_id (by omega) (by omega)]
  exact Int.tdiv_eq_ediv_of_nonneg h1
theorem zrem_nn {a b : Int} (h1 : 0 ≤ a) (h2 : a < 2147483648) (h3 : 0 < b) (h4 : b < 2147483648) : zrem a b = a % b := by
  unfold zrem; rw [zdiv_nn h1 h2 h3 h4]
  have := Int.mul_ediv_add_emod a b
  have e : a / b * b = b * (a / b) := Int.mul_comm _ _
  omega
theorem FU_big : FU = 99999 + 1 := rfl
theorem Same_test {st s : PS} {a : Nat} (h : Same st s (fun b j => b = a + 8 ∨ (b = a ∧ j = 10))) : s (a + 5) 3 = st (a + 5) 3 := h _ _ (by omega)
theorem wI_test (x : Int) (h : 0 ≤ x) (h2 : x < 100) : wI (x + 3) = x + 3 ∧ wI 7 = 7 := by
  simp (disch := omega) only [wI_id]
  exact ⟨trivial, trivial⟩
