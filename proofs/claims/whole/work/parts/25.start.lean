/-! THE START: from the law's entry to its loop -/
def posC (a : Nat) : Nat :=
  if a = 0 then 0 else
  if a = 7 then 54 else
  if a = 10 then 51 else
  if a = 11 then 50 else
  if a = 12 then 49 else
  if a = 20 then 89 else
  if a = 23 then 97 else
  if a = 24 then 96 else
  if a = 25 then 95 else
  if a = 26 then 94 else
  if a = 27 then 93 else
  if a = 28 then 92 else
  if a = 29 then 91 else
  if a = 31 then 90 else
  if a = 40 then 80 else
  if a = 43 then 88 else
  if a = 44 then 87 else
  if a = 45 then 86 else
  if a = 46 then 85 else
  if a = 47 then 84 else
  if a = 48 then 83 else
  if a = 49 then 82 else
  if a = 51 then 81 else
  if a = 60 then 71 else
  if a = 63 then 79 else
  if a = 64 then 78 else
  if a = 65 then 77 else
  if a = 66 then 76 else
  if a = 67 then 75 else
  if a = 68 then 74 else
  if a = 69 then 73 else
  if a = 71 then 72 else
  if a = 80 then 67 else
  if a = 81 then 70 else
  if a = 82 then 69 else
  if a = 84 then 68 else
  if a = 90 then 63 else
  if a = 91 then 66 else
  if a = 92 then 65 else
  if a = 94 then 64 else
  if a = 100 then 43 else
  if a = 102 then 48 else
  if a = 103 then 47 else
  if a = 105 then 46 else
  if a = 106 then 45 else
  if a = 107 then 44 else
  if a = 110 then 37 else
  if a = 112 then 42 else
  if a = 113 then 41 else
  if a = 115 then 40 else
  if a = 116 then 39 else
  if a = 117 then 38 else
  if a = 120 then 31 else
  if a = 122 then 36 else
  if a = 123 then 35 else
  if a = 125 then 34 else
  if a = 126 then 33 else
  if a = 127 then 32 else
  if a = 130 then 25 else
  if a = 132 then 30 else
  if a = 133 then 29 else
  if a = 135 then 28 else
  if a = 136 then 27 else
  if a = 137 then 26 else
  if a = 140 then 19 else
  if a = 142 then 24 else
  if a = 143 then 23 else
  if a = 145 then 22 else
  if a = 146 then 21 else
  if a = 147 then 20 else
  if a = 150 then 13 else
  if a = 152 then 18 else
  if a = 153 then 17 else
  if a = 155 then 16 else
  if a = 156 then 15 else
  if a = 157 then 14 else
  if a = 160 then 57 else
  if a = 162 then 62 else
  if a = 163 then 61 else
  if a = 165 then 60 else
  if a = 166 then 59 else
  if a = 167 then 58 else
  if a = 170 then 55 else
  if a = 172 then 56 else
  if a = 180 then 52 else
  if a = 181 then 53 else
  if a = 200 then 11 else
  if a = 202 then 12 else
  if a = 210 then 9 else
  if a = 212 then 10 else
  if a = 220 then 7 else
  if a = 222 then 8 else
  if a = 230 then 5 else
  if a = 232 then 6 else
  if a = 240 then 3 else
  if a = 242 then 4 else
  if a = 250 then 1 else
  if a = 252 then 2 else
  1000
def posM (a : Nat) : Nat :=
  if a = 0 then 0 else
  if a = 2 then 38 else
  if a = 3 then 37 else
  if a = 4 then 36 else
  if a = 5 then 35 else
  if a = 11 then 34 else
  if a = 12 then 33 else
  if a = 13 then 32 else
  if a = 14 then 31 else
  if a = 15 then 30 else
  if a = 16 then 29 else
  if a = 17 then 28 else
  if a = 18 then 27 else
  if a = 22 then 26 else
  if a = 23 then 25 else
  if a = 25 then 24 else
  if a = 27 then 23 else
  if a = 28 then 22 else
  if a = 30 then 21 else
  if a = 31 then 20 else
  if a = 32 then 19 else
  if a = 33 then 18 else
  if a = 34 then 17 else
  if a = 35 then 16 else
  if a = 38 then 15 else
  if a = 39 then 14 else
  if a = 41 then 13 else
  if a = 48 then 12 else
  if a = 49 then 11 else
  if a = 50 then 10 else
  if a = 51 then 9 else
  if a = 52 then 8 else
  if a = 53 then 7 else
  if a = 54 then 6 else
  if a = 56 then 5 else
  if a = 57 then 4 else
  if a = 58 then 3 else
  if a = 59 then 2 else
  if a = 60 then 1 else
  1000
def adC (g : KG) (h0 : Nat) (u : Nat → Nat) (a : Nat) : Nat := ((wX6 g h0 u).map Prod.fst).getD (posC a) 0
def adM (g : KG) (h0 : Nat) (u : Nat → Nat) (a : Nat) : Nat := ((wX7 g h0 u).map Prod.fst).getD (posM a) 0
def stC0 : PS := fun a i => if a = 20 then (if i = 2 then -1 else 0) else if a = 40 then (if i = 2 then -1 else 0) else if a = 60 then (if i = 2 then -1 else 0) else if a = 200 then (if i = 0 then -1 else 0) else if a = 210 then (if i = 0 then -1 else 0) else if a = 220 then (if i = 0 then -1 else 0) else if a = 230 then (if i = 0 then -1 else 0) else if a = 240 then (if i = 0 then -1 else 0) else if a = 250 then (if i = 0 then -1 else 0) else 0
def letZ : List Int := [97, 100, 100, 116, 97, 120, 114, 105, 110, 103, 114, 111, 119]
def stM0 : PS := fun a i => if a = 0 then (if i = 7 then -1 else if i = 24 then -1 else if i = 43 then -1 else 0) else if a = 22 then letZ.getD i.toNat 0 else if a = 57 then -1 else 0
theorem va_at_rows {D : va_G} {cl : List vw_C} {q n : Nat} {cA : ClassId} {f f' : Nat → Int32} {H : Heap} (h : va_at D cl (q, .inl (cA, n, .inl f)) H) (e : ∀ j, j < n → f j = f' j) : va_at D cl (q, .inl (cA, n, .inl f')) H := by
  have e2 : vp_cell cA (n, .inl f) = vp_cell cA (n, .inl f') := by
    rw [vp_cell_i, vp_cell_i]; unfold arrV; congr 1
    apply Array.ext (by simp)
    intro i h1 h2
    simp only [Array.size_ofFn] at h1
    simp [e i h1]
  show H[q]? = some (vp_cell cA (n, .inl f'))
  rw [← e2]; exact h
theorem va_at_refs {D : va_G} {cl : List vw_C} {q n : Nat} {cA : ClassId} {f f' : Nat → Option Nat} {H : Heap} (h : va_at D cl (q, .inl (cA, n, .inr (.inr (.inr (.inr f))))) H) (e : ∀ j, j < n → f j = f' j) : va_at D cl (q, .inl (cA, n, .inr (.inr (.inr (.inr f'))))) H := by
  have e2 : vp_cell cA (n, .inr (.inr (.inr (.inr f)))) = vp_cell cA (n, .inr (.inr (.inr (.inr f')))) := by
    rw [vp_cell_q, vp_cell_q]; unfold arrV; congr 1
    apply Array.ext (by simp)
    intro i h1 h2
    simp only [Array.size_ofFn] at h1
    simp [e i h1]
  show H[q]? = some (vp_cell cA (n, .inr (.inr (.inr (.inr f')))))
  rw [← e2]; exact h
theorem lt6 {P : Nat → Prop} (h0 : P 0) (h1 : P 1) (h2 : P 2) (h3 : P 3) (h4 : P 4) (h5 : P 5) : ∀ j, j < 6 → P j := by
  intro j hj
  have h : j = 0 ∨ j = 1 ∨ j = 2 ∨ j = 3 ∨ j = 4 ∨ j = 5 := by omega
  rcases h with rfl | rfl | rfl | rfl | rfl | rfl <;> assumption
theorem forall_cons {α : Type} {P : α → Prop} {a : α} {l : List α} (h1 : P a) (h2 : ∀ x ∈ l, P x) : ∀ x ∈ a :: l, P x := List.forall_mem_cons.mpr ⟨h1, h2⟩
set_option maxHeartbeats 8000000 in
set_option maxRecDepth 100000 in
theorem convC (g : KG) (h0 : Nat) (u : Nat → Nat) {H : Heap} (hP : va_P g.1 zCl (wX6 g h0 u) H) : va_P g.1 zCl (zW sC (g.1, g.2.1, adC g h0 u, g.2.2.1, g.2.2.2.1, g.2.2.2.2) stC0) H := by
  have h : ∀ a ∈ LSC, va_at g.1 zCl (adC g h0 u a, ceC g.2.1 (adC g h0 u) a (stC0 a)) H := forall_cons (hP 0 _ rfl) (forall_cons (va_at_refs (hP 54 _ rfl) (lt6 rfl rfl rfl rfl rfl rfl)) (forall_cons (va_at_refs (hP 51 _ rfl) (lt6 rfl rfl rfl rfl rfl rfl)) (forall_cons (hP 50 _ rfl) (forall_cons (hP 49 _ rfl) (forall_cons (hP 89 _ rfl) (forall_cons (hP 97 _ rfl) (forall_cons (hP 96 _ rfl) (forall_cons (hP 95 _ rfl) (forall_cons (hP 94 _ rfl) (forall_cons (hP 93 _ rfl) (forall_cons (hP 92 _ rfl) (forall_cons (hP 91 _ rfl) (forall_cons (hP 90 _ rfl) (forall_cons (hP 80 _ rfl) (forall_cons (hP 88 _ rfl) (forall_cons (hP 87 _ rfl) (forall_cons (hP 86 _ rfl) (forall_cons (hP 85 _ rfl) (forall_cons (hP 84 _ rfl) (forall_cons (hP 83 _ rfl) (forall_cons (hP 82 _ rfl) (forall_cons (hP 81 _ rfl) (forall_cons (hP 71 _ rfl) (forall_cons (hP 79 _ rfl) (forall_cons (hP 78 _ rfl) (forall_cons (hP 77 _ rfl) (forall_cons (hP 76 _ rfl) (forall_cons (hP 75 _ rfl) (forall_cons (hP 74 _ rfl) (forall_cons (hP 73 _ rfl) (forall_cons (hP 72 _ rfl) (forall_cons (hP 67 _ rfl) (forall_cons (hP 70 _ rfl) (forall_cons (hP 69 _ rfl) (forall_cons (hP 68 _ rfl) (forall_cons (hP 63 _ rfl) (forall_cons (hP 66 _ rfl) (forall_cons (hP 65 _ rfl) (forall_cons (hP 64 _ rfl) (forall_cons (hP 43 _ rfl) (forall_cons (hP 48 _ rfl) (forall_cons (hP 47 _ rfl) (forall_cons (hP 46 _ rfl) (forall_cons (hP 45 _ rfl) (forall_cons (hP 44 _ rfl) (forall_cons (hP 37 _ rfl) (forall_cons (hP 42 _ rfl) (forall_cons (hP 41 _ rfl) (forall_cons (hP 40 _ rfl) (forall_cons (hP 39 _ rfl) (forall_cons (hP 38 _ rfl) (forall_cons (hP 31 _ rfl) (forall_cons (hP 36 _ rfl) (forall_cons (hP 35 _ rfl) (forall_cons (hP 34 _ rfl) (forall_cons (hP 33 _ rfl) (forall_cons (hP 32 _ rfl) (forall_cons (hP 25 _ rfl) (forall_cons (hP 30 _ rfl) (forall_cons (hP 29 _ rfl) (forall_cons (hP 28 _ rfl) (forall_cons (hP 27 _ rfl) (forall_cons (hP 26 _ rfl) (forall_cons (hP 19 _ rfl) (forall_cons (hP 24 _ rfl) (forall_cons (hP 23 _ rfl) (forall_cons (hP 22 _ rfl) (forall_cons (hP 21 _ rfl) (forall_cons (hP 20 _ rfl) (forall_cons (hP 13 _ rfl) (forall_cons (hP 18 _ rfl) (forall_cons (hP 17 _ rfl) (forall_cons (hP 16 _ rfl) (forall_cons (hP 15 _ rfl) (forall_cons (hP 14 _ rfl) (forall_cons (hP 57 _ rfl) (forall_cons (hP 62 _ rfl) (forall_cons (hP 61 _ rfl) (forall_cons (hP 60 _ rfl) (forall_cons (hP 59 _ rfl) (forall_cons (hP 58 _ rfl) (forall_cons (hP 55 _ rfl) (forall_cons (hP 56 _ rfl) (forall_cons (hP 52 _ rfl) (forall_cons (hP 53 _ rfl) (forall_cons (hP 11 _ rfl) (forall_cons (hP 12 _ rfl) (forall_cons (hP 9 _ rfl) (forall_cons (hP 10 _ rfl) (forall_cons (hP 7 _ rfl) (forall_cons (hP 8 _ rfl) (forall_cons (hP 5 _ rfl) (forall_cons (hP 6 _ rfl) (forall_cons (hP 3 _ rfl) (forall_cons (hP 4 _ rfl) (forall_cons (hP 1 _ rfl) (forall_cons (hP 2 _ rfl) (fun _ h => absurd h List.not_mem_nil))))))))))))))))))))))))))))))))))))))))))))))))))))))))))))))))))))))))))))))))))))))))))))))))))
  rw [kP_mem]
  intro x hx
  obtain ⟨a, ha, rfl⟩ := List.mem_map.mp hx
  exact h a ha
set_option maxRecDepth 100000 in
theorem posC_lt : ∀ a ∈ LSC, posC a < 98 := by decide +kernel
set_option maxRecDepth 100000 in
theorem posC_inj : ∀ a ∈ LSC, ∀ b ∈ LSC, posC a = posC b → a = b := by decide +kernel
theorem injC (g : KG) (h0 : Nat) (u : Nat → Nat) {A : Nat → Prop} (hD : kD A (wX6 g h0 u)) : zInj sC (g.1, g.2.1, adC g h0 u, g.2.2.1, g.2.2.2.1, g.2.2.2.2) ∧ ∀ a ∈ sC.1, A (adC g h0 u a) := by
  have hlen : ((wX6 g h0 u).map Prod.fst).length = 98 := rfl
  have get : ∀ a ∈ LSC, ((wX6 g h0 u).map Prod.fst)[posC a]? = some (adC g h0 u a) := by
    intro a ha
    have h := posC_lt a ha
    rw [adC, List.getD_eq_getElem?_getD, List.getElem?_eq_getElem (by rw [hlen]; exact h)]
    rfl
  refine ⟨⟨by decide, fun a b ha hb e => ?_⟩, fun a ha => ?_⟩
  · have e1 := get a ha
    have e2 := get b hb
    have e : adC g h0 u a = adC g h0 u b := e
    rw [← e] at e2
    exact posC_inj a ha b hb ((List.getElem?_inj (by rw [hlen]; exact posC_lt a ha) hD.1).mp (e1.trans e2.symm))
  · obtain ⟨x, hx, e⟩ := List.mem_map.mp (List.mem_of_getElem? (get a ha))
    rw [← e]
    exact hD.2 x hx
set_option maxHeartbeats 8000000 in
set_option maxRecDepth 100000 in
theorem convM (g : KG) (h0 : Nat) (u : Nat → Nat) {H : Heap} (hP : va_P g.1 zCl (wX7 g h0 u) H) : va_P g.1 zCl (zW sM (g.1, g.2.1, adM g h0 u, g.2.2.1, g.2.2.2.1, g.2.2.2.2) stM0) H := by
  have h : ∀ a ∈ LSM, va_at g.1 zCl (adM g h0 u a, ceM g.2.1 (adM g h0 u) a (stM0 a)) H := forall_cons (hP 0 _ rfl) (forall_cons (hP 38 _ rfl) (forall_cons (hP 37 _ rfl) (forall_cons (hP 36 _ rfl) (forall_cons (hP 35 _ rfl) (forall_cons (hP 34 _ rfl) (forall_cons (hP 33 _ rfl) (forall_cons (hP 32 _ rfl) (forall_cons (hP 31 _ rfl) (forall_cons (hP 30 _ rfl) (forall_cons (hP 29 _ rfl) (forall_cons (hP 28 _ rfl) (forall_cons (hP 27 _ rfl) (forall_cons (va_at_rows (hP 26 _ rfl) (by decide)) (forall_cons (hP 25 _ rfl) (forall_cons (hP 24 _ rfl) (forall_cons (hP 23 _ rfl) (forall_cons (hP 22 _ rfl) (forall_cons (hP 21 _ rfl) (forall_cons (hP 20 _ rfl) (forall_cons (hP 19 _ rfl) (forall_cons (hP 18 _ rfl) (forall_cons (hP 17 _ rfl) (forall_cons (hP 16 _ rfl) (forall_cons (hP 15 _ rfl) (forall_cons (hP 14 _ rfl) (forall_cons (hP 13 _ rfl) (forall_cons (hP 12 _ rfl) (forall_cons (hP 11 _ rfl) (forall_cons (hP 10 _ rfl) (forall_cons (hP 9 _ rfl) (forall_cons (hP 8 _ rfl) (forall_cons (hP 7 _ rfl) (forall_cons (hP 6 _ rfl) (forall_cons (hP 5 _ rfl) (forall_cons (va_at_rows (hP 4 _ rfl) (by decide)) (forall_cons (hP 3 _ rfl) (forall_cons (hP 2 _ rfl) (forall_cons (hP 1 _ rfl) (fun _ h => absurd h List.not_mem_nil)))))))))))))))))))))))))))))))))))))))
  rw [kP_mem]
  intro x hx
  obtain ⟨a, ha, rfl⟩ := List.mem_map.mp hx
  exact h a ha
set_option maxRecDepth 100000 in
theorem posM_lt : ∀ a ∈ LSM, posM a < 39 := by decide +kernel
set_option maxRecDepth 100000 in
theorem posM_inj : ∀ a ∈ LSM, ∀ b ∈ LSM, posM a = posM b → a = b := by decide +kernel
theorem injM (g : KG) (h0 : Nat) (u : Nat → Nat) {A : Nat → Prop} (hD : kD A (wX7 g h0 u)) : zInj sM (g.1, g.2.1, adM g h0 u, g.2.2.1, g.2.2.2.1, g.2.2.2.2) ∧ ∀ a ∈ sM.1, A (adM g h0 u a) := by
  have hlen : ((wX7 g h0 u).map Prod.fst).length = 39 := rfl
  have get : ∀ a ∈ LSM, ((wX7 g h0 u).map Prod.fst)[posM a]? = some (adM g h0 u a) := by
    intro a ha
    have h := posM_lt a ha
    rw [adM, List.getD_eq_getElem?_getD, List.getElem?_eq_getElem (by rw [hlen]; exact h)]
    rfl
  refine ⟨⟨by decide, fun a b ha hb e => ?_⟩, fun a ha => ?_⟩
  · have e1 := get a ha
    have e2 := get b hb
    have e : adM g h0 u a = adM g h0 u b := e
    rw [← e] at e2
    exact posM_inj a ha b hb ((List.getElem?_inj (by rw [hlen]; exact posM_lt a ha) hD.1).mp (e1.trans e2.symm))
  · obtain ⟨x, hx, e⟩ := List.mem_map.mp (List.mem_of_getElem? (get a ha))
    rw [← e]
    exact hD.2 x hx
def tmS (i : Nat) : Term := Term.string RX3 ([100, 69, 71, 49, 51, 56, 98, 36].getD i 0)
def FLc : List Cond := flatC (Jvm.Cond.and given_1 narrow_1)
set_option maxRecDepth 100000 in
theorem fs1 : ∀ i, i < 8 → Cond.exactly (tmS i) "java/lang/String" ∈ FLc := by decide +kernel
set_option maxRecDepth 100000 in
theorem fs2 : ∀ i, i < 8 → Cond.eq (.field (tmS i) "java/lang/String" "coder" "B") (.int 0) ∈ FLc := by decide +kernel
set_option maxRecDepth 100000 in
theorem fs3 : ∀ i, i < 8 → Cond.arrayOf (.field (tmS i) "java/lang/String" "value" "[B") .byte ∈ FLc := by decide +kernel
set_option maxRecDepth 100000 in
theorem fs4 : ∀ i, i < 8 → Cond.eq (.length (.field (tmS i) "java/lang/String" "value" "[B")) (.int (Int32.ofNat (lenS.getD i 0))) ∈ FLc := by decide +kernel
set_option maxRecDepth 100000 in
theorem fs5 : ∀ i, i < 8 → ∀ j, j < lenS.getD i 0 → Cond.eq (.elem (.field (tmS i) "java/lang/String" "value" "[B") (.int (Int32.ofNat j))) (.int ((bytS.getD i []).getD j 0)) ∈ FLc := by decide +kernel
set_option maxRecDepth 100000 in
theorem fs6 : ∀ i, i < 8 → ∀ j, j < 8 → i ≠ j → Cond.not (Cond.eq (tmS i) (tmS j)) ∈ FLc ∨ Cond.not (Cond.eq (tmS j) (tmS i)) ∈ FLc := by decide +kernel
set_option maxRecDepth 100000 in
theorem fs7 : Cond.eq (Term.string RX5 33) (Term.string RX3 100) ∈ FLc := by decide +kernel
set_option maxRecDepth 100000 in
theorem fs8 : Cond.arrayOf (Term.static RX6 "ABOVE" "[I") .int ∈ FLc ∧ Cond.eq (.length (Term.static RX6 "ABOVE" "[I")) (.int 7) ∈ FLc := by decide +kernel
set_option maxRecDepth 100000 in
theorem fs9 : ∀ j, j < 7 → Cond.eq (.elem (Term.static RX6 "ABOVE" "[I") (.int (Int32.ofNat j))) (.int (aboveF j)) ∈ FLc := by decide +kernel
set_option maxRecDepth 100000 in
theorem fs10 : Cond.eq (Term.static "java/lang/String" "COMPACT_STRINGS" "Z") (.int 1) ∈ FLc ∧ Cond.isRef (Term.static "jdk/internal/util/Preconditions" "SIOOBE_FORMATTER" "Ljava/util/function/BiFunction;") ∈ FLc := by decide +kernel
theorem zeq_t {args : Array Value} {s : State} {t1 t2 : Term} {a : Nat} (h : (Cond.eq t1 t2).before args s = true) (h2 : t2.eval args s none [] s = some (.ref a)) : t1.eval args s none [] s = some (.ref a) := by
  simp only [Cond.before, Cond.holds, Cond.value, h2] at h
  cases h1 : t1.eval args s none [] s with
  | none => simp [h1] at h
  | some v =>
    cases v <;> simp_all

theorem start_RO {s : State} {b : Nat} (hts : ∀ w ∈ lw_tbl, w.before #[Value.ref b] s = true) (hgv : (Jvm.Cond.and given_1 narrow_1).before #[Value.ref b] s = true) : ∃ (adK adV : Nat → Nat) (aB : Nat), zRO1 (fun q : Nat => s.heap.size ≤ q) adK adV aB s s.heap ∧ zRO2 adK s := by
  have hs : ∀ c ∈ FLc, c.before #[Value.ref b] s = true := flat_of_before _ hgv
  have hA : ∀ a : Nat, a < s.heap.size → ¬ s.heap.size ≤ a := fun a h => Nat.not_le.mpr h
  obtain ⟨adK, adV, hS, hK⟩ := vk_Sof (args := #[Value.ref b]) (s := s) (N := 8) (tm := tmS) (len := lenS) (byt := bytS) (A := fun q : Nat => s.heap.size ≤ q) (by decide) (fun i hi => hs _ (fs1 i hi)) (fun i hi => hs _ (fs2 i hi)) (fun i hi => hs _ (fs3 i hi)) (fun i hi => hs _ (fs4 i hi)) (fun i hi j hj => hs _ (fs5 i hi j hj)) (fun i j hi hj hij => (fs6 i hi j hj hij).imp (hs _) (hs _)) hA
  obtain ⟨aB, hB1, hB2⟩ := va_Tof (args := #[Value.ref b]) (s := s) (tm := Term.static RX6 "ABOVE" "[I") (ty := .int) (N := 7) (f := fun j => .int (aboveF j)) (A := fun q : Nat => s.heap.size ≤ q) (by decide) (hs _ fs8.1) (va_eqt (hs _ fs8.2)) (fun j hj => va_eqt (hs _ (fs9 j hj))) hA
  refine ⟨adK, adV, aB, ⟨hS, va_Zof (hts (.laysStatic RX6 "ABOVE" "[I") (List.mem_of_getElem? (i := 833) (by decide +kernel))) (hts (.initialized RX6) (List.mem_of_getElem? (i := 96) (by decide +kernel))) hB1 hA, hB2, va_Zof (hts (.laysStatic "java/lang/String" "COMPACT_STRINGS" "Z") (List.mem_of_getElem? (i := 135) (by decide +kernel))) (hts (.initialized "java/lang/String") (List.mem_of_getElem? (i := 98) (by decide +kernel))) (va_eqt (hs _ fs10.1)) hA, va_Zqof (hts (.laysStatic "jdk/internal/util/Preconditions" "SIOOBE_FORMATTER" "Ljava/util/function/BiFunction;") (List.mem_of_getElem? (i := 508) (by decide +kernel))) (hts (.initialized "jdk/internal/util/Preconditions") (List.mem_of_getElem? (i := 108) (by decide +kernel))) (hs _ fs10.2) hA⟩, ?_⟩
  exact ⟨vk_R.of (hts (.stringRef RX3 100 "hkveby") (List.mem_of_getElem? (i := 551) (by decide +kernel))) (hK 0 (by decide)), vk_R.of (hts (.stringRef RX3 69 "ing") (List.mem_of_getElem? (i := 486) (by decide +kernel))) (hK 1 (by decide)), vk_R.of (hts (.stringRef RX3 71 "ow") (List.mem_of_getElem? (i := 487) (by decide +kernel))) (hK 2 (by decide)), vk_R.of (hts (.stringRef RX3 49 "tax ") (List.mem_of_getElem? (i := 531) (by decide +kernel))) (hK 3 (by decide)), vk_R.of (hts (.stringRef RX3 51 "add ") (List.mem_of_getElem? (i := 532) (by decide +kernel))) (hK 4 (by decide)), vk_R.of (hts (.stringRef RX3 56 " ") (List.mem_of_getElem? (i := 538) (by decide +kernel))) (hK 5 (by decide)), vk_R.of (hts (.stringRef RX3 98 ")") (List.mem_of_getElem? (i := 611) (by decide +kernel))) (hK 6 (by decide)), vk_R.of (hts (.stringRef RX3 36 ";") (List.mem_of_getElem? (i := 616) (by decide +kernel))) (hK 7 (by decide)), vk_R.of (hts (.stringRef RX5 33 "hkveby") (List.mem_of_getElem? (i := 125) (by decide +kernel))) (zeq_t (hs _ fs7) (hK 0 (by decide)))⟩
theorem start_nest {s : State} {b : Nat} (hts : ∀ w ∈ lw_tbl, w.before #[Value.ref b] s = true) : zNest s :=
  ⟨⟨va_Nw.of rfl (hts (.methodLinkNest RX6 11 yX5_init RX6) (List.mem_of_getElem? (i := 121) (by decide +kernel))), va_Nw.of rfl (hts (.methodLinkNest RX6 26 yX1_init RX6) (List.mem_of_getElem? (i := 186) (by decide +kernel))), va_Nw.of rfl (hts (.methodLinkNest RX6 36 yX3_init RX6) (List.mem_of_getElem? (i := 213) (by decide +kernel))), va_Nw.of rfl (hts (.methodLinkNest RX6 49 yX0_init RX6) (List.mem_of_getElem? (i := 269) (by decide +kernel))), va_Nw.of rfl (hts (.methodLinkNest RX6 67 yX2_init RX6) (List.mem_of_getElem? (i := 293) (by decide +kernel))), va_Nw.of rfl (hts (.methodLinkNest RX6 68 yX4_init RX6) (List.mem_of_getElem? (i := 295) (by decide +kernel))), va_Nw.of rfl (hts (.methodLinkNest RX3 11 yX2_init RX6) (List.mem_of_getElem? (i := 219) (by decide +kernel)))⟩, va_AO.of (hts (.arrayOver (.object RX2)) (List.mem_of_getElem? (i := 266) (by decide +kernel))), va_AO.of (hts (.arrayOver (.object RX4)) (List.mem_of_getElem? (i := 292) (by decide +kernel)))⟩
theorem start_known {s : State} {b : Nat} (hts : ∀ w ∈ lw_tbl, w.before #[Value.ref b] s = true) : ∃ D : va_G, va_K D zCl [] s := by
  have hz : ∀ w ∈ zT, w.before #[Value.ref b] s = true := fun w hw => hts w (List.mem_filter.mp hw).1
  obtain ⟨c0, i0, k0⟩ := u_known (C := RX0) (T := TX0) (N := 5) (n := 5) hz inX0 (hts (.instantiable RX0 5) (List.mem_of_getElem? (i := 268) (by decide +kernel)))
  obtain ⟨c1, i1, k1⟩ := u_known (C := RX1) (T := TX1) (N := 5) (n := 5) hz inX1 (hts (.instantiable RX1 5) (List.mem_of_getElem? (i := 185) (by decide +kernel)))
  obtain ⟨c2, i2, k2⟩ := u_known (C := RX2) (T := TX2) (N := 8) (n := 8) hz inX2 (hts (.instantiable RX2 8) (List.mem_of_getElem? (i := 218) (by decide +kernel)))
  obtain ⟨c3, i3, k3⟩ := u_known (C := RX3) (T := TX3) (N := 4) (n := 4) hz inX3 (hts (.instantiable RX3 4) (List.mem_of_getElem? (i := 212) (by decide +kernel)))
  obtain ⟨c4, i4, k4⟩ := u_known (C := RX4) (T := TX4) (N := 3) (n := 3) hz inX4 (hts (.instantiable RX4 3) (List.mem_of_getElem? (i := 294) (by decide +kernel)))
  obtain ⟨c5, i5, k5⟩ := u_known (C := RX5) (T := TX5) (N := 12) (n := 12) hz inX5 (hts (.instantiable RX5 12) (List.mem_of_getElem? (i := 120) (by decide +kernel)))
  obtain ⟨c6, i6, k6⟩ := u_known (C := RX6) (T := TX6) (N := 13) (n := 13) hz inX6 (hts (.instantiable RX6 13) (List.mem_of_getElem? (i := 112) (by decide +kernel)))
  obtain ⟨c7, i7, k7⟩ := u_known (C := RX7) (T := TX7) (N := 61) (n := 61) hz inX7 (hts (.instantiable RX7 61) (List.mem_of_getElem? (i := 867) (by decide +kernel)))
  refine ⟨(fun k => [c0, c1, c2, c3, c4, c5, c6, c7].getD k c0, fun k => [i0, i1, i2, i3, i4, i5, i6, i7].getD k i0), fun k q hq => ?_, fun k q h => by simp at h⟩
  match k, hq with
  | 0, hq => cases hq; exact k0
  | 1, hq => cases hq; exact k1
  | 2, hq => cases hq; exact k2
  | 3, hq => cases hq; exact k3
  | 4, hq => cases hq; exact k4
  | 5, hq => cases hq; exact k5
  | 6, hq => cases hq; exact k6
  | 7, hq => cases hq; exact k7
  | k + 8, hq => simp at hq
set_option maxHeartbeats 8000000 in
set_option maxRecDepth 100000 in
theorem start_of {Rel : PS → PS → Prop} (hSim : Sim Rel) (hR0 : Rel stC0 stM0) {p : Program} {e : Env} {s : State} {m : MethodId} {below : List Frame} {meth : Method} {c : Code} (l : Launch) {b L : Nat} {xs : Nat → Int32} (hL : L ≤ 3072) (C0 : lw_At p s m meth c b L xs) : W p l e room_1 s m #[Value.ref b] below meth c s.heap [] 0 0 (lw_Z below #[Value.ref b] s) (entryFrame m ([Value.ref b] : List Value).toArray 4) := by
  obtain ⟨hx, hb, hr, hml, hown, hts, hX, hbl, hlocks, hgv⟩ := C0
  have hz : ∀ w ∈ zT, w.before #[Value.ref b] s = true := fun w hw => hts w (List.mem_filter.mp hw).1
  have hA : ∀ q : Nat, s.heap.size ≤ q → (fun q : Nat => s.heap.size ≤ q) q := fun _ h => h
  obtain ⟨D, hK⟩ := start_known hts
  obtain ⟨E, hE⟩ := EOK.ex s
  obtain ⟨adK, adV, aB, hO1, hO2⟩ := start_RO hts hgv
  have hN := start_nest hts
  have hS : va_S (fun q : Nat => s.heap.size ≤ q) s.heap s.heap [] := va_S.rf
  have hP : va_P D zCl [] s.heap := fun k q h => by simp at h
  have hD : va_D (fun q : Nat => s.heap.size ≤ q) [] := ⟨fun i j p q h => by simp at h, fun k q h => by simp at h⟩
  have hl := lv_entry ([.ref b]) (n := 4) (Nat.le_of_ble_eq_true rfl)
  rw [lg_entry_eq]
  generalize (lg_sl ([.ref b]) ++ List.replicate (4 - (lg_sl ([.ref b])).length) Slot.unset).toArray = ls at hl ⊢
  have hl : lv_has ls 4 [(0, .ref b)] := hl
  refine va_new (ci := 6) (fs := [.null, .null, .null, .null, .null, .int 0, .null, .null, .int 0, .null, .null, .null, .null]) (C := RX6) (T := TX6) (N := 13) hx hb hz inX6 tyX6 tyX6_ok hown (hts (.classLink RL 7 RX6) (List.mem_of_getElem? (i := 111) (by decide +kernel))) (hts (.instantiable RX6 13) (List.mem_of_getElem? (i := 112) (by decide +kernel))) (hts (.initialized RX6) (List.mem_of_getElem? (i := 96) (by decide +kernel))) hK hP hD hS hA rfl (by decide) (Nat.le_of_ble_eq_true rfl) (Nat.le_of_ble_eq_true rfl) dL_law_0 (fun qc H hP hD hS => ?_)
  refine lv_dup hx hb dL_law_3 rfl ?_
  have hF : ∀ q, va_A [(qc, (.inr (6, [.null, .null, .null, .null, .null, .int 0, .null, .null, .int 0, .null, .null, .null, .null]) : va_E))] H.size q → s.heap.size ≤ q := by
    rintro q (⟨k, e, h⟩ | h)
    · cases k with
      | zero => simp at h; rw [← h.1]; exact hD.2 0 _ rfl
      | succ k => simp at h
    · exact Nat.le_trans hS.1 h
  refine va_callv (va_runI (As := []) (rest := [.ref qc]) ⟨hx, hb, hml, hown, hz⟩ (X6_init_k l (g := (D, E, adK, adV, aB)) (h0 := qc) (sz := H.size)) (cwI 0 hz (zGood (fun w hw => by
    rcases List.mem_cons.mp hw with h | h
    · rw [h]; exact (zT_of (i := 115) (by decide +kernel) rfl)
    · exact h)) rfl rfl rfl (hts (.initialized RX6) (List.mem_of_getElem? (i := 96) (by decide +kernel))) (hts (.methodLink RL 9 yX6_init) (List.mem_of_getElem? (i := 113) (by decide +kernel))) (hts (.instanceMethod yX6_init) (List.mem_of_getElem? (i := 114) (by decide +kernel))) rfl (by decide +kernel) ⟨Nat.le_of_ble_eq_true rfl, Nat.le_of_ble_eq_true rfl⟩) ⟨kPre_blind, fun U hU hW => ⟨rfl, by rw [hU], by rw [hU]; exact hP, va_K.moved hW.alike hK, hE.moved hW.alike, hN.warm hW, by rw [hU]; exact ((hO1.kept hS.2.1).moved hW.alike).narrow hF, hO2.warm hW⟩⟩ rfl rfl hl.1 rfl (lv_room (Nat.le_of_ble_eq_true rfl)) dL_law_4 ⟨Nat.le_of_ble_eq_true rfl, Nat.le_of_ble_eq_true rfl⟩) hS (fun q _ h => hF q h) hF (fun uc t H1 locs1 ht hvm _ hB hz1 hk1 hS1 => ?_)
  obtain ⟨hB1, hB2, hB3⟩ := hB
  rw [ht] at hB1
  have hT1 : TK E [3, 3, 3, 3, 3, 3, 0, 0, 0, 0, 0, 0, 0, 0, 0, 0, 0, 0, 0, 0, 0, 0, 0, 0, 0, 0, 0, 0, 0, 0, 0, 0, 0, 0, 0, 0, 0, 0, 5, 0, 4, 1, 0, 0, 0, 0, 0, 0, 0, 0, 0, 0, 0, 0, 0, 0, 0, 0, 0, 0, 0, 0, 0, 0, 0, 0, 0, 0, 0, 0, 0, 0, 0, 0, 0, 0, 0] s := hB3.moved hvm.symm
  have hD1 : va_D (fun q : Nat => s.heap.size ≤ q) (wX6 (D, E, adK, adV, aB) qc uc) := hB2.weaken (fun k q _ h => hF _ h)
  refine lv_astore_n (lv' := [(1, .ref qc), (0, .ref b)]) hx hb dL_law_7 rfl hl (by decide) rfl (fun ls hl => ?_)
  refine va_new (ci := 7) (fs := [.int 0, .int 0, .null, .null, .null, .null, .int 0, .int 0, .int 0, .int 0, .int 0, .null, .null, .null, .null, .null, .null, .null, .null, .int 0, .int 0, .int 0, .null, .null, .int 0, .null, .int 0, .null, .null, .int 0, .null, .null, .null, .null, .null, .null, .int 0, .int 0, .null, .null, .int 0, .null, .int 0, .int 0, .int 0, .int 0, .int 0, .int 0, .null, .null, .null, .null, .null, .null, .null, .int 0, .null, .null, .null, .null, .null]) (C := RX7) (T := TX7) (N := 61) hx hb hz inX7 tyX7 tyX7_ok hown (hts (.classLink RL 10 RX7) (List.mem_of_getElem? (i := 866) (by decide +kernel))) (hts (.instantiable RX7 61) (List.mem_of_getElem? (i := 867) (by decide +kernel))) (hts (.initialized RX7) (List.mem_of_getElem? (i := 104) (by decide +kernel))) hK hB1 hD1 hS1 hA rfl (by decide) (Nat.le_of_ble_eq_true rfl) (Nat.le_of_ble_eq_true rfl) dL_law_8 (fun qm H2 hP2 hD2 hS2 => ?_)
  refine lv_dup hx hb dL_law_11 rfl ?_
  have hF2 : ∀ q, va_A [(qm, (.inr (7, [.int 0, .int 0, .null, .null, .null, .null, .int 0, .int 0, .int 0, .int 0, .int 0, .null, .null, .null, .null, .null, .null, .null, .null, .int 0, .int 0, .int 0, .null, .null, .int 0, .null, .int 0, .null, .null, .int 0, .null, .null, .null, .null, .null, .null, .int 0, .int 0, .null, .null, .int 0, .null, .int 0, .int 0, .int 0, .int 0, .int 0, .int 0, .null, .null, .null, .null, .null, .null, .null, .int 0, .null, .null, .null, .null, .null]) : va_E))] H2.size q → s.heap.size ≤ q := by
    rintro q (⟨k, e, h⟩ | h)
    · cases k with
      | zero => simp at h; rw [← h.1]; exact hD2.k.2 (qm, _) (List.mem_append_right _ List.mem_cons_self)
      | succ k => simp at h
    · exact Nat.le_trans hS2.1 h
  have hPm : va_P D zCl [(qm, (.inr (7, [.int 0, .int 0, .null, .null, .null, .null, .int 0, .int 0, .int 0, .int 0, .int 0, .null, .null, .null, .null, .null, .null, .null, .null, .int 0, .int 0, .int 0, .null, .null, .int 0, .null, .int 0, .null, .null, .int 0, .null, .null, .null, .null, .null, .null, .int 0, .int 0, .null, .null, .int 0, .null, .int 0, .int 0, .int 0, .int 0, .int 0, .int 0, .null, .null, .null, .null, .null, .null, .null, .int 0, .null, .null, .null, .null, .null]) : va_E))] H2 := kP_mem.mpr (fun x hx => kP_mem.mp hP2 x (List.mem_append_right _ hx))
  refine va_callv (va_runI (As := []) (rest := [.ref qm]) ⟨hx, hb, hml, hown, hz⟩ (X7_init_k l (g := (D, E, adK, adV, aB)) (h0 := qm) (sz := H2.size)) (cwI 0 hz (zGood (fun w hw => by
    rcases List.mem_cons.mp hw with h | h
    · rw [h]; exact (zT_of (i := 870) (by decide +kernel) rfl)
    · exact h)) rfl rfl rfl (hts (.initialized RX7) (List.mem_of_getElem? (i := 104) (by decide +kernel))) (hts (.methodLink RL 12 yX7_init) (List.mem_of_getElem? (i := 868) (by decide +kernel))) (hts (.instanceMethod yX7_init) (List.mem_of_getElem? (i := 869) (by decide +kernel))) rfl (by decide +kernel) ⟨Nat.le_of_ble_eq_true rfl, Nat.le_of_ble_eq_true rfl⟩) ⟨kPre_blind, fun U hU hW => ⟨rfl, by rw [hU], by rw [hU]; exact hPm, va_K.moved hW.alike hK, hE.moved hW.alike, hN.warm hW, by rw [hU]; exact ((hO1.kept hS2.2.1).moved hW.alike).narrow hF2, hO2.warm hW⟩⟩ rfl rfl hl.1 rfl (lv_room (Nat.le_of_ble_eq_true rfl)) dL_law_12 ⟨Nat.le_of_ble_eq_true rfl, Nat.le_of_ble_eq_true rfl⟩) hS2 (fun q _ h => hF2 q h) hF2 (fun um t3 H3 locs3 ht3 hvm3 _ hB3' hz3 hk3 hS3 => ?_)
  obtain ⟨hM1, hM2, hM3⟩ := hB3'
  rw [ht3] at hM1
  have hT2 : TK E [3, 3, 0, 0, 0, 0, 0, 0, 0, 0, 0, 0, 0, 0, 0, 0, 0, 0, 0, 0, 0, 0, 0, 0, 2, 0, 0, 0, 0, 0, 0, 0, 0, 0, 0, 0, 0, 0] s := hM3.moved hvm3.symm
  obtain ⟨j1, j2⟩ := k_join (R := []) hP2 hD2.k hk3 hF2 hM1 hM2
  refine lv_astore_n (lv' := [(2, .ref qm), (1, .ref qc), (0, .ref b)]) hx hb dL_law_15 rfl hl (by decide) rfl (fun ls hl => ?_)
  refine lv_iconst (v := 0) hx hb dL_law_16 (by decide) ?_
  refine lv_istore_n (lv' := [(3, .int 0), (2, .ref qm), (1, .ref qc), (0, .ref b)]) hx hb dL_law_17 rfl hl (by decide) rfl (fun ls hl => ?_)
  have hPc : va_P D zCl (wX6 (D, E, adK, adV, aB) qc uc) H3 := kP_mem.mpr (fun x hx => kP_mem.mp j1 x (List.mem_append_left _ hx))
  have hPm3 : va_P D zCl (wX7 (D, E, adK, adV, aB) qm um) H3 := hM1
  have nd := j2.1
  rw [List.append_nil, List.map_append, List.nodup_append] at nd
  have hDc : kD (fun q : Nat => s.heap.size ≤ q) (wX6 (D, E, adK, adV, aB) qc uc) := ⟨nd.1, fun x hx => j2.2 x (List.mem_append_left _ hx)⟩
  have hDm : kD (fun q : Nat => s.heap.size ≤ q) (wX7 (D, E, adK, adV, aB) qm um) := ⟨nd.2.1, fun x hx => j2.2 x (List.mem_append_right _ (List.mem_append_left _ hx))⟩
  obtain ⟨ic, nc⟩ := injC (D, E, adK, adV, aB) qc uc hDc
  obtain ⟨im, nm⟩ := injM (D, E, adK, adV, aB) qm um hDm
  have inC := (injC (D, E, adK, adV, aB) qc uc (A := fun q => q ∈ (wX6 (D, E, adK, adV, aB) qc uc).map Prod.fst) ⟨nd.1, fun x hx => List.mem_map_of_mem hx⟩).2
  have inM := (injM (D, E, adK, adV, aB) qm um (A := fun q => q ∈ (wX7 (D, E, adK, adV, aB) qm um).map Prod.fst) ⟨nd.2.1, fun x hx => List.mem_map_of_mem hx⟩).2
  have hKT : va_K D zCl [(E 0, .int), (E 1, .byte), (E 2, .boolean), (E 3, .long), (E 4, .object "MiddleThree$Street"), (E 5, .object "MiddleThree$Tape")] s := by
    refine ⟨hK.1, fun k q hq => ?_⟩
    match k, hq with
    | 0, hq => cases hq; exact hT1 0 (by decide) _ rfl
    | 1, hq => cases hq; exact hT1 1 (by decide) _ rfl
    | 2, hq => cases hq; exact hT2 2 (by decide) _ rfl
    | 3, hq => cases hq; exact hT1 3 (by decide) _ rfl
    | 4, hq => cases hq; exact hT1 4 (by decide) _ rfl
    | 5, hq => cases hq; exact hT1 5 (by decide) _ rfl
    | k + 6, hq => simp at hq
  have hret : meth.sig.returnType = ret := hr
  have CC : lC (p, l, e, room_1, s, m, #[Value.ref b], below, meth, c, (0 + 1 + 97 + 1 + 38), (0 + 13 + 3153 + 61 + 1852), 4) (D, E, adC (D, E, adK, adV, aB) qc uc, adK, adV, aB) (D, E, adM (D, E, adK, adV, aB) qm um, adK, adV, aB) b L xs :=
    ⟨⟨⟨hx, hb, hml, hown, hz⟩, hKT, ic, fun _ => ⟨hO1.narrow (fun q ⟨a, ha, e⟩ => by rw [← e]; exact nc a ha), hO2⟩, ⟨Nat.le_of_ble_eq_true rfl, Nat.le_of_ble_eq_true rfl, Nat.le_of_ble_eq_true rfl, Nat.le_of_ble_eq_true rfl⟩, hret, hlocks⟩,
     ⟨⟨hx, hb, hml, hown, hz⟩, hKT, im, fun h => (by cases h), ⟨Nat.le_of_ble_eq_true rfl, Nat.le_of_ble_eq_true rfl, Nat.le_of_ble_eq_true rfl, Nat.le_of_ble_eq_true rfl⟩, hret, hlocks⟩,
     ⟨nc, nm, fun a ha q hq e => nd.2.2 _ (inC a ha) _ (inM q hq) e⟩, hX, hbl, hL, rfl, rfl, Nat.le_of_ble_eq_true rfl, Nat.le_of_ble_eq_true rfl⟩
  exact law_loop hSim CC rfl ic im hL (L + 1) 0 stC0 stM0 (by omega) (by omega) (by omega) hR0 (by omega) () rfl H3 locs3 ls ⟨convC _ _ _ hPc, convM _ _ _ hPm3, hS3⟩ (lv_sub hl [3, 2, 1, 0] rfl)
