def wideI (n : Nat) (ring h far : Int) : Nat → List Nat
  | 0 => []
  | o + 1 => if (o : Int) = h then wideI n ring h far o else if far < awayF n h o ring then wideI n ring h far o else o :: wideI n ring h far o
theorem wideF_I {n : Nat} {ring : Int} {e s : Int → Int} {h far : Int} : ∀ m : Nat, wideF n ring e s h far m = (wideI n ring h far m).foldr (fun (o : Nat) l => insL (s (o : Int)) l) [e h]
  | 0 => rfl
  | m + 1 => by
    rw [wideF, wideI]; split
    · exact wideF_I m
    · split
      · exact wideF_I m
      · rw [List.foldr_cons, ← wideF_I m]
def prevN (n h : Nat) : Nat := if h = 0 then n - 1 else h - 1
def folN (n h : Nat) : Nat := if h = n - 1 then 0 else h + 1
theorem wideI_all : ∀ n : Fin 8, ∀ h : Fin 8, ∀ r : Fin 2, h.val < n.val → if n.val < 3 ∨ ((h.val = 0 ∨ h.val = n.val - 1) ∧ r.val = 0) then (wideI n.val (r.val : Int) (h.val : Int) 1 n.val).length < 2 else wideI n.val (r.val : Int) (h.val : Int) 1 n.val = [max (prevN n.val h.val) (folN n.val h.val), min (prevN n.val h.val) (folN n.val h.val)] := by decide +kernel
theorem foldr_len {s : Int → Int} {x : Int} : ∀ l : List Nat, (l.foldr (fun (o : Nat) l => insL (s (o : Int)) l) [x]).length = l.length + 1
  | [] => rfl
  | a :: l => by rw [List.foldr_cons, insL_len, foldr_len l]; rfl
theorem wide_mid {n : Nat} {ring h : Int} {e s : Int → Int} (hn : n ≤ 7) (hr : ring = 0 ∨ ring = 1) (h0 : 0 ≤ h) (h1 : h < n) : (if 3 ≤ (wideF n ring e s h 1 n).length then (wideF n ring e s h 1 n).getD 1 0 else e h) = midF n ring e s h := by
  obtain ⟨k, rfl⟩ : ∃ k : Nat, h = k := ⟨h.toNat, (Int.toNat_of_nonneg h0).symm⟩
  have hk : k < n := by omega
  obtain ⟨r, hr2, hr3⟩ : ∃ r : Fin 2, ring = (r.val : Int) ∧ (r.val = 0 ↔ ring = 0) := by
    rcases hr with rfl | rfl
    · exact ⟨0, rfl, by decide⟩
    · exact ⟨1, rfl, by decide⟩
  have q := wideI_all ⟨n, by omega⟩ ⟨k, by omega⟩ r hk
  simp only at q
  rw [← hr2] at q
  rw [wideF_I, foldr_len]
  unfold midF
  by_cases c : n < 3 ∨ ((k = 0 ∨ k = n - 1) ∧ r.val = 0)
  · rw [if_pos c] at q
    rw [if_neg (by omega), if_pos (by omega)]
  · rw [if_neg c] at q
    rw [q, if_neg (by omega : ¬ (n < 3 ∨ ((k : Int) = 0 ∨ (k : Int) = (n : Int) - 1) ∧ ring = 0))]
    have ep : (if (k : Int) = 0 then (n : Int) - 1 else (k : Int) - 1) = (prevN n k : Int) := by unfold prevN; split <;> split <;> omega
    have ef : (if (k : Int) = (n : Int) - 1 then 0 else (k : Int) + 1) = (folN n k : Int) := by unfold folN; split <;> split <;> omega
    rw [ep, ef]
    show (if 3 ≤ 3 then (insL (s ((max (prevN n k) (folN n k) : Nat) : Int)) (insL (s ((min (prevN n k) (folN n k) : Nat) : Int)) [e k])).getD 1 0 else e k) = max (min (s (prevN n k)) (s (folN n k))) (min (max (s (prevN n k)) (s (folN n k))) (e k))
    rw [if_pos (Nat.le_refl 3), (mid3 _ _ _).1]
    by_cases z : prevN n k ≤ folN n k
    · rw [Nat.max_eq_right z, Nat.min_eq_left z]
    · rw [Nat.max_eq_left (by omega), Nat.min_eq_right (by omega)]; omega
