/-! MATH: what both sides reckon -/
def sumF (f : Int → Int) : Nat → Int
  | 0 => 0
  | n + 1 => sumF f n + f n
def richF (e : Int → Int) (x : Int) : Nat → Int
  | 0 => 0
  | n + 1 => richF e x n + (if x < e n then 1 else 0)
theorem sumF_ext {f g : Int → Int} : ∀ {n : Nat}, (∀ h : Int, 0 ≤ h → h < n → f h = g h) → sumF f n = sumF g n
  | 0, _ => rfl
  | n + 1, H => by
    rw [sumF, sumF, sumF_ext (n := n) (fun h h1 h2 => H h h1 (by omega)), H n (by omega) (by omega)]
theorem sumF_rng {f : Int → Int} : ∀ {n : Nat}, (∀ h : Int, 0 ≤ h → h < n → 0 ≤ f h ∧ f h ≤ 99) → 0 ≤ sumF f n ∧ sumF f n ≤ 99 * n
  | 0, _ => ⟨Int.le_refl _, by simp [sumF]⟩
  | n + 1, H => by
    have h1 := sumF_rng (n := n) (fun h h1 h2 => H h h1 (by omega))
    have h2 := H n (by omega) (by omega)
    rw [sumF]; omega
theorem richF_ext {f g : Int → Int} {x : Int} : ∀ {n : Nat}, (∀ h : Int, 0 ≤ h → h < n → f h = g h) → richF f x n = richF g x n
  | 0, _ => rfl
  | n + 1, H => by
    rw [richF, richF, richF_ext (n := n) (fun h h1 h2 => H h h1 (by omega)), H n (by omega) (by omega)]
theorem richF_rng {f : Int → Int} {x : Int} : ∀ {n : Nat}, 0 ≤ richF f x n ∧ richF f x n ≤ n
  | 0 => ⟨Int.le_refl _, Int.le_refl _⟩
  | n + 1 => by
    have h1 := richF_rng (f := f) (x := x) (n := n)
    rw [richF]; split <;> omega
/-- one step of a test's code on a pile -/
def tstC (fx : Int → Int) (t : Int) : Bool := if t / 100 % 10 = 0 then decide (fx (t / 1000) < t % 100) else if t / 100 % 10 = 1 then decide (fx (t / 1000) = t % 100) else decide (t % 100 < fx (t / 1000))
def runC (fx : Int → Int) : List Int → List Bool → List Bool
  | [], s => s
  | t :: c, s => runC fx c (if t = -33 then (match s with | b :: s => (!b) :: s | [] => []) else if t = -38 then (match s with | a :: b :: s => (b && a) :: s | s => s) else if t = -124 then (match s with | a :: b :: s => (b || a) :: s | s => s) else tstC fx t :: s)
def okC : List Int → Nat → Bool
  | [], h => decide (h = 1)
  | t :: c, h => if t = -33 then decide (1 ≤ h) && okC c h else if t = -38 ∨ t = -124 then decide (2 ≤ h) && okC c (h - 1) else decide (0 ≤ t ∧ t < 6000 ∧ t / 100 % 10 ≤ 2 ∧ h + 1 ≤ 12) && okC c (h + 1)
def holdC (fx : Int → Int) (c : List Int) : Bool := (runC fx c []).headD false
abbrev Cl : Type := List (Int × Int × List Int)
def ringL : Cl → Int → Int
  | [], r => r
  | (w, _, _) :: L, r => ringL L (if w = 2 then 1 else if w = 3 then 0 else r)
def addsL (fx : Int → Int) : Cl → Int
  | [] => 0
  | (w, n, c) :: L => (if w = 0 then (if holdC fx c then n else 0) else if w = 1 then (if holdC fx c then -n else 0) else 0) + addsL fx L
def okL (L : Cl) : Prop := ∀ x ∈ L, (x.1 = 0 ∨ x.1 = 1 ∨ x.1 = 2 ∨ x.1 = 3) ∧ ((x.1 = 0 ∨ x.1 = 1) → 0 ≤ x.2.1 ∧ x.2.1 ≤ 99 ∧ okC x.2.2 0 = true)
def fctF (n : Nat) (y : Int) (kd v e : Int → Int) (h : Int) : Int → Int := fun f => if f = 0 then h else if f = 1 then kd h else if f = 2 then v h else if f = 3 then e h / 10 else if f = 4 then richF e (e h) n else y % 10
def sayF (y : Int) (kd v e : Int → Int) (h : Int) : Int := if kd h = 5 then (if y % 9 = v h then 0 else e h) else e h
/-- the sorted row: x comes in behind all that are not above it -/
def insL (x : Int) : List Int → List Int
  | [] => [x]
  | a :: l => if a ≤ x then a :: insL x l else x :: a :: l
def awayF (n h o ring : Int) : Int := if ring = 0 then (if o ≤ h then h - o else o - h) else if (if o ≤ h then h - o else o - h) ≤ n - (if o ≤ h then h - o else o - h) then (if o ≤ h then h - o else o - h) else n - (if o ≤ h then h - o else o - h)
/-- what one earns and what the others that are so far away say, sorted -/
def wideF (n : Nat) (ring : Int) (e s : Int → Int) (h far : Int) : Nat → List Int
  | 0 => [e h]
  | o + 1 => if (o : Int) = h then wideF n ring e s h far o else if far < awayF n h o ring then wideF n ring e s h far o else insL (s o) (wideF n ring e s h far o)
def midF (n : Nat) (ring : Int) (e s : Int → Int) (h : Int) : Int :=
  if n < 3 ∨ ((h = 0 ∨ h = (n : Int) - 1) ∧ ring = 0) then e h else
  let a := s (if h = 0 then (n : Int) - 1 else h - 1)
  let b := s (if h = (n : Int) - 1 then 0 else h + 1)
  max (min a b) (min (max a b) (e h))
def plainF (n : Nat) (y ring : Int) (kd v e rw s : Int → Int) (h : Int) : Int :=
  if kd h = 1 then max (midF n ring e s h) (5 * v h)
  else if kd h = 2 ∨ kd h = 5 then min (midF n ring e s h) (e h)
  else if kd h = 3 then (wideF n ring e s h 2 n).getD (((wideF n ring e s h 2 n).length - 1) / 2) 0
  else if kd h = 4 then (if y % (v h + 2) = 0 then max (midF n ring e s h) (5 * v h) / 2 else max (midF n ring e s h) (5 * v h))
  else if kd h = 6 then (wideF n ring e s h 2 n).getD (min (rw (h * 4 + y % 4)) ((wideF n ring e s h 2 n).length - 1)).toNat 0
  else midF n ring e s h
def nextF (n : Nat) (y : Int) (L : Cl) (kd v e rw s : Int → Int) (h : Int) : Int := max 0 (min 99 (plainF n y (ringL L 0) kd v e rw s h + addsL (fctF n y kd v e h) L))
/-- so many years: from year y on, with what is earned -/
def goF (n : Nat) (L : Cl) (kd v rw : Int → Int) : Nat → Int → (Int → Int) → (Int → Int)
  | 0, _, e => e
  | k + 1, y, e => goF n L kd v rw k (y + 1) (nextF n y L kd v e rw (sayF y kd v e))
