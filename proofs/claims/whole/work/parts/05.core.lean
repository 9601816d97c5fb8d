/-! CORE: numbers -/
abbrev PS : Type := Nat → Int → Int
def oI (z : Int) : Int32 := Int32.ofInt z
def oL (z : Int) : Int64 := Int64.ofInt z
def wI (z : Int) : Int := z.bmod 4294967296
def wL (z : Int) : Int := z.bmod 18446744073709551616
def wB (z : Int) : Int := z.bmod 256
def wH (z : Int) : Int := z.bmod 65536
theorem oI_toInt (z : Int) : (oI z).toInt = wI z := by
  rw [oI, Int32.toInt_ofInt]; rfl
theorem oL_toInt (z : Int) : (oL z).toInt = wL z := by
  rw [oL, Int64.toInt_ofInt]; rfl
theorem oI_of (x : Int32) : oI x.toInt = x := Int32.ofInt_toInt x
theorem oL_of (x : Int64) : oL x.toInt = x := Int64.ofInt_toInt x
theorem oI_add (a b : Int) : oI a + oI b = oI (a + b) := (Int32.ofInt_add a b).symm
theorem oI_sub (a b : Int) : oI a - oI b = oI (a - b) := (Int32.ofInt_sub a b).symm
theorem oI_mul (a b : Int) : oI a * oI b = oI (a * b) := (Int32.ofInt_mul a b).symm
theorem oI_neg (a : Int) : -oI a = oI (-a) := (Int32.ofInt_neg a).symm
theorem oI_lt {a b : Int} : oI a < oI b ↔ wI a < wI b := by rw [Int32.lt_iff_toInt_lt, oI_toInt, oI_toInt]
theorem oI_le {a b : Int} : oI a ≤ oI b ↔ wI a ≤ wI b := by rw [Int32.le_iff_toInt_le, oI_toInt, oI_toInt]
theorem oI_eq {a b : Int} : oI a = oI b ↔ wI a = wI b := by rw [← Int32.toInt_inj, oI_toInt, oI_toInt]
theorem wI_id {z : Int} (h1 : -2147483648 ≤ z) (h2 : z < 2147483648) : wI z = z := Int.bmod_eq_of_le_mul_two (by omega) (by omega)
theorem wI_0 : wI 0 = 0 := by decide
theorem wI_wI (z : Int) : wI (wI z) = wI z := Int.bmod_bmod
theorem wI_rng (z : Int) : -2147483648 ≤ wI z ∧ wI z < 2147483648 := by
  have h1 := Int.le_bmod (x := z) (m := 4294967296) (by decide)
  have h2 := Int.bmod_lt (x := z) (m := 4294967296) (by decide)
  show -2147483648 ≤ Int.bmod z 4294967296 ∧ Int.bmod z 4294967296 < 2147483648
  omega
theorem oI_wI (z : Int) : oI (wI z) = oI z := by rw [← oI_toInt, oI_of]
theorem oI_lt0 {a : Int} : oI a < 0 ↔ wI a < 0 := by rw [show (0 : Int32) = oI 0 from rfl, oI_lt, wI_0]
theorem oI_le0 {a : Int} : oI a ≤ 0 ↔ wI a ≤ 0 := by rw [show (0 : Int32) = oI 0 from rfl, oI_le, wI_0]
theorem oI_ge0 {a : Int} : 0 ≤ oI a ↔ 0 ≤ wI a := by rw [show (0 : Int32) = oI 0 from rfl, oI_le, wI_0]
theorem oI_gt0 {a : Int} : 0 < oI a ↔ 0 < wI a := by rw [show (0 : Int32) = oI 0 from rfl, oI_lt, wI_0]
theorem oI_eq0 {a : Int} : oI a = 0 ↔ wI a = 0 := by rw [show (0 : Int32) = oI 0 from rfl, oI_eq, wI_0]
def zdiv (a b : Int) : Int := (wI a).tdiv (wI b)
def zrem (a b : Int) : Int := a - zdiv a b * b
theorem oI_div (a b : Int) : oI a / oI b = oI (zdiv a b) := by
  rw [← Int32.toInt_inj, Int32.toInt_div, oI_toInt, oI_toInt, oI_toInt]; rfl
theorem oI_rem (a b : Int) : oI a - oI a / oI b * oI b = oI (zrem a b) := by
  rw [oI_div, oI_mul, oI_sub]; rfl
def zand (a b : Int) : Int := (oI a &&& oI b).toInt
def zor (a b : Int) : Int := (oI a ||| oI b).toInt
def zxor (a b : Int) : Int := (oI a ^^^ oI b).toInt
def zshl (a b : Int) : Int := (oI a <<< (oI b &&& 31)).toInt
def zshr (a b : Int) : Int := (oI a >>> (oI b &&& 31)).toInt
theorem oI_l2i (z : Int) : (oL z).toInt32 = oI z := Int64.toInt32_ofInt
theorem oI_i2l (z : Int) : (oI z).toInt64 = oL (wI z) := by rw [oL, ← oI_toInt, Int64.ofInt_int32ToInt]
theorem oI_i2b (z : Int) : (oI z).toInt8.toInt32 = oI (wB z) := by
  rw [← Int32.toInt_inj, Int8.toInt_toInt32, oI, Int32.toInt8_ofInt, Int8.toInt_ofInt, oI_toInt]
  show wB z = _
  have h1 := Int.le_bmod (x := z) (m := 256) (by decide)
  have h2 := Int.bmod_lt (x := z) (m := 256) (by decide)
  exact (wI_id (by show _ ≤ Int.bmod z 256; omega) (by show Int.bmod z 256 < _; omega)).symm
theorem oI_i2s (z : Int) : (oI z).toInt16.toInt32 = oI (wH z) := by
  rw [← Int32.toInt_inj, Int16.toInt_toInt32, oI, Int32.toInt16_ofInt, Int16.toInt_ofInt, oI_toInt]
  show wH z = _
  have h1 := Int.le_bmod (x := z) (m := 65536) (by decide)
  have h2 := Int.bmod_lt (x := z) (m := 65536) (by decide)
  exact (wI_id (by show _ ≤ Int.bmod z 65536; omega) (by show Int.bmod z 65536 < _; omega)).symm
theorem oL_lt {a b : Int} : oL a < oL b ↔ wL a < wL b := by rw [Int64.lt_iff_toInt_lt, oL_toInt, oL_toInt]
theorem oL_eq {a b : Int} : oL a = oL b ↔ wL a = wL b := by rw [← Int64.toInt_inj, oL_toInt, oL_toInt]
def zcmp (a b : Int) : Int := if wL b < wL a then 1 else if wL a = wL b then 0 else -1
theorem oL_cmp (a b : Int) : lg_cmp (oL a) (oL b) = oI (zcmp a b) := by
  unfold lg_cmp zcmp
  by_cases h1 : wL b < wL a
  · rw [if_pos h1, if_pos (oL_lt.mpr h1)]; rfl
  · rw [if_neg h1, if_neg (fun q => h1 (oL_lt.mp q))]
    by_cases h2 : wL a = wL b
    · rw [if_pos h2, if_pos (oL_eq.mpr h2)]; rfl
    · rw [if_neg h2, if_neg (fun q => h2 (oL_eq.mp q))]; rfl
/-! memory -/
def zu (st : PS) (a : Nat) (i x : Int) : PS := fun b j => if b = a ∧ j = i then x else st b j
def zrd (st : PS) (a n : Nat) (i : Int) : Option Int := if 0 ≤ wI i ∧ wI i < n then some (st a (wI i)) else none
def zwr (st : PS) (a n : Nat) (i x : Int) : Option PS := if 0 ≤ wI i ∧ wI i < n then some (zu st a (wI i) x) else none
def zcpf (st : PS) (a b : Nat) (sp dp n : Int) : PS := fun q j => if q = b ∧ dp ≤ j ∧ j < dp + n then st a (sp + (j - dp)) else st q j
def zcp (st : PS) (a na b nb : Nat) (sp dp n : Int) : Option PS := if 0 ≤ wI sp ∧ 0 ≤ wI dp ∧ 0 ≤ wI n ∧ wI sp + wI n ≤ na ∧ wI dp + wI n ≤ nb then some (zcpf st a b (wI sp) (wI dp) (wI n)) else none
def zchk {R : Type} (i : Int) (n : Nat) (k : Option R) : Option R := if 0 ≤ i ∧ i < n then k else none
def zbit {R : Type} (i : Int) (k : Option R) : Option R := if i = 0 ∨ i = 1 then k else none
def znz {R : Type} (i : Int) (k : Option R) : Option R := if wI i = 0 then none else k
def bP {R : Type} (o : Option (Int × PS)) (k : Int → PS → Option R) : Option R := match o with
  | none => none
  | some r => k r.1 r.2
def bI {α R : Type} (o : Option α) (k : α → Option R) : Option R := match o with
  | none => none
  | some r => k r
theorem bP_some {R : Type} (v : Int) (st : PS) (k : Int → PS → Option R) : bP (some (v, st)) k = k v st := rfl
theorem bI_some {α R : Type} (v : α) (k : α → Option R) : bI (some v) k = k v := rfl
def FU : Nat := 100000
/-! worlds: labels, their addresses, their cells -/
abbrev SD : Type := List Nat × ((Nat → ClassId) → (Nat → Nat) → Nat → (Int → Int) → va_E) × Bool
abbrev GD : Type := va_G × (Nat → ClassId) × (Nat → Nat) × (Nat → Nat) × (Nat → Nat) × Nat
abbrev zW (K : SD) (G : GD) (st : PS) : va_W := K.1.map fun a => (G.2.2.1 a, K.2.1 G.2.1 G.2.2.1 a (st a))
def zA (K : SD) (G : GD) : Nat → Prop := fun q => ∃ a, a ∈ K.1 ∧ G.2.2.1 a = q
def zInj (K : SD) (G : GD) : Prop := K.1.Nodup ∧ ∀ a b, a ∈ K.1 → b ∈ K.1 → G.2.2.1 a = G.2.2.1 b → a = b
abbrev zTy (G : GD) : List (ClassId × FieldType) := [(G.2.1 0, .int), (G.2.1 1, .byte), (G.2.1 2, .boolean), (G.2.1 3, .long), (G.2.1 4, .object "MiddleThree$Street"), (G.2.1 5, .object "MiddleThree$Tape")]
abbrev zCl : List vw_C := [(RX0, TX0, 5), (RX1, TX1, 5), (RX2, TX2, 8), (RX3, TX3, 4), (RX4, TX4, 3), (RX5, TX5, 12), (RX6, TX6, 13), (RX7, TX7, 61)]
/-- what nobody writes: String constants, a static row, statics of the JDK's -/
def nS : Nat := 8
def lenS : List Nat := [6, 3, 2, 4, 4, 1, 1, 1]
def bytS : List (List Int32) := [[104, 107, 118, 101, 98, 121], [105, 110, 103], [111, 119], [116, 97, 120, 32], [97, 100, 100, 32], [32], [41], [59]]
def aboveF : Nat → Int32 := fun j => [-1, 0, 0, 0, 1, 2, 3].getD j 0
def zRO1 (A : Nat → Prop) (adK adV : Nat → Nat) (aB : Nat) (U : State) (H : Heap) : Prop :=
  vk_S nS lenS bytS adK adV A U H ∧ va_Z RX6 "ABOVE" "[I" (.ref aB) A U H ∧ va_T .int aB 7 (fun j => .int (aboveF j)) A U H ∧ va_Z "java/lang/String" "COMPACT_STRINGS" "Z" (.int 1) A U H ∧ va_Zq "jdk/internal/util/Preconditions" "SIOOBE_FORMATTER" "Ljava/util/function/BiFunction;" A U H
def zRO2 (adK : Nat → Nat) (U : State) : Prop :=
  vk_R RX3 100 "hkveby" (adK 0) U ∧ vk_R RX3 69 "ing" (adK 1) U ∧ vk_R RX3 71 "ow" (adK 2) U ∧ vk_R RX3 49 "tax " (adK 3) U ∧ vk_R RX3 51 "add " (adK 4) U ∧ vk_R RX3 56 " " (adK 5) U ∧ vk_R RX3 98 ")" (adK 6) U ∧ vk_R RX3 36 ";" (adK 7) U ∧ vk_R RX5 33 "hkveby" (adK 0) U
def zRO (K : SD) (G : GD) (U : State) (H : Heap) : Prop := K.2.2 = true → zRO1 (zA K G) G.2.2.2.1 G.2.2.2.2.1 G.2.2.2.2.2 U H ∧ zRO2 G.2.2.2.1 U
theorem zRO1.moved {A : Nat → Prop} {adK adV : Nat → Nat} {aB : Nat} {u U : State} {H : Heap} (hvm : u.vm.Alike U.vm) (h : zRO1 A adK adV aB u H) : zRO1 A adK adV aB U H := ⟨h.1.moved hvm, h.2.1.moved hvm, h.2.2.1.moved hvm, h.2.2.2.1.moved hvm, h.2.2.2.2.moved hvm⟩
theorem zRO1.kept {A : Nat → Prop} {adK adV : Nat → Nat} {aB : Nat} {U : State} {H H1 : Heap} (h : zRO1 A adK adV aB U H) (hq : ∀ a : Nat, a < H.size → ¬ A a → H1[a]? = H[a]?) : zRO1 A adK adV aB U H1 := ⟨h.1.kept hq, h.2.1.kept hq, h.2.2.1.kept hq, h.2.2.2.1.kept hq, h.2.2.2.2.kept hq⟩
theorem zRO1.narrow {A B : Nat → Prop} {adK adV : Nat → Nat} {aB : Nat} {U : State} {H : Heap} (h : zRO1 A adK adV aB U H) (hAB : ∀ q, B q → A q) : zRO1 B adK adV aB U H := ⟨h.1.narrow hAB, h.2.1.narrow hAB, h.2.2.1.narrow hAB, h.2.2.2.1.narrow hAB, h.2.2.2.2.narrow hAB⟩
theorem zRO2.same {adK : Nat → Nat} {u U : State} (hv : U.vm = u.vm) (h : zRO2 adK u) : zRO2 adK U := ⟨h.1.same hv, h.2.1.same hv, h.2.2.1.same hv, h.2.2.2.1.same hv, h.2.2.2.2.1.same hv, h.2.2.2.2.2.1.same hv, h.2.2.2.2.2.2.1.same hv, h.2.2.2.2.2.2.2.1.same hv, h.2.2.2.2.2.2.2.2.same hv⟩
theorem zRO2.warm {adK : Nat → Nat} {s U : State} (hW : s.WarmedH U.vm) (h : zRO2 adK s) : zRO2 adK U := ⟨h.1.warm hW, h.2.1.warm hW, h.2.2.1.warm hW, h.2.2.2.1.warm hW, h.2.2.2.2.1.warm hW, h.2.2.2.2.2.1.warm hW, h.2.2.2.2.2.2.1.warm hW, h.2.2.2.2.2.2.2.1.warm hW, h.2.2.2.2.2.2.2.2.warm hW⟩
theorem zRO.call {K : SD} {G : GD} {U : State} {H : Heap} {g : JFrame} {mk : MethodId} {a : Array Value} (h : zRO K G U H) : zRO K G (U.calling g mk a) H := fun hb => ⟨(h hb).1.moved (Vm.Alike.refl U.vm), (h hb).2.same rfl⟩
theorem zRO.warm {K : SD} {G : GD} {s U : State} {H H1 : Heap} (hW : s.WarmedH U.vm) (h : zRO K G s H) (hq : ∀ a : Nat, a < H.size → ¬ zA K G a → H1[a]? = H[a]?) : zRO K G U H1 := fun hb => ⟨((h hb).1.kept hq).moved hW.alike, (h hb).2.warm hW⟩
def zI (K : SD) (G : GD) (s : State) (st : PS) (H : Heap) (locs : List Loc) : Prop := va_P G.1 zCl (zW K G st) H ∧ va_S (zA K G) s.heap H locs
theorem zu_same (st : PS) (a : Nat) (i x : Int) : zu st a i x a = fun j => if j = i then x else st a j := by
  funext j; simp [zu]
theorem zu_ne (st : PS) {a b : Nat} (h : b ≠ a) (i x : Int) : zu st a i x b = st b := by
  funext j; simp [zu, h]
theorem zW_get {K : SD} {G : GD} {a : Nat} (h : a ∈ K.1) : ∃ q0 : Nat, K.1[q0]? = some a ∧ ∀ st, (zW K G st)[q0]? = some (G.2.2.1 a, K.2.1 G.2.1 G.2.2.1 a (st a)) := by
  obtain ⟨q, hq⟩ := List.getElem?_of_mem h
  exact ⟨q, hq, fun st => by simp [zW, hq]⟩
theorem zW_set {K : SD} {G : GD} {a q0 : Nat} {st st' : PS} (hj : zInj K G) (hq : K.1[q0]? = some a) (hs : ∀ b, b ≠ a → st' b = st b) {e : va_E} (he : e = K.2.1 G.2.1 G.2.2.1 a (st' a)) : (zW K G st).set q0 (G.2.2.1 a, e) = zW K G st' := by
  subst he
  apply List.ext_getElem?
  intro i
  rw [List.getElem?_set]
  have hl : q0 < K.1.length := (List.getElem?_eq_some_iff.mp hq).1
  by_cases hi : q0 = i
  · subst hi
    rw [if_pos rfl, if_pos (by simpa [zW] using hl)]
    simp only [zW, List.getElem?_map, hq, Option.map_some]
  · rw [if_neg hi]
    simp only [zW, List.getElem?_map]
    cases hb : K.1[i]? with
    | none => rfl
    | some b =>
      have hne : b ≠ a := by
        intro e
        subst e
        exact hi (((List.getElem?_inj hl hj.1).mp (hq.trans hb.symm)))
      simp [hs b hne]
theorem zW_D {K : SD} {G : GD} (hj : zInj K G) (st : PS) : va_D (zA K G) (zW K G st) := by
  refine ⟨fun i j p q hi hk e => ?_, fun k q hk => ?_⟩
  · simp only [zW, List.getElem?_map, Option.map_eq_some_iff] at hi hk
    obtain ⟨a, ha, rfl⟩ := hi
    obtain ⟨b, hb, rfl⟩ := hk
    have hab := hj.2 a b (List.mem_of_getElem? ha) (List.mem_of_getElem? hb) e
    subst hab
    exact (List.getElem?_inj (List.getElem?_eq_some_iff.mp ha).1 hj.1).mp (ha.trans hb.symm)
  · simp only [zW, List.getElem?_map, Option.map_eq_some_iff] at hk
    obtain ⟨a, ha, rfl⟩ := hk
    exact ⟨a, List.mem_of_getElem? ha, rfl⟩
/-! the walk -/
abbrev JX : Type := Program × Launch × Env × Room × State × MethodId × Array Value × List Frame × Method × Code × Nat × Nat × Nat
def J {σ R : Type} (X : JX) (WR : State → σ → Heap → List Loc → Prop) (Q : JX → R → State → Prop) (st : σ) (lv : List (Nat × Value)) (pc : Nat) (stk : List Value) (o : Option R) : Prop := match X with
  | (p, l, e, R, s, m, args, below, meth, c, cells, slots, nL) => ∀ r, o = some r → ∀ (H : Heap) (locs : List Loc) (ls : Array Slot), WR s st H locs → lv_has ls nL lv → W p l e R s m args below meth c H locs cells slots (Q (p, l, e, R, s, m, args, below, meth, c, cells, slots, nL) r) (F0 m pc ls stk)
def zT : List Cond := lw_tbl.filter goodWord
theorem zT_of {i : Nat} {w : Cond} (h : lw_tbl[i]? = some w) (g : goodWord w = true) : w ∈ zT := List.mem_filter.mpr ⟨List.mem_of_getElem? h, g⟩
def zroom (d : Nat) : Room := { frames := d + 2, cells := 0, slots := 0, locals := 60 * (d + 2) }
/-- what a method's walk stands on: room rank d, own class, code, return type -/
def zC (X : JX) (K : SD) (G : GD) (own : String) (cc : ByteArray) (rt : Option FieldType) (d : Nat) : Prop := match X with
  | (p, _, _, R, s, m, args, _, meth, c, cells, slots, nL) => (p.tables.exec = Jvm.exec ∧ c.code = cc ∧ c.maxLocals = nL ∧ s.vm.findClass own = some m.cls ∧ ∀ w ∈ zT, w.before args s = true) ∧ va_K G.1 zCl (zTy G) s ∧ zInj K G ∧ zRO K G s s.heap ∧ (d + 2 ≤ R.frames ∧ 60 * (d + 2) ≤ R.locals ∧ cells ≤ R.cells ∧ slots ≤ R.slots) ∧ meth.sig.returnType = rt ∧ meth.locks = false
def zQc (K : SD) (G : GD) (ov : Option Value) (st : PS) : Array Value → State → Outcome → State → Prop := fun _ s0 oc t => (oc = .returned ov ∧ va_P G.1 zCl (zW K G st) t.heap) ∧ va_F (zA K G) s0 t
def zM (l : Launch) (K : SD) (G : GD) (y : MethodName) (b : ByteArray) (n : Nat) (rt : Option FieldType) (d : Nat) (av : List Value) (st : PS) (ov : Option Value) (st' : PS) : Prop :=
  Met l y (.code y b n rt :: zT) (zroom d) (va_Pc av (fun U => va_P G.1 zCl (zW K G st) U.heap ∧ va_K G.1 zCl (zTy G) U ∧ zRO K G U U.heap)) (zQc K G ov st') 0 0 (zA K G)
def zQ {R : Type} (K : SD) (G : GD) (f : R → Option Value × PS) (X : JX) (r : R) : State → Prop := match X with
  | (_, _, _, _, s, _, args, below, _, _, cells, slots, _) => MQ below (zQc K G (f r).1 (f r).2) args s cells slots (zA K G)
theorem zEnter {R : Type} {K : SD} {G : GD} {l : Launch} {y : MethodName} {own : String} {b : ByteArray} {n d : Nat} {rt : Option FieldType} {av : List Value} {st : PS} {f : R → Option Value × PS} {o : Option R} {r : R} {lv : List (Nat × Value)} (hr : o = some r) (hj : zInj K G) (hy : plainName y.cls = true) (how : y.cls = own) (hlv : lv_args 0 av = lv) (hn : (lg_sl av).length ≤ n)
    (body : ∀ X : JX, X.2.1 = l → X.2.2.2.2.2.2.2.2.2.2.2.2 = n → zC X K G own b rt d → J X (zI K G) (zQ K G f) st lv 0 [] o) : zM l K G y b n rt d av st (f r).1 (f r).2 := by
  refine Met.ofW (cc := b) (maxL := n) (ret := rt) hy rfl ?_
  intro p e s m args below meth c s₁ B hml hv
  obtain ⟨rfl, hP, hK, hO⟩ := hv
  have hts := atoms_spec (ws := .code y b n rt :: zT) B.pre
  have hown : s.vm.findClass own = some m.cls := how ▸ findClass_of_methodNamed B.named
  have h1 := body (p, l, e, zroom d, s, m, av.toArray, below, meth, c, 0, 0, n) rfl rfl
    ⟨⟨B.exec, B.bytes, hml, hown, fun w hw => hts w (List.mem_cons_of_mem _ hw)⟩, hK, hj, hO, ⟨Nat.le_refl _, Nat.le_refl _, Nat.le_refl _, Nat.le_refl _⟩, B.returns, B.notSynchronized⟩ r hr s.heap []
  have hl := lv_entry av (n := n) hn
  rw [lg_entry_eq]
  exact h1 _ ⟨hP, va_S.rf⟩ (hlv ▸ hl)
