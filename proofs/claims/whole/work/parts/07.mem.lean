/-! MEMORY ROWS: fields, arrays, calls, ends -/
/-- label a is an object of class ci with these fields -/
def zOb (K : SD) (a ci : Nat) (fs : (Nat → Nat) → (Int → Int) → List Value) : Prop := a ∈ K.1 ∧ ∀ E ad f, K.2.1 E ad a f = .inr (ci, fs ad f)
/-- label a is an int-like array of n items, array class t -/
def zIA (K : SD) (a n t : Nat) : Prop := a ∈ K.1 ∧ ∀ E ad f, K.2.1 E ad a f = .inl (E t, n, .inl (fun j => oI (f (j : Int))))
def zLA (K : SD) (a n : Nat) : Prop := a ∈ K.1 ∧ ∀ E ad f, K.2.1 E ad a f = .inl (E 3, n, .inr (.inl (fun j => oL (f (j : Int)))))
def zRA (K : SD) (a n t base step : Nat) : Prop := a ∈ K.1 ∧ ∀ E ad f, K.2.1 E ad a f = .inl (E t, n, .inr (.inr (.inr (.inr (fun j => some (ad (base + step * j)))))))
def zm (ad : Nat → Nat) (k : Int) : Value := if k < 0 then .null else .ref (ad (100 + 10 * k.toNat))
theorem zin {i : Int} {n : Nat} (h : 0 ≤ wI i ∧ wI i < n) : vp_in (oI i) n := vp_in_iff.mpr (by rw [oI_toInt]; exact h)
theorem zcl (i : Int) : (oI i).toNatClampNeg = (wI i).toNat := by
  show (oI i).toInt.toNat = _
  rw [oI_toInt]
theorem zrd_some {st : PS} {a n : Nat} {i v : Int} (h : zrd st a n i = some v) : (0 ≤ wI i ∧ wI i < n) ∧ st a (wI i) = v := by
  unfold zrd at h
  by_cases c : 0 ≤ wI i ∧ wI i < n
  · rw [if_pos c] at h; exact ⟨c, Option.some.inj h⟩
  · rw [if_neg c] at h; cases h
theorem zwr_some {st st1 : PS} {a n : Nat} {i x : Int} (h : zwr st a n i x = some st1) : (0 ≤ wI i ∧ wI i < n) ∧ zu st a (wI i) x = st1 := by
  unfold zwr at h
  by_cases c : 0 ≤ wI i ∧ wI i < n
  · rw [if_pos c] at h; exact ⟨c, Option.some.inj h⟩
  · rw [if_neg c] at h; cases h
section ZMEM
variable {T : Type} {X : JX} {K : SD} {G : GD} {own : String} {cc : ByteArray} {rt : Option FieldType} {d : Nat} {Q : JX → T → State → Prop} {st : PS} {lv lv' : List (Nat × Value)} {pc : Nat} {stk : List Value} {o A B : Option T}
/-- getfield -/
theorem j_get (C : zC X K G own cc rt d) {a ci n index : Nat} {Cn : String} {TT : u_T} {fs : (Nat → Nat) → (Int → Int) → List Value} (hob : zOb K a ci fs) (hc : zCl[ci]? = some (Cn, TT, n)) (hin : ∀ w ∈ u_ws Cn TT n, w ∈ zT) (k : Nat) (hk : k < n) (hlink : Cond.fieldLink own index (TT k).1 (TT k).2.1 (TT k).2.2.1 ∈ zT) {v : Value} (hv : (fs G.2.2.1 (st a))[k]? = some v) (hd : decode cc pc = .ok (.getfield index, 3))
    (kk : J X (zI K G) Q st lv (pc + 3) (v :: stk) o) : J X (zI K G) Q st lv pc (.ref (G.2.2.1 a) :: stk) o := by
  obtain ⟨p, l, e, R, s, m, args, below, meth, c, cells, slots, nL⟩ := X
  obtain ⟨⟨hx, hb, hml, hown, hts⟩, hK, hj, hO, hR, hr0, hlk⟩ := C
  intro r hr H locs ls hI hl
  obtain ⟨q0, -, hq⟩ := zW_get (K := K) (G := G) hob.1
  have he := hq st
  rw [hob.2] at he
  exact va_get hx hb hts hin hown hK hI.1 q0 he hc k hk (hts _ hlink) (fun _ h => h) hv hd (kk r hr H locs ls hI hl)
/-- putfield -/
theorem j_put (C : zC X K G own cc rt d) {a ci n index : Nat} {Cn : String} {TT : u_T} {fs : (Nat → Nat) → (Int → Int) → List Value} (hob : zOb K a ci fs) (hc : zCl[ci]? = some (Cn, TT, n)) (hin : ∀ w ∈ u_ws Cn TT n, w ∈ zT) (ty0 : Nat → FieldType) (hty : ∀ k, k < n → parseFieldDescriptor (TT k).2.2.1 = some (ty0 k)) (hnm : ∀ a, a < n → ∀ b, b < n → a ≠ b → (TT a).2.1 ≠ (TT b).2.1) (k : Nat) (hk : k < n) (hlink : Cond.fieldLink own index (TT k).1 (TT k).2.1 (TT k).2.2.1 ∈ zT) (hfin : (TT k).2.2.2 = false) {v : Value} {x : Int} {ty : FieldType} (hdd : parseFieldDescriptor (TT k).2.2.1 = some ty) (hn : narrow ty v = v) (hfit : fits ty v = true) (hl0 : k < (fs G.2.2.1 (st a)).length)
    (hset : (fs G.2.2.1 (st a)).set k v = fs G.2.2.1 (fun j => if j = (k : Int) then x else st a j)) (hd : decode cc pc = .ok (.putfield index, 3))
    (kk : J X (zI K G) Q (zu st a (k : Int) x) lv (pc + 3) stk o) : J X (zI K G) Q st lv pc (v :: .ref (G.2.2.1 a) :: stk) o := by
  obtain ⟨p, l, e, R, s, m, args, below, meth, c, cells, slots, nL⟩ := X
  obtain ⟨⟨hx, hb, hml, hown, hts⟩, hK, hj, hO, hR, hr0, hlk⟩ := C
  intro r hr H locs ls hI hl
  obtain ⟨q0, hq0, hq⟩ := zW_get (K := K) (G := G) hob.1
  have he := hq st
  rw [hob.2] at he
  refine va_put hx hb hts hin ty0 hty hnm hown hK hI.1 (zW_D hj st) hI.2 q0 he hc k hk (hts _ hlink) (fun _ h => h) hfin hdd hn hfit hl0 hd (fun H1 locs1 hP1 _ hS1 => ?_)
  rw [zW_set hj hq0 (st' := zu st a (k : Int) x) (fun b hb => zu_ne st hb _ _) (by rw [hob.2, zu_same, hset])] at hP1
  exact kk r hr H1 locs1 ls ⟨hP1, hS1⟩ hl
theorem j_iald (C : zC X K G own cc rt d) {a n : Nat} {i v : Int} (ha : zIA K a n 0) (hv : zrd st a n i = some v) (hd : decode cc pc = .ok (.iaload, 1))
    (kk : J X (zI K G) Q st lv (pc + 1) (.int (oI v) :: stk) o) : J X (zI K G) Q st lv pc (.int (oI i) :: .ref (G.2.2.1 a) :: stk) o := by
  obtain ⟨p, l, e, R, s, m, args, below, meth, c, cells, slots, nL⟩ := X
  obtain ⟨⟨hx, hb, hml, hown, hts⟩, hK, hj, hO, hR, hr0, hlk⟩ := C
  intro r hr H locs ls hI hl
  obtain ⟨hi, rfl⟩ := zrd_some hv
  obtain ⟨q0, -, hq⟩ := zW_get (K := K) (G := G) ha.1
  have he := hq st
  rw [ha.2] at he
  refine va_iald hx hb hK hI.1 q0 0 he rfl (zin hi) hd ?_
  rw [zcl, Int.toNat_of_nonneg hi.1]
  exact kk r hr H locs ls hI hl
theorem j_bald (C : zC X K G own cc rt d) {a n : Nat} {i v : Int} (ha : zIA K a n 1) (hv : zrd st a n i = some v) (hd : decode cc pc = .ok (.baload, 1))
    (kk : J X (zI K G) Q st lv (pc + 1) (.int (oI v) :: stk) o) : J X (zI K G) Q st lv pc (.int (oI i) :: .ref (G.2.2.1 a) :: stk) o := by
  obtain ⟨p, l, e, R, s, m, args, below, meth, c, cells, slots, nL⟩ := X
  obtain ⟨⟨hx, hb, hml, hown, hts⟩, hK, hj, hO, hR, hr0, hlk⟩ := C
  intro r hr H locs ls hI hl
  obtain ⟨hi, rfl⟩ := zrd_some hv
  obtain ⟨q0, -, hq⟩ := zW_get (K := K) (G := G) ha.1
  have he := hq st
  rw [ha.2] at he
  refine va_bald hx hb hK hI.1 q0 1 he rfl (zin hi) hd ?_
  rw [zcl, Int.toNat_of_nonneg hi.1]
  exact kk r hr H locs ls hI hl
theorem j_zald (C : zC X K G own cc rt d) {a n : Nat} {i v : Int} (ha : zIA K a n 2) (hv : zrd st a n i = some v) (hd : decode cc pc = .ok (.baload, 1))
    (kk : J X (zI K G) Q st lv (pc + 1) (.int (oI v) :: stk) o) : J X (zI K G) Q st lv pc (.int (oI i) :: .ref (G.2.2.1 a) :: stk) o := by
  obtain ⟨p, l, e, R, s, m, args, below, meth, c, cells, slots, nL⟩ := X
  obtain ⟨⟨hx, hb, hml, hown, hts⟩, hK, hj, hO, hR, hr0, hlk⟩ := C
  intro r hr H locs ls hI hl
  obtain ⟨hi, rfl⟩ := zrd_some hv
  obtain ⟨q0, -, hq⟩ := zW_get (K := K) (G := G) ha.1
  have he := hq st
  rw [ha.2] at he
  refine va_zald hx hb hK hI.1 q0 2 he rfl (zin hi) hd ?_
  rw [zcl, Int.toNat_of_nonneg hi.1]
  exact kk r hr H locs ls hI hl
theorem j_lald (C : zC X K G own cc rt d) {a n : Nat} {i v : Int} (ha : zLA K a n) (hv : zrd st a n i = some v) (hd : decode cc pc = .ok (.laload, 1))
    (kk : J X (zI K G) Q st lv (pc + 1) (.long (oL v) :: stk) o) : J X (zI K G) Q st lv pc (.int (oI i) :: .ref (G.2.2.1 a) :: stk) o := by
  obtain ⟨p, l, e, R, s, m, args, below, meth, c, cells, slots, nL⟩ := X
  obtain ⟨⟨hx, hb, hml, hown, hts⟩, hK, hj, hO, hR, hr0, hlk⟩ := C
  intro r hr H locs ls hI hl
  obtain ⟨hi, rfl⟩ := zrd_some hv
  obtain ⟨q0, -, hq⟩ := zW_get (K := K) (G := G) ha.1
  have he := hq st
  rw [ha.2] at he
  refine va_lald hx hb hK hI.1 q0 3 he rfl (zin hi) hd ?_
  rw [zcl, Int.toNat_of_nonneg hi.1]
  exact kk r hr H locs ls hI hl
theorem j_aald (C : zC X K G own cc rt d) {a n t base step : Nat} {i : Int} {Cn : String} (ha : zRA K a n t base step) (ht : (zTy G)[t]? = some (G.2.1 t, .object Cn)) (hd : decode cc pc = .ok (.aaload, 1))
    (kk : 0 ≤ wI i ∧ wI i < n → J X (zI K G) Q st lv (pc + 1) (.ref (G.2.2.1 (base + step * (wI i).toNat)) :: stk) A) : J X (zI K G) Q st lv pc (.int (oI i) :: .ref (G.2.2.1 a) :: stk) (zchk (wI i) n A) := by
  refine j_chk (fun hi => ?_)
  have kk := kk hi
  obtain ⟨p, l, e, R, s, m, args, below, meth, c, cells, slots, nL⟩ := X
  obtain ⟨⟨hx, hb, hml, hown, hts⟩, hK, hj, hO, hR, hr0, hlk⟩ := C
  intro r hr H locs ls hI hl
  obtain ⟨q0, -, hq⟩ := zW_get (K := K) (G := G) ha.1
  have he := hq st
  rw [ha.2] at he
  refine va_aldq hx hb hK hI.1 q0 t he ht (zin hi) hd ?_
  rw [zcl]
  exact kk r hr H locs ls hI hl
theorem z_upd (f : Int → Int) (i x : Int) (h : 0 ≤ i) : upd (fun j : Nat => oI (f (j : Int))) i.toNat (oI x) = fun j : Nat => oI ((fun q : Int => if q = i then x else f q) (j : Int)) := by
  funext j
  unfold upd
  by_cases hj : j = i.toNat
  · rw [if_pos hj]; simp only []; rw [if_pos (by omega)]
  · rw [if_neg hj]; simp only []; rw [if_neg (by omega)]
theorem z_updL (f : Int → Int) (i x : Int) (h : 0 ≤ i) : vp_updL (fun j : Nat => oL (f (j : Int))) i.toNat (oL x) = fun j : Nat => oL ((fun q : Int => if q = i then x else f q) (j : Int)) := by
  funext j
  unfold vp_updL
  by_cases hj : j = i.toNat
  · rw [if_pos hj]; simp only []; rw [if_pos (by omega)]
  · rw [if_neg hj]; simp only []; rw [if_neg (by omega)]
theorem j_iast (C : zC X K G own cc rt d) {a n : Nat} {i x : Int} {st1 : PS} (ha : zIA K a n 0) (hv : zwr st a n i x = some st1) (hd : decode cc pc = .ok (.iastore, 1))
    (kk : J X (zI K G) Q st1 lv (pc + 1) stk o) : J X (zI K G) Q st lv pc (.int (oI x) :: .int (oI i) :: .ref (G.2.2.1 a) :: stk) o := by
  obtain ⟨p, l, e, R, s, m, args, below, meth, c, cells, slots, nL⟩ := X
  obtain ⟨⟨hx, hb, hml, hown, hts⟩, hK, hj, hO, hR, hr0, hlk⟩ := C
  intro r hr H locs ls hI hl
  obtain ⟨hi, rfl⟩ := zwr_some hv
  obtain ⟨q0, hq0, hq⟩ := zW_get (K := K) (G := G) ha.1
  have he := hq st
  rw [ha.2] at he
  refine va_iast hx hb hK hI.1 (zW_D hj st) hI.2 q0 0 he rfl (zin hi) hd (fun H1 locs1 hP1 _ hS1 => ?_)
  rw [zW_set hj hq0 (st' := zu st a (wI i) x) (fun b hb => zu_ne st hb _ _) (by rw [ha.2, zu_same, zcl, z_upd _ _ _ hi.1])] at hP1
  exact kk r hr H1 locs1 ls ⟨hP1, hS1⟩ hl
theorem j_bast (C : zC X K G own cc rt d) {a n : Nat} {i x : Int} {st1 : PS} (ha : zIA K a n 1) (hv : zwr st a n i (wB x) = some st1) (hd : decode cc pc = .ok (.bastore, 1))
    (kk : J X (zI K G) Q st1 lv (pc + 1) stk o) : J X (zI K G) Q st lv pc (.int (oI x) :: .int (oI i) :: .ref (G.2.2.1 a) :: stk) o := by
  obtain ⟨p, l, e, R, s, m, args, below, meth, c, cells, slots, nL⟩ := X
  obtain ⟨⟨hx, hb, hml, hown, hts⟩, hK, hj, hO, hR, hr0, hlk⟩ := C
  intro r hr H locs ls hI hl
  obtain ⟨hi, rfl⟩ := zwr_some hv
  obtain ⟨q0, hq0, hq⟩ := zW_get (K := K) (G := G) ha.1
  have he := hq st
  rw [ha.2] at he
  refine va_bast hx hb hK hI.1 (zW_D hj st) hI.2 q0 1 he rfl (zin hi) hd (fun H1 locs1 hP1 _ hS1 => ?_)
  rw [zW_set hj hq0 (st' := zu st a (wI i) (wB x)) (fun b hb => zu_ne st hb _ _) (by rw [ha.2, zu_same, zcl, vp_nar_byte, oI_i2b, z_upd _ _ _ hi.1])] at hP1
  exact kk r hr H1 locs1 ls ⟨hP1, hS1⟩ hl
theorem j_zast (C : zC X K G own cc rt d) {a n : Nat} {i x : Int} {st1 : PS} (ha : zIA K a n 2) (hx0 : vp_nar .boolean (oI x) = oI x) (hv : zwr st a n i x = some st1) (hd : decode cc pc = .ok (.bastore, 1))
    (kk : J X (zI K G) Q st1 lv (pc + 1) stk o) : J X (zI K G) Q st lv pc (.int (oI x) :: .int (oI i) :: .ref (G.2.2.1 a) :: stk) o := by
  obtain ⟨p, l, e, R, s, m, args, below, meth, c, cells, slots, nL⟩ := X
  obtain ⟨⟨hx, hb, hml, hown, hts⟩, hK, hj, hO, hR, hr0, hlk⟩ := C
  intro r hr H locs ls hI hl
  obtain ⟨hi, rfl⟩ := zwr_some hv
  obtain ⟨q0, hq0, hq⟩ := zW_get (K := K) (G := G) ha.1
  have he := hq st
  rw [ha.2] at he
  refine va_zast hx hb hK hI.1 (zW_D hj st) hI.2 q0 2 he rfl (zin hi) hd (fun H1 locs1 hP1 _ hS1 => ?_)
  rw [zW_set hj hq0 (st' := zu st a (wI i) x) (fun b hb => zu_ne st hb _ _) (by rw [ha.2, zu_same, zcl, hx0, z_upd _ _ _ hi.1])] at hP1
  exact kk r hr H1 locs1 ls ⟨hP1, hS1⟩ hl
theorem j_last (C : zC X K G own cc rt d) {a n : Nat} {i x : Int} {st1 : PS} (ha : zLA K a n) (hv : zwr st a n i x = some st1) (hd : decode cc pc = .ok (.lastore, 1))
    (kk : J X (zI K G) Q st1 lv (pc + 1) stk o) : J X (zI K G) Q st lv pc (.long (oL x) :: .int (oI i) :: .ref (G.2.2.1 a) :: stk) o := by
  obtain ⟨p, l, e, R, s, m, args, below, meth, c, cells, slots, nL⟩ := X
  obtain ⟨⟨hx, hb, hml, hown, hts⟩, hK, hj, hO, hR, hr0, hlk⟩ := C
  intro r hr H locs ls hI hl
  obtain ⟨hi, rfl⟩ := zwr_some hv
  obtain ⟨q0, hq0, hq⟩ := zW_get (K := K) (G := G) ha.1
  have he := hq st
  rw [ha.2] at he
  refine va_last hx hb hK hI.1 (zW_D hj st) hI.2 q0 3 he rfl (zin hi) hd (fun H1 locs1 hP1 _ hS1 => ?_)
  rw [zW_set hj hq0 (st' := zu st a (wI i) x) (fun b hb => zu_ne st hb _ _) (by rw [ha.2, zu_same, zcl, z_updL _ _ _ hi.1])] at hP1
  exact kk r hr H1 locs1 ls ⟨hP1, hS1⟩ hl
theorem j_alen (C : zC X K G own cc rt d) {a n t : Nat} {ty : FieldType} (ha : zIA K a n t) (ht : (zTy G)[t]? = some (G.2.1 t, ty)) (hd : decode cc pc = .ok (.arraylength, 1))
    (kk : J X (zI K G) Q st lv (pc + 1) (.int (oI (n : Int)) :: stk) o) : J X (zI K G) Q st lv pc (.ref (G.2.2.1 a) :: stk) o := by
  obtain ⟨p, l, e, R, s, m, args, below, meth, c, cells, slots, nL⟩ := X
  obtain ⟨⟨hx, hb, hml, hown, hts⟩, hK, hj, hO, hR, hr0, hlk⟩ := C
  intro r hr H locs ls hI hl
  obtain ⟨q0, -, hq⟩ := zW_get (K := K) (G := G) ha.1
  have he := hq st
  rw [ha.2] at he
  exact va_alen hx hb hK hI.1 q0 t he ht rfl hd (kk r hr H locs ls hI hl)
theorem z_cpy (st : PS) (a b : Nat) (sp dp n : Int) (h1 : 0 ≤ sp) (h2 : 0 ≤ dp) (h3 : 0 ≤ n) : zcpf st a b sp dp n b = fun j => if dp ≤ j ∧ j < dp + n then st a (sp + (j - dp)) else st b j := by
  funext j; simp [zcpf]
theorem z_cpyI (f g : Int → Int) (sp dp n : Int) (h1 : 0 ≤ sp) (h2 : 0 ≤ dp) (h3 : 0 ≤ n) : va_cpy (fun j : Nat => oI (f (j : Int))) (fun j : Nat => oI (g (j : Int))) sp.toNat dp.toNat n.toNat = fun j : Nat => oI ((fun j : Int => if dp ≤ j ∧ j < dp + n then f (sp + (j - dp)) else g j) (j : Int)) := by
  funext j
  unfold va_cpy
  by_cases hj : dp.toNat ≤ j ∧ j < dp.toNat + n.toNat
  · rw [if_pos hj]; simp only []; rw [if_pos (by omega)]; congr 2; omega
  · rw [if_neg hj]; simp only []; rw [if_neg (by omega)]
theorem z_cpyL (f g : Int → Int) (sp dp n : Int) (h1 : 0 ≤ sp) (h2 : 0 ≤ dp) (h3 : 0 ≤ n) : va_cpy (fun j : Nat => oL (f (j : Int))) (fun j : Nat => oL (g (j : Int))) sp.toNat dp.toNat n.toNat = fun j : Nat => oL ((fun j : Int => if dp ≤ j ∧ j < dp + n then f (sp + (j - dp)) else g j) (j : Int)) := by
  funext j
  unfold va_cpy
  by_cases hj : dp.toNat ≤ j ∧ j < dp.toNat + n.toNat
  · rw [if_pos hj]; simp only []; rw [if_pos (by omega)]; congr 2; omega
  · rw [if_neg hj]; simp only []; rw [if_neg (by omega)]
theorem zcp_some {st st1 : PS} {a na b nb : Nat} {sp dp n : Int} (h : zcp st a na b nb sp dp n = some st1) : (0 ≤ wI sp ∧ 0 ≤ wI dp ∧ 0 ≤ wI n ∧ wI sp + wI n ≤ na ∧ wI dp + wI n ≤ nb) ∧ zcpf st a b (wI sp) (wI dp) (wI n) = st1 := by
  unfold zcp at h
  by_cases c : 0 ≤ wI sp ∧ 0 ≤ wI dp ∧ 0 ≤ wI n ∧ wI sp + wI n ≤ na ∧ wI dp + wI n ≤ nb
  · rw [if_pos c] at h; exact ⟨c, Option.some.inj h⟩
  · rw [if_neg c] at h; cases h
theorem j_copy (C : zC X K G own cc rt d) {a na b nb index : Nat} {sp dp n : Int} {st1 : PS} (ha : zIA K a na 0) (hb0 : zIA K b nb 0) (hv : zcp st a na b nb sp dp n = some st1) (hw : Cond.methodLink own index arraycopyName ∈ zT ∧ Cond.native arraycopyName ∈ zT ∧ Cond.static arraycopyName ∈ zT ∧ Cond.initialized "java/lang/System" ∈ zT) (hsz : (stk.map fun v => v.category).sum ≤ 8) (hd : decode cc pc = .ok (.invokestatic index, 3))
    (kk : J X (zI K G) Q st1 lv (pc + 3) stk o) : J X (zI K G) Q st lv pc (.int (oI n) :: .int (oI dp) :: .ref (G.2.2.1 b) :: .int (oI sp) :: .ref (G.2.2.1 a) :: stk) o := by
  obtain ⟨p, l, e, R, s, m, args, below, meth, c, cells, slots, nL⟩ := X
  obtain ⟨⟨hx, hb, hml, hown, hts⟩, hK, hj, hO, hR, hr0, hlk⟩ := C
  intro r hr H locs ls hI hl
  obtain ⟨⟨h1, h2, h3, h4, h5⟩, rfl⟩ := zcp_some hv
  obtain ⟨q0, -, hq⟩ := zW_get (K := K) (G := G) ha.1
  obtain ⟨q1, hq1, hq'⟩ := zW_get (K := K) (G := G) hb0.1
  have he := hq st
  rw [ha.2] at he
  have he1 := hq' st
  rw [hb0.2] at he1
  have neg : ∀ z : Int, 0 ≤ wI z → ¬ oI z < 0 := fun z hz hh => absurd (oI_lt0.mp hh) (by omega)
  have hw8 : nativeFrameWords "java/lang/System" "arraycopy" 5 ≤ 30 := by decide
  refine va_copyi hx hb (hml.trans hl.1.symm) hown (hts _ hw.1) (hts _ hw.2.1) (hts _ hw.2.2.1) (hts _ hw.2.2.2) hK hI.1 (zW_D hj st) hI.2 q0 q1 0 0 he he1 rfl rfl rfl (neg _ h1) (neg _ h2) (neg _ h3) (by rw [zcl, zcl]; omega) (by rw [zcl, zcl]; omega) (fun _ _ => rfl) (by omega) (by omega) hd (fun H1 locs1 hP1 _ hS1 => ?_)
  rw [zW_set hj hq1 (st' := zcpf st a b (wI sp) (wI dp) (wI n)) (fun q hq => by funext j; simp [zcpf, hq]) (by rw [hb0.2, z_cpy _ _ _ _ _ _ h1 h2 h3, zcl, zcl, zcl, z_cpyI _ _ _ _ _ h1 h2 h3])] at hP1
  exact kk r hr H1 locs1 ls ⟨hP1, hS1⟩ hl
theorem j_copyL (C : zC X K G own cc rt d) {a na b nb index : Nat} {sp dp n : Int} {st1 : PS} (ha : zLA K a na) (hb0 : zLA K b nb) (hv : zcp st a na b nb sp dp n = some st1) (hw : Cond.methodLink own index arraycopyName ∈ zT ∧ Cond.native arraycopyName ∈ zT ∧ Cond.static arraycopyName ∈ zT ∧ Cond.initialized "java/lang/System" ∈ zT) (hsz : (stk.map fun v => v.category).sum ≤ 8) (hd : decode cc pc = .ok (.invokestatic index, 3))
    (kk : J X (zI K G) Q st1 lv (pc + 3) stk o) : J X (zI K G) Q st lv pc (.int (oI n) :: .int (oI dp) :: .ref (G.2.2.1 b) :: .int (oI sp) :: .ref (G.2.2.1 a) :: stk) o := by
  obtain ⟨p, l, e, R, s, m, args, below, meth, c, cells, slots, nL⟩ := X
  obtain ⟨⟨hx, hb, hml, hown, hts⟩, hK, hj, hO, hR, hr0, hlk⟩ := C
  intro r hr H locs ls hI hl
  obtain ⟨⟨h1, h2, h3, h4, h5⟩, rfl⟩ := zcp_some hv
  obtain ⟨q0, -, hq⟩ := zW_get (K := K) (G := G) ha.1
  obtain ⟨q1, hq1, hq'⟩ := zW_get (K := K) (G := G) hb0.1
  have he := hq st
  rw [ha.2] at he
  have he1 := hq' st
  rw [hb0.2] at he1
  have neg : ∀ z : Int, 0 ≤ wI z → ¬ oI z < 0 := fun z hz hh => absurd (oI_lt0.mp hh) (by omega)
  have hw8 : nativeFrameWords "java/lang/System" "arraycopy" 5 ≤ 30 := by decide
  refine va_copyl hx hb (hml.trans hl.1.symm) hown (hts _ hw.1) (hts _ hw.2.1) (hts _ hw.2.2.1) (hts _ hw.2.2.2) hK hI.1 (zW_D hj st) hI.2 q0 q1 3 3 he he1 rfl rfl rfl (neg _ h1) (neg _ h2) (neg _ h3) (by rw [zcl, zcl]; omega) (by rw [zcl, zcl]; omega) (fun _ _ => rfl) (by omega) (by omega) hd (fun H1 locs1 hP1 _ hS1 => ?_)
  rw [zW_set hj hq1 (st' := zcpf st a b (wI sp) (wI dp) (wI n)) (fun q hq => by funext j; simp [zcpf, hq]) (by rw [hb0.2, z_cpy _ _ _ _ _ _ h1 h2 h3, zcl, zcl, zcl, z_cpyL _ _ _ _ _ h1 h2 h3])] at hP1
  exact kk r hr H1 locs1 ls ⟨hP1, hS1⟩ hl
/-- a reference that may be null: the street that holds -/
theorem j_ifnull (C : zC X K G own cc rt d) {k : Int} {off : Int} {tgt : Nat} (hd : decode cc pc = .ok (.ifnull off, 3)) (ht : (pc : Int) + off = (tgt : Int)) (kt : J X (zI K G) Q st lv tgt stk A) (kf : J X (zI K G) Q st lv (pc + 3) stk B) : J X (zI K G) Q st lv pc (zm G.2.2.1 k :: stk) (if k < 0 then A else B) := by
  obtain ⟨p, l, e, R, s, m, args, below, meth, c, cells, slots, nL⟩ := X
  obtain ⟨⟨hx, hb, hml, hown, hts⟩, hK, hj, hO, hR, hr0, hlk⟩ := C
  intro r hr H locs ls hI hl
  by_cases h : k < 0
  · rw [if_pos h] at hr
    rw [zm, if_pos h]
    exact lv_ifnullN hx hb hd ht (kt r hr H locs ls hI hl)
  · rw [if_neg h] at hr
    rw [zm, if_neg h]
    exact lv_ifnull hx hb hd (kf r hr H locs ls hI hl)
theorem j_ifnonnull (C : zC X K G own cc rt d) {k : Int} {off : Int} {tgt : Nat} (hd : decode cc pc = .ok (.ifnonnull off, 3)) (ht : (pc : Int) + off = (tgt : Int)) (kt : J X (zI K G) Q st lv (pc + 3) stk A) (kf : J X (zI K G) Q st lv tgt stk B) : J X (zI K G) Q st lv pc (zm G.2.2.1 k :: stk) (if k < 0 then A else B) := by
  obtain ⟨p, l, e, R, s, m, args, below, meth, c, cells, slots, nL⟩ := X
  obtain ⟨⟨hx, hb, hml, hown, hts⟩, hK, hj, hO, hR, hr0, hlk⟩ := C
  intro r hr H locs ls hI hl
  by_cases h : k < 0
  · rw [if_pos h] at hr
    rw [zm, if_pos h]
    exact lv_ifnonnullN hx hb hd (kt r hr H locs ls hI hl)
  · rw [if_neg h] at hr
    rw [zm, if_neg h]
    exact lv_ifnonnull hx hb hd ht (kf r hr H locs ls hI hl)
theorem j_mres {k : Int} (kk : 0 ≤ k ∧ k < 6 → J X (zI K G) Q st lv pc (.ref (G.2.2.1 (100 + 10 * k.toNat)) :: stk) A) : J X (zI K G) Q st lv pc (zm G.2.2.1 k :: stk) (zchk k 6 A) := by
  refine j_chk (fun h => ?_)
  rw [zm, if_neg (by omega)]
  exact kk h
end ZMEM
section ZRET
variable {T : Type} {X : JX} {K : SD} {G : GD} {own : String} {cc : ByteArray} {rt : Option FieldType} {d : Nat} {st : PS} {lv : List (Nat × Value)} {pc : Nat} {f : T → Option Value × PS} {r0 : T}
theorem j_ireturn (C : zC X K G own cc rt d) {v : Value} {x : Int32} {ty : FieldType} (hv : v = .int x) (hrt : rt = some ty) (hn : narrow ty v = v) (hf : f r0 = (some v, st)) (hd : decode cc pc = .ok (.ireturn, 1)) : J X (zI K G) (zQ K G f) st lv pc [v] (some r0) := by
  subst hv
  obtain ⟨p, l, e, R, s, m, args, below, meth, c, cells, slots, nL⟩ := X
  obtain ⟨⟨hx, hb, hml, hown, hts⟩, hK, hj, hO, hR, hr0, hlk⟩ := C
  intro r hr H locs ls hI hl
  cases hr
  refine W.zret (ty := ty) hx hb (hr0.trans hrt) hn (fun t ht hW => ⟨⟨?_, ?_⟩, hI.2.F ht⟩) hI.2.2.2 hd hlk
  · rw [hf]
  · rw [hf, ht]; exact hI.1
theorem j_lreturn (C : zC X K G own cc rt d) {x : Int64} (hrt : rt = some .long) (hf : f r0 = (some (.long x), st)) (hd : decode cc pc = .ok (.lreturn, 1)) : J X (zI K G) (zQ K G f) st lv pc [.long x] (some r0) := by
  obtain ⟨p, l, e, R, s, m, args, below, meth, c, cells, slots, nL⟩ := X
  obtain ⟨⟨hx, hb, hml, hown, hts⟩, hK, hj, hO, hR, hr0, hlk⟩ := C
  intro r hr H locs ls hI hl
  cases hr
  refine W.lret hx hb (hr0.trans hrt) (fun t ht hW => ⟨⟨?_, ?_⟩, hI.2.F ht⟩) hI.2.2.2 hd hlk
  · rw [hf]
  · rw [hf, ht]; exact hI.1
theorem j_return (C : zC X K G own cc rt d) (hrt : rt = none) (hf : f r0 = (none, st)) (hd : decode cc pc = .ok (.return_, 1)) : J X (zI K G) (zQ K G f) st lv pc [] (some r0) := by
  obtain ⟨p, l, e, R, s, m, args, below, meth, c, cells, slots, nL⟩ := X
  obtain ⟨⟨hx, hb, hml, hown, hts⟩, hK, hj, hO, hR, hr0, hlk⟩ := C
  intro r hr H locs ls hI hl
  cases hr
  refine W.vret hx hb (hr0.trans hrt) (fun t ht hW => ⟨⟨?_, ?_⟩, hI.2.F ht⟩) hI.2.2.2 hd hlk
  · rw [hf]
  · rw [hf, ht]; exact hI.1
end ZRET
/-! calls -/
def zLV (own : String) (idx : Nat) (y : MethodName) (b : ByteArray) (n : Nat) (rt : Option FieldType) (k : Nat) : Prop := (Cond.methodLink own idx y ∈ zT ∧ Cond.instanceMethod y ∈ zT ∧ Cond.selects y.cls y y ∈ zT ∧ Cond.initialized y.cls ∈ zT) ∧ Cond.code y b n rt ∈ zT ∧ (y.cls ≠ "java/lang/invoke/MethodHandle" ∧ y.cls ≠ "java/lang/invoke/VarHandle" ∧ (parseMethodDescriptor y.desc).map (fun d => d.parameters.length) = some k) ∧ n ≤ 30
def zLS (own : String) (idx : Nat) (y : MethodName) (b : ByteArray) (n : Nat) (rt : Option FieldType) (k : Nat) : Prop := (Cond.methodLink own idx y ∈ zT ∧ Cond.static y ∈ zT ∧ Cond.initialized y.cls ∈ zT) ∧ Cond.code y b n rt ∈ zT ∧ (y.cls ≠ "java/lang/invoke/MethodHandle" ∧ y.cls ≠ "java/lang/invoke/VarHandle" ∧ (parseMethodDescriptor y.desc).map (fun d => d.parameters.length) = some k) ∧ n ≤ 30
theorem zT_good {w : Cond} (h : w ∈ zT) : goodWord w = true := (List.mem_filter.mp h).2
theorem zGood {ws : List Cond} (h : ∀ w ∈ ws, w ∈ zT) : GoodIn zT ws := fun w hw => ⟨h w hw, good_of_word (zT_good (h w hw))⟩
theorem zPc_blind {K : SD} {G : GD} {av : List Value} {st : PS} : FrameBlind (va_Pc av (fun U => va_P G.1 zCl (zW K G st) U.heap ∧ va_K G.1 zCl (zTy G) U ∧ zRO K G U U.heap)) := by
  intro a U g mk h
  obtain ⟨h0, h1, h2, h3⟩ := h
  exact ⟨h0, h1, va_K.moved (Vm.Alike.refl U.vm) h2, h3.call⟩
theorem zPc_at {K : SD} {G : GD} {av : List Value} {st : PS} {s U : State} {H : Heap} {locs : List Loc} (hI : zI K G s st H locs) (hK : va_K G.1 zCl (zTy G) s) (hO : zRO K G s s.heap) (hU : U.heap = H) (hW : s.WarmedH U.vm) : va_Pc av (fun U => va_P G.1 zCl (zW K G st) U.heap ∧ va_K G.1 zCl (zTy G) U ∧ zRO K G U U.heap) av.toArray U :=
  ⟨rfl, by rw [hU]; exact hI.1, va_K.moved hW.alike hK, by rw [hU]; exact hO.warm hW hI.2.2.1⟩
section ZCALL
variable {T : Type} {X : JX} {K : SD} {G : GD} {own : String} {cc : ByteArray} {rt : Option FieldType} {d : Nat} {Q : JX → T → State → Prop} {st st' : PS} {lv : List (Nat × Value)} {pc : Nat} {stk stk0 : List Value} {o : Option T} {y : MethodName} {b : ByteArray} {n d' idx k : Nat} {rt' : Option FieldType} {As : List Value} {ov : Option Value}
theorem j_after {p : Program} {l : Launch} {e : Env} {R : Room} {s : State} {m : MethodId} {args : Array Value} {below : List Frame} {meth : Method} {c : Code} {cells slots nL : Nat} {H : Heap} {locs : List Loc} {ls : Array Slot} {r : T} {av : Array Value}
    (hr : o = some r) (hI : zI K G s st H locs) (hl : lv_has ls nL lv)
    (run : va_Run p l e R s m args below meth c H locs cells slots 0 0 (F0 m pc ls stk0) stk (zQc K G ov st' av) (zA K G))
    (kk : J (p, l, e, R, s, m, args, below, meth, c, cells, slots, nL) (zI K G) Q st' lv (pc + 3) (ov.toList ++ stk) o) : W p l e R s m args below meth c H locs cells slots (Q (p, l, e, R, s, m, args, below, meth, c, cells, slots, nL) r) (F0 m pc ls stk0) := by
  intro Ts hT Xs
  obtain ⟨v, st₀, t, T', L, h0, X', hL, e1, e2, ⟨⟨hv, hp⟩, hz, hkk⟩, step⟩ := run Ts hT Xs
  cases hv
  rw [h0] at hz hkk
  have hS := hI.2
  obtain ⟨t2, a1, b1⟩ := kk r hr T'.heap (locs ++ L) ls ⟨by rw [e1]; exact hp, Nat.le_trans hS.1 (by rw [e1]; exact hz), fun q h1 h2 => by
      rw [e1, hkk q (Nat.lt_of_lt_of_le h1 hS.1) h2]; exact hS.2.1 q h1 h2, fun q hq => by
      rcases List.mem_append.mp hq with h | h
      · exact hS.2.2 q h
      · exact hL q h⟩ hl T' rfl X'
  exact ⟨t2, step t2 a1, b1⟩
theorem j_callV (C : zC X K G own cc rt d) {a ci : Nat} {q : vw_C} {fs : (Nat → Nat) → (Int → Int) → List Value} (hob : zOb K a ci fs) (hc : zCl[ci]? = some q) (hq : q.1 = y.cls) (hM : zM X.2.1 K G y b n rt' d' (.ref (G.2.2.1 a) :: As) st ov st') (hk : zLV own idx y b n rt' k) (hk2 : As.length = k) (hdd : d' < d) (hs : stk0 = As.reverse ++ .ref (G.2.2.1 a) :: stk) (hsz : (stk.map fun v => v.category).sum ≤ 8) (hd : decode cc pc = .ok (.invokevirtual idx, 3))
    (kk : J X (zI K G) Q st' lv (pc + 3) (ov.toList ++ stk) o) : J X (zI K G) Q st lv pc stk0 o := by
  obtain ⟨p, l, e, R, s, m, args, below, meth, c, cells, slots, nL⟩ := X
  obtain ⟨⟨hx, hb, hml, hown, hts⟩, hK, hj, hO, hR, hr0, hlk⟩ := C
  intro r hr H locs ls hI hl
  obtain ⟨hw, hcode, hnm, hn30⟩ := hk
  obtain ⟨q0, -, hq0⟩ := zW_get (K := K) (G := G) hob.1
  have he := hq0 st
  rw [hob.2] at he
  have hg : GoodIn zT (wsV own idx y.cls y (Cond.code y b n rt' :: zT)) := zGood (fun w hw' => by
    simp only [wsV, List.cons_append, List.nil_append, List.mem_cons] at hw'
    rcases hw' with h | h | h | h | h | h
    · rw [h]; exact hw.1
    · rw [h]; exact hw.2.1
    · rw [h]; exact hw.2.2.1
    · rw [h]; exact hw.2.2.2
    · rw [h]; exact hcode
    · exact h)
  refine j_after hr hI hl (va_runV (C := y.cls) ⟨hx, hb, hml, hown, hts⟩ hM (cwV k hts hg rfl rfl rfl ⟨rfl, hnm⟩ ⟨by show d' + 2 + 1 ≤ _; omega, by show 8 + (n + 11) + 60 * (d' + 2) ≤ _; omega⟩) ⟨zPc_blind, ?_, fun U hU hW => zPc_at hI hK hO hU hW⟩ rfl hk2 hl.1 hs (lv_room hsz) hd ⟨by omega, by omega⟩) kk
  rw [← hq]
  exact va_recv hK hI.1 hc he
theorem j_callS (C : zC X K G own cc rt d) (hM : zM X.2.1 K G y b n rt' d' As st ov st') (hk : zLS own idx y b n rt' k) (hk2 : As.length = k) (hdd : d' < d) (hs : stk0 = As.reverse ++ stk) (hsz : (stk.map fun v => v.category).sum ≤ 8) (hd : decode cc pc = .ok (.invokestatic idx, 3))
    (kk : J X (zI K G) Q st' lv (pc + 3) (ov.toList ++ stk) o) : J X (zI K G) Q st lv pc stk0 o := by
  obtain ⟨p, l, e, R, s, m, args, below, meth, c, cells, slots, nL⟩ := X
  obtain ⟨⟨hx, hb, hml, hown, hts⟩, hK, hj, hO, hR, hr0, hlk⟩ := C
  intro r hr H locs ls hI hl
  obtain ⟨hw, hcode, hnm, hn30⟩ := hk
  have hg : GoodIn zT (va_wsS own idx y (Cond.code y b n rt' :: zT)) := zGood (fun w hw' => by
    simp only [va_wsS, List.cons_append, List.nil_append, List.mem_cons] at hw'
    rcases hw' with h | h | h | h | h
    · rw [h]; exact hw.1
    · rw [h]; exact hw.2.1
    · rw [h]; exact hw.2.2
    · rw [h]; exact hcode
    · exact h)
  exact j_after hr hI hl (va_runS ⟨hx, hb, hml, hown, hts⟩ hM (va_cwS k hts hg rfl rfl rfl hnm ⟨by show d' + 2 + 1 ≤ _; omega, by show 8 + (n + 11) + 60 * (d' + 2) ≤ _; omega⟩) ⟨zPc_blind, fun U hU hW => zPc_at hI hK hO hU hW⟩ rfl hk2 hl.1 hs (lv_room hsz) hd ⟨by omega, by omega⟩) kk
end ZCALL
