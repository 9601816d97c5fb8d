/-! ROWS: a row an instruction, over J -/
def zmax (a b : Int) : Int := if wI a < wI b then b else a
def zmin (a b : Int) : Int := if wI b < wI a then b else a
def zabs (a : Int) : Int := if 0 ≤ wI a then a else 0 - a
theorem oI_zmax (a b : Int) : (if oI a < oI b then oI b else oI a) = oI (zmax a b) := by
  unfold zmax
  by_cases h : wI a < wI b
  · rw [if_pos h, if_pos (oI_lt.mpr h)]
  · rw [if_neg h, if_neg (fun q => h (oI_lt.mp q))]
theorem oI_zmin (a b : Int) : (if oI b < oI a then oI b else oI a) = oI (zmin a b) := by
  unfold zmin
  by_cases h : wI b < wI a
  · rw [if_pos h, if_pos (oI_lt.mpr h)]
  · rw [if_neg h, if_neg (fun q => h (oI_lt.mp q))]
theorem oI_zabs (a : Int) : (if 0 ≤ oI a then oI a else 0 - oI a) = oI (zabs a) := by
  unfold zabs
  by_cases h : 0 ≤ wI a
  · rw [if_pos h, if_pos (oI_ge0.mpr h)]
  · rw [if_neg h, if_neg (fun q => h (oI_ge0.mp q)), show (0 : Int32) = oI 0 from rfl, oI_sub]
section ZROWS
variable {σ T : Type} {X : JX} {K : SD} {G : GD} {own : String} {cc : ByteArray} {rt : Option FieldType} {d : Nat} {WR : State → σ → Heap → List Loc → Prop} {Q : JX → T → State → Prop} {st : σ} {lv lv' : List (Nat × Value)} {pc : Nat} {stk : List Value} {o A B : Option T}
theorem j_none : J X WR Q st lv pc stk (none : Option T) := by
  obtain ⟨p, l, e, R, s, m, args, below, meth, c, cells, slots, nL⟩ := X
  intro r hr
  cases hr
theorem j_if {c : Prop} [Decidable c] (kt : c → J X WR Q st lv pc stk A) (kf : ¬ c → J X WR Q st lv pc stk B) : J X WR Q st lv pc stk (if c then A else B) := by
  by_cases h : c
  · rw [if_pos h]; exact kt h
  · rw [if_neg h]; exact kf h
theorem j_chk {i : Int} {n : Nat} (kk : 0 ≤ i ∧ i < n → J X WR Q st lv pc stk A) : J X WR Q st lv pc stk (zchk i n A) := j_if kk (fun _ => j_none)
theorem j_bit {i : Int} (kk : i = 0 ∨ i = 1 → J X WR Q st lv pc stk A) : J X WR Q st lv pc stk (zbit i A) := j_if kk (fun _ => j_none)
theorem j_nz {i : Int} (kk : ¬ wI i = 0 → J X WR Q st lv pc stk A) : J X WR Q st lv pc stk (znz i A) := j_if (fun _ => j_none) kk
theorem j_bP {p : Option (Int × PS)} {k : Int → PS → Option T} (kk : ∀ v st1, p = some (v, st1) → J X WR Q st lv pc stk (k v st1)) : J X WR Q st lv pc stk (bP p k) := by
  cases p with
  | none => exact j_none
  | some r => exact kk r.1 r.2 rfl
theorem j_bI {α : Type} {p : Option α} {k : α → Option T} (kk : ∀ v, p = some v → J X WR Q st lv pc stk (k v)) : J X WR Q st lv pc stk (bI p k) := by
  cases p with
  | none => exact j_none
  | some r => exact kk r rfl
theorem j_sub (ks : List Nat) (hl : lv_pick lv ks = lv') (kk : J X WR Q st lv' pc stk o) : J X WR Q st lv pc stk o := by
  obtain ⟨p, l, e, R, s, m, args, below, meth, c, cells, slots, nL⟩ := X
  intro r hr H locs ls hI h
  exact kk r hr H locs ls hI (lv_sub h ks hl)


theorem j_iconst  (C : zC X K G own cc rt d) {n : Int} (hd : decode cc pc = .ok (.iconst n, 1)) (kk : J X WR Q st lv (pc + 1) (.int (oI n) :: stk) o) : J X WR Q st lv pc stk o := by
  obtain ⟨p, l, e, R, s, m, args, below, meth, c, cells, slots, nL⟩ := X
  obtain ⟨⟨hx, hb, hml, hown, hts⟩, hK, hj, hO, hR, hr0, hlk⟩ := C
  intro r hr H locs ls hI hl
  exact lv_iconst hx hb hd rfl (kk r hr H locs ls hI hl)

theorem j_bipush  (C : zC X K G own cc rt d) {n : Int} (hd : decode cc pc = .ok (.bipush n, 2)) (hn : (Int8.ofInt n).toInt32 = oI n) (kk : J X WR Q st lv (pc + 2) (.int (oI n) :: stk) o) : J X WR Q st lv pc stk o := by
  obtain ⟨p, l, e, R, s, m, args, below, meth, c, cells, slots, nL⟩ := X
  obtain ⟨⟨hx, hb, hml, hown, hts⟩, hK, hj, hO, hR, hr0, hlk⟩ := C
  intro r hr H locs ls hI hl
  exact lv_bipush hx hb hd hn (kk r hr H locs ls hI hl)

theorem j_sipush  (C : zC X K G own cc rt d) {n : Int} (hd : decode cc pc = .ok (.sipush n, 3)) (hn : (Int16.ofInt n).toInt32 = oI n) (kk : J X WR Q st lv (pc + 3) (.int (oI n) :: stk) o) : J X WR Q st lv pc stk o := by
  obtain ⟨p, l, e, R, s, m, args, below, meth, c, cells, slots, nL⟩ := X
  obtain ⟨⟨hx, hb, hml, hown, hts⟩, hK, hj, hO, hR, hr0, hlk⟩ := C
  intro r hr H locs ls hI hl
  exact lv_sipush hx hb hd hn (kk r hr H locs ls hI hl)

theorem j_lconst  (C : zC X K G own cc rt d) {n : Fin 2} {z : Int} (hd : decode cc pc = .ok (.lconst n, 1)) (hn : Int64.ofNat (n : Nat) = oL z) (kk : J X WR Q st lv (pc + 1) (.long (oL z) :: stk) o) : J X WR Q st lv pc stk o := by
  obtain ⟨p, l, e, R, s, m, args, below, meth, c, cells, slots, nL⟩ := X
  obtain ⟨⟨hx, hb, hml, hown, hts⟩, hK, hj, hO, hR, hr0, hlk⟩ := C
  intro r hr H locs ls hI hl
  exact lv_lconst hx hb hd hn (kk r hr H locs ls hI hl)

theorem j_ldc2  (C : zC X K G own cc rt d) {index : Nat} {z : Int} {v : Int64} (hw : Cond.constantLong own index v ∈ zT) (hv : v = oL z) (hd : decode cc pc = .ok (.ldc2_w index, 3)) (kk : J X WR Q st lv (pc + 3) (.long (oL z) :: stk) o) : J X WR Q st lv pc stk o := by
  obtain ⟨p, l, e, R, s, m, args, below, meth, c, cells, slots, nL⟩ := X
  obtain ⟨⟨hx, hb, hml, hown, hts⟩, hK, hj, hO, hR, hr0, hlk⟩ := C
  intro r hr H locs ls hI hl
  subst hv
  exact lv_ldc2 hx hb hown (hts _ hw) hd (kk r hr H locs ls hI hl)

theorem j_iload_n  (C : zC X K G own cc rt d) {kf : Fin 4} {i : Nat} {x : Int32} (hd : decode cc pc = .ok (.iload_n kf, 1)) (hi : (kf : Nat) = i) (k : Nat) (hk : lv[k]? = some (i, .int x)) (kk : J X WR Q st lv (pc + 1) (.int x :: stk) o) : J X WR Q st lv pc stk o := by
  obtain ⟨p, l, e, R, s, m, args, below, meth, c, cells, slots, nL⟩ := X
  obtain ⟨⟨hx, hb, hml, hown, hts⟩, hK, hj, hO, hR, hr0, hlk⟩ := C
  intro r hr H locs ls hI hl
  exact lv_iload_n hx hb hd hi (lv_at hl k hk) (kk r hr H locs ls hI hl)

theorem j_iload  (C : zC X K G own cc rt d) {i : Nat} {x : Int32} (hd : decode cc pc = .ok (.iload i, 2)) (k : Nat) (hk : lv[k]? = some (i, .int x)) (kk : J X WR Q st lv (pc + 2) (.int x :: stk) o) : J X WR Q st lv pc stk o := by
  obtain ⟨p, l, e, R, s, m, args, below, meth, c, cells, slots, nL⟩ := X
  obtain ⟨⟨hx, hb, hml, hown, hts⟩, hK, hj, hO, hR, hr0, hlk⟩ := C
  intro r hr H locs ls hI hl
  exact lv_iload hx hb hd (lv_at hl k hk) (kk r hr H locs ls hI hl)

theorem j_lload_n  (C : zC X K G own cc rt d) {kf : Fin 4} {i : Nat} {x : Int64} (hd : decode cc pc = .ok (.lload_n kf, 1)) (hi : (kf : Nat) = i) (k : Nat) (hk : lv[k]? = some (i, .long x)) (kk : J X WR Q st lv (pc + 1) (.long x :: stk) o) : J X WR Q st lv pc stk o := by
  obtain ⟨p, l, e, R, s, m, args, below, meth, c, cells, slots, nL⟩ := X
  obtain ⟨⟨hx, hb, hml, hown, hts⟩, hK, hj, hO, hR, hr0, hlk⟩ := C
  intro r hr H locs ls hI hl
  exact lv_lload_n hx hb hd hi (lv_at hl k hk) (kk r hr H locs ls hI hl)

theorem j_aload_n  (C : zC X K G own cc rt d) {kf : Fin 4} {i x : Nat} (hd : decode cc pc = .ok (.aload_n kf, 1)) (hi : (kf : Nat) = i) (k : Nat) (hk : lv[k]? = some (i, .ref x)) (kk : J X WR Q st lv (pc + 1) (.ref x :: stk) o) : J X WR Q st lv pc stk o := by
  obtain ⟨p, l, e, R, s, m, args, below, meth, c, cells, slots, nL⟩ := X
  obtain ⟨⟨hx, hb, hml, hown, hts⟩, hK, hj, hO, hR, hr0, hlk⟩ := C
  intro r hr H locs ls hI hl
  exact lv_aload_n hx hb hd hi (lv_at hl k hk) (kk r hr H locs ls hI hl)

theorem j_aload  (C : zC X K G own cc rt d) {i x : Nat} (hd : decode cc pc = .ok (.aload i, 2)) (k : Nat) (hk : lv[k]? = some (i, .ref x)) (kk : J X WR Q st lv (pc + 2) (.ref x :: stk) o) : J X WR Q st lv pc stk o := by
  obtain ⟨p, l, e, R, s, m, args, below, meth, c, cells, slots, nL⟩ := X
  obtain ⟨⟨hx, hb, hml, hown, hts⟩, hK, hj, hO, hR, hr0, hlk⟩ := C
  intro r hr H locs ls hI hl
  exact lv_aload hx hb hd (lv_at hl k hk) (kk r hr H locs ls hI hl)

theorem j_istore_n  (C : zC X K G own cc rt d) {nn : Nat} (hN : X.2.2.2.2.2.2.2.2.2.2.2.2 = nn) {kf : Fin 4} {i : Nat} {x : Int32} (hd : decode cc pc = .ok (.istore_n kf, 1)) (hi : (kf : Nat) = i) (hn : i < nn) (hf : (i, Value.int x) :: lv.filter (fun q => !(q.1 == i) && !(q.1 + 1 == i && q.2.category == 2)) = lv') (kk : J X WR Q st lv' (pc + 1) stk o) : J X WR Q st lv pc (.int x :: stk) o := by
  obtain ⟨p, l, e, R, s, m, args, below, meth, c, cells, slots, nL⟩ := X
  obtain ⟨⟨hx, hb, hml, hown, hts⟩, hK, hj, hO, hR, hr0, hlk⟩ := C
  intro r hr H locs ls hI hl
  subst hN
  exact lv_istore_n hx hb hd hi hl hn hf (fun ls' hl' => kk r hr H locs ls' hI hl')

theorem j_istore  (C : zC X K G own cc rt d) {nn : Nat} (hN : X.2.2.2.2.2.2.2.2.2.2.2.2 = nn) {i : Nat} {x : Int32} (hd : decode cc pc = .ok (.istore i, 2)) (hn : i < nn) (hf : (i, Value.int x) :: lv.filter (fun q => !(q.1 == i) && !(q.1 + 1 == i && q.2.category == 2)) = lv') (kk : J X WR Q st lv' (pc + 2) stk o) : J X WR Q st lv pc (.int x :: stk) o := by
  obtain ⟨p, l, e, R, s, m, args, below, meth, c, cells, slots, nL⟩ := X
  obtain ⟨⟨hx, hb, hml, hown, hts⟩, hK, hj, hO, hR, hr0, hlk⟩ := C
  intro r hr H locs ls hI hl
  subst hN
  exact lv_istore hx hb hd hl hn hf (fun ls' hl' => kk r hr H locs ls' hI hl')

theorem j_astore_n  (C : zC X K G own cc rt d) {nn : Nat} (hN : X.2.2.2.2.2.2.2.2.2.2.2.2 = nn) {kf : Fin 4} {i x : Nat} (hd : decode cc pc = .ok (.astore_n kf, 1)) (hi : (kf : Nat) = i) (hn : i < nn) (hf : (i, Value.ref x) :: lv.filter (fun q => !(q.1 == i) && !(q.1 + 1 == i && q.2.category == 2)) = lv') (kk : J X WR Q st lv' (pc + 1) stk o) : J X WR Q st lv pc (.ref x :: stk) o := by
  obtain ⟨p, l, e, R, s, m, args, below, meth, c, cells, slots, nL⟩ := X
  obtain ⟨⟨hx, hb, hml, hown, hts⟩, hK, hj, hO, hR, hr0, hlk⟩ := C
  intro r hr H locs ls hI hl
  subst hN
  exact lv_astore_n hx hb hd hi hl hn hf (fun ls' hl' => kk r hr H locs ls' hI hl')

theorem j_astore  (C : zC X K G own cc rt d) {nn : Nat} (hN : X.2.2.2.2.2.2.2.2.2.2.2.2 = nn) {i x : Nat} (hd : decode cc pc = .ok (.astore i, 2)) (hn : i < nn) (hf : (i, Value.ref x) :: lv.filter (fun q => !(q.1 == i) && !(q.1 + 1 == i && q.2.category == 2)) = lv') (kk : J X WR Q st lv' (pc + 2) stk o) : J X WR Q st lv pc (.ref x :: stk) o := by
  obtain ⟨p, l, e, R, s, m, args, below, meth, c, cells, slots, nL⟩ := X
  obtain ⟨⟨hx, hb, hml, hown, hts⟩, hK, hj, hO, hR, hr0, hlk⟩ := C
  intro r hr H locs ls hI hl
  subst hN
  exact lv_astore hx hb hd hl hn hf (fun ls' hl' => kk r hr H locs ls' hI hl')

theorem j_iinc  (C : zC X K G own cc rt d) {nn : Nat} (hN : X.2.2.2.2.2.2.2.2.2.2.2.2 = nn) {i : Nat} {n z : Int} (hd : decode cc pc = .ok (.iinc i n, 3)) (k : Nat) (hk : lv[k]? = some (i, .int (oI z))) (hn : i < nn) (hf : (i, Value.int (oI (z + n))) :: lv.filter (fun q => !(q.1 == i) && !(q.1 + 1 == i && q.2.category == 2)) = lv') (kk : J X WR Q st lv' (pc + 3) stk o) : J X WR Q st lv pc stk o := by
  obtain ⟨p, l, e, R, s, m, args, below, meth, c, cells, slots, nL⟩ := X
  obtain ⟨⟨hx, hb, hml, hown, hts⟩, hK, hj, hO, hR, hr0, hlk⟩ := C
  intro r hr H locs ls hI hl
  subst hN
  exact lv_iinc hx hb hd hl hk (oI_add z n) hn hf (fun ls' hl' => kk r hr H locs ls' hI hl')

theorem j_iadd  (C : zC X K G own cc rt d) {a b : Int} (hd : decode cc pc = .ok (.iadd, 1)) (kk : J X WR Q st lv (pc + 1) (.int (oI (a + b)) :: stk) o) : J X WR Q st lv pc (.int (oI b) :: .int (oI a) :: stk) o := by
  obtain ⟨p, l, e, R, s, m, args, below, meth, c, cells, slots, nL⟩ := X
  obtain ⟨⟨hx, hb, hml, hown, hts⟩, hK, hj, hO, hR, hr0, hlk⟩ := C
  intro r hr H locs ls hI hl
  refine lv_iadd hx hb hd ?_
  rw [oI_add]
  exact kk r hr H locs ls hI hl

theorem j_isub  (C : zC X K G own cc rt d) {a b : Int} (hd : decode cc pc = .ok (.isub, 1)) (kk : J X WR Q st lv (pc + 1) (.int (oI (a - b)) :: stk) o) : J X WR Q st lv pc (.int (oI b) :: .int (oI a) :: stk) o := by
  obtain ⟨p, l, e, R, s, m, args, below, meth, c, cells, slots, nL⟩ := X
  obtain ⟨⟨hx, hb, hml, hown, hts⟩, hK, hj, hO, hR, hr0, hlk⟩ := C
  intro r hr H locs ls hI hl
  refine lv_isub hx hb hd ?_
  rw [oI_sub]
  exact kk r hr H locs ls hI hl

theorem j_imul  (C : zC X K G own cc rt d) {a b : Int} (hd : decode cc pc = .ok (.imul, 1)) (kk : J X WR Q st lv (pc + 1) (.int (oI (a * b)) :: stk) o) : J X WR Q st lv pc (.int (oI b) :: .int (oI a) :: stk) o := by
  obtain ⟨p, l, e, R, s, m, args, below, meth, c, cells, slots, nL⟩ := X
  obtain ⟨⟨hx, hb, hml, hown, hts⟩, hK, hj, hO, hR, hr0, hlk⟩ := C
  intro r hr H locs ls hI hl
  refine lv_imul hx hb hd ?_
  rw [oI_mul]
  exact kk r hr H locs ls hI hl

theorem j_iand  (C : zC X K G own cc rt d) {a b : Int} (hd : decode cc pc = .ok (.iand, 1)) (kk : J X WR Q st lv (pc + 1) (.int (oI (zand a b)) :: stk) o) : J X WR Q st lv pc (.int (oI b) :: .int (oI a) :: stk) o := by
  obtain ⟨p, l, e, R, s, m, args, below, meth, c, cells, slots, nL⟩ := X
  obtain ⟨⟨hx, hb, hml, hown, hts⟩, hK, hj, hO, hR, hr0, hlk⟩ := C
  intro r hr H locs ls hI hl
  refine lv_iand hx hb hd ?_
  rw [show oI a &&& oI b = oI (zand a b) from (oI_of _).symm]
  exact kk r hr H locs ls hI hl

theorem j_ior  (C : zC X K G own cc rt d) {a b : Int} (hd : decode cc pc = .ok (.ior, 1)) (kk : J X WR Q st lv (pc + 1) (.int (oI (zor a b)) :: stk) o) : J X WR Q st lv pc (.int (oI b) :: .int (oI a) :: stk) o := by
  obtain ⟨p, l, e, R, s, m, args, below, meth, c, cells, slots, nL⟩ := X
  obtain ⟨⟨hx, hb, hml, hown, hts⟩, hK, hj, hO, hR, hr0, hlk⟩ := C
  intro r hr H locs ls hI hl
  refine lv_ior hx hb hd ?_
  rw [show oI a ||| oI b = oI (zor a b) from (oI_of _).symm]
  exact kk r hr H locs ls hI hl

theorem j_ixor  (C : zC X K G own cc rt d) {a b : Int} (hd : decode cc pc = .ok (.ixor, 1)) (kk : J X WR Q st lv (pc + 1) (.int (oI (zxor a b)) :: stk) o) : J X WR Q st lv pc (.int (oI b) :: .int (oI a) :: stk) o := by
  obtain ⟨p, l, e, R, s, m, args, below, meth, c, cells, slots, nL⟩ := X
  obtain ⟨⟨hx, hb, hml, hown, hts⟩, hK, hj, hO, hR, hr0, hlk⟩ := C
  intro r hr H locs ls hI hl
  refine lv_ixor hx hb hd ?_
  rw [show oI a ^^^ oI b = oI (zxor a b) from (oI_of _).symm]
  exact kk r hr H locs ls hI hl

theorem j_ishl  (C : zC X K G own cc rt d) {a b : Int} (hd : decode cc pc = .ok (.ishl, 1)) (kk : J X WR Q st lv (pc + 1) (.int (oI (zshl a b)) :: stk) o) : J X WR Q st lv pc (.int (oI b) :: .int (oI a) :: stk) o := by
  obtain ⟨p, l, e, R, s, m, args, below, meth, c, cells, slots, nL⟩ := X
  obtain ⟨⟨hx, hb, hml, hown, hts⟩, hK, hj, hO, hR, hr0, hlk⟩ := C
  intro r hr H locs ls hI hl
  refine lv_ishl hx hb hd ?_
  rw [show oI a <<< (oI b &&& 31) = oI (zshl a b) from (oI_of _).symm]
  exact kk r hr H locs ls hI hl

theorem j_ishr  (C : zC X K G own cc rt d) {a b : Int} (hd : decode cc pc = .ok (.ishr, 1)) (kk : J X WR Q st lv (pc + 1) (.int (oI (zshr a b)) :: stk) o) : J X WR Q st lv pc (.int (oI b) :: .int (oI a) :: stk) o := by
  obtain ⟨p, l, e, R, s, m, args, below, meth, c, cells, slots, nL⟩ := X
  obtain ⟨⟨hx, hb, hml, hown, hts⟩, hK, hj, hO, hR, hr0, hlk⟩ := C
  intro r hr H locs ls hI hl
  refine lv_ishr hx hb hd ?_
  rw [show oI a >>> (oI b &&& 31) = oI (zshr a b) from (oI_of _).symm]
  exact kk r hr H locs ls hI hl

theorem j_ineg  (C : zC X K G own cc rt d) {a : Int} (hd : decode cc pc = .ok (.ineg, 1)) (kk : J X WR Q st lv (pc + 1) (.int (oI (-a)) :: stk) o) : J X WR Q st lv pc (.int (oI a) :: stk) o := by
  obtain ⟨p, l, e, R, s, m, args, below, meth, c, cells, slots, nL⟩ := X
  obtain ⟨⟨hx, hb, hml, hown, hts⟩, hK, hj, hO, hR, hr0, hlk⟩ := C
  intro r hr H locs ls hI hl
  refine lv_ineg hx hb hd ?_
  rw [oI_neg]
  exact kk r hr H locs ls hI hl

theorem j_idiv  (C : zC X K G own cc rt d) {a b : Int} (hne : ¬ wI b = 0) (hd : decode cc pc = .ok (.idiv, 1)) (kk : J X WR Q st lv (pc + 1) (.int (oI (zdiv a b)) :: stk) o) : J X WR Q st lv pc (.int (oI b) :: .int (oI a) :: stk) o := by
  obtain ⟨p, l, e, R, s, m, args, below, meth, c, cells, slots, nL⟩ := X
  obtain ⟨⟨hx, hb, hml, hown, hts⟩, hK, hj, hO, hR, hr0, hlk⟩ := C
  intro r hr H locs ls hI hl
  refine lv_idiv hx hb hd (fun h => hne (oI_eq0.mp h)) ?_
  rw [oI_div]
  exact kk r hr H locs ls hI hl

theorem j_irem  (C : zC X K G own cc rt d) {a b : Int} (hne : ¬ wI b = 0) (hd : decode cc pc = .ok (.irem, 1)) (kk : J X WR Q st lv (pc + 1) (.int (oI (zrem a b)) :: stk) o) : J X WR Q st lv pc (.int (oI b) :: .int (oI a) :: stk) o := by
  obtain ⟨p, l, e, R, s, m, args, below, meth, c, cells, slots, nL⟩ := X
  obtain ⟨⟨hx, hb, hml, hown, hts⟩, hK, hj, hO, hR, hr0, hlk⟩ := C
  intro r hr H locs ls hI hl
  refine lv_irem hx hb hd (fun h => hne (oI_eq0.mp h)) ?_
  rw [oI_rem]
  exact kk r hr H locs ls hI hl

theorem j_i2l  (C : zC X K G own cc rt d) {a : Int} (hd : decode cc pc = .ok (.i2l, 1)) (kk : J X WR Q st lv (pc + 1) (.long (oL (wI a)) :: stk) o) : J X WR Q st lv pc (.int (oI a) :: stk) o := by
  obtain ⟨p, l, e, R, s, m, args, below, meth, c, cells, slots, nL⟩ := X
  obtain ⟨⟨hx, hb, hml, hown, hts⟩, hK, hj, hO, hR, hr0, hlk⟩ := C
  intro r hr H locs ls hI hl
  exact lv_i2l hx hb hd (oI_i2l a) (kk r hr H locs ls hI hl)

theorem j_l2i  (C : zC X K G own cc rt d) {a : Int} (hd : decode cc pc = .ok (.l2i, 1)) (kk : J X WR Q st lv (pc + 1) (.int (oI a) :: stk) o) : J X WR Q st lv pc (.long (oL a) :: stk) o := by
  obtain ⟨p, l, e, R, s, m, args, below, meth, c, cells, slots, nL⟩ := X
  obtain ⟨⟨hx, hb, hml, hown, hts⟩, hK, hj, hO, hR, hr0, hlk⟩ := C
  intro r hr H locs ls hI hl
  exact lv_l2i hx hb hd (oI_l2i a) (kk r hr H locs ls hI hl)

theorem j_i2b  (C : zC X K G own cc rt d) {a : Int} (hd : decode cc pc = .ok (.i2b, 1)) (kk : J X WR Q st lv (pc + 1) (.int (oI (wB a)) :: stk) o) : J X WR Q st lv pc (.int (oI a) :: stk) o := by
  obtain ⟨p, l, e, R, s, m, args, below, meth, c, cells, slots, nL⟩ := X
  obtain ⟨⟨hx, hb, hml, hown, hts⟩, hK, hj, hO, hR, hr0, hlk⟩ := C
  intro r hr H locs ls hI hl
  exact lv_i2b hx hb hd (oI_i2b a) (kk r hr H locs ls hI hl)

theorem j_i2s  (C : zC X K G own cc rt d) {a : Int} (hd : decode cc pc = .ok (.i2s, 1)) (kk : J X WR Q st lv (pc + 1) (.int (oI (wH a)) :: stk) o) : J X WR Q st lv pc (.int (oI a) :: stk) o := by
  obtain ⟨p, l, e, R, s, m, args, below, meth, c, cells, slots, nL⟩ := X
  obtain ⟨⟨hx, hb, hml, hown, hts⟩, hK, hj, hO, hR, hr0, hlk⟩ := C
  intro r hr H locs ls hI hl
  exact lv_i2s hx hb hd (oI_i2s a) (kk r hr H locs ls hI hl)

theorem j_dup  (C : zC X K G own cc rt d) {v : Value} (hd : decode cc pc = .ok (.dup, 1)) (hv : v.category = 1) (kk : J X WR Q st lv (pc + 1) (v :: v :: stk) o) : J X WR Q st lv pc (v :: stk) o := by
  obtain ⟨p, l, e, R, s, m, args, below, meth, c, cells, slots, nL⟩ := X
  obtain ⟨⟨hx, hb, hml, hown, hts⟩, hK, hj, hO, hR, hr0, hlk⟩ := C
  intro r hr H locs ls hI hl
  exact lv_dup hx hb hd hv (kk r hr H locs ls hI hl)

theorem j_dup2  (C : zC X K G own cc rt d) {v w : Value} (hd : decode cc pc = .ok (.dup2, 1)) (hv : v.category = 1) (hw : w.category = 1) (kk : J X WR Q st lv (pc + 1) (v :: w :: v :: w :: stk) o) : J X WR Q st lv pc (v :: w :: stk) o := by
  obtain ⟨p, l, e, R, s, m, args, below, meth, c, cells, slots, nL⟩ := X
  obtain ⟨⟨hx, hb, hml, hown, hts⟩, hK, hj, hO, hR, hr0, hlk⟩ := C
  intro r hr H locs ls hI hl
  exact lv_dup2_11 hx hb hd hv hw (kk r hr H locs ls hI hl)

theorem j_pop  (C : zC X K G own cc rt d) {v : Value} (hd : decode cc pc = .ok (.pop, 1)) (hv : v.category = 1) (kk : J X WR Q st lv (pc + 1) stk o) : J X WR Q st lv pc (v :: stk) o := by
  obtain ⟨p, l, e, R, s, m, args, below, meth, c, cells, slots, nL⟩ := X
  obtain ⟨⟨hx, hb, hml, hown, hts⟩, hK, hj, hO, hR, hr0, hlk⟩ := C
  intro r hr H locs ls hI hl
  exact lv_pop hx hb hd hv (kk r hr H locs ls hI hl)

theorem j_goto  (C : zC X K G own cc rt d) {off : Int} {tgt : Nat} (hd : decode cc pc = .ok (.goto off, 3)) (ht : (pc : Int) + off = (tgt : Int)) (kk : J X WR Q st lv tgt stk o) : J X WR Q st lv pc stk o := by
  obtain ⟨p, l, e, R, s, m, args, below, meth, c, cells, slots, nL⟩ := X
  obtain ⟨⟨hx, hb, hml, hown, hts⟩, hK, hj, hO, hR, hr0, hlk⟩ := C
  intro r hr H locs ls hI hl
  exact lv_goto hx hb hd ht (kk r hr H locs ls hI hl)

theorem j_icmp_lt  (C : zC X K G own cc rt d) {a b : Int} {off : Int} {tgt : Nat} (hd : decode cc pc = .ok (.if_icmp .lt off, 3)) (ht : (pc : Int) + off = (tgt : Int)) (kt : J X WR Q st lv tgt stk A) (kf : J X WR Q st lv (pc + 3) stk B) : J X WR Q st lv pc (.int (oI b) :: .int (oI a) :: stk) (if wI a < wI b then A else B) := by
  obtain ⟨p, l, e, R, s, m, args, below, meth, c, cells, slots, nL⟩ := X
  obtain ⟨⟨hx, hb, hml, hown, hts⟩, hK, hj, hO, hR, hr0, hlk⟩ := C
  intro r hr H locs ls hI hl
  refine lv_icmp_lt hx hb hd ht (fun h => ?_) (fun h => ?_)
  · rw [if_pos (oI_lt.mp h)] at hr; exact kt r hr H locs ls hI hl
  · rw [if_neg (fun q => h (oI_lt.mpr q))] at hr; exact kf r hr H locs ls hI hl

theorem j_if_lt  (C : zC X K G own cc rt d) {a : Int} {off : Int} {tgt : Nat} (hd : decode cc pc = .ok (.ifCond .lt off, 3)) (ht : (pc : Int) + off = (tgt : Int)) (kt : J X WR Q st lv tgt stk A) (kf : J X WR Q st lv (pc + 3) stk B) : J X WR Q st lv pc (.int (oI a) :: stk) (if wI a < 0 then A else B) := by
  obtain ⟨p, l, e, R, s, m, args, below, meth, c, cells, slots, nL⟩ := X
  obtain ⟨⟨hx, hb, hml, hown, hts⟩, hK, hj, hO, hR, hr0, hlk⟩ := C
  intro r hr H locs ls hI hl
  refine lv_if_lt hx hb hd ht (fun h => ?_) (fun h => ?_)
  · rw [if_pos (oI_lt0.mp h)] at hr; exact kt r hr H locs ls hI hl
  · rw [if_neg (fun q => h (oI_lt0.mpr q))] at hr; exact kf r hr H locs ls hI hl

theorem j_icmp_le  (C : zC X K G own cc rt d) {a b : Int} {off : Int} {tgt : Nat} (hd : decode cc pc = .ok (.if_icmp .le off, 3)) (ht : (pc : Int) + off = (tgt : Int)) (kt : J X WR Q st lv tgt stk A) (kf : J X WR Q st lv (pc + 3) stk B) : J X WR Q st lv pc (.int (oI b) :: .int (oI a) :: stk) (if wI a ≤ wI b then A else B) := by
  obtain ⟨p, l, e, R, s, m, args, below, meth, c, cells, slots, nL⟩ := X
  obtain ⟨⟨hx, hb, hml, hown, hts⟩, hK, hj, hO, hR, hr0, hlk⟩ := C
  intro r hr H locs ls hI hl
  refine lv_icmp_le hx hb hd ht (fun h => ?_) (fun h => ?_)
  · rw [if_pos (oI_le.mp h)] at hr; exact kt r hr H locs ls hI hl
  · rw [if_neg (fun q => h (oI_le.mpr q))] at hr; exact kf r hr H locs ls hI hl

theorem j_if_le  (C : zC X K G own cc rt d) {a : Int} {off : Int} {tgt : Nat} (hd : decode cc pc = .ok (.ifCond .le off, 3)) (ht : (pc : Int) + off = (tgt : Int)) (kt : J X WR Q st lv tgt stk A) (kf : J X WR Q st lv (pc + 3) stk B) : J X WR Q st lv pc (.int (oI a) :: stk) (if wI a ≤ 0 then A else B) := by
  obtain ⟨p, l, e, R, s, m, args, below, meth, c, cells, slots, nL⟩ := X
  obtain ⟨⟨hx, hb, hml, hown, hts⟩, hK, hj, hO, hR, hr0, hlk⟩ := C
  intro r hr H locs ls hI hl
  refine lv_if_le hx hb hd ht (fun h => ?_) (fun h => ?_)
  · rw [if_pos (oI_le0.mp h)] at hr; exact kt r hr H locs ls hI hl
  · rw [if_neg (fun q => h (oI_le0.mpr q))] at hr; exact kf r hr H locs ls hI hl

theorem j_icmp_eq  (C : zC X K G own cc rt d) {a b : Int} {off : Int} {tgt : Nat} (hd : decode cc pc = .ok (.if_icmp .eq off, 3)) (ht : (pc : Int) + off = (tgt : Int)) (kt : J X WR Q st lv tgt stk A) (kf : J X WR Q st lv (pc + 3) stk B) : J X WR Q st lv pc (.int (oI b) :: .int (oI a) :: stk) (if wI a = wI b then A else B) := by
  obtain ⟨p, l, e, R, s, m, args, below, meth, c, cells, slots, nL⟩ := X
  obtain ⟨⟨hx, hb, hml, hown, hts⟩, hK, hj, hO, hR, hr0, hlk⟩ := C
  intro r hr H locs ls hI hl
  refine lv_icmp_eq hx hb hd ht (fun h => ?_) (fun h => ?_)
  · rw [if_pos (oI_eq.mp h)] at hr; exact kt r hr H locs ls hI hl
  · rw [if_neg (fun q => h (oI_eq.mpr q))] at hr; exact kf r hr H locs ls hI hl

theorem j_if_eq  (C : zC X K G own cc rt d) {a : Int} {off : Int} {tgt : Nat} (hd : decode cc pc = .ok (.ifCond .eq off, 3)) (ht : (pc : Int) + off = (tgt : Int)) (kt : J X WR Q st lv tgt stk A) (kf : J X WR Q st lv (pc + 3) stk B) : J X WR Q st lv pc (.int (oI a) :: stk) (if wI a = 0 then A else B) := by
  obtain ⟨p, l, e, R, s, m, args, below, meth, c, cells, slots, nL⟩ := X
  obtain ⟨⟨hx, hb, hml, hown, hts⟩, hK, hj, hO, hR, hr0, hlk⟩ := C
  intro r hr H locs ls hI hl
  refine lv_if_eq hx hb hd ht (fun h => ?_) (fun h => ?_)
  · rw [if_pos (oI_eq0.mp h)] at hr; exact kt r hr H locs ls hI hl
  · rw [if_neg (fun q => h (oI_eq0.mpr q))] at hr; exact kf r hr H locs ls hI hl

theorem j_icmp_ge  (C : zC X K G own cc rt d) {a b : Int} {off : Int} {tgt : Nat} (hd : decode cc pc = .ok (.if_icmp .ge off, 3)) (ht : (pc : Int) + off = (tgt : Int)) (kt : J X WR Q st lv tgt stk A) (kf : J X WR Q st lv (pc + 3) stk B) : J X WR Q st lv pc (.int (oI b) :: .int (oI a) :: stk) (if wI b ≤ wI a then A else B) := by
  obtain ⟨p, l, e, R, s, m, args, below, meth, c, cells, slots, nL⟩ := X
  obtain ⟨⟨hx, hb, hml, hown, hts⟩, hK, hj, hO, hR, hr0, hlk⟩ := C
  intro r hr H locs ls hI hl
  refine lv_icmp_ge hx hb hd ht (fun h => ?_) (fun h => ?_)
  · rw [if_pos (oI_le.mp h)] at hr; exact kt r hr H locs ls hI hl
  · rw [if_neg (fun q => h (oI_le.mpr q))] at hr; exact kf r hr H locs ls hI hl

theorem j_if_ge  (C : zC X K G own cc rt d) {a : Int} {off : Int} {tgt : Nat} (hd : decode cc pc = .ok (.ifCond .ge off, 3)) (ht : (pc : Int) + off = (tgt : Int)) (kt : J X WR Q st lv tgt stk A) (kf : J X WR Q st lv (pc + 3) stk B) : J X WR Q st lv pc (.int (oI a) :: stk) (if 0 ≤ wI a then A else B) := by
  obtain ⟨p, l, e, R, s, m, args, below, meth, c, cells, slots, nL⟩ := X
  obtain ⟨⟨hx, hb, hml, hown, hts⟩, hK, hj, hO, hR, hr0, hlk⟩ := C
  intro r hr H locs ls hI hl
  refine lv_if_ge hx hb hd ht (fun h => ?_) (fun h => ?_)
  · rw [if_pos (oI_ge0.mp h)] at hr; exact kt r hr H locs ls hI hl
  · rw [if_neg (fun q => h (oI_ge0.mpr q))] at hr; exact kf r hr H locs ls hI hl

theorem j_icmp_gt  (C : zC X K G own cc rt d) {a b : Int} {off : Int} {tgt : Nat} (hd : decode cc pc = .ok (.if_icmp .gt off, 3)) (ht : (pc : Int) + off = (tgt : Int)) (kt : J X WR Q st lv tgt stk A) (kf : J X WR Q st lv (pc + 3) stk B) : J X WR Q st lv pc (.int (oI b) :: .int (oI a) :: stk) (if wI b < wI a then A else B) := by
  obtain ⟨p, l, e, R, s, m, args, below, meth, c, cells, slots, nL⟩ := X
  obtain ⟨⟨hx, hb, hml, hown, hts⟩, hK, hj, hO, hR, hr0, hlk⟩ := C
  intro r hr H locs ls hI hl
  refine lv_icmp_gt hx hb hd ht (fun h => ?_) (fun h => ?_)
  · rw [if_pos (oI_lt.mp h)] at hr; exact kt r hr H locs ls hI hl
  · rw [if_neg (fun q => h (oI_lt.mpr q))] at hr; exact kf r hr H locs ls hI hl

theorem j_if_gt  (C : zC X K G own cc rt d) {a : Int} {off : Int} {tgt : Nat} (hd : decode cc pc = .ok (.ifCond .gt off, 3)) (ht : (pc : Int) + off = (tgt : Int)) (kt : J X WR Q st lv tgt stk A) (kf : J X WR Q st lv (pc + 3) stk B) : J X WR Q st lv pc (.int (oI a) :: stk) (if 0 < wI a then A else B) := by
  obtain ⟨p, l, e, R, s, m, args, below, meth, c, cells, slots, nL⟩ := X
  obtain ⟨⟨hx, hb, hml, hown, hts⟩, hK, hj, hO, hR, hr0, hlk⟩ := C
  intro r hr H locs ls hI hl
  refine lv_if_gt hx hb hd ht (fun h => ?_) (fun h => ?_)
  · rw [if_pos (oI_gt0.mp h)] at hr; exact kt r hr H locs ls hI hl
  · rw [if_neg (fun q => h (oI_gt0.mpr q))] at hr; exact kf r hr H locs ls hI hl

theorem j_icmp_ne  (C : zC X K G own cc rt d) {a b : Int} {off : Int} {tgt : Nat} (hd : decode cc pc = .ok (.if_icmp .ne off, 3)) (ht : (pc : Int) + off = (tgt : Int)) (kt : J X WR Q st lv (pc + 3) stk A) (kf : J X WR Q st lv tgt stk B) : J X WR Q st lv pc (.int (oI b) :: .int (oI a) :: stk) (if wI a = wI b then A else B) := by
  obtain ⟨p, l, e, R, s, m, args, below, meth, c, cells, slots, nL⟩ := X
  obtain ⟨⟨hx, hb, hml, hown, hts⟩, hK, hj, hO, hR, hr0, hlk⟩ := C
  intro r hr H locs ls hI hl
  refine lv_icmp_ne hx hb hd ht (fun h => ?_) (fun h => ?_)
  · rw [if_neg (fun q => h (oI_eq.mpr q))] at hr; exact kf r hr H locs ls hI hl
  · rw [if_pos (oI_eq.mp h)] at hr; exact kt r hr H locs ls hI hl

theorem j_if_ne  (C : zC X K G own cc rt d) {a : Int} {off : Int} {tgt : Nat} (hd : decode cc pc = .ok (.ifCond .ne off, 3)) (ht : (pc : Int) + off = (tgt : Int)) (kt : J X WR Q st lv (pc + 3) stk A) (kf : J X WR Q st lv tgt stk B) : J X WR Q st lv pc (.int (oI a) :: stk) (if wI a = 0 then A else B) := by
  obtain ⟨p, l, e, R, s, m, args, below, meth, c, cells, slots, nL⟩ := X
  obtain ⟨⟨hx, hb, hml, hown, hts⟩, hK, hj, hO, hR, hr0, hlk⟩ := C
  intro r hr H locs ls hI hl
  refine lv_if_ne hx hb hd ht (fun h => ?_) (fun h => ?_)
  · rw [if_neg (fun q => h (oI_eq0.mpr q))] at hr; exact kf r hr H locs ls hI hl
  · rw [if_pos (oI_eq0.mp h)] at hr; exact kt r hr H locs ls hI hl

theorem j_if_eq_t  (C : zC X K G own cc rt d) {a : Int} {off : Int} {tgt : Nat} (hd : decode cc pc = .ok (.ifCond .eq off, 3)) (ht : (pc : Int) + off = (tgt : Int)) (hc : wI a = 0) (kk : J X WR Q st lv tgt stk o) : J X WR Q st lv pc (.int (oI a) :: stk) o := by
  obtain ⟨p, l, e, R, s, m, args, below, meth, c, cells, slots, nL⟩ := X
  obtain ⟨⟨hx, hb, hml, hown, hts⟩, hK, hj, hO, hR, hr0, hlk⟩ := C
  intro r hr H locs ls hI hl
  refine lv_if_eq hx hb hd ht (fun h => ?_) (fun h => ?_)
  · exact kk r hr H locs ls hI hl
  · exact absurd (oI_eq0.mpr hc) h

theorem j_if_eq_f  (C : zC X K G own cc rt d) {a : Int} {off : Int} {tgt : Nat} (hd : decode cc pc = .ok (.ifCond .eq off, 3)) (ht : (pc : Int) + off = (tgt : Int)) (hc : ¬ wI a = 0) (kk : J X WR Q st lv (pc + 3) stk o) : J X WR Q st lv pc (.int (oI a) :: stk) o := by
  obtain ⟨p, l, e, R, s, m, args, below, meth, c, cells, slots, nL⟩ := X
  obtain ⟨⟨hx, hb, hml, hown, hts⟩, hK, hj, hO, hR, hr0, hlk⟩ := C
  intro r hr H locs ls hI hl
  refine lv_if_eq hx hb hd ht (fun h => ?_) (fun h => ?_)
  · exact absurd (oI_eq0.mp h) hc
  · exact kk r hr H locs ls hI hl

theorem j_if_ne_t  (C : zC X K G own cc rt d) {a : Int} {off : Int} {tgt : Nat} (hd : decode cc pc = .ok (.ifCond .ne off, 3)) (ht : (pc : Int) + off = (tgt : Int)) (hc : ¬ wI a = 0) (kk : J X WR Q st lv tgt stk o) : J X WR Q st lv pc (.int (oI a) :: stk) o := by
  obtain ⟨p, l, e, R, s, m, args, below, meth, c, cells, slots, nL⟩ := X
  obtain ⟨⟨hx, hb, hml, hown, hts⟩, hK, hj, hO, hR, hr0, hlk⟩ := C
  intro r hr H locs ls hI hl
  refine lv_if_ne hx hb hd ht (fun h => ?_) (fun h => ?_)
  · exact kk r hr H locs ls hI hl
  · exact absurd (oI_eq0.mp h) hc

theorem j_if_ne_f  (C : zC X K G own cc rt d) {a : Int} {off : Int} {tgt : Nat} (hd : decode cc pc = .ok (.ifCond .ne off, 3)) (ht : (pc : Int) + off = (tgt : Int)) (hc : wI a = 0) (kk : J X WR Q st lv (pc + 3) stk o) : J X WR Q st lv pc (.int (oI a) :: stk) o := by
  obtain ⟨p, l, e, R, s, m, args, below, meth, c, cells, slots, nL⟩ := X
  obtain ⟨⟨hx, hb, hml, hown, hts⟩, hK, hj, hO, hR, hr0, hlk⟩ := C
  intro r hr H locs ls hI hl
  refine lv_if_ne hx hb hd ht (fun h => ?_) (fun h => ?_)
  · exact absurd (oI_eq0.mpr hc) h
  · exact kk r hr H locs ls hI hl

theorem j_lcmp  (C : zC X K G own cc rt d) {a b : Int} (hd : decode cc pc = .ok (.lcmp, 1)) (kk : J X WR Q st lv (pc + 1) (.int (oI (zcmp a b)) :: stk) o) : J X WR Q st lv pc (.long (oL b) :: .long (oL a) :: stk) o := by
  obtain ⟨p, l, e, R, s, m, args, below, meth, c, cells, slots, nL⟩ := X
  obtain ⟨⟨hx, hb, hml, hown, hts⟩, hK, hj, hO, hR, hr0, hlk⟩ := C
  intro r hr H locs ls hI hl
  refine W.lcmp hx hb hd ?_
  rw [oL_cmp]
  exact kk r hr H locs ls hI hl

theorem j_tabIn  (C : zC X K G own cc rt d) {dflt lo hi : Int} {offs : Array Int} {len : Nat} {z v : Int} {off : Int} {tgt : Nat} (hd : decode cc pc = .ok (.tableswitch dflt lo hi offs, len)) (hz : wI z = v) (h1 : ¬ v < lo) (h2 : ¬ hi < v) (ho : offs[(v - lo).toNat]? = some off) (ht : (pc : Int) + off = (tgt : Int)) (kk : J X WR Q st lv tgt stk o) : J X WR Q st lv pc (.int (oI z) :: stk) o := by
  obtain ⟨p, l, e, R, s, m, args, below, meth, c, cells, slots, nL⟩ := X
  obtain ⟨⟨hx, hb, hml, hown, hts⟩, hK, hj, hO, hR, hr0, hlk⟩ := C
  intro r hr H locs ls hI hl
  subst hz
  rw [← oI_toInt] at h1 h2 ho
  exact lv_tableIn hx hb hd h1 h2 ho ht (kk r hr H locs ls hI hl)

theorem j_tabOut  (C : zC X K G own cc rt d) {dflt lo hi : Int} {offs : Array Int} {len : Nat} {z : Int} {tgt : Nat} (hd : decode cc pc = .ok (.tableswitch dflt lo hi offs, len)) (h : wI z < lo ∨ hi < wI z) (ht : (pc : Int) + dflt = (tgt : Int)) (kk : J X WR Q st lv tgt stk o) : J X WR Q st lv pc (.int (oI z) :: stk) o := by
  obtain ⟨p, l, e, R, s, m, args, below, meth, c, cells, slots, nL⟩ := X
  obtain ⟨⟨hx, hb, hml, hown, hts⟩, hK, hj, hO, hR, hr0, hlk⟩ := C
  intro r hr H locs ls hI hl
  rw [← oI_toInt] at h
  exact lv_tableOut hx hb hd h ht (kk r hr H locs ls hI hl)

theorem j_look  (C : zC X K G own cc rt d) {dflt : Int} {ps : Array (Int × Int)} {len : Nat} {z : Int} {off : Int} {tgt : Nat} (hd : decode cc pc = .ok (.lookupswitch dflt ps, len)) (hp : (ps.toList.zip (ps.toList.drop 1)).all (fun (a, next) => a.1 < next.1) = true) (ho : Op.lookupswitch.offset ps.toList dflt (wI z) = off) (ht : (pc : Int) + off = (tgt : Int)) (kk : J X WR Q st lv tgt stk o) : J X WR Q st lv pc (.int (oI z) :: stk) o := by
  obtain ⟨p, l, e, R, s, m, args, below, meth, c, cells, slots, nL⟩ := X
  obtain ⟨⟨hx, hb, hml, hown, hts⟩, hK, hj, hO, hR, hr0, hlk⟩ := C
  intro r hr H locs ls hI hl
  rw [← oI_toInt] at ho
  exact lv_lookup hx hb hd hp ho ht (kk r hr H locs ls hI hl)

theorem j_mmax  (C : zC X K G own cc rt d) {index : Nat} {a b : Int} (hw : Cond.methodLink own index Lib.Math.max.name ∈ zT ∧ Cond.static Lib.Math.max.name ∈ zT ∧ Cond.initialized "java/lang/Math" ∈ zT ∧ Cond.code Lib.Math.max.name Lib.Math.max.code 2 (some .int) ∈ zT) (hsz : (stk.map fun v => v.category).sum ≤ 8) (hd : decode cc pc = .ok (.invokestatic index, 3)) (kk : J X WR Q st lv (pc + 3) (.int (oI (zmax a b)) :: stk) o) : J X WR Q st lv pc (.int (oI b) :: .int (oI a) :: stk) o := by
  obtain ⟨p, l, e, R, s, m, args, below, meth, c, cells, slots, nL⟩ := X
  obtain ⟨⟨hx, hb, hml, hown, hts⟩, hK, hj, hO, hR, hr0, hlk⟩ := C
  intro r hr H locs ls hI hl
  refine va_mmax hx hb (hml.trans hl.1.symm) hown (hts _ hw.1) (hts _ hw.2.1) (hts _ hw.2.2.1) (hts _ hw.2.2.2) (by omega) (by omega) hR.2.2.1 hR.2.2.2 hd ?_
  rw [oI_zmax]
  exact kk r hr H locs ls hI hl

theorem j_mmin  (C : zC X K G own cc rt d) {index : Nat} {a b : Int} (hw : Cond.methodLink own index Lib.Math.min.name ∈ zT ∧ Cond.static Lib.Math.min.name ∈ zT ∧ Cond.initialized "java/lang/Math" ∈ zT ∧ Cond.code Lib.Math.min.name Lib.Math.min.code 2 (some .int) ∈ zT) (hsz : (stk.map fun v => v.category).sum ≤ 8) (hd : decode cc pc = .ok (.invokestatic index, 3)) (kk : J X WR Q st lv (pc + 3) (.int (oI (zmin a b)) :: stk) o) : J X WR Q st lv pc (.int (oI b) :: .int (oI a) :: stk) o := by
  obtain ⟨p, l, e, R, s, m, args, below, meth, c, cells, slots, nL⟩ := X
  obtain ⟨⟨hx, hb, hml, hown, hts⟩, hK, hj, hO, hR, hr0, hlk⟩ := C
  intro r hr H locs ls hI hl
  refine va_mmin hx hb (hml.trans hl.1.symm) hown (hts _ hw.1) (hts _ hw.2.1) (hts _ hw.2.2.1) (hts _ hw.2.2.2) (by omega) (by omega) hR.2.2.1 hR.2.2.2 hd ?_
  rw [oI_zmin]
  exact kk r hr H locs ls hI hl

theorem j_mabs  (C : zC X K G own cc rt d) {index : Nat} {a b : Int} (hw : Cond.methodLink own index Lib.Math.abs.name ∈ zT ∧ Cond.static Lib.Math.abs.name ∈ zT ∧ Cond.initialized "java/lang/Math" ∈ zT ∧ Cond.code Lib.Math.abs.name Lib.Math.abs.code 1 (some .int) ∈ zT) (hsz : (stk.map fun v => v.category).sum ≤ 8) (hd : decode cc pc = .ok (.invokestatic index, 3)) (kk : J X WR Q st lv (pc + 3) (.int (oI (zabs a)) :: stk) o) : J X WR Q st lv pc (.int (oI a) :: stk) o := by
  obtain ⟨p, l, e, R, s, m, args, below, meth, c, cells, slots, nL⟩ := X
  obtain ⟨⟨hx, hb, hml, hown, hts⟩, hK, hj, hO, hR, hr0, hlk⟩ := C
  intro r hr H locs ls hI hl
  refine va_mabs hx hb (hml.trans hl.1.symm) hown (hts _ hw.1) (hts _ hw.2.1) (hts _ hw.2.2.1) (hts _ hw.2.2.2) (by omega) (by omega) hR.2.2.1 hR.2.2.2 hd ?_
  rw [oI_zabs]
  exact kk r hr H locs ls hI hl

end ZROWS
