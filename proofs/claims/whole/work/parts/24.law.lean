/-! THE CLAIM OUT OF ONE WALK OF THE LAW'S BODY. Your part is whole_start (and what it stands on); all else here is the same for every law, but numbers. -/
def R_law : String := "MiddleThreeLaw"
def lw_P (b : Addr) (xs : List Int32) (args : Array Value) (s : State) : Prop := args = #[.ref b] ∧ s.IntsAt b xs ∧ xs.length ≤ 3072 ∧ (Jvm.Cond.and given_1 narrow_1).before args s = true
def lw_Q (_ : Array Value) (s : State) (o : Outcome) (t : State) : Prop := o = .returned (some (.int 1)) ∧ Framed s o t [] 600000 7302249
def lw_Z (below : List Frame) (a : Array Value) (s : State) : State → Prop := fun t => ∃ o, t.status = .running ∧ Ended t below o ∧ lw_Q a s o t
/-- the law's own end, with 1 on the stack, nothing written that was there before, its room as the claim has it -/
theorem lw_ret {p : Program} {l : Launch} {e : Env} {s : State} {m : MethodId} {below : List Frame} {meth : Method} {c : Code} {b : Nat} (hx : p.tables.exec = Jvm.exec) (hb : c.code = code) (hr : meth.sig.returnType = ret) (hlocks : meth.locks = false) {pc : Nat} {H : Heap} {ls : Array Slot} (hdg : decode code pc = .ok (.ireturn, 1)) : W p l e room_1 s m #[Value.ref b] below meth c H [] 600000 7302249 (lw_Z below #[Value.ref b] s) (F0 m pc ls [.int 1]) := by
  intro T hT X
  obtain ⟨fs, hret, hrun, hended, hW, hframe⟩ := X.leave (v := some (.int 1)) (hlocks := hlocks) (fun h => by rw [hr] at h; cases h)
  have hmeth' : T.vm.method? m = some meth := X.method'
  refine ⟨T.setFrames fs, ?_, .returned (some (.int 1)), hrun, hended, rfl, ⟨_, rfl⟩, hW, hframe⟩
  jvm_step X.here [X.here.top, hx, hb, hdg, hmeth', hr, ret, narrow_b1]
  (try refine ⟨rfl, ?_⟩); (try refine ⟨rfl, ?_⟩)
  first | (intro acts; rw [hret _ acts rfl rfl rfl]) | rw [hret _ _ rfl rfl rfl]
  exact Steps.refl _
/-- what holds at the law's entry: the machine, the code, the tables' words (any of lw_tbl by 'hts w (by decide +kernel)'), the script of L ints xs at the cell b, what the Statement gives of the start (any of its parts by flat_of_before) -/
def lw_At (p : Program) (s : State) (m : MethodId) (meth : Method) (c : Code) (b L : Nat) (xs : Nat → Int32) : Prop :=
  p.tables.exec = Jvm.exec ∧ c.code = code ∧ meth.sig.returnType = ret ∧ c.maxLocals = 4 ∧ s.vm.findClass R_law = some m.cls ∧ (∀ w ∈ lw_tbl, w.before #[Value.ref b] s = true) ∧ va_X b L xs s s.heap ∧ b < s.heap.size ∧ meth.locks = false ∧ (Jvm.Cond.and given_1 narrow_1).before #[Value.ref b] s = true

def rng (a : Int) : Prop := -2147483648 ≤ a ∧ a < 2147483648
def rngL (a : Int) : Prop := -9223372036854775808 ≤ a ∧ a < 9223372036854775808
theorem zcmp_eq {a b : Int} (h : wL a = wL b) : zcmp a b = 0 := by unfold zcmp; rw [if_neg (by omega), if_pos h]
def zlshl (a b : Int) : Int := (oL a <<< ((oI b).toInt64 &&& 63)).toInt
def zland (a b : Int) : Int := (oL a &&& oL b).toInt
def zlor (a b : Int) : Int := (oL a ||| oL b).toInt
theorem rngL_of (x : Int64) : rngL x.toInt := ⟨Int64.le_toInt x, Int64.toInt_lt x⟩
theorem rng_of (x : Int32) : rng x.toInt := ⟨Int32.le_toInt x, Int32.toInt_lt x⟩
def WL (Gc Gm : GD) (s : State) (w : PS × PS) (H : Heap) (locs : List Loc) : Prop := va_P Gc.1 zCl (zW sC Gc w.1) H ∧ va_P Gm.1 zCl (zW sM Gm w.2) H ∧ va_S (fun q : Nat => s.heap.size ≤ q) s.heap H locs
def QL (b : Addr) (X : JX) (_ : Unit) : State → Prop := match X with
  | (_, _, _, _, s, _, _, below, _, _, _, _, _) => lw_Z below #[Value.ref b] s
/-- both sides' addresses: new, and apart -/
def LF (s : State) (Gc Gm : GD) : Prop := (∀ a ∈ sC.1, s.heap.size ≤ Gc.2.2.1 a) ∧ (∀ a ∈ sM.1, s.heap.size ≤ Gm.2.2.1 a) ∧ ∀ a ∈ sC.1, ∀ b ∈ sM.1, Gc.2.2.1 a ≠ Gm.2.2.1 b
/-- the law's walk: its context, and the script -/
def lC (X : JX) (Gc Gm : GD) (b Ln : Nat) (xs : Nat → Int32) : Prop := match X with
  | (p, l, e, R, s, m, args, below, meth, c, cells, slots, nL) => zC X sC Gc RL code ret 190 ∧ zC X sM Gm RL code ret 190 ∧ LF s Gc Gm ∧ va_X b Ln xs s s.heap ∧ b < s.heap.size ∧ Ln ≤ 3072 ∧ R = room_1 ∧ args = #[Value.ref b] ∧ cells ≤ 600000 ∧ slots ≤ 7302249
section LROWS
variable {T : Type} {X : JX} {Gc Gm : GD} {b Ln : Nat} {xs : Nat → Int32} {Q : JX → T → State → Prop} {w : PS × PS} {lv : List (Nat × Value)} {pc : Nat} {stk stk0 : List Value} {o : Option T}
theorem lC.c (C : lC X Gc Gm b Ln xs) : zC X sC Gc RL code ret 190 := by
  obtain ⟨p, l, e, R, s, m, args, below, meth, c, cells, slots, nL⟩ := X
  exact C.1
theorem j_lshl {σ : Type} {WR : State → σ → Heap → List Loc → Prop} {st : σ} {K : SD} {G : GD} {own : String} {cc : ByteArray} {rt : Option FieldType} {d : Nat} (C : zC X K G own cc rt d) {a b : Int} (hd : decode cc pc = .ok (.lshl, 1)) (kk : J X WR Q st lv (pc + 1) (.long (oL (zlshl a b)) :: stk) o) : J X WR Q st lv pc (.int (oI b) :: .long (oL a) :: stk) o := by
  obtain ⟨p, l, e, R, s, m, args, below, meth, c, cells, slots, nL⟩ := X
  obtain ⟨⟨hx, hb, hml, hown, hts⟩, hK, hj, hO, hR, hr0, hlk⟩ := C
  intro r hr H locs ls hI hl
  exact lv_lshl hx hb hd (oL_of _).symm (kk r hr H locs ls hI hl)
theorem j_land {σ : Type} {WR : State → σ → Heap → List Loc → Prop} {st : σ} {K : SD} {G : GD} {own : String} {cc : ByteArray} {rt : Option FieldType} {d : Nat} (C : zC X K G own cc rt d) {a b : Int} (hd : decode cc pc = .ok (.land, 1)) (kk : J X WR Q st lv (pc + 1) (.long (oL (zland a b)) :: stk) o) : J X WR Q st lv pc (.long (oL b) :: .long (oL a) :: stk) o := by
  obtain ⟨p, l, e, R, s, m, args, below, meth, c, cells, slots, nL⟩ := X
  obtain ⟨⟨hx, hb, hml, hown, hts⟩, hK, hj, hO, hR, hr0, hlk⟩ := C
  intro r hr H locs ls hI hl
  refine lv_land hx hb hd ?_
  rw [show oL a &&& oL b = oL (zland a b) from (oL_of _).symm]
  exact kk r hr H locs ls hI hl
theorem j_lor {σ : Type} {WR : State → σ → Heap → List Loc → Prop} {st : σ} {K : SD} {G : GD} {own : String} {cc : ByteArray} {rt : Option FieldType} {d : Nat} (C : zC X K G own cc rt d) {a b : Int} (hd : decode cc pc = .ok (.lor, 1)) (kk : J X WR Q st lv (pc + 1) (.long (oL (zlor a b)) :: stk) o) : J X WR Q st lv pc (.long (oL b) :: .long (oL a) :: stk) o := by
  obtain ⟨p, l, e, R, s, m, args, below, meth, c, cells, slots, nL⟩ := X
  obtain ⟨⟨hx, hb, hml, hown, hts⟩, hK, hj, hO, hR, hr0, hlk⟩ := C
  intro r hr H locs ls hI hl
  refine lv_lor hx hb hd ?_
  rw [show oL a ||| oL b = oL (zlor a b) from (oL_of _).symm]
  exact kk r hr H locs ls hI hl
theorem j_sld (C : lC X Gc Gm b Ln xs) {i : Int} (hi : 0 ≤ wI i ∧ wI i < Ln) (hd : decode code pc = .ok (.iaload, 1)) (kk : J X (WL Gc Gm) Q w lv (pc + 1) (.int (oI ((xs (wI i).toNat).toInt)) :: stk) o) : J X (WL Gc Gm) Q w lv pc (.int (oI i) :: .ref b :: stk) o := by
  obtain ⟨p, l, e, R, s, m, args, below, meth, c, cells, slots, nL⟩ := X
  obtain ⟨⟨⟨hx, hb, hml, hown, hts⟩, hK, hj, hO, hR, hr0, hlk⟩, -, hLF, hX, hbl, -⟩ := C
  intro r hr H locs ls hI hl
  refine va_sld hx hb hX hbl (Nat.not_le.mpr hbl) hI.2.2 (zin hi) hd ?_
  rw [zcl, ← oI_of (xs _)]
  exact kk r hr H locs ls hI hl
theorem j_slen (C : lC X Gc Gm b Ln xs) (hd : decode code pc = .ok (.arraylength, 1)) (kk : J X (WL Gc Gm) Q w lv (pc + 1) (.int (oI (Ln : Int)) :: stk) o) : J X (WL Gc Gm) Q w lv pc (.ref b :: stk) o := by
  obtain ⟨p, l, e, R, s, m, args, below, meth, c, cells, slots, nL⟩ := X
  obtain ⟨⟨⟨hx, hb, hml, hown, hts⟩, hK, hj, hO, hR, hr0, hlk⟩, -, hLF, hX, hbl, -⟩ := C
  intro r hr H locs ls hI hl
  exact va_slen hx hb hX hbl (Nat.not_le.mpr hbl) hI.2.2 hd (kk r hr H locs ls hI hl)
theorem j_end (C : lC X Gc Gm b Ln xs) {u : Unit} (hd : decode code pc = .ok (.ireturn, 1)) : J X (WL Gc Gm) (QL b) w lv pc [.int (oI 1)] (some u) := by
  obtain ⟨p, l, e, R, s, m, args, below, meth, c, cells, slots, nL⟩ := X
  obtain ⟨⟨⟨hx, hb, hml, hown, hts⟩, hK, hj, hO, hR, hr0, hlk⟩, -, hLF, hX, hbl, -, rfl, rfl, hc, hs⟩ := C
  intro r hr H locs ls hI hl
  refine va_forget hI.2.2.2.2 ?_
  refine W.widen (k := 600000) (n := 7302249) hc hs ?_
  exact lw_ret hx hb hr0 hlk hd
variable {y : MethodName} {bb : ByteArray} {n d' ix k : Nat} {rt' : Option FieldType} {As : List Value} {v : Value}
theorem jl_callC (C : lC X Gc Gm b Ln xs) {st1 : PS} (hq0 : y.cls = RX6) (hM : zM X.2.1 sC Gc y bb n rt' d' (.ref (Gc.2.2.1 0) :: As) w.1 (some v) st1) (hk : zLV RL ix y bb n rt' k) (hk2 : As.length = k) (hdd : d' < 190) (hs0 : stk0 = As.reverse ++ .ref (Gc.2.2.1 0) :: stk) (hsz : (stk.map fun v => v.category).sum ≤ 8) (hd : decode code pc = .ok (.invokevirtual ix, 3))
    (kk : J X (WL Gc Gm) Q (st1, w.2) lv (pc + 3) (v :: stk) o) : J X (WL Gc Gm) Q w lv pc stk0 o := by
  obtain ⟨p, l, e, R, s, m, args, below, meth, c, cells, slots, nL⟩ := X
  have hLF : LF s Gc Gm := C.2.2.1
  have C1 := C.1
  obtain ⟨⟨hx, hb, hml, hown, hts⟩, hK, hj, hO, hR, hr0, hlk⟩ := C1
  intro r hr H locs ls hI hl
  obtain ⟨hw, hcode, hnm, hn30⟩ := hk
  have hg : GoodIn zT (wsV RL ix y.cls y (Cond.code y bb n rt' :: zT)) := zGood (fun w hw' => by
    simp only [wsV, List.cons_append, List.nil_append, List.mem_cons] at hw'
    rcases hw' with h | h | h | h | h | h
    · rw [h]; exact hw.1
    · rw [h]; exact hw.2.1
    · rw [h]; exact hw.2.2.1
    · rw [h]; exact hw.2.2.2
    · rw [h]; exact hcode
    · exact h)
  obtain ⟨q0, -, hq1⟩ := zW_get (K := sC) (G := Gc) obX6.1
  have he := hq1 w.1
  rw [obX6.2] at he
  have hS := hI.2.2
  have hold : ∀ a : Nat, a < s.heap.size → ¬ zA sC Gc a → H[a]? = s.heap[a]? := fun a h1 _ => hS.2.1 a h1 (Nat.not_le.mpr h1)
  have run := va_runV (R := R) (p := p) (l := l) (C := y.cls) (S := ⟨hx, hb, hml, hown, hts⟩) (cells := cells) (slots := slots) (H := H) (locs := locs) (below := below) (meth := meth) (e := e) (g := F0 m pc ls stk0) (rest := stk) hM (cwV k hts hg rfl rfl rfl ⟨rfl, hnm⟩ ⟨by show d' + 2 + 1 ≤ _; omega, by show 8 + (n + 11) + 60 * (d' + 2) ≤ _; omega⟩) ⟨zPc_blind, by rw [hq0]; exact va_recv hK hI.1 (ci := 6) rfl he, fun U hU hW => ⟨rfl, by rw [hU]; exact hI.1, va_K.moved hW.alike hK, by rw [hU]; exact hO.warm hW hold⟩⟩ rfl hk2 hl.1 hs0 (lv_room hsz) hd ⟨by omega, by omega⟩
  intro Ts hT Xs
  obtain ⟨v', st₀, t, T', L, h0, X', hL, e1, e2, ⟨⟨hv, hp⟩, hz, hkk⟩, step⟩ := run Ts hT Xs
  cases hv
  rw [h0] at hz hkk
  have new : ∀ q, zA sC Gc q → s.heap.size ≤ q := fun q ⟨a, ha, e⟩ => by rw [← e]; exact hLF.1 a ha
  have other : va_P Gm.1 zCl (zW sM Gm w.2) T'.heap := by
    refine (hI.2.1).kept (fun k x hx => ?_)
    simp only [zW, List.getElem?_map, Option.map_eq_some_iff] at hx
    obtain ⟨q, hq, rfl⟩ := hx
    have hq := List.mem_of_getElem? hq
    have hlt : Gm.2.2.1 q < H.size := (kP_mem.mp hI.2.1 _ (List.mem_map_of_mem hq)).lt
    rw [e1]
    refine hkk _ hlt (fun ⟨a, ha, e⟩ => ?_)
    exact absurd e (hLF.2.2 a ha q hq)
  have hSS : va_S (fun q : Nat => s.heap.size ≤ q) s.heap T'.heap (locs ++ L) := ⟨Nat.le_trans hS.1 (by rw [e1]; exact hz), fun q h1 h2 => by
      rw [e1, hkk q (Nat.lt_of_lt_of_le h1 hS.1) (fun z => h2 (new q z))]; exact hS.2.1 q h1 h2, fun q hq => by
      rcases List.mem_append.mp hq with h | h
      · exact hS.2.2 q h
      · exact new _ (hL q h)⟩
  obtain ⟨t2, a1, b1⟩ := kk r hr T'.heap (locs ++ L) ls ⟨by rw [e1]; exact hp, other, hSS⟩ hl T' rfl X'
  exact ⟨t2, step t2 a1, b1⟩
theorem jl_callM (C : lC X Gc Gm b Ln xs) {st1 : PS} (hq0 : y.cls = RX7) (hM : zM X.2.1 sM Gm y bb n rt' d' (.ref (Gm.2.2.1 0) :: As) w.2 (some v) st1) (hk : zLV RL ix y bb n rt' k) (hk2 : As.length = k) (hdd : d' < 190) (hs0 : stk0 = As.reverse ++ .ref (Gm.2.2.1 0) :: stk) (hsz : (stk.map fun v => v.category).sum ≤ 8) (hd : decode code pc = .ok (.invokevirtual ix, 3))
    (kk : J X (WL Gc Gm) Q (w.1, st1) lv (pc + 3) (v :: stk) o) : J X (WL Gc Gm) Q w lv pc stk0 o := by
  obtain ⟨p, l, e, R, s, m, args, below, meth, c, cells, slots, nL⟩ := X
  have hLF : LF s Gc Gm := C.2.2.1
  have C1 := C.2.1
  obtain ⟨⟨hx, hb, hml, hown, hts⟩, hK, hj, hO, hR, hr0, hlk⟩ := C1
  intro r hr H locs ls hI hl
  obtain ⟨hw, hcode, hnm, hn30⟩ := hk
  have hg : GoodIn zT (wsV RL ix y.cls y (Cond.code y bb n rt' :: zT)) := zGood (fun w hw' => by
    simp only [wsV, List.cons_append, List.nil_append, List.mem_cons] at hw'
    rcases hw' with h | h | h | h | h | h
    · rw [h]; exact hw.1
    · rw [h]; exact hw.2.1
    · rw [h]; exact hw.2.2.1
    · rw [h]; exact hw.2.2.2
    · rw [h]; exact hcode
    · exact h)
  obtain ⟨q0, -, hq1⟩ := zW_get (K := sM) (G := Gm) obX7.1
  have he := hq1 w.2
  rw [obX7.2] at he
  have hS := hI.2.2
  have hold : ∀ a : Nat, a < s.heap.size → ¬ zA sM Gm a → H[a]? = s.heap[a]? := fun a h1 _ => hS.2.1 a h1 (Nat.not_le.mpr h1)
  have run := va_runV (R := R) (p := p) (l := l) (C := y.cls) (S := ⟨hx, hb, hml, hown, hts⟩) (cells := cells) (slots := slots) (H := H) (locs := locs) (below := below) (meth := meth) (e := e) (g := F0 m pc ls stk0) (rest := stk) hM (cwV k hts hg rfl rfl rfl ⟨rfl, hnm⟩ ⟨by show d' + 2 + 1 ≤ _; omega, by show 8 + (n + 11) + 60 * (d' + 2) ≤ _; omega⟩) ⟨zPc_blind, by rw [hq0]; exact va_recv hK hI.2.1 (ci := 7) rfl he, fun U hU hW => ⟨rfl, by rw [hU]; exact hI.2.1, va_K.moved hW.alike hK, by rw [hU]; exact hO.warm hW hold⟩⟩ rfl hk2 hl.1 hs0 (lv_room hsz) hd ⟨by omega, by omega⟩
  intro Ts hT Xs
  obtain ⟨v', st₀, t, T', L, h0, X', hL, e1, e2, ⟨⟨hv, hp⟩, hz, hkk⟩, step⟩ := run Ts hT Xs
  cases hv
  rw [h0] at hz hkk
  have new : ∀ q, zA sM Gm q → s.heap.size ≤ q := fun q ⟨a, ha, e⟩ => by rw [← e]; exact hLF.2.1 a ha
  have other : va_P Gc.1 zCl (zW sC Gc w.1) T'.heap := by
    refine (hI.1).kept (fun k x hx => ?_)
    simp only [zW, List.getElem?_map, Option.map_eq_some_iff] at hx
    obtain ⟨q, hq, rfl⟩ := hx
    have hq := List.mem_of_getElem? hq
    have hlt : Gc.2.2.1 q < H.size := (kP_mem.mp hI.1 _ (List.mem_map_of_mem hq)).lt
    rw [e1]
    refine hkk _ hlt (fun ⟨a, ha, e⟩ => ?_)
    exact absurd e ((hLF.2.2 q hq a ha).symm)
  have hSS : va_S (fun q : Nat => s.heap.size ≤ q) s.heap T'.heap (locs ++ L) := ⟨Nat.le_trans hS.1 (by rw [e1]; exact hz), fun q h1 h2 => by
      rw [e1, hkk q (Nat.lt_of_lt_of_le h1 hS.1) (fun z => h2 (new q z))]; exact hS.2.1 q h1 h2, fun q hq => by
      rcases List.mem_append.mp hq with h | h
      · exact hS.2.2 q h
      · exact new _ (hL q h)⟩
  obtain ⟨t2, a1, b1⟩ := kk r hr T'.heap (locs ++ L) ls ⟨other, by rw [e1]; exact hp, hSS⟩ hl T' rfl X'
  exact ⟨t2, step t2 a1, b1⟩
end LROWS
def Sim_house (Rel : PS → PS → Prop) : Prop := ∀ sc sm, Rel sc sm → ∀ a1 a2 a3 : Int, rng a1 → rng a2 → rng a3 → ∃ r sc' r' sm', X6_house sc a1 a2 a3 = some (r, sc') ∧ X7_house sm a1 a2 a3 = some (r', sm') ∧ wI r = wI r' ∧ Rel sc' sm'
def Sim_of (Rel : PS → PS → Prop) : Prop := ∀ sc sm, Rel sc sm → ∀ a1 a2 : Int, rng a1 → rng a2 → ∃ r sc' r' sm', X6_of sc a1 a2 = some (r, sc') ∧ X7_of sm a1 a2 = some (r', sm') ∧ wI r = wI r' ∧ Rel sc' sm'
def Sim_earn (Rel : PS → PS → Prop) : Prop := ∀ sc sm, Rel sc sm → ∀ a1 a2 : Int, rng a1 → rng a2 → ∃ r sc' r' sm', X6_earn sc a1 a2 = some (r, sc') ∧ X7_earn sm a1 a2 = some (r', sm') ∧ wI r = wI r' ∧ Rel sc' sm'
def Sim_row (Rel : PS → PS → Prop) : Prop := ∀ sc sm, Rel sc sm → ∀ a1 a2 a3 : Int, rng a1 → rng a2 → rng a3 → ∃ r sc' r' sm', X6_row sc a1 a2 a3 = some (r, sc') ∧ X7_row sm a1 a2 a3 = some (r', sm') ∧ wI r = wI r' ∧ Rel sc' sm'
def Sim_feed (Rel : PS → PS → Prop) : Prop := ∀ sc sm, Rel sc sm → ∀ a1 : Int, rng a1 → ∃ r sc' r' sm', X6_feed sc a1 = some (r, sc') ∧ X7_feed sm a1 = some (r', sm') ∧ wI r = wI r' ∧ Rel sc' sm'
def Sim_street (Rel : PS → PS → Prop) : Prop := ∀ sc sm, Rel sc sm →  ∃ r sc' r' sm', X6_street sc = some (r, sc') ∧ X7_street sm = some (r', sm') ∧ wI r = wI r' ∧ Rel sc' sm'
def Sim_told (Rel : PS → PS → Prop) : Prop := ∀ sc sm, Rel sc sm → ∀ a1 : Int, rng a1 → ∃ r r', X6_told sc a1 = some r ∧ X7_told sm a1 = some r' ∧ wI r = wI r' ∧ Rel sc sm
def Sim_year (Rel : PS → PS → Prop) : Prop := ∀ sc sm, Rel sc sm →  ∃ r sc' r' sm', X6_year sc = some (r, sc') ∧ X7_year sm = some (r', sm') ∧ wI r = wI r' ∧ Rel sc' sm'
def Sim_at (Rel : PS → PS → Prop) : Prop := ∀ sc sm, Rel sc sm → ∀ a1 a2 : Int, rng a1 → rng a2 → ∃ r sc' r' sm', X6_at sc a1 a2 = some (r, sc') ∧ X7_at sm a1 a2 = some (r', sm') ∧ wI r = wI r' ∧ Rel sc' sm'
def Sim_stays (Rel : PS → PS → Prop) : Prop := ∀ sc sm, Rel sc sm →  ∃ r sc' r' sm', X6_stays sc = some (r, sc') ∧ X7_stays sm = some (r', sm') ∧ wI r = wI r' ∧ Rel sc' sm'
def Sim_swings (Rel : PS → PS → Prop) : Prop := ∀ sc sm, Rel sc sm →  ∃ r sc' r' sm', X6_swings sc = some (r, sc') ∧ X7_swings sm = some (r', sm') ∧ wI r = wI r' ∧ Rel sc' sm'
def Sim_gift (Rel : PS → PS → Prop) : Prop := ∀ sc sm, Rel sc sm → ∀ a1 a2 a3 : Int, rng a1 → rng a2 → rng a3 → ∃ r sc' r' sm', X6_gift sc a1 a2 a3 = some (r, sc') ∧ X7_gift sm a1 a2 a3 = some (r', sm') ∧ wI r = wI r' ∧ Rel sc' sm'
def Sim_best (Rel : PS → PS → Prop) : Prop := ∀ sc sm, Rel sc sm → ∀ a1 : Int, rng a1 → ∃ r sc' r' sm', X6_best sc a1 = some (r, sc') ∧ X7_best sm a1 = some (r', sm') ∧ wI r = wI r' ∧ Rel sc' sm'
def Sim_lots (Rel : PS → PS → Prop) : Prop := ∀ sc sm, Rel sc sm →  ∃ r sc' r' sm', X6_lots sc = some (r, sc') ∧ X7_lots sm = some (r', sm') ∧ wI r = wI r' ∧ Rel sc' sm'
def Sim_build (Rel : PS → PS → Prop) : Prop := ∀ sc sm, Rel sc sm → ∀ a1 a2 a3 a4 : Int, rng a1 → rng a2 → rng a3 → rng a4 → ∃ r sc' r' sm', X6_build sc a1 a2 a3 a4 = some (r, sc') ∧ X7_build sm a1 a2 a3 a4 = some (r', sm') ∧ wI r = wI r' ∧ Rel sc' sm'
def Sim_down (Rel : PS → PS → Prop) : Prop := ∀ sc sm, Rel sc sm → ∀ a1 : Int, rng a1 → ∃ r sc' r' sm', X6_down sc a1 = some (r, sc') ∧ X7_down sm a1 = some (r', sm') ∧ wI r = wI r' ∧ Rel sc' sm'
def Sim_before (Rel : PS → PS → Prop) : Prop := ∀ sc sm, Rel sc sm → ∀ a1 : Int, rng a1 → ∃ r sc' r' sm', X6_before sc a1 = some (r, sc') ∧ X7_before sm a1 = some (r', sm') ∧ wI r = wI r' ∧ Rel sc' sm'
def Sim_see (Rel : PS → PS → Prop) : Prop := ∀ sc sm, Rel sc sm → ∀ a1 a2 : Int, rng a1 → rng a2 → ∃ r sc' r' sm', X6_see sc a1 a2 = some (r, sc') ∧ X7_see sm a1 a2 = some (r', sm') ∧ wI r = wI r' ∧ Rel sc' sm'
def Sim_lied (Rel : PS → PS → Prop) : Prop := ∀ sc sm, Rel sc sm → ∀ a1 : Int, rng a1 → ∃ r sc' r' sm', X6_lied sc a1 = some (r, sc') ∧ X7_lied sm a1 = some (r', sm') ∧ wI r = wI r' ∧ Rel sc' sm'
def Sim_wed (Rel : PS → PS → Prop) : Prop := ∀ sc sm, Rel sc sm → ∀ a1 a2 : Int, rng a1 → rng a2 → ∃ r sc' r' sm', X6_wed sc a1 a2 = some (r, sc') ∧ X7_wed sm a1 a2 = some (r', sm') ∧ wI r = wI r' ∧ Rel sc' sm'
def Sim_odds (Rel : PS → PS → Prop) : Prop := ∀ sc sm, Rel sc sm → ∀ a1 a2 a3 : Int, rng a1 → rng a2 → rng a3 → ∃ r sc' r' sm', X6_odds sc a1 a2 a3 = some (r, sc') ∧ X7_odds sm a1 a2 a3 = some (r', sm') ∧ wL r = wL r' ∧ Rel sc' sm'
def Sim_mean (Rel : PS → PS → Prop) : Prop := ∀ sc sm, Rel sc sm → ∀ a1 a2 : Int, rng a1 → rng a2 → ∃ r sc' r' sm', X6_mean sc a1 a2 = some (r, sc') ∧ X7_mean sm a1 a2 = some (r', sm') ∧ wL r = wL r' ∧ Rel sc' sm'
def Sim_book (Rel : PS → PS → Prop) : Prop := ∀ sc sm, Rel sc sm → ∀ a1 : Int, rng a1 → ∃ r sc' r' sm', X6_book sc a1 = some (r, sc') ∧ X7_book sm a1 = some (r', sm') ∧ wI r = wI r' ∧ Rel sc' sm'
def Sim_looked (Rel : PS → PS → Prop) : Prop := ∀ sc sm, Rel sc sm →  ∃ r sc' r' sm', X6_looked sc = some (r, sc') ∧ X7_looked sm = some (r', sm') ∧ wI r = wI r' ∧ Rel sc' sm'
def Sim_judge (Rel : PS → PS → Prop) : Prop := ∀ sc sm, Rel sc sm → ∀ a1 a2 : Int, rng a1 → rng a2 → ∃ r r', X6_judge sc a1 a2 = some r ∧ X7_judge sm a1 a2 = some r' ∧ wI r = wI r' ∧ Rel sc sm
def Sim_image (Rel : PS → PS → Prop) : Prop := ∀ sc sm, Rel sc sm →  ∃ r sc' r' sm', X6_image sc = some (r, sc') ∧ X7_image sm = some (r', sm') ∧ wI r = wI r' ∧ Rel sc' sm'
def Sim_undo (Rel : PS → PS → Prop) : Prop := ∀ sc sm, Rel sc sm →  ∃ r sc' r' sm', X6_undo sc = some (r, sc') ∧ X7_undo sm = some (r', sm') ∧ wI r = wI r' ∧ Rel sc' sm'
def Sim_act (Rel : PS → PS → Prop) : Prop := ∀ sc sm, Rel sc sm → ∀ a1 a2 a3 : Int, rng a1 → rng a2 → rng a3 → ∃ r sc' r' sm', X6_act sc a1 a2 a3 = some (r, sc') ∧ X7_act sm a1 a2 a3 = some (r', sm') ∧ wI r = wI r' ∧ Rel sc' sm'
def Sim_trace (Rel : PS → PS → Prop) : Prop := ∀ sc sm, Rel sc sm → ∀ a1 : Int, rng a1 → ∃ r r', X6_trace sc a1 = some r ∧ X7_trace sm a1 = some r' ∧ wI r = wI r' ∧ Rel sc sm
def Sim_taken (Rel : PS → PS → Prop) : Prop := ∀ sc sm, Rel sc sm → ∀ a1 a2 : Int, rng a1 → rng a2 → ∃ r r', X6_taken sc a1 a2 = some r ∧ X7_taken sm a1 a2 = some r' ∧ wI r = wI r' ∧ Rel sc sm
def Sim_count (Rel : PS → PS → Prop) : Prop := ∀ sc sm, Rel sc sm → ∀ a1 : Int, rng a1 → wI (X6_count sc a1) = wI (X7_count sm a1)
def Sim_tape (Rel : PS → PS → Prop) : Prop := ∀ sc sm, Rel sc sm → ∀ a1 a2 a3 : Int, rng a1 → rng a2 → rng a3 → ∃ r sc' r' sm', X6_tape sc a1 a2 a3 = some (r, sc') ∧ X7_tape sm a1 a2 a3 = some (r', sm') ∧ wI r = wI r' ∧ Rel sc' sm'
def Sim_item (Rel : PS → PS → Prop) : Prop := ∀ sc sm, Rel sc sm → ∀ a1 a2 a3 : Int, rng a1 → rng a2 → rngL a3 → ∃ r sc' r' sm', X6_item sc a1 a2 a3 = some (r, sc') ∧ X7_item sm a1 a2 a3 = some (r', sm') ∧ wI r = wI r' ∧ Rel sc' sm'
def Sim_read (Rel : PS → PS → Prop) : Prop := ∀ sc sm, Rel sc sm → ∀ a1 a2 : Int, rng a1 → rng a2 → ∃ r r', X6_read sc a1 a2 = some r ∧ X7_read sm a1 a2 = some r' ∧ wL r = wL r' ∧ Rel sc sm
def Sim_shift (Rel : PS → PS → Prop) : Prop := ∀ sc sm, Rel sc sm → ∀ a1 a2 a3 a4 a5 : Int, rng a1 → rng a2 → rng a3 → rng a4 → rng a5 → ∃ r sc' r' sm', X6_shift sc a1 a2 a3 a4 a5 = some (r, sc') ∧ X7_shift sm a1 a2 a3 a4 a5 = some (r', sm') ∧ wI r = wI r' ∧ Rel sc' sm'
def Sim (Rel : PS → PS → Prop) : Prop := Sim_house Rel ∧ Sim_of Rel ∧ Sim_earn Rel ∧ Sim_row Rel ∧ Sim_feed Rel ∧ Sim_street Rel ∧ Sim_told Rel ∧ Sim_year Rel ∧ Sim_at Rel ∧ Sim_stays Rel ∧ Sim_swings Rel ∧ Sim_gift Rel ∧ Sim_best Rel ∧ Sim_lots Rel ∧ Sim_build Rel ∧ Sim_down Rel ∧ Sim_before Rel ∧ Sim_see Rel ∧ Sim_lied Rel ∧ Sim_wed Rel ∧ Sim_odds Rel ∧ Sim_mean Rel ∧ Sim_book Rel ∧ Sim_looked Rel ∧ Sim_judge Rel ∧ Sim_image Rel ∧ Sim_undo Rel ∧ Sim_act Rel ∧ Sim_trace Rel ∧ Sim_taken Rel ∧ Sim_count Rel ∧ Sim_tape Rel ∧ Sim_item Rel ∧ Sim_read Rel ∧ Sim_shift Rel
set_option maxHeartbeats 4000000 in
set_option maxRecDepth 100000 in
theorem lcase_house {Rel : PS → PS → Prop} (hs : Sim_house Rel) {X : JX} {Gc Gm : GD} {b Ln : Nat} {xs : Nat → Int32} (C : lC X Gc Gm b Ln xs) (hjc : zInj sC Gc) (hjm : zInj sM Gm) {l3 : Int} (hi : ∀ k : Nat, k < 6 → 0 ≤ wI (l3 + (k : Int)) ∧ wI (l3 + (k : Int)) < Ln) {sc sm : PS} (hR : Rel sc sm) (nx : ∀ sc' sm', Rel sc' sm' → J X (WL Gc Gm) (QL b) (sc', sm') [(0, .ref b), (1, .ref (Gc.2.2.1 0)), (2, .ref (Gm.2.2.1 0)), (3, .int (oI l3))] 1246 [] (some ())) : J X (WL Gc Gm) (QL b) (sc, sm) [(0, .ref b), (1, .ref (Gc.2.2.1 0)), (2, .ref (Gm.2.2.1 0)), (3, .int (oI l3))] 188 [] (some ()) := by
  obtain ⟨r, sc', r', sm', e1, e2, hw, hR'⟩ := hs sc sm hR ((xs (wI (l3 + 1)).toNat).toInt) ((xs (wI (l3 + 2)).toNat).toInt) ((xs (wI (l3 + 3)).toNat).toInt) (rng_of _) (rng_of _) (rng_of _)
  refine j_aload_n (pc := 188) C.c dL_law_188 rfl 1 rfl ?_
  refine j_aload_n (pc := 189) C.c dL_law_189 rfl 0 rfl ?_
  refine j_iload_n (pc := 190) C.c dL_law_190 rfl 3 rfl ?_
  refine j_iconst (pc := 191) C.c dL_law_191 ?_
  refine j_iadd (pc := 192) C.c dL_law_192 ?_
  refine j_sld (pc := 193) C (hi 1 (by omega)) dL_law_193 ?_
  refine j_aload_n (pc := 194) C.c dL_law_194 rfl 0 rfl ?_
  refine j_iload_n (pc := 195) C.c dL_law_195 rfl 3 rfl ?_
  refine j_iconst (pc := 196) C.c dL_law_196 ?_
  refine j_iadd (pc := 197) C.c dL_law_197 ?_
  refine j_sld (pc := 198) C (hi 2 (by omega)) dL_law_198 ?_
  refine j_aload_n (pc := 199) C.c dL_law_199 rfl 0 rfl ?_
  refine j_iload_n (pc := 200) C.c dL_law_200 rfl 3 rfl ?_
  refine j_iconst (pc := 201) C.c dL_law_201 ?_
  refine j_iadd (pc := 202) C.c dL_law_202 ?_
  refine j_sld (pc := 203) C (hi 3 (by omega)) dL_law_203 ?_
  refine jl_callC (pc := 204) C rfl (X6_house_m _ hjc e1) kV_L_13 rfl (by omega) rfl (Nat.le_of_ble_eq_true rfl) dL_law_204 ?_
  refine j_aload_n (pc := 207) C.c dL_law_207 rfl 2 rfl ?_
  refine j_aload_n (pc := 208) C.c dL_law_208 rfl 0 rfl ?_
  refine j_iload_n (pc := 209) C.c dL_law_209 rfl 3 rfl ?_
  refine j_iconst (pc := 210) C.c dL_law_210 ?_
  refine j_iadd (pc := 211) C.c dL_law_211 ?_
  refine j_sld (pc := 212) C (hi 1 (by omega)) dL_law_212 ?_
  refine j_aload_n (pc := 213) C.c dL_law_213 rfl 0 rfl ?_
  refine j_iload_n (pc := 214) C.c dL_law_214 rfl 3 rfl ?_
  refine j_iconst (pc := 215) C.c dL_law_215 ?_
  refine j_iadd (pc := 216) C.c dL_law_216 ?_
  refine j_sld (pc := 217) C (hi 2 (by omega)) dL_law_217 ?_
  refine j_aload_n (pc := 218) C.c dL_law_218 rfl 0 rfl ?_
  refine j_iload_n (pc := 219) C.c dL_law_219 rfl 3 rfl ?_
  refine j_iconst (pc := 220) C.c dL_law_220 ?_
  refine j_iadd (pc := 221) C.c dL_law_221 ?_
  refine j_sld (pc := 222) C (hi 3 (by omega)) dL_law_222 ?_
  refine jl_callM (pc := 223) C rfl (X7_house_m _ hjm e2) kV_L_17 rfl (by omega) rfl (Nat.le_of_ble_eq_true rfl) dL_law_223 ?_
  refine j_icmp_eqH (pc := 226) (tgt := 1246) C.c dL_law_226 rfl (fun _ => ?_) (fun h => absurd hw h)
  exact nx sc' sm' hR'
set_option maxHeartbeats 4000000 in
set_option maxRecDepth 100000 in
theorem lcase_of {Rel : PS → PS → Prop} (hs : Sim_of Rel) {X : JX} {Gc Gm : GD} {b Ln : Nat} {xs : Nat → Int32} (C : lC X Gc Gm b Ln xs) (hjc : zInj sC Gc) (hjm : zInj sM Gm) {l3 : Int} (hi : ∀ k : Nat, k < 6 → 0 ≤ wI (l3 + (k : Int)) ∧ wI (l3 + (k : Int)) < Ln) {sc sm : PS} (hR : Rel sc sm) (nx : ∀ sc' sm', Rel sc' sm' → J X (WL Gc Gm) (QL b) (sc', sm') [(0, .ref b), (1, .ref (Gc.2.2.1 0)), (2, .ref (Gm.2.2.1 0)), (3, .int (oI l3))] 1246 [] (some ())) : J X (WL Gc Gm) (QL b) (sc, sm) [(0, .ref b), (1, .ref (Gc.2.2.1 0)), (2, .ref (Gm.2.2.1 0)), (3, .int (oI l3))] 231 [] (some ()) := by
  obtain ⟨r, sc', r', sm', e1, e2, hw, hR'⟩ := hs sc sm hR ((xs (wI (l3 + 1)).toNat).toInt) ((xs (wI (l3 + 2)).toNat).toInt) (rng_of _) (rng_of _)
  refine j_aload_n (pc := 231) C.c dL_law_231 rfl 1 rfl ?_
  refine j_aload_n (pc := 232) C.c dL_law_232 rfl 0 rfl ?_
  refine j_iload_n (pc := 233) C.c dL_law_233 rfl 3 rfl ?_
  refine j_iconst (pc := 234) C.c dL_law_234 ?_
  refine j_iadd (pc := 235) C.c dL_law_235 ?_
  refine j_sld (pc := 236) C (hi 1 (by omega)) dL_law_236 ?_
  refine j_aload_n (pc := 237) C.c dL_law_237 rfl 0 rfl ?_
  refine j_iload_n (pc := 238) C.c dL_law_238 rfl 3 rfl ?_
  refine j_iconst (pc := 239) C.c dL_law_239 ?_
  refine j_iadd (pc := 240) C.c dL_law_240 ?_
  refine j_sld (pc := 241) C (hi 2 (by omega)) dL_law_241 ?_
  refine jl_callC (pc := 242) C rfl (X6_of_m _ hjc e1) kV_L_18 rfl (by omega) rfl (Nat.le_of_ble_eq_true rfl) dL_law_242 ?_
  refine j_aload_n (pc := 245) C.c dL_law_245 rfl 2 rfl ?_
  refine j_aload_n (pc := 246) C.c dL_law_246 rfl 0 rfl ?_
  refine j_iload_n (pc := 247) C.c dL_law_247 rfl 3 rfl ?_
  refine j_iconst (pc := 248) C.c dL_law_248 ?_
  refine j_iadd (pc := 249) C.c dL_law_249 ?_
  refine j_sld (pc := 250) C (hi 1 (by omega)) dL_law_250 ?_
  refine j_aload_n (pc := 251) C.c dL_law_251 rfl 0 rfl ?_
  refine j_iload_n (pc := 252) C.c dL_law_252 rfl 3 rfl ?_
  refine j_iconst (pc := 253) C.c dL_law_253 ?_
  refine j_iadd (pc := 254) C.c dL_law_254 ?_
  refine j_sld (pc := 255) C (hi 2 (by omega)) dL_law_255 ?_
  refine jl_callM (pc := 256) C rfl (X7_of_m _ hjm e2) kV_L_22 rfl (by omega) rfl (Nat.le_of_ble_eq_true rfl) dL_law_256 ?_
  refine j_icmp_eqH (pc := 259) (tgt := 1246) C.c dL_law_259 rfl (fun _ => ?_) (fun h => absurd hw h)
  exact nx sc' sm' hR'
set_option maxHeartbeats 4000000 in
set_option maxRecDepth 100000 in
theorem lcase_earn {Rel : PS → PS → Prop} (hs : Sim_earn Rel) {X : JX} {Gc Gm : GD} {b Ln : Nat} {xs : Nat → Int32} (C : lC X Gc Gm b Ln xs) (hjc : zInj sC Gc) (hjm : zInj sM Gm) {l3 : Int} (hi : ∀ k : Nat, k < 6 → 0 ≤ wI (l3 + (k : Int)) ∧ wI (l3 + (k : Int)) < Ln) {sc sm : PS} (hR : Rel sc sm) (nx : ∀ sc' sm', Rel sc' sm' → J X (WL Gc Gm) (QL b) (sc', sm') [(0, .ref b), (1, .ref (Gc.2.2.1 0)), (2, .ref (Gm.2.2.1 0)), (3, .int (oI l3))] 1246 [] (some ())) : J X (WL Gc Gm) (QL b) (sc, sm) [(0, .ref b), (1, .ref (Gc.2.2.1 0)), (2, .ref (Gm.2.2.1 0)), (3, .int (oI l3))] 264 [] (some ()) := by
  obtain ⟨r, sc', r', sm', e1, e2, hw, hR'⟩ := hs sc sm hR ((xs (wI (l3 + 1)).toNat).toInt) ((xs (wI (l3 + 2)).toNat).toInt) (rng_of _) (rng_of _)
  refine j_aload_n (pc := 264) C.c dL_law_264 rfl 1 rfl ?_
  refine j_aload_n (pc := 265) C.c dL_law_265 rfl 0 rfl ?_
  refine j_iload_n (pc := 266) C.c dL_law_266 rfl 3 rfl ?_
  refine j_iconst (pc := 267) C.c dL_law_267 ?_
  refine j_iadd (pc := 268) C.c dL_law_268 ?_
  refine j_sld (pc := 269) C (hi 1 (by omega)) dL_law_269 ?_
  refine j_aload_n (pc := 270) C.c dL_law_270 rfl 0 rfl ?_
  refine j_iload_n (pc := 271) C.c dL_law_271 rfl 3 rfl ?_
  refine j_iconst (pc := 272) C.c dL_law_272 ?_
  refine j_iadd (pc := 273) C.c dL_law_273 ?_
  refine j_sld (pc := 274) C (hi 2 (by omega)) dL_law_274 ?_
  refine jl_callC (pc := 275) C rfl (X6_earn_m _ hjc e1) kV_L_23 rfl (by omega) rfl (Nat.le_of_ble_eq_true rfl) dL_law_275 ?_
  refine j_aload_n (pc := 278) C.c dL_law_278 rfl 2 rfl ?_
  refine j_aload_n (pc := 279) C.c dL_law_279 rfl 0 rfl ?_
  refine j_iload_n (pc := 280) C.c dL_law_280 rfl 3 rfl ?_
  refine j_iconst (pc := 281) C.c dL_law_281 ?_
  refine j_iadd (pc := 282) C.c dL_law_282 ?_
  refine j_sld (pc := 283) C (hi 1 (by omega)) dL_law_283 ?_
  refine j_aload_n (pc := 284) C.c dL_law_284 rfl 0 rfl ?_
  refine j_iload_n (pc := 285) C.c dL_law_285 rfl 3 rfl ?_
  refine j_iconst (pc := 286) C.c dL_law_286 ?_
  refine j_iadd (pc := 287) C.c dL_law_287 ?_
  refine j_sld (pc := 288) C (hi 2 (by omega)) dL_law_288 ?_
  refine jl_callM (pc := 289) C rfl (X7_earn_m _ hjm e2) kV_L_26 rfl (by omega) rfl (Nat.le_of_ble_eq_true rfl) dL_law_289 ?_
  refine j_icmp_eqH (pc := 292) (tgt := 1246) C.c dL_law_292 rfl (fun _ => ?_) (fun h => absurd hw h)
  exact nx sc' sm' hR'
set_option maxHeartbeats 4000000 in
set_option maxRecDepth 100000 in
theorem lcase_row {Rel : PS → PS → Prop} (hs : Sim_row Rel) {X : JX} {Gc Gm : GD} {b Ln : Nat} {xs : Nat → Int32} (C : lC X Gc Gm b Ln xs) (hjc : zInj sC Gc) (hjm : zInj sM Gm) {l3 : Int} (hi : ∀ k : Nat, k < 6 → 0 ≤ wI (l3 + (k : Int)) ∧ wI (l3 + (k : Int)) < Ln) {sc sm : PS} (hR : Rel sc sm) (nx : ∀ sc' sm', Rel sc' sm' → J X (WL Gc Gm) (QL b) (sc', sm') [(0, .ref b), (1, .ref (Gc.2.2.1 0)), (2, .ref (Gm.2.2.1 0)), (3, .int (oI l3))] 1246 [] (some ())) : J X (WL Gc Gm) (QL b) (sc, sm) [(0, .ref b), (1, .ref (Gc.2.2.1 0)), (2, .ref (Gm.2.2.1 0)), (3, .int (oI l3))] 297 [] (some ()) := by
  obtain ⟨r, sc', r', sm', e1, e2, hw, hR'⟩ := hs sc sm hR ((xs (wI (l3 + 1)).toNat).toInt) ((xs (wI (l3 + 2)).toNat).toInt) ((xs (wI (l3 + 3)).toNat).toInt) (rng_of _) (rng_of _) (rng_of _)
  refine j_aload_n (pc := 297) C.c dL_law_297 rfl 1 rfl ?_
  refine j_aload_n (pc := 298) C.c dL_law_298 rfl 0 rfl ?_
  refine j_iload_n (pc := 299) C.c dL_law_299 rfl 3 rfl ?_
  refine j_iconst (pc := 300) C.c dL_law_300 ?_
  refine j_iadd (pc := 301) C.c dL_law_301 ?_
  refine j_sld (pc := 302) C (hi 1 (by omega)) dL_law_302 ?_
  refine j_aload_n (pc := 303) C.c dL_law_303 rfl 0 rfl ?_
  refine j_iload_n (pc := 304) C.c dL_law_304 rfl 3 rfl ?_
  refine j_iconst (pc := 305) C.c dL_law_305 ?_
  refine j_iadd (pc := 306) C.c dL_law_306 ?_
  refine j_sld (pc := 307) C (hi 2 (by omega)) dL_law_307 ?_
  refine j_aload_n (pc := 308) C.c dL_law_308 rfl 0 rfl ?_
  refine j_iload_n (pc := 309) C.c dL_law_309 rfl 3 rfl ?_
  refine j_iconst (pc := 310) C.c dL_law_310 ?_
  refine j_iadd (pc := 311) C.c dL_law_311 ?_
  refine j_sld (pc := 312) C (hi 3 (by omega)) dL_law_312 ?_
  refine jl_callC (pc := 313) C rfl (X6_row_m _ hjc e1) kV_L_27 rfl (by omega) rfl (Nat.le_of_ble_eq_true rfl) dL_law_313 ?_
  refine j_aload_n (pc := 316) C.c dL_law_316 rfl 2 rfl ?_
  refine j_aload_n (pc := 317) C.c dL_law_317 rfl 0 rfl ?_
  refine j_iload_n (pc := 318) C.c dL_law_318 rfl 3 rfl ?_
  refine j_iconst (pc := 319) C.c dL_law_319 ?_
  refine j_iadd (pc := 320) C.c dL_law_320 ?_
  refine j_sld (pc := 321) C (hi 1 (by omega)) dL_law_321 ?_
  refine j_aload_n (pc := 322) C.c dL_law_322 rfl 0 rfl ?_
  refine j_iload_n (pc := 323) C.c dL_law_323 rfl 3 rfl ?_
  refine j_iconst (pc := 324) C.c dL_law_324 ?_
  refine j_iadd (pc := 325) C.c dL_law_325 ?_
  refine j_sld (pc := 326) C (hi 2 (by omega)) dL_law_326 ?_
  refine j_aload_n (pc := 327) C.c dL_law_327 rfl 0 rfl ?_
  refine j_iload_n (pc := 328) C.c dL_law_328 rfl 3 rfl ?_
  refine j_iconst (pc := 329) C.c dL_law_329 ?_
  refine j_iadd (pc := 330) C.c dL_law_330 ?_
  refine j_sld (pc := 331) C (hi 3 (by omega)) dL_law_331 ?_
  refine jl_callM (pc := 332) C rfl (X7_row_m _ hjm e2) kV_L_30 rfl (by omega) rfl (Nat.le_of_ble_eq_true rfl) dL_law_332 ?_
  refine j_icmp_eqH (pc := 335) (tgt := 1246) C.c dL_law_335 rfl (fun _ => ?_) (fun h => absurd hw h)
  exact nx sc' sm' hR'
set_option maxHeartbeats 4000000 in
set_option maxRecDepth 100000 in
theorem lcase_feed {Rel : PS → PS → Prop} (hs : Sim_feed Rel) {X : JX} {Gc Gm : GD} {b Ln : Nat} {xs : Nat → Int32} (C : lC X Gc Gm b Ln xs) (hjc : zInj sC Gc) (hjm : zInj sM Gm) {l3 : Int} (hi : ∀ k : Nat, k < 6 → 0 ≤ wI (l3 + (k : Int)) ∧ wI (l3 + (k : Int)) < Ln) {sc sm : PS} (hR : Rel sc sm) (nx : ∀ sc' sm', Rel sc' sm' → J X (WL Gc Gm) (QL b) (sc', sm') [(0, .ref b), (1, .ref (Gc.2.2.1 0)), (2, .ref (Gm.2.2.1 0)), (3, .int (oI l3))] 1246 [] (some ())) : J X (WL Gc Gm) (QL b) (sc, sm) [(0, .ref b), (1, .ref (Gc.2.2.1 0)), (2, .ref (Gm.2.2.1 0)), (3, .int (oI l3))] 340 [] (some ()) := by
  obtain ⟨r, sc', r', sm', e1, e2, hw, hR'⟩ := hs sc sm hR ((xs (wI (l3 + 1)).toNat).toInt) (rng_of _)
  refine j_aload_n (pc := 340) C.c dL_law_340 rfl 1 rfl ?_
  refine j_aload_n (pc := 341) C.c dL_law_341 rfl 0 rfl ?_
  refine j_iload_n (pc := 342) C.c dL_law_342 rfl 3 rfl ?_
  refine j_iconst (pc := 343) C.c dL_law_343 ?_
  refine j_iadd (pc := 344) C.c dL_law_344 ?_
  refine j_sld (pc := 345) C (hi 1 (by omega)) dL_law_345 ?_
  refine jl_callC (pc := 346) C rfl (X6_feed_m _ hjc e1) kV_L_31 rfl (by omega) rfl (Nat.le_of_ble_eq_true rfl) dL_law_346 ?_
  refine j_aload_n (pc := 349) C.c dL_law_349 rfl 2 rfl ?_
  refine j_aload_n (pc := 350) C.c dL_law_350 rfl 0 rfl ?_
  refine j_iload_n (pc := 351) C.c dL_law_351 rfl 3 rfl ?_
  refine j_iconst (pc := 352) C.c dL_law_352 ?_
  refine j_iadd (pc := 353) C.c dL_law_353 ?_
  refine j_sld (pc := 354) C (hi 1 (by omega)) dL_law_354 ?_
  refine jl_callM (pc := 355) C rfl (X7_feed_m _ hjm e2) kV_L_35 rfl (by omega) rfl (Nat.le_of_ble_eq_true rfl) dL_law_355 ?_
  refine j_icmp_eqH (pc := 358) (tgt := 1246) C.c dL_law_358 rfl (fun _ => ?_) (fun h => absurd hw h)
  exact nx sc' sm' hR'
set_option maxHeartbeats 4000000 in
set_option maxRecDepth 100000 in
theorem lcase_street {Rel : PS → PS → Prop} (hs : Sim_street Rel) {X : JX} {Gc Gm : GD} {b Ln : Nat} {xs : Nat → Int32} (C : lC X Gc Gm b Ln xs) (hjc : zInj sC Gc) (hjm : zInj sM Gm) {l3 : Int} (hi : ∀ k : Nat, k < 6 → 0 ≤ wI (l3 + (k : Int)) ∧ wI (l3 + (k : Int)) < Ln) {sc sm : PS} (hR : Rel sc sm) (nx : ∀ sc' sm', Rel sc' sm' → J X (WL Gc Gm) (QL b) (sc', sm') [(0, .ref b), (1, .ref (Gc.2.2.1 0)), (2, .ref (Gm.2.2.1 0)), (3, .int (oI l3))] 1246 [] (some ())) : J X (WL Gc Gm) (QL b) (sc, sm) [(0, .ref b), (1, .ref (Gc.2.2.1 0)), (2, .ref (Gm.2.2.1 0)), (3, .int (oI l3))] 363 [] (some ()) := by
  obtain ⟨r, sc', r', sm', e1, e2, hw, hR'⟩ := hs sc sm hR  
  refine j_aload_n (pc := 363) C.c dL_law_363 rfl 1 rfl ?_
  refine jl_callC (pc := 364) C rfl (X6_street_m _ hjc e1) kV_L_36 rfl (by omega) rfl (Nat.le_of_ble_eq_true rfl) dL_law_364 ?_
  refine j_aload_n (pc := 367) C.c dL_law_367 rfl 2 rfl ?_
  refine jl_callM (pc := 368) C rfl (X7_street_m _ hjm e2) kV_L_40 rfl (by omega) rfl (Nat.le_of_ble_eq_true rfl) dL_law_368 ?_
  refine j_icmp_eqH (pc := 371) (tgt := 1246) C.c dL_law_371 rfl (fun _ => ?_) (fun h => absurd hw h)
  exact nx sc' sm' hR'
set_option maxHeartbeats 4000000 in
set_option maxRecDepth 100000 in
theorem lcase_told {Rel : PS → PS → Prop} (hs : Sim_told Rel) {X : JX} {Gc Gm : GD} {b Ln : Nat} {xs : Nat → Int32} (C : lC X Gc Gm b Ln xs) (hjc : zInj sC Gc) (hjm : zInj sM Gm) {l3 : Int} (hi : ∀ k : Nat, k < 6 → 0 ≤ wI (l3 + (k : Int)) ∧ wI (l3 + (k : Int)) < Ln) {sc sm : PS} (hR : Rel sc sm) (nx : ∀ sc' sm', Rel sc' sm' → J X (WL Gc Gm) (QL b) (sc', sm') [(0, .ref b), (1, .ref (Gc.2.2.1 0)), (2, .ref (Gm.2.2.1 0)), (3, .int (oI l3))] 1246 [] (some ())) : J X (WL Gc Gm) (QL b) (sc, sm) [(0, .ref b), (1, .ref (Gc.2.2.1 0)), (2, .ref (Gm.2.2.1 0)), (3, .int (oI l3))] 376 [] (some ()) := by
  obtain ⟨r, r', e1, e2, hw, hR'⟩ := hs sc sm hR ((xs (wI (l3 + 1)).toNat).toInt) (rng_of _)
  refine j_aload_n (pc := 376) C.c dL_law_376 rfl 1 rfl ?_
  refine j_aload_n (pc := 377) C.c dL_law_377 rfl 0 rfl ?_
  refine j_iload_n (pc := 378) C.c dL_law_378 rfl 3 rfl ?_
  refine j_iconst (pc := 379) C.c dL_law_379 ?_
  refine j_iadd (pc := 380) C.c dL_law_380 ?_
  refine j_sld (pc := 381) C (hi 1 (by omega)) dL_law_381 ?_
  refine jl_callC (pc := 382) C rfl (X6_told_m _ hjc e1) kV_L_41 rfl (by omega) rfl (Nat.le_of_ble_eq_true rfl) dL_law_382 ?_
  refine j_aload_n (pc := 385) C.c dL_law_385 rfl 2 rfl ?_
  refine j_aload_n (pc := 386) C.c dL_law_386 rfl 0 rfl ?_
  refine j_iload_n (pc := 387) C.c dL_law_387 rfl 3 rfl ?_
  refine j_iconst (pc := 388) C.c dL_law_388 ?_
  refine j_iadd (pc := 389) C.c dL_law_389 ?_
  refine j_sld (pc := 390) C (hi 1 (by omega)) dL_law_390 ?_
  refine jl_callM (pc := 391) C rfl (X7_told_m _ hjm e2) kV_L_44 rfl (by omega) rfl (Nat.le_of_ble_eq_true rfl) dL_law_391 ?_
  refine j_icmp_eqH (pc := 394) (tgt := 1246) C.c dL_law_394 rfl (fun _ => ?_) (fun h => absurd hw h)
  exact nx _ _ hR'
set_option maxHeartbeats 4000000 in
set_option maxRecDepth 100000 in
theorem lcase_year {Rel : PS → PS → Prop} (hs : Sim_year Rel) {X : JX} {Gc Gm : GD} {b Ln : Nat} {xs : Nat → Int32} (C : lC X Gc Gm b Ln xs) (hjc : zInj sC Gc) (hjm : zInj sM Gm) {l3 : Int} (hi : ∀ k : Nat, k < 6 → 0 ≤ wI (l3 + (k : Int)) ∧ wI (l3 + (k : Int)) < Ln) {sc sm : PS} (hR : Rel sc sm) (nx : ∀ sc' sm', Rel sc' sm' → J X (WL Gc Gm) (QL b) (sc', sm') [(0, .ref b), (1, .ref (Gc.2.2.1 0)), (2, .ref (Gm.2.2.1 0)), (3, .int (oI l3))] 1246 [] (some ())) : J X (WL Gc Gm) (QL b) (sc, sm) [(0, .ref b), (1, .ref (Gc.2.2.1 0)), (2, .ref (Gm.2.2.1 0)), (3, .int (oI l3))] 399 [] (some ()) := by
  obtain ⟨r, sc', r', sm', e1, e2, hw, hR'⟩ := hs sc sm hR  
  refine j_aload_n (pc := 399) C.c dL_law_399 rfl 1 rfl ?_
  refine jl_callC (pc := 400) C rfl (X6_year_m _ hjc e1) kV_L_45 rfl (by omega) rfl (Nat.le_of_ble_eq_true rfl) dL_law_400 ?_
  refine j_aload_n (pc := 403) C.c dL_law_403 rfl 2 rfl ?_
  refine jl_callM (pc := 404) C rfl (X7_year_m _ hjm e2) kV_L_48 rfl (by omega) rfl (Nat.le_of_ble_eq_true rfl) dL_law_404 ?_
  refine j_icmp_eqH (pc := 407) (tgt := 1246) C.c dL_law_407 rfl (fun _ => ?_) (fun h => absurd hw h)
  exact nx sc' sm' hR'
set_option maxHeartbeats 4000000 in
set_option maxRecDepth 100000 in
theorem lcase_at {Rel : PS → PS → Prop} (hs : Sim_at Rel) {X : JX} {Gc Gm : GD} {b Ln : Nat} {xs : Nat → Int32} (C : lC X Gc Gm b Ln xs) (hjc : zInj sC Gc) (hjm : zInj sM Gm) {l3 : Int} (hi : ∀ k : Nat, k < 6 → 0 ≤ wI (l3 + (k : Int)) ∧ wI (l3 + (k : Int)) < Ln) {sc sm : PS} (hR : Rel sc sm) (nx : ∀ sc' sm', Rel sc' sm' → J X (WL Gc Gm) (QL b) (sc', sm') [(0, .ref b), (1, .ref (Gc.2.2.1 0)), (2, .ref (Gm.2.2.1 0)), (3, .int (oI l3))] 1246 [] (some ())) : J X (WL Gc Gm) (QL b) (sc, sm) [(0, .ref b), (1, .ref (Gc.2.2.1 0)), (2, .ref (Gm.2.2.1 0)), (3, .int (oI l3))] 412 [] (some ()) := by
  obtain ⟨r, sc', r', sm', e1, e2, hw, hR'⟩ := hs sc sm hR ((xs (wI (l3 + 1)).toNat).toInt) ((xs (wI (l3 + 2)).toNat).toInt) (rng_of _) (rng_of _)
  refine j_aload_n (pc := 412) C.c dL_law_412 rfl 1 rfl ?_
  refine j_aload_n (pc := 413) C.c dL_law_413 rfl 0 rfl ?_
  refine j_iload_n (pc := 414) C.c dL_law_414 rfl 3 rfl ?_
  refine j_iconst (pc := 415) C.c dL_law_415 ?_
  refine j_iadd (pc := 416) C.c dL_law_416 ?_
  refine j_sld (pc := 417) C (hi 1 (by omega)) dL_law_417 ?_
  refine j_aload_n (pc := 418) C.c dL_law_418 rfl 0 rfl ?_
  refine j_iload_n (pc := 419) C.c dL_law_419 rfl 3 rfl ?_
  refine j_iconst (pc := 420) C.c dL_law_420 ?_
  refine j_iadd (pc := 421) C.c dL_law_421 ?_
  refine j_sld (pc := 422) C (hi 2 (by omega)) dL_law_422 ?_
  refine jl_callC (pc := 423) C rfl (X6_at_m _ hjc e1) kV_L_49 rfl (by omega) rfl (Nat.le_of_ble_eq_true rfl) dL_law_423 ?_
  refine j_aload_n (pc := 426) C.c dL_law_426 rfl 2 rfl ?_
  refine j_aload_n (pc := 427) C.c dL_law_427 rfl 0 rfl ?_
  refine j_iload_n (pc := 428) C.c dL_law_428 rfl 3 rfl ?_
  refine j_iconst (pc := 429) C.c dL_law_429 ?_
  refine j_iadd (pc := 430) C.c dL_law_430 ?_
  refine j_sld (pc := 431) C (hi 1 (by omega)) dL_law_431 ?_
  refine j_aload_n (pc := 432) C.c dL_law_432 rfl 0 rfl ?_
  refine j_iload_n (pc := 433) C.c dL_law_433 rfl 3 rfl ?_
  refine j_iconst (pc := 434) C.c dL_law_434 ?_
  refine j_iadd (pc := 435) C.c dL_law_435 ?_
  refine j_sld (pc := 436) C (hi 2 (by omega)) dL_law_436 ?_
  refine jl_callM (pc := 437) C rfl (X7_at_m _ hjm e2) kV_L_52 rfl (by omega) rfl (Nat.le_of_ble_eq_true rfl) dL_law_437 ?_
  refine j_icmp_eqH (pc := 440) (tgt := 1246) C.c dL_law_440 rfl (fun _ => ?_) (fun h => absurd hw h)
  exact nx sc' sm' hR'
set_option maxHeartbeats 4000000 in
set_option maxRecDepth 100000 in
theorem lcase_stays {Rel : PS → PS → Prop} (hs : Sim_stays Rel) {X : JX} {Gc Gm : GD} {b Ln : Nat} {xs : Nat → Int32} (C : lC X Gc Gm b Ln xs) (hjc : zInj sC Gc) (hjm : zInj sM Gm) {l3 : Int} (hi : ∀ k : Nat, k < 6 → 0 ≤ wI (l3 + (k : Int)) ∧ wI (l3 + (k : Int)) < Ln) {sc sm : PS} (hR : Rel sc sm) (nx : ∀ sc' sm', Rel sc' sm' → J X (WL Gc Gm) (QL b) (sc', sm') [(0, .ref b), (1, .ref (Gc.2.2.1 0)), (2, .ref (Gm.2.2.1 0)), (3, .int (oI l3))] 1246 [] (some ())) : J X (WL Gc Gm) (QL b) (sc, sm) [(0, .ref b), (1, .ref (Gc.2.2.1 0)), (2, .ref (Gm.2.2.1 0)), (3, .int (oI l3))] 445 [] (some ()) := by
  obtain ⟨r, sc', r', sm', e1, e2, hw, hR'⟩ := hs sc sm hR  
  refine j_aload_n (pc := 445) C.c dL_law_445 rfl 1 rfl ?_
  refine jl_callC (pc := 446) C rfl (X6_stays_m _ hjc e1) kV_L_53 rfl (by omega) rfl (Nat.le_of_ble_eq_true rfl) dL_law_446 ?_
  refine j_aload_n (pc := 449) C.c dL_law_449 rfl 2 rfl ?_
  refine jl_callM (pc := 450) C rfl (X7_stays_m _ hjm e2) kV_L_56 rfl (by omega) rfl (Nat.le_of_ble_eq_true rfl) dL_law_450 ?_
  refine j_icmp_eqH (pc := 453) (tgt := 1246) C.c dL_law_453 rfl (fun _ => ?_) (fun h => absurd hw h)
  exact nx sc' sm' hR'
set_option maxHeartbeats 4000000 in
set_option maxRecDepth 100000 in
theorem lcase_swings {Rel : PS → PS → Prop} (hs : Sim_swings Rel) {X : JX} {Gc Gm : GD} {b Ln : Nat} {xs : Nat → Int32} (C : lC X Gc Gm b Ln xs) (hjc : zInj sC Gc) (hjm : zInj sM Gm) {l3 : Int} (hi : ∀ k : Nat, k < 6 → 0 ≤ wI (l3 + (k : Int)) ∧ wI (l3 + (k : Int)) < Ln) {sc sm : PS} (hR : Rel sc sm) (nx : ∀ sc' sm', Rel sc' sm' → J X (WL Gc Gm) (QL b) (sc', sm') [(0, .ref b), (1, .ref (Gc.2.2.1 0)), (2, .ref (Gm.2.2.1 0)), (3, .int (oI l3))] 1246 [] (some ())) : J X (WL Gc Gm) (QL b) (sc, sm) [(0, .ref b), (1, .ref (Gc.2.2.1 0)), (2, .ref (Gm.2.2.1 0)), (3, .int (oI l3))] 458 [] (some ()) := by
  obtain ⟨r, sc', r', sm', e1, e2, hw, hR'⟩ := hs sc sm hR  
  refine j_aload_n (pc := 458) C.c dL_law_458 rfl 1 rfl ?_
  refine jl_callC (pc := 459) C rfl (X6_swings_m _ hjc e1) kV_L_57 rfl (by omega) rfl (Nat.le_of_ble_eq_true rfl) dL_law_459 ?_
  refine j_aload_n (pc := 462) C.c dL_law_462 rfl 2 rfl ?_
  refine jl_callM (pc := 463) C rfl (X7_swings_m _ hjm e2) kV_L_60 rfl (by omega) rfl (Nat.le_of_ble_eq_true rfl) dL_law_463 ?_
  refine j_icmp_eqH (pc := 466) (tgt := 1246) C.c dL_law_466 rfl (fun _ => ?_) (fun h => absurd hw h)
  exact nx sc' sm' hR'
set_option maxHeartbeats 4000000 in
set_option maxRecDepth 100000 in
theorem lcase_gift {Rel : PS → PS → Prop} (hs : Sim_gift Rel) {X : JX} {Gc Gm : GD} {b Ln : Nat} {xs : Nat → Int32} (C : lC X Gc Gm b Ln xs) (hjc : zInj sC Gc) (hjm : zInj sM Gm) {l3 : Int} (hi : ∀ k : Nat, k < 6 → 0 ≤ wI (l3 + (k : Int)) ∧ wI (l3 + (k : Int)) < Ln) {sc sm : PS} (hR : Rel sc sm) (nx : ∀ sc' sm', Rel sc' sm' → J X (WL Gc Gm) (QL b) (sc', sm') [(0, .ref b), (1, .ref (Gc.2.2.1 0)), (2, .ref (Gm.2.2.1 0)), (3, .int (oI l3))] 1246 [] (some ())) : J X (WL Gc Gm) (QL b) (sc, sm) [(0, .ref b), (1, .ref (Gc.2.2.1 0)), (2, .ref (Gm.2.2.1 0)), (3, .int (oI l3))] 471 [] (some ()) := by
  obtain ⟨r, sc', r', sm', e1, e2, hw, hR'⟩ := hs sc sm hR ((xs (wI (l3 + 1)).toNat).toInt) ((xs (wI (l3 + 2)).toNat).toInt) ((xs (wI (l3 + 3)).toNat).toInt) (rng_of _) (rng_of _) (rng_of _)
  refine j_aload_n (pc := 471) C.c dL_law_471 rfl 1 rfl ?_
  refine j_aload_n (pc := 472) C.c dL_law_472 rfl 0 rfl ?_
  refine j_iload_n (pc := 473) C.c dL_law_473 rfl 3 rfl ?_
  refine j_iconst (pc := 474) C.c dL_law_474 ?_
  refine j_iadd (pc := 475) C.c dL_law_475 ?_
  refine j_sld (pc := 476) C (hi 1 (by omega)) dL_law_476 ?_
  refine j_aload_n (pc := 477) C.c dL_law_477 rfl 0 rfl ?_
  refine j_iload_n (pc := 478) C.c dL_law_478 rfl 3 rfl ?_
  refine j_iconst (pc := 479) C.c dL_law_479 ?_
  refine j_iadd (pc := 480) C.c dL_law_480 ?_
  refine j_sld (pc := 481) C (hi 2 (by omega)) dL_law_481 ?_
  refine j_aload_n (pc := 482) C.c dL_law_482 rfl 0 rfl ?_
  refine j_iload_n (pc := 483) C.c dL_law_483 rfl 3 rfl ?_
  refine j_iconst (pc := 484) C.c dL_law_484 ?_
  refine j_iadd (pc := 485) C.c dL_law_485 ?_
  refine j_sld (pc := 486) C (hi 3 (by omega)) dL_law_486 ?_
  refine jl_callC (pc := 487) C rfl (X6_gift_m _ hjc e1) kV_L_61 rfl (by omega) rfl (Nat.le_of_ble_eq_true rfl) dL_law_487 ?_
  refine j_aload_n (pc := 490) C.c dL_law_490 rfl 2 rfl ?_
  refine j_aload_n (pc := 491) C.c dL_law_491 rfl 0 rfl ?_
  refine j_iload_n (pc := 492) C.c dL_law_492 rfl 3 rfl ?_
  refine j_iconst (pc := 493) C.c dL_law_493 ?_
  refine j_iadd (pc := 494) C.c dL_law_494 ?_
  refine j_sld (pc := 495) C (hi 1 (by omega)) dL_law_495 ?_
  refine j_aload_n (pc := 496) C.c dL_law_496 rfl 0 rfl ?_
  refine j_iload_n (pc := 497) C.c dL_law_497 rfl 3 rfl ?_
  refine j_iconst (pc := 498) C.c dL_law_498 ?_
  refine j_iadd (pc := 499) C.c dL_law_499 ?_
  refine j_sld (pc := 500) C (hi 2 (by omega)) dL_law_500 ?_
  refine j_aload_n (pc := 501) C.c dL_law_501 rfl 0 rfl ?_
  refine j_iload_n (pc := 502) C.c dL_law_502 rfl 3 rfl ?_
  refine j_iconst (pc := 503) C.c dL_law_503 ?_
  refine j_iadd (pc := 504) C.c dL_law_504 ?_
  refine j_sld (pc := 505) C (hi 3 (by omega)) dL_law_505 ?_
  refine jl_callM (pc := 506) C rfl (X7_gift_m _ hjm e2) kV_L_64 rfl (by omega) rfl (Nat.le_of_ble_eq_true rfl) dL_law_506 ?_
  refine j_icmp_eqH (pc := 509) (tgt := 1246) C.c dL_law_509 rfl (fun _ => ?_) (fun h => absurd hw h)
  exact nx sc' sm' hR'
set_option maxHeartbeats 4000000 in
set_option maxRecDepth 100000 in
theorem lcase_best {Rel : PS → PS → Prop} (hs : Sim_best Rel) {X : JX} {Gc Gm : GD} {b Ln : Nat} {xs : Nat → Int32} (C : lC X Gc Gm b Ln xs) (hjc : zInj sC Gc) (hjm : zInj sM Gm) {l3 : Int} (hi : ∀ k : Nat, k < 6 → 0 ≤ wI (l3 + (k : Int)) ∧ wI (l3 + (k : Int)) < Ln) {sc sm : PS} (hR : Rel sc sm) (nx : ∀ sc' sm', Rel sc' sm' → J X (WL Gc Gm) (QL b) (sc', sm') [(0, .ref b), (1, .ref (Gc.2.2.1 0)), (2, .ref (Gm.2.2.1 0)), (3, .int (oI l3))] 1246 [] (some ())) : J X (WL Gc Gm) (QL b) (sc, sm) [(0, .ref b), (1, .ref (Gc.2.2.1 0)), (2, .ref (Gm.2.2.1 0)), (3, .int (oI l3))] 514 [] (some ()) := by
  obtain ⟨r, sc', r', sm', e1, e2, hw, hR'⟩ := hs sc sm hR ((xs (wI (l3 + 1)).toNat).toInt) (rng_of _)
  refine j_aload_n (pc := 514) C.c dL_law_514 rfl 1 rfl ?_
  refine j_aload_n (pc := 515) C.c dL_law_515 rfl 0 rfl ?_
  refine j_iload_n (pc := 516) C.c dL_law_516 rfl 3 rfl ?_
  refine j_iconst (pc := 517) C.c dL_law_517 ?_
  refine j_iadd (pc := 518) C.c dL_law_518 ?_
  refine j_sld (pc := 519) C (hi 1 (by omega)) dL_law_519 ?_
  refine jl_callC (pc := 520) C rfl (X6_best_m _ hjc e1) kV_L_65 rfl (by omega) rfl (Nat.le_of_ble_eq_true rfl) dL_law_520 ?_
  refine j_aload_n (pc := 523) C.c dL_law_523 rfl 2 rfl ?_
  refine j_aload_n (pc := 524) C.c dL_law_524 rfl 0 rfl ?_
  refine j_iload_n (pc := 525) C.c dL_law_525 rfl 3 rfl ?_
  refine j_iconst (pc := 526) C.c dL_law_526 ?_
  refine j_iadd (pc := 527) C.c dL_law_527 ?_
  refine j_sld (pc := 528) C (hi 1 (by omega)) dL_law_528 ?_
  refine jl_callM (pc := 529) C rfl (X7_best_m _ hjm e2) kV_L_68 rfl (by omega) rfl (Nat.le_of_ble_eq_true rfl) dL_law_529 ?_
  refine j_icmp_eqH (pc := 532) (tgt := 1246) C.c dL_law_532 rfl (fun _ => ?_) (fun h => absurd hw h)
  exact nx sc' sm' hR'
set_option maxHeartbeats 4000000 in
set_option maxRecDepth 100000 in
theorem lcase_lots {Rel : PS → PS → Prop} (hs : Sim_lots Rel) {X : JX} {Gc Gm : GD} {b Ln : Nat} {xs : Nat → Int32} (C : lC X Gc Gm b Ln xs) (hjc : zInj sC Gc) (hjm : zInj sM Gm) {l3 : Int} (hi : ∀ k : Nat, k < 6 → 0 ≤ wI (l3 + (k : Int)) ∧ wI (l3 + (k : Int)) < Ln) {sc sm : PS} (hR : Rel sc sm) (nx : ∀ sc' sm', Rel sc' sm' → J X (WL Gc Gm) (QL b) (sc', sm') [(0, .ref b), (1, .ref (Gc.2.2.1 0)), (2, .ref (Gm.2.2.1 0)), (3, .int (oI l3))] 1246 [] (some ())) : J X (WL Gc Gm) (QL b) (sc, sm) [(0, .ref b), (1, .ref (Gc.2.2.1 0)), (2, .ref (Gm.2.2.1 0)), (3, .int (oI l3))] 537 [] (some ()) := by
  obtain ⟨r, sc', r', sm', e1, e2, hw, hR'⟩ := hs sc sm hR  
  refine j_aload_n (pc := 537) C.c dL_law_537 rfl 1 rfl ?_
  refine jl_callC (pc := 538) C rfl (X6_lots_m _ hjc e1) kV_L_69 rfl (by omega) rfl (Nat.le_of_ble_eq_true rfl) dL_law_538 ?_
  refine j_aload_n (pc := 541) C.c dL_law_541 rfl 2 rfl ?_
  refine jl_callM (pc := 542) C rfl (X7_lots_m _ hjm e2) kV_L_72 rfl (by omega) rfl (Nat.le_of_ble_eq_true rfl) dL_law_542 ?_
  refine j_icmp_eqH (pc := 545) (tgt := 1246) C.c dL_law_545 rfl (fun _ => ?_) (fun h => absurd hw h)
  exact nx sc' sm' hR'
set_option maxHeartbeats 4000000 in
set_option maxRecDepth 100000 in
theorem lcase_build {Rel : PS → PS → Prop} (hs : Sim_build Rel) {X : JX} {Gc Gm : GD} {b Ln : Nat} {xs : Nat → Int32} (C : lC X Gc Gm b Ln xs) (hjc : zInj sC Gc) (hjm : zInj sM Gm) {l3 : Int} (hi : ∀ k : Nat, k < 6 → 0 ≤ wI (l3 + (k : Int)) ∧ wI (l3 + (k : Int)) < Ln) {sc sm : PS} (hR : Rel sc sm) (nx : ∀ sc' sm', Rel sc' sm' → J X (WL Gc Gm) (QL b) (sc', sm') [(0, .ref b), (1, .ref (Gc.2.2.1 0)), (2, .ref (Gm.2.2.1 0)), (3, .int (oI l3))] 1246 [] (some ())) : J X (WL Gc Gm) (QL b) (sc, sm) [(0, .ref b), (1, .ref (Gc.2.2.1 0)), (2, .ref (Gm.2.2.1 0)), (3, .int (oI l3))] 550 [] (some ()) := by
  obtain ⟨r, sc', r', sm', e1, e2, hw, hR'⟩ := hs sc sm hR ((xs (wI (l3 + 1)).toNat).toInt) ((xs (wI (l3 + 2)).toNat).toInt) ((xs (wI (l3 + 3)).toNat).toInt) ((xs (wI (l3 + 4)).toNat).toInt) (rng_of _) (rng_of _) (rng_of _) (rng_of _)
  refine j_aload_n (pc := 550) C.c dL_law_550 rfl 1 rfl ?_
  refine j_aload_n (pc := 551) C.c dL_law_551 rfl 0 rfl ?_
  refine j_iload_n (pc := 552) C.c dL_law_552 rfl 3 rfl ?_
  refine j_iconst (pc := 553) C.c dL_law_553 ?_
  refine j_iadd (pc := 554) C.c dL_law_554 ?_
  refine j_sld (pc := 555) C (hi 1 (by omega)) dL_law_555 ?_
  refine j_aload_n (pc := 556) C.c dL_law_556 rfl 0 rfl ?_
  refine j_iload_n (pc := 557) C.c dL_law_557 rfl 3 rfl ?_
  refine j_iconst (pc := 558) C.c dL_law_558 ?_
  refine j_iadd (pc := 559) C.c dL_law_559 ?_
  refine j_sld (pc := 560) C (hi 2 (by omega)) dL_law_560 ?_
  refine j_aload_n (pc := 561) C.c dL_law_561 rfl 0 rfl ?_
  refine j_iload_n (pc := 562) C.c dL_law_562 rfl 3 rfl ?_
  refine j_iconst (pc := 563) C.c dL_law_563 ?_
  refine j_iadd (pc := 564) C.c dL_law_564 ?_
  refine j_sld (pc := 565) C (hi 3 (by omega)) dL_law_565 ?_
  refine j_aload_n (pc := 566) C.c dL_law_566 rfl 0 rfl ?_
  refine j_iload_n (pc := 567) C.c dL_law_567 rfl 3 rfl ?_
  refine j_iconst (pc := 568) C.c dL_law_568 ?_
  refine j_iadd (pc := 569) C.c dL_law_569 ?_
  refine j_sld (pc := 570) C (hi 4 (by omega)) dL_law_570 ?_
  refine jl_callC (pc := 571) C rfl (X6_build_m _ hjc e1) kV_L_73 rfl (by omega) rfl (Nat.le_of_ble_eq_true rfl) dL_law_571 ?_
  refine j_aload_n (pc := 574) C.c dL_law_574 rfl 2 rfl ?_
  refine j_aload_n (pc := 575) C.c dL_law_575 rfl 0 rfl ?_
  refine j_iload_n (pc := 576) C.c dL_law_576 rfl 3 rfl ?_
  refine j_iconst (pc := 577) C.c dL_law_577 ?_
  refine j_iadd (pc := 578) C.c dL_law_578 ?_
  refine j_sld (pc := 579) C (hi 1 (by omega)) dL_law_579 ?_
  refine j_aload_n (pc := 580) C.c dL_law_580 rfl 0 rfl ?_
  refine j_iload_n (pc := 581) C.c dL_law_581 rfl 3 rfl ?_
  refine j_iconst (pc := 582) C.c dL_law_582 ?_
  refine j_iadd (pc := 583) C.c dL_law_583 ?_
  refine j_sld (pc := 584) C (hi 2 (by omega)) dL_law_584 ?_
  refine j_aload_n (pc := 585) C.c dL_law_585 rfl 0 rfl ?_
  refine j_iload_n (pc := 586) C.c dL_law_586 rfl 3 rfl ?_
  refine j_iconst (pc := 587) C.c dL_law_587 ?_
  refine j_iadd (pc := 588) C.c dL_law_588 ?_
  refine j_sld (pc := 589) C (hi 3 (by omega)) dL_law_589 ?_
  refine j_aload_n (pc := 590) C.c dL_law_590 rfl 0 rfl ?_
  refine j_iload_n (pc := 591) C.c dL_law_591 rfl 3 rfl ?_
  refine j_iconst (pc := 592) C.c dL_law_592 ?_
  refine j_iadd (pc := 593) C.c dL_law_593 ?_
  refine j_sld (pc := 594) C (hi 4 (by omega)) dL_law_594 ?_
  refine jl_callM (pc := 595) C rfl (X7_build_m _ hjm e2) kV_L_77 rfl (by omega) rfl (Nat.le_of_ble_eq_true rfl) dL_law_595 ?_
  refine j_icmp_eqH (pc := 598) (tgt := 1246) C.c dL_law_598 rfl (fun _ => ?_) (fun h => absurd hw h)
  exact nx sc' sm' hR'
set_option maxHeartbeats 4000000 in
set_option maxRecDepth 100000 in
theorem lcase_down {Rel : PS → PS → Prop} (hs : Sim_down Rel) {X : JX} {Gc Gm : GD} {b Ln : Nat} {xs : Nat → Int32} (C : lC X Gc Gm b Ln xs) (hjc : zInj sC Gc) (hjm : zInj sM Gm) {l3 : Int} (hi : ∀ k : Nat, k < 6 → 0 ≤ wI (l3 + (k : Int)) ∧ wI (l3 + (k : Int)) < Ln) {sc sm : PS} (hR : Rel sc sm) (nx : ∀ sc' sm', Rel sc' sm' → J X (WL Gc Gm) (QL b) (sc', sm') [(0, .ref b), (1, .ref (Gc.2.2.1 0)), (2, .ref (Gm.2.2.1 0)), (3, .int (oI l3))] 1246 [] (some ())) : J X (WL Gc Gm) (QL b) (sc, sm) [(0, .ref b), (1, .ref (Gc.2.2.1 0)), (2, .ref (Gm.2.2.1 0)), (3, .int (oI l3))] 603 [] (some ()) := by
  obtain ⟨r, sc', r', sm', e1, e2, hw, hR'⟩ := hs sc sm hR ((xs (wI (l3 + 1)).toNat).toInt) (rng_of _)
  refine j_aload_n (pc := 603) C.c dL_law_603 rfl 1 rfl ?_
  refine j_aload_n (pc := 604) C.c dL_law_604 rfl 0 rfl ?_
  refine j_iload_n (pc := 605) C.c dL_law_605 rfl 3 rfl ?_
  refine j_iconst (pc := 606) C.c dL_law_606 ?_
  refine j_iadd (pc := 607) C.c dL_law_607 ?_
  refine j_sld (pc := 608) C (hi 1 (by omega)) dL_law_608 ?_
  refine jl_callC (pc := 609) C rfl (X6_down_m _ hjc e1) kV_L_78 rfl (by omega) rfl (Nat.le_of_ble_eq_true rfl) dL_law_609 ?_
  refine j_aload_n (pc := 612) C.c dL_law_612 rfl 2 rfl ?_
  refine j_aload_n (pc := 613) C.c dL_law_613 rfl 0 rfl ?_
  refine j_iload_n (pc := 614) C.c dL_law_614 rfl 3 rfl ?_
  refine j_iconst (pc := 615) C.c dL_law_615 ?_
  refine j_iadd (pc := 616) C.c dL_law_616 ?_
  refine j_sld (pc := 617) C (hi 1 (by omega)) dL_law_617 ?_
  refine jl_callM (pc := 618) C rfl (X7_down_m _ hjm e2) kV_L_81 rfl (by omega) rfl (Nat.le_of_ble_eq_true rfl) dL_law_618 ?_
  refine j_icmp_eqH (pc := 621) (tgt := 1246) C.c dL_law_621 rfl (fun _ => ?_) (fun h => absurd hw h)
  exact nx sc' sm' hR'
set_option maxHeartbeats 4000000 in
set_option maxRecDepth 100000 in
theorem lcase_before {Rel : PS → PS → Prop} (hs : Sim_before Rel) {X : JX} {Gc Gm : GD} {b Ln : Nat} {xs : Nat → Int32} (C : lC X Gc Gm b Ln xs) (hjc : zInj sC Gc) (hjm : zInj sM Gm) {l3 : Int} (hi : ∀ k : Nat, k < 6 → 0 ≤ wI (l3 + (k : Int)) ∧ wI (l3 + (k : Int)) < Ln) {sc sm : PS} (hR : Rel sc sm) (nx : ∀ sc' sm', Rel sc' sm' → J X (WL Gc Gm) (QL b) (sc', sm') [(0, .ref b), (1, .ref (Gc.2.2.1 0)), (2, .ref (Gm.2.2.1 0)), (3, .int (oI l3))] 1246 [] (some ())) : J X (WL Gc Gm) (QL b) (sc, sm) [(0, .ref b), (1, .ref (Gc.2.2.1 0)), (2, .ref (Gm.2.2.1 0)), (3, .int (oI l3))] 626 [] (some ()) := by
  obtain ⟨r, sc', r', sm', e1, e2, hw, hR'⟩ := hs sc sm hR ((xs (wI (l3 + 1)).toNat).toInt) (rng_of _)
  refine j_aload_n (pc := 626) C.c dL_law_626 rfl 1 rfl ?_
  refine j_aload_n (pc := 627) C.c dL_law_627 rfl 0 rfl ?_
  refine j_iload_n (pc := 628) C.c dL_law_628 rfl 3 rfl ?_
  refine j_iconst (pc := 629) C.c dL_law_629 ?_
  refine j_iadd (pc := 630) C.c dL_law_630 ?_
  refine j_sld (pc := 631) C (hi 1 (by omega)) dL_law_631 ?_
  refine jl_callC (pc := 632) C rfl (X6_before_m _ hjc e1) kV_L_82 rfl (by omega) rfl (Nat.le_of_ble_eq_true rfl) dL_law_632 ?_
  refine j_aload_n (pc := 635) C.c dL_law_635 rfl 2 rfl ?_
  refine j_aload_n (pc := 636) C.c dL_law_636 rfl 0 rfl ?_
  refine j_iload_n (pc := 637) C.c dL_law_637 rfl 3 rfl ?_
  refine j_iconst (pc := 638) C.c dL_law_638 ?_
  refine j_iadd (pc := 639) C.c dL_law_639 ?_
  refine j_sld (pc := 640) C (hi 1 (by omega)) dL_law_640 ?_
  refine jl_callM (pc := 641) C rfl (X7_before_m _ hjm e2) kV_L_85 rfl (by omega) rfl (Nat.le_of_ble_eq_true rfl) dL_law_641 ?_
  refine j_icmp_eqH (pc := 644) (tgt := 1246) C.c dL_law_644 rfl (fun _ => ?_) (fun h => absurd hw h)
  exact nx sc' sm' hR'
set_option maxHeartbeats 4000000 in
set_option maxRecDepth 100000 in
theorem lcase_see {Rel : PS → PS → Prop} (hs : Sim_see Rel) {X : JX} {Gc Gm : GD} {b Ln : Nat} {xs : Nat → Int32} (C : lC X Gc Gm b Ln xs) (hjc : zInj sC Gc) (hjm : zInj sM Gm) {l3 : Int} (hi : ∀ k : Nat, k < 6 → 0 ≤ wI (l3 + (k : Int)) ∧ wI (l3 + (k : Int)) < Ln) {sc sm : PS} (hR : Rel sc sm) (nx : ∀ sc' sm', Rel sc' sm' → J X (WL Gc Gm) (QL b) (sc', sm') [(0, .ref b), (1, .ref (Gc.2.2.1 0)), (2, .ref (Gm.2.2.1 0)), (3, .int (oI l3))] 1246 [] (some ())) : J X (WL Gc Gm) (QL b) (sc, sm) [(0, .ref b), (1, .ref (Gc.2.2.1 0)), (2, .ref (Gm.2.2.1 0)), (3, .int (oI l3))] 649 [] (some ()) := by
  obtain ⟨r, sc', r', sm', e1, e2, hw, hR'⟩ := hs sc sm hR ((xs (wI (l3 + 1)).toNat).toInt) ((xs (wI (l3 + 2)).toNat).toInt) (rng_of _) (rng_of _)
  refine j_aload_n (pc := 649) C.c dL_law_649 rfl 1 rfl ?_
  refine j_aload_n (pc := 650) C.c dL_law_650 rfl 0 rfl ?_
  refine j_iload_n (pc := 651) C.c dL_law_651 rfl 3 rfl ?_
  refine j_iconst (pc := 652) C.c dL_law_652 ?_
  refine j_iadd (pc := 653) C.c dL_law_653 ?_
  refine j_sld (pc := 654) C (hi 1 (by omega)) dL_law_654 ?_
  refine j_aload_n (pc := 655) C.c dL_law_655 rfl 0 rfl ?_
  refine j_iload_n (pc := 656) C.c dL_law_656 rfl 3 rfl ?_
  refine j_iconst (pc := 657) C.c dL_law_657 ?_
  refine j_iadd (pc := 658) C.c dL_law_658 ?_
  refine j_sld (pc := 659) C (hi 2 (by omega)) dL_law_659 ?_
  refine jl_callC (pc := 660) C rfl (X6_see_m _ hjc e1) kV_L_86 rfl (by omega) rfl (Nat.le_of_ble_eq_true rfl) dL_law_660 ?_
  refine j_aload_n (pc := 663) C.c dL_law_663 rfl 2 rfl ?_
  refine j_aload_n (pc := 664) C.c dL_law_664 rfl 0 rfl ?_
  refine j_iload_n (pc := 665) C.c dL_law_665 rfl 3 rfl ?_
  refine j_iconst (pc := 666) C.c dL_law_666 ?_
  refine j_iadd (pc := 667) C.c dL_law_667 ?_
  refine j_sld (pc := 668) C (hi 1 (by omega)) dL_law_668 ?_
  refine j_aload_n (pc := 669) C.c dL_law_669 rfl 0 rfl ?_
  refine j_iload_n (pc := 670) C.c dL_law_670 rfl 3 rfl ?_
  refine j_iconst (pc := 671) C.c dL_law_671 ?_
  refine j_iadd (pc := 672) C.c dL_law_672 ?_
  refine j_sld (pc := 673) C (hi 2 (by omega)) dL_law_673 ?_
  refine jl_callM (pc := 674) C rfl (X7_see_m _ hjm e2) kV_L_89 rfl (by omega) rfl (Nat.le_of_ble_eq_true rfl) dL_law_674 ?_
  refine j_icmp_eqH (pc := 677) (tgt := 1246) C.c dL_law_677 rfl (fun _ => ?_) (fun h => absurd hw h)
  exact nx sc' sm' hR'
set_option maxHeartbeats 4000000 in
set_option maxRecDepth 100000 in
theorem lcase_lied {Rel : PS → PS → Prop} (hs : Sim_lied Rel) {X : JX} {Gc Gm : GD} {b Ln : Nat} {xs : Nat → Int32} (C : lC X Gc Gm b Ln xs) (hjc : zInj sC Gc) (hjm : zInj sM Gm) {l3 : Int} (hi : ∀ k : Nat, k < 6 → 0 ≤ wI (l3 + (k : Int)) ∧ wI (l3 + (k : Int)) < Ln) {sc sm : PS} (hR : Rel sc sm) (nx : ∀ sc' sm', Rel sc' sm' → J X (WL Gc Gm) (QL b) (sc', sm') [(0, .ref b), (1, .ref (Gc.2.2.1 0)), (2, .ref (Gm.2.2.1 0)), (3, .int (oI l3))] 1246 [] (some ())) : J X (WL Gc Gm) (QL b) (sc, sm) [(0, .ref b), (1, .ref (Gc.2.2.1 0)), (2, .ref (Gm.2.2.1 0)), (3, .int (oI l3))] 682 [] (some ()) := by
  obtain ⟨r, sc', r', sm', e1, e2, hw, hR'⟩ := hs sc sm hR ((xs (wI (l3 + 1)).toNat).toInt) (rng_of _)
  refine j_aload_n (pc := 682) C.c dL_law_682 rfl 1 rfl ?_
  refine j_aload_n (pc := 683) C.c dL_law_683 rfl 0 rfl ?_
  refine j_iload_n (pc := 684) C.c dL_law_684 rfl 3 rfl ?_
  refine j_iconst (pc := 685) C.c dL_law_685 ?_
  refine j_iadd (pc := 686) C.c dL_law_686 ?_
  refine j_sld (pc := 687) C (hi 1 (by omega)) dL_law_687 ?_
  refine jl_callC (pc := 688) C rfl (X6_lied_m _ hjc e1) kV_L_90 rfl (by omega) rfl (Nat.le_of_ble_eq_true rfl) dL_law_688 ?_
  refine j_aload_n (pc := 691) C.c dL_law_691 rfl 2 rfl ?_
  refine j_aload_n (pc := 692) C.c dL_law_692 rfl 0 rfl ?_
  refine j_iload_n (pc := 693) C.c dL_law_693 rfl 3 rfl ?_
  refine j_iconst (pc := 694) C.c dL_law_694 ?_
  refine j_iadd (pc := 695) C.c dL_law_695 ?_
  refine j_sld (pc := 696) C (hi 1 (by omega)) dL_law_696 ?_
  refine jl_callM (pc := 697) C rfl (X7_lied_m _ hjm e2) kV_L_93 rfl (by omega) rfl (Nat.le_of_ble_eq_true rfl) dL_law_697 ?_
  refine j_icmp_eqH (pc := 700) (tgt := 1246) C.c dL_law_700 rfl (fun _ => ?_) (fun h => absurd hw h)
  exact nx sc' sm' hR'
set_option maxHeartbeats 4000000 in
set_option maxRecDepth 100000 in
theorem lcase_wed {Rel : PS → PS → Prop} (hs : Sim_wed Rel) {X : JX} {Gc Gm : GD} {b Ln : Nat} {xs : Nat → Int32} (C : lC X Gc Gm b Ln xs) (hjc : zInj sC Gc) (hjm : zInj sM Gm) {l3 : Int} (hi : ∀ k : Nat, k < 6 → 0 ≤ wI (l3 + (k : Int)) ∧ wI (l3 + (k : Int)) < Ln) {sc sm : PS} (hR : Rel sc sm) (nx : ∀ sc' sm', Rel sc' sm' → J X (WL Gc Gm) (QL b) (sc', sm') [(0, .ref b), (1, .ref (Gc.2.2.1 0)), (2, .ref (Gm.2.2.1 0)), (3, .int (oI l3))] 1246 [] (some ())) : J X (WL Gc Gm) (QL b) (sc, sm) [(0, .ref b), (1, .ref (Gc.2.2.1 0)), (2, .ref (Gm.2.2.1 0)), (3, .int (oI l3))] 705 [] (some ()) := by
  obtain ⟨r, sc', r', sm', e1, e2, hw, hR'⟩ := hs sc sm hR ((xs (wI (l3 + 1)).toNat).toInt) ((xs (wI (l3 + 2)).toNat).toInt) (rng_of _) (rng_of _)
  refine j_aload_n (pc := 705) C.c dL_law_705 rfl 1 rfl ?_
  refine j_aload_n (pc := 706) C.c dL_law_706 rfl 0 rfl ?_
  refine j_iload_n (pc := 707) C.c dL_law_707 rfl 3 rfl ?_
  refine j_iconst (pc := 708) C.c dL_law_708 ?_
  refine j_iadd (pc := 709) C.c dL_law_709 ?_
  refine j_sld (pc := 710) C (hi 1 (by omega)) dL_law_710 ?_
  refine j_aload_n (pc := 711) C.c dL_law_711 rfl 0 rfl ?_
  refine j_iload_n (pc := 712) C.c dL_law_712 rfl 3 rfl ?_
  refine j_iconst (pc := 713) C.c dL_law_713 ?_
  refine j_iadd (pc := 714) C.c dL_law_714 ?_
  refine j_sld (pc := 715) C (hi 2 (by omega)) dL_law_715 ?_
  refine jl_callC (pc := 716) C rfl (X6_wed_m _ hjc e1) kV_L_94 rfl (by omega) rfl (Nat.le_of_ble_eq_true rfl) dL_law_716 ?_
  refine j_aload_n (pc := 719) C.c dL_law_719 rfl 2 rfl ?_
  refine j_aload_n (pc := 720) C.c dL_law_720 rfl 0 rfl ?_
  refine j_iload_n (pc := 721) C.c dL_law_721 rfl 3 rfl ?_
  refine j_iconst (pc := 722) C.c dL_law_722 ?_
  refine j_iadd (pc := 723) C.c dL_law_723 ?_
  refine j_sld (pc := 724) C (hi 1 (by omega)) dL_law_724 ?_
  refine j_aload_n (pc := 725) C.c dL_law_725 rfl 0 rfl ?_
  refine j_iload_n (pc := 726) C.c dL_law_726 rfl 3 rfl ?_
  refine j_iconst (pc := 727) C.c dL_law_727 ?_
  refine j_iadd (pc := 728) C.c dL_law_728 ?_
  refine j_sld (pc := 729) C (hi 2 (by omega)) dL_law_729 ?_
  refine jl_callM (pc := 730) C rfl (X7_wed_m _ hjm e2) kV_L_97 rfl (by omega) rfl (Nat.le_of_ble_eq_true rfl) dL_law_730 ?_
  refine j_icmp_eqH (pc := 733) (tgt := 1246) C.c dL_law_733 rfl (fun _ => ?_) (fun h => absurd hw h)
  exact nx sc' sm' hR'
set_option maxHeartbeats 4000000 in
set_option maxRecDepth 100000 in
theorem lcase_odds {Rel : PS → PS → Prop} (hs : Sim_odds Rel) {X : JX} {Gc Gm : GD} {b Ln : Nat} {xs : Nat → Int32} (C : lC X Gc Gm b Ln xs) (hjc : zInj sC Gc) (hjm : zInj sM Gm) {l3 : Int} (hi : ∀ k : Nat, k < 6 → 0 ≤ wI (l3 + (k : Int)) ∧ wI (l3 + (k : Int)) < Ln) {sc sm : PS} (hR : Rel sc sm) (nx : ∀ sc' sm', Rel sc' sm' → J X (WL Gc Gm) (QL b) (sc', sm') [(0, .ref b), (1, .ref (Gc.2.2.1 0)), (2, .ref (Gm.2.2.1 0)), (3, .int (oI l3))] 1246 [] (some ())) : J X (WL Gc Gm) (QL b) (sc, sm) [(0, .ref b), (1, .ref (Gc.2.2.1 0)), (2, .ref (Gm.2.2.1 0)), (3, .int (oI l3))] 738 [] (some ()) := by
  obtain ⟨r, sc', r', sm', e1, e2, hw, hR'⟩ := hs sc sm hR ((xs (wI (l3 + 1)).toNat).toInt) ((xs (wI (l3 + 2)).toNat).toInt) ((xs (wI (l3 + 3)).toNat).toInt) (rng_of _) (rng_of _) (rng_of _)
  refine j_aload_n (pc := 738) C.c dL_law_738 rfl 1 rfl ?_
  refine j_aload_n (pc := 739) C.c dL_law_739 rfl 0 rfl ?_
  refine j_iload_n (pc := 740) C.c dL_law_740 rfl 3 rfl ?_
  refine j_iconst (pc := 741) C.c dL_law_741 ?_
  refine j_iadd (pc := 742) C.c dL_law_742 ?_
  refine j_sld (pc := 743) C (hi 1 (by omega)) dL_law_743 ?_
  refine j_aload_n (pc := 744) C.c dL_law_744 rfl 0 rfl ?_
  refine j_iload_n (pc := 745) C.c dL_law_745 rfl 3 rfl ?_
  refine j_iconst (pc := 746) C.c dL_law_746 ?_
  refine j_iadd (pc := 747) C.c dL_law_747 ?_
  refine j_sld (pc := 748) C (hi 2 (by omega)) dL_law_748 ?_
  refine j_aload_n (pc := 749) C.c dL_law_749 rfl 0 rfl ?_
  refine j_iload_n (pc := 750) C.c dL_law_750 rfl 3 rfl ?_
  refine j_iconst (pc := 751) C.c dL_law_751 ?_
  refine j_iadd (pc := 752) C.c dL_law_752 ?_
  refine j_sld (pc := 753) C (hi 3 (by omega)) dL_law_753 ?_
  refine jl_callC (pc := 754) C rfl (X6_odds_m _ hjc e1) kV_L_98 rfl (by omega) rfl (Nat.le_of_ble_eq_true rfl) dL_law_754 ?_
  refine j_aload_n (pc := 757) C.c dL_law_757 rfl 2 rfl ?_
  refine j_aload_n (pc := 758) C.c dL_law_758 rfl 0 rfl ?_
  refine j_iload_n (pc := 759) C.c dL_law_759 rfl 3 rfl ?_
  refine j_iconst (pc := 760) C.c dL_law_760 ?_
  refine j_iadd (pc := 761) C.c dL_law_761 ?_
  refine j_sld (pc := 762) C (hi 1 (by omega)) dL_law_762 ?_
  refine j_aload_n (pc := 763) C.c dL_law_763 rfl 0 rfl ?_
  refine j_iload_n (pc := 764) C.c dL_law_764 rfl 3 rfl ?_
  refine j_iconst (pc := 765) C.c dL_law_765 ?_
  refine j_iadd (pc := 766) C.c dL_law_766 ?_
  refine j_sld (pc := 767) C (hi 2 (by omega)) dL_law_767 ?_
  refine j_aload_n (pc := 768) C.c dL_law_768 rfl 0 rfl ?_
  refine j_iload_n (pc := 769) C.c dL_law_769 rfl 3 rfl ?_
  refine j_iconst (pc := 770) C.c dL_law_770 ?_
  refine j_iadd (pc := 771) C.c dL_law_771 ?_
  refine j_sld (pc := 772) C (hi 3 (by omega)) dL_law_772 ?_
  refine jl_callM (pc := 773) C rfl (X7_odds_m _ hjm e2) kV_L_102 rfl (by omega) rfl (Nat.le_of_ble_eq_true rfl) dL_law_773 ?_
  refine j_lcmp (pc := 776) C.c dL_law_776 ?_
  rw [zcmp_eq hw]
  refine j_if_eq_t (pc := 777) (tgt := 1246) C.c dL_law_777 rfl (by decide) ?_
  exact nx sc' sm' hR'
set_option maxHeartbeats 4000000 in
set_option maxRecDepth 100000 in
theorem lcase_mean {Rel : PS → PS → Prop} (hs : Sim_mean Rel) {X : JX} {Gc Gm : GD} {b Ln : Nat} {xs : Nat → Int32} (C : lC X Gc Gm b Ln xs) (hjc : zInj sC Gc) (hjm : zInj sM Gm) {l3 : Int} (hi : ∀ k : Nat, k < 6 → 0 ≤ wI (l3 + (k : Int)) ∧ wI (l3 + (k : Int)) < Ln) {sc sm : PS} (hR : Rel sc sm) (nx : ∀ sc' sm', Rel sc' sm' → J X (WL Gc Gm) (QL b) (sc', sm') [(0, .ref b), (1, .ref (Gc.2.2.1 0)), (2, .ref (Gm.2.2.1 0)), (3, .int (oI l3))] 1246 [] (some ())) : J X (WL Gc Gm) (QL b) (sc, sm) [(0, .ref b), (1, .ref (Gc.2.2.1 0)), (2, .ref (Gm.2.2.1 0)), (3, .int (oI l3))] 782 [] (some ()) := by
  obtain ⟨r, sc', r', sm', e1, e2, hw, hR'⟩ := hs sc sm hR ((xs (wI (l3 + 1)).toNat).toInt) ((xs (wI (l3 + 2)).toNat).toInt) (rng_of _) (rng_of _)
  refine j_aload_n (pc := 782) C.c dL_law_782 rfl 1 rfl ?_
  refine j_aload_n (pc := 783) C.c dL_law_783 rfl 0 rfl ?_
  refine j_iload_n (pc := 784) C.c dL_law_784 rfl 3 rfl ?_
  refine j_iconst (pc := 785) C.c dL_law_785 ?_
  refine j_iadd (pc := 786) C.c dL_law_786 ?_
  refine j_sld (pc := 787) C (hi 1 (by omega)) dL_law_787 ?_
  refine j_aload_n (pc := 788) C.c dL_law_788 rfl 0 rfl ?_
  refine j_iload_n (pc := 789) C.c dL_law_789 rfl 3 rfl ?_
  refine j_iconst (pc := 790) C.c dL_law_790 ?_
  refine j_iadd (pc := 791) C.c dL_law_791 ?_
  refine j_sld (pc := 792) C (hi 2 (by omega)) dL_law_792 ?_
  refine jl_callC (pc := 793) C rfl (X6_mean_m _ hjc e1) kV_L_103 rfl (by omega) rfl (Nat.le_of_ble_eq_true rfl) dL_law_793 ?_
  refine j_aload_n (pc := 796) C.c dL_law_796 rfl 2 rfl ?_
  refine j_aload_n (pc := 797) C.c dL_law_797 rfl 0 rfl ?_
  refine j_iload_n (pc := 798) C.c dL_law_798 rfl 3 rfl ?_
  refine j_iconst (pc := 799) C.c dL_law_799 ?_
  refine j_iadd (pc := 800) C.c dL_law_800 ?_
  refine j_sld (pc := 801) C (hi 1 (by omega)) dL_law_801 ?_
  refine j_aload_n (pc := 802) C.c dL_law_802 rfl 0 rfl ?_
  refine j_iload_n (pc := 803) C.c dL_law_803 rfl 3 rfl ?_
  refine j_iconst (pc := 804) C.c dL_law_804 ?_
  refine j_iadd (pc := 805) C.c dL_law_805 ?_
  refine j_sld (pc := 806) C (hi 2 (by omega)) dL_law_806 ?_
  refine jl_callM (pc := 807) C rfl (X7_mean_m _ hjm e2) kV_L_107 rfl (by omega) rfl (Nat.le_of_ble_eq_true rfl) dL_law_807 ?_
  refine j_lcmp (pc := 810) C.c dL_law_810 ?_
  rw [zcmp_eq hw]
  refine j_if_eq_t (pc := 811) (tgt := 1246) C.c dL_law_811 rfl (by decide) ?_
  exact nx sc' sm' hR'
set_option maxHeartbeats 4000000 in
set_option maxRecDepth 100000 in
theorem lcase_book {Rel : PS → PS → Prop} (hs : Sim_book Rel) {X : JX} {Gc Gm : GD} {b Ln : Nat} {xs : Nat → Int32} (C : lC X Gc Gm b Ln xs) (hjc : zInj sC Gc) (hjm : zInj sM Gm) {l3 : Int} (hi : ∀ k : Nat, k < 6 → 0 ≤ wI (l3 + (k : Int)) ∧ wI (l3 + (k : Int)) < Ln) {sc sm : PS} (hR : Rel sc sm) (nx : ∀ sc' sm', Rel sc' sm' → J X (WL Gc Gm) (QL b) (sc', sm') [(0, .ref b), (1, .ref (Gc.2.2.1 0)), (2, .ref (Gm.2.2.1 0)), (3, .int (oI l3))] 1246 [] (some ())) : J X (WL Gc Gm) (QL b) (sc, sm) [(0, .ref b), (1, .ref (Gc.2.2.1 0)), (2, .ref (Gm.2.2.1 0)), (3, .int (oI l3))] 816 [] (some ()) := by
  obtain ⟨r, sc', r', sm', e1, e2, hw, hR'⟩ := hs sc sm hR ((xs (wI (l3 + 1)).toNat).toInt) (rng_of _)
  refine j_aload_n (pc := 816) C.c dL_law_816 rfl 1 rfl ?_
  refine j_aload_n (pc := 817) C.c dL_law_817 rfl 0 rfl ?_
  refine j_iload_n (pc := 818) C.c dL_law_818 rfl 3 rfl ?_
  refine j_iconst (pc := 819) C.c dL_law_819 ?_
  refine j_iadd (pc := 820) C.c dL_law_820 ?_
  refine j_sld (pc := 821) C (hi 1 (by omega)) dL_law_821 ?_
  refine jl_callC (pc := 822) C rfl (X6_book_m _ hjc e1) kV_L_108 rfl (by omega) rfl (Nat.le_of_ble_eq_true rfl) dL_law_822 ?_
  refine j_aload_n (pc := 825) C.c dL_law_825 rfl 2 rfl ?_
  refine j_aload_n (pc := 826) C.c dL_law_826 rfl 0 rfl ?_
  refine j_iload_n (pc := 827) C.c dL_law_827 rfl 3 rfl ?_
  refine j_iconst (pc := 828) C.c dL_law_828 ?_
  refine j_iadd (pc := 829) C.c dL_law_829 ?_
  refine j_sld (pc := 830) C (hi 1 (by omega)) dL_law_830 ?_
  refine jl_callM (pc := 831) C rfl (X7_book_m _ hjm e2) kV_L_111 rfl (by omega) rfl (Nat.le_of_ble_eq_true rfl) dL_law_831 ?_
  refine j_icmp_eqH (pc := 834) (tgt := 1246) C.c dL_law_834 rfl (fun _ => ?_) (fun h => absurd hw h)
  exact nx sc' sm' hR'
set_option maxHeartbeats 4000000 in
set_option maxRecDepth 100000 in
theorem lcase_looked {Rel : PS → PS → Prop} (hs : Sim_looked Rel) {X : JX} {Gc Gm : GD} {b Ln : Nat} {xs : Nat → Int32} (C : lC X Gc Gm b Ln xs) (hjc : zInj sC Gc) (hjm : zInj sM Gm) {l3 : Int} (hi : ∀ k : Nat, k < 6 → 0 ≤ wI (l3 + (k : Int)) ∧ wI (l3 + (k : Int)) < Ln) {sc sm : PS} (hR : Rel sc sm) (nx : ∀ sc' sm', Rel sc' sm' → J X (WL Gc Gm) (QL b) (sc', sm') [(0, .ref b), (1, .ref (Gc.2.2.1 0)), (2, .ref (Gm.2.2.1 0)), (3, .int (oI l3))] 1246 [] (some ())) : J X (WL Gc Gm) (QL b) (sc, sm) [(0, .ref b), (1, .ref (Gc.2.2.1 0)), (2, .ref (Gm.2.2.1 0)), (3, .int (oI l3))] 839 [] (some ()) := by
  obtain ⟨r, sc', r', sm', e1, e2, hw, hR'⟩ := hs sc sm hR  
  refine j_aload_n (pc := 839) C.c dL_law_839 rfl 1 rfl ?_
  refine jl_callC (pc := 840) C rfl (X6_looked_m _ hjc e1) kV_L_112 rfl (by omega) rfl (Nat.le_of_ble_eq_true rfl) dL_law_840 ?_
  refine j_aload_n (pc := 843) C.c dL_law_843 rfl 2 rfl ?_
  refine jl_callM (pc := 844) C rfl (X7_looked_m _ hjm e2) kV_L_115 rfl (by omega) rfl (Nat.le_of_ble_eq_true rfl) dL_law_844 ?_
  refine j_icmp_eqH (pc := 847) (tgt := 1246) C.c dL_law_847 rfl (fun _ => ?_) (fun h => absurd hw h)
  exact nx sc' sm' hR'
set_option maxHeartbeats 4000000 in
set_option maxRecDepth 100000 in
theorem lcase_judge {Rel : PS → PS → Prop} (hs : Sim_judge Rel) {X : JX} {Gc Gm : GD} {b Ln : Nat} {xs : Nat → Int32} (C : lC X Gc Gm b Ln xs) (hjc : zInj sC Gc) (hjm : zInj sM Gm) {l3 : Int} (hi : ∀ k : Nat, k < 6 → 0 ≤ wI (l3 + (k : Int)) ∧ wI (l3 + (k : Int)) < Ln) {sc sm : PS} (hR : Rel sc sm) (nx : ∀ sc' sm', Rel sc' sm' → J X (WL Gc Gm) (QL b) (sc', sm') [(0, .ref b), (1, .ref (Gc.2.2.1 0)), (2, .ref (Gm.2.2.1 0)), (3, .int (oI l3))] 1246 [] (some ())) : J X (WL Gc Gm) (QL b) (sc, sm) [(0, .ref b), (1, .ref (Gc.2.2.1 0)), (2, .ref (Gm.2.2.1 0)), (3, .int (oI l3))] 852 [] (some ()) := by
  obtain ⟨r, r', e1, e2, hw, hR'⟩ := hs sc sm hR ((xs (wI (l3 + 1)).toNat).toInt) ((xs (wI (l3 + 2)).toNat).toInt) (rng_of _) (rng_of _)
  refine j_aload_n (pc := 852) C.c dL_law_852 rfl 1 rfl ?_
  refine j_aload_n (pc := 853) C.c dL_law_853 rfl 0 rfl ?_
  refine j_iload_n (pc := 854) C.c dL_law_854 rfl 3 rfl ?_
  refine j_iconst (pc := 855) C.c dL_law_855 ?_
  refine j_iadd (pc := 856) C.c dL_law_856 ?_
  refine j_sld (pc := 857) C (hi 1 (by omega)) dL_law_857 ?_
  refine j_aload_n (pc := 858) C.c dL_law_858 rfl 0 rfl ?_
  refine j_iload_n (pc := 859) C.c dL_law_859 rfl 3 rfl ?_
  refine j_iconst (pc := 860) C.c dL_law_860 ?_
  refine j_iadd (pc := 861) C.c dL_law_861 ?_
  refine j_sld (pc := 862) C (hi 2 (by omega)) dL_law_862 ?_
  refine jl_callC (pc := 863) C rfl (X6_judge_m _ hjc e1) kV_L_116 rfl (by omega) rfl (Nat.le_of_ble_eq_true rfl) dL_law_863 ?_
  refine j_aload_n (pc := 866) C.c dL_law_866 rfl 2 rfl ?_
  refine j_aload_n (pc := 867) C.c dL_law_867 rfl 0 rfl ?_
  refine j_iload_n (pc := 868) C.c dL_law_868 rfl 3 rfl ?_
  refine j_iconst (pc := 869) C.c dL_law_869 ?_
  refine j_iadd (pc := 870) C.c dL_law_870 ?_
  refine j_sld (pc := 871) C (hi 1 (by omega)) dL_law_871 ?_
  refine j_aload_n (pc := 872) C.c dL_law_872 rfl 0 rfl ?_
  refine j_iload_n (pc := 873) C.c dL_law_873 rfl 3 rfl ?_
  refine j_iconst (pc := 874) C.c dL_law_874 ?_
  refine j_iadd (pc := 875) C.c dL_law_875 ?_
  refine j_sld (pc := 876) C (hi 2 (by omega)) dL_law_876 ?_
  refine jl_callM (pc := 877) C rfl (X7_judge_m _ hjm e2) kV_L_119 rfl (by omega) rfl (Nat.le_of_ble_eq_true rfl) dL_law_877 ?_
  refine j_icmp_eqH (pc := 880) (tgt := 1246) C.c dL_law_880 rfl (fun _ => ?_) (fun h => absurd hw h)
  exact nx _ _ hR'
set_option maxHeartbeats 4000000 in
set_option maxRecDepth 100000 in
theorem lcase_image {Rel : PS → PS → Prop} (hs : Sim_image Rel) {X : JX} {Gc Gm : GD} {b Ln : Nat} {xs : Nat → Int32} (C : lC X Gc Gm b Ln xs) (hjc : zInj sC Gc) (hjm : zInj sM Gm) {l3 : Int} (hi : ∀ k : Nat, k < 6 → 0 ≤ wI (l3 + (k : Int)) ∧ wI (l3 + (k : Int)) < Ln) {sc sm : PS} (hR : Rel sc sm) (nx : ∀ sc' sm', Rel sc' sm' → J X (WL Gc Gm) (QL b) (sc', sm') [(0, .ref b), (1, .ref (Gc.2.2.1 0)), (2, .ref (Gm.2.2.1 0)), (3, .int (oI l3))] 1246 [] (some ())) : J X (WL Gc Gm) (QL b) (sc, sm) [(0, .ref b), (1, .ref (Gc.2.2.1 0)), (2, .ref (Gm.2.2.1 0)), (3, .int (oI l3))] 885 [] (some ()) := by
  obtain ⟨r, sc', r', sm', e1, e2, hw, hR'⟩ := hs sc sm hR  
  refine j_aload_n (pc := 885) C.c dL_law_885 rfl 1 rfl ?_
  refine jl_callC (pc := 886) C rfl (X6_image_m _ hjc e1) kV_L_120 rfl (by omega) rfl (Nat.le_of_ble_eq_true rfl) dL_law_886 ?_
  refine j_aload_n (pc := 889) C.c dL_law_889 rfl 2 rfl ?_
  refine jl_callM (pc := 890) C rfl (X7_image_m _ hjm e2) kV_L_123 rfl (by omega) rfl (Nat.le_of_ble_eq_true rfl) dL_law_890 ?_
  refine j_icmp_eqH (pc := 893) (tgt := 1246) C.c dL_law_893 rfl (fun _ => ?_) (fun h => absurd hw h)
  exact nx sc' sm' hR'
set_option maxHeartbeats 4000000 in
set_option maxRecDepth 100000 in
theorem lcase_undo {Rel : PS → PS → Prop} (hs : Sim_undo Rel) {X : JX} {Gc Gm : GD} {b Ln : Nat} {xs : Nat → Int32} (C : lC X Gc Gm b Ln xs) (hjc : zInj sC Gc) (hjm : zInj sM Gm) {l3 : Int} (hi : ∀ k : Nat, k < 6 → 0 ≤ wI (l3 + (k : Int)) ∧ wI (l3 + (k : Int)) < Ln) {sc sm : PS} (hR : Rel sc sm) (nx : ∀ sc' sm', Rel sc' sm' → J X (WL Gc Gm) (QL b) (sc', sm') [(0, .ref b), (1, .ref (Gc.2.2.1 0)), (2, .ref (Gm.2.2.1 0)), (3, .int (oI l3))] 1246 [] (some ())) : J X (WL Gc Gm) (QL b) (sc, sm) [(0, .ref b), (1, .ref (Gc.2.2.1 0)), (2, .ref (Gm.2.2.1 0)), (3, .int (oI l3))] 898 [] (some ()) := by
  obtain ⟨r, sc', r', sm', e1, e2, hw, hR'⟩ := hs sc sm hR  
  refine j_aload_n (pc := 898) C.c dL_law_898 rfl 1 rfl ?_
  refine jl_callC (pc := 899) C rfl (X6_undo_m _ hjc e1) kV_L_124 rfl (by omega) rfl (Nat.le_of_ble_eq_true rfl) dL_law_899 ?_
  refine j_aload_n (pc := 902) C.c dL_law_902 rfl 2 rfl ?_
  refine jl_callM (pc := 903) C rfl (X7_undo_m _ hjm e2) kV_L_127 rfl (by omega) rfl (Nat.le_of_ble_eq_true rfl) dL_law_903 ?_
  refine j_icmp_eqH (pc := 906) (tgt := 1246) C.c dL_law_906 rfl (fun _ => ?_) (fun h => absurd hw h)
  exact nx sc' sm' hR'
set_option maxHeartbeats 4000000 in
set_option maxRecDepth 100000 in
theorem lcase_act {Rel : PS → PS → Prop} (hs : Sim_act Rel) {X : JX} {Gc Gm : GD} {b Ln : Nat} {xs : Nat → Int32} (C : lC X Gc Gm b Ln xs) (hjc : zInj sC Gc) (hjm : zInj sM Gm) {l3 : Int} (hi : ∀ k : Nat, k < 6 → 0 ≤ wI (l3 + (k : Int)) ∧ wI (l3 + (k : Int)) < Ln) {sc sm : PS} (hR : Rel sc sm) (nx : ∀ sc' sm', Rel sc' sm' → J X (WL Gc Gm) (QL b) (sc', sm') [(0, .ref b), (1, .ref (Gc.2.2.1 0)), (2, .ref (Gm.2.2.1 0)), (3, .int (oI l3))] 1246 [] (some ())) : J X (WL Gc Gm) (QL b) (sc, sm) [(0, .ref b), (1, .ref (Gc.2.2.1 0)), (2, .ref (Gm.2.2.1 0)), (3, .int (oI l3))] 911 [] (some ()) := by
  obtain ⟨r, sc', r', sm', e1, e2, hw, hR'⟩ := hs sc sm hR ((xs (wI (l3 + 1)).toNat).toInt) ((xs (wI (l3 + 2)).toNat).toInt) ((xs (wI (l3 + 3)).toNat).toInt) (rng_of _) (rng_of _) (rng_of _)
  refine j_aload_n (pc := 911) C.c dL_law_911 rfl 1 rfl ?_
  refine j_aload_n (pc := 912) C.c dL_law_912 rfl 0 rfl ?_
  refine j_iload_n (pc := 913) C.c dL_law_913 rfl 3 rfl ?_
  refine j_iconst (pc := 914) C.c dL_law_914 ?_
  refine j_iadd (pc := 915) C.c dL_law_915 ?_
  refine j_sld (pc := 916) C (hi 1 (by omega)) dL_law_916 ?_
  refine j_aload_n (pc := 917) C.c dL_law_917 rfl 0 rfl ?_
  refine j_iload_n (pc := 918) C.c dL_law_918 rfl 3 rfl ?_
  refine j_iconst (pc := 919) C.c dL_law_919 ?_
  refine j_iadd (pc := 920) C.c dL_law_920 ?_
  refine j_sld (pc := 921) C (hi 2 (by omega)) dL_law_921 ?_
  refine j_aload_n (pc := 922) C.c dL_law_922 rfl 0 rfl ?_
  refine j_iload_n (pc := 923) C.c dL_law_923 rfl 3 rfl ?_
  refine j_iconst (pc := 924) C.c dL_law_924 ?_
  refine j_iadd (pc := 925) C.c dL_law_925 ?_
  refine j_sld (pc := 926) C (hi 3 (by omega)) dL_law_926 ?_
  refine jl_callC (pc := 927) C rfl (X6_act_m _ hjc e1) kV_L_128 rfl (by omega) rfl (Nat.le_of_ble_eq_true rfl) dL_law_927 ?_
  refine j_aload_n (pc := 930) C.c dL_law_930 rfl 2 rfl ?_
  refine j_aload_n (pc := 931) C.c dL_law_931 rfl 0 rfl ?_
  refine j_iload_n (pc := 932) C.c dL_law_932 rfl 3 rfl ?_
  refine j_iconst (pc := 933) C.c dL_law_933 ?_
  refine j_iadd (pc := 934) C.c dL_law_934 ?_
  refine j_sld (pc := 935) C (hi 1 (by omega)) dL_law_935 ?_
  refine j_aload_n (pc := 936) C.c dL_law_936 rfl 0 rfl ?_
  refine j_iload_n (pc := 937) C.c dL_law_937 rfl 3 rfl ?_
  refine j_iconst (pc := 938) C.c dL_law_938 ?_
  refine j_iadd (pc := 939) C.c dL_law_939 ?_
  refine j_sld (pc := 940) C (hi 2 (by omega)) dL_law_940 ?_
  refine j_aload_n (pc := 941) C.c dL_law_941 rfl 0 rfl ?_
  refine j_iload_n (pc := 942) C.c dL_law_942 rfl 3 rfl ?_
  refine j_iconst (pc := 943) C.c dL_law_943 ?_
  refine j_iadd (pc := 944) C.c dL_law_944 ?_
  refine j_sld (pc := 945) C (hi 3 (by omega)) dL_law_945 ?_
  refine jl_callM (pc := 946) C rfl (X7_act_m _ hjm e2) kV_L_131 rfl (by omega) rfl (Nat.le_of_ble_eq_true rfl) dL_law_946 ?_
  refine j_icmp_eqH (pc := 949) (tgt := 1246) C.c dL_law_949 rfl (fun _ => ?_) (fun h => absurd hw h)
  exact nx sc' sm' hR'
set_option maxHeartbeats 4000000 in
set_option maxRecDepth 100000 in
theorem lcase_trace {Rel : PS → PS → Prop} (hs : Sim_trace Rel) {X : JX} {Gc Gm : GD} {b Ln : Nat} {xs : Nat → Int32} (C : lC X Gc Gm b Ln xs) (hjc : zInj sC Gc) (hjm : zInj sM Gm) {l3 : Int} (hi : ∀ k : Nat, k < 6 → 0 ≤ wI (l3 + (k : Int)) ∧ wI (l3 + (k : Int)) < Ln) {sc sm : PS} (hR : Rel sc sm) (nx : ∀ sc' sm', Rel sc' sm' → J X (WL Gc Gm) (QL b) (sc', sm') [(0, .ref b), (1, .ref (Gc.2.2.1 0)), (2, .ref (Gm.2.2.1 0)), (3, .int (oI l3))] 1246 [] (some ())) : J X (WL Gc Gm) (QL b) (sc, sm) [(0, .ref b), (1, .ref (Gc.2.2.1 0)), (2, .ref (Gm.2.2.1 0)), (3, .int (oI l3))] 954 [] (some ()) := by
  obtain ⟨r, r', e1, e2, hw, hR'⟩ := hs sc sm hR ((xs (wI (l3 + 1)).toNat).toInt) (rng_of _)
  refine j_aload_n (pc := 954) C.c dL_law_954 rfl 1 rfl ?_
  refine j_aload_n (pc := 955) C.c dL_law_955 rfl 0 rfl ?_
  refine j_iload_n (pc := 956) C.c dL_law_956 rfl 3 rfl ?_
  refine j_iconst (pc := 957) C.c dL_law_957 ?_
  refine j_iadd (pc := 958) C.c dL_law_958 ?_
  refine j_sld (pc := 959) C (hi 1 (by omega)) dL_law_959 ?_
  refine jl_callC (pc := 960) C rfl (X6_trace_m _ hjc e1) kV_L_132 rfl (by omega) rfl (Nat.le_of_ble_eq_true rfl) dL_law_960 ?_
  refine j_aload_n (pc := 963) C.c dL_law_963 rfl 2 rfl ?_
  refine j_aload_n (pc := 964) C.c dL_law_964 rfl 0 rfl ?_
  refine j_iload_n (pc := 965) C.c dL_law_965 rfl 3 rfl ?_
  refine j_iconst (pc := 966) C.c dL_law_966 ?_
  refine j_iadd (pc := 967) C.c dL_law_967 ?_
  refine j_sld (pc := 968) C (hi 1 (by omega)) dL_law_968 ?_
  refine jl_callM (pc := 969) C rfl (X7_trace_m _ hjm e2) kV_L_135 rfl (by omega) rfl (Nat.le_of_ble_eq_true rfl) dL_law_969 ?_
  refine j_icmp_eqH (pc := 972) (tgt := 1246) C.c dL_law_972 rfl (fun _ => ?_) (fun h => absurd hw h)
  exact nx _ _ hR'
set_option maxHeartbeats 4000000 in
set_option maxRecDepth 100000 in
theorem lcase_taken {Rel : PS → PS → Prop} (hs : Sim_taken Rel) {X : JX} {Gc Gm : GD} {b Ln : Nat} {xs : Nat → Int32} (C : lC X Gc Gm b Ln xs) (hjc : zInj sC Gc) (hjm : zInj sM Gm) {l3 : Int} (hi : ∀ k : Nat, k < 6 → 0 ≤ wI (l3 + (k : Int)) ∧ wI (l3 + (k : Int)) < Ln) {sc sm : PS} (hR : Rel sc sm) (nx : ∀ sc' sm', Rel sc' sm' → J X (WL Gc Gm) (QL b) (sc', sm') [(0, .ref b), (1, .ref (Gc.2.2.1 0)), (2, .ref (Gm.2.2.1 0)), (3, .int (oI l3))] 1246 [] (some ())) : J X (WL Gc Gm) (QL b) (sc, sm) [(0, .ref b), (1, .ref (Gc.2.2.1 0)), (2, .ref (Gm.2.2.1 0)), (3, .int (oI l3))] 977 [] (some ()) := by
  obtain ⟨r, r', e1, e2, hw, hR'⟩ := hs sc sm hR ((xs (wI (l3 + 1)).toNat).toInt) ((xs (wI (l3 + 2)).toNat).toInt) (rng_of _) (rng_of _)
  refine j_aload_n (pc := 977) C.c dL_law_977 rfl 1 rfl ?_
  refine j_aload_n (pc := 978) C.c dL_law_978 rfl 0 rfl ?_
  refine j_iload_n (pc := 979) C.c dL_law_979 rfl 3 rfl ?_
  refine j_iconst (pc := 980) C.c dL_law_980 ?_
  refine j_iadd (pc := 981) C.c dL_law_981 ?_
  refine j_sld (pc := 982) C (hi 1 (by omega)) dL_law_982 ?_
  refine j_aload_n (pc := 983) C.c dL_law_983 rfl 0 rfl ?_
  refine j_iload_n (pc := 984) C.c dL_law_984 rfl 3 rfl ?_
  refine j_iconst (pc := 985) C.c dL_law_985 ?_
  refine j_iadd (pc := 986) C.c dL_law_986 ?_
  refine j_sld (pc := 987) C (hi 2 (by omega)) dL_law_987 ?_
  refine jl_callC (pc := 988) C rfl (X6_taken_m _ hjc e1) kV_L_136 rfl (by omega) rfl (Nat.le_of_ble_eq_true rfl) dL_law_988 ?_
  refine j_aload_n (pc := 991) C.c dL_law_991 rfl 2 rfl ?_
  refine j_aload_n (pc := 992) C.c dL_law_992 rfl 0 rfl ?_
  refine j_iload_n (pc := 993) C.c dL_law_993 rfl 3 rfl ?_
  refine j_iconst (pc := 994) C.c dL_law_994 ?_
  refine j_iadd (pc := 995) C.c dL_law_995 ?_
  refine j_sld (pc := 996) C (hi 1 (by omega)) dL_law_996 ?_
  refine j_aload_n (pc := 997) C.c dL_law_997 rfl 0 rfl ?_
  refine j_iload_n (pc := 998) C.c dL_law_998 rfl 3 rfl ?_
  refine j_iconst (pc := 999) C.c dL_law_999 ?_
  refine j_iadd (pc := 1000) C.c dL_law_1000 ?_
  refine j_sld (pc := 1001) C (hi 2 (by omega)) dL_law_1001 ?_
  refine jl_callM (pc := 1002) C rfl (X7_taken_m _ hjm e2) kV_L_139 rfl (by omega) rfl (Nat.le_of_ble_eq_true rfl) dL_law_1002 ?_
  refine j_icmp_eqH (pc := 1005) (tgt := 1246) C.c dL_law_1005 rfl (fun _ => ?_) (fun h => absurd hw h)
  exact nx _ _ hR'
set_option maxHeartbeats 4000000 in
set_option maxRecDepth 100000 in
theorem lcase_count {Rel : PS → PS → Prop} (hs : Sim_count Rel) {X : JX} {Gc Gm : GD} {b Ln : Nat} {xs : Nat → Int32} (C : lC X Gc Gm b Ln xs) (hjc : zInj sC Gc) (hjm : zInj sM Gm) {l3 : Int} (hi : ∀ k : Nat, k < 6 → 0 ≤ wI (l3 + (k : Int)) ∧ wI (l3 + (k : Int)) < Ln) {sc sm : PS} (hR : Rel sc sm) (nx : ∀ sc' sm', Rel sc' sm' → J X (WL Gc Gm) (QL b) (sc', sm') [(0, .ref b), (1, .ref (Gc.2.2.1 0)), (2, .ref (Gm.2.2.1 0)), (3, .int (oI l3))] 1246 [] (some ())) : J X (WL Gc Gm) (QL b) (sc, sm) [(0, .ref b), (1, .ref (Gc.2.2.1 0)), (2, .ref (Gm.2.2.1 0)), (3, .int (oI l3))] 1010 [] (some ()) := by
  have hw := hs sc sm hR ((xs (wI (l3 + 1)).toNat).toInt) (rng_of _)
  refine j_aload_n (pc := 1010) C.c dL_law_1010 rfl 1 rfl ?_
  refine j_aload_n (pc := 1011) C.c dL_law_1011 rfl 0 rfl ?_
  refine j_iload_n (pc := 1012) C.c dL_law_1012 rfl 3 rfl ?_
  refine j_iconst (pc := 1013) C.c dL_law_1013 ?_
  refine j_iadd (pc := 1014) C.c dL_law_1014 ?_
  refine j_sld (pc := 1015) C (hi 1 (by omega)) dL_law_1015 ?_
  refine jl_callC (pc := 1016) C rfl (X6_count_m _ hjc rfl) kV_L_140 rfl (by omega) rfl (Nat.le_of_ble_eq_true rfl) dL_law_1016 ?_
  refine j_aload_n (pc := 1019) C.c dL_law_1019 rfl 2 rfl ?_
  refine j_aload_n (pc := 1020) C.c dL_law_1020 rfl 0 rfl ?_
  refine j_iload_n (pc := 1021) C.c dL_law_1021 rfl 3 rfl ?_
  refine j_iconst (pc := 1022) C.c dL_law_1022 ?_
  refine j_iadd (pc := 1023) C.c dL_law_1023 ?_
  refine j_sld (pc := 1024) C (hi 1 (by omega)) dL_law_1024 ?_
  refine jl_callM (pc := 1025) C rfl (X7_count_m _ hjm rfl) kV_L_143 rfl (by omega) rfl (Nat.le_of_ble_eq_true rfl) dL_law_1025 ?_
  refine j_icmp_eqH (pc := 1028) (tgt := 1246) C.c dL_law_1028 rfl (fun _ => ?_) (fun h => absurd hw h)
  exact nx _ _ hR
set_option maxHeartbeats 4000000 in
set_option maxRecDepth 100000 in
theorem lcase_tape {Rel : PS → PS → Prop} (hs : Sim_tape Rel) {X : JX} {Gc Gm : GD} {b Ln : Nat} {xs : Nat → Int32} (C : lC X Gc Gm b Ln xs) (hjc : zInj sC Gc) (hjm : zInj sM Gm) {l3 : Int} (hi : ∀ k : Nat, k < 6 → 0 ≤ wI (l3 + (k : Int)) ∧ wI (l3 + (k : Int)) < Ln) {sc sm : PS} (hR : Rel sc sm) (nx : ∀ sc' sm', Rel sc' sm' → J X (WL Gc Gm) (QL b) (sc', sm') [(0, .ref b), (1, .ref (Gc.2.2.1 0)), (2, .ref (Gm.2.2.1 0)), (3, .int (oI l3))] 1246 [] (some ())) : J X (WL Gc Gm) (QL b) (sc, sm) [(0, .ref b), (1, .ref (Gc.2.2.1 0)), (2, .ref (Gm.2.2.1 0)), (3, .int (oI l3))] 1033 [] (some ()) := by
  obtain ⟨r, sc', r', sm', e1, e2, hw, hR'⟩ := hs sc sm hR ((xs (wI (l3 + 1)).toNat).toInt) ((xs (wI (l3 + 2)).toNat).toInt) ((xs (wI (l3 + 3)).toNat).toInt) (rng_of _) (rng_of _) (rng_of _)
  refine j_aload_n (pc := 1033) C.c dL_law_1033 rfl 1 rfl ?_
  refine j_aload_n (pc := 1034) C.c dL_law_1034 rfl 0 rfl ?_
  refine j_iload_n (pc := 1035) C.c dL_law_1035 rfl 3 rfl ?_
  refine j_iconst (pc := 1036) C.c dL_law_1036 ?_
  refine j_iadd (pc := 1037) C.c dL_law_1037 ?_
  refine j_sld (pc := 1038) C (hi 1 (by omega)) dL_law_1038 ?_
  refine j_aload_n (pc := 1039) C.c dL_law_1039 rfl 0 rfl ?_
  refine j_iload_n (pc := 1040) C.c dL_law_1040 rfl 3 rfl ?_
  refine j_iconst (pc := 1041) C.c dL_law_1041 ?_
  refine j_iadd (pc := 1042) C.c dL_law_1042 ?_
  refine j_sld (pc := 1043) C (hi 2 (by omega)) dL_law_1043 ?_
  refine j_aload_n (pc := 1044) C.c dL_law_1044 rfl 0 rfl ?_
  refine j_iload_n (pc := 1045) C.c dL_law_1045 rfl 3 rfl ?_
  refine j_iconst (pc := 1046) C.c dL_law_1046 ?_
  refine j_iadd (pc := 1047) C.c dL_law_1047 ?_
  refine j_sld (pc := 1048) C (hi 3 (by omega)) dL_law_1048 ?_
  refine jl_callC (pc := 1049) C rfl (X6_tape_m _ hjc e1) kV_L_144 rfl (by omega) rfl (Nat.le_of_ble_eq_true rfl) dL_law_1049 ?_
  refine j_aload_n (pc := 1052) C.c dL_law_1052 rfl 2 rfl ?_
  refine j_aload_n (pc := 1053) C.c dL_law_1053 rfl 0 rfl ?_
  refine j_iload_n (pc := 1054) C.c dL_law_1054 rfl 3 rfl ?_
  refine j_iconst (pc := 1055) C.c dL_law_1055 ?_
  refine j_iadd (pc := 1056) C.c dL_law_1056 ?_
  refine j_sld (pc := 1057) C (hi 1 (by omega)) dL_law_1057 ?_
  refine j_aload_n (pc := 1058) C.c dL_law_1058 rfl 0 rfl ?_
  refine j_iload_n (pc := 1059) C.c dL_law_1059 rfl 3 rfl ?_
  refine j_iconst (pc := 1060) C.c dL_law_1060 ?_
  refine j_iadd (pc := 1061) C.c dL_law_1061 ?_
  refine j_sld (pc := 1062) C (hi 2 (by omega)) dL_law_1062 ?_
  refine j_aload_n (pc := 1063) C.c dL_law_1063 rfl 0 rfl ?_
  refine j_iload_n (pc := 1064) C.c dL_law_1064 rfl 3 rfl ?_
  refine j_iconst (pc := 1065) C.c dL_law_1065 ?_
  refine j_iadd (pc := 1066) C.c dL_law_1066 ?_
  refine j_sld (pc := 1067) C (hi 3 (by omega)) dL_law_1067 ?_
  refine jl_callM (pc := 1068) C rfl (X7_tape_m _ hjm e2) kV_L_147 rfl (by omega) rfl (Nat.le_of_ble_eq_true rfl) dL_law_1068 ?_
  refine j_icmp_eqH (pc := 1071) (tgt := 1246) C.c dL_law_1071 rfl (fun _ => ?_) (fun h => absurd hw h)
  exact nx sc' sm' hR'
set_option maxHeartbeats 4000000 in
set_option maxRecDepth 100000 in
theorem lcase_item {Rel : PS → PS → Prop} (hs : Sim_item Rel) {X : JX} {Gc Gm : GD} {b Ln : Nat} {xs : Nat → Int32} (C : lC X Gc Gm b Ln xs) (hjc : zInj sC Gc) (hjm : zInj sM Gm) {l3 : Int} (hi : ∀ k : Nat, k < 6 → 0 ≤ wI (l3 + (k : Int)) ∧ wI (l3 + (k : Int)) < Ln) {sc sm : PS} (hR : Rel sc sm) (nx : ∀ sc' sm', Rel sc' sm' → J X (WL Gc Gm) (QL b) (sc', sm') [(0, .ref b), (1, .ref (Gc.2.2.1 0)), (2, .ref (Gm.2.2.1 0)), (3, .int (oI l3))] 1246 [] (some ())) : J X (WL Gc Gm) (QL b) (sc, sm) [(0, .ref b), (1, .ref (Gc.2.2.1 0)), (2, .ref (Gm.2.2.1 0)), (3, .int (oI l3))] 1076 [] (some ()) := by
  obtain ⟨r, sc', r', sm', e1, e2, hw, hR'⟩ := hs sc sm hR ((xs (wI (l3 + 1)).toNat).toInt) ((xs (wI (l3 + 2)).toNat).toInt) ((zlor (zlshl (wI ((xs (wI (l3 + 3)).toNat).toInt)) 32) (zland (wI ((xs (wI (l3 + 4)).toNat).toInt)) 4294967295))) (rng_of _) (rng_of _) (rngL_of _)
  refine j_aload_n (pc := 1076) C.c dL_law_1076 rfl 1 rfl ?_
  refine j_aload_n (pc := 1077) C.c dL_law_1077 rfl 0 rfl ?_
  refine j_iload_n (pc := 1078) C.c dL_law_1078 rfl 3 rfl ?_
  refine j_iconst (pc := 1079) C.c dL_law_1079 ?_
  refine j_iadd (pc := 1080) C.c dL_law_1080 ?_
  refine j_sld (pc := 1081) C (hi 1 (by omega)) dL_law_1081 ?_
  refine j_aload_n (pc := 1082) C.c dL_law_1082 rfl 0 rfl ?_
  refine j_iload_n (pc := 1083) C.c dL_law_1083 rfl 3 rfl ?_
  refine j_iconst (pc := 1084) C.c dL_law_1084 ?_
  refine j_iadd (pc := 1085) C.c dL_law_1085 ?_
  refine j_sld (pc := 1086) C (hi 2 (by omega)) dL_law_1086 ?_
  refine j_aload_n (pc := 1087) C.c dL_law_1087 rfl 0 rfl ?_
  refine j_iload_n (pc := 1088) C.c dL_law_1088 rfl 3 rfl ?_
  refine j_iconst (pc := 1089) C.c dL_law_1089 ?_
  refine j_iadd (pc := 1090) C.c dL_law_1090 ?_
  refine j_sld (pc := 1091) C (hi 3 (by omega)) dL_law_1091 ?_
  refine j_i2l (pc := 1092) C.c dL_law_1092 ?_
  refine j_bipush (pc := 1093) C.c dL_law_1093 (by decide) ?_
  refine j_lshl (pc := 1095) C.c dL_law_1095 ?_
  refine j_aload_n (pc := 1096) C.c dL_law_1096 rfl 0 rfl ?_
  refine j_iload_n (pc := 1097) C.c dL_law_1097 rfl 3 rfl ?_
  refine j_iconst (pc := 1098) C.c dL_law_1098 ?_
  refine j_iadd (pc := 1099) C.c dL_law_1099 ?_
  refine j_sld (pc := 1100) C (hi 4 (by omega)) dL_law_1100 ?_
  refine j_i2l (pc := 1101) C.c dL_law_1101 ?_
  refine j_ldc2 (pc := 1102) C.c (z := 4294967295) (zT_of (i := 1462) (by decide +kernel) rfl) rfl dL_law_1102 ?_
  refine j_land (pc := 1105) C.c dL_law_1105 ?_
  refine j_lor (pc := 1106) C.c dL_law_1106 ?_
  refine jl_callC (pc := 1107) C rfl (X6_item_m _ hjc e1) kV_L_150 rfl (by omega) rfl (Nat.le_of_ble_eq_true rfl) dL_law_1107 ?_
  refine j_aload_n (pc := 1110) C.c dL_law_1110 rfl 2 rfl ?_
  refine j_aload_n (pc := 1111) C.c dL_law_1111 rfl 0 rfl ?_
  refine j_iload_n (pc := 1112) C.c dL_law_1112 rfl 3 rfl ?_
  refine j_iconst (pc := 1113) C.c dL_law_1113 ?_
  refine j_iadd (pc := 1114) C.c dL_law_1114 ?_
  refine j_sld (pc := 1115) C (hi 1 (by omega)) dL_law_1115 ?_
  refine j_aload_n (pc := 1116) C.c dL_law_1116 rfl 0 rfl ?_
  refine j_iload_n (pc := 1117) C.c dL_law_1117 rfl 3 rfl ?_
  refine j_iconst (pc := 1118) C.c dL_law_1118 ?_
  refine j_iadd (pc := 1119) C.c dL_law_1119 ?_
  refine j_sld (pc := 1120) C (hi 2 (by omega)) dL_law_1120 ?_
  refine j_aload_n (pc := 1121) C.c dL_law_1121 rfl 0 rfl ?_
  refine j_iload_n (pc := 1122) C.c dL_law_1122 rfl 3 rfl ?_
  refine j_iconst (pc := 1123) C.c dL_law_1123 ?_
  refine j_iadd (pc := 1124) C.c dL_law_1124 ?_
  refine j_sld (pc := 1125) C (hi 3 (by omega)) dL_law_1125 ?_
  refine j_i2l (pc := 1126) C.c dL_law_1126 ?_
  refine j_bipush (pc := 1127) C.c dL_law_1127 (by decide) ?_
  refine j_lshl (pc := 1129) C.c dL_law_1129 ?_
  refine j_aload_n (pc := 1130) C.c dL_law_1130 rfl 0 rfl ?_
  refine j_iload_n (pc := 1131) C.c dL_law_1131 rfl 3 rfl ?_
  refine j_iconst (pc := 1132) C.c dL_law_1132 ?_
  refine j_iadd (pc := 1133) C.c dL_law_1133 ?_
  refine j_sld (pc := 1134) C (hi 4 (by omega)) dL_law_1134 ?_
  refine j_i2l (pc := 1135) C.c dL_law_1135 ?_
  refine j_ldc2 (pc := 1136) C.c (z := 4294967295) (zT_of (i := 1462) (by decide +kernel) rfl) rfl dL_law_1136 ?_
  refine j_land (pc := 1139) C.c dL_law_1139 ?_
  refine j_lor (pc := 1140) C.c dL_law_1140 ?_
  refine jl_callM (pc := 1141) C rfl (X7_item_m _ hjm e2) kV_L_154 rfl (by omega) rfl (Nat.le_of_ble_eq_true rfl) dL_law_1141 ?_
  refine j_icmp_eqH (pc := 1144) (tgt := 1246) C.c dL_law_1144 rfl (fun _ => ?_) (fun h => absurd hw h)
  exact nx sc' sm' hR'
set_option maxHeartbeats 4000000 in
set_option maxRecDepth 100000 in
theorem lcase_read {Rel : PS → PS → Prop} (hs : Sim_read Rel) {X : JX} {Gc Gm : GD} {b Ln : Nat} {xs : Nat → Int32} (C : lC X Gc Gm b Ln xs) (hjc : zInj sC Gc) (hjm : zInj sM Gm) {l3 : Int} (hi : ∀ k : Nat, k < 6 → 0 ≤ wI (l3 + (k : Int)) ∧ wI (l3 + (k : Int)) < Ln) {sc sm : PS} (hR : Rel sc sm) (nx : ∀ sc' sm', Rel sc' sm' → J X (WL Gc Gm) (QL b) (sc', sm') [(0, .ref b), (1, .ref (Gc.2.2.1 0)), (2, .ref (Gm.2.2.1 0)), (3, .int (oI l3))] 1246 [] (some ())) : J X (WL Gc Gm) (QL b) (sc, sm) [(0, .ref b), (1, .ref (Gc.2.2.1 0)), (2, .ref (Gm.2.2.1 0)), (3, .int (oI l3))] 1149 [] (some ()) := by
  obtain ⟨r, r', e1, e2, hw, hR'⟩ := hs sc sm hR ((xs (wI (l3 + 1)).toNat).toInt) ((xs (wI (l3 + 2)).toNat).toInt) (rng_of _) (rng_of _)
  refine j_aload_n (pc := 1149) C.c dL_law_1149 rfl 1 rfl ?_
  refine j_aload_n (pc := 1150) C.c dL_law_1150 rfl 0 rfl ?_
  refine j_iload_n (pc := 1151) C.c dL_law_1151 rfl 3 rfl ?_
  refine j_iconst (pc := 1152) C.c dL_law_1152 ?_
  refine j_iadd (pc := 1153) C.c dL_law_1153 ?_
  refine j_sld (pc := 1154) C (hi 1 (by omega)) dL_law_1154 ?_
  refine j_aload_n (pc := 1155) C.c dL_law_1155 rfl 0 rfl ?_
  refine j_iload_n (pc := 1156) C.c dL_law_1156 rfl 3 rfl ?_
  refine j_iconst (pc := 1157) C.c dL_law_1157 ?_
  refine j_iadd (pc := 1158) C.c dL_law_1158 ?_
  refine j_sld (pc := 1159) C (hi 2 (by omega)) dL_law_1159 ?_
  refine jl_callC (pc := 1160) C rfl (X6_read_m _ hjc e1) kV_L_155 rfl (by omega) rfl (Nat.le_of_ble_eq_true rfl) dL_law_1160 ?_
  refine j_aload_n (pc := 1163) C.c dL_law_1163 rfl 2 rfl ?_
  refine j_aload_n (pc := 1164) C.c dL_law_1164 rfl 0 rfl ?_
  refine j_iload_n (pc := 1165) C.c dL_law_1165 rfl 3 rfl ?_
  refine j_iconst (pc := 1166) C.c dL_law_1166 ?_
  refine j_iadd (pc := 1167) C.c dL_law_1167 ?_
  refine j_sld (pc := 1168) C (hi 1 (by omega)) dL_law_1168 ?_
  refine j_aload_n (pc := 1169) C.c dL_law_1169 rfl 0 rfl ?_
  refine j_iload_n (pc := 1170) C.c dL_law_1170 rfl 3 rfl ?_
  refine j_iconst (pc := 1171) C.c dL_law_1171 ?_
  refine j_iadd (pc := 1172) C.c dL_law_1172 ?_
  refine j_sld (pc := 1173) C (hi 2 (by omega)) dL_law_1173 ?_
  refine jl_callM (pc := 1174) C rfl (X7_read_m _ hjm e2) kV_L_158 rfl (by omega) rfl (Nat.le_of_ble_eq_true rfl) dL_law_1174 ?_
  refine j_lcmp (pc := 1177) C.c dL_law_1177 ?_
  rw [zcmp_eq hw]
  refine j_if_eq_t (pc := 1178) (tgt := 1246) C.c dL_law_1178 rfl (by decide) ?_
  exact nx _ _ hR'
set_option maxHeartbeats 4000000 in
set_option maxRecDepth 100000 in
theorem lcase_shift {Rel : PS → PS → Prop} (hs : Sim_shift Rel) {X : JX} {Gc Gm : GD} {b Ln : Nat} {xs : Nat → Int32} (C : lC X Gc Gm b Ln xs) (hjc : zInj sC Gc) (hjm : zInj sM Gm) {l3 : Int} (hi : ∀ k : Nat, k < 6 → 0 ≤ wI (l3 + (k : Int)) ∧ wI (l3 + (k : Int)) < Ln) {sc sm : PS} (hR : Rel sc sm) (nx : ∀ sc' sm', Rel sc' sm' → J X (WL Gc Gm) (QL b) (sc', sm') [(0, .ref b), (1, .ref (Gc.2.2.1 0)), (2, .ref (Gm.2.2.1 0)), (3, .int (oI l3))] 1246 [] (some ())) : J X (WL Gc Gm) (QL b) (sc, sm) [(0, .ref b), (1, .ref (Gc.2.2.1 0)), (2, .ref (Gm.2.2.1 0)), (3, .int (oI l3))] 1183 [] (some ()) := by
  obtain ⟨r, sc', r', sm', e1, e2, hw, hR'⟩ := hs sc sm hR ((xs (wI (l3 + 1)).toNat).toInt) ((xs (wI (l3 + 2)).toNat).toInt) ((xs (wI (l3 + 3)).toNat).toInt) ((xs (wI (l3 + 4)).toNat).toInt) ((xs (wI (l3 + 5)).toNat).toInt) (rng_of _) (rng_of _) (rng_of _) (rng_of _) (rng_of _)
  refine j_aload_n (pc := 1183) C.c dL_law_1183 rfl 1 rfl ?_
  refine j_aload_n (pc := 1184) C.c dL_law_1184 rfl 0 rfl ?_
  refine j_iload_n (pc := 1185) C.c dL_law_1185 rfl 3 rfl ?_
  refine j_iconst (pc := 1186) C.c dL_law_1186 ?_
  refine j_iadd (pc := 1187) C.c dL_law_1187 ?_
  refine j_sld (pc := 1188) C (hi 1 (by omega)) dL_law_1188 ?_
  refine j_aload_n (pc := 1189) C.c dL_law_1189 rfl 0 rfl ?_
  refine j_iload_n (pc := 1190) C.c dL_law_1190 rfl 3 rfl ?_
  refine j_iconst (pc := 1191) C.c dL_law_1191 ?_
  refine j_iadd (pc := 1192) C.c dL_law_1192 ?_
  refine j_sld (pc := 1193) C (hi 2 (by omega)) dL_law_1193 ?_
  refine j_aload_n (pc := 1194) C.c dL_law_1194 rfl 0 rfl ?_
  refine j_iload_n (pc := 1195) C.c dL_law_1195 rfl 3 rfl ?_
  refine j_iconst (pc := 1196) C.c dL_law_1196 ?_
  refine j_iadd (pc := 1197) C.c dL_law_1197 ?_
  refine j_sld (pc := 1198) C (hi 3 (by omega)) dL_law_1198 ?_
  refine j_aload_n (pc := 1199) C.c dL_law_1199 rfl 0 rfl ?_
  refine j_iload_n (pc := 1200) C.c dL_law_1200 rfl 3 rfl ?_
  refine j_iconst (pc := 1201) C.c dL_law_1201 ?_
  refine j_iadd (pc := 1202) C.c dL_law_1202 ?_
  refine j_sld (pc := 1203) C (hi 4 (by omega)) dL_law_1203 ?_
  refine j_aload_n (pc := 1204) C.c dL_law_1204 rfl 0 rfl ?_
  refine j_iload_n (pc := 1205) C.c dL_law_1205 rfl 3 rfl ?_
  refine j_iconst (pc := 1206) C.c dL_law_1206 ?_
  refine j_iadd (pc := 1207) C.c dL_law_1207 ?_
  refine j_sld (pc := 1208) C (hi 5 (by omega)) dL_law_1208 ?_
  refine jl_callC (pc := 1209) C rfl (X6_shift_m _ hjc e1) kV_L_159 rfl (by omega) rfl (Nat.le_of_ble_eq_true rfl) dL_law_1209 ?_
  refine j_aload_n (pc := 1212) C.c dL_law_1212 rfl 2 rfl ?_
  refine j_aload_n (pc := 1213) C.c dL_law_1213 rfl 0 rfl ?_
  refine j_iload_n (pc := 1214) C.c dL_law_1214 rfl 3 rfl ?_
  refine j_iconst (pc := 1215) C.c dL_law_1215 ?_
  refine j_iadd (pc := 1216) C.c dL_law_1216 ?_
  refine j_sld (pc := 1217) C (hi 1 (by omega)) dL_law_1217 ?_
  refine j_aload_n (pc := 1218) C.c dL_law_1218 rfl 0 rfl ?_
  refine j_iload_n (pc := 1219) C.c dL_law_1219 rfl 3 rfl ?_
  refine j_iconst (pc := 1220) C.c dL_law_1220 ?_
  refine j_iadd (pc := 1221) C.c dL_law_1221 ?_
  refine j_sld (pc := 1222) C (hi 2 (by omega)) dL_law_1222 ?_
  refine j_aload_n (pc := 1223) C.c dL_law_1223 rfl 0 rfl ?_
  refine j_iload_n (pc := 1224) C.c dL_law_1224 rfl 3 rfl ?_
  refine j_iconst (pc := 1225) C.c dL_law_1225 ?_
  refine j_iadd (pc := 1226) C.c dL_law_1226 ?_
  refine j_sld (pc := 1227) C (hi 3 (by omega)) dL_law_1227 ?_
  refine j_aload_n (pc := 1228) C.c dL_law_1228 rfl 0 rfl ?_
  refine j_iload_n (pc := 1229) C.c dL_law_1229 rfl 3 rfl ?_
  refine j_iconst (pc := 1230) C.c dL_law_1230 ?_
  refine j_iadd (pc := 1231) C.c dL_law_1231 ?_
  refine j_sld (pc := 1232) C (hi 4 (by omega)) dL_law_1232 ?_
  refine j_aload_n (pc := 1233) C.c dL_law_1233 rfl 0 rfl ?_
  refine j_iload_n (pc := 1234) C.c dL_law_1234 rfl 3 rfl ?_
  refine j_iconst (pc := 1235) C.c dL_law_1235 ?_
  refine j_iadd (pc := 1236) C.c dL_law_1236 ?_
  refine j_sld (pc := 1237) C (hi 5 (by omega)) dL_law_1237 ?_
  refine jl_callM (pc := 1238) C rfl (X7_shift_m _ hjm e2) kV_L_163 rfl (by omega) rfl (Nat.le_of_ble_eq_true rfl) dL_law_1238 ?_
  refine j_icmp_eqH (pc := 1241) (tgt := 1246) C.c dL_law_1241 rfl (fun _ => ?_) (fun h => absurd hw h)
  exact nx sc' sm' hR'
set_option maxHeartbeats 8000000 in
set_option maxRecDepth 100000 in
theorem law_loop {Rel : PS → PS → Prop} (hS : Sim Rel) {X : JX} {Gc Gm : GD} {b Ln : Nat} {xs : Nat → Int32} (C : lC X Gc Gm b Ln xs) (hN : X.2.2.2.2.2.2.2.2.2.2.2.2 = 4) (hjc : zInj sC Gc) (hjm : zInj sM Gm) (hL : Ln ≤ 3072) : ∀ (n : Nat) (l3 : Int) (sc sm : PS), 0 ≤ l3 → (l3 + 6 ≤ Ln → (Ln : Int) - l3 < n) → l3 < 4000 → Rel sc sm → 0 < n → J X (WL Gc Gm) (QL b) (sc, sm) [(0, .ref b), (1, .ref (Gc.2.2.1 0)), (2, .ref (Gm.2.2.1 0)), (3, .int (oI l3))] 18 [] (some ()) := by
  intro n
  induction n with
  | zero => intro l3 sc sm h0 hm h4 hR hn; exact absurd hn (Nat.lt_irrefl 0)
  | succ n ih =>
    intro l3 sc sm h0 hm h4 hR _
    refine j_iload_n (pc := 18) C.c dL_law_18 rfl 3 rfl ?_
    refine j_aload_n (pc := 19) C.c dL_law_19 rfl 0 rfl ?_
    refine j_slen (pc := 20) C dL_law_20 ?_
    refine j_bipush (pc := 21) C.c dL_law_21 (by decide) ?_
    refine j_isub (pc := 23) C.c dL_law_23 ?_
    have w1 : wI ((Ln : Int) - 6) = (Ln : Int) - 6 := wI_id (by omega) (by omega)
    have w2 : wI l3 = l3 := wI_id (by omega) (by omega)
    refine j_icmp_gtH (pc := 24) (tgt := 1252) C.c dL_law_24 rfl (fun _ => ?_) (fun hle => ?_)
    · refine j_iconst (pc := 1252) C.c dL_law_1252 ?_
      exact j_end C dL_law_1253
    rw [w1, w2] at hle
    have hi : ∀ k : Nat, k < 6 → 0 ≤ wI (l3 + (k : Int)) ∧ wI (l3 + (k : Int)) < Ln := by
      intro k hk
      rw [wI_id (by omega) (by omega)]
      omega
    have nx : ∀ sc' sm', Rel sc' sm' → J X (WL Gc Gm) (QL b) (sc', sm') [(0, .ref b), (1, .ref (Gc.2.2.1 0)), (2, .ref (Gm.2.2.1 0)), (3, .int (oI l3))] 1246 [] (some ()) := by
      intro sc' sm' hR'
      refine j_iinc (pc := 1246) C.c hN dL_law_1246 3 rfl (by decide) (lv' := [(3, .int (oI (l3 + 6))), (0, .ref b), (1, .ref (Gc.2.2.1 0)), (2, .ref (Gm.2.2.1 0))]) rfl ?_
      refine j_goto (pc := 1249) (tgt := 18) C.c dL_law_1249 rfl ?_
      exact j_sub [1, 2, 3, 0] rfl (ih (l3 + 6) sc' sm' (by omega) (by omega) (by omega) hR' (by omega))
    refine j_aload_n (pc := 27) C.c dL_law_27 rfl 0 rfl ?_
    refine j_iload_n (pc := 28) C.c dL_law_28 rfl 3 rfl ?_
    refine j_sld (pc := 29) C (by rw [w2]; omega) dL_law_29 ?_
    refine j_bipush (pc := 30) C.c dL_law_30 (by decide) ?_
    refine j_iand (pc := 32) C.c dL_law_32 ?_
    by_cases h0 : wI (zand ((xs (wI l3).toNat).toInt) 63) = 0
    · exact j_tabIn (pc := 33) (tgt := 188) C.c dL_law_33 h0 (by decide) (by decide) rfl rfl (lcase_house hS.1 C hjc hjm hi hR nx)
    by_cases h1 : wI (zand ((xs (wI l3).toNat).toInt) 63) = 1
    · exact j_tabIn (pc := 33) (tgt := 231) C.c dL_law_33 h1 (by decide) (by decide) rfl rfl (lcase_of hS.2.1 C hjc hjm hi hR nx)
    by_cases h2 : wI (zand ((xs (wI l3).toNat).toInt) 63) = 2
    · exact j_tabIn (pc := 33) (tgt := 264) C.c dL_law_33 h2 (by decide) (by decide) rfl rfl (lcase_earn hS.2.2.1 C hjc hjm hi hR nx)
    by_cases h3 : wI (zand ((xs (wI l3).toNat).toInt) 63) = 3
    · exact j_tabIn (pc := 33) (tgt := 297) C.c dL_law_33 h3 (by decide) (by decide) rfl rfl (lcase_row hS.2.2.2.1 C hjc hjm hi hR nx)
    by_cases h4 : wI (zand ((xs (wI l3).toNat).toInt) 63) = 4
    · exact j_tabIn (pc := 33) (tgt := 340) C.c dL_law_33 h4 (by decide) (by decide) rfl rfl (lcase_feed hS.2.2.2.2.1 C hjc hjm hi hR nx)
    by_cases h5 : wI (zand ((xs (wI l3).toNat).toInt) 63) = 5
    · exact j_tabIn (pc := 33) (tgt := 363) C.c dL_law_33 h5 (by decide) (by decide) rfl rfl (lcase_street hS.2.2.2.2.2.1 C hjc hjm hi hR nx)
    by_cases h6 : wI (zand ((xs (wI l3).toNat).toInt) 63) = 6
    · exact j_tabIn (pc := 33) (tgt := 376) C.c dL_law_33 h6 (by decide) (by decide) rfl rfl (lcase_told hS.2.2.2.2.2.2.1 C hjc hjm hi hR nx)
    by_cases h7 : wI (zand ((xs (wI l3).toNat).toInt) 63) = 7
    · exact j_tabIn (pc := 33) (tgt := 399) C.c dL_law_33 h7 (by decide) (by decide) rfl rfl (lcase_year hS.2.2.2.2.2.2.2.1 C hjc hjm hi hR nx)
    by_cases h8 : wI (zand ((xs (wI l3).toNat).toInt) 63) = 8
    · exact j_tabIn (pc := 33) (tgt := 412) C.c dL_law_33 h8 (by decide) (by decide) rfl rfl (lcase_at hS.2.2.2.2.2.2.2.2.1 C hjc hjm hi hR nx)
    by_cases h9 : wI (zand ((xs (wI l3).toNat).toInt) 63) = 9
    · exact j_tabIn (pc := 33) (tgt := 445) C.c dL_law_33 h9 (by decide) (by decide) rfl rfl (lcase_stays hS.2.2.2.2.2.2.2.2.2.1 C hjc hjm hi hR nx)
    by_cases h10 : wI (zand ((xs (wI l3).toNat).toInt) 63) = 10
    · exact j_tabIn (pc := 33) (tgt := 458) C.c dL_law_33 h10 (by decide) (by decide) rfl rfl (lcase_swings hS.2.2.2.2.2.2.2.2.2.2.1 C hjc hjm hi hR nx)
    by_cases h11 : wI (zand ((xs (wI l3).toNat).toInt) 63) = 11
    · exact j_tabIn (pc := 33) (tgt := 471) C.c dL_law_33 h11 (by decide) (by decide) rfl rfl (lcase_gift hS.2.2.2.2.2.2.2.2.2.2.2.1 C hjc hjm hi hR nx)
    by_cases h12 : wI (zand ((xs (wI l3).toNat).toInt) 63) = 12
    · exact j_tabIn (pc := 33) (tgt := 514) C.c dL_law_33 h12 (by decide) (by decide) rfl rfl (lcase_best hS.2.2.2.2.2.2.2.2.2.2.2.2.1 C hjc hjm hi hR nx)
    by_cases h13 : wI (zand ((xs (wI l3).toNat).toInt) 63) = 13
    · exact j_tabIn (pc := 33) (tgt := 537) C.c dL_law_33 h13 (by decide) (by decide) rfl rfl (lcase_lots hS.2.2.2.2.2.2.2.2.2.2.2.2.2.1 C hjc hjm hi hR nx)
    by_cases h14 : wI (zand ((xs (wI l3).toNat).toInt) 63) = 14
    · exact j_tabIn (pc := 33) (tgt := 550) C.c dL_law_33 h14 (by decide) (by decide) rfl rfl (lcase_build hS.2.2.2.2.2.2.2.2.2.2.2.2.2.2.1 C hjc hjm hi hR nx)
    by_cases h15 : wI (zand ((xs (wI l3).toNat).toInt) 63) = 15
    · exact j_tabIn (pc := 33) (tgt := 603) C.c dL_law_33 h15 (by decide) (by decide) rfl rfl (lcase_down hS.2.2.2.2.2.2.2.2.2.2.2.2.2.2.2.1 C hjc hjm hi hR nx)
    by_cases h16 : wI (zand ((xs (wI l3).toNat).toInt) 63) = 16
    · exact j_tabIn (pc := 33) (tgt := 626) C.c dL_law_33 h16 (by decide) (by decide) rfl rfl (lcase_before hS.2.2.2.2.2.2.2.2.2.2.2.2.2.2.2.2.1 C hjc hjm hi hR nx)
    by_cases h17 : wI (zand ((xs (wI l3).toNat).toInt) 63) = 17
    · exact j_tabIn (pc := 33) (tgt := 649) C.c dL_law_33 h17 (by decide) (by decide) rfl rfl (lcase_see hS.2.2.2.2.2.2.2.2.2.2.2.2.2.2.2.2.2.1 C hjc hjm hi hR nx)
    by_cases h18 : wI (zand ((xs (wI l3).toNat).toInt) 63) = 18
    · exact j_tabIn (pc := 33) (tgt := 682) C.c dL_law_33 h18 (by decide) (by decide) rfl rfl (lcase_lied hS.2.2.2.2.2.2.2.2.2.2.2.2.2.2.2.2.2.2.1 C hjc hjm hi hR nx)
    by_cases h19 : wI (zand ((xs (wI l3).toNat).toInt) 63) = 19
    · exact j_tabIn (pc := 33) (tgt := 705) C.c dL_law_33 h19 (by decide) (by decide) rfl rfl (lcase_wed hS.2.2.2.2.2.2.2.2.2.2.2.2.2.2.2.2.2.2.2.1 C hjc hjm hi hR nx)
    by_cases h20 : wI (zand ((xs (wI l3).toNat).toInt) 63) = 20
    · exact j_tabIn (pc := 33) (tgt := 738) C.c dL_law_33 h20 (by decide) (by decide) rfl rfl (lcase_odds hS.2.2.2.2.2.2.2.2.2.2.2.2.2.2.2.2.2.2.2.2.1 C hjc hjm hi hR nx)
    by_cases h21 : wI (zand ((xs (wI l3).toNat).toInt) 63) = 21
    · exact j_tabIn (pc := 33) (tgt := 782) C.c dL_law_33 h21 (by decide) (by decide) rfl rfl (lcase_mean hS.2.2.2.2.2.2.2.2.2.2.2.2.2.2.2.2.2.2.2.2.2.1 C hjc hjm hi hR nx)
    by_cases h22 : wI (zand ((xs (wI l3).toNat).toInt) 63) = 22
    · exact j_tabIn (pc := 33) (tgt := 816) C.c dL_law_33 h22 (by decide) (by decide) rfl rfl (lcase_book hS.2.2.2.2.2.2.2.2.2.2.2.2.2.2.2.2.2.2.2.2.2.2.1 C hjc hjm hi hR nx)
    by_cases h23 : wI (zand ((xs (wI l3).toNat).toInt) 63) = 23
    · exact j_tabIn (pc := 33) (tgt := 839) C.c dL_law_33 h23 (by decide) (by decide) rfl rfl (lcase_looked hS.2.2.2.2.2.2.2.2.2.2.2.2.2.2.2.2.2.2.2.2.2.2.2.1 C hjc hjm hi hR nx)
    by_cases h24 : wI (zand ((xs (wI l3).toNat).toInt) 63) = 24
    · exact j_tabIn (pc := 33) (tgt := 852) C.c dL_law_33 h24 (by decide) (by decide) rfl rfl (lcase_judge hS.2.2.2.2.2.2.2.2.2.2.2.2.2.2.2.2.2.2.2.2.2.2.2.2.1 C hjc hjm hi hR nx)
    by_cases h25 : wI (zand ((xs (wI l3).toNat).toInt) 63) = 25
    · exact j_tabIn (pc := 33) (tgt := 885) C.c dL_law_33 h25 (by decide) (by decide) rfl rfl (lcase_image hS.2.2.2.2.2.2.2.2.2.2.2.2.2.2.2.2.2.2.2.2.2.2.2.2.2.1 C hjc hjm hi hR nx)
    by_cases h26 : wI (zand ((xs (wI l3).toNat).toInt) 63) = 26
    · exact j_tabIn (pc := 33) (tgt := 898) C.c dL_law_33 h26 (by decide) (by decide) rfl rfl (lcase_undo hS.2.2.2.2.2.2.2.2.2.2.2.2.2.2.2.2.2.2.2.2.2.2.2.2.2.2.1 C hjc hjm hi hR nx)
    by_cases h27 : wI (zand ((xs (wI l3).toNat).toInt) 63) = 27
    · exact j_tabIn (pc := 33) (tgt := 911) C.c dL_law_33 h27 (by decide) (by decide) rfl rfl (lcase_act hS.2.2.2.2.2.2.2.2.2.2.2.2.2.2.2.2.2.2.2.2.2.2.2.2.2.2.2.1 C hjc hjm hi hR nx)
    by_cases h28 : wI (zand ((xs (wI l3).toNat).toInt) 63) = 28
    · exact j_tabIn (pc := 33) (tgt := 954) C.c dL_law_33 h28 (by decide) (by decide) rfl rfl (lcase_trace hS.2.2.2.2.2.2.2.2.2.2.2.2.2.2.2.2.2.2.2.2.2.2.2.2.2.2.2.2.1 C hjc hjm hi hR nx)
    by_cases h29 : wI (zand ((xs (wI l3).toNat).toInt) 63) = 29
    · exact j_tabIn (pc := 33) (tgt := 977) C.c dL_law_33 h29 (by decide) (by decide) rfl rfl (lcase_taken hS.2.2.2.2.2.2.2.2.2.2.2.2.2.2.2.2.2.2.2.2.2.2.2.2.2.2.2.2.2.1 C hjc hjm hi hR nx)
    by_cases h30 : wI (zand ((xs (wI l3).toNat).toInt) 63) = 30
    · exact j_tabIn (pc := 33) (tgt := 1010) C.c dL_law_33 h30 (by decide) (by decide) rfl rfl (lcase_count hS.2.2.2.2.2.2.2.2.2.2.2.2.2.2.2.2.2.2.2.2.2.2.2.2.2.2.2.2.2.2.1 C hjc hjm hi hR nx)
    by_cases h31 : wI (zand ((xs (wI l3).toNat).toInt) 63) = 31
    · exact j_tabIn (pc := 33) (tgt := 1033) C.c dL_law_33 h31 (by decide) (by decide) rfl rfl (lcase_tape hS.2.2.2.2.2.2.2.2.2.2.2.2.2.2.2.2.2.2.2.2.2.2.2.2.2.2.2.2.2.2.2.1 C hjc hjm hi hR nx)
    by_cases h32 : wI (zand ((xs (wI l3).toNat).toInt) 63) = 32
    · exact j_tabIn (pc := 33) (tgt := 1076) C.c dL_law_33 h32 (by decide) (by decide) rfl rfl (lcase_item hS.2.2.2.2.2.2.2.2.2.2.2.2.2.2.2.2.2.2.2.2.2.2.2.2.2.2.2.2.2.2.2.2.1 C hjc hjm hi hR nx)
    by_cases h33 : wI (zand ((xs (wI l3).toNat).toInt) 63) = 33
    · exact j_tabIn (pc := 33) (tgt := 1149) C.c dL_law_33 h33 (by decide) (by decide) rfl rfl (lcase_read hS.2.2.2.2.2.2.2.2.2.2.2.2.2.2.2.2.2.2.2.2.2.2.2.2.2.2.2.2.2.2.2.2.2.1 C hjc hjm hi hR nx)
    by_cases h34 : wI (zand ((xs (wI l3).toNat).toInt) 63) = 34
    · exact j_tabIn (pc := 33) (tgt := 1183) C.c dL_law_33 h34 (by decide) (by decide) rfl rfl (lcase_shift hS.2.2.2.2.2.2.2.2.2.2.2.2.2.2.2.2.2.2.2.2.2.2.2.2.2.2.2.2.2.2.2.2.2.2 C hjc hjm hi hR nx)
    exact j_tabOut (pc := 33) (tgt := 1246) C.c dL_law_33 (by omega) rfl (nx sc sm hR)
