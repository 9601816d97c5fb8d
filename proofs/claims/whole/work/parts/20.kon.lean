/-! CONSTRUCTORS: a walk over a world that grows -/
def zTyL : List FieldType := [.int, .byte, .boolean, .long, .object "MiddleThree$Street", .object "MiddleThree$Tape"]
def EOK (E : Nat → ClassId) (U : State) : Prop := ∀ (t : Nat) (ty : FieldType), zTyL[t]? = some ty → ∀ cA, va_RA U cA ty → cA = E t
def TK (E : Nat → ClassId) (ts : List Nat) (U : State) : Prop := ∀ t ∈ ts, ∀ ty, zTyL[t]? = some ty → ArrOfT U (E t) ty ∧ va_RA U (E t) ty
theorem EOK.moved {E : Nat → ClassId} {u U : State} (hvm : u.vm.Alike U.vm) (h : EOK E u) : EOK E U := fun t ty ht cA hr => h t ty ht cA (hr.moved hvm.symm)
theorem TK.moved {E : Nat → ClassId} {ts : List Nat} {u U : State} (hvm : u.vm.Alike U.vm) (h : TK E ts u) : TK E ts U := fun t ht ty hty => ⟨arrOfT_moved hvm (h t ht ty hty).1, (h t ht ty hty).2.moved hvm⟩
theorem va_RA_one {U : State} {c1 c2 : ClassId} {ty : FieldType} (h1 : va_RA U c1 ty) (h2 : va_RA U c2 ty) : c1 = c2 := by
  cases ty with
  | object C =>
    obtain ⟨_, _, _, _, _, a⟩ := h1
    obtain ⟨_, _, _, _, _, b⟩ := h2
    exact Option.some.inj (a.symm.trans b)
  | _ => exact Option.some.inj (Eq.trans (Eq.symm h1) h2)
theorem EOK.ex (U : State) : ∃ E, EOK E U := by
  have h : ∀ t : Nat, ∃ e : ClassId, ∀ ty, zTyL[t]? = some ty → ∀ cA, va_RA U cA ty → cA = e := by
    intro t
    cases ht : zTyL[t]? with
    | none => exact ⟨0, fun ty h => by cases h⟩
    | some ty =>
      by_cases hx : ∃ cA, va_RA U cA ty
      · obtain ⟨c, hc⟩ := hx
        exact ⟨c, fun ty' h cA hr => by cases h; exact va_RA_one hr hc⟩
      · exact ⟨0, fun ty' h cA hr => by cases h; exact absurd ⟨cA, hr⟩ hx⟩
  exact ⟨fun t => Classical.choose (h t), fun t => Classical.choose_spec (h t)⟩
def kD (A : Nat → Prop) (ws : va_W) : Prop := (ws.map Prod.fst).Nodup ∧ ∀ x ∈ ws, A x.1
theorem kD.va {A : Nat → Prop} {ws : va_W} (h : kD A ws) : va_D A ws := by
  refine ⟨fun i j p q hi hj e => ?_, fun k q hk => h.2 q (List.mem_of_getElem? hk)⟩
  have a : (ws.map Prod.fst)[i]? = some p.1 := by rw [List.getElem?_map, hi]; rfl
  have b : (ws.map Prod.fst)[j]? = some q.1 := by rw [List.getElem?_map, hj]; rfl
  exact (List.getElem?_inj (List.getElem?_eq_some_iff.mp a).1 h.1).mp (a.trans (by rw [b, e]))
theorem va_D.k {A : Nat → Prop} {ws : va_W} (h : va_D A ws) : kD A ws := by
  refine ⟨?_, fun x hx => ?_⟩
  · rw [List.nodup_iff_pairwise_ne, List.pairwise_iff_getElem]
    intro i j hi hj hij e
    simp only [List.length_map] at hi hj
    have := h.1 i j ws[i] ws[j] (by simp [hi]) (by simp [hj]) (by simpa using e)
    omega
  · obtain ⟨i, hi⟩ := List.getElem?_of_mem hx
    exact h.2 i x hi
theorem kP_mem {D : va_G} {cl : List vw_C} {ws : va_W} {H : Heap} : va_P D cl ws H ↔ ∀ x ∈ ws, va_at D cl x H :=
  ⟨fun h x hx => by obtain ⟨i, hi⟩ := List.getElem?_of_mem hx; exact h i x hi, fun h k q hk => h q (List.mem_of_getElem? hk)⟩
theorem kD_ins {A : Nat → Prop} {c0 x : Nat × va_E} {R : va_W} (h : kD A (c0 :: R ++ [x])) : kD A (c0 :: x :: R) := by
  obtain ⟨h1, h2⟩ := h
  refine ⟨?_, fun y hy => h2 y ?_⟩
  · simp only [List.cons_append, List.map_cons, List.map_append, List.map_nil, List.nodup_cons, List.nodup_append, List.mem_append, List.mem_cons, List.not_mem_nil, or_false] at h1 ⊢
    obtain ⟨a, b, -, d⟩ := h1
    refine ⟨fun q => ?_, fun q => ?_, b⟩
    · rcases q with q | q
      · exact a (Or.inr q)
      · exact a (Or.inl q)
    · exact d _ q _ rfl rfl
  · simp only [List.cons_append, List.mem_cons, List.mem_append, List.not_mem_nil, or_false] at hy ⊢
    rcases hy with q | q | q
    · exact Or.inl q
    · exact Or.inr (Or.inr q)
    · exact Or.inr (Or.inl q)
theorem kP_ins {D : va_G} {cl : List vw_C} {c0 x : Nat × va_E} {R : va_W} {H : Heap} (h : va_P D cl (c0 :: R ++ [x]) H) : va_P D cl (c0 :: x :: R) H := by
  rw [kP_mem] at h ⊢
  intro y hy
  apply h
  simp only [List.cons_append, List.mem_cons, List.mem_append, List.not_mem_nil, or_false] at hy ⊢
  rcases hy with q | q | q
  · exact Or.inl q
  · exact Or.inr (Or.inr q)
  · exact Or.inr (Or.inl q)
/-- behind a call whose world is one cell: the rest stays -/
theorem k_join {A0 : Nat → Prop} {D : va_G} {cl : List vw_C} {L R : va_W} {h1 : Nat} {e1 : va_E} {w1 : va_W} {H H1 : Heap} (hP : va_P D cl (L ++ (h1, e1) :: R) H) (hD : kD A0 (L ++ (h1, e1) :: R)) (hk : ∀ q : Nat, q < H.size → ¬ va_A [(h1, e1)] H.size q → H1[q]? = H[q]?) (hF : ∀ q, va_A [(h1, e1)] H.size q → A0 q) (hP1 : va_P D cl w1 H1) (hD1 : va_D (va_A [(h1, e1)] H.size) w1) : va_P D cl (L ++ (w1 ++ R)) H1 ∧ kD A0 (L ++ (w1 ++ R)) := by
  have hD1' := hD1.k
  have hA1 : ∀ q, va_A [(h1, e1)] H.size q ↔ q = h1 ∨ H.size ≤ q := by
    intro q
    constructor
    · rintro (⟨k, e, h⟩ | h)
      · cases k with
        | zero => simp at h; exact Or.inl h.1.symm
        | succ k => simp at h
      · exact Or.inr h
    · rintro (rfl | h)
      · exact Or.inl ⟨0, e1, rfl⟩
      · exact Or.inr h
  have old : ∀ x, x ∈ L ∨ x ∈ R → x.1 < H.size ∧ x.1 ≠ h1 := by
    intro x hx
    have hm : x ∈ L ++ (h1, e1) :: R := by
      rcases hx with h | h
      · exact List.mem_append_left _ h
      · exact List.mem_append_right _ (List.mem_cons_of_mem _ h)
    refine ⟨(kP_mem.mp hP x hm).lt, ?_⟩
    have hn := hD.1
    rw [List.map_append, List.map_cons, List.nodup_append, List.nodup_cons] at hn
    rcases hx with h | h
    · exact hn.2.2 _ (List.mem_map_of_mem h) _ List.mem_cons_self
    · intro e
      exact hn.2.1.1 (by have h9 := List.mem_map_of_mem (f := Prod.fst) h; rw [e] at h9; exact h9)
  refine ⟨kP_mem.mpr (fun x hx => ?_), ?_, fun x hx => ?_⟩
  · have keep : x ∈ L ∨ x ∈ R → va_at D cl x H1 := by
      intro h
      obtain ⟨a, b⟩ := old x h
      refine (kP_mem.mp hP x ?_).kept (hk x.1 a (fun q => ?_))
      · rcases h with h | h
        · exact List.mem_append_left _ h
        · exact List.mem_append_right _ (List.mem_cons_of_mem _ h)
      · rcases (hA1 _).mp q with q | q
        · exact b q
        · omega
    rcases List.mem_append.mp hx with h | h
    · exact keep (Or.inl h)
    · rcases List.mem_append.mp h with h | h
      · exact kP_mem.mp hP1 x h
      · exact keep (Or.inr h)
  · have hn := hD.1
    rw [List.map_append, List.map_cons, List.nodup_append, List.nodup_cons] at hn
    have cross : ∀ a, a ∈ w1.map Prod.fst → ∀ x, x ∈ L ∨ x ∈ R → x.1 ≠ a := by
      intro a ha x hx e
      obtain ⟨y, hy, rfl⟩ := List.mem_map.mp ha
      obtain ⟨g1, g2⟩ := old x hx
      rcases (hA1 _).mp (hD1'.2 y hy) with q | q
      · exact g2 (e.trans q)
      · omega
    rw [List.map_append, List.map_append, List.nodup_append, List.nodup_append]
    refine ⟨hn.1, ⟨hD1'.1, hn.2.1.2, fun a ha b hb e => ?_⟩, fun a ha b hb e => ?_⟩
    · obtain ⟨y, hy, rfl⟩ := List.mem_map.mp hb
      exact cross a ha y (Or.inr hy) e.symm
    · obtain ⟨y, hy, rfl⟩ := List.mem_map.mp ha
      rcases List.mem_append.mp hb with hb | hb
      · exact cross b hb y (Or.inl hy) e
      · exact hn.2.2 _ (List.mem_map_of_mem hy) _ (List.mem_cons_of_mem _ hb) e
  · rcases List.mem_append.mp hx with h | h
    · exact hD.2 x (List.mem_append_left _ h)
    · rcases List.mem_append.mp h with h | h
      · exact hF _ (hD1'.2 x h)
      · exact hD.2 x (List.mem_append_right _ (List.mem_cons_of_mem _ h))
/-- nest links and arrays of objects: what the tables say that isn't kept by every call -/
def zNest (U : State) : Prop :=
  (va_Nw (.methodLinkNest RX6 11 yX5_init RX6) U ∧ va_Nw (.methodLinkNest RX6 26 yX1_init RX6) U ∧ va_Nw (.methodLinkNest RX6 36 yX3_init RX6) U ∧ va_Nw (.methodLinkNest RX6 49 yX0_init RX6) U ∧ va_Nw (.methodLinkNest RX6 67 yX2_init RX6) U ∧ va_Nw (.methodLinkNest RX6 68 yX4_init RX6) U ∧ va_Nw (.methodLinkNest RX3 11 yX2_init RX6) U) ∧ va_AO RX2 U ∧ va_AO RX4 U
theorem zNest.same {u U : State} (h : u.vm = U.vm) (hn : zNest u) : zNest U :=
  ⟨⟨hn.1.1.same rfl h, hn.1.2.1.same rfl h, hn.1.2.2.1.same rfl h, hn.1.2.2.2.1.same rfl h, hn.1.2.2.2.2.1.same rfl h, hn.1.2.2.2.2.2.1.same rfl h, hn.1.2.2.2.2.2.2.same rfl h⟩, hn.2.1.moved (by rw [h]; exact Vm.Alike.refl _), hn.2.2.moved (by rw [h]; exact Vm.Alike.refl _)⟩
theorem zNest.warm {s U : State} (hW : s.WarmedH U.vm) (hn : zNest s) : zNest U :=
  ⟨⟨hn.1.1.warmM hW, hn.1.2.1.warmM hW, hn.1.2.2.1.warmM hW, hn.1.2.2.2.1.warmM hW, hn.1.2.2.2.2.1.warmM hW, hn.1.2.2.2.2.2.1.warmM hW, hn.1.2.2.2.2.2.2.warmM hW⟩, hn.2.1.moved hW.alike, hn.2.2.moved hW.alike⟩
abbrev KG : Type := va_G × (Nat → ClassId) × (Nat → Nat) × (Nat → Nat) × Nat
def kPre (g : KG) (h0 ci : Nat) (fs : List Value) (sz : Nat) : State → Prop := fun U => U.heap.size = sz ∧ va_P g.1 zCl [(h0, .inr (ci, fs))] U.heap ∧ va_K g.1 zCl [] U ∧ EOK g.2.1 U ∧ zNest U ∧ zRO1 (va_A [(h0, .inr (ci, fs))] sz) g.2.2.1 g.2.2.2.1 g.2.2.2.2 U U.heap ∧ zRO2 g.2.2.1 U
def kroom (d mc ms : Nat) : Room := { frames := d + 2, cells := mc, slots := ms, locals := 60 * (d + 2) }
def kQ {S : Type} (g : KG) (h0 ci : Nat) (fs : List Value) (sz : Nat) (w1 : S → va_W) (ts : List Nat) : Array Value → State → Outcome → State → Prop := va_Qv (fun _ : S => True) (fun u t => va_P g.1 zCl (w1 u) t.heap ∧ va_D (va_A [(h0, .inr (ci, fs))] sz) (w1 u) ∧ TK g.2.1 ts t) (va_A [(h0, .inr (ci, fs))] sz)
def kM {S : Type} (l : Launch) (g : KG) (y : MethodName) (b : ByteArray) (n d : Nat) (h0 ci : Nat) (fs : List Value) (sz : Nat) (w1 : S → va_W) (ts : List Nat) (mc ms : Nat) : Prop :=
  Met l y (.code y b n none :: zT) (kroom d mc ms) (va_Pc [.ref h0] (kPre g h0 ci fs sz)) (kQ g h0 ci fs sz w1 ts) mc ms (va_A [(h0, .inr (ci, fs))] sz)
abbrev YX : Type := Program × Launch × Env × Room × State × MethodId × Array Value × List Frame × Method × Code × Nat
def V (Y : YX) (g : KG) (A : Nat → Prop) (Q : State → Prop) (ws : va_W) (ts : List Nat) (cells slots : Nat) (lv : List (Nat × Value)) (pc : Nat) (stk : List Value) : Prop := match Y with
  | (p, l, e, R, s, m, args, below, meth, c, nL) => ∀ (H : Heap) (locs : List Loc) (ls : Array Slot), va_P g.1 zCl ws H → kD A ws → va_S A s.heap H locs → TK g.2.1 ts s → lv_has ls nL lv → W p l e R s m args below meth c H locs cells slots Q (F0 m pc ls stk)
def kC (Y : YX) (g : KG) (own : String) (cc : ByteArray) (d mc ms : Nat) (A : Nat → Prop) : Prop := match Y with
  | (p, _, _, R, s, m, args, _, meth, c, nL) => (p.tables.exec = Jvm.exec ∧ c.code = cc ∧ c.maxLocals = nL ∧ s.vm.findClass own = some m.cls ∧ ∀ w ∈ zT, w.before args s = true) ∧ va_K g.1 zCl [] s ∧ EOK g.2.1 s ∧ zNest s ∧ (zRO1 A g.2.2.1 g.2.2.2.1 g.2.2.2.2 s s.heap ∧ zRO2 g.2.2.1 s) ∧ R = kroom d mc ms ∧ meth.name = "<init>" ∧ (∀ q, s.heap.size ≤ q → A q) ∧ meth.sig.returnType = none ∧ meth.locks = false
section KROWS
variable {Y : YX} {g : KG} {own : String} {cc : ByteArray} {d mc ms : Nat} {A : Nat → Prop} {Q : State → Prop} {ws R : va_W} {c0 : Nat × va_E} {ts : List Nat} {cells slots : Nat} {lv lv' : List (Nat × Value)} {pc : Nat} {stk : List Value}
theorem v_aload_n (C : kC Y g own cc d mc ms A) {kf : Fin 4} {i x : Nat} (hd : decode cc pc = .ok (.aload_n kf, 1)) (hi : (kf : Nat) = i) (k : Nat) (hk : lv[k]? = some (i, .ref x)) (kk : V Y g A Q ws ts cells slots lv (pc + 1) (.ref x :: stk)) : V Y g A Q ws ts cells slots lv pc stk := by
  obtain ⟨p, l, e, R, s, m, args, below, meth, c, nL⟩ := Y
  obtain ⟨⟨hx, hb, hml, hown, hts⟩, hK, hE, hN, hO, hR, hini, hA, hr0, hlk⟩ := C
  intro H locs ls hP hD hS hT hl
  exact lv_aload_n hx hb hd hi (lv_at hl k hk) (kk H locs ls hP hD hS hT hl)
theorem v_iload_n (C : kC Y g own cc d mc ms A) {kf : Fin 4} {i : Nat} {x : Int32} (hd : decode cc pc = .ok (.iload_n kf, 1)) (hi : (kf : Nat) = i) (k : Nat) (hk : lv[k]? = some (i, .int x)) (kk : V Y g A Q ws ts cells slots lv (pc + 1) (.int x :: stk)) : V Y g A Q ws ts cells slots lv pc stk := by
  obtain ⟨p, l, e, R, s, m, args, below, meth, c, nL⟩ := Y
  obtain ⟨⟨hx, hb, hml, hown, hts⟩, hK, hE, hN, hO, hR, hini, hA, hr0, hlk⟩ := C
  intro H locs ls hP hD hS hT hl
  exact lv_iload_n hx hb hd hi (lv_at hl k hk) (kk H locs ls hP hD hS hT hl)
theorem v_istore_n (C : kC Y g own cc d mc ms A) {nn : Nat} (hN : Y.2.2.2.2.2.2.2.2.2.2 = nn) {kf : Fin 4} {i : Nat} {x : Int32} (hd : decode cc pc = .ok (.istore_n kf, 1)) (hi : (kf : Nat) = i) (hn : i < nn) (hf : (i, Value.int x) :: lv.filter (fun q => !(q.1 == i) && !(q.1 + 1 == i && q.2.category == 2)) = lv') (kk : V Y g A Q ws ts cells slots lv' (pc + 1) stk) : V Y g A Q ws ts cells slots lv pc (.int x :: stk) := by
  obtain ⟨p, l, e, R, s, m, args, below, meth, c, nL⟩ := Y
  obtain ⟨⟨hx, hb, hml, hown, hts⟩, hK, hE, hN', hO, hR, hini, hA, hr0, hlk⟩ := C
  intro H locs ls hP hD hS hT hl
  subst hN
  exact lv_istore_n hx hb hd hi hl hn hf (fun ls' hl' => kk H locs ls' hP hD hS hT hl')
theorem v_iinc (C : kC Y g own cc d mc ms A) {nn : Nat} (hN : Y.2.2.2.2.2.2.2.2.2.2 = nn) {i : Nat} {n : Int} {x v : Int32} (hd : decode cc pc = .ok (.iinc i n, 3)) (k : Nat) (hk : lv[k]? = some (i, .int x)) (hv : x + Int32.ofInt n = v) (hn : i < nn) (hf : (i, Value.int v) :: lv.filter (fun q => !(q.1 == i) && !(q.1 + 1 == i && q.2.category == 2)) = lv') (kk : V Y g A Q ws ts cells slots lv' (pc + 3) stk) : V Y g A Q ws ts cells slots lv pc stk := by
  obtain ⟨p, l, e, R, s, m, args, below, meth, c, nL⟩ := Y
  obtain ⟨⟨hx, hb, hml, hown, hts⟩, hK, hE, hN', hO, hR, hini, hA, hr0, hlk⟩ := C
  intro H locs ls hP hD hS hT hl
  subst hN
  exact lv_iinc hx hb hd hl hk hv hn hf (fun ls' hl' => kk H locs ls' hP hD hS hT hl')
theorem v_iconst (C : kC Y g own cc d mc ms A) {n : Int} {v : Int32} (hd : decode cc pc = .ok (.iconst n, 1)) (hv : Int32.ofInt n = v) (kk : V Y g A Q ws ts cells slots lv (pc + 1) (.int v :: stk)) : V Y g A Q ws ts cells slots lv pc stk := by
  obtain ⟨p, l, e, R, s, m, args, below, meth, c, nL⟩ := Y
  obtain ⟨⟨hx, hb, hml, hown, hts⟩, hK, hE, hN, hO, hR, hini, hA, hr0, hlk⟩ := C
  intro H locs ls hP hD hS hT hl
  exact lv_iconst hx hb hd hv (kk H locs ls hP hD hS hT hl)
theorem v_bipush (C : kC Y g own cc d mc ms A) {n : Int} {v : Int32} (hd : decode cc pc = .ok (.bipush n, 2)) (hv : (Int8.ofInt n).toInt32 = v) (kk : V Y g A Q ws ts cells slots lv (pc + 2) (.int v :: stk)) : V Y g A Q ws ts cells slots lv pc stk := by
  obtain ⟨p, l, e, R, s, m, args, below, meth, c, nL⟩ := Y
  obtain ⟨⟨hx, hb, hml, hown, hts⟩, hK, hE, hN, hO, hR, hini, hA, hr0, hlk⟩ := C
  intro H locs ls hP hD hS hT hl
  exact lv_bipush hx hb hd hv (kk H locs ls hP hD hS hT hl)
theorem v_sipush (C : kC Y g own cc d mc ms A) {n : Int} {v : Int32} (hd : decode cc pc = .ok (.sipush n, 3)) (hv : (Int16.ofInt n).toInt32 = v) (kk : V Y g A Q ws ts cells slots lv (pc + 3) (.int v :: stk)) : V Y g A Q ws ts cells slots lv pc stk := by
  obtain ⟨p, l, e, R, s, m, args, below, meth, c, nL⟩ := Y
  obtain ⟨⟨hx, hb, hml, hown, hts⟩, hK, hE, hN, hO, hR, hini, hA, hr0, hlk⟩ := C
  intro H locs ls hP hD hS hT hl
  exact lv_sipush hx hb hd hv (kk H locs ls hP hD hS hT hl)
theorem v_goto (C : kC Y g own cc d mc ms A) {off : Int} {tgt : Nat} (hd : decode cc pc = .ok (.goto off, 3)) (ht : (pc : Int) + off = (tgt : Int)) (kk : V Y g A Q ws ts cells slots lv tgt stk) : V Y g A Q ws ts cells slots lv pc stk := by
  obtain ⟨p, l, e, R, s, m, args, below, meth, c, nL⟩ := Y
  obtain ⟨⟨hx, hb, hml, hown, hts⟩, hK, hE, hN, hO, hR, hini, hA, hr0, hlk⟩ := C
  intro H locs ls hP hD hS hT hl
  exact lv_goto hx hb hd ht (kk H locs ls hP hD hS hT hl)
theorem v_geT (C : kC Y g own cc d mc ms A) {x y : Int32} {off : Int} {tgt : Nat} (hd : decode cc pc = .ok (.if_icmp .ge off, 3)) (ht : (pc : Int) + off = (tgt : Int)) (hc : y ≤ x) (kk : V Y g A Q ws ts cells slots lv tgt stk) : V Y g A Q ws ts cells slots lv pc (.int y :: .int x :: stk) := by
  obtain ⟨p, l, e, R, s, m, args, below, meth, c, nL⟩ := Y
  obtain ⟨⟨hx, hb, hml, hown, hts⟩, hK, hE, hN, hO, hR, hini, hA, hr0, hlk⟩ := C
  intro H locs ls hP hD hS hT hl
  exact lv_icmp_ge hx hb hd ht (fun _ => kk H locs ls hP hD hS hT hl) (fun h => absurd hc h)
theorem v_geF (C : kC Y g own cc d mc ms A) {x y : Int32} {off : Int} {tgt : Nat} (hd : decode cc pc = .ok (.if_icmp .ge off, 3)) (ht : (pc : Int) + off = (tgt : Int)) (hc : ¬ y ≤ x) (kk : V Y g A Q ws ts cells slots lv (pc + 3) stk) : V Y g A Q ws ts cells slots lv pc (.int y :: .int x :: stk) := by
  obtain ⟨p, l, e, R, s, m, args, below, meth, c, nL⟩ := Y
  obtain ⟨⟨hx, hb, hml, hown, hts⟩, hK, hE, hN, hO, hR, hini, hA, hr0, hlk⟩ := C
  intro H locs ls hP hD hS hT hl
  exact lv_icmp_ge hx hb hd ht (fun h => absurd h hc) (fun _ => kk H locs ls hP hD hS hT hl)
theorem v_dup (C : kC Y g own cc d mc ms A) {v : Value} (hd : decode cc pc = .ok (.dup, 1)) (hv : v.category = 1) (kk : V Y g A Q ws ts cells slots lv (pc + 1) (v :: v :: stk)) : V Y g A Q ws ts cells slots lv pc (v :: stk) := by
  obtain ⟨p, l, e, R, s, m, args, below, meth, c, nL⟩ := Y
  obtain ⟨⟨hx, hb, hml, hown, hts⟩, hK, hE, hN, hO, hR, hini, hA, hr0, hlk⟩ := C
  intro H locs ls hP hD hS hT hl
  exact lv_dup hx hb hd hv (kk H locs ls hP hD hS hT hl)
theorem v_obj (C : kC Y g own cc d mc ms A) {idx a : Nat} (hw : Cond.methodLink own idx objectInit ∈ zT ∧ Cond.instanceMethod objectInit ∈ zT ∧ Cond.code objectInit ⟨#[0xb1]⟩ 1 none ∈ zT) (hsz : (stk.map fun v => v.category).sum ≤ 8) (hd : decode cc pc = .ok (.invokespecial idx, 3)) (kk : V Y g A Q ws ts cells slots lv (pc + 3) stk) : V Y g A Q ws ts cells slots lv pc (.ref a :: stk) := by
  obtain ⟨p, l, e, R, s, m, args, below, meth, c, nL⟩ := Y
  obtain ⟨⟨hx, hb, hml, hown, hts⟩, hK, hE, hN, hO, rfl, hini, hA, hr0, hlk⟩ := C
  intro H locs ls hP hD hS hT hl
  refine W.objInit hx hb hown (hts _ hw.1) (hts _ hw.2.1) (hts _ hw.2.2) rfl (by rw [hml]; exact hl.1) rfl hd (by show 1 ≤ d + 2; omega) (by show 2 * 0 + _ + 12 ≤ 60 * (d + 2); omega) (kk H locs ls hP hD hS hT hl)
theorem v_newa (C : kC Y g own cc d mc ms A) {at_ : ArrayType} {ty : FieldType} {t N' : Nat} {n : Int32} {a0 : vp_A} (harr : Cond.arrayClass (newarray.typeOf at_) ∈ zT) (hty : newarray.typeOf at_ = ty) (ht : zTyL[t]? = some ty) (ha : ∀ cA : ClassId, vp_cell cA a0 = arrV cA N' (fun _ => defaultValue ty)) (hn : ¬ n < 0) (hN0 : n.toNatClampNeg = N') (hbytes : N' * componentBytes ty ≤ 536870912) (hcells : cells + 1 ≤ mc) (hslots : slots + N' ≤ ms) (hd : decode cc pc = .ok (.newarray at_, 2))
    (kk : ∀ q : Nat, V Y g A Q (c0 :: (q, .inl (g.2.1 t, a0)) :: R) (t :: ts) (cells + 1) (slots + N') lv (pc + 2) (.ref q :: stk)) : V Y g A Q (c0 :: R) ts cells slots lv pc (.int n :: stk) := by
  obtain ⟨p, l, e, R0, s, m, args, below, meth, c, nL⟩ := Y
  obtain ⟨⟨hx, hb, hml, hown, hts⟩, hK, hE, hN, hO, rfl, hini, hA, hr0, hlk⟩ := C
  intro H locs ls hP hD hS hT hl
  refine va_newa hx hb (hts _ harr) hty hK hP hD.va hS hA ha hn hN0 hbytes hcells hslots hd (fun q cA H1 hK1 hP1 hD1 hS1 => ?_)
  have h1 := hK1.2 0 (cA, ty) rfl
  have e := hE t ty ht cA h1.2
  subst e
  refine kk q H1 locs ls (kP_ins hP1) (kD_ins hD1.k) hS1 (fun t' ht' ty' hty' => ?_) hl
  rcases List.mem_cons.mp ht' with rfl | h
  · rw [ht] at hty'; cases hty'; exact h1
  · exact hT t' h ty' hty'
theorem v_newq (C : kC Y g own cc d mc ms A) {Cn : String} {t N' index : Nat} {n : Int32} (hw : Cond.classLink own index Cn ∈ zT) (hao : ∀ U, zNest U → va_AO Cn U) (ht : zTyL[t]? = some (.object Cn)) (hn : ¬ n < 0) (hN0 : n.toNatClampNeg = N') (hbytes : N' * 4 ≤ 536870912) (hcells : cells + 1 ≤ mc) (hslots : slots + N' ≤ ms) (hd : decode cc pc = .ok (.anewarray index, 3))
    (kk : ∀ q : Nat, V Y g A Q (c0 :: (q, .inl (g.2.1 t, N', .inr (.inr (.inr (.inr (fun _ => none)))))) :: R) (t :: ts) (cells + 1) (slots + N') lv (pc + 3) (.ref q :: stk)) : V Y g A Q (c0 :: R) ts cells slots lv pc (.int n :: stk) := by
  obtain ⟨p, l, e, R0, s, m, args, below, meth, c, nL⟩ := Y
  obtain ⟨⟨hx, hb, hml, hown, hts⟩, hK, hE, hN, hO, rfl, hini, hA, hr0, hlk⟩ := C
  intro H locs ls hP hD hS hT hl
  refine va_newq hx hb hown (hts _ hw) (hao _ hN) hK hP hD.va hS hA hn hN0 hbytes hcells hslots hd (fun q cA H1 hK1 hP1 hD1 hS1 => ?_)
  have h1 := hK1.2 0 (cA, .object Cn) rfl
  have e := hE t _ ht cA h1.2
  subst e
  refine kk q H1 locs ls (kP_ins hP1) (kD_ins hD1.k) hS1 (fun t' ht' ty' hty' => ?_) hl
  rcases List.mem_cons.mp ht' with rfl | h
  · rw [ht] at hty'; cases hty'; exact h1
  · exact hT t' h ty' hty'
/-- a final field of the object at the head -/
theorem v_putF (C : kC Y g own cc d mc ms A) {h0 ci n index : Nat} {TT : u_T} {fs : List Value} (hc : zCl[ci]? = some (own, TT, n)) (hin : ∀ w ∈ u_ws own TT n, w ∈ zT) (ty0 : Nat → FieldType) (hty : ∀ k, k < n → parseFieldDescriptor (TT k).2.2.1 = some (ty0 k)) (hnm : ∀ a, a < n → ∀ b, b < n → a ≠ b → (TT a).2.1 ≠ (TT b).2.1) (k : Nat) (hk : k < n) (hlink : Cond.fieldLink own index own (TT k).2.1 (TT k).2.2.1 ∈ zT) (hdecl : (TT k).1 = own) (hfin : (TT k).2.2.2 = true) {v : Value} {ty : FieldType} (hdd : parseFieldDescriptor (TT k).2.2.1 = some ty) (hn : narrow ty v = v) (hfit : fits ty v = true) (hl0 : k < fs.length) (hd : decode cc pc = .ok (.putfield index, 3))
    (kk : V Y g A Q ((h0, .inr (ci, fs.set k v)) :: R) ts cells slots lv (pc + 3) stk) : V Y g A Q ((h0, .inr (ci, fs)) :: R) ts cells slots lv pc (v :: .ref h0 :: stk) := by
  obtain ⟨p, l, e, R0, s, m, args, below, meth, c, nL⟩ := Y
  obtain ⟨⟨hx, hb, hml, hown, hts⟩, hK, hE, hN, hO, hR, hini, hA, hr0, hlk⟩ := C
  intro H locs ls hP hD hS hT hl
  refine va_putF hx hb hts hin ty0 hty hnm hown hK hP hD.va hS 0 rfl hc k hk (hts _ hlink) (fun x hx0 => by rw [← hdecl]; exact hx0) hfin hini hdecl hdd hn hfit hl0 hd (fun H1 locs1 hP1 hD1 hS1 => ?_)
  exact kk H1 locs1 ls hP1 hD1.k hS1 hT hl
theorem v_put (C : kC Y g own cc d mc ms A) {h0 ci n index : Nat} {TT : u_T} {fs : List Value} (hc : zCl[ci]? = some (own, TT, n)) (hin : ∀ w ∈ u_ws own TT n, w ∈ zT) (ty0 : Nat → FieldType) (hty : ∀ k, k < n → parseFieldDescriptor (TT k).2.2.1 = some (ty0 k)) (hnm : ∀ a, a < n → ∀ b, b < n → a ≠ b → (TT a).2.1 ≠ (TT b).2.1) (k : Nat) (hk : k < n) (hlink : Cond.fieldLink own index own (TT k).2.1 (TT k).2.2.1 ∈ zT) (hdecl : (TT k).1 = own) (hfin : (TT k).2.2.2 = false) {v : Value} {ty : FieldType} (hdd : parseFieldDescriptor (TT k).2.2.1 = some ty) (hn : narrow ty v = v) (hfit : fits ty v = true) (hl0 : k < fs.length) (hd : decode cc pc = .ok (.putfield index, 3))
    (kk : V Y g A Q ((h0, .inr (ci, fs.set k v)) :: R) ts cells slots lv (pc + 3) stk) : V Y g A Q ((h0, .inr (ci, fs)) :: R) ts cells slots lv pc (v :: .ref h0 :: stk) := by
  obtain ⟨p, l, e, R0, s, m, args, below, meth, c, nL⟩ := Y
  obtain ⟨⟨hx, hb, hml, hown, hts⟩, hK, hE, hN, hO, hR, hini, hA, hr0, hlk⟩ := C
  intro H locs ls hP hD hS hT hl
  refine va_put hx hb hts hin ty0 hty hnm hown hK hP hD.va hS 0 rfl hc k hk (hts _ hlink) (fun x hx0 => by rw [← hdecl]; exact hx0) hfin hdd hn hfit hl0 hd (fun H1 locs1 hP1 hD1 hS1 => ?_)
  exact kk H1 locs1 ls hP1 hD1.k hS1 hT hl
theorem v_get (C : kC Y g own cc d mc ms A) {h0 ci n index : Nat} {TT : u_T} {fs : List Value} (hc : zCl[ci]? = some (own, TT, n)) (hin : ∀ w ∈ u_ws own TT n, w ∈ zT) (k : Nat) (hk : k < n) (hlink : Cond.fieldLink own index own (TT k).2.1 (TT k).2.2.1 ∈ zT) (hdecl : (TT k).1 = own) {v : Value} (hv : fs[k]? = some v) (hd : decode cc pc = .ok (.getfield index, 3))
    (kk : V Y g A Q ((h0, .inr (ci, fs)) :: R) ts cells slots lv (pc + 3) (v :: stk)) : V Y g A Q ((h0, .inr (ci, fs)) :: R) ts cells slots lv pc (.ref h0 :: stk) := by
  obtain ⟨p, l, e, R0, s, m, args, below, meth, c, nL⟩ := Y
  obtain ⟨⟨hx, hb, hml, hown, hts⟩, hK, hE, hN, hO, hR, hini, hA, hr0, hlk⟩ := C
  intro H locs ls hP hD hS hT hl
  exact va_get hx hb hts hin hown hK hP 0 rfl hc k hk (hts _ hlink) (fun x hx0 => by rw [← hdecl]; exact hx0) hv hd (kk H locs ls hP hD hS hT hl)
/-- an int into the array behind the head -/
theorem v_iast (C : kC Y g own cc d mc ms A) {q n : Nat} {f : Nat → Int32} {i x : Int32} (hi : vp_in i n) (hd : decode cc pc = .ok (.iastore, 1)) (hm : 0 ∈ ts)
    (kk : V Y g A Q (c0 :: (q, .inl (g.2.1 0, n, .inl (upd f i.toNatClampNeg x))) :: R) ts cells slots lv (pc + 1) stk) : V Y g A Q (c0 :: (q, .inl (g.2.1 0, n, .inl f)) :: R) ts cells slots lv pc (.int x :: .int i :: .ref q :: stk) := by
  obtain ⟨p, l, e, R0, s, m, args, below, meth, c, nL⟩ := Y
  obtain ⟨⟨hx, hb, hml, hown, hts⟩, hK, hE, hN, hO, hR, hini, hA, hr0, hlk⟩ := C
  intro H locs ls hP hD hS hT hl
  have hK1 : va_K g.1 zCl [(g.2.1 0, .int)] s := ⟨hK.1, fun k x hx => by
    cases k with
    | zero => cases hx; exact hT 0 hm .int rfl
    | succ k => simp at hx⟩
  refine va_iast hx hb hK1 hP hD.va hS 1 0 rfl rfl hi hd (fun H1 locs1 hP1 hD1 hS1 => ?_)
  exact kk H1 locs1 ls hP1 hD1.k hS1 hT hl
/-- an object into an array of objects: the array at place k0, the object at place k1 -/
theorem v_aast (C : kC Y g own cc d mc ms A) (k0 k1 : Nat) {q n v ci t : Nat} {r : vw_C} {vs : List Value} {f : Nat → Option Nat} {i : Int32} (ha : ws[k0]? = some (q, .inl (g.2.1 t, n, .inr (.inr (.inr (.inr f)))))) (hv : ws[k1]? = some (v, .inr (ci, vs))) (hc : zCl[ci]? = some r) (ht : zTyL[t]? = some (.object r.1)) (hi : vp_in i n) (hd : decode cc pc = .ok (.aastore, 1)) (hm : t ∈ ts)
    (kk : V Y g A Q (ws.set k0 (q, .inl (g.2.1 t, n, .inr (.inr (.inr (.inr (va_up f i.toNatClampNeg (some v)))))))) ts cells slots lv (pc + 1) stk) : V Y g A Q ws ts cells slots lv pc (.ref v :: .int i :: .ref q :: stk) := by
  obtain ⟨p, l, e, R0, s, m, args, below, meth, c, nL⟩ := Y
  obtain ⟨⟨hx, hb, hml, hown, hts⟩, hK, hE, hN, hO, hR, hini, hA, hr0, hlk⟩ := C
  intro H locs ls hP hD hS hT hl
  have hK1 : va_K g.1 zCl [(g.2.1 t, .object r.1)] s := ⟨hK.1, fun k x hx => by
    cases k with
    | zero => cases hx; exact hT t hm _ ht
    | succ k => simp at hx⟩
  refine va_astq hx hb hK1 hP hD.va hS k0 0 k1 ci ha rfl hv hc hi hd (fun H1 locs1 hP1 hD1 hS1 => ?_)
  exact kk H1 locs1 ls hP1 hD1.k hS1 hT hl
theorem v_new (C : kC Y g own cc d mc ms A) {Cn : String} {TT : u_T} {n ci index : Nat} {fs : List Value} (hw : Cond.classLink own index Cn ∈ zT ∧ Cond.instantiable Cn n ∈ zT ∧ Cond.initialized Cn ∈ zT) (hc : zCl[ci]? = some (Cn, TT, n)) (hin : ∀ w ∈ u_ws Cn TT n, w ∈ zT) (ty0 : Nat → FieldType) (hty : ∀ k, k < n → parseFieldDescriptor (TT k).2.2.1 = some (ty0 k)) (hfs : ∀ j, j < n → defaultValue (ty0 j) = vp_V fs j) (hcells : cells + 1 ≤ mc) (hslots : slots + n ≤ ms) (hd : decode cc pc = .ok (.new index, 3))
    (kk : ∀ q : Nat, V Y g A Q (c0 :: (q, .inr (ci, fs)) :: R) ts (cells + 1) (slots + n) lv (pc + 3) (.ref q :: stk)) : V Y g A Q (c0 :: R) ts cells slots lv pc stk := by
  obtain ⟨p, l, e, R0, s, m, args, below, meth, c, nL⟩ := Y
  obtain ⟨⟨hx, hb, hml, hown, hts⟩, hK, hE, hN, hO, rfl, hini, hA, hr0, hlk⟩ := C
  intro H locs ls hP hD hS hT hl
  refine va_new hx hb hts hin ty0 hty hown (hts _ hw.1) (hts _ hw.2.1) (hts _ hw.2.2) hK hP hD.va hS hA hc hfs hcells hslots hd (fun q H1 hP1 hD1 hS1 => ?_)
  exact kk q H1 locs ls (kP_ins hP1) (kD_ins hD1.k) hS1 hT hl
theorem kPre_blind {g : KG} {h0 ci : Nat} {fs : List Value} {sz : Nat} {av : List Value} : FrameBlind (va_Pc av (kPre g h0 ci fs sz)) := by
  intro a U gg mk h
  obtain ⟨h0, h1, h2, h3, h4, h5, h6, h7⟩ := h
  exact ⟨h0, h1, h2, va_K.moved (Vm.Alike.refl U.vm) h3, h4.moved (Vm.Alike.refl U.vm), h5.same rfl, h6.moved (Vm.Alike.refl U.vm), h7.same rfl⟩
/-- the call of a nest mate's constructor, on the new object behind the head -/
theorem v_ctorN (C : kC Y g own cc d mc ms A) {S : Type} {y : MethodName} {b : ByteArray} {n d' index ci h1 mc1 ms1 : Nat} {fs : List Value} {w1 : S → va_W} {ts1 : List Nat} {host : String} (hM : ∀ sz, kM Y.2.1 g y b n d' h1 ci fs sz w1 ts1 mc1 ms1) (hw : (Cond.instanceMethod y ∈ zT ∧ Cond.initialized y.cls ∈ zT ∧ Cond.code y b n none ∈ zT) ∧ (y.cls ≠ "java/lang/invoke/MethodHandle" ∧ y.cls ≠ "java/lang/invoke/VarHandle" ∧ (parseMethodDescriptor y.desc).map (fun d => d.parameters.length) = some 0) ∧ n ≤ 30 ∧ y.name = "<init>") (hl0 : ∀ U, zNest U → va_Nw (.methodLinkNest own index y host) U) (hdd : d' < d) (hcells : cells + mc1 ≤ mc) (hslots : slots + ms1 ≤ ms) (hsz : (stk.map fun v => v.category).sum ≤ 8) (hd : decode cc pc = .ok (.invokespecial index, 3))
    (kk : ∀ u : S, V Y g A Q (c0 :: (w1 u ++ R)) (ts1 ++ ts) (cells + mc1) (slots + ms1) lv (pc + 3) stk) : V Y g A Q (c0 :: (h1, .inr (ci, fs)) :: R) ts cells slots lv pc (.ref h1 :: stk) := by
  obtain ⟨p, l, e, R0, s, m, args, below, meth, c, nL⟩ := Y
  obtain ⟨⟨hx, hb, hml, hown, hts⟩, hK, hE, hN, hO, rfl, hini, hA, hr0, hlk⟩ := C
  intro H locs ls hP hD hS hT hl
  obtain ⟨⟨hw1, hw2, hw3⟩, hnm, hn30, hy1⟩ := hw
  have hF : ∀ q, va_A [(h1, (.inr (ci, fs) : va_E))] H.size q → A q := by
    rintro q (⟨k, e, h⟩ | h)
    · cases k with
      | zero => simp at h; rw [← h.1]; exact hD.2 (h1, .inr (ci, fs)) (by simp)
      | succ k => simp at h
    · exact hA q (Nat.le_trans hS.1 h)
  have hg : GoodIn zT (Cond.code y b n none :: zT) := zGood (fun w hw' => by
    rcases List.mem_cons.mp hw' with h | h
    · rw [h]; exact hw3
    · exact h)
  have hPc : va_P g.1 zCl [(h1, (.inr (ci, fs) : va_E))] H := kP_mem.mpr (fun x hx => kP_mem.mp hP x (by rw [List.mem_singleton.mp hx]; simp))
  refine va_callv (Q := Q) (va_runIN (As := []) (rest := stk) ⟨hx, hb, hml, hown, hts⟩ (hM H.size) ⟨va_cnB 0 hts hg rfl rfl rfl (hl0 _ hN) (hts _ hw2) hnm ⟨by show d' + 2 + 1 ≤ d + 2; omega, by show 8 + (n + 11) + 60 * (d' + 2) ≤ 60 * (d + 2); omega⟩, hy1, hts _ hw1⟩ ⟨kPre_blind, fun U hU hW => ⟨rfl, by rw [hU], by rw [hU]; exact hPc, va_K.moved hW.alike hK, hE.moved hW.alike, hN.warm hW, by rw [hU]; exact ((hO.1.kept hS.2.1).moved hW.alike).narrow hF, hO.2.warm hW⟩⟩ rfl rfl hl.1 rfl (lv_room hsz) hd ⟨hcells, hslots⟩) hS (fun q _ h => hF q h) hF (fun u t H1 locs1 ht hvm _ hB hz1 hk1 hS1 => ?_)
  obtain ⟨hB1, hB2, hB3⟩ := hB
  rw [ht] at hB1
  obtain ⟨j1, j2⟩ := k_join (L := [c0]) hP hD hk1 hF hB1 hB2
  refine kk u H1 locs1 ls j1 j2 hS1 (fun t' ht' ty' hty' => ?_) hl
  rcases List.mem_append.mp ht' with h | h
  · exact (hB3.moved hvm.symm) t' h ty' hty'
  · exact hT t' h ty' hty'
end KROWS
/-- a constructor's contract out of its walk -/
theorem kEnter {S : Type} {g : KG} {l : Launch} {y : MethodName} {own : String} {b : ByteArray} {n d h0 ci mc ms sz : Nat} {fs : List Value} {w1 : S → va_W} {ts : List Nat} (hy : plainName y.cls = true) (how : y.cls = own) (hni : y.name = "<init>") (hn : 1 ≤ n)
    (body : ∀ (Y : YX) (A : Nat → Prop) (Q : State → Prop), Y.2.1 = l → Y.2.2.2.2.2.2.2.2.2.2 = n → kC Y g own b d mc ms A → (∀ (u : S) (lv : List (Nat × Value)) (pc : Nat), decode b pc = .ok (.return_, 1) → V Y g A Q (w1 u) ts mc ms lv pc []) → V Y g A Q [(h0, .inr (ci, fs))] [] 0 0 [(0, .ref h0)] 0 []) : kM l g y b n d h0 ci fs sz w1 ts mc ms := by
  refine Met.ofW (cc := b) (maxL := n) (ret := none) hy rfl ?_
  intro p e s m args below meth c s₁ B hml hv
  obtain ⟨rfl, hsz, hP, hK, hE, hN, hO1, hO2⟩ := hv
  have hts := atoms_spec (ws := .code y b n none :: zT) B.pre
  have hown : s.vm.findClass own = some m.cls := how ▸ findClass_of_methodNamed B.named
  have hl := lv_entry ([.ref h0] : List Value) (n := n) hn
  rw [lg_entry_eq]
  subst hsz
  have hA : ∀ q : Nat, s.heap.size ≤ q → va_A [(h0, (.inr (ci, fs) : va_E))] s.heap.size q := fun q h => Or.inr h
  refine body (p, l, e, kroom d mc ms, s, m, ([.ref h0] : List Value).toArray, below, meth, c, n) (va_A [(h0, .inr (ci, fs))] s.heap.size) _ rfl rfl ⟨⟨B.exec, B.bytes, hml, hown, fun w hw => hts w (List.mem_cons_of_mem _ hw)⟩, hK, hE, hN, ⟨hO1, hO2⟩, rfl, (name_of_methodNamed B.named B.method).1.trans hni, hA, B.returns, B.notSynchronized⟩ ?_ s.heap [] _ hP ⟨by simp, fun x hx => by rw [List.mem_singleton.mp hx]; exact va_A.in (k := 0) rfl⟩ va_S.rf (fun t ht => by cases ht) hl
  intro u lv pc hd H locs ls hP1 hD1 hS1 hT1 hl1
  exact W.vret B.exec B.bytes B.returns (fun t ht hW => ⟨⟨u, rfl, trivial, by rw [ht]; exact hP1, hD1.va, hT1.moved hW.alike⟩, hS1.F ht⟩) hS1.2.2 hd B.notSynchronized
