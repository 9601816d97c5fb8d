/-! CONSTRUCTORS WALKED -/
section KLEN
variable {l : Launch} {A : Nat → Prop} {adK adV : Nat → Nat} {aB : Nat}
theorem zRO1_blind {av : List Value} : FrameBlind (va_Pc av (fun U => zRO1 A adK adV aB U U.heap)) := by
  intro a U gg mk h
  exact ⟨h.1, h.2.moved (Vm.Alike.refl U.vm)⟩
theorem cK_coder {i : Nat} (hi : i < 8) : Met l yJ0_coder_7d493 (.code yJ0_coder_7d493 cJ0_coder_7d493 1 (some .byte) :: zT) (zroom 0) (va_Pc [.ref (adK i)] (fun U => zRO1 A adK adV aB U U.heap)) (va_Qi (fun (r : Int32) (_ : Unit) => r = 0) (fun _ _ => True) (fun _ => False)) 0 0 (fun _ => False) := by
  refine Met.ofW (cc := cJ0_coder_7d493) (maxL := 1) (ret := some .byte) (by decide) rfl ?_
  intro p e s m args below meth c s₁ B hml hv
  obtain ⟨rfl, hO⟩ := hv
  have hx := B.exec
  have hb := B.bytes
  have hr := B.returns
  have hts := atoms_spec (ws := .code yJ0_coder_7d493 cJ0_coder_7d493 1 (some .byte) :: zT) B.pre
  have hts : ∀ w ∈ zT, w.before _ s = true := fun w hw => hts w (List.mem_cons_of_mem _ hw)
  have hown : s.vm.findClass RJ0 = some m.cls := findClass_of_methodNamed B.named
  have hlocks := B.notSynchronized
  have hl := lv_entry ([.ref (adK i)]) (n := 1) (Nat.le_of_ble_eq_true rfl)
  rw [lg_entry_eq]
  have hO' : zRO1 (fun _ => False) adK adV aB s s.heap := hO.narrow (fun q h => h.elim)
  refine va_gets (A := fun _ => False) hx hb hO'.2.2.2.1 va_S.rf hown (hts (.fieldLink RJ0 38 "java/lang/String" "COMPACT_STRINGS" "Z") (zT_of (i := 134) (by decide +kernel) rfl)) (fun _ h => h) dJ0_coder_7d493_0 ?_
  refine lv_if_eq (tgt := 13) hx hb dJ0_coder_7d493_3 rfl (fun h => absurd h (by decide)) (fun _ => ?_)
  refine lv_aload_n hx hb dJ0_coder_7d493_6 rfl (lv_at hl 0 rfl) ?_
  refine vk_getf (A := fun _ => False) hx hb (hO'.1.1 i hi).2.1 va_S.rf hown (hts (.fieldLink RJ0 15 "java/lang/String" "coder" "B") (zT_of (i := 1464) (by decide +kernel) rfl)) (fun _ h => h) dJ0_coder_7d493_7 ?_
  refine lv_goto (tgt := 14) hx hb dJ0_coder_7d493_10 rfl ?_
  exact W.zret (ty := .byte) hx hb hr rfl (fun t ht hW => ⟨⟨0, (), rfl, rfl, trivial⟩, (va_S.rf (A := fun _ => False)).F ht⟩) (fun _ h => by cases h) dJ0_coder_7d493_14
theorem cK_len {i : Nat} (hi : i < 8) : Met l yJ0_length_8abf5 (.code yJ0_length_8abf5 cJ0_length_8abf5 1 (some .int) :: zT) (zroom 1) (va_Pc [.ref (adK i)] (fun U => zRO1 A adK adV aB U U.heap)) (va_Qi (fun (r : Int32) (_ : Unit) => r = Int32.ofNat (zsl i)) (fun _ _ => True) (fun _ => False)) 0 0 (fun _ => False) := by
  refine Met.ofW (cc := cJ0_length_8abf5) (maxL := 1) (ret := some .int) (by decide) rfl ?_
  intro p e s m args below meth c s₁ B hml hv
  obtain ⟨rfl, hO⟩ := hv
  have hx := B.exec
  have hb := B.bytes
  have hr := B.returns
  have hts := atoms_spec (ws := .code yJ0_length_8abf5 cJ0_length_8abf5 1 (some .int) :: zT) B.pre
  have hts : ∀ w ∈ zT, w.before _ s = true := fun w hw => hts w (List.mem_cons_of_mem _ hw)
  have hown : s.vm.findClass RJ0 = some m.cls := findClass_of_methodNamed B.named
  have hlocks := B.notSynchronized
  have hl := lv_entry ([.ref (adK i)]) (n := 1) (Nat.le_of_ble_eq_true rfl)
  rw [lg_entry_eq]
  have hO' : zRO1 (fun _ => False) adK adV aB s s.heap := hO.narrow (fun q h => h.elim)
  refine lv_aload_n hx hb dJ0_length_8abf5_0 rfl (lv_at hl 0 rfl) ?_
  refine vk_getf (A := fun _ => False) hx hb (hO'.1.1 i hi).2.2.1 va_S.rf hown (hts (.fieldLink RJ0 9 "java/lang/String" "value" "[B") (zT_of (i := 1463) (by decide +kernel) rfl)) (fun _ h => h) dJ0_length_8abf5_1 ?_
  refine va_tlen (A := fun _ => False) hx hb (hO'.1.1 i hi).2.2.2 va_S.rf rfl dJ0_length_8abf5_4 ?_
  refine lv_aload_n hx hb dJ0_length_8abf5_5 rfl (lv_at hl 0 rfl) ?_
  have hk := kV_J0_335
  obtain ⟨hw, hcode, hnm, hn30⟩ := hk
  have hg : GoodIn zT (wsV RJ0 335 yJ0_coder_7d493.cls yJ0_coder_7d493 (Cond.code yJ0_coder_7d493 cJ0_coder_7d493 1 (some .byte) :: zT)) := zGood (fun w hw' => by
    simp only [wsV, List.cons_append, List.nil_append, List.mem_cons] at hw'
    rcases hw' with h | h | h | h | h | h
    · rw [h]; exact hw.1
    · rw [h]; exact hw.2.1
    · rw [h]; exact hw.2.2.1
    · rw [h]; exact hw.2.2.2
    · rw [h]; exact hcode
    · exact h)
  refine va_calli (A0 := fun _ => False) (H0 := s.heap) (va_runV (C := yJ0_coder_7d493.cls) (As := []) ⟨hx, hb, hml, hown, hts⟩ (cK_coder (A := fun _ => False) (adK := adK) (adV := adV) (aB := aB) hi) (cwV 0 hts hg rfl rfl rfl ⟨rfl, hnm⟩ ⟨by decide, by decide⟩) ⟨zRO1_blind, vk_recv hO'.1 hi va_S.rf, fun U hU hW => ⟨rfl, by show zRO1 _ _ _ _ U U.heap; rw [hU]; exact hO'.moved hW.alike⟩⟩ rfl rfl hl.1 rfl (lv_room (Nat.le_of_ble_eq_true rfl)) dJ0_length_8abf5_6 ⟨Nat.le_refl _, Nat.le_refl _⟩) va_S.rf (fun _ _ h => h) (fun _ h => h) (fun r _ t H1 locs1 ht hvm hp _ hz1 hk1 hS1 => ?_)
  subst hp
  refine lv_ishr hx hb dJ0_length_8abf5_9 ?_
  rw [show Int32.ofNat (lenS.getD i 0) >>> ((0 : Int32) &&& 31) = Int32.ofNat (lenS.getD i 0) from sb_shr0 _]
  exact W.zret (ty := .int) hx hb hr rfl (fun t ht hW => ⟨⟨_, (), rfl, rfl, trivial⟩, hS1.F ht⟩) hS1.2.2 dJ0_length_8abf5_10
theorem v_ldcS {Y : YX} {g : KG} {own : String} {cc : ByteArray} {d mc ms : Nat} {A : Nat → Prop} {Q : State → Prop} {ws : va_W} {ts : List Nat} {cells slots : Nat} {lv : List (Nat × Value)} {pc : Nat} {stk : List Value} (C : kC Y g own cc d mc ms A) {index i : Nat} {tx : String} (hz : ∀ (adK : Nat → Nat) (s : State), zRO2 adK s → vk_R own index tx (adK i) s) (hd : decode cc pc = .ok (.ldc index, 2)) (kk : V Y g A Q ws ts cells slots lv (pc + 2) (.ref (g.2.2.1 i) :: stk)) : V Y g A Q ws ts cells slots lv pc stk := by
  obtain ⟨p, l, e, R, s, m, args, below, meth, c, nL⟩ := Y
  obtain ⟨⟨hx, hb, hml, hown, hts⟩, hK, hE, hN, hO, hR, hini, hA, hr0, hlk⟩ := C
  intro H locs ls hP hD hS hT hl
  exact va_ldcS hx hb hown (hz _ _ hO.2) hd (kk H locs ls hP hD hS hT hl)
theorem v_len {Y : YX} {g : KG} {own : String} {cc : ByteArray} {d mc ms : Nat} {A : Nat → Prop} {Q : State → Prop} {ws : va_W} {ts : List Nat} {cells slots : Nat} {lv : List (Nat × Value)} {pc : Nat} {stk : List Value} (C : kC Y g own cc d mc ms A) {index i : Nat} (hi : i < 8) (hk : zLV own index yJ0_length_8abf5 cJ0_length_8abf5 1 (some .int) 0) (hd1 : 1 < d) (hc0 : cells ≤ mc) (hs0 : slots ≤ ms) (hsz : (stk.map fun v => v.category).sum ≤ 8) (hd : decode cc pc = .ok (.invokevirtual index, 3)) (kk : V Y g A Q ws ts cells slots lv (pc + 3) (.int (Int32.ofNat (zsl i)) :: stk)) : V Y g A Q ws ts cells slots lv pc (.ref (g.2.2.1 i) :: stk) := by
  obtain ⟨p, l, e, R, s, m, args, below, meth, c, nL⟩ := Y
  obtain ⟨⟨hx, hb, hml, hown, hts⟩, hK, hE, hN, hO, rfl, hini, hA, hr0, hlk⟩ := C
  intro H locs ls hP hD hS hT hl
  obtain ⟨hw, hcode, hnm, hn30⟩ := hk
  have hg : GoodIn zT (wsV own index yJ0_length_8abf5.cls yJ0_length_8abf5 (Cond.code yJ0_length_8abf5 cJ0_length_8abf5 1 (some .int) :: zT)) := zGood (fun w hw' => by
    simp only [wsV, List.cons_append, List.nil_append, List.mem_cons] at hw'
    rcases hw' with h | h | h | h | h | h
    · rw [h]; exact hw.1
    · rw [h]; exact hw.2.1
    · rw [h]; exact hw.2.2.1
    · rw [h]; exact hw.2.2.2
    · rw [h]; exact hcode
    · exact h)
  have hOH : zRO1 A g.2.2.1 g.2.2.2.1 g.2.2.2.2 s H := hO.1.kept hS.2.1
  refine va_calli (A0 := A) (H0 := s.heap) (va_runV (C := yJ0_length_8abf5.cls) (As := []) ⟨hx, hb, hml, hown, hts⟩ (cK_len (A := A) (adK := g.2.2.1) (adV := g.2.2.2.1) (aB := g.2.2.2.2) hi) (cwV 0 hts hg rfl rfl rfl ⟨rfl, hnm⟩ ⟨by show 1 + 2 + 1 ≤ d + 2; omega, by show 8 + (1 + 11) + 60 * (1 + 2) ≤ 60 * (d + 2); omega⟩) ⟨zRO1_blind, vk_recv hO.1.1 hi hS, fun U hU hW => ⟨rfl, by show zRO1 _ _ _ _ U U.heap; rw [hU]; exact hOH.moved hW.alike⟩⟩ rfl rfl hl.1 rfl (lv_room hsz) hd ⟨hc0, hs0⟩) hS (fun _ _ h => h.elim) (fun _ h => h.elim) (fun r _ t H1 locs1 ht hvm hp _ hz1 hk1 hS1 => ?_)
  subst hp
  have hk1' : ∀ q : Nat, q < H.size → H1[q]? = H[q]? := fun q hq => hk1 q hq (fun h => h)
  exact kk H1 locs1 ls (hP.kept (fun k q hq => hk1' q.1 (hP k q hq).lt)) hD hS1 hT hl
end KLEN
theorem zao2 (U : State) (h : zNest U) : va_AO RX2 U := h.2.1
theorem zao4 (U : State) (h : zNest U) : va_AO RX4 U := h.2.2
def wX0 (g : KG) (h0 : Nat) (u : Nat) : va_W := match u with
  | q0 => [(h0, .inr (0, [.int 0, .ref q0, .int 0, .int 0, .int 0])), (q0, .inl (g.2.1 0, 20, .inl (fun _ => 0)))]
set_option maxHeartbeats 8000000 in
set_option maxRecDepth 100000 in
theorem X0_init_k (l : Launch) {g : KG} {h0 sz : Nat} : kM l g yX0_init cX0_init 1 1 h0 0 [.int 0, .null, .int 0, .int 0, .int 0] sz (wX0 g h0) [0] 1 20 :=
  kEnter (by decide) rfl rfl (by decide) (fun Y A Q _ hN C hend => by
    refine v_aload_n (pc := 0) C dX0_init_0 rfl 0 rfl ?_
    refine v_obj (pc := 1) C ⟨(zT_of (i := 272) (by decide +kernel) rfl), (zT_of (i := 117) (by decide +kernel) rfl), (zT_of (i := 118) (by decide +kernel) rfl)⟩ (Nat.le_of_ble_eq_true rfl) dX0_init_1 ?_
    refine v_aload_n (pc := 4) C dX0_init_4 rfl 0 rfl ?_
    refine v_bipush (v := 20) (pc := 5) C dX0_init_5 (by decide) ?_
    refine v_newa (at_ := .int) (ty := .int) (pc := 7) (t := 0) (N' := 20) (a0 := (20, .inl (fun _ => 0))) C (zT_of (i := 182) (by decide +kernel) rfl) rfl rfl (fun _ => rfl) (by decide) (by decide) (Nat.le_of_ble_eq_true rfl) (Nat.le_of_ble_eq_true rfl) (Nat.le_of_ble_eq_true rfl) dX0_init_7 (fun q0 => ?_)
    refine v_putF (ci := 0) (fs := [.int 0, .null, .int 0, .int 0, .int 0]) (pc := 9) (v := .ref q0) (ty := .array .int) C rfl inX0 tyX0 tyX0_ok nmX0 1 (by decide) (zT_of (i := 275) (by decide +kernel) rfl) rfl rfl (by decide +kernel) rfl rfl (Nat.le_of_ble_eq_true rfl) dX0_init_9 ?_
    exact hend q0 _ _ dX0_init_12)
def wX1 (g : KG) (h0 : Nat) (u : Nat × Nat × Nat) : va_W := match u with
  | (q0, q1, q2) => [(h0, .inr (1, [.int 0, .ref q0, .ref q1, .int 0, .ref q2])), (q2, .inl (g.2.1 0, 12, .inl (fun _ => 0))), (q1, .inl (g.2.1 0, 8, .inl (fun _ => 0))), (q0, .inl (g.2.1 0, 8, .inl (fun _ => 0)))]
set_option maxHeartbeats 8000000 in
set_option maxRecDepth 100000 in
theorem X1_init_k (l : Launch) {g : KG} {h0 sz : Nat} : kM l g yX1_init cX1_init 1 1 h0 1 [.int 0, .null, .null, .int 0, .null] sz (wX1 g h0) [0, 0, 0] 3 28 :=
  kEnter (by decide) rfl rfl (by decide) (fun Y A Q _ hN C hend => by
    refine v_aload_n (pc := 0) C dX1_init_0 rfl 0 rfl ?_
    refine v_obj (pc := 1) C ⟨(zT_of (i := 189) (by decide +kernel) rfl), (zT_of (i := 117) (by decide +kernel) rfl), (zT_of (i := 118) (by decide +kernel) rfl)⟩ (Nat.le_of_ble_eq_true rfl) dX1_init_1 ?_
    refine v_aload_n (pc := 4) C dX1_init_4 rfl 0 rfl ?_
    refine v_bipush (v := 8) (pc := 5) C dX1_init_5 (by decide) ?_
    refine v_newa (at_ := .int) (ty := .int) (pc := 7) (t := 0) (N' := 8) (a0 := (8, .inl (fun _ => 0))) C (zT_of (i := 182) (by decide +kernel) rfl) rfl rfl (fun _ => rfl) (by decide) (by decide) (Nat.le_of_ble_eq_true rfl) (Nat.le_of_ble_eq_true rfl) (Nat.le_of_ble_eq_true rfl) dX1_init_7 (fun q0 => ?_)
    refine v_putF (ci := 1) (fs := [.int 0, .null, .null, .int 0, .null]) (pc := 9) (v := .ref q0) (ty := .array .int) C rfl inX1 tyX1 tyX1_ok nmX1 1 (by decide) (zT_of (i := 192) (by decide +kernel) rfl) rfl rfl (by decide +kernel) rfl rfl (Nat.le_of_ble_eq_true rfl) dX1_init_9 ?_
    refine v_aload_n (pc := 12) C dX1_init_12 rfl 0 rfl ?_
    refine v_bipush (v := 8) (pc := 13) C dX1_init_13 (by decide) ?_
    refine v_newa (at_ := .int) (ty := .int) (pc := 15) (t := 0) (N' := 8) (a0 := (8, .inl (fun _ => 0))) C (zT_of (i := 182) (by decide +kernel) rfl) rfl rfl (fun _ => rfl) (by decide) (by decide) (Nat.le_of_ble_eq_true rfl) (Nat.le_of_ble_eq_true rfl) (Nat.le_of_ble_eq_true rfl) dX1_init_15 (fun q1 => ?_)
    refine v_putF (ci := 1) (fs := [.int 0, .ref q0, .null, .int 0, .null]) (pc := 17) (v := .ref q1) (ty := .array .int) C rfl inX1 tyX1 tyX1_ok nmX1 2 (by decide) (zT_of (i := 194) (by decide +kernel) rfl) rfl rfl (by decide +kernel) rfl rfl (Nat.le_of_ble_eq_true rfl) dX1_init_17 ?_
    refine v_aload_n (pc := 20) C dX1_init_20 rfl 0 rfl ?_
    refine v_bipush (v := 12) (pc := 21) C dX1_init_21 (by decide) ?_
    refine v_newa (at_ := .int) (ty := .int) (pc := 23) (t := 0) (N' := 12) (a0 := (12, .inl (fun _ => 0))) C (zT_of (i := 182) (by decide +kernel) rfl) rfl rfl (fun _ => rfl) (by decide) (by decide) (Nat.le_of_ble_eq_true rfl) (Nat.le_of_ble_eq_true rfl) (Nat.le_of_ble_eq_true rfl) dX1_init_23 (fun q2 => ?_)
    refine v_putF (ci := 1) (fs := [.int 0, .ref q0, .ref q1, .int 0, .null]) (pc := 25) (v := .ref q2) (ty := .array .int) C rfl inX1 tyX1 tyX1_ok nmX1 4 (by decide) (zT_of (i := 198) (by decide +kernel) rfl) rfl rfl (by decide +kernel) rfl rfl (Nat.le_of_ble_eq_true rfl) dX1_init_25 ?_
    exact hend (q0, q1, q2) _ _ dX1_init_28)
def wX2 (g : KG) (h0 : Nat) (u : Nat × Nat × Nat × Nat × Nat) : va_W := match u with
  | (q0, q1, q2, q3, q4) => [(h0, .inr (2, [.int 0, .int 0, .ref q0, .ref q1, .int 0, .ref q2, .ref q3, .ref q4])), (q4, .inl (g.2.1 0, 100, .inl (fun _ => 0))), (q3, .inl (g.2.1 0, 100, .inl (fun _ => 0))), (q2, .inl (g.2.1 0, 100, .inl (fun _ => 0))), (q1, .inl (g.2.1 0, 10, .inl (fun _ => 0))), (q0, .inl (g.2.1 0, 10, .inl (fun _ => 0)))]
set_option maxHeartbeats 8000000 in
set_option maxRecDepth 100000 in
theorem X2_init_k (l : Launch) {g : KG} {h0 sz : Nat} : kM l g yX2_init cX2_init 1 1 h0 2 [.int 0, .int 0, .null, .null, .int 0, .null, .null, .null] sz (wX2 g h0) [0, 0, 0, 0, 0] 5 320 :=
  kEnter (by decide) rfl rfl (by decide) (fun Y A Q _ hN C hend => by
    refine v_aload_n (pc := 0) C dX2_init_0 rfl 0 rfl ?_
    refine v_obj (pc := 1) C ⟨(zT_of (i := 222) (by decide +kernel) rfl), (zT_of (i := 117) (by decide +kernel) rfl), (zT_of (i := 118) (by decide +kernel) rfl)⟩ (Nat.le_of_ble_eq_true rfl) dX2_init_1 ?_
    refine v_aload_n (pc := 4) C dX2_init_4 rfl 0 rfl ?_
    refine v_bipush (v := 10) (pc := 5) C dX2_init_5 (by decide) ?_
    refine v_newa (at_ := .int) (ty := .int) (pc := 7) (t := 0) (N' := 10) (a0 := (10, .inl (fun _ => 0))) C (zT_of (i := 182) (by decide +kernel) rfl) rfl rfl (fun _ => rfl) (by decide) (by decide) (Nat.le_of_ble_eq_true rfl) (Nat.le_of_ble_eq_true rfl) (Nat.le_of_ble_eq_true rfl) dX2_init_7 (fun q0 => ?_)
    refine v_putF (ci := 2) (fs := [.int 0, .int 0, .null, .null, .int 0, .null, .null, .null]) (pc := 9) (v := .ref q0) (ty := .array .int) C rfl inX2 tyX2 tyX2_ok nmX2 2 (by decide) (zT_of (i := 227) (by decide +kernel) rfl) rfl rfl (by decide +kernel) rfl rfl (Nat.le_of_ble_eq_true rfl) dX2_init_9 ?_
    refine v_aload_n (pc := 12) C dX2_init_12 rfl 0 rfl ?_
    refine v_bipush (v := 10) (pc := 13) C dX2_init_13 (by decide) ?_
    refine v_newa (at_ := .int) (ty := .int) (pc := 15) (t := 0) (N' := 10) (a0 := (10, .inl (fun _ => 0))) C (zT_of (i := 182) (by decide +kernel) rfl) rfl rfl (fun _ => rfl) (by decide) (by decide) (Nat.le_of_ble_eq_true rfl) (Nat.le_of_ble_eq_true rfl) (Nat.le_of_ble_eq_true rfl) dX2_init_15 (fun q1 => ?_)
    refine v_putF (ci := 2) (fs := [.int 0, .int 0, .ref q0, .null, .int 0, .null, .null, .null]) (pc := 17) (v := .ref q1) (ty := .array .int) C rfl inX2 tyX2 tyX2_ok nmX2 3 (by decide) (zT_of (i := 228) (by decide +kernel) rfl) rfl rfl (by decide +kernel) rfl rfl (Nat.le_of_ble_eq_true rfl) dX2_init_17 ?_
    refine v_aload_n (pc := 20) C dX2_init_20 rfl 0 rfl ?_
    refine v_bipush (v := 100) (pc := 21) C dX2_init_21 (by decide) ?_
    refine v_newa (at_ := .int) (ty := .int) (pc := 23) (t := 0) (N' := 100) (a0 := (100, .inl (fun _ => 0))) C (zT_of (i := 182) (by decide +kernel) rfl) rfl rfl (fun _ => rfl) (by decide) (by decide) (Nat.le_of_ble_eq_true rfl) (Nat.le_of_ble_eq_true rfl) (Nat.le_of_ble_eq_true rfl) dX2_init_23 (fun q2 => ?_)
    refine v_putF (ci := 2) (fs := [.int 0, .int 0, .ref q0, .ref q1, .int 0, .null, .null, .null]) (pc := 25) (v := .ref q2) (ty := .array .int) C rfl inX2 tyX2 tyX2_ok nmX2 5 (by decide) (zT_of (i := 230) (by decide +kernel) rfl) rfl rfl (by decide +kernel) rfl rfl (Nat.le_of_ble_eq_true rfl) dX2_init_25 ?_
    refine v_aload_n (pc := 28) C dX2_init_28 rfl 0 rfl ?_
    refine v_bipush (v := 100) (pc := 29) C dX2_init_29 (by decide) ?_
    refine v_newa (at_ := .int) (ty := .int) (pc := 31) (t := 0) (N' := 100) (a0 := (100, .inl (fun _ => 0))) C (zT_of (i := 182) (by decide +kernel) rfl) rfl rfl (fun _ => rfl) (by decide) (by decide) (Nat.le_of_ble_eq_true rfl) (Nat.le_of_ble_eq_true rfl) (Nat.le_of_ble_eq_true rfl) dX2_init_31 (fun q3 => ?_)
    refine v_putF (ci := 2) (fs := [.int 0, .int 0, .ref q0, .ref q1, .int 0, .ref q2, .null, .null]) (pc := 33) (v := .ref q3) (ty := .array .int) C rfl inX2 tyX2 tyX2_ok nmX2 6 (by decide) (zT_of (i := 231) (by decide +kernel) rfl) rfl rfl (by decide +kernel) rfl rfl (Nat.le_of_ble_eq_true rfl) dX2_init_33 ?_
    refine v_aload_n (pc := 36) C dX2_init_36 rfl 0 rfl ?_
    refine v_bipush (v := 100) (pc := 37) C dX2_init_37 (by decide) ?_
    refine v_newa (at_ := .int) (ty := .int) (pc := 39) (t := 0) (N' := 100) (a0 := (100, .inl (fun _ => 0))) C (zT_of (i := 182) (by decide +kernel) rfl) rfl rfl (fun _ => rfl) (by decide) (by decide) (Nat.le_of_ble_eq_true rfl) (Nat.le_of_ble_eq_true rfl) (Nat.le_of_ble_eq_true rfl) dX2_init_39 (fun q4 => ?_)
    refine v_putF (ci := 2) (fs := [.int 0, .int 0, .ref q0, .ref q1, .int 0, .ref q2, .ref q3, .null]) (pc := 41) (v := .ref q4) (ty := .array .int) C rfl inX2 tyX2 tyX2_ok nmX2 7 (by decide) (zT_of (i := 232) (by decide +kernel) rfl) rfl rfl (by decide +kernel) rfl rfl (Nat.le_of_ble_eq_true rfl) dX2_init_41 ?_
    exact hend (q0, q1, q2, q3, q4) _ _ dX2_init_44)
def wX3 (g : KG) (h0 : Nat) (u : Nat × Nat × Nat × Nat × Nat × Nat × Nat) : va_W := match u with
  | (q0, q1, q2, q3, q4, q5, q6) => [(h0, .inr (3, [.int 0, .ref q0, .ref q6, .int 0])), (q6, .inl (g.2.1 1, 100, .inl (fun _ => 0))), (q0, .inr (2, [.int 0, .int 0, .ref q1, .ref q2, .int 0, .ref q3, .ref q4, .ref q5])), (q5, .inl (g.2.1 0, 100, .inl (fun _ => 0))), (q4, .inl (g.2.1 0, 100, .inl (fun _ => 0))), (q3, .inl (g.2.1 0, 100, .inl (fun _ => 0))), (q2, .inl (g.2.1 0, 10, .inl (fun _ => 0))), (q1, .inl (g.2.1 0, 10, .inl (fun _ => 0)))]
set_option maxHeartbeats 8000000 in
set_option maxRecDepth 100000 in
theorem X3_init_k (l : Launch) {g : KG} {h0 sz : Nat} : kM l g yX3_init cX3_init 1 2 h0 3 [.int 0, .null, .null, .int 0] sz (wX3 g h0) [1, 0, 0, 0, 0, 0] 7 428 :=
  kEnter (by decide) rfl rfl (by decide) (fun Y A Q _ hN C hend => by
    refine v_aload_n (pc := 0) C dX3_init_0 rfl 0 rfl ?_
    refine v_obj (pc := 1) C ⟨(zT_of (i := 216) (by decide +kernel) rfl), (zT_of (i := 117) (by decide +kernel) rfl), (zT_of (i := 118) (by decide +kernel) rfl)⟩ (Nat.le_of_ble_eq_true rfl) dX3_init_1 ?_
    refine v_aload_n (pc := 4) C dX3_init_4 rfl 0 rfl ?_
    refine v_new (pc := 5) (ci := 2) (fs := [.int 0, .int 0, .null, .null, .int 0, .null, .null, .null]) C ⟨(zT_of (i := 217) (by decide +kernel) rfl), (zT_of (i := 218) (by decide +kernel) rfl), (zT_of (i := 101) (by decide +kernel) rfl)⟩ rfl inX2 tyX2 tyX2_ok (by decide) (Nat.le_of_ble_eq_true rfl) (Nat.le_of_ble_eq_true rfl) dX3_init_5 (fun q0 => ?_)
    refine v_dup (pc := 8) C dX3_init_8 rfl ?_
    refine v_ctorN (pc := 9) C (fun _ => X2_init_k _) ⟨⟨(zT_of (i := 220) (by decide +kernel) rfl), (zT_of (i := 101) (by decide +kernel) rfl), (zT_of (i := 221) (by decide +kernel) rfl)⟩, ⟨by decide +kernel, by decide +kernel, by decide +kernel⟩, by decide, rfl⟩ (fun _ h => h.1.2.2.2.2.2.2) (by decide) (Nat.le_of_ble_eq_true rfl) (Nat.le_of_ble_eq_true rfl) (Nat.le_of_ble_eq_true rfl) dX3_init_9 (fun u => ?_)
    obtain ⟨q1, q2, q3, q4, q5⟩ := u
    refine v_putF (ci := 3) (fs := [.int 0, .null, .null, .int 0]) (pc := 12) (v := .ref q0) (ty := .object "MiddleThree$Street") C rfl inX3 tyX3 tyX3_ok nmX3 1 (by decide) (zT_of (i := 252) (by decide +kernel) rfl) rfl rfl (by decide +kernel) rfl rfl (Nat.le_of_ble_eq_true rfl) dX3_init_12 ?_
    refine v_aload_n (pc := 15) C dX3_init_15 rfl 0 rfl ?_
    refine v_bipush (v := 100) (pc := 16) C dX3_init_16 (by decide) ?_
    refine v_newa (at_ := .byte) (ty := .byte) (pc := 18) (t := 1) (N' := 100) (a0 := (100, .inl (fun _ => 0))) C (zT_of (i := 183) (by decide +kernel) rfl) rfl rfl (fun _ => rfl) (by decide) (by decide) (Nat.le_of_ble_eq_true rfl) (Nat.le_of_ble_eq_true rfl) (Nat.le_of_ble_eq_true rfl) dX3_init_18 (fun q6 => ?_)
    refine v_putF (ci := 3) (fs := [.int 0, .ref q0, .null, .int 0]) (pc := 20) (v := .ref q6) (ty := .array .byte) C rfl inX3 tyX3 tyX3_ok nmX3 2 (by decide) (zT_of (i := 254) (by decide +kernel) rfl) rfl rfl (by decide +kernel) rfl rfl (Nat.le_of_ble_eq_true rfl) dX3_init_20 ?_
    exact hend (q0, q1, q2, q3, q4, q5, q6) _ _ dX3_init_23)
def wX4 (g : KG) (h0 : Nat) (u : Nat) : va_W := match u with
  | q0 => [(h0, .inr (4, [.int (-1), .int 0, .ref q0])), (q0, .inl (g.2.1 3, 60, .inr (.inl (fun _ => 0))))]
set_option maxHeartbeats 8000000 in
set_option maxRecDepth 100000 in
theorem X4_init_k (l : Launch) {g : KG} {h0 sz : Nat} : kM l g yX4_init cX4_init 1 1 h0 4 [.int 0, .int 0, .null] sz (wX4 g h0) [3] 1 60 :=
  kEnter (by decide) rfl rfl (by decide) (fun Y A Q _ hN C hend => by
    refine v_aload_n (pc := 0) C dX4_init_0 rfl 0 rfl ?_
    refine v_obj (pc := 1) C ⟨(zT_of (i := 298) (by decide +kernel) rfl), (zT_of (i := 117) (by decide +kernel) rfl), (zT_of (i := 118) (by decide +kernel) rfl)⟩ (Nat.le_of_ble_eq_true rfl) dX4_init_1 ?_
    refine v_aload_n (pc := 4) C dX4_init_4 rfl 0 rfl ?_
    refine v_iconst (v := (-1)) (pc := 5) C dX4_init_5 (by decide) ?_
    refine v_put (ci := 4) (fs := [.int 0, .int 0, .null]) (pc := 6) (v := .int (-1)) (ty := .int) C rfl inX4 tyX4 tyX4_ok nmX4 0 (by decide) (zT_of (i := 299) (by decide +kernel) rfl) rfl rfl (by decide +kernel) rfl rfl (Nat.le_of_ble_eq_true rfl) dX4_init_6 ?_
    refine v_aload_n (pc := 9) C dX4_init_9 rfl 0 rfl ?_
    refine v_bipush (v := 60) (pc := 10) C dX4_init_10 (by decide) ?_
    refine v_newa (at_ := .long) (ty := .long) (pc := 12) (t := 3) (N' := 60) (a0 := (60, .inr (.inl (fun _ => 0)))) C (zT_of (i := 312) (by decide +kernel) rfl) rfl rfl (fun _ => rfl) (by decide) (by decide) (Nat.le_of_ble_eq_true rfl) (Nat.le_of_ble_eq_true rfl) (Nat.le_of_ble_eq_true rfl) dX4_init_12 (fun q0 => ?_)
    refine v_putF (ci := 4) (fs := [.int (-1), .int 0, .null]) (pc := 14) (v := .ref q0) (ty := .array .long) C rfl inX4 tyX4 tyX4_ok nmX4 2 (by decide) (zT_of (i := 303) (by decide +kernel) rfl) rfl rfl (by decide +kernel) rfl rfl (Nat.le_of_ble_eq_true rfl) dX4_init_14 ?_
    exact hend q0 _ _ dX4_init_17)
def wX5 (g : KG) (h0 : Nat) (u : Nat × Nat × Nat × Nat × Nat × Nat × Nat × Nat) : va_W := match u with
  | (q0, q1, q2, q3, q4, q5, q6, q7) => [(h0, .inr (5, [.int 0, .int 0, .null, .ref q0, .ref q1, .ref q2, .ref q3, .ref q4, .ref q5, .ref q6, .int 0, .ref q7])), (q7, .inl (g.2.1 0, 6, .inl (fun _ => 0))), (q6, .inl (g.2.1 0, 5, .inl (fun _ => 0))), (q5, .inl (g.2.1 0, 7, .inl (fun _ => 0))), (q4, .inl (g.2.1 0, 7, .inl (fun _ => 0))), (q3, .inl (g.2.1 0, 28, .inl (fun _ => 0))), (q2, .inl (g.2.1 0, 7, .inl (fun _ => 0))), (q1, .inl (g.2.1 0, 7, .inl (fun _ => 0))), (q0, .inl (g.2.1 0, 7, .inl (fun _ => 0)))]
set_option maxHeartbeats 8000000 in
set_option maxRecDepth 100000 in
theorem X5_init_k (l : Launch) {g : KG} {h0 sz : Nat} : kM l g yX5_init cX5_init 1 2 h0 5 [.int 0, .int 0, .null, .null, .null, .null, .null, .null, .null, .null, .int 0, .null] sz (wX5 g h0) [0, 0, 0, 0, 0, 0, 0, 0] 8 74 :=
  kEnter (by decide) rfl rfl (by decide) (fun Y A Q _ hN C hend => by
    refine v_aload_n (pc := 0) C dX5_init_0 rfl 0 rfl ?_
    refine v_obj (pc := 1) C ⟨(zT_of (i := 124) (by decide +kernel) rfl), (zT_of (i := 117) (by decide +kernel) rfl), (zT_of (i := 118) (by decide +kernel) rfl)⟩ (Nat.le_of_ble_eq_true rfl) dX5_init_1 ?_
    refine v_aload_n (pc := 4) C dX5_init_4 rfl 0 rfl ?_
    refine v_bipush (v := 7) (pc := 5) C dX5_init_5 (by decide) ?_
    refine v_newa (at_ := .int) (ty := .int) (pc := 7) (t := 0) (N' := 7) (a0 := (7, .inl (fun _ => 0))) C (zT_of (i := 182) (by decide +kernel) rfl) rfl rfl (fun _ => rfl) (by decide) (by decide) (Nat.le_of_ble_eq_true rfl) (Nat.le_of_ble_eq_true rfl) (Nat.le_of_ble_eq_true rfl) dX5_init_7 (fun q0 => ?_)
    refine v_putF (ci := 5) (fs := [.int 0, .int 0, .null, .null, .null, .null, .null, .null, .null, .null, .int 0, .null]) (pc := 9) (v := .ref q0) (ty := .array .int) C rfl inX5 tyX5 tyX5_ok nmX5 3 (by decide) (zT_of (i := 142) (by decide +kernel) rfl) rfl rfl (by decide +kernel) rfl rfl (Nat.le_of_ble_eq_true rfl) dX5_init_9 ?_
    refine v_aload_n (pc := 12) C dX5_init_12 rfl 0 rfl ?_
    refine v_bipush (v := 7) (pc := 13) C dX5_init_13 (by decide) ?_
    refine v_newa (at_ := .int) (ty := .int) (pc := 15) (t := 0) (N' := 7) (a0 := (7, .inl (fun _ => 0))) C (zT_of (i := 182) (by decide +kernel) rfl) rfl rfl (fun _ => rfl) (by decide) (by decide) (Nat.le_of_ble_eq_true rfl) (Nat.le_of_ble_eq_true rfl) (Nat.le_of_ble_eq_true rfl) dX5_init_15 (fun q1 => ?_)
    refine v_putF (ci := 5) (fs := [.int 0, .int 0, .null, .ref q0, .null, .null, .null, .null, .null, .null, .int 0, .null]) (pc := 17) (v := .ref q1) (ty := .array .int) C rfl inX5 tyX5 tyX5_ok nmX5 4 (by decide) (zT_of (i := 144) (by decide +kernel) rfl) rfl rfl (by decide +kernel) rfl rfl (Nat.le_of_ble_eq_true rfl) dX5_init_17 ?_
    refine v_aload_n (pc := 20) C dX5_init_20 rfl 0 rfl ?_
    refine v_bipush (v := 7) (pc := 21) C dX5_init_21 (by decide) ?_
    refine v_newa (at_ := .int) (ty := .int) (pc := 23) (t := 0) (N' := 7) (a0 := (7, .inl (fun _ => 0))) C (zT_of (i := 182) (by decide +kernel) rfl) rfl rfl (fun _ => rfl) (by decide) (by decide) (Nat.le_of_ble_eq_true rfl) (Nat.le_of_ble_eq_true rfl) (Nat.le_of_ble_eq_true rfl) dX5_init_23 (fun q2 => ?_)
    refine v_putF (ci := 5) (fs := [.int 0, .int 0, .null, .ref q0, .ref q1, .null, .null, .null, .null, .null, .int 0, .null]) (pc := 25) (v := .ref q2) (ty := .array .int) C rfl inX5 tyX5 tyX5_ok nmX5 5 (by decide) (zT_of (i := 146) (by decide +kernel) rfl) rfl rfl (by decide +kernel) rfl rfl (Nat.le_of_ble_eq_true rfl) dX5_init_25 ?_
    refine v_aload_n (pc := 28) C dX5_init_28 rfl 0 rfl ?_
    refine v_bipush (v := 28) (pc := 29) C dX5_init_29 (by decide) ?_
    refine v_newa (at_ := .int) (ty := .int) (pc := 31) (t := 0) (N' := 28) (a0 := (28, .inl (fun _ => 0))) C (zT_of (i := 182) (by decide +kernel) rfl) rfl rfl (fun _ => rfl) (by decide) (by decide) (Nat.le_of_ble_eq_true rfl) (Nat.le_of_ble_eq_true rfl) (Nat.le_of_ble_eq_true rfl) dX5_init_31 (fun q3 => ?_)
    refine v_putF (ci := 5) (fs := [.int 0, .int 0, .null, .ref q0, .ref q1, .ref q2, .null, .null, .null, .null, .int 0, .null]) (pc := 33) (v := .ref q3) (ty := .array .int) C rfl inX5 tyX5 tyX5_ok nmX5 6 (by decide) (zT_of (i := 148) (by decide +kernel) rfl) rfl rfl (by decide +kernel) rfl rfl (Nat.le_of_ble_eq_true rfl) dX5_init_33 ?_
    refine v_aload_n (pc := 36) C dX5_init_36 rfl 0 rfl ?_
    refine v_bipush (v := 7) (pc := 37) C dX5_init_37 (by decide) ?_
    refine v_newa (at_ := .int) (ty := .int) (pc := 39) (t := 0) (N' := 7) (a0 := (7, .inl (fun _ => 0))) C (zT_of (i := 182) (by decide +kernel) rfl) rfl rfl (fun _ => rfl) (by decide) (by decide) (Nat.le_of_ble_eq_true rfl) (Nat.le_of_ble_eq_true rfl) (Nat.le_of_ble_eq_true rfl) dX5_init_39 (fun q4 => ?_)
    refine v_putF (ci := 5) (fs := [.int 0, .int 0, .null, .ref q0, .ref q1, .ref q2, .ref q3, .null, .null, .null, .int 0, .null]) (pc := 41) (v := .ref q4) (ty := .array .int) C rfl inX5 tyX5 tyX5_ok nmX5 7 (by decide) (zT_of (i := 150) (by decide +kernel) rfl) rfl rfl (by decide +kernel) rfl rfl (Nat.le_of_ble_eq_true rfl) dX5_init_41 ?_
    refine v_aload_n (pc := 44) C dX5_init_44 rfl 0 rfl ?_
    refine v_bipush (v := 7) (pc := 45) C dX5_init_45 (by decide) ?_
    refine v_newa (at_ := .int) (ty := .int) (pc := 47) (t := 0) (N' := 7) (a0 := (7, .inl (fun _ => 0))) C (zT_of (i := 182) (by decide +kernel) rfl) rfl rfl (fun _ => rfl) (by decide) (by decide) (Nat.le_of_ble_eq_true rfl) (Nat.le_of_ble_eq_true rfl) (Nat.le_of_ble_eq_true rfl) dX5_init_47 (fun q5 => ?_)
    refine v_putF (ci := 5) (fs := [.int 0, .int 0, .null, .ref q0, .ref q1, .ref q2, .ref q3, .ref q4, .null, .null, .int 0, .null]) (pc := 49) (v := .ref q5) (ty := .array .int) C rfl inX5 tyX5 tyX5_ok nmX5 8 (by decide) (zT_of (i := 152) (by decide +kernel) rfl) rfl rfl (by decide +kernel) rfl rfl (Nat.le_of_ble_eq_true rfl) dX5_init_49 ?_
    refine v_aload_n (pc := 52) C dX5_init_52 rfl 0 rfl ?_
    refine v_iconst (v := 5) (pc := 53) C dX5_init_53 (by decide) ?_
    refine v_newa (at_ := .int) (ty := .int) (pc := 54) (t := 0) (N' := 5) (a0 := (5, .inl (fun _ => 0))) C (zT_of (i := 182) (by decide +kernel) rfl) rfl rfl (fun _ => rfl) (by decide) (by decide) (Nat.le_of_ble_eq_true rfl) (Nat.le_of_ble_eq_true rfl) (Nat.le_of_ble_eq_true rfl) dX5_init_54 (fun q6 => ?_)
    refine v_putF (ci := 5) (fs := [.int 0, .int 0, .null, .ref q0, .ref q1, .ref q2, .ref q3, .ref q4, .ref q5, .null, .int 0, .null]) (pc := 56) (v := .ref q6) (ty := .array .int) C rfl inX5 tyX5 tyX5_ok nmX5 9 (by decide) (zT_of (i := 154) (by decide +kernel) rfl) rfl rfl (by decide +kernel) rfl rfl (Nat.le_of_ble_eq_true rfl) dX5_init_56 ?_
    refine v_aload_n (pc := 59) C dX5_init_59 rfl 0 rfl ?_
    refine v_ldcS (pc := 60) (i := 0) C (fun _ _ h => h.2.2.2.2.2.2.2.2) dX5_init_60 ?_
    refine v_len (pc := 62) C (by decide) kV_X5_35 (by decide) (Nat.le_of_ble_eq_true rfl) (Nat.le_of_ble_eq_true rfl) (Nat.le_of_ble_eq_true rfl) dX5_init_62 ?_
    refine v_newa (at_ := .int) (ty := .int) (pc := 65) (t := 0) (N' := 6) (a0 := (6, .inl (fun _ => 0))) C (zT_of (i := 182) (by decide +kernel) rfl) rfl rfl (fun _ => rfl) (by decide) (by decide) (Nat.le_of_ble_eq_true rfl) (Nat.le_of_ble_eq_true rfl) (Nat.le_of_ble_eq_true rfl) dX5_init_65 (fun q7 => ?_)
    refine v_putF (ci := 5) (fs := [.int 0, .int 0, .null, .ref q0, .ref q1, .ref q2, .ref q3, .ref q4, .ref q5, .ref q6, .int 0, .null]) (pc := 67) (v := .ref q7) (ty := .array .int) C rfl inX5 tyX5 tyX5_ok nmX5 11 (by decide) (zT_of (i := 156) (by decide +kernel) rfl) rfl rfl (by decide +kernel) rfl rfl (Nat.le_of_ble_eq_true rfl) dX5_init_67 ?_
    exact hend (q0, q1, q2, q3, q4, q5, q6, q7) _ _ dX5_init_70)
