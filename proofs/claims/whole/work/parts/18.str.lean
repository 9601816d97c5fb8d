/-! STRINGS AND STATICS -/
def zsl (i : Nat) : Nat := lenS.getD i 0
def zsb (i : Nat) (j : Int) : Int := ((bytS.getD i []).getD j.toNat 0).toInt
def zab (j : Int) : Int := (aboveF j.toNat).toInt
def wC (z : Int) : Int := ((oI z).toUInt32 % 65536).toInt32.toInt
section ZSTR
variable {T : Type} {X : JX} {G : GD} {own : String} {cc : ByteArray} {rt : Option FieldType} {d : Nat} {Q : JX → T → State → Prop} {st st' : PS} {lv lv' : List (Nat × Value)} {pc : Nat} {stk stk0 : List Value} {o A : Option T}
theorem j_i2c {K : SD} (C : zC X K G own cc rt d) {a : Int} (hd : decode cc pc = .ok (.i2c, 1)) (kk : J X (zI K G) Q st lv (pc + 1) (.int (oI (wC a)) :: stk) o) : J X (zI K G) Q st lv pc (.int (oI a) :: stk) o := by
  obtain ⟨p, l, e, R, s, m, args, below, meth, c, cells, slots, nL⟩ := X
  obtain ⟨⟨hx, hb, hml, hown, hts⟩, hK, hj, hO, hR, hr0, hlk⟩ := C
  intro r hr H locs ls hI hl
  exact lv_i2c hx hb hd (oI_of _).symm (kk r hr H locs ls hI hl)
theorem j_ldcS (C : zC X sC G own cc rt d) {index i : Nat} {tx : String} (hz : ∀ (adK : Nat → Nat) (s : State), zRO2 adK s → vk_R own index tx (adK i) s) (hd : decode cc pc = .ok (.ldc index, 2)) (kk : J X (zI sC G) Q st lv (pc + 2) (.ref (G.2.2.2.1 i) :: stk) o) : J X (zI sC G) Q st lv pc stk o := by
  obtain ⟨p, l, e, R, s, m, args, below, meth, c, cells, slots, nL⟩ := X
  obtain ⟨⟨hx, hb, hml, hown, hts⟩, hK, hj, hO, hR, hr0, hlk⟩ := C
  intro r hr H locs ls hI hl
  exact va_ldcS hx hb hown (hz _ _ (hO rfl).2) hd (kk r hr H locs ls hI hl)
theorem j_sval (C : zC X sC G RJ0 cc rt d) {i : Nat} (hi : i < 8) (hd : decode cc pc = .ok (.getfield 9, 3)) (kk : J X (zI sC G) Q st lv (pc + 3) (.ref (G.2.2.2.2.1 i) :: stk) o) : J X (zI sC G) Q st lv pc (.ref (G.2.2.2.1 i) :: stk) o := by
  obtain ⟨p, l, e, R, s, m, args, below, meth, c, cells, slots, nL⟩ := X
  obtain ⟨⟨hx, hb, hml, hown, hts⟩, hK, hj, hO, hR, hr0, hlk⟩ := C
  intro r hr H locs ls hI hl
  exact vk_getf hx hb ((hO rfl).1.1.1 i hi).2.2.1 hI.2 hown (hts (.fieldLink RJ0 9 "java/lang/String" "value" "[B") (zT_of (i := 1463) (by decide +kernel) rfl)) (fun _ h => h) hd (kk r hr H locs ls hI hl)
theorem j_scod (C : zC X sC G RJ0 cc rt d) {i : Nat} (hi : i < 8) (hd : decode cc pc = .ok (.getfield 15, 3)) (kk : J X (zI sC G) Q st lv (pc + 3) (.int (oI 0) :: stk) o) : J X (zI sC G) Q st lv pc (.ref (G.2.2.2.1 i) :: stk) o := by
  obtain ⟨p, l, e, R, s, m, args, below, meth, c, cells, slots, nL⟩ := X
  obtain ⟨⟨hx, hb, hml, hown, hts⟩, hK, hj, hO, hR, hr0, hlk⟩ := C
  intro r hr H locs ls hI hl
  exact vk_getf hx hb ((hO rfl).1.1.1 i hi).2.1 hI.2 hown (hts (.fieldLink RJ0 15 "java/lang/String" "coder" "B") (zT_of (i := 1464) (by decide +kernel) rfl)) (fun _ h => h) hd (kk r hr H locs ls hI hl)
theorem j_sblen (C : zC X sC G own cc rt d) {i : Nat} (hi : i < 8) (hd : decode cc pc = .ok (.arraylength, 1)) (kk : J X (zI sC G) Q st lv (pc + 1) (.int (oI (zsl i)) :: stk) o) : J X (zI sC G) Q st lv pc (.ref (G.2.2.2.2.1 i) :: stk) o := by
  obtain ⟨p, l, e, R, s, m, args, below, meth, c, cells, slots, nL⟩ := X
  obtain ⟨⟨hx, hb, hml, hown, hts⟩, hK, hj, hO, hR, hr0, hlk⟩ := C
  intro r hr H locs ls hI hl
  exact va_tlen hx hb ((hO rfl).1.1.1 i hi).2.2.2 hI.2 rfl hd (kk r hr H locs ls hI hl)
theorem j_sbald (C : zC X sC G own cc rt d) {i : Nat} {k : Int} (hi : i < 8) (hk : 0 ≤ wI k ∧ wI k < zsl i) (hd : decode cc pc = .ok (.baload, 1)) (kk : J X (zI sC G) Q st lv (pc + 1) (.int (oI (zsb i (wI k))) :: stk) o) : J X (zI sC G) Q st lv pc (.int (oI k) :: .ref (G.2.2.2.2.1 i) :: stk) o := by
  obtain ⟨p, l, e, R, s, m, args, below, meth, c, cells, slots, nL⟩ := X
  obtain ⟨⟨hx, hb, hml, hown, hts⟩, hK, hj, hO, hR, hr0, hlk⟩ := C
  intro r hr H locs ls hI hl
  refine va_tb hx hb ((hO rfl).1.1.1 i hi).2.2.2 hI.2 (zin hk) (v := .int (oI (zsb i (wI k)))) ?_ hd (kk r hr H locs ls hI hl)
  rw [zcl]
  show Value.int _ = Value.int _
  rw [zsb, oI_of]
theorem j_gcs (C : zC X sC G RJ0 cc rt d) (hd : decode cc pc = .ok (.getstatic 38, 3)) (kk : J X (zI sC G) Q st lv (pc + 3) (.int (oI 1) :: stk) o) : J X (zI sC G) Q st lv pc stk o := by
  obtain ⟨p, l, e, R, s, m, args, below, meth, c, cells, slots, nL⟩ := X
  obtain ⟨⟨hx, hb, hml, hown, hts⟩, hK, hj, hO, hR, hr0, hlk⟩ := C
  intro r hr H locs ls hI hl
  exact va_gets hx hb (hO rfl).1.2.2.2.1 hI.2 hown (hts (.fieldLink RJ0 38 "java/lang/String" "COMPACT_STRINGS" "Z") (zT_of (i := 134) (by decide +kernel) rfl)) (fun _ h => h) hd (kk r hr H locs ls hI hl)
theorem j_gsf (C : zC X sC G RJ0 cc rt d) (hd : decode cc pc = .ok (.getstatic 1053, 3)) (kk : ∀ w : Value, (w = .null ∨ ∃ t, w = .ref t) → J X (zI sC G) Q st lv (pc + 3) (w :: stk) o) : J X (zI sC G) Q st lv pc stk o := by
  obtain ⟨p, l, e, R, s, m, args, below, meth, c, cells, slots, nL⟩ := X
  obtain ⟨⟨hx, hb, hml, hown, hts⟩, hK, hj, hO, hR, hr0, hlk⟩ := C
  intro r hr H locs ls hI hl
  rcases (hO rfl).1.2.2.2.2 with h | ⟨t, h⟩
  · exact va_gets hx hb h hI.2 hown (hts (.fieldLink RJ0 1053 "jdk/internal/util/Preconditions" "SIOOBE_FORMATTER" "Ljava/util/function/BiFunction;") (zT_of (i := 507) (by decide +kernel) rfl)) (fun _ h => h) hd (kk .null (Or.inl rfl) r hr H locs ls hI hl)
  · exact va_gets hx hb h hI.2 hown (hts (.fieldLink RJ0 1053 "jdk/internal/util/Preconditions" "SIOOBE_FORMATTER" "Ljava/util/function/BiFunction;") (zT_of (i := 507) (by decide +kernel) rfl)) (fun _ h => h) hd (kk (.ref t) (Or.inr ⟨t, rfl⟩) r hr H locs ls hI hl)
theorem j_gab (C : zC X sC G RX6 cc rt d) (hd : decode cc pc = .ok (.getstatic 259, 3)) (kk : J X (zI sC G) Q st lv (pc + 3) (.ref G.2.2.2.2.2 :: stk) o) : J X (zI sC G) Q st lv pc stk o := by
  obtain ⟨p, l, e, R, s, m, args, below, meth, c, cells, slots, nL⟩ := X
  obtain ⟨⟨hx, hb, hml, hown, hts⟩, hK, hj, hO, hR, hr0, hlk⟩ := C
  intro r hr H locs ls hI hl
  exact va_gets hx hb (hO rfl).1.2.1 hI.2 hown (hts (.fieldLink RX6 259 "MiddleThree" "ABOVE" "[I") (zT_of (i := 832) (by decide +kernel) rfl)) (fun _ h => h) hd (kk r hr H locs ls hI hl)
theorem j_abld (C : zC X sC G own cc rt d) {k : Int} (hk : 0 ≤ wI k ∧ wI k < (7 : Nat)) (hd : decode cc pc = .ok (.iaload, 1)) (kk : J X (zI sC G) Q st lv (pc + 1) (.int (oI (zab (wI k))) :: stk) o) : J X (zI sC G) Q st lv pc (.int (oI k) :: .ref G.2.2.2.2.2 :: stk) o := by
  obtain ⟨p, l, e, R, s, m, args, below, meth, c, cells, slots, nL⟩ := X
  obtain ⟨⟨hx, hb, hml, hown, hts⟩, hK, hj, hO, hR, hr0, hlk⟩ := C
  intro r hr H locs ls hI hl
  refine va_ti hx hb (hO rfl).1.2.2.1 hI.2 (zin hk) (v := .int (oI (zab (wI k)))) ?_ hd (kk r hr H locs ls hI hl)
  rw [zcl]
  show Value.int _ = Value.int _
  rw [zab, oI_of]
variable {y : MethodName} {b : ByteArray} {n d' ix k : Nat} {rt' : Option FieldType} {As : List Value} {v : Value}
theorem j_callK (C : zC X sC G own cc rt d) {i : Nat} (hi : i < 8) (hq : y.cls = "java/lang/String") (hM : zM X.2.1 sC G y b n rt' d' (.ref (G.2.2.2.1 i) :: As) st (some v) st') (hk : zLV own ix y b n rt' k) (hk2 : As.length = k) (hdd : d' < d) (hs : stk0 = As.reverse ++ .ref (G.2.2.2.1 i) :: stk) (hsz : (stk.map fun v => v.category).sum ≤ 8) (hd : decode cc pc = .ok (.invokevirtual ix, 3))
    (kk : J X (zI sC G) Q st' lv (pc + 3) (v :: stk) o) : J X (zI sC G) Q st lv pc stk0 o := by
  obtain ⟨p, l, e, R, s, m, args, below, meth, c, cells, slots, nL⟩ := X
  obtain ⟨⟨hx, hb, hml, hown, hts⟩, hK, hj, hO, hR, hr0, hlk⟩ := C
  intro r hr H locs ls hI hl
  obtain ⟨hw, hcode, hnm, hn30⟩ := hk
  have hg : GoodIn zT (wsV own ix y.cls y (Cond.code y b n rt' :: zT)) := zGood (fun w hw' => by
    simp only [wsV, List.cons_append, List.nil_append, List.mem_cons] at hw'
    rcases hw' with h | h | h | h | h | h
    · rw [h]; exact hw.1
    · rw [h]; exact hw.2.1
    · rw [h]; exact hw.2.2.1
    · rw [h]; exact hw.2.2.2
    · rw [h]; exact hcode
    · exact h)
  refine j_after hr hI hl (va_runV (C := y.cls) ⟨hx, hb, hml, hown, hts⟩ hM (cwV k hts hg rfl rfl rfl ⟨rfl, hnm⟩ ⟨by show d' + 2 + 1 ≤ _; omega, by show 8 + (n + 11) + 60 * (d' + 2) ≤ _; omega⟩) ⟨zPc_blind, ?_, fun U hU hW => zPc_at hI hK hO hU hW⟩ rfl hk2 hl.1 hs (lv_room hsz) hd ⟨by omega, by omega⟩) kk
  rw [hq]
  exact vk_recv (hO rfl).1.1 hi hI.2
end ZSTR
theorem kV_J0_335 : zLV RJ0 335 yJ0_coder_7d493 cJ0_coder_7d493 1 (some .byte) 0 := ⟨⟨(zT_of (i := 130) (by decide +kernel) rfl), (zT_of (i := 131) (by decide +kernel) rfl), (zT_of (i := 132) (by decide +kernel) rfl), (zT_of (i := 98) (by decide +kernel) rfl)⟩, (zT_of (i := 133) (by decide +kernel) rfl), ⟨by decide +kernel, by decide +kernel, by decide +kernel⟩, by decide⟩
theorem kV_J0_492 : zLV RJ0 492 yJ0_isLatin1_aae02 cJ0_isLatin1_aae02 1 (some .boolean) 0 := ⟨⟨(zT_of (i := 497) (by decide +kernel) rfl), (zT_of (i := 498) (by decide +kernel) rfl), (zT_of (i := 499) (by decide +kernel) rfl), (zT_of (i := 98) (by decide +kernel) rfl)⟩, (zT_of (i := 500) (by decide +kernel) rfl), ⟨by decide +kernel, by decide +kernel, by decide +kernel⟩, by decide⟩
theorem kV_J0_505 : zLV RJ0 505 yJ0_length_8abf5 cJ0_length_8abf5 1 (some .int) 0 := ⟨⟨(zT_of (i := 560) (by decide +kernel) rfl), (zT_of (i := 127) (by decide +kernel) rfl), (zT_of (i := 128) (by decide +kernel) rfl), (zT_of (i := 98) (by decide +kernel) rfl)⟩, (zT_of (i := 129) (by decide +kernel) rfl), ⟨by decide +kernel, by decide +kernel, by decide +kernel⟩, by decide⟩
theorem kV_J0_633 : zLV RJ0 633 yJ0_indexOf_7cf53 cJ0_indexOf_7cf53 3 (some .int) 2 := ⟨⟨(zT_of (i := 556) (by decide +kernel) rfl), (zT_of (i := 557) (by decide +kernel) rfl), (zT_of (i := 558) (by decide +kernel) rfl), (zT_of (i := 98) (by decide +kernel) rfl)⟩, (zT_of (i := 559) (by decide +kernel) rfl), ⟨by decide +kernel, by decide +kernel, by decide +kernel⟩, by decide⟩
theorem kS_J0_495 : zLS RJ0 495 yJ1_charAt_3b067 cJ1_charAt_3b067 2 (some .char) 2 := ⟨⟨(zT_of (i := 501) (by decide +kernel) rfl), (zT_of (i := 502) (by decide +kernel) rfl), (zT_of (i := 107) (by decide +kernel) rfl)⟩, (zT_of (i := 503) (by decide +kernel) rfl), ⟨by decide +kernel, by decide +kernel, by decide +kernel⟩, by decide⟩
theorem kS_J0_637 : zLS RJ0 637 yJ1_indexOf_4cfef cJ1_indexOf_4cfef 4 (some .int) 4 := ⟨⟨(zT_of (i := 561) (by decide +kernel) rfl), (zT_of (i := 562) (by decide +kernel) rfl), (zT_of (i := 107) (by decide +kernel) rfl)⟩, (zT_of (i := 563) (by decide +kernel) rfl), ⟨by decide +kernel, by decide +kernel, by decide +kernel⟩, by decide⟩
theorem kS_J0_1059 : zLS RJ0 1059 yJ3_checkIndex_8e157 cJ3_checkIndex_8e157 3 (some .int) 3 := ⟨⟨(zT_of (i := 509) (by decide +kernel) rfl), (zT_of (i := 510) (by decide +kernel) rfl), (zT_of (i := 108) (by decide +kernel) rfl)⟩, (zT_of (i := 511) (by decide +kernel) rfl), ⟨by decide +kernel, by decide +kernel, by decide +kernel⟩, by decide⟩
theorem kS_J1_9 : zLS RJ1 9 yJ0_checkIndex_df160 cJ0_checkIndex_df160 2 none 2 := ⟨⟨(zT_of (i := 504) (by decide +kernel) rfl), (zT_of (i := 505) (by decide +kernel) rfl), (zT_of (i := 98) (by decide +kernel) rfl)⟩, (zT_of (i := 506) (by decide +kernel) rfl), ⟨by decide +kernel, by decide +kernel, by decide +kernel⟩, by decide⟩
theorem kS_J1_88 : zLS RJ1 88 yJ1_canEncode_9a6ad cJ1_canEncode_9a6ad 1 (some .boolean) 1 := ⟨⟨(zT_of (i := 564) (by decide +kernel) rfl), (zT_of (i := 565) (by decide +kernel) rfl), (zT_of (i := 107) (by decide +kernel) rfl)⟩, (zT_of (i := 566) (by decide +kernel) rfl), ⟨by decide +kernel, by decide +kernel, by decide +kernel⟩, by decide⟩
theorem kS_J1_95 : zLS RJ1 95 yJ1_indexOfChar_4cfef cJ1_indexOfChar_4cfef 6 (some .int) 4 := ⟨⟨(zT_of (i := 569) (by decide +kernel) rfl), (zT_of (i := 570) (by decide +kernel) rfl), (zT_of (i := 107) (by decide +kernel) rfl)⟩, (zT_of (i := 571) (by decide +kernel) rfl), ⟨by decide +kernel, by decide +kernel, by decide +kernel⟩, by decide⟩
theorem kC_J1_92 : Cond.methodLink RJ1 92 Lib.Math.max.name ∈ zT ∧ Cond.static Lib.Math.max.name ∈ zT ∧ Cond.initialized "java/lang/Math" ∈ zT ∧ Cond.code Lib.Math.max.name Lib.Math.max.code 2 (some .int) ∈ zT := ⟨(zT_of (i := 567) (by decide +kernel) rfl), (zT_of (i := 413) (by decide +kernel) rfl), (zT_of (i := 106) (by decide +kernel) rfl), (zT_of (i := 414) (by decide +kernel) rfl)⟩
theorem kC_J1_38 : Cond.methodLink RJ1 38 Lib.Math.min.name ∈ zT ∧ Cond.static Lib.Math.min.name ∈ zT ∧ Cond.initialized "java/lang/Math" ∈ zT ∧ Cond.code Lib.Math.min.name Lib.Math.min.code 2 (some .int) ∈ zT := ⟨(zT_of (i := 568) (by decide +kernel) rfl), (zT_of (i := 410) (by decide +kernel) rfl), (zT_of (i := 106) (by decide +kernel) rfl), (zT_of (i := 411) (by decide +kernel) rfl)⟩
/-! the JDK's String methods, on the constants -/
theorem J0_coder_m (l : Launch) {G : GD} (hj : zInj sC G) {i : Nat} (hi : i < 8) {st : PS} : zM l sC G yJ0_coder_7d493 cJ0_coder_7d493 1 (some .byte) 0 [.ref (G.2.2.2.1 i)] st (some (.int (oI 0))) st :=
  zEnter (f := fR st) (o := some 0) rfl hj (by decide) rfl (lv := [(0, .ref (G.2.2.2.1 i))]) rfl (Nat.le_of_ble_eq_true rfl) (fun X _ hN C => by
    refine j_gcs (pc := 0) C dJ0_coder_7d493_0 ?_
    refine j_if_eq_f (pc := 3) (tgt := 13) C dJ0_coder_7d493_3 rfl (by decide) ?_
    refine j_aload_n (pc := 6) C dJ0_coder_7d493_6 rfl 0 rfl ?_
    refine j_scod (pc := 7) C hi dJ0_coder_7d493_7 ?_
    refine j_goto (pc := 10) (tgt := 14) C dJ0_coder_7d493_10 rfl ?_
    exact j_ireturn C rfl rfl rfl rfl dJ0_coder_7d493_14)
theorem J0_isLatin1_m (l : Launch) {G : GD} (hj : zInj sC G) {i : Nat} (hi : i < 8) {st : PS} : zM l sC G yJ0_isLatin1_aae02 cJ0_isLatin1_aae02 1 (some .boolean) 0 [.ref (G.2.2.2.1 i)] st (some (.int (oI 1))) st :=
  zEnter (f := fR st) (o := some 1) rfl hj (by decide) rfl (lv := [(0, .ref (G.2.2.2.1 i))]) rfl (Nat.le_of_ble_eq_true rfl) (fun X _ hN C => by
    refine j_gcs (pc := 0) C dJ0_isLatin1_aae02_0 ?_
    refine j_if_eq_f (pc := 3) (tgt := 17) C dJ0_isLatin1_aae02_3 rfl (by decide) ?_
    refine j_aload_n (pc := 6) C dJ0_isLatin1_aae02_6 rfl 0 rfl ?_
    refine j_scod (pc := 7) C hi dJ0_isLatin1_aae02_7 ?_
    refine j_if_ne_f (pc := 10) (tgt := 17) C dJ0_isLatin1_aae02_10 rfl (by decide) ?_
    refine j_iconst (pc := 13) C dJ0_isLatin1_aae02_13 ?_
    refine j_goto (pc := 14) (tgt := 18) C dJ0_isLatin1_aae02_14 rfl ?_
    exact j_ireturn C rfl rfl (znar (Or.inr rfl)) rfl dJ0_isLatin1_aae02_18)
theorem zshr0 : ∀ i, i < 8 → zshr (zsl i) 0 = zsl i := by decide
theorem J0_length_m (l : Launch) {G : GD} (hj : zInj sC G) {i : Nat} (hi : i < 8) {st : PS} : zM l sC G yJ0_length_8abf5 cJ0_length_8abf5 1 (some .int) 1 [.ref (G.2.2.2.1 i)] st (some (.int (oI (zsl i)))) st :=
  zEnter (f := fR st) (o := some (zsl i : Int)) rfl hj (by decide) rfl (lv := [(0, .ref (G.2.2.2.1 i))]) rfl (Nat.le_of_ble_eq_true rfl) (fun X _ hN C => by
    refine j_aload_n (pc := 0) C dJ0_length_8abf5_0 rfl 0 rfl ?_
    refine j_sval (pc := 1) C hi dJ0_length_8abf5_1 ?_
    refine j_sblen (pc := 4) C hi dJ0_length_8abf5_4 ?_
    refine j_aload_n (pc := 5) C dJ0_length_8abf5_5 rfl 0 rfl ?_
    refine j_callK (pc := 6) C hi rfl (J0_coder_m _ hj hi) kV_J0_335 rfl (by decide) rfl (Nat.le_of_ble_eq_true rfl) dJ0_length_8abf5_6 ?_
    refine j_ishr (pc := 9) C dJ0_length_8abf5_9 ?_
    rw [zshr0 i hi]
    exact j_ireturn C rfl rfl rfl rfl dJ0_length_8abf5_10)
theorem J3_checkIndex_m (l : Launch) {G : GD} (hj : zInj sC G) {st : PS} {x y : Int} {w : Value} (hw : w = .null ∨ ∃ t, w = .ref t) (h1 : ¬ wI x < 0) (h2 : wI x < wI y) : zM l sC G yJ3_checkIndex_8e157 cJ3_checkIndex_8e157 3 (some .int) 0 [.int (oI x), .int (oI y), w] st (some (.int (oI x))) st := by
  have main : ∀ X : JX, zC X sC G RJ3 cJ3_checkIndex_8e157 (some .int) 0 → J X (zI sC G) (zQ sC G (fR st)) st [(0, .int (oI x)), (1, .int (oI y)), (2, w)] 0 [] (some x) := by
    intro X C
    refine j_iload_n (pc := 0) C dJ3_checkIndex_8e157_0 rfl 0 rfl ?_
    refine j_if_ltH (pc := 1) (tgt := 9) C dJ3_checkIndex_8e157_1 rfl (fun h => absurd h h1) (fun _ => ?_)
    refine j_iload_n (pc := 4) C dJ3_checkIndex_8e157_4 rfl 0 rfl ?_
    refine j_iload_n (pc := 5) C dJ3_checkIndex_8e157_5 rfl 1 rfl ?_
    refine j_icmp_ltH (pc := 6) (tgt := 16) C dJ3_checkIndex_8e157_6 rfl (fun _ => ?_) (fun h => absurd h2 h)
    refine j_iload_n (pc := 16) C dJ3_checkIndex_8e157_16 rfl 0 rfl ?_
    exact j_ireturn C rfl rfl rfl rfl dJ3_checkIndex_8e157_17
  rcases hw with rfl | ⟨t, rfl⟩
  · exact zEnter (f := fR st) (o := some x) rfl hj (by decide) rfl (lv := [(0, .int (oI x)), (1, .int (oI y)), (2, .null)]) rfl (Nat.le_of_ble_eq_true rfl) (fun X _ hN C => main X C)
  · exact zEnter (f := fR st) (o := some x) rfl hj (by decide) rfl (lv := [(0, .int (oI x)), (1, .int (oI y)), (2, .ref t)]) rfl (Nat.le_of_ble_eq_true rfl) (fun X _ hN C => main X C)
theorem J0_checkIndex_m (l : Launch) {G : GD} (hj : zInj sC G) {st : PS} {x y : Int} (h1 : ¬ wI x < 0) (h2 : wI x < wI y) : zM l sC G yJ0_checkIndex_df160 cJ0_checkIndex_df160 2 none 1 [.int (oI x), .int (oI y)] st none st :=
  zEnter (f := fV) (o := some st) rfl hj (by decide) rfl (lv := [(0, .int (oI x)), (1, .int (oI y))]) rfl (Nat.le_of_ble_eq_true rfl) (fun X _ hN C => by
    refine j_iload_n (pc := 0) C dJ0_checkIndex_df160_0 rfl 0 rfl ?_
    refine j_iload_n (pc := 1) C dJ0_checkIndex_df160_1 rfl 1 rfl ?_
    refine j_gsf (pc := 2) C dJ0_checkIndex_df160_2 (fun w hw => ?_)
    refine j_callS1 (pc := 5) C (J3_checkIndex_m _ hj hw h1 h2) kS_J0_1059 rfl (by decide) rfl (Nat.le_of_ble_eq_true rfl) dJ0_checkIndex_df160_5 ?_
    refine j_pop (pc := 8) C dJ0_checkIndex_df160_8 rfl ?_
    exact j_return C rfl rfl dJ0_checkIndex_df160_9)
/-- the char at k of constant i -/
def zsch (i : Nat) (k : Int) : Int := wC (zand (zsb i (wI k)) 255)
theorem zsch_char (i : Nat) (k : Int) : narrow .char (.int (oI (zsch i k))) = .int (oI (zsch i k)) := by
  rw [zsch, wC, oI_of]; exact pk_nc _
theorem J1_charAt_m (l : Launch) {G : GD} (hj : zInj sC G) {st : PS} {i : Nat} (hi : i < 8) {k : Int} (hk : 0 ≤ wI k ∧ wI k < zsl i) : zM l sC G yJ1_charAt_3b067 cJ1_charAt_3b067 2 (some .char) 2 [.ref (G.2.2.2.2.1 i), .int (oI k)] st (some (.int (oI (zsch i k)))) st := by
  have hl8 : ∀ i, i < 8 → wI (zsl i) = zsl i := by decide
  exact zEnter (f := fR st) (o := some (zsch i k)) rfl hj (by decide) rfl (lv := [(0, .ref (G.2.2.2.2.1 i)), (1, .int (oI k))]) rfl (Nat.le_of_ble_eq_true rfl) (fun X _ hN C => by
    refine j_iload_n (pc := 0) C dJ1_charAt_3b067_0 rfl 1 rfl ?_
    refine j_aload_n (pc := 1) C dJ1_charAt_3b067_1 rfl 0 rfl ?_
    refine j_sblen (pc := 2) C hi dJ1_charAt_3b067_2 ?_
    refine j_callS0 (pc := 3) C (J0_checkIndex_m _ hj (by omega) (by rw [hl8 i hi]; exact hk.2)) kS_J1_9 rfl (by decide) rfl (Nat.le_of_ble_eq_true rfl) dJ1_charAt_3b067_3 ?_
    refine j_aload_n (pc := 6) C dJ1_charAt_3b067_6 rfl 0 rfl ?_
    refine j_iload_n (pc := 7) C dJ1_charAt_3b067_7 rfl 1 rfl ?_
    refine j_sbald (pc := 8) C hi hk dJ1_charAt_3b067_8 ?_
    refine j_sipush (pc := 9) C dJ1_charAt_3b067_9 (by decide) ?_
    refine j_iand (pc := 12) C dJ1_charAt_3b067_12 ?_
    refine j_i2c (pc := 13) C dJ1_charAt_3b067_13 ?_
    exact j_ireturn C rfl rfl (zsch_char i k) rfl dJ1_charAt_3b067_14)
theorem J0_charAt_m (l : Launch) {G : GD} (hj : zInj sC G) {st : PS} {i : Nat} (hi : i < 8) {k : Int} (hk : 0 ≤ wI k ∧ wI k < zsl i) : zM l sC G yJ0_charAt_5068e cJ0_charAt_5068e 2 (some .char) 3 [.ref (G.2.2.2.1 i), .int (oI k)] st (some (.int (oI (zsch i k)))) st :=
  zEnter (f := fR st) (o := some (zsch i k)) rfl hj (by decide) rfl (lv := [(0, .ref (G.2.2.2.1 i)), (1, .int (oI k))]) rfl (Nat.le_of_ble_eq_true rfl) (fun X _ hN C => by
    refine j_aload_n (pc := 0) C dJ0_charAt_5068e_0 rfl 0 rfl ?_
    refine j_callK (pc := 1) C hi rfl (J0_isLatin1_m _ hj hi) kV_J0_492 rfl (by decide) rfl (Nat.le_of_ble_eq_true rfl) dJ0_charAt_5068e_1 ?_
    refine j_if_eq_f (pc := 4) (tgt := 16) C dJ0_charAt_5068e_4 rfl (by decide) ?_
    refine j_aload_n (pc := 7) C dJ0_charAt_5068e_7 rfl 0 rfl ?_
    refine j_sval (pc := 8) C hi dJ0_charAt_5068e_8 ?_
    refine j_iload_n (pc := 11) C dJ0_charAt_5068e_11 rfl 1 rfl ?_
    refine j_callS1 (pc := 12) C (J1_charAt_m _ hj hi hk) kS_J0_495 rfl (by decide) rfl (Nat.le_of_ble_eq_true rfl) dJ0_charAt_5068e_12 ?_
    exact j_ireturn C rfl rfl (zsch_char i k) rfl dJ0_charAt_5068e_15)
/-- indexOf: the search from place l5 on -/
def zixL (i : Nat) (c8 : Int) (to : Int) : Nat → Int → Option Int
  | 0, _ => none
  | k + 1, l5 => if wI to ≤ wI l5 then some (-1) else if 0 ≤ wI l5 ∧ wI l5 < zsl i then (if wI (zsb i (wI l5)) = wI c8 then some l5 else zixL i c8 to k (l5 + 1)) else none
def zix (i : Nat) (c : Int) : Option Int := if wI c < 0 then some (-1) else if wI 255 < wI c then some (-1) else zixL i (wB c) (zmin (zsl i) (zsl i)) FU (zmax 0 0)
theorem J1_canEncode_m (l : Launch) {G : GD} (hj : zInj sC G) {st : PS} {c : Int} : zM l sC G yJ1_canEncode_9a6ad cJ1_canEncode_9a6ad 1 (some .boolean) 0 [.int (oI c)] st (some (.int (oI (if wI c < 0 then 0 else if wI 255 < wI c then 0 else 1)))) st :=
  zEnter (f := fR st) (o := some (if wI c < 0 then 0 else if wI 255 < wI c then 0 else 1)) rfl hj (by decide) rfl (lv := [(0, .int (oI c))]) rfl (Nat.le_of_ble_eq_true rfl) (fun X _ hN C => by
    simp only [zsome_ite]
    refine j_iload_n (pc := 0) C dJ1_canEncode_9a6ad_0 rfl 0 rfl ?_
    refine j_if_lt (pc := 1) (tgt := 15) C dJ1_canEncode_9a6ad_1 rfl ?_ ?_
    · refine j_iconst (pc := 15) C dJ1_canEncode_9a6ad_15 ?_
      exact j_ireturn C rfl rfl (znar (Or.inl rfl)) rfl dJ1_canEncode_9a6ad_16
    · refine j_iload_n (pc := 4) C dJ1_canEncode_9a6ad_4 rfl 0 rfl ?_
      refine j_sipush (pc := 5) C dJ1_canEncode_9a6ad_5 (by decide) ?_
      refine j_icmp_gt (pc := 8) (tgt := 15) C dJ1_canEncode_9a6ad_8 rfl ?_ ?_
      · refine j_iconst (pc := 15) C dJ1_canEncode_9a6ad_15 ?_
        exact j_ireturn C rfl rfl (znar (Or.inl rfl)) rfl dJ1_canEncode_9a6ad_16
      · refine j_iconst (pc := 11) C dJ1_canEncode_9a6ad_11 ?_
        refine j_goto (pc := 12) (tgt := 16) C dJ1_canEncode_9a6ad_12 rfl ?_
        exact j_ireturn C rfl rfl (znar (Or.inr rfl)) rfl dJ1_canEncode_9a6ad_16)
theorem zixL_j {X : JX} {G : GD} (C : zC X sC G RJ1 cJ1_indexOfChar_4cfef (some .int) 0) (hN : X.2.2.2.2.2.2.2.2.2.2.2.2 = 6) {i : Nat} (hi : i < 8) {st : PS} {c8 to : Int} : ∀ (k : Nat) (l5 : Int), J X (zI sC G) (zQ sC G (fR st)) st [(0, .ref (G.2.2.2.2.1 i)), (3, .int (oI to)), (4, .int (oI c8)), (5, .int (oI l5))] 7 [] (zixL i c8 to k l5) := by
  intro k
  induction k with
  | zero => intro l5; exact j_none
  | succ k ih =>
    intro l5
    rw [zixL]
    refine j_iload (pc := 7) C dJ1_indexOfChar_4cfef_7 3 rfl ?_
    refine j_iload_n (pc := 9) C dJ1_indexOfChar_4cfef_9 rfl 1 rfl ?_
    refine j_icmp_ge (pc := 10) (tgt := 31) C dJ1_indexOfChar_4cfef_10 rfl ?_ ?_
    · refine j_iconst (pc := 31) C dJ1_indexOfChar_4cfef_31 ?_
      exact j_ireturn C rfl rfl rfl rfl dJ1_indexOfChar_4cfef_32
    · refine j_if (fun hk => ?_) (fun _ => j_none)
      refine j_aload_n (pc := 13) C dJ1_indexOfChar_4cfef_13 rfl 0 rfl ?_
      refine j_iload (pc := 14) C dJ1_indexOfChar_4cfef_14 3 rfl ?_
      refine j_sbald (pc := 16) C hi hk dJ1_indexOfChar_4cfef_16 ?_
      refine j_iload (pc := 17) C dJ1_indexOfChar_4cfef_17 2 rfl ?_
      refine j_icmp_ne (pc := 19) (tgt := 25) C dJ1_indexOfChar_4cfef_19 rfl ?_ ?_
      · refine j_iload (pc := 22) C dJ1_indexOfChar_4cfef_22 3 rfl ?_
        exact j_ireturn C rfl rfl rfl rfl dJ1_indexOfChar_4cfef_24
      · refine j_iinc (pc := 25) C hN dJ1_indexOfChar_4cfef_25 3 rfl (by decide) (lv' := [(5, .int (oI (l5 + 1))), (0, .ref (G.2.2.2.2.1 i)), (3, .int (oI to)), (4, .int (oI c8))]) rfl ?_
        refine j_goto (pc := 28) (tgt := 7) C dJ1_indexOfChar_4cfef_28 rfl ?_
        exact j_sub [1, 2, 3, 0] rfl (ih _)
theorem J1_indexOfChar_m (l : Launch) {G : GD} (hj : zInj sC G) {i : Nat} (hi : i < 8) {st : PS} {c fr to r : Int} (hr : zixL i (wB c) to FU fr = some r) : zM l sC G yJ1_indexOfChar_4cfef cJ1_indexOfChar_4cfef 6 (some .int) 0 [.ref (G.2.2.2.2.1 i), .int (oI c), .int (oI fr), .int (oI to)] st (some (.int (oI r))) st :=
  zEnter (f := fR st) hr hj (by decide) rfl (lv := [(0, .ref (G.2.2.2.2.1 i)), (1, .int (oI c)), (2, .int (oI fr)), (3, .int (oI to))]) rfl (Nat.le_of_ble_eq_true rfl) (fun X _ hN C => by
    refine j_iload_n (pc := 0) C dJ1_indexOfChar_4cfef_0 rfl 1 rfl ?_
    refine j_i2b (pc := 1) C dJ1_indexOfChar_4cfef_1 ?_
    refine j_istore (pc := 2) C hN dJ1_indexOfChar_4cfef_2 (by decide) (lv' := [(4, .int (oI (wB c))), (0, .ref (G.2.2.2.2.1 i)), (1, .int (oI c)), (2, .int (oI fr)), (3, .int (oI to))]) rfl ?_
    refine j_iload_n (pc := 4) C dJ1_indexOfChar_4cfef_4 rfl 3 rfl ?_
    refine j_istore (pc := 5) C hN dJ1_indexOfChar_4cfef_5 (by decide) (lv' := [(5, .int (oI fr)), (4, .int (oI (wB c))), (0, .ref (G.2.2.2.2.1 i)), (1, .int (oI c)), (2, .int (oI fr)), (3, .int (oI to))]) rfl ?_
    exact j_sub [2, 5, 1, 0] rfl (zixL_j C hN hi FU _))
theorem J1_indexOf_m (l : Launch) {G : GD} (hj : zInj sC G) {i : Nat} (hi : i < 8) {st : PS} {c r : Int} (hr : zix i c = some r) : zM l sC G yJ1_indexOf_4cfef cJ1_indexOf_4cfef 4 (some .int) 1 [.ref (G.2.2.2.2.1 i), .int (oI c), .int (oI 0), .int (oI (zsl i))] st (some (.int (oI r))) st := by
  have hp8 : ∀ i, i < 8 → wI (zmax 0 0) < wI (zmin (zsl i) (zsl i)) := by decide
  refine zEnter (f := fR st) hr hj (by decide) rfl (lv := [(0, .ref (G.2.2.2.2.1 i)), (1, .int (oI c)), (2, .int (oI 0)), (3, .int (oI (zsl i)))]) rfl (Nat.le_of_ble_eq_true rfl) (fun X _ hN C => ?_)
  have low : (if wI c < 0 then (0 : Int) else if wI 255 < wI c then 0 else 1) = 0 → ∀ o, o = some (-1 : Int) → J X (zI sC G) (zQ sC G (fR st)) st [(0, .ref (G.2.2.2.2.1 i)), (1, .int (oI c)), (2, .int (oI 0)), (3, .int (oI (zsl i)))] 0 [] o := by
    rintro e o rfl
    refine j_iload_n (pc := 0) C dJ1_indexOf_4cfef_0 rfl 1 rfl ?_
    refine j_callS1 (pc := 1) C (J1_canEncode_m _ hj) kS_J1_88 rfl (by decide) rfl (Nat.le_of_ble_eq_true rfl) dJ1_indexOf_4cfef_1 ?_
    rw [e]
    refine j_if_ne_f (pc := 4) (tgt := 9) C dJ1_indexOf_4cfef_4 rfl (by decide) ?_
    refine j_iconst (pc := 7) C dJ1_indexOf_4cfef_7 ?_
    exact j_ireturn C rfl rfl rfl rfl dJ1_indexOf_4cfef_8
  unfold zix
  refine j_if (fun h => low (by rw [if_pos h]) _ rfl) (fun h1 => ?_)
  refine j_if (fun h => low (by rw [if_neg h1, if_pos h]) _ rfl) (fun h2 => ?_)
  have e : (if wI c < 0 then (0 : Int) else if wI 255 < wI c then 0 else 1) = 1 := by rw [if_neg h1, if_neg h2]
  refine j_iload_n (pc := 0) C dJ1_indexOf_4cfef_0 rfl 1 rfl ?_
  refine j_callS1 (pc := 1) C (J1_canEncode_m _ hj) kS_J1_88 rfl (by decide) rfl (Nat.le_of_ble_eq_true rfl) dJ1_indexOf_4cfef_1 ?_
  rw [e]
  refine j_if_ne_t (pc := 4) (tgt := 9) C dJ1_indexOf_4cfef_4 rfl (by decide) ?_
  refine j_iload_n (pc := 9) C dJ1_indexOf_4cfef_9 rfl 2 rfl ?_
  refine j_iconst (pc := 10) C dJ1_indexOf_4cfef_10 ?_
  refine j_mmax (pc := 11) C kC_J1_92 (Nat.le_of_ble_eq_true rfl) dJ1_indexOf_4cfef_11 ?_
  refine j_istore_n (pc := 14) C hN dJ1_indexOf_4cfef_14 rfl (by decide) (lv' := [(2, .int (oI (zmax 0 0))), (0, .ref (G.2.2.2.2.1 i)), (1, .int (oI c)), (3, .int (oI (zsl i)))]) rfl ?_
  refine j_iload_n (pc := 15) C dJ1_indexOf_4cfef_15 rfl 3 rfl ?_
  refine j_aload_n (pc := 16) C dJ1_indexOf_4cfef_16 rfl 1 rfl ?_
  refine j_sblen (pc := 17) C hi dJ1_indexOf_4cfef_17 ?_
  refine j_mmin (pc := 18) C kC_J1_38 (Nat.le_of_ble_eq_true rfl) dJ1_indexOf_4cfef_18 ?_
  refine j_istore_n (pc := 21) C hN dJ1_indexOf_4cfef_21 rfl (by decide) (lv' := [(3, .int (oI (zmin (zsl i) (zsl i)))), (2, .int (oI (zmax 0 0))), (0, .ref (G.2.2.2.2.1 i)), (1, .int (oI c))]) rfl ?_
  refine j_iload_n (pc := 22) C dJ1_indexOf_4cfef_22 rfl 1 rfl ?_
  refine j_iload_n (pc := 23) C dJ1_indexOf_4cfef_23 rfl 0 rfl ?_
  refine j_icmp_ltH (pc := 24) (tgt := 29) C dJ1_indexOf_4cfef_24 rfl (fun _ => ?_) (fun h => absurd (hp8 i hi) h)
  refine j_aload_n (pc := 29) C dJ1_indexOf_4cfef_29 rfl 2 rfl ?_
  refine j_iload_n (pc := 30) C dJ1_indexOf_4cfef_30 rfl 3 rfl ?_
  refine j_iload_n (pc := 31) C dJ1_indexOf_4cfef_31 rfl 1 rfl ?_
  refine j_iload_n (pc := 32) C dJ1_indexOf_4cfef_32 rfl 0 rfl ?_
  intro r2 hr2
  refine j_callS1 (pc := 33) (o := some r2) C (J1_indexOfChar_m _ hj hi hr2) kS_J1_95 rfl (by decide) rfl (Nat.le_of_ble_eq_true rfl) dJ1_indexOf_4cfef_33 ?_ r2 rfl
  exact j_ireturn C rfl rfl rfl rfl dJ1_indexOf_4cfef_36
theorem J0_indexOf2_m (l : Launch) {G : GD} (hj : zInj sC G) {i : Nat} (hi : i < 8) {st : PS} {c r : Int} (hr : zix i c = some r) : zM l sC G yJ0_indexOf_7cf53 cJ0_indexOf_7cf53 3 (some .int) 2 [.ref (G.2.2.2.1 i), .int (oI c), .int (oI 0)] st (some (.int (oI r))) st :=
  zEnter (f := fR st) (o := some r) rfl hj (by decide) rfl (lv := [(0, .ref (G.2.2.2.1 i)), (1, .int (oI c)), (2, .int (oI 0))]) rfl (Nat.le_of_ble_eq_true rfl) (fun X _ hN C => by
    refine j_aload_n (pc := 0) C dJ0_indexOf_7cf53_0 rfl 0 rfl ?_
    refine j_callK (pc := 1) C hi rfl (J0_isLatin1_m _ hj hi) kV_J0_492 rfl (by decide) rfl (Nat.le_of_ble_eq_true rfl) dJ0_indexOf_7cf53_1 ?_
    refine j_if_eq_f (pc := 4) (tgt := 23) C dJ0_indexOf_7cf53_4 rfl (by decide) ?_
    refine j_aload_n (pc := 7) C dJ0_indexOf_7cf53_7 rfl 0 rfl ?_
    refine j_sval (pc := 8) C hi dJ0_indexOf_7cf53_8 ?_
    refine j_iload_n (pc := 11) C dJ0_indexOf_7cf53_11 rfl 1 rfl ?_
    refine j_iload_n (pc := 12) C dJ0_indexOf_7cf53_12 rfl 2 rfl ?_
    refine j_aload_n (pc := 13) C dJ0_indexOf_7cf53_13 rfl 0 rfl ?_
    refine j_callK (pc := 14) C hi rfl (J0_length_m _ hj hi) kV_J0_505 rfl (by decide) rfl (Nat.le_of_ble_eq_true rfl) dJ0_indexOf_7cf53_14 ?_
    refine j_callS1 (pc := 17) C (J1_indexOf_m _ hj hi hr) kS_J0_637 rfl (by decide) rfl (Nat.le_of_ble_eq_true rfl) dJ0_indexOf_7cf53_17 ?_
    refine j_goto (pc := 20) (tgt := 36) C dJ0_indexOf_7cf53_20 rfl ?_
    exact j_ireturn C rfl rfl rfl rfl dJ0_indexOf_7cf53_36)
theorem J0_indexOf_m (l : Launch) {G : GD} (hj : zInj sC G) {i : Nat} (hi : i < 8) {st : PS} {c r : Int} (hr : zix i c = some r) : zM l sC G yJ0_indexOf_0f7a4 cJ0_indexOf_0f7a4 2 (some .int) 3 [.ref (G.2.2.2.1 i), .int (oI c)] st (some (.int (oI r))) st :=
  zEnter (f := fR st) (o := some r) rfl hj (by decide) rfl (lv := [(0, .ref (G.2.2.2.1 i)), (1, .int (oI c))]) rfl (Nat.le_of_ble_eq_true rfl) (fun X _ hN C => by
    refine j_aload_n (pc := 0) C dJ0_indexOf_0f7a4_0 rfl 0 rfl ?_
    refine j_iload_n (pc := 1) C dJ0_indexOf_0f7a4_1 rfl 1 rfl ?_
    refine j_iconst (pc := 2) C dJ0_indexOf_0f7a4_2 ?_
    refine j_callK (pc := 3) C hi rfl (J0_indexOf2_m _ hj hi hr) kV_J0_633 rfl (by decide) rfl (Nat.le_of_ble_eq_true rfl) dJ0_indexOf_0f7a4_3 ?_
    exact j_ireturn C rfl rfl rfl rfl dJ0_indexOf_0f7a4_6)
