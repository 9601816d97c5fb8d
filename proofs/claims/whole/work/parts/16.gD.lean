def X3_addSign (st : PS) (l1 : Int) : Option (Int × PS) := if wI (st 170 0) < wI 100 then bI (zwr st 172 100 (st 170 0) (wB (wB l1))) (fun s1 => zlet (zu s1 170 0 ((s1 170 0) + 1)) (fun s2 => some (s2 170 0, s2))) else (some ((-4), st))
set_option maxHeartbeats 4000000 in
set_option maxRecDepth 100000 in
theorem X3_addSign_m (l : Launch) {G : GD} (hj : zInj sC G) {st : PS} {l1 : Int} {r : (Int × PS)} (hr : X3_addSign st l1 = some r) : zM l sC G yX3_addSign cX3_addSign 2 (some .int) 0 [.ref (G.2.2.1 170), .int (oI l1)] st (some (.int (oI r.1))) r.2 :=
  zEnter (f := fI) hr hj (by decide) rfl (lv := [(0, .ref (G.2.2.1 170)), (1, .int (oI l1))]) rfl (Nat.le_of_ble_eq_true rfl) (fun X _ hN C => by
    unfold X3_addSign
    refine j_aload_n (pc := 0) C dX3_addSign_0 rfl 0 rfl ?_
    refine gf_X3_22 (pc := 1) C dX3_addSign_1 ?_
    refine j_bipush (pc := 4) C dX3_addSign_4 (by decide) ?_
    refine j_icmp_lt (pc := 6) (tgt := 12) C dX3_addSign_6 rfl ?_ ?_
    · refine j_aload_n (pc := 12) C dX3_addSign_12 rfl 0 rfl ?_
      refine gf_X3_18 (pc := 13) C dX3_addSign_13 ?_
      refine j_aload_n (pc := 16) C dX3_addSign_16 rfl 0 rfl ?_
      refine gf_X3_22 (pc := 17) C dX3_addSign_17 ?_
      refine j_iload_n (pc := 20) C dX3_addSign_20 rfl 1 rfl ?_
      refine j_i2b (pc := 21) C dX3_addSign_21 ?_
      refine j_bI (fun s1 es1 => ?_)
      refine j_bast (pc := 22) C arX3_2 es1 dX3_addSign_22 ?_
      refine j_aload_n (pc := 23) C dX3_addSign_23 rfl 0 rfl ?_
      refine j_dup (pc := 24) C dX3_addSign_24 rfl ?_
      refine gf_X3_22 (pc := 25) C dX3_addSign_25 ?_
      refine j_iconst (pc := 28) C dX3_addSign_28 ?_
      refine j_iadd (pc := 29) C dX3_addSign_29 ?_
      refine fp_X3_22 (pc := 30) C dX3_addSign_30 ?_
      refine j_let (fun s2 => ?_)
      refine j_aload_n (pc := 33) C dX3_addSign_33 rfl 0 rfl ?_
      refine gf_X3_22 (pc := 34) C dX3_addSign_34 ?_
      exact j_ireturn C rfl rfl rfl rfl dX3_addSign_37
    · refine j_bipush (pc := 9) C dX3_addSign_9 (by decide) ?_
      exact j_ireturn C rfl rfl rfl rfl dX3_addSign_11)
def X3_clear (st : PS) : Option PS := zlet (zu st 170 0 0) (fun s1 => some s1)
set_option maxHeartbeats 4000000 in
set_option maxRecDepth 100000 in
theorem X3_clear_m (l : Launch) {G : GD} (hj : zInj sC G) {st : PS} {r : PS} (hr : X3_clear st = some r) : zM l sC G yX3_clear cX3_clear 1 none 0 [.ref (G.2.2.1 170)] st none r :=
  zEnter (f := fV) hr hj (by decide) rfl (lv := [(0, .ref (G.2.2.1 170))]) rfl (Nat.le_of_ble_eq_true rfl) (fun X _ hN C => by
    unfold X3_clear
    refine j_aload_n (pc := 0) C dX3_clear_0 rfl 0 rfl ?_
    refine j_iconst (pc := 1) C dX3_clear_1 ?_
    refine fp_X3_22 (pc := 2) C dX3_clear_2 ?_
    refine j_let (fun s1 => ?_)
    exact j_return C rfl rfl dX3_clear_5)
def X3_sign (st : PS) : Option Int := if wI (st 170 0) ≤ wI (st 170 3) then some (-1) else (bI (zrd st 172 100 (st 170 3)) (fun v1 => some v1))
set_option maxHeartbeats 4000000 in
set_option maxRecDepth 100000 in
theorem X3_sign_m (l : Launch) {G : GD} (hj : zInj sC G) {st : PS} {r : Int} (hr : X3_sign st = some r) : zM l sC G yX3_sign cX3_sign 1 (some .int) 0 [.ref (G.2.2.1 170)] st (some (.int (oI r))) st :=
  zEnter (f := fR st) hr hj (by decide) rfl (lv := [(0, .ref (G.2.2.1 170))]) rfl (Nat.le_of_ble_eq_true rfl) (fun X _ hN C => by
    unfold X3_sign
    refine j_aload_n (pc := 0) C dX3_sign_0 rfl 0 rfl ?_
    refine gf_X3_26 (pc := 1) C dX3_sign_1 ?_
    refine j_aload_n (pc := 4) C dX3_sign_4 rfl 0 rfl ?_
    refine gf_X3_22 (pc := 5) C dX3_sign_5 ?_
    refine j_icmp_ge (pc := 8) (tgt := 23) C dX3_sign_8 rfl ?_ ?_
    · refine j_iconst (pc := 23) C dX3_sign_23 ?_
      exact j_ireturn C rfl rfl rfl rfl dX3_sign_24
    · refine j_aload_n (pc := 11) C dX3_sign_11 rfl 0 rfl ?_
      refine gf_X3_18 (pc := 12) C dX3_sign_12 ?_
      refine j_aload_n (pc := 15) C dX3_sign_15 rfl 0 rfl ?_
      refine gf_X3_26 (pc := 16) C dX3_sign_16 ?_
      refine j_bI (fun v1 ev1 => ?_)
      refine j_bald (pc := 19) C arX3_2 ev1 dX3_sign_19 ?_
      refine j_goto (pc := 20) (tgt := 24) C dX3_sign_20 rfl ?_
      exact j_ireturn C rfl rfl rfl rfl dX3_sign_24)
def X3_number_L4  : Nat → PS → Int → Int → Option (Int × PS)
  | 0, _, _, _ => none
  | k + 1, st, l1, l2 => if wI 2 ≤ wI l2 then some (l1, st) else (bI (X3_sign st) (fun v1 => if wI v1 < wI 48 then some (l1, st) else (if wI v1 ≤ wI 57 then zlet (zu st 170 3 ((st 170 3) + 1)) (fun s1 => X3_number_L4 k s1 ((((zmax l1 0) * 10) + v1) - 48) (l2 + 1)) else (some (l1, st)))))
def X3_number (st : PS) : Option (Int × PS) := X3_number_L4 FU st (-1) 0
set_option maxHeartbeats 4000000 in
set_option maxRecDepth 100000 in
theorem X3_number_L4_j {X : JX} {G : GD} (C : zC X sC G RX3 cX3_number (some .int) 1) (hN : X.2.2.2.2.2.2.2.2.2.2.2.2 = 4) (hj : zInj sC G)  : ∀ (k : Nat) (st : PS) (l1 : Int) (l2 : Int), J X (zI sC G) (zQ sC G fI) st [(0, .ref (G.2.2.1 170)), (1, .int (oI l1)), (2, .int (oI l2))] 4 [] (X3_number_L4 k st l1 l2) := by
  intro k
  induction k with
  | zero => intro st l1 l2; exact j_none
  | succ k ih =>
    intro st l1 l2
    rw [X3_number_L4]
    refine j_iload_n (pc := 4) C dX3_number_4 rfl 2 rfl ?_
    refine j_iconst (pc := 5) C dX3_number_5 ?_
    refine j_icmp_ge (pc := 6) (tgt := 58) C dX3_number_6 rfl ?_ ?_
    · refine j_iload_n (pc := 58) C dX3_number_58 rfl 1 rfl ?_
      exact j_ireturn C rfl rfl rfl rfl dX3_number_59
    · refine j_aload_n (pc := 9) C dX3_number_9 rfl 0 rfl ?_
      refine j_bI (fun v1 ev1 => ?_)
      refine j_callV1 (pc := 10) C obX3 rfl rfl (X3_sign_m _ hj ev1) kV_X3_42 rfl (by omega) rfl (Nat.le_of_ble_eq_true rfl) dX3_number_10 ?_
      refine j_istore_n (pc := 13) C hN dX3_number_13 rfl (by decide) (lv' := [(3, .int (oI v1)), (0, .ref (G.2.2.1 170)), (1, .int (oI l1)), (2, .int (oI l2))]) rfl ?_
      refine j_iload_n (pc := 14) C dX3_number_14 rfl 0 rfl ?_
      refine j_bipush (pc := 15) C dX3_number_15 (by decide) ?_
      refine j_icmp_lt (pc := 17) (tgt := 26) C dX3_number_17 rfl ?_ ?_
      · refine j_iload_n (pc := 26) C dX3_number_26 rfl 2 rfl ?_
        exact j_ireturn C rfl rfl rfl rfl dX3_number_27
      · refine j_iload_n (pc := 20) C dX3_number_20 rfl 0 rfl ?_
        refine j_bipush (pc := 21) C dX3_number_21 (by decide) ?_
        refine j_icmp_le (pc := 23) (tgt := 28) C dX3_number_23 rfl ?_ ?_
        · refine j_iload_n (pc := 28) C dX3_number_28 rfl 2 rfl ?_
          refine j_iconst (pc := 29) C dX3_number_29 ?_
          refine j_mmax (pc := 30) C kC_X3_82 (Nat.le_of_ble_eq_true rfl) dX3_number_30 ?_
          refine j_bipush (pc := 33) C dX3_number_33 (by decide) ?_
          refine j_imul (pc := 35) C dX3_number_35 ?_
          refine j_iload_n (pc := 36) C dX3_number_36 rfl 0 rfl ?_
          refine j_iadd (pc := 37) C dX3_number_37 ?_
          refine j_bipush (pc := 38) C dX3_number_38 (by decide) ?_
          refine j_isub (pc := 40) C dX3_number_40 ?_
          refine j_istore_n (pc := 41) C hN dX3_number_41 rfl (by decide) (lv' := [(1, .int (oI ((((zmax l1 0) * 10) + v1) - 48))), (3, .int (oI v1)), (0, .ref (G.2.2.1 170)), (2, .int (oI l2))]) rfl ?_
          refine j_aload_n (pc := 42) C dX3_number_42 rfl 2 rfl ?_
          refine j_dup (pc := 43) C dX3_number_43 rfl ?_
          refine gf_X3_26 (pc := 44) C dX3_number_44 ?_
          refine j_iconst (pc := 47) C dX3_number_47 ?_
          refine j_iadd (pc := 48) C dX3_number_48 ?_
          refine fp_X3_26 (pc := 49) C dX3_number_49 ?_
          refine j_let (fun s1 => ?_)
          refine j_iinc (pc := 52) C hN dX3_number_52 3 rfl (by decide) (lv' := [(2, .int (oI (l2 + 1))), (1, .int (oI ((((zmax l1 0) * 10) + v1) - 48))), (3, .int (oI v1)), (0, .ref (G.2.2.1 170))]) rfl ?_
          refine j_goto (pc := 55) (tgt := 4) C dX3_number_55 rfl ?_
          exact j_sub [3, 1, 0] rfl (ih _ _ _)
        · refine j_iload_n (pc := 26) C dX3_number_26 rfl 2 rfl ?_
          exact j_ireturn C rfl rfl rfl rfl dX3_number_27
set_option maxHeartbeats 4000000 in
set_option maxRecDepth 100000 in
theorem X3_number_m (l : Launch) {G : GD} (hj : zInj sC G) {st : PS} {r : (Int × PS)} (hr : X3_number st = some r) : zM l sC G yX3_number cX3_number 4 (some .int) 1 [.ref (G.2.2.1 170)] st (some (.int (oI r.1))) r.2 :=
  zEnter (f := fI) hr hj (by decide) rfl (lv := [(0, .ref (G.2.2.1 170))]) rfl (Nat.le_of_ble_eq_true rfl) (fun X _ hN C => by
    unfold X3_number
    refine j_iconst (pc := 0) C dX3_number_0 ?_
    refine j_istore_n (pc := 1) C hN dX3_number_1 rfl (by decide) (lv' := [(1, .int (oI (-1))), (0, .ref (G.2.2.1 170))]) rfl ?_
    refine j_iconst (pc := 2) C dX3_number_2 ?_
    refine j_istore_n (pc := 3) C hN dX3_number_3 rfl (by decide) (lv' := [(2, .int (oI 0)), (1, .int (oI (-1))), (0, .ref (G.2.2.1 170))]) rfl ?_
    exact j_sub [2, 1, 0] rfl (X3_number_L4_j C hN hj FU _ _ _))
