def X7_in (st : PS) (l1 l2 l3 : Int) : Int := if wI l1 < wI l2 then 0 else (if wI l3 < wI l1 then 0 else (1))
set_option maxHeartbeats 4000000 in
set_option maxRecDepth 100000 in
theorem X7_in_m (l : Launch) {G : GD} (hj : zInj sM G) {st : PS} {l1 l2 l3 : Int} {r : Int} (hr : X7_in st l1 l2 l3 = r) : zM l sM G yX7_in cX7_in 4 (some .boolean) 0 [.ref (G.2.2.1 0), .int (oI l1), .int (oI l2), .int (oI l3)] st (some (.int (oI r))) st :=
  zEnter (f := fR st) (o := some (X7_in st l1 l2 l3)) (by rw [hr]) hj (by decide) rfl (lv := [(0, .ref (G.2.2.1 0)), (1, .int (oI l1)), (2, .int (oI l2)), (3, .int (oI l3))]) rfl (Nat.le_of_ble_eq_true rfl) (fun X _ hN C => by
    simp only [X7_in, zsome_ite]
    refine j_iload_n (pc := 0) C dX7_in_0 rfl 1 rfl ?_
    refine j_iload_n (pc := 1) C dX7_in_1 rfl 2 rfl ?_
    refine j_icmp_lt (pc := 2) (tgt := 14) C dX7_in_2 rfl ?_ ?_
    · refine j_iconst (pc := 14) C dX7_in_14 ?_
      exact j_ireturn C rfl rfl (znar (Or.inl rfl)) rfl dX7_in_15
    · refine j_iload_n (pc := 5) C dX7_in_5 rfl 1 rfl ?_
      refine j_iload_n (pc := 6) C dX7_in_6 rfl 3 rfl ?_
      refine j_icmp_gt (pc := 7) (tgt := 14) C dX7_in_7 rfl ?_ ?_
      · refine j_iconst (pc := 14) C dX7_in_14 ?_
        exact j_ireturn C rfl rfl (znar (Or.inl rfl)) rfl dX7_in_15
      · refine j_iconst (pc := 10) C dX7_in_10 ?_
        refine j_goto (pc := 11) (tgt := 15) C dX7_in_11 rfl ?_
        exact j_ireturn C rfl rfl (znar (Or.inr rfl)) rfl dX7_in_15)
theorem X7_in_bit {st : PS} {l1 l2 l3 : Int} : X7_in st l1 l2 l3 = 0 ∨ X7_in st l1 l2 l3 = 1 := by
  unfold X7_in
  first | exact Or.inl rfl | (repeat' split) <;> first | exact Or.inl rfl | exact Or.inr rfl
def X7_isHouse (st : PS) (l1 : Int) : Int := (X7_in st l1 0 ((st 0 0) - 1))
set_option maxHeartbeats 4000000 in
set_option maxRecDepth 100000 in
theorem X7_isHouse_m (l : Launch) {G : GD} (hj : zInj sM G) {st : PS} {l1 : Int} {r : Int} (hr : X7_isHouse st l1 = r) : zM l sM G yX7_isHouse cX7_isHouse 2 (some .boolean) 1 [.ref (G.2.2.1 0), .int (oI l1)] st (some (.int (oI r))) st :=
  zEnter (f := fR st) (o := some (X7_isHouse st l1)) (by rw [hr]) hj (by decide) rfl (lv := [(0, .ref (G.2.2.1 0)), (1, .int (oI l1))]) rfl (Nat.le_of_ble_eq_true rfl) (fun X _ hN C => by
    simp only [X7_isHouse, zsome_ite]
    refine j_aload_n (pc := 0) C dX7_isHouse_0 rfl 0 rfl ?_
    refine j_iload_n (pc := 1) C dX7_isHouse_1 rfl 1 rfl ?_
    refine j_iconst (pc := 2) C dX7_isHouse_2 ?_
    refine j_aload_n (pc := 3) C dX7_isHouse_3 rfl 0 rfl ?_
    refine gf_X7_7 (pc := 4) C dX7_isHouse_4 ?_
    refine j_iconst (pc := 7) C dX7_isHouse_7 ?_
    refine j_isub (pc := 8) C dX7_isHouse_8 ?_
    refine j_callV1 (pc := 9) C obX7 rfl rfl (X7_in_m _ hj rfl) kV_X7_197 rfl (by omega) rfl (Nat.le_of_ble_eq_true rfl) dX7_isHouse_9 ?_
    exact j_ireturn C rfl rfl (znar (X7_in_bit)) rfl dX7_isHouse_12)
theorem X7_isHouse_bit {st : PS} {l1 : Int} : X7_isHouse st l1 = 0 ∨ X7_isHouse st l1 = 1 := by
  unfold X7_isHouse
  first | exact X7_in_bit | (repeat' split) <;> first | exact Or.inl rfl | exact Or.inr rfl
def X7_lay_L25 (l1 : Int) : Nat → PS → Int → Option PS
  | 0, _, _ => none
  | k + 1, st, l5 => if wI 4 ≤ wI l5 then some st else (bI (zwr st 5 32 ((4 * l1) + l5) 0) (fun s4 => X7_lay_L25 l1 k s4 (l5 + 1)))
def X7_lay (st : PS) (l1 l2 l3 l4 : Int) : Option PS := bI (zwr st 2 8 l1 l2) (fun s1 => bI (zwr s1 3 8 l1 l3) (fun s2 => bI (zwr s2 4 8 l1 l4) (fun s3 => X7_lay_L25 l1 FU s3 0)))
set_option maxHeartbeats 4000000 in
set_option maxRecDepth 100000 in
theorem X7_lay_L25_j {X : JX} {G : GD} (C : zC X sM G RX7 cX7_lay none 0) (hN : X.2.2.2.2.2.2.2.2.2.2.2.2 = 6) (hj : zInj sM G) {l1 : Int} : ∀ (k : Nat) (st : PS) (l5 : Int), J X (zI sM G) (zQ sM G fV) st [(0, .ref (G.2.2.1 0)), (1, .int (oI l1)), (5, .int (oI l5))] 25 [] (X7_lay_L25 l1 k st l5) := by
  intro k
  induction k with
  | zero => intro st l5; exact j_none
  | succ k ih =>
    intro st l5
    rw [X7_lay_L25]
    refine j_iload (pc := 25) C dX7_lay_25 2 rfl ?_
    refine j_iconst (pc := 27) C dX7_lay_27 ?_
    refine j_icmp_ge (pc := 28) (tgt := 49) C dX7_lay_28 rfl ?_ ?_
    · exact j_return C rfl rfl dX7_lay_49
    · refine j_aload_n (pc := 31) C dX7_lay_31 rfl 0 rfl ?_
      refine gf_X7_26 (pc := 32) C dX7_lay_32 ?_
      refine j_iconst (pc := 35) C dX7_lay_35 ?_
      refine j_iload_n (pc := 36) C dX7_lay_36 rfl 1 rfl ?_
      refine j_imul (pc := 37) C dX7_lay_37 ?_
      refine j_iload (pc := 38) C dX7_lay_38 2 rfl ?_
      refine j_iadd (pc := 40) C dX7_lay_40 ?_
      refine j_iconst (pc := 41) C dX7_lay_41 ?_
      refine j_bI (fun s4 es4 => ?_)
      refine j_iast (pc := 42) C arX7_5 es4 dX7_lay_42 ?_
      refine j_iinc (pc := 43) C hN dX7_lay_43 2 rfl (by decide) (lv' := [(5, .int (oI (l5 + 1))), (0, .ref (G.2.2.1 0)), (1, .int (oI l1))]) rfl ?_
      refine j_goto (pc := 46) (tgt := 25) C dX7_lay_46 rfl ?_
      exact j_sub [1, 2, 0] rfl (ih _ _)
set_option maxHeartbeats 4000000 in
set_option maxRecDepth 100000 in
theorem X7_lay_m (l : Launch) {G : GD} (hj : zInj sM G) {st : PS} {l1 l2 l3 l4 : Int} {r : PS} (hr : X7_lay st l1 l2 l3 l4 = some r) : zM l sM G yX7_lay cX7_lay 6 none 0 [.ref (G.2.2.1 0), .int (oI l1), .int (oI l2), .int (oI l3), .int (oI l4)] st none r :=
  zEnter (f := fV) hr hj (by decide) rfl (lv := [(0, .ref (G.2.2.1 0)), (1, .int (oI l1)), (2, .int (oI l2)), (3, .int (oI l3)), (4, .int (oI l4))]) rfl (Nat.le_of_ble_eq_true rfl) (fun X _ hN C => by
    unfold X7_lay
    refine j_aload_n (pc := 0) C dX7_lay_0 rfl 0 rfl ?_
    refine gf_X7_16 (pc := 1) C dX7_lay_1 ?_
    refine j_iload_n (pc := 4) C dX7_lay_4 rfl 1 rfl ?_
    refine j_iload_n (pc := 5) C dX7_lay_5 rfl 2 rfl ?_
    refine j_bI (fun s1 es1 => ?_)
    refine j_iast (pc := 6) C arX7_2 es1 dX7_lay_6 ?_
    refine j_aload_n (pc := 7) C dX7_lay_7 rfl 0 rfl ?_
    refine gf_X7_20 (pc := 8) C dX7_lay_8 ?_
    refine j_iload_n (pc := 11) C dX7_lay_11 rfl 1 rfl ?_
    refine j_iload_n (pc := 12) C dX7_lay_12 rfl 3 rfl ?_
    refine j_bI (fun s2 es2 => ?_)
    refine j_iast (pc := 13) C arX7_3 es2 dX7_lay_13 ?_
    refine j_aload_n (pc := 14) C dX7_lay_14 rfl 0 rfl ?_
    refine gf_X7_23 (pc := 15) C dX7_lay_15 ?_
    refine j_iload_n (pc := 18) C dX7_lay_18 rfl 1 rfl ?_
    refine j_iload (pc := 19) C dX7_lay_19 4 rfl ?_
    refine j_bI (fun s3 es3 => ?_)
    refine j_iast (pc := 21) C arX7_4 es3 dX7_lay_21 ?_
    refine j_iconst (pc := 22) C dX7_lay_22 ?_
    refine j_istore (pc := 23) C hN dX7_lay_23 (by decide) (lv' := [(5, .int (oI 0)), (0, .ref (G.2.2.1 0)), (1, .int (oI l1)), (2, .int (oI l2)), (3, .int (oI l3)), (4, .int (oI l4))]) rfl ?_
    exact j_sub [1, 2, 0] rfl (X7_lay_L25_j C hN hj FU _ _))
def X7_copy_L38 (l1 : Int) (l2 : Int) : Nat → PS → Int → Option PS
  | 0, _, _ => none
  | k + 1, st, l3 => if wI 4 ≤ wI l3 then some st else (bI (zrd st 5 32 ((4 * l2) + l3)) (fun v4 => bI (zwr st 5 32 ((4 * l1) + l3) v4) (fun s4 => X7_copy_L38 l1 l2 k s4 (l3 + 1))))
def X7_copy (st : PS) (l1 l2 : Int) : Option PS := bI (zrd st 2 8 l2) (fun v1 => bI (zwr st 2 8 l1 v1) (fun s1 => bI (zrd s1 3 8 l2) (fun v2 => bI (zwr s1 3 8 l1 v2) (fun s2 => bI (zrd s2 4 8 l2) (fun v3 => bI (zwr s2 4 8 l1 v3) (fun s3 => X7_copy_L38 l1 l2 FU s3 0))))))
set_option maxHeartbeats 4000000 in
set_option maxRecDepth 100000 in
theorem X7_copy_L38_j {X : JX} {G : GD} (C : zC X sM G RX7 cX7_copy none 0) (hN : X.2.2.2.2.2.2.2.2.2.2.2.2 = 4) (hj : zInj sM G) {l1 : Int} {l2 : Int} : ∀ (k : Nat) (st : PS) (l3 : Int), J X (zI sM G) (zQ sM G fV) st [(0, .ref (G.2.2.1 0)), (1, .int (oI l1)), (2, .int (oI l2)), (3, .int (oI l3))] 38 [] (X7_copy_L38 l1 l2 k st l3) := by
  intro k
  induction k with
  | zero => intro st l3; exact j_none
  | succ k ih =>
    intro st l3
    rw [X7_copy_L38]
    refine j_iload_n (pc := 38) C dX7_copy_38 rfl 3 rfl ?_
    refine j_iconst (pc := 39) C dX7_copy_39 ?_
    refine j_icmp_ge (pc := 40) (tgt := 69) C dX7_copy_40 rfl ?_ ?_
    · exact j_return C rfl rfl dX7_copy_69
    · refine j_aload_n (pc := 43) C dX7_copy_43 rfl 0 rfl ?_
      refine gf_X7_26 (pc := 44) C dX7_copy_44 ?_
      refine j_iconst (pc := 47) C dX7_copy_47 ?_
      refine j_iload_n (pc := 48) C dX7_copy_48 rfl 1 rfl ?_
      refine j_imul (pc := 49) C dX7_copy_49 ?_
      refine j_iload_n (pc := 50) C dX7_copy_50 rfl 3 rfl ?_
      refine j_iadd (pc := 51) C dX7_copy_51 ?_
      refine j_aload_n (pc := 52) C dX7_copy_52 rfl 0 rfl ?_
      refine gf_X7_26 (pc := 53) C dX7_copy_53 ?_
      refine j_iconst (pc := 56) C dX7_copy_56 ?_
      refine j_iload_n (pc := 57) C dX7_copy_57 rfl 2 rfl ?_
      refine j_imul (pc := 58) C dX7_copy_58 ?_
      refine j_iload_n (pc := 59) C dX7_copy_59 rfl 3 rfl ?_
      refine j_iadd (pc := 60) C dX7_copy_60 ?_
      refine j_bI (fun v4 ev4 => ?_)
      refine j_iald (pc := 61) C arX7_5 ev4 dX7_copy_61 ?_
      refine j_bI (fun s4 es4 => ?_)
      refine j_iast (pc := 62) C arX7_5 es4 dX7_copy_62 ?_
      refine j_iinc (pc := 63) C hN dX7_copy_63 3 rfl (by decide) (lv' := [(3, .int (oI (l3 + 1))), (0, .ref (G.2.2.1 0)), (1, .int (oI l1)), (2, .int (oI l2))]) rfl ?_
      refine j_goto (pc := 66) (tgt := 38) C dX7_copy_66 rfl ?_
      exact j_sub [1, 2, 3, 0] rfl (ih _ _)
set_option maxHeartbeats 4000000 in
set_option maxRecDepth 100000 in
theorem X7_copy_m (l : Launch) {G : GD} (hj : zInj sM G) {st : PS} {l1 l2 : Int} {r : PS} (hr : X7_copy st l1 l2 = some r) : zM l sM G yX7_copy cX7_copy 4 none 0 [.ref (G.2.2.1 0), .int (oI l1), .int (oI l2)] st none r :=
  zEnter (f := fV) hr hj (by decide) rfl (lv := [(0, .ref (G.2.2.1 0)), (1, .int (oI l1)), (2, .int (oI l2))]) rfl (Nat.le_of_ble_eq_true rfl) (fun X _ hN C => by
    unfold X7_copy
    refine j_aload_n (pc := 0) C dX7_copy_0 rfl 0 rfl ?_
    refine gf_X7_16 (pc := 1) C dX7_copy_1 ?_
    refine j_iload_n (pc := 4) C dX7_copy_4 rfl 1 rfl ?_
    refine j_aload_n (pc := 5) C dX7_copy_5 rfl 0 rfl ?_
    refine gf_X7_16 (pc := 6) C dX7_copy_6 ?_
    refine j_iload_n (pc := 9) C dX7_copy_9 rfl 2 rfl ?_
    refine j_bI (fun v1 ev1 => ?_)
    refine j_iald (pc := 10) C arX7_2 ev1 dX7_copy_10 ?_
    refine j_bI (fun s1 es1 => ?_)
    refine j_iast (pc := 11) C arX7_2 es1 dX7_copy_11 ?_
    refine j_aload_n (pc := 12) C dX7_copy_12 rfl 0 rfl ?_
    refine gf_X7_20 (pc := 13) C dX7_copy_13 ?_
    refine j_iload_n (pc := 16) C dX7_copy_16 rfl 1 rfl ?_
    refine j_aload_n (pc := 17) C dX7_copy_17 rfl 0 rfl ?_
    refine gf_X7_20 (pc := 18) C dX7_copy_18 ?_
    refine j_iload_n (pc := 21) C dX7_copy_21 rfl 2 rfl ?_
    refine j_bI (fun v2 ev2 => ?_)
    refine j_iald (pc := 22) C arX7_3 ev2 dX7_copy_22 ?_
    refine j_bI (fun s2 es2 => ?_)
    refine j_iast (pc := 23) C arX7_3 es2 dX7_copy_23 ?_
    refine j_aload_n (pc := 24) C dX7_copy_24 rfl 0 rfl ?_
    refine gf_X7_23 (pc := 25) C dX7_copy_25 ?_
    refine j_iload_n (pc := 28) C dX7_copy_28 rfl 1 rfl ?_
    refine j_aload_n (pc := 29) C dX7_copy_29 rfl 0 rfl ?_
    refine gf_X7_23 (pc := 30) C dX7_copy_30 ?_
    refine j_iload_n (pc := 33) C dX7_copy_33 rfl 2 rfl ?_
    refine j_bI (fun v3 ev3 => ?_)
    refine j_iald (pc := 34) C arX7_4 ev3 dX7_copy_34 ?_
    refine j_bI (fun s3 es3 => ?_)
    refine j_iast (pc := 35) C arX7_4 es3 dX7_copy_35 ?_
    refine j_iconst (pc := 36) C dX7_copy_36 ?_
    refine j_istore_n (pc := 37) C hN dX7_copy_37 rfl (by decide) (lv' := [(3, .int (oI 0)), (0, .ref (G.2.2.1 0)), (1, .int (oI l1)), (2, .int (oI l2))]) rfl ?_
    exact j_sub [1, 2, 3, 0] rfl (X7_copy_L38_j C hN hj FU _ _))
def X7_house (st : PS) (l1 l2 l3 : Int) : Option (Int × PS) := if wI (X7_in st l1 0 6) = 0 then some ((-1), st) else (if wI (X7_in st l2 0 9) = 0 then some ((-2), st) else (if wI (X7_in st l3 0 99) = 0 then some ((-2), st) else (if wI (st 0 0) = wI 7 then some ((-4), st) else (bI (X7_lay st (st 0 0) l1 l2 l3) (fun s1 => zlet (zu s1 0 0 ((s1 0 0) + 1)) (fun s2 => some ((s2 0 0) - 1, s2)))))))
set_option maxHeartbeats 4000000 in
set_option maxRecDepth 100000 in
theorem X7_house_m (l : Launch) {G : GD} (hj : zInj sM G) {st : PS} {l1 l2 l3 : Int} {r : (Int × PS)} (hr : X7_house st l1 l2 l3 = some r) : zM l sM G yX7_house cX7_house 4 (some .int) 1 [.ref (G.2.2.1 0), .int (oI l1), .int (oI l2), .int (oI l3)] st (some (.int (oI r.1))) r.2 :=
  zEnter (f := fI) hr hj (by decide) rfl (lv := [(0, .ref (G.2.2.1 0)), (1, .int (oI l1)), (2, .int (oI l2)), (3, .int (oI l3))]) rfl (Nat.le_of_ble_eq_true rfl) (fun X _ hN C => by
    unfold X7_house
    refine j_aload_n (pc := 0) C dX7_house_0 rfl 0 rfl ?_
    refine j_iload_n (pc := 1) C dX7_house_1 rfl 1 rfl ?_
    refine j_iconst (pc := 2) C dX7_house_2 ?_
    refine j_bipush (pc := 3) C dX7_house_3 (by decide) ?_
    refine j_callV1 (pc := 5) C obX7 rfl rfl (X7_in_m _ hj rfl) kV_X7_197 rfl (by omega) rfl (Nat.le_of_ble_eq_true rfl) dX7_house_5 ?_
    refine j_if_ne (pc := 8) (tgt := 13) C dX7_house_8 rfl ?_ ?_
    · refine j_iconst (pc := 11) C dX7_house_11 ?_
      exact j_ireturn C rfl rfl rfl rfl dX7_house_12
    · refine j_aload_n (pc := 13) C dX7_house_13 rfl 0 rfl ?_
      refine j_iload_n (pc := 14) C dX7_house_14 rfl 2 rfl ?_
      refine j_iconst (pc := 15) C dX7_house_15 ?_
      refine j_bipush (pc := 16) C dX7_house_16 (by decide) ?_
      refine j_callV1 (pc := 18) C obX7 rfl rfl (X7_in_m _ hj rfl) kV_X7_197 rfl (by omega) rfl (Nat.le_of_ble_eq_true rfl) dX7_house_18 ?_
      refine j_if_eq (pc := 21) (tgt := 35) C dX7_house_21 rfl ?_ ?_
      · refine j_bipush (pc := 35) C dX7_house_35 (by decide) ?_
        exact j_ireturn C rfl rfl rfl rfl dX7_house_37
      · refine j_aload_n (pc := 24) C dX7_house_24 rfl 0 rfl ?_
        refine j_iload_n (pc := 25) C dX7_house_25 rfl 3 rfl ?_
        refine j_iconst (pc := 26) C dX7_house_26 ?_
        refine j_bipush (pc := 27) C dX7_house_27 (by decide) ?_
        refine j_callV1 (pc := 29) C obX7 rfl rfl (X7_in_m _ hj rfl) kV_X7_197 rfl (by omega) rfl (Nat.le_of_ble_eq_true rfl) dX7_house_29 ?_
        refine j_if_ne (pc := 32) (tgt := 38) C dX7_house_32 rfl ?_ ?_
        · refine j_bipush (pc := 35) C dX7_house_35 (by decide) ?_
          exact j_ireturn C rfl rfl rfl rfl dX7_house_37
        · refine j_aload_n (pc := 38) C dX7_house_38 rfl 0 rfl ?_
          refine gf_X7_7 (pc := 39) C dX7_house_39 ?_
          refine j_bipush (pc := 42) C dX7_house_42 (by decide) ?_
          refine j_icmp_ne (pc := 44) (tgt := 50) C dX7_house_44 rfl ?_ ?_
          · refine j_bipush (pc := 47) C dX7_house_47 (by decide) ?_
            exact j_ireturn C rfl rfl rfl rfl dX7_house_49
          · refine j_aload_n (pc := 50) C dX7_house_50 rfl 0 rfl ?_
            refine j_aload_n (pc := 51) C dX7_house_51 rfl 0 rfl ?_
            refine gf_X7_7 (pc := 52) C dX7_house_52 ?_
            refine j_iload_n (pc := 55) C dX7_house_55 rfl 1 rfl ?_
            refine j_iload_n (pc := 56) C dX7_house_56 rfl 2 rfl ?_
            refine j_iload_n (pc := 57) C dX7_house_57 rfl 3 rfl ?_
            refine j_bI (fun s1 es1 => ?_)
            refine j_callV0 (pc := 58) C obX7 rfl rfl (X7_lay_m _ hj es1) kV_X7_201 rfl (by omega) rfl (Nat.le_of_ble_eq_true rfl) dX7_house_58 ?_
            refine j_aload_n (pc := 61) C dX7_house_61 rfl 0 rfl ?_
            refine j_dup (pc := 62) C dX7_house_62 rfl ?_
            refine gf_X7_7 (pc := 63) C dX7_house_63 ?_
            refine j_iconst (pc := 66) C dX7_house_66 ?_
            refine j_iadd (pc := 67) C dX7_house_67 ?_
            refine fp_X7_7 (pc := 68) C dX7_house_68 ?_
            refine j_let (fun s2 => ?_)
            refine j_aload_n (pc := 71) C dX7_house_71 rfl 0 rfl ?_
            refine gf_X7_7 (pc := 72) C dX7_house_72 ?_
            refine j_iconst (pc := 75) C dX7_house_75 ?_
            refine j_isub (pc := 76) C dX7_house_76 ?_
            exact j_ireturn C rfl rfl rfl rfl dX7_house_77)
def X7_earn (st : PS) (l1 l2 : Int) : Option (Int × PS) := if wI (X7_isHouse st l1) = 0 then some ((-1), st) else (if wI (X7_in st l2 0 99) = 0 then some ((-2), st) else (bI (zrd st 4 8 l1) (fun v1 => bI (zwr st 4 8 l1 l2) (fun s1 => some (v1, s1)))))
set_option maxHeartbeats 4000000 in
set_option maxRecDepth 100000 in
theorem X7_earn_m (l : Launch) {G : GD} (hj : zInj sM G) {st : PS} {l1 l2 : Int} {r : (Int × PS)} (hr : X7_earn st l1 l2 = some r) : zM l sM G yX7_earn cX7_earn 4 (some .int) 2 [.ref (G.2.2.1 0), .int (oI l1), .int (oI l2)] st (some (.int (oI r.1))) r.2 :=
  zEnter (f := fI) hr hj (by decide) rfl (lv := [(0, .ref (G.2.2.1 0)), (1, .int (oI l1)), (2, .int (oI l2))]) rfl (Nat.le_of_ble_eq_true rfl) (fun X _ hN C => by
    unfold X7_earn
    refine j_aload_n (pc := 0) C dX7_earn_0 rfl 0 rfl ?_
    refine j_iload_n (pc := 1) C dX7_earn_1 rfl 1 rfl ?_
    refine j_callV1 (pc := 2) C obX7 rfl rfl (X7_isHouse_m _ hj rfl) kV_X7_205 rfl (by omega) rfl (Nat.le_of_ble_eq_true rfl) dX7_earn_2 ?_
    refine j_if_ne (pc := 5) (tgt := 10) C dX7_earn_5 rfl ?_ ?_
    · refine j_iconst (pc := 8) C dX7_earn_8 ?_
      exact j_ireturn C rfl rfl rfl rfl dX7_earn_9
    · refine j_aload_n (pc := 10) C dX7_earn_10 rfl 0 rfl ?_
      refine j_iload_n (pc := 11) C dX7_earn_11 rfl 2 rfl ?_
      refine j_iconst (pc := 12) C dX7_earn_12 ?_
      refine j_bipush (pc := 13) C dX7_earn_13 (by decide) ?_
      refine j_callV1 (pc := 15) C obX7 rfl rfl (X7_in_m _ hj rfl) kV_X7_197 rfl (by omega) rfl (Nat.le_of_ble_eq_true rfl) dX7_earn_15 ?_
      refine j_if_ne (pc := 18) (tgt := 24) C dX7_earn_18 rfl ?_ ?_
      · refine j_bipush (pc := 21) C dX7_earn_21 (by decide) ?_
        exact j_ireturn C rfl rfl rfl rfl dX7_earn_23
      · refine j_aload_n (pc := 24) C dX7_earn_24 rfl 0 rfl ?_
        refine gf_X7_23 (pc := 25) C dX7_earn_25 ?_
        refine j_iload_n (pc := 28) C dX7_earn_28 rfl 1 rfl ?_
        refine j_bI (fun v1 ev1 => ?_)
        refine j_iald (pc := 29) C arX7_4 ev1 dX7_earn_29 ?_
        refine j_istore_n (pc := 30) C hN dX7_earn_30 rfl (by decide) (lv' := [(3, .int (oI v1)), (0, .ref (G.2.2.1 0)), (1, .int (oI l1)), (2, .int (oI l2))]) rfl ?_
        refine j_aload_n (pc := 31) C dX7_earn_31 rfl 1 rfl ?_
        refine gf_X7_23 (pc := 32) C dX7_earn_32 ?_
        refine j_iload_n (pc := 35) C dX7_earn_35 rfl 2 rfl ?_
        refine j_iload_n (pc := 36) C dX7_earn_36 rfl 3 rfl ?_
        refine j_bI (fun s1 es1 => ?_)
        refine j_iast (pc := 37) C arX7_4 es1 dX7_earn_37 ?_
        refine j_iload_n (pc := 38) C dX7_earn_38 rfl 0 rfl ?_
        exact j_ireturn C rfl rfl rfl rfl dX7_earn_39)
def X7_row (st : PS) (l1 l2 l3 : Int) : Option (Int × PS) := if wI (X7_isHouse st l1) = 0 then some ((-1), st) else (if wI (X7_in st l2 0 3) = 0 then some ((-1), st) else (if wI (X7_in st l3 0 4) = 0 then some ((-2), st) else (bI (zrd st 2 8 l1) (fun v1 => if wI v1 = wI 6 then bI (zrd st 5 32 ((4 * l1) + l2)) (fun v2 => bI (zwr st 5 32 ((4 * l1) + l2) l3) (fun s1 => some (v2, s1))) else (some ((-3), st))))))
set_option maxHeartbeats 4000000 in
set_option maxRecDepth 100000 in
theorem X7_row_m (l : Launch) {G : GD} (hj : zInj sM G) {st : PS} {l1 l2 l3 : Int} {r : (Int × PS)} (hr : X7_row st l1 l2 l3 = some r) : zM l sM G yX7_row cX7_row 5 (some .int) 2 [.ref (G.2.2.1 0), .int (oI l1), .int (oI l2), .int (oI l3)] st (some (.int (oI r.1))) r.2 :=
  zEnter (f := fI) hr hj (by decide) rfl (lv := [(0, .ref (G.2.2.1 0)), (1, .int (oI l1)), (2, .int (oI l2)), (3, .int (oI l3))]) rfl (Nat.le_of_ble_eq_true rfl) (fun X _ hN C => by
    unfold X7_row
    refine j_aload_n (pc := 0) C dX7_row_0 rfl 0 rfl ?_
    refine j_iload_n (pc := 1) C dX7_row_1 rfl 1 rfl ?_
    refine j_callV1 (pc := 2) C obX7 rfl rfl (X7_isHouse_m _ hj rfl) kV_X7_205 rfl (by omega) rfl (Nat.le_of_ble_eq_true rfl) dX7_row_2 ?_
    refine j_if_eq (pc := 5) (tgt := 18) C dX7_row_5 rfl ?_ ?_
    · refine j_iconst (pc := 18) C dX7_row_18 ?_
      exact j_ireturn C rfl rfl rfl rfl dX7_row_19
    · refine j_aload_n (pc := 8) C dX7_row_8 rfl 0 rfl ?_
      refine j_iload_n (pc := 9) C dX7_row_9 rfl 2 rfl ?_
      refine j_iconst (pc := 10) C dX7_row_10 ?_
      refine j_iconst (pc := 11) C dX7_row_11 ?_
      refine j_callV1 (pc := 12) C obX7 rfl rfl (X7_in_m _ hj rfl) kV_X7_197 rfl (by omega) rfl (Nat.le_of_ble_eq_true rfl) dX7_row_12 ?_
      refine j_if_ne (pc := 15) (tgt := 20) C dX7_row_15 rfl ?_ ?_
      · refine j_iconst (pc := 18) C dX7_row_18 ?_
        exact j_ireturn C rfl rfl rfl rfl dX7_row_19
      · refine j_aload_n (pc := 20) C dX7_row_20 rfl 0 rfl ?_
        refine j_iload_n (pc := 21) C dX7_row_21 rfl 3 rfl ?_
        refine j_iconst (pc := 22) C dX7_row_22 ?_
        refine j_iconst (pc := 23) C dX7_row_23 ?_
        refine j_callV1 (pc := 24) C obX7 rfl rfl (X7_in_m _ hj rfl) kV_X7_197 rfl (by omega) rfl (Nat.le_of_ble_eq_true rfl) dX7_row_24 ?_
        refine j_if_ne (pc := 27) (tgt := 33) C dX7_row_27 rfl ?_ ?_
        · refine j_bipush (pc := 30) C dX7_row_30 (by decide) ?_
          exact j_ireturn C rfl rfl rfl rfl dX7_row_32
        · refine j_aload_n (pc := 33) C dX7_row_33 rfl 0 rfl ?_
          refine gf_X7_16 (pc := 34) C dX7_row_34 ?_
          refine j_iload_n (pc := 37) C dX7_row_37 rfl 1 rfl ?_
          refine j_bI (fun v1 ev1 => ?_)
          refine j_iald (pc := 38) C arX7_2 ev1 dX7_row_38 ?_
          refine j_bipush (pc := 39) C dX7_row_39 (by decide) ?_
          refine j_icmp_eq (pc := 41) (tgt := 47) C dX7_row_41 rfl ?_ ?_
          · refine j_aload_n (pc := 47) C dX7_row_47 rfl 0 rfl ?_
            refine gf_X7_26 (pc := 48) C dX7_row_48 ?_
            refine j_iconst (pc := 51) C dX7_row_51 ?_
            refine j_iload_n (pc := 52) C dX7_row_52 rfl 1 rfl ?_
            refine j_imul (pc := 53) C dX7_row_53 ?_
            refine j_iload_n (pc := 54) C dX7_row_54 rfl 2 rfl ?_
            refine j_iadd (pc := 55) C dX7_row_55 ?_
            refine j_bI (fun v2 ev2 => ?_)
            refine j_iald (pc := 56) C arX7_5 ev2 dX7_row_56 ?_
            refine j_istore (pc := 57) C hN dX7_row_57 (by decide) (lv' := [(4, .int (oI v2)), (0, .ref (G.2.2.1 0)), (1, .int (oI l1)), (2, .int (oI l2)), (3, .int (oI l3))]) rfl ?_
            refine j_aload_n (pc := 59) C dX7_row_59 rfl 1 rfl ?_
            refine gf_X7_26 (pc := 60) C dX7_row_60 ?_
            refine j_iconst (pc := 63) C dX7_row_63 ?_
            refine j_iload_n (pc := 64) C dX7_row_64 rfl 2 rfl ?_
            refine j_imul (pc := 65) C dX7_row_65 ?_
            refine j_iload_n (pc := 66) C dX7_row_66 rfl 3 rfl ?_
            refine j_iadd (pc := 67) C dX7_row_67 ?_
            refine j_iload_n (pc := 68) C dX7_row_68 rfl 4 rfl ?_
            refine j_bI (fun s1 es1 => ?_)
            refine j_iast (pc := 69) C arX7_5 es1 dX7_row_69 ?_
            refine j_iload (pc := 70) C dX7_row_70 0 rfl ?_
            exact j_ireturn C rfl rfl rfl rfl dX7_row_72
          · refine j_bipush (pc := 44) C dX7_row_44 (by decide) ?_
            exact j_ireturn C rfl rfl rfl rfl dX7_row_46)
def X7_feed (st : PS) (l1 : Int) : Option (Int × PS) := if wI (X7_in st l1 0 127) = 0 then some ((-2), st) else (if wI (st 0 8) = wI 100 then some ((-4), st) else (bI (zwr st 11 100 (st 0 8) l1) (fun s1 => zlet (zu s1 0 8 ((s1 0 8) + 1)) (fun s2 => some (s2 0 8, s2)))))
set_option maxHeartbeats 4000000 in
set_option maxRecDepth 100000 in
theorem X7_feed_m (l : Launch) {G : GD} (hj : zInj sM G) {st : PS} {l1 : Int} {r : (Int × PS)} (hr : X7_feed st l1 = some r) : zM l sM G yX7_feed cX7_feed 2 (some .int) 1 [.ref (G.2.2.1 0), .int (oI l1)] st (some (.int (oI r.1))) r.2 :=
  zEnter (f := fI) hr hj (by decide) rfl (lv := [(0, .ref (G.2.2.1 0)), (1, .int (oI l1))]) rfl (Nat.le_of_ble_eq_true rfl) (fun X _ hN C => by
    unfold X7_feed
    refine j_aload_n (pc := 0) C dX7_feed_0 rfl 0 rfl ?_
    refine j_iload_n (pc := 1) C dX7_feed_1 rfl 1 rfl ?_
    refine j_iconst (pc := 2) C dX7_feed_2 ?_
    refine j_bipush (pc := 3) C dX7_feed_3 (by decide) ?_
    refine j_callV1 (pc := 5) C obX7 rfl rfl (X7_in_m _ hj rfl) kV_X7_197 rfl (by omega) rfl (Nat.le_of_ble_eq_true rfl) dX7_feed_5 ?_
    refine j_if_ne (pc := 8) (tgt := 14) C dX7_feed_8 rfl ?_ ?_
    · refine j_bipush (pc := 11) C dX7_feed_11 (by decide) ?_
      exact j_ireturn C rfl rfl rfl rfl dX7_feed_13
    · refine j_aload_n (pc := 14) C dX7_feed_14 rfl 0 rfl ?_
      refine gf_X7_35 (pc := 15) C dX7_feed_15 ?_
      refine j_bipush (pc := 18) C dX7_feed_18 (by decide) ?_
      refine j_icmp_ne (pc := 20) (tgt := 26) C dX7_feed_20 rfl ?_ ?_
      · refine j_bipush (pc := 23) C dX7_feed_23 (by decide) ?_
        exact j_ireturn C rfl rfl rfl rfl dX7_feed_25
      · refine j_aload_n (pc := 26) C dX7_feed_26 rfl 0 rfl ?_
        refine gf_X7_44 (pc := 27) C dX7_feed_27 ?_
        refine j_aload_n (pc := 30) C dX7_feed_30 rfl 0 rfl ?_
        refine gf_X7_35 (pc := 31) C dX7_feed_31 ?_
        refine j_iload_n (pc := 34) C dX7_feed_34 rfl 1 rfl ?_
        refine j_bI (fun s1 es1 => ?_)
        refine j_iast (pc := 35) C arX7_11 es1 dX7_feed_35 ?_
        refine j_aload_n (pc := 36) C dX7_feed_36 rfl 0 rfl ?_
        refine j_dup (pc := 37) C dX7_feed_37 rfl ?_
        refine gf_X7_35 (pc := 38) C dX7_feed_38 ?_
        refine j_iconst (pc := 41) C dX7_feed_41 ?_
        refine j_iadd (pc := 42) C dX7_feed_42 ?_
        refine fp_X7_35 (pc := 43) C dX7_feed_43 ?_
        refine j_let (fun s2 => ?_)
        refine j_aload_n (pc := 46) C dX7_feed_46 rfl 0 rfl ?_
        refine gf_X7_35 (pc := 47) C dX7_feed_47 ?_
        exact j_ireturn C rfl rfl rfl rfl dX7_feed_50)
def X7_next (st : PS) : Option Int := if wI (st 0 8) ≤ wI (st 0 9) then some (-1) else (bI (zrd st 11 100 (st 0 9)) (fun v1 => some v1))
set_option maxHeartbeats 4000000 in
set_option maxRecDepth 100000 in
theorem X7_next_m (l : Launch) {G : GD} (hj : zInj sM G) {st : PS} {r : Int} (hr : X7_next st = some r) : zM l sM G yX7_next cX7_next 1 (some .int) 0 [.ref (G.2.2.1 0)] st (some (.int (oI r))) st :=
  zEnter (f := fR st) hr hj (by decide) rfl (lv := [(0, .ref (G.2.2.1 0))]) rfl (Nat.le_of_ble_eq_true rfl) (fun X _ hN C => by
    unfold X7_next
    refine j_aload_n (pc := 0) C dX7_next_0 rfl 0 rfl ?_
    refine gf_X7_38 (pc := 1) C dX7_next_1 ?_
    refine j_aload_n (pc := 4) C dX7_next_4 rfl 0 rfl ?_
    refine gf_X7_35 (pc := 5) C dX7_next_5 ?_
    refine j_icmp_ge (pc := 8) (tgt := 23) C dX7_next_8 rfl ?_ ?_
    · refine j_iconst (pc := 23) C dX7_next_23 ?_
      exact j_ireturn C rfl rfl rfl rfl dX7_next_24
    · refine j_aload_n (pc := 11) C dX7_next_11 rfl 0 rfl ?_
      refine gf_X7_44 (pc := 12) C dX7_next_12 ?_
      refine j_aload_n (pc := 15) C dX7_next_15 rfl 0 rfl ?_
      refine gf_X7_38 (pc := 16) C dX7_next_16 ?_
      refine j_bI (fun v1 ev1 => ?_)
      refine j_iald (pc := 19) C arX7_11 ev1 dX7_next_19 ?_
      refine j_goto (pc := 20) (tgt := 24) C dX7_next_20 rfl ?_
      exact j_ireturn C rfl rfl rfl rfl dX7_next_24)
def X7_second (st : PS) : Option Int := if wI (st 0 8) ≤ wI ((st 0 9) + 1) then some (-1) else (bI (zrd st 11 100 ((st 0 9) + 1)) (fun v1 => some v1))
set_option maxHeartbeats 4000000 in
set_option maxRecDepth 100000 in
theorem X7_second_m (l : Launch) {G : GD} (hj : zInj sM G) {st : PS} {r : Int} (hr : X7_second st = some r) : zM l sM G yX7_second cX7_second 1 (some .int) 0 [.ref (G.2.2.1 0)] st (some (.int (oI r))) st :=
  zEnter (f := fR st) hr hj (by decide) rfl (lv := [(0, .ref (G.2.2.1 0))]) rfl (Nat.le_of_ble_eq_true rfl) (fun X _ hN C => by
    unfold X7_second
    refine j_aload_n (pc := 0) C dX7_second_0 rfl 0 rfl ?_
    refine gf_X7_38 (pc := 1) C dX7_second_1 ?_
    refine j_iconst (pc := 4) C dX7_second_4 ?_
    refine j_iadd (pc := 5) C dX7_second_5 ?_
    refine j_aload_n (pc := 6) C dX7_second_6 rfl 0 rfl ?_
    refine gf_X7_35 (pc := 7) C dX7_second_7 ?_
    refine j_icmp_ge (pc := 10) (tgt := 27) C dX7_second_10 rfl ?_ ?_
    · refine j_iconst (pc := 27) C dX7_second_27 ?_
      exact j_ireturn C rfl rfl rfl rfl dX7_second_28
    · refine j_aload_n (pc := 13) C dX7_second_13 rfl 0 rfl ?_
      refine gf_X7_44 (pc := 14) C dX7_second_14 ?_
      refine j_aload_n (pc := 17) C dX7_second_17 rfl 0 rfl ?_
      refine gf_X7_38 (pc := 18) C dX7_second_18 ?_
      refine j_iconst (pc := 21) C dX7_second_21 ?_
      refine j_iadd (pc := 22) C dX7_second_22 ?_
      refine j_bI (fun v1 ev1 => ?_)
      refine j_iald (pc := 23) C arX7_11 ev1 dX7_second_23 ?_
      refine j_goto (pc := 24) (tgt := 28) C dX7_second_24 rfl ?_
      exact j_ireturn C rfl rfl rfl rfl dX7_second_28)
def X7_takes (st : PS) (l1 : Int) : Option (Int × PS) := bI (X7_next st) (fun v1 => if wI v1 = wI l1 then zlet (zu st 0 9 ((st 0 9) + 1)) (fun s1 => some (1, s1)) else (some (0, st)))
set_option maxHeartbeats 4000000 in
set_option maxRecDepth 100000 in
theorem X7_takes_m (l : Launch) {G : GD} (hj : zInj sM G) {st : PS} {l1 : Int} {r : (Int × PS)} (hr : X7_takes st l1 = some r) : zM l sM G yX7_takes cX7_takes 2 (some .boolean) 1 [.ref (G.2.2.1 0), .int (oI l1)] st (some (.int (oI r.1))) r.2 :=
  zEnter (f := fI) hr hj (by decide) rfl (lv := [(0, .ref (G.2.2.1 0)), (1, .int (oI l1))]) rfl (Nat.le_of_ble_eq_true rfl) (fun X _ hN C => by
    unfold X7_takes
    refine j_aload_n (pc := 0) C dX7_takes_0 rfl 0 rfl ?_
    refine j_bI (fun v1 ev1 => ?_)
    refine j_callV1 (pc := 1) C obX7 rfl rfl (X7_next_m _ hj ev1) kV_X7_209 rfl (by omega) rfl (Nat.le_of_ble_eq_true rfl) dX7_takes_1 ?_
    refine j_iload_n (pc := 4) C dX7_takes_4 rfl 1 rfl ?_
    refine j_icmp_eq (pc := 5) (tgt := 10) C dX7_takes_5 rfl ?_ ?_
    · refine j_aload_n (pc := 10) C dX7_takes_10 rfl 0 rfl ?_
      refine j_dup (pc := 11) C dX7_takes_11 rfl ?_
      refine gf_X7_38 (pc := 12) C dX7_takes_12 ?_
      refine j_iconst (pc := 15) C dX7_takes_15 ?_
      refine j_iadd (pc := 16) C dX7_takes_16 ?_
      refine fp_X7_38 (pc := 17) C dX7_takes_17 ?_
      refine j_let (fun s1 => ?_)
      refine j_iconst (pc := 20) C dX7_takes_20 ?_
      exact j_ireturn C rfl rfl (znar (Or.inr rfl)) rfl dX7_takes_21
    · refine j_iconst (pc := 8) C dX7_takes_8 ?_
      exact j_ireturn C rfl rfl (znar (Or.inl rfl)) rfl dX7_takes_9)
def X7_takesAlone_L2 (l1 : Int) (l2 : Int) : Nat → PS → Int → Option (Int × PS)
  | 0, _, _ => none
  | k + 1, st, l3 => if wI l2 ≤ wI l3 then some (1, st) else (bI (zrd st 22 13 (l1 + l3)) (fun v1 => bP (X7_takes st v1) (fun v2 s1 => if wI v2 = 0 then some (0, s1) else (X7_takesAlone_L2 l1 l2 k s1 (l3 + 1)))))
def X7_takesAlone (st : PS) (l1 l2 : Int) : Option (Int × PS) := X7_takesAlone_L2 l1 l2 FU st 0
set_option maxHeartbeats 4000000 in
set_option maxRecDepth 100000 in
theorem X7_takesAlone_L2_j {X : JX} {G : GD} (C : zC X sM G RX7 cX7_takesAlone (some .boolean) 2) (hN : X.2.2.2.2.2.2.2.2.2.2.2.2 = 4) (hj : zInj sM G) {l1 : Int} {l2 : Int} : ∀ (k : Nat) (st : PS) (l3 : Int), J X (zI sM G) (zQ sM G fI) st [(0, .ref (G.2.2.1 0)), (1, .int (oI l1)), (2, .int (oI l2)), (3, .int (oI l3))] 2 [] (X7_takesAlone_L2 l1 l2 k st l3) := by
  intro k
  induction k with
  | zero => intro st l3; exact j_none
  | succ k ih =>
    intro st l3
    rw [X7_takesAlone_L2]
    refine j_iload_n (pc := 2) C dX7_takesAlone_2 rfl 3 rfl ?_
    refine j_iload_n (pc := 3) C dX7_takesAlone_3 rfl 2 rfl ?_
    refine j_icmp_ge (pc := 4) (tgt := 30) C dX7_takesAlone_4 rfl ?_ ?_
    · refine j_iconst (pc := 30) C dX7_takesAlone_30 ?_
      exact j_ireturn C rfl rfl (znar (Or.inr rfl)) rfl dX7_takesAlone_31
    · refine j_aload_n (pc := 7) C dX7_takesAlone_7 rfl 0 rfl ?_
      refine j_aload_n (pc := 8) C dX7_takesAlone_8 rfl 0 rfl ?_
      refine gf_X7_77 (pc := 9) C dX7_takesAlone_9 ?_
      refine j_iload_n (pc := 12) C dX7_takesAlone_12 rfl 1 rfl ?_
      refine j_iload_n (pc := 13) C dX7_takesAlone_13 rfl 3 rfl ?_
      refine j_iadd (pc := 14) C dX7_takesAlone_14 ?_
      refine j_bI (fun v1 ev1 => ?_)
      refine j_iald (pc := 15) C arX7_22 ev1 dX7_takesAlone_15 ?_
      refine j_bP (fun v2 s1 es1 => ?_)
      refine j_callV1 (pc := 16) C obX7 rfl rfl (X7_takes_m _ hj es1) kV_X7_213 rfl (by omega) rfl (Nat.le_of_ble_eq_true rfl) dX7_takesAlone_16 ?_
      refine j_if_ne (pc := 19) (tgt := 24) C dX7_takesAlone_19 rfl ?_ ?_
      · refine j_iconst (pc := 22) C dX7_takesAlone_22 ?_
        exact j_ireturn C rfl rfl (znar (Or.inl rfl)) rfl dX7_takesAlone_23
      · refine j_iinc (pc := 24) C hN dX7_takesAlone_24 3 rfl (by decide) (lv' := [(3, .int (oI (l3 + 1))), (0, .ref (G.2.2.1 0)), (1, .int (oI l1)), (2, .int (oI l2))]) rfl ?_
        refine j_goto (pc := 27) (tgt := 2) C dX7_takesAlone_27 rfl ?_
        exact j_sub [1, 2, 3, 0] rfl (ih _ _)
set_option maxHeartbeats 4000000 in
set_option maxRecDepth 100000 in
theorem X7_takesAlone_m (l : Launch) {G : GD} (hj : zInj sM G) {st : PS} {l1 l2 : Int} {r : (Int × PS)} (hr : X7_takesAlone st l1 l2 = some r) : zM l sM G yX7_takesAlone cX7_takesAlone 4 (some .boolean) 2 [.ref (G.2.2.1 0), .int (oI l1), .int (oI l2)] st (some (.int (oI r.1))) r.2 :=
  zEnter (f := fI) hr hj (by decide) rfl (lv := [(0, .ref (G.2.2.1 0)), (1, .int (oI l1)), (2, .int (oI l2))]) rfl (Nat.le_of_ble_eq_true rfl) (fun X _ hN C => by
    unfold X7_takesAlone
    refine j_iconst (pc := 0) C dX7_takesAlone_0 ?_
    refine j_istore_n (pc := 1) C hN dX7_takesAlone_1 rfl (by decide) (lv' := [(3, .int (oI 0)), (0, .ref (G.2.2.1 0)), (1, .int (oI l1)), (2, .int (oI l2))]) rfl ?_
    exact j_sub [1, 2, 3, 0] rfl (X7_takesAlone_L2_j C hN hj FU _ _))
def X7_takesWord (st : PS) (l1 l2 : Int) : Option (Int × PS) := bP (X7_takesAlone st l1 l2) (fun v1 s1 => if wI v1 = 0 then some (0, s1) else (bP (X7_takes s1 32) (fun v2 s2 => if wI v2 = 0 then some (0, s2) else (some (1, s2)))))
set_option maxHeartbeats 4000000 in
set_option maxRecDepth 100000 in
theorem X7_takesWord_m (l : Launch) {G : GD} (hj : zInj sM G) {st : PS} {l1 l2 : Int} {r : (Int × PS)} (hr : X7_takesWord st l1 l2 = some r) : zM l sM G yX7_takesWord cX7_takesWord 3 (some .boolean) 3 [.ref (G.2.2.1 0), .int (oI l1), .int (oI l2)] st (some (.int (oI r.1))) r.2 :=
  zEnter (f := fI) hr hj (by decide) rfl (lv := [(0, .ref (G.2.2.1 0)), (1, .int (oI l1)), (2, .int (oI l2))]) rfl (Nat.le_of_ble_eq_true rfl) (fun X _ hN C => by
    unfold X7_takesWord
    refine j_aload_n (pc := 0) C dX7_takesWord_0 rfl 0 rfl ?_
    refine j_iload_n (pc := 1) C dX7_takesWord_1 rfl 1 rfl ?_
    refine j_iload_n (pc := 2) C dX7_takesWord_2 rfl 2 rfl ?_
    refine j_bP (fun v1 s1 es1 => ?_)
    refine j_callV1 (pc := 3) C obX7 rfl rfl (X7_takesAlone_m _ hj es1) kV_X7_216 rfl (by omega) rfl (Nat.le_of_ble_eq_true rfl) dX7_takesWord_3 ?_
    refine j_if_eq (pc := 6) (tgt := 22) C dX7_takesWord_6 rfl ?_ ?_
    · refine j_iconst (pc := 22) C dX7_takesWord_22 ?_
      exact j_ireturn C rfl rfl (znar (Or.inl rfl)) rfl dX7_takesWord_23
    · refine j_aload_n (pc := 9) C dX7_takesWord_9 rfl 0 rfl ?_
      refine j_bipush (pc := 10) C dX7_takesWord_10 (by decide) ?_
      refine j_bP (fun v2 s2 es2 => ?_)
      refine j_callV1 (pc := 12) C obX7 rfl rfl (X7_takes_m _ hj es2) kV_X7_213 rfl (by omega) rfl (Nat.le_of_ble_eq_true rfl) dX7_takesWord_12 ?_
      refine j_if_eq (pc := 15) (tgt := 22) C dX7_takesWord_15 rfl ?_ ?_
      · refine j_iconst (pc := 22) C dX7_takesWord_22 ?_
        exact j_ireturn C rfl rfl (znar (Or.inl rfl)) rfl dX7_takesWord_23
      · refine j_iconst (pc := 18) C dX7_takesWord_18 ?_
        refine j_goto (pc := 19) (tgt := 23) C dX7_takesWord_19 rfl ?_
        exact j_ireturn C rfl rfl (znar (Or.inr rfl)) rfl dX7_takesWord_23)
def X7_isDigit (st : PS) : Option Int := bI (X7_next st) (fun v1 => some (X7_in st v1 48 57))
set_option maxHeartbeats 4000000 in
set_option maxRecDepth 100000 in
theorem X7_isDigit_m (l : Launch) {G : GD} (hj : zInj sM G) {st : PS} {r : Int} (hr : X7_isDigit st = some r) : zM l sM G yX7_isDigit cX7_isDigit 1 (some .boolean) 1 [.ref (G.2.2.1 0)] st (some (.int (oI r))) st :=
  zEnter (f := fR st) hr hj (by decide) rfl (lv := [(0, .ref (G.2.2.1 0))]) rfl (Nat.le_of_ble_eq_true rfl) (fun X _ hN C => by
    unfold X7_isDigit
    refine j_aload_n (pc := 0) C dX7_isDigit_0 rfl 0 rfl ?_
    refine j_aload_n (pc := 1) C dX7_isDigit_1 rfl 0 rfl ?_
    refine j_bI (fun v1 ev1 => ?_)
    refine j_callV1 (pc := 2) C obX7 rfl rfl (X7_next_m _ hj ev1) kV_X7_209 rfl (by omega) rfl (Nat.le_of_ble_eq_true rfl) dX7_isDigit_2 ?_
    refine j_bipush (pc := 5) C dX7_isDigit_5 (by decide) ?_
    refine j_bipush (pc := 7) C dX7_isDigit_7 (by decide) ?_
    refine j_callV1 (pc := 9) C obX7 rfl rfl (X7_in_m _ hj rfl) kV_X7_197 rfl (by omega) rfl (Nat.le_of_ble_eq_true rfl) dX7_isDigit_9 ?_
    exact j_ireturn C rfl rfl (znar (X7_in_bit)) rfl dX7_isDigit_12)
def X7_takesNumber_L16  : Nat → PS → Int → Option (Int × PS)
  | 0, _, _ => none
  | k + 1, st, l1 => if wI 2 ≤ wI l1 then some (1, st) else (bI (X7_isDigit st) (fun v2 => if wI v2 = 0 then some (1, st) else (bI (X7_next st) (fun v3 => zlet (zu st 0 10 (((10 * (st 0 10)) + v3) - 48)) (fun s2 => zlet (zu s2 0 9 ((s2 0 9) + 1)) (fun s3 => X7_takesNumber_L16 k s3 (l1 + 1)))))))
def X7_takesNumber (st : PS) : Option (Int × PS) := bI (X7_isDigit st) (fun v1 => if wI v1 = 0 then some (0, st) else (zlet (zu st 0 10 0) (fun s1 => X7_takesNumber_L16 FU s1 0)))
set_option maxHeartbeats 4000000 in
set_option maxRecDepth 100000 in
theorem X7_takesNumber_L16_j {X : JX} {G : GD} (C : zC X sM G RX7 cX7_takesNumber (some .boolean) 2) (hN : X.2.2.2.2.2.2.2.2.2.2.2.2 = 2) (hj : zInj sM G)  : ∀ (k : Nat) (st : PS) (l1 : Int), J X (zI sM G) (zQ sM G fI) st [(0, .ref (G.2.2.1 0)), (1, .int (oI l1))] 16 [] (X7_takesNumber_L16 k st l1) := by
  intro k
  induction k with
  | zero => intro st l1; exact j_none
  | succ k ih =>
    intro st l1
    rw [X7_takesNumber_L16]
    refine j_iload_n (pc := 16) C dX7_takesNumber_16 rfl 1 rfl ?_
    refine j_iconst (pc := 17) C dX7_takesNumber_17 ?_
    refine j_icmp_ge (pc := 18) (tgt := 63) C dX7_takesNumber_18 rfl ?_ ?_
    · refine j_iconst (pc := 63) C dX7_takesNumber_63 ?_
      exact j_ireturn C rfl rfl (znar (Or.inr rfl)) rfl dX7_takesNumber_64
    · refine j_aload_n (pc := 21) C dX7_takesNumber_21 rfl 0 rfl ?_
      refine j_bI (fun v2 ev2 => ?_)
      refine j_callV1 (pc := 22) C obX7 rfl rfl (X7_isDigit_m _ hj ev2) kV_X7_220 rfl (by omega) rfl (Nat.le_of_ble_eq_true rfl) dX7_takesNumber_22 ?_
      refine j_if_eq (pc := 25) (tgt := 63) C dX7_takesNumber_25 rfl ?_ ?_
      · refine j_iconst (pc := 63) C dX7_takesNumber_63 ?_
        exact j_ireturn C rfl rfl (znar (Or.inr rfl)) rfl dX7_takesNumber_64
      · refine j_aload_n (pc := 28) C dX7_takesNumber_28 rfl 0 rfl ?_
        refine j_bipush (pc := 29) C dX7_takesNumber_29 (by decide) ?_
        refine j_aload_n (pc := 31) C dX7_takesNumber_31 rfl 0 rfl ?_
        refine gf_X7_41 (pc := 32) C dX7_takesNumber_32 ?_
        refine j_imul (pc := 35) C dX7_takesNumber_35 ?_
        refine j_aload_n (pc := 36) C dX7_takesNumber_36 rfl 0 rfl ?_
        refine j_bI (fun v3 ev3 => ?_)
        refine j_callV1 (pc := 37) C obX7 rfl rfl (X7_next_m _ hj ev3) kV_X7_209 rfl (by omega) rfl (Nat.le_of_ble_eq_true rfl) dX7_takesNumber_37 ?_
        refine j_iadd (pc := 40) C dX7_takesNumber_40 ?_
        refine j_bipush (pc := 41) C dX7_takesNumber_41 (by decide) ?_
        refine j_isub (pc := 43) C dX7_takesNumber_43 ?_
        refine fp_X7_41 (pc := 44) C dX7_takesNumber_44 ?_
        refine j_let (fun s2 => ?_)
        refine j_aload_n (pc := 47) C dX7_takesNumber_47 rfl 0 rfl ?_
        refine j_dup (pc := 48) C dX7_takesNumber_48 rfl ?_
        refine gf_X7_38 (pc := 49) C dX7_takesNumber_49 ?_
        refine j_iconst (pc := 52) C dX7_takesNumber_52 ?_
        refine j_iadd (pc := 53) C dX7_takesNumber_53 ?_
        refine fp_X7_38 (pc := 54) C dX7_takesNumber_54 ?_
        refine j_let (fun s3 => ?_)
        refine j_iinc (pc := 57) C hN dX7_takesNumber_57 1 rfl (by decide) (lv' := [(1, .int (oI (l1 + 1))), (0, .ref (G.2.2.1 0))]) rfl ?_
        refine j_goto (pc := 60) (tgt := 16) C dX7_takesNumber_60 rfl ?_
        exact j_sub [1, 0] rfl (ih _ _)
set_option maxHeartbeats 4000000 in
set_option maxRecDepth 100000 in
theorem X7_takesNumber_m (l : Launch) {G : GD} (hj : zInj sM G) {st : PS} {r : (Int × PS)} (hr : X7_takesNumber st = some r) : zM l sM G yX7_takesNumber cX7_takesNumber 2 (some .boolean) 2 [.ref (G.2.2.1 0)] st (some (.int (oI r.1))) r.2 :=
  zEnter (f := fI) hr hj (by decide) rfl (lv := [(0, .ref (G.2.2.1 0))]) rfl (Nat.le_of_ble_eq_true rfl) (fun X _ hN C => by
    unfold X7_takesNumber
    refine j_aload_n (pc := 0) C dX7_takesNumber_0 rfl 0 rfl ?_
    refine j_bI (fun v1 ev1 => ?_)
    refine j_callV1 (pc := 1) C obX7 rfl rfl (X7_isDigit_m _ hj ev1) kV_X7_220 rfl (by omega) rfl (Nat.le_of_ble_eq_true rfl) dX7_takesNumber_1 ?_
    refine j_if_ne (pc := 4) (tgt := 9) C dX7_takesNumber_4 rfl ?_ ?_
    · refine j_iconst (pc := 7) C dX7_takesNumber_7 ?_
      exact j_ireturn C rfl rfl (znar (Or.inl rfl)) rfl dX7_takesNumber_8
    · refine j_aload_n (pc := 9) C dX7_takesNumber_9 rfl 0 rfl ?_
      refine j_iconst (pc := 10) C dX7_takesNumber_10 ?_
      refine fp_X7_41 (pc := 11) C dX7_takesNumber_11 ?_
      refine j_let (fun s1 => ?_)
      refine j_iconst (pc := 14) C dX7_takesNumber_14 ?_
      refine j_istore_n (pc := 15) C hN dX7_takesNumber_15 rfl (by decide) (lv' := [(1, .int (oI 0)), (0, .ref (G.2.2.1 0))]) rfl ?_
      exact j_sub [1, 0] rfl (X7_takesNumber_L16_j C hN hj FU _ _))
def X7_emits (st : PS) (l1 : Int) : Option PS := bI (zwr st 17 600 (st 0 19) l1) (fun s1 => zlet (zu s1 0 19 ((s1 0 19) + 1)) (fun s2 => some s2))
set_option maxHeartbeats 4000000 in
set_option maxRecDepth 100000 in
theorem X7_emits_m (l : Launch) {G : GD} (hj : zInj sM G) {st : PS} {l1 : Int} {r : PS} (hr : X7_emits st l1 = some r) : zM l sM G yX7_emits cX7_emits 2 none 0 [.ref (G.2.2.1 0), .int (oI l1)] st none r :=
  zEnter (f := fV) hr hj (by decide) rfl (lv := [(0, .ref (G.2.2.1 0)), (1, .int (oI l1))]) rfl (Nat.le_of_ble_eq_true rfl) (fun X _ hN C => by
    unfold X7_emits
    refine j_aload_n (pc := 0) C dX7_emits_0 rfl 0 rfl ?_
    refine gf_X7_62 (pc := 1) C dX7_emits_1 ?_
    refine j_aload_n (pc := 4) C dX7_emits_4 rfl 0 rfl ?_
    refine gf_X7_68 (pc := 5) C dX7_emits_5 ?_
    refine j_iload_n (pc := 8) C dX7_emits_8 rfl 1 rfl ?_
    refine j_bI (fun s1 es1 => ?_)
    refine j_iast (pc := 9) C arX7_17 es1 dX7_emits_9 ?_
    refine j_aload_n (pc := 10) C dX7_emits_10 rfl 0 rfl ?_
    refine j_dup (pc := 11) C dX7_emits_11 rfl ?_
    refine gf_X7_68 (pc := 12) C dX7_emits_12 ?_
    refine j_iconst (pc := 15) C dX7_emits_15 ?_
    refine j_iadd (pc := 16) C dX7_emits_16 ?_
    refine fp_X7_68 (pc := 17) C dX7_emits_17 ?_
    refine j_let (fun s2 => ?_)
    exact j_return C rfl rfl dX7_emits_20)
def X7_whole_L0  : Nat → PS → Option PS
  | 0, _ => none
  | k + 1, st => if wI (st 0 20) ≤ 0 then some st else (bI (zrd st 18 101 ((st 0 20) - 1)) (fun v1 => if wI v1 = wI 33 then bI (X7_emits st (-33)) (fun s1 => zlet (zu s1 0 20 ((s1 0 20) - 1)) (fun s2 => zlet (zu s2 0 21 ((s2 0 21) - 1)) (fun s3 => X7_whole_L0 k s3))) else (some st)))
def X7_whole (st : PS) : Option PS := X7_whole_L0 FU st
set_option maxHeartbeats 4000000 in
set_option maxRecDepth 100000 in
theorem X7_whole_L0_j {X : JX} {G : GD} (C : zC X sM G RX7 cX7_whole none 1) (hN : X.2.2.2.2.2.2.2.2.2.2.2.2 = 1) (hj : zInj sM G)  : ∀ (k : Nat) (st : PS), J X (zI sM G) (zQ sM G fV) st [(0, .ref (G.2.2.1 0))] 0 [] (X7_whole_L0 k st) := by
  intro k
  induction k with
  | zero => intro st; exact j_none
  | succ k ih =>
    intro st
    rw [X7_whole_L0]
    refine j_aload_n (pc := 0) C dX7_whole_0 rfl 0 rfl ?_
    refine gf_X7_71 (pc := 1) C dX7_whole_1 ?_
    refine j_if_le (pc := 4) (tgt := 52) C dX7_whole_4 rfl ?_ ?_
    · exact j_return C rfl rfl dX7_whole_52
    · refine j_aload_n (pc := 7) C dX7_whole_7 rfl 0 rfl ?_
      refine gf_X7_65 (pc := 8) C dX7_whole_8 ?_
      refine j_aload_n (pc := 11) C dX7_whole_11 rfl 0 rfl ?_
      refine gf_X7_71 (pc := 12) C dX7_whole_12 ?_
      refine j_iconst (pc := 15) C dX7_whole_15 ?_
      refine j_isub (pc := 16) C dX7_whole_16 ?_
      refine j_bI (fun v1 ev1 => ?_)
      refine j_iald (pc := 17) C arX7_18 ev1 dX7_whole_17 ?_
      refine j_bipush (pc := 18) C dX7_whole_18 (by decide) ?_
      refine j_icmp_ne (pc := 20) (tgt := 52) C dX7_whole_20 rfl ?_ ?_
      · refine j_aload_n (pc := 23) C dX7_whole_23 rfl 0 rfl ?_
        refine j_bipush (pc := 24) C dX7_whole_24 (by decide) ?_
        refine j_bI (fun s1 es1 => ?_)
        refine j_callV0 (pc := 26) C obX7 rfl rfl (X7_emits_m _ hj es1) kV_X7_224 rfl (by omega) rfl (Nat.le_of_ble_eq_true rfl) dX7_whole_26 ?_
        refine j_aload_n (pc := 29) C dX7_whole_29 rfl 0 rfl ?_
        refine j_dup (pc := 30) C dX7_whole_30 rfl ?_
        refine gf_X7_71 (pc := 31) C dX7_whole_31 ?_
        refine j_iconst (pc := 34) C dX7_whole_34 ?_
        refine j_isub (pc := 35) C dX7_whole_35 ?_
        refine fp_X7_71 (pc := 36) C dX7_whole_36 ?_
        refine j_let (fun s2 => ?_)
        refine j_aload_n (pc := 39) C dX7_whole_39 rfl 0 rfl ?_
        refine j_dup (pc := 40) C dX7_whole_40 rfl ?_
        refine gf_X7_74 (pc := 41) C dX7_whole_41 ?_
        refine j_iconst (pc := 44) C dX7_whole_44 ?_
        refine j_isub (pc := 45) C dX7_whole_45 ?_
        refine fp_X7_74 (pc := 46) C dX7_whole_46 ?_
        refine j_let (fun s3 => ?_)
        refine j_goto (pc := 49) (tgt := 0) C dX7_whole_49 rfl ?_
        exact j_sub [0] rfl (ih _)
      · exact j_return C rfl rfl dX7_whole_52
set_option maxHeartbeats 4000000 in
set_option maxRecDepth 100000 in
theorem X7_whole_m (l : Launch) {G : GD} (hj : zInj sM G) {st : PS} {r : PS} (hr : X7_whole st = some r) : zM l sM G yX7_whole cX7_whole 1 none 1 [.ref (G.2.2.1 0)] st none r :=
  zEnter (f := fV) hr hj (by decide) rfl (lv := [(0, .ref (G.2.2.1 0))]) rfl (Nat.le_of_ble_eq_true rfl) (fun X _ hN C => by
    unfold X7_whole
    exact j_sub [0] rfl (X7_whole_L0_j C hN hj FU _))
def X7_settle_L0 (l1 : Int) : Nat → PS → Option PS
  | 0, _ => none
  | k + 1, st => if wI (st 0 20) ≤ 0 then some st else (bI (zrd st 18 101 ((st 0 20) - 1)) (fun v1 => if wI v1 = wI 38 then zlet (zu st 0 20 ((st 0 20) - 1)) (fun s1 => bI (zrd s1 18 101 (s1 0 20)) (fun v2 => bI (X7_emits s1 (-v2)) (fun s2 => X7_settle_L0 l1 k s2))) else (bI (zrd st 18 101 ((st 0 20) - 1)) (fun v3 => if wI v3 = wI 124 then if wI l1 = wI 38 then some st else (zlet (zu st 0 20 ((st 0 20) - 1)) (fun s3 => bI (zrd s3 18 101 (s3 0 20)) (fun v4 => bI (X7_emits s3 (-v4)) (fun s4 => X7_settle_L0 l1 k s4)))) else (some st)))))
def X7_settle (st : PS) (l1 : Int) : Option PS := X7_settle_L0 l1 FU st
set_option maxHeartbeats 4000000 in
set_option maxRecDepth 100000 in
theorem X7_settle_L0_j {X : JX} {G : GD} (C : zC X sM G RX7 cX7_settle none 1) (hN : X.2.2.2.2.2.2.2.2.2.2.2.2 = 2) (hj : zInj sM G) {l1 : Int} : ∀ (k : Nat) (st : PS), J X (zI sM G) (zQ sM G fV) st [(0, .ref (G.2.2.1 0)), (1, .int (oI l1))] 0 [] (X7_settle_L0 l1 k st) := by
  intro k
  induction k with
  | zero => intro st; exact j_none
  | succ k ih =>
    intro st
    rw [X7_settle_L0]
    refine j_aload_n (pc := 0) C dX7_settle_0 rfl 0 rfl ?_
    refine gf_X7_71 (pc := 1) C dX7_settle_1 ?_
    refine j_if_le (pc := 4) (tgt := 72) C dX7_settle_4 rfl ?_ ?_
    · exact j_return C rfl rfl dX7_settle_72
    · refine j_aload_n (pc := 7) C dX7_settle_7 rfl 0 rfl ?_
      refine gf_X7_65 (pc := 8) C dX7_settle_8 ?_
      refine j_aload_n (pc := 11) C dX7_settle_11 rfl 0 rfl ?_
      refine gf_X7_71 (pc := 12) C dX7_settle_12 ?_
      refine j_iconst (pc := 15) C dX7_settle_15 ?_
      refine j_isub (pc := 16) C dX7_settle_16 ?_
      refine j_bI (fun v1 ev1 => ?_)
      refine j_iald (pc := 17) C arX7_18 ev1 dX7_settle_17 ?_
      refine j_bipush (pc := 18) C dX7_settle_18 (by decide) ?_
      refine j_icmp_eq (pc := 20) (tgt := 45) C dX7_settle_20 rfl ?_ ?_
      · refine j_aload_n (pc := 45) C dX7_settle_45 rfl 0 rfl ?_
        refine j_dup (pc := 46) C dX7_settle_46 rfl ?_
        refine gf_X7_71 (pc := 47) C dX7_settle_47 ?_
        refine j_iconst (pc := 50) C dX7_settle_50 ?_
        refine j_isub (pc := 51) C dX7_settle_51 ?_
        refine fp_X7_71 (pc := 52) C dX7_settle_52 ?_
        refine j_let (fun s1 => ?_)
        refine j_aload_n (pc := 55) C dX7_settle_55 rfl 0 rfl ?_
        refine j_aload_n (pc := 56) C dX7_settle_56 rfl 0 rfl ?_
        refine gf_X7_65 (pc := 57) C dX7_settle_57 ?_
        refine j_aload_n (pc := 60) C dX7_settle_60 rfl 0 rfl ?_
        refine gf_X7_71 (pc := 61) C dX7_settle_61 ?_
        refine j_bI (fun v2 ev2 => ?_)
        refine j_iald (pc := 64) C arX7_18 ev2 dX7_settle_64 ?_
        refine j_ineg (pc := 65) C dX7_settle_65 ?_
        refine j_bI (fun s2 es2 => ?_)
        refine j_callV0 (pc := 66) C obX7 rfl rfl (X7_emits_m _ hj es2) kV_X7_224 rfl (by omega) rfl (Nat.le_of_ble_eq_true rfl) dX7_settle_66 ?_
        refine j_goto (pc := 69) (tgt := 0) C dX7_settle_69 rfl ?_
        exact j_sub [0, 1] rfl (ih _)
      · refine j_aload_n (pc := 23) C dX7_settle_23 rfl 0 rfl ?_
        refine gf_X7_65 (pc := 24) C dX7_settle_24 ?_
        refine j_aload_n (pc := 27) C dX7_settle_27 rfl 0 rfl ?_
        refine gf_X7_71 (pc := 28) C dX7_settle_28 ?_
        refine j_iconst (pc := 31) C dX7_settle_31 ?_
        refine j_isub (pc := 32) C dX7_settle_32 ?_
        refine j_bI (fun v3 ev3 => ?_)
        refine j_iald (pc := 33) C arX7_18 ev3 dX7_settle_33 ?_
        refine j_bipush (pc := 34) C dX7_settle_34 (by decide) ?_
        refine j_icmp_ne (pc := 36) (tgt := 72) C dX7_settle_36 rfl ?_ ?_
        · refine j_iload_n (pc := 39) C dX7_settle_39 rfl 1 rfl ?_
          refine j_bipush (pc := 40) C dX7_settle_40 (by decide) ?_
          refine j_icmp_eq (pc := 42) (tgt := 72) C dX7_settle_42 rfl ?_ ?_
          · exact j_return C rfl rfl dX7_settle_72
          · refine j_aload_n (pc := 45) C dX7_settle_45 rfl 0 rfl ?_
            refine j_dup (pc := 46) C dX7_settle_46 rfl ?_
            refine gf_X7_71 (pc := 47) C dX7_settle_47 ?_
            refine j_iconst (pc := 50) C dX7_settle_50 ?_
            refine j_isub (pc := 51) C dX7_settle_51 ?_
            refine fp_X7_71 (pc := 52) C dX7_settle_52 ?_
            refine j_let (fun s3 => ?_)
            refine j_aload_n (pc := 55) C dX7_settle_55 rfl 0 rfl ?_
            refine j_aload_n (pc := 56) C dX7_settle_56 rfl 0 rfl ?_
            refine gf_X7_65 (pc := 57) C dX7_settle_57 ?_
            refine j_aload_n (pc := 60) C dX7_settle_60 rfl 0 rfl ?_
            refine gf_X7_71 (pc := 61) C dX7_settle_61 ?_
            refine j_bI (fun v4 ev4 => ?_)
            refine j_iald (pc := 64) C arX7_18 ev4 dX7_settle_64 ?_
            refine j_ineg (pc := 65) C dX7_settle_65 ?_
            refine j_bI (fun s4 es4 => ?_)
            refine j_callV0 (pc := 66) C obX7 rfl rfl (X7_emits_m _ hj es4) kV_X7_224 rfl (by omega) rfl (Nat.le_of_ble_eq_true rfl) dX7_settle_66 ?_
            refine j_goto (pc := 69) (tgt := 0) C dX7_settle_69 rfl ?_
            exact j_sub [0, 1] rfl (ih _)
        · exact j_return C rfl rfl dX7_settle_72
set_option maxHeartbeats 4000000 in
set_option maxRecDepth 100000 in
theorem X7_settle_m (l : Launch) {G : GD} (hj : zInj sM G) {st : PS} {l1 : Int} {r : PS} (hr : X7_settle st l1 = some r) : zM l sM G yX7_settle cX7_settle 2 none 1 [.ref (G.2.2.1 0), .int (oI l1)] st none r :=
  zEnter (f := fV) hr hj (by decide) rfl (lv := [(0, .ref (G.2.2.1 0)), (1, .int (oI l1))]) rfl (Nat.le_of_ble_eq_true rfl) (fun X _ hN C => by
    unfold X7_settle
    exact j_sub [0, 1] rfl (X7_settle_L0_j C hN hj FU _))
def X7_place (st : PS) (l1 : Int) : Int := if wI l1 = 98 then 4 else (if wI l1 = 101 then 3 else (if wI l1 = 104 then 0 else (if wI l1 = 107 then 1 else (if wI l1 = 118 then 2 else (if wI l1 = 121 then 5 else ((-1)))))))
set_option maxHeartbeats 4000000 in
set_option maxRecDepth 100000 in
theorem X7_place_m (l : Launch) {G : GD} (hj : zInj sM G) {st : PS} {l1 : Int} {r : Int} (hr : X7_place st l1 = r) : zM l sM G yX7_place cX7_place 2 (some .int) 0 [.ref (G.2.2.1 0), .int (oI l1)] st (some (.int (oI r))) st :=
  zEnter (f := fR st) (o := some (X7_place st l1)) (by rw [hr]) hj (by decide) rfl (lv := [(0, .ref (G.2.2.1 0)), (1, .int (oI l1))]) rfl (Nat.le_of_ble_eq_true rfl) (fun X _ hN C => by
    simp only [X7_place, zsome_ite]
    refine j_iload_n (pc := 0) C dX7_place_0 rfl 1 rfl ?_
    refine j_if (fun hc => ?_) (fun hn0 => ?_)
    · refine j_look (pc := 1) (tgt := 68) (off := 67) C dX7_place_1 (by decide) (by simp [Op.lookupswitch.offset, List.find?, hc]) rfl ?_
      refine j_iconst (pc := 68) C dX7_place_68 ?_
      exact j_ireturn C rfl rfl rfl rfl dX7_place_69
    · refine j_if (fun hc => ?_) (fun hn1 => ?_)
      · refine j_look (pc := 1) (tgt := 66) (off := 65) C dX7_place_1 (by decide) (by simp [Op.lookupswitch.offset, List.find?, hc]) rfl ?_
        refine j_iconst (pc := 66) C dX7_place_66 ?_
        exact j_ireturn C rfl rfl rfl rfl dX7_place_67
      · refine j_if (fun hc => ?_) (fun hn2 => ?_)
        · refine j_look (pc := 1) (tgt := 60) (off := 59) C dX7_place_1 (by decide) (by simp [Op.lookupswitch.offset, List.find?, hc]) rfl ?_
          refine j_iconst (pc := 60) C dX7_place_60 ?_
          exact j_ireturn C rfl rfl rfl rfl dX7_place_61
        · refine j_if (fun hc => ?_) (fun hn3 => ?_)
          · refine j_look (pc := 1) (tgt := 62) (off := 61) C dX7_place_1 (by decide) (by simp [Op.lookupswitch.offset, List.find?, hc]) rfl ?_
            refine j_iconst (pc := 62) C dX7_place_62 ?_
            exact j_ireturn C rfl rfl rfl rfl dX7_place_63
          · refine j_if (fun hc => ?_) (fun hn4 => ?_)
            · refine j_look (pc := 1) (tgt := 64) (off := 63) C dX7_place_1 (by decide) (by simp [Op.lookupswitch.offset, List.find?, hc]) rfl ?_
              refine j_iconst (pc := 64) C dX7_place_64 ?_
              exact j_ireturn C rfl rfl rfl rfl dX7_place_65
            · refine j_if (fun hc => ?_) (fun hn5 => ?_)
              · refine j_look (pc := 1) (tgt := 70) (off := 69) C dX7_place_1 (by decide) (by simp [Op.lookupswitch.offset, List.find?, hc]) rfl ?_
                refine j_iconst (pc := 70) C dX7_place_70 ?_
                exact j_ireturn C rfl rfl rfl rfl dX7_place_71
              · refine j_look (pc := 1) (tgt := 72) C dX7_place_1 (by decide) (off := 71) (by simp [Op.lookupswitch.offset, List.find?, show ¬ (98 : Int) = wI l1 from fun q => hn0 q.symm, show ¬ (101 : Int) = wI l1 from fun q => hn1 q.symm, show ¬ (104 : Int) = wI l1 from fun q => hn2 q.symm, show ¬ (107 : Int) = wI l1 from fun q => hn3 q.symm, show ¬ (118 : Int) = wI l1 from fun q => hn4 q.symm, show ¬ (121 : Int) = wI l1 from fun q => hn5 q.symm]) rfl ?_
                refine j_iconst (pc := 72) C dX7_place_72 ?_
                exact j_ireturn C rfl rfl rfl rfl dX7_place_73)
def X7_takesTest (st : PS) : Option (Int × PS) := bI (X7_next st) (fun v1 => if 0 ≤ wI (X7_place st v1) then zlet (zu st 0 9 ((st 0 9) + 1)) (fun s1 => bI (X7_next s1) (fun v2 => if wI (X7_in s1 v2 60 62) = 0 then some (0, s1) else (zlet (zu s1 0 9 ((s1 0 9) + 1)) (fun s2 => bP (X7_takesNumber s2) (fun v3 s3 => if wI v3 = 0 then some (0, s3) else (bI (X7_emits s3 (((1000 * (X7_place st v1)) + (100 * (v2 - 60))) + (s3 0 10))) (fun s4 => bI (X7_whole s4) (fun s5 => some (1, s5))))))))) else (some (0, st)))
set_option maxHeartbeats 4000000 in
set_option maxRecDepth 100000 in
theorem X7_takesTest_m (l : Launch) {G : GD} (hj : zInj sM G) {st : PS} {r : (Int × PS)} (hr : X7_takesTest st = some r) : zM l sM G yX7_takesTest cX7_takesTest 3 (some .boolean) 3 [.ref (G.2.2.1 0)] st (some (.int (oI r.1))) r.2 :=
  zEnter (f := fI) hr hj (by decide) rfl (lv := [(0, .ref (G.2.2.1 0))]) rfl (Nat.le_of_ble_eq_true rfl) (fun X _ hN C => by
    unfold X7_takesTest
    refine j_aload_n (pc := 0) C dX7_takesTest_0 rfl 0 rfl ?_
    refine j_aload_n (pc := 1) C dX7_takesTest_1 rfl 0 rfl ?_
    refine j_bI (fun v1 ev1 => ?_)
    refine j_callV1 (pc := 2) C obX7 rfl rfl (X7_next_m _ hj ev1) kV_X7_209 rfl (by omega) rfl (Nat.le_of_ble_eq_true rfl) dX7_takesTest_2 ?_
    refine j_callV1 (pc := 5) C obX7 rfl rfl (X7_place_m _ hj rfl) kV_X7_228 rfl (by omega) rfl (Nat.le_of_ble_eq_true rfl) dX7_takesTest_5 ?_
    refine j_istore_n (pc := 8) C hN dX7_takesTest_8 rfl (by decide) (lv' := [(1, .int (oI (X7_place st v1))), (0, .ref (G.2.2.1 0))]) rfl ?_
    refine j_iload_n (pc := 9) C dX7_takesTest_9 rfl 0 rfl ?_
    refine j_if_ge (pc := 10) (tgt := 15) C dX7_takesTest_10 rfl ?_ ?_
    · refine j_aload_n (pc := 15) C dX7_takesTest_15 rfl 1 rfl ?_
      refine j_dup (pc := 16) C dX7_takesTest_16 rfl ?_
      refine gf_X7_38 (pc := 17) C dX7_takesTest_17 ?_
      refine j_iconst (pc := 20) C dX7_takesTest_20 ?_
      refine j_iadd (pc := 21) C dX7_takesTest_21 ?_
      refine fp_X7_38 (pc := 22) C dX7_takesTest_22 ?_
      refine j_let (fun s1 => ?_)
      refine j_aload_n (pc := 25) C dX7_takesTest_25 rfl 1 rfl ?_
      refine j_bI (fun v2 ev2 => ?_)
      refine j_callV1 (pc := 26) C obX7 rfl rfl (X7_next_m _ hj ev2) kV_X7_209 rfl (by omega) rfl (Nat.le_of_ble_eq_true rfl) dX7_takesTest_26 ?_
      refine j_istore_n (pc := 29) C hN dX7_takesTest_29 rfl (by decide) (lv' := [(2, .int (oI v2)), (1, .int (oI (X7_place st v1))), (0, .ref (G.2.2.1 0))]) rfl ?_
      refine j_aload_n (pc := 30) C dX7_takesTest_30 rfl 2 rfl ?_
      refine j_iload_n (pc := 31) C dX7_takesTest_31 rfl 0 rfl ?_
      refine j_bipush (pc := 32) C dX7_takesTest_32 (by decide) ?_
      refine j_bipush (pc := 34) C dX7_takesTest_34 (by decide) ?_
      refine j_callV1 (pc := 36) C obX7 rfl rfl (X7_in_m _ hj rfl) kV_X7_197 rfl (by omega) rfl (Nat.le_of_ble_eq_true rfl) dX7_takesTest_36 ?_
      refine j_if_ne (pc := 39) (tgt := 44) C dX7_takesTest_39 rfl ?_ ?_
      · refine j_iconst (pc := 42) C dX7_takesTest_42 ?_
        exact j_ireturn C rfl rfl (znar (Or.inl rfl)) rfl dX7_takesTest_43
      · refine j_aload_n (pc := 44) C dX7_takesTest_44 rfl 2 rfl ?_
        refine j_dup (pc := 45) C dX7_takesTest_45 rfl ?_
        refine gf_X7_38 (pc := 46) C dX7_takesTest_46 ?_
        refine j_iconst (pc := 49) C dX7_takesTest_49 ?_
        refine j_iadd (pc := 50) C dX7_takesTest_50 ?_
        refine fp_X7_38 (pc := 51) C dX7_takesTest_51 ?_
        refine j_let (fun s2 => ?_)
        refine j_aload_n (pc := 54) C dX7_takesTest_54 rfl 2 rfl ?_
        refine j_bP (fun v3 s3 es3 => ?_)
        refine j_callV1 (pc := 55) C obX7 rfl rfl (X7_takesNumber_m _ hj es3) kV_X7_232 rfl (by omega) rfl (Nat.le_of_ble_eq_true rfl) dX7_takesTest_55 ?_
        refine j_if_ne (pc := 58) (tgt := 63) C dX7_takesTest_58 rfl ?_ ?_
        · refine j_iconst (pc := 61) C dX7_takesTest_61 ?_
          exact j_ireturn C rfl rfl (znar (Or.inl rfl)) rfl dX7_takesTest_62
        · refine j_aload_n (pc := 63) C dX7_takesTest_63 rfl 2 rfl ?_
          refine j_sipush (pc := 64) C dX7_takesTest_64 (by decide) ?_
          refine j_iload_n (pc := 67) C dX7_takesTest_67 rfl 1 rfl ?_
          refine j_imul (pc := 68) C dX7_takesTest_68 ?_
          refine j_bipush (pc := 69) C dX7_takesTest_69 (by decide) ?_
          refine j_iload_n (pc := 71) C dX7_takesTest_71 rfl 0 rfl ?_
          refine j_bipush (pc := 72) C dX7_takesTest_72 (by decide) ?_
          refine j_isub (pc := 74) C dX7_takesTest_74 ?_
          refine j_imul (pc := 75) C dX7_takesTest_75 ?_
          refine j_iadd (pc := 76) C dX7_takesTest_76 ?_
          refine j_aload_n (pc := 77) C dX7_takesTest_77 rfl 2 rfl ?_
          refine gf_X7_41 (pc := 78) C dX7_takesTest_78 ?_
          refine j_iadd (pc := 81) C dX7_takesTest_81 ?_
          refine j_bI (fun s4 es4 => ?_)
          refine j_callV0 (pc := 82) C obX7 rfl rfl (X7_emits_m _ hj es4) kV_X7_224 rfl (by omega) rfl (Nat.le_of_ble_eq_true rfl) dX7_takesTest_82 ?_
          refine j_aload_n (pc := 85) C dX7_takesTest_85 rfl 2 rfl ?_
          refine j_bI (fun s5 es5 => ?_)
          refine j_callV0 (pc := 86) C obX7 rfl rfl (X7_whole_m _ hj es5) kV_X7_235 rfl (by omega) rfl (Nat.le_of_ble_eq_true rfl) dX7_takesTest_86 ?_
          refine j_iconst (pc := 89) C dX7_takesTest_89 ?_
          exact j_ireturn C rfl rfl (znar (Or.inr rfl)) rfl dX7_takesTest_90
    · refine j_iconst (pc := 13) C dX7_takesTest_13 ?_
      exact j_ireturn C rfl rfl (znar (Or.inl rfl)) rfl dX7_takesTest_14)
def X7_takesE_L22 (l1 : Int) : Nat → PS → Int → Option (Int × PS)
  | 0, _, _ => none
  | k + 1, st, l2 => bI (X7_next st) (fun v1 => if wI l2 = 0 then if wI v1 = wI 38 then bI (X7_settle st v1) (fun s4 => bI (zwr s4 18 101 (s4 0 20) v1) (fun s5 => zlet (zu s5 0 20 ((s5 0 20) + 1)) (fun s6 => zlet (zu s6 0 9 ((s6 0 9) + 1)) (fun s7 => X7_takesE_L22 l1 k s7 1)))) else (if wI v1 = wI 124 then bI (X7_settle st v1) (fun s8 => bI (zwr s8 18 101 (s8 0 20) v1) (fun s9 => zlet (zu s9 0 20 ((s9 0 20) + 1)) (fun s10 => zlet (zu s10 0 9 ((s10 0 9) + 1)) (fun s11 => X7_takesE_L22 l1 k s11 1)))) else (bI (X7_settle st 124) (fun s12 => bI (zwr s12 16 60 l1 (s12 0 19)) (fun s13 => if wI (s13 0 20) = 0 then some (1, s13) else (if wI v1 = wI 41 then zlet (zu s13 0 20 ((s13 0 20) - 1)) (fun s14 => zlet (zu s14 0 21 ((s14 0 21) - 1)) (fun s15 => zlet (zu s15 0 9 ((s15 0 9) + 1)) (fun s16 => bI (X7_whole s16) (fun s17 => X7_takesE_L22 l1 k s17 l2)))) else (some (0, s13))))))) else (if wI v1 = wI 33 then if wI (st 0 21) = wI 4 then some (0, st) else (zlet (zu st 0 21 ((st 0 21) + 1)) (fun s18 => bI (zwr s18 18 101 (s18 0 20) v1) (fun s19 => zlet (zu s19 0 20 ((s19 0 20) + 1)) (fun s20 => zlet (zu s20 0 9 ((s20 0 9) + 1)) (fun s21 => X7_takesE_L22 l1 k s21 l2))))) else (if wI v1 = wI 40 then if wI (st 0 21) = wI 4 then some (0, st) else (zlet (zu st 0 21 ((st 0 21) + 1)) (fun s22 => bI (zwr s22 18 101 (s22 0 20) v1) (fun s23 => zlet (zu s23 0 20 ((s23 0 20) + 1)) (fun s24 => zlet (zu s24 0 9 ((s24 0 9) + 1)) (fun s25 => X7_takesE_L22 l1 k s25 l2))))) else (bP (X7_takesTest st) (fun v2 s26 => if wI v2 = 0 then some (0, s26) else (X7_takesE_L22 l1 k s26 0))))))
def X7_takesE (st : PS) (l1 : Int) : Option (Int × PS) := zlet (zu st 0 20 0) (fun s1 => zlet (zu s1 0 21 0) (fun s2 => bI (zwr s2 15 60 l1 (s2 0 19)) (fun s3 => X7_takesE_L22 l1 FU s3 1)))
set_option maxHeartbeats 4000000 in
set_option maxRecDepth 100000 in
theorem X7_takesE_L22_j {X : JX} {G : GD} (C : zC X sM G RX7 cX7_takesE (some .boolean) 4) (hN : X.2.2.2.2.2.2.2.2.2.2.2.2 = 4) (hj : zInj sM G) {l1 : Int} : ∀ (k : Nat) (st : PS) (l2 : Int), J X (zI sM G) (zQ sM G fI) st [(0, .ref (G.2.2.1 0)), (1, .int (oI l1)), (2, .int (oI l2))] 22 [] (X7_takesE_L22 l1 k st l2) := by
  intro k
  induction k with
  | zero => intro st l2; exact j_none
  | succ k ih =>
    intro st l2
    rw [X7_takesE_L22]
    refine j_aload_n (pc := 22) C dX7_takesE_22 rfl 0 rfl ?_
    refine j_bI (fun v1 ev1 => ?_)
    refine j_callV1 (pc := 23) C obX7 rfl rfl (X7_next_m _ hj ev1) kV_X7_209 rfl (by omega) rfl (Nat.le_of_ble_eq_true rfl) dX7_takesE_23 ?_
    refine j_istore_n (pc := 26) C hN dX7_takesE_26 rfl (by decide) (lv' := [(3, .int (oI v1)), (0, .ref (G.2.2.1 0)), (1, .int (oI l1)), (2, .int (oI l2))]) rfl ?_
    refine j_iload_n (pc := 27) C dX7_takesE_27 rfl 3 rfl ?_
    refine j_if_eq (pc := 28) (tgt := 110) C dX7_takesE_28 rfl ?_ ?_
    · refine j_iload_n (pc := 110) C dX7_takesE_110 rfl 0 rfl ?_
      refine j_bipush (pc := 111) C dX7_takesE_111 (by decide) ?_
      refine j_icmp_eq (pc := 113) (tgt := 122) C dX7_takesE_113 rfl ?_ ?_
      · refine j_aload_n (pc := 122) C dX7_takesE_122 rfl 1 rfl ?_
        refine j_iload_n (pc := 123) C dX7_takesE_123 rfl 0 rfl ?_
        refine j_bI (fun s4 es4 => ?_)
        refine j_callV0 (pc := 124) C obX7 rfl rfl (X7_settle_m _ hj es4) kV_X7_241 rfl (by omega) rfl (Nat.le_of_ble_eq_true rfl) dX7_takesE_124 ?_
        refine j_aload_n (pc := 127) C dX7_takesE_127 rfl 1 rfl ?_
        refine gf_X7_65 (pc := 128) C dX7_takesE_128 ?_
        refine j_aload_n (pc := 131) C dX7_takesE_131 rfl 1 rfl ?_
        refine gf_X7_71 (pc := 132) C dX7_takesE_132 ?_
        refine j_iload_n (pc := 135) C dX7_takesE_135 rfl 0 rfl ?_
        refine j_bI (fun s5 es5 => ?_)
        refine j_iast (pc := 136) C arX7_18 es5 dX7_takesE_136 ?_
        refine j_aload_n (pc := 137) C dX7_takesE_137 rfl 1 rfl ?_
        refine j_dup (pc := 138) C dX7_takesE_138 rfl ?_
        refine gf_X7_71 (pc := 139) C dX7_takesE_139 ?_
        refine j_iconst (pc := 142) C dX7_takesE_142 ?_
        refine j_iadd (pc := 143) C dX7_takesE_143 ?_
        refine fp_X7_71 (pc := 144) C dX7_takesE_144 ?_
        refine j_let (fun s6 => ?_)
        refine j_iconst (pc := 147) C dX7_takesE_147 ?_
        refine j_istore_n (pc := 148) C hN dX7_takesE_148 rfl (by decide) (lv' := [(2, .int (oI 1)), (3, .int (oI v1)), (0, .ref (G.2.2.1 0)), (1, .int (oI l1))]) rfl ?_
        refine j_aload_n (pc := 149) C dX7_takesE_149 rfl 2 rfl ?_
        refine j_dup (pc := 150) C dX7_takesE_150 rfl ?_
        refine gf_X7_38 (pc := 151) C dX7_takesE_151 ?_
        refine j_iconst (pc := 154) C dX7_takesE_154 ?_
        refine j_iadd (pc := 155) C dX7_takesE_155 ?_
        refine fp_X7_38 (pc := 156) C dX7_takesE_156 ?_
        refine j_let (fun s7 => ?_)
        refine j_goto (pc := 159) (tgt := 22) C dX7_takesE_159 rfl ?_
        exact j_sub [2, 3, 0] rfl (ih _ _)
      · refine j_iload_n (pc := 116) C dX7_takesE_116 rfl 0 rfl ?_
        refine j_bipush (pc := 117) C dX7_takesE_117 (by decide) ?_
        refine j_icmp_ne (pc := 119) (tgt := 162) C dX7_takesE_119 rfl ?_ ?_
        · refine j_aload_n (pc := 122) C dX7_takesE_122 rfl 1 rfl ?_
          refine j_iload_n (pc := 123) C dX7_takesE_123 rfl 0 rfl ?_
          refine j_bI (fun s8 es8 => ?_)
          refine j_callV0 (pc := 124) C obX7 rfl rfl (X7_settle_m _ hj es8) kV_X7_241 rfl (by omega) rfl (Nat.le_of_ble_eq_true rfl) dX7_takesE_124 ?_
          refine j_aload_n (pc := 127) C dX7_takesE_127 rfl 1 rfl ?_
          refine gf_X7_65 (pc := 128) C dX7_takesE_128 ?_
          refine j_aload_n (pc := 131) C dX7_takesE_131 rfl 1 rfl ?_
          refine gf_X7_71 (pc := 132) C dX7_takesE_132 ?_
          refine j_iload_n (pc := 135) C dX7_takesE_135 rfl 0 rfl ?_
          refine j_bI (fun s9 es9 => ?_)
          refine j_iast (pc := 136) C arX7_18 es9 dX7_takesE_136 ?_
          refine j_aload_n (pc := 137) C dX7_takesE_137 rfl 1 rfl ?_
          refine j_dup (pc := 138) C dX7_takesE_138 rfl ?_
          refine gf_X7_71 (pc := 139) C dX7_takesE_139 ?_
          refine j_iconst (pc := 142) C dX7_takesE_142 ?_
          refine j_iadd (pc := 143) C dX7_takesE_143 ?_
          refine fp_X7_71 (pc := 144) C dX7_takesE_144 ?_
          refine j_let (fun s10 => ?_)
          refine j_iconst (pc := 147) C dX7_takesE_147 ?_
          refine j_istore_n (pc := 148) C hN dX7_takesE_148 rfl (by decide) (lv' := [(2, .int (oI 1)), (3, .int (oI v1)), (0, .ref (G.2.2.1 0)), (1, .int (oI l1))]) rfl ?_
          refine j_aload_n (pc := 149) C dX7_takesE_149 rfl 2 rfl ?_
          refine j_dup (pc := 150) C dX7_takesE_150 rfl ?_
          refine gf_X7_38 (pc := 151) C dX7_takesE_151 ?_
          refine j_iconst (pc := 154) C dX7_takesE_154 ?_
          refine j_iadd (pc := 155) C dX7_takesE_155 ?_
          refine fp_X7_38 (pc := 156) C dX7_takesE_156 ?_
          refine j_let (fun s11 => ?_)
          refine j_goto (pc := 159) (tgt := 22) C dX7_takesE_159 rfl ?_
          exact j_sub [2, 3, 0] rfl (ih _ _)
        · refine j_aload_n (pc := 162) C dX7_takesE_162 rfl 1 rfl ?_
          refine j_bipush (pc := 163) C dX7_takesE_163 (by decide) ?_
          refine j_bI (fun s12 es12 => ?_)
          refine j_callV0 (pc := 165) C obX7 rfl rfl (X7_settle_m _ hj es12) kV_X7_241 rfl (by omega) rfl (Nat.le_of_ble_eq_true rfl) dX7_takesE_165 ?_
          refine j_aload_n (pc := 168) C dX7_takesE_168 rfl 1 rfl ?_
          refine gf_X7_59 (pc := 169) C dX7_takesE_169 ?_
          refine j_iload_n (pc := 172) C dX7_takesE_172 rfl 2 rfl ?_
          refine j_aload_n (pc := 173) C dX7_takesE_173 rfl 1 rfl ?_
          refine gf_X7_68 (pc := 174) C dX7_takesE_174 ?_
          refine j_bI (fun s13 es13 => ?_)
          refine j_iast (pc := 177) C arX7_16 es13 dX7_takesE_177 ?_
          refine j_aload_n (pc := 178) C dX7_takesE_178 rfl 1 rfl ?_
          refine gf_X7_71 (pc := 179) C dX7_takesE_179 ?_
          refine j_if_ne (pc := 182) (tgt := 187) C dX7_takesE_182 rfl ?_ ?_
          · refine j_iconst (pc := 185) C dX7_takesE_185 ?_
            exact j_ireturn C rfl rfl (znar (Or.inr rfl)) rfl dX7_takesE_186
          · refine j_iload_n (pc := 187) C dX7_takesE_187 rfl 0 rfl ?_
            refine j_bipush (pc := 188) C dX7_takesE_188 (by decide) ?_
            refine j_icmp_eq (pc := 190) (tgt := 195) C dX7_takesE_190 rfl ?_ ?_
            · refine j_aload_n (pc := 195) C dX7_takesE_195 rfl 1 rfl ?_
              refine j_dup (pc := 196) C dX7_takesE_196 rfl ?_
              refine gf_X7_71 (pc := 197) C dX7_takesE_197 ?_
              refine j_iconst (pc := 200) C dX7_takesE_200 ?_
              refine j_isub (pc := 201) C dX7_takesE_201 ?_
              refine fp_X7_71 (pc := 202) C dX7_takesE_202 ?_
              refine j_let (fun s14 => ?_)
              refine j_aload_n (pc := 205) C dX7_takesE_205 rfl 1 rfl ?_
              refine j_dup (pc := 206) C dX7_takesE_206 rfl ?_
              refine gf_X7_74 (pc := 207) C dX7_takesE_207 ?_
              refine j_iconst (pc := 210) C dX7_takesE_210 ?_
              refine j_isub (pc := 211) C dX7_takesE_211 ?_
              refine fp_X7_74 (pc := 212) C dX7_takesE_212 ?_
              refine j_let (fun s15 => ?_)
              refine j_aload_n (pc := 215) C dX7_takesE_215 rfl 1 rfl ?_
              refine j_dup (pc := 216) C dX7_takesE_216 rfl ?_
              refine gf_X7_38 (pc := 217) C dX7_takesE_217 ?_
              refine j_iconst (pc := 220) C dX7_takesE_220 ?_
              refine j_iadd (pc := 221) C dX7_takesE_221 ?_
              refine fp_X7_38 (pc := 222) C dX7_takesE_222 ?_
              refine j_let (fun s16 => ?_)
              refine j_aload_n (pc := 225) C dX7_takesE_225 rfl 1 rfl ?_
              refine j_bI (fun s17 es17 => ?_)
              refine j_callV0 (pc := 226) C obX7 rfl rfl (X7_whole_m _ hj es17) kV_X7_235 rfl (by omega) rfl (Nat.le_of_ble_eq_true rfl) dX7_takesE_226 ?_
              refine j_goto (pc := 229) (tgt := 22) C dX7_takesE_229 rfl ?_
              exact j_sub [1, 2, 3] rfl (ih _ _)
            · refine j_iconst (pc := 193) C dX7_takesE_193 ?_
              exact j_ireturn C rfl rfl (znar (Or.inl rfl)) rfl dX7_takesE_194
    · refine j_iload_n (pc := 31) C dX7_takesE_31 rfl 0 rfl ?_
      refine j_bipush (pc := 32) C dX7_takesE_32 (by decide) ?_
      refine j_icmp_eq (pc := 34) (tgt := 43) C dX7_takesE_34 rfl ?_ ?_
      · refine j_aload_n (pc := 43) C dX7_takesE_43 rfl 1 rfl ?_
        refine gf_X7_74 (pc := 44) C dX7_takesE_44 ?_
        refine j_iconst (pc := 47) C dX7_takesE_47 ?_
        refine j_icmp_ne (pc := 48) (tgt := 53) C dX7_takesE_48 rfl ?_ ?_
        · refine j_iconst (pc := 51) C dX7_takesE_51 ?_
          exact j_ireturn C rfl rfl (znar (Or.inl rfl)) rfl dX7_takesE_52
        · refine j_aload_n (pc := 53) C dX7_takesE_53 rfl 1 rfl ?_
          refine j_dup (pc := 54) C dX7_takesE_54 rfl ?_
          refine gf_X7_74 (pc := 55) C dX7_takesE_55 ?_
          refine j_iconst (pc := 58) C dX7_takesE_58 ?_
          refine j_iadd (pc := 59) C dX7_takesE_59 ?_
          refine fp_X7_74 (pc := 60) C dX7_takesE_60 ?_
          refine j_let (fun s18 => ?_)
          refine j_aload_n (pc := 63) C dX7_takesE_63 rfl 1 rfl ?_
          refine gf_X7_65 (pc := 64) C dX7_takesE_64 ?_
          refine j_aload_n (pc := 67) C dX7_takesE_67 rfl 1 rfl ?_
          refine gf_X7_71 (pc := 68) C dX7_takesE_68 ?_
          refine j_iload_n (pc := 71) C dX7_takesE_71 rfl 0 rfl ?_
          refine j_bI (fun s19 es19 => ?_)
          refine j_iast (pc := 72) C arX7_18 es19 dX7_takesE_72 ?_
          refine j_aload_n (pc := 73) C dX7_takesE_73 rfl 1 rfl ?_
          refine j_dup (pc := 74) C dX7_takesE_74 rfl ?_
          refine gf_X7_71 (pc := 75) C dX7_takesE_75 ?_
          refine j_iconst (pc := 78) C dX7_takesE_78 ?_
          refine j_iadd (pc := 79) C dX7_takesE_79 ?_
          refine fp_X7_71 (pc := 80) C dX7_takesE_80 ?_
          refine j_let (fun s20 => ?_)
          refine j_aload_n (pc := 83) C dX7_takesE_83 rfl 1 rfl ?_
          refine j_dup (pc := 84) C dX7_takesE_84 rfl ?_
          refine gf_X7_38 (pc := 85) C dX7_takesE_85 ?_
          refine j_iconst (pc := 88) C dX7_takesE_88 ?_
          refine j_iadd (pc := 89) C dX7_takesE_89 ?_
          refine fp_X7_38 (pc := 90) C dX7_takesE_90 ?_
          refine j_let (fun s21 => ?_)
          refine j_goto (pc := 93) (tgt := 22) C dX7_takesE_93 rfl ?_
          exact j_sub [1, 2, 3] rfl (ih _ _)
      · refine j_iload_n (pc := 37) C dX7_takesE_37 rfl 0 rfl ?_
        refine j_bipush (pc := 38) C dX7_takesE_38 (by decide) ?_
        refine j_icmp_ne (pc := 40) (tgt := 96) C dX7_takesE_40 rfl ?_ ?_
        · refine j_aload_n (pc := 43) C dX7_takesE_43 rfl 1 rfl ?_
          refine gf_X7_74 (pc := 44) C dX7_takesE_44 ?_
          refine j_iconst (pc := 47) C dX7_takesE_47 ?_
          refine j_icmp_ne (pc := 48) (tgt := 53) C dX7_takesE_48 rfl ?_ ?_
          · refine j_iconst (pc := 51) C dX7_takesE_51 ?_
            exact j_ireturn C rfl rfl (znar (Or.inl rfl)) rfl dX7_takesE_52
          · refine j_aload_n (pc := 53) C dX7_takesE_53 rfl 1 rfl ?_
            refine j_dup (pc := 54) C dX7_takesE_54 rfl ?_
            refine gf_X7_74 (pc := 55) C dX7_takesE_55 ?_
            refine j_iconst (pc := 58) C dX7_takesE_58 ?_
            refine j_iadd (pc := 59) C dX7_takesE_59 ?_
            refine fp_X7_74 (pc := 60) C dX7_takesE_60 ?_
            refine j_let (fun s22 => ?_)
            refine j_aload_n (pc := 63) C dX7_takesE_63 rfl 1 rfl ?_
            refine gf_X7_65 (pc := 64) C dX7_takesE_64 ?_
            refine j_aload_n (pc := 67) C dX7_takesE_67 rfl 1 rfl ?_
            refine gf_X7_71 (pc := 68) C dX7_takesE_68 ?_
            refine j_iload_n (pc := 71) C dX7_takesE_71 rfl 0 rfl ?_
            refine j_bI (fun s23 es23 => ?_)
            refine j_iast (pc := 72) C arX7_18 es23 dX7_takesE_72 ?_
            refine j_aload_n (pc := 73) C dX7_takesE_73 rfl 1 rfl ?_
            refine j_dup (pc := 74) C dX7_takesE_74 rfl ?_
            refine gf_X7_71 (pc := 75) C dX7_takesE_75 ?_
            refine j_iconst (pc := 78) C dX7_takesE_78 ?_
            refine j_iadd (pc := 79) C dX7_takesE_79 ?_
            refine fp_X7_71 (pc := 80) C dX7_takesE_80 ?_
            refine j_let (fun s24 => ?_)
            refine j_aload_n (pc := 83) C dX7_takesE_83 rfl 1 rfl ?_
            refine j_dup (pc := 84) C dX7_takesE_84 rfl ?_
            refine gf_X7_38 (pc := 85) C dX7_takesE_85 ?_
            refine j_iconst (pc := 88) C dX7_takesE_88 ?_
            refine j_iadd (pc := 89) C dX7_takesE_89 ?_
            refine fp_X7_38 (pc := 90) C dX7_takesE_90 ?_
            refine j_let (fun s25 => ?_)
            refine j_goto (pc := 93) (tgt := 22) C dX7_takesE_93 rfl ?_
            exact j_sub [1, 2, 3] rfl (ih _ _)
        · refine j_aload_n (pc := 96) C dX7_takesE_96 rfl 1 rfl ?_
          refine j_bP (fun v2 s26 es26 => ?_)
          refine j_callV1 (pc := 97) C obX7 rfl rfl (X7_takesTest_m _ hj es26) kV_X7_238 rfl (by omega) rfl (Nat.le_of_ble_eq_true rfl) dX7_takesE_97 ?_
          refine j_if_eq (pc := 100) (tgt := 108) C dX7_takesE_100 rfl ?_ ?_
          · refine j_iconst (pc := 108) C dX7_takesE_108 ?_
            exact j_ireturn C rfl rfl (znar (Or.inl rfl)) rfl dX7_takesE_109
          · refine j_iconst (pc := 103) C dX7_takesE_103 ?_
            refine j_istore_n (pc := 104) C hN dX7_takesE_104 rfl (by decide) (lv' := [(2, .int (oI 0)), (3, .int (oI v1)), (0, .ref (G.2.2.1 0)), (1, .int (oI l1))]) rfl ?_
            refine j_goto (pc := 105) (tgt := 22) C dX7_takesE_105 rfl ?_
            exact j_sub [2, 3, 0] rfl (ih _ _)
set_option maxHeartbeats 4000000 in
set_option maxRecDepth 100000 in
theorem X7_takesE_m (l : Launch) {G : GD} (hj : zInj sM G) {st : PS} {l1 : Int} {r : (Int × PS)} (hr : X7_takesE st l1 = some r) : zM l sM G yX7_takesE cX7_takesE 4 (some .boolean) 4 [.ref (G.2.2.1 0), .int (oI l1)] st (some (.int (oI r.1))) r.2 :=
  zEnter (f := fI) hr hj (by decide) rfl (lv := [(0, .ref (G.2.2.1 0)), (1, .int (oI l1))]) rfl (Nat.le_of_ble_eq_true rfl) (fun X _ hN C => by
    unfold X7_takesE
    refine j_aload_n (pc := 0) C dX7_takesE_0 rfl 0 rfl ?_
    refine j_iconst (pc := 1) C dX7_takesE_1 ?_
    refine fp_X7_71 (pc := 2) C dX7_takesE_2 ?_
    refine j_let (fun s1 => ?_)
    refine j_aload_n (pc := 5) C dX7_takesE_5 rfl 0 rfl ?_
    refine j_iconst (pc := 6) C dX7_takesE_6 ?_
    refine fp_X7_74 (pc := 7) C dX7_takesE_7 ?_
    refine j_let (fun s2 => ?_)
    refine j_aload_n (pc := 10) C dX7_takesE_10 rfl 0 rfl ?_
    refine gf_X7_56 (pc := 11) C dX7_takesE_11 ?_
    refine j_iload_n (pc := 14) C dX7_takesE_14 rfl 1 rfl ?_
    refine j_aload_n (pc := 15) C dX7_takesE_15 rfl 0 rfl ?_
    refine gf_X7_68 (pc := 16) C dX7_takesE_16 ?_
    refine j_bI (fun s3 es3 => ?_)
    refine j_iast (pc := 19) C arX7_15 es3 dX7_takesE_19 ?_
    refine j_iconst (pc := 20) C dX7_takesE_20 ?_
    refine j_istore_n (pc := 21) C hN dX7_takesE_21 rfl (by decide) (lv' := [(2, .int (oI 1)), (0, .ref (G.2.2.1 0)), (1, .int (oI l1))]) rfl ?_
    exact j_sub [1, 2, 0] rfl (X7_takesE_L22_j C hN hj FU _ _))
def X7_takesHead (st : PS) (l1 : Int) : Option (Int × PS) := bI (X7_second st) (fun v1 => bI (X7_next st) (fun v2 => if wI v2 = 97 then bI (zwr st 13 60 l1 0) (fun s1 => bP (X7_takesWord s1 0 3) (fun v3 s2 => zbit v3 (some (v3, s2)))) else (if wI v2 = 116 then bI (zwr st 13 60 l1 1) (fun s3 => bP (X7_takesWord s3 3 3) (fun v4 s4 => zbit v4 (some (v4, s4)))) else (if wI v1 = wI 105 then bI (zwr st 13 60 l1 2) (fun s5 => if wI v1 = wI 105 then bP (X7_takesAlone s5 6 4) (fun v5 s6 => zbit v5 (some (v5, s6))) else (bP (X7_takesAlone s5 10 3) (fun v6 s7 => zbit v6 (some (v6, s7))))) else (bI (zwr st 13 60 l1 3) (fun s8 => if wI v1 = wI 105 then bP (X7_takesAlone s8 6 4) (fun v7 s9 => zbit v7 (some (v7, s9))) else (bP (X7_takesAlone s8 10 3) (fun v8 s10 => zbit v8 (some (v8, s10))))))))))
set_option maxHeartbeats 4000000 in
set_option maxRecDepth 100000 in
theorem X7_takesHead_m (l : Launch) {G : GD} (hj : zInj sM G) {st : PS} {l1 : Int} {r : (Int × PS)} (hr : X7_takesHead st l1 = some r) : zM l sM G yX7_takesHead cX7_takesHead 3 (some .boolean) 4 [.ref (G.2.2.1 0), .int (oI l1)] st (some (.int (oI r.1))) r.2 :=
  zEnter (f := fI) hr hj (by decide) rfl (lv := [(0, .ref (G.2.2.1 0)), (1, .int (oI l1))]) rfl (Nat.le_of_ble_eq_true rfl) (fun X _ hN C => by
    unfold X7_takesHead
    refine j_aload_n (pc := 0) C dX7_takesHead_0 rfl 0 rfl ?_
    refine j_bI (fun v1 ev1 => ?_)
    refine j_callV1 (pc := 1) C obX7 rfl rfl (X7_second_m _ hj ev1) kV_X7_244 rfl (by omega) rfl (Nat.le_of_ble_eq_true rfl) dX7_takesHead_1 ?_
    refine j_istore_n (pc := 4) C hN dX7_takesHead_4 rfl (by decide) (lv' := [(2, .int (oI v1)), (0, .ref (G.2.2.1 0)), (1, .int (oI l1))]) rfl ?_
    refine j_aload_n (pc := 5) C dX7_takesHead_5 rfl 1 rfl ?_
    refine j_bI (fun v2 ev2 => ?_)
    refine j_callV1 (pc := 6) C obX7 rfl rfl (X7_next_m _ hj ev2) kV_X7_209 rfl (by omega) rfl (Nat.le_of_ble_eq_true rfl) dX7_takesHead_6 ?_
    refine j_if (fun hc => ?_) (fun hn0 => ?_)
    · refine j_look (pc := 9) (tgt := 36) (off := 27) C dX7_takesHead_9 (by decide) (by simp [Op.lookupswitch.offset, List.find?, hc]) rfl ?_
      refine j_aload_n (pc := 36) C dX7_takesHead_36 rfl 1 rfl ?_
      refine gf_X7_50 (pc := 37) C dX7_takesHead_37 ?_
      refine j_iload_n (pc := 40) C dX7_takesHead_40 rfl 2 rfl ?_
      refine j_iconst (pc := 41) C dX7_takesHead_41 ?_
      refine j_bI (fun s1 es1 => ?_)
      refine j_iast (pc := 42) C arX7_13 es1 dX7_takesHead_42 ?_
      refine j_aload_n (pc := 43) C dX7_takesHead_43 rfl 1 rfl ?_
      refine j_iconst (pc := 44) C dX7_takesHead_44 ?_
      refine j_iconst (pc := 45) C dX7_takesHead_45 ?_
      refine j_bP (fun v3 s2 es2 => ?_)
      refine j_callV1 (pc := 46) C obX7 rfl rfl (X7_takesWord_m _ hj es2) kV_X7_247 rfl (by omega) rfl (Nat.le_of_ble_eq_true rfl) dX7_takesHead_46 ?_
      refine j_bit (fun hb => ?_)
      exact j_ireturn C rfl rfl (znar hb) rfl dX7_takesHead_49
    · refine j_if (fun hc => ?_) (fun hn1 => ?_)
      · refine j_look (pc := 9) (tgt := 50) (off := 41) C dX7_takesHead_9 (by decide) (by simp [Op.lookupswitch.offset, List.find?, hc]) rfl ?_
        refine j_aload_n (pc := 50) C dX7_takesHead_50 rfl 1 rfl ?_
        refine gf_X7_50 (pc := 51) C dX7_takesHead_51 ?_
        refine j_iload_n (pc := 54) C dX7_takesHead_54 rfl 2 rfl ?_
        refine j_iconst (pc := 55) C dX7_takesHead_55 ?_
        refine j_bI (fun s3 es3 => ?_)
        refine j_iast (pc := 56) C arX7_13 es3 dX7_takesHead_56 ?_
        refine j_aload_n (pc := 57) C dX7_takesHead_57 rfl 1 rfl ?_
        refine j_iconst (pc := 58) C dX7_takesHead_58 ?_
        refine j_iconst (pc := 59) C dX7_takesHead_59 ?_
        refine j_bP (fun v4 s4 es4 => ?_)
        refine j_callV1 (pc := 60) C obX7 rfl rfl (X7_takesWord_m _ hj es4) kV_X7_247 rfl (by omega) rfl (Nat.le_of_ble_eq_true rfl) dX7_takesHead_60 ?_
        refine j_bit (fun hb => ?_)
        exact j_ireturn C rfl rfl (znar hb) rfl dX7_takesHead_63
      · refine j_look (pc := 9) (tgt := 64) C dX7_takesHead_9 (by decide) (off := 55) (by simp [Op.lookupswitch.offset, List.find?, show ¬ (97 : Int) = wI v2 from fun q => hn0 q.symm, show ¬ (116 : Int) = wI v2 from fun q => hn1 q.symm]) rfl ?_
        refine j_aload_n (pc := 64) C dX7_takesHead_64 rfl 1 rfl ?_
        refine gf_X7_50 (pc := 65) C dX7_takesHead_65 ?_
        refine j_iload_n (pc := 68) C dX7_takesHead_68 rfl 2 rfl ?_
        refine j_iload_n (pc := 69) C dX7_takesHead_69 rfl 0 rfl ?_
        refine j_bipush (pc := 70) C dX7_takesHead_70 (by decide) ?_
        refine j_icmp_ne (pc := 72) (tgt := 79) C dX7_takesHead_72 rfl ?_ ?_
        · refine j_iconst (pc := 75) C dX7_takesHead_75 ?_
          refine j_goto (pc := 76) (tgt := 80) C dX7_takesHead_76 rfl ?_
          refine j_bI (fun s5 es5 => ?_)
          refine j_iast (pc := 80) C arX7_13 es5 dX7_takesHead_80 ?_
          refine j_iload_n (pc := 81) C dX7_takesHead_81 rfl 0 rfl ?_
          refine j_bipush (pc := 82) C dX7_takesHead_82 (by decide) ?_
          refine j_icmp_ne (pc := 84) (tgt := 97) C dX7_takesHead_84 rfl ?_ ?_
          · refine j_aload_n (pc := 87) C dX7_takesHead_87 rfl 1 rfl ?_
            refine j_bipush (pc := 88) C dX7_takesHead_88 (by decide) ?_
            refine j_iconst (pc := 90) C dX7_takesHead_90 ?_
            refine j_bP (fun v5 s6 es6 => ?_)
            refine j_callV1 (pc := 91) C obX7 rfl rfl (X7_takesAlone_m _ hj es6) kV_X7_216 rfl (by omega) rfl (Nat.le_of_ble_eq_true rfl) dX7_takesHead_91 ?_
            refine j_goto (pc := 94) (tgt := 104) C dX7_takesHead_94 rfl ?_
            refine j_bit (fun hb => ?_)
            exact j_ireturn C rfl rfl (znar hb) rfl dX7_takesHead_104
          · refine j_aload_n (pc := 97) C dX7_takesHead_97 rfl 1 rfl ?_
            refine j_bipush (pc := 98) C dX7_takesHead_98 (by decide) ?_
            refine j_iconst (pc := 100) C dX7_takesHead_100 ?_
            refine j_bP (fun v6 s7 es7 => ?_)
            refine j_callV1 (pc := 101) C obX7 rfl rfl (X7_takesAlone_m _ hj es7) kV_X7_216 rfl (by omega) rfl (Nat.le_of_ble_eq_true rfl) dX7_takesHead_101 ?_
            refine j_bit (fun hb => ?_)
            exact j_ireturn C rfl rfl (znar hb) rfl dX7_takesHead_104
        · refine j_iconst (pc := 79) C dX7_takesHead_79 ?_
          refine j_bI (fun s8 es8 => ?_)
          refine j_iast (pc := 80) C arX7_13 es8 dX7_takesHead_80 ?_
          refine j_iload_n (pc := 81) C dX7_takesHead_81 rfl 0 rfl ?_
          refine j_bipush (pc := 82) C dX7_takesHead_82 (by decide) ?_
          refine j_icmp_ne (pc := 84) (tgt := 97) C dX7_takesHead_84 rfl ?_ ?_
          · refine j_aload_n (pc := 87) C dX7_takesHead_87 rfl 1 rfl ?_
            refine j_bipush (pc := 88) C dX7_takesHead_88 (by decide) ?_
            refine j_iconst (pc := 90) C dX7_takesHead_90 ?_
            refine j_bP (fun v7 s9 es9 => ?_)
            refine j_callV1 (pc := 91) C obX7 rfl rfl (X7_takesAlone_m _ hj es9) kV_X7_216 rfl (by omega) rfl (Nat.le_of_ble_eq_true rfl) dX7_takesHead_91 ?_
            refine j_goto (pc := 94) (tgt := 104) C dX7_takesHead_94 rfl ?_
            refine j_bit (fun hb => ?_)
            exact j_ireturn C rfl rfl (znar hb) rfl dX7_takesHead_104
          · refine j_aload_n (pc := 97) C dX7_takesHead_97 rfl 1 rfl ?_
            refine j_bipush (pc := 98) C dX7_takesHead_98 (by decide) ?_
            refine j_iconst (pc := 100) C dX7_takesHead_100 ?_
            refine j_bP (fun v8 s10 es10 => ?_)
            refine j_callV1 (pc := 101) C obX7 rfl rfl (X7_takesAlone_m _ hj es10) kV_X7_216 rfl (by omega) rfl (Nat.le_of_ble_eq_true rfl) dX7_takesHead_101 ?_
            refine j_bit (fun hb => ?_)
            exact j_ireturn C rfl rfl (znar hb) rfl dX7_takesHead_104)
def X7_takesClause (st : PS) (l1 : Int) : Option (Int × PS) := bP (X7_takesHead st l1) (fun v1 s1 => if wI v1 = 0 then some (0, s1) else (bI (zrd s1 13 60 l1) (fun v2 => if wI v2 ≤ wI 1 then bP (X7_takesNumber s1) (fun v3 s2 => if wI v3 = 0 then some (0, s2) else (bI (zwr s2 14 60 l1 (s2 0 10)) (fun s3 => bP (X7_takes s3 32) (fun v4 s4 => if wI v4 = 0 then some (0, s4) else (bP (X7_takesE s4 l1) (fun v5 s5 => if wI v5 = 0 then some (0, s5) else (some (1, s5)))))))) else (some (1, s1)))))
set_option maxHeartbeats 4000000 in
set_option maxRecDepth 100000 in
theorem X7_takesClause_m (l : Launch) {G : GD} (hj : zInj sM G) {st : PS} {l1 : Int} {r : (Int × PS)} (hr : X7_takesClause st l1 = some r) : zM l sM G yX7_takesClause cX7_takesClause 2 (some .boolean) 5 [.ref (G.2.2.1 0), .int (oI l1)] st (some (.int (oI r.1))) r.2 :=
  zEnter (f := fI) hr hj (by decide) rfl (lv := [(0, .ref (G.2.2.1 0)), (1, .int (oI l1))]) rfl (Nat.le_of_ble_eq_true rfl) (fun X _ hN C => by
    unfold X7_takesClause
    refine j_aload_n (pc := 0) C dX7_takesClause_0 rfl 0 rfl ?_
    refine j_iload_n (pc := 1) C dX7_takesClause_1 rfl 1 rfl ?_
    refine j_bP (fun v1 s1 es1 => ?_)
    refine j_callV1 (pc := 2) C obX7 rfl rfl (X7_takesHead_m _ hj es1) kV_X7_250 rfl (by omega) rfl (Nat.le_of_ble_eq_true rfl) dX7_takesClause_2 ?_
    refine j_if_ne (pc := 5) (tgt := 10) C dX7_takesClause_5 rfl ?_ ?_
    · refine j_iconst (pc := 8) C dX7_takesClause_8 ?_
      exact j_ireturn C rfl rfl (znar (Or.inl rfl)) rfl dX7_takesClause_9
    · refine j_aload_n (pc := 10) C dX7_takesClause_10 rfl 0 rfl ?_
      refine gf_X7_50 (pc := 11) C dX7_takesClause_11 ?_
      refine j_iload_n (pc := 14) C dX7_takesClause_14 rfl 1 rfl ?_
      refine j_bI (fun v2 ev2 => ?_)
      refine j_iald (pc := 15) C arX7_13 ev2 dX7_takesClause_15 ?_
      refine j_iconst (pc := 16) C dX7_takesClause_16 ?_
      refine j_icmp_le (pc := 17) (tgt := 22) C dX7_takesClause_17 rfl ?_ ?_
      · refine j_aload_n (pc := 22) C dX7_takesClause_22 rfl 0 rfl ?_
        refine j_bP (fun v3 s2 es2 => ?_)
        refine j_callV1 (pc := 23) C obX7 rfl rfl (X7_takesNumber_m _ hj es2) kV_X7_232 rfl (by omega) rfl (Nat.le_of_ble_eq_true rfl) dX7_takesClause_23 ?_
        refine j_if_ne (pc := 26) (tgt := 31) C dX7_takesClause_26 rfl ?_ ?_
        · refine j_iconst (pc := 29) C dX7_takesClause_29 ?_
          exact j_ireturn C rfl rfl (znar (Or.inl rfl)) rfl dX7_takesClause_30
        · refine j_aload_n (pc := 31) C dX7_takesClause_31 rfl 0 rfl ?_
          refine gf_X7_53 (pc := 32) C dX7_takesClause_32 ?_
          refine j_iload_n (pc := 35) C dX7_takesClause_35 rfl 1 rfl ?_
          refine j_aload_n (pc := 36) C dX7_takesClause_36 rfl 0 rfl ?_
          refine gf_X7_41 (pc := 37) C dX7_takesClause_37 ?_
          refine j_bI (fun s3 es3 => ?_)
          refine j_iast (pc := 40) C arX7_14 es3 dX7_takesClause_40 ?_
          refine j_aload_n (pc := 41) C dX7_takesClause_41 rfl 0 rfl ?_
          refine j_bipush (pc := 42) C dX7_takesClause_42 (by decide) ?_
          refine j_bP (fun v4 s4 es4 => ?_)
          refine j_callV1 (pc := 44) C obX7 rfl rfl (X7_takes_m _ hj es4) kV_X7_213 rfl (by omega) rfl (Nat.le_of_ble_eq_true rfl) dX7_takesClause_44 ?_
          refine j_if_eq (pc := 47) (tgt := 62) C dX7_takesClause_47 rfl ?_ ?_
          · refine j_iconst (pc := 62) C dX7_takesClause_62 ?_
            exact j_ireturn C rfl rfl (znar (Or.inl rfl)) rfl dX7_takesClause_63
          · refine j_aload_n (pc := 50) C dX7_takesClause_50 rfl 0 rfl ?_
            refine j_iload_n (pc := 51) C dX7_takesClause_51 rfl 1 rfl ?_
            refine j_bP (fun v5 s5 es5 => ?_)
            refine j_callV1 (pc := 52) C obX7 rfl rfl (X7_takesE_m _ hj es5) kV_X7_253 rfl (by omega) rfl (Nat.le_of_ble_eq_true rfl) dX7_takesClause_52 ?_
            refine j_if_eq (pc := 55) (tgt := 62) C dX7_takesClause_55 rfl ?_ ?_
            · refine j_iconst (pc := 62) C dX7_takesClause_62 ?_
              exact j_ireturn C rfl rfl (znar (Or.inl rfl)) rfl dX7_takesClause_63
            · refine j_iconst (pc := 58) C dX7_takesClause_58 ?_
              refine j_goto (pc := 59) (tgt := 63) C dX7_takesClause_59 rfl ?_
              exact j_ireturn C rfl rfl (znar (Or.inr rfl)) rfl dX7_takesClause_63
      · refine j_iconst (pc := 20) C dX7_takesClause_20 ?_
        exact j_ireturn C rfl rfl (znar (Or.inr rfl)) rfl dX7_takesClause_21)
def X7_goesText_L15 (l1 : Int) : Nat → PS → Int → Option (Int × PS)
  | 0, _, _ => none
  | k + 1, st, l2 => bP (X7_takesClause st ((10 * l1) + l2)) (fun v1 s3 => if wI v1 = 0 then some (0, s3) else (bI (zwr s3 12 6 l1 (l2 + 1)) (fun s4 => if wI (s4 0 9) = wI (s4 0 8) then some (1, s4) else (if wI (l2 + 1) = wI 10 then some (0, s4) else (bP (X7_takes s4 59) (fun v2 s5 => if wI v2 = 0 then some (0, s5) else (X7_goesText_L15 l1 k s5 (l2 + 1))))))))
def X7_goesText (st : PS) (l1 : Int) : Option (Int × PS) := zlet (zu st 0 9 0) (fun s1 => zlet (zu s1 0 19 (100 * l1)) (fun s2 => X7_goesText_L15 l1 FU s2 0))
set_option maxHeartbeats 4000000 in
set_option maxRecDepth 100000 in
theorem X7_goesText_L15_j {X : JX} {G : GD} (C : zC X sM G RX7 cX7_goesText (some .boolean) 6) (hN : X.2.2.2.2.2.2.2.2.2.2.2.2 = 3) (hj : zInj sM G) {l1 : Int} : ∀ (k : Nat) (st : PS) (l2 : Int), J X (zI sM G) (zQ sM G fI) st [(0, .ref (G.2.2.1 0)), (1, .int (oI l1)), (2, .int (oI l2))] 15 [] (X7_goesText_L15 l1 k st l2) := by
  intro k
  induction k with
  | zero => intro st l2; exact j_none
  | succ k ih =>
    intro st l2
    rw [X7_goesText_L15]
    refine j_aload_n (pc := 15) C dX7_goesText_15 rfl 0 rfl ?_
    refine j_bipush (pc := 16) C dX7_goesText_16 (by decide) ?_
    refine j_iload_n (pc := 18) C dX7_goesText_18 rfl 1 rfl ?_
    refine j_imul (pc := 19) C dX7_goesText_19 ?_
    refine j_iload_n (pc := 20) C dX7_goesText_20 rfl 2 rfl ?_
    refine j_iadd (pc := 21) C dX7_goesText_21 ?_
    refine j_bP (fun v1 s3 es3 => ?_)
    refine j_callV1 (pc := 22) C obX7 rfl rfl (X7_takesClause_m _ hj es3) kV_X7_256 rfl (by omega) rfl (Nat.le_of_ble_eq_true rfl) dX7_goesText_22 ?_
    refine j_if_ne (pc := 25) (tgt := 30) C dX7_goesText_25 rfl ?_ ?_
    · refine j_iconst (pc := 28) C dX7_goesText_28 ?_
      exact j_ireturn C rfl rfl (znar (Or.inl rfl)) rfl dX7_goesText_29
    · refine j_iinc (pc := 30) C hN dX7_goesText_30 2 rfl (by decide) (lv' := [(2, .int (oI (l2 + 1))), (0, .ref (G.2.2.1 0)), (1, .int (oI l1))]) rfl ?_
      refine j_aload_n (pc := 33) C dX7_goesText_33 rfl 1 rfl ?_
      refine gf_X7_47 (pc := 34) C dX7_goesText_34 ?_
      refine j_iload_n (pc := 37) C dX7_goesText_37 rfl 2 rfl ?_
      refine j_iload_n (pc := 38) C dX7_goesText_38 rfl 0 rfl ?_
      refine j_bI (fun s4 es4 => ?_)
      refine j_iast (pc := 39) C arX7_12 es4 dX7_goesText_39 ?_
      refine j_aload_n (pc := 40) C dX7_goesText_40 rfl 1 rfl ?_
      refine gf_X7_38 (pc := 41) C dX7_goesText_41 ?_
      refine j_aload_n (pc := 44) C dX7_goesText_44 rfl 1 rfl ?_
      refine gf_X7_35 (pc := 45) C dX7_goesText_45 ?_
      refine j_icmp_ne (pc := 48) (tgt := 53) C dX7_goesText_48 rfl ?_ ?_
      · refine j_iconst (pc := 51) C dX7_goesText_51 ?_
        exact j_ireturn C rfl rfl (znar (Or.inr rfl)) rfl dX7_goesText_52
      · refine j_iload_n (pc := 53) C dX7_goesText_53 rfl 0 rfl ?_
        refine j_bipush (pc := 54) C dX7_goesText_54 (by decide) ?_
        refine j_icmp_eq (pc := 56) (tgt := 68) C dX7_goesText_56 rfl ?_ ?_
        · refine j_iconst (pc := 68) C dX7_goesText_68 ?_
          exact j_ireturn C rfl rfl (znar (Or.inl rfl)) rfl dX7_goesText_69
        · refine j_aload_n (pc := 59) C dX7_goesText_59 rfl 1 rfl ?_
          refine j_bipush (pc := 60) C dX7_goesText_60 (by decide) ?_
          refine j_bP (fun v2 s5 es5 => ?_)
          refine j_callV1 (pc := 62) C obX7 rfl rfl (X7_takes_m _ hj es5) kV_X7_213 rfl (by omega) rfl (Nat.le_of_ble_eq_true rfl) dX7_goesText_62 ?_
          refine j_if_ne (pc := 65) (tgt := 15) C dX7_goesText_65 rfl ?_ ?_
          · refine j_iconst (pc := 68) C dX7_goesText_68 ?_
            exact j_ireturn C rfl rfl (znar (Or.inl rfl)) rfl dX7_goesText_69
          · exact j_sub [1, 2, 0] rfl (ih _ _)
set_option maxHeartbeats 4000000 in
set_option maxRecDepth 100000 in
theorem X7_goesText_m (l : Launch) {G : GD} (hj : zInj sM G) {st : PS} {l1 : Int} {r : (Int × PS)} (hr : X7_goesText st l1 = some r) : zM l sM G yX7_goesText cX7_goesText 3 (some .boolean) 6 [.ref (G.2.2.1 0), .int (oI l1)] st (some (.int (oI r.1))) r.2 :=
  zEnter (f := fI) hr hj (by decide) rfl (lv := [(0, .ref (G.2.2.1 0)), (1, .int (oI l1))]) rfl (Nat.le_of_ble_eq_true rfl) (fun X _ hN C => by
    unfold X7_goesText
    refine j_aload_n (pc := 0) C dX7_goesText_0 rfl 0 rfl ?_
    refine j_iconst (pc := 1) C dX7_goesText_1 ?_
    refine fp_X7_38 (pc := 2) C dX7_goesText_2 ?_
    refine j_let (fun s1 => ?_)
    refine j_aload_n (pc := 5) C dX7_goesText_5 rfl 0 rfl ?_
    refine j_bipush (pc := 6) C dX7_goesText_6 (by decide) ?_
    refine j_iload_n (pc := 8) C dX7_goesText_8 rfl 1 rfl ?_
    refine j_imul (pc := 9) C dX7_goesText_9 ?_
    refine fp_X7_68 (pc := 10) C dX7_goesText_10 ?_
    refine j_let (fun s2 => ?_)
    refine j_iconst (pc := 13) C dX7_goesText_13 ?_
    refine j_istore_n (pc := 14) C hN dX7_goesText_14 rfl (by decide) (lv' := [(2, .int (oI 0)), (0, .ref (G.2.2.1 0)), (1, .int (oI l1))]) rfl ?_
    exact j_sub [1, 2, 0] rfl (X7_goesText_L15_j C hN hj FU _ _))
def X7_street (st : PS) : Option (Int × PS) := if wI (st 0 6) = wI 6 then some ((-4), st) else (bP (X7_goesText st (st 0 6)) (fun v1 s1 => zlet (zu s1 0 8 0) (fun s2 => if wI v1 = 0 then some ((-10) - (s2 0 9), s2) else (zlet (zu s2 0 7 (s2 0 6)) (fun s3 => zlet (zu s3 0 6 ((s3 0 6) + 1)) (fun s4 => some (s4 0 7, s4)))))))
set_option maxHeartbeats 4000000 in
set_option maxRecDepth 100000 in
theorem X7_street_m (l : Launch) {G : GD} (hj : zInj sM G) {st : PS} {r : (Int × PS)} (hr : X7_street st = some r) : zM l sM G yX7_street cX7_street 2 (some .int) 7 [.ref (G.2.2.1 0)] st (some (.int (oI r.1))) r.2 :=
  zEnter (f := fI) hr hj (by decide) rfl (lv := [(0, .ref (G.2.2.1 0))]) rfl (Nat.le_of_ble_eq_true rfl) (fun X _ hN C => by
    unfold X7_street
    refine j_aload_n (pc := 0) C dX7_street_0 rfl 0 rfl ?_
    refine gf_X7_29 (pc := 1) C dX7_street_1 ?_
    refine j_bipush (pc := 4) C dX7_street_4 (by decide) ?_
    refine j_icmp_ne (pc := 6) (tgt := 12) C dX7_street_6 rfl ?_ ?_
    · refine j_bipush (pc := 9) C dX7_street_9 (by decide) ?_
      exact j_ireturn C rfl rfl rfl rfl dX7_street_11
    · refine j_aload_n (pc := 12) C dX7_street_12 rfl 0 rfl ?_
      refine j_aload_n (pc := 13) C dX7_street_13 rfl 0 rfl ?_
      refine gf_X7_29 (pc := 14) C dX7_street_14 ?_
      refine j_bP (fun v1 s1 es1 => ?_)
      refine j_callV1 (pc := 17) C obX7 rfl rfl (X7_goesText_m _ hj es1) kV_X7_259 rfl (by omega) rfl (Nat.le_of_ble_eq_true rfl) dX7_street_17 ?_
      refine j_istore_n (pc := 20) C hN dX7_street_20 rfl (by decide) (lv' := [(1, .int (oI v1)), (0, .ref (G.2.2.1 0))]) rfl ?_
      refine j_aload_n (pc := 21) C dX7_street_21 rfl 1 rfl ?_
      refine j_iconst (pc := 22) C dX7_street_22 ?_
      refine fp_X7_35 (pc := 23) C dX7_street_23 ?_
      refine j_let (fun s2 => ?_)
      refine j_iload_n (pc := 26) C dX7_street_26 rfl 0 rfl ?_
      refine j_if_ne (pc := 27) (tgt := 38) C dX7_street_27 rfl ?_ ?_
      · refine j_bipush (pc := 30) C dX7_street_30 (by decide) ?_
        refine j_aload_n (pc := 32) C dX7_street_32 rfl 1 rfl ?_
        refine gf_X7_38 (pc := 33) C dX7_street_33 ?_
        refine j_isub (pc := 36) C dX7_street_36 ?_
        exact j_ireturn C rfl rfl rfl rfl dX7_street_37
      · refine j_aload_n (pc := 38) C dX7_street_38 rfl 1 rfl ?_
        refine j_aload_n (pc := 39) C dX7_street_39 rfl 1 rfl ?_
        refine gf_X7_29 (pc := 40) C dX7_street_40 ?_
        refine fp_X7_32 (pc := 43) C dX7_street_43 ?_
        refine j_let (fun s3 => ?_)
        refine j_aload_n (pc := 46) C dX7_street_46 rfl 1 rfl ?_
        refine j_dup (pc := 47) C dX7_street_47 rfl ?_
        refine gf_X7_29 (pc := 48) C dX7_street_48 ?_
        refine j_iconst (pc := 51) C dX7_street_51 ?_
        refine j_iadd (pc := 52) C dX7_street_52 ?_
        refine fp_X7_29 (pc := 53) C dX7_street_53 ?_
        refine j_let (fun s4 => ?_)
        refine j_aload_n (pc := 56) C dX7_street_56 rfl 1 rfl ?_
        refine gf_X7_32 (pc := 57) C dX7_street_57 ?_
        exact j_ireturn C rfl rfl rfl rfl dX7_street_60)
def X7_begin (st : PS) : Int := if 0 ≤ wI (st 0 7) then (10 * (st 0 7)) else (0)
set_option maxHeartbeats 4000000 in
set_option maxRecDepth 100000 in
theorem X7_begin_m (l : Launch) {G : GD} (hj : zInj sM G) {st : PS} {r : Int} (hr : X7_begin st = r) : zM l sM G yX7_begin cX7_begin 1 (some .int) 0 [.ref (G.2.2.1 0)] st (some (.int (oI r))) st :=
  zEnter (f := fR st) (o := some (X7_begin st)) (by rw [hr]) hj (by decide) rfl (lv := [(0, .ref (G.2.2.1 0))]) rfl (Nat.le_of_ble_eq_true rfl) (fun X _ hN C => by
    simp only [X7_begin, zsome_ite]
    refine j_aload_n (pc := 0) C dX7_begin_0 rfl 0 rfl ?_
    refine gf_X7_32 (pc := 1) C dX7_begin_1 ?_
    refine j_if_ge (pc := 4) (tgt := 11) C dX7_begin_4 rfl ?_ ?_
    · refine j_bipush (pc := 11) C dX7_begin_11 (by decide) ?_
      refine j_aload_n (pc := 13) C dX7_begin_13 rfl 0 rfl ?_
      refine gf_X7_32 (pc := 14) C dX7_begin_14 ?_
      refine j_imul (pc := 17) C dX7_begin_17 ?_
      exact j_ireturn C rfl rfl rfl rfl dX7_begin_18
    · refine j_iconst (pc := 7) C dX7_begin_7 ?_
      refine j_goto (pc := 8) (tgt := 18) C dX7_begin_8 rfl ?_
      exact j_ireturn C rfl rfl rfl rfl dX7_begin_18)
def X7_behind (st : PS) : Option Int := if 0 ≤ wI (st 0 7) then bI (zrd st 12 6 (st 0 7)) (fun v1 => some ((10 * (st 0 7)) + v1)) else (some 0)
set_option maxHeartbeats 4000000 in
set_option maxRecDepth 100000 in
theorem X7_behind_m (l : Launch) {G : GD} (hj : zInj sM G) {st : PS} {r : Int} (hr : X7_behind st = some r) : zM l sM G yX7_behind cX7_behind 1 (some .int) 0 [.ref (G.2.2.1 0)] st (some (.int (oI r))) st :=
  zEnter (f := fR st) hr hj (by decide) rfl (lv := [(0, .ref (G.2.2.1 0))]) rfl (Nat.le_of_ble_eq_true rfl) (fun X _ hN C => by
    unfold X7_behind
    refine j_aload_n (pc := 0) C dX7_behind_0 rfl 0 rfl ?_
    refine gf_X7_32 (pc := 1) C dX7_behind_1 ?_
    refine j_if_ge (pc := 4) (tgt := 11) C dX7_behind_4 rfl ?_ ?_
    · refine j_bipush (pc := 11) C dX7_behind_11 (by decide) ?_
      refine j_aload_n (pc := 13) C dX7_behind_13 rfl 0 rfl ?_
      refine gf_X7_32 (pc := 14) C dX7_behind_14 ?_
      refine j_imul (pc := 17) C dX7_behind_17 ?_
      refine j_aload_n (pc := 18) C dX7_behind_18 rfl 0 rfl ?_
      refine gf_X7_47 (pc := 19) C dX7_behind_19 ?_
      refine j_aload_n (pc := 22) C dX7_behind_22 rfl 0 rfl ?_
      refine gf_X7_32 (pc := 23) C dX7_behind_23 ?_
      refine j_bI (fun v1 ev1 => ?_)
      refine j_iald (pc := 26) C arX7_12 ev1 dX7_behind_26 ?_
      refine j_iadd (pc := 27) C dX7_behind_27 ?_
      exact j_ireturn C rfl rfl rfl rfl dX7_behind_28
    · refine j_iconst (pc := 7) C dX7_behind_7 ?_
      refine j_goto (pc := 8) (tgt := 28) C dX7_behind_8 rfl ?_
      exact j_ireturn C rfl rfl rfl rfl dX7_behind_28)
def X7_isRing_L7  (st : PS) : Nat → Int → Int → Option Int
  | 0, _, _ => none
  | k + 1, l1, l2 => bI (X7_behind st) (fun v1 => if wI v1 ≤ wI l2 then zbit l1 (some l1) else (bI (zrd st 13 60 l2) (fun v2 => if wI v2 ≤ wI 1 then X7_isRing_L7 st k l1 (l2 + 1) else (bI (zrd st 13 60 l2) (fun v4 => if wI v4 = wI 2 then X7_isRing_L7 st k 1 (l2 + 1) else (X7_isRing_L7 st k 0 (l2 + 1)))))))
def X7_isRing (st : PS) : Option Int := X7_isRing_L7 st FU 0 (X7_begin st)
set_option maxHeartbeats 4000000 in
set_option maxRecDepth 100000 in
theorem X7_isRing_L7_j {X : JX} {G : GD} (C : zC X sM G RX7 cX7_isRing (some .boolean) 1) (hN : X.2.2.2.2.2.2.2.2.2.2.2.2 = 3) (hj : zInj sM G)  {st : PS} : ∀ (k : Nat) (l1 : Int) (l2 : Int), J X (zI sM G) (zQ sM G (fR st)) st [(0, .ref (G.2.2.1 0)), (1, .int (oI l1)), (2, .int (oI l2))] 7 [] (X7_isRing_L7 st k l1 l2) := by
  intro k
  induction k with
  | zero => intro l1 l2; exact j_none
  | succ k ih =>
    intro l1 l2
    rw [X7_isRing_L7]
    refine j_iload_n (pc := 7) C dX7_isRing_7 rfl 2 rfl ?_
    refine j_aload_n (pc := 8) C dX7_isRing_8 rfl 0 rfl ?_
    refine j_bI (fun v1 ev1 => ?_)
    refine j_callV1 (pc := 9) C obX7 rfl rfl (X7_behind_m _ hj ev1) kV_X7_265 rfl (by omega) rfl (Nat.le_of_ble_eq_true rfl) dX7_isRing_9 ?_
    refine j_icmp_ge (pc := 12) (tgt := 51) C dX7_isRing_12 rfl ?_ ?_
    · refine j_iload_n (pc := 51) C dX7_isRing_51 rfl 1 rfl ?_
      refine j_bit (fun hb => ?_)
      exact j_ireturn C rfl rfl (znar hb) rfl dX7_isRing_52
    · refine j_aload_n (pc := 15) C dX7_isRing_15 rfl 0 rfl ?_
      refine gf_X7_50 (pc := 16) C dX7_isRing_16 ?_
      refine j_iload_n (pc := 19) C dX7_isRing_19 rfl 2 rfl ?_
      refine j_bI (fun v2 ev2 => ?_)
      refine j_iald (pc := 20) C arX7_13 ev2 dX7_isRing_20 ?_
      refine j_iconst (pc := 21) C dX7_isRing_21 ?_
      refine j_icmp_le (pc := 22) (tgt := 43) C dX7_isRing_22 rfl ?_ ?_
      · refine j_iload_n (pc := 43) C dX7_isRing_43 rfl 1 rfl ?_
        refine j_istore_n (pc := 44) C hN dX7_isRing_44 rfl (by decide) (lv' := [(1, .int (oI l1)), (0, .ref (G.2.2.1 0)), (2, .int (oI l2))]) rfl ?_
        refine j_iinc (pc := 45) C hN dX7_isRing_45 2 rfl (by decide) (lv' := [(2, .int (oI (l2 + 1))), (1, .int (oI l1)), (0, .ref (G.2.2.1 0))]) rfl ?_
        refine j_goto (pc := 48) (tgt := 7) C dX7_isRing_48 rfl ?_
        exact j_sub [2, 1, 0] rfl (ih _ _)
      · refine j_aload_n (pc := 25) C dX7_isRing_25 rfl 0 rfl ?_
        refine gf_X7_50 (pc := 26) C dX7_isRing_26 ?_
        refine j_iload_n (pc := 29) C dX7_isRing_29 rfl 2 rfl ?_
        refine j_bI (fun v4 ev4 => ?_)
        refine j_iald (pc := 30) C arX7_13 ev4 dX7_isRing_30 ?_
        refine j_iconst (pc := 31) C dX7_isRing_31 ?_
        refine j_icmp_ne (pc := 32) (tgt := 39) C dX7_isRing_32 rfl ?_ ?_
        · refine j_iconst (pc := 35) C dX7_isRing_35 ?_
          refine j_goto (pc := 36) (tgt := 44) C dX7_isRing_36 rfl ?_
          refine j_istore_n (pc := 44) C hN dX7_isRing_44 rfl (by decide) (lv' := [(1, .int (oI 1)), (0, .ref (G.2.2.1 0)), (2, .int (oI l2))]) rfl ?_
          refine j_iinc (pc := 45) C hN dX7_isRing_45 2 rfl (by decide) (lv' := [(2, .int (oI (l2 + 1))), (1, .int (oI 1)), (0, .ref (G.2.2.1 0))]) rfl ?_
          refine j_goto (pc := 48) (tgt := 7) C dX7_isRing_48 rfl ?_
          exact j_sub [2, 1, 0] rfl (ih _ _)
        · refine j_iconst (pc := 39) C dX7_isRing_39 ?_
          refine j_goto (pc := 40) (tgt := 44) C dX7_isRing_40 rfl ?_
          refine j_istore_n (pc := 44) C hN dX7_isRing_44 rfl (by decide) (lv' := [(1, .int (oI 0)), (0, .ref (G.2.2.1 0)), (2, .int (oI l2))]) rfl ?_
          refine j_iinc (pc := 45) C hN dX7_isRing_45 2 rfl (by decide) (lv' := [(2, .int (oI (l2 + 1))), (1, .int (oI 0)), (0, .ref (G.2.2.1 0))]) rfl ?_
          refine j_goto (pc := 48) (tgt := 7) C dX7_isRing_48 rfl ?_
          exact j_sub [2, 1, 0] rfl (ih _ _)
set_option maxHeartbeats 4000000 in
set_option maxRecDepth 100000 in
theorem X7_isRing_m (l : Launch) {G : GD} (hj : zInj sM G) {st : PS} {r : Int} (hr : X7_isRing st = some r) : zM l sM G yX7_isRing cX7_isRing 3 (some .boolean) 1 [.ref (G.2.2.1 0)] st (some (.int (oI r))) st :=
  zEnter (f := fR st) hr hj (by decide) rfl (lv := [(0, .ref (G.2.2.1 0))]) rfl (Nat.le_of_ble_eq_true rfl) (fun X _ hN C => by
    unfold X7_isRing
    refine j_iconst (pc := 0) C dX7_isRing_0 ?_
    refine j_istore_n (pc := 1) C hN dX7_isRing_1 rfl (by decide) (lv' := [(1, .int (oI 0)), (0, .ref (G.2.2.1 0))]) rfl ?_
    refine j_aload_n (pc := 2) C dX7_isRing_2 rfl 1 rfl ?_
    refine j_callV1 (pc := 3) C obX7 rfl rfl (X7_begin_m _ hj rfl) kV_X7_262 rfl (by omega) rfl (Nat.le_of_ble_eq_true rfl) dX7_isRing_3 ?_
    refine j_istore_n (pc := 6) C hN dX7_isRing_6 rfl (by decide) (lv' := [(2, .int (oI (X7_begin st))), (1, .int (oI 0)), (0, .ref (G.2.2.1 0))]) rfl ?_
    exact j_sub [2, 1, 0] rfl (X7_isRing_L7_j C hN hj FU _ _))
def X7_manyMore_L4 (l1 : Int) (st : PS) : Nat → Int → Int → Option Int
  | 0, _, _ => none
  | k + 1, l2, l3 => if wI (st 0 0) ≤ wI l3 then some l2 else (bI (zrd st 4 8 l3) (fun v1 => bI (zrd st 4 8 l1) (fun v2 => if wI v1 ≤ wI v2 then X7_manyMore_L4 l1 st k (l2 + 0) (l3 + 1) else (X7_manyMore_L4 l1 st k (l2 + 1) (l3 + 1)))))
def X7_manyMore (st : PS) (l1 : Int) : Option Int := X7_manyMore_L4 l1 st FU 0 0
set_option maxHeartbeats 4000000 in
set_option maxRecDepth 100000 in
theorem X7_manyMore_L4_j {X : JX} {G : GD} (C : zC X sM G RX7 cX7_manyMore (some .int) 0) (hN : X.2.2.2.2.2.2.2.2.2.2.2.2 = 4) (hj : zInj sM G) {l1 : Int} {st : PS} : ∀ (k : Nat) (l2 : Int) (l3 : Int), J X (zI sM G) (zQ sM G (fR st)) st [(0, .ref (G.2.2.1 0)), (1, .int (oI l1)), (2, .int (oI l2)), (3, .int (oI l3))] 4 [] (X7_manyMore_L4 l1 st k l2 l3) := by
  intro k
  induction k with
  | zero => intro l2 l3; exact j_none
  | succ k ih =>
    intro l2 l3
    rw [X7_manyMore_L4]
    refine j_iload_n (pc := 4) C dX7_manyMore_4 rfl 3 rfl ?_
    refine j_aload_n (pc := 5) C dX7_manyMore_5 rfl 0 rfl ?_
    refine gf_X7_7 (pc := 6) C dX7_manyMore_6 ?_
    refine j_icmp_ge (pc := 9) (tgt := 41) C dX7_manyMore_9 rfl ?_ ?_
    · refine j_iload_n (pc := 41) C dX7_manyMore_41 rfl 2 rfl ?_
      exact j_ireturn C rfl rfl rfl rfl dX7_manyMore_42
    · refine j_iload_n (pc := 12) C dX7_manyMore_12 rfl 2 rfl ?_
      refine j_aload_n (pc := 13) C dX7_manyMore_13 rfl 0 rfl ?_
      refine gf_X7_23 (pc := 14) C dX7_manyMore_14 ?_
      refine j_iload_n (pc := 17) C dX7_manyMore_17 rfl 3 rfl ?_
      refine j_bI (fun v1 ev1 => ?_)
      refine j_iald (pc := 18) C arX7_4 ev1 dX7_manyMore_18 ?_
      refine j_aload_n (pc := 19) C dX7_manyMore_19 rfl 0 rfl ?_
      refine gf_X7_23 (pc := 20) C dX7_manyMore_20 ?_
      refine j_iload_n (pc := 23) C dX7_manyMore_23 rfl 1 rfl ?_
      refine j_bI (fun v2 ev2 => ?_)
      refine j_iald (pc := 24) C arX7_4 ev2 dX7_manyMore_24 ?_
      refine j_icmp_le (pc := 25) (tgt := 32) C dX7_manyMore_25 rfl ?_ ?_
      · refine j_iconst (pc := 32) C dX7_manyMore_32 ?_
        refine j_iadd (pc := 33) C dX7_manyMore_33 ?_
        refine j_istore_n (pc := 34) C hN dX7_manyMore_34 rfl (by decide) (lv' := [(2, .int (oI (l2 + 0))), (0, .ref (G.2.2.1 0)), (1, .int (oI l1)), (3, .int (oI l3))]) rfl ?_
        refine j_iinc (pc := 35) C hN dX7_manyMore_35 3 rfl (by decide) (lv' := [(3, .int (oI (l3 + 1))), (2, .int (oI (l2 + 0))), (0, .ref (G.2.2.1 0)), (1, .int (oI l1))]) rfl ?_
        refine j_goto (pc := 38) (tgt := 4) C dX7_manyMore_38 rfl ?_
        exact j_sub [2, 3, 1, 0] rfl (ih _ _)
      · refine j_iconst (pc := 28) C dX7_manyMore_28 ?_
        refine j_goto (pc := 29) (tgt := 33) C dX7_manyMore_29 rfl ?_
        refine j_iadd (pc := 33) C dX7_manyMore_33 ?_
        refine j_istore_n (pc := 34) C hN dX7_manyMore_34 rfl (by decide) (lv' := [(2, .int (oI (l2 + 1))), (0, .ref (G.2.2.1 0)), (1, .int (oI l1)), (3, .int (oI l3))]) rfl ?_
        refine j_iinc (pc := 35) C hN dX7_manyMore_35 3 rfl (by decide) (lv' := [(3, .int (oI (l3 + 1))), (2, .int (oI (l2 + 1))), (0, .ref (G.2.2.1 0)), (1, .int (oI l1))]) rfl ?_
        refine j_goto (pc := 38) (tgt := 4) C dX7_manyMore_38 rfl ?_
        exact j_sub [2, 3, 1, 0] rfl (ih _ _)
set_option maxHeartbeats 4000000 in
set_option maxRecDepth 100000 in
theorem X7_manyMore_m (l : Launch) {G : GD} (hj : zInj sM G) {st : PS} {l1 : Int} {r : Int} (hr : X7_manyMore st l1 = some r) : zM l sM G yX7_manyMore cX7_manyMore 4 (some .int) 0 [.ref (G.2.2.1 0), .int (oI l1)] st (some (.int (oI r))) st :=
  zEnter (f := fR st) hr hj (by decide) rfl (lv := [(0, .ref (G.2.2.1 0)), (1, .int (oI l1))]) rfl (Nat.le_of_ble_eq_true rfl) (fun X _ hN C => by
    unfold X7_manyMore
    refine j_iconst (pc := 0) C dX7_manyMore_0 ?_
    refine j_istore_n (pc := 1) C hN dX7_manyMore_1 rfl (by decide) (lv' := [(2, .int (oI 0)), (0, .ref (G.2.2.1 0)), (1, .int (oI l1))]) rfl ?_
    refine j_iconst (pc := 2) C dX7_manyMore_2 ?_
    refine j_istore_n (pc := 3) C hN dX7_manyMore_3 rfl (by decide) (lv' := [(3, .int (oI 0)), (2, .int (oI 0)), (0, .ref (G.2.2.1 0)), (1, .int (oI l1))]) rfl ?_
    exact j_sub [2, 3, 1, 0] rfl (X7_manyMore_L4_j C hN hj FU _ _))
def X7_factOf (st : PS) (l1 l2 : Int) : Option Int := if wI l1 = 0 then some l2 else (if wI l1 = 1 then bI (zrd st 2 8 l2) (fun v1 => some v1) else (if wI l1 = 2 then bI (zrd st 3 8 l2) (fun v2 => some v2) else (if wI l1 = 3 then bI (zrd st 4 8 l2) (fun v3 => some (zdiv v3 10)) else (if wI l1 = 4 then bI (X7_manyMore st l2) (fun v4 => some v4) else (some (zrem (st 0 1) 10))))))
set_option maxHeartbeats 4000000 in
set_option maxRecDepth 100000 in
theorem X7_factOf_m (l : Launch) {G : GD} (hj : zInj sM G) {st : PS} {l1 l2 : Int} {r : Int} (hr : X7_factOf st l1 l2 = some r) : zM l sM G yX7_factOf cX7_factOf 3 (some .int) 1 [.ref (G.2.2.1 0), .int (oI l1), .int (oI l2)] st (some (.int (oI r))) st :=
  zEnter (f := fR st) hr hj (by decide) rfl (lv := [(0, .ref (G.2.2.1 0)), (1, .int (oI l1)), (2, .int (oI l2))]) rfl (Nat.le_of_ble_eq_true rfl) (fun X _ hN C => by
    unfold X7_factOf
    refine j_iload_n (pc := 0) C dX7_factOf_0 rfl 1 rfl ?_
    refine j_if (fun hc => ?_) (fun hn0 => ?_)
    · refine j_tabIn (pc := 1) (tgt := 36) C dX7_factOf_1 hc (by decide) (by decide) rfl rfl ?_
      refine j_iload_n (pc := 36) C dX7_factOf_36 rfl 2 rfl ?_
      exact j_ireturn C rfl rfl rfl rfl dX7_factOf_37
    · refine j_if (fun hc => ?_) (fun hn1 => ?_)
      · refine j_tabIn (pc := 1) (tgt := 38) C dX7_factOf_1 hc (by decide) (by decide) rfl rfl ?_
        refine j_aload_n (pc := 38) C dX7_factOf_38 rfl 0 rfl ?_
        refine gf_X7_16 (pc := 39) C dX7_factOf_39 ?_
        refine j_iload_n (pc := 42) C dX7_factOf_42 rfl 2 rfl ?_
        refine j_bI (fun v1 ev1 => ?_)
        refine j_iald (pc := 43) C arX7_2 ev1 dX7_factOf_43 ?_
        exact j_ireturn C rfl rfl rfl rfl dX7_factOf_44
      · refine j_if (fun hc => ?_) (fun hn2 => ?_)
        · refine j_tabIn (pc := 1) (tgt := 45) C dX7_factOf_1 hc (by decide) (by decide) rfl rfl ?_
          refine j_aload_n (pc := 45) C dX7_factOf_45 rfl 0 rfl ?_
          refine gf_X7_20 (pc := 46) C dX7_factOf_46 ?_
          refine j_iload_n (pc := 49) C dX7_factOf_49 rfl 2 rfl ?_
          refine j_bI (fun v2 ev2 => ?_)
          refine j_iald (pc := 50) C arX7_3 ev2 dX7_factOf_50 ?_
          exact j_ireturn C rfl rfl rfl rfl dX7_factOf_51
        · refine j_if (fun hc => ?_) (fun hn3 => ?_)
          · refine j_tabIn (pc := 1) (tgt := 52) C dX7_factOf_1 hc (by decide) (by decide) rfl rfl ?_
            refine j_aload_n (pc := 52) C dX7_factOf_52 rfl 0 rfl ?_
            refine gf_X7_23 (pc := 53) C dX7_factOf_53 ?_
            refine j_iload_n (pc := 56) C dX7_factOf_56 rfl 2 rfl ?_
            refine j_bI (fun v3 ev3 => ?_)
            refine j_iald (pc := 57) C arX7_4 ev3 dX7_factOf_57 ?_
            refine j_bipush (pc := 58) C dX7_factOf_58 (by decide) ?_
            refine j_idiv (pc := 60) C (by decide) dX7_factOf_60 ?_
            exact j_ireturn C rfl rfl rfl rfl dX7_factOf_61
          · refine j_if (fun hc => ?_) (fun hn4 => ?_)
            · refine j_tabIn (pc := 1) (tgt := 62) C dX7_factOf_1 hc (by decide) (by decide) rfl rfl ?_
              refine j_aload_n (pc := 62) C dX7_factOf_62 rfl 0 rfl ?_
              refine j_iload_n (pc := 63) C dX7_factOf_63 rfl 2 rfl ?_
              refine j_bI (fun v4 ev4 => ?_)
              refine j_callV1 (pc := 64) C obX7 rfl rfl (X7_manyMore_m _ hj ev4) kV_X7_268 rfl (by omega) rfl (Nat.le_of_ble_eq_true rfl) dX7_factOf_64 ?_
              exact j_ireturn C rfl rfl rfl rfl dX7_factOf_67
            · refine j_tabOut (pc := 1) (tgt := 68) C dX7_factOf_1 (by omega) rfl ?_
              refine j_aload_n (pc := 68) C dX7_factOf_68 rfl 0 rfl ?_
              refine gf_X7_13 (pc := 69) C dX7_factOf_69 ?_
              refine j_bipush (pc := 72) C dX7_factOf_72 (by decide) ?_
              refine j_irem (pc := 74) C (by decide) dX7_factOf_74 ?_
              exact j_ireturn C rfl rfl rfl rfl dX7_factOf_75)
def X7_holds_L10 (l1 : Int) (l2 : Int) : Nat → PS → Int → Int → Option (Int × PS)
  | 0, _, _, _ => none
  | k + 1, st, l3, l4 => bI (zrd st 16 60 l1) (fun v2 => if wI v2 ≤ wI l4 then bI (zrd st 23 100 0) (fun v3 => zbit v3 (some (v3, st))) else (bI (zrd st 17 600 l4) (fun v4 => if wI v4 = wI (-33) then bI (zrd st 23 100 (l3 - 1)) (fun v6 => if wI v6 = 0 then bI (zwr st 23 100 (l3 - 1) 1) (fun s2 => X7_holds_L10 l1 l2 k s2 l3 (l4 + 1)) else (bI (zwr st 23 100 (l3 - 1) 0) (fun s3 => X7_holds_L10 l1 l2 k s3 l3 (l4 + 1)))) else (if 0 ≤ wI v4 then bI (X7_factOf st (zdiv v4 1000) l2) (fun v8 => if wI (zrem (zdiv v4 100) 10) = 0 then if wI (zrem v4 100) ≤ wI v8 then bI (zwr st 23 100 l3 0) (fun s5 => X7_holds_L10 l1 l2 k s5 (l3 + 1) (l4 + 1)) else (bI (zwr st 23 100 l3 1) (fun s6 => X7_holds_L10 l1 l2 k s6 (l3 + 1) (l4 + 1))) else (if wI (zrem (zdiv v4 100) 10) = wI 1 then if wI v8 = wI (zrem v4 100) then bI (zwr st 23 100 l3 1) (fun s7 => X7_holds_L10 l1 l2 k s7 (l3 + 1) (l4 + 1)) else (bI (zwr st 23 100 l3 0) (fun s8 => X7_holds_L10 l1 l2 k s8 (l3 + 1) (l4 + 1))) else (if wI v8 ≤ wI (zrem v4 100) then bI (zwr st 23 100 l3 0) (fun s9 => X7_holds_L10 l1 l2 k s9 (l3 + 1) (l4 + 1)) else (bI (zwr st 23 100 l3 1) (fun s10 => X7_holds_L10 l1 l2 k s10 (l3 + 1) (l4 + 1)))))) else (if wI v4 = wI (-38) then bI (zrd st 23 100 ((l3 + (-1)) - 1)) (fun v11 => if wI v11 = 0 then bI (zwr st 23 100 ((l3 + (-1)) - 1) 0) (fun s11 => X7_holds_L10 l1 l2 k s11 (l3 + (-1)) (l4 + 1)) else (bI (zrd st 23 100 (l3 + (-1))) (fun v13 => if wI v13 = 0 then bI (zwr st 23 100 ((l3 + (-1)) - 1) 0) (fun s12 => X7_holds_L10 l1 l2 k s12 (l3 + (-1)) (l4 + 1)) else (bI (zwr st 23 100 ((l3 + (-1)) - 1) 1) (fun s13 => X7_holds_L10 l1 l2 k s13 (l3 + (-1)) (l4 + 1)))))) else (bI (zrd st 23 100 ((l3 + (-1)) - 1)) (fun v14 => if wI v14 = 0 then bI (zrd st 23 100 (l3 + (-1))) (fun v16 => if wI v16 = 0 then bI (zwr st 23 100 ((l3 + (-1)) - 1) 0) (fun s14 => X7_holds_L10 l1 l2 k s14 (l3 + (-1)) (l4 + 1)) else (bI (zwr st 23 100 ((l3 + (-1)) - 1) 1) (fun s15 => X7_holds_L10 l1 l2 k s15 (l3 + (-1)) (l4 + 1)))) else (bI (zwr st 23 100 ((l3 + (-1)) - 1) 1) (fun s16 => X7_holds_L10 l1 l2 k s16 (l3 + (-1)) (l4 + 1))))))))))
def X7_holds (st : PS) (l1 l2 : Int) : Option (Int × PS) := bI (zrd st 15 60 l1) (fun v1 => X7_holds_L10 l1 l2 FU st 0 v1)
set_option maxHeartbeats 4000000 in
set_option maxRecDepth 100000 in
theorem X7_holds_L10_j {X : JX} {G : GD} (C : zC X sM G RX7 cX7_holds (some .boolean) 2) (hN : X.2.2.2.2.2.2.2.2.2.2.2.2 = 8) (hj : zInj sM G) {l1 : Int} {l2 : Int} : ∀ (k : Nat) (st : PS) (l3 : Int) (l4 : Int), J X (zI sM G) (zQ sM G fI) st [(0, .ref (G.2.2.1 0)), (1, .int (oI l1)), (2, .int (oI l2)), (3, .int (oI l3)), (4, .int (oI l4))] 10 [] (X7_holds_L10 l1 l2 k st l3 l4) := by
  intro k
  induction k with
  | zero => intro st l3 l4; exact j_none
  | succ k ih =>
    intro st l3 l4
    rw [X7_holds_L10]
    refine j_iload (pc := 10) C dX7_holds_10 4 rfl ?_
    refine j_aload_n (pc := 12) C dX7_holds_12 rfl 0 rfl ?_
    refine gf_X7_59 (pc := 13) C dX7_holds_13 ?_
    refine j_iload_n (pc := 16) C dX7_holds_16 rfl 1 rfl ?_
    refine j_bI (fun v2 ev2 => ?_)
    refine j_iald (pc := 17) C arX7_16 ev2 dX7_holds_17 ?_
    refine j_icmp_ge (pc := 18) (tgt := 243) C dX7_holds_18 rfl ?_ ?_
    · refine j_aload_n (pc := 243) C dX7_holds_243 rfl 0 rfl ?_
      refine gf_X7_80 (pc := 244) C dX7_holds_244 ?_
      refine j_iconst (pc := 247) C dX7_holds_247 ?_
      refine j_bI (fun v3 ev3 => ?_)
      refine j_zald (pc := 248) C arX7_23 ev3 dX7_holds_248 ?_
      refine j_bit (fun hb => ?_)
      exact j_ireturn C rfl rfl (znar hb) rfl dX7_holds_249
    · refine j_aload_n (pc := 21) C dX7_holds_21 rfl 0 rfl ?_
      refine gf_X7_62 (pc := 22) C dX7_holds_22 ?_
      refine j_iload (pc := 25) C dX7_holds_25 4 rfl ?_
      refine j_bI (fun v4 ev4 => ?_)
      refine j_iald (pc := 27) C arX7_17 ev4 dX7_holds_27 ?_
      refine j_istore (pc := 28) C hN dX7_holds_28 (by decide) (lv' := [(5, .int (oI v4)), (0, .ref (G.2.2.1 0)), (1, .int (oI l1)), (2, .int (oI l2)), (3, .int (oI l3)), (4, .int (oI l4))]) rfl ?_
      refine j_iload (pc := 30) C dX7_holds_30 0 rfl ?_
      refine j_bipush (pc := 32) C dX7_holds_32 (by decide) ?_
      refine j_icmp_ne (pc := 34) (tgt := 64) C dX7_holds_34 rfl ?_ ?_
      · refine j_aload_n (pc := 37) C dX7_holds_37 rfl 1 rfl ?_
        refine gf_X7_80 (pc := 38) C dX7_holds_38 ?_
        refine j_iload_n (pc := 41) C dX7_holds_41 rfl 4 rfl ?_
        refine j_iconst (pc := 42) C dX7_holds_42 ?_
        refine j_isub (pc := 43) C dX7_holds_43 ?_
        refine j_aload_n (pc := 44) C dX7_holds_44 rfl 1 rfl ?_
        refine gf_X7_80 (pc := 45) C dX7_holds_45 ?_
        refine j_iload_n (pc := 48) C dX7_holds_48 rfl 4 rfl ?_
        refine j_iconst (pc := 49) C dX7_holds_49 ?_
        refine j_isub (pc := 50) C dX7_holds_50 ?_
        refine j_bI (fun v6 ev6 => ?_)
        refine j_zald (pc := 51) C arX7_23 ev6 dX7_holds_51 ?_
        refine j_if_ne (pc := 52) (tgt := 59) C dX7_holds_52 rfl ?_ ?_
        · refine j_iconst (pc := 55) C dX7_holds_55 ?_
          refine j_goto (pc := 56) (tgt := 60) C dX7_holds_56 rfl ?_
          refine j_bI (fun s2 es2 => ?_)
          refine j_zast (pc := 60) C arX7_23 (by decide) es2 dX7_holds_60 ?_
          refine j_goto (pc := 61) (tgt := 237) C dX7_holds_61 rfl ?_
          refine j_iinc (pc := 237) C hN dX7_holds_237 5 rfl (by decide) (lv' := [(4, .int (oI (l4 + 1))), (5, .int (oI v4)), (0, .ref (G.2.2.1 0)), (1, .int (oI l1)), (2, .int (oI l2)), (3, .int (oI l3))]) rfl ?_
          refine j_goto (pc := 240) (tgt := 10) C dX7_holds_240 rfl ?_
          exact j_sub [2, 3, 4, 5, 0] rfl (ih _ _ _)
        · refine j_iconst (pc := 59) C dX7_holds_59 ?_
          refine j_bI (fun s3 es3 => ?_)
          refine j_zast (pc := 60) C arX7_23 (by decide) es3 dX7_holds_60 ?_
          refine j_goto (pc := 61) (tgt := 237) C dX7_holds_61 rfl ?_
          refine j_iinc (pc := 237) C hN dX7_holds_237 5 rfl (by decide) (lv' := [(4, .int (oI (l4 + 1))), (5, .int (oI v4)), (0, .ref (G.2.2.1 0)), (1, .int (oI l1)), (2, .int (oI l2)), (3, .int (oI l3))]) rfl ?_
          refine j_goto (pc := 240) (tgt := 10) C dX7_holds_240 rfl ?_
          exact j_sub [2, 3, 4, 5, 0] rfl (ih _ _ _)
      · refine j_iload (pc := 64) C dX7_holds_64 0 rfl ?_
        refine j_if_ge (pc := 66) (tgt := 143) C dX7_holds_66 rfl ?_ ?_
        · refine j_aload_n (pc := 143) C dX7_holds_143 rfl 1 rfl ?_
          refine j_iload (pc := 144) C dX7_holds_144 0 rfl ?_
          refine j_sipush (pc := 146) C dX7_holds_146 (by decide) ?_
          refine j_idiv (pc := 149) C (by decide) dX7_holds_149 ?_
          refine j_iload_n (pc := 150) C dX7_holds_150 rfl 3 rfl ?_
          refine j_bI (fun v8 ev8 => ?_)
          refine j_callV1 (pc := 151) C obX7 rfl rfl (X7_factOf_m _ hj ev8) kV_X7_271 rfl (by omega) rfl (Nat.le_of_ble_eq_true rfl) dX7_holds_151 ?_
          refine j_istore (pc := 154) C hN dX7_holds_154 (by decide) (lv' := [(6, .int (oI v8)), (5, .int (oI v4)), (0, .ref (G.2.2.1 0)), (1, .int (oI l1)), (2, .int (oI l2)), (3, .int (oI l3)), (4, .int (oI l4))]) rfl ?_
          refine j_iload (pc := 156) C dX7_holds_156 1 rfl ?_
          refine j_bipush (pc := 158) C dX7_holds_158 (by decide) ?_
          refine j_idiv (pc := 160) C (by decide) dX7_holds_160 ?_
          refine j_bipush (pc := 161) C dX7_holds_161 (by decide) ?_
          refine j_irem (pc := 163) C (by decide) dX7_holds_163 ?_
          refine j_istore (pc := 164) C hN dX7_holds_164 (by decide) (lv' := [(7, .int (oI (zrem (zdiv v4 100) 10))), (6, .int (oI v8)), (5, .int (oI v4)), (0, .ref (G.2.2.1 0)), (1, .int (oI l1)), (2, .int (oI l2)), (3, .int (oI l3)), (4, .int (oI l4))]) rfl ?_
          refine j_aload_n (pc := 166) C dX7_holds_166 rfl 3 rfl ?_
          refine gf_X7_80 (pc := 167) C dX7_holds_167 ?_
          refine j_iload_n (pc := 170) C dX7_holds_170 rfl 6 rfl ?_
          refine j_iload (pc := 171) C dX7_holds_171 0 rfl ?_
          refine j_if_ne (pc := 173) (tgt := 194) C dX7_holds_173 rfl ?_ ?_
          · refine j_iload (pc := 176) C dX7_holds_176 1 rfl ?_
            refine j_iload (pc := 178) C dX7_holds_178 2 rfl ?_
            refine j_bipush (pc := 180) C dX7_holds_180 (by decide) ?_
            refine j_irem (pc := 182) C (by decide) dX7_holds_182 ?_
            refine j_icmp_ge (pc := 183) (tgt := 190) C dX7_holds_183 rfl ?_ ?_
            · refine j_iconst (pc := 190) C dX7_holds_190 ?_
              refine j_goto (pc := 191) (tgt := 233) C dX7_holds_191 rfl ?_
              refine j_bI (fun s5 es5 => ?_)
              refine j_zast (pc := 233) C arX7_23 (by decide) es5 dX7_holds_233 ?_
              refine j_iinc (pc := 234) C hN dX7_holds_234 6 rfl (by decide) (lv' := [(3, .int (oI (l3 + 1))), (7, .int (oI (zrem (zdiv v4 100) 10))), (6, .int (oI v8)), (5, .int (oI v4)), (0, .ref (G.2.2.1 0)), (1, .int (oI l1)), (2, .int (oI l2)), (4, .int (oI l4))]) rfl ?_
              refine j_iinc (pc := 237) C hN dX7_holds_237 7 rfl (by decide) (lv' := [(4, .int (oI (l4 + 1))), (3, .int (oI (l3 + 1))), (7, .int (oI (zrem (zdiv v4 100) 10))), (6, .int (oI v8)), (5, .int (oI v4)), (0, .ref (G.2.2.1 0)), (1, .int (oI l1)), (2, .int (oI l2))]) rfl ?_
              refine j_goto (pc := 240) (tgt := 10) C dX7_holds_240 rfl ?_
              exact j_sub [5, 6, 7, 1, 0] rfl (ih _ _ _)
            · refine j_iconst (pc := 186) C dX7_holds_186 ?_
              refine j_goto (pc := 187) (tgt := 233) C dX7_holds_187 rfl ?_
              refine j_bI (fun s6 es6 => ?_)
              refine j_zast (pc := 233) C arX7_23 (by decide) es6 dX7_holds_233 ?_
              refine j_iinc (pc := 234) C hN dX7_holds_234 6 rfl (by decide) (lv' := [(3, .int (oI (l3 + 1))), (7, .int (oI (zrem (zdiv v4 100) 10))), (6, .int (oI v8)), (5, .int (oI v4)), (0, .ref (G.2.2.1 0)), (1, .int (oI l1)), (2, .int (oI l2)), (4, .int (oI l4))]) rfl ?_
              refine j_iinc (pc := 237) C hN dX7_holds_237 7 rfl (by decide) (lv' := [(4, .int (oI (l4 + 1))), (3, .int (oI (l3 + 1))), (7, .int (oI (zrem (zdiv v4 100) 10))), (6, .int (oI v8)), (5, .int (oI v4)), (0, .ref (G.2.2.1 0)), (1, .int (oI l1)), (2, .int (oI l2))]) rfl ?_
              refine j_goto (pc := 240) (tgt := 10) C dX7_holds_240 rfl ?_
              exact j_sub [5, 6, 7, 1, 0] rfl (ih _ _ _)
          · refine j_iload (pc := 194) C dX7_holds_194 0 rfl ?_
            refine j_iconst (pc := 196) C dX7_holds_196 ?_
            refine j_icmp_ne (pc := 197) (tgt := 218) C dX7_holds_197 rfl ?_ ?_
            · refine j_iload (pc := 200) C dX7_holds_200 1 rfl ?_
              refine j_iload (pc := 202) C dX7_holds_202 2 rfl ?_
              refine j_bipush (pc := 204) C dX7_holds_204 (by decide) ?_
              refine j_irem (pc := 206) C (by decide) dX7_holds_206 ?_
              refine j_icmp_ne (pc := 207) (tgt := 214) C dX7_holds_207 rfl ?_ ?_
              · refine j_iconst (pc := 210) C dX7_holds_210 ?_
                refine j_goto (pc := 211) (tgt := 233) C dX7_holds_211 rfl ?_
                refine j_bI (fun s7 es7 => ?_)
                refine j_zast (pc := 233) C arX7_23 (by decide) es7 dX7_holds_233 ?_
                refine j_iinc (pc := 234) C hN dX7_holds_234 6 rfl (by decide) (lv' := [(3, .int (oI (l3 + 1))), (7, .int (oI (zrem (zdiv v4 100) 10))), (6, .int (oI v8)), (5, .int (oI v4)), (0, .ref (G.2.2.1 0)), (1, .int (oI l1)), (2, .int (oI l2)), (4, .int (oI l4))]) rfl ?_
                refine j_iinc (pc := 237) C hN dX7_holds_237 7 rfl (by decide) (lv' := [(4, .int (oI (l4 + 1))), (3, .int (oI (l3 + 1))), (7, .int (oI (zrem (zdiv v4 100) 10))), (6, .int (oI v8)), (5, .int (oI v4)), (0, .ref (G.2.2.1 0)), (1, .int (oI l1)), (2, .int (oI l2))]) rfl ?_
                refine j_goto (pc := 240) (tgt := 10) C dX7_holds_240 rfl ?_
                exact j_sub [5, 6, 7, 1, 0] rfl (ih _ _ _)
              · refine j_iconst (pc := 214) C dX7_holds_214 ?_
                refine j_goto (pc := 215) (tgt := 233) C dX7_holds_215 rfl ?_
                refine j_bI (fun s8 es8 => ?_)
                refine j_zast (pc := 233) C arX7_23 (by decide) es8 dX7_holds_233 ?_
                refine j_iinc (pc := 234) C hN dX7_holds_234 6 rfl (by decide) (lv' := [(3, .int (oI (l3 + 1))), (7, .int (oI (zrem (zdiv v4 100) 10))), (6, .int (oI v8)), (5, .int (oI v4)), (0, .ref (G.2.2.1 0)), (1, .int (oI l1)), (2, .int (oI l2)), (4, .int (oI l4))]) rfl ?_
                refine j_iinc (pc := 237) C hN dX7_holds_237 7 rfl (by decide) (lv' := [(4, .int (oI (l4 + 1))), (3, .int (oI (l3 + 1))), (7, .int (oI (zrem (zdiv v4 100) 10))), (6, .int (oI v8)), (5, .int (oI v4)), (0, .ref (G.2.2.1 0)), (1, .int (oI l1)), (2, .int (oI l2))]) rfl ?_
                refine j_goto (pc := 240) (tgt := 10) C dX7_holds_240 rfl ?_
                exact j_sub [5, 6, 7, 1, 0] rfl (ih _ _ _)
            · refine j_iload (pc := 218) C dX7_holds_218 1 rfl ?_
              refine j_iload (pc := 220) C dX7_holds_220 2 rfl ?_
              refine j_bipush (pc := 222) C dX7_holds_222 (by decide) ?_
              refine j_irem (pc := 224) C (by decide) dX7_holds_224 ?_
              refine j_icmp_le (pc := 225) (tgt := 232) C dX7_holds_225 rfl ?_ ?_
              · refine j_iconst (pc := 232) C dX7_holds_232 ?_
                refine j_bI (fun s9 es9 => ?_)
                refine j_zast (pc := 233) C arX7_23 (by decide) es9 dX7_holds_233 ?_
                refine j_iinc (pc := 234) C hN dX7_holds_234 6 rfl (by decide) (lv' := [(3, .int (oI (l3 + 1))), (7, .int (oI (zrem (zdiv v4 100) 10))), (6, .int (oI v8)), (5, .int (oI v4)), (0, .ref (G.2.2.1 0)), (1, .int (oI l1)), (2, .int (oI l2)), (4, .int (oI l4))]) rfl ?_
                refine j_iinc (pc := 237) C hN dX7_holds_237 7 rfl (by decide) (lv' := [(4, .int (oI (l4 + 1))), (3, .int (oI (l3 + 1))), (7, .int (oI (zrem (zdiv v4 100) 10))), (6, .int (oI v8)), (5, .int (oI v4)), (0, .ref (G.2.2.1 0)), (1, .int (oI l1)), (2, .int (oI l2))]) rfl ?_
                refine j_goto (pc := 240) (tgt := 10) C dX7_holds_240 rfl ?_
                exact j_sub [5, 6, 7, 1, 0] rfl (ih _ _ _)
              · refine j_iconst (pc := 228) C dX7_holds_228 ?_
                refine j_goto (pc := 229) (tgt := 233) C dX7_holds_229 rfl ?_
                refine j_bI (fun s10 es10 => ?_)
                refine j_zast (pc := 233) C arX7_23 (by decide) es10 dX7_holds_233 ?_
                refine j_iinc (pc := 234) C hN dX7_holds_234 6 rfl (by decide) (lv' := [(3, .int (oI (l3 + 1))), (7, .int (oI (zrem (zdiv v4 100) 10))), (6, .int (oI v8)), (5, .int (oI v4)), (0, .ref (G.2.2.1 0)), (1, .int (oI l1)), (2, .int (oI l2)), (4, .int (oI l4))]) rfl ?_
                refine j_iinc (pc := 237) C hN dX7_holds_237 7 rfl (by decide) (lv' := [(4, .int (oI (l4 + 1))), (3, .int (oI (l3 + 1))), (7, .int (oI (zrem (zdiv v4 100) 10))), (6, .int (oI v8)), (5, .int (oI v4)), (0, .ref (G.2.2.1 0)), (1, .int (oI l1)), (2, .int (oI l2))]) rfl ?_
                refine j_goto (pc := 240) (tgt := 10) C dX7_holds_240 rfl ?_
                exact j_sub [5, 6, 7, 1, 0] rfl (ih _ _ _)
        · refine j_iinc (pc := 69) C hN dX7_holds_69 4 rfl (by decide) (lv' := [(3, .int (oI (l3 + (-1)))), (5, .int (oI v4)), (0, .ref (G.2.2.1 0)), (1, .int (oI l1)), (2, .int (oI l2)), (4, .int (oI l4))]) rfl ?_
          refine j_aload_n (pc := 72) C dX7_holds_72 rfl 2 rfl ?_
          refine gf_X7_80 (pc := 73) C dX7_holds_73 ?_
          refine j_iload_n (pc := 76) C dX7_holds_76 rfl 0 rfl ?_
          refine j_iconst (pc := 77) C dX7_holds_77 ?_
          refine j_isub (pc := 78) C dX7_holds_78 ?_
          refine j_iload (pc := 79) C dX7_holds_79 1 rfl ?_
          refine j_bipush (pc := 81) C dX7_holds_81 (by decide) ?_
          refine j_icmp_ne (pc := 83) (tgt := 114) C dX7_holds_83 rfl ?_ ?_
          · refine j_aload_n (pc := 86) C dX7_holds_86 rfl 2 rfl ?_
            refine gf_X7_80 (pc := 87) C dX7_holds_87 ?_
            refine j_iload_n (pc := 90) C dX7_holds_90 rfl 0 rfl ?_
            refine j_iconst (pc := 91) C dX7_holds_91 ?_
            refine j_isub (pc := 92) C dX7_holds_92 ?_
            refine j_bI (fun v11 ev11 => ?_)
            refine j_zald (pc := 93) C arX7_23 ev11 dX7_holds_93 ?_
            refine j_if_eq (pc := 94) (tgt := 110) C dX7_holds_94 rfl ?_ ?_
            · refine j_iconst (pc := 110) C dX7_holds_110 ?_
              refine j_goto (pc := 111) (tgt := 139) C dX7_holds_111 rfl ?_
              refine j_bI (fun s11 es11 => ?_)
              refine j_zast (pc := 139) C arX7_23 (by decide) es11 dX7_holds_139 ?_
              refine j_goto (pc := 140) (tgt := 237) C dX7_holds_140 rfl ?_
              refine j_iinc (pc := 237) C hN dX7_holds_237 5 rfl (by decide) (lv' := [(4, .int (oI (l4 + 1))), (3, .int (oI (l3 + (-1)))), (5, .int (oI v4)), (0, .ref (G.2.2.1 0)), (1, .int (oI l1)), (2, .int (oI l2))]) rfl ?_
              refine j_goto (pc := 240) (tgt := 10) C dX7_holds_240 rfl ?_
              exact j_sub [3, 4, 5, 1, 0] rfl (ih _ _ _)
            · refine j_aload_n (pc := 97) C dX7_holds_97 rfl 2 rfl ?_
              refine gf_X7_80 (pc := 98) C dX7_holds_98 ?_
              refine j_iload_n (pc := 101) C dX7_holds_101 rfl 0 rfl ?_
              refine j_bI (fun v13 ev13 => ?_)
              refine j_zald (pc := 102) C arX7_23 ev13 dX7_holds_102 ?_
              refine j_if_eq (pc := 103) (tgt := 110) C dX7_holds_103 rfl ?_ ?_
              · refine j_iconst (pc := 110) C dX7_holds_110 ?_
                refine j_goto (pc := 111) (tgt := 139) C dX7_holds_111 rfl ?_
                refine j_bI (fun s12 es12 => ?_)
                refine j_zast (pc := 139) C arX7_23 (by decide) es12 dX7_holds_139 ?_
                refine j_goto (pc := 140) (tgt := 237) C dX7_holds_140 rfl ?_
                refine j_iinc (pc := 237) C hN dX7_holds_237 5 rfl (by decide) (lv' := [(4, .int (oI (l4 + 1))), (3, .int (oI (l3 + (-1)))), (5, .int (oI v4)), (0, .ref (G.2.2.1 0)), (1, .int (oI l1)), (2, .int (oI l2))]) rfl ?_
                refine j_goto (pc := 240) (tgt := 10) C dX7_holds_240 rfl ?_
                exact j_sub [3, 4, 5, 1, 0] rfl (ih _ _ _)
              · refine j_iconst (pc := 106) C dX7_holds_106 ?_
                refine j_goto (pc := 107) (tgt := 139) C dX7_holds_107 rfl ?_
                refine j_bI (fun s13 es13 => ?_)
                refine j_zast (pc := 139) C arX7_23 (by decide) es13 dX7_holds_139 ?_
                refine j_goto (pc := 140) (tgt := 237) C dX7_holds_140 rfl ?_
                refine j_iinc (pc := 237) C hN dX7_holds_237 5 rfl (by decide) (lv' := [(4, .int (oI (l4 + 1))), (3, .int (oI (l3 + (-1)))), (5, .int (oI v4)), (0, .ref (G.2.2.1 0)), (1, .int (oI l1)), (2, .int (oI l2))]) rfl ?_
                refine j_goto (pc := 240) (tgt := 10) C dX7_holds_240 rfl ?_
                exact j_sub [3, 4, 5, 1, 0] rfl (ih _ _ _)
          · refine j_aload_n (pc := 114) C dX7_holds_114 rfl 2 rfl ?_
            refine gf_X7_80 (pc := 115) C dX7_holds_115 ?_
            refine j_iload_n (pc := 118) C dX7_holds_118 rfl 0 rfl ?_
            refine j_iconst (pc := 119) C dX7_holds_119 ?_
            refine j_isub (pc := 120) C dX7_holds_120 ?_
            refine j_bI (fun v14 ev14 => ?_)
            refine j_zald (pc := 121) C arX7_23 ev14 dX7_holds_121 ?_
            refine j_if_ne (pc := 122) (tgt := 134) C dX7_holds_122 rfl ?_ ?_
            · refine j_aload_n (pc := 125) C dX7_holds_125 rfl 2 rfl ?_
              refine gf_X7_80 (pc := 126) C dX7_holds_126 ?_
              refine j_iload_n (pc := 129) C dX7_holds_129 rfl 0 rfl ?_
              refine j_bI (fun v16 ev16 => ?_)
              refine j_zald (pc := 130) C arX7_23 ev16 dX7_holds_130 ?_
              refine j_if_eq (pc := 131) (tgt := 138) C dX7_holds_131 rfl ?_ ?_
              · refine j_iconst (pc := 138) C dX7_holds_138 ?_
                refine j_bI (fun s14 es14 => ?_)
                refine j_zast (pc := 139) C arX7_23 (by decide) es14 dX7_holds_139 ?_
                refine j_goto (pc := 140) (tgt := 237) C dX7_holds_140 rfl ?_
                refine j_iinc (pc := 237) C hN dX7_holds_237 5 rfl (by decide) (lv' := [(4, .int (oI (l4 + 1))), (3, .int (oI (l3 + (-1)))), (5, .int (oI v4)), (0, .ref (G.2.2.1 0)), (1, .int (oI l1)), (2, .int (oI l2))]) rfl ?_
                refine j_goto (pc := 240) (tgt := 10) C dX7_holds_240 rfl ?_
                exact j_sub [3, 4, 5, 1, 0] rfl (ih _ _ _)
              · refine j_iconst (pc := 134) C dX7_holds_134 ?_
                refine j_goto (pc := 135) (tgt := 139) C dX7_holds_135 rfl ?_
                refine j_bI (fun s15 es15 => ?_)
                refine j_zast (pc := 139) C arX7_23 (by decide) es15 dX7_holds_139 ?_
                refine j_goto (pc := 140) (tgt := 237) C dX7_holds_140 rfl ?_
                refine j_iinc (pc := 237) C hN dX7_holds_237 5 rfl (by decide) (lv' := [(4, .int (oI (l4 + 1))), (3, .int (oI (l3 + (-1)))), (5, .int (oI v4)), (0, .ref (G.2.2.1 0)), (1, .int (oI l1)), (2, .int (oI l2))]) rfl ?_
                refine j_goto (pc := 240) (tgt := 10) C dX7_holds_240 rfl ?_
                exact j_sub [3, 4, 5, 1, 0] rfl (ih _ _ _)
            · refine j_iconst (pc := 134) C dX7_holds_134 ?_
              refine j_goto (pc := 135) (tgt := 139) C dX7_holds_135 rfl ?_
              refine j_bI (fun s16 es16 => ?_)
              refine j_zast (pc := 139) C arX7_23 (by decide) es16 dX7_holds_139 ?_
              refine j_goto (pc := 140) (tgt := 237) C dX7_holds_140 rfl ?_
              refine j_iinc (pc := 237) C hN dX7_holds_237 5 rfl (by decide) (lv' := [(4, .int (oI (l4 + 1))), (3, .int (oI (l3 + (-1)))), (5, .int (oI v4)), (0, .ref (G.2.2.1 0)), (1, .int (oI l1)), (2, .int (oI l2))]) rfl ?_
              refine j_goto (pc := 240) (tgt := 10) C dX7_holds_240 rfl ?_
              exact j_sub [3, 4, 5, 1, 0] rfl (ih _ _ _)
set_option maxHeartbeats 4000000 in
set_option maxRecDepth 100000 in
theorem X7_holds_m (l : Launch) {G : GD} (hj : zInj sM G) {st : PS} {l1 l2 : Int} {r : (Int × PS)} (hr : X7_holds st l1 l2 = some r) : zM l sM G yX7_holds cX7_holds 8 (some .boolean) 2 [.ref (G.2.2.1 0), .int (oI l1), .int (oI l2)] st (some (.int (oI r.1))) r.2 :=
  zEnter (f := fI) hr hj (by decide) rfl (lv := [(0, .ref (G.2.2.1 0)), (1, .int (oI l1)), (2, .int (oI l2))]) rfl (Nat.le_of_ble_eq_true rfl) (fun X _ hN C => by
    unfold X7_holds
    refine j_iconst (pc := 0) C dX7_holds_0 ?_
    refine j_istore_n (pc := 1) C hN dX7_holds_1 rfl (by decide) (lv' := [(3, .int (oI 0)), (0, .ref (G.2.2.1 0)), (1, .int (oI l1)), (2, .int (oI l2))]) rfl ?_
    refine j_aload_n (pc := 2) C dX7_holds_2 rfl 1 rfl ?_
    refine gf_X7_56 (pc := 3) C dX7_holds_3 ?_
    refine j_iload_n (pc := 6) C dX7_holds_6 rfl 2 rfl ?_
    refine j_bI (fun v1 ev1 => ?_)
    refine j_iald (pc := 7) C arX7_15 ev1 dX7_holds_7 ?_
    refine j_istore (pc := 8) C hN dX7_holds_8 (by decide) (lv' := [(4, .int (oI v1)), (3, .int (oI 0)), (0, .ref (G.2.2.1 0)), (1, .int (oI l1)), (2, .int (oI l2))]) rfl ?_
    exact j_sub [2, 3, 4, 1, 0] rfl (X7_holds_L10_j C hN hj FU _ _ _))
def X7_adds_L7 (l1 : Int) : Nat → PS → Int → Int → Option (Int × PS)
  | 0, _, _, _ => none
  | k + 1, st, l2, l3 => bI (X7_behind st) (fun v1 => if wI v1 ≤ wI l3 then some (l2, st) else (bI (zrd st 13 60 l3) (fun v2 => if wI 1 < wI v2 then X7_adds_L7 l1 k st l2 (l3 + 1) else (bP (X7_holds st l3 l1) (fun v4 s2 => if wI v4 = 0 then X7_adds_L7 l1 k s2 l2 (l3 + 1) else (bI (zrd s2 13 60 l3) (fun v8 => if wI v8 = 0 then bI (zrd s2 14 60 l3) (fun v10 => X7_adds_L7 l1 k s2 (l2 + v10) (l3 + 1)) else (bI (zrd s2 14 60 l3) (fun v11 => X7_adds_L7 l1 k s2 (l2 + (-v11)) (l3 + 1))))))))))
def X7_adds (st : PS) (l1 : Int) : Option (Int × PS) := X7_adds_L7 l1 FU st 0 (X7_begin st)
set_option maxHeartbeats 4000000 in
set_option maxRecDepth 100000 in
theorem X7_adds_L7_j {X : JX} {G : GD} (C : zC X sM G RX7 cX7_adds (some .int) 3) (hN : X.2.2.2.2.2.2.2.2.2.2.2.2 = 4) (hj : zInj sM G) {l1 : Int} : ∀ (k : Nat) (st : PS) (l2 : Int) (l3 : Int), J X (zI sM G) (zQ sM G fI) st [(0, .ref (G.2.2.1 0)), (1, .int (oI l1)), (2, .int (oI l2)), (3, .int (oI l3))] 7 [] (X7_adds_L7 l1 k st l2 l3) := by
  intro k
  induction k with
  | zero => intro st l2 l3; exact j_none
  | succ k ih =>
    intro st l2 l3
    rw [X7_adds_L7]
    refine j_iload_n (pc := 7) C dX7_adds_7 rfl 3 rfl ?_
    refine j_aload_n (pc := 8) C dX7_adds_8 rfl 0 rfl ?_
    refine j_bI (fun v1 ev1 => ?_)
    refine j_callV1 (pc := 9) C obX7 rfl rfl (X7_behind_m _ hj ev1) kV_X7_265 rfl (by omega) rfl (Nat.le_of_ble_eq_true rfl) dX7_adds_9 ?_
    refine j_icmp_ge (pc := 12) (tgt := 71) C dX7_adds_12 rfl ?_ ?_
    · refine j_iload_n (pc := 71) C dX7_adds_71 rfl 2 rfl ?_
      exact j_ireturn C rfl rfl rfl rfl dX7_adds_72
    · refine j_aload_n (pc := 15) C dX7_adds_15 rfl 0 rfl ?_
      refine gf_X7_50 (pc := 16) C dX7_adds_16 ?_
      refine j_iload_n (pc := 19) C dX7_adds_19 rfl 3 rfl ?_
      refine j_bI (fun v2 ev2 => ?_)
      refine j_iald (pc := 20) C arX7_13 ev2 dX7_adds_20 ?_
      refine j_iconst (pc := 21) C dX7_adds_21 ?_
      refine j_icmp_gt (pc := 22) (tgt := 65) C dX7_adds_22 rfl ?_ ?_
      · refine j_iinc (pc := 65) C hN dX7_adds_65 3 rfl (by decide) (lv' := [(3, .int (oI (l3 + 1))), (0, .ref (G.2.2.1 0)), (1, .int (oI l1)), (2, .int (oI l2))]) rfl ?_
        refine j_goto (pc := 68) (tgt := 7) C dX7_adds_68 rfl ?_
        exact j_sub [1, 2, 3, 0] rfl (ih _ _ _)
      · refine j_aload_n (pc := 25) C dX7_adds_25 rfl 0 rfl ?_
        refine j_iload_n (pc := 26) C dX7_adds_26 rfl 3 rfl ?_
        refine j_iload_n (pc := 27) C dX7_adds_27 rfl 1 rfl ?_
        refine j_bP (fun v4 s2 es2 => ?_)
        refine j_callV1 (pc := 28) C obX7 rfl rfl (X7_holds_m _ hj es2) kV_X7_275 rfl (by omega) rfl (Nat.le_of_ble_eq_true rfl) dX7_adds_28 ?_
        refine j_if_ne (pc := 31) (tgt := 37) C dX7_adds_31 rfl ?_ ?_
        · refine j_goto (pc := 34) (tgt := 65) C dX7_adds_34 rfl ?_
          refine j_iinc (pc := 65) C hN dX7_adds_65 3 rfl (by decide) (lv' := [(3, .int (oI (l3 + 1))), (0, .ref (G.2.2.1 0)), (1, .int (oI l1)), (2, .int (oI l2))]) rfl ?_
          refine j_goto (pc := 68) (tgt := 7) C dX7_adds_68 rfl ?_
          exact j_sub [1, 2, 3, 0] rfl (ih _ _ _)
        · refine j_iload_n (pc := 37) C dX7_adds_37 rfl 2 rfl ?_
          refine j_aload_n (pc := 38) C dX7_adds_38 rfl 0 rfl ?_
          refine gf_X7_50 (pc := 39) C dX7_adds_39 ?_
          refine j_iload_n (pc := 42) C dX7_adds_42 rfl 3 rfl ?_
          refine j_bI (fun v8 ev8 => ?_)
          refine j_iald (pc := 43) C arX7_13 ev8 dX7_adds_43 ?_
          refine j_if_ne (pc := 44) (tgt := 56) C dX7_adds_44 rfl ?_ ?_
          · refine j_aload_n (pc := 47) C dX7_adds_47 rfl 0 rfl ?_
            refine gf_X7_53 (pc := 48) C dX7_adds_48 ?_
            refine j_iload_n (pc := 51) C dX7_adds_51 rfl 3 rfl ?_
            refine j_bI (fun v10 ev10 => ?_)
            refine j_iald (pc := 52) C arX7_14 ev10 dX7_adds_52 ?_
            refine j_goto (pc := 53) (tgt := 63) C dX7_adds_53 rfl ?_
            refine j_iadd (pc := 63) C dX7_adds_63 ?_
            refine j_istore_n (pc := 64) C hN dX7_adds_64 rfl (by decide) (lv' := [(2, .int (oI (l2 + v10))), (0, .ref (G.2.2.1 0)), (1, .int (oI l1)), (3, .int (oI l3))]) rfl ?_
            refine j_iinc (pc := 65) C hN dX7_adds_65 3 rfl (by decide) (lv' := [(3, .int (oI (l3 + 1))), (2, .int (oI (l2 + v10))), (0, .ref (G.2.2.1 0)), (1, .int (oI l1))]) rfl ?_
            refine j_goto (pc := 68) (tgt := 7) C dX7_adds_68 rfl ?_
            exact j_sub [2, 3, 1, 0] rfl (ih _ _ _)
          · refine j_aload_n (pc := 56) C dX7_adds_56 rfl 0 rfl ?_
            refine gf_X7_53 (pc := 57) C dX7_adds_57 ?_
            refine j_iload_n (pc := 60) C dX7_adds_60 rfl 3 rfl ?_
            refine j_bI (fun v11 ev11 => ?_)
            refine j_iald (pc := 61) C arX7_14 ev11 dX7_adds_61 ?_
            refine j_ineg (pc := 62) C dX7_adds_62 ?_
            refine j_iadd (pc := 63) C dX7_adds_63 ?_
            refine j_istore_n (pc := 64) C hN dX7_adds_64 rfl (by decide) (lv' := [(2, .int (oI (l2 + (-v11)))), (0, .ref (G.2.2.1 0)), (1, .int (oI l1)), (3, .int (oI l3))]) rfl ?_
            refine j_iinc (pc := 65) C hN dX7_adds_65 3 rfl (by decide) (lv' := [(3, .int (oI (l3 + 1))), (2, .int (oI (l2 + (-v11)))), (0, .ref (G.2.2.1 0)), (1, .int (oI l1))]) rfl ?_
            refine j_goto (pc := 68) (tgt := 7) C dX7_adds_68 rfl ?_
            exact j_sub [2, 3, 1, 0] rfl (ih _ _ _)
set_option maxHeartbeats 4000000 in
set_option maxRecDepth 100000 in
theorem X7_adds_m (l : Launch) {G : GD} (hj : zInj sM G) {st : PS} {l1 : Int} {r : (Int × PS)} (hr : X7_adds st l1 = some r) : zM l sM G yX7_adds cX7_adds 4 (some .int) 3 [.ref (G.2.2.1 0), .int (oI l1)] st (some (.int (oI r.1))) r.2 :=
  zEnter (f := fI) hr hj (by decide) rfl (lv := [(0, .ref (G.2.2.1 0)), (1, .int (oI l1))]) rfl (Nat.le_of_ble_eq_true rfl) (fun X _ hN C => by
    unfold X7_adds
    refine j_iconst (pc := 0) C dX7_adds_0 ?_
    refine j_istore_n (pc := 1) C hN dX7_adds_1 rfl (by decide) (lv' := [(2, .int (oI 0)), (0, .ref (G.2.2.1 0)), (1, .int (oI l1))]) rfl ?_
    refine j_aload_n (pc := 2) C dX7_adds_2 rfl 1 rfl ?_
    refine j_callV1 (pc := 3) C obX7 rfl rfl (X7_begin_m _ hj rfl) kV_X7_262 rfl (by omega) rfl (Nat.le_of_ble_eq_true rfl) dX7_adds_3 ?_
    refine j_istore_n (pc := 6) C hN dX7_adds_6 rfl (by decide) (lv' := [(3, .int (oI (X7_begin st))), (2, .int (oI 0)), (0, .ref (G.2.2.1 0)), (1, .int (oI l1))]) rfl ?_
    exact j_sub [2, 3, 1, 0] rfl (X7_adds_L7_j C hN hj FU _ _ _))
def X7_saysOf (st : PS) (l1 : Int) : Option Int := if wI (st 0 24) < 0 then bI (zrd st 2 8 l1) (fun v1 => if wI v1 = wI 5 then bI (zrd st 3 8 l1) (fun v2 => if wI (zrem (st 0 1) 9) = wI v2 then some 0 else (bI (zrd st 4 8 l1) (fun v3 => some v3))) else (bI (zrd st 4 8 l1) (fun v4 => some v4))) else (if wI l1 = wI (st 0 24) then some 0 else (bI (zrd st 4 8 l1) (fun v5 => some v5)))
set_option maxHeartbeats 4000000 in
set_option maxRecDepth 100000 in
theorem X7_saysOf_m (l : Launch) {G : GD} (hj : zInj sM G) {st : PS} {l1 : Int} {r : Int} (hr : X7_saysOf st l1 = some r) : zM l sM G yX7_saysOf cX7_saysOf 2 (some .int) 0 [.ref (G.2.2.1 0), .int (oI l1)] st (some (.int (oI r))) st :=
  zEnter (f := fR st) hr hj (by decide) rfl (lv := [(0, .ref (G.2.2.1 0)), (1, .int (oI l1))]) rfl (Nat.le_of_ble_eq_true rfl) (fun X _ hN C => by
    unfold X7_saysOf
    refine j_aload_n (pc := 0) C dX7_saysOf_0 rfl 0 rfl ?_
    refine gf_X7_84 (pc := 1) C dX7_saysOf_1 ?_
    refine j_if_lt (pc := 4) (tgt := 26) C dX7_saysOf_4 rfl ?_ ?_
    · refine j_aload_n (pc := 26) C dX7_saysOf_26 rfl 0 rfl ?_
      refine gf_X7_16 (pc := 27) C dX7_saysOf_27 ?_
      refine j_iload_n (pc := 30) C dX7_saysOf_30 rfl 1 rfl ?_
      refine j_bI (fun v1 ev1 => ?_)
      refine j_iald (pc := 31) C arX7_2 ev1 dX7_saysOf_31 ?_
      refine j_iconst (pc := 32) C dX7_saysOf_32 ?_
      refine j_icmp_ne (pc := 33) (tgt := 56) C dX7_saysOf_33 rfl ?_ ?_
      · refine j_aload_n (pc := 36) C dX7_saysOf_36 rfl 0 rfl ?_
        refine gf_X7_13 (pc := 37) C dX7_saysOf_37 ?_
        refine j_bipush (pc := 40) C dX7_saysOf_40 (by decide) ?_
        refine j_irem (pc := 42) C (by decide) dX7_saysOf_42 ?_
        refine j_aload_n (pc := 43) C dX7_saysOf_43 rfl 0 rfl ?_
        refine gf_X7_20 (pc := 44) C dX7_saysOf_44 ?_
        refine j_iload_n (pc := 47) C dX7_saysOf_47 rfl 1 rfl ?_
        refine j_bI (fun v2 ev2 => ?_)
        refine j_iald (pc := 48) C arX7_3 ev2 dX7_saysOf_48 ?_
        refine j_icmp_ne (pc := 49) (tgt := 56) C dX7_saysOf_49 rfl ?_ ?_
        · refine j_iconst (pc := 52) C dX7_saysOf_52 ?_
          refine j_goto (pc := 53) (tgt := 62) C dX7_saysOf_53 rfl ?_
          exact j_ireturn C rfl rfl rfl rfl dX7_saysOf_62
        · refine j_aload_n (pc := 56) C dX7_saysOf_56 rfl 0 rfl ?_
          refine gf_X7_23 (pc := 57) C dX7_saysOf_57 ?_
          refine j_iload_n (pc := 60) C dX7_saysOf_60 rfl 1 rfl ?_
          refine j_bI (fun v3 ev3 => ?_)
          refine j_iald (pc := 61) C arX7_4 ev3 dX7_saysOf_61 ?_
          exact j_ireturn C rfl rfl rfl rfl dX7_saysOf_62
      · refine j_aload_n (pc := 56) C dX7_saysOf_56 rfl 0 rfl ?_
        refine gf_X7_23 (pc := 57) C dX7_saysOf_57 ?_
        refine j_iload_n (pc := 60) C dX7_saysOf_60 rfl 1 rfl ?_
        refine j_bI (fun v4 ev4 => ?_)
        refine j_iald (pc := 61) C arX7_4 ev4 dX7_saysOf_61 ?_
        exact j_ireturn C rfl rfl rfl rfl dX7_saysOf_62
    · refine j_iload_n (pc := 7) C dX7_saysOf_7 rfl 1 rfl ?_
      refine j_aload_n (pc := 8) C dX7_saysOf_8 rfl 0 rfl ?_
      refine gf_X7_84 (pc := 9) C dX7_saysOf_9 ?_
      refine j_icmp_ne (pc := 12) (tgt := 19) C dX7_saysOf_12 rfl ?_ ?_
      · refine j_iconst (pc := 15) C dX7_saysOf_15 ?_
        refine j_goto (pc := 16) (tgt := 25) C dX7_saysOf_16 rfl ?_
        exact j_ireturn C rfl rfl rfl rfl dX7_saysOf_25
      · refine j_aload_n (pc := 19) C dX7_saysOf_19 rfl 0 rfl ?_
        refine gf_X7_23 (pc := 20) C dX7_saysOf_20 ?_
        refine j_iload_n (pc := 23) C dX7_saysOf_23 rfl 1 rfl ?_
        refine j_bI (fun v5 ev5 => ?_)
        refine j_iald (pc := 24) C arX7_4 ev5 dX7_saysOf_24 ?_
        exact j_ireturn C rfl rfl rfl rfl dX7_saysOf_25)
def X7_sortIn_L5 (l1 : Int) : Nat → PS → Int → Option PS
  | 0, _, _ => none
  | k + 1, st, l2 => if wI l2 ≤ 0 then bI (zwr st 25 8 l2 l1) (fun s1 => zlet (zu s1 0 26 ((s1 0 26) + 1)) (fun s2 => some s2)) else (bI (zrd st 25 8 (l2 - 1)) (fun v1 => if wI v1 ≤ wI l1 then bI (zwr st 25 8 l2 l1) (fun s3 => zlet (zu s3 0 26 ((s3 0 26) + 1)) (fun s4 => some s4)) else (bI (zrd st 25 8 (l2 - 1)) (fun v2 => bI (zwr st 25 8 l2 v2) (fun s5 => X7_sortIn_L5 l1 k s5 (l2 + (-1)))))))
def X7_sortIn (st : PS) (l1 : Int) : Option PS := X7_sortIn_L5 l1 FU st (st 0 26)
set_option maxHeartbeats 4000000 in
set_option maxRecDepth 100000 in
theorem X7_sortIn_L5_j {X : JX} {G : GD} (C : zC X sM G RX7 cX7_sortIn none 0) (hN : X.2.2.2.2.2.2.2.2.2.2.2.2 = 3) (hj : zInj sM G) {l1 : Int} : ∀ (k : Nat) (st : PS) (l2 : Int), J X (zI sM G) (zQ sM G fV) st [(0, .ref (G.2.2.1 0)), (1, .int (oI l1)), (2, .int (oI l2))] 5 [] (X7_sortIn_L5 l1 k st l2) := by
  intro k
  induction k with
  | zero => intro st l2; exact j_none
  | succ k ih =>
    intro st l2
    rw [X7_sortIn_L5]
    refine j_iload_n (pc := 5) C dX7_sortIn_5 rfl 2 rfl ?_
    refine j_if_le (pc := 6) (tgt := 41) C dX7_sortIn_6 rfl ?_ ?_
    · refine j_aload_n (pc := 41) C dX7_sortIn_41 rfl 0 rfl ?_
      refine gf_X7_87 (pc := 42) C dX7_sortIn_42 ?_
      refine j_iload_n (pc := 45) C dX7_sortIn_45 rfl 2 rfl ?_
      refine j_iload_n (pc := 46) C dX7_sortIn_46 rfl 1 rfl ?_
      refine j_bI (fun s1 es1 => ?_)
      refine j_iast (pc := 47) C arX7_25 es1 dX7_sortIn_47 ?_
      refine j_aload_n (pc := 48) C dX7_sortIn_48 rfl 0 rfl ?_
      refine j_dup (pc := 49) C dX7_sortIn_49 rfl ?_
      refine gf_X7_90 (pc := 50) C dX7_sortIn_50 ?_
      refine j_iconst (pc := 53) C dX7_sortIn_53 ?_
      refine j_iadd (pc := 54) C dX7_sortIn_54 ?_
      refine fp_X7_90 (pc := 55) C dX7_sortIn_55 ?_
      refine j_let (fun s2 => ?_)
      exact j_return C rfl rfl dX7_sortIn_58
    · refine j_aload_n (pc := 9) C dX7_sortIn_9 rfl 0 rfl ?_
      refine gf_X7_87 (pc := 10) C dX7_sortIn_10 ?_
      refine j_iload_n (pc := 13) C dX7_sortIn_13 rfl 2 rfl ?_
      refine j_iconst (pc := 14) C dX7_sortIn_14 ?_
      refine j_isub (pc := 15) C dX7_sortIn_15 ?_
      refine j_bI (fun v1 ev1 => ?_)
      refine j_iald (pc := 16) C arX7_25 ev1 dX7_sortIn_16 ?_
      refine j_iload_n (pc := 17) C dX7_sortIn_17 rfl 1 rfl ?_
      refine j_icmp_le (pc := 18) (tgt := 41) C dX7_sortIn_18 rfl ?_ ?_
      · refine j_aload_n (pc := 41) C dX7_sortIn_41 rfl 0 rfl ?_
        refine gf_X7_87 (pc := 42) C dX7_sortIn_42 ?_
        refine j_iload_n (pc := 45) C dX7_sortIn_45 rfl 2 rfl ?_
        refine j_iload_n (pc := 46) C dX7_sortIn_46 rfl 1 rfl ?_
        refine j_bI (fun s3 es3 => ?_)
        refine j_iast (pc := 47) C arX7_25 es3 dX7_sortIn_47 ?_
        refine j_aload_n (pc := 48) C dX7_sortIn_48 rfl 0 rfl ?_
        refine j_dup (pc := 49) C dX7_sortIn_49 rfl ?_
        refine gf_X7_90 (pc := 50) C dX7_sortIn_50 ?_
        refine j_iconst (pc := 53) C dX7_sortIn_53 ?_
        refine j_iadd (pc := 54) C dX7_sortIn_54 ?_
        refine fp_X7_90 (pc := 55) C dX7_sortIn_55 ?_
        refine j_let (fun s4 => ?_)
        exact j_return C rfl rfl dX7_sortIn_58
      · refine j_aload_n (pc := 21) C dX7_sortIn_21 rfl 0 rfl ?_
        refine gf_X7_87 (pc := 22) C dX7_sortIn_22 ?_
        refine j_iload_n (pc := 25) C dX7_sortIn_25 rfl 2 rfl ?_
        refine j_aload_n (pc := 26) C dX7_sortIn_26 rfl 0 rfl ?_
        refine gf_X7_87 (pc := 27) C dX7_sortIn_27 ?_
        refine j_iload_n (pc := 30) C dX7_sortIn_30 rfl 2 rfl ?_
        refine j_iconst (pc := 31) C dX7_sortIn_31 ?_
        refine j_isub (pc := 32) C dX7_sortIn_32 ?_
        refine j_bI (fun v2 ev2 => ?_)
        refine j_iald (pc := 33) C arX7_25 ev2 dX7_sortIn_33 ?_
        refine j_bI (fun s5 es5 => ?_)
        refine j_iast (pc := 34) C arX7_25 es5 dX7_sortIn_34 ?_
        refine j_iinc (pc := 35) C hN dX7_sortIn_35 2 rfl (by decide) (lv' := [(2, .int (oI (l2 + (-1)))), (0, .ref (G.2.2.1 0)), (1, .int (oI l1))]) rfl ?_
        refine j_goto (pc := 38) (tgt := 5) C dX7_sortIn_38 rfl ?_
        exact j_sub [1, 2, 0] rfl (ih _ _)
set_option maxHeartbeats 4000000 in
set_option maxRecDepth 100000 in
theorem X7_sortIn_m (l : Launch) {G : GD} (hj : zInj sM G) {st : PS} {l1 : Int} {r : PS} (hr : X7_sortIn st l1 = some r) : zM l sM G yX7_sortIn cX7_sortIn 3 none 0 [.ref (G.2.2.1 0), .int (oI l1)] st none r :=
  zEnter (f := fV) hr hj (by decide) rfl (lv := [(0, .ref (G.2.2.1 0)), (1, .int (oI l1))]) rfl (Nat.le_of_ble_eq_true rfl) (fun X _ hN C => by
    unfold X7_sortIn
    refine j_aload_n (pc := 0) C dX7_sortIn_0 rfl 0 rfl ?_
    refine gf_X7_90 (pc := 1) C dX7_sortIn_1 ?_
    refine j_istore_n (pc := 4) C hN dX7_sortIn_4 rfl (by decide) (lv' := [(2, .int (oI (st 0 26))), (0, .ref (G.2.2.1 0)), (1, .int (oI l1))]) rfl ?_
    exact j_sub [1, 2, 0] rfl (X7_sortIn_L5_j C hN hj FU _ _))
def X7_away (st : PS) (l1 l2 l3 : Int) : Int := if wI l3 = 0 then (if wI l2 ≤ wI l1 then (l1 - l2) else (l2 - l1)) else (if wI (if wI l2 ≤ wI l1 then (l1 - l2) else (l2 - l1)) ≤ wI ((st 0 0) - (if wI l2 ≤ wI l1 then (l1 - l2) else (l2 - l1))) then (if wI l2 ≤ wI l1 then (l1 - l2) else (l2 - l1)) else (((st 0 0) - (if wI l2 ≤ wI l1 then (l1 - l2) else (l2 - l1)))))
set_option maxHeartbeats 4000000 in
set_option maxRecDepth 100000 in
theorem X7_away_m (l : Launch) {G : GD} (hj : zInj sM G) {st : PS} {l1 l2 l3 : Int} {r : Int} (hr : X7_away st l1 l2 l3 = r) : zM l sM G yX7_away cX7_away 5 (some .int) 0 [.ref (G.2.2.1 0), .int (oI l1), .int (oI l2), .int (oI l3)] st (some (.int (oI r))) st :=
  zEnter (f := fR st) (o := some (X7_away st l1 l2 l3)) (by rw [hr]) hj (by decide) rfl (lv := [(0, .ref (G.2.2.1 0)), (1, .int (oI l1)), (2, .int (oI l2)), (3, .int (oI l3))]) rfl (Nat.le_of_ble_eq_true rfl) (fun X _ hN C => by
    simp only [X7_away, zsome_ite]
    refine j_iload_n (pc := 0) C dX7_away_0 rfl 1 rfl ?_
    refine j_iload_n (pc := 1) C dX7_away_1 rfl 2 rfl ?_
    refine j_join (lv' := [(0, .ref (G.2.2.1 0)), (3, .int (oI l3))]) (pc' := 14) (stk' := [.int (oI (if wI l2 ≤ wI l1 then (l1 - l2) else (l2 - l1)))]) ?_ (fun jn => ?_)
    · refine j_istore (pc := 14) C hN dX7_away_14 (by decide) (lv' := [(4, .int (oI (if wI l2 ≤ wI l1 then (l1 - l2) else (l2 - l1)))), (0, .ref (G.2.2.1 0)), (3, .int (oI l3))]) rfl ?_
      refine j_iload_n (pc := 16) C dX7_away_16 rfl 2 rfl ?_
      refine j_if_eq (pc := 17) (tgt := 42) C dX7_away_17 rfl ?_ ?_
      · refine j_iload (pc := 42) C dX7_away_42 0 rfl ?_
        simp only [← zsome_ite]
        exact j_ireturn C rfl rfl rfl rfl dX7_away_44
      · refine j_aload_n (pc := 20) C dX7_away_20 rfl 1 rfl ?_
        refine gf_X7_7 (pc := 21) C dX7_away_21 ?_
        refine j_iload (pc := 24) C dX7_away_24 0 rfl ?_
        refine j_isub (pc := 26) C dX7_away_26 ?_
        refine j_iload (pc := 27) C dX7_away_27 0 rfl ?_
        refine j_icmp_ge (pc := 29) (tgt := 42) C dX7_away_29 rfl ?_ ?_
        · refine j_iload (pc := 42) C dX7_away_42 0 rfl ?_
          simp only [← zsome_ite]
          exact j_ireturn C rfl rfl rfl rfl dX7_away_44
        · refine j_aload_n (pc := 32) C dX7_away_32 rfl 1 rfl ?_
          refine gf_X7_7 (pc := 33) C dX7_away_33 ?_
          refine j_iload (pc := 36) C dX7_away_36 0 rfl ?_
          refine j_isub (pc := 38) C dX7_away_38 ?_
          refine j_goto (pc := 39) (tgt := 44) C dX7_away_39 rfl ?_
          exact j_ireturn C rfl rfl rfl rfl dX7_away_44
    · refine j_icmp_geH (pc := 2) (tgt := 11) C dX7_away_2 rfl (fun hc2 => ?_) (fun hc2 => ?_)
      · refine j_iload_n (pc := 11) C dX7_away_11 rfl 1 rfl ?_
        refine j_iload_n (pc := 12) C dX7_away_12 rfl 2 rfl ?_
        refine j_isub (pc := 13) C dX7_away_13 ?_
        exact j_sub (lv' := [(0, .ref (G.2.2.1 0)), (3, .int (oI l3))]) [0, 3] rfl (j_eq rfl (by simp only [if_pos hc2]) jn)
      · refine j_iload_n (pc := 5) C dX7_away_5 rfl 2 rfl ?_
        refine j_iload_n (pc := 6) C dX7_away_6 rfl 1 rfl ?_
        refine j_isub (pc := 7) C dX7_away_7 ?_
        refine j_goto (pc := 8) (tgt := 14) C dX7_away_8 rfl ?_
        exact j_sub (lv' := [(0, .ref (G.2.2.1 0)), (3, .int (oI l3))]) [0, 3] rfl (j_eq rfl (by simp only [if_neg hc2]) jn))
def X7_laySome_L23 (l1 : Int) (l2 : Int) (l3 : Int) : Nat → PS → Int → Option PS
  | 0, _, _ => none
  | k + 1, st, l4 => if wI (st 0 0) ≤ wI l4 then some st else (if wI l4 = wI l1 then X7_laySome_L23 l1 l2 l3 k st (l4 + 1) else (if wI l2 < wI (X7_away st l1 l4 l3) then X7_laySome_L23 l1 l2 l3 k st (l4 + 1) else (bI (X7_saysOf st l4) (fun v5 => bI (X7_sortIn st v5) (fun s5 => X7_laySome_L23 l1 l2 l3 k s5 (l4 + 1))))))
def X7_laySome (st : PS) (l1 l2 : Int) : Option PS := bI (X7_isRing st) (fun v1 => zlet (zu st 0 26 0) (fun s1 => bI (zrd s1 4 8 l1) (fun v2 => bI (X7_sortIn s1 v2) (fun s2 => X7_laySome_L23 l1 l2 v1 FU s2 0))))
set_option maxHeartbeats 4000000 in
set_option maxRecDepth 100000 in
theorem X7_laySome_L23_j {X : JX} {G : GD} (C : zC X sM G RX7 cX7_laySome none 2) (hN : X.2.2.2.2.2.2.2.2.2.2.2.2 = 5) (hj : zInj sM G) {l1 : Int} {l2 : Int} {l3 : Int} : ∀ (k : Nat) (st : PS) (l4 : Int), J X (zI sM G) (zQ sM G fV) st [(0, .ref (G.2.2.1 0)), (1, .int (oI l1)), (2, .int (oI l2)), (3, .int (oI l3)), (4, .int (oI l4))] 23 [] (X7_laySome_L23 l1 l2 l3 k st l4) := by
  intro k
  induction k with
  | zero => intro st l4; exact j_none
  | succ k ih =>
    intro st l4
    rw [X7_laySome_L23]
    refine j_iload (pc := 23) C dX7_laySome_23 4 rfl ?_
    refine j_aload_n (pc := 25) C dX7_laySome_25 rfl 0 rfl ?_
    refine gf_X7_7 (pc := 26) C dX7_laySome_26 ?_
    refine j_icmp_ge (pc := 29) (tgt := 66) C dX7_laySome_29 rfl ?_ ?_
    · exact j_return C rfl rfl dX7_laySome_66
    · refine j_iload (pc := 32) C dX7_laySome_32 4 rfl ?_
      refine j_iload_n (pc := 34) C dX7_laySome_34 rfl 1 rfl ?_
      refine j_icmp_eq (pc := 35) (tgt := 60) C dX7_laySome_35 rfl ?_ ?_
      · refine j_iinc (pc := 60) C hN dX7_laySome_60 4 rfl (by decide) (lv' := [(4, .int (oI (l4 + 1))), (0, .ref (G.2.2.1 0)), (1, .int (oI l1)), (2, .int (oI l2)), (3, .int (oI l3))]) rfl ?_
        refine j_goto (pc := 63) (tgt := 23) C dX7_laySome_63 rfl ?_
        exact j_sub [1, 2, 3, 4, 0] rfl (ih _ _)
      · refine j_aload_n (pc := 38) C dX7_laySome_38 rfl 0 rfl ?_
        refine j_iload_n (pc := 39) C dX7_laySome_39 rfl 1 rfl ?_
        refine j_iload (pc := 40) C dX7_laySome_40 4 rfl ?_
        refine j_iload_n (pc := 42) C dX7_laySome_42 rfl 3 rfl ?_
        refine j_callV1 (pc := 43) C obX7 rfl rfl (X7_away_m _ hj rfl) kV_X7_284 rfl (by omega) rfl (Nat.le_of_ble_eq_true rfl) dX7_laySome_43 ?_
        refine j_iload_n (pc := 46) C dX7_laySome_46 rfl 2 rfl ?_
        refine j_icmp_gt (pc := 47) (tgt := 60) C dX7_laySome_47 rfl ?_ ?_
        · refine j_iinc (pc := 60) C hN dX7_laySome_60 4 rfl (by decide) (lv' := [(4, .int (oI (l4 + 1))), (0, .ref (G.2.2.1 0)), (1, .int (oI l1)), (2, .int (oI l2)), (3, .int (oI l3))]) rfl ?_
          refine j_goto (pc := 63) (tgt := 23) C dX7_laySome_63 rfl ?_
          exact j_sub [1, 2, 3, 4, 0] rfl (ih _ _)
        · refine j_aload_n (pc := 50) C dX7_laySome_50 rfl 0 rfl ?_
          refine j_aload_n (pc := 51) C dX7_laySome_51 rfl 0 rfl ?_
          refine j_iload (pc := 52) C dX7_laySome_52 4 rfl ?_
          refine j_bI (fun v5 ev5 => ?_)
          refine j_callV1 (pc := 54) C obX7 rfl rfl (X7_saysOf_m _ hj ev5) kV_X7_288 rfl (by omega) rfl (Nat.le_of_ble_eq_true rfl) dX7_laySome_54 ?_
          refine j_bI (fun s5 es5 => ?_)
          refine j_callV0 (pc := 57) C obX7 rfl rfl (X7_sortIn_m _ hj es5) kV_X7_281 rfl (by omega) rfl (Nat.le_of_ble_eq_true rfl) dX7_laySome_57 ?_
          refine j_iinc (pc := 60) C hN dX7_laySome_60 4 rfl (by decide) (lv' := [(4, .int (oI (l4 + 1))), (0, .ref (G.2.2.1 0)), (1, .int (oI l1)), (2, .int (oI l2)), (3, .int (oI l3))]) rfl ?_
          refine j_goto (pc := 63) (tgt := 23) C dX7_laySome_63 rfl ?_
          exact j_sub [1, 2, 3, 4, 0] rfl (ih _ _)
set_option maxHeartbeats 4000000 in
set_option maxRecDepth 100000 in
theorem X7_laySome_m (l : Launch) {G : GD} (hj : zInj sM G) {st : PS} {l1 l2 : Int} {r : PS} (hr : X7_laySome st l1 l2 = some r) : zM l sM G yX7_laySome cX7_laySome 5 none 2 [.ref (G.2.2.1 0), .int (oI l1), .int (oI l2)] st none r :=
  zEnter (f := fV) hr hj (by decide) rfl (lv := [(0, .ref (G.2.2.1 0)), (1, .int (oI l1)), (2, .int (oI l2))]) rfl (Nat.le_of_ble_eq_true rfl) (fun X _ hN C => by
    unfold X7_laySome
    refine j_aload_n (pc := 0) C dX7_laySome_0 rfl 0 rfl ?_
    refine j_bI (fun v1 ev1 => ?_)
    refine j_callV1 (pc := 1) C obX7 rfl rfl (X7_isRing_m _ hj ev1) kV_X7_278 rfl (by omega) rfl (Nat.le_of_ble_eq_true rfl) dX7_laySome_1 ?_
    refine j_istore_n (pc := 4) C hN dX7_laySome_4 rfl (by decide) (lv' := [(3, .int (oI v1)), (0, .ref (G.2.2.1 0)), (1, .int (oI l1)), (2, .int (oI l2))]) rfl ?_
    refine j_aload_n (pc := 5) C dX7_laySome_5 rfl 1 rfl ?_
    refine j_iconst (pc := 6) C dX7_laySome_6 ?_
    refine fp_X7_90 (pc := 7) C dX7_laySome_7 ?_
    refine j_let (fun s1 => ?_)
    refine j_aload_n (pc := 10) C dX7_laySome_10 rfl 1 rfl ?_
    refine j_aload_n (pc := 11) C dX7_laySome_11 rfl 1 rfl ?_
    refine gf_X7_23 (pc := 12) C dX7_laySome_12 ?_
    refine j_iload_n (pc := 15) C dX7_laySome_15 rfl 2 rfl ?_
    refine j_bI (fun v2 ev2 => ?_)
    refine j_iald (pc := 16) C arX7_4 ev2 dX7_laySome_16 ?_
    refine j_bI (fun s2 es2 => ?_)
    refine j_callV0 (pc := 17) C obX7 rfl rfl (X7_sortIn_m _ hj es2) kV_X7_281 rfl (by omega) rfl (Nat.le_of_ble_eq_true rfl) dX7_laySome_17 ?_
    refine j_iconst (pc := 20) C dX7_laySome_20 ?_
    refine j_istore (pc := 21) C hN dX7_laySome_21 (by decide) (lv' := [(4, .int (oI 0)), (3, .int (oI v1)), (0, .ref (G.2.2.1 0)), (1, .int (oI l1)), (2, .int (oI l2))]) rfl ?_
    exact j_sub [2, 3, 4, 1, 0] rfl (X7_laySome_L23_j C hN hj FU _ _))
def X7_middle (st : PS) (l1 : Int) : Option (Int × PS) := bI (X7_laySome st l1 1) (fun s1 => if wI 3 ≤ wI (s1 0 26) then bI (zrd s1 25 8 1) (fun v1 => some (v1, s1)) else (bI (zrd s1 4 8 l1) (fun v2 => some (v2, s1))))
set_option maxHeartbeats 4000000 in
set_option maxRecDepth 100000 in
theorem X7_middle_m (l : Launch) {G : GD} (hj : zInj sM G) {st : PS} {l1 : Int} {r : (Int × PS)} (hr : X7_middle st l1 = some r) : zM l sM G yX7_middle cX7_middle 2 (some .int) 3 [.ref (G.2.2.1 0), .int (oI l1)] st (some (.int (oI r.1))) r.2 :=
  zEnter (f := fI) hr hj (by decide) rfl (lv := [(0, .ref (G.2.2.1 0)), (1, .int (oI l1))]) rfl (Nat.le_of_ble_eq_true rfl) (fun X _ hN C => by
    unfold X7_middle
    refine j_aload_n (pc := 0) C dX7_middle_0 rfl 0 rfl ?_
    refine j_iload_n (pc := 1) C dX7_middle_1 rfl 1 rfl ?_
    refine j_iconst (pc := 2) C dX7_middle_2 ?_
    refine j_bI (fun s1 es1 => ?_)
    refine j_callV0 (pc := 3) C obX7 rfl rfl (X7_laySome_m _ hj es1) kV_X7_291 rfl (by omega) rfl (Nat.le_of_ble_eq_true rfl) dX7_middle_3 ?_
    refine j_aload_n (pc := 6) C dX7_middle_6 rfl 0 rfl ?_
    refine gf_X7_90 (pc := 7) C dX7_middle_7 ?_
    refine j_iconst (pc := 10) C dX7_middle_10 ?_
    refine j_icmp_ge (pc := 11) (tgt := 23) C dX7_middle_11 rfl ?_ ?_
    · refine j_aload_n (pc := 23) C dX7_middle_23 rfl 0 rfl ?_
      refine gf_X7_87 (pc := 24) C dX7_middle_24 ?_
      refine j_iconst (pc := 27) C dX7_middle_27 ?_
      refine j_bI (fun v1 ev1 => ?_)
      refine j_iald (pc := 28) C arX7_25 ev1 dX7_middle_28 ?_
      exact j_ireturn C rfl rfl rfl rfl dX7_middle_29
    · refine j_aload_n (pc := 14) C dX7_middle_14 rfl 0 rfl ?_
      refine gf_X7_23 (pc := 15) C dX7_middle_15 ?_
      refine j_iload_n (pc := 18) C dX7_middle_18 rfl 1 rfl ?_
      refine j_bI (fun v2 ev2 => ?_)
      refine j_iald (pc := 19) C arX7_4 ev2 dX7_middle_19 ?_
      refine j_goto (pc := 20) (tgt := 29) C dX7_middle_20 rfl ?_
      exact j_ireturn C rfl rfl rfl rfl dX7_middle_29)
def X7_least (st : PS) (l1 l2 : Int) : Int := if wI l2 ≤ wI l1 then l2 else (l1)
set_option maxHeartbeats 4000000 in
set_option maxRecDepth 100000 in
theorem X7_least_m (l : Launch) {G : GD} (hj : zInj sM G) {st : PS} {l1 l2 : Int} {r : Int} (hr : X7_least st l1 l2 = r) : zM l sM G yX7_least cX7_least 3 (some .int) 0 [.ref (G.2.2.1 0), .int (oI l1), .int (oI l2)] st (some (.int (oI r))) st :=
  zEnter (f := fR st) (o := some (X7_least st l1 l2)) (by rw [hr]) hj (by decide) rfl (lv := [(0, .ref (G.2.2.1 0)), (1, .int (oI l1)), (2, .int (oI l2))]) rfl (Nat.le_of_ble_eq_true rfl) (fun X _ hN C => by
    simp only [X7_least, zsome_ite]
    refine j_iload_n (pc := 0) C dX7_least_0 rfl 1 rfl ?_
    refine j_iload_n (pc := 1) C dX7_least_1 rfl 2 rfl ?_
    refine j_icmp_ge (pc := 2) (tgt := 9) C dX7_least_2 rfl ?_ ?_
    · refine j_iload_n (pc := 9) C dX7_least_9 rfl 2 rfl ?_
      exact j_ireturn C rfl rfl rfl rfl dX7_least_10
    · refine j_iload_n (pc := 5) C dX7_least_5 rfl 1 rfl ?_
      refine j_goto (pc := 6) (tgt := 10) C dX7_least_6 rfl ?_
      exact j_ireturn C rfl rfl rfl rfl dX7_least_10)
def X7_most (st : PS) (l1 l2 : Int) : Int := if wI l1 ≤ wI l2 then l2 else (l1)
set_option maxHeartbeats 4000000 in
set_option maxRecDepth 100000 in
theorem X7_most_m (l : Launch) {G : GD} (hj : zInj sM G) {st : PS} {l1 l2 : Int} {r : Int} (hr : X7_most st l1 l2 = r) : zM l sM G yX7_most cX7_most 3 (some .int) 0 [.ref (G.2.2.1 0), .int (oI l1), .int (oI l2)] st (some (.int (oI r))) st :=
  zEnter (f := fR st) (o := some (X7_most st l1 l2)) (by rw [hr]) hj (by decide) rfl (lv := [(0, .ref (G.2.2.1 0)), (1, .int (oI l1)), (2, .int (oI l2))]) rfl (Nat.le_of_ble_eq_true rfl) (fun X _ hN C => by
    simp only [X7_most, zsome_ite]
    refine j_iload_n (pc := 0) C dX7_most_0 rfl 1 rfl ?_
    refine j_iload_n (pc := 1) C dX7_most_1 rfl 2 rfl ?_
    refine j_icmp_le (pc := 2) (tgt := 9) C dX7_most_2 rfl ?_ ?_
    · refine j_iload_n (pc := 9) C dX7_most_9 rfl 2 rfl ?_
      exact j_ireturn C rfl rfl rfl rfl dX7_most_10
    · refine j_iload_n (pc := 5) C dX7_most_5 rfl 1 rfl ?_
      refine j_goto (pc := 6) (tgt := 10) C dX7_most_6 rfl ?_
      exact j_ireturn C rfl rfl rfl rfl dX7_most_10)
def X7_plainNext (st : PS) (l1 : Int) : Option (Int × PS) := bI (zrd st 2 8 l1) (fun v1 => if wI v1 = 1 then bP (X7_middle st l1) (fun v2 s1 => bI (zrd s1 3 8 l1) (fun v3 => some ((X7_most s1 v2 (5 * v3)), s1))) else (if wI v1 = 2 ∨ wI v1 = 5 then bP (X7_middle st l1) (fun v4 s2 => bI (zrd s2 4 8 l1) (fun v5 => some ((X7_least s2 v4 v5), s2))) else (if wI v1 = 3 then bI (X7_laySome st l1 2) (fun s3 => bI (zrd s3 25 8 (zdiv ((s3 0 26) - 1) 2)) (fun v6 => some (v6, s3))) else (if wI v1 = 4 then bI (zrd st 3 8 l1) (fun v7 => znz (v7 + 2) (if wI (zrem (st 0 1) (v7 + 2)) = 0 then bP (X7_middle st l1) (fun v8 s4 => bI (zrd s4 3 8 l1) (fun v9 => some (zdiv (X7_most s4 v8 (5 * v9)) 2, s4))) else (bP (X7_middle st l1) (fun v10 s5 => bI (zrd s5 3 8 l1) (fun v11 => some ((X7_most s5 v10 (5 * v11)), s5)))))) else (if wI v1 = 6 then bI (X7_laySome st l1 2) (fun s6 => bI (zrd s6 5 32 ((4 * l1) + (zrem (s6 0 1) 4))) (fun v12 => bI (zrd s6 25 8 (X7_least s6 v12 ((s6 0 26) - 1))) (fun v13 => some (v13, s6)))) else (bP (X7_middle st l1) (fun v14 s7 => some (v14, s7))))))))
set_option maxHeartbeats 4000000 in
set_option maxRecDepth 100000 in
theorem X7_plainNext_m (l : Launch) {G : GD} (hj : zInj sM G) {st : PS} {l1 : Int} {r : (Int × PS)} (hr : X7_plainNext st l1 = some r) : zM l sM G yX7_plainNext cX7_plainNext 2 (some .int) 4 [.ref (G.2.2.1 0), .int (oI l1)] st (some (.int (oI r.1))) r.2 :=
  zEnter (f := fI) hr hj (by decide) rfl (lv := [(0, .ref (G.2.2.1 0)), (1, .int (oI l1))]) rfl (Nat.le_of_ble_eq_true rfl) (fun X _ hN C => by
    unfold X7_plainNext
    refine j_aload_n (pc := 0) C dX7_plainNext_0 rfl 0 rfl ?_
    refine gf_X7_16 (pc := 1) C dX7_plainNext_1 ?_
    refine j_iload_n (pc := 4) C dX7_plainNext_4 rfl 1 rfl ?_
    refine j_bI (fun v1 ev1 => ?_)
    refine j_iald (pc := 5) C arX7_2 ev1 dX7_plainNext_5 ?_
    refine j_if (fun hc => ?_) (fun hn0 => ?_)
    · refine j_tabIn (pc := 6) (tgt := 44) C dX7_plainNext_6 hc (by decide) (by decide) rfl rfl ?_
      refine j_aload_n (pc := 44) C dX7_plainNext_44 rfl 0 rfl ?_
      refine j_aload_n (pc := 45) C dX7_plainNext_45 rfl 0 rfl ?_
      refine j_iload_n (pc := 46) C dX7_plainNext_46 rfl 1 rfl ?_
      refine j_bP (fun v2 s1 es1 => ?_)
      refine j_callV1 (pc := 47) C obX7 rfl rfl (X7_middle_m _ hj es1) kV_X7_295 rfl (by omega) rfl (Nat.le_of_ble_eq_true rfl) dX7_plainNext_47 ?_
      refine j_iconst (pc := 50) C dX7_plainNext_50 ?_
      refine j_aload_n (pc := 51) C dX7_plainNext_51 rfl 0 rfl ?_
      refine gf_X7_20 (pc := 52) C dX7_plainNext_52 ?_
      refine j_iload_n (pc := 55) C dX7_plainNext_55 rfl 1 rfl ?_
      refine j_bI (fun v3 ev3 => ?_)
      refine j_iald (pc := 56) C arX7_3 ev3 dX7_plainNext_56 ?_
      refine j_imul (pc := 57) C dX7_plainNext_57 ?_
      refine j_callV1 (pc := 58) C obX7 rfl rfl (X7_most_m _ hj rfl) kV_X7_298 rfl (by omega) rfl (Nat.le_of_ble_eq_true rfl) dX7_plainNext_58 ?_
      exact j_ireturn C rfl rfl rfl rfl dX7_plainNext_61
    · refine j_if (fun hc => ?_) (fun hn1 => ?_)
      · refine j_join (lv' := [(0, .ref (G.2.2.1 0)), (1, .int (oI l1))]) (pc' := 62) (stk' := []) ?_ (fun jn => ?_)
        · refine j_aload_n (pc := 62) C dX7_plainNext_62 rfl 0 rfl ?_
          refine j_aload_n (pc := 63) C dX7_plainNext_63 rfl 0 rfl ?_
          refine j_iload_n (pc := 64) C dX7_plainNext_64 rfl 1 rfl ?_
          refine j_bP (fun v4 s2 es2 => ?_)
          refine j_callV1 (pc := 65) C obX7 rfl rfl (X7_middle_m _ hj es2) kV_X7_295 rfl (by omega) rfl (Nat.le_of_ble_eq_true rfl) dX7_plainNext_65 ?_
          refine j_aload_n (pc := 68) C dX7_plainNext_68 rfl 0 rfl ?_
          refine gf_X7_23 (pc := 69) C dX7_plainNext_69 ?_
          refine j_iload_n (pc := 72) C dX7_plainNext_72 rfl 1 rfl ?_
          refine j_bI (fun v5 ev5 => ?_)
          refine j_iald (pc := 73) C arX7_4 ev5 dX7_plainNext_73 ?_
          refine j_callV1 (pc := 74) C obX7 rfl rfl (X7_least_m _ hj rfl) kV_X7_301 rfl (by omega) rfl (Nat.le_of_ble_eq_true rfl) dX7_plainNext_74 ?_
          exact j_ireturn C rfl rfl rfl rfl dX7_plainNext_77
        · rcases hc with hc | hc
          · exact j_tabIn (pc := 6) (tgt := 62) C dX7_plainNext_6 hc (by decide) (by decide) rfl rfl jn
          · exact j_tabIn (pc := 6) (tgt := 62) C dX7_plainNext_6 hc (by decide) (by decide) rfl rfl jn
      · refine j_if (fun hc => ?_) (fun hn2 => ?_)
        · refine j_tabIn (pc := 6) (tgt := 78) C dX7_plainNext_6 hc (by decide) (by decide) rfl rfl ?_
          refine j_aload_n (pc := 78) C dX7_plainNext_78 rfl 0 rfl ?_
          refine j_iload_n (pc := 79) C dX7_plainNext_79 rfl 1 rfl ?_
          refine j_iconst (pc := 80) C dX7_plainNext_80 ?_
          refine j_bI (fun s3 es3 => ?_)
          refine j_callV0 (pc := 81) C obX7 rfl rfl (X7_laySome_m _ hj es3) kV_X7_291 rfl (by omega) rfl (Nat.le_of_ble_eq_true rfl) dX7_plainNext_81 ?_
          refine j_aload_n (pc := 84) C dX7_plainNext_84 rfl 0 rfl ?_
          refine gf_X7_87 (pc := 85) C dX7_plainNext_85 ?_
          refine j_aload_n (pc := 88) C dX7_plainNext_88 rfl 0 rfl ?_
          refine gf_X7_90 (pc := 89) C dX7_plainNext_89 ?_
          refine j_iconst (pc := 92) C dX7_plainNext_92 ?_
          refine j_isub (pc := 93) C dX7_plainNext_93 ?_
          refine j_iconst (pc := 94) C dX7_plainNext_94 ?_
          refine j_idiv (pc := 95) C (by decide) dX7_plainNext_95 ?_
          refine j_bI (fun v6 ev6 => ?_)
          refine j_iald (pc := 96) C arX7_25 ev6 dX7_plainNext_96 ?_
          exact j_ireturn C rfl rfl rfl rfl dX7_plainNext_97
        · refine j_if (fun hc => ?_) (fun hn3 => ?_)
          · refine j_tabIn (pc := 6) (tgt := 98) C dX7_plainNext_6 hc (by decide) (by decide) rfl rfl ?_
            refine j_aload_n (pc := 98) C dX7_plainNext_98 rfl 0 rfl ?_
            refine gf_X7_13 (pc := 99) C dX7_plainNext_99 ?_
            refine j_aload_n (pc := 102) C dX7_plainNext_102 rfl 0 rfl ?_
            refine gf_X7_20 (pc := 103) C dX7_plainNext_103 ?_
            refine j_iload_n (pc := 106) C dX7_plainNext_106 rfl 1 rfl ?_
            refine j_bI (fun v7 ev7 => ?_)
            refine j_iald (pc := 107) C arX7_3 ev7 dX7_plainNext_107 ?_
            refine j_iconst (pc := 108) C dX7_plainNext_108 ?_
            refine j_iadd (pc := 109) C dX7_plainNext_109 ?_
            refine j_nz (fun hz => ?_)
            refine j_irem (pc := 110) C hz dX7_plainNext_110 ?_
            refine j_if_ne (pc := 111) (tgt := 136) C dX7_plainNext_111 rfl ?_ ?_
            · refine j_aload_n (pc := 114) C dX7_plainNext_114 rfl 0 rfl ?_
              refine j_aload_n (pc := 115) C dX7_plainNext_115 rfl 0 rfl ?_
              refine j_iload_n (pc := 116) C dX7_plainNext_116 rfl 1 rfl ?_
              refine j_bP (fun v8 s4 es4 => ?_)
              refine j_callV1 (pc := 117) C obX7 rfl rfl (X7_middle_m _ hj es4) kV_X7_295 rfl (by omega) rfl (Nat.le_of_ble_eq_true rfl) dX7_plainNext_117 ?_
              refine j_iconst (pc := 120) C dX7_plainNext_120 ?_
              refine j_aload_n (pc := 121) C dX7_plainNext_121 rfl 0 rfl ?_
              refine gf_X7_20 (pc := 122) C dX7_plainNext_122 ?_
              refine j_iload_n (pc := 125) C dX7_plainNext_125 rfl 1 rfl ?_
              refine j_bI (fun v9 ev9 => ?_)
              refine j_iald (pc := 126) C arX7_3 ev9 dX7_plainNext_126 ?_
              refine j_imul (pc := 127) C dX7_plainNext_127 ?_
              refine j_callV1 (pc := 128) C obX7 rfl rfl (X7_most_m _ hj rfl) kV_X7_298 rfl (by omega) rfl (Nat.le_of_ble_eq_true rfl) dX7_plainNext_128 ?_
              refine j_iconst (pc := 131) C dX7_plainNext_131 ?_
              refine j_idiv (pc := 132) C (by decide) dX7_plainNext_132 ?_
              refine j_goto (pc := 133) (tgt := 153) C dX7_plainNext_133 rfl ?_
              exact j_ireturn C rfl rfl rfl rfl dX7_plainNext_153
            · refine j_aload_n (pc := 136) C dX7_plainNext_136 rfl 0 rfl ?_
              refine j_aload_n (pc := 137) C dX7_plainNext_137 rfl 0 rfl ?_
              refine j_iload_n (pc := 138) C dX7_plainNext_138 rfl 1 rfl ?_
              refine j_bP (fun v10 s5 es5 => ?_)
              refine j_callV1 (pc := 139) C obX7 rfl rfl (X7_middle_m _ hj es5) kV_X7_295 rfl (by omega) rfl (Nat.le_of_ble_eq_true rfl) dX7_plainNext_139 ?_
              refine j_iconst (pc := 142) C dX7_plainNext_142 ?_
              refine j_aload_n (pc := 143) C dX7_plainNext_143 rfl 0 rfl ?_
              refine gf_X7_20 (pc := 144) C dX7_plainNext_144 ?_
              refine j_iload_n (pc := 147) C dX7_plainNext_147 rfl 1 rfl ?_
              refine j_bI (fun v11 ev11 => ?_)
              refine j_iald (pc := 148) C arX7_3 ev11 dX7_plainNext_148 ?_
              refine j_imul (pc := 149) C dX7_plainNext_149 ?_
              refine j_callV1 (pc := 150) C obX7 rfl rfl (X7_most_m _ hj rfl) kV_X7_298 rfl (by omega) rfl (Nat.le_of_ble_eq_true rfl) dX7_plainNext_150 ?_
              exact j_ireturn C rfl rfl rfl rfl dX7_plainNext_153
          · refine j_if (fun hc => ?_) (fun hn4 => ?_)
            · refine j_tabIn (pc := 6) (tgt := 154) C dX7_plainNext_6 hc (by decide) (by decide) rfl rfl ?_
              refine j_aload_n (pc := 154) C dX7_plainNext_154 rfl 0 rfl ?_
              refine j_iload_n (pc := 155) C dX7_plainNext_155 rfl 1 rfl ?_
              refine j_iconst (pc := 156) C dX7_plainNext_156 ?_
              refine j_bI (fun s6 es6 => ?_)
              refine j_callV0 (pc := 157) C obX7 rfl rfl (X7_laySome_m _ hj es6) kV_X7_291 rfl (by omega) rfl (Nat.le_of_ble_eq_true rfl) dX7_plainNext_157 ?_
              refine j_aload_n (pc := 160) C dX7_plainNext_160 rfl 0 rfl ?_
              refine gf_X7_87 (pc := 161) C dX7_plainNext_161 ?_
              refine j_aload_n (pc := 164) C dX7_plainNext_164 rfl 0 rfl ?_
              refine j_aload_n (pc := 165) C dX7_plainNext_165 rfl 0 rfl ?_
              refine gf_X7_26 (pc := 166) C dX7_plainNext_166 ?_
              refine j_iconst (pc := 169) C dX7_plainNext_169 ?_
              refine j_iload_n (pc := 170) C dX7_plainNext_170 rfl 1 rfl ?_
              refine j_imul (pc := 171) C dX7_plainNext_171 ?_
              refine j_aload_n (pc := 172) C dX7_plainNext_172 rfl 0 rfl ?_
              refine gf_X7_13 (pc := 173) C dX7_plainNext_173 ?_
              refine j_iconst (pc := 176) C dX7_plainNext_176 ?_
              refine j_irem (pc := 177) C (by decide) dX7_plainNext_177 ?_
              refine j_iadd (pc := 178) C dX7_plainNext_178 ?_
              refine j_bI (fun v12 ev12 => ?_)
              refine j_iald (pc := 179) C arX7_5 ev12 dX7_plainNext_179 ?_
              refine j_aload_n (pc := 180) C dX7_plainNext_180 rfl 0 rfl ?_
              refine gf_X7_90 (pc := 181) C dX7_plainNext_181 ?_
              refine j_iconst (pc := 184) C dX7_plainNext_184 ?_
              refine j_isub (pc := 185) C dX7_plainNext_185 ?_
              refine j_callV1 (pc := 186) C obX7 rfl rfl (X7_least_m _ hj rfl) kV_X7_301 rfl (by omega) rfl (Nat.le_of_ble_eq_true rfl) dX7_plainNext_186 ?_
              refine j_bI (fun v13 ev13 => ?_)
              refine j_iald (pc := 189) C arX7_25 ev13 dX7_plainNext_189 ?_
              exact j_ireturn C rfl rfl rfl rfl dX7_plainNext_190
            · refine j_tabOut (pc := 6) (tgt := 191) C dX7_plainNext_6 (by omega) rfl ?_
              refine j_aload_n (pc := 191) C dX7_plainNext_191 rfl 0 rfl ?_
              refine j_iload_n (pc := 192) C dX7_plainNext_192 rfl 1 rfl ?_
              refine j_bP (fun v14 s7 es7 => ?_)
              refine j_callV1 (pc := 193) C obX7 rfl rfl (X7_middle_m _ hj es7) kV_X7_295 rfl (by omega) rfl (Nat.le_of_ble_eq_true rfl) dX7_plainNext_193 ?_
              exact j_ireturn C rfl rfl rfl rfl dX7_plainNext_196)
def X7_nextOf (st : PS) (l1 : Int) : Option (Int × PS) := bP (X7_plainNext st l1) (fun v1 s1 => bP (X7_adds s1 l1) (fun v2 s2 => some ((X7_most s2 0 (X7_least s2 99 (v1 + v2))), s2)))
set_option maxHeartbeats 4000000 in
set_option maxRecDepth 100000 in
theorem X7_nextOf_m (l : Launch) {G : GD} (hj : zInj sM G) {st : PS} {l1 : Int} {r : (Int × PS)} (hr : X7_nextOf st l1 = some r) : zM l sM G yX7_nextOf cX7_nextOf 2 (some .int) 5 [.ref (G.2.2.1 0), .int (oI l1)] st (some (.int (oI r.1))) r.2 :=
  zEnter (f := fI) hr hj (by decide) rfl (lv := [(0, .ref (G.2.2.1 0)), (1, .int (oI l1))]) rfl (Nat.le_of_ble_eq_true rfl) (fun X _ hN C => by
    unfold X7_nextOf
    refine j_aload_n (pc := 0) C dX7_nextOf_0 rfl 0 rfl ?_
    refine j_iconst (pc := 1) C dX7_nextOf_1 ?_
    refine j_aload_n (pc := 2) C dX7_nextOf_2 rfl 0 rfl ?_
    refine j_bipush (pc := 3) C dX7_nextOf_3 (by decide) ?_
    refine j_aload_n (pc := 5) C dX7_nextOf_5 rfl 0 rfl ?_
    refine j_iload_n (pc := 6) C dX7_nextOf_6 rfl 1 rfl ?_
    refine j_bP (fun v1 s1 es1 => ?_)
    refine j_callV1 (pc := 7) C obX7 rfl rfl (X7_plainNext_m _ hj es1) kV_X7_304 rfl (by omega) rfl (Nat.le_of_ble_eq_true rfl) dX7_nextOf_7 ?_
    refine j_aload_n (pc := 10) C dX7_nextOf_10 rfl 0 rfl ?_
    refine j_iload_n (pc := 11) C dX7_nextOf_11 rfl 1 rfl ?_
    refine j_bP (fun v2 s2 es2 => ?_)
    refine j_callV1 (pc := 12) C obX7 rfl rfl (X7_adds_m _ hj es2) kV_X7_307 rfl (by omega) rfl (Nat.le_of_ble_eq_true rfl) dX7_nextOf_12 ?_
    refine j_iadd (pc := 15) C dX7_nextOf_15 ?_
    refine j_callV1 (pc := 16) C obX7 rfl rfl (X7_least_m _ hj rfl) kV_X7_301 rfl (by omega) rfl (Nat.le_of_ble_eq_true rfl) dX7_nextOf_16 ?_
    refine j_callV1 (pc := 19) C obX7 rfl rfl (X7_most_m _ hj rfl) kV_X7_298 rfl (by omega) rfl (Nat.le_of_ble_eq_true rfl) dX7_nextOf_19 ?_
    exact j_ireturn C rfl rfl rfl rfl dX7_nextOf_22)
def X7_layNext_L2  : Nat → PS → Int → Option PS
  | 0, _, _ => none
  | k + 1, st, l1 => if wI (st 0 0) ≤ wI l1 then some st else (bP (X7_nextOf st l1) (fun v1 s1 => bI (zwr s1 27 8 l1 v1) (fun s2 => X7_layNext_L2 k s2 (l1 + 1))))
def X7_layNext (st : PS) : Option PS := X7_layNext_L2 FU st 0
set_option maxHeartbeats 4000000 in
set_option maxRecDepth 100000 in
theorem X7_layNext_L2_j {X : JX} {G : GD} (C : zC X sM G RX7 cX7_layNext none 6) (hN : X.2.2.2.2.2.2.2.2.2.2.2.2 = 2) (hj : zInj sM G)  : ∀ (k : Nat) (st : PS) (l1 : Int), J X (zI sM G) (zQ sM G fV) st [(0, .ref (G.2.2.1 0)), (1, .int (oI l1))] 2 [] (X7_layNext_L2 k st l1) := by
  intro k
  induction k with
  | zero => intro st l1; exact j_none
  | succ k ih =>
    intro st l1
    rw [X7_layNext_L2]
    refine j_iload_n (pc := 2) C dX7_layNext_2 rfl 1 rfl ?_
    refine j_aload_n (pc := 3) C dX7_layNext_3 rfl 0 rfl ?_
    refine gf_X7_7 (pc := 4) C dX7_layNext_4 ?_
    refine j_icmp_ge (pc := 7) (tgt := 27) C dX7_layNext_7 rfl ?_ ?_
    · exact j_return C rfl rfl dX7_layNext_27
    · refine j_aload_n (pc := 10) C dX7_layNext_10 rfl 0 rfl ?_
      refine gf_X7_93 (pc := 11) C dX7_layNext_11 ?_
      refine j_iload_n (pc := 14) C dX7_layNext_14 rfl 1 rfl ?_
      refine j_aload_n (pc := 15) C dX7_layNext_15 rfl 0 rfl ?_
      refine j_iload_n (pc := 16) C dX7_layNext_16 rfl 1 rfl ?_
      refine j_bP (fun v1 s1 es1 => ?_)
      refine j_callV1 (pc := 17) C obX7 rfl rfl (X7_nextOf_m _ hj es1) kV_X7_310 rfl (by omega) rfl (Nat.le_of_ble_eq_true rfl) dX7_layNext_17 ?_
      refine j_bI (fun s2 es2 => ?_)
      refine j_iast (pc := 20) C arX7_27 es2 dX7_layNext_20 ?_
      refine j_iinc (pc := 21) C hN dX7_layNext_21 1 rfl (by decide) (lv' := [(1, .int (oI (l1 + 1))), (0, .ref (G.2.2.1 0))]) rfl ?_
      refine j_goto (pc := 24) (tgt := 2) C dX7_layNext_24 rfl ?_
      exact j_sub [1, 0] rfl (ih _ _)
set_option maxHeartbeats 4000000 in
set_option maxRecDepth 100000 in
theorem X7_layNext_m (l : Launch) {G : GD} (hj : zInj sM G) {st : PS} {r : PS} (hr : X7_layNext st = some r) : zM l sM G yX7_layNext cX7_layNext 2 none 6 [.ref (G.2.2.1 0)] st none r :=
  zEnter (f := fV) hr hj (by decide) rfl (lv := [(0, .ref (G.2.2.1 0))]) rfl (Nat.le_of_ble_eq_true rfl) (fun X _ hN C => by
    unfold X7_layNext
    refine j_iconst (pc := 0) C dX7_layNext_0 ?_
    refine j_istore_n (pc := 1) C hN dX7_layNext_1 rfl (by decide) (lv' := [(1, .int (oI 0)), (0, .ref (G.2.2.1 0))]) rfl ?_
    exact j_sub [1, 0] rfl (X7_layNext_L2_j C hN hj FU _ _))
def X7_goYear_L6  : Nat → PS → Int → Option PS
  | 0, _, _ => none
  | k + 1, st, l1 => if wI (st 0 0) ≤ wI l1 then zlet (zu st 0 1 ((st 0 1) + 1)) (fun s2 => some s2) else (bI (zrd st 27 8 l1) (fun v1 => bI (zwr st 4 8 l1 v1) (fun s3 => X7_goYear_L6 k s3 (l1 + 1))))
def X7_goYear (st : PS) : Option PS := bI (X7_layNext st) (fun s1 => X7_goYear_L6 FU s1 0)
set_option maxHeartbeats 4000000 in
set_option maxRecDepth 100000 in
theorem X7_goYear_L6_j {X : JX} {G : GD} (C : zC X sM G RX7 cX7_goYear none 7) (hN : X.2.2.2.2.2.2.2.2.2.2.2.2 = 2) (hj : zInj sM G)  : ∀ (k : Nat) (st : PS) (l1 : Int), J X (zI sM G) (zQ sM G fV) st [(0, .ref (G.2.2.1 0)), (1, .int (oI l1))] 6 [] (X7_goYear_L6 k st l1) := by
  intro k
  induction k with
  | zero => intro st l1; exact j_none
  | succ k ih =>
    intro st l1
    rw [X7_goYear_L6]
    refine j_iload_n (pc := 6) C dX7_goYear_6 rfl 1 rfl ?_
    refine j_aload_n (pc := 7) C dX7_goYear_7 rfl 0 rfl ?_
    refine gf_X7_7 (pc := 8) C dX7_goYear_8 ?_
    refine j_icmp_ge (pc := 11) (tgt := 32) C dX7_goYear_11 rfl ?_ ?_
    · refine j_aload_n (pc := 32) C dX7_goYear_32 rfl 0 rfl ?_
      refine j_dup (pc := 33) C dX7_goYear_33 rfl ?_
      refine gf_X7_13 (pc := 34) C dX7_goYear_34 ?_
      refine j_iconst (pc := 37) C dX7_goYear_37 ?_
      refine j_iadd (pc := 38) C dX7_goYear_38 ?_
      refine fp_X7_13 (pc := 39) C dX7_goYear_39 ?_
      refine j_let (fun s2 => ?_)
      exact j_return C rfl rfl dX7_goYear_42
    · refine j_aload_n (pc := 14) C dX7_goYear_14 rfl 0 rfl ?_
      refine gf_X7_23 (pc := 15) C dX7_goYear_15 ?_
      refine j_iload_n (pc := 18) C dX7_goYear_18 rfl 1 rfl ?_
      refine j_aload_n (pc := 19) C dX7_goYear_19 rfl 0 rfl ?_
      refine gf_X7_93 (pc := 20) C dX7_goYear_20 ?_
      refine j_iload_n (pc := 23) C dX7_goYear_23 rfl 1 rfl ?_
      refine j_bI (fun v1 ev1 => ?_)
      refine j_iald (pc := 24) C arX7_27 ev1 dX7_goYear_24 ?_
      refine j_bI (fun s3 es3 => ?_)
      refine j_iast (pc := 25) C arX7_4 es3 dX7_goYear_25 ?_
      refine j_iinc (pc := 26) C hN dX7_goYear_26 1 rfl (by decide) (lv' := [(1, .int (oI (l1 + 1))), (0, .ref (G.2.2.1 0))]) rfl ?_
      refine j_goto (pc := 29) (tgt := 6) C dX7_goYear_29 rfl ?_
      exact j_sub [1, 0] rfl (ih _ _)
set_option maxHeartbeats 4000000 in
set_option maxRecDepth 100000 in
theorem X7_goYear_m (l : Launch) {G : GD} (hj : zInj sM G) {st : PS} {r : PS} (hr : X7_goYear st = some r) : zM l sM G yX7_goYear cX7_goYear 2 none 7 [.ref (G.2.2.1 0)] st none r :=
  zEnter (f := fV) hr hj (by decide) rfl (lv := [(0, .ref (G.2.2.1 0))]) rfl (Nat.le_of_ble_eq_true rfl) (fun X _ hN C => by
    unfold X7_goYear
    refine j_aload_n (pc := 0) C dX7_goYear_0 rfl 0 rfl ?_
    refine j_bI (fun s1 es1 => ?_)
    refine j_callV0 (pc := 1) C obX7 rfl rfl (X7_layNext_m _ hj es1) kV_X7_313 rfl (by omega) rfl (Nat.le_of_ble_eq_true rfl) dX7_goYear_1 ?_
    refine j_iconst (pc := 4) C dX7_goYear_4 ?_
    refine j_istore_n (pc := 5) C hN dX7_goYear_5 rfl (by decide) (lv' := [(1, .int (oI 0)), (0, .ref (G.2.2.1 0))]) rfl ?_
    exact j_sub [1, 0] rfl (X7_goYear_L6_j C hN hj FU _ _))
def X7_goYears_L2 (l1 : Int) : Nat → PS → Int → Option PS
  | 0, _, _ => none
  | k + 1, st, l2 => if wI l1 ≤ wI l2 then some st else (bI (X7_goYear st) (fun s1 => X7_goYears_L2 l1 k s1 (l2 + 1)))
def X7_goYears (st : PS) (l1 : Int) : Option PS := X7_goYears_L2 l1 FU st 0
set_option maxHeartbeats 4000000 in
set_option maxRecDepth 100000 in
theorem X7_goYears_L2_j {X : JX} {G : GD} (C : zC X sM G RX7 cX7_goYears none 8) (hN : X.2.2.2.2.2.2.2.2.2.2.2.2 = 3) (hj : zInj sM G) {l1 : Int} : ∀ (k : Nat) (st : PS) (l2 : Int), J X (zI sM G) (zQ sM G fV) st [(0, .ref (G.2.2.1 0)), (1, .int (oI l1)), (2, .int (oI l2))] 2 [] (X7_goYears_L2 l1 k st l2) := by
  intro k
  induction k with
  | zero => intro st l2; exact j_none
  | succ k ih =>
    intro st l2
    rw [X7_goYears_L2]
    refine j_iload_n (pc := 2) C dX7_goYears_2 rfl 2 rfl ?_
    refine j_iload_n (pc := 3) C dX7_goYears_3 rfl 1 rfl ?_
    refine j_icmp_ge (pc := 4) (tgt := 17) C dX7_goYears_4 rfl ?_ ?_
    · exact j_return C rfl rfl dX7_goYears_17
    · refine j_aload_n (pc := 7) C dX7_goYears_7 rfl 0 rfl ?_
      refine j_bI (fun s1 es1 => ?_)
      refine j_callV0 (pc := 8) C obX7 rfl rfl (X7_goYear_m _ hj es1) kV_X7_316 rfl (by omega) rfl (Nat.le_of_ble_eq_true rfl) dX7_goYears_8 ?_
      refine j_iinc (pc := 11) C hN dX7_goYears_11 2 rfl (by decide) (lv' := [(2, .int (oI (l2 + 1))), (0, .ref (G.2.2.1 0)), (1, .int (oI l1))]) rfl ?_
      refine j_goto (pc := 14) (tgt := 2) C dX7_goYears_14 rfl ?_
      exact j_sub [1, 2, 0] rfl (ih _ _)
set_option maxHeartbeats 4000000 in
set_option maxRecDepth 100000 in
theorem X7_goYears_m (l : Launch) {G : GD} (hj : zInj sM G) {st : PS} {l1 : Int} {r : PS} (hr : X7_goYears st l1 = some r) : zM l sM G yX7_goYears cX7_goYears 3 none 8 [.ref (G.2.2.1 0), .int (oI l1)] st none r :=
  zEnter (f := fV) hr hj (by decide) rfl (lv := [(0, .ref (G.2.2.1 0)), (1, .int (oI l1))]) rfl (Nat.le_of_ble_eq_true rfl) (fun X _ hN C => by
    unfold X7_goYears
    refine j_iconst (pc := 0) C dX7_goYears_0 ?_
    refine j_istore_n (pc := 1) C hN dX7_goYears_1 rfl (by decide) (lv' := [(2, .int (oI 0)), (0, .ref (G.2.2.1 0)), (1, .int (oI l1))]) rfl ?_
    exact j_sub [1, 2, 0] rfl (X7_goYears_L2_j C hN hj FU _ _))
def X7_allEarn_L4  (st : PS) : Nat → Int → Int → Option Int
  | 0, _, _ => none
  | k + 1, l1, l2 => if wI (st 0 0) ≤ wI l2 then some l1 else (bI (zrd st 4 8 l2) (fun v1 => X7_allEarn_L4 st k (l1 + v1) (l2 + 1)))
def X7_allEarn (st : PS) : Option Int := X7_allEarn_L4 st FU 0 0
set_option maxHeartbeats 4000000 in
set_option maxRecDepth 100000 in
theorem X7_allEarn_L4_j {X : JX} {G : GD} (C : zC X sM G RX7 cX7_allEarn (some .int) 0) (hN : X.2.2.2.2.2.2.2.2.2.2.2.2 = 3) (hj : zInj sM G)  {st : PS} : ∀ (k : Nat) (l1 : Int) (l2 : Int), J X (zI sM G) (zQ sM G (fR st)) st [(0, .ref (G.2.2.1 0)), (1, .int (oI l1)), (2, .int (oI l2))] 4 [] (X7_allEarn_L4 st k l1 l2) := by
  intro k
  induction k with
  | zero => intro l1 l2; exact j_none
  | succ k ih =>
    intro l1 l2
    rw [X7_allEarn_L4]
    refine j_iload_n (pc := 4) C dX7_allEarn_4 rfl 2 rfl ?_
    refine j_aload_n (pc := 5) C dX7_allEarn_5 rfl 0 rfl ?_
    refine gf_X7_7 (pc := 6) C dX7_allEarn_6 ?_
    refine j_icmp_ge (pc := 9) (tgt := 27) C dX7_allEarn_9 rfl ?_ ?_
    · refine j_iload_n (pc := 27) C dX7_allEarn_27 rfl 1 rfl ?_
      exact j_ireturn C rfl rfl rfl rfl dX7_allEarn_28
    · refine j_iload_n (pc := 12) C dX7_allEarn_12 rfl 1 rfl ?_
      refine j_aload_n (pc := 13) C dX7_allEarn_13 rfl 0 rfl ?_
      refine gf_X7_23 (pc := 14) C dX7_allEarn_14 ?_
      refine j_iload_n (pc := 17) C dX7_allEarn_17 rfl 2 rfl ?_
      refine j_bI (fun v1 ev1 => ?_)
      refine j_iald (pc := 18) C arX7_4 ev1 dX7_allEarn_18 ?_
      refine j_iadd (pc := 19) C dX7_allEarn_19 ?_
      refine j_istore_n (pc := 20) C hN dX7_allEarn_20 rfl (by decide) (lv' := [(1, .int (oI (l1 + v1))), (0, .ref (G.2.2.1 0)), (2, .int (oI l2))]) rfl ?_
      refine j_iinc (pc := 21) C hN dX7_allEarn_21 2 rfl (by decide) (lv' := [(2, .int (oI (l2 + 1))), (1, .int (oI (l1 + v1))), (0, .ref (G.2.2.1 0))]) rfl ?_
      refine j_goto (pc := 24) (tgt := 4) C dX7_allEarn_24 rfl ?_
      exact j_sub [2, 1, 0] rfl (ih _ _)
set_option maxHeartbeats 4000000 in
set_option maxRecDepth 100000 in
theorem X7_allEarn_m (l : Launch) {G : GD} (hj : zInj sM G) {st : PS} {r : Int} (hr : X7_allEarn st = some r) : zM l sM G yX7_allEarn cX7_allEarn 3 (some .int) 0 [.ref (G.2.2.1 0)] st (some (.int (oI r))) st :=
  zEnter (f := fR st) hr hj (by decide) rfl (lv := [(0, .ref (G.2.2.1 0))]) rfl (Nat.le_of_ble_eq_true rfl) (fun X _ hN C => by
    unfold X7_allEarn
    refine j_iconst (pc := 0) C dX7_allEarn_0 ?_
    refine j_istore_n (pc := 1) C hN dX7_allEarn_1 rfl (by decide) (lv' := [(1, .int (oI 0)), (0, .ref (G.2.2.1 0))]) rfl ?_
    refine j_iconst (pc := 2) C dX7_allEarn_2 ?_
    refine j_istore_n (pc := 3) C hN dX7_allEarn_3 rfl (by decide) (lv' := [(2, .int (oI 0)), (1, .int (oI 0)), (0, .ref (G.2.2.1 0))]) rfl ?_
    exact j_sub [2, 1, 0] rfl (X7_allEarn_L4_j C hN hj FU _ _))
def X7_of (st : PS) (l1 l2 : Int) : Option (Int × PS) := if wI (X7_isHouse st l1) = 0 then some ((-1), st) else (if wI l2 = 0 then bI (zrd st 2 8 l1) (fun v1 => some (v1, st)) else (if wI l2 = 1 then bI (zrd st 3 8 l1) (fun v2 => some (v2, st)) else (if wI l2 = 2 then bI (zrd st 4 8 l1) (fun v3 => some (v3, st)) else (if wI l2 = 3 then bI (X7_saysOf st l1) (fun v4 => some (v4, st)) else (if wI l2 = 4 then bP (X7_nextOf st l1) (fun v5 s1 => some (v5, s1)) else (some ((-1), st)))))))
set_option maxHeartbeats 4000000 in
set_option maxRecDepth 100000 in
theorem X7_of_m (l : Launch) {G : GD} (hj : zInj sM G) {st : PS} {l1 l2 : Int} {r : (Int × PS)} (hr : X7_of st l1 l2 = some r) : zM l sM G yX7_of cX7_of 3 (some .int) 6 [.ref (G.2.2.1 0), .int (oI l1), .int (oI l2)] st (some (.int (oI r.1))) r.2 :=
  zEnter (f := fI) hr hj (by decide) rfl (lv := [(0, .ref (G.2.2.1 0)), (1, .int (oI l1)), (2, .int (oI l2))]) rfl (Nat.le_of_ble_eq_true rfl) (fun X _ hN C => by
    unfold X7_of
    refine j_aload_n (pc := 0) C dX7_of_0 rfl 0 rfl ?_
    refine j_iload_n (pc := 1) C dX7_of_1 rfl 1 rfl ?_
    refine j_callV1 (pc := 2) C obX7 rfl rfl (X7_isHouse_m _ hj rfl) kV_X7_205 rfl (by omega) rfl (Nat.le_of_ble_eq_true rfl) dX7_of_2 ?_
    refine j_if_ne (pc := 5) (tgt := 10) C dX7_of_5 rfl ?_ ?_
    · refine j_iconst (pc := 8) C dX7_of_8 ?_
      exact j_ireturn C rfl rfl rfl rfl dX7_of_9
    · refine j_iload_n (pc := 10) C dX7_of_10 rfl 2 rfl ?_
      refine j_if (fun hc => ?_) (fun hn0 => ?_)
      · refine j_tabIn (pc := 11) (tgt := 44) C dX7_of_11 hc (by decide) (by decide) rfl rfl ?_
        refine j_aload_n (pc := 44) C dX7_of_44 rfl 0 rfl ?_
        refine gf_X7_16 (pc := 45) C dX7_of_45 ?_
        refine j_iload_n (pc := 48) C dX7_of_48 rfl 1 rfl ?_
        refine j_bI (fun v1 ev1 => ?_)
        refine j_iald (pc := 49) C arX7_2 ev1 dX7_of_49 ?_
        exact j_ireturn C rfl rfl rfl rfl dX7_of_50
      · refine j_if (fun hc => ?_) (fun hn1 => ?_)
        · refine j_tabIn (pc := 11) (tgt := 51) C dX7_of_11 hc (by decide) (by decide) rfl rfl ?_
          refine j_aload_n (pc := 51) C dX7_of_51 rfl 0 rfl ?_
          refine gf_X7_20 (pc := 52) C dX7_of_52 ?_
          refine j_iload_n (pc := 55) C dX7_of_55 rfl 1 rfl ?_
          refine j_bI (fun v2 ev2 => ?_)
          refine j_iald (pc := 56) C arX7_3 ev2 dX7_of_56 ?_
          exact j_ireturn C rfl rfl rfl rfl dX7_of_57
        · refine j_if (fun hc => ?_) (fun hn2 => ?_)
          · refine j_tabIn (pc := 11) (tgt := 58) C dX7_of_11 hc (by decide) (by decide) rfl rfl ?_
            refine j_aload_n (pc := 58) C dX7_of_58 rfl 0 rfl ?_
            refine gf_X7_23 (pc := 59) C dX7_of_59 ?_
            refine j_iload_n (pc := 62) C dX7_of_62 rfl 1 rfl ?_
            refine j_bI (fun v3 ev3 => ?_)
            refine j_iald (pc := 63) C arX7_4 ev3 dX7_of_63 ?_
            exact j_ireturn C rfl rfl rfl rfl dX7_of_64
          · refine j_if (fun hc => ?_) (fun hn3 => ?_)
            · refine j_tabIn (pc := 11) (tgt := 65) C dX7_of_11 hc (by decide) (by decide) rfl rfl ?_
              refine j_aload_n (pc := 65) C dX7_of_65 rfl 0 rfl ?_
              refine j_iload_n (pc := 66) C dX7_of_66 rfl 1 rfl ?_
              refine j_bI (fun v4 ev4 => ?_)
              refine j_callV1 (pc := 67) C obX7 rfl rfl (X7_saysOf_m _ hj ev4) kV_X7_288 rfl (by omega) rfl (Nat.le_of_ble_eq_true rfl) dX7_of_67 ?_
              exact j_ireturn C rfl rfl rfl rfl dX7_of_70
            · refine j_if (fun hc => ?_) (fun hn4 => ?_)
              · refine j_tabIn (pc := 11) (tgt := 71) C dX7_of_11 hc (by decide) (by decide) rfl rfl ?_
                refine j_aload_n (pc := 71) C dX7_of_71 rfl 0 rfl ?_
                refine j_iload_n (pc := 72) C dX7_of_72 rfl 1 rfl ?_
                refine j_bP (fun v5 s1 es1 => ?_)
                refine j_callV1 (pc := 73) C obX7 rfl rfl (X7_nextOf_m _ hj es1) kV_X7_310 rfl (by omega) rfl (Nat.le_of_ble_eq_true rfl) dX7_of_73 ?_
                exact j_ireturn C rfl rfl rfl rfl dX7_of_76
              · refine j_tabOut (pc := 11) (tgt := 77) C dX7_of_11 (by omega) rfl ?_
                refine j_iconst (pc := 77) C dX7_of_77 ?_
                exact j_ireturn C rfl rfl rfl rfl dX7_of_78)
def X7_told (st : PS) (l1 : Int) : Option Int := if wI l1 = 0 then some (st 0 1) else (if wI l1 = wI 1 then bI (X7_isRing st) (fun v1 => if wI v1 = 0 then some 0 else (some 1)) else (if wI l1 = wI 2 then bI (X7_allEarn st) (fun v2 => some v2) else (some (-1))))
set_option maxHeartbeats 4000000 in
set_option maxRecDepth 100000 in
theorem X7_told_m (l : Launch) {G : GD} (hj : zInj sM G) {st : PS} {l1 : Int} {r : Int} (hr : X7_told st l1 = some r) : zM l sM G yX7_told cX7_told 2 (some .int) 2 [.ref (G.2.2.1 0), .int (oI l1)] st (some (.int (oI r))) st :=
  zEnter (f := fR st) hr hj (by decide) rfl (lv := [(0, .ref (G.2.2.1 0)), (1, .int (oI l1))]) rfl (Nat.le_of_ble_eq_true rfl) (fun X _ hN C => by
    unfold X7_told
    refine j_iload_n (pc := 0) C dX7_told_0 rfl 1 rfl ?_
    refine j_if_ne (pc := 1) (tgt := 11) C dX7_told_1 rfl ?_ ?_
    · refine j_aload_n (pc := 4) C dX7_told_4 rfl 0 rfl ?_
      refine gf_X7_13 (pc := 5) C dX7_told_5 ?_
      refine j_goto (pc := 8) (tgt := 44) C dX7_told_8 rfl ?_
      exact j_ireturn C rfl rfl rfl rfl dX7_told_44
    · refine j_iload_n (pc := 11) C dX7_told_11 rfl 1 rfl ?_
      refine j_iconst (pc := 12) C dX7_told_12 ?_
      refine j_icmp_ne (pc := 13) (tgt := 31) C dX7_told_13 rfl ?_ ?_
      · refine j_aload_n (pc := 16) C dX7_told_16 rfl 0 rfl ?_
        refine j_bI (fun v1 ev1 => ?_)
        refine j_callV1 (pc := 17) C obX7 rfl rfl (X7_isRing_m _ hj ev1) kV_X7_278 rfl (by omega) rfl (Nat.le_of_ble_eq_true rfl) dX7_told_17 ?_
        refine j_if_eq (pc := 20) (tgt := 27) C dX7_told_20 rfl ?_ ?_
        · refine j_iconst (pc := 27) C dX7_told_27 ?_
          refine j_goto (pc := 28) (tgt := 44) C dX7_told_28 rfl ?_
          exact j_ireturn C rfl rfl rfl rfl dX7_told_44
        · refine j_iconst (pc := 23) C dX7_told_23 ?_
          refine j_goto (pc := 24) (tgt := 44) C dX7_told_24 rfl ?_
          exact j_ireturn C rfl rfl rfl rfl dX7_told_44
      · refine j_iload_n (pc := 31) C dX7_told_31 rfl 1 rfl ?_
        refine j_iconst (pc := 32) C dX7_told_32 ?_
        refine j_icmp_ne (pc := 33) (tgt := 43) C dX7_told_33 rfl ?_ ?_
        · refine j_aload_n (pc := 36) C dX7_told_36 rfl 0 rfl ?_
          refine j_bI (fun v2 ev2 => ?_)
          refine j_callV1 (pc := 37) C obX7 rfl rfl (X7_allEarn_m _ hj ev2) kV_X7_319 rfl (by omega) rfl (Nat.le_of_ble_eq_true rfl) dX7_told_37 ?_
          refine j_goto (pc := 40) (tgt := 44) C dX7_told_40 rfl ?_
          exact j_ireturn C rfl rfl rfl rfl dX7_told_44
        · refine j_iconst (pc := 43) C dX7_told_43 ?_
          exact j_ireturn C rfl rfl rfl rfl dX7_told_44)
def X7_year (st : PS) : Option (Int × PS) := if wI (st 0 1) = wI 999 then some ((-3), st) else (bI (X7_goYear st) (fun s1 => some (s1 0 1, s1)))
set_option maxHeartbeats 4000000 in
set_option maxRecDepth 100000 in
theorem X7_year_m (l : Launch) {G : GD} (hj : zInj sM G) {st : PS} {r : (Int × PS)} (hr : X7_year st = some r) : zM l sM G yX7_year cX7_year 1 (some .int) 8 [.ref (G.2.2.1 0)] st (some (.int (oI r.1))) r.2 :=
  zEnter (f := fI) hr hj (by decide) rfl (lv := [(0, .ref (G.2.2.1 0))]) rfl (Nat.le_of_ble_eq_true rfl) (fun X _ hN C => by
    unfold X7_year
    refine j_aload_n (pc := 0) C dX7_year_0 rfl 0 rfl ?_
    refine gf_X7_13 (pc := 1) C dX7_year_1 ?_
    refine j_sipush (pc := 4) C dX7_year_4 (by decide) ?_
    refine j_icmp_ne (pc := 7) (tgt := 13) C dX7_year_7 rfl ?_ ?_
    · refine j_bipush (pc := 10) C dX7_year_10 (by decide) ?_
      exact j_ireturn C rfl rfl rfl rfl dX7_year_12
    · refine j_aload_n (pc := 13) C dX7_year_13 rfl 0 rfl ?_
      refine j_bI (fun s1 es1 => ?_)
      refine j_callV0 (pc := 14) C obX7 rfl rfl (X7_goYear_m _ hj es1) kV_X7_316 rfl (by omega) rfl (Nat.le_of_ble_eq_true rfl) dX7_year_14 ?_
      refine j_aload_n (pc := 17) C dX7_year_17 rfl 0 rfl ?_
      refine gf_X7_13 (pc := 18) C dX7_year_18 ?_
      exact j_ireturn C rfl rfl rfl rfl dX7_year_21)
def X7_keep_L2  : Nat → PS → Int → Option PS
  | 0, _, _ => none
  | k + 1, st, l1 => if wI 8 ≤ wI l1 then zlet (zu st 0 29 (st 0 1)) (fun s1 => some s1) else (bI (zrd st 4 8 l1) (fun v1 => bI (zwr st 28 8 l1 v1) (fun s2 => X7_keep_L2 k s2 (l1 + 1))))
def X7_keep (st : PS) : Option PS := X7_keep_L2 FU st 0
set_option maxHeartbeats 4000000 in
set_option maxRecDepth 100000 in
theorem X7_keep_L2_j {X : JX} {G : GD} (C : zC X sM G RX7 cX7_keep none 0) (hN : X.2.2.2.2.2.2.2.2.2.2.2.2 = 2) (hj : zInj sM G)  : ∀ (k : Nat) (st : PS) (l1 : Int), J X (zI sM G) (zQ sM G fV) st [(0, .ref (G.2.2.1 0)), (1, .int (oI l1))] 2 [] (X7_keep_L2 k st l1) := by
  intro k
  induction k with
  | zero => intro st l1; exact j_none
  | succ k ih =>
    intro st l1
    rw [X7_keep_L2]
    refine j_iload_n (pc := 2) C dX7_keep_2 rfl 1 rfl ?_
    refine j_bipush (pc := 3) C dX7_keep_3 (by decide) ?_
    refine j_icmp_ge (pc := 5) (tgt := 26) C dX7_keep_5 rfl ?_ ?_
    · refine j_aload_n (pc := 26) C dX7_keep_26 rfl 0 rfl ?_
      refine j_aload_n (pc := 27) C dX7_keep_27 rfl 0 rfl ?_
      refine gf_X7_13 (pc := 28) C dX7_keep_28 ?_
      refine fp_X7_99 (pc := 31) C dX7_keep_31 ?_
      refine j_let (fun s1 => ?_)
      exact j_return C rfl rfl dX7_keep_34
    · refine j_aload_n (pc := 8) C dX7_keep_8 rfl 0 rfl ?_
      refine gf_X7_96 (pc := 9) C dX7_keep_9 ?_
      refine j_iload_n (pc := 12) C dX7_keep_12 rfl 1 rfl ?_
      refine j_aload_n (pc := 13) C dX7_keep_13 rfl 0 rfl ?_
      refine gf_X7_23 (pc := 14) C dX7_keep_14 ?_
      refine j_iload_n (pc := 17) C dX7_keep_17 rfl 1 rfl ?_
      refine j_bI (fun v1 ev1 => ?_)
      refine j_iald (pc := 18) C arX7_4 ev1 dX7_keep_18 ?_
      refine j_bI (fun s2 es2 => ?_)
      refine j_iast (pc := 19) C arX7_28 es2 dX7_keep_19 ?_
      refine j_iinc (pc := 20) C hN dX7_keep_20 1 rfl (by decide) (lv' := [(1, .int (oI (l1 + 1))), (0, .ref (G.2.2.1 0))]) rfl ?_
      refine j_goto (pc := 23) (tgt := 2) C dX7_keep_23 rfl ?_
      exact j_sub [1, 0] rfl (ih _ _)
set_option maxHeartbeats 4000000 in
set_option maxRecDepth 100000 in
theorem X7_keep_m (l : Launch) {G : GD} (hj : zInj sM G) {st : PS} {r : PS} (hr : X7_keep st = some r) : zM l sM G yX7_keep cX7_keep 2 none 0 [.ref (G.2.2.1 0)] st none r :=
  zEnter (f := fV) hr hj (by decide) rfl (lv := [(0, .ref (G.2.2.1 0))]) rfl (Nat.le_of_ble_eq_true rfl) (fun X _ hN C => by
    unfold X7_keep
    refine j_iconst (pc := 0) C dX7_keep_0 ?_
    refine j_istore_n (pc := 1) C hN dX7_keep_1 rfl (by decide) (lv' := [(1, .int (oI 0)), (0, .ref (G.2.2.1 0))]) rfl ?_
    exact j_sub [1, 0] rfl (X7_keep_L2_j C hN hj FU _ _))
def X7_putBack_L2  : Nat → PS → Int → Option PS
  | 0, _, _ => none
  | k + 1, st, l1 => if wI 8 ≤ wI l1 then zlet (zu st 0 1 (st 0 29)) (fun s1 => some s1) else (bI (zrd st 28 8 l1) (fun v1 => bI (zwr st 4 8 l1 v1) (fun s2 => X7_putBack_L2 k s2 (l1 + 1))))
def X7_putBack (st : PS) : Option PS := X7_putBack_L2 FU st 0
set_option maxHeartbeats 4000000 in
set_option maxRecDepth 100000 in
theorem X7_putBack_L2_j {X : JX} {G : GD} (C : zC X sM G RX7 cX7_putBack none 0) (hN : X.2.2.2.2.2.2.2.2.2.2.2.2 = 2) (hj : zInj sM G)  : ∀ (k : Nat) (st : PS) (l1 : Int), J X (zI sM G) (zQ sM G fV) st [(0, .ref (G.2.2.1 0)), (1, .int (oI l1))] 2 [] (X7_putBack_L2 k st l1) := by
  intro k
  induction k with
  | zero => intro st l1; exact j_none
  | succ k ih =>
    intro st l1
    rw [X7_putBack_L2]
    refine j_iload_n (pc := 2) C dX7_putBack_2 rfl 1 rfl ?_
    refine j_bipush (pc := 3) C dX7_putBack_3 (by decide) ?_
    refine j_icmp_ge (pc := 5) (tgt := 26) C dX7_putBack_5 rfl ?_ ?_
    · refine j_aload_n (pc := 26) C dX7_putBack_26 rfl 0 rfl ?_
      refine j_aload_n (pc := 27) C dX7_putBack_27 rfl 0 rfl ?_
      refine gf_X7_99 (pc := 28) C dX7_putBack_28 ?_
      refine fp_X7_13 (pc := 31) C dX7_putBack_31 ?_
      refine j_let (fun s1 => ?_)
      exact j_return C rfl rfl dX7_putBack_34
    · refine j_aload_n (pc := 8) C dX7_putBack_8 rfl 0 rfl ?_
      refine gf_X7_23 (pc := 9) C dX7_putBack_9 ?_
      refine j_iload_n (pc := 12) C dX7_putBack_12 rfl 1 rfl ?_
      refine j_aload_n (pc := 13) C dX7_putBack_13 rfl 0 rfl ?_
      refine gf_X7_96 (pc := 14) C dX7_putBack_14 ?_
      refine j_iload_n (pc := 17) C dX7_putBack_17 rfl 1 rfl ?_
      refine j_bI (fun v1 ev1 => ?_)
      refine j_iald (pc := 18) C arX7_28 ev1 dX7_putBack_18 ?_
      refine j_bI (fun s2 es2 => ?_)
      refine j_iast (pc := 19) C arX7_4 es2 dX7_putBack_19 ?_
      refine j_iinc (pc := 20) C hN dX7_putBack_20 1 rfl (by decide) (lv' := [(1, .int (oI (l1 + 1))), (0, .ref (G.2.2.1 0))]) rfl ?_
      refine j_goto (pc := 23) (tgt := 2) C dX7_putBack_23 rfl ?_
      exact j_sub [1, 0] rfl (ih _ _)
set_option maxHeartbeats 4000000 in
set_option maxRecDepth 100000 in
theorem X7_putBack_m (l : Launch) {G : GD} (hj : zInj sM G) {st : PS} {r : PS} (hr : X7_putBack st = some r) : zM l sM G yX7_putBack cX7_putBack 2 none 0 [.ref (G.2.2.1 0)] st none r :=
  zEnter (f := fV) hr hj (by decide) rfl (lv := [(0, .ref (G.2.2.1 0))]) rfl (Nat.le_of_ble_eq_true rfl) (fun X _ hN C => by
    unfold X7_putBack
    refine j_iconst (pc := 0) C dX7_putBack_0 ?_
    refine j_istore_n (pc := 1) C hN dX7_putBack_1 rfl (by decide) (lv' := [(1, .int (oI 0)), (0, .ref (G.2.2.1 0))]) rfl ?_
    exact j_sub [1, 0] rfl (X7_putBack_L2_j C hN hj FU _ _))
