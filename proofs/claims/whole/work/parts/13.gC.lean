def X5_takeFrom (a : Nat) (r1 : Nat) (st : PS) : Option PS := zlet (zu st a 0 (st r1 0)) (fun s1 => zlet (zu s1 a 1 (s1 r1 1)) (fun s2 => zlet (zu s2 a 2 (s2 r1 2)) (fun s3 => bI (zcp s3 (r1 + 3) 7 (a + 3) 7 0 0 7) (fun s4 => bI (zcp s4 (r1 + 4) 7 (a + 4) 7 0 0 7) (fun s5 => bI (zcp s5 (r1 + 5) 7 (a + 5) 7 0 0 7) (fun s6 => bI (zcp s6 (r1 + 6) 28 (a + 6) 28 0 0 28) (fun s7 => some s7)))))))
set_option maxHeartbeats 4000000 in
set_option maxRecDepth 100000 in
theorem X5_takeFrom_m (l : Launch) {G : GD} (hj : zInj sC G) {a : Nat} {r1 : Nat} (h : IsTown a) (h1 : IsTown r1) {st : PS} {r : PS} (hr : X5_takeFrom a r1 st = some r) : zM l sC G yX5_takeFrom cX5_takeFrom 2 none 0 [.ref (G.2.2.1 a), .ref (G.2.2.1 r1)] st none r :=
  zEnter (f := fV) hr hj (by decide) rfl (lv := [(0, .ref (G.2.2.1 a)), (1, .ref (G.2.2.1 r1))]) rfl (Nat.le_of_ble_eq_true rfl) (fun X _ hN C => by
    unfold X5_takeFrom
    refine j_aload_n (pc := 0) C dX5_takeFrom_0 rfl 0 rfl ?_
    refine j_aload_n (pc := 1) C dX5_takeFrom_1 rfl 1 rfl ?_
    refine gf_X5_44 (pc := 2) C h1 dX5_takeFrom_2 ?_
    refine fp_X5_44 (pc := 5) C h dX5_takeFrom_5 ?_
    refine j_let (fun s1 => ?_)
    refine j_aload_n (pc := 8) C dX5_takeFrom_8 rfl 0 rfl ?_
    refine j_aload_n (pc := 9) C dX5_takeFrom_9 rfl 1 rfl ?_
    refine gf_X5_48 (pc := 10) C h1 dX5_takeFrom_10 ?_
    refine fp_X5_48 (pc := 13) C h dX5_takeFrom_13 ?_
    refine j_let (fun s2 => ?_)
    refine j_aload_n (pc := 16) C dX5_takeFrom_16 rfl 0 rfl ?_
    refine j_aload_n (pc := 17) C dX5_takeFrom_17 rfl 1 rfl ?_
    refine gf_X5_51 (pc := 18) C h1 dX5_takeFrom_18 ?_
    refine fp_X5_51 (pc := 21) C h dX5_takeFrom_21 ?_
    refine j_let (fun s3 => ?_)
    refine j_aload_n (pc := 24) C dX5_takeFrom_24 rfl 1 rfl ?_
    refine gf_X5_9 (pc := 25) C h1 dX5_takeFrom_25 ?_
    refine j_iconst (pc := 28) C dX5_takeFrom_28 ?_
    refine j_aload_n (pc := 29) C dX5_takeFrom_29 rfl 0 rfl ?_
    refine gf_X5_9 (pc := 30) C h dX5_takeFrom_30 ?_
    refine j_iconst (pc := 33) C dX5_takeFrom_33 ?_
    refine j_bipush (pc := 34) C dX5_takeFrom_34 (by decide) ?_
    refine j_bI (fun s4 es4 => ?_)
    refine j_copy (pc := 36) C (arX5_3 h1) (arX5_3 h) es4 kC_X5_55 (Nat.le_of_ble_eq_true rfl) dX5_takeFrom_36 ?_
    refine j_aload_n (pc := 39) C dX5_takeFrom_39 rfl 1 rfl ?_
    refine gf_X5_15 (pc := 40) C h1 dX5_takeFrom_40 ?_
    refine j_iconst (pc := 43) C dX5_takeFrom_43 ?_
    refine j_aload_n (pc := 44) C dX5_takeFrom_44 rfl 0 rfl ?_
    refine gf_X5_15 (pc := 45) C h dX5_takeFrom_45 ?_
    refine j_iconst (pc := 48) C dX5_takeFrom_48 ?_
    refine j_bipush (pc := 49) C dX5_takeFrom_49 (by decide) ?_
    refine j_bI (fun s5 es5 => ?_)
    refine j_copy (pc := 51) C (arX5_4 h1) (arX5_4 h) es5 kC_X5_55 (Nat.le_of_ble_eq_true rfl) dX5_takeFrom_51 ?_
    refine j_aload_n (pc := 54) C dX5_takeFrom_54 rfl 1 rfl ?_
    refine gf_X5_18 (pc := 55) C h1 dX5_takeFrom_55 ?_
    refine j_iconst (pc := 58) C dX5_takeFrom_58 ?_
    refine j_aload_n (pc := 59) C dX5_takeFrom_59 rfl 0 rfl ?_
    refine gf_X5_18 (pc := 60) C h dX5_takeFrom_60 ?_
    refine j_iconst (pc := 63) C dX5_takeFrom_63 ?_
    refine j_bipush (pc := 64) C dX5_takeFrom_64 (by decide) ?_
    refine j_bI (fun s6 es6 => ?_)
    refine j_copy (pc := 66) C (arX5_5 h1) (arX5_5 h) es6 kC_X5_55 (Nat.le_of_ble_eq_true rfl) dX5_takeFrom_66 ?_
    refine j_aload_n (pc := 69) C dX5_takeFrom_69 rfl 1 rfl ?_
    refine gf_X5_21 (pc := 70) C h1 dX5_takeFrom_70 ?_
    refine j_iconst (pc := 73) C dX5_takeFrom_73 ?_
    refine j_aload_n (pc := 74) C dX5_takeFrom_74 rfl 0 rfl ?_
    refine gf_X5_21 (pc := 75) C h dX5_takeFrom_75 ?_
    refine j_iconst (pc := 78) C dX5_takeFrom_78 ?_
    refine j_bipush (pc := 79) C dX5_takeFrom_79 (by decide) ?_
    refine j_bI (fun s7 es7 => ?_)
    refine j_copy (pc := 81) C (arX5_6 h1) (arX5_6 h) es7 kC_X5_55 (Nat.le_of_ble_eq_true rfl) dX5_takeFrom_81 ?_
    exact j_return C rfl rfl dX5_takeFrom_84)
def X5_copyHouse (a : Nat) (st : PS) (l1 l2 : Int) : Option PS := bI (zrd st (a + 3) 7 l1) (fun v1 => bI (zwr st (a + 3) 7 l2 v1) (fun s1 => bI (zrd s1 (a + 4) 7 l1) (fun v2 => bI (zwr s1 (a + 4) 7 l2 v2) (fun s2 => bI (zrd s2 (a + 5) 7 l1) (fun v3 => bI (zwr s2 (a + 5) 7 l2 v3) (fun s3 => bI (zcp s3 (a + 6) 28 (a + 6) 28 (l1 * 4) (l2 * 4) 4) (fun s4 => some s4)))))))
set_option maxHeartbeats 4000000 in
set_option maxRecDepth 100000 in
theorem X5_copyHouse_m (l : Launch) {G : GD} (hj : zInj sC G) {a : Nat} (h : IsTown a) {st : PS} {l1 l2 : Int} {r : PS} (hr : X5_copyHouse a st l1 l2 = some r) : zM l sC G yX5_copyHouse cX5_copyHouse 3 none 0 [.ref (G.2.2.1 a), .int (oI l1), .int (oI l2)] st none r :=
  zEnter (f := fV) hr hj (by decide) rfl (lv := [(0, .ref (G.2.2.1 a)), (1, .int (oI l1)), (2, .int (oI l2))]) rfl (Nat.le_of_ble_eq_true rfl) (fun X _ hN C => by
    unfold X5_copyHouse
    refine j_aload_n (pc := 0) C dX5_copyHouse_0 rfl 0 rfl ?_
    refine gf_X5_9 (pc := 1) C h dX5_copyHouse_1 ?_
    refine j_iload_n (pc := 4) C dX5_copyHouse_4 rfl 2 rfl ?_
    refine j_aload_n (pc := 5) C dX5_copyHouse_5 rfl 0 rfl ?_
    refine gf_X5_9 (pc := 6) C h dX5_copyHouse_6 ?_
    refine j_iload_n (pc := 9) C dX5_copyHouse_9 rfl 1 rfl ?_
    refine j_bI (fun v1 ev1 => ?_)
    refine j_iald (pc := 10) C (arX5_3 h) ev1 dX5_copyHouse_10 ?_
    refine j_bI (fun s1 es1 => ?_)
    refine j_iast (pc := 11) C (arX5_3 h) es1 dX5_copyHouse_11 ?_
    refine j_aload_n (pc := 12) C dX5_copyHouse_12 rfl 0 rfl ?_
    refine gf_X5_15 (pc := 13) C h dX5_copyHouse_13 ?_
    refine j_iload_n (pc := 16) C dX5_copyHouse_16 rfl 2 rfl ?_
    refine j_aload_n (pc := 17) C dX5_copyHouse_17 rfl 0 rfl ?_
    refine gf_X5_15 (pc := 18) C h dX5_copyHouse_18 ?_
    refine j_iload_n (pc := 21) C dX5_copyHouse_21 rfl 1 rfl ?_
    refine j_bI (fun v2 ev2 => ?_)
    refine j_iald (pc := 22) C (arX5_4 h) ev2 dX5_copyHouse_22 ?_
    refine j_bI (fun s2 es2 => ?_)
    refine j_iast (pc := 23) C (arX5_4 h) es2 dX5_copyHouse_23 ?_
    refine j_aload_n (pc := 24) C dX5_copyHouse_24 rfl 0 rfl ?_
    refine gf_X5_18 (pc := 25) C h dX5_copyHouse_25 ?_
    refine j_iload_n (pc := 28) C dX5_copyHouse_28 rfl 2 rfl ?_
    refine j_aload_n (pc := 29) C dX5_copyHouse_29 rfl 0 rfl ?_
    refine gf_X5_18 (pc := 30) C h dX5_copyHouse_30 ?_
    refine j_iload_n (pc := 33) C dX5_copyHouse_33 rfl 1 rfl ?_
    refine j_bI (fun v3 ev3 => ?_)
    refine j_iald (pc := 34) C (arX5_5 h) ev3 dX5_copyHouse_34 ?_
    refine j_bI (fun s3 es3 => ?_)
    refine j_iast (pc := 35) C (arX5_5 h) es3 dX5_copyHouse_35 ?_
    refine j_aload_n (pc := 36) C dX5_copyHouse_36 rfl 0 rfl ?_
    refine gf_X5_21 (pc := 37) C h dX5_copyHouse_37 ?_
    refine j_iload_n (pc := 40) C dX5_copyHouse_40 rfl 1 rfl ?_
    refine j_iconst (pc := 41) C dX5_copyHouse_41 ?_
    refine j_imul (pc := 42) C dX5_copyHouse_42 ?_
    refine j_aload_n (pc := 43) C dX5_copyHouse_43 rfl 0 rfl ?_
    refine gf_X5_21 (pc := 44) C h dX5_copyHouse_44 ?_
    refine j_iload_n (pc := 47) C dX5_copyHouse_47 rfl 2 rfl ?_
    refine j_iconst (pc := 48) C dX5_copyHouse_48 ?_
    refine j_imul (pc := 49) C dX5_copyHouse_49 ?_
    refine j_iconst (pc := 50) C dX5_copyHouse_50 ?_
    refine j_bI (fun s4 es4 => ?_)
    refine j_copy (pc := 51) C (arX5_6 h) (arX5_6 h) es4 kC_X5_55 (Nat.le_of_ble_eq_true rfl) dX5_copyHouse_51 ?_
    exact j_return C rfl rfl dX5_copyHouse_54)
def X5_insert_L85 (a : Nat) (l1 : Int) : Nat → PS → Int → Option PS
  | 0, _, _ => none
  | k + 1, st, l5 => if wI 4 ≤ wI l5 then some st else (bI (zwr st (a + 6) 28 ((l1 * 4) + l5) 0) (fun s5 => X5_insert_L85 a l1 k s5 (l5 + 1)))
def X5_insert_L28 (a : Nat) (l1 : Int) (l2 : Int) (l3 : Int) (l4 : Int) : Nat → PS → Int → Option PS
  | 0, _, _ => none
  | k + 1, st, l5 => if wI l5 ≤ wI l1 then zlet (zu st a 0 ((st a 0) + 1)) (fun s1 => bI (zwr s1 (a + 3) 7 l1 l2) (fun s2 => bI (zwr s2 (a + 4) 7 l1 l3) (fun s3 => bI (zwr s3 (a + 5) 7 l1 l4) (fun s4 => X5_insert_L85 a l1 FU s4 0)))) else (bI (X5_copyHouse a st (l5 - 1) l5) (fun s6 => X5_insert_L28 a l1 l2 l3 l4 k s6 (l5 + (-1))))
def X5_insert (a : Nat) (st : PS) (l1 l2 l3 l4 : Int) : Option PS := if wI l1 < 0 then some st else (if wI (st a 0) < wI l1 then some st else (if wI (st a 0) < wI 7 then X5_insert_L28 a l1 l2 l3 l4 FU st (st a 0) else (some st)))
set_option maxHeartbeats 4000000 in
set_option maxRecDepth 100000 in
theorem X5_insert_L85_j {X : JX} {G : GD} (C : zC X sC G RX5 cX5_insert none 1) (hN : X.2.2.2.2.2.2.2.2.2.2.2.2 = 6) (hj : zInj sC G) {a : Nat} {l1 : Int} (h : IsTown a) : ∀ (k : Nat) (st : PS) (l5 : Int), J X (zI sC G) (zQ sC G fV) st [(0, .ref (G.2.2.1 a)), (1, .int (oI l1)), (5, .int (oI l5))] 85 [] (X5_insert_L85 a l1 k st l5) := by
  intro k
  induction k with
  | zero => intro st l5; exact j_none
  | succ k ih =>
    intro st l5
    rw [X5_insert_L85]
    refine j_iload (pc := 85) C dX5_insert_85 2 rfl ?_
    refine j_iconst (pc := 87) C dX5_insert_87 ?_
    refine j_icmp_ge (pc := 88) (tgt := 109) C dX5_insert_88 rfl ?_ ?_
    · exact j_return C rfl rfl dX5_insert_109
    · refine j_aload_n (pc := 91) C dX5_insert_91 rfl 0 rfl ?_
      refine gf_X5_21 (pc := 92) C h dX5_insert_92 ?_
      refine j_iload_n (pc := 95) C dX5_insert_95 rfl 1 rfl ?_
      refine j_iconst (pc := 96) C dX5_insert_96 ?_
      refine j_imul (pc := 97) C dX5_insert_97 ?_
      refine j_iload (pc := 98) C dX5_insert_98 2 rfl ?_
      refine j_iadd (pc := 100) C dX5_insert_100 ?_
      refine j_iconst (pc := 101) C dX5_insert_101 ?_
      refine j_bI (fun s5 es5 => ?_)
      refine j_iast (pc := 102) C (arX5_6 h) es5 dX5_insert_102 ?_
      refine j_iinc (pc := 103) C hN dX5_insert_103 2 rfl (by decide) (lv' := [(5, .int (oI (l5 + 1))), (0, .ref (G.2.2.1 a)), (1, .int (oI l1))]) rfl ?_
      refine j_goto (pc := 106) (tgt := 85) C dX5_insert_106 rfl ?_
      exact j_sub [1, 2, 0] rfl (ih _ _)
set_option maxHeartbeats 4000000 in
set_option maxRecDepth 100000 in
theorem X5_insert_L28_j {X : JX} {G : GD} (C : zC X sC G RX5 cX5_insert none 1) (hN : X.2.2.2.2.2.2.2.2.2.2.2.2 = 6) (hj : zInj sC G) {a : Nat} {l1 : Int} {l2 : Int} {l3 : Int} {l4 : Int} (h : IsTown a) : ∀ (k : Nat) (st : PS) (l5 : Int), J X (zI sC G) (zQ sC G fV) st [(0, .ref (G.2.2.1 a)), (1, .int (oI l1)), (2, .int (oI l2)), (3, .int (oI l3)), (4, .int (oI l4)), (5, .int (oI l5))] 28 [] (X5_insert_L28 a l1 l2 l3 l4 k st l5) := by
  intro k
  induction k with
  | zero => intro st l5; exact j_none
  | succ k ih =>
    intro st l5
    rw [X5_insert_L28]
    refine j_iload (pc := 28) C dX5_insert_28 5 rfl ?_
    refine j_iload_n (pc := 30) C dX5_insert_30 rfl 1 rfl ?_
    refine j_icmp_le (pc := 31) (tgt := 50) C dX5_insert_31 rfl ?_ ?_
    · refine j_aload_n (pc := 50) C dX5_insert_50 rfl 0 rfl ?_
      refine j_dup (pc := 51) C dX5_insert_51 rfl ?_
      refine gf_X5_44 (pc := 52) C h dX5_insert_52 ?_
      refine j_iconst (pc := 55) C dX5_insert_55 ?_
      refine j_iadd (pc := 56) C dX5_insert_56 ?_
      refine fp_X5_44 (pc := 57) C h dX5_insert_57 ?_
      refine j_let (fun s1 => ?_)
      refine j_aload_n (pc := 60) C dX5_insert_60 rfl 0 rfl ?_
      refine gf_X5_9 (pc := 61) C h dX5_insert_61 ?_
      refine j_iload_n (pc := 64) C dX5_insert_64 rfl 1 rfl ?_
      refine j_iload_n (pc := 65) C dX5_insert_65 rfl 2 rfl ?_
      refine j_bI (fun s2 es2 => ?_)
      refine j_iast (pc := 66) C (arX5_3 h) es2 dX5_insert_66 ?_
      refine j_aload_n (pc := 67) C dX5_insert_67 rfl 0 rfl ?_
      refine gf_X5_15 (pc := 68) C h dX5_insert_68 ?_
      refine j_iload_n (pc := 71) C dX5_insert_71 rfl 1 rfl ?_
      refine j_iload_n (pc := 72) C dX5_insert_72 rfl 3 rfl ?_
      refine j_bI (fun s3 es3 => ?_)
      refine j_iast (pc := 73) C (arX5_4 h) es3 dX5_insert_73 ?_
      refine j_aload_n (pc := 74) C dX5_insert_74 rfl 0 rfl ?_
      refine gf_X5_18 (pc := 75) C h dX5_insert_75 ?_
      refine j_iload_n (pc := 78) C dX5_insert_78 rfl 1 rfl ?_
      refine j_iload (pc := 79) C dX5_insert_79 4 rfl ?_
      refine j_bI (fun s4 es4 => ?_)
      refine j_iast (pc := 81) C (arX5_5 h) es4 dX5_insert_81 ?_
      refine j_iconst (pc := 82) C dX5_insert_82 ?_
      refine j_istore (pc := 83) C hN dX5_insert_83 (by decide) (lv' := [(5, .int (oI 0)), (0, .ref (G.2.2.1 a)), (1, .int (oI l1)), (2, .int (oI l2)), (3, .int (oI l3)), (4, .int (oI l4))]) rfl ?_
      exact j_sub [1, 2, 0] rfl (X5_insert_L85_j C hN hj h FU _ _)
    · refine j_aload_n (pc := 34) C dX5_insert_34 rfl 0 rfl ?_
      refine j_iload (pc := 35) C dX5_insert_35 5 rfl ?_
      refine j_iconst (pc := 37) C dX5_insert_37 ?_
      refine j_isub (pc := 38) C dX5_insert_38 ?_
      refine j_iload (pc := 39) C dX5_insert_39 5 rfl ?_
      refine j_bI (fun s6 es6 => ?_)
      refine j_callV0 (pc := 41) C (obX5 h) rfl rfl (X5_copyHouse_m _ hj h es6) kV_X5_61 rfl (by omega) rfl (Nat.le_of_ble_eq_true rfl) dX5_insert_41 ?_
      refine j_iinc (pc := 44) C hN dX5_insert_44 5 rfl (by decide) (lv' := [(5, .int (oI (l5 + (-1)))), (0, .ref (G.2.2.1 a)), (1, .int (oI l1)), (2, .int (oI l2)), (3, .int (oI l3)), (4, .int (oI l4))]) rfl ?_
      refine j_goto (pc := 47) (tgt := 28) C dX5_insert_47 rfl ?_
      exact j_sub [1, 2, 3, 4, 5, 0] rfl (ih _ _)
set_option maxHeartbeats 4000000 in
set_option maxRecDepth 100000 in
theorem X5_insert_m (l : Launch) {G : GD} (hj : zInj sC G) {a : Nat} (h : IsTown a) {st : PS} {l1 l2 l3 l4 : Int} {r : PS} (hr : X5_insert a st l1 l2 l3 l4 = some r) : zM l sC G yX5_insert cX5_insert 6 none 1 [.ref (G.2.2.1 a), .int (oI l1), .int (oI l2), .int (oI l3), .int (oI l4)] st none r :=
  zEnter (f := fV) hr hj (by decide) rfl (lv := [(0, .ref (G.2.2.1 a)), (1, .int (oI l1)), (2, .int (oI l2)), (3, .int (oI l3)), (4, .int (oI l4))]) rfl (Nat.le_of_ble_eq_true rfl) (fun X _ hN C => by
    unfold X5_insert
    refine j_iload_n (pc := 0) C dX5_insert_0 rfl 1 rfl ?_
    refine j_if_lt (pc := 1) (tgt := 21) C dX5_insert_1 rfl ?_ ?_
    · exact j_return C rfl rfl dX5_insert_21
    · refine j_iload_n (pc := 4) C dX5_insert_4 rfl 1 rfl ?_
      refine j_aload_n (pc := 5) C dX5_insert_5 rfl 0 rfl ?_
      refine gf_X5_44 (pc := 6) C h dX5_insert_6 ?_
      refine j_icmp_gt (pc := 9) (tgt := 21) C dX5_insert_9 rfl ?_ ?_
      · exact j_return C rfl rfl dX5_insert_21
      · refine j_aload_n (pc := 12) C dX5_insert_12 rfl 0 rfl ?_
        refine gf_X5_44 (pc := 13) C h dX5_insert_13 ?_
        refine j_bipush (pc := 16) C dX5_insert_16 (by decide) ?_
        refine j_icmp_lt (pc := 18) (tgt := 22) C dX5_insert_18 rfl ?_ ?_
        · refine j_aload_n (pc := 22) C dX5_insert_22 rfl 0 rfl ?_
          refine gf_X5_44 (pc := 23) C h dX5_insert_23 ?_
          refine j_istore (pc := 26) C hN dX5_insert_26 (by decide) (lv' := [(5, .int (oI (st a 0))), (0, .ref (G.2.2.1 a)), (1, .int (oI l1)), (2, .int (oI l2)), (3, .int (oI l3)), (4, .int (oI l4))]) rfl ?_
          exact j_sub [1, 2, 3, 4, 5, 0] rfl (X5_insert_L28_j C hN hj h FU _ _)
        · exact j_return C rfl rfl dX5_insert_21)
def X5_remove_L25 (a : Nat) : Nat → PS → Int → Option PS
  | 0, _, _ => none
  | k + 1, st, l2 => if wI (st a 0) ≤ wI l2 then some st else (bI (X5_copyHouse a st (l2 + 1) l2) (fun s2 => X5_remove_L25 a k s2 (l2 + 1)))
def X5_remove (a : Nat) (st : PS) (l1 : Int) : Option PS := if wI l1 < 0 then some st else (if wI l1 < wI (st a 0) then zlet (zu st a 0 ((st a 0) - 1)) (fun s1 => X5_remove_L25 a FU s1 l1) else (some st))
set_option maxHeartbeats 4000000 in
set_option maxRecDepth 100000 in
theorem X5_remove_L25_j {X : JX} {G : GD} (C : zC X sC G RX5 cX5_remove none 1) (hN : X.2.2.2.2.2.2.2.2.2.2.2.2 = 3) (hj : zInj sC G) {a : Nat} (h : IsTown a) : ∀ (k : Nat) (st : PS) (l2 : Int), J X (zI sC G) (zQ sC G fV) st [(0, .ref (G.2.2.1 a)), (2, .int (oI l2))] 25 [] (X5_remove_L25 a k st l2) := by
  intro k
  induction k with
  | zero => intro st l2; exact j_none
  | succ k ih =>
    intro st l2
    rw [X5_remove_L25]
    refine j_iload_n (pc := 25) C dX5_remove_25 rfl 1 rfl ?_
    refine j_aload_n (pc := 26) C dX5_remove_26 rfl 0 rfl ?_
    refine gf_X5_44 (pc := 27) C h dX5_remove_27 ?_
    refine j_icmp_ge (pc := 30) (tgt := 47) C dX5_remove_30 rfl ?_ ?_
    · exact j_return C rfl rfl dX5_remove_47
    · refine j_aload_n (pc := 33) C dX5_remove_33 rfl 0 rfl ?_
      refine j_iload_n (pc := 34) C dX5_remove_34 rfl 1 rfl ?_
      refine j_iconst (pc := 35) C dX5_remove_35 ?_
      refine j_iadd (pc := 36) C dX5_remove_36 ?_
      refine j_iload_n (pc := 37) C dX5_remove_37 rfl 1 rfl ?_
      refine j_bI (fun s2 es2 => ?_)
      refine j_callV0 (pc := 38) C (obX5 h) rfl rfl (X5_copyHouse_m _ hj h es2) kV_X5_61 rfl (by omega) rfl (Nat.le_of_ble_eq_true rfl) dX5_remove_38 ?_
      refine j_iinc (pc := 41) C hN dX5_remove_41 1 rfl (by decide) (lv' := [(2, .int (oI (l2 + 1))), (0, .ref (G.2.2.1 a))]) rfl ?_
      refine j_goto (pc := 44) (tgt := 25) C dX5_remove_44 rfl ?_
      exact j_sub [1, 0] rfl (ih _ _)
set_option maxHeartbeats 4000000 in
set_option maxRecDepth 100000 in
theorem X5_remove_m (l : Launch) {G : GD} (hj : zInj sC G) {a : Nat} (h : IsTown a) {st : PS} {l1 : Int} {r : PS} (hr : X5_remove a st l1 = some r) : zM l sC G yX5_remove cX5_remove 3 none 1 [.ref (G.2.2.1 a), .int (oI l1)] st none r :=
  zEnter (f := fV) hr hj (by decide) rfl (lv := [(0, .ref (G.2.2.1 a)), (1, .int (oI l1))]) rfl (Nat.le_of_ble_eq_true rfl) (fun X _ hN C => by
    unfold X5_remove
    refine j_iload_n (pc := 0) C dX5_remove_0 rfl 1 rfl ?_
    refine j_if_lt (pc := 1) (tgt := 12) C dX5_remove_1 rfl ?_ ?_
    · exact j_return C rfl rfl dX5_remove_12
    · refine j_iload_n (pc := 4) C dX5_remove_4 rfl 1 rfl ?_
      refine j_aload_n (pc := 5) C dX5_remove_5 rfl 0 rfl ?_
      refine gf_X5_44 (pc := 6) C h dX5_remove_6 ?_
      refine j_icmp_lt (pc := 9) (tgt := 13) C dX5_remove_9 rfl ?_ ?_
      · refine j_aload_n (pc := 13) C dX5_remove_13 rfl 0 rfl ?_
        refine j_dup (pc := 14) C dX5_remove_14 rfl ?_
        refine gf_X5_44 (pc := 15) C h dX5_remove_15 ?_
        refine j_iconst (pc := 18) C dX5_remove_18 ?_
        refine j_isub (pc := 19) C dX5_remove_19 ?_
        refine fp_X5_44 (pc := 20) C h dX5_remove_20 ?_
        refine j_let (fun s1 => ?_)
        refine j_iload_n (pc := 23) C dX5_remove_23 rfl 1 rfl ?_
        refine j_istore_n (pc := 24) C hN dX5_remove_24 rfl (by decide) (lv' := [(2, .int (oI l1)), (0, .ref (G.2.2.1 a)), (1, .int (oI l1))]) rfl ?_
        exact j_sub [1, 0] rfl (X5_remove_L25_j C hN hj h FU _ _)
      · exact j_return C rfl rfl dX5_remove_12)
def X5_give (a : Nat) (st : PS) (l1 l2 : Int) : Option PS := bI (zrd st (a + 5) 7 l1) (fun v1 => bI (zwr st (a + 5) 7 l1 (zmin 99 (v1 + l2))) (fun s1 => some s1))
set_option maxHeartbeats 4000000 in
set_option maxRecDepth 100000 in
theorem X5_give_m (l : Launch) {G : GD} (hj : zInj sC G) {a : Nat} (h : IsTown a) {st : PS} {l1 l2 : Int} {r : PS} (hr : X5_give a st l1 l2 = some r) : zM l sC G yX5_give cX5_give 3 none 0 [.ref (G.2.2.1 a), .int (oI l1), .int (oI l2)] st none r :=
  zEnter (f := fV) hr hj (by decide) rfl (lv := [(0, .ref (G.2.2.1 a)), (1, .int (oI l1)), (2, .int (oI l2))]) rfl (Nat.le_of_ble_eq_true rfl) (fun X _ hN C => by
    unfold X5_give
    refine j_aload_n (pc := 0) C dX5_give_0 rfl 0 rfl ?_
    refine gf_X5_18 (pc := 1) C h dX5_give_1 ?_
    refine j_iload_n (pc := 4) C dX5_give_4 rfl 1 rfl ?_
    refine j_bipush (pc := 5) C dX5_give_5 (by decide) ?_
    refine j_aload_n (pc := 7) C dX5_give_7 rfl 0 rfl ?_
    refine gf_X5_18 (pc := 8) C h dX5_give_8 ?_
    refine j_iload_n (pc := 11) C dX5_give_11 rfl 1 rfl ?_
    refine j_bI (fun v1 ev1 => ?_)
    refine j_iald (pc := 12) C (arX5_5 h) ev1 dX5_give_12 ?_
    refine j_iload_n (pc := 13) C dX5_give_13 rfl 2 rfl ?_
    refine j_iadd (pc := 14) C dX5_give_14 ?_
    refine j_mmin (pc := 15) C kC_X5_65 (Nat.le_of_ble_eq_true rfl) dX5_give_15 ?_
    refine j_bI (fun s1 es1 => ?_)
    refine j_iast (pc := 18) C (arX5_5 h) es1 dX5_give_18 ?_
    exact j_return C rfl rfl dX5_give_19)
def X5_isRing (a : Nat) (st : PS) : Option Int := if st a 2 < 0 then some 0 else (zchk (st a 2) 6 (if wI (st (100 + 10 * (st a 2).toNat) 0) = 0 then some 0 else (some 1)))
set_option maxHeartbeats 4000000 in
set_option maxRecDepth 100000 in
theorem X5_isRing_m (l : Launch) {G : GD} (hj : zInj sC G) {a : Nat} (h : IsTown a) {st : PS} {r : Int} (hr : X5_isRing a st = some r) : zM l sC G yX5_isRing cX5_isRing 1 (some .boolean) 0 [.ref (G.2.2.1 a)] st (some (.int (oI r))) st :=
  zEnter (f := fR st) hr hj (by decide) rfl (lv := [(0, .ref (G.2.2.1 a))]) rfl (Nat.le_of_ble_eq_true rfl) (fun X _ hN C => by
    unfold X5_isRing
    refine j_aload_n (pc := 0) C dX5_isRing_0 rfl 0 rfl ?_
    refine gf_X5_51 (pc := 1) C h dX5_isRing_1 ?_
    refine j_ifnull (pc := 4) (tgt := 21) C dX5_isRing_4 rfl ?_ ?_
    · refine j_iconst (pc := 21) C dX5_isRing_21 ?_
      exact j_ireturn C rfl rfl (znar (Or.inl rfl)) rfl dX5_isRing_22
    · refine j_aload_n (pc := 7) C dX5_isRing_7 rfl 0 rfl ?_
      refine gf_X5_51 (pc := 8) C h dX5_isRing_8 ?_
      refine j_mres (fun hk8 => ?_)
      refine gf_X5_71 (pc := 11) C (sixIsStreet hk8) dX5_isRing_11 ?_
      refine j_if_eq (pc := 14) (tgt := 21) C dX5_isRing_14 rfl ?_ ?_
      · refine j_iconst (pc := 21) C dX5_isRing_21 ?_
        exact j_ireturn C rfl rfl (znar (Or.inl rfl)) rfl dX5_isRing_22
      · refine j_iconst (pc := 17) C dX5_isRing_17 ?_
        refine j_goto (pc := 18) (tgt := 22) C dX5_isRing_18 rfl ?_
        exact j_ireturn C rfl rfl (znar (Or.inr rfl)) rfl dX5_isRing_22)
def X5_total_L4 (a : Nat) (st : PS) : Nat → Int → Int → Option Int
  | 0, _, _ => none
  | k + 1, l1, l2 => if wI (st a 0) ≤ wI l2 then some l1 else (bI (zrd st (a + 5) 7 l2) (fun v1 => X5_total_L4 a st k (l1 + v1) (l2 + 1)))
def X5_total (a : Nat) (st : PS) : Option Int := X5_total_L4 a st FU 0 0
set_option maxHeartbeats 4000000 in
set_option maxRecDepth 100000 in
theorem X5_total_L4_j {X : JX} {G : GD} (C : zC X sC G RX5 cX5_total (some .int) 0) (hN : X.2.2.2.2.2.2.2.2.2.2.2.2 = 3) (hj : zInj sC G) {a : Nat} {st : PS} (h : IsTown a) : ∀ (k : Nat) (l1 : Int) (l2 : Int), J X (zI sC G) (zQ sC G (fR st)) st [(0, .ref (G.2.2.1 a)), (1, .int (oI l1)), (2, .int (oI l2))] 4 [] (X5_total_L4 a st k l1 l2) := by
  intro k
  induction k with
  | zero => intro l1 l2; exact j_none
  | succ k ih =>
    intro l1 l2
    rw [X5_total_L4]
    refine j_iload_n (pc := 4) C dX5_total_4 rfl 2 rfl ?_
    refine j_aload_n (pc := 5) C dX5_total_5 rfl 0 rfl ?_
    refine gf_X5_44 (pc := 6) C h dX5_total_6 ?_
    refine j_icmp_ge (pc := 9) (tgt := 27) C dX5_total_9 rfl ?_ ?_
    · refine j_iload_n (pc := 27) C dX5_total_27 rfl 1 rfl ?_
      exact j_ireturn C rfl rfl rfl rfl dX5_total_28
    · refine j_iload_n (pc := 12) C dX5_total_12 rfl 1 rfl ?_
      refine j_aload_n (pc := 13) C dX5_total_13 rfl 0 rfl ?_
      refine gf_X5_18 (pc := 14) C h dX5_total_14 ?_
      refine j_iload_n (pc := 17) C dX5_total_17 rfl 2 rfl ?_
      refine j_bI (fun v1 ev1 => ?_)
      refine j_iald (pc := 18) C (arX5_5 h) ev1 dX5_total_18 ?_
      refine j_iadd (pc := 19) C dX5_total_19 ?_
      refine j_istore_n (pc := 20) C hN dX5_total_20 rfl (by decide) (lv' := [(1, .int (oI (l1 + v1))), (0, .ref (G.2.2.1 a)), (2, .int (oI l2))]) rfl ?_
      refine j_iinc (pc := 21) C hN dX5_total_21 2 rfl (by decide) (lv' := [(2, .int (oI (l2 + 1))), (1, .int (oI (l1 + v1))), (0, .ref (G.2.2.1 a))]) rfl ?_
      refine j_goto (pc := 24) (tgt := 4) C dX5_total_24 rfl ?_
      exact j_sub [2, 1, 0] rfl (ih _ _)
set_option maxHeartbeats 4000000 in
set_option maxRecDepth 100000 in
theorem X5_total_m (l : Launch) {G : GD} (hj : zInj sC G) {a : Nat} (h : IsTown a) {st : PS} {r : Int} (hr : X5_total a st = some r) : zM l sC G yX5_total cX5_total 3 (some .int) 0 [.ref (G.2.2.1 a)] st (some (.int (oI r))) st :=
  zEnter (f := fR st) hr hj (by decide) rfl (lv := [(0, .ref (G.2.2.1 a))]) rfl (Nat.le_of_ble_eq_true rfl) (fun X _ hN C => by
    unfold X5_total
    refine j_iconst (pc := 0) C dX5_total_0 ?_
    refine j_istore_n (pc := 1) C hN dX5_total_1 rfl (by decide) (lv' := [(1, .int (oI 0)), (0, .ref (G.2.2.1 a))]) rfl ?_
    refine j_iconst (pc := 2) C dX5_total_2 ?_
    refine j_istore_n (pc := 3) C hN dX5_total_3 rfl (by decide) (lv' := [(2, .int (oI 0)), (1, .int (oI 0)), (0, .ref (G.2.2.1 a))]) rfl ?_
    exact j_sub [2, 1, 0] rfl (X5_total_L4_j C hN hj h FU _ _))
def X5_someEarns_L2 (a : Nat) (l1 : Int) (st : PS) : Nat → Int → Option Int
  | 0, _ => none
  | k + 1, l2 => if wI (st a 0) ≤ wI l2 then some 0 else (bI (zrd st (a + 5) 7 l2) (fun v1 => if wI v1 = wI l1 then some 1 else (X5_someEarns_L2 a l1 st k (l2 + 1))))
def X5_someEarns (a : Nat) (st : PS) (l1 : Int) : Option Int := X5_someEarns_L2 a l1 st FU 0
set_option maxHeartbeats 4000000 in
set_option maxRecDepth 100000 in
theorem X5_someEarns_L2_j {X : JX} {G : GD} (C : zC X sC G RX5 cX5_someEarns (some .boolean) 0) (hN : X.2.2.2.2.2.2.2.2.2.2.2.2 = 3) (hj : zInj sC G) {a : Nat} {l1 : Int} {st : PS} (h : IsTown a) : ∀ (k : Nat) (l2 : Int), J X (zI sC G) (zQ sC G (fR st)) st [(0, .ref (G.2.2.1 a)), (1, .int (oI l1)), (2, .int (oI l2))] 2 [] (X5_someEarns_L2 a l1 st k l2) := by
  intro k
  induction k with
  | zero => intro l2; exact j_none
  | succ k ih =>
    intro l2
    rw [X5_someEarns_L2]
    refine j_iload_n (pc := 2) C dX5_someEarns_2 rfl 2 rfl ?_
    refine j_aload_n (pc := 3) C dX5_someEarns_3 rfl 0 rfl ?_
    refine gf_X5_44 (pc := 4) C h dX5_someEarns_4 ?_
    refine j_icmp_ge (pc := 7) (tgt := 28) C dX5_someEarns_7 rfl ?_ ?_
    · refine j_iconst (pc := 28) C dX5_someEarns_28 ?_
      exact j_ireturn C rfl rfl (znar (Or.inl rfl)) rfl dX5_someEarns_29
    · refine j_aload_n (pc := 10) C dX5_someEarns_10 rfl 0 rfl ?_
      refine gf_X5_18 (pc := 11) C h dX5_someEarns_11 ?_
      refine j_iload_n (pc := 14) C dX5_someEarns_14 rfl 2 rfl ?_
      refine j_bI (fun v1 ev1 => ?_)
      refine j_iald (pc := 15) C (arX5_5 h) ev1 dX5_someEarns_15 ?_
      refine j_iload_n (pc := 16) C dX5_someEarns_16 rfl 1 rfl ?_
      refine j_icmp_ne (pc := 17) (tgt := 22) C dX5_someEarns_17 rfl ?_ ?_
      · refine j_iconst (pc := 20) C dX5_someEarns_20 ?_
        exact j_ireturn C rfl rfl (znar (Or.inr rfl)) rfl dX5_someEarns_21
      · refine j_iinc (pc := 22) C hN dX5_someEarns_22 2 rfl (by decide) (lv' := [(2, .int (oI (l2 + 1))), (0, .ref (G.2.2.1 a)), (1, .int (oI l1))]) rfl ?_
        refine j_goto (pc := 25) (tgt := 2) C dX5_someEarns_25 rfl ?_
        exact j_sub [1, 2, 0] rfl (ih _)
set_option maxHeartbeats 4000000 in
set_option maxRecDepth 100000 in
theorem X5_someEarns_m (l : Launch) {G : GD} (hj : zInj sC G) {a : Nat} (h : IsTown a) {st : PS} {l1 : Int} {r : Int} (hr : X5_someEarns a st l1 = some r) : zM l sC G yX5_someEarns cX5_someEarns 3 (some .boolean) 0 [.ref (G.2.2.1 a), .int (oI l1)] st (some (.int (oI r))) st :=
  zEnter (f := fR st) hr hj (by decide) rfl (lv := [(0, .ref (G.2.2.1 a)), (1, .int (oI l1))]) rfl (Nat.le_of_ble_eq_true rfl) (fun X _ hN C => by
    unfold X5_someEarns
    refine j_iconst (pc := 0) C dX5_someEarns_0 ?_
    refine j_istore_n (pc := 1) C hN dX5_someEarns_1 rfl (by decide) (lv' := [(2, .int (oI 0)), (0, .ref (G.2.2.1 a)), (1, .int (oI l1))]) rfl ?_
    exact j_sub [1, 2, 0] rfl (X5_someEarns_L2_j C hN hj h FU _))
def X5_sayByKind_L2 (a : Nat) : Nat → PS → Int → Option PS
  | 0, _, _ => none
  | k + 1, st, l1 => if wI (st a 0) ≤ wI l1 then some st else (bI (zrd st (a + 3) 7 l1) (fun v1 => if wI v1 = wI 5 then bI (zrd st (a + 4) 7 l1) (fun v3 => if wI (zrem (st a 1) 9) = wI v3 then bI (zwr st (a + 7) 7 l1 0) (fun s1 => X5_sayByKind_L2 a k s1 (l1 + 1)) else (bI (zrd st (a + 5) 7 l1) (fun v4 => bI (zwr st (a + 7) 7 l1 v4) (fun s2 => X5_sayByKind_L2 a k s2 (l1 + 1))))) else (bI (zrd st (a + 5) 7 l1) (fun v5 => bI (zwr st (a + 7) 7 l1 v5) (fun s3 => X5_sayByKind_L2 a k s3 (l1 + 1))))))
def X5_sayByKind (a : Nat) (st : PS) : Option PS := X5_sayByKind_L2 a FU st 0
set_option maxHeartbeats 4000000 in
set_option maxRecDepth 100000 in
theorem X5_sayByKind_L2_j {X : JX} {G : GD} (C : zC X sC G RX5 cX5_sayByKind none 0) (hN : X.2.2.2.2.2.2.2.2.2.2.2.2 = 3) (hj : zInj sC G) {a : Nat} (h : IsTown a) : ∀ (k : Nat) (st : PS) (l1 : Int), J X (zI sC G) (zQ sC G fV) st [(0, .ref (G.2.2.1 a)), (1, .int (oI l1))] 2 [] (X5_sayByKind_L2 a k st l1) := by
  intro k
  induction k with
  | zero => intro st l1; exact j_none
  | succ k ih =>
    intro st l1
    rw [X5_sayByKind_L2]
    refine j_iload_n (pc := 2) C dX5_sayByKind_2 rfl 1 rfl ?_
    refine j_aload_n (pc := 3) C dX5_sayByKind_3 rfl 0 rfl ?_
    refine gf_X5_44 (pc := 4) C h dX5_sayByKind_4 ?_
    refine j_icmp_ge (pc := 7) (tgt := 68) C dX5_sayByKind_7 rfl ?_ ?_
    · exact j_return C rfl rfl dX5_sayByKind_68
    · refine j_aload_n (pc := 10) C dX5_sayByKind_10 rfl 0 rfl ?_
      refine gf_X5_9 (pc := 11) C h dX5_sayByKind_11 ?_
      refine j_iload_n (pc := 14) C dX5_sayByKind_14 rfl 1 rfl ?_
      refine j_bI (fun v1 ev1 => ?_)
      refine j_iald (pc := 15) C (arX5_3 h) ev1 dX5_sayByKind_15 ?_
      refine j_iconst (pc := 16) C dX5_sayByKind_16 ?_
      refine j_icmp_ne (pc := 17) (tgt := 40) C dX5_sayByKind_17 rfl ?_ ?_
      · refine j_aload_n (pc := 20) C dX5_sayByKind_20 rfl 0 rfl ?_
        refine gf_X5_48 (pc := 21) C h dX5_sayByKind_21 ?_
        refine j_bipush (pc := 24) C dX5_sayByKind_24 (by decide) ?_
        refine j_irem (pc := 26) C (by decide) dX5_sayByKind_26 ?_
        refine j_aload_n (pc := 27) C dX5_sayByKind_27 rfl 0 rfl ?_
        refine gf_X5_15 (pc := 28) C h dX5_sayByKind_28 ?_
        refine j_iload_n (pc := 31) C dX5_sayByKind_31 rfl 1 rfl ?_
        refine j_bI (fun v3 ev3 => ?_)
        refine j_iald (pc := 32) C (arX5_4 h) ev3 dX5_sayByKind_32 ?_
        refine j_icmp_ne (pc := 33) (tgt := 40) C dX5_sayByKind_33 rfl ?_ ?_
        · refine j_iconst (pc := 36) C dX5_sayByKind_36 ?_
          refine j_goto (pc := 37) (tgt := 41) C dX5_sayByKind_37 rfl ?_
          refine j_istore_n (pc := 41) C hN dX5_sayByKind_41 rfl (by decide) (lv' := [(2, .int (oI 1)), (0, .ref (G.2.2.1 a)), (1, .int (oI l1))]) rfl ?_
          refine j_aload_n (pc := 42) C dX5_sayByKind_42 rfl 1 rfl ?_
          refine gf_X5_24 (pc := 43) C h dX5_sayByKind_43 ?_
          refine j_iload_n (pc := 46) C dX5_sayByKind_46 rfl 2 rfl ?_
          refine j_iload_n (pc := 47) C dX5_sayByKind_47 rfl 0 rfl ?_
          refine j_if_eq_f (pc := 48) (tgt := 55) C dX5_sayByKind_48 rfl (by decide) ?_
          refine j_iconst (pc := 51) C dX5_sayByKind_51 ?_
          refine j_goto (pc := 52) (tgt := 61) C dX5_sayByKind_52 rfl ?_
          refine j_bI (fun s1 es1 => ?_)
          refine j_iast (pc := 61) C (arX5_7 h) es1 dX5_sayByKind_61 ?_
          refine j_iinc (pc := 62) C hN dX5_sayByKind_62 2 rfl (by decide) (lv' := [(1, .int (oI (l1 + 1))), (2, .int (oI 1)), (0, .ref (G.2.2.1 a))]) rfl ?_
          refine j_goto (pc := 65) (tgt := 2) C dX5_sayByKind_65 rfl ?_
          exact j_sub [2, 0] rfl (ih _ _)
        · refine j_iconst (pc := 40) C dX5_sayByKind_40 ?_
          refine j_istore_n (pc := 41) C hN dX5_sayByKind_41 rfl (by decide) (lv' := [(2, .int (oI 0)), (0, .ref (G.2.2.1 a)), (1, .int (oI l1))]) rfl ?_
          refine j_aload_n (pc := 42) C dX5_sayByKind_42 rfl 1 rfl ?_
          refine gf_X5_24 (pc := 43) C h dX5_sayByKind_43 ?_
          refine j_iload_n (pc := 46) C dX5_sayByKind_46 rfl 2 rfl ?_
          refine j_iload_n (pc := 47) C dX5_sayByKind_47 rfl 0 rfl ?_
          refine j_if_eq_t (pc := 48) (tgt := 55) C dX5_sayByKind_48 rfl (by decide) ?_
          refine j_aload_n (pc := 55) C dX5_sayByKind_55 rfl 1 rfl ?_
          refine gf_X5_18 (pc := 56) C h dX5_sayByKind_56 ?_
          refine j_iload_n (pc := 59) C dX5_sayByKind_59 rfl 2 rfl ?_
          refine j_bI (fun v4 ev4 => ?_)
          refine j_iald (pc := 60) C (arX5_5 h) ev4 dX5_sayByKind_60 ?_
          refine j_bI (fun s2 es2 => ?_)
          refine j_iast (pc := 61) C (arX5_7 h) es2 dX5_sayByKind_61 ?_
          refine j_iinc (pc := 62) C hN dX5_sayByKind_62 2 rfl (by decide) (lv' := [(1, .int (oI (l1 + 1))), (2, .int (oI 0)), (0, .ref (G.2.2.1 a))]) rfl ?_
          refine j_goto (pc := 65) (tgt := 2) C dX5_sayByKind_65 rfl ?_
          exact j_sub [2, 0] rfl (ih _ _)
      · refine j_iconst (pc := 40) C dX5_sayByKind_40 ?_
        refine j_istore_n (pc := 41) C hN dX5_sayByKind_41 rfl (by decide) (lv' := [(2, .int (oI 0)), (0, .ref (G.2.2.1 a)), (1, .int (oI l1))]) rfl ?_
        refine j_aload_n (pc := 42) C dX5_sayByKind_42 rfl 1 rfl ?_
        refine gf_X5_24 (pc := 43) C h dX5_sayByKind_43 ?_
        refine j_iload_n (pc := 46) C dX5_sayByKind_46 rfl 2 rfl ?_
        refine j_iload_n (pc := 47) C dX5_sayByKind_47 rfl 0 rfl ?_
        refine j_if_eq_t (pc := 48) (tgt := 55) C dX5_sayByKind_48 rfl (by decide) ?_
        refine j_aload_n (pc := 55) C dX5_sayByKind_55 rfl 1 rfl ?_
        refine gf_X5_18 (pc := 56) C h dX5_sayByKind_56 ?_
        refine j_iload_n (pc := 59) C dX5_sayByKind_59 rfl 2 rfl ?_
        refine j_bI (fun v5 ev5 => ?_)
        refine j_iald (pc := 60) C (arX5_5 h) ev5 dX5_sayByKind_60 ?_
        refine j_bI (fun s3 es3 => ?_)
        refine j_iast (pc := 61) C (arX5_7 h) es3 dX5_sayByKind_61 ?_
        refine j_iinc (pc := 62) C hN dX5_sayByKind_62 2 rfl (by decide) (lv' := [(1, .int (oI (l1 + 1))), (2, .int (oI 0)), (0, .ref (G.2.2.1 a))]) rfl ?_
        refine j_goto (pc := 65) (tgt := 2) C dX5_sayByKind_65 rfl ?_
        exact j_sub [2, 0] rfl (ih _ _)
set_option maxHeartbeats 4000000 in
set_option maxRecDepth 100000 in
theorem X5_sayByKind_m (l : Launch) {G : GD} (hj : zInj sC G) {a : Nat} (h : IsTown a) {st : PS} {r : PS} (hr : X5_sayByKind a st = some r) : zM l sC G yX5_sayByKind cX5_sayByKind 3 none 0 [.ref (G.2.2.1 a)] st none r :=
  zEnter (f := fV) hr hj (by decide) rfl (lv := [(0, .ref (G.2.2.1 a))]) rfl (Nat.le_of_ble_eq_true rfl) (fun X _ hN C => by
    unfold X5_sayByKind
    refine j_iconst (pc := 0) C dX5_sayByKind_0 ?_
    refine j_istore_n (pc := 1) C hN dX5_sayByKind_1 rfl (by decide) (lv' := [(1, .int (oI 0)), (0, .ref (G.2.2.1 a))]) rfl ?_
    exact j_sub [1, 0] rfl (X5_sayByKind_L2_j C hN hj h FU _ _))
def X5_middle (a : Nat) (st : PS) (l1 : Int) : Option Int := if wI l1 = 0 then if wI (st a 0) < wI 3 then bI (zrd st (a + 5) 7 l1) (fun v1 => some v1) else (bI (X5_isRing a st) (fun v2 => if wI v2 = 0 then bI (zrd st (a + 5) 7 l1) (fun v3 => some v3) else (bI (zrd st (a + 7) 7 (if wI l1 = 0 then ((st a 0) - 1) else (l1 - 1))) (fun v4 => bI (zrd st (a + 7) 7 (if wI l1 = wI ((st a 0) - 1) then 0 else (l1 + 1))) (fun v5 => bI (zrd st (a + 5) 7 l1) (fun v6 => some (zmax (zmin v4 v5) (zmin (zmax v4 v5) v6)))))))) else (if wI l1 = wI ((st a 0) - 1) then if wI (st a 0) < wI 3 then bI (zrd st (a + 5) 7 l1) (fun v7 => some v7) else (bI (X5_isRing a st) (fun v8 => if wI v8 = 0 then bI (zrd st (a + 5) 7 l1) (fun v9 => some v9) else (bI (zrd st (a + 7) 7 (if wI l1 = 0 then ((st a 0) - 1) else (l1 - 1))) (fun v10 => bI (zrd st (a + 7) 7 (if wI l1 = wI ((st a 0) - 1) then 0 else (l1 + 1))) (fun v11 => bI (zrd st (a + 5) 7 l1) (fun v12 => some (zmax (zmin v10 v11) (zmin (zmax v10 v11) v12)))))))) else (if wI (st a 0) < wI 3 then bI (zrd st (a + 5) 7 l1) (fun v13 => some v13) else (bI (zrd st (a + 7) 7 (if wI l1 = 0 then ((st a 0) - 1) else (l1 - 1))) (fun v14 => bI (zrd st (a + 7) 7 (if wI l1 = wI ((st a 0) - 1) then 0 else (l1 + 1))) (fun v15 => bI (zrd st (a + 5) 7 l1) (fun v16 => some (zmax (zmin v14 v15) (zmin (zmax v14 v15) v16))))))))
set_option maxHeartbeats 4000000 in
set_option maxRecDepth 100000 in
theorem X5_middle_m (l : Launch) {G : GD} (hj : zInj sC G) {a : Nat} (h : IsTown a) {st : PS} {l1 : Int} {r : Int} (hr : X5_middle a st l1 = some r) : zM l sC G yX5_middle cX5_middle 7 (some .int) 1 [.ref (G.2.2.1 a), .int (oI l1)] st (some (.int (oI r))) st :=
  zEnter (f := fR st) hr hj (by decide) rfl (lv := [(0, .ref (G.2.2.1 a)), (1, .int (oI l1))]) rfl (Nat.le_of_ble_eq_true rfl) (fun X _ hN C => by
    unfold X5_middle
    refine j_iload_n (pc := 0) C dX5_middle_0 rfl 1 rfl ?_
    refine j_if_eq (pc := 1) (tgt := 14) C dX5_middle_1 rfl ?_ ?_
    · refine j_iconst (pc := 14) C dX5_middle_14 ?_
      refine j_goto (pc := 15) (tgt := 19) C dX5_middle_15 rfl ?_
      refine j_istore_n (pc := 19) C hN dX5_middle_19 rfl (by decide) (lv' := [(2, .int (oI 1)), (0, .ref (G.2.2.1 a)), (1, .int (oI l1))]) rfl ?_
      refine j_aload_n (pc := 20) C dX5_middle_20 rfl 1 rfl ?_
      refine gf_X5_44 (pc := 21) C h dX5_middle_21 ?_
      refine j_iconst (pc := 24) C dX5_middle_24 ?_
      refine j_icmp_lt (pc := 25) (tgt := 39) C dX5_middle_25 rfl ?_ ?_
      · refine j_aload_n (pc := 39) C dX5_middle_39 rfl 1 rfl ?_
        refine gf_X5_18 (pc := 40) C h dX5_middle_40 ?_
        refine j_iload_n (pc := 43) C dX5_middle_43 rfl 2 rfl ?_
        refine j_bI (fun v1 ev1 => ?_)
        refine j_iald (pc := 44) C (arX5_5 h) ev1 dX5_middle_44 ?_
        exact j_ireturn C rfl rfl rfl rfl dX5_middle_45
      · refine j_iload_n (pc := 28) C dX5_middle_28 rfl 0 rfl ?_
        refine j_if_eq_f (pc := 29) (tgt := 46) C dX5_middle_29 rfl (by decide) ?_
        refine j_aload_n (pc := 32) C dX5_middle_32 rfl 1 rfl ?_
        refine j_bI (fun v2 ev2 => ?_)
        refine j_callV1 (pc := 33) C (obX5 h) rfl rfl (X5_isRing_m _ hj h ev2) kV_X5_110 rfl (by omega) rfl (Nat.le_of_ble_eq_true rfl) dX5_middle_33 ?_
        refine j_if_ne (pc := 36) (tgt := 46) C dX5_middle_36 rfl ?_ ?_
        · refine j_aload_n (pc := 39) C dX5_middle_39 rfl 1 rfl ?_
          refine gf_X5_18 (pc := 40) C h dX5_middle_40 ?_
          refine j_iload_n (pc := 43) C dX5_middle_43 rfl 2 rfl ?_
          refine j_bI (fun v3 ev3 => ?_)
          refine j_iald (pc := 44) C (arX5_5 h) ev3 dX5_middle_44 ?_
          exact j_ireturn C rfl rfl rfl rfl dX5_middle_45
        · refine j_aload_n (pc := 46) C dX5_middle_46 rfl 1 rfl ?_
          refine gf_X5_24 (pc := 47) C h dX5_middle_47 ?_
          refine j_iload_n (pc := 50) C dX5_middle_50 rfl 2 rfl ?_
          refine j_join (lv' := [(0, .ref (G.2.2.1 a)), (1, .int (oI l1))]) (pc' := 66) (stk' := [.int (oI (if wI l1 = 0 then ((st a 0) - 1) else (l1 - 1))), .ref (G.2.2.1 (a + 7))]) ?_ (fun jn => ?_)
          · refine j_bI (fun v4 ev4 => ?_)
            refine j_iald (pc := 66) C (arX5_7 h) ev4 dX5_middle_66 ?_
            refine j_istore_n (pc := 67) C hN dX5_middle_67 rfl (by decide) (lv' := [(3, .int (oI v4)), (0, .ref (G.2.2.1 a)), (1, .int (oI l1))]) rfl ?_
            refine j_aload_n (pc := 68) C dX5_middle_68 rfl 1 rfl ?_
            refine gf_X5_24 (pc := 69) C h dX5_middle_69 ?_
            refine j_iload_n (pc := 72) C dX5_middle_72 rfl 2 rfl ?_
            refine j_aload_n (pc := 73) C dX5_middle_73 rfl 1 rfl ?_
            refine gf_X5_44 (pc := 74) C h dX5_middle_74 ?_
            refine j_iconst (pc := 77) C dX5_middle_77 ?_
            refine j_isub (pc := 78) C dX5_middle_78 ?_
            refine j_join (lv' := [(3, .int (oI v4)), (0, .ref (G.2.2.1 a)), (1, .int (oI l1))]) (pc' := 89) (stk' := [.int (oI (if wI l1 = wI ((st a 0) - 1) then 0 else (l1 + 1))), .ref (G.2.2.1 (a + 7))]) ?_ (fun jn => ?_)
            · refine j_bI (fun v5 ev5 => ?_)
              refine j_iald (pc := 89) C (arX5_7 h) ev5 dX5_middle_89 ?_
              refine j_istore (pc := 90) C hN dX5_middle_90 (by decide) (lv' := [(4, .int (oI v5)), (3, .int (oI v4)), (0, .ref (G.2.2.1 a)), (1, .int (oI l1))]) rfl ?_
              refine j_iload_n (pc := 92) C dX5_middle_92 rfl 1 rfl ?_
              refine j_iload (pc := 93) C dX5_middle_93 0 rfl ?_
              refine j_mmin (pc := 95) C kC_X5_65 (Nat.le_of_ble_eq_true rfl) dX5_middle_95 ?_
              refine j_istore (pc := 98) C hN dX5_middle_98 (by decide) (lv' := [(5, .int (oI (zmin v4 v5))), (4, .int (oI v5)), (3, .int (oI v4)), (0, .ref (G.2.2.1 a)), (1, .int (oI l1))]) rfl ?_
              refine j_iload_n (pc := 100) C dX5_middle_100 rfl 2 rfl ?_
              refine j_iload (pc := 101) C dX5_middle_101 1 rfl ?_
              refine j_mmax (pc := 103) C kC_X5_90 (Nat.le_of_ble_eq_true rfl) dX5_middle_103 ?_
              refine j_istore (pc := 106) C hN dX5_middle_106 (by decide) (lv' := [(6, .int (oI (zmax v4 v5))), (5, .int (oI (zmin v4 v5))), (4, .int (oI v5)), (3, .int (oI v4)), (0, .ref (G.2.2.1 a)), (1, .int (oI l1))]) rfl ?_
              refine j_iload (pc := 108) C dX5_middle_108 1 rfl ?_
              refine j_iload (pc := 110) C dX5_middle_110 0 rfl ?_
              refine j_aload_n (pc := 112) C dX5_middle_112 rfl 4 rfl ?_
              refine gf_X5_18 (pc := 113) C h dX5_middle_113 ?_
              refine j_iload_n (pc := 116) C dX5_middle_116 rfl 5 rfl ?_
              refine j_bI (fun v6 ev6 => ?_)
              refine j_iald (pc := 117) C (arX5_5 h) ev6 dX5_middle_117 ?_
              refine j_mmin (pc := 118) C kC_X5_65 (Nat.le_of_ble_eq_true rfl) dX5_middle_118 ?_
              refine j_mmax (pc := 121) C kC_X5_90 (Nat.le_of_ble_eq_true rfl) dX5_middle_121 ?_
              exact j_ireturn C rfl rfl rfl rfl dX5_middle_124
            · refine j_icmp_neH (pc := 79) (tgt := 86) C dX5_middle_79 rfl (fun hc79 => ?_) (fun hc79 => ?_)
              · refine j_iconst (pc := 82) C dX5_middle_82 ?_
                refine j_goto (pc := 83) (tgt := 89) C dX5_middle_83 rfl ?_
                exact j_sub (lv' := [(3, .int (oI v4)), (0, .ref (G.2.2.1 a)), (1, .int (oI l1))]) [0, 1, 2] rfl (j_eq rfl (by simp only [if_pos hc79]) jn)
              · refine j_iload_n (pc := 86) C dX5_middle_86 rfl 2 rfl ?_
                refine j_iconst (pc := 87) C dX5_middle_87 ?_
                refine j_iadd (pc := 88) C dX5_middle_88 ?_
                exact j_sub (lv' := [(3, .int (oI v4)), (0, .ref (G.2.2.1 a)), (1, .int (oI l1))]) [0, 1, 2] rfl (j_eq rfl (by simp only [if_neg hc79]) jn)
          · refine j_if_neH (pc := 51) (tgt := 63) C dX5_middle_51 rfl (fun hc51 => ?_) (fun hc51 => ?_)
            · refine j_aload_n (pc := 54) C dX5_middle_54 rfl 1 rfl ?_
              refine gf_X5_44 (pc := 55) C h dX5_middle_55 ?_
              refine j_iconst (pc := 58) C dX5_middle_58 ?_
              refine j_isub (pc := 59) C dX5_middle_59 ?_
              refine j_goto (pc := 60) (tgt := 66) C dX5_middle_60 rfl ?_
              exact j_sub (lv' := [(0, .ref (G.2.2.1 a)), (1, .int (oI l1))]) [1, 2] rfl (j_eq rfl (by simp only [if_pos hc51]) jn)
            · refine j_iload_n (pc := 63) C dX5_middle_63 rfl 2 rfl ?_
              refine j_iconst (pc := 64) C dX5_middle_64 ?_
              refine j_isub (pc := 65) C dX5_middle_65 ?_
              exact j_sub (lv' := [(0, .ref (G.2.2.1 a)), (1, .int (oI l1))]) [1, 2] rfl (j_eq rfl (by simp only [if_neg hc51]) jn)
    · refine j_iload_n (pc := 4) C dX5_middle_4 rfl 1 rfl ?_
      refine j_aload_n (pc := 5) C dX5_middle_5 rfl 0 rfl ?_
      refine gf_X5_44 (pc := 6) C h dX5_middle_6 ?_
      refine j_iconst (pc := 9) C dX5_middle_9 ?_
      refine j_isub (pc := 10) C dX5_middle_10 ?_
      refine j_icmp_ne (pc := 11) (tgt := 18) C dX5_middle_11 rfl ?_ ?_
      · refine j_iconst (pc := 14) C dX5_middle_14 ?_
        refine j_goto (pc := 15) (tgt := 19) C dX5_middle_15 rfl ?_
        refine j_istore_n (pc := 19) C hN dX5_middle_19 rfl (by decide) (lv' := [(2, .int (oI 1)), (0, .ref (G.2.2.1 a)), (1, .int (oI l1))]) rfl ?_
        refine j_aload_n (pc := 20) C dX5_middle_20 rfl 1 rfl ?_
        refine gf_X5_44 (pc := 21) C h dX5_middle_21 ?_
        refine j_iconst (pc := 24) C dX5_middle_24 ?_
        refine j_icmp_lt (pc := 25) (tgt := 39) C dX5_middle_25 rfl ?_ ?_
        · refine j_aload_n (pc := 39) C dX5_middle_39 rfl 1 rfl ?_
          refine gf_X5_18 (pc := 40) C h dX5_middle_40 ?_
          refine j_iload_n (pc := 43) C dX5_middle_43 rfl 2 rfl ?_
          refine j_bI (fun v7 ev7 => ?_)
          refine j_iald (pc := 44) C (arX5_5 h) ev7 dX5_middle_44 ?_
          exact j_ireturn C rfl rfl rfl rfl dX5_middle_45
        · refine j_iload_n (pc := 28) C dX5_middle_28 rfl 0 rfl ?_
          refine j_if_eq_f (pc := 29) (tgt := 46) C dX5_middle_29 rfl (by decide) ?_
          refine j_aload_n (pc := 32) C dX5_middle_32 rfl 1 rfl ?_
          refine j_bI (fun v8 ev8 => ?_)
          refine j_callV1 (pc := 33) C (obX5 h) rfl rfl (X5_isRing_m _ hj h ev8) kV_X5_110 rfl (by omega) rfl (Nat.le_of_ble_eq_true rfl) dX5_middle_33 ?_
          refine j_if_ne (pc := 36) (tgt := 46) C dX5_middle_36 rfl ?_ ?_
          · refine j_aload_n (pc := 39) C dX5_middle_39 rfl 1 rfl ?_
            refine gf_X5_18 (pc := 40) C h dX5_middle_40 ?_
            refine j_iload_n (pc := 43) C dX5_middle_43 rfl 2 rfl ?_
            refine j_bI (fun v9 ev9 => ?_)
            refine j_iald (pc := 44) C (arX5_5 h) ev9 dX5_middle_44 ?_
            exact j_ireturn C rfl rfl rfl rfl dX5_middle_45
          · refine j_aload_n (pc := 46) C dX5_middle_46 rfl 1 rfl ?_
            refine gf_X5_24 (pc := 47) C h dX5_middle_47 ?_
            refine j_iload_n (pc := 50) C dX5_middle_50 rfl 2 rfl ?_
            refine j_join (lv' := [(0, .ref (G.2.2.1 a)), (1, .int (oI l1))]) (pc' := 66) (stk' := [.int (oI (if wI l1 = 0 then ((st a 0) - 1) else (l1 - 1))), .ref (G.2.2.1 (a + 7))]) ?_ (fun jn => ?_)
            · refine j_bI (fun v10 ev10 => ?_)
              refine j_iald (pc := 66) C (arX5_7 h) ev10 dX5_middle_66 ?_
              refine j_istore_n (pc := 67) C hN dX5_middle_67 rfl (by decide) (lv' := [(3, .int (oI v10)), (0, .ref (G.2.2.1 a)), (1, .int (oI l1))]) rfl ?_
              refine j_aload_n (pc := 68) C dX5_middle_68 rfl 1 rfl ?_
              refine gf_X5_24 (pc := 69) C h dX5_middle_69 ?_
              refine j_iload_n (pc := 72) C dX5_middle_72 rfl 2 rfl ?_
              refine j_aload_n (pc := 73) C dX5_middle_73 rfl 1 rfl ?_
              refine gf_X5_44 (pc := 74) C h dX5_middle_74 ?_
              refine j_iconst (pc := 77) C dX5_middle_77 ?_
              refine j_isub (pc := 78) C dX5_middle_78 ?_
              refine j_join (lv' := [(3, .int (oI v10)), (0, .ref (G.2.2.1 a)), (1, .int (oI l1))]) (pc' := 89) (stk' := [.int (oI (if wI l1 = wI ((st a 0) - 1) then 0 else (l1 + 1))), .ref (G.2.2.1 (a + 7))]) ?_ (fun jn => ?_)
              · refine j_bI (fun v11 ev11 => ?_)
                refine j_iald (pc := 89) C (arX5_7 h) ev11 dX5_middle_89 ?_
                refine j_istore (pc := 90) C hN dX5_middle_90 (by decide) (lv' := [(4, .int (oI v11)), (3, .int (oI v10)), (0, .ref (G.2.2.1 a)), (1, .int (oI l1))]) rfl ?_
                refine j_iload_n (pc := 92) C dX5_middle_92 rfl 1 rfl ?_
                refine j_iload (pc := 93) C dX5_middle_93 0 rfl ?_
                refine j_mmin (pc := 95) C kC_X5_65 (Nat.le_of_ble_eq_true rfl) dX5_middle_95 ?_
                refine j_istore (pc := 98) C hN dX5_middle_98 (by decide) (lv' := [(5, .int (oI (zmin v10 v11))), (4, .int (oI v11)), (3, .int (oI v10)), (0, .ref (G.2.2.1 a)), (1, .int (oI l1))]) rfl ?_
                refine j_iload_n (pc := 100) C dX5_middle_100 rfl 2 rfl ?_
                refine j_iload (pc := 101) C dX5_middle_101 1 rfl ?_
                refine j_mmax (pc := 103) C kC_X5_90 (Nat.le_of_ble_eq_true rfl) dX5_middle_103 ?_
                refine j_istore (pc := 106) C hN dX5_middle_106 (by decide) (lv' := [(6, .int (oI (zmax v10 v11))), (5, .int (oI (zmin v10 v11))), (4, .int (oI v11)), (3, .int (oI v10)), (0, .ref (G.2.2.1 a)), (1, .int (oI l1))]) rfl ?_
                refine j_iload (pc := 108) C dX5_middle_108 1 rfl ?_
                refine j_iload (pc := 110) C dX5_middle_110 0 rfl ?_
                refine j_aload_n (pc := 112) C dX5_middle_112 rfl 4 rfl ?_
                refine gf_X5_18 (pc := 113) C h dX5_middle_113 ?_
                refine j_iload_n (pc := 116) C dX5_middle_116 rfl 5 rfl ?_
                refine j_bI (fun v12 ev12 => ?_)
                refine j_iald (pc := 117) C (arX5_5 h) ev12 dX5_middle_117 ?_
                refine j_mmin (pc := 118) C kC_X5_65 (Nat.le_of_ble_eq_true rfl) dX5_middle_118 ?_
                refine j_mmax (pc := 121) C kC_X5_90 (Nat.le_of_ble_eq_true rfl) dX5_middle_121 ?_
                exact j_ireturn C rfl rfl rfl rfl dX5_middle_124
              · refine j_icmp_neH (pc := 79) (tgt := 86) C dX5_middle_79 rfl (fun hc79 => ?_) (fun hc79 => ?_)
                · refine j_iconst (pc := 82) C dX5_middle_82 ?_
                  refine j_goto (pc := 83) (tgt := 89) C dX5_middle_83 rfl ?_
                  exact j_sub (lv' := [(3, .int (oI v10)), (0, .ref (G.2.2.1 a)), (1, .int (oI l1))]) [0, 1, 2] rfl (j_eq rfl (by simp only [if_pos hc79]) jn)
                · refine j_iload_n (pc := 86) C dX5_middle_86 rfl 2 rfl ?_
                  refine j_iconst (pc := 87) C dX5_middle_87 ?_
                  refine j_iadd (pc := 88) C dX5_middle_88 ?_
                  exact j_sub (lv' := [(3, .int (oI v10)), (0, .ref (G.2.2.1 a)), (1, .int (oI l1))]) [0, 1, 2] rfl (j_eq rfl (by simp only [if_neg hc79]) jn)
            · refine j_if_neH (pc := 51) (tgt := 63) C dX5_middle_51 rfl (fun hc51 => ?_) (fun hc51 => ?_)
              · refine j_aload_n (pc := 54) C dX5_middle_54 rfl 1 rfl ?_
                refine gf_X5_44 (pc := 55) C h dX5_middle_55 ?_
                refine j_iconst (pc := 58) C dX5_middle_58 ?_
                refine j_isub (pc := 59) C dX5_middle_59 ?_
                refine j_goto (pc := 60) (tgt := 66) C dX5_middle_60 rfl ?_
                exact j_sub (lv' := [(0, .ref (G.2.2.1 a)), (1, .int (oI l1))]) [1, 2] rfl (j_eq rfl (by simp only [if_pos hc51]) jn)
              · refine j_iload_n (pc := 63) C dX5_middle_63 rfl 2 rfl ?_
                refine j_iconst (pc := 64) C dX5_middle_64 ?_
                refine j_isub (pc := 65) C dX5_middle_65 ?_
                exact j_sub (lv' := [(0, .ref (G.2.2.1 a)), (1, .int (oI l1))]) [1, 2] rfl (j_eq rfl (by simp only [if_neg hc51]) jn)
      · refine j_iconst (pc := 18) C dX5_middle_18 ?_
        refine j_istore_n (pc := 19) C hN dX5_middle_19 rfl (by decide) (lv' := [(2, .int (oI 0)), (0, .ref (G.2.2.1 a)), (1, .int (oI l1))]) rfl ?_
        refine j_aload_n (pc := 20) C dX5_middle_20 rfl 1 rfl ?_
        refine gf_X5_44 (pc := 21) C h dX5_middle_21 ?_
        refine j_iconst (pc := 24) C dX5_middle_24 ?_
        refine j_icmp_lt (pc := 25) (tgt := 39) C dX5_middle_25 rfl ?_ ?_
        · refine j_aload_n (pc := 39) C dX5_middle_39 rfl 1 rfl ?_
          refine gf_X5_18 (pc := 40) C h dX5_middle_40 ?_
          refine j_iload_n (pc := 43) C dX5_middle_43 rfl 2 rfl ?_
          refine j_bI (fun v13 ev13 => ?_)
          refine j_iald (pc := 44) C (arX5_5 h) ev13 dX5_middle_44 ?_
          exact j_ireturn C rfl rfl rfl rfl dX5_middle_45
        · refine j_iload_n (pc := 28) C dX5_middle_28 rfl 0 rfl ?_
          refine j_if_eq_t (pc := 29) (tgt := 46) C dX5_middle_29 rfl (by decide) ?_
          refine j_aload_n (pc := 46) C dX5_middle_46 rfl 1 rfl ?_
          refine gf_X5_24 (pc := 47) C h dX5_middle_47 ?_
          refine j_iload_n (pc := 50) C dX5_middle_50 rfl 2 rfl ?_
          refine j_join (lv' := [(0, .ref (G.2.2.1 a)), (1, .int (oI l1))]) (pc' := 66) (stk' := [.int (oI (if wI l1 = 0 then ((st a 0) - 1) else (l1 - 1))), .ref (G.2.2.1 (a + 7))]) ?_ (fun jn => ?_)
          · refine j_bI (fun v14 ev14 => ?_)
            refine j_iald (pc := 66) C (arX5_7 h) ev14 dX5_middle_66 ?_
            refine j_istore_n (pc := 67) C hN dX5_middle_67 rfl (by decide) (lv' := [(3, .int (oI v14)), (0, .ref (G.2.2.1 a)), (1, .int (oI l1))]) rfl ?_
            refine j_aload_n (pc := 68) C dX5_middle_68 rfl 1 rfl ?_
            refine gf_X5_24 (pc := 69) C h dX5_middle_69 ?_
            refine j_iload_n (pc := 72) C dX5_middle_72 rfl 2 rfl ?_
            refine j_aload_n (pc := 73) C dX5_middle_73 rfl 1 rfl ?_
            refine gf_X5_44 (pc := 74) C h dX5_middle_74 ?_
            refine j_iconst (pc := 77) C dX5_middle_77 ?_
            refine j_isub (pc := 78) C dX5_middle_78 ?_
            refine j_join (lv' := [(3, .int (oI v14)), (0, .ref (G.2.2.1 a)), (1, .int (oI l1))]) (pc' := 89) (stk' := [.int (oI (if wI l1 = wI ((st a 0) - 1) then 0 else (l1 + 1))), .ref (G.2.2.1 (a + 7))]) ?_ (fun jn => ?_)
            · refine j_bI (fun v15 ev15 => ?_)
              refine j_iald (pc := 89) C (arX5_7 h) ev15 dX5_middle_89 ?_
              refine j_istore (pc := 90) C hN dX5_middle_90 (by decide) (lv' := [(4, .int (oI v15)), (3, .int (oI v14)), (0, .ref (G.2.2.1 a)), (1, .int (oI l1))]) rfl ?_
              refine j_iload_n (pc := 92) C dX5_middle_92 rfl 1 rfl ?_
              refine j_iload (pc := 93) C dX5_middle_93 0 rfl ?_
              refine j_mmin (pc := 95) C kC_X5_65 (Nat.le_of_ble_eq_true rfl) dX5_middle_95 ?_
              refine j_istore (pc := 98) C hN dX5_middle_98 (by decide) (lv' := [(5, .int (oI (zmin v14 v15))), (4, .int (oI v15)), (3, .int (oI v14)), (0, .ref (G.2.2.1 a)), (1, .int (oI l1))]) rfl ?_
              refine j_iload_n (pc := 100) C dX5_middle_100 rfl 2 rfl ?_
              refine j_iload (pc := 101) C dX5_middle_101 1 rfl ?_
              refine j_mmax (pc := 103) C kC_X5_90 (Nat.le_of_ble_eq_true rfl) dX5_middle_103 ?_
              refine j_istore (pc := 106) C hN dX5_middle_106 (by decide) (lv' := [(6, .int (oI (zmax v14 v15))), (5, .int (oI (zmin v14 v15))), (4, .int (oI v15)), (3, .int (oI v14)), (0, .ref (G.2.2.1 a)), (1, .int (oI l1))]) rfl ?_
              refine j_iload (pc := 108) C dX5_middle_108 1 rfl ?_
              refine j_iload (pc := 110) C dX5_middle_110 0 rfl ?_
              refine j_aload_n (pc := 112) C dX5_middle_112 rfl 4 rfl ?_
              refine gf_X5_18 (pc := 113) C h dX5_middle_113 ?_
              refine j_iload_n (pc := 116) C dX5_middle_116 rfl 5 rfl ?_
              refine j_bI (fun v16 ev16 => ?_)
              refine j_iald (pc := 117) C (arX5_5 h) ev16 dX5_middle_117 ?_
              refine j_mmin (pc := 118) C kC_X5_65 (Nat.le_of_ble_eq_true rfl) dX5_middle_118 ?_
              refine j_mmax (pc := 121) C kC_X5_90 (Nat.le_of_ble_eq_true rfl) dX5_middle_121 ?_
              exact j_ireturn C rfl rfl rfl rfl dX5_middle_124
            · refine j_icmp_neH (pc := 79) (tgt := 86) C dX5_middle_79 rfl (fun hc79 => ?_) (fun hc79 => ?_)
              · refine j_iconst (pc := 82) C dX5_middle_82 ?_
                refine j_goto (pc := 83) (tgt := 89) C dX5_middle_83 rfl ?_
                exact j_sub (lv' := [(3, .int (oI v14)), (0, .ref (G.2.2.1 a)), (1, .int (oI l1))]) [0, 1, 2] rfl (j_eq rfl (by simp only [if_pos hc79]) jn)
              · refine j_iload_n (pc := 86) C dX5_middle_86 rfl 2 rfl ?_
                refine j_iconst (pc := 87) C dX5_middle_87 ?_
                refine j_iadd (pc := 88) C dX5_middle_88 ?_
                exact j_sub (lv' := [(3, .int (oI v14)), (0, .ref (G.2.2.1 a)), (1, .int (oI l1))]) [0, 1, 2] rfl (j_eq rfl (by simp only [if_neg hc79]) jn)
          · refine j_if_neH (pc := 51) (tgt := 63) C dX5_middle_51 rfl (fun hc51 => ?_) (fun hc51 => ?_)
            · refine j_aload_n (pc := 54) C dX5_middle_54 rfl 1 rfl ?_
              refine gf_X5_44 (pc := 55) C h dX5_middle_55 ?_
              refine j_iconst (pc := 58) C dX5_middle_58 ?_
              refine j_isub (pc := 59) C dX5_middle_59 ?_
              refine j_goto (pc := 60) (tgt := 66) C dX5_middle_60 rfl ?_
              exact j_sub (lv' := [(0, .ref (G.2.2.1 a)), (1, .int (oI l1))]) [1, 2] rfl (j_eq rfl (by simp only [if_pos hc51]) jn)
            · refine j_iload_n (pc := 63) C dX5_middle_63 rfl 2 rfl ?_
              refine j_iconst (pc := 64) C dX5_middle_64 ?_
              refine j_isub (pc := 65) C dX5_middle_65 ?_
              exact j_sub (lv' := [(0, .ref (G.2.2.1 a)), (1, .int (oI l1))]) [1, 2] rfl (j_eq rfl (by simp only [if_neg hc51]) jn))
def X5_proud (a : Nat) (st : PS) (l1 : Int) : Option Int := bI (X5_middle a st l1) (fun v1 => bI (zrd st (a + 4) 7 l1) (fun v2 => some (zmax v1 (5 * v2))))
set_option maxHeartbeats 4000000 in
set_option maxRecDepth 100000 in
theorem X5_proud_m (l : Launch) {G : GD} (hj : zInj sC G) {a : Nat} (h : IsTown a) {st : PS} {l1 : Int} {r : Int} (hr : X5_proud a st l1 = some r) : zM l sC G yX5_proud cX5_proud 2 (some .int) 2 [.ref (G.2.2.1 a), .int (oI l1)] st (some (.int (oI r))) st :=
  zEnter (f := fR st) hr hj (by decide) rfl (lv := [(0, .ref (G.2.2.1 a)), (1, .int (oI l1))]) rfl (Nat.le_of_ble_eq_true rfl) (fun X _ hN C => by
    unfold X5_proud
    refine j_aload_n (pc := 0) C dX5_proud_0 rfl 0 rfl ?_
    refine j_iload_n (pc := 1) C dX5_proud_1 rfl 1 rfl ?_
    refine j_bI (fun v1 ev1 => ?_)
    refine j_callV1 (pc := 2) C (obX5 h) rfl rfl (X5_middle_m _ hj h ev1) kV_X5_100 rfl (by omega) rfl (Nat.le_of_ble_eq_true rfl) dX5_proud_2 ?_
    refine j_iconst (pc := 5) C dX5_proud_5 ?_
    refine j_aload_n (pc := 6) C dX5_proud_6 rfl 0 rfl ?_
    refine gf_X5_15 (pc := 7) C h dX5_proud_7 ?_
    refine j_iload_n (pc := 10) C dX5_proud_10 rfl 1 rfl ?_
    refine j_bI (fun v2 ev2 => ?_)
    refine j_iald (pc := 11) C (arX5_4 h) ev2 dX5_proud_11 ?_
    refine j_imul (pc := 12) C dX5_proud_12 ?_
    refine j_mmax (pc := 13) C kC_X5_90 (Nat.le_of_ble_eq_true rfl) dX5_proud_13 ?_
    exact j_ireturn C rfl rfl rfl rfl dX5_proud_16)
def X5_takesHalf (a : Nat) (st : PS) (l1 : Int) : Option Int := bI (zrd st (a + 4) 7 l1) (fun v1 => if wI (v1 + 2) ≤ 0 then some 0 else (znz (v1 + 2) (if wI (zrem (st a 1) (v1 + 2)) = 0 then some 1 else (some 0))))
set_option maxHeartbeats 4000000 in
set_option maxRecDepth 100000 in
theorem X5_takesHalf_m (l : Launch) {G : GD} (hj : zInj sC G) {a : Nat} (h : IsTown a) {st : PS} {l1 : Int} {r : Int} (hr : X5_takesHalf a st l1 = some r) : zM l sC G yX5_takesHalf cX5_takesHalf 3 (some .boolean) 0 [.ref (G.2.2.1 a), .int (oI l1)] st (some (.int (oI r))) st :=
  zEnter (f := fR st) hr hj (by decide) rfl (lv := [(0, .ref (G.2.2.1 a)), (1, .int (oI l1))]) rfl (Nat.le_of_ble_eq_true rfl) (fun X _ hN C => by
    unfold X5_takesHalf
    refine j_aload_n (pc := 0) C dX5_takesHalf_0 rfl 0 rfl ?_
    refine gf_X5_15 (pc := 1) C h dX5_takesHalf_1 ?_
    refine j_iload_n (pc := 4) C dX5_takesHalf_4 rfl 1 rfl ?_
    refine j_bI (fun v1 ev1 => ?_)
    refine j_iald (pc := 5) C (arX5_4 h) ev1 dX5_takesHalf_5 ?_
    refine j_iconst (pc := 6) C dX5_takesHalf_6 ?_
    refine j_iadd (pc := 7) C dX5_takesHalf_7 ?_
    refine j_istore_n (pc := 8) C hN dX5_takesHalf_8 rfl (by decide) (lv' := [(2, .int (oI (v1 + 2))), (0, .ref (G.2.2.1 a)), (1, .int (oI l1))]) rfl ?_
    refine j_iload_n (pc := 9) C dX5_takesHalf_9 rfl 0 rfl ?_
    refine j_if_le (pc := 10) (tgt := 26) C dX5_takesHalf_10 rfl ?_ ?_
    · refine j_iconst (pc := 26) C dX5_takesHalf_26 ?_
      exact j_ireturn C rfl rfl (znar (Or.inl rfl)) rfl dX5_takesHalf_27
    · refine j_aload_n (pc := 13) C dX5_takesHalf_13 rfl 1 rfl ?_
      refine gf_X5_48 (pc := 14) C h dX5_takesHalf_14 ?_
      refine j_iload_n (pc := 17) C dX5_takesHalf_17 rfl 0 rfl ?_
      refine j_nz (fun hz => ?_)
      refine j_irem (pc := 18) C hz dX5_takesHalf_18 ?_
      refine j_if_ne (pc := 19) (tgt := 26) C dX5_takesHalf_19 rfl ?_ ?_
      · refine j_iconst (pc := 22) C dX5_takesHalf_22 ?_
        refine j_goto (pc := 23) (tgt := 27) C dX5_takesHalf_23 rfl ?_
        exact j_ireturn C rfl rfl (znar (Or.inr rfl)) rfl dX5_takesHalf_27
      · refine j_iconst (pc := 26) C dX5_takesHalf_26 ?_
        exact j_ireturn C rfl rfl (znar (Or.inl rfl)) rfl dX5_takesHalf_27)
def X5_addWide_L14 (a : Nat) (l1 : Int) : Nat → PS → Int → Option PS
  | 0, _, _ => none
  | k + 1, st, l2 => if wI l2 ≤ 0 then bI (zwr st (a + 9) 5 l2 l1) (fun s1 => zlet (zu s1 a 10 ((s1 a 10) + 1)) (fun s2 => some s2)) else (bI (zrd st (a + 9) 5 (l2 - 1)) (fun v1 => if wI v1 ≤ wI l1 then bI (zwr st (a + 9) 5 l2 l1) (fun s3 => zlet (zu s3 a 10 ((s3 a 10) + 1)) (fun s4 => some s4)) else (bI (zrd st (a + 9) 5 (l2 - 1)) (fun v2 => bI (zwr st (a + 9) 5 l2 v2) (fun s5 => X5_addWide_L14 a l1 k s5 (l2 + (-1)))))))
def X5_addWide (a : Nat) (st : PS) (l1 : Int) : Option PS := if wI (st a 10) < wI 5 then X5_addWide_L14 a l1 FU st (st a 10) else (some st)
set_option maxHeartbeats 4000000 in
set_option maxRecDepth 100000 in
theorem X5_addWide_L14_j {X : JX} {G : GD} (C : zC X sC G RX5 cX5_addWide none 0) (hN : X.2.2.2.2.2.2.2.2.2.2.2.2 = 3) (hj : zInj sC G) {a : Nat} {l1 : Int} (h : IsTown a) : ∀ (k : Nat) (st : PS) (l2 : Int), J X (zI sC G) (zQ sC G fV) st [(0, .ref (G.2.2.1 a)), (1, .int (oI l1)), (2, .int (oI l2))] 14 [] (X5_addWide_L14 a l1 k st l2) := by
  intro k
  induction k with
  | zero => intro st l2; exact j_none
  | succ k ih =>
    intro st l2
    rw [X5_addWide_L14]
    refine j_iload_n (pc := 14) C dX5_addWide_14 rfl 2 rfl ?_
    refine j_if_le (pc := 15) (tgt := 50) C dX5_addWide_15 rfl ?_ ?_
    · refine j_aload_n (pc := 50) C dX5_addWide_50 rfl 0 rfl ?_
      refine gf_X5_30 (pc := 51) C h dX5_addWide_51 ?_
      refine j_iload_n (pc := 54) C dX5_addWide_54 rfl 2 rfl ?_
      refine j_iload_n (pc := 55) C dX5_addWide_55 rfl 1 rfl ?_
      refine j_bI (fun s1 es1 => ?_)
      refine j_iast (pc := 56) C (arX5_9 h) es1 dX5_addWide_56 ?_
      refine j_aload_n (pc := 57) C dX5_addWide_57 rfl 0 rfl ?_
      refine j_dup (pc := 58) C dX5_addWide_58 rfl ?_
      refine gf_X5_107 (pc := 59) C h dX5_addWide_59 ?_
      refine j_iconst (pc := 62) C dX5_addWide_62 ?_
      refine j_iadd (pc := 63) C dX5_addWide_63 ?_
      refine fp_X5_107 (pc := 64) C h dX5_addWide_64 ?_
      refine j_let (fun s2 => ?_)
      exact j_return C rfl rfl dX5_addWide_67
    · refine j_aload_n (pc := 18) C dX5_addWide_18 rfl 0 rfl ?_
      refine gf_X5_30 (pc := 19) C h dX5_addWide_19 ?_
      refine j_iload_n (pc := 22) C dX5_addWide_22 rfl 2 rfl ?_
      refine j_iconst (pc := 23) C dX5_addWide_23 ?_
      refine j_isub (pc := 24) C dX5_addWide_24 ?_
      refine j_bI (fun v1 ev1 => ?_)
      refine j_iald (pc := 25) C (arX5_9 h) ev1 dX5_addWide_25 ?_
      refine j_iload_n (pc := 26) C dX5_addWide_26 rfl 1 rfl ?_
      refine j_icmp_le (pc := 27) (tgt := 50) C dX5_addWide_27 rfl ?_ ?_
      · refine j_aload_n (pc := 50) C dX5_addWide_50 rfl 0 rfl ?_
        refine gf_X5_30 (pc := 51) C h dX5_addWide_51 ?_
        refine j_iload_n (pc := 54) C dX5_addWide_54 rfl 2 rfl ?_
        refine j_iload_n (pc := 55) C dX5_addWide_55 rfl 1 rfl ?_
        refine j_bI (fun s3 es3 => ?_)
        refine j_iast (pc := 56) C (arX5_9 h) es3 dX5_addWide_56 ?_
        refine j_aload_n (pc := 57) C dX5_addWide_57 rfl 0 rfl ?_
        refine j_dup (pc := 58) C dX5_addWide_58 rfl ?_
        refine gf_X5_107 (pc := 59) C h dX5_addWide_59 ?_
        refine j_iconst (pc := 62) C dX5_addWide_62 ?_
        refine j_iadd (pc := 63) C dX5_addWide_63 ?_
        refine fp_X5_107 (pc := 64) C h dX5_addWide_64 ?_
        refine j_let (fun s4 => ?_)
        exact j_return C rfl rfl dX5_addWide_67
      · refine j_aload_n (pc := 30) C dX5_addWide_30 rfl 0 rfl ?_
        refine gf_X5_30 (pc := 31) C h dX5_addWide_31 ?_
        refine j_iload_n (pc := 34) C dX5_addWide_34 rfl 2 rfl ?_
        refine j_aload_n (pc := 35) C dX5_addWide_35 rfl 0 rfl ?_
        refine gf_X5_30 (pc := 36) C h dX5_addWide_36 ?_
        refine j_iload_n (pc := 39) C dX5_addWide_39 rfl 2 rfl ?_
        refine j_iconst (pc := 40) C dX5_addWide_40 ?_
        refine j_isub (pc := 41) C dX5_addWide_41 ?_
        refine j_bI (fun v2 ev2 => ?_)
        refine j_iald (pc := 42) C (arX5_9 h) ev2 dX5_addWide_42 ?_
        refine j_bI (fun s5 es5 => ?_)
        refine j_iast (pc := 43) C (arX5_9 h) es5 dX5_addWide_43 ?_
        refine j_iinc (pc := 44) C hN dX5_addWide_44 2 rfl (by decide) (lv' := [(2, .int (oI (l2 + (-1)))), (0, .ref (G.2.2.1 a)), (1, .int (oI l1))]) rfl ?_
        refine j_goto (pc := 47) (tgt := 14) C dX5_addWide_47 rfl ?_
        exact j_sub [1, 2, 0] rfl (ih _ _)
set_option maxHeartbeats 4000000 in
set_option maxRecDepth 100000 in
theorem X5_addWide_m (l : Launch) {G : GD} (hj : zInj sC G) {a : Nat} (h : IsTown a) {st : PS} {l1 : Int} {r : PS} (hr : X5_addWide a st l1 = some r) : zM l sC G yX5_addWide cX5_addWide 3 none 0 [.ref (G.2.2.1 a), .int (oI l1)] st none r :=
  zEnter (f := fV) hr hj (by decide) rfl (lv := [(0, .ref (G.2.2.1 a)), (1, .int (oI l1))]) rfl (Nat.le_of_ble_eq_true rfl) (fun X _ hN C => by
    unfold X5_addWide
    refine j_aload_n (pc := 0) C dX5_addWide_0 rfl 0 rfl ?_
    refine gf_X5_107 (pc := 1) C h dX5_addWide_1 ?_
    refine j_iconst (pc := 4) C dX5_addWide_4 ?_
    refine j_icmp_lt (pc := 5) (tgt := 9) C dX5_addWide_5 rfl ?_ ?_
    · refine j_aload_n (pc := 9) C dX5_addWide_9 rfl 0 rfl ?_
      refine gf_X5_107 (pc := 10) C h dX5_addWide_10 ?_
      refine j_istore_n (pc := 13) C hN dX5_addWide_13 rfl (by decide) (lv' := [(2, .int (oI (st a 10))), (0, .ref (G.2.2.1 a)), (1, .int (oI l1))]) rfl ?_
      exact j_sub [1, 2, 0] rfl (X5_addWide_L14_j C hN hj h FU _ _)
    · exact j_return C rfl rfl dX5_addWide_8)
def X5_fillWide_L22 (a : Nat) (l1 : Int) (l2 : Int) : Nat → PS → Int → Option PS
  | 0, _, _ => none
  | k + 1, st, l3 => if wI (st a 0) ≤ wI l3 then some st else (if wI (if wI l2 = 0 then (zabs (l3 - l1)) else (zmin (zabs (l3 - l1)) ((st a 0) - (zabs (l3 - l1))))) = wI 1 then bI (zrd st (a + 7) 7 l3) (fun v4 => bI (X5_addWide a st v4) (fun s4 => X5_fillWide_L22 a l1 l2 k s4 (l3 + 1))) else (if wI (if wI l2 = 0 then (zabs (l3 - l1)) else (zmin (zabs (l3 - l1)) ((st a 0) - (zabs (l3 - l1))))) = wI 2 then bI (zrd st (a + 7) 7 l3) (fun v6 => bI (X5_addWide a st v6) (fun s6 => X5_fillWide_L22 a l1 l2 k s6 (l3 + 1))) else (X5_fillWide_L22 a l1 l2 k st (l3 + 1))))
def X5_fillWide (a : Nat) (st : PS) (l1 : Int) : Option PS := bI (X5_isRing a st) (fun v1 => zlet (zu st a 10 0) (fun s1 => bI (zrd s1 (a + 5) 7 l1) (fun v2 => bI (X5_addWide a s1 v2) (fun s2 => X5_fillWide_L22 a l1 v1 FU s2 0))))
set_option maxHeartbeats 4000000 in
set_option maxRecDepth 100000 in
theorem X5_fillWide_L22_j {X : JX} {G : GD} (C : zC X sC G RX5 cX5_fillWide none 1) (hN : X.2.2.2.2.2.2.2.2.2.2.2.2 = 5) (hj : zInj sC G) {a : Nat} {l1 : Int} {l2 : Int} (h : IsTown a) : ∀ (k : Nat) (st : PS) (l3 : Int), J X (zI sC G) (zQ sC G fV) st [(0, .ref (G.2.2.1 a)), (1, .int (oI l1)), (2, .int (oI l2)), (3, .int (oI l3))] 22 [] (X5_fillWide_L22 a l1 l2 k st l3) := by
  intro k
  induction k with
  | zero => intro st l3; exact j_none
  | succ k ih =>
    intro st l3
    rw [X5_fillWide_L22]
    refine j_iload_n (pc := 22) C dX5_fillWide_22 rfl 3 rfl ?_
    refine j_aload_n (pc := 23) C dX5_fillWide_23 rfl 0 rfl ?_
    refine gf_X5_44 (pc := 24) C h dX5_fillWide_24 ?_
    refine j_icmp_ge (pc := 27) (tgt := 84) C dX5_fillWide_27 rfl ?_ ?_
    · exact j_return C rfl rfl dX5_fillWide_84
    · refine j_iload_n (pc := 30) C dX5_fillWide_30 rfl 3 rfl ?_
      refine j_iload_n (pc := 31) C dX5_fillWide_31 rfl 1 rfl ?_
      refine j_isub (pc := 32) C dX5_fillWide_32 ?_
      refine j_mabs (pc := 33) (b := 0) C kC_X5_117 (Nat.le_of_ble_eq_true rfl) dX5_fillWide_33 ?_
      refine j_istore (pc := 36) C hN dX5_fillWide_36 (by decide) (lv' := [(4, .int (oI (zabs (l3 - l1)))), (0, .ref (G.2.2.1 a)), (1, .int (oI l1)), (2, .int (oI l2)), (3, .int (oI l3))]) rfl ?_
      refine j_iload_n (pc := 38) C dX5_fillWide_38 rfl 3 rfl ?_
      refine j_join (lv' := [(4, .int (oI (if wI l2 = 0 then (zabs (l3 - l1)) else (zmin (zabs (l3 - l1)) ((st a 0) - (zabs (l3 - l1))))))), (0, .ref (G.2.2.1 a)), (1, .int (oI l1)), (2, .int (oI l2)), (3, .int (oI l3))]) (pc' := 56) (stk' := []) ?_ (fun jn => ?_)
      · refine j_iload (pc := 56) C dX5_fillWide_56 0 rfl ?_
        refine j_iconst (pc := 58) C dX5_fillWide_58 ?_
        refine j_icmp_eq (pc := 59) (tgt := 68) C dX5_fillWide_59 rfl ?_ ?_
        · refine j_aload_n (pc := 68) C dX5_fillWide_68 rfl 1 rfl ?_
          refine j_aload_n (pc := 69) C dX5_fillWide_69 rfl 1 rfl ?_
          refine gf_X5_24 (pc := 70) C h dX5_fillWide_70 ?_
          refine j_iload_n (pc := 73) C dX5_fillWide_73 rfl 4 rfl ?_
          refine j_bI (fun v4 ev4 => ?_)
          refine j_iald (pc := 74) C (arX5_7 h) ev4 dX5_fillWide_74 ?_
          refine j_bI (fun s4 es4 => ?_)
          refine j_callV0 (pc := 75) C (obX5 h) rfl rfl (X5_addWide_m _ hj h es4) kV_X5_114 rfl (by omega) rfl (Nat.le_of_ble_eq_true rfl) dX5_fillWide_75 ?_
          refine j_iinc (pc := 78) C hN dX5_fillWide_78 4 rfl (by decide) (lv' := [(3, .int (oI (l3 + 1))), (4, .int (oI (if wI l2 = 0 then (zabs (l3 - l1)) else (zmin (zabs (l3 - l1)) ((st a 0) - (zabs (l3 - l1))))))), (0, .ref (G.2.2.1 a)), (1, .int (oI l1)), (2, .int (oI l2))]) rfl ?_
          refine j_goto (pc := 81) (tgt := 22) C dX5_fillWide_81 rfl ?_
          exact j_sub [2, 3, 4, 0] rfl (ih _ _)
        · refine j_iload (pc := 62) C dX5_fillWide_62 0 rfl ?_
          refine j_iconst (pc := 64) C dX5_fillWide_64 ?_
          refine j_icmp_ne (pc := 65) (tgt := 78) C dX5_fillWide_65 rfl ?_ ?_
          · refine j_aload_n (pc := 68) C dX5_fillWide_68 rfl 1 rfl ?_
            refine j_aload_n (pc := 69) C dX5_fillWide_69 rfl 1 rfl ?_
            refine gf_X5_24 (pc := 70) C h dX5_fillWide_70 ?_
            refine j_iload_n (pc := 73) C dX5_fillWide_73 rfl 4 rfl ?_
            refine j_bI (fun v6 ev6 => ?_)
            refine j_iald (pc := 74) C (arX5_7 h) ev6 dX5_fillWide_74 ?_
            refine j_bI (fun s6 es6 => ?_)
            refine j_callV0 (pc := 75) C (obX5 h) rfl rfl (X5_addWide_m _ hj h es6) kV_X5_114 rfl (by omega) rfl (Nat.le_of_ble_eq_true rfl) dX5_fillWide_75 ?_
            refine j_iinc (pc := 78) C hN dX5_fillWide_78 4 rfl (by decide) (lv' := [(3, .int (oI (l3 + 1))), (4, .int (oI (if wI l2 = 0 then (zabs (l3 - l1)) else (zmin (zabs (l3 - l1)) ((st a 0) - (zabs (l3 - l1))))))), (0, .ref (G.2.2.1 a)), (1, .int (oI l1)), (2, .int (oI l2))]) rfl ?_
            refine j_goto (pc := 81) (tgt := 22) C dX5_fillWide_81 rfl ?_
            exact j_sub [2, 3, 4, 0] rfl (ih _ _)
          · refine j_iinc (pc := 78) C hN dX5_fillWide_78 4 rfl (by decide) (lv' := [(3, .int (oI (l3 + 1))), (4, .int (oI (if wI l2 = 0 then (zabs (l3 - l1)) else (zmin (zabs (l3 - l1)) ((st a 0) - (zabs (l3 - l1))))))), (0, .ref (G.2.2.1 a)), (1, .int (oI l1)), (2, .int (oI l2))]) rfl ?_
            refine j_goto (pc := 81) (tgt := 22) C dX5_fillWide_81 rfl ?_
            exact j_sub [2, 3, 4, 0] rfl (ih _ _)
      · refine j_if_eqH (pc := 39) (tgt := 56) C dX5_fillWide_39 rfl (fun hc39 => ?_) (fun hc39 => ?_)
        · exact j_sub (lv' := [(4, .int (oI (zabs (l3 - l1)))), (0, .ref (G.2.2.1 a)), (1, .int (oI l1)), (2, .int (oI l2)), (3, .int (oI l3))]) [0, 1, 2, 3, 4] rfl (j_eq (by simp only [if_pos hc39]) rfl jn)
        · refine j_iload (pc := 42) C dX5_fillWide_42 0 rfl ?_
          refine j_aload_n (pc := 44) C dX5_fillWide_44 rfl 1 rfl ?_
          refine gf_X5_44 (pc := 45) C h dX5_fillWide_45 ?_
          refine j_iload (pc := 48) C dX5_fillWide_48 0 rfl ?_
          refine j_isub (pc := 50) C dX5_fillWide_50 ?_
          refine j_mmin (pc := 51) C kC_X5_65 (Nat.le_of_ble_eq_true rfl) dX5_fillWide_51 ?_
          refine j_istore (pc := 54) C hN dX5_fillWide_54 (by decide) (lv' := [(4, .int (oI (zmin (zabs (l3 - l1)) ((st a 0) - (zabs (l3 - l1)))))), (0, .ref (G.2.2.1 a)), (1, .int (oI l1)), (2, .int (oI l2)), (3, .int (oI l3))]) rfl ?_
          exact j_sub (lv' := [(4, .int (oI (zmin (zabs (l3 - l1)) ((st a 0) - (zabs (l3 - l1)))))), (0, .ref (G.2.2.1 a)), (1, .int (oI l1)), (2, .int (oI l2)), (3, .int (oI l3))]) [0, 1, 2, 3, 4] rfl (j_eq (by simp only [if_neg hc39]) rfl jn)
set_option maxHeartbeats 4000000 in
set_option maxRecDepth 100000 in
theorem X5_fillWide_m (l : Launch) {G : GD} (hj : zInj sC G) {a : Nat} (h : IsTown a) {st : PS} {l1 : Int} {r : PS} (hr : X5_fillWide a st l1 = some r) : zM l sC G yX5_fillWide cX5_fillWide 5 none 1 [.ref (G.2.2.1 a), .int (oI l1)] st none r :=
  zEnter (f := fV) hr hj (by decide) rfl (lv := [(0, .ref (G.2.2.1 a)), (1, .int (oI l1))]) rfl (Nat.le_of_ble_eq_true rfl) (fun X _ hN C => by
    unfold X5_fillWide
    refine j_aload_n (pc := 0) C dX5_fillWide_0 rfl 0 rfl ?_
    refine j_bI (fun v1 ev1 => ?_)
    refine j_callV1 (pc := 1) C (obX5 h) rfl rfl (X5_isRing_m _ hj h ev1) kV_X5_110 rfl (by omega) rfl (Nat.le_of_ble_eq_true rfl) dX5_fillWide_1 ?_
    refine j_istore_n (pc := 4) C hN dX5_fillWide_4 rfl (by decide) (lv' := [(2, .int (oI v1)), (0, .ref (G.2.2.1 a)), (1, .int (oI l1))]) rfl ?_
    refine j_aload_n (pc := 5) C dX5_fillWide_5 rfl 1 rfl ?_
    refine j_iconst (pc := 6) C dX5_fillWide_6 ?_
    refine fp_X5_107 (pc := 7) C h dX5_fillWide_7 ?_
    refine j_let (fun s1 => ?_)
    refine j_aload_n (pc := 10) C dX5_fillWide_10 rfl 1 rfl ?_
    refine j_aload_n (pc := 11) C dX5_fillWide_11 rfl 1 rfl ?_
    refine gf_X5_18 (pc := 12) C h dX5_fillWide_12 ?_
    refine j_iload_n (pc := 15) C dX5_fillWide_15 rfl 2 rfl ?_
    refine j_bI (fun v2 ev2 => ?_)
    refine j_iald (pc := 16) C (arX5_5 h) ev2 dX5_fillWide_16 ?_
    refine j_bI (fun s2 es2 => ?_)
    refine j_callV0 (pc := 17) C (obX5 h) rfl rfl (X5_addWide_m _ hj h es2) kV_X5_114 rfl (by omega) rfl (Nat.le_of_ble_eq_true rfl) dX5_fillWide_17 ?_
    refine j_iconst (pc := 20) C dX5_fillWide_20 ?_
    refine j_istore_n (pc := 21) C hN dX5_fillWide_21 rfl (by decide) (lv' := [(3, .int (oI 0)), (2, .int (oI v1)), (0, .ref (G.2.2.1 a)), (1, .int (oI l1))]) rfl ?_
    exact j_sub [2, 3, 1, 0] rfl (X5_fillWide_L22_j C hN hj h FU _ _))
def X5_nextByKind (a : Nat) (st : PS) (l1 : Int) : Option (Int × PS) := bI (zrd st (a + 3) 7 l1) (fun v1 => if wI v1 = 1 then bI (X5_proud a st l1) (fun v2 => some (v2, st)) else (if wI v1 = 2 ∨ wI v1 = 5 then bI (X5_middle a st l1) (fun v3 => bI (zrd st (a + 5) 7 l1) (fun v4 => some (zmin v3 v4, st))) else (if wI v1 = 3 then bI (X5_fillWide a st l1) (fun s1 => bI (zrd s1 (a + 9) 5 (zdiv ((s1 a 10) - 1) 2)) (fun v5 => some (v5, s1))) else (if wI v1 = 4 then bI (X5_takesHalf a st l1) (fun v6 => if wI v6 = 0 then bI (X5_proud a st l1) (fun v7 => some (v7, st)) else (bI (X5_proud a st l1) (fun v8 => some (zdiv v8 2, st)))) else (if wI v1 = 6 then bI (X5_fillWide a st l1) (fun s2 => bI (zrd s2 (a + 6) 28 ((l1 * 4) + (zrem (s2 a 1) 4))) (fun v9 => bI (zrd s2 (a + 9) 5 (zmin v9 ((s2 a 10) - 1))) (fun v10 => some (v10, s2)))) else (bI (X5_middle a st l1) (fun v11 => some (v11, st))))))))
set_option maxHeartbeats 4000000 in
set_option maxRecDepth 100000 in
theorem X5_nextByKind_m (l : Launch) {G : GD} (hj : zInj sC G) {a : Nat} (h : IsTown a) {st : PS} {l1 : Int} {r : (Int × PS)} (hr : X5_nextByKind a st l1 = some r) : zM l sC G yX5_nextByKind cX5_nextByKind 2 (some .int) 3 [.ref (G.2.2.1 a), .int (oI l1)] st (some (.int (oI r.1))) r.2 :=
  zEnter (f := fI) hr hj (by decide) rfl (lv := [(0, .ref (G.2.2.1 a)), (1, .int (oI l1))]) rfl (Nat.le_of_ble_eq_true rfl) (fun X _ hN C => by
    unfold X5_nextByKind
    refine j_aload_n (pc := 0) C dX5_nextByKind_0 rfl 0 rfl ?_
    refine gf_X5_9 (pc := 1) C h dX5_nextByKind_1 ?_
    refine j_iload_n (pc := 4) C dX5_nextByKind_4 rfl 1 rfl ?_
    refine j_bI (fun v1 ev1 => ?_)
    refine j_iald (pc := 5) C (arX5_3 h) ev1 dX5_nextByKind_5 ?_
    refine j_if (fun hc => ?_) (fun hn0 => ?_)
    · refine j_tabIn (pc := 6) (tgt := 44) C dX5_nextByKind_6 hc (by decide) (by decide) rfl rfl ?_
      refine j_aload_n (pc := 44) C dX5_nextByKind_44 rfl 0 rfl ?_
      refine j_iload_n (pc := 45) C dX5_nextByKind_45 rfl 1 rfl ?_
      refine j_bI (fun v2 ev2 => ?_)
      refine j_callV1 (pc := 46) C (obX5 h) rfl rfl (X5_proud_m _ hj h ev2) kV_X5_93 rfl (by omega) rfl (Nat.le_of_ble_eq_true rfl) dX5_nextByKind_46 ?_
      exact j_ireturn C rfl rfl rfl rfl dX5_nextByKind_49
    · refine j_if (fun hc => ?_) (fun hn1 => ?_)
      · refine j_join (lv' := [(0, .ref (G.2.2.1 a)), (1, .int (oI l1))]) (pc' := 74) (stk' := []) ?_ (fun jn => ?_)
        · refine j_aload_n (pc := 74) C dX5_nextByKind_74 rfl 0 rfl ?_
          refine j_iload_n (pc := 75) C dX5_nextByKind_75 rfl 1 rfl ?_
          refine j_bI (fun v3 ev3 => ?_)
          refine j_callV1 (pc := 76) C (obX5 h) rfl rfl (X5_middle_m _ hj h ev3) kV_X5_100 rfl (by omega) rfl (Nat.le_of_ble_eq_true rfl) dX5_nextByKind_76 ?_
          refine j_aload_n (pc := 79) C dX5_nextByKind_79 rfl 0 rfl ?_
          refine gf_X5_18 (pc := 80) C h dX5_nextByKind_80 ?_
          refine j_iload_n (pc := 83) C dX5_nextByKind_83 rfl 1 rfl ?_
          refine j_bI (fun v4 ev4 => ?_)
          refine j_iald (pc := 84) C (arX5_5 h) ev4 dX5_nextByKind_84 ?_
          refine j_mmin (pc := 85) C kC_X5_65 (Nat.le_of_ble_eq_true rfl) dX5_nextByKind_85 ?_
          exact j_ireturn C rfl rfl rfl rfl dX5_nextByKind_88
        · rcases hc with hc | hc
          · exact j_tabIn (pc := 6) (tgt := 74) C dX5_nextByKind_6 hc (by decide) (by decide) rfl rfl jn
          · exact j_tabIn (pc := 6) (tgt := 74) C dX5_nextByKind_6 hc (by decide) (by decide) rfl rfl jn
      · refine j_if (fun hc => ?_) (fun hn2 => ?_)
        · refine j_tabIn (pc := 6) (tgt := 89) C dX5_nextByKind_6 hc (by decide) (by decide) rfl rfl ?_
          refine j_aload_n (pc := 89) C dX5_nextByKind_89 rfl 0 rfl ?_
          refine j_iload_n (pc := 90) C dX5_nextByKind_90 rfl 1 rfl ?_
          refine j_bI (fun s1 es1 => ?_)
          refine j_callV0 (pc := 91) C (obX5 h) rfl rfl (X5_fillWide_m _ hj h es1) kV_X5_103 rfl (by omega) rfl (Nat.le_of_ble_eq_true rfl) dX5_nextByKind_91 ?_
          refine j_aload_n (pc := 94) C dX5_nextByKind_94 rfl 0 rfl ?_
          refine gf_X5_30 (pc := 95) C h dX5_nextByKind_95 ?_
          refine j_aload_n (pc := 98) C dX5_nextByKind_98 rfl 0 rfl ?_
          refine gf_X5_107 (pc := 99) C h dX5_nextByKind_99 ?_
          refine j_iconst (pc := 102) C dX5_nextByKind_102 ?_
          refine j_isub (pc := 103) C dX5_nextByKind_103 ?_
          refine j_iconst (pc := 104) C dX5_nextByKind_104 ?_
          refine j_idiv (pc := 105) C (by decide) dX5_nextByKind_105 ?_
          refine j_bI (fun v5 ev5 => ?_)
          refine j_iald (pc := 106) C (arX5_9 h) ev5 dX5_nextByKind_106 ?_
          exact j_ireturn C rfl rfl rfl rfl dX5_nextByKind_107
        · refine j_if (fun hc => ?_) (fun hn3 => ?_)
          · refine j_tabIn (pc := 6) (tgt := 50) C dX5_nextByKind_6 hc (by decide) (by decide) rfl rfl ?_
            refine j_aload_n (pc := 50) C dX5_nextByKind_50 rfl 0 rfl ?_
            refine j_iload_n (pc := 51) C dX5_nextByKind_51 rfl 1 rfl ?_
            refine j_bI (fun v6 ev6 => ?_)
            refine j_callV1 (pc := 52) C (obX5 h) rfl rfl (X5_takesHalf_m _ hj h ev6) kV_X5_96 rfl (by omega) rfl (Nat.le_of_ble_eq_true rfl) dX5_nextByKind_52 ?_
            refine j_if_eq (pc := 55) (tgt := 68) C dX5_nextByKind_55 rfl ?_ ?_
            · refine j_aload_n (pc := 68) C dX5_nextByKind_68 rfl 0 rfl ?_
              refine j_iload_n (pc := 69) C dX5_nextByKind_69 rfl 1 rfl ?_
              refine j_bI (fun v7 ev7 => ?_)
              refine j_callV1 (pc := 70) C (obX5 h) rfl rfl (X5_proud_m _ hj h ev7) kV_X5_93 rfl (by omega) rfl (Nat.le_of_ble_eq_true rfl) dX5_nextByKind_70 ?_
              exact j_ireturn C rfl rfl rfl rfl dX5_nextByKind_73
            · refine j_aload_n (pc := 58) C dX5_nextByKind_58 rfl 0 rfl ?_
              refine j_iload_n (pc := 59) C dX5_nextByKind_59 rfl 1 rfl ?_
              refine j_bI (fun v8 ev8 => ?_)
              refine j_callV1 (pc := 60) C (obX5 h) rfl rfl (X5_proud_m _ hj h ev8) kV_X5_93 rfl (by omega) rfl (Nat.le_of_ble_eq_true rfl) dX5_nextByKind_60 ?_
              refine j_iconst (pc := 63) C dX5_nextByKind_63 ?_
              refine j_idiv (pc := 64) C (by decide) dX5_nextByKind_64 ?_
              refine j_goto (pc := 65) (tgt := 73) C dX5_nextByKind_65 rfl ?_
              exact j_ireturn C rfl rfl rfl rfl dX5_nextByKind_73
          · refine j_if (fun hc => ?_) (fun hn4 => ?_)
            · refine j_tabIn (pc := 6) (tgt := 108) C dX5_nextByKind_6 hc (by decide) (by decide) rfl rfl ?_
              refine j_aload_n (pc := 108) C dX5_nextByKind_108 rfl 0 rfl ?_
              refine j_iload_n (pc := 109) C dX5_nextByKind_109 rfl 1 rfl ?_
              refine j_bI (fun s2 es2 => ?_)
              refine j_callV0 (pc := 110) C (obX5 h) rfl rfl (X5_fillWide_m _ hj h es2) kV_X5_103 rfl (by omega) rfl (Nat.le_of_ble_eq_true rfl) dX5_nextByKind_110 ?_
              refine j_aload_n (pc := 113) C dX5_nextByKind_113 rfl 0 rfl ?_
              refine gf_X5_30 (pc := 114) C h dX5_nextByKind_114 ?_
              refine j_aload_n (pc := 117) C dX5_nextByKind_117 rfl 0 rfl ?_
              refine gf_X5_21 (pc := 118) C h dX5_nextByKind_118 ?_
              refine j_iload_n (pc := 121) C dX5_nextByKind_121 rfl 1 rfl ?_
              refine j_iconst (pc := 122) C dX5_nextByKind_122 ?_
              refine j_imul (pc := 123) C dX5_nextByKind_123 ?_
              refine j_aload_n (pc := 124) C dX5_nextByKind_124 rfl 0 rfl ?_
              refine gf_X5_48 (pc := 125) C h dX5_nextByKind_125 ?_
              refine j_iconst (pc := 128) C dX5_nextByKind_128 ?_
              refine j_irem (pc := 129) C (by decide) dX5_nextByKind_129 ?_
              refine j_iadd (pc := 130) C dX5_nextByKind_130 ?_
              refine j_bI (fun v9 ev9 => ?_)
              refine j_iald (pc := 131) C (arX5_6 h) ev9 dX5_nextByKind_131 ?_
              refine j_aload_n (pc := 132) C dX5_nextByKind_132 rfl 0 rfl ?_
              refine gf_X5_107 (pc := 133) C h dX5_nextByKind_133 ?_
              refine j_iconst (pc := 136) C dX5_nextByKind_136 ?_
              refine j_isub (pc := 137) C dX5_nextByKind_137 ?_
              refine j_mmin (pc := 138) C kC_X5_65 (Nat.le_of_ble_eq_true rfl) dX5_nextByKind_138 ?_
              refine j_bI (fun v10 ev10 => ?_)
              refine j_iald (pc := 141) C (arX5_9 h) ev10 dX5_nextByKind_141 ?_
              exact j_ireturn C rfl rfl rfl rfl dX5_nextByKind_142
            · refine j_tabOut (pc := 6) (tgt := 143) C dX5_nextByKind_6 (by omega) rfl ?_
              refine j_aload_n (pc := 143) C dX5_nextByKind_143 rfl 0 rfl ?_
              refine j_iload_n (pc := 144) C dX5_nextByKind_144 rfl 1 rfl ?_
              refine j_bI (fun v11 ev11 => ?_)
              refine j_callV1 (pc := 145) C (obX5 h) rfl rfl (X5_middle_m _ hj h ev11) kV_X5_100 rfl (by omega) rfl (Nat.le_of_ble_eq_true rfl) dX5_nextByKind_145 ?_
              exact j_ireturn C rfl rfl rfl rfl dX5_nextByKind_148)
def X5_adds_L13 (a : Nat) (l1 : Int) : Nat → PS → Int → Int → Option (Int × PS)
  | 0, _, _, _ => none
  | k + 1, st, l2, l3 => if wI (st a 0) ≤ wI l3 then bI (zwr st (a + 11) 6 0 l1) (fun s1 => bI (zrd s1 (a + 3) 7 l1) (fun v1 => bI (zwr s1 (a + 11) 6 1 v1) (fun s2 => bI (zrd s2 (a + 4) 7 l1) (fun v2 => bI (zwr s2 (a + 11) 6 2 v2) (fun s3 => bI (zrd s3 (a + 5) 7 l1) (fun v3 => bI (zwr s3 (a + 11) 6 3 (zdiv v3 10)) (fun s4 => bI (zwr s4 (a + 11) 6 4 l2) (fun s5 => bI (zwr s5 (a + 11) 6 5 (zrem (s5 a 1) 10)) (fun s6 => zchk (s6 a 2) 6 (bI (X2_addsBy (100 + 10 * (s6 a 2).toNat) (a + 11) s6) (fun v4 => some (v4, s6)))))))))))) else (bI (zrd st (a + 5) 7 l3) (fun v5 => bI (zrd st (a + 5) 7 l1) (fun v6 => if wI v5 ≤ wI v6 then X5_adds_L13 a l1 k st l2 (l3 + 1) else (X5_adds_L13 a l1 k st (l2 + 1) (l3 + 1)))))
def X5_adds (a : Nat) (st : PS) (l1 : Int) : Option (Int × PS) := if st a 2 < 0 then some (0, st) else (X5_adds_L13 a l1 FU st 0 0)
set_option maxHeartbeats 4000000 in
set_option maxRecDepth 100000 in
theorem X5_adds_L13_j {X : JX} {G : GD} (C : zC X sC G RX5 cX5_adds (some .int) 3) (hN : X.2.2.2.2.2.2.2.2.2.2.2.2 = 4) (hj : zInj sC G) {a : Nat} {l1 : Int} (h : IsTown a) : ∀ (k : Nat) (st : PS) (l2 : Int) (l3 : Int), J X (zI sC G) (zQ sC G fI) st [(0, .ref (G.2.2.1 a)), (1, .int (oI l1)), (2, .int (oI l2)), (3, .int (oI l3))] 13 [] (X5_adds_L13 a l1 k st l2 l3) := by
  intro k
  induction k with
  | zero => intro st l2 l3; exact j_none
  | succ k ih =>
    intro st l2 l3
    rw [X5_adds_L13]
    refine j_iload_n (pc := 13) C dX5_adds_13 rfl 3 rfl ?_
    refine j_aload_n (pc := 14) C dX5_adds_14 rfl 0 rfl ?_
    refine gf_X5_44 (pc := 15) C h dX5_adds_15 ?_
    refine j_icmp_ge (pc := 18) (tgt := 45) C dX5_adds_18 rfl ?_ ?_
    · refine j_aload_n (pc := 45) C dX5_adds_45 rfl 0 rfl ?_
      refine gf_X5_41 (pc := 46) C h dX5_adds_46 ?_
      refine j_iconst (pc := 49) C dX5_adds_49 ?_
      refine j_iload_n (pc := 50) C dX5_adds_50 rfl 1 rfl ?_
      refine j_bI (fun s1 es1 => ?_)
      refine j_iast (pc := 51) C (arX5_11 h) es1 dX5_adds_51 ?_
      refine j_aload_n (pc := 52) C dX5_adds_52 rfl 0 rfl ?_
      refine gf_X5_41 (pc := 53) C h dX5_adds_53 ?_
      refine j_iconst (pc := 56) C dX5_adds_56 ?_
      refine j_aload_n (pc := 57) C dX5_adds_57 rfl 0 rfl ?_
      refine gf_X5_9 (pc := 58) C h dX5_adds_58 ?_
      refine j_iload_n (pc := 61) C dX5_adds_61 rfl 1 rfl ?_
      refine j_bI (fun v1 ev1 => ?_)
      refine j_iald (pc := 62) C (arX5_3 h) ev1 dX5_adds_62 ?_
      refine j_bI (fun s2 es2 => ?_)
      refine j_iast (pc := 63) C (arX5_11 h) es2 dX5_adds_63 ?_
      refine j_aload_n (pc := 64) C dX5_adds_64 rfl 0 rfl ?_
      refine gf_X5_41 (pc := 65) C h dX5_adds_65 ?_
      refine j_iconst (pc := 68) C dX5_adds_68 ?_
      refine j_aload_n (pc := 69) C dX5_adds_69 rfl 0 rfl ?_
      refine gf_X5_15 (pc := 70) C h dX5_adds_70 ?_
      refine j_iload_n (pc := 73) C dX5_adds_73 rfl 1 rfl ?_
      refine j_bI (fun v2 ev2 => ?_)
      refine j_iald (pc := 74) C (arX5_4 h) ev2 dX5_adds_74 ?_
      refine j_bI (fun s3 es3 => ?_)
      refine j_iast (pc := 75) C (arX5_11 h) es3 dX5_adds_75 ?_
      refine j_aload_n (pc := 76) C dX5_adds_76 rfl 0 rfl ?_
      refine gf_X5_41 (pc := 77) C h dX5_adds_77 ?_
      refine j_iconst (pc := 80) C dX5_adds_80 ?_
      refine j_aload_n (pc := 81) C dX5_adds_81 rfl 0 rfl ?_
      refine gf_X5_18 (pc := 82) C h dX5_adds_82 ?_
      refine j_iload_n (pc := 85) C dX5_adds_85 rfl 1 rfl ?_
      refine j_bI (fun v3 ev3 => ?_)
      refine j_iald (pc := 86) C (arX5_5 h) ev3 dX5_adds_86 ?_
      refine j_bipush (pc := 87) C dX5_adds_87 (by decide) ?_
      refine j_idiv (pc := 89) C (by decide) dX5_adds_89 ?_
      refine j_bI (fun s4 es4 => ?_)
      refine j_iast (pc := 90) C (arX5_11 h) es4 dX5_adds_90 ?_
      refine j_aload_n (pc := 91) C dX5_adds_91 rfl 0 rfl ?_
      refine gf_X5_41 (pc := 92) C h dX5_adds_92 ?_
      refine j_iconst (pc := 95) C dX5_adds_95 ?_
      refine j_iload_n (pc := 96) C dX5_adds_96 rfl 2 rfl ?_
      refine j_bI (fun s5 es5 => ?_)
      refine j_iast (pc := 97) C (arX5_11 h) es5 dX5_adds_97 ?_
      refine j_aload_n (pc := 98) C dX5_adds_98 rfl 0 rfl ?_
      refine gf_X5_41 (pc := 99) C h dX5_adds_99 ?_
      refine j_iconst (pc := 102) C dX5_adds_102 ?_
      refine j_aload_n (pc := 103) C dX5_adds_103 rfl 0 rfl ?_
      refine gf_X5_48 (pc := 104) C h dX5_adds_104 ?_
      refine j_bipush (pc := 107) C dX5_adds_107 (by decide) ?_
      refine j_irem (pc := 109) C (by decide) dX5_adds_109 ?_
      refine j_bI (fun s6 es6 => ?_)
      refine j_iast (pc := 110) C (arX5_11 h) es6 dX5_adds_110 ?_
      refine j_aload_n (pc := 111) C dX5_adds_111 rfl 0 rfl ?_
      refine gf_X5_51 (pc := 112) C h dX5_adds_112 ?_
      refine j_mres (fun hk112 => ?_)
      refine j_aload_n (pc := 115) C dX5_adds_115 rfl 0 rfl ?_
      refine gf_X5_41 (pc := 116) C h dX5_adds_116 ?_
      refine j_bI (fun v4 ev4 => ?_)
      refine j_callV1 (pc := 119) C (obX2 (sixIsStreet hk112)) rfl rfl (X2_addsBy_m _ hj (sixIsStreet hk112) (town_facts h) ev4) kV_X5_120 rfl (by omega) rfl (Nat.le_of_ble_eq_true rfl) dX5_adds_119 ?_
      exact j_ireturn C rfl rfl rfl rfl dX5_adds_122
    · refine j_aload_n (pc := 21) C dX5_adds_21 rfl 0 rfl ?_
      refine gf_X5_18 (pc := 22) C h dX5_adds_22 ?_
      refine j_iload_n (pc := 25) C dX5_adds_25 rfl 3 rfl ?_
      refine j_bI (fun v5 ev5 => ?_)
      refine j_iald (pc := 26) C (arX5_5 h) ev5 dX5_adds_26 ?_
      refine j_aload_n (pc := 27) C dX5_adds_27 rfl 0 rfl ?_
      refine gf_X5_18 (pc := 28) C h dX5_adds_28 ?_
      refine j_iload_n (pc := 31) C dX5_adds_31 rfl 1 rfl ?_
      refine j_bI (fun v6 ev6 => ?_)
      refine j_iald (pc := 32) C (arX5_5 h) ev6 dX5_adds_32 ?_
      refine j_icmp_le (pc := 33) (tgt := 39) C dX5_adds_33 rfl ?_ ?_
      · refine j_iinc (pc := 39) C hN dX5_adds_39 3 rfl (by decide) (lv' := [(3, .int (oI (l3 + 1))), (0, .ref (G.2.2.1 a)), (1, .int (oI l1)), (2, .int (oI l2))]) rfl ?_
        refine j_goto (pc := 42) (tgt := 13) C dX5_adds_42 rfl ?_
        exact j_sub [1, 2, 3, 0] rfl (ih _ _ _)
      · refine j_iinc (pc := 36) C hN dX5_adds_36 2 rfl (by decide) (lv' := [(2, .int (oI (l2 + 1))), (0, .ref (G.2.2.1 a)), (1, .int (oI l1)), (3, .int (oI l3))]) rfl ?_
        refine j_iinc (pc := 39) C hN dX5_adds_39 3 rfl (by decide) (lv' := [(3, .int (oI (l3 + 1))), (2, .int (oI (l2 + 1))), (0, .ref (G.2.2.1 a)), (1, .int (oI l1))]) rfl ?_
        refine j_goto (pc := 42) (tgt := 13) C dX5_adds_42 rfl ?_
        exact j_sub [2, 3, 1, 0] rfl (ih _ _ _)
set_option maxHeartbeats 4000000 in
set_option maxRecDepth 100000 in
theorem X5_adds_m (l : Launch) {G : GD} (hj : zInj sC G) {a : Nat} (h : IsTown a) {st : PS} {l1 : Int} {r : (Int × PS)} (hr : X5_adds a st l1 = some r) : zM l sC G yX5_adds cX5_adds 4 (some .int) 3 [.ref (G.2.2.1 a), .int (oI l1)] st (some (.int (oI r.1))) r.2 :=
  zEnter (f := fI) hr hj (by decide) rfl (lv := [(0, .ref (G.2.2.1 a)), (1, .int (oI l1))]) rfl (Nat.le_of_ble_eq_true rfl) (fun X _ hN C => by
    unfold X5_adds
    refine j_aload_n (pc := 0) C dX5_adds_0 rfl 0 rfl ?_
    refine gf_X5_51 (pc := 1) C h dX5_adds_1 ?_
    refine j_ifnonnull (pc := 4) (tgt := 9) C dX5_adds_4 rfl ?_ ?_
    · refine j_iconst (pc := 7) C dX5_adds_7 ?_
      exact j_ireturn C rfl rfl rfl rfl dX5_adds_8
    · refine j_iconst (pc := 9) C dX5_adds_9 ?_
      refine j_istore_n (pc := 10) C hN dX5_adds_10 rfl (by decide) (lv' := [(2, .int (oI 0)), (0, .ref (G.2.2.1 a)), (1, .int (oI l1))]) rfl ?_
      refine j_iconst (pc := 11) C dX5_adds_11 ?_
      refine j_istore_n (pc := 12) C hN dX5_adds_12 rfl (by decide) (lv' := [(3, .int (oI 0)), (2, .int (oI 0)), (0, .ref (G.2.2.1 a)), (1, .int (oI l1))]) rfl ?_
      exact j_sub [2, 3, 1, 0] rfl (X5_adds_L13_j C hN hj h FU _ _ _))
def X5_reckon_L2 (a : Nat) : Nat → PS → Int → Option PS
  | 0, _, _ => none
  | k + 1, st, l1 => if wI (st a 0) ≤ wI l1 then some st else (bP (X5_nextByKind a st l1) (fun v1 s1 => bP (X5_adds a s1 l1) (fun v2 s2 => bI (zwr s2 (a + 8) 7 l1 (zmax 0 (zmin 99 (v1 + v2)))) (fun s3 => X5_reckon_L2 a k s3 (l1 + 1)))))
def X5_reckon (a : Nat) (st : PS) : Option PS := X5_reckon_L2 a FU st 0
set_option maxHeartbeats 4000000 in
set_option maxRecDepth 100000 in
theorem X5_reckon_L2_j {X : JX} {G : GD} (C : zC X sC G RX5 cX5_reckon none 4) (hN : X.2.2.2.2.2.2.2.2.2.2.2.2 = 2) (hj : zInj sC G) {a : Nat} (h : IsTown a) : ∀ (k : Nat) (st : PS) (l1 : Int), J X (zI sC G) (zQ sC G fV) st [(0, .ref (G.2.2.1 a)), (1, .int (oI l1))] 2 [] (X5_reckon_L2 a k st l1) := by
  intro k
  induction k with
  | zero => intro st l1; exact j_none
  | succ k ih =>
    intro st l1
    rw [X5_reckon_L2]
    refine j_iload_n (pc := 2) C dX5_reckon_2 rfl 1 rfl ?_
    refine j_aload_n (pc := 3) C dX5_reckon_3 rfl 0 rfl ?_
    refine gf_X5_44 (pc := 4) C h dX5_reckon_4 ?_
    refine j_icmp_ge (pc := 7) (tgt := 42) C dX5_reckon_7 rfl ?_ ?_
    · exact j_return C rfl rfl dX5_reckon_42
    · refine j_aload_n (pc := 10) C dX5_reckon_10 rfl 0 rfl ?_
      refine gf_X5_27 (pc := 11) C h dX5_reckon_11 ?_
      refine j_iload_n (pc := 14) C dX5_reckon_14 rfl 1 rfl ?_
      refine j_iconst (pc := 15) C dX5_reckon_15 ?_
      refine j_bipush (pc := 16) C dX5_reckon_16 (by decide) ?_
      refine j_aload_n (pc := 18) C dX5_reckon_18 rfl 0 rfl ?_
      refine j_iload_n (pc := 19) C dX5_reckon_19 rfl 1 rfl ?_
      refine j_bP (fun v1 s1 es1 => ?_)
      refine j_callV1 (pc := 20) C (obX5 h) rfl rfl (X5_nextByKind_m _ hj h es1) kV_X5_83 rfl (by omega) rfl (Nat.le_of_ble_eq_true rfl) dX5_reckon_20 ?_
      refine j_aload_n (pc := 23) C dX5_reckon_23 rfl 0 rfl ?_
      refine j_iload_n (pc := 24) C dX5_reckon_24 rfl 1 rfl ?_
      refine j_bP (fun v2 s2 es2 => ?_)
      refine j_callV1 (pc := 25) C (obX5 h) rfl rfl (X5_adds_m _ hj h es2) kV_X5_87 rfl (by omega) rfl (Nat.le_of_ble_eq_true rfl) dX5_reckon_25 ?_
      refine j_iadd (pc := 28) C dX5_reckon_28 ?_
      refine j_mmin (pc := 29) C kC_X5_65 (Nat.le_of_ble_eq_true rfl) dX5_reckon_29 ?_
      refine j_mmax (pc := 32) C kC_X5_90 (Nat.le_of_ble_eq_true rfl) dX5_reckon_32 ?_
      refine j_bI (fun s3 es3 => ?_)
      refine j_iast (pc := 35) C (arX5_8 h) es3 dX5_reckon_35 ?_
      refine j_iinc (pc := 36) C hN dX5_reckon_36 1 rfl (by decide) (lv' := [(1, .int (oI (l1 + 1))), (0, .ref (G.2.2.1 a))]) rfl ?_
      refine j_goto (pc := 39) (tgt := 2) C dX5_reckon_39 rfl ?_
      exact j_sub [1, 0] rfl (ih _ _)
set_option maxHeartbeats 4000000 in
set_option maxRecDepth 100000 in
theorem X5_reckon_m (l : Launch) {G : GD} (hj : zInj sC G) {a : Nat} (h : IsTown a) {st : PS} {r : PS} (hr : X5_reckon a st = some r) : zM l sC G yX5_reckon cX5_reckon 2 none 4 [.ref (G.2.2.1 a)] st none r :=
  zEnter (f := fV) hr hj (by decide) rfl (lv := [(0, .ref (G.2.2.1 a))]) rfl (Nat.le_of_ble_eq_true rfl) (fun X _ hN C => by
    unfold X5_reckon
    refine j_iconst (pc := 0) C dX5_reckon_0 ?_
    refine j_istore_n (pc := 1) C hN dX5_reckon_1 rfl (by decide) (lv' := [(1, .int (oI 0)), (0, .ref (G.2.2.1 a))]) rfl ?_
    exact j_sub [1, 0] rfl (X5_reckon_L2_j C hN hj h FU _ _))
def X5_go_L2 (a : Nat) (l1 : Int) : Nat → PS → Int → Option PS
  | 0, _, _ => none
  | k + 1, st, l2 => if wI l1 ≤ wI l2 then some st else (bI (X5_sayByKind a st) (fun s1 => bI (X5_reckon a s1) (fun s2 => bI (zcp s2 (a + 8) 7 (a + 5) 7 0 0 (s2 a 0)) (fun s3 => zlet (zu s3 a 1 ((s3 a 1) + 1)) (fun s4 => X5_go_L2 a l1 k s4 (l2 + 1))))))
def X5_go (a : Nat) (st : PS) (l1 : Int) : Option PS := X5_go_L2 a l1 FU st 0
set_option maxHeartbeats 4000000 in
set_option maxRecDepth 100000 in
theorem X5_go_L2_j {X : JX} {G : GD} (C : zC X sC G RX5 cX5_go none 5) (hN : X.2.2.2.2.2.2.2.2.2.2.2.2 = 3) (hj : zInj sC G) {a : Nat} {l1 : Int} (h : IsTown a) : ∀ (k : Nat) (st : PS) (l2 : Int), J X (zI sC G) (zQ sC G fV) st [(0, .ref (G.2.2.1 a)), (1, .int (oI l1)), (2, .int (oI l2))] 2 [] (X5_go_L2 a l1 k st l2) := by
  intro k
  induction k with
  | zero => intro st l2; exact j_none
  | succ k ih =>
    intro st l2
    rw [X5_go_L2]
    refine j_iload_n (pc := 2) C dX5_go_2 rfl 2 rfl ?_
    refine j_iload_n (pc := 3) C dX5_go_3 rfl 1 rfl ?_
    refine j_icmp_ge (pc := 4) (tgt := 48) C dX5_go_4 rfl ?_ ?_
    · exact j_return C rfl rfl dX5_go_48
    · refine j_aload_n (pc := 7) C dX5_go_7 rfl 0 rfl ?_
      refine j_bI (fun s1 es1 => ?_)
      refine j_callV0 (pc := 8) C (obX5 h) rfl rfl (X5_sayByKind_m _ hj h es1) kV_X5_77 rfl (by omega) rfl (Nat.le_of_ble_eq_true rfl) dX5_go_8 ?_
      refine j_aload_n (pc := 11) C dX5_go_11 rfl 0 rfl ?_
      refine j_bI (fun s2 es2 => ?_)
      refine j_callV0 (pc := 12) C (obX5 h) rfl rfl (X5_reckon_m _ hj h es2) kV_X5_80 rfl (by omega) rfl (Nat.le_of_ble_eq_true rfl) dX5_go_12 ?_
      refine j_aload_n (pc := 15) C dX5_go_15 rfl 0 rfl ?_
      refine gf_X5_27 (pc := 16) C h dX5_go_16 ?_
      refine j_iconst (pc := 19) C dX5_go_19 ?_
      refine j_aload_n (pc := 20) C dX5_go_20 rfl 0 rfl ?_
      refine gf_X5_18 (pc := 21) C h dX5_go_21 ?_
      refine j_iconst (pc := 24) C dX5_go_24 ?_
      refine j_aload_n (pc := 25) C dX5_go_25 rfl 0 rfl ?_
      refine gf_X5_44 (pc := 26) C h dX5_go_26 ?_
      refine j_bI (fun s3 es3 => ?_)
      refine j_copy (pc := 29) C (arX5_8 h) (arX5_5 h) es3 kC_X5_55 (Nat.le_of_ble_eq_true rfl) dX5_go_29 ?_
      refine j_aload_n (pc := 32) C dX5_go_32 rfl 0 rfl ?_
      refine j_dup (pc := 33) C dX5_go_33 rfl ?_
      refine gf_X5_48 (pc := 34) C h dX5_go_34 ?_
      refine j_iconst (pc := 37) C dX5_go_37 ?_
      refine j_iadd (pc := 38) C dX5_go_38 ?_
      refine fp_X5_48 (pc := 39) C h dX5_go_39 ?_
      refine j_let (fun s4 => ?_)
      refine j_iinc (pc := 42) C hN dX5_go_42 2 rfl (by decide) (lv' := [(2, .int (oI (l2 + 1))), (0, .ref (G.2.2.1 a)), (1, .int (oI l1))]) rfl ?_
      refine j_goto (pc := 45) (tgt := 2) C dX5_go_45 rfl ?_
      exact j_sub [1, 2, 0] rfl (ih _ _)
set_option maxHeartbeats 4000000 in
set_option maxRecDepth 100000 in
theorem X5_go_m (l : Launch) {G : GD} (hj : zInj sC G) {a : Nat} (h : IsTown a) {st : PS} {l1 : Int} {r : PS} (hr : X5_go a st l1 = some r) : zM l sC G yX5_go cX5_go 3 none 5 [.ref (G.2.2.1 a), .int (oI l1)] st none r :=
  zEnter (f := fV) hr hj (by decide) rfl (lv := [(0, .ref (G.2.2.1 a)), (1, .int (oI l1))]) rfl (Nat.le_of_ble_eq_true rfl) (fun X _ hN C => by
    unfold X5_go
    refine j_iconst (pc := 0) C dX5_go_0 ?_
    refine j_istore_n (pc := 1) C hN dX5_go_1 rfl (by decide) (lv' := [(2, .int (oI 0)), (0, .ref (G.2.2.1 a)), (1, .int (oI l1))]) rfl ?_
    exact j_sub [1, 2, 0] rfl (X5_go_L2_j C hN hj h FU _ _))
def X5_sayPlain_L2 (a : Nat) (l1 : Int) : Nat → PS → Int → Option PS
  | 0, _, _ => none
  | k + 1, st, l2 => if wI (st a 0) ≤ wI l2 then some st else (if wI l2 = wI l1 then bI (zwr st (a + 7) 7 l2 0) (fun s1 => X5_sayPlain_L2 a l1 k s1 (l2 + 1)) else (bI (zrd st (a + 5) 7 l2) (fun v2 => bI (zwr st (a + 7) 7 l2 v2) (fun s2 => X5_sayPlain_L2 a l1 k s2 (l2 + 1)))))
def X5_sayPlain (a : Nat) (st : PS) (l1 : Int) : Option PS := X5_sayPlain_L2 a l1 FU st 0
set_option maxHeartbeats 4000000 in
set_option maxRecDepth 100000 in
theorem X5_sayPlain_L2_j {X : JX} {G : GD} (C : zC X sC G RX5 cX5_sayPlain none 0) (hN : X.2.2.2.2.2.2.2.2.2.2.2.2 = 3) (hj : zInj sC G) {a : Nat} {l1 : Int} (h : IsTown a) : ∀ (k : Nat) (st : PS) (l2 : Int), J X (zI sC G) (zQ sC G fV) st [(0, .ref (G.2.2.1 a)), (1, .int (oI l1)), (2, .int (oI l2))] 2 [] (X5_sayPlain_L2 a l1 k st l2) := by
  intro k
  induction k with
  | zero => intro st l2; exact j_none
  | succ k ih =>
    intro st l2
    rw [X5_sayPlain_L2]
    refine j_iload_n (pc := 2) C dX5_sayPlain_2 rfl 2 rfl ?_
    refine j_aload_n (pc := 3) C dX5_sayPlain_3 rfl 0 rfl ?_
    refine gf_X5_44 (pc := 4) C h dX5_sayPlain_4 ?_
    refine j_icmp_ge (pc := 7) (tgt := 37) C dX5_sayPlain_7 rfl ?_ ?_
    · exact j_return C rfl rfl dX5_sayPlain_37
    · refine j_aload_n (pc := 10) C dX5_sayPlain_10 rfl 0 rfl ?_
      refine gf_X5_24 (pc := 11) C h dX5_sayPlain_11 ?_
      refine j_iload_n (pc := 14) C dX5_sayPlain_14 rfl 2 rfl ?_
      refine j_iload_n (pc := 15) C dX5_sayPlain_15 rfl 2 rfl ?_
      refine j_iload_n (pc := 16) C dX5_sayPlain_16 rfl 1 rfl ?_
      refine j_icmp_ne (pc := 17) (tgt := 24) C dX5_sayPlain_17 rfl ?_ ?_
      · refine j_iconst (pc := 20) C dX5_sayPlain_20 ?_
        refine j_goto (pc := 21) (tgt := 30) C dX5_sayPlain_21 rfl ?_
        refine j_bI (fun s1 es1 => ?_)
        refine j_iast (pc := 30) C (arX5_7 h) es1 dX5_sayPlain_30 ?_
        refine j_iinc (pc := 31) C hN dX5_sayPlain_31 2 rfl (by decide) (lv' := [(2, .int (oI (l2 + 1))), (0, .ref (G.2.2.1 a)), (1, .int (oI l1))]) rfl ?_
        refine j_goto (pc := 34) (tgt := 2) C dX5_sayPlain_34 rfl ?_
        exact j_sub [1, 2, 0] rfl (ih _ _)
      · refine j_aload_n (pc := 24) C dX5_sayPlain_24 rfl 0 rfl ?_
        refine gf_X5_18 (pc := 25) C h dX5_sayPlain_25 ?_
        refine j_iload_n (pc := 28) C dX5_sayPlain_28 rfl 2 rfl ?_
        refine j_bI (fun v2 ev2 => ?_)
        refine j_iald (pc := 29) C (arX5_5 h) ev2 dX5_sayPlain_29 ?_
        refine j_bI (fun s2 es2 => ?_)
        refine j_iast (pc := 30) C (arX5_7 h) es2 dX5_sayPlain_30 ?_
        refine j_iinc (pc := 31) C hN dX5_sayPlain_31 2 rfl (by decide) (lv' := [(2, .int (oI (l2 + 1))), (0, .ref (G.2.2.1 a)), (1, .int (oI l1))]) rfl ?_
        refine j_goto (pc := 34) (tgt := 2) C dX5_sayPlain_34 rfl ?_
        exact j_sub [1, 2, 0] rfl (ih _ _)
set_option maxHeartbeats 4000000 in
set_option maxRecDepth 100000 in
theorem X5_sayPlain_m (l : Launch) {G : GD} (hj : zInj sC G) {a : Nat} (h : IsTown a) {st : PS} {l1 : Int} {r : PS} (hr : X5_sayPlain a st l1 = some r) : zM l sC G yX5_sayPlain cX5_sayPlain 3 none 0 [.ref (G.2.2.1 a), .int (oI l1)] st none r :=
  zEnter (f := fV) hr hj (by decide) rfl (lv := [(0, .ref (G.2.2.1 a)), (1, .int (oI l1))]) rfl (Nat.le_of_ble_eq_true rfl) (fun X _ hN C => by
    unfold X5_sayPlain
    refine j_iconst (pc := 0) C dX5_sayPlain_0 ?_
    refine j_istore_n (pc := 1) C hN dX5_sayPlain_1 rfl (by decide) (lv' := [(2, .int (oI 0)), (0, .ref (G.2.2.1 a)), (1, .int (oI l1))]) rfl ?_
    exact j_sub [1, 2, 0] rfl (X5_sayPlain_L2_j C hN hj h FU _ _))
