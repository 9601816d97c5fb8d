def X7_earnsThen_L64 (l3 : Int) (l4 : Int) : Nat → PS → Int → Option (Int × PS)
  | 0, _, _ => none
  | k + 1, st, l5 => if wI 8 ≤ wI l5 then zlet (zu st 0 1 l3) (fun s2 => some (l4, s2)) else (bI (zrd st 30 8 l5) (fun v3 => bI (zwr st 4 8 l5 v3) (fun s3 => X7_earnsThen_L64 l3 l4 k s3 (l5 + 1))))
def X7_earnsThen_L8 (l1 : Int) (l2 : Int) (l3 : Int) : Nat → PS → Int → Option (Int × PS)
  | 0, _, _ => none
  | k + 1, st, l4 => if wI 8 ≤ wI l4 then bI (X7_goYears st l1) (fun s1 => if wI l2 = wI 10 then bI (X7_allEarn s1) (fun v2 => X7_earnsThen_L64 l3 v2 FU s1 0) else (bI (zrd s1 4 8 l2) (fun v4 => X7_earnsThen_L64 l3 v4 FU s1 0))) else (bI (zrd st 4 8 l4) (fun v5 => bI (zwr st 30 8 l4 v5) (fun s4 => X7_earnsThen_L8 l1 l2 l3 k s4 (l4 + 1))))
def X7_earnsThen (st : PS) (l1 l2 : Int) : Option (Int × PS) := X7_earnsThen_L8 l1 l2 (st 0 1) FU st 0
set_option maxHeartbeats 4000000 in
set_option maxRecDepth 100000 in
theorem X7_earnsThen_L64_j {X : JX} {G : GD} (C : zC X sM G RX7 cX7_earnsThen (some .int) 9) (hN : X.2.2.2.2.2.2.2.2.2.2.2.2 = 6) (hj : zInj sM G) {l3 : Int} {l4 : Int} : ∀ (k : Nat) (st : PS) (l5 : Int), J X (zI sM G) (zQ sM G fI) st [(0, .ref (G.2.2.1 0)), (3, .int (oI l3)), (4, .int (oI l4)), (5, .int (oI l5))] 64 [] (X7_earnsThen_L64 l3 l4 k st l5) := by
  intro k
  induction k with
  | zero => intro st l5; exact j_none
  | succ k ih =>
    intro st l5
    rw [X7_earnsThen_L64]
    refine j_iload (pc := 64) C dX7_earnsThen_64 3 rfl ?_
    refine j_bipush (pc := 66) C dX7_earnsThen_66 (by decide) ?_
    refine j_icmp_ge (pc := 68) (tgt := 91) C dX7_earnsThen_68 rfl ?_ ?_
    · refine j_aload_n (pc := 91) C dX7_earnsThen_91 rfl 0 rfl ?_
      refine j_iload_n (pc := 92) C dX7_earnsThen_92 rfl 1 rfl ?_
      refine fp_X7_13 (pc := 93) C dX7_earnsThen_93 ?_
      refine j_let (fun s2 => ?_)
      refine j_iload (pc := 96) C dX7_earnsThen_96 2 rfl ?_
      exact j_ireturn C rfl rfl rfl rfl dX7_earnsThen_98
    · refine j_aload_n (pc := 71) C dX7_earnsThen_71 rfl 0 rfl ?_
      refine gf_X7_23 (pc := 72) C dX7_earnsThen_72 ?_
      refine j_iload (pc := 75) C dX7_earnsThen_75 3 rfl ?_
      refine j_aload_n (pc := 77) C dX7_earnsThen_77 rfl 0 rfl ?_
      refine gf_X7_102 (pc := 78) C dX7_earnsThen_78 ?_
      refine j_iload (pc := 81) C dX7_earnsThen_81 3 rfl ?_
      refine j_bI (fun v3 ev3 => ?_)
      refine j_iald (pc := 83) C arX7_30 ev3 dX7_earnsThen_83 ?_
      refine j_bI (fun s3 es3 => ?_)
      refine j_iast (pc := 84) C arX7_4 es3 dX7_earnsThen_84 ?_
      refine j_iinc (pc := 85) C hN dX7_earnsThen_85 3 rfl (by decide) (lv' := [(5, .int (oI (l5 + 1))), (0, .ref (G.2.2.1 0)), (3, .int (oI l3)), (4, .int (oI l4))]) rfl ?_
      refine j_goto (pc := 88) (tgt := 64) C dX7_earnsThen_88 rfl ?_
      exact j_sub [1, 2, 3, 0] rfl (ih _ _)
set_option maxHeartbeats 4000000 in
set_option maxRecDepth 100000 in
theorem X7_earnsThen_L8_j {X : JX} {G : GD} (C : zC X sM G RX7 cX7_earnsThen (some .int) 9) (hN : X.2.2.2.2.2.2.2.2.2.2.2.2 = 6) (hj : zInj sM G) {l1 : Int} {l2 : Int} {l3 : Int} : ∀ (k : Nat) (st : PS) (l4 : Int), J X (zI sM G) (zQ sM G fI) st [(0, .ref (G.2.2.1 0)), (1, .int (oI l1)), (2, .int (oI l2)), (3, .int (oI l3)), (4, .int (oI l4))] 8 [] (X7_earnsThen_L8 l1 l2 l3 k st l4) := by
  intro k
  induction k with
  | zero => intro st l4; exact j_none
  | succ k ih =>
    intro st l4
    rw [X7_earnsThen_L8]
    refine j_iload (pc := 8) C dX7_earnsThen_8 4 rfl ?_
    refine j_bipush (pc := 10) C dX7_earnsThen_10 (by decide) ?_
    refine j_icmp_ge (pc := 12) (tgt := 35) C dX7_earnsThen_12 rfl ?_ ?_
    · refine j_aload_n (pc := 35) C dX7_earnsThen_35 rfl 0 rfl ?_
      refine j_iload_n (pc := 36) C dX7_earnsThen_36 rfl 1 rfl ?_
      refine j_bI (fun s1 es1 => ?_)
      refine j_callV0 (pc := 37) C obX7 rfl rfl (X7_goYears_m _ hj es1) kV_X7_322 rfl (by omega) rfl (Nat.le_of_ble_eq_true rfl) dX7_earnsThen_37 ?_
      refine j_iload_n (pc := 40) C dX7_earnsThen_40 rfl 2 rfl ?_
      refine j_bipush (pc := 41) C dX7_earnsThen_41 (by decide) ?_
      refine j_icmp_ne (pc := 43) (tgt := 53) C dX7_earnsThen_43 rfl ?_ ?_
      · refine j_aload_n (pc := 46) C dX7_earnsThen_46 rfl 0 rfl ?_
        refine j_bI (fun v2 ev2 => ?_)
        refine j_callV1 (pc := 47) C obX7 rfl rfl (X7_allEarn_m _ hj ev2) kV_X7_319 rfl (by omega) rfl (Nat.le_of_ble_eq_true rfl) dX7_earnsThen_47 ?_
        refine j_goto (pc := 50) (tgt := 59) C dX7_earnsThen_50 rfl ?_
        refine j_istore (pc := 59) C hN dX7_earnsThen_59 (by decide) (lv' := [(4, .int (oI v2)), (0, .ref (G.2.2.1 0)), (1, .int (oI l1)), (2, .int (oI l2)), (3, .int (oI l3))]) rfl ?_
        refine j_iconst (pc := 61) C dX7_earnsThen_61 ?_
        refine j_istore (pc := 62) C hN dX7_earnsThen_62 (by decide) (lv' := [(5, .int (oI 0)), (4, .int (oI v2)), (0, .ref (G.2.2.1 0)), (1, .int (oI l1)), (2, .int (oI l2)), (3, .int (oI l3))]) rfl ?_
        exact j_sub [2, 5, 1, 0] rfl (X7_earnsThen_L64_j C hN hj FU _ _)
      · refine j_aload_n (pc := 53) C dX7_earnsThen_53 rfl 0 rfl ?_
        refine gf_X7_23 (pc := 54) C dX7_earnsThen_54 ?_
        refine j_iload_n (pc := 57) C dX7_earnsThen_57 rfl 2 rfl ?_
        refine j_bI (fun v4 ev4 => ?_)
        refine j_iald (pc := 58) C arX7_4 ev4 dX7_earnsThen_58 ?_
        refine j_istore (pc := 59) C hN dX7_earnsThen_59 (by decide) (lv' := [(4, .int (oI v4)), (0, .ref (G.2.2.1 0)), (1, .int (oI l1)), (2, .int (oI l2)), (3, .int (oI l3))]) rfl ?_
        refine j_iconst (pc := 61) C dX7_earnsThen_61 ?_
        refine j_istore (pc := 62) C hN dX7_earnsThen_62 (by decide) (lv' := [(5, .int (oI 0)), (4, .int (oI v4)), (0, .ref (G.2.2.1 0)), (1, .int (oI l1)), (2, .int (oI l2)), (3, .int (oI l3))]) rfl ?_
        exact j_sub [2, 5, 1, 0] rfl (X7_earnsThen_L64_j C hN hj FU _ _)
    · refine j_aload_n (pc := 15) C dX7_earnsThen_15 rfl 0 rfl ?_
      refine gf_X7_102 (pc := 16) C dX7_earnsThen_16 ?_
      refine j_iload (pc := 19) C dX7_earnsThen_19 4 rfl ?_
      refine j_aload_n (pc := 21) C dX7_earnsThen_21 rfl 0 rfl ?_
      refine gf_X7_23 (pc := 22) C dX7_earnsThen_22 ?_
      refine j_iload (pc := 25) C dX7_earnsThen_25 4 rfl ?_
      refine j_bI (fun v5 ev5 => ?_)
      refine j_iald (pc := 27) C arX7_4 ev5 dX7_earnsThen_27 ?_
      refine j_bI (fun s4 es4 => ?_)
      refine j_iast (pc := 28) C arX7_30 es4 dX7_earnsThen_28 ?_
      refine j_iinc (pc := 29) C hN dX7_earnsThen_29 4 rfl (by decide) (lv' := [(4, .int (oI (l4 + 1))), (0, .ref (G.2.2.1 0)), (1, .int (oI l1)), (2, .int (oI l2)), (3, .int (oI l3))]) rfl ?_
      refine j_goto (pc := 32) (tgt := 8) C dX7_earnsThen_32 rfl ?_
      exact j_sub [1, 2, 3, 4, 0] rfl (ih _ _)
set_option maxHeartbeats 4000000 in
set_option maxRecDepth 100000 in
theorem X7_earnsThen_m (l : Launch) {G : GD} (hj : zInj sM G) {st : PS} {l1 l2 : Int} {r : (Int × PS)} (hr : X7_earnsThen st l1 l2 = some r) : zM l sM G yX7_earnsThen cX7_earnsThen 6 (some .int) 9 [.ref (G.2.2.1 0), .int (oI l1), .int (oI l2)] st (some (.int (oI r.1))) r.2 :=
  zEnter (f := fI) hr hj (by decide) rfl (lv := [(0, .ref (G.2.2.1 0)), (1, .int (oI l1)), (2, .int (oI l2))]) rfl (Nat.le_of_ble_eq_true rfl) (fun X _ hN C => by
    unfold X7_earnsThen
    refine j_aload_n (pc := 0) C dX7_earnsThen_0 rfl 0 rfl ?_
    refine gf_X7_13 (pc := 1) C dX7_earnsThen_1 ?_
    refine j_istore_n (pc := 4) C hN dX7_earnsThen_4 rfl (by decide) (lv' := [(3, .int (oI (st 0 1))), (0, .ref (G.2.2.1 0)), (1, .int (oI l1)), (2, .int (oI l2))]) rfl ?_
    refine j_iconst (pc := 5) C dX7_earnsThen_5 ?_
    refine j_istore (pc := 6) C hN dX7_earnsThen_6 (by decide) (lv' := [(4, .int (oI 0)), (3, .int (oI (st 0 1))), (0, .ref (G.2.2.1 0)), (1, .int (oI l1)), (2, .int (oI l2))]) rfl ?_
    exact j_sub [2, 3, 4, 1, 0] rfl (X7_earnsThen_L8_j C hN hj FU _ _))
def X7_at (st : PS) (l1 l2 : Int) : Option (Int × PS) := if wI (X7_in st l2 0 ((st 0 0) - 1)) = 0 then if wI l2 = wI 10 then if wI (X7_in st l1 0 60) = 0 then some ((-2), st) else (bP (X7_earnsThen st l1 l2) (fun v1 s1 => some (v1, s1))) else (some ((-1), st)) else (if wI (X7_in st l1 0 60) = 0 then some ((-2), st) else (bP (X7_earnsThen st l1 l2) (fun v2 s2 => some (v2, s2))))
set_option maxHeartbeats 4000000 in
set_option maxRecDepth 100000 in
theorem X7_at_m (l : Launch) {G : GD} (hj : zInj sM G) {st : PS} {l1 l2 : Int} {r : (Int × PS)} (hr : X7_at st l1 l2 = some r) : zM l sM G yX7_at cX7_at 3 (some .int) 10 [.ref (G.2.2.1 0), .int (oI l1), .int (oI l2)] st (some (.int (oI r.1))) r.2 :=
  zEnter (f := fI) hr hj (by decide) rfl (lv := [(0, .ref (G.2.2.1 0)), (1, .int (oI l1)), (2, .int (oI l2))]) rfl (Nat.le_of_ble_eq_true rfl) (fun X _ hN C => by
    unfold X7_at
    refine j_aload_n (pc := 0) C dX7_at_0 rfl 0 rfl ?_
    refine j_iload_n (pc := 1) C dX7_at_1 rfl 2 rfl ?_
    refine j_iconst (pc := 2) C dX7_at_2 ?_
    refine j_aload_n (pc := 3) C dX7_at_3 rfl 0 rfl ?_
    refine gf_X7_7 (pc := 4) C dX7_at_4 ?_
    refine j_iconst (pc := 7) C dX7_at_7 ?_
    refine j_isub (pc := 8) C dX7_at_8 ?_
    refine j_callV1 (pc := 9) C obX7 rfl rfl (X7_in_m _ hj rfl) kV_X7_197 rfl (by omega) rfl (Nat.le_of_ble_eq_true rfl) dX7_at_9 ?_
    refine j_if_ne (pc := 12) (tgt := 23) C dX7_at_12 rfl ?_ ?_
    · refine j_iload_n (pc := 15) C dX7_at_15 rfl 2 rfl ?_
      refine j_bipush (pc := 16) C dX7_at_16 (by decide) ?_
      refine j_icmp_eq (pc := 18) (tgt := 23) C dX7_at_18 rfl ?_ ?_
      · refine j_aload_n (pc := 23) C dX7_at_23 rfl 0 rfl ?_
        refine j_iload_n (pc := 24) C dX7_at_24 rfl 1 rfl ?_
        refine j_iconst (pc := 25) C dX7_at_25 ?_
        refine j_bipush (pc := 26) C dX7_at_26 (by decide) ?_
        refine j_callV1 (pc := 28) C obX7 rfl rfl (X7_in_m _ hj rfl) kV_X7_197 rfl (by omega) rfl (Nat.le_of_ble_eq_true rfl) dX7_at_28 ?_
        refine j_if_eq (pc := 31) (tgt := 43) C dX7_at_31 rfl ?_ ?_
        · refine j_bipush (pc := 43) C dX7_at_43 (by decide) ?_
          exact j_ireturn C rfl rfl rfl rfl dX7_at_45
        · refine j_aload_n (pc := 34) C dX7_at_34 rfl 0 rfl ?_
          refine j_iload_n (pc := 35) C dX7_at_35 rfl 1 rfl ?_
          refine j_iload_n (pc := 36) C dX7_at_36 rfl 2 rfl ?_
          refine j_bP (fun v1 s1 es1 => ?_)
          refine j_callV1 (pc := 37) C obX7 rfl rfl (X7_earnsThen_m _ hj es1) kV_X7_325 rfl (by omega) rfl (Nat.le_of_ble_eq_true rfl) dX7_at_37 ?_
          refine j_goto (pc := 40) (tgt := 45) C dX7_at_40 rfl ?_
          exact j_ireturn C rfl rfl rfl rfl dX7_at_45
      · refine j_iconst (pc := 21) C dX7_at_21 ?_
        exact j_ireturn C rfl rfl rfl rfl dX7_at_22
    · refine j_aload_n (pc := 23) C dX7_at_23 rfl 0 rfl ?_
      refine j_iload_n (pc := 24) C dX7_at_24 rfl 1 rfl ?_
      refine j_iconst (pc := 25) C dX7_at_25 ?_
      refine j_bipush (pc := 26) C dX7_at_26 (by decide) ?_
      refine j_callV1 (pc := 28) C obX7 rfl rfl (X7_in_m _ hj rfl) kV_X7_197 rfl (by omega) rfl (Nat.le_of_ble_eq_true rfl) dX7_at_28 ?_
      refine j_if_eq (pc := 31) (tgt := 43) C dX7_at_31 rfl ?_ ?_
      · refine j_bipush (pc := 43) C dX7_at_43 (by decide) ?_
        exact j_ireturn C rfl rfl rfl rfl dX7_at_45
      · refine j_aload_n (pc := 34) C dX7_at_34 rfl 0 rfl ?_
        refine j_iload_n (pc := 35) C dX7_at_35 rfl 1 rfl ?_
        refine j_iload_n (pc := 36) C dX7_at_36 rfl 2 rfl ?_
        refine j_bP (fun v2 s2 es2 => ?_)
        refine j_callV1 (pc := 37) C obX7 rfl rfl (X7_earnsThen_m _ hj es2) kV_X7_325 rfl (by omega) rfl (Nat.le_of_ble_eq_true rfl) dX7_at_37 ?_
        refine j_goto (pc := 40) (tgt := 45) C dX7_at_40 rfl ?_
        exact j_ireturn C rfl rfl rfl rfl dX7_at_45)
def X7_isCalm_L6  : Nat → PS → Int → Option (Int × PS)
  | 0, _, _ => none
  | k + 1, st, l1 => if wI (st 0 0) ≤ wI l1 then some (1, st) else (bI (zrd st 27 8 l1) (fun v1 => bI (zrd st 4 8 l1) (fun v2 => if wI v1 = wI v2 then X7_isCalm_L6 k st (l1 + 1) else (some (0, st)))))
def X7_isCalm (st : PS) : Option (Int × PS) := bI (X7_layNext st) (fun s1 => X7_isCalm_L6 FU s1 0)
set_option maxHeartbeats 4000000 in
set_option maxRecDepth 100000 in
theorem X7_isCalm_L6_j {X : JX} {G : GD} (C : zC X sM G RX7 cX7_isCalm (some .boolean) 7) (hN : X.2.2.2.2.2.2.2.2.2.2.2.2 = 2) (hj : zInj sM G)  : ∀ (k : Nat) (st : PS) (l1 : Int), J X (zI sM G) (zQ sM G fI) st [(0, .ref (G.2.2.1 0)), (1, .int (oI l1))] 6 [] (X7_isCalm_L6 k st l1) := by
  intro k
  induction k with
  | zero => intro st l1; exact j_none
  | succ k ih =>
    intro st l1
    rw [X7_isCalm_L6]
    refine j_iload_n (pc := 6) C dX7_isCalm_6 rfl 1 rfl ?_
    refine j_aload_n (pc := 7) C dX7_isCalm_7 rfl 0 rfl ?_
    refine gf_X7_7 (pc := 8) C dX7_isCalm_8 ?_
    refine j_icmp_ge (pc := 11) (tgt := 37) C dX7_isCalm_11 rfl ?_ ?_
    · refine j_iconst (pc := 37) C dX7_isCalm_37 ?_
      exact j_ireturn C rfl rfl (znar (Or.inr rfl)) rfl dX7_isCalm_38
    · refine j_aload_n (pc := 14) C dX7_isCalm_14 rfl 0 rfl ?_
      refine gf_X7_93 (pc := 15) C dX7_isCalm_15 ?_
      refine j_iload_n (pc := 18) C dX7_isCalm_18 rfl 1 rfl ?_
      refine j_bI (fun v1 ev1 => ?_)
      refine j_iald (pc := 19) C arX7_27 ev1 dX7_isCalm_19 ?_
      refine j_aload_n (pc := 20) C dX7_isCalm_20 rfl 0 rfl ?_
      refine gf_X7_23 (pc := 21) C dX7_isCalm_21 ?_
      refine j_iload_n (pc := 24) C dX7_isCalm_24 rfl 1 rfl ?_
      refine j_bI (fun v2 ev2 => ?_)
      refine j_iald (pc := 25) C arX7_4 ev2 dX7_isCalm_25 ?_
      refine j_icmp_eq (pc := 26) (tgt := 31) C dX7_isCalm_26 rfl ?_ ?_
      · refine j_iinc (pc := 31) C hN dX7_isCalm_31 1 rfl (by decide) (lv' := [(1, .int (oI (l1 + 1))), (0, .ref (G.2.2.1 0))]) rfl ?_
        refine j_goto (pc := 34) (tgt := 6) C dX7_isCalm_34 rfl ?_
        exact j_sub [1, 0] rfl (ih _ _)
      · refine j_iconst (pc := 29) C dX7_isCalm_29 ?_
        exact j_ireturn C rfl rfl (znar (Or.inl rfl)) rfl dX7_isCalm_30
set_option maxHeartbeats 4000000 in
set_option maxRecDepth 100000 in
theorem X7_isCalm_m (l : Launch) {G : GD} (hj : zInj sM G) {st : PS} {r : (Int × PS)} (hr : X7_isCalm st = some r) : zM l sM G yX7_isCalm cX7_isCalm 2 (some .boolean) 7 [.ref (G.2.2.1 0)] st (some (.int (oI r.1))) r.2 :=
  zEnter (f := fI) hr hj (by decide) rfl (lv := [(0, .ref (G.2.2.1 0))]) rfl (Nat.le_of_ble_eq_true rfl) (fun X _ hN C => by
    unfold X7_isCalm
    refine j_aload_n (pc := 0) C dX7_isCalm_0 rfl 0 rfl ?_
    refine j_bI (fun s1 es1 => ?_)
    refine j_callV0 (pc := 1) C obX7 rfl rfl (X7_layNext_m _ hj es1) kV_X7_313 rfl (by omega) rfl (Nat.le_of_ble_eq_true rfl) dX7_isCalm_1 ?_
    refine j_iconst (pc := 4) C dX7_isCalm_4 ?_
    refine j_istore_n (pc := 5) C hN dX7_isCalm_5 rfl (by decide) (lv' := [(1, .int (oI 0)), (0, .ref (G.2.2.1 0))]) rfl ?_
    exact j_sub [1, 0] rfl (X7_isCalm_L6_j C hN hj FU _ _))
def X7_stays_L9  : Nat → PS → Int → Int → Option (Int × PS)
  | 0, _, _, _ => none
  | k + 1, st, l1, l2 => if wI 61 ≤ wI l2 then bI (X7_putBack st) (fun s2 => some (l1, s2)) else (if 0 ≤ wI l1 then bI (X7_putBack st) (fun s3 => some (l1, s3)) else (bP (X7_isCalm st) (fun v1 s4 => if wI v1 = 0 then bI (X7_goYear s4) (fun s5 => X7_stays_L9 k s5 (-5) (l2 + 1)) else (bI (X7_goYear s4) (fun s6 => X7_stays_L9 k s6 l2 (l2 + 1))))))
def X7_stays (st : PS) : Option (Int × PS) := bI (X7_keep st) (fun s1 => X7_stays_L9 FU s1 (-5) 0)
set_option maxHeartbeats 4000000 in
set_option maxRecDepth 100000 in
theorem X7_stays_L9_j {X : JX} {G : GD} (C : zC X sM G RX7 cX7_stays (some .int) 8) (hN : X.2.2.2.2.2.2.2.2.2.2.2.2 = 3) (hj : zInj sM G)  : ∀ (k : Nat) (st : PS) (l1 : Int) (l2 : Int), J X (zI sM G) (zQ sM G fI) st [(0, .ref (G.2.2.1 0)), (1, .int (oI l1)), (2, .int (oI l2))] 9 [] (X7_stays_L9 k st l1 l2) := by
  intro k
  induction k with
  | zero => intro st l1 l2; exact j_none
  | succ k ih =>
    intro st l1 l2
    rw [X7_stays_L9]
    refine j_iload_n (pc := 9) C dX7_stays_9 rfl 2 rfl ?_
    refine j_bipush (pc := 10) C dX7_stays_10 (by decide) ?_
    refine j_icmp_ge (pc := 12) (tgt := 43) C dX7_stays_12 rfl ?_ ?_
    · refine j_aload_n (pc := 43) C dX7_stays_43 rfl 0 rfl ?_
      refine j_bI (fun s2 es2 => ?_)
      refine j_callV0 (pc := 44) C obX7 rfl rfl (X7_putBack_m _ hj es2) kV_X7_334 rfl (by omega) rfl (Nat.le_of_ble_eq_true rfl) dX7_stays_44 ?_
      refine j_iload_n (pc := 47) C dX7_stays_47 rfl 1 rfl ?_
      exact j_ireturn C rfl rfl rfl rfl dX7_stays_48
    · refine j_iload_n (pc := 15) C dX7_stays_15 rfl 1 rfl ?_
      refine j_if_ge (pc := 16) (tgt := 43) C dX7_stays_16 rfl ?_ ?_
      · refine j_aload_n (pc := 43) C dX7_stays_43 rfl 0 rfl ?_
        refine j_bI (fun s3 es3 => ?_)
        refine j_callV0 (pc := 44) C obX7 rfl rfl (X7_putBack_m _ hj es3) kV_X7_334 rfl (by omega) rfl (Nat.le_of_ble_eq_true rfl) dX7_stays_44 ?_
        refine j_iload_n (pc := 47) C dX7_stays_47 rfl 1 rfl ?_
        exact j_ireturn C rfl rfl rfl rfl dX7_stays_48
      · refine j_aload_n (pc := 19) C dX7_stays_19 rfl 0 rfl ?_
        refine j_bP (fun v1 s4 es4 => ?_)
        refine j_callV1 (pc := 20) C obX7 rfl rfl (X7_isCalm_m _ hj es4) kV_X7_331 rfl (by omega) rfl (Nat.le_of_ble_eq_true rfl) dX7_stays_20 ?_
        refine j_if_eq (pc := 23) (tgt := 30) C dX7_stays_23 rfl ?_ ?_
        · refine j_bipush (pc := 30) C dX7_stays_30 (by decide) ?_
          refine j_istore_n (pc := 32) C hN dX7_stays_32 rfl (by decide) (lv' := [(1, .int (oI (-5))), (0, .ref (G.2.2.1 0)), (2, .int (oI l2))]) rfl ?_
          refine j_aload_n (pc := 33) C dX7_stays_33 rfl 1 rfl ?_
          refine j_bI (fun s5 es5 => ?_)
          refine j_callV0 (pc := 34) C obX7 rfl rfl (X7_goYear_m _ hj es5) kV_X7_316 rfl (by omega) rfl (Nat.le_of_ble_eq_true rfl) dX7_stays_34 ?_
          refine j_iinc (pc := 37) C hN dX7_stays_37 2 rfl (by decide) (lv' := [(2, .int (oI (l2 + 1))), (1, .int (oI (-5))), (0, .ref (G.2.2.1 0))]) rfl ?_
          refine j_goto (pc := 40) (tgt := 9) C dX7_stays_40 rfl ?_
          exact j_sub [2, 1, 0] rfl (ih _ _ _)
        · refine j_iload_n (pc := 26) C dX7_stays_26 rfl 2 rfl ?_
          refine j_goto (pc := 27) (tgt := 32) C dX7_stays_27 rfl ?_
          refine j_istore_n (pc := 32) C hN dX7_stays_32 rfl (by decide) (lv' := [(1, .int (oI l2)), (0, .ref (G.2.2.1 0)), (2, .int (oI l2))]) rfl ?_
          refine j_aload_n (pc := 33) C dX7_stays_33 rfl 1 rfl ?_
          refine j_bI (fun s6 es6 => ?_)
          refine j_callV0 (pc := 34) C obX7 rfl rfl (X7_goYear_m _ hj es6) kV_X7_316 rfl (by omega) rfl (Nat.le_of_ble_eq_true rfl) dX7_stays_34 ?_
          refine j_iinc (pc := 37) C hN dX7_stays_37 2 rfl (by decide) (lv' := [(2, .int (oI (l2 + 1))), (1, .int (oI l2)), (0, .ref (G.2.2.1 0))]) rfl ?_
          refine j_goto (pc := 40) (tgt := 9) C dX7_stays_40 rfl ?_
          exact j_sub [2, 1, 0] rfl (ih _ _ _)
set_option maxHeartbeats 4000000 in
set_option maxRecDepth 100000 in
theorem X7_stays_m (l : Launch) {G : GD} (hj : zInj sM G) {st : PS} {r : (Int × PS)} (hr : X7_stays st = some r) : zM l sM G yX7_stays cX7_stays 3 (some .int) 8 [.ref (G.2.2.1 0)] st (some (.int (oI r.1))) r.2 :=
  zEnter (f := fI) hr hj (by decide) rfl (lv := [(0, .ref (G.2.2.1 0))]) rfl (Nat.le_of_ble_eq_true rfl) (fun X _ hN C => by
    unfold X7_stays
    refine j_aload_n (pc := 0) C dX7_stays_0 rfl 0 rfl ?_
    refine j_bI (fun s1 es1 => ?_)
    refine j_callV0 (pc := 1) C obX7 rfl rfl (X7_keep_m _ hj es1) kV_X7_328 rfl (by omega) rfl (Nat.le_of_ble_eq_true rfl) dX7_stays_1 ?_
    refine j_bipush (pc := 4) C dX7_stays_4 (by decide) ?_
    refine j_istore_n (pc := 6) C hN dX7_stays_6 rfl (by decide) (lv' := [(1, .int (oI (-5))), (0, .ref (G.2.2.1 0))]) rfl ?_
    refine j_iconst (pc := 7) C dX7_stays_7 ?_
    refine j_istore_n (pc := 8) C hN dX7_stays_8 rfl (by decide) (lv' := [(2, .int (oI 0)), (1, .int (oI (-5))), (0, .ref (G.2.2.1 0))]) rfl ?_
    exact j_sub [2, 1, 0] rfl (X7_stays_L9_j C hN hj FU _ _ _))
def X7_isAsOld_L2  (st : PS) : Nat → Int → Option Int
  | 0, _ => none
  | k + 1, l1 => if wI (st 0 0) ≤ wI l1 then some 1 else (bI (zrd st 4 8 l1) (fun v1 => bI (zrd st 31 8 l1) (fun v2 => if wI v1 = wI v2 then X7_isAsOld_L2 st k (l1 + 1) else (some 0))))
def X7_isAsOld (st : PS) : Option Int := X7_isAsOld_L2 st FU 0
set_option maxHeartbeats 4000000 in
set_option maxRecDepth 100000 in
theorem X7_isAsOld_L2_j {X : JX} {G : GD} (C : zC X sM G RX7 cX7_isAsOld (some .boolean) 0) (hN : X.2.2.2.2.2.2.2.2.2.2.2.2 = 2) (hj : zInj sM G)  {st : PS} : ∀ (k : Nat) (l1 : Int), J X (zI sM G) (zQ sM G (fR st)) st [(0, .ref (G.2.2.1 0)), (1, .int (oI l1))] 2 [] (X7_isAsOld_L2 st k l1) := by
  intro k
  induction k with
  | zero => intro l1; exact j_none
  | succ k ih =>
    intro l1
    rw [X7_isAsOld_L2]
    refine j_iload_n (pc := 2) C dX7_isAsOld_2 rfl 1 rfl ?_
    refine j_aload_n (pc := 3) C dX7_isAsOld_3 rfl 0 rfl ?_
    refine gf_X7_7 (pc := 4) C dX7_isAsOld_4 ?_
    refine j_icmp_ge (pc := 7) (tgt := 33) C dX7_isAsOld_7 rfl ?_ ?_
    · refine j_iconst (pc := 33) C dX7_isAsOld_33 ?_
      exact j_ireturn C rfl rfl (znar (Or.inr rfl)) rfl dX7_isAsOld_34
    · refine j_aload_n (pc := 10) C dX7_isAsOld_10 rfl 0 rfl ?_
      refine gf_X7_23 (pc := 11) C dX7_isAsOld_11 ?_
      refine j_iload_n (pc := 14) C dX7_isAsOld_14 rfl 1 rfl ?_
      refine j_bI (fun v1 ev1 => ?_)
      refine j_iald (pc := 15) C arX7_4 ev1 dX7_isAsOld_15 ?_
      refine j_aload_n (pc := 16) C dX7_isAsOld_16 rfl 0 rfl ?_
      refine gf_X7_105 (pc := 17) C dX7_isAsOld_17 ?_
      refine j_iload_n (pc := 20) C dX7_isAsOld_20 rfl 1 rfl ?_
      refine j_bI (fun v2 ev2 => ?_)
      refine j_iald (pc := 21) C arX7_31 ev2 dX7_isAsOld_21 ?_
      refine j_icmp_eq (pc := 22) (tgt := 27) C dX7_isAsOld_22 rfl ?_ ?_
      · refine j_iinc (pc := 27) C hN dX7_isAsOld_27 1 rfl (by decide) (lv' := [(1, .int (oI (l1 + 1))), (0, .ref (G.2.2.1 0))]) rfl ?_
        refine j_goto (pc := 30) (tgt := 2) C dX7_isAsOld_30 rfl ?_
        exact j_sub [1, 0] rfl (ih _)
      · refine j_iconst (pc := 25) C dX7_isAsOld_25 ?_
        exact j_ireturn C rfl rfl (znar (Or.inl rfl)) rfl dX7_isAsOld_26
set_option maxHeartbeats 4000000 in
set_option maxRecDepth 100000 in
theorem X7_isAsOld_m (l : Launch) {G : GD} (hj : zInj sM G) {st : PS} {r : Int} (hr : X7_isAsOld st = some r) : zM l sM G yX7_isAsOld cX7_isAsOld 2 (some .boolean) 0 [.ref (G.2.2.1 0)] st (some (.int (oI r))) st :=
  zEnter (f := fR st) hr hj (by decide) rfl (lv := [(0, .ref (G.2.2.1 0))]) rfl (Nat.le_of_ble_eq_true rfl) (fun X _ hN C => by
    unfold X7_isAsOld
    refine j_iconst (pc := 0) C dX7_isAsOld_0 ?_
    refine j_istore_n (pc := 1) C hN dX7_isAsOld_1 rfl (by decide) (lv' := [(1, .int (oI 0)), (0, .ref (G.2.2.1 0))]) rfl ?_
    exact j_sub [1, 0] rfl (X7_isAsOld_L2_j C hN hj FU _))
def X7_swings_L41  : Nat → PS → Int → Int → Option (Int × PS)
  | 0, _, _, _ => none
  | k + 1, st, l1, l2 => if wI 21 ≤ wI l2 then bI (X7_putBack st) (fun s3 => some (l1, s3)) else (if 0 ≤ wI l1 then bI (X7_putBack st) (fun s4 => some (l1, s4)) else (bI (X7_goYear st) (fun s5 => bI (X7_isAsOld s5) (fun v1 => if wI v1 = 0 then X7_swings_L41 k s5 (-5) (l2 + 1) else (X7_swings_L41 k s5 l2 (l2 + 1))))))
def X7_swings_L12  : Nat → PS → Int → Option (Int × PS)
  | 0, _, _ => none
  | k + 1, st, l1 => if wI 8 ≤ wI l1 then X7_swings_L41 FU st (-5) 1 else (bI (zrd st 4 8 l1) (fun v2 => bI (zwr st 31 8 l1 v2) (fun s6 => X7_swings_L12 k s6 (l1 + 1))))
def X7_swings (st : PS) : Option (Int × PS) := bI (X7_keep st) (fun s1 => bI (X7_goYears s1 40) (fun s2 => X7_swings_L12 FU s2 0))
set_option maxHeartbeats 4000000 in
set_option maxRecDepth 100000 in
theorem X7_swings_L41_j {X : JX} {G : GD} (C : zC X sM G RX7 cX7_swings (some .int) 9) (hN : X.2.2.2.2.2.2.2.2.2.2.2.2 = 3) (hj : zInj sM G)  : ∀ (k : Nat) (st : PS) (l1 : Int) (l2 : Int), J X (zI sM G) (zQ sM G fI) st [(0, .ref (G.2.2.1 0)), (1, .int (oI l1)), (2, .int (oI l2))] 41 [] (X7_swings_L41 k st l1 l2) := by
  intro k
  induction k with
  | zero => intro st l1 l2; exact j_none
  | succ k ih =>
    intro st l1 l2
    rw [X7_swings_L41]
    refine j_iload_n (pc := 41) C dX7_swings_41 rfl 2 rfl ?_
    refine j_bipush (pc := 42) C dX7_swings_42 (by decide) ?_
    refine j_icmp_ge (pc := 44) (tgt := 75) C dX7_swings_44 rfl ?_ ?_
    · refine j_aload_n (pc := 75) C dX7_swings_75 rfl 0 rfl ?_
      refine j_bI (fun s3 es3 => ?_)
      refine j_callV0 (pc := 76) C obX7 rfl rfl (X7_putBack_m _ hj es3) kV_X7_334 rfl (by omega) rfl (Nat.le_of_ble_eq_true rfl) dX7_swings_76 ?_
      refine j_iload_n (pc := 79) C dX7_swings_79 rfl 1 rfl ?_
      exact j_ireturn C rfl rfl rfl rfl dX7_swings_80
    · refine j_iload_n (pc := 47) C dX7_swings_47 rfl 1 rfl ?_
      refine j_if_ge (pc := 48) (tgt := 75) C dX7_swings_48 rfl ?_ ?_
      · refine j_aload_n (pc := 75) C dX7_swings_75 rfl 0 rfl ?_
        refine j_bI (fun s4 es4 => ?_)
        refine j_callV0 (pc := 76) C obX7 rfl rfl (X7_putBack_m _ hj es4) kV_X7_334 rfl (by omega) rfl (Nat.le_of_ble_eq_true rfl) dX7_swings_76 ?_
        refine j_iload_n (pc := 79) C dX7_swings_79 rfl 1 rfl ?_
        exact j_ireturn C rfl rfl rfl rfl dX7_swings_80
      · refine j_aload_n (pc := 51) C dX7_swings_51 rfl 0 rfl ?_
        refine j_bI (fun s5 es5 => ?_)
        refine j_callV0 (pc := 52) C obX7 rfl rfl (X7_goYear_m _ hj es5) kV_X7_316 rfl (by omega) rfl (Nat.le_of_ble_eq_true rfl) dX7_swings_52 ?_
        refine j_aload_n (pc := 55) C dX7_swings_55 rfl 0 rfl ?_
        refine j_bI (fun v1 ev1 => ?_)
        refine j_callV1 (pc := 56) C obX7 rfl rfl (X7_isAsOld_m _ hj ev1) kV_X7_337 rfl (by omega) rfl (Nat.le_of_ble_eq_true rfl) dX7_swings_56 ?_
        refine j_if_eq (pc := 59) (tgt := 66) C dX7_swings_59 rfl ?_ ?_
        · refine j_bipush (pc := 66) C dX7_swings_66 (by decide) ?_
          refine j_istore_n (pc := 68) C hN dX7_swings_68 rfl (by decide) (lv' := [(1, .int (oI (-5))), (0, .ref (G.2.2.1 0)), (2, .int (oI l2))]) rfl ?_
          refine j_iinc (pc := 69) C hN dX7_swings_69 2 rfl (by decide) (lv' := [(2, .int (oI (l2 + 1))), (1, .int (oI (-5))), (0, .ref (G.2.2.1 0))]) rfl ?_
          refine j_goto (pc := 72) (tgt := 41) C dX7_swings_72 rfl ?_
          exact j_sub [2, 1, 0] rfl (ih _ _ _)
        · refine j_iload_n (pc := 62) C dX7_swings_62 rfl 2 rfl ?_
          refine j_goto (pc := 63) (tgt := 68) C dX7_swings_63 rfl ?_
          refine j_istore_n (pc := 68) C hN dX7_swings_68 rfl (by decide) (lv' := [(1, .int (oI l2)), (0, .ref (G.2.2.1 0)), (2, .int (oI l2))]) rfl ?_
          refine j_iinc (pc := 69) C hN dX7_swings_69 2 rfl (by decide) (lv' := [(2, .int (oI (l2 + 1))), (1, .int (oI l2)), (0, .ref (G.2.2.1 0))]) rfl ?_
          refine j_goto (pc := 72) (tgt := 41) C dX7_swings_72 rfl ?_
          exact j_sub [2, 1, 0] rfl (ih _ _ _)
set_option maxHeartbeats 4000000 in
set_option maxRecDepth 100000 in
theorem X7_swings_L12_j {X : JX} {G : GD} (C : zC X sM G RX7 cX7_swings (some .int) 9) (hN : X.2.2.2.2.2.2.2.2.2.2.2.2 = 3) (hj : zInj sM G)  : ∀ (k : Nat) (st : PS) (l1 : Int), J X (zI sM G) (zQ sM G fI) st [(0, .ref (G.2.2.1 0)), (1, .int (oI l1))] 12 [] (X7_swings_L12 k st l1) := by
  intro k
  induction k with
  | zero => intro st l1; exact j_none
  | succ k ih =>
    intro st l1
    rw [X7_swings_L12]
    refine j_iload_n (pc := 12) C dX7_swings_12 rfl 1 rfl ?_
    refine j_bipush (pc := 13) C dX7_swings_13 (by decide) ?_
    refine j_icmp_ge (pc := 15) (tgt := 36) C dX7_swings_15 rfl ?_ ?_
    · refine j_bipush (pc := 36) C dX7_swings_36 (by decide) ?_
      refine j_istore_n (pc := 38) C hN dX7_swings_38 rfl (by decide) (lv' := [(1, .int (oI (-5))), (0, .ref (G.2.2.1 0))]) rfl ?_
      refine j_iconst (pc := 39) C dX7_swings_39 ?_
      refine j_istore_n (pc := 40) C hN dX7_swings_40 rfl (by decide) (lv' := [(2, .int (oI 1)), (1, .int (oI (-5))), (0, .ref (G.2.2.1 0))]) rfl ?_
      exact j_sub [2, 1, 0] rfl (X7_swings_L41_j C hN hj FU _ _ _)
    · refine j_aload_n (pc := 18) C dX7_swings_18 rfl 0 rfl ?_
      refine gf_X7_105 (pc := 19) C dX7_swings_19 ?_
      refine j_iload_n (pc := 22) C dX7_swings_22 rfl 1 rfl ?_
      refine j_aload_n (pc := 23) C dX7_swings_23 rfl 0 rfl ?_
      refine gf_X7_23 (pc := 24) C dX7_swings_24 ?_
      refine j_iload_n (pc := 27) C dX7_swings_27 rfl 1 rfl ?_
      refine j_bI (fun v2 ev2 => ?_)
      refine j_iald (pc := 28) C arX7_4 ev2 dX7_swings_28 ?_
      refine j_bI (fun s6 es6 => ?_)
      refine j_iast (pc := 29) C arX7_31 es6 dX7_swings_29 ?_
      refine j_iinc (pc := 30) C hN dX7_swings_30 1 rfl (by decide) (lv' := [(1, .int (oI (l1 + 1))), (0, .ref (G.2.2.1 0))]) rfl ?_
      refine j_goto (pc := 33) (tgt := 12) C dX7_swings_33 rfl ?_
      exact j_sub [1, 0] rfl (ih _ _)
set_option maxHeartbeats 4000000 in
set_option maxRecDepth 100000 in
theorem X7_swings_m (l : Launch) {G : GD} (hj : zInj sM G) {st : PS} {r : (Int × PS)} (hr : X7_swings st = some r) : zM l sM G yX7_swings cX7_swings 3 (some .int) 9 [.ref (G.2.2.1 0)] st (some (.int (oI r.1))) r.2 :=
  zEnter (f := fI) hr hj (by decide) rfl (lv := [(0, .ref (G.2.2.1 0))]) rfl (Nat.le_of_ble_eq_true rfl) (fun X _ hN C => by
    unfold X7_swings
    refine j_aload_n (pc := 0) C dX7_swings_0 rfl 0 rfl ?_
    refine j_bI (fun s1 es1 => ?_)
    refine j_callV0 (pc := 1) C obX7 rfl rfl (X7_keep_m _ hj es1) kV_X7_328 rfl (by omega) rfl (Nat.le_of_ble_eq_true rfl) dX7_swings_1 ?_
    refine j_aload_n (pc := 4) C dX7_swings_4 rfl 0 rfl ?_
    refine j_bipush (pc := 5) C dX7_swings_5 (by decide) ?_
    refine j_bI (fun s2 es2 => ?_)
    refine j_callV0 (pc := 7) C obX7 rfl rfl (X7_goYears_m _ hj es2) kV_X7_322 rfl (by omega) rfl (Nat.le_of_ble_eq_true rfl) dX7_swings_7 ?_
    refine j_iconst (pc := 10) C dX7_swings_10 ?_
    refine j_istore_n (pc := 11) C hN dX7_swings_11 rfl (by decide) (lv' := [(1, .int (oI 0)), (0, .ref (G.2.2.1 0))]) rfl ?_
    exact j_sub [1, 0] rfl (X7_swings_L12_j C hN hj FU _ _))
def X7_withGift (st : PS) (l1 l2 l3 : Int) : Option (Int × PS) := bI (zrd st 4 8 l1) (fun v1 => bI (zwr st 4 8 l1 (X7_least st 99 (v1 + l2))) (fun s1 => bP (X7_earnsThen s1 40 l3) (fun v2 s2 => bI (zwr s2 4 8 l1 v1) (fun s3 => some (v2, s3)))))
set_option maxHeartbeats 4000000 in
set_option maxRecDepth 100000 in
theorem X7_withGift_m (l : Launch) {G : GD} (hj : zInj sM G) {st : PS} {l1 l2 l3 : Int} {r : (Int × PS)} (hr : X7_withGift st l1 l2 l3 = some r) : zM l sM G yX7_withGift cX7_withGift 6 (some .int) 10 [.ref (G.2.2.1 0), .int (oI l1), .int (oI l2), .int (oI l3)] st (some (.int (oI r.1))) r.2 :=
  zEnter (f := fI) hr hj (by decide) rfl (lv := [(0, .ref (G.2.2.1 0)), (1, .int (oI l1)), (2, .int (oI l2)), (3, .int (oI l3))]) rfl (Nat.le_of_ble_eq_true rfl) (fun X _ hN C => by
    unfold X7_withGift
    refine j_aload_n (pc := 0) C dX7_withGift_0 rfl 0 rfl ?_
    refine gf_X7_23 (pc := 1) C dX7_withGift_1 ?_
    refine j_iload_n (pc := 4) C dX7_withGift_4 rfl 1 rfl ?_
    refine j_bI (fun v1 ev1 => ?_)
    refine j_iald (pc := 5) C arX7_4 ev1 dX7_withGift_5 ?_
    refine j_istore (pc := 6) C hN dX7_withGift_6 (by decide) (lv' := [(4, .int (oI v1)), (0, .ref (G.2.2.1 0)), (1, .int (oI l1)), (2, .int (oI l2)), (3, .int (oI l3))]) rfl ?_
    refine j_aload_n (pc := 8) C dX7_withGift_8 rfl 1 rfl ?_
    refine gf_X7_23 (pc := 9) C dX7_withGift_9 ?_
    refine j_iload_n (pc := 12) C dX7_withGift_12 rfl 2 rfl ?_
    refine j_aload_n (pc := 13) C dX7_withGift_13 rfl 1 rfl ?_
    refine j_bipush (pc := 14) C dX7_withGift_14 (by decide) ?_
    refine j_iload (pc := 16) C dX7_withGift_16 0 rfl ?_
    refine j_iload_n (pc := 18) C dX7_withGift_18 rfl 3 rfl ?_
    refine j_iadd (pc := 19) C dX7_withGift_19 ?_
    refine j_callV1 (pc := 20) C obX7 rfl rfl (X7_least_m _ hj rfl) kV_X7_301 rfl (by omega) rfl (Nat.le_of_ble_eq_true rfl) dX7_withGift_20 ?_
    refine j_bI (fun s1 es1 => ?_)
    refine j_iast (pc := 23) C arX7_4 es1 dX7_withGift_23 ?_
    refine j_aload_n (pc := 24) C dX7_withGift_24 rfl 1 rfl ?_
    refine j_bipush (pc := 25) C dX7_withGift_25 (by decide) ?_
    refine j_iload_n (pc := 27) C dX7_withGift_27 rfl 4 rfl ?_
    refine j_bP (fun v2 s2 es2 => ?_)
    refine j_callV1 (pc := 28) C obX7 rfl rfl (X7_earnsThen_m _ hj es2) kV_X7_325 rfl (by omega) rfl (Nat.le_of_ble_eq_true rfl) dX7_withGift_28 ?_
    refine j_istore (pc := 31) C hN dX7_withGift_31 (by decide) (lv' := [(5, .int (oI v2)), (4, .int (oI v1)), (0, .ref (G.2.2.1 0)), (1, .int (oI l1)), (2, .int (oI l2)), (3, .int (oI l3))]) rfl ?_
    refine j_aload_n (pc := 33) C dX7_withGift_33 rfl 2 rfl ?_
    refine gf_X7_23 (pc := 34) C dX7_withGift_34 ?_
    refine j_iload_n (pc := 37) C dX7_withGift_37 rfl 3 rfl ?_
    refine j_iload (pc := 38) C dX7_withGift_38 1 rfl ?_
    refine j_bI (fun s3 es3 => ?_)
    refine j_iast (pc := 40) C arX7_4 es3 dX7_withGift_40 ?_
    refine j_iload (pc := 41) C dX7_withGift_41 0 rfl ?_
    exact j_ireturn C rfl rfl rfl rfl dX7_withGift_43)
def X7_gift (st : PS) (l1 l2 l3 : Int) : Option (Int × PS) := if wI (X7_isHouse st l1) = 0 then some ((-1001), st) else (if wI (X7_in st l3 0 1) = 0 then some ((-1001), st) else (if wI (X7_in st l2 0 99) = 0 then some ((-1002), st) else (bP (X7_withGift st l1 l2 (if wI l3 = 0 then l1 else 10)) (fun v1 s1 => bP (X7_earnsThen s1 40 (if wI l3 = 0 then l1 else 10)) (fun v2 s2 => some (v1 - v2, s2))))))
set_option maxHeartbeats 4000000 in
set_option maxRecDepth 100000 in
theorem X7_gift_m (l : Launch) {G : GD} (hj : zInj sM G) {st : PS} {l1 l2 l3 : Int} {r : (Int × PS)} (hr : X7_gift st l1 l2 l3 = some r) : zM l sM G yX7_gift cX7_gift 5 (some .int) 11 [.ref (G.2.2.1 0), .int (oI l1), .int (oI l2), .int (oI l3)] st (some (.int (oI r.1))) r.2 :=
  zEnter (f := fI) hr hj (by decide) rfl (lv := [(0, .ref (G.2.2.1 0)), (1, .int (oI l1)), (2, .int (oI l2)), (3, .int (oI l3))]) rfl (Nat.le_of_ble_eq_true rfl) (fun X _ hN C => by
    unfold X7_gift
    refine j_aload_n (pc := 0) C dX7_gift_0 rfl 0 rfl ?_
    refine j_iload_n (pc := 1) C dX7_gift_1 rfl 1 rfl ?_
    refine j_callV1 (pc := 2) C obX7 rfl rfl (X7_isHouse_m _ hj rfl) kV_X7_205 rfl (by omega) rfl (Nat.le_of_ble_eq_true rfl) dX7_gift_2 ?_
    refine j_if_eq (pc := 5) (tgt := 18) C dX7_gift_5 rfl ?_ ?_
    · refine j_sipush (pc := 18) C dX7_gift_18 (by decide) ?_
      exact j_ireturn C rfl rfl rfl rfl dX7_gift_21
    · refine j_aload_n (pc := 8) C dX7_gift_8 rfl 0 rfl ?_
      refine j_iload_n (pc := 9) C dX7_gift_9 rfl 3 rfl ?_
      refine j_iconst (pc := 10) C dX7_gift_10 ?_
      refine j_iconst (pc := 11) C dX7_gift_11 ?_
      refine j_callV1 (pc := 12) C obX7 rfl rfl (X7_in_m _ hj rfl) kV_X7_197 rfl (by omega) rfl (Nat.le_of_ble_eq_true rfl) dX7_gift_12 ?_
      refine j_if_ne (pc := 15) (tgt := 22) C dX7_gift_15 rfl ?_ ?_
      · refine j_sipush (pc := 18) C dX7_gift_18 (by decide) ?_
        exact j_ireturn C rfl rfl rfl rfl dX7_gift_21
      · refine j_aload_n (pc := 22) C dX7_gift_22 rfl 0 rfl ?_
        refine j_iload_n (pc := 23) C dX7_gift_23 rfl 2 rfl ?_
        refine j_iconst (pc := 24) C dX7_gift_24 ?_
        refine j_bipush (pc := 25) C dX7_gift_25 (by decide) ?_
        refine j_callV1 (pc := 27) C obX7 rfl rfl (X7_in_m _ hj rfl) kV_X7_197 rfl (by omega) rfl (Nat.le_of_ble_eq_true rfl) dX7_gift_27 ?_
        refine j_if_ne (pc := 30) (tgt := 37) C dX7_gift_30 rfl ?_ ?_
        · refine j_sipush (pc := 33) C dX7_gift_33 (by decide) ?_
          exact j_ireturn C rfl rfl rfl rfl dX7_gift_36
        · refine j_iload_n (pc := 37) C dX7_gift_37 rfl 3 rfl ?_
          refine j_join (lv' := [(0, .ref (G.2.2.1 0)), (1, .int (oI l1)), (2, .int (oI l2))]) (pc' := 47) (stk' := [.int (oI (if wI l3 = 0 then l1 else 10))]) ?_ (fun jn => ?_)
          · refine j_istore (pc := 47) C hN dX7_gift_47 (by decide) (lv' := [(4, .int (oI (if wI l3 = 0 then l1 else 10))), (0, .ref (G.2.2.1 0)), (1, .int (oI l1)), (2, .int (oI l2))]) rfl ?_
            refine j_aload_n (pc := 49) C dX7_gift_49 rfl 1 rfl ?_
            refine j_iload_n (pc := 50) C dX7_gift_50 rfl 2 rfl ?_
            refine j_iload_n (pc := 51) C dX7_gift_51 rfl 3 rfl ?_
            refine j_iload (pc := 52) C dX7_gift_52 0 rfl ?_
            refine j_bP (fun v1 s1 es1 => ?_)
            refine j_callV1 (pc := 54) C obX7 rfl rfl (X7_withGift_m _ hj es1) kV_X7_340 rfl (by omega) rfl (Nat.le_of_ble_eq_true rfl) dX7_gift_54 ?_
            refine j_aload_n (pc := 57) C dX7_gift_57 rfl 1 rfl ?_
            refine j_bipush (pc := 58) C dX7_gift_58 (by decide) ?_
            refine j_iload (pc := 60) C dX7_gift_60 0 rfl ?_
            refine j_bP (fun v2 s2 es2 => ?_)
            refine j_callV1 (pc := 62) C obX7 rfl rfl (X7_earnsThen_m _ hj es2) kV_X7_325 rfl (by omega) rfl (Nat.le_of_ble_eq_true rfl) dX7_gift_62 ?_
            refine j_isub (pc := 65) C dX7_gift_65 ?_
            exact j_ireturn C rfl rfl rfl rfl dX7_gift_66
          · refine j_if_neH (pc := 38) (tgt := 45) C dX7_gift_38 rfl (fun hc38 => ?_) (fun hc38 => ?_)
            · refine j_iload_n (pc := 41) C dX7_gift_41 rfl 1 rfl ?_
              refine j_goto (pc := 42) (tgt := 47) C dX7_gift_42 rfl ?_
              exact j_sub (lv' := [(0, .ref (G.2.2.1 0)), (1, .int (oI l1)), (2, .int (oI l2))]) [0, 1, 2] rfl (j_eq rfl (by simp only [if_pos hc38]) jn)
            · refine j_bipush (pc := 45) C dX7_gift_45 (by decide) ?_
              exact j_sub (lv' := [(0, .ref (G.2.2.1 0)), (1, .int (oI l1)), (2, .int (oI l2))]) [0, 1, 2] rfl (j_eq rfl (by simp only [if_neg hc38]) jn))
def X7_best_L22 (l1 : Int) : Nat → PS → Int → Int → Int → Option (Int × PS)
  | 0, _, _, _, _ => none
  | k + 1, st, l2, l3, l4 => if wI (st 0 0) ≤ wI l4 then some (l2, st) else (bP (X7_withGift st l4 l1 10) (fun v1 s1 => if wI l2 < 0 then X7_best_L22 l1 k s1 l4 v1 (l4 + 1) else (if wI l3 < wI v1 then X7_best_L22 l1 k s1 l4 v1 (l4 + 1) else (X7_best_L22 l1 k s1 l2 l3 (l4 + 1)))))
def X7_best (st : PS) (l1 : Int) : Option (Int × PS) := if wI (X7_in st l1 0 99) = 0 then some ((-2), st) else (X7_best_L22 l1 FU st (-5) 0 0)
set_option maxHeartbeats 4000000 in
set_option maxRecDepth 100000 in
theorem X7_best_L22_j {X : JX} {G : GD} (C : zC X sM G RX7 cX7_best (some .int) 11) (hN : X.2.2.2.2.2.2.2.2.2.2.2.2 = 6) (hj : zInj sM G) {l1 : Int} : ∀ (k : Nat) (st : PS) (l2 : Int) (l3 : Int) (l4 : Int), J X (zI sM G) (zQ sM G fI) st [(0, .ref (G.2.2.1 0)), (1, .int (oI l1)), (2, .int (oI l2)), (3, .int (oI l3)), (4, .int (oI l4))] 22 [] (X7_best_L22 l1 k st l2 l3 l4) := by
  intro k
  induction k with
  | zero => intro st l2 l3 l4; exact j_none
  | succ k ih =>
    intro st l2 l3 l4
    rw [X7_best_L22]
    refine j_iload (pc := 22) C dX7_best_22 4 rfl ?_
    refine j_aload_n (pc := 24) C dX7_best_24 rfl 0 rfl ?_
    refine gf_X7_7 (pc := 25) C dX7_best_25 ?_
    refine j_icmp_ge (pc := 28) (tgt := 67) C dX7_best_28 rfl ?_ ?_
    · refine j_iload_n (pc := 67) C dX7_best_67 rfl 2 rfl ?_
      exact j_ireturn C rfl rfl rfl rfl dX7_best_68
    · refine j_aload_n (pc := 31) C dX7_best_31 rfl 0 rfl ?_
      refine j_iload (pc := 32) C dX7_best_32 4 rfl ?_
      refine j_iload_n (pc := 34) C dX7_best_34 rfl 1 rfl ?_
      refine j_bipush (pc := 35) C dX7_best_35 (by decide) ?_
      refine j_bP (fun v1 s1 es1 => ?_)
      refine j_callV1 (pc := 37) C obX7 rfl rfl (X7_withGift_m _ hj es1) kV_X7_340 rfl (by omega) rfl (Nat.le_of_ble_eq_true rfl) dX7_best_37 ?_
      refine j_istore (pc := 40) C hN dX7_best_40 (by decide) (lv' := [(5, .int (oI v1)), (0, .ref (G.2.2.1 0)), (1, .int (oI l1)), (2, .int (oI l2)), (3, .int (oI l3)), (4, .int (oI l4))]) rfl ?_
      refine j_iload_n (pc := 42) C dX7_best_42 rfl 3 rfl ?_
      refine j_if_lt (pc := 43) (tgt := 55) C dX7_best_43 rfl ?_ ?_
      · refine j_iload (pc := 55) C dX7_best_55 5 rfl ?_
        refine j_istore_n (pc := 57) C hN dX7_best_57 rfl (by decide) (lv' := [(2, .int (oI l4)), (5, .int (oI v1)), (0, .ref (G.2.2.1 0)), (1, .int (oI l1)), (3, .int (oI l3)), (4, .int (oI l4))]) rfl ?_
        refine j_iload (pc := 58) C dX7_best_58 1 rfl ?_
        refine j_istore_n (pc := 60) C hN dX7_best_60 rfl (by decide) (lv' := [(3, .int (oI v1)), (2, .int (oI l4)), (5, .int (oI v1)), (0, .ref (G.2.2.1 0)), (1, .int (oI l1)), (4, .int (oI l4))]) rfl ?_
        refine j_iinc (pc := 61) C hN dX7_best_61 5 rfl (by decide) (lv' := [(4, .int (oI (l4 + 1))), (3, .int (oI v1)), (2, .int (oI l4)), (5, .int (oI v1)), (0, .ref (G.2.2.1 0)), (1, .int (oI l1))]) rfl ?_
        refine j_goto (pc := 64) (tgt := 22) C dX7_best_64 rfl ?_
        exact j_sub [4, 5, 2, 1, 0] rfl (ih _ _ _ _)
      · refine j_iload (pc := 46) C dX7_best_46 0 rfl ?_
        refine j_iload_n (pc := 48) C dX7_best_48 rfl 4 rfl ?_
        refine j_icmp_gt (pc := 49) (tgt := 55) C dX7_best_49 rfl ?_ ?_
        · refine j_iload (pc := 55) C dX7_best_55 5 rfl ?_
          refine j_istore_n (pc := 57) C hN dX7_best_57 rfl (by decide) (lv' := [(2, .int (oI l4)), (5, .int (oI v1)), (0, .ref (G.2.2.1 0)), (1, .int (oI l1)), (3, .int (oI l3)), (4, .int (oI l4))]) rfl ?_
          refine j_iload (pc := 58) C dX7_best_58 1 rfl ?_
          refine j_istore_n (pc := 60) C hN dX7_best_60 rfl (by decide) (lv' := [(3, .int (oI v1)), (2, .int (oI l4)), (5, .int (oI v1)), (0, .ref (G.2.2.1 0)), (1, .int (oI l1)), (4, .int (oI l4))]) rfl ?_
          refine j_iinc (pc := 61) C hN dX7_best_61 5 rfl (by decide) (lv' := [(4, .int (oI (l4 + 1))), (3, .int (oI v1)), (2, .int (oI l4)), (5, .int (oI v1)), (0, .ref (G.2.2.1 0)), (1, .int (oI l1))]) rfl ?_
          refine j_goto (pc := 64) (tgt := 22) C dX7_best_64 rfl ?_
          exact j_sub [4, 5, 2, 1, 0] rfl (ih _ _ _ _)
        · refine j_goto (pc := 52) (tgt := 61) C dX7_best_52 rfl ?_
          refine j_iinc (pc := 61) C hN dX7_best_61 5 rfl (by decide) (lv' := [(4, .int (oI (l4 + 1))), (5, .int (oI v1)), (0, .ref (G.2.2.1 0)), (1, .int (oI l1)), (2, .int (oI l2)), (3, .int (oI l3))]) rfl ?_
          refine j_goto (pc := 64) (tgt := 22) C dX7_best_64 rfl ?_
          exact j_sub [2, 3, 4, 5, 0] rfl (ih _ _ _ _)
set_option maxHeartbeats 4000000 in
set_option maxRecDepth 100000 in
theorem X7_best_m (l : Launch) {G : GD} (hj : zInj sM G) {st : PS} {l1 : Int} {r : (Int × PS)} (hr : X7_best st l1 = some r) : zM l sM G yX7_best cX7_best 6 (some .int) 11 [.ref (G.2.2.1 0), .int (oI l1)] st (some (.int (oI r.1))) r.2 :=
  zEnter (f := fI) hr hj (by decide) rfl (lv := [(0, .ref (G.2.2.1 0)), (1, .int (oI l1))]) rfl (Nat.le_of_ble_eq_true rfl) (fun X _ hN C => by
    unfold X7_best
    refine j_aload_n (pc := 0) C dX7_best_0 rfl 0 rfl ?_
    refine j_iload_n (pc := 1) C dX7_best_1 rfl 1 rfl ?_
    refine j_iconst (pc := 2) C dX7_best_2 ?_
    refine j_bipush (pc := 3) C dX7_best_3 (by decide) ?_
    refine j_callV1 (pc := 5) C obX7 rfl rfl (X7_in_m _ hj rfl) kV_X7_197 rfl (by omega) rfl (Nat.le_of_ble_eq_true rfl) dX7_best_5 ?_
    refine j_if_ne (pc := 8) (tgt := 14) C dX7_best_8 rfl ?_ ?_
    · refine j_bipush (pc := 11) C dX7_best_11 (by decide) ?_
      exact j_ireturn C rfl rfl rfl rfl dX7_best_13
    · refine j_bipush (pc := 14) C dX7_best_14 (by decide) ?_
      refine j_istore_n (pc := 16) C hN dX7_best_16 rfl (by decide) (lv' := [(2, .int (oI (-5))), (0, .ref (G.2.2.1 0)), (1, .int (oI l1))]) rfl ?_
      refine j_iconst (pc := 17) C dX7_best_17 ?_
      refine j_istore_n (pc := 18) C hN dX7_best_18 rfl (by decide) (lv' := [(3, .int (oI 0)), (2, .int (oI (-5))), (0, .ref (G.2.2.1 0)), (1, .int (oI l1))]) rfl ?_
      refine j_iconst (pc := 19) C dX7_best_19 ?_
      refine j_istore (pc := 20) C hN dX7_best_20 (by decide) (lv' := [(4, .int (oI 0)), (3, .int (oI 0)), (2, .int (oI (-5))), (0, .ref (G.2.2.1 0)), (1, .int (oI l1))]) rfl ?_
      exact j_sub [3, 4, 2, 1, 0] rfl (X7_best_L22_j C hN hj FU _ _ _ _))
def X7_change (st : PS) (l1 l2 : Int) : Option PS := bI (zrd st 4 8 l1) (fun v1 => bI (zrd st 4 8 l2) (fun v2 => bI (zwr st 4 8 l1 v2) (fun s1 => bI (zwr s1 4 8 l2 v1) (fun s2 => some s2))))
set_option maxHeartbeats 4000000 in
set_option maxRecDepth 100000 in
theorem X7_change_m (l : Launch) {G : GD} (hj : zInj sM G) {st : PS} {l1 l2 : Int} {r : PS} (hr : X7_change st l1 l2 = some r) : zM l sM G yX7_change cX7_change 4 none 0 [.ref (G.2.2.1 0), .int (oI l1), .int (oI l2)] st none r :=
  zEnter (f := fV) hr hj (by decide) rfl (lv := [(0, .ref (G.2.2.1 0)), (1, .int (oI l1)), (2, .int (oI l2))]) rfl (Nat.le_of_ble_eq_true rfl) (fun X _ hN C => by
    unfold X7_change
    refine j_aload_n (pc := 0) C dX7_change_0 rfl 0 rfl ?_
    refine gf_X7_23 (pc := 1) C dX7_change_1 ?_
    refine j_iload_n (pc := 4) C dX7_change_4 rfl 1 rfl ?_
    refine j_bI (fun v1 ev1 => ?_)
    refine j_iald (pc := 5) C arX7_4 ev1 dX7_change_5 ?_
    refine j_istore_n (pc := 6) C hN dX7_change_6 rfl (by decide) (lv' := [(3, .int (oI v1)), (0, .ref (G.2.2.1 0)), (1, .int (oI l1)), (2, .int (oI l2))]) rfl ?_
    refine j_aload_n (pc := 7) C dX7_change_7 rfl 1 rfl ?_
    refine gf_X7_23 (pc := 8) C dX7_change_8 ?_
    refine j_iload_n (pc := 11) C dX7_change_11 rfl 2 rfl ?_
    refine j_aload_n (pc := 12) C dX7_change_12 rfl 1 rfl ?_
    refine gf_X7_23 (pc := 13) C dX7_change_13 ?_
    refine j_iload_n (pc := 16) C dX7_change_16 rfl 3 rfl ?_
    refine j_bI (fun v2 ev2 => ?_)
    refine j_iald (pc := 17) C arX7_4 ev2 dX7_change_17 ?_
    refine j_bI (fun s1 es1 => ?_)
    refine j_iast (pc := 18) C arX7_4 es1 dX7_change_18 ?_
    refine j_aload_n (pc := 19) C dX7_change_19 rfl 1 rfl ?_
    refine gf_X7_23 (pc := 20) C dX7_change_20 ?_
    refine j_iload_n (pc := 23) C dX7_change_23 rfl 3 rfl ?_
    refine j_iload_n (pc := 24) C dX7_change_24 rfl 0 rfl ?_
    refine j_bI (fun s2 es2 => ?_)
    refine j_iast (pc := 25) C arX7_4 es2 dX7_change_25 ?_
    exact j_return C rfl rfl dX7_change_26)
def X7_lots_L27 (l3 : Int) (co14 : PS → Int → Int → Int → Option (Int × PS)) : Nat → PS → Int → Int → Int → Option (Int × PS)
  | 0, _, _, _, _ => none
  | k + 1, st, l1, l2, l4 => if wI (st 0 0) ≤ wI l4 then co14 st l1 l2 (l3 + 1) else (bI (X7_change st l3 l4) (fun s2 => bP (X7_earnsThen s2 20 10) (fun v2 s3 => bI (X7_change s3 l3 l4) (fun s4 => if wI l1 < wI v2 then X7_lots_L27 l3 co14 k s4 v2 ((10 * l3) + l4) (l4 + 1) else (X7_lots_L27 l3 co14 k s4 l1 l2 (l4 + 1))))))
def X7_lots_L14  : Nat → PS → Int → Int → Int → Option (Int × PS)
  | 0, _, _, _, _ => none
  | k + 1, st, l1, l2, l3 => if wI (st 0 0) ≤ wI l3 then some (l2, st) else (X7_lots_L27 l3 (fun s_ x1 x2 x3 => X7_lots_L14 k s_ x1 x2 x3) FU st l1 l2 (l3 + 1))
def X7_lots (st : PS) : Option (Int × PS) := bP (X7_earnsThen st 20 10) (fun v1 s1 => X7_lots_L14 FU s1 v1 (-5) 0)
set_option maxHeartbeats 4000000 in
set_option maxRecDepth 100000 in
theorem X7_lots_L27_j {X : JX} {G : GD} (C : zC X sM G RX7 cX7_lots (some .int) 10) (hN : X.2.2.2.2.2.2.2.2.2.2.2.2 = 6) (hj : zInj sM G) {l3 : Int} (co14 : PS → Int → Int → Int → Option (Int × PS)) (hco14 : ∀ (st : PS) (l1 : Int) (l2 : Int) (l3 : Int), J X (zI sM G) (zQ sM G fI) st [(0, .ref (G.2.2.1 0)), (1, .int (oI l1)), (2, .int (oI l2)), (3, .int (oI l3))] 14 [] (co14 st l1 l2 l3)) : ∀ (k : Nat) (st : PS) (l1 : Int) (l2 : Int) (l4 : Int), J X (zI sM G) (zQ sM G fI) st [(0, .ref (G.2.2.1 0)), (1, .int (oI l1)), (2, .int (oI l2)), (3, .int (oI l3)), (4, .int (oI l4))] 27 [] (X7_lots_L27 l3 co14 k st l1 l2 l4) := by
  intro k
  induction k with
  | zero => intro st l1 l2 l4; exact j_none
  | succ k ih =>
    intro st l1 l2 l4
    rw [X7_lots_L27]
    refine j_iload (pc := 27) C dX7_lots_27 4 rfl ?_
    refine j_aload_n (pc := 29) C dX7_lots_29 rfl 0 rfl ?_
    refine gf_X7_7 (pc := 30) C dX7_lots_30 ?_
    refine j_icmp_ge (pc := 33) (tgt := 86) C dX7_lots_33 rfl ?_ ?_
    · refine j_iinc (pc := 86) C hN dX7_lots_86 3 rfl (by decide) (lv' := [(3, .int (oI (l3 + 1))), (0, .ref (G.2.2.1 0)), (1, .int (oI l1)), (2, .int (oI l2)), (4, .int (oI l4))]) rfl ?_
      refine j_goto (pc := 89) (tgt := 14) C dX7_lots_89 rfl ?_
      exact j_sub [1, 2, 3, 0] rfl (hco14 _ _ _ _)
    · refine j_aload_n (pc := 36) C dX7_lots_36 rfl 0 rfl ?_
      refine j_iload_n (pc := 37) C dX7_lots_37 rfl 3 rfl ?_
      refine j_iload (pc := 38) C dX7_lots_38 4 rfl ?_
      refine j_bI (fun s2 es2 => ?_)
      refine j_callV0 (pc := 40) C obX7 rfl rfl (X7_change_m _ hj es2) kV_X7_344 rfl (by omega) rfl (Nat.le_of_ble_eq_true rfl) dX7_lots_40 ?_
      refine j_aload_n (pc := 43) C dX7_lots_43 rfl 0 rfl ?_
      refine j_bipush (pc := 44) C dX7_lots_44 (by decide) ?_
      refine j_bipush (pc := 46) C dX7_lots_46 (by decide) ?_
      refine j_bP (fun v2 s3 es3 => ?_)
      refine j_callV1 (pc := 48) C obX7 rfl rfl (X7_earnsThen_m _ hj es3) kV_X7_325 rfl (by omega) rfl (Nat.le_of_ble_eq_true rfl) dX7_lots_48 ?_
      refine j_istore (pc := 51) C hN dX7_lots_51 (by decide) (lv' := [(5, .int (oI v2)), (0, .ref (G.2.2.1 0)), (1, .int (oI l1)), (2, .int (oI l2)), (3, .int (oI l3)), (4, .int (oI l4))]) rfl ?_
      refine j_aload_n (pc := 53) C dX7_lots_53 rfl 1 rfl ?_
      refine j_iload_n (pc := 54) C dX7_lots_54 rfl 4 rfl ?_
      refine j_iload (pc := 55) C dX7_lots_55 5 rfl ?_
      refine j_bI (fun s4 es4 => ?_)
      refine j_callV0 (pc := 57) C obX7 rfl rfl (X7_change_m _ hj es4) kV_X7_344 rfl (by omega) rfl (Nat.le_of_ble_eq_true rfl) dX7_lots_57 ?_
      refine j_iload (pc := 60) C dX7_lots_60 0 rfl ?_
      refine j_iload_n (pc := 62) C dX7_lots_62 rfl 2 rfl ?_
      refine j_icmp_gt (pc := 63) (tgt := 69) C dX7_lots_63 rfl ?_ ?_
      · refine j_bipush (pc := 69) C dX7_lots_69 (by decide) ?_
        refine j_iload_n (pc := 71) C dX7_lots_71 rfl 4 rfl ?_
        refine j_imul (pc := 72) C dX7_lots_72 ?_
        refine j_iload (pc := 73) C dX7_lots_73 5 rfl ?_
        refine j_iadd (pc := 75) C dX7_lots_75 ?_
        refine j_istore_n (pc := 76) C hN dX7_lots_76 rfl (by decide) (lv' := [(2, .int (oI ((10 * l3) + l4))), (5, .int (oI v2)), (0, .ref (G.2.2.1 0)), (1, .int (oI l1)), (3, .int (oI l3)), (4, .int (oI l4))]) rfl ?_
        refine j_iload (pc := 77) C dX7_lots_77 1 rfl ?_
        refine j_istore_n (pc := 79) C hN dX7_lots_79 rfl (by decide) (lv' := [(1, .int (oI v2)), (2, .int (oI ((10 * l3) + l4))), (5, .int (oI v2)), (0, .ref (G.2.2.1 0)), (3, .int (oI l3)), (4, .int (oI l4))]) rfl ?_
        refine j_iinc (pc := 80) C hN dX7_lots_80 5 rfl (by decide) (lv' := [(4, .int (oI (l4 + 1))), (1, .int (oI v2)), (2, .int (oI ((10 * l3) + l4))), (5, .int (oI v2)), (0, .ref (G.2.2.1 0)), (3, .int (oI l3))]) rfl ?_
        refine j_goto (pc := 83) (tgt := 27) C dX7_lots_83 rfl ?_
        exact j_sub [4, 1, 2, 5, 0] rfl (ih _ _ _ _)
      · refine j_goto (pc := 66) (tgt := 80) C dX7_lots_66 rfl ?_
        refine j_iinc (pc := 80) C hN dX7_lots_80 5 rfl (by decide) (lv' := [(4, .int (oI (l4 + 1))), (5, .int (oI v2)), (0, .ref (G.2.2.1 0)), (1, .int (oI l1)), (2, .int (oI l2)), (3, .int (oI l3))]) rfl ?_
        refine j_goto (pc := 83) (tgt := 27) C dX7_lots_83 rfl ?_
        exact j_sub [2, 3, 4, 5, 0] rfl (ih _ _ _ _)
set_option maxHeartbeats 4000000 in
set_option maxRecDepth 100000 in
theorem X7_lots_L14_j {X : JX} {G : GD} (C : zC X sM G RX7 cX7_lots (some .int) 10) (hN : X.2.2.2.2.2.2.2.2.2.2.2.2 = 6) (hj : zInj sM G)  : ∀ (k : Nat) (st : PS) (l1 : Int) (l2 : Int) (l3 : Int), J X (zI sM G) (zQ sM G fI) st [(0, .ref (G.2.2.1 0)), (1, .int (oI l1)), (2, .int (oI l2)), (3, .int (oI l3))] 14 [] (X7_lots_L14 k st l1 l2 l3) := by
  intro k
  induction k with
  | zero => intro st l1 l2 l3; exact j_none
  | succ k ih =>
    intro st l1 l2 l3
    rw [X7_lots_L14]
    refine j_iload_n (pc := 14) C dX7_lots_14 rfl 3 rfl ?_
    refine j_aload_n (pc := 15) C dX7_lots_15 rfl 0 rfl ?_
    refine gf_X7_7 (pc := 16) C dX7_lots_16 ?_
    refine j_icmp_ge (pc := 19) (tgt := 92) C dX7_lots_19 rfl ?_ ?_
    · refine j_iload_n (pc := 92) C dX7_lots_92 rfl 2 rfl ?_
      exact j_ireturn C rfl rfl rfl rfl dX7_lots_93
    · refine j_iload_n (pc := 22) C dX7_lots_22 rfl 3 rfl ?_
      refine j_iconst (pc := 23) C dX7_lots_23 ?_
      refine j_iadd (pc := 24) C dX7_lots_24 ?_
      refine j_istore (pc := 25) C hN dX7_lots_25 (by decide) (lv' := [(4, .int (oI (l3 + 1))), (0, .ref (G.2.2.1 0)), (1, .int (oI l1)), (2, .int (oI l2)), (3, .int (oI l3))]) rfl ?_
      exact j_sub [1, 2, 3, 4, 0] rfl (X7_lots_L27_j C hN hj _ (fun s_ x1 x2 x3 => ih s_ x1 x2 x3) FU _ _ _ _)
set_option maxHeartbeats 4000000 in
set_option maxRecDepth 100000 in
theorem X7_lots_m (l : Launch) {G : GD} (hj : zInj sM G) {st : PS} {r : (Int × PS)} (hr : X7_lots st = some r) : zM l sM G yX7_lots cX7_lots 6 (some .int) 10 [.ref (G.2.2.1 0)] st (some (.int (oI r.1))) r.2 :=
  zEnter (f := fI) hr hj (by decide) rfl (lv := [(0, .ref (G.2.2.1 0))]) rfl (Nat.le_of_ble_eq_true rfl) (fun X _ hN C => by
    unfold X7_lots
    refine j_aload_n (pc := 0) C dX7_lots_0 rfl 0 rfl ?_
    refine j_bipush (pc := 1) C dX7_lots_1 (by decide) ?_
    refine j_bipush (pc := 3) C dX7_lots_3 (by decide) ?_
    refine j_bP (fun v1 s1 es1 => ?_)
    refine j_callV1 (pc := 5) C obX7 rfl rfl (X7_earnsThen_m _ hj es1) kV_X7_325 rfl (by omega) rfl (Nat.le_of_ble_eq_true rfl) dX7_lots_5 ?_
    refine j_istore_n (pc := 8) C hN dX7_lots_8 rfl (by decide) (lv' := [(1, .int (oI v1)), (0, .ref (G.2.2.1 0))]) rfl ?_
    refine j_bipush (pc := 9) C dX7_lots_9 (by decide) ?_
    refine j_istore_n (pc := 11) C hN dX7_lots_11 rfl (by decide) (lv' := [(2, .int (oI (-5))), (1, .int (oI v1)), (0, .ref (G.2.2.1 0))]) rfl ?_
    refine j_iconst (pc := 12) C dX7_lots_12 ?_
    refine j_istore_n (pc := 13) C hN dX7_lots_13 rfl (by decide) (lv' := [(3, .int (oI 0)), (2, .int (oI (-5))), (1, .int (oI v1)), (0, .ref (G.2.2.1 0))]) rfl ?_
    exact j_sub [3, 2, 1, 0] rfl (X7_lots_L14_j C hN hj FU _ _ _ _))
def X7_opens_L5 (l1 : Int) : Nat → PS → Int → Option PS
  | 0, _, _ => none
  | k + 1, st, l2 => if wI l2 ≤ wI l1 then zlet (zu st 0 0 ((st 0 0) + 1)) (fun s1 => some s1) else (bI (X7_copy st l2 (l2 - 1)) (fun s2 => X7_opens_L5 l1 k s2 (l2 + (-1))))
def X7_opens (st : PS) (l1 : Int) : Option PS := X7_opens_L5 l1 FU st (st 0 0)
set_option maxHeartbeats 4000000 in
set_option maxRecDepth 100000 in
theorem X7_opens_L5_j {X : JX} {G : GD} (C : zC X sM G RX7 cX7_opens none 1) (hN : X.2.2.2.2.2.2.2.2.2.2.2.2 = 3) (hj : zInj sM G) {l1 : Int} : ∀ (k : Nat) (st : PS) (l2 : Int), J X (zI sM G) (zQ sM G fV) st [(0, .ref (G.2.2.1 0)), (1, .int (oI l1)), (2, .int (oI l2))] 5 [] (X7_opens_L5 l1 k st l2) := by
  intro k
  induction k with
  | zero => intro st l2; exact j_none
  | succ k ih =>
    intro st l2
    rw [X7_opens_L5]
    refine j_iload_n (pc := 5) C dX7_opens_5 rfl 2 rfl ?_
    refine j_iload_n (pc := 6) C dX7_opens_6 rfl 1 rfl ?_
    refine j_icmp_le (pc := 7) (tgt := 24) C dX7_opens_7 rfl ?_ ?_
    · refine j_aload_n (pc := 24) C dX7_opens_24 rfl 0 rfl ?_
      refine j_dup (pc := 25) C dX7_opens_25 rfl ?_
      refine gf_X7_7 (pc := 26) C dX7_opens_26 ?_
      refine j_iconst (pc := 29) C dX7_opens_29 ?_
      refine j_iadd (pc := 30) C dX7_opens_30 ?_
      refine fp_X7_7 (pc := 31) C dX7_opens_31 ?_
      refine j_let (fun s1 => ?_)
      exact j_return C rfl rfl dX7_opens_34
    · refine j_aload_n (pc := 10) C dX7_opens_10 rfl 0 rfl ?_
      refine j_iload_n (pc := 11) C dX7_opens_11 rfl 2 rfl ?_
      refine j_iload_n (pc := 12) C dX7_opens_12 rfl 2 rfl ?_
      refine j_iconst (pc := 13) C dX7_opens_13 ?_
      refine j_isub (pc := 14) C dX7_opens_14 ?_
      refine j_bI (fun s2 es2 => ?_)
      refine j_callV0 (pc := 15) C obX7 rfl rfl (X7_copy_m _ hj es2) kV_X7_347 rfl (by omega) rfl (Nat.le_of_ble_eq_true rfl) dX7_opens_15 ?_
      refine j_iinc (pc := 18) C hN dX7_opens_18 2 rfl (by decide) (lv' := [(2, .int (oI (l2 + (-1)))), (0, .ref (G.2.2.1 0)), (1, .int (oI l1))]) rfl ?_
      refine j_goto (pc := 21) (tgt := 5) C dX7_opens_21 rfl ?_
      exact j_sub [1, 2, 0] rfl (ih _ _)
set_option maxHeartbeats 4000000 in
set_option maxRecDepth 100000 in
theorem X7_opens_m (l : Launch) {G : GD} (hj : zInj sM G) {st : PS} {l1 : Int} {r : PS} (hr : X7_opens st l1 = some r) : zM l sM G yX7_opens cX7_opens 3 none 1 [.ref (G.2.2.1 0), .int (oI l1)] st none r :=
  zEnter (f := fV) hr hj (by decide) rfl (lv := [(0, .ref (G.2.2.1 0)), (1, .int (oI l1))]) rfl (Nat.le_of_ble_eq_true rfl) (fun X _ hN C => by
    unfold X7_opens
    refine j_aload_n (pc := 0) C dX7_opens_0 rfl 0 rfl ?_
    refine gf_X7_7 (pc := 1) C dX7_opens_1 ?_
    refine j_istore_n (pc := 4) C hN dX7_opens_4 rfl (by decide) (lv' := [(2, .int (oI (st 0 0))), (0, .ref (G.2.2.1 0)), (1, .int (oI l1))]) rfl ?_
    exact j_sub [1, 2, 0] rfl (X7_opens_L5_j C hN hj FU _ _))
def X7_closes_L12  : Nat → PS → Int → Option PS
  | 0, _, _ => none
  | k + 1, st, l2 => if wI (st 0 0) ≤ wI l2 then some st else (bI (X7_copy st l2 (l2 + 1)) (fun s2 => X7_closes_L12 k s2 (l2 + 1)))
def X7_closes (st : PS) (l1 : Int) : Option PS := zlet (zu st 0 0 ((st 0 0) - 1)) (fun s1 => X7_closes_L12 FU s1 l1)
set_option maxHeartbeats 4000000 in
set_option maxRecDepth 100000 in
theorem X7_closes_L12_j {X : JX} {G : GD} (C : zC X sM G RX7 cX7_closes none 1) (hN : X.2.2.2.2.2.2.2.2.2.2.2.2 = 3) (hj : zInj sM G)  : ∀ (k : Nat) (st : PS) (l2 : Int), J X (zI sM G) (zQ sM G fV) st [(0, .ref (G.2.2.1 0)), (2, .int (oI l2))] 12 [] (X7_closes_L12 k st l2) := by
  intro k
  induction k with
  | zero => intro st l2; exact j_none
  | succ k ih =>
    intro st l2
    rw [X7_closes_L12]
    refine j_iload_n (pc := 12) C dX7_closes_12 rfl 1 rfl ?_
    refine j_aload_n (pc := 13) C dX7_closes_13 rfl 0 rfl ?_
    refine gf_X7_7 (pc := 14) C dX7_closes_14 ?_
    refine j_icmp_ge (pc := 17) (tgt := 34) C dX7_closes_17 rfl ?_ ?_
    · exact j_return C rfl rfl dX7_closes_34
    · refine j_aload_n (pc := 20) C dX7_closes_20 rfl 0 rfl ?_
      refine j_iload_n (pc := 21) C dX7_closes_21 rfl 1 rfl ?_
      refine j_iload_n (pc := 22) C dX7_closes_22 rfl 1 rfl ?_
      refine j_iconst (pc := 23) C dX7_closes_23 ?_
      refine j_iadd (pc := 24) C dX7_closes_24 ?_
      refine j_bI (fun s2 es2 => ?_)
      refine j_callV0 (pc := 25) C obX7 rfl rfl (X7_copy_m _ hj es2) kV_X7_347 rfl (by omega) rfl (Nat.le_of_ble_eq_true rfl) dX7_closes_25 ?_
      refine j_iinc (pc := 28) C hN dX7_closes_28 1 rfl (by decide) (lv' := [(2, .int (oI (l2 + 1))), (0, .ref (G.2.2.1 0))]) rfl ?_
      refine j_goto (pc := 31) (tgt := 12) C dX7_closes_31 rfl ?_
      exact j_sub [1, 0] rfl (ih _ _)
set_option maxHeartbeats 4000000 in
set_option maxRecDepth 100000 in
theorem X7_closes_m (l : Launch) {G : GD} (hj : zInj sM G) {st : PS} {l1 : Int} {r : PS} (hr : X7_closes st l1 = some r) : zM l sM G yX7_closes cX7_closes 3 none 1 [.ref (G.2.2.1 0), .int (oI l1)] st none r :=
  zEnter (f := fV) hr hj (by decide) rfl (lv := [(0, .ref (G.2.2.1 0)), (1, .int (oI l1))]) rfl (Nat.le_of_ble_eq_true rfl) (fun X _ hN C => by
    unfold X7_closes
    refine j_aload_n (pc := 0) C dX7_closes_0 rfl 0 rfl ?_
    refine j_dup (pc := 1) C dX7_closes_1 rfl ?_
    refine gf_X7_7 (pc := 2) C dX7_closes_2 ?_
    refine j_iconst (pc := 5) C dX7_closes_5 ?_
    refine j_isub (pc := 6) C dX7_closes_6 ?_
    refine fp_X7_7 (pc := 7) C dX7_closes_7 ?_
    refine j_let (fun s1 => ?_)
    refine j_iload_n (pc := 10) C dX7_closes_10 rfl 1 rfl ?_
    refine j_istore_n (pc := 11) C hN dX7_closes_11 rfl (by decide) (lv' := [(2, .int (oI l1)), (0, .ref (G.2.2.1 0)), (1, .int (oI l1))]) rfl ?_
    exact j_sub [1, 0] rfl (X7_closes_L12_j C hN hj FU _ _))
def X7_build_L70 (l1 : Int) (l2 : Int) (l3 : Int) (l4 : Int) : Nat → PS → Int → Int → Int → Option (Int × PS)
  | 0, _, _, _, _ => none
  | k + 1, st, l5, l6, l7 => if wI (st 0 0) < wI l7 then if wI l4 = 0 then some (l5, st) else (some (l6, st)) else (bI (X7_opens st l7) (fun s1 => bI (X7_lay s1 l7 l1 l2 l3) (fun s2 => bP (X7_earnsThen s2 20 10) (fun v1 s3 => bI (X7_closes s3 l7) (fun s4 => if wI l5 < 0 then X7_build_L70 l1 l2 l3 l4 k s4 l7 v1 (l7 + 1) else (if wI l6 < wI v1 then X7_build_L70 l1 l2 l3 l4 k s4 l7 v1 (l7 + 1) else (X7_build_L70 l1 l2 l3 l4 k s4 l5 l6 (l7 + 1))))))))
def X7_build (st : PS) (l1 l2 l3 l4 : Int) : Option (Int × PS) := if wI (X7_in st l1 0 6) = 0 then some ((-1), st) else (if wI (X7_in st l4 0 1) = 0 then some ((-1), st) else (if wI (X7_in st l2 0 9) = 0 then some ((-2), st) else (if wI (X7_in st l3 0 99) = 0 then some ((-2), st) else (if wI (st 0 0) = wI 7 then some ((-9), st) else (X7_build_L70 l1 l2 l3 l4 FU st (-1) 0 0)))))
set_option maxHeartbeats 4000000 in
set_option maxRecDepth 100000 in
theorem X7_build_L70_j {X : JX} {G : GD} (C : zC X sM G RX7 cX7_build (some .int) 10) (hN : X.2.2.2.2.2.2.2.2.2.2.2.2 = 9) (hj : zInj sM G) {l1 : Int} {l2 : Int} {l3 : Int} {l4 : Int} : ∀ (k : Nat) (st : PS) (l5 : Int) (l6 : Int) (l7 : Int), J X (zI sM G) (zQ sM G fI) st [(0, .ref (G.2.2.1 0)), (1, .int (oI l1)), (2, .int (oI l2)), (3, .int (oI l3)), (4, .int (oI l4)), (5, .int (oI l5)), (6, .int (oI l6)), (7, .int (oI l7))] 70 [] (X7_build_L70 l1 l2 l3 l4 k st l5 l6 l7) := by
  intro k
  induction k with
  | zero => intro st l5 l6 l7; exact j_none
  | succ k ih =>
    intro st l5 l6 l7
    rw [X7_build_L70]
    refine j_iload (pc := 70) C dX7_build_70 7 rfl ?_
    refine j_aload_n (pc := 72) C dX7_build_72 rfl 0 rfl ?_
    refine gf_X7_7 (pc := 73) C dX7_build_73 ?_
    refine j_icmp_gt (pc := 76) (tgt := 139) C dX7_build_76 rfl ?_ ?_
    · refine j_iload (pc := 139) C dX7_build_139 4 rfl ?_
      refine j_if_ne (pc := 141) (tgt := 149) C dX7_build_141 rfl ?_ ?_
      · refine j_iload (pc := 144) C dX7_build_144 5 rfl ?_
        refine j_goto (pc := 146) (tgt := 151) C dX7_build_146 rfl ?_
        exact j_ireturn C rfl rfl rfl rfl dX7_build_151
      · refine j_iload (pc := 149) C dX7_build_149 6 rfl ?_
        exact j_ireturn C rfl rfl rfl rfl dX7_build_151
    · refine j_aload_n (pc := 79) C dX7_build_79 rfl 0 rfl ?_
      refine j_iload (pc := 80) C dX7_build_80 7 rfl ?_
      refine j_bI (fun s1 es1 => ?_)
      refine j_callV0 (pc := 82) C obX7 rfl rfl (X7_opens_m _ hj es1) kV_X7_350 rfl (by omega) rfl (Nat.le_of_ble_eq_true rfl) dX7_build_82 ?_
      refine j_aload_n (pc := 85) C dX7_build_85 rfl 0 rfl ?_
      refine j_iload (pc := 86) C dX7_build_86 7 rfl ?_
      refine j_iload_n (pc := 88) C dX7_build_88 rfl 1 rfl ?_
      refine j_iload_n (pc := 89) C dX7_build_89 rfl 2 rfl ?_
      refine j_iload_n (pc := 90) C dX7_build_90 rfl 3 rfl ?_
      refine j_bI (fun s2 es2 => ?_)
      refine j_callV0 (pc := 91) C obX7 rfl rfl (X7_lay_m _ hj es2) kV_X7_201 rfl (by omega) rfl (Nat.le_of_ble_eq_true rfl) dX7_build_91 ?_
      refine j_aload_n (pc := 94) C dX7_build_94 rfl 0 rfl ?_
      refine j_bipush (pc := 95) C dX7_build_95 (by decide) ?_
      refine j_bipush (pc := 97) C dX7_build_97 (by decide) ?_
      refine j_bP (fun v1 s3 es3 => ?_)
      refine j_callV1 (pc := 99) C obX7 rfl rfl (X7_earnsThen_m _ hj es3) kV_X7_325 rfl (by omega) rfl (Nat.le_of_ble_eq_true rfl) dX7_build_99 ?_
      refine j_istore (pc := 102) C hN dX7_build_102 (by decide) (lv' := [(8, .int (oI v1)), (0, .ref (G.2.2.1 0)), (1, .int (oI l1)), (2, .int (oI l2)), (3, .int (oI l3)), (4, .int (oI l4)), (5, .int (oI l5)), (6, .int (oI l6)), (7, .int (oI l7))]) rfl ?_
      refine j_aload_n (pc := 104) C dX7_build_104 rfl 1 rfl ?_
      refine j_iload (pc := 105) C dX7_build_105 8 rfl ?_
      refine j_bI (fun s4 es4 => ?_)
      refine j_callV0 (pc := 107) C obX7 rfl rfl (X7_closes_m _ hj es4) kV_X7_353 rfl (by omega) rfl (Nat.le_of_ble_eq_true rfl) dX7_build_107 ?_
      refine j_iload (pc := 110) C dX7_build_110 6 rfl ?_
      refine j_if_lt (pc := 112) (tgt := 125) C dX7_build_112 rfl ?_ ?_
      · refine j_iload (pc := 125) C dX7_build_125 8 rfl ?_
        refine j_istore (pc := 127) C hN dX7_build_127 (by decide) (lv' := [(5, .int (oI l7)), (8, .int (oI v1)), (0, .ref (G.2.2.1 0)), (1, .int (oI l1)), (2, .int (oI l2)), (3, .int (oI l3)), (4, .int (oI l4)), (6, .int (oI l6)), (7, .int (oI l7))]) rfl ?_
        refine j_iload (pc := 129) C dX7_build_129 1 rfl ?_
        refine j_istore (pc := 131) C hN dX7_build_131 (by decide) (lv' := [(6, .int (oI v1)), (5, .int (oI l7)), (8, .int (oI v1)), (0, .ref (G.2.2.1 0)), (1, .int (oI l1)), (2, .int (oI l2)), (3, .int (oI l3)), (4, .int (oI l4)), (7, .int (oI l7))]) rfl ?_
        refine j_iinc (pc := 133) C hN dX7_build_133 8 rfl (by decide) (lv' := [(7, .int (oI (l7 + 1))), (6, .int (oI v1)), (5, .int (oI l7)), (8, .int (oI v1)), (0, .ref (G.2.2.1 0)), (1, .int (oI l1)), (2, .int (oI l2)), (3, .int (oI l3)), (4, .int (oI l4))]) rfl ?_
        refine j_goto (pc := 136) (tgt := 70) C dX7_build_136 rfl ?_
        exact j_sub [4, 5, 6, 7, 8, 2, 1, 0] rfl (ih _ _ _ _)
      · refine j_iload (pc := 115) C dX7_build_115 0 rfl ?_
        refine j_iload (pc := 117) C dX7_build_117 7 rfl ?_
        refine j_icmp_gt (pc := 119) (tgt := 125) C dX7_build_119 rfl ?_ ?_
        · refine j_iload (pc := 125) C dX7_build_125 8 rfl ?_
          refine j_istore (pc := 127) C hN dX7_build_127 (by decide) (lv' := [(5, .int (oI l7)), (8, .int (oI v1)), (0, .ref (G.2.2.1 0)), (1, .int (oI l1)), (2, .int (oI l2)), (3, .int (oI l3)), (4, .int (oI l4)), (6, .int (oI l6)), (7, .int (oI l7))]) rfl ?_
          refine j_iload (pc := 129) C dX7_build_129 1 rfl ?_
          refine j_istore (pc := 131) C hN dX7_build_131 (by decide) (lv' := [(6, .int (oI v1)), (5, .int (oI l7)), (8, .int (oI v1)), (0, .ref (G.2.2.1 0)), (1, .int (oI l1)), (2, .int (oI l2)), (3, .int (oI l3)), (4, .int (oI l4)), (7, .int (oI l7))]) rfl ?_
          refine j_iinc (pc := 133) C hN dX7_build_133 8 rfl (by decide) (lv' := [(7, .int (oI (l7 + 1))), (6, .int (oI v1)), (5, .int (oI l7)), (8, .int (oI v1)), (0, .ref (G.2.2.1 0)), (1, .int (oI l1)), (2, .int (oI l2)), (3, .int (oI l3)), (4, .int (oI l4))]) rfl ?_
          refine j_goto (pc := 136) (tgt := 70) C dX7_build_136 rfl ?_
          exact j_sub [4, 5, 6, 7, 8, 2, 1, 0] rfl (ih _ _ _ _)
        · refine j_goto (pc := 122) (tgt := 133) C dX7_build_122 rfl ?_
          refine j_iinc (pc := 133) C hN dX7_build_133 8 rfl (by decide) (lv' := [(7, .int (oI (l7 + 1))), (8, .int (oI v1)), (0, .ref (G.2.2.1 0)), (1, .int (oI l1)), (2, .int (oI l2)), (3, .int (oI l3)), (4, .int (oI l4)), (5, .int (oI l5)), (6, .int (oI l6))]) rfl ?_
          refine j_goto (pc := 136) (tgt := 70) C dX7_build_136 rfl ?_
          exact j_sub [2, 3, 4, 5, 6, 7, 8, 0] rfl (ih _ _ _ _)
set_option maxHeartbeats 4000000 in
set_option maxRecDepth 100000 in
theorem X7_build_m (l : Launch) {G : GD} (hj : zInj sM G) {st : PS} {l1 l2 l3 l4 : Int} {r : (Int × PS)} (hr : X7_build st l1 l2 l3 l4 = some r) : zM l sM G yX7_build cX7_build 9 (some .int) 10 [.ref (G.2.2.1 0), .int (oI l1), .int (oI l2), .int (oI l3), .int (oI l4)] st (some (.int (oI r.1))) r.2 :=
  zEnter (f := fI) hr hj (by decide) rfl (lv := [(0, .ref (G.2.2.1 0)), (1, .int (oI l1)), (2, .int (oI l2)), (3, .int (oI l3)), (4, .int (oI l4))]) rfl (Nat.le_of_ble_eq_true rfl) (fun X _ hN C => by
    unfold X7_build
    refine j_aload_n (pc := 0) C dX7_build_0 rfl 0 rfl ?_
    refine j_iload_n (pc := 1) C dX7_build_1 rfl 1 rfl ?_
    refine j_iconst (pc := 2) C dX7_build_2 ?_
    refine j_bipush (pc := 3) C dX7_build_3 (by decide) ?_
    refine j_callV1 (pc := 5) C obX7 rfl rfl (X7_in_m _ hj rfl) kV_X7_197 rfl (by omega) rfl (Nat.le_of_ble_eq_true rfl) dX7_build_5 ?_
    refine j_if_eq (pc := 8) (tgt := 22) C dX7_build_8 rfl ?_ ?_
    · refine j_iconst (pc := 22) C dX7_build_22 ?_
      exact j_ireturn C rfl rfl rfl rfl dX7_build_23
    · refine j_aload_n (pc := 11) C dX7_build_11 rfl 0 rfl ?_
      refine j_iload (pc := 12) C dX7_build_12 4 rfl ?_
      refine j_iconst (pc := 14) C dX7_build_14 ?_
      refine j_iconst (pc := 15) C dX7_build_15 ?_
      refine j_callV1 (pc := 16) C obX7 rfl rfl (X7_in_m _ hj rfl) kV_X7_197 rfl (by omega) rfl (Nat.le_of_ble_eq_true rfl) dX7_build_16 ?_
      refine j_if_ne (pc := 19) (tgt := 24) C dX7_build_19 rfl ?_ ?_
      · refine j_iconst (pc := 22) C dX7_build_22 ?_
        exact j_ireturn C rfl rfl rfl rfl dX7_build_23
      · refine j_aload_n (pc := 24) C dX7_build_24 rfl 0 rfl ?_
        refine j_iload_n (pc := 25) C dX7_build_25 rfl 2 rfl ?_
        refine j_iconst (pc := 26) C dX7_build_26 ?_
        refine j_bipush (pc := 27) C dX7_build_27 (by decide) ?_
        refine j_callV1 (pc := 29) C obX7 rfl rfl (X7_in_m _ hj rfl) kV_X7_197 rfl (by omega) rfl (Nat.le_of_ble_eq_true rfl) dX7_build_29 ?_
        refine j_if_eq (pc := 32) (tgt := 46) C dX7_build_32 rfl ?_ ?_
        · refine j_bipush (pc := 46) C dX7_build_46 (by decide) ?_
          exact j_ireturn C rfl rfl rfl rfl dX7_build_48
        · refine j_aload_n (pc := 35) C dX7_build_35 rfl 0 rfl ?_
          refine j_iload_n (pc := 36) C dX7_build_36 rfl 3 rfl ?_
          refine j_iconst (pc := 37) C dX7_build_37 ?_
          refine j_bipush (pc := 38) C dX7_build_38 (by decide) ?_
          refine j_callV1 (pc := 40) C obX7 rfl rfl (X7_in_m _ hj rfl) kV_X7_197 rfl (by omega) rfl (Nat.le_of_ble_eq_true rfl) dX7_build_40 ?_
          refine j_if_ne (pc := 43) (tgt := 49) C dX7_build_43 rfl ?_ ?_
          · refine j_bipush (pc := 46) C dX7_build_46 (by decide) ?_
            exact j_ireturn C rfl rfl rfl rfl dX7_build_48
          · refine j_aload_n (pc := 49) C dX7_build_49 rfl 0 rfl ?_
            refine gf_X7_7 (pc := 50) C dX7_build_50 ?_
            refine j_bipush (pc := 53) C dX7_build_53 (by decide) ?_
            refine j_icmp_ne (pc := 55) (tgt := 61) C dX7_build_55 rfl ?_ ?_
            · refine j_bipush (pc := 58) C dX7_build_58 (by decide) ?_
              exact j_ireturn C rfl rfl rfl rfl dX7_build_60
            · refine j_iconst (pc := 61) C dX7_build_61 ?_
              refine j_istore (pc := 62) C hN dX7_build_62 (by decide) (lv' := [(5, .int (oI (-1))), (0, .ref (G.2.2.1 0)), (1, .int (oI l1)), (2, .int (oI l2)), (3, .int (oI l3)), (4, .int (oI l4))]) rfl ?_
              refine j_iconst (pc := 64) C dX7_build_64 ?_
              refine j_istore (pc := 65) C hN dX7_build_65 (by decide) (lv' := [(6, .int (oI 0)), (5, .int (oI (-1))), (0, .ref (G.2.2.1 0)), (1, .int (oI l1)), (2, .int (oI l2)), (3, .int (oI l3)), (4, .int (oI l4))]) rfl ?_
              refine j_iconst (pc := 67) C dX7_build_67 ?_
              refine j_istore (pc := 68) C hN dX7_build_68 (by decide) (lv' := [(7, .int (oI 0)), (6, .int (oI 0)), (5, .int (oI (-1))), (0, .ref (G.2.2.1 0)), (1, .int (oI l1)), (2, .int (oI l2)), (3, .int (oI l3)), (4, .int (oI l4))]) rfl ?_
              exact j_sub [3, 4, 5, 6, 7, 2, 1, 0] rfl (X7_build_L70_j C hN hj FU _ _ _ _))
def X7_opensWith (st : PS) (l1 : Int) : Option PS := bI (X7_opens st l1) (fun s1 => bI (X7_copy s1 l1 7) (fun s2 => some s2))
set_option maxHeartbeats 4000000 in
set_option maxRecDepth 100000 in
theorem X7_opensWith_m (l : Launch) {G : GD} (hj : zInj sM G) {st : PS} {l1 : Int} {r : PS} (hr : X7_opensWith st l1 = some r) : zM l sM G yX7_opensWith cX7_opensWith 2 none 2 [.ref (G.2.2.1 0), .int (oI l1)] st none r :=
  zEnter (f := fV) hr hj (by decide) rfl (lv := [(0, .ref (G.2.2.1 0)), (1, .int (oI l1))]) rfl (Nat.le_of_ble_eq_true rfl) (fun X _ hN C => by
    unfold X7_opensWith
    refine j_aload_n (pc := 0) C dX7_opensWith_0 rfl 0 rfl ?_
    refine j_iload_n (pc := 1) C dX7_opensWith_1 rfl 1 rfl ?_
    refine j_bI (fun s1 es1 => ?_)
    refine j_callV0 (pc := 2) C obX7 rfl rfl (X7_opens_m _ hj es1) kV_X7_350 rfl (by omega) rfl (Nat.le_of_ble_eq_true rfl) dX7_opensWith_2 ?_
    refine j_aload_n (pc := 5) C dX7_opensWith_5 rfl 0 rfl ?_
    refine j_iload_n (pc := 6) C dX7_opensWith_6 rfl 1 rfl ?_
    refine j_bipush (pc := 7) C dX7_opensWith_7 (by decide) ?_
    refine j_bI (fun s2 es2 => ?_)
    refine j_callV0 (pc := 9) C obX7 rfl rfl (X7_copy_m _ hj es2) kV_X7_347 rfl (by omega) rfl (Nat.le_of_ble_eq_true rfl) dX7_opensWith_9 ?_
    exact j_return C rfl rfl dX7_opensWith_12)
def X7_down_L20 (l1 : Int) : Nat → PS → Int → Int → Int → Option (Int × PS)
  | 0, _, _, _, _ => none
  | k + 1, st, l2, l3, l4 => if wI (st 0 0) ≤ wI l4 then if wI l2 < 0 then some (l2, st) else (if wI l1 = 0 then some (l2, st) else (some (l3, st))) else (bI (X7_copy st 7 l4) (fun s1 => bI (X7_closes s1 l4) (fun s2 => bP (X7_earnsThen s2 20 10) (fun v1 s3 => bI (X7_opensWith s3 l4) (fun s4 => if wI l2 < 0 then X7_down_L20 l1 k s4 l4 v1 (l4 + 1) else (if wI l3 < wI v1 then X7_down_L20 l1 k s4 l4 v1 (l4 + 1) else (X7_down_L20 l1 k s4 l2 l3 (l4 + 1))))))))
def X7_down (st : PS) (l1 : Int) : Option (Int × PS) := if wI (X7_in st l1 0 1) = 0 then some ((-1), st) else (X7_down_L20 l1 FU st (-5) 0 0)
set_option maxHeartbeats 4000000 in
set_option maxRecDepth 100000 in
theorem X7_down_L20_j {X : JX} {G : GD} (C : zC X sM G RX7 cX7_down (some .int) 10) (hN : X.2.2.2.2.2.2.2.2.2.2.2.2 = 6) (hj : zInj sM G) {l1 : Int} : ∀ (k : Nat) (st : PS) (l2 : Int) (l3 : Int) (l4 : Int), J X (zI sM G) (zQ sM G fI) st [(0, .ref (G.2.2.1 0)), (1, .int (oI l1)), (2, .int (oI l2)), (3, .int (oI l3)), (4, .int (oI l4))] 20 [] (X7_down_L20 l1 k st l2 l3 l4) := by
  intro k
  induction k with
  | zero => intro st l2 l3 l4; exact j_none
  | succ k ih =>
    intro st l2 l3 l4
    rw [X7_down_L20]
    refine j_iload (pc := 20) C dX7_down_20 4 rfl ?_
    refine j_aload_n (pc := 22) C dX7_down_22 rfl 0 rfl ?_
    refine gf_X7_7 (pc := 23) C dX7_down_23 ?_
    refine j_icmp_ge (pc := 26) (tgt := 84) C dX7_down_26 rfl ?_ ?_
    · refine j_iload_n (pc := 84) C dX7_down_84 rfl 2 rfl ?_
      refine j_if_lt (pc := 85) (tgt := 92) C dX7_down_85 rfl ?_ ?_
      · refine j_iload_n (pc := 92) C dX7_down_92 rfl 2 rfl ?_
        refine j_goto (pc := 93) (tgt := 97) C dX7_down_93 rfl ?_
        exact j_ireturn C rfl rfl rfl rfl dX7_down_97
      · refine j_iload_n (pc := 88) C dX7_down_88 rfl 1 rfl ?_
        refine j_if_ne (pc := 89) (tgt := 96) C dX7_down_89 rfl ?_ ?_
        · refine j_iload_n (pc := 92) C dX7_down_92 rfl 2 rfl ?_
          refine j_goto (pc := 93) (tgt := 97) C dX7_down_93 rfl ?_
          exact j_ireturn C rfl rfl rfl rfl dX7_down_97
        · refine j_iload_n (pc := 96) C dX7_down_96 rfl 3 rfl ?_
          exact j_ireturn C rfl rfl rfl rfl dX7_down_97
    · refine j_aload_n (pc := 29) C dX7_down_29 rfl 0 rfl ?_
      refine j_bipush (pc := 30) C dX7_down_30 (by decide) ?_
      refine j_iload (pc := 32) C dX7_down_32 4 rfl ?_
      refine j_bI (fun s1 es1 => ?_)
      refine j_callV0 (pc := 34) C obX7 rfl rfl (X7_copy_m _ hj es1) kV_X7_347 rfl (by omega) rfl (Nat.le_of_ble_eq_true rfl) dX7_down_34 ?_
      refine j_aload_n (pc := 37) C dX7_down_37 rfl 0 rfl ?_
      refine j_iload (pc := 38) C dX7_down_38 4 rfl ?_
      refine j_bI (fun s2 es2 => ?_)
      refine j_callV0 (pc := 40) C obX7 rfl rfl (X7_closes_m _ hj es2) kV_X7_353 rfl (by omega) rfl (Nat.le_of_ble_eq_true rfl) dX7_down_40 ?_
      refine j_aload_n (pc := 43) C dX7_down_43 rfl 0 rfl ?_
      refine j_bipush (pc := 44) C dX7_down_44 (by decide) ?_
      refine j_bipush (pc := 46) C dX7_down_46 (by decide) ?_
      refine j_bP (fun v1 s3 es3 => ?_)
      refine j_callV1 (pc := 48) C obX7 rfl rfl (X7_earnsThen_m _ hj es3) kV_X7_325 rfl (by omega) rfl (Nat.le_of_ble_eq_true rfl) dX7_down_48 ?_
      refine j_istore (pc := 51) C hN dX7_down_51 (by decide) (lv' := [(5, .int (oI v1)), (0, .ref (G.2.2.1 0)), (1, .int (oI l1)), (2, .int (oI l2)), (3, .int (oI l3)), (4, .int (oI l4))]) rfl ?_
      refine j_aload_n (pc := 53) C dX7_down_53 rfl 1 rfl ?_
      refine j_iload (pc := 54) C dX7_down_54 5 rfl ?_
      refine j_bI (fun s4 es4 => ?_)
      refine j_callV0 (pc := 56) C obX7 rfl rfl (X7_opensWith_m _ hj es4) kV_X7_356 rfl (by omega) rfl (Nat.le_of_ble_eq_true rfl) dX7_down_56 ?_
      refine j_iload_n (pc := 59) C dX7_down_59 rfl 3 rfl ?_
      refine j_if_lt (pc := 60) (tgt := 72) C dX7_down_60 rfl ?_ ?_
      · refine j_iload (pc := 72) C dX7_down_72 5 rfl ?_
        refine j_istore_n (pc := 74) C hN dX7_down_74 rfl (by decide) (lv' := [(2, .int (oI l4)), (5, .int (oI v1)), (0, .ref (G.2.2.1 0)), (1, .int (oI l1)), (3, .int (oI l3)), (4, .int (oI l4))]) rfl ?_
        refine j_iload (pc := 75) C dX7_down_75 1 rfl ?_
        refine j_istore_n (pc := 77) C hN dX7_down_77 rfl (by decide) (lv' := [(3, .int (oI v1)), (2, .int (oI l4)), (5, .int (oI v1)), (0, .ref (G.2.2.1 0)), (1, .int (oI l1)), (4, .int (oI l4))]) rfl ?_
        refine j_iinc (pc := 78) C hN dX7_down_78 5 rfl (by decide) (lv' := [(4, .int (oI (l4 + 1))), (3, .int (oI v1)), (2, .int (oI l4)), (5, .int (oI v1)), (0, .ref (G.2.2.1 0)), (1, .int (oI l1))]) rfl ?_
        refine j_goto (pc := 81) (tgt := 20) C dX7_down_81 rfl ?_
        exact j_sub [4, 5, 2, 1, 0] rfl (ih _ _ _ _)
      · refine j_iload (pc := 63) C dX7_down_63 0 rfl ?_
        refine j_iload_n (pc := 65) C dX7_down_65 rfl 4 rfl ?_
        refine j_icmp_gt (pc := 66) (tgt := 72) C dX7_down_66 rfl ?_ ?_
        · refine j_iload (pc := 72) C dX7_down_72 5 rfl ?_
          refine j_istore_n (pc := 74) C hN dX7_down_74 rfl (by decide) (lv' := [(2, .int (oI l4)), (5, .int (oI v1)), (0, .ref (G.2.2.1 0)), (1, .int (oI l1)), (3, .int (oI l3)), (4, .int (oI l4))]) rfl ?_
          refine j_iload (pc := 75) C dX7_down_75 1 rfl ?_
          refine j_istore_n (pc := 77) C hN dX7_down_77 rfl (by decide) (lv' := [(3, .int (oI v1)), (2, .int (oI l4)), (5, .int (oI v1)), (0, .ref (G.2.2.1 0)), (1, .int (oI l1)), (4, .int (oI l4))]) rfl ?_
          refine j_iinc (pc := 78) C hN dX7_down_78 5 rfl (by decide) (lv' := [(4, .int (oI (l4 + 1))), (3, .int (oI v1)), (2, .int (oI l4)), (5, .int (oI v1)), (0, .ref (G.2.2.1 0)), (1, .int (oI l1))]) rfl ?_
          refine j_goto (pc := 81) (tgt := 20) C dX7_down_81 rfl ?_
          exact j_sub [4, 5, 2, 1, 0] rfl (ih _ _ _ _)
        · refine j_goto (pc := 69) (tgt := 78) C dX7_down_69 rfl ?_
          refine j_iinc (pc := 78) C hN dX7_down_78 5 rfl (by decide) (lv' := [(4, .int (oI (l4 + 1))), (5, .int (oI v1)), (0, .ref (G.2.2.1 0)), (1, .int (oI l1)), (2, .int (oI l2)), (3, .int (oI l3))]) rfl ?_
          refine j_goto (pc := 81) (tgt := 20) C dX7_down_81 rfl ?_
          exact j_sub [2, 3, 4, 5, 0] rfl (ih _ _ _ _)
set_option maxHeartbeats 4000000 in
set_option maxRecDepth 100000 in
theorem X7_down_m (l : Launch) {G : GD} (hj : zInj sM G) {st : PS} {l1 : Int} {r : (Int × PS)} (hr : X7_down st l1 = some r) : zM l sM G yX7_down cX7_down 6 (some .int) 10 [.ref (G.2.2.1 0), .int (oI l1)] st (some (.int (oI r.1))) r.2 :=
  zEnter (f := fI) hr hj (by decide) rfl (lv := [(0, .ref (G.2.2.1 0)), (1, .int (oI l1))]) rfl (Nat.le_of_ble_eq_true rfl) (fun X _ hN C => by
    unfold X7_down
    refine j_aload_n (pc := 0) C dX7_down_0 rfl 0 rfl ?_
    refine j_iload_n (pc := 1) C dX7_down_1 rfl 1 rfl ?_
    refine j_iconst (pc := 2) C dX7_down_2 ?_
    refine j_iconst (pc := 3) C dX7_down_3 ?_
    refine j_callV1 (pc := 4) C obX7 rfl rfl (X7_in_m _ hj rfl) kV_X7_197 rfl (by omega) rfl (Nat.le_of_ble_eq_true rfl) dX7_down_4 ?_
    refine j_if_ne (pc := 7) (tgt := 12) C dX7_down_7 rfl ?_ ?_
    · refine j_iconst (pc := 10) C dX7_down_10 ?_
      exact j_ireturn C rfl rfl rfl rfl dX7_down_11
    · refine j_bipush (pc := 12) C dX7_down_12 (by decide) ?_
      refine j_istore_n (pc := 14) C hN dX7_down_14 rfl (by decide) (lv' := [(2, .int (oI (-5))), (0, .ref (G.2.2.1 0)), (1, .int (oI l1))]) rfl ?_
      refine j_iconst (pc := 15) C dX7_down_15 ?_
      refine j_istore_n (pc := 16) C hN dX7_down_16 rfl (by decide) (lv' := [(3, .int (oI 0)), (2, .int (oI (-5))), (0, .ref (G.2.2.1 0)), (1, .int (oI l1))]) rfl ?_
      refine j_iconst (pc := 17) C dX7_down_17 ?_
      refine j_istore (pc := 18) C hN dX7_down_18 (by decide) (lv' := [(4, .int (oI 0)), (3, .int (oI 0)), (2, .int (oI (-5))), (0, .ref (G.2.2.1 0)), (1, .int (oI l1))]) rfl ?_
      exact j_sub [3, 4, 2, 1, 0] rfl (X7_down_L20_j C hN hj FU _ _ _ _))
def X7_layValues_L17 (l1 : Int) (co7 : PS → Int → Option PS) : Nat → PS → Int → Int → Option PS
  | 0, _, _, _ => none
  | k + 1, st, l2, l3 => if wI (st 0 0) ≤ wI l3 then if wI l2 = 0 then co7 st (l1 + 1) else (bI (zwr st 32 8 (st 0 36) l1) (fun s4 => zlet (zu s4 0 36 ((s4 0 36) + 1)) (fun s5 => co7 s5 (l1 + 1)))) else (if wI l2 = 0 then bI (zrd st 4 8 l3) (fun v2 => if wI v2 = wI l1 then X7_layValues_L17 l1 co7 k st 1 (l3 + 1) else (X7_layValues_L17 l1 co7 k st 0 (l3 + 1))) else (X7_layValues_L17 l1 co7 k st 1 (l3 + 1)))
def X7_layValues_L7  : Nat → PS → Int → Option PS
  | 0, _, _ => none
  | k + 1, st, l1 => if wI 100 ≤ wI l1 then some st else (X7_layValues_L17 l1 (fun s_ x1 => X7_layValues_L7 k s_ x1) FU st 0 0)
def X7_layValues (st : PS) : Option PS := zlet (zu st 0 36 0) (fun s1 => X7_layValues_L7 FU s1 0)
set_option maxHeartbeats 4000000 in
set_option maxRecDepth 100000 in
theorem X7_layValues_L17_j {X : JX} {G : GD} (C : zC X sM G RX7 cX7_layValues none 0) (hN : X.2.2.2.2.2.2.2.2.2.2.2.2 = 4) (hj : zInj sM G) {l1 : Int} (co7 : PS → Int → Option PS) (hco7 : ∀ (st : PS) (l1 : Int), J X (zI sM G) (zQ sM G fV) st [(0, .ref (G.2.2.1 0)), (1, .int (oI l1))] 7 [] (co7 st l1)) : ∀ (k : Nat) (st : PS) (l2 : Int) (l3 : Int), J X (zI sM G) (zQ sM G fV) st [(0, .ref (G.2.2.1 0)), (1, .int (oI l1)), (2, .int (oI l2)), (3, .int (oI l3))] 17 [] (X7_layValues_L17 l1 co7 k st l2 l3) := by
  intro k
  induction k with
  | zero => intro st l2 l3; exact j_none
  | succ k ih =>
    intro st l2 l3
    rw [X7_layValues_L17]
    refine j_iload_n (pc := 17) C dX7_layValues_17 rfl 3 rfl ?_
    refine j_aload_n (pc := 18) C dX7_layValues_18 rfl 0 rfl ?_
    refine gf_X7_7 (pc := 19) C dX7_layValues_19 ?_
    refine j_icmp_ge (pc := 22) (tgt := 51) C dX7_layValues_22 rfl ?_ ?_
    · refine j_iload_n (pc := 51) C dX7_layValues_51 rfl 2 rfl ?_
      refine j_if_ne (pc := 52) (tgt := 58) C dX7_layValues_52 rfl ?_ ?_
      · refine j_goto (pc := 55) (tgt := 78) C dX7_layValues_55 rfl ?_
        refine j_iinc (pc := 78) C hN dX7_layValues_78 1 rfl (by decide) (lv' := [(1, .int (oI (l1 + 1))), (0, .ref (G.2.2.1 0)), (2, .int (oI l2)), (3, .int (oI l3))]) rfl ?_
        refine j_goto (pc := 81) (tgt := 7) C dX7_layValues_81 rfl ?_
        exact j_sub [1, 0] rfl (hco7 _ _)
      · refine j_aload_n (pc := 58) C dX7_layValues_58 rfl 0 rfl ?_
        refine gf_X7_108 (pc := 59) C dX7_layValues_59 ?_
        refine j_aload_n (pc := 62) C dX7_layValues_62 rfl 0 rfl ?_
        refine gf_X7_120 (pc := 63) C dX7_layValues_63 ?_
        refine j_iload_n (pc := 66) C dX7_layValues_66 rfl 1 rfl ?_
        refine j_bI (fun s4 es4 => ?_)
        refine j_iast (pc := 67) C arX7_32 es4 dX7_layValues_67 ?_
        refine j_aload_n (pc := 68) C dX7_layValues_68 rfl 0 rfl ?_
        refine j_dup (pc := 69) C dX7_layValues_69 rfl ?_
        refine gf_X7_120 (pc := 70) C dX7_layValues_70 ?_
        refine j_iconst (pc := 73) C dX7_layValues_73 ?_
        refine j_iadd (pc := 74) C dX7_layValues_74 ?_
        refine fp_X7_120 (pc := 75) C dX7_layValues_75 ?_
        refine j_let (fun s5 => ?_)
        refine j_iinc (pc := 78) C hN dX7_layValues_78 1 rfl (by decide) (lv' := [(1, .int (oI (l1 + 1))), (0, .ref (G.2.2.1 0)), (2, .int (oI l2)), (3, .int (oI l3))]) rfl ?_
        refine j_goto (pc := 81) (tgt := 7) C dX7_layValues_81 rfl ?_
        exact j_sub [1, 0] rfl (hco7 _ _)
    · refine j_iload_n (pc := 25) C dX7_layValues_25 rfl 2 rfl ?_
      refine j_if_ne (pc := 26) (tgt := 39) C dX7_layValues_26 rfl ?_ ?_
      · refine j_aload_n (pc := 29) C dX7_layValues_29 rfl 0 rfl ?_
        refine gf_X7_23 (pc := 30) C dX7_layValues_30 ?_
        refine j_iload_n (pc := 33) C dX7_layValues_33 rfl 3 rfl ?_
        refine j_bI (fun v2 ev2 => ?_)
        refine j_iald (pc := 34) C arX7_4 ev2 dX7_layValues_34 ?_
        refine j_iload_n (pc := 35) C dX7_layValues_35 rfl 1 rfl ?_
        refine j_icmp_ne (pc := 36) (tgt := 43) C dX7_layValues_36 rfl ?_ ?_
        · refine j_iconst (pc := 39) C dX7_layValues_39 ?_
          refine j_goto (pc := 40) (tgt := 44) C dX7_layValues_40 rfl ?_
          refine j_istore_n (pc := 44) C hN dX7_layValues_44 rfl (by decide) (lv' := [(2, .int (oI 1)), (0, .ref (G.2.2.1 0)), (1, .int (oI l1)), (3, .int (oI l3))]) rfl ?_
          refine j_iinc (pc := 45) C hN dX7_layValues_45 3 rfl (by decide) (lv' := [(3, .int (oI (l3 + 1))), (2, .int (oI 1)), (0, .ref (G.2.2.1 0)), (1, .int (oI l1))]) rfl ?_
          refine j_goto (pc := 48) (tgt := 17) C dX7_layValues_48 rfl ?_
          exact j_sub [2, 3, 1, 0] rfl (ih _ _ _)
        · refine j_iconst (pc := 43) C dX7_layValues_43 ?_
          refine j_istore_n (pc := 44) C hN dX7_layValues_44 rfl (by decide) (lv' := [(2, .int (oI 0)), (0, .ref (G.2.2.1 0)), (1, .int (oI l1)), (3, .int (oI l3))]) rfl ?_
          refine j_iinc (pc := 45) C hN dX7_layValues_45 3 rfl (by decide) (lv' := [(3, .int (oI (l3 + 1))), (2, .int (oI 0)), (0, .ref (G.2.2.1 0)), (1, .int (oI l1))]) rfl ?_
          refine j_goto (pc := 48) (tgt := 17) C dX7_layValues_48 rfl ?_
          exact j_sub [2, 3, 1, 0] rfl (ih _ _ _)
      · refine j_iconst (pc := 39) C dX7_layValues_39 ?_
        refine j_goto (pc := 40) (tgt := 44) C dX7_layValues_40 rfl ?_
        refine j_istore_n (pc := 44) C hN dX7_layValues_44 rfl (by decide) (lv' := [(2, .int (oI 1)), (0, .ref (G.2.2.1 0)), (1, .int (oI l1)), (3, .int (oI l3))]) rfl ?_
        refine j_iinc (pc := 45) C hN dX7_layValues_45 3 rfl (by decide) (lv' := [(3, .int (oI (l3 + 1))), (2, .int (oI 1)), (0, .ref (G.2.2.1 0)), (1, .int (oI l1))]) rfl ?_
        refine j_goto (pc := 48) (tgt := 17) C dX7_layValues_48 rfl ?_
        exact j_sub [2, 3, 1, 0] rfl (ih _ _ _)
set_option maxHeartbeats 4000000 in
set_option maxRecDepth 100000 in
theorem X7_layValues_L7_j {X : JX} {G : GD} (C : zC X sM G RX7 cX7_layValues none 0) (hN : X.2.2.2.2.2.2.2.2.2.2.2.2 = 4) (hj : zInj sM G)  : ∀ (k : Nat) (st : PS) (l1 : Int), J X (zI sM G) (zQ sM G fV) st [(0, .ref (G.2.2.1 0)), (1, .int (oI l1))] 7 [] (X7_layValues_L7 k st l1) := by
  intro k
  induction k with
  | zero => intro st l1; exact j_none
  | succ k ih =>
    intro st l1
    rw [X7_layValues_L7]
    refine j_iload_n (pc := 7) C dX7_layValues_7 rfl 1 rfl ?_
    refine j_bipush (pc := 8) C dX7_layValues_8 (by decide) ?_
    refine j_icmp_ge (pc := 10) (tgt := 84) C dX7_layValues_10 rfl ?_ ?_
    · exact j_return C rfl rfl dX7_layValues_84
    · refine j_iconst (pc := 13) C dX7_layValues_13 ?_
      refine j_istore_n (pc := 14) C hN dX7_layValues_14 rfl (by decide) (lv' := [(2, .int (oI 0)), (0, .ref (G.2.2.1 0)), (1, .int (oI l1))]) rfl ?_
      refine j_iconst (pc := 15) C dX7_layValues_15 ?_
      refine j_istore_n (pc := 16) C hN dX7_layValues_16 rfl (by decide) (lv' := [(3, .int (oI 0)), (2, .int (oI 0)), (0, .ref (G.2.2.1 0)), (1, .int (oI l1))]) rfl ?_
      exact j_sub [2, 3, 1, 0] rfl (X7_layValues_L17_j C hN hj _ (fun s_ x1 => ih s_ x1) FU _ _ _)
set_option maxHeartbeats 4000000 in
set_option maxRecDepth 100000 in
theorem X7_layValues_m (l : Launch) {G : GD} (hj : zInj sM G) {st : PS} {r : PS} (hr : X7_layValues st = some r) : zM l sM G yX7_layValues cX7_layValues 4 none 0 [.ref (G.2.2.1 0)] st none r :=
  zEnter (f := fV) hr hj (by decide) rfl (lv := [(0, .ref (G.2.2.1 0))]) rfl (Nat.le_of_ble_eq_true rfl) (fun X _ hN C => by
    unfold X7_layValues
    refine j_aload_n (pc := 0) C dX7_layValues_0 rfl 0 rfl ?_
    refine j_iconst (pc := 1) C dX7_layValues_1 ?_
    refine fp_X7_120 (pc := 2) C dX7_layValues_2 ?_
    refine j_let (fun s1 => ?_)
    refine j_iconst (pc := 5) C dX7_layValues_5 ?_
    refine j_istore_n (pc := 6) C hN dX7_layValues_6 rfl (by decide) (lv' := [(1, .int (oI 0)), (0, .ref (G.2.2.1 0))]) rfl ?_
    exact j_sub [1, 0] rfl (X7_layValues_L7_j C hN hj FU _ _))
def X7_nextRow_L7  : Nat → PS → Int → Option (Int × PS)
  | 0, _, _ => none
  | k + 1, st, l1 => if wI l1 < 0 then some (0, st) else (bI (zrd st 35 8 l1) (fun v1 => bI (zwr st 35 8 l1 (v1 + 1)) (fun s1 => bI (zrd s1 35 8 l1) (fun v2 => if wI (s1 0 36) ≤ wI v2 then bI (zwr s1 35 8 l1 0) (fun s2 => X7_nextRow_L7 k s2 (l1 + (-1))) else (some (1, s1))))))
def X7_nextRow (st : PS) : Option (Int × PS) := X7_nextRow_L7 FU st ((st 0 0) - 1)
set_option maxHeartbeats 4000000 in
set_option maxRecDepth 100000 in
theorem X7_nextRow_L7_j {X : JX} {G : GD} (C : zC X sM G RX7 cX7_nextRow (some .boolean) 0) (hN : X.2.2.2.2.2.2.2.2.2.2.2.2 = 2) (hj : zInj sM G)  : ∀ (k : Nat) (st : PS) (l1 : Int), J X (zI sM G) (zQ sM G fI) st [(0, .ref (G.2.2.1 0)), (1, .int (oI l1))] 7 [] (X7_nextRow_L7 k st l1) := by
  intro k
  induction k with
  | zero => intro st l1; exact j_none
  | succ k ih =>
    intro st l1
    rw [X7_nextRow_L7]
    refine j_iload_n (pc := 7) C dX7_nextRow_7 rfl 1 rfl ?_
    refine j_if_lt (pc := 8) (tgt := 49) C dX7_nextRow_8 rfl ?_ ?_
    · refine j_iconst (pc := 49) C dX7_nextRow_49 ?_
      exact j_ireturn C rfl rfl (znar (Or.inl rfl)) rfl dX7_nextRow_50
    · refine j_aload_n (pc := 11) C dX7_nextRow_11 rfl 0 rfl ?_
      refine gf_X7_117 (pc := 12) C dX7_nextRow_12 ?_
      refine j_iload_n (pc := 15) C dX7_nextRow_15 rfl 1 rfl ?_
      refine j_dup2 (pc := 16) C dX7_nextRow_16 rfl rfl ?_
      refine j_bI (fun v1 ev1 => ?_)
      refine j_iald (pc := 17) C arX7_35 ev1 dX7_nextRow_17 ?_
      refine j_iconst (pc := 18) C dX7_nextRow_18 ?_
      refine j_iadd (pc := 19) C dX7_nextRow_19 ?_
      refine j_bI (fun s1 es1 => ?_)
      refine j_iast (pc := 20) C arX7_35 es1 dX7_nextRow_20 ?_
      refine j_aload_n (pc := 21) C dX7_nextRow_21 rfl 0 rfl ?_
      refine gf_X7_117 (pc := 22) C dX7_nextRow_22 ?_
      refine j_iload_n (pc := 25) C dX7_nextRow_25 rfl 1 rfl ?_
      refine j_bI (fun v2 ev2 => ?_)
      refine j_iald (pc := 26) C arX7_35 ev2 dX7_nextRow_26 ?_
      refine j_aload_n (pc := 27) C dX7_nextRow_27 rfl 0 rfl ?_
      refine gf_X7_120 (pc := 28) C dX7_nextRow_28 ?_
      refine j_icmp_ge (pc := 31) (tgt := 36) C dX7_nextRow_31 rfl ?_ ?_
      · refine j_aload_n (pc := 36) C dX7_nextRow_36 rfl 0 rfl ?_
        refine gf_X7_117 (pc := 37) C dX7_nextRow_37 ?_
        refine j_iload_n (pc := 40) C dX7_nextRow_40 rfl 1 rfl ?_
        refine j_iconst (pc := 41) C dX7_nextRow_41 ?_
        refine j_bI (fun s2 es2 => ?_)
        refine j_iast (pc := 42) C arX7_35 es2 dX7_nextRow_42 ?_
        refine j_iinc (pc := 43) C hN dX7_nextRow_43 1 rfl (by decide) (lv' := [(1, .int (oI (l1 + (-1)))), (0, .ref (G.2.2.1 0))]) rfl ?_
        refine j_goto (pc := 46) (tgt := 7) C dX7_nextRow_46 rfl ?_
        exact j_sub [1, 0] rfl (ih _ _)
      · refine j_iconst (pc := 34) C dX7_nextRow_34 ?_
        exact j_ireturn C rfl rfl (znar (Or.inr rfl)) rfl dX7_nextRow_35
set_option maxHeartbeats 4000000 in
set_option maxRecDepth 100000 in
theorem X7_nextRow_m (l : Launch) {G : GD} (hj : zInj sM G) {st : PS} {r : (Int × PS)} (hr : X7_nextRow st = some r) : zM l sM G yX7_nextRow cX7_nextRow 2 (some .boolean) 0 [.ref (G.2.2.1 0)] st (some (.int (oI r.1))) r.2 :=
  zEnter (f := fI) hr hj (by decide) rfl (lv := [(0, .ref (G.2.2.1 0))]) rfl (Nat.le_of_ble_eq_true rfl) (fun X _ hN C => by
    unfold X7_nextRow
    refine j_aload_n (pc := 0) C dX7_nextRow_0 rfl 0 rfl ?_
    refine gf_X7_7 (pc := 1) C dX7_nextRow_1 ?_
    refine j_iconst (pc := 4) C dX7_nextRow_4 ?_
    refine j_isub (pc := 5) C dX7_nextRow_5 ?_
    refine j_istore_n (pc := 6) C hN dX7_nextRow_6 rfl (by decide) (lv' := [(1, .int (oI ((st 0 0) - 1))), (0, .ref (G.2.2.1 0))]) rfl ?_
    exact j_sub [1, 0] rfl (X7_nextRow_L7_j C hN hj FU _ _))
def X7_bringsNow_L39  : Nat → PS → Int → Option (Int × PS)
  | 0, _, _ => none
  | k + 1, st, l1 => if wI (st 0 0) ≤ wI l1 then some (1, st) else (bI (zrd st 27 8 l1) (fun v1 => bI (zrd st 33 8 l1) (fun v2 => if wI v1 = wI v2 then X7_bringsNow_L39 k st (l1 + 1) else (some (0, st)))))
def X7_bringsNow_L2  : Nat → PS → Int → Option (Int × PS)
  | 0, _, _ => none
  | k + 1, st, l1 => if wI (st 0 0) ≤ wI l1 then bI (X7_layNext st) (fun s1 => X7_bringsNow_L39 FU s1 0) else (bI (zrd st 35 8 l1) (fun v3 => bI (zrd st 32 8 v3) (fun v4 => bI (zwr st 4 8 l1 v4) (fun s2 => X7_bringsNow_L2 k s2 (l1 + 1)))))
def X7_bringsNow (st : PS) : Option (Int × PS) := X7_bringsNow_L2 FU st 0
set_option maxHeartbeats 4000000 in
set_option maxRecDepth 100000 in
theorem X7_bringsNow_L39_j {X : JX} {G : GD} (C : zC X sM G RX7 cX7_bringsNow (some .boolean) 7) (hN : X.2.2.2.2.2.2.2.2.2.2.2.2 = 2) (hj : zInj sM G)  : ∀ (k : Nat) (st : PS) (l1 : Int), J X (zI sM G) (zQ sM G fI) st [(0, .ref (G.2.2.1 0)), (1, .int (oI l1))] 39 [] (X7_bringsNow_L39 k st l1) := by
  intro k
  induction k with
  | zero => intro st l1; exact j_none
  | succ k ih =>
    intro st l1
    rw [X7_bringsNow_L39]
    refine j_iload_n (pc := 39) C dX7_bringsNow_39 rfl 1 rfl ?_
    refine j_aload_n (pc := 40) C dX7_bringsNow_40 rfl 0 rfl ?_
    refine gf_X7_7 (pc := 41) C dX7_bringsNow_41 ?_
    refine j_icmp_ge (pc := 44) (tgt := 70) C dX7_bringsNow_44 rfl ?_ ?_
    · refine j_iconst (pc := 70) C dX7_bringsNow_70 ?_
      exact j_ireturn C rfl rfl (znar (Or.inr rfl)) rfl dX7_bringsNow_71
    · refine j_aload_n (pc := 47) C dX7_bringsNow_47 rfl 0 rfl ?_
      refine gf_X7_93 (pc := 48) C dX7_bringsNow_48 ?_
      refine j_iload_n (pc := 51) C dX7_bringsNow_51 rfl 1 rfl ?_
      refine j_bI (fun v1 ev1 => ?_)
      refine j_iald (pc := 52) C arX7_27 ev1 dX7_bringsNow_52 ?_
      refine j_aload_n (pc := 53) C dX7_bringsNow_53 rfl 0 rfl ?_
      refine gf_X7_111 (pc := 54) C dX7_bringsNow_54 ?_
      refine j_iload_n (pc := 57) C dX7_bringsNow_57 rfl 1 rfl ?_
      refine j_bI (fun v2 ev2 => ?_)
      refine j_iald (pc := 58) C arX7_33 ev2 dX7_bringsNow_58 ?_
      refine j_icmp_eq (pc := 59) (tgt := 64) C dX7_bringsNow_59 rfl ?_ ?_
      · refine j_iinc (pc := 64) C hN dX7_bringsNow_64 1 rfl (by decide) (lv' := [(1, .int (oI (l1 + 1))), (0, .ref (G.2.2.1 0))]) rfl ?_
        refine j_goto (pc := 67) (tgt := 39) C dX7_bringsNow_67 rfl ?_
        exact j_sub [1, 0] rfl (ih _ _)
      · refine j_iconst (pc := 62) C dX7_bringsNow_62 ?_
        exact j_ireturn C rfl rfl (znar (Or.inl rfl)) rfl dX7_bringsNow_63
set_option maxHeartbeats 4000000 in
set_option maxRecDepth 100000 in
theorem X7_bringsNow_L2_j {X : JX} {G : GD} (C : zC X sM G RX7 cX7_bringsNow (some .boolean) 7) (hN : X.2.2.2.2.2.2.2.2.2.2.2.2 = 2) (hj : zInj sM G)  : ∀ (k : Nat) (st : PS) (l1 : Int), J X (zI sM G) (zQ sM G fI) st [(0, .ref (G.2.2.1 0)), (1, .int (oI l1))] 2 [] (X7_bringsNow_L2 k st l1) := by
  intro k
  induction k with
  | zero => intro st l1; exact j_none
  | succ k ih =>
    intro st l1
    rw [X7_bringsNow_L2]
    refine j_iload_n (pc := 2) C dX7_bringsNow_2 rfl 1 rfl ?_
    refine j_aload_n (pc := 3) C dX7_bringsNow_3 rfl 0 rfl ?_
    refine gf_X7_7 (pc := 4) C dX7_bringsNow_4 ?_
    refine j_icmp_ge (pc := 7) (tgt := 33) C dX7_bringsNow_7 rfl ?_ ?_
    · refine j_aload_n (pc := 33) C dX7_bringsNow_33 rfl 0 rfl ?_
      refine j_bI (fun s1 es1 => ?_)
      refine j_callV0 (pc := 34) C obX7 rfl rfl (X7_layNext_m _ hj es1) kV_X7_313 rfl (by omega) rfl (Nat.le_of_ble_eq_true rfl) dX7_bringsNow_34 ?_
      refine j_iconst (pc := 37) C dX7_bringsNow_37 ?_
      refine j_istore_n (pc := 38) C hN dX7_bringsNow_38 rfl (by decide) (lv' := [(1, .int (oI 0)), (0, .ref (G.2.2.1 0))]) rfl ?_
      exact j_sub [1, 0] rfl (X7_bringsNow_L39_j C hN hj FU _ _)
    · refine j_aload_n (pc := 10) C dX7_bringsNow_10 rfl 0 rfl ?_
      refine gf_X7_23 (pc := 11) C dX7_bringsNow_11 ?_
      refine j_iload_n (pc := 14) C dX7_bringsNow_14 rfl 1 rfl ?_
      refine j_aload_n (pc := 15) C dX7_bringsNow_15 rfl 0 rfl ?_
      refine gf_X7_108 (pc := 16) C dX7_bringsNow_16 ?_
      refine j_aload_n (pc := 19) C dX7_bringsNow_19 rfl 0 rfl ?_
      refine gf_X7_117 (pc := 20) C dX7_bringsNow_20 ?_
      refine j_iload_n (pc := 23) C dX7_bringsNow_23 rfl 1 rfl ?_
      refine j_bI (fun v3 ev3 => ?_)
      refine j_iald (pc := 24) C arX7_35 ev3 dX7_bringsNow_24 ?_
      refine j_bI (fun v4 ev4 => ?_)
      refine j_iald (pc := 25) C arX7_32 ev4 dX7_bringsNow_25 ?_
      refine j_bI (fun s2 es2 => ?_)
      refine j_iast (pc := 26) C arX7_4 es2 dX7_bringsNow_26 ?_
      refine j_iinc (pc := 27) C hN dX7_bringsNow_27 1 rfl (by decide) (lv' := [(1, .int (oI (l1 + 1))), (0, .ref (G.2.2.1 0))]) rfl ?_
      refine j_goto (pc := 30) (tgt := 2) C dX7_bringsNow_30 rfl ?_
      exact j_sub [1, 0] rfl (ih _ _)
set_option maxHeartbeats 4000000 in
set_option maxRecDepth 100000 in
theorem X7_bringsNow_m (l : Launch) {G : GD} (hj : zInj sM G) {st : PS} {r : (Int × PS)} (hr : X7_bringsNow st = some r) : zM l sM G yX7_bringsNow cX7_bringsNow 2 (some .boolean) 7 [.ref (G.2.2.1 0)] st (some (.int (oI r.1))) r.2 :=
  zEnter (f := fI) hr hj (by decide) rfl (lv := [(0, .ref (G.2.2.1 0))]) rfl (Nat.le_of_ble_eq_true rfl) (fun X _ hN C => by
    unfold X7_bringsNow
    refine j_iconst (pc := 0) C dX7_bringsNow_0 ?_
    refine j_istore_n (pc := 1) C hN dX7_bringsNow_1 rfl (by decide) (lv' := [(1, .int (oI 0)), (0, .ref (G.2.2.1 0))]) rfl ?_
    exact j_sub [1, 0] rfl (X7_bringsNow_L2_j C hN hj FU _ _))
def X7_before_L105 (l1 : Int) (l2 : Int) (co91 : PS → Int → Int → Option (Int × PS)) : Nat → PS → Int → Option (Int × PS)
  | 0, _, _ => none
  | k + 1, st, l4 => if wI (st 0 0) ≤ wI l4 then bP (X7_nextRow st) (fun v4 s7 => co91 s7 (l2 + 1) v4) else (if wI l2 = 0 then bI (zrd st 4 8 l4) (fun v5 => bI (zwr st 34 8 l4 v5) (fun s8 => X7_before_L105 l1 l2 co91 k s8 (l4 + 1))) else (bP (X7_nextRow st) (fun v6 s9 => co91 s9 (l2 + 1) v6)))
def X7_before_L91 (l1 : Int) : Nat → PS → Int → Int → Option (Int × PS)
  | 0, _, _, _ => none
  | k + 1, st, l2, l3 => if wI l3 = 0 then bI (X7_putBack st) (fun s4 => if 0 ≤ wI l1 then if wI l2 = 0 then some ((-5), s4) else (bI (zrd s4 34 8 l1) (fun v1 => some (v1, s4))) else (some (l2, s4))) else (bP (X7_bringsNow st) (fun v2 s5 => if wI v2 = 0 then bP (X7_nextRow s5) (fun v3 s6 => X7_before_L91 l1 k s6 l2 v3) else (X7_before_L105 l1 l2 (fun s_ x2 x3 => X7_before_L91 l1 k s_ x2 x3) FU s5 0)))
def X7_before_L46 (l1 : Int) : Nat → PS → Int → Option (Int × PS)
  | 0, _, _ => none
  | k + 1, st, l2 => if wI 8 ≤ wI l2 then zlet (zu st 0 1 ((st 0 1) - 1)) (fun s3 => X7_before_L91 l1 FU s3 0 1) else (bI (zrd st 4 8 l2) (fun v7 => bI (zwr st 33 8 l2 v7) (fun s10 => bI (zwr s10 35 8 l2 0) (fun s11 => X7_before_L46 l1 k s11 (l2 + 1)))))
def X7_before (st : PS) (l1 : Int) : Option (Int × PS) := if wI l1 = wI (-1) then if wI (st 0 0) ≤ wI 4 then if wI (st 0 1) = 0 then some ((-8), st) else (bI (X7_layValues st) (fun s1 => bI (X7_keep s1) (fun s2 => X7_before_L46 l1 FU s2 0))) else (some ((-9), st)) else (if wI (X7_isHouse st l1) = 0 then some ((-1), st) else (if wI (st 0 0) ≤ wI 4 then if wI (st 0 1) = 0 then some ((-8), st) else (bI (X7_layValues st) (fun s12 => bI (X7_keep s12) (fun s13 => X7_before_L46 l1 FU s13 0))) else (some ((-9), st))))
set_option maxHeartbeats 4000000 in
set_option maxRecDepth 100000 in
theorem X7_before_L105_j {X : JX} {G : GD} (C : zC X sM G RX7 cX7_before (some .int) 8) (hN : X.2.2.2.2.2.2.2.2.2.2.2.2 = 5) (hj : zInj sM G) {l1 : Int} {l2 : Int} (co91 : PS → Int → Int → Option (Int × PS)) (hco91 : ∀ (st : PS) (l2 : Int) (l3 : Int), J X (zI sM G) (zQ sM G fI) st [(0, .ref (G.2.2.1 0)), (1, .int (oI l1)), (2, .int (oI l2)), (3, .int (oI l3))] 91 [] (co91 st l2 l3)) : ∀ (k : Nat) (st : PS) (l4 : Int), J X (zI sM G) (zQ sM G fI) st [(0, .ref (G.2.2.1 0)), (1, .int (oI l1)), (2, .int (oI l2)), (4, .int (oI l4))] 105 [] (X7_before_L105 l1 l2 co91 k st l4) := by
  intro k
  induction k with
  | zero => intro st l4; exact j_none
  | succ k ih =>
    intro st l4
    rw [X7_before_L105]
    refine j_iload (pc := 105) C dX7_before_105 3 rfl ?_
    refine j_aload_n (pc := 107) C dX7_before_107 rfl 0 rfl ?_
    refine gf_X7_7 (pc := 108) C dX7_before_108 ?_
    refine j_icmp_ge (pc := 111) (tgt := 138) C dX7_before_111 rfl ?_ ?_
    · refine j_iinc (pc := 138) C hN dX7_before_138 2 rfl (by decide) (lv' := [(2, .int (oI (l2 + 1))), (0, .ref (G.2.2.1 0)), (1, .int (oI l1)), (4, .int (oI l4))]) rfl ?_
      refine j_aload_n (pc := 141) C dX7_before_141 rfl 1 rfl ?_
      refine j_bP (fun v4 s7 es7 => ?_)
      refine j_callV1 (pc := 142) C obX7 rfl rfl (X7_nextRow_m _ hj es7) kV_X7_365 rfl (by omega) rfl (Nat.le_of_ble_eq_true rfl) dX7_before_142 ?_
      refine j_istore_n (pc := 145) C hN dX7_before_145 rfl (by decide) (lv' := [(3, .int (oI v4)), (2, .int (oI (l2 + 1))), (0, .ref (G.2.2.1 0)), (1, .int (oI l1)), (4, .int (oI l4))]) rfl ?_
      refine j_goto (pc := 146) (tgt := 91) C dX7_before_146 rfl ?_
      exact j_sub [2, 3, 1, 0] rfl (hco91 _ _ _)
    · refine j_iload_n (pc := 114) C dX7_before_114 rfl 2 rfl ?_
      refine j_if_ne (pc := 115) (tgt := 138) C dX7_before_115 rfl ?_ ?_
      · refine j_aload_n (pc := 118) C dX7_before_118 rfl 0 rfl ?_
        refine gf_X7_114 (pc := 119) C dX7_before_119 ?_
        refine j_iload (pc := 122) C dX7_before_122 3 rfl ?_
        refine j_aload_n (pc := 124) C dX7_before_124 rfl 0 rfl ?_
        refine gf_X7_23 (pc := 125) C dX7_before_125 ?_
        refine j_iload (pc := 128) C dX7_before_128 3 rfl ?_
        refine j_bI (fun v5 ev5 => ?_)
        refine j_iald (pc := 130) C arX7_4 ev5 dX7_before_130 ?_
        refine j_bI (fun s8 es8 => ?_)
        refine j_iast (pc := 131) C arX7_34 es8 dX7_before_131 ?_
        refine j_iinc (pc := 132) C hN dX7_before_132 3 rfl (by decide) (lv' := [(4, .int (oI (l4 + 1))), (0, .ref (G.2.2.1 0)), (1, .int (oI l1)), (2, .int (oI l2))]) rfl ?_
        refine j_goto (pc := 135) (tgt := 105) C dX7_before_135 rfl ?_
        exact j_sub [1, 2, 3, 0] rfl (ih _ _)
      · refine j_iinc (pc := 138) C hN dX7_before_138 2 rfl (by decide) (lv' := [(2, .int (oI (l2 + 1))), (0, .ref (G.2.2.1 0)), (1, .int (oI l1)), (4, .int (oI l4))]) rfl ?_
        refine j_aload_n (pc := 141) C dX7_before_141 rfl 1 rfl ?_
        refine j_bP (fun v6 s9 es9 => ?_)
        refine j_callV1 (pc := 142) C obX7 rfl rfl (X7_nextRow_m _ hj es9) kV_X7_365 rfl (by omega) rfl (Nat.le_of_ble_eq_true rfl) dX7_before_142 ?_
        refine j_istore_n (pc := 145) C hN dX7_before_145 rfl (by decide) (lv' := [(3, .int (oI v6)), (2, .int (oI (l2 + 1))), (0, .ref (G.2.2.1 0)), (1, .int (oI l1)), (4, .int (oI l4))]) rfl ?_
        refine j_goto (pc := 146) (tgt := 91) C dX7_before_146 rfl ?_
        exact j_sub [2, 3, 1, 0] rfl (hco91 _ _ _)
set_option maxHeartbeats 4000000 in
set_option maxRecDepth 100000 in
theorem X7_before_L91_j {X : JX} {G : GD} (C : zC X sM G RX7 cX7_before (some .int) 8) (hN : X.2.2.2.2.2.2.2.2.2.2.2.2 = 5) (hj : zInj sM G) {l1 : Int} : ∀ (k : Nat) (st : PS) (l2 : Int) (l3 : Int), J X (zI sM G) (zQ sM G fI) st [(0, .ref (G.2.2.1 0)), (1, .int (oI l1)), (2, .int (oI l2)), (3, .int (oI l3))] 91 [] (X7_before_L91 l1 k st l2 l3) := by
  intro k
  induction k with
  | zero => intro st l2 l3; exact j_none
  | succ k ih =>
    intro st l2 l3
    rw [X7_before_L91]
    refine j_iload_n (pc := 91) C dX7_before_91 rfl 3 rfl ?_
    refine j_if_eq (pc := 92) (tgt := 149) C dX7_before_92 rfl ?_ ?_
    · refine j_aload_n (pc := 149) C dX7_before_149 rfl 0 rfl ?_
      refine j_bI (fun s4 es4 => ?_)
      refine j_callV0 (pc := 150) C obX7 rfl rfl (X7_putBack_m _ hj es4) kV_X7_334 rfl (by omega) rfl (Nat.le_of_ble_eq_true rfl) dX7_before_150 ?_
      refine j_iload_n (pc := 153) C dX7_before_153 rfl 1 rfl ?_
      refine j_if_ge (pc := 154) (tgt := 161) C dX7_before_154 rfl ?_ ?_
      · refine j_iload_n (pc := 161) C dX7_before_161 rfl 2 rfl ?_
        refine j_if_ne (pc := 162) (tgt := 170) C dX7_before_162 rfl ?_ ?_
        · refine j_bipush (pc := 165) C dX7_before_165 (by decide) ?_
          refine j_goto (pc := 167) (tgt := 176) C dX7_before_167 rfl ?_
          exact j_ireturn C rfl rfl rfl rfl dX7_before_176
        · refine j_aload_n (pc := 170) C dX7_before_170 rfl 0 rfl ?_
          refine gf_X7_114 (pc := 171) C dX7_before_171 ?_
          refine j_iload_n (pc := 174) C dX7_before_174 rfl 1 rfl ?_
          refine j_bI (fun v1 ev1 => ?_)
          refine j_iald (pc := 175) C arX7_34 ev1 dX7_before_175 ?_
          exact j_ireturn C rfl rfl rfl rfl dX7_before_176
      · refine j_iload_n (pc := 157) C dX7_before_157 rfl 2 rfl ?_
        refine j_goto (pc := 158) (tgt := 176) C dX7_before_158 rfl ?_
        exact j_ireturn C rfl rfl rfl rfl dX7_before_176
    · refine j_aload_n (pc := 95) C dX7_before_95 rfl 0 rfl ?_
      refine j_bP (fun v2 s5 es5 => ?_)
      refine j_callV1 (pc := 96) C obX7 rfl rfl (X7_bringsNow_m _ hj es5) kV_X7_362 rfl (by omega) rfl (Nat.le_of_ble_eq_true rfl) dX7_before_96 ?_
      refine j_if_eq (pc := 99) (tgt := 141) C dX7_before_99 rfl ?_ ?_
      · refine j_aload_n (pc := 141) C dX7_before_141 rfl 0 rfl ?_
        refine j_bP (fun v3 s6 es6 => ?_)
        refine j_callV1 (pc := 142) C obX7 rfl rfl (X7_nextRow_m _ hj es6) kV_X7_365 rfl (by omega) rfl (Nat.le_of_ble_eq_true rfl) dX7_before_142 ?_
        refine j_istore_n (pc := 145) C hN dX7_before_145 rfl (by decide) (lv' := [(3, .int (oI v3)), (0, .ref (G.2.2.1 0)), (1, .int (oI l1)), (2, .int (oI l2))]) rfl ?_
        refine j_goto (pc := 146) (tgt := 91) C dX7_before_146 rfl ?_
        exact j_sub [1, 2, 3, 0] rfl (ih _ _ _)
      · refine j_iconst (pc := 102) C dX7_before_102 ?_
        refine j_istore (pc := 103) C hN dX7_before_103 (by decide) (lv' := [(4, .int (oI 0)), (0, .ref (G.2.2.1 0)), (1, .int (oI l1)), (2, .int (oI l2)), (3, .int (oI l3))]) rfl ?_
        exact j_sub [1, 2, 3, 0] rfl (X7_before_L105_j C hN hj _ (fun s_ x2 x3 => ih s_ x2 x3) FU _ _)
set_option maxHeartbeats 4000000 in
set_option maxRecDepth 100000 in
theorem X7_before_L46_j {X : JX} {G : GD} (C : zC X sM G RX7 cX7_before (some .int) 8) (hN : X.2.2.2.2.2.2.2.2.2.2.2.2 = 5) (hj : zInj sM G) {l1 : Int} : ∀ (k : Nat) (st : PS) (l2 : Int), J X (zI sM G) (zQ sM G fI) st [(0, .ref (G.2.2.1 0)), (1, .int (oI l1)), (2, .int (oI l2))] 46 [] (X7_before_L46 l1 k st l2) := by
  intro k
  induction k with
  | zero => intro st l2; exact j_none
  | succ k ih =>
    intro st l2
    rw [X7_before_L46]
    refine j_iload_n (pc := 46) C dX7_before_46 rfl 2 rfl ?_
    refine j_bipush (pc := 47) C dX7_before_47 (by decide) ?_
    refine j_icmp_ge (pc := 49) (tgt := 77) C dX7_before_49 rfl ?_ ?_
    · refine j_aload_n (pc := 77) C dX7_before_77 rfl 0 rfl ?_
      refine j_dup (pc := 78) C dX7_before_78 rfl ?_
      refine gf_X7_13 (pc := 79) C dX7_before_79 ?_
      refine j_iconst (pc := 82) C dX7_before_82 ?_
      refine j_isub (pc := 83) C dX7_before_83 ?_
      refine fp_X7_13 (pc := 84) C dX7_before_84 ?_
      refine j_let (fun s3 => ?_)
      refine j_iconst (pc := 87) C dX7_before_87 ?_
      refine j_istore_n (pc := 88) C hN dX7_before_88 rfl (by decide) (lv' := [(2, .int (oI 0)), (0, .ref (G.2.2.1 0)), (1, .int (oI l1))]) rfl ?_
      refine j_iconst (pc := 89) C dX7_before_89 ?_
      refine j_istore_n (pc := 90) C hN dX7_before_90 rfl (by decide) (lv' := [(3, .int (oI 1)), (2, .int (oI 0)), (0, .ref (G.2.2.1 0)), (1, .int (oI l1))]) rfl ?_
      exact j_sub [2, 3, 1, 0] rfl (X7_before_L91_j C hN hj FU _ _ _)
    · refine j_aload_n (pc := 52) C dX7_before_52 rfl 0 rfl ?_
      refine gf_X7_111 (pc := 53) C dX7_before_53 ?_
      refine j_iload_n (pc := 56) C dX7_before_56 rfl 2 rfl ?_
      refine j_aload_n (pc := 57) C dX7_before_57 rfl 0 rfl ?_
      refine gf_X7_23 (pc := 58) C dX7_before_58 ?_
      refine j_iload_n (pc := 61) C dX7_before_61 rfl 2 rfl ?_
      refine j_bI (fun v7 ev7 => ?_)
      refine j_iald (pc := 62) C arX7_4 ev7 dX7_before_62 ?_
      refine j_bI (fun s10 es10 => ?_)
      refine j_iast (pc := 63) C arX7_33 es10 dX7_before_63 ?_
      refine j_aload_n (pc := 64) C dX7_before_64 rfl 0 rfl ?_
      refine gf_X7_117 (pc := 65) C dX7_before_65 ?_
      refine j_iload_n (pc := 68) C dX7_before_68 rfl 2 rfl ?_
      refine j_iconst (pc := 69) C dX7_before_69 ?_
      refine j_bI (fun s11 es11 => ?_)
      refine j_iast (pc := 70) C arX7_35 es11 dX7_before_70 ?_
      refine j_iinc (pc := 71) C hN dX7_before_71 2 rfl (by decide) (lv' := [(2, .int (oI (l2 + 1))), (0, .ref (G.2.2.1 0)), (1, .int (oI l1))]) rfl ?_
      refine j_goto (pc := 74) (tgt := 46) C dX7_before_74 rfl ?_
      exact j_sub [1, 2, 0] rfl (ih _ _)
set_option maxHeartbeats 4000000 in
set_option maxRecDepth 100000 in
theorem X7_before_m (l : Launch) {G : GD} (hj : zInj sM G) {st : PS} {l1 : Int} {r : (Int × PS)} (hr : X7_before st l1 = some r) : zM l sM G yX7_before cX7_before 5 (some .int) 8 [.ref (G.2.2.1 0), .int (oI l1)] st (some (.int (oI r.1))) r.2 :=
  zEnter (f := fI) hr hj (by decide) rfl (lv := [(0, .ref (G.2.2.1 0)), (1, .int (oI l1))]) rfl (Nat.le_of_ble_eq_true rfl) (fun X _ hN C => by
    unfold X7_before
    refine j_iload_n (pc := 0) C dX7_before_0 rfl 1 rfl ?_
    refine j_iconst (pc := 1) C dX7_before_1 ?_
    refine j_icmp_eq (pc := 2) (tgt := 15) C dX7_before_2 rfl ?_ ?_
    · refine j_aload_n (pc := 15) C dX7_before_15 rfl 0 rfl ?_
      refine gf_X7_7 (pc := 16) C dX7_before_16 ?_
      refine j_iconst (pc := 19) C dX7_before_19 ?_
      refine j_icmp_le (pc := 20) (tgt := 26) C dX7_before_20 rfl ?_ ?_
      · refine j_aload_n (pc := 26) C dX7_before_26 rfl 0 rfl ?_
        refine gf_X7_13 (pc := 27) C dX7_before_27 ?_
        refine j_if_ne (pc := 30) (tgt := 36) C dX7_before_30 rfl ?_ ?_
        · refine j_bipush (pc := 33) C dX7_before_33 (by decide) ?_
          exact j_ireturn C rfl rfl rfl rfl dX7_before_35
        · refine j_aload_n (pc := 36) C dX7_before_36 rfl 0 rfl ?_
          refine j_bI (fun s1 es1 => ?_)
          refine j_callV0 (pc := 37) C obX7 rfl rfl (X7_layValues_m _ hj es1) kV_X7_359 rfl (by omega) rfl (Nat.le_of_ble_eq_true rfl) dX7_before_37 ?_
          refine j_aload_n (pc := 40) C dX7_before_40 rfl 0 rfl ?_
          refine j_bI (fun s2 es2 => ?_)
          refine j_callV0 (pc := 41) C obX7 rfl rfl (X7_keep_m _ hj es2) kV_X7_328 rfl (by omega) rfl (Nat.le_of_ble_eq_true rfl) dX7_before_41 ?_
          refine j_iconst (pc := 44) C dX7_before_44 ?_
          refine j_istore_n (pc := 45) C hN dX7_before_45 rfl (by decide) (lv' := [(2, .int (oI 0)), (0, .ref (G.2.2.1 0)), (1, .int (oI l1))]) rfl ?_
          exact j_sub [1, 2, 0] rfl (X7_before_L46_j C hN hj FU _ _)
      · refine j_bipush (pc := 23) C dX7_before_23 (by decide) ?_
        exact j_ireturn C rfl rfl rfl rfl dX7_before_25
    · refine j_aload_n (pc := 5) C dX7_before_5 rfl 0 rfl ?_
      refine j_iload_n (pc := 6) C dX7_before_6 rfl 1 rfl ?_
      refine j_callV1 (pc := 7) C obX7 rfl rfl (X7_isHouse_m _ hj rfl) kV_X7_205 rfl (by omega) rfl (Nat.le_of_ble_eq_true rfl) dX7_before_7 ?_
      refine j_if_ne (pc := 10) (tgt := 15) C dX7_before_10 rfl ?_ ?_
      · refine j_iconst (pc := 13) C dX7_before_13 ?_
        exact j_ireturn C rfl rfl rfl rfl dX7_before_14
      · refine j_aload_n (pc := 15) C dX7_before_15 rfl 0 rfl ?_
        refine gf_X7_7 (pc := 16) C dX7_before_16 ?_
        refine j_iconst (pc := 19) C dX7_before_19 ?_
        refine j_icmp_le (pc := 20) (tgt := 26) C dX7_before_20 rfl ?_ ?_
        · refine j_aload_n (pc := 26) C dX7_before_26 rfl 0 rfl ?_
          refine gf_X7_13 (pc := 27) C dX7_before_27 ?_
          refine j_if_ne (pc := 30) (tgt := 36) C dX7_before_30 rfl ?_ ?_
          · refine j_bipush (pc := 33) C dX7_before_33 (by decide) ?_
            exact j_ireturn C rfl rfl rfl rfl dX7_before_35
          · refine j_aload_n (pc := 36) C dX7_before_36 rfl 0 rfl ?_
            refine j_bI (fun s12 es12 => ?_)
            refine j_callV0 (pc := 37) C obX7 rfl rfl (X7_layValues_m _ hj es12) kV_X7_359 rfl (by omega) rfl (Nat.le_of_ble_eq_true rfl) dX7_before_37 ?_
            refine j_aload_n (pc := 40) C dX7_before_40 rfl 0 rfl ?_
            refine j_bI (fun s13 es13 => ?_)
            refine j_callV0 (pc := 41) C obX7 rfl rfl (X7_keep_m _ hj es13) kV_X7_328 rfl (by omega) rfl (Nat.le_of_ble_eq_true rfl) dX7_before_41 ?_
            refine j_iconst (pc := 44) C dX7_before_44 ?_
            refine j_istore_n (pc := 45) C hN dX7_before_45 rfl (by decide) (lv' := [(2, .int (oI 0)), (0, .ref (G.2.2.1 0)), (1, .int (oI l1))]) rfl ?_
            exact j_sub [1, 2, 0] rfl (X7_before_L46_j C hN hj FU _ _)
        · refine j_bipush (pc := 23) C dX7_before_23 (by decide) ?_
          exact j_ireturn C rfl rfl rfl rfl dX7_before_25)
def X7_see (st : PS) (l1 l2 : Int) : Option (Int × PS) := if wI l1 = wI (-1) then zlet (zu st 0 37 0) (fun s1 => some (0, s1)) else (if wI (X7_isHouse st l1) = 0 then some ((-1), st) else (if wI (X7_in st l2 0 99) = 0 then some ((-2), st) else (if wI (st 0 37) = wI 8 then some ((-4), st) else (bI (zwr st 38 8 (st 0 37) l1) (fun s2 => bI (zwr s2 39 8 (s2 0 37) l2) (fun s3 => zlet (zu s3 0 37 ((s3 0 37) + 1)) (fun s4 => some (s4 0 37, s4))))))))
set_option maxHeartbeats 4000000 in
set_option maxRecDepth 100000 in
theorem X7_see_m (l : Launch) {G : GD} (hj : zInj sM G) {st : PS} {l1 l2 : Int} {r : (Int × PS)} (hr : X7_see st l1 l2 = some r) : zM l sM G yX7_see cX7_see 3 (some .int) 2 [.ref (G.2.2.1 0), .int (oI l1), .int (oI l2)] st (some (.int (oI r.1))) r.2 :=
  zEnter (f := fI) hr hj (by decide) rfl (lv := [(0, .ref (G.2.2.1 0)), (1, .int (oI l1)), (2, .int (oI l2))]) rfl (Nat.le_of_ble_eq_true rfl) (fun X _ hN C => by
    unfold X7_see
    refine j_iload_n (pc := 0) C dX7_see_0 rfl 1 rfl ?_
    refine j_iconst (pc := 1) C dX7_see_1 ?_
    refine j_icmp_ne (pc := 2) (tgt := 12) C dX7_see_2 rfl ?_ ?_
    · refine j_aload_n (pc := 5) C dX7_see_5 rfl 0 rfl ?_
      refine j_iconst (pc := 6) C dX7_see_6 ?_
      refine fp_X7_123 (pc := 7) C dX7_see_7 ?_
      refine j_let (fun s1 => ?_)
      refine j_iconst (pc := 10) C dX7_see_10 ?_
      exact j_ireturn C rfl rfl rfl rfl dX7_see_11
    · refine j_aload_n (pc := 12) C dX7_see_12 rfl 0 rfl ?_
      refine j_iload_n (pc := 13) C dX7_see_13 rfl 1 rfl ?_
      refine j_callV1 (pc := 14) C obX7 rfl rfl (X7_isHouse_m _ hj rfl) kV_X7_205 rfl (by omega) rfl (Nat.le_of_ble_eq_true rfl) dX7_see_14 ?_
      refine j_if_ne (pc := 17) (tgt := 22) C dX7_see_17 rfl ?_ ?_
      · refine j_iconst (pc := 20) C dX7_see_20 ?_
        exact j_ireturn C rfl rfl rfl rfl dX7_see_21
      · refine j_aload_n (pc := 22) C dX7_see_22 rfl 0 rfl ?_
        refine j_iload_n (pc := 23) C dX7_see_23 rfl 2 rfl ?_
        refine j_iconst (pc := 24) C dX7_see_24 ?_
        refine j_bipush (pc := 25) C dX7_see_25 (by decide) ?_
        refine j_callV1 (pc := 27) C obX7 rfl rfl (X7_in_m _ hj rfl) kV_X7_197 rfl (by omega) rfl (Nat.le_of_ble_eq_true rfl) dX7_see_27 ?_
        refine j_if_ne (pc := 30) (tgt := 36) C dX7_see_30 rfl ?_ ?_
        · refine j_bipush (pc := 33) C dX7_see_33 (by decide) ?_
          exact j_ireturn C rfl rfl rfl rfl dX7_see_35
        · refine j_aload_n (pc := 36) C dX7_see_36 rfl 0 rfl ?_
          refine gf_X7_123 (pc := 37) C dX7_see_37 ?_
          refine j_bipush (pc := 40) C dX7_see_40 (by decide) ?_
          refine j_icmp_ne (pc := 42) (tgt := 48) C dX7_see_42 rfl ?_ ?_
          · refine j_bipush (pc := 45) C dX7_see_45 (by decide) ?_
            exact j_ireturn C rfl rfl rfl rfl dX7_see_47
          · refine j_aload_n (pc := 48) C dX7_see_48 rfl 0 rfl ?_
            refine gf_X7_126 (pc := 49) C dX7_see_49 ?_
            refine j_aload_n (pc := 52) C dX7_see_52 rfl 0 rfl ?_
            refine gf_X7_123 (pc := 53) C dX7_see_53 ?_
            refine j_iload_n (pc := 56) C dX7_see_56 rfl 1 rfl ?_
            refine j_bI (fun s2 es2 => ?_)
            refine j_iast (pc := 57) C arX7_38 es2 dX7_see_57 ?_
            refine j_aload_n (pc := 58) C dX7_see_58 rfl 0 rfl ?_
            refine gf_X7_129 (pc := 59) C dX7_see_59 ?_
            refine j_aload_n (pc := 62) C dX7_see_62 rfl 0 rfl ?_
            refine gf_X7_123 (pc := 63) C dX7_see_63 ?_
            refine j_iload_n (pc := 66) C dX7_see_66 rfl 2 rfl ?_
            refine j_bI (fun s3 es3 => ?_)
            refine j_iast (pc := 67) C arX7_39 es3 dX7_see_67 ?_
            refine j_aload_n (pc := 68) C dX7_see_68 rfl 0 rfl ?_
            refine j_dup (pc := 69) C dX7_see_69 rfl ?_
            refine gf_X7_123 (pc := 70) C dX7_see_70 ?_
            refine j_iconst (pc := 73) C dX7_see_73 ?_
            refine j_iadd (pc := 74) C dX7_see_74 ?_
            refine fp_X7_123 (pc := 75) C dX7_see_75 ?_
            refine j_let (fun s4 => ?_)
            refine j_aload_n (pc := 78) C dX7_see_78 rfl 0 rfl ?_
            refine gf_X7_123 (pc := 79) C dX7_see_79 ?_
            exact j_ireturn C rfl rfl rfl rfl dX7_see_82)
def X7_isSeen_L16  : Nat → PS → Int → Option (Int × PS)
  | 0, _, _ => none
  | k + 1, st, l2 => if wI (st 0 37) ≤ wI l2 then some (1, st) else (bI (zrd st 38 8 l2) (fun v1 => bI (zrd st 27 8 v1) (fun v2 => bI (zrd st 39 8 l2) (fun v3 => if wI v2 = wI v3 then X7_isSeen_L16 k st (l2 + 1) else (some (0, st))))))
def X7_isSeen (st : PS) (l1 : Int) : Option (Int × PS) := zlet (zu st 0 24 l1) (fun s1 => bI (X7_layNext s1) (fun s2 => zlet (zu s2 0 24 (-1)) (fun s3 => X7_isSeen_L16 FU s3 0)))
set_option maxHeartbeats 4000000 in
set_option maxRecDepth 100000 in
theorem X7_isSeen_L16_j {X : JX} {G : GD} (C : zC X sM G RX7 cX7_isSeen (some .boolean) 7) (hN : X.2.2.2.2.2.2.2.2.2.2.2.2 = 3) (hj : zInj sM G)  : ∀ (k : Nat) (st : PS) (l2 : Int), J X (zI sM G) (zQ sM G fI) st [(0, .ref (G.2.2.1 0)), (2, .int (oI l2))] 16 [] (X7_isSeen_L16 k st l2) := by
  intro k
  induction k with
  | zero => intro st l2; exact j_none
  | succ k ih =>
    intro st l2
    rw [X7_isSeen_L16]
    refine j_iload_n (pc := 16) C dX7_isSeen_16 rfl 1 rfl ?_
    refine j_aload_n (pc := 17) C dX7_isSeen_17 rfl 0 rfl ?_
    refine gf_X7_123 (pc := 18) C dX7_isSeen_18 ?_
    refine j_icmp_ge (pc := 21) (tgt := 52) C dX7_isSeen_21 rfl ?_ ?_
    · refine j_iconst (pc := 52) C dX7_isSeen_52 ?_
      exact j_ireturn C rfl rfl (znar (Or.inr rfl)) rfl dX7_isSeen_53
    · refine j_aload_n (pc := 24) C dX7_isSeen_24 rfl 0 rfl ?_
      refine gf_X7_93 (pc := 25) C dX7_isSeen_25 ?_
      refine j_aload_n (pc := 28) C dX7_isSeen_28 rfl 0 rfl ?_
      refine gf_X7_126 (pc := 29) C dX7_isSeen_29 ?_
      refine j_iload_n (pc := 32) C dX7_isSeen_32 rfl 1 rfl ?_
      refine j_bI (fun v1 ev1 => ?_)
      refine j_iald (pc := 33) C arX7_38 ev1 dX7_isSeen_33 ?_
      refine j_bI (fun v2 ev2 => ?_)
      refine j_iald (pc := 34) C arX7_27 ev2 dX7_isSeen_34 ?_
      refine j_aload_n (pc := 35) C dX7_isSeen_35 rfl 0 rfl ?_
      refine gf_X7_129 (pc := 36) C dX7_isSeen_36 ?_
      refine j_iload_n (pc := 39) C dX7_isSeen_39 rfl 1 rfl ?_
      refine j_bI (fun v3 ev3 => ?_)
      refine j_iald (pc := 40) C arX7_39 ev3 dX7_isSeen_40 ?_
      refine j_icmp_eq (pc := 41) (tgt := 46) C dX7_isSeen_41 rfl ?_ ?_
      · refine j_iinc (pc := 46) C hN dX7_isSeen_46 1 rfl (by decide) (lv' := [(2, .int (oI (l2 + 1))), (0, .ref (G.2.2.1 0))]) rfl ?_
        refine j_goto (pc := 49) (tgt := 16) C dX7_isSeen_49 rfl ?_
        exact j_sub [1, 0] rfl (ih _ _)
      · refine j_iconst (pc := 44) C dX7_isSeen_44 ?_
        exact j_ireturn C rfl rfl (znar (Or.inl rfl)) rfl dX7_isSeen_45
set_option maxHeartbeats 4000000 in
set_option maxRecDepth 100000 in
theorem X7_isSeen_m (l : Launch) {G : GD} (hj : zInj sM G) {st : PS} {l1 : Int} {r : (Int × PS)} (hr : X7_isSeen st l1 = some r) : zM l sM G yX7_isSeen cX7_isSeen 3 (some .boolean) 7 [.ref (G.2.2.1 0), .int (oI l1)] st (some (.int (oI r.1))) r.2 :=
  zEnter (f := fI) hr hj (by decide) rfl (lv := [(0, .ref (G.2.2.1 0)), (1, .int (oI l1))]) rfl (Nat.le_of_ble_eq_true rfl) (fun X _ hN C => by
    unfold X7_isSeen
    refine j_aload_n (pc := 0) C dX7_isSeen_0 rfl 0 rfl ?_
    refine j_iload_n (pc := 1) C dX7_isSeen_1 rfl 1 rfl ?_
    refine fp_X7_84 (pc := 2) C dX7_isSeen_2 ?_
    refine j_let (fun s1 => ?_)
    refine j_aload_n (pc := 5) C dX7_isSeen_5 rfl 0 rfl ?_
    refine j_bI (fun s2 es2 => ?_)
    refine j_callV0 (pc := 6) C obX7 rfl rfl (X7_layNext_m _ hj es2) kV_X7_313 rfl (by omega) rfl (Nat.le_of_ble_eq_true rfl) dX7_isSeen_6 ?_
    refine j_aload_n (pc := 9) C dX7_isSeen_9 rfl 0 rfl ?_
    refine j_iconst (pc := 10) C dX7_isSeen_10 ?_
    refine fp_X7_84 (pc := 11) C dX7_isSeen_11 ?_
    refine j_let (fun s3 => ?_)
    refine j_iconst (pc := 14) C dX7_isSeen_14 ?_
    refine j_istore_n (pc := 15) C hN dX7_isSeen_15 rfl (by decide) (lv' := [(2, .int (oI 0)), (0, .ref (G.2.2.1 0)), (1, .int (oI l1))]) rfl ?_
    exact j_sub [1, 0] rfl (X7_isSeen_L16_j C hN hj FU _ _))
def X7_lied_L36  : Nat → PS → Int → Int → Option (Int × PS)
  | 0, _, _, _ => none
  | k + 1, st, l2, l3 => if wI (st 0 0) ≤ wI l3 then some (l2, st) else (bP (X7_isSeen st l3) (fun v2 s2 => if wI v2 = 0 then X7_lied_L36 k s2 (zor l2 0) (l3 + 1) else (X7_lied_L36 k s2 (zor l2 (zshl 1 l3)) (l3 + 1))))
def X7_lied (st : PS) (l1 : Int) : Option (Int × PS) := if wI (X7_in st l1 0 1) = 0 then some ((-1), st) else (if wI l1 = wI 1 then bP (X7_isSeen st 7) (fun v1 s1 => if wI v1 = 0 then some (0, s1) else (some (1, s1))) else (X7_lied_L36 FU st 0 0))
set_option maxHeartbeats 4000000 in
set_option maxRecDepth 100000 in
theorem X7_lied_L36_j {X : JX} {G : GD} (C : zC X sM G RX7 cX7_lied (some .int) 8) (hN : X.2.2.2.2.2.2.2.2.2.2.2.2 = 4) (hj : zInj sM G)  : ∀ (k : Nat) (st : PS) (l2 : Int) (l3 : Int), J X (zI sM G) (zQ sM G fI) st [(0, .ref (G.2.2.1 0)), (2, .int (oI l2)), (3, .int (oI l3))] 36 [] (X7_lied_L36 k st l2 l3) := by
  intro k
  induction k with
  | zero => intro st l2 l3; exact j_none
  | succ k ih =>
    intro st l2 l3
    rw [X7_lied_L36]
    refine j_iload_n (pc := 36) C dX7_lied_36 rfl 2 rfl ?_
    refine j_aload_n (pc := 37) C dX7_lied_37 rfl 0 rfl ?_
    refine gf_X7_7 (pc := 38) C dX7_lied_38 ?_
    refine j_icmp_ge (pc := 41) (tgt := 68) C dX7_lied_41 rfl ?_ ?_
    · refine j_iload_n (pc := 68) C dX7_lied_68 rfl 1 rfl ?_
      exact j_ireturn C rfl rfl rfl rfl dX7_lied_69
    · refine j_iload_n (pc := 44) C dX7_lied_44 rfl 1 rfl ?_
      refine j_aload_n (pc := 45) C dX7_lied_45 rfl 0 rfl ?_
      refine j_iload_n (pc := 46) C dX7_lied_46 rfl 2 rfl ?_
      refine j_bP (fun v2 s2 es2 => ?_)
      refine j_callV1 (pc := 47) C obX7 rfl rfl (X7_isSeen_m _ hj es2) kV_X7_368 rfl (by omega) rfl (Nat.le_of_ble_eq_true rfl) dX7_lied_47 ?_
      refine j_if_eq (pc := 50) (tgt := 59) C dX7_lied_50 rfl ?_ ?_
      · refine j_iconst (pc := 59) C dX7_lied_59 ?_
        refine j_ior (pc := 60) C dX7_lied_60 ?_
        refine j_istore_n (pc := 61) C hN dX7_lied_61 rfl (by decide) (lv' := [(2, .int (oI (zor l2 0))), (0, .ref (G.2.2.1 0)), (3, .int (oI l3))]) rfl ?_
        refine j_iinc (pc := 62) C hN dX7_lied_62 2 rfl (by decide) (lv' := [(3, .int (oI (l3 + 1))), (2, .int (oI (zor l2 0))), (0, .ref (G.2.2.1 0))]) rfl ?_
        refine j_goto (pc := 65) (tgt := 36) C dX7_lied_65 rfl ?_
        exact j_sub [2, 1, 0] rfl (ih _ _ _)
      · refine j_iconst (pc := 53) C dX7_lied_53 ?_
        refine j_iload_n (pc := 54) C dX7_lied_54 rfl 2 rfl ?_
        refine j_ishl (pc := 55) C dX7_lied_55 ?_
        refine j_goto (pc := 56) (tgt := 60) C dX7_lied_56 rfl ?_
        refine j_ior (pc := 60) C dX7_lied_60 ?_
        refine j_istore_n (pc := 61) C hN dX7_lied_61 rfl (by decide) (lv' := [(2, .int (oI (zor l2 (zshl 1 l3)))), (0, .ref (G.2.2.1 0)), (3, .int (oI l3))]) rfl ?_
        refine j_iinc (pc := 62) C hN dX7_lied_62 2 rfl (by decide) (lv' := [(3, .int (oI (l3 + 1))), (2, .int (oI (zor l2 (zshl 1 l3)))), (0, .ref (G.2.2.1 0))]) rfl ?_
        refine j_goto (pc := 65) (tgt := 36) C dX7_lied_65 rfl ?_
        exact j_sub [2, 1, 0] rfl (ih _ _ _)
set_option maxHeartbeats 4000000 in
set_option maxRecDepth 100000 in
theorem X7_lied_m (l : Launch) {G : GD} (hj : zInj sM G) {st : PS} {l1 : Int} {r : (Int × PS)} (hr : X7_lied st l1 = some r) : zM l sM G yX7_lied cX7_lied 4 (some .int) 8 [.ref (G.2.2.1 0), .int (oI l1)] st (some (.int (oI r.1))) r.2 :=
  zEnter (f := fI) hr hj (by decide) rfl (lv := [(0, .ref (G.2.2.1 0)), (1, .int (oI l1))]) rfl (Nat.le_of_ble_eq_true rfl) (fun X _ hN C => by
    unfold X7_lied
    refine j_aload_n (pc := 0) C dX7_lied_0 rfl 0 rfl ?_
    refine j_iload_n (pc := 1) C dX7_lied_1 rfl 1 rfl ?_
    refine j_iconst (pc := 2) C dX7_lied_2 ?_
    refine j_iconst (pc := 3) C dX7_lied_3 ?_
    refine j_callV1 (pc := 4) C obX7 rfl rfl (X7_in_m _ hj rfl) kV_X7_197 rfl (by omega) rfl (Nat.le_of_ble_eq_true rfl) dX7_lied_4 ?_
    refine j_if_ne (pc := 7) (tgt := 12) C dX7_lied_7 rfl ?_ ?_
    · refine j_iconst (pc := 10) C dX7_lied_10 ?_
      exact j_ireturn C rfl rfl rfl rfl dX7_lied_11
    · refine j_iload_n (pc := 12) C dX7_lied_12 rfl 1 rfl ?_
      refine j_iconst (pc := 13) C dX7_lied_13 ?_
      refine j_icmp_ne (pc := 14) (tgt := 32) C dX7_lied_14 rfl ?_ ?_
      · refine j_aload_n (pc := 17) C dX7_lied_17 rfl 0 rfl ?_
        refine j_bipush (pc := 18) C dX7_lied_18 (by decide) ?_
        refine j_bP (fun v1 s1 es1 => ?_)
        refine j_callV1 (pc := 20) C obX7 rfl rfl (X7_isSeen_m _ hj es1) kV_X7_368 rfl (by omega) rfl (Nat.le_of_ble_eq_true rfl) dX7_lied_20 ?_
        refine j_if_eq (pc := 23) (tgt := 30) C dX7_lied_23 rfl ?_ ?_
        · refine j_iconst (pc := 30) C dX7_lied_30 ?_
          exact j_ireturn C rfl rfl rfl rfl dX7_lied_31
        · refine j_iconst (pc := 26) C dX7_lied_26 ?_
          refine j_goto (pc := 27) (tgt := 31) C dX7_lied_27 rfl ?_
          exact j_ireturn C rfl rfl rfl rfl dX7_lied_31
      · refine j_iconst (pc := 32) C dX7_lied_32 ?_
        refine j_istore_n (pc := 33) C hN dX7_lied_33 rfl (by decide) (lv' := [(2, .int (oI 0)), (0, .ref (G.2.2.1 0)), (1, .int (oI l1))]) rfl ?_
        refine j_iconst (pc := 34) C dX7_lied_34 ?_
        refine j_istore_n (pc := 35) C hN dX7_lied_35 rfl (by decide) (lv' := [(3, .int (oI 0)), (2, .int (oI 0)), (0, .ref (G.2.2.1 0)), (1, .int (oI l1))]) rfl ?_
        exact j_sub [2, 1, 0] rfl (X7_lied_L36_j C hN hj FU _ _ _))
def X7_wed_L108  : Nat → PS → Int → Int → Option (Int × PS)
  | 0, _, _, _ => none
  | k + 1, st, l4, l5 => if wI (st 0 0) ≤ wI l5 then bI (X7_putBack st) (fun s7 => some (l4, s7)) else (bI (zrd st 4 8 l5) (fun v3 => bI (zrd st 31 8 l5) (fun v4 => if wI v3 = wI v4 then X7_wed_L108 k st (l4 + 0) (l5 + 1) else (X7_wed_L108 k st (l4 + 1) (l5 + 1)))))
def X7_wed_L38 (l1 : Int) (l2 : Int) : Nat → PS → Int → Option (Int × PS)
  | 0, _, _ => none
  | k + 1, st, l3 => if wI 8 ≤ wI l3 then bI (X7_putBack st) (fun s3 => bI (zrd s3 4 8 l1) (fun v1 => bI (zrd s3 4 8 l2) (fun v2 => bI (zwr s3 4 8 l1 (zdiv (v1 + v2) 2)) (fun s4 => bI (zwr s4 4 8 l2 (zdiv (v1 + v2) 2)) (fun s5 => bI (X7_goYears s5 10) (fun s6 => X7_wed_L108 FU s6 0 0)))))) else (bI (zrd st 4 8 l3) (fun v5 => bI (zwr st 31 8 l3 v5) (fun s8 => X7_wed_L38 l1 l2 k s8 (l3 + 1))))
def X7_wed (st : PS) (l1 l2 : Int) : Option (Int × PS) := if wI (X7_isHouse st l1) = 0 then some ((-1), st) else (if wI (X7_isHouse st l2) = 0 then some ((-1), st) else (if wI l1 = wI l2 then some ((-2), st) else (bI (X7_keep st) (fun s1 => bI (X7_goYears s1 10) (fun s2 => X7_wed_L38 l1 l2 FU s2 0)))))
set_option maxHeartbeats 4000000 in
set_option maxRecDepth 100000 in
theorem X7_wed_L108_j {X : JX} {G : GD} (C : zC X sM G RX7 cX7_wed (some .int) 9) (hN : X.2.2.2.2.2.2.2.2.2.2.2.2 = 6) (hj : zInj sM G)  : ∀ (k : Nat) (st : PS) (l4 : Int) (l5 : Int), J X (zI sM G) (zQ sM G fI) st [(0, .ref (G.2.2.1 0)), (4, .int (oI l4)), (5, .int (oI l5))] 108 [] (X7_wed_L108 k st l4 l5) := by
  intro k
  induction k with
  | zero => intro st l4 l5; exact j_none
  | succ k ih =>
    intro st l4 l5
    rw [X7_wed_L108]
    refine j_iload (pc := 108) C dX7_wed_108 2 rfl ?_
    refine j_aload_n (pc := 110) C dX7_wed_110 rfl 0 rfl ?_
    refine gf_X7_7 (pc := 111) C dX7_wed_111 ?_
    refine j_icmp_ge (pc := 114) (tgt := 150) C dX7_wed_114 rfl ?_ ?_
    · refine j_aload_n (pc := 150) C dX7_wed_150 rfl 0 rfl ?_
      refine j_bI (fun s7 es7 => ?_)
      refine j_callV0 (pc := 151) C obX7 rfl rfl (X7_putBack_m _ hj es7) kV_X7_334 rfl (by omega) rfl (Nat.le_of_ble_eq_true rfl) dX7_wed_151 ?_
      refine j_iload (pc := 154) C dX7_wed_154 1 rfl ?_
      exact j_ireturn C rfl rfl rfl rfl dX7_wed_156
    · refine j_iload (pc := 117) C dX7_wed_117 1 rfl ?_
      refine j_aload_n (pc := 119) C dX7_wed_119 rfl 0 rfl ?_
      refine gf_X7_23 (pc := 120) C dX7_wed_120 ?_
      refine j_iload (pc := 123) C dX7_wed_123 2 rfl ?_
      refine j_bI (fun v3 ev3 => ?_)
      refine j_iald (pc := 125) C arX7_4 ev3 dX7_wed_125 ?_
      refine j_aload_n (pc := 126) C dX7_wed_126 rfl 0 rfl ?_
      refine gf_X7_105 (pc := 127) C dX7_wed_127 ?_
      refine j_iload (pc := 130) C dX7_wed_130 2 rfl ?_
      refine j_bI (fun v4 ev4 => ?_)
      refine j_iald (pc := 132) C arX7_31 ev4 dX7_wed_132 ?_
      refine j_icmp_ne (pc := 133) (tgt := 140) C dX7_wed_133 rfl ?_ ?_
      · refine j_iconst (pc := 136) C dX7_wed_136 ?_
        refine j_goto (pc := 137) (tgt := 141) C dX7_wed_137 rfl ?_
        refine j_iadd (pc := 141) C dX7_wed_141 ?_
        refine j_istore (pc := 142) C hN dX7_wed_142 (by decide) (lv' := [(4, .int (oI (l4 + 0))), (0, .ref (G.2.2.1 0)), (5, .int (oI l5))]) rfl ?_
        refine j_iinc (pc := 144) C hN dX7_wed_144 2 rfl (by decide) (lv' := [(5, .int (oI (l5 + 1))), (4, .int (oI (l4 + 0))), (0, .ref (G.2.2.1 0))]) rfl ?_
        refine j_goto (pc := 147) (tgt := 108) C dX7_wed_147 rfl ?_
        exact j_sub [2, 1, 0] rfl (ih _ _ _)
      · refine j_iconst (pc := 140) C dX7_wed_140 ?_
        refine j_iadd (pc := 141) C dX7_wed_141 ?_
        refine j_istore (pc := 142) C hN dX7_wed_142 (by decide) (lv' := [(4, .int (oI (l4 + 1))), (0, .ref (G.2.2.1 0)), (5, .int (oI l5))]) rfl ?_
        refine j_iinc (pc := 144) C hN dX7_wed_144 2 rfl (by decide) (lv' := [(5, .int (oI (l5 + 1))), (4, .int (oI (l4 + 1))), (0, .ref (G.2.2.1 0))]) rfl ?_
        refine j_goto (pc := 147) (tgt := 108) C dX7_wed_147 rfl ?_
        exact j_sub [2, 1, 0] rfl (ih _ _ _)
set_option maxHeartbeats 4000000 in
set_option maxRecDepth 100000 in
theorem X7_wed_L38_j {X : JX} {G : GD} (C : zC X sM G RX7 cX7_wed (some .int) 9) (hN : X.2.2.2.2.2.2.2.2.2.2.2.2 = 6) (hj : zInj sM G) {l1 : Int} {l2 : Int} : ∀ (k : Nat) (st : PS) (l3 : Int), J X (zI sM G) (zQ sM G fI) st [(0, .ref (G.2.2.1 0)), (1, .int (oI l1)), (2, .int (oI l2)), (3, .int (oI l3))] 38 [] (X7_wed_L38 l1 l2 k st l3) := by
  intro k
  induction k with
  | zero => intro st l3; exact j_none
  | succ k ih =>
    intro st l3
    rw [X7_wed_L38]
    refine j_iload_n (pc := 38) C dX7_wed_38 rfl 3 rfl ?_
    refine j_bipush (pc := 39) C dX7_wed_39 (by decide) ?_
    refine j_icmp_ge (pc := 41) (tgt := 62) C dX7_wed_41 rfl ?_ ?_
    · refine j_aload_n (pc := 62) C dX7_wed_62 rfl 0 rfl ?_
      refine j_bI (fun s3 es3 => ?_)
      refine j_callV0 (pc := 63) C obX7 rfl rfl (X7_putBack_m _ hj es3) kV_X7_334 rfl (by omega) rfl (Nat.le_of_ble_eq_true rfl) dX7_wed_63 ?_
      refine j_aload_n (pc := 66) C dX7_wed_66 rfl 0 rfl ?_
      refine gf_X7_23 (pc := 67) C dX7_wed_67 ?_
      refine j_iload_n (pc := 70) C dX7_wed_70 rfl 1 rfl ?_
      refine j_bI (fun v1 ev1 => ?_)
      refine j_iald (pc := 71) C arX7_4 ev1 dX7_wed_71 ?_
      refine j_aload_n (pc := 72) C dX7_wed_72 rfl 0 rfl ?_
      refine gf_X7_23 (pc := 73) C dX7_wed_73 ?_
      refine j_iload_n (pc := 76) C dX7_wed_76 rfl 2 rfl ?_
      refine j_bI (fun v2 ev2 => ?_)
      refine j_iald (pc := 77) C arX7_4 ev2 dX7_wed_77 ?_
      refine j_iadd (pc := 78) C dX7_wed_78 ?_
      refine j_iconst (pc := 79) C dX7_wed_79 ?_
      refine j_idiv (pc := 80) C (by decide) dX7_wed_80 ?_
      refine j_istore_n (pc := 81) C hN dX7_wed_81 rfl (by decide) (lv' := [(3, .int (oI (zdiv (v1 + v2) 2))), (0, .ref (G.2.2.1 0)), (1, .int (oI l1)), (2, .int (oI l2))]) rfl ?_
      refine j_aload_n (pc := 82) C dX7_wed_82 rfl 1 rfl ?_
      refine gf_X7_23 (pc := 83) C dX7_wed_83 ?_
      refine j_iload_n (pc := 86) C dX7_wed_86 rfl 2 rfl ?_
      refine j_iload_n (pc := 87) C dX7_wed_87 rfl 0 rfl ?_
      refine j_bI (fun s4 es4 => ?_)
      refine j_iast (pc := 88) C arX7_4 es4 dX7_wed_88 ?_
      refine j_aload_n (pc := 89) C dX7_wed_89 rfl 1 rfl ?_
      refine gf_X7_23 (pc := 90) C dX7_wed_90 ?_
      refine j_iload_n (pc := 93) C dX7_wed_93 rfl 3 rfl ?_
      refine j_iload_n (pc := 94) C dX7_wed_94 rfl 0 rfl ?_
      refine j_bI (fun s5 es5 => ?_)
      refine j_iast (pc := 95) C arX7_4 es5 dX7_wed_95 ?_
      refine j_aload_n (pc := 96) C dX7_wed_96 rfl 1 rfl ?_
      refine j_bipush (pc := 97) C dX7_wed_97 (by decide) ?_
      refine j_bI (fun s6 es6 => ?_)
      refine j_callV0 (pc := 99) C obX7 rfl rfl (X7_goYears_m _ hj es6) kV_X7_322 rfl (by omega) rfl (Nat.le_of_ble_eq_true rfl) dX7_wed_99 ?_
      refine j_iconst (pc := 102) C dX7_wed_102 ?_
      refine j_istore (pc := 103) C hN dX7_wed_103 (by decide) (lv' := [(4, .int (oI 0)), (3, .int (oI (zdiv (v1 + v2) 2))), (0, .ref (G.2.2.1 0)), (1, .int (oI l1)), (2, .int (oI l2))]) rfl ?_
      refine j_iconst (pc := 105) C dX7_wed_105 ?_
      refine j_istore (pc := 106) C hN dX7_wed_106 (by decide) (lv' := [(5, .int (oI 0)), (4, .int (oI 0)), (3, .int (oI (zdiv (v1 + v2) 2))), (0, .ref (G.2.2.1 0)), (1, .int (oI l1)), (2, .int (oI l2))]) rfl ?_
      exact j_sub [3, 1, 0] rfl (X7_wed_L108_j C hN hj FU _ _ _)
    · refine j_aload_n (pc := 44) C dX7_wed_44 rfl 0 rfl ?_
      refine gf_X7_105 (pc := 45) C dX7_wed_45 ?_
      refine j_iload_n (pc := 48) C dX7_wed_48 rfl 3 rfl ?_
      refine j_aload_n (pc := 49) C dX7_wed_49 rfl 0 rfl ?_
      refine gf_X7_23 (pc := 50) C dX7_wed_50 ?_
      refine j_iload_n (pc := 53) C dX7_wed_53 rfl 3 rfl ?_
      refine j_bI (fun v5 ev5 => ?_)
      refine j_iald (pc := 54) C arX7_4 ev5 dX7_wed_54 ?_
      refine j_bI (fun s8 es8 => ?_)
      refine j_iast (pc := 55) C arX7_31 es8 dX7_wed_55 ?_
      refine j_iinc (pc := 56) C hN dX7_wed_56 3 rfl (by decide) (lv' := [(3, .int (oI (l3 + 1))), (0, .ref (G.2.2.1 0)), (1, .int (oI l1)), (2, .int (oI l2))]) rfl ?_
      refine j_goto (pc := 59) (tgt := 38) C dX7_wed_59 rfl ?_
      exact j_sub [1, 2, 3, 0] rfl (ih _ _)
set_option maxHeartbeats 4000000 in
set_option maxRecDepth 100000 in
theorem X7_wed_m (l : Launch) {G : GD} (hj : zInj sM G) {st : PS} {l1 l2 : Int} {r : (Int × PS)} (hr : X7_wed st l1 l2 = some r) : zM l sM G yX7_wed cX7_wed 6 (some .int) 9 [.ref (G.2.2.1 0), .int (oI l1), .int (oI l2)] st (some (.int (oI r.1))) r.2 :=
  zEnter (f := fI) hr hj (by decide) rfl (lv := [(0, .ref (G.2.2.1 0)), (1, .int (oI l1)), (2, .int (oI l2))]) rfl (Nat.le_of_ble_eq_true rfl) (fun X _ hN C => by
    unfold X7_wed
    refine j_aload_n (pc := 0) C dX7_wed_0 rfl 0 rfl ?_
    refine j_iload_n (pc := 1) C dX7_wed_1 rfl 1 rfl ?_
    refine j_callV1 (pc := 2) C obX7 rfl rfl (X7_isHouse_m _ hj rfl) kV_X7_205 rfl (by omega) rfl (Nat.le_of_ble_eq_true rfl) dX7_wed_2 ?_
    refine j_if_eq (pc := 5) (tgt := 16) C dX7_wed_5 rfl ?_ ?_
    · refine j_iconst (pc := 16) C dX7_wed_16 ?_
      exact j_ireturn C rfl rfl rfl rfl dX7_wed_17
    · refine j_aload_n (pc := 8) C dX7_wed_8 rfl 0 rfl ?_
      refine j_iload_n (pc := 9) C dX7_wed_9 rfl 2 rfl ?_
      refine j_callV1 (pc := 10) C obX7 rfl rfl (X7_isHouse_m _ hj rfl) kV_X7_205 rfl (by omega) rfl (Nat.le_of_ble_eq_true rfl) dX7_wed_10 ?_
      refine j_if_ne (pc := 13) (tgt := 18) C dX7_wed_13 rfl ?_ ?_
      · refine j_iconst (pc := 16) C dX7_wed_16 ?_
        exact j_ireturn C rfl rfl rfl rfl dX7_wed_17
      · refine j_iload_n (pc := 18) C dX7_wed_18 rfl 1 rfl ?_
        refine j_iload_n (pc := 19) C dX7_wed_19 rfl 2 rfl ?_
        refine j_icmp_ne (pc := 20) (tgt := 26) C dX7_wed_20 rfl ?_ ?_
        · refine j_bipush (pc := 23) C dX7_wed_23 (by decide) ?_
          exact j_ireturn C rfl rfl rfl rfl dX7_wed_25
        · refine j_aload_n (pc := 26) C dX7_wed_26 rfl 0 rfl ?_
          refine j_bI (fun s1 es1 => ?_)
          refine j_callV0 (pc := 27) C obX7 rfl rfl (X7_keep_m _ hj es1) kV_X7_328 rfl (by omega) rfl (Nat.le_of_ble_eq_true rfl) dX7_wed_27 ?_
          refine j_aload_n (pc := 30) C dX7_wed_30 rfl 0 rfl ?_
          refine j_bipush (pc := 31) C dX7_wed_31 (by decide) ?_
          refine j_bI (fun s2 es2 => ?_)
          refine j_callV0 (pc := 33) C obX7 rfl rfl (X7_goYears_m _ hj es2) kV_X7_322 rfl (by omega) rfl (Nat.le_of_ble_eq_true rfl) dX7_wed_33 ?_
          refine j_iconst (pc := 36) C dX7_wed_36 ?_
          refine j_istore_n (pc := 37) C hN dX7_wed_37 rfl (by decide) (lv' := [(3, .int (oI 0)), (0, .ref (G.2.2.1 0)), (1, .int (oI l1)), (2, .int (oI l2))]) rfl ?_
          exact j_sub [1, 2, 3, 0] rfl (X7_wed_L38_j C hN hj FU _ _))
def X7_divisor_L5  (st : PS) : Nat → Int → Int → Option Int
  | 0, _, _ => none
  | k + 1, l3, l4 => if wI l4 = 0 then some l3 else (znz l4 (X7_divisor_L5 st k l4 (zrem l3 l4)))
def X7_divisor (st : PS) (l1 l2 : Int) : Option Int := X7_divisor_L5 st FU l1 l2
set_option maxHeartbeats 4000000 in
set_option maxRecDepth 100000 in
theorem X7_divisor_L5_j {X : JX} {G : GD} (C : zC X sM G RX7 cX7_divisor (some .int) 0) (hN : X.2.2.2.2.2.2.2.2.2.2.2.2 = 6) (hj : zInj sM G)  {st : PS} : ∀ (k : Nat) (l3 : Int) (l4 : Int), J X (zI sM G) (zQ sM G (fR st)) st [(3, .int (oI l3)), (4, .int (oI l4))] 5 [] (X7_divisor_L5 st k l3 l4) := by
  intro k
  induction k with
  | zero => intro l3 l4; exact j_none
  | succ k ih =>
    intro l3 l4
    rw [X7_divisor_L5]
    refine j_iload (pc := 5) C dX7_divisor_5 1 rfl ?_
    refine j_if_eq (pc := 7) (tgt := 26) C dX7_divisor_7 rfl ?_ ?_
    · refine j_iload_n (pc := 26) C dX7_divisor_26 rfl 0 rfl ?_
      exact j_ireturn C rfl rfl rfl rfl dX7_divisor_27
    · refine j_iload_n (pc := 10) C dX7_divisor_10 rfl 0 rfl ?_
      refine j_iload (pc := 11) C dX7_divisor_11 1 rfl ?_
      refine j_nz (fun hz => ?_)
      refine j_irem (pc := 13) C hz dX7_divisor_13 ?_
      refine j_istore (pc := 14) C hN dX7_divisor_14 (by decide) (lv' := [(5, .int (oI (zrem l3 l4))), (3, .int (oI l3)), (4, .int (oI l4))]) rfl ?_
      refine j_iload (pc := 16) C dX7_divisor_16 2 rfl ?_
      refine j_istore_n (pc := 18) C hN dX7_divisor_18 rfl (by decide) (lv' := [(3, .int (oI l4)), (5, .int (oI (zrem l3 l4))), (4, .int (oI l4))]) rfl ?_
      refine j_iload (pc := 19) C dX7_divisor_19 1 rfl ?_
      refine j_istore (pc := 21) C hN dX7_divisor_21 (by decide) (lv' := [(4, .int (oI (zrem l3 l4))), (3, .int (oI l4)), (5, .int (oI (zrem l3 l4)))]) rfl ?_
      refine j_goto (pc := 23) (tgt := 5) C dX7_divisor_23 rfl ?_
      exact j_sub [1, 0] rfl (ih _ _)
set_option maxHeartbeats 4000000 in
set_option maxRecDepth 100000 in
theorem X7_divisor_m (l : Launch) {G : GD} (hj : zInj sM G) {st : PS} {l1 l2 : Int} {r : Int} (hr : X7_divisor st l1 l2 = some r) : zM l sM G yX7_divisor cX7_divisor 6 (some .int) 0 [.ref (G.2.2.1 0), .int (oI l1), .int (oI l2)] st (some (.int (oI r))) st :=
  zEnter (f := fR st) hr hj (by decide) rfl (lv := [(0, .ref (G.2.2.1 0)), (1, .int (oI l1)), (2, .int (oI l2))]) rfl (Nat.le_of_ble_eq_true rfl) (fun X _ hN C => by
    unfold X7_divisor
    refine j_iload_n (pc := 0) C dX7_divisor_0 rfl 1 rfl ?_
    refine j_istore_n (pc := 1) C hN dX7_divisor_1 rfl (by decide) (lv' := [(3, .int (oI l1)), (0, .ref (G.2.2.1 0)), (1, .int (oI l1)), (2, .int (oI l2))]) rfl ?_
    refine j_iload_n (pc := 2) C dX7_divisor_2 rfl 3 rfl ?_
    refine j_istore (pc := 3) C hN dX7_divisor_3 (by decide) (lv' := [(4, .int (oI l2)), (3, .int (oI l1)), (0, .ref (G.2.2.1 0)), (1, .int (oI l1)), (2, .int (oI l2))]) rfl ?_
    exact j_sub [1, 0] rfl (X7_divisor_L5_j C hN hj FU _ _))
def X7_lowest (st : PS) (l1 l2 l3 : Int) : Option Int := bI (X7_divisor st l1 l2) (fun v1 => if wI l3 = 0 then znz v1 (some (wI (zdiv l1 v1))) else (znz v1 (some (wI (zdiv l2 v1)))))
set_option maxHeartbeats 4000000 in
set_option maxRecDepth 100000 in
theorem X7_lowest_m (l : Launch) {G : GD} (hj : zInj sM G) {st : PS} {l1 l2 l3 : Int} {r : Int} (hr : X7_lowest st l1 l2 l3 = some r) : zM l sM G yX7_lowest cX7_lowest 5 (some .long) 1 [.ref (G.2.2.1 0), .int (oI l1), .int (oI l2), .int (oI l3)] st (some (.long (oL r))) st :=
  zEnter (f := fL st) hr hj (by decide) rfl (lv := [(0, .ref (G.2.2.1 0)), (1, .int (oI l1)), (2, .int (oI l2)), (3, .int (oI l3))]) rfl (Nat.le_of_ble_eq_true rfl) (fun X _ hN C => by
    unfold X7_lowest
    refine j_aload_n (pc := 0) C dX7_lowest_0 rfl 0 rfl ?_
    refine j_iload_n (pc := 1) C dX7_lowest_1 rfl 1 rfl ?_
    refine j_iload_n (pc := 2) C dX7_lowest_2 rfl 2 rfl ?_
    refine j_bI (fun v1 ev1 => ?_)
    refine j_callV1 (pc := 3) C obX7 rfl rfl (X7_divisor_m _ hj ev1) kV_X7_371 rfl (by omega) rfl (Nat.le_of_ble_eq_true rfl) dX7_lowest_3 ?_
    refine j_istore (pc := 6) C hN dX7_lowest_6 (by decide) (lv' := [(4, .int (oI v1)), (0, .ref (G.2.2.1 0)), (1, .int (oI l1)), (2, .int (oI l2)), (3, .int (oI l3))]) rfl ?_
    refine j_iload_n (pc := 8) C dX7_lowest_8 rfl 4 rfl ?_
    refine j_if_ne (pc := 9) (tgt := 20) C dX7_lowest_9 rfl ?_ ?_
    · refine j_iload_n (pc := 12) C dX7_lowest_12 rfl 2 rfl ?_
      refine j_iload (pc := 13) C dX7_lowest_13 0 rfl ?_
      refine j_nz (fun hz => ?_)
      refine j_idiv (pc := 15) C hz dX7_lowest_15 ?_
      refine j_i2l (pc := 16) C dX7_lowest_16 ?_
      refine j_goto (pc := 17) (tgt := 25) C dX7_lowest_17 rfl ?_
      exact j_lreturn C rfl rfl dX7_lowest_25
    · refine j_iload_n (pc := 20) C dX7_lowest_20 rfl 3 rfl ?_
      refine j_iload (pc := 21) C dX7_lowest_21 0 rfl ?_
      refine j_nz (fun hz => ?_)
      refine j_idiv (pc := 23) C hz dX7_lowest_23 ?_
      refine j_i2l (pc := 24) C dX7_lowest_24 ?_
      exact j_lreturn C rfl rfl dX7_lowest_25)
def X7_odds_L39 (l1 : Int) (l2 : Int) (l3 : Int) : Nat → PS → Int → Int → Option (Int × PS)
  | 0, _, _, _ => none
  | k + 1, st, l4, l5 => if wI (st 0 0) ≤ wI l5 then bI (X7_lowest st l4 (st 0 0) l3) (fun v1 => some (v1, st)) else (bP (X7_withGift st l5 9 l1) (fun v2 s1 => if wI v2 < wI l2 then X7_odds_L39 l1 l2 l3 k s1 (l4 + 0) (l5 + 1) else (X7_odds_L39 l1 l2 l3 k s1 (l4 + 1) (l5 + 1))))
def X7_odds (st : PS) (l1 l2 l3 : Int) : Option (Int × PS) := if wI (X7_isHouse st l1) = 0 then some ((-9223372036854775808), st) else (if wI (X7_in st l2 0 99) = 0 then some ((-9223372036854775808), st) else (if wI (X7_in st l3 0 1) = 0 then some ((-9223372036854775808), st) else (X7_odds_L39 l1 l2 l3 FU st 0 0)))
set_option maxHeartbeats 4000000 in
set_option maxRecDepth 100000 in
theorem X7_odds_L39_j {X : JX} {G : GD} (C : zC X sM G RX7 cX7_odds (some .long) 11) (hN : X.2.2.2.2.2.2.2.2.2.2.2.2 = 6) (hj : zInj sM G) {l1 : Int} {l2 : Int} {l3 : Int} : ∀ (k : Nat) (st : PS) (l4 : Int) (l5 : Int), J X (zI sM G) (zQ sM G fLI) st [(0, .ref (G.2.2.1 0)), (1, .int (oI l1)), (2, .int (oI l2)), (3, .int (oI l3)), (4, .int (oI l4)), (5, .int (oI l5))] 39 [] (X7_odds_L39 l1 l2 l3 k st l4 l5) := by
  intro k
  induction k with
  | zero => intro st l4 l5; exact j_none
  | succ k ih =>
    intro st l4 l5
    rw [X7_odds_L39]
    refine j_iload (pc := 39) C dX7_odds_39 5 rfl ?_
    refine j_aload_n (pc := 41) C dX7_odds_41 rfl 0 rfl ?_
    refine gf_X7_7 (pc := 42) C dX7_odds_42 ?_
    refine j_icmp_ge (pc := 45) (tgt := 77) C dX7_odds_45 rfl ?_ ?_
    · refine j_aload_n (pc := 77) C dX7_odds_77 rfl 0 rfl ?_
      refine j_iload (pc := 78) C dX7_odds_78 4 rfl ?_
      refine j_aload_n (pc := 80) C dX7_odds_80 rfl 0 rfl ?_
      refine gf_X7_7 (pc := 81) C dX7_odds_81 ?_
      refine j_iload_n (pc := 84) C dX7_odds_84 rfl 3 rfl ?_
      refine j_bI (fun v1 ev1 => ?_)
      refine j_callV1 (pc := 85) C obX7 rfl rfl (X7_lowest_m _ hj ev1) kV_X7_376 rfl (by omega) rfl (Nat.le_of_ble_eq_true rfl) dX7_odds_85 ?_
      exact j_lreturn C rfl rfl dX7_odds_88
    · refine j_iload (pc := 48) C dX7_odds_48 4 rfl ?_
      refine j_aload_n (pc := 50) C dX7_odds_50 rfl 0 rfl ?_
      refine j_iload (pc := 51) C dX7_odds_51 5 rfl ?_
      refine j_bipush (pc := 53) C dX7_odds_53 (by decide) ?_
      refine j_iload_n (pc := 55) C dX7_odds_55 rfl 1 rfl ?_
      refine j_bP (fun v2 s1 es1 => ?_)
      refine j_callV1 (pc := 56) C obX7 rfl rfl (X7_withGift_m _ hj es1) kV_X7_340 rfl (by omega) rfl (Nat.le_of_ble_eq_true rfl) dX7_odds_56 ?_
      refine j_iload_n (pc := 59) C dX7_odds_59 rfl 2 rfl ?_
      refine j_icmp_lt (pc := 60) (tgt := 67) C dX7_odds_60 rfl ?_ ?_
      · refine j_iconst (pc := 67) C dX7_odds_67 ?_
        refine j_iadd (pc := 68) C dX7_odds_68 ?_
        refine j_istore (pc := 69) C hN dX7_odds_69 (by decide) (lv' := [(4, .int (oI (l4 + 0))), (0, .ref (G.2.2.1 0)), (1, .int (oI l1)), (2, .int (oI l2)), (3, .int (oI l3)), (5, .int (oI l5))]) rfl ?_
        refine j_iinc (pc := 71) C hN dX7_odds_71 5 rfl (by decide) (lv' := [(5, .int (oI (l5 + 1))), (4, .int (oI (l4 + 0))), (0, .ref (G.2.2.1 0)), (1, .int (oI l1)), (2, .int (oI l2)), (3, .int (oI l3))]) rfl ?_
        refine j_goto (pc := 74) (tgt := 39) C dX7_odds_74 rfl ?_
        exact j_sub [2, 3, 4, 5, 1, 0] rfl (ih _ _ _)
      · refine j_iconst (pc := 63) C dX7_odds_63 ?_
        refine j_goto (pc := 64) (tgt := 68) C dX7_odds_64 rfl ?_
        refine j_iadd (pc := 68) C dX7_odds_68 ?_
        refine j_istore (pc := 69) C hN dX7_odds_69 (by decide) (lv' := [(4, .int (oI (l4 + 1))), (0, .ref (G.2.2.1 0)), (1, .int (oI l1)), (2, .int (oI l2)), (3, .int (oI l3)), (5, .int (oI l5))]) rfl ?_
        refine j_iinc (pc := 71) C hN dX7_odds_71 5 rfl (by decide) (lv' := [(5, .int (oI (l5 + 1))), (4, .int (oI (l4 + 1))), (0, .ref (G.2.2.1 0)), (1, .int (oI l1)), (2, .int (oI l2)), (3, .int (oI l3))]) rfl ?_
        refine j_goto (pc := 74) (tgt := 39) C dX7_odds_74 rfl ?_
        exact j_sub [2, 3, 4, 5, 1, 0] rfl (ih _ _ _)
set_option maxHeartbeats 4000000 in
set_option maxRecDepth 100000 in
theorem X7_odds_m (l : Launch) {G : GD} (hj : zInj sM G) {st : PS} {l1 l2 l3 : Int} {r : (Int × PS)} (hr : X7_odds st l1 l2 l3 = some r) : zM l sM G yX7_odds cX7_odds 6 (some .long) 11 [.ref (G.2.2.1 0), .int (oI l1), .int (oI l2), .int (oI l3)] st (some (.long (oL r.1))) r.2 :=
  zEnter (f := fLI) hr hj (by decide) rfl (lv := [(0, .ref (G.2.2.1 0)), (1, .int (oI l1)), (2, .int (oI l2)), (3, .int (oI l3))]) rfl (Nat.le_of_ble_eq_true rfl) (fun X _ hN C => by
    unfold X7_odds
    refine j_aload_n (pc := 0) C dX7_odds_0 rfl 0 rfl ?_
    refine j_iload_n (pc := 1) C dX7_odds_1 rfl 1 rfl ?_
    refine j_callV1 (pc := 2) C obX7 rfl rfl (X7_isHouse_m _ hj rfl) kV_X7_205 rfl (by omega) rfl (Nat.le_of_ble_eq_true rfl) dX7_odds_2 ?_
    refine j_if_eq (pc := 5) (tgt := 29) C dX7_odds_5 rfl ?_ ?_
    · refine j_ldc2 (pc := 29) C (z := (-9223372036854775808)) (zT_of (i := 1357) (by decide +kernel) rfl) rfl dX7_odds_29 ?_
      exact j_lreturn C rfl rfl dX7_odds_32
    · refine j_aload_n (pc := 8) C dX7_odds_8 rfl 0 rfl ?_
      refine j_iload_n (pc := 9) C dX7_odds_9 rfl 2 rfl ?_
      refine j_iconst (pc := 10) C dX7_odds_10 ?_
      refine j_bipush (pc := 11) C dX7_odds_11 (by decide) ?_
      refine j_callV1 (pc := 13) C obX7 rfl rfl (X7_in_m _ hj rfl) kV_X7_197 rfl (by omega) rfl (Nat.le_of_ble_eq_true rfl) dX7_odds_13 ?_
      refine j_if_eq (pc := 16) (tgt := 29) C dX7_odds_16 rfl ?_ ?_
      · refine j_ldc2 (pc := 29) C (z := (-9223372036854775808)) (zT_of (i := 1357) (by decide +kernel) rfl) rfl dX7_odds_29 ?_
        exact j_lreturn C rfl rfl dX7_odds_32
      · refine j_aload_n (pc := 19) C dX7_odds_19 rfl 0 rfl ?_
        refine j_iload_n (pc := 20) C dX7_odds_20 rfl 3 rfl ?_
        refine j_iconst (pc := 21) C dX7_odds_21 ?_
        refine j_iconst (pc := 22) C dX7_odds_22 ?_
        refine j_callV1 (pc := 23) C obX7 rfl rfl (X7_in_m _ hj rfl) kV_X7_197 rfl (by omega) rfl (Nat.le_of_ble_eq_true rfl) dX7_odds_23 ?_
        refine j_if_ne (pc := 26) (tgt := 33) C dX7_odds_26 rfl ?_ ?_
        · refine j_ldc2 (pc := 29) C (z := (-9223372036854775808)) (zT_of (i := 1357) (by decide +kernel) rfl) rfl dX7_odds_29 ?_
          exact j_lreturn C rfl rfl dX7_odds_32
        · refine j_iconst (pc := 33) C dX7_odds_33 ?_
          refine j_istore (pc := 34) C hN dX7_odds_34 (by decide) (lv' := [(4, .int (oI 0)), (0, .ref (G.2.2.1 0)), (1, .int (oI l1)), (2, .int (oI l2)), (3, .int (oI l3))]) rfl ?_
          refine j_iconst (pc := 36) C dX7_odds_36 ?_
          refine j_istore (pc := 37) C hN dX7_odds_37 (by decide) (lv' := [(5, .int (oI 0)), (4, .int (oI 0)), (0, .ref (G.2.2.1 0)), (1, .int (oI l1)), (2, .int (oI l2)), (3, .int (oI l3))]) rfl ?_
          exact j_sub [2, 3, 4, 5, 1, 0] rfl (X7_odds_L39_j C hN hj FU _ _ _))
def X7_mean_L41 (l1 : Int) (l2 : Int) : Nat → PS → Int → Int → Option (Int × PS)
  | 0, _, _, _ => none
  | k + 1, st, l3, l4 => if wI l1 ≤ wI l4 then bI (X7_putBack st) (fun s2 => bI (X7_lowest s2 l3 (l1 * (s2 0 0)) l2) (fun v1 => some (v1, s2))) else (bI (X7_goYear st) (fun s3 => bI (X7_allEarn s3) (fun v2 => X7_mean_L41 l1 l2 k s3 (l3 + v2) (l4 + 1))))
def X7_mean (st : PS) (l1 l2 : Int) : Option (Int × PS) := if wI (X7_in st l1 1 60) = 0 then some ((-9223372036854775808), st) else (if wI (X7_in st l2 0 1) = 0 then some ((-9223372036854775808), st) else (if wI (st 0 0) = 0 then some ((-9223372036854775808), st) else (bI (X7_keep st) (fun s1 => X7_mean_L41 l1 l2 FU s1 0 0))))
set_option maxHeartbeats 4000000 in
set_option maxRecDepth 100000 in
theorem X7_mean_L41_j {X : JX} {G : GD} (C : zC X sM G RX7 cX7_mean (some .long) 8) (hN : X.2.2.2.2.2.2.2.2.2.2.2.2 = 5) (hj : zInj sM G) {l1 : Int} {l2 : Int} : ∀ (k : Nat) (st : PS) (l3 : Int) (l4 : Int), J X (zI sM G) (zQ sM G fLI) st [(0, .ref (G.2.2.1 0)), (1, .int (oI l1)), (2, .int (oI l2)), (3, .int (oI l3)), (4, .int (oI l4))] 41 [] (X7_mean_L41 l1 l2 k st l3 l4) := by
  intro k
  induction k with
  | zero => intro st l3 l4; exact j_none
  | succ k ih =>
    intro st l3 l4
    rw [X7_mean_L41]
    refine j_iload (pc := 41) C dX7_mean_41 4 rfl ?_
    refine j_iload_n (pc := 43) C dX7_mean_43 rfl 1 rfl ?_
    refine j_icmp_ge (pc := 44) (tgt := 64) C dX7_mean_44 rfl ?_ ?_
    · refine j_aload_n (pc := 64) C dX7_mean_64 rfl 0 rfl ?_
      refine j_bI (fun s2 es2 => ?_)
      refine j_callV0 (pc := 65) C obX7 rfl rfl (X7_putBack_m _ hj es2) kV_X7_334 rfl (by omega) rfl (Nat.le_of_ble_eq_true rfl) dX7_mean_65 ?_
      refine j_aload_n (pc := 68) C dX7_mean_68 rfl 0 rfl ?_
      refine j_iload_n (pc := 69) C dX7_mean_69 rfl 3 rfl ?_
      refine j_iload_n (pc := 70) C dX7_mean_70 rfl 1 rfl ?_
      refine j_aload_n (pc := 71) C dX7_mean_71 rfl 0 rfl ?_
      refine gf_X7_7 (pc := 72) C dX7_mean_72 ?_
      refine j_imul (pc := 75) C dX7_mean_75 ?_
      refine j_iload_n (pc := 76) C dX7_mean_76 rfl 2 rfl ?_
      refine j_bI (fun v1 ev1 => ?_)
      refine j_callV1 (pc := 77) C obX7 rfl rfl (X7_lowest_m _ hj ev1) kV_X7_376 rfl (by omega) rfl (Nat.le_of_ble_eq_true rfl) dX7_mean_77 ?_
      exact j_lreturn C rfl rfl dX7_mean_80
    · refine j_aload_n (pc := 47) C dX7_mean_47 rfl 0 rfl ?_
      refine j_bI (fun s3 es3 => ?_)
      refine j_callV0 (pc := 48) C obX7 rfl rfl (X7_goYear_m _ hj es3) kV_X7_316 rfl (by omega) rfl (Nat.le_of_ble_eq_true rfl) dX7_mean_48 ?_
      refine j_iload_n (pc := 51) C dX7_mean_51 rfl 3 rfl ?_
      refine j_aload_n (pc := 52) C dX7_mean_52 rfl 0 rfl ?_
      refine j_bI (fun v2 ev2 => ?_)
      refine j_callV1 (pc := 53) C obX7 rfl rfl (X7_allEarn_m _ hj ev2) kV_X7_319 rfl (by omega) rfl (Nat.le_of_ble_eq_true rfl) dX7_mean_53 ?_
      refine j_iadd (pc := 56) C dX7_mean_56 ?_
      refine j_istore_n (pc := 57) C hN dX7_mean_57 rfl (by decide) (lv' := [(3, .int (oI (l3 + v2))), (0, .ref (G.2.2.1 0)), (1, .int (oI l1)), (2, .int (oI l2)), (4, .int (oI l4))]) rfl ?_
      refine j_iinc (pc := 58) C hN dX7_mean_58 4 rfl (by decide) (lv' := [(4, .int (oI (l4 + 1))), (3, .int (oI (l3 + v2))), (0, .ref (G.2.2.1 0)), (1, .int (oI l1)), (2, .int (oI l2))]) rfl ?_
      refine j_goto (pc := 61) (tgt := 41) C dX7_mean_61 rfl ?_
      exact j_sub [2, 3, 4, 1, 0] rfl (ih _ _ _)
set_option maxHeartbeats 4000000 in
set_option maxRecDepth 100000 in
theorem X7_mean_m (l : Launch) {G : GD} (hj : zInj sM G) {st : PS} {l1 l2 : Int} {r : (Int × PS)} (hr : X7_mean st l1 l2 = some r) : zM l sM G yX7_mean cX7_mean 5 (some .long) 8 [.ref (G.2.2.1 0), .int (oI l1), .int (oI l2)] st (some (.long (oL r.1))) r.2 :=
  zEnter (f := fLI) hr hj (by decide) rfl (lv := [(0, .ref (G.2.2.1 0)), (1, .int (oI l1)), (2, .int (oI l2))]) rfl (Nat.le_of_ble_eq_true rfl) (fun X _ hN C => by
    unfold X7_mean
    refine j_aload_n (pc := 0) C dX7_mean_0 rfl 0 rfl ?_
    refine j_iload_n (pc := 1) C dX7_mean_1 rfl 1 rfl ?_
    refine j_iconst (pc := 2) C dX7_mean_2 ?_
    refine j_bipush (pc := 3) C dX7_mean_3 (by decide) ?_
    refine j_callV1 (pc := 5) C obX7 rfl rfl (X7_in_m _ hj rfl) kV_X7_197 rfl (by omega) rfl (Nat.le_of_ble_eq_true rfl) dX7_mean_5 ?_
    refine j_if_eq (pc := 8) (tgt := 28) C dX7_mean_8 rfl ?_ ?_
    · refine j_ldc2 (pc := 28) C (z := (-9223372036854775808)) (zT_of (i := 1357) (by decide +kernel) rfl) rfl dX7_mean_28 ?_
      exact j_lreturn C rfl rfl dX7_mean_31
    · refine j_aload_n (pc := 11) C dX7_mean_11 rfl 0 rfl ?_
      refine j_iload_n (pc := 12) C dX7_mean_12 rfl 2 rfl ?_
      refine j_iconst (pc := 13) C dX7_mean_13 ?_
      refine j_iconst (pc := 14) C dX7_mean_14 ?_
      refine j_callV1 (pc := 15) C obX7 rfl rfl (X7_in_m _ hj rfl) kV_X7_197 rfl (by omega) rfl (Nat.le_of_ble_eq_true rfl) dX7_mean_15 ?_
      refine j_if_eq (pc := 18) (tgt := 28) C dX7_mean_18 rfl ?_ ?_
      · refine j_ldc2 (pc := 28) C (z := (-9223372036854775808)) (zT_of (i := 1357) (by decide +kernel) rfl) rfl dX7_mean_28 ?_
        exact j_lreturn C rfl rfl dX7_mean_31
      · refine j_aload_n (pc := 21) C dX7_mean_21 rfl 0 rfl ?_
        refine gf_X7_7 (pc := 22) C dX7_mean_22 ?_
        refine j_if_ne (pc := 25) (tgt := 32) C dX7_mean_25 rfl ?_ ?_
        · refine j_ldc2 (pc := 28) C (z := (-9223372036854775808)) (zT_of (i := 1357) (by decide +kernel) rfl) rfl dX7_mean_28 ?_
          exact j_lreturn C rfl rfl dX7_mean_31
        · refine j_aload_n (pc := 32) C dX7_mean_32 rfl 0 rfl ?_
          refine j_bI (fun s1 es1 => ?_)
          refine j_callV0 (pc := 33) C obX7 rfl rfl (X7_keep_m _ hj es1) kV_X7_328 rfl (by omega) rfl (Nat.le_of_ble_eq_true rfl) dX7_mean_33 ?_
          refine j_iconst (pc := 36) C dX7_mean_36 ?_
          refine j_istore_n (pc := 37) C hN dX7_mean_37 rfl (by decide) (lv' := [(3, .int (oI 0)), (0, .ref (G.2.2.1 0)), (1, .int (oI l1)), (2, .int (oI l2))]) rfl ?_
          refine j_iconst (pc := 38) C dX7_mean_38 ?_
          refine j_istore (pc := 39) C hN dX7_mean_39 (by decide) (lv' := [(4, .int (oI 0)), (3, .int (oI 0)), (0, .ref (G.2.2.1 0)), (1, .int (oI l1)), (2, .int (oI l2))]) rfl ?_
          exact j_sub [2, 3, 4, 1, 0] rfl (X7_mean_L41_j C hN hj FU _ _ _))
def X7_book (st : PS) (l1 : Int) : Option (Int × PS) := if wI l1 = wI (-1) then zlet (zu st 0 40 0) (fun s1 => some (0, s1)) else (if wI (X7_in st l1 0 99) = 0 then if wI l1 = wI (-2) then if wI (st 0 40) = wI 12 then some ((-4), st) else (bI (zwr st 41 12 (st 0 40) l1) (fun s2 => zlet (zu s2 0 40 ((s2 0 40) + 1)) (fun s3 => some (s3 0 40, s3)))) else (some ((-2), st)) else (if wI (st 0 40) = wI 12 then some ((-4), st) else (bI (zwr st 41 12 (st 0 40) l1) (fun s4 => zlet (zu s4 0 40 ((s4 0 40) + 1)) (fun s5 => some (s5 0 40, s5))))))
set_option maxHeartbeats 4000000 in
set_option maxRecDepth 100000 in
theorem X7_book_m (l : Launch) {G : GD} (hj : zInj sM G) {st : PS} {l1 : Int} {r : (Int × PS)} (hr : X7_book st l1 = some r) : zM l sM G yX7_book cX7_book 2 (some .int) 1 [.ref (G.2.2.1 0), .int (oI l1)] st (some (.int (oI r.1))) r.2 :=
  zEnter (f := fI) hr hj (by decide) rfl (lv := [(0, .ref (G.2.2.1 0)), (1, .int (oI l1))]) rfl (Nat.le_of_ble_eq_true rfl) (fun X _ hN C => by
    unfold X7_book
    refine j_iload_n (pc := 0) C dX7_book_0 rfl 1 rfl ?_
    refine j_iconst (pc := 1) C dX7_book_1 ?_
    refine j_icmp_ne (pc := 2) (tgt := 12) C dX7_book_2 rfl ?_ ?_
    · refine j_aload_n (pc := 5) C dX7_book_5 rfl 0 rfl ?_
      refine j_iconst (pc := 6) C dX7_book_6 ?_
      refine fp_X7_132 (pc := 7) C dX7_book_7 ?_
      refine j_let (fun s1 => ?_)
      refine j_iconst (pc := 10) C dX7_book_10 ?_
      exact j_ireturn C rfl rfl rfl rfl dX7_book_11
    · refine j_aload_n (pc := 12) C dX7_book_12 rfl 0 rfl ?_
      refine j_iload_n (pc := 13) C dX7_book_13 rfl 1 rfl ?_
      refine j_iconst (pc := 14) C dX7_book_14 ?_
      refine j_bipush (pc := 15) C dX7_book_15 (by decide) ?_
      refine j_callV1 (pc := 17) C obX7 rfl rfl (X7_in_m _ hj rfl) kV_X7_197 rfl (by omega) rfl (Nat.le_of_ble_eq_true rfl) dX7_book_17 ?_
      refine j_if_ne (pc := 20) (tgt := 32) C dX7_book_20 rfl ?_ ?_
      · refine j_iload_n (pc := 23) C dX7_book_23 rfl 1 rfl ?_
        refine j_bipush (pc := 24) C dX7_book_24 (by decide) ?_
        refine j_icmp_eq (pc := 26) (tgt := 32) C dX7_book_26 rfl ?_ ?_
        · refine j_aload_n (pc := 32) C dX7_book_32 rfl 0 rfl ?_
          refine gf_X7_132 (pc := 33) C dX7_book_33 ?_
          refine j_bipush (pc := 36) C dX7_book_36 (by decide) ?_
          refine j_icmp_ne (pc := 38) (tgt := 44) C dX7_book_38 rfl ?_ ?_
          · refine j_bipush (pc := 41) C dX7_book_41 (by decide) ?_
            exact j_ireturn C rfl rfl rfl rfl dX7_book_43
          · refine j_aload_n (pc := 44) C dX7_book_44 rfl 0 rfl ?_
            refine gf_X7_135 (pc := 45) C dX7_book_45 ?_
            refine j_aload_n (pc := 48) C dX7_book_48 rfl 0 rfl ?_
            refine gf_X7_132 (pc := 49) C dX7_book_49 ?_
            refine j_iload_n (pc := 52) C dX7_book_52 rfl 1 rfl ?_
            refine j_bI (fun s2 es2 => ?_)
            refine j_iast (pc := 53) C arX7_41 es2 dX7_book_53 ?_
            refine j_aload_n (pc := 54) C dX7_book_54 rfl 0 rfl ?_
            refine j_dup (pc := 55) C dX7_book_55 rfl ?_
            refine gf_X7_132 (pc := 56) C dX7_book_56 ?_
            refine j_iconst (pc := 59) C dX7_book_59 ?_
            refine j_iadd (pc := 60) C dX7_book_60 ?_
            refine fp_X7_132 (pc := 61) C dX7_book_61 ?_
            refine j_let (fun s3 => ?_)
            refine j_aload_n (pc := 64) C dX7_book_64 rfl 0 rfl ?_
            refine gf_X7_132 (pc := 65) C dX7_book_65 ?_
            exact j_ireturn C rfl rfl rfl rfl dX7_book_68
        · refine j_bipush (pc := 29) C dX7_book_29 (by decide) ?_
          exact j_ireturn C rfl rfl rfl rfl dX7_book_31
      · refine j_aload_n (pc := 32) C dX7_book_32 rfl 0 rfl ?_
        refine gf_X7_132 (pc := 33) C dX7_book_33 ?_
        refine j_bipush (pc := 36) C dX7_book_36 (by decide) ?_
        refine j_icmp_ne (pc := 38) (tgt := 44) C dX7_book_38 rfl ?_ ?_
        · refine j_bipush (pc := 41) C dX7_book_41 (by decide) ?_
          exact j_ireturn C rfl rfl rfl rfl dX7_book_43
        · refine j_aload_n (pc := 44) C dX7_book_44 rfl 0 rfl ?_
          refine gf_X7_135 (pc := 45) C dX7_book_45 ?_
          refine j_aload_n (pc := 48) C dX7_book_48 rfl 0 rfl ?_
          refine gf_X7_132 (pc := 49) C dX7_book_49 ?_
          refine j_iload_n (pc := 52) C dX7_book_52 rfl 1 rfl ?_
          refine j_bI (fun s4 es4 => ?_)
          refine j_iast (pc := 53) C arX7_41 es4 dX7_book_53 ?_
          refine j_aload_n (pc := 54) C dX7_book_54 rfl 0 rfl ?_
          refine j_dup (pc := 55) C dX7_book_55 rfl ?_
          refine gf_X7_132 (pc := 56) C dX7_book_56 ?_
          refine j_iconst (pc := 59) C dX7_book_59 ?_
          refine j_iadd (pc := 60) C dX7_book_60 ?_
          refine fp_X7_132 (pc := 61) C dX7_book_61 ?_
          refine j_let (fun s5 => ?_)
          refine j_aload_n (pc := 64) C dX7_book_64 rfl 0 rfl ?_
          refine gf_X7_132 (pc := 65) C dX7_book_65 ?_
          exact j_ireturn C rfl rfl rfl rfl dX7_book_68)
def X7_looked_L19  : Nat → PS → Int → Int → Option (Int × PS)
  | 0, _, _, _ => none
  | k + 1, st, l1, l2 => if wI (st 0 40) ≤ wI l2 then bI (X7_putBack st) (fun s2 => some (l1, s2)) else (if 0 ≤ wI l1 then bI (X7_putBack st) (fun s3 => some (l1, s3)) else (bI (X7_goYear st) (fun s4 => bI (zrd s4 41 12 l2) (fun v1 => if wI v1 = wI (-2) then X7_looked_L19 k s4 (-5) (l2 + 1) else (bI (zrd s4 41 12 l2) (fun v4 => bI (zrd s4 4 8 0) (fun v5 => if wI v4 = wI v5 then X7_looked_L19 k s4 (-5) (l2 + 1) else (X7_looked_L19 k s4 l2 (l2 + 1)))))))))
def X7_looked (st : PS) : Option (Int × PS) := if wI (st 0 0) = 0 then some ((-3), st) else (bI (X7_keep st) (fun s1 => X7_looked_L19 FU s1 (-5) 0))
set_option maxHeartbeats 4000000 in
set_option maxRecDepth 100000 in
theorem X7_looked_L19_j {X : JX} {G : GD} (C : zC X sM G RX7 cX7_looked (some .int) 8) (hN : X.2.2.2.2.2.2.2.2.2.2.2.2 = 3) (hj : zInj sM G)  : ∀ (k : Nat) (st : PS) (l1 : Int) (l2 : Int), J X (zI sM G) (zQ sM G fI) st [(0, .ref (G.2.2.1 0)), (1, .int (oI l1)), (2, .int (oI l2))] 19 [] (X7_looked_L19 k st l1 l2) := by
  intro k
  induction k with
  | zero => intro st l1 l2; exact j_none
  | succ k ih =>
    intro st l1 l2
    rw [X7_looked_L19]
    refine j_iload_n (pc := 19) C dX7_looked_19 rfl 2 rfl ?_
    refine j_aload_n (pc := 20) C dX7_looked_20 rfl 0 rfl ?_
    refine gf_X7_132 (pc := 21) C dX7_looked_21 ?_
    refine j_icmp_ge (pc := 24) (tgt := 74) C dX7_looked_24 rfl ?_ ?_
    · refine j_aload_n (pc := 74) C dX7_looked_74 rfl 0 rfl ?_
      refine j_bI (fun s2 es2 => ?_)
      refine j_callV0 (pc := 75) C obX7 rfl rfl (X7_putBack_m _ hj es2) kV_X7_334 rfl (by omega) rfl (Nat.le_of_ble_eq_true rfl) dX7_looked_75 ?_
      refine j_iload_n (pc := 78) C dX7_looked_78 rfl 1 rfl ?_
      exact j_ireturn C rfl rfl rfl rfl dX7_looked_79
    · refine j_iload_n (pc := 27) C dX7_looked_27 rfl 1 rfl ?_
      refine j_if_ge (pc := 28) (tgt := 74) C dX7_looked_28 rfl ?_ ?_
      · refine j_aload_n (pc := 74) C dX7_looked_74 rfl 0 rfl ?_
        refine j_bI (fun s3 es3 => ?_)
        refine j_callV0 (pc := 75) C obX7 rfl rfl (X7_putBack_m _ hj es3) kV_X7_334 rfl (by omega) rfl (Nat.le_of_ble_eq_true rfl) dX7_looked_75 ?_
        refine j_iload_n (pc := 78) C dX7_looked_78 rfl 1 rfl ?_
        exact j_ireturn C rfl rfl rfl rfl dX7_looked_79
      · refine j_aload_n (pc := 31) C dX7_looked_31 rfl 0 rfl ?_
        refine j_bI (fun s4 es4 => ?_)
        refine j_callV0 (pc := 32) C obX7 rfl rfl (X7_goYear_m _ hj es4) kV_X7_316 rfl (by omega) rfl (Nat.le_of_ble_eq_true rfl) dX7_looked_32 ?_
        refine j_aload_n (pc := 35) C dX7_looked_35 rfl 0 rfl ?_
        refine gf_X7_135 (pc := 36) C dX7_looked_36 ?_
        refine j_iload_n (pc := 39) C dX7_looked_39 rfl 2 rfl ?_
        refine j_bI (fun v1 ev1 => ?_)
        refine j_iald (pc := 40) C arX7_41 ev1 dX7_looked_40 ?_
        refine j_bipush (pc := 41) C dX7_looked_41 (by decide) ?_
        refine j_icmp_eq (pc := 43) (tgt := 61) C dX7_looked_43 rfl ?_ ?_
        · refine j_bipush (pc := 61) C dX7_looked_61 (by decide) ?_
          refine j_goto (pc := 63) (tgt := 67) C dX7_looked_63 rfl ?_
          refine j_istore_n (pc := 67) C hN dX7_looked_67 rfl (by decide) (lv' := [(1, .int (oI (-5))), (0, .ref (G.2.2.1 0)), (2, .int (oI l2))]) rfl ?_
          refine j_iinc (pc := 68) C hN dX7_looked_68 2 rfl (by decide) (lv' := [(2, .int (oI (l2 + 1))), (1, .int (oI (-5))), (0, .ref (G.2.2.1 0))]) rfl ?_
          refine j_goto (pc := 71) (tgt := 19) C dX7_looked_71 rfl ?_
          exact j_sub [2, 1, 0] rfl (ih _ _ _)
        · refine j_aload_n (pc := 46) C dX7_looked_46 rfl 0 rfl ?_
          refine gf_X7_135 (pc := 47) C dX7_looked_47 ?_
          refine j_iload_n (pc := 50) C dX7_looked_50 rfl 2 rfl ?_
          refine j_bI (fun v4 ev4 => ?_)
          refine j_iald (pc := 51) C arX7_41 ev4 dX7_looked_51 ?_
          refine j_aload_n (pc := 52) C dX7_looked_52 rfl 0 rfl ?_
          refine gf_X7_23 (pc := 53) C dX7_looked_53 ?_
          refine j_iconst (pc := 56) C dX7_looked_56 ?_
          refine j_bI (fun v5 ev5 => ?_)
          refine j_iald (pc := 57) C arX7_4 ev5 dX7_looked_57 ?_
          refine j_icmp_ne (pc := 58) (tgt := 66) C dX7_looked_58 rfl ?_ ?_
          · refine j_bipush (pc := 61) C dX7_looked_61 (by decide) ?_
            refine j_goto (pc := 63) (tgt := 67) C dX7_looked_63 rfl ?_
            refine j_istore_n (pc := 67) C hN dX7_looked_67 rfl (by decide) (lv' := [(1, .int (oI (-5))), (0, .ref (G.2.2.1 0)), (2, .int (oI l2))]) rfl ?_
            refine j_iinc (pc := 68) C hN dX7_looked_68 2 rfl (by decide) (lv' := [(2, .int (oI (l2 + 1))), (1, .int (oI (-5))), (0, .ref (G.2.2.1 0))]) rfl ?_
            refine j_goto (pc := 71) (tgt := 19) C dX7_looked_71 rfl ?_
            exact j_sub [2, 1, 0] rfl (ih _ _ _)
          · refine j_iload_n (pc := 66) C dX7_looked_66 rfl 2 rfl ?_
            refine j_istore_n (pc := 67) C hN dX7_looked_67 rfl (by decide) (lv' := [(1, .int (oI l2)), (0, .ref (G.2.2.1 0)), (2, .int (oI l2))]) rfl ?_
            refine j_iinc (pc := 68) C hN dX7_looked_68 2 rfl (by decide) (lv' := [(2, .int (oI (l2 + 1))), (1, .int (oI l2)), (0, .ref (G.2.2.1 0))]) rfl ?_
            refine j_goto (pc := 71) (tgt := 19) C dX7_looked_71 rfl ?_
            exact j_sub [2, 1, 0] rfl (ih _ _ _)
set_option maxHeartbeats 4000000 in
set_option maxRecDepth 100000 in
theorem X7_looked_m (l : Launch) {G : GD} (hj : zInj sM G) {st : PS} {r : (Int × PS)} (hr : X7_looked st = some r) : zM l sM G yX7_looked cX7_looked 3 (some .int) 8 [.ref (G.2.2.1 0)] st (some (.int (oI r.1))) r.2 :=
  zEnter (f := fI) hr hj (by decide) rfl (lv := [(0, .ref (G.2.2.1 0))]) rfl (Nat.le_of_ble_eq_true rfl) (fun X _ hN C => by
    unfold X7_looked
    refine j_aload_n (pc := 0) C dX7_looked_0 rfl 0 rfl ?_
    refine gf_X7_7 (pc := 1) C dX7_looked_1 ?_
    refine j_if_ne (pc := 4) (tgt := 10) C dX7_looked_4 rfl ?_ ?_
    · refine j_bipush (pc := 7) C dX7_looked_7 (by decide) ?_
      exact j_ireturn C rfl rfl rfl rfl dX7_looked_9
    · refine j_aload_n (pc := 10) C dX7_looked_10 rfl 0 rfl ?_
      refine j_bI (fun s1 es1 => ?_)
      refine j_callV0 (pc := 11) C obX7 rfl rfl (X7_keep_m _ hj es1) kV_X7_328 rfl (by omega) rfl (Nat.le_of_ble_eq_true rfl) dX7_looked_11 ?_
      refine j_bipush (pc := 14) C dX7_looked_14 (by decide) ?_
      refine j_istore_n (pc := 16) C hN dX7_looked_16 rfl (by decide) (lv' := [(1, .int (oI (-5))), (0, .ref (G.2.2.1 0))]) rfl ?_
      refine j_iconst (pc := 17) C dX7_looked_17 ?_
      refine j_istore_n (pc := 18) C hN dX7_looked_18 rfl (by decide) (lv' := [(2, .int (oI 0)), (1, .int (oI (-5))), (0, .ref (G.2.2.1 0))]) rfl ?_
      exact j_sub [2, 1, 0] rfl (X7_looked_L19_j C hN hj FU _ _ _))
def X7_isTape (st : PS) (l1 : Int) : Int := (X7_in st l1 0 5)
set_option maxHeartbeats 4000000 in
set_option maxRecDepth 100000 in
theorem X7_isTape_m (l : Launch) {G : GD} (hj : zInj sM G) {st : PS} {l1 : Int} {r : Int} (hr : X7_isTape st l1 = r) : zM l sM G yX7_isTape cX7_isTape 2 (some .boolean) 1 [.ref (G.2.2.1 0), .int (oI l1)] st (some (.int (oI r))) st :=
  zEnter (f := fR st) (o := some (X7_isTape st l1)) (by rw [hr]) hj (by decide) rfl (lv := [(0, .ref (G.2.2.1 0)), (1, .int (oI l1))]) rfl (Nat.le_of_ble_eq_true rfl) (fun X _ hN C => by
    simp only [X7_isTape, zsome_ite]
    refine j_aload_n (pc := 0) C dX7_isTape_0 rfl 0 rfl ?_
    refine j_iload_n (pc := 1) C dX7_isTape_1 rfl 1 rfl ?_
    refine j_iconst (pc := 2) C dX7_isTape_2 ?_
    refine j_iconst (pc := 3) C dX7_isTape_3 ?_
    refine j_callV1 (pc := 4) C obX7 rfl rfl (X7_in_m _ hj rfl) kV_X7_197 rfl (by omega) rfl (Nat.le_of_ble_eq_true rfl) dX7_isTape_4 ?_
    exact j_ireturn C rfl rfl (znar (X7_in_bit)) rfl dX7_isTape_7)
theorem X7_isTape_bit {st : PS} {l1 : Int} : X7_isTape st l1 = 0 ∨ X7_isTape st l1 = 1 := by
  unfold X7_isTape
  first | exact X7_in_bit | (repeat' split) <;> first | exact Or.inl rfl | exact Or.inr rfl
def X7_judge_L34 (l1 : Int) (l2 : Int) (st : PS) : Nat → Int → Option Int
  | 0, _ => none
  | k + 1, l3 => if wI (st 0 0) ≤ wI l3 then some (-5) else (bI (zrd st 57 6 l1) (fun v2 => if wI v2 < 0 then some (100 + l3) else (if wI l2 < 0 then some (100 + l3) else (bI (zrd st 58 6 l1) (fun v3 => if wI l2 ≤ wI ((v3 - l3) - 1) then bI (zrd st 59 360 (((60 * l1) + l2) + l3)) (fun v4 => bI (zrd st 4 8 l3) (fun v5 => if wI (zcmp v4 (wI v5)) = 0 then X7_judge_L34 l1 l2 st k (l3 + 1) else (some l3))) else (some (100 + l3)))))))
def X7_judge (st : PS) (l1 l2 : Int) : Option Int := if wI (X7_isTape st l1) = 0 then some (-1) else (bI (zrd st 57 6 l1) (fun v1 => if wI v1 < 0 then X7_judge_L34 l1 l2 st FU 0 else (bI (zrd st 57 6 l1) (fun v6 => if wI v6 = wI 1 then X7_judge_L34 l1 l2 st FU 0 else (some (-12))))))
set_option maxHeartbeats 4000000 in
set_option maxRecDepth 100000 in
theorem X7_judge_L34_j {X : JX} {G : GD} (C : zC X sM G RX7 cX7_judge (some .int) 2) (hN : X.2.2.2.2.2.2.2.2.2.2.2.2 = 4) (hj : zInj sM G) {l1 : Int} {l2 : Int} {st : PS} : ∀ (k : Nat) (l3 : Int), J X (zI sM G) (zQ sM G (fR st)) st [(0, .ref (G.2.2.1 0)), (1, .int (oI l1)), (2, .int (oI l2)), (3, .int (oI l3))] 34 [] (X7_judge_L34 l1 l2 st k l3) := by
  intro k
  induction k with
  | zero => intro l3; exact j_none
  | succ k ih =>
    intro l3
    rw [X7_judge_L34]
    refine j_iload_n (pc := 34) C dX7_judge_34 rfl 3 rfl ?_
    refine j_aload_n (pc := 35) C dX7_judge_35 rfl 0 rfl ?_
    refine gf_X7_7 (pc := 36) C dX7_judge_36 ?_
    refine j_icmp_ge (pc := 39) (tgt := 106) C dX7_judge_39 rfl ?_ ?_
    · refine j_bipush (pc := 106) C dX7_judge_106 (by decide) ?_
      exact j_ireturn C rfl rfl rfl rfl dX7_judge_108
    · refine j_aload_n (pc := 42) C dX7_judge_42 rfl 0 rfl ?_
      refine gf_X7_184 (pc := 43) C dX7_judge_43 ?_
      refine j_iload_n (pc := 46) C dX7_judge_46 rfl 1 rfl ?_
      refine j_bI (fun v2 ev2 => ?_)
      refine j_iald (pc := 47) C arX7_57 ev2 dX7_judge_47 ?_
      refine j_if_lt (pc := 48) (tgt := 69) C dX7_judge_48 rfl ?_ ?_
      · refine j_bipush (pc := 69) C dX7_judge_69 (by decide) ?_
        refine j_iload_n (pc := 71) C dX7_judge_71 rfl 3 rfl ?_
        refine j_iadd (pc := 72) C dX7_judge_72 ?_
        exact j_ireturn C rfl rfl rfl rfl dX7_judge_73
      · refine j_iload_n (pc := 51) C dX7_judge_51 rfl 2 rfl ?_
        refine j_if_lt (pc := 52) (tgt := 69) C dX7_judge_52 rfl ?_ ?_
        · refine j_bipush (pc := 69) C dX7_judge_69 (by decide) ?_
          refine j_iload_n (pc := 71) C dX7_judge_71 rfl 3 rfl ?_
          refine j_iadd (pc := 72) C dX7_judge_72 ?_
          exact j_ireturn C rfl rfl rfl rfl dX7_judge_73
        · refine j_iload_n (pc := 55) C dX7_judge_55 rfl 2 rfl ?_
          refine j_aload_n (pc := 56) C dX7_judge_56 rfl 0 rfl ?_
          refine gf_X7_187 (pc := 57) C dX7_judge_57 ?_
          refine j_iload_n (pc := 60) C dX7_judge_60 rfl 1 rfl ?_
          refine j_bI (fun v3 ev3 => ?_)
          refine j_iald (pc := 61) C arX7_58 ev3 dX7_judge_61 ?_
          refine j_iload_n (pc := 62) C dX7_judge_62 rfl 3 rfl ?_
          refine j_isub (pc := 63) C dX7_judge_63 ?_
          refine j_iconst (pc := 64) C dX7_judge_64 ?_
          refine j_isub (pc := 65) C dX7_judge_65 ?_
          refine j_icmp_le (pc := 66) (tgt := 74) C dX7_judge_66 rfl ?_ ?_
          · refine j_aload_n (pc := 74) C dX7_judge_74 rfl 0 rfl ?_
            refine gf_X7_190 (pc := 75) C dX7_judge_75 ?_
            refine j_bipush (pc := 78) C dX7_judge_78 (by decide) ?_
            refine j_iload_n (pc := 80) C dX7_judge_80 rfl 1 rfl ?_
            refine j_imul (pc := 81) C dX7_judge_81 ?_
            refine j_iload_n (pc := 82) C dX7_judge_82 rfl 2 rfl ?_
            refine j_iadd (pc := 83) C dX7_judge_83 ?_
            refine j_iload_n (pc := 84) C dX7_judge_84 rfl 3 rfl ?_
            refine j_iadd (pc := 85) C dX7_judge_85 ?_
            refine j_bI (fun v4 ev4 => ?_)
            refine j_lald (pc := 86) C arX7_59 ev4 dX7_judge_86 ?_
            refine j_aload_n (pc := 87) C dX7_judge_87 rfl 0 rfl ?_
            refine gf_X7_23 (pc := 88) C dX7_judge_88 ?_
            refine j_iload_n (pc := 91) C dX7_judge_91 rfl 3 rfl ?_
            refine j_bI (fun v5 ev5 => ?_)
            refine j_iald (pc := 92) C arX7_4 ev5 dX7_judge_92 ?_
            refine j_i2l (pc := 93) C dX7_judge_93 ?_
            refine j_lcmp (pc := 94) C dX7_judge_94 ?_
            refine j_if_eq (pc := 95) (tgt := 100) C dX7_judge_95 rfl ?_ ?_
            · refine j_iinc (pc := 100) C hN dX7_judge_100 3 rfl (by decide) (lv' := [(3, .int (oI (l3 + 1))), (0, .ref (G.2.2.1 0)), (1, .int (oI l1)), (2, .int (oI l2))]) rfl ?_
              refine j_goto (pc := 103) (tgt := 34) C dX7_judge_103 rfl ?_
              exact j_sub [1, 2, 3, 0] rfl (ih _)
            · refine j_iload_n (pc := 98) C dX7_judge_98 rfl 3 rfl ?_
              exact j_ireturn C rfl rfl rfl rfl dX7_judge_99
          · refine j_bipush (pc := 69) C dX7_judge_69 (by decide) ?_
            refine j_iload_n (pc := 71) C dX7_judge_71 rfl 3 rfl ?_
            refine j_iadd (pc := 72) C dX7_judge_72 ?_
            exact j_ireturn C rfl rfl rfl rfl dX7_judge_73
set_option maxHeartbeats 4000000 in
set_option maxRecDepth 100000 in
theorem X7_judge_m (l : Launch) {G : GD} (hj : zInj sM G) {st : PS} {l1 l2 : Int} {r : Int} (hr : X7_judge st l1 l2 = some r) : zM l sM G yX7_judge cX7_judge 4 (some .int) 2 [.ref (G.2.2.1 0), .int (oI l1), .int (oI l2)] st (some (.int (oI r))) st :=
  zEnter (f := fR st) hr hj (by decide) rfl (lv := [(0, .ref (G.2.2.1 0)), (1, .int (oI l1)), (2, .int (oI l2))]) rfl (Nat.le_of_ble_eq_true rfl) (fun X _ hN C => by
    unfold X7_judge
    refine j_aload_n (pc := 0) C dX7_judge_0 rfl 0 rfl ?_
    refine j_iload_n (pc := 1) C dX7_judge_1 rfl 1 rfl ?_
    refine j_callV1 (pc := 2) C obX7 rfl rfl (X7_isTape_m _ hj rfl) kV_X7_380 rfl (by omega) rfl (Nat.le_of_ble_eq_true rfl) dX7_judge_2 ?_
    refine j_if_ne (pc := 5) (tgt := 10) C dX7_judge_5 rfl ?_ ?_
    · refine j_iconst (pc := 8) C dX7_judge_8 ?_
      exact j_ireturn C rfl rfl rfl rfl dX7_judge_9
    · refine j_aload_n (pc := 10) C dX7_judge_10 rfl 0 rfl ?_
      refine gf_X7_184 (pc := 11) C dX7_judge_11 ?_
      refine j_iload_n (pc := 14) C dX7_judge_14 rfl 1 rfl ?_
      refine j_bI (fun v1 ev1 => ?_)
      refine j_iald (pc := 15) C arX7_57 ev1 dX7_judge_15 ?_
      refine j_if_lt (pc := 16) (tgt := 32) C dX7_judge_16 rfl ?_ ?_
      · refine j_iconst (pc := 32) C dX7_judge_32 ?_
        refine j_istore_n (pc := 33) C hN dX7_judge_33 rfl (by decide) (lv' := [(3, .int (oI 0)), (0, .ref (G.2.2.1 0)), (1, .int (oI l1)), (2, .int (oI l2))]) rfl ?_
        exact j_sub [1, 2, 3, 0] rfl (X7_judge_L34_j C hN hj FU _)
      · refine j_aload_n (pc := 19) C dX7_judge_19 rfl 0 rfl ?_
        refine gf_X7_184 (pc := 20) C dX7_judge_20 ?_
        refine j_iload_n (pc := 23) C dX7_judge_23 rfl 1 rfl ?_
        refine j_bI (fun v6 ev6 => ?_)
        refine j_iald (pc := 24) C arX7_57 ev6 dX7_judge_24 ?_
        refine j_iconst (pc := 25) C dX7_judge_25 ?_
        refine j_icmp_eq (pc := 26) (tgt := 32) C dX7_judge_26 rfl ?_ ?_
        · refine j_iconst (pc := 32) C dX7_judge_32 ?_
          refine j_istore_n (pc := 33) C hN dX7_judge_33 rfl (by decide) (lv' := [(3, .int (oI 0)), (0, .ref (G.2.2.1 0)), (1, .int (oI l1)), (2, .int (oI l2))]) rfl ?_
          exact j_sub [1, 2, 3, 0] rfl (X7_judge_L34_j C hN hj FU _)
        · refine j_bipush (pc := 29) C dX7_judge_29 (by decide) ?_
          exact j_ireturn C rfl rfl rfl rfl dX7_judge_31)
def X7_image_L147  : Nat → PS → Int → Option (Int × PS)
  | 0, _, _ => none
  | k + 1, st, l1 => if wI 12 ≤ wI l1 then some (st 0 0, st) else (bI (zrd st 41 12 l1) (fun v1 => bI (zwr st 54 12 l1 v1) (fun s7 => X7_image_L147 k s7 (l1 + 1))))
def X7_image_L121  : Nat → PS → Int → Option (Int × PS)
  | 0, _, _ => none
  | k + 1, st, l1 => if wI 32 ≤ wI l1 then X7_image_L147 FU st 0 else (bI (zrd st 5 32 l1) (fun v2 => bI (zwr st 51 32 l1 v2) (fun s8 => X7_image_L121 k s8 (l1 + 1))))
def X7_image_L47  : Nat → PS → Int → Option (Int × PS)
  | 0, _, _ => none
  | k + 1, st, l1 => if wI 8 ≤ wI l1 then X7_image_L121 FU st 0 else (bI (zrd st 2 8 l1) (fun v3 => bI (zwr st 48 8 l1 v3) (fun s9 => bI (zrd s9 3 8 l1) (fun v4 => bI (zwr s9 49 8 l1 v4) (fun s10 => bI (zrd s10 4 8 l1) (fun v5 => bI (zwr s10 50 8 l1 v5) (fun s11 => bI (zrd s11 38 8 l1) (fun v6 => bI (zwr s11 52 8 l1 v6) (fun s12 => bI (zrd s12 39 8 l1) (fun v7 => bI (zwr s12 53 8 l1 v7) (fun s13 => X7_image_L47 k s13 (l1 + 1))))))))))))
def X7_image (st : PS) : Option (Int × PS) := zlet (zu st 0 42 1) (fun s1 => zlet (zu s1 0 43 (s1 0 7)) (fun s2 => zlet (zu s2 0 44 (s2 0 0)) (fun s3 => zlet (zu s3 0 45 (s3 0 1)) (fun s4 => zlet (zu s4 0 46 (s4 0 37)) (fun s5 => zlet (zu s5 0 47 (s5 0 40)) (fun s6 => X7_image_L47 FU s6 0))))))
set_option maxHeartbeats 4000000 in
set_option maxRecDepth 100000 in
theorem X7_image_L147_j {X : JX} {G : GD} (C : zC X sM G RX7 cX7_image (some .int) 0) (hN : X.2.2.2.2.2.2.2.2.2.2.2.2 = 2) (hj : zInj sM G)  : ∀ (k : Nat) (st : PS) (l1 : Int), J X (zI sM G) (zQ sM G fI) st [(0, .ref (G.2.2.1 0)), (1, .int (oI l1))] 147 [] (X7_image_L147 k st l1) := by
  intro k
  induction k with
  | zero => intro st l1; exact j_none
  | succ k ih =>
    intro st l1
    rw [X7_image_L147]
    refine j_iload_n (pc := 147) C dX7_image_147 rfl 1 rfl ?_
    refine j_bipush (pc := 148) C dX7_image_148 (by decide) ?_
    refine j_icmp_ge (pc := 150) (tgt := 171) C dX7_image_150 rfl ?_ ?_
    · refine j_aload_n (pc := 171) C dX7_image_171 rfl 0 rfl ?_
      refine gf_X7_7 (pc := 172) C dX7_image_172 ?_
      exact j_ireturn C rfl rfl rfl rfl dX7_image_175
    · refine j_aload_n (pc := 153) C dX7_image_153 rfl 0 rfl ?_
      refine gf_X7_175 (pc := 154) C dX7_image_154 ?_
      refine j_iload_n (pc := 157) C dX7_image_157 rfl 1 rfl ?_
      refine j_aload_n (pc := 158) C dX7_image_158 rfl 0 rfl ?_
      refine gf_X7_135 (pc := 159) C dX7_image_159 ?_
      refine j_iload_n (pc := 162) C dX7_image_162 rfl 1 rfl ?_
      refine j_bI (fun v1 ev1 => ?_)
      refine j_iald (pc := 163) C arX7_41 ev1 dX7_image_163 ?_
      refine j_bI (fun s7 es7 => ?_)
      refine j_iast (pc := 164) C arX7_54 es7 dX7_image_164 ?_
      refine j_iinc (pc := 165) C hN dX7_image_165 1 rfl (by decide) (lv' := [(1, .int (oI (l1 + 1))), (0, .ref (G.2.2.1 0))]) rfl ?_
      refine j_goto (pc := 168) (tgt := 147) C dX7_image_168 rfl ?_
      exact j_sub [1, 0] rfl (ih _ _)
set_option maxHeartbeats 4000000 in
set_option maxRecDepth 100000 in
theorem X7_image_L121_j {X : JX} {G : GD} (C : zC X sM G RX7 cX7_image (some .int) 0) (hN : X.2.2.2.2.2.2.2.2.2.2.2.2 = 2) (hj : zInj sM G)  : ∀ (k : Nat) (st : PS) (l1 : Int), J X (zI sM G) (zQ sM G fI) st [(0, .ref (G.2.2.1 0)), (1, .int (oI l1))] 121 [] (X7_image_L121 k st l1) := by
  intro k
  induction k with
  | zero => intro st l1; exact j_none
  | succ k ih =>
    intro st l1
    rw [X7_image_L121]
    refine j_iload_n (pc := 121) C dX7_image_121 rfl 1 rfl ?_
    refine j_bipush (pc := 122) C dX7_image_122 (by decide) ?_
    refine j_icmp_ge (pc := 124) (tgt := 145) C dX7_image_124 rfl ?_ ?_
    · refine j_iconst (pc := 145) C dX7_image_145 ?_
      refine j_istore_n (pc := 146) C hN dX7_image_146 rfl (by decide) (lv' := [(1, .int (oI 0)), (0, .ref (G.2.2.1 0))]) rfl ?_
      exact j_sub [1, 0] rfl (X7_image_L147_j C hN hj FU _ _)
    · refine j_aload_n (pc := 127) C dX7_image_127 rfl 0 rfl ?_
      refine gf_X7_166 (pc := 128) C dX7_image_128 ?_
      refine j_iload_n (pc := 131) C dX7_image_131 rfl 1 rfl ?_
      refine j_aload_n (pc := 132) C dX7_image_132 rfl 0 rfl ?_
      refine gf_X7_26 (pc := 133) C dX7_image_133 ?_
      refine j_iload_n (pc := 136) C dX7_image_136 rfl 1 rfl ?_
      refine j_bI (fun v2 ev2 => ?_)
      refine j_iald (pc := 137) C arX7_5 ev2 dX7_image_137 ?_
      refine j_bI (fun s8 es8 => ?_)
      refine j_iast (pc := 138) C arX7_51 es8 dX7_image_138 ?_
      refine j_iinc (pc := 139) C hN dX7_image_139 1 rfl (by decide) (lv' := [(1, .int (oI (l1 + 1))), (0, .ref (G.2.2.1 0))]) rfl ?_
      refine j_goto (pc := 142) (tgt := 121) C dX7_image_142 rfl ?_
      exact j_sub [1, 0] rfl (ih _ _)
set_option maxHeartbeats 4000000 in
set_option maxRecDepth 100000 in
theorem X7_image_L47_j {X : JX} {G : GD} (C : zC X sM G RX7 cX7_image (some .int) 0) (hN : X.2.2.2.2.2.2.2.2.2.2.2.2 = 2) (hj : zInj sM G)  : ∀ (k : Nat) (st : PS) (l1 : Int), J X (zI sM G) (zQ sM G fI) st [(0, .ref (G.2.2.1 0)), (1, .int (oI l1))] 47 [] (X7_image_L47 k st l1) := by
  intro k
  induction k with
  | zero => intro st l1; exact j_none
  | succ k ih =>
    intro st l1
    rw [X7_image_L47]
    refine j_iload_n (pc := 47) C dX7_image_47 rfl 1 rfl ?_
    refine j_bipush (pc := 48) C dX7_image_48 (by decide) ?_
    refine j_icmp_ge (pc := 50) (tgt := 119) C dX7_image_50 rfl ?_ ?_
    · refine j_iconst (pc := 119) C dX7_image_119 ?_
      refine j_istore_n (pc := 120) C hN dX7_image_120 rfl (by decide) (lv' := [(1, .int (oI 0)), (0, .ref (G.2.2.1 0))]) rfl ?_
      exact j_sub [1, 0] rfl (X7_image_L121_j C hN hj FU _ _)
    · refine j_aload_n (pc := 53) C dX7_image_53 rfl 0 rfl ?_
      refine gf_X7_157 (pc := 54) C dX7_image_54 ?_
      refine j_iload_n (pc := 57) C dX7_image_57 rfl 1 rfl ?_
      refine j_aload_n (pc := 58) C dX7_image_58 rfl 0 rfl ?_
      refine gf_X7_16 (pc := 59) C dX7_image_59 ?_
      refine j_iload_n (pc := 62) C dX7_image_62 rfl 1 rfl ?_
      refine j_bI (fun v3 ev3 => ?_)
      refine j_iald (pc := 63) C arX7_2 ev3 dX7_image_63 ?_
      refine j_bI (fun s9 es9 => ?_)
      refine j_iast (pc := 64) C arX7_48 es9 dX7_image_64 ?_
      refine j_aload_n (pc := 65) C dX7_image_65 rfl 0 rfl ?_
      refine gf_X7_160 (pc := 66) C dX7_image_66 ?_
      refine j_iload_n (pc := 69) C dX7_image_69 rfl 1 rfl ?_
      refine j_aload_n (pc := 70) C dX7_image_70 rfl 0 rfl ?_
      refine gf_X7_20 (pc := 71) C dX7_image_71 ?_
      refine j_iload_n (pc := 74) C dX7_image_74 rfl 1 rfl ?_
      refine j_bI (fun v4 ev4 => ?_)
      refine j_iald (pc := 75) C arX7_3 ev4 dX7_image_75 ?_
      refine j_bI (fun s10 es10 => ?_)
      refine j_iast (pc := 76) C arX7_49 es10 dX7_image_76 ?_
      refine j_aload_n (pc := 77) C dX7_image_77 rfl 0 rfl ?_
      refine gf_X7_163 (pc := 78) C dX7_image_78 ?_
      refine j_iload_n (pc := 81) C dX7_image_81 rfl 1 rfl ?_
      refine j_aload_n (pc := 82) C dX7_image_82 rfl 0 rfl ?_
      refine gf_X7_23 (pc := 83) C dX7_image_83 ?_
      refine j_iload_n (pc := 86) C dX7_image_86 rfl 1 rfl ?_
      refine j_bI (fun v5 ev5 => ?_)
      refine j_iald (pc := 87) C arX7_4 ev5 dX7_image_87 ?_
      refine j_bI (fun s11 es11 => ?_)
      refine j_iast (pc := 88) C arX7_50 es11 dX7_image_88 ?_
      refine j_aload_n (pc := 89) C dX7_image_89 rfl 0 rfl ?_
      refine gf_X7_169 (pc := 90) C dX7_image_90 ?_
      refine j_iload_n (pc := 93) C dX7_image_93 rfl 1 rfl ?_
      refine j_aload_n (pc := 94) C dX7_image_94 rfl 0 rfl ?_
      refine gf_X7_126 (pc := 95) C dX7_image_95 ?_
      refine j_iload_n (pc := 98) C dX7_image_98 rfl 1 rfl ?_
      refine j_bI (fun v6 ev6 => ?_)
      refine j_iald (pc := 99) C arX7_38 ev6 dX7_image_99 ?_
      refine j_bI (fun s12 es12 => ?_)
      refine j_iast (pc := 100) C arX7_52 es12 dX7_image_100 ?_
      refine j_aload_n (pc := 101) C dX7_image_101 rfl 0 rfl ?_
      refine gf_X7_172 (pc := 102) C dX7_image_102 ?_
      refine j_iload_n (pc := 105) C dX7_image_105 rfl 1 rfl ?_
      refine j_aload_n (pc := 106) C dX7_image_106 rfl 0 rfl ?_
      refine gf_X7_129 (pc := 107) C dX7_image_107 ?_
      refine j_iload_n (pc := 110) C dX7_image_110 rfl 1 rfl ?_
      refine j_bI (fun v7 ev7 => ?_)
      refine j_iald (pc := 111) C arX7_39 ev7 dX7_image_111 ?_
      refine j_bI (fun s13 es13 => ?_)
      refine j_iast (pc := 112) C arX7_53 es13 dX7_image_112 ?_
      refine j_iinc (pc := 113) C hN dX7_image_113 1 rfl (by decide) (lv' := [(1, .int (oI (l1 + 1))), (0, .ref (G.2.2.1 0))]) rfl ?_
      refine j_goto (pc := 116) (tgt := 47) C dX7_image_116 rfl ?_
      exact j_sub [1, 0] rfl (ih _ _)
set_option maxHeartbeats 4000000 in
set_option maxRecDepth 100000 in
theorem X7_image_m (l : Launch) {G : GD} (hj : zInj sM G) {st : PS} {r : (Int × PS)} (hr : X7_image st = some r) : zM l sM G yX7_image cX7_image 2 (some .int) 0 [.ref (G.2.2.1 0)] st (some (.int (oI r.1))) r.2 :=
  zEnter (f := fI) hr hj (by decide) rfl (lv := [(0, .ref (G.2.2.1 0))]) rfl (Nat.le_of_ble_eq_true rfl) (fun X _ hN C => by
    unfold X7_image
    refine j_aload_n (pc := 0) C dX7_image_0 rfl 0 rfl ?_
    refine j_iconst (pc := 1) C dX7_image_1 ?_
    refine fp_X7_138 (pc := 2) C (Or.inr rfl) dX7_image_2 ?_
    refine j_let (fun s1 => ?_)
    refine j_aload_n (pc := 5) C dX7_image_5 rfl 0 rfl ?_
    refine j_aload_n (pc := 6) C dX7_image_6 rfl 0 rfl ?_
    refine gf_X7_32 (pc := 7) C dX7_image_7 ?_
    refine fp_X7_142 (pc := 10) C dX7_image_10 ?_
    refine j_let (fun s2 => ?_)
    refine j_aload_n (pc := 13) C dX7_image_13 rfl 0 rfl ?_
    refine j_aload_n (pc := 14) C dX7_image_14 rfl 0 rfl ?_
    refine gf_X7_7 (pc := 15) C dX7_image_15 ?_
    refine fp_X7_145 (pc := 18) C dX7_image_18 ?_
    refine j_let (fun s3 => ?_)
    refine j_aload_n (pc := 21) C dX7_image_21 rfl 0 rfl ?_
    refine j_aload_n (pc := 22) C dX7_image_22 rfl 0 rfl ?_
    refine gf_X7_13 (pc := 23) C dX7_image_23 ?_
    refine fp_X7_148 (pc := 26) C dX7_image_26 ?_
    refine j_let (fun s4 => ?_)
    refine j_aload_n (pc := 29) C dX7_image_29 rfl 0 rfl ?_
    refine j_aload_n (pc := 30) C dX7_image_30 rfl 0 rfl ?_
    refine gf_X7_123 (pc := 31) C dX7_image_31 ?_
    refine fp_X7_151 (pc := 34) C dX7_image_34 ?_
    refine j_let (fun s5 => ?_)
    refine j_aload_n (pc := 37) C dX7_image_37 rfl 0 rfl ?_
    refine j_aload_n (pc := 38) C dX7_image_38 rfl 0 rfl ?_
    refine gf_X7_132 (pc := 39) C dX7_image_39 ?_
    refine fp_X7_154 (pc := 42) C dX7_image_42 ?_
    refine j_let (fun s6 => ?_)
    refine j_iconst (pc := 45) C dX7_image_45 ?_
    refine j_istore_n (pc := 46) C hN dX7_image_46 rfl (by decide) (lv' := [(1, .int (oI 0)), (0, .ref (G.2.2.1 0))]) rfl ?_
    exact j_sub [1, 0] rfl (X7_image_L47_j C hN hj FU _ _))
def X7_undo_L152  : Nat → PS → Int → Option (Int × PS)
  | 0, _, _ => none
  | k + 1, st, l1 => if wI 12 ≤ wI l1 then some (st 0 0, st) else (bI (zrd st 54 12 l1) (fun v1 => bI (zwr st 41 12 l1 v1) (fun s6 => X7_undo_L152 k s6 (l1 + 1))))
def X7_undo_L126  : Nat → PS → Int → Option (Int × PS)
  | 0, _, _ => none
  | k + 1, st, l1 => if wI 32 ≤ wI l1 then X7_undo_L152 FU st 0 else (bI (zrd st 51 32 l1) (fun v2 => bI (zwr st 5 32 l1 v2) (fun s7 => X7_undo_L126 k s7 (l1 + 1))))
def X7_undo_L52  : Nat → PS → Int → Option (Int × PS)
  | 0, _, _ => none
  | k + 1, st, l1 => if wI 8 ≤ wI l1 then X7_undo_L126 FU st 0 else (bI (zrd st 48 8 l1) (fun v3 => bI (zwr st 2 8 l1 v3) (fun s8 => bI (zrd s8 49 8 l1) (fun v4 => bI (zwr s8 3 8 l1 v4) (fun s9 => bI (zrd s9 50 8 l1) (fun v5 => bI (zwr s9 4 8 l1 v5) (fun s10 => bI (zrd s10 52 8 l1) (fun v6 => bI (zwr s10 38 8 l1 v6) (fun s11 => bI (zrd s11 53 8 l1) (fun v7 => bI (zwr s11 39 8 l1 v7) (fun s12 => X7_undo_L52 k s12 (l1 + 1))))))))))))
def X7_undo (st : PS) : Option (Int × PS) := if wI (st 0 42) = 0 then some ((-3), st) else (zlet (zu st 0 7 (st 0 43)) (fun s1 => zlet (zu s1 0 0 (s1 0 44)) (fun s2 => zlet (zu s2 0 1 (s2 0 45)) (fun s3 => zlet (zu s3 0 37 (s3 0 46)) (fun s4 => zlet (zu s4 0 40 (s4 0 47)) (fun s5 => X7_undo_L52 FU s5 0))))))
set_option maxHeartbeats 4000000 in
set_option maxRecDepth 100000 in
theorem X7_undo_L152_j {X : JX} {G : GD} (C : zC X sM G RX7 cX7_undo (some .int) 0) (hN : X.2.2.2.2.2.2.2.2.2.2.2.2 = 2) (hj : zInj sM G)  : ∀ (k : Nat) (st : PS) (l1 : Int), J X (zI sM G) (zQ sM G fI) st [(0, .ref (G.2.2.1 0)), (1, .int (oI l1))] 152 [] (X7_undo_L152 k st l1) := by
  intro k
  induction k with
  | zero => intro st l1; exact j_none
  | succ k ih =>
    intro st l1
    rw [X7_undo_L152]
    refine j_iload_n (pc := 152) C dX7_undo_152 rfl 1 rfl ?_
    refine j_bipush (pc := 153) C dX7_undo_153 (by decide) ?_
    refine j_icmp_ge (pc := 155) (tgt := 176) C dX7_undo_155 rfl ?_ ?_
    · refine j_aload_n (pc := 176) C dX7_undo_176 rfl 0 rfl ?_
      refine gf_X7_7 (pc := 177) C dX7_undo_177 ?_
      exact j_ireturn C rfl rfl rfl rfl dX7_undo_180
    · refine j_aload_n (pc := 158) C dX7_undo_158 rfl 0 rfl ?_
      refine gf_X7_135 (pc := 159) C dX7_undo_159 ?_
      refine j_iload_n (pc := 162) C dX7_undo_162 rfl 1 rfl ?_
      refine j_aload_n (pc := 163) C dX7_undo_163 rfl 0 rfl ?_
      refine gf_X7_175 (pc := 164) C dX7_undo_164 ?_
      refine j_iload_n (pc := 167) C dX7_undo_167 rfl 1 rfl ?_
      refine j_bI (fun v1 ev1 => ?_)
      refine j_iald (pc := 168) C arX7_54 ev1 dX7_undo_168 ?_
      refine j_bI (fun s6 es6 => ?_)
      refine j_iast (pc := 169) C arX7_41 es6 dX7_undo_169 ?_
      refine j_iinc (pc := 170) C hN dX7_undo_170 1 rfl (by decide) (lv' := [(1, .int (oI (l1 + 1))), (0, .ref (G.2.2.1 0))]) rfl ?_
      refine j_goto (pc := 173) (tgt := 152) C dX7_undo_173 rfl ?_
      exact j_sub [1, 0] rfl (ih _ _)
set_option maxHeartbeats 4000000 in
set_option maxRecDepth 100000 in
theorem X7_undo_L126_j {X : JX} {G : GD} (C : zC X sM G RX7 cX7_undo (some .int) 0) (hN : X.2.2.2.2.2.2.2.2.2.2.2.2 = 2) (hj : zInj sM G)  : ∀ (k : Nat) (st : PS) (l1 : Int), J X (zI sM G) (zQ sM G fI) st [(0, .ref (G.2.2.1 0)), (1, .int (oI l1))] 126 [] (X7_undo_L126 k st l1) := by
  intro k
  induction k with
  | zero => intro st l1; exact j_none
  | succ k ih =>
    intro st l1
    rw [X7_undo_L126]
    refine j_iload_n (pc := 126) C dX7_undo_126 rfl 1 rfl ?_
    refine j_bipush (pc := 127) C dX7_undo_127 (by decide) ?_
    refine j_icmp_ge (pc := 129) (tgt := 150) C dX7_undo_129 rfl ?_ ?_
    · refine j_iconst (pc := 150) C dX7_undo_150 ?_
      refine j_istore_n (pc := 151) C hN dX7_undo_151 rfl (by decide) (lv' := [(1, .int (oI 0)), (0, .ref (G.2.2.1 0))]) rfl ?_
      exact j_sub [1, 0] rfl (X7_undo_L152_j C hN hj FU _ _)
    · refine j_aload_n (pc := 132) C dX7_undo_132 rfl 0 rfl ?_
      refine gf_X7_26 (pc := 133) C dX7_undo_133 ?_
      refine j_iload_n (pc := 136) C dX7_undo_136 rfl 1 rfl ?_
      refine j_aload_n (pc := 137) C dX7_undo_137 rfl 0 rfl ?_
      refine gf_X7_166 (pc := 138) C dX7_undo_138 ?_
      refine j_iload_n (pc := 141) C dX7_undo_141 rfl 1 rfl ?_
      refine j_bI (fun v2 ev2 => ?_)
      refine j_iald (pc := 142) C arX7_51 ev2 dX7_undo_142 ?_
      refine j_bI (fun s7 es7 => ?_)
      refine j_iast (pc := 143) C arX7_5 es7 dX7_undo_143 ?_
      refine j_iinc (pc := 144) C hN dX7_undo_144 1 rfl (by decide) (lv' := [(1, .int (oI (l1 + 1))), (0, .ref (G.2.2.1 0))]) rfl ?_
      refine j_goto (pc := 147) (tgt := 126) C dX7_undo_147 rfl ?_
      exact j_sub [1, 0] rfl (ih _ _)
set_option maxHeartbeats 4000000 in
set_option maxRecDepth 100000 in
theorem X7_undo_L52_j {X : JX} {G : GD} (C : zC X sM G RX7 cX7_undo (some .int) 0) (hN : X.2.2.2.2.2.2.2.2.2.2.2.2 = 2) (hj : zInj sM G)  : ∀ (k : Nat) (st : PS) (l1 : Int), J X (zI sM G) (zQ sM G fI) st [(0, .ref (G.2.2.1 0)), (1, .int (oI l1))] 52 [] (X7_undo_L52 k st l1) := by
  intro k
  induction k with
  | zero => intro st l1; exact j_none
  | succ k ih =>
    intro st l1
    rw [X7_undo_L52]
    refine j_iload_n (pc := 52) C dX7_undo_52 rfl 1 rfl ?_
    refine j_bipush (pc := 53) C dX7_undo_53 (by decide) ?_
    refine j_icmp_ge (pc := 55) (tgt := 124) C dX7_undo_55 rfl ?_ ?_
    · refine j_iconst (pc := 124) C dX7_undo_124 ?_
      refine j_istore_n (pc := 125) C hN dX7_undo_125 rfl (by decide) (lv' := [(1, .int (oI 0)), (0, .ref (G.2.2.1 0))]) rfl ?_
      exact j_sub [1, 0] rfl (X7_undo_L126_j C hN hj FU _ _)
    · refine j_aload_n (pc := 58) C dX7_undo_58 rfl 0 rfl ?_
      refine gf_X7_16 (pc := 59) C dX7_undo_59 ?_
      refine j_iload_n (pc := 62) C dX7_undo_62 rfl 1 rfl ?_
      refine j_aload_n (pc := 63) C dX7_undo_63 rfl 0 rfl ?_
      refine gf_X7_157 (pc := 64) C dX7_undo_64 ?_
      refine j_iload_n (pc := 67) C dX7_undo_67 rfl 1 rfl ?_
      refine j_bI (fun v3 ev3 => ?_)
      refine j_iald (pc := 68) C arX7_48 ev3 dX7_undo_68 ?_
      refine j_bI (fun s8 es8 => ?_)
      refine j_iast (pc := 69) C arX7_2 es8 dX7_undo_69 ?_
      refine j_aload_n (pc := 70) C dX7_undo_70 rfl 0 rfl ?_
      refine gf_X7_20 (pc := 71) C dX7_undo_71 ?_
      refine j_iload_n (pc := 74) C dX7_undo_74 rfl 1 rfl ?_
      refine j_aload_n (pc := 75) C dX7_undo_75 rfl 0 rfl ?_
      refine gf_X7_160 (pc := 76) C dX7_undo_76 ?_
      refine j_iload_n (pc := 79) C dX7_undo_79 rfl 1 rfl ?_
      refine j_bI (fun v4 ev4 => ?_)
      refine j_iald (pc := 80) C arX7_49 ev4 dX7_undo_80 ?_
      refine j_bI (fun s9 es9 => ?_)
      refine j_iast (pc := 81) C arX7_3 es9 dX7_undo_81 ?_
      refine j_aload_n (pc := 82) C dX7_undo_82 rfl 0 rfl ?_
      refine gf_X7_23 (pc := 83) C dX7_undo_83 ?_
      refine j_iload_n (pc := 86) C dX7_undo_86 rfl 1 rfl ?_
      refine j_aload_n (pc := 87) C dX7_undo_87 rfl 0 rfl ?_
      refine gf_X7_163 (pc := 88) C dX7_undo_88 ?_
      refine j_iload_n (pc := 91) C dX7_undo_91 rfl 1 rfl ?_
      refine j_bI (fun v5 ev5 => ?_)
      refine j_iald (pc := 92) C arX7_50 ev5 dX7_undo_92 ?_
      refine j_bI (fun s10 es10 => ?_)
      refine j_iast (pc := 93) C arX7_4 es10 dX7_undo_93 ?_
      refine j_aload_n (pc := 94) C dX7_undo_94 rfl 0 rfl ?_
      refine gf_X7_126 (pc := 95) C dX7_undo_95 ?_
      refine j_iload_n (pc := 98) C dX7_undo_98 rfl 1 rfl ?_
      refine j_aload_n (pc := 99) C dX7_undo_99 rfl 0 rfl ?_
      refine gf_X7_169 (pc := 100) C dX7_undo_100 ?_
      refine j_iload_n (pc := 103) C dX7_undo_103 rfl 1 rfl ?_
      refine j_bI (fun v6 ev6 => ?_)
      refine j_iald (pc := 104) C arX7_52 ev6 dX7_undo_104 ?_
      refine j_bI (fun s11 es11 => ?_)
      refine j_iast (pc := 105) C arX7_38 es11 dX7_undo_105 ?_
      refine j_aload_n (pc := 106) C dX7_undo_106 rfl 0 rfl ?_
      refine gf_X7_129 (pc := 107) C dX7_undo_107 ?_
      refine j_iload_n (pc := 110) C dX7_undo_110 rfl 1 rfl ?_
      refine j_aload_n (pc := 111) C dX7_undo_111 rfl 0 rfl ?_
      refine gf_X7_172 (pc := 112) C dX7_undo_112 ?_
      refine j_iload_n (pc := 115) C dX7_undo_115 rfl 1 rfl ?_
      refine j_bI (fun v7 ev7 => ?_)
      refine j_iald (pc := 116) C arX7_53 ev7 dX7_undo_116 ?_
      refine j_bI (fun s12 es12 => ?_)
      refine j_iast (pc := 117) C arX7_39 es12 dX7_undo_117 ?_
      refine j_iinc (pc := 118) C hN dX7_undo_118 1 rfl (by decide) (lv' := [(1, .int (oI (l1 + 1))), (0, .ref (G.2.2.1 0))]) rfl ?_
      refine j_goto (pc := 121) (tgt := 52) C dX7_undo_121 rfl ?_
      exact j_sub [1, 0] rfl (ih _ _)
set_option maxHeartbeats 4000000 in
set_option maxRecDepth 100000 in
theorem X7_undo_m (l : Launch) {G : GD} (hj : zInj sM G) {st : PS} {r : (Int × PS)} (hr : X7_undo st = some r) : zM l sM G yX7_undo cX7_undo 2 (some .int) 0 [.ref (G.2.2.1 0)] st (some (.int (oI r.1))) r.2 :=
  zEnter (f := fI) hr hj (by decide) rfl (lv := [(0, .ref (G.2.2.1 0))]) rfl (Nat.le_of_ble_eq_true rfl) (fun X _ hN C => by
    unfold X7_undo
    refine j_aload_n (pc := 0) C dX7_undo_0 rfl 0 rfl ?_
    refine gf_X7_138 (pc := 1) C dX7_undo_1 ?_
    refine j_if_ne (pc := 4) (tgt := 10) C dX7_undo_4 rfl ?_ ?_
    · refine j_bipush (pc := 7) C dX7_undo_7 (by decide) ?_
      exact j_ireturn C rfl rfl rfl rfl dX7_undo_9
    · refine j_aload_n (pc := 10) C dX7_undo_10 rfl 0 rfl ?_
      refine j_aload_n (pc := 11) C dX7_undo_11 rfl 0 rfl ?_
      refine gf_X7_142 (pc := 12) C dX7_undo_12 ?_
      refine fp_X7_32 (pc := 15) C dX7_undo_15 ?_
      refine j_let (fun s1 => ?_)
      refine j_aload_n (pc := 18) C dX7_undo_18 rfl 0 rfl ?_
      refine j_aload_n (pc := 19) C dX7_undo_19 rfl 0 rfl ?_
      refine gf_X7_145 (pc := 20) C dX7_undo_20 ?_
      refine fp_X7_7 (pc := 23) C dX7_undo_23 ?_
      refine j_let (fun s2 => ?_)
      refine j_aload_n (pc := 26) C dX7_undo_26 rfl 0 rfl ?_
      refine j_aload_n (pc := 27) C dX7_undo_27 rfl 0 rfl ?_
      refine gf_X7_148 (pc := 28) C dX7_undo_28 ?_
      refine fp_X7_13 (pc := 31) C dX7_undo_31 ?_
      refine j_let (fun s3 => ?_)
      refine j_aload_n (pc := 34) C dX7_undo_34 rfl 0 rfl ?_
      refine j_aload_n (pc := 35) C dX7_undo_35 rfl 0 rfl ?_
      refine gf_X7_151 (pc := 36) C dX7_undo_36 ?_
      refine fp_X7_123 (pc := 39) C dX7_undo_39 ?_
      refine j_let (fun s4 => ?_)
      refine j_aload_n (pc := 42) C dX7_undo_42 rfl 0 rfl ?_
      refine j_aload_n (pc := 43) C dX7_undo_43 rfl 0 rfl ?_
      refine gf_X7_154 (pc := 44) C dX7_undo_44 ?_
      refine fp_X7_132 (pc := 47) C dX7_undo_47 ?_
      refine j_let (fun s5 => ?_)
      refine j_iconst (pc := 50) C dX7_undo_50 ?_
      refine j_istore_n (pc := 51) C hN dX7_undo_51 rfl (by decide) (lv' := [(1, .int (oI 0)), (0, .ref (G.2.2.1 0))]) rfl ?_
      exact j_sub [1, 0] rfl (X7_undo_L52_j C hN hj FU _ _))
def X7_body (st : PS) (l1 : Int) : Option PS := if wI 20 ≤ wI (st 0 55) then zlet (zu st 0 55 ((st 0 55) + 1)) (fun s2 => some s2) else (bI (zwr st 56 20 (st 0 55) l1) (fun s3 => zlet (zu s3 0 55 ((s3 0 55) + 1)) (fun s4 => some s4)))
set_option maxHeartbeats 4000000 in
set_option maxRecDepth 100000 in
theorem X7_body_m (l : Launch) {G : GD} (hj : zInj sM G) {st : PS} {l1 : Int} {r : PS} (hr : X7_body st l1 = some r) : zM l sM G yX7_body cX7_body 2 none 0 [.ref (G.2.2.1 0), .int (oI l1)] st none r :=
  zEnter (f := fV) hr hj (by decide) rfl (lv := [(0, .ref (G.2.2.1 0)), (1, .int (oI l1))]) rfl (Nat.le_of_ble_eq_true rfl) (fun X _ hN C => by
    unfold X7_body
    refine j_aload_n (pc := 0) C dX7_body_0 rfl 0 rfl ?_
    refine gf_X7_178 (pc := 1) C dX7_body_1 ?_
    refine j_bipush (pc := 4) C dX7_body_4 (by decide) ?_
    refine j_icmp_ge (pc := 6) (tgt := 19) C dX7_body_6 rfl ?_ ?_
    · refine j_aload_n (pc := 19) C dX7_body_19 rfl 0 rfl ?_
      refine j_dup (pc := 20) C dX7_body_20 rfl ?_
      refine gf_X7_178 (pc := 21) C dX7_body_21 ?_
      refine j_iconst (pc := 24) C dX7_body_24 ?_
      refine j_iadd (pc := 25) C dX7_body_25 ?_
      refine fp_X7_178 (pc := 26) C dX7_body_26 ?_
      refine j_let (fun s2 => ?_)
      exact j_return C rfl rfl dX7_body_29
    · refine j_aload_n (pc := 9) C dX7_body_9 rfl 0 rfl ?_
      refine gf_X7_181 (pc := 10) C dX7_body_10 ?_
      refine j_aload_n (pc := 13) C dX7_body_13 rfl 0 rfl ?_
      refine gf_X7_178 (pc := 14) C dX7_body_14 ?_
      refine j_iload_n (pc := 17) C dX7_body_17 rfl 1 rfl ?_
      refine j_bI (fun s3 es3 => ?_)
      refine j_iast (pc := 18) C arX7_56 es3 dX7_body_18 ?_
      refine j_aload_n (pc := 19) C dX7_body_19 rfl 0 rfl ?_
      refine j_dup (pc := 20) C dX7_body_20 rfl ?_
      refine gf_X7_178 (pc := 21) C dX7_body_21 ?_
      refine j_iconst (pc := 24) C dX7_body_24 ?_
      refine j_iadd (pc := 25) C dX7_body_25 ?_
      refine fp_X7_178 (pc := 26) C dX7_body_26 ?_
      refine j_let (fun s4 => ?_)
      exact j_return C rfl rfl dX7_body_29)
def X7_houseEarns (st : PS) (l1 l2 : Int) : Option (Int × PS) := bI (X7_body st 10) (fun s1 => some (l2 + l1, s1))
set_option maxHeartbeats 4000000 in
set_option maxRecDepth 100000 in
theorem X7_houseEarns_m (l : Launch) {G : GD} (hj : zInj sM G) {st : PS} {l1 l2 : Int} {r : (Int × PS)} (hr : X7_houseEarns st l1 l2 = some r) : zM l sM G yX7_houseEarns cX7_houseEarns 3 (some .int) 1 [.ref (G.2.2.1 0), .int (oI l1), .int (oI l2)] st (some (.int (oI r.1))) r.2 :=
  zEnter (f := fI) hr hj (by decide) rfl (lv := [(0, .ref (G.2.2.1 0)), (1, .int (oI l1)), (2, .int (oI l2))]) rfl (Nat.le_of_ble_eq_true rfl) (fun X _ hN C => by
    unfold X7_houseEarns
    refine j_aload_n (pc := 0) C dX7_houseEarns_0 rfl 0 rfl ?_
    refine j_bipush (pc := 1) C dX7_houseEarns_1 (by decide) ?_
    refine j_bI (fun s1 es1 => ?_)
    refine j_callV0 (pc := 3) C obX7 rfl rfl (X7_body_m _ hj es1) kV_X7_383 rfl (by omega) rfl (Nat.le_of_ble_eq_true rfl) dX7_houseEarns_3 ?_
    refine j_iload_n (pc := 6) C dX7_houseEarns_6 rfl 2 rfl ?_
    refine j_iload_n (pc := 7) C dX7_houseEarns_7 rfl 1 rfl ?_
    refine j_iadd (pc := 8) C dX7_houseEarns_8 ?_
    exact j_ireturn C rfl rfl rfl rfl dX7_houseEarns_9)
def X7_earnsAct (st : PS) (l1 l2 : Int) : Option (Int × PS) := bI (zrd st 2 8 l1) (fun v1 => if wI v1 = 2 ∨ wI v1 = 5 then bI (X7_body st 30) (fun s1 => bP (X7_houseEarns s1 l1 (l2 * 3)) (fun v2 s2 => some (v2, s2))) else (if wI v1 = 4 then bI (X7_body st 50) (fun s3 => bP (X7_houseEarns s3 l1 l2) (fun v3 s4 => some (-v3, s4))) else (if wI v1 = 6 then bI (X7_body st 71) (fun s5 => bP (X7_houseEarns s5 l1 l2) (fun v4 s6 => bI (zrd s6 3 8 l1) (fun v5 => some (zxor v4 v5, s6)))) else (bP (X7_houseEarns st l1 l2) (fun v6 s7 => some (v6, s7))))))
set_option maxHeartbeats 4000000 in
set_option maxRecDepth 100000 in
theorem X7_earnsAct_m (l : Launch) {G : GD} (hj : zInj sM G) {st : PS} {l1 l2 : Int} {r : (Int × PS)} (hr : X7_earnsAct st l1 l2 = some r) : zM l sM G yX7_earnsAct cX7_earnsAct 3 (some .int) 2 [.ref (G.2.2.1 0), .int (oI l1), .int (oI l2)] st (some (.int (oI r.1))) r.2 :=
  zEnter (f := fI) hr hj (by decide) rfl (lv := [(0, .ref (G.2.2.1 0)), (1, .int (oI l1)), (2, .int (oI l2))]) rfl (Nat.le_of_ble_eq_true rfl) (fun X _ hN C => by
    unfold X7_earnsAct
    refine j_aload_n (pc := 0) C dX7_earnsAct_0 rfl 0 rfl ?_
    refine gf_X7_16 (pc := 1) C dX7_earnsAct_1 ?_
    refine j_iload_n (pc := 4) C dX7_earnsAct_4 rfl 1 rfl ?_
    refine j_bI (fun v1 ev1 => ?_)
    refine j_iald (pc := 5) C arX7_2 ev1 dX7_earnsAct_5 ?_
    refine j_if (fun hc => ?_) (fun hn0 => ?_)
    · refine j_join (lv' := [(0, .ref (G.2.2.1 0)), (1, .int (oI l1)), (2, .int (oI l2))]) (pc' := 40) (stk' := []) ?_ (fun jn => ?_)
      · refine j_aload_n (pc := 40) C dX7_earnsAct_40 rfl 0 rfl ?_
        refine j_bipush (pc := 41) C dX7_earnsAct_41 (by decide) ?_
        refine j_bI (fun s1 es1 => ?_)
        refine j_callV0 (pc := 43) C obX7 rfl rfl (X7_body_m _ hj es1) kV_X7_383 rfl (by omega) rfl (Nat.le_of_ble_eq_true rfl) dX7_earnsAct_43 ?_
        refine j_aload_n (pc := 46) C dX7_earnsAct_46 rfl 0 rfl ?_
        refine j_iload_n (pc := 47) C dX7_earnsAct_47 rfl 1 rfl ?_
        refine j_iload_n (pc := 48) C dX7_earnsAct_48 rfl 2 rfl ?_
        refine j_iconst (pc := 49) C dX7_earnsAct_49 ?_
        refine j_imul (pc := 50) C dX7_earnsAct_50 ?_
        refine j_bP (fun v2 s2 es2 => ?_)
        refine j_callV1 (pc := 51) C obX7 rfl rfl (X7_houseEarns_m _ hj es2) kV_X7_386 rfl (by omega) rfl (Nat.le_of_ble_eq_true rfl) dX7_earnsAct_51 ?_
        exact j_ireturn C rfl rfl rfl rfl dX7_earnsAct_54
      · rcases hc with hc | hc
        · exact j_tabIn (pc := 6) (tgt := 40) C dX7_earnsAct_6 hc (by decide) (by decide) rfl rfl jn
        · exact j_tabIn (pc := 6) (tgt := 40) C dX7_earnsAct_6 hc (by decide) (by decide) rfl rfl jn
    · refine j_if (fun hc => ?_) (fun hn1 => ?_)
      · refine j_tabIn (pc := 6) (tgt := 55) C dX7_earnsAct_6 hc (by decide) (by decide) rfl rfl ?_
        refine j_aload_n (pc := 55) C dX7_earnsAct_55 rfl 0 rfl ?_
        refine j_bipush (pc := 56) C dX7_earnsAct_56 (by decide) ?_
        refine j_bI (fun s3 es3 => ?_)
        refine j_callV0 (pc := 58) C obX7 rfl rfl (X7_body_m _ hj es3) kV_X7_383 rfl (by omega) rfl (Nat.le_of_ble_eq_true rfl) dX7_earnsAct_58 ?_
        refine j_aload_n (pc := 61) C dX7_earnsAct_61 rfl 0 rfl ?_
        refine j_iload_n (pc := 62) C dX7_earnsAct_62 rfl 1 rfl ?_
        refine j_iload_n (pc := 63) C dX7_earnsAct_63 rfl 2 rfl ?_
        refine j_bP (fun v3 s4 es4 => ?_)
        refine j_callV1 (pc := 64) C obX7 rfl rfl (X7_houseEarns_m _ hj es4) kV_X7_386 rfl (by omega) rfl (Nat.le_of_ble_eq_true rfl) dX7_earnsAct_64 ?_
        refine j_ineg (pc := 67) C dX7_earnsAct_67 ?_
        exact j_ireturn C rfl rfl rfl rfl dX7_earnsAct_68
      · refine j_if (fun hc => ?_) (fun hn2 => ?_)
        · refine j_tabIn (pc := 6) (tgt := 69) C dX7_earnsAct_6 hc (by decide) (by decide) rfl rfl ?_
          refine j_aload_n (pc := 69) C dX7_earnsAct_69 rfl 0 rfl ?_
          refine j_bipush (pc := 70) C dX7_earnsAct_70 (by decide) ?_
          refine j_bI (fun s5 es5 => ?_)
          refine j_callV0 (pc := 72) C obX7 rfl rfl (X7_body_m _ hj es5) kV_X7_383 rfl (by omega) rfl (Nat.le_of_ble_eq_true rfl) dX7_earnsAct_72 ?_
          refine j_aload_n (pc := 75) C dX7_earnsAct_75 rfl 0 rfl ?_
          refine j_iload_n (pc := 76) C dX7_earnsAct_76 rfl 1 rfl ?_
          refine j_iload_n (pc := 77) C dX7_earnsAct_77 rfl 2 rfl ?_
          refine j_bP (fun v4 s6 es6 => ?_)
          refine j_callV1 (pc := 78) C obX7 rfl rfl (X7_houseEarns_m _ hj es6) kV_X7_386 rfl (by omega) rfl (Nat.le_of_ble_eq_true rfl) dX7_earnsAct_78 ?_
          refine j_aload_n (pc := 81) C dX7_earnsAct_81 rfl 0 rfl ?_
          refine gf_X7_20 (pc := 82) C dX7_earnsAct_82 ?_
          refine j_iload_n (pc := 85) C dX7_earnsAct_85 rfl 1 rfl ?_
          refine j_bI (fun v5 ev5 => ?_)
          refine j_iald (pc := 86) C arX7_3 ev5 dX7_earnsAct_86 ?_
          refine j_ixor (pc := 87) C dX7_earnsAct_87 ?_
          exact j_ireturn C rfl rfl rfl rfl dX7_earnsAct_88
        · refine j_join (lv' := [(0, .ref (G.2.2.1 0)), (1, .int (oI l1)), (2, .int (oI l2))]) (pc' := 89) (stk' := []) ?_ (fun jn => ?_)
          · refine j_aload_n (pc := 89) C dX7_earnsAct_89 rfl 0 rfl ?_
            refine j_iload_n (pc := 90) C dX7_earnsAct_90 rfl 1 rfl ?_
            refine j_iload_n (pc := 91) C dX7_earnsAct_91 rfl 2 rfl ?_
            refine j_bP (fun v6 s7 es7 => ?_)
            refine j_callV1 (pc := 92) C obX7 rfl rfl (X7_houseEarns_m _ hj es7) kV_X7_386 rfl (by omega) rfl (Nat.le_of_ble_eq_true rfl) dX7_earnsAct_92 ?_
            exact j_ireturn C rfl rfl rfl rfl dX7_earnsAct_95
          · rcases (show (wI v1 < 2 ∨ 6 < wI v1) ∨ wI v1 = 3 from by omega) with hc | hc
            · exact j_tabOut (pc := 6) (tgt := 89) C dX7_earnsAct_6 hc rfl jn
            · exact j_tabIn (pc := 6) (tgt := 89) C dX7_earnsAct_6 hc (by decide) (by decide) rfl rfl jn)
def X7_houseSays (st : PS) (l1 l2 : Int) : Option (Int × PS) := bI (X7_body st 11) (fun s1 => bP (X7_earnsAct s1 l1 l2) (fun v1 s2 => bI (zrd s2 3 8 l1) (fun v2 => some (v1 - v2, s2))))
set_option maxHeartbeats 4000000 in
set_option maxRecDepth 100000 in
theorem X7_houseSays_m (l : Launch) {G : GD} (hj : zInj sM G) {st : PS} {l1 l2 : Int} {r : (Int × PS)} (hr : X7_houseSays st l1 l2 = some r) : zM l sM G yX7_houseSays cX7_houseSays 3 (some .int) 3 [.ref (G.2.2.1 0), .int (oI l1), .int (oI l2)] st (some (.int (oI r.1))) r.2 :=
  zEnter (f := fI) hr hj (by decide) rfl (lv := [(0, .ref (G.2.2.1 0)), (1, .int (oI l1)), (2, .int (oI l2))]) rfl (Nat.le_of_ble_eq_true rfl) (fun X _ hN C => by
    unfold X7_houseSays
    refine j_aload_n (pc := 0) C dX7_houseSays_0 rfl 0 rfl ?_
    refine j_bipush (pc := 1) C dX7_houseSays_1 (by decide) ?_
    refine j_bI (fun s1 es1 => ?_)
    refine j_callV0 (pc := 3) C obX7 rfl rfl (X7_body_m _ hj es1) kV_X7_383 rfl (by omega) rfl (Nat.le_of_ble_eq_true rfl) dX7_houseSays_3 ?_
    refine j_aload_n (pc := 6) C dX7_houseSays_6 rfl 0 rfl ?_
    refine j_iload_n (pc := 7) C dX7_houseSays_7 rfl 1 rfl ?_
    refine j_iload_n (pc := 8) C dX7_houseSays_8 rfl 2 rfl ?_
    refine j_bP (fun v1 s2 es2 => ?_)
    refine j_callV1 (pc := 9) C obX7 rfl rfl (X7_earnsAct_m _ hj es2) kV_X7_389 rfl (by omega) rfl (Nat.le_of_ble_eq_true rfl) dX7_houseSays_9 ?_
    refine j_aload_n (pc := 12) C dX7_houseSays_12 rfl 0 rfl ?_
    refine gf_X7_20 (pc := 13) C dX7_houseSays_13 ?_
    refine j_iload_n (pc := 16) C dX7_houseSays_16 rfl 1 rfl ?_
    refine j_bI (fun v2 ev2 => ?_)
    refine j_iald (pc := 17) C arX7_3 ev2 dX7_houseSays_17 ?_
    refine j_isub (pc := 18) C dX7_houseSays_18 ?_
    exact j_ireturn C rfl rfl rfl rfl dX7_houseSays_19)
def X7_proudSays (st : PS) (l1 l2 : Int) : Option (Int × PS) := bI (X7_body st 20) (fun s1 => bP (X7_houseSays s1 l1 l2) (fun v1 s2 => some (zxor v1 6, s2)))
set_option maxHeartbeats 4000000 in
set_option maxRecDepth 100000 in
theorem X7_proudSays_m (l : Launch) {G : GD} (hj : zInj sM G) {st : PS} {l1 l2 : Int} {r : (Int × PS)} (hr : X7_proudSays st l1 l2 = some r) : zM l sM G yX7_proudSays cX7_proudSays 3 (some .int) 4 [.ref (G.2.2.1 0), .int (oI l1), .int (oI l2)] st (some (.int (oI r.1))) r.2 :=
  zEnter (f := fI) hr hj (by decide) rfl (lv := [(0, .ref (G.2.2.1 0)), (1, .int (oI l1)), (2, .int (oI l2))]) rfl (Nat.le_of_ble_eq_true rfl) (fun X _ hN C => by
    unfold X7_proudSays
    refine j_aload_n (pc := 0) C dX7_proudSays_0 rfl 0 rfl ?_
    refine j_bipush (pc := 1) C dX7_proudSays_1 (by decide) ?_
    refine j_bI (fun s1 es1 => ?_)
    refine j_callV0 (pc := 3) C obX7 rfl rfl (X7_body_m _ hj es1) kV_X7_383 rfl (by omega) rfl (Nat.le_of_ble_eq_true rfl) dX7_proudSays_3 ?_
    refine j_aload_n (pc := 6) C dX7_proudSays_6 rfl 0 rfl ?_
    refine j_iload_n (pc := 7) C dX7_proudSays_7 rfl 1 rfl ?_
    refine j_iload_n (pc := 8) C dX7_proudSays_8 rfl 2 rfl ?_
    refine j_bP (fun v1 s2 es2 => ?_)
    refine j_callV1 (pc := 9) C obX7 rfl rfl (X7_houseSays_m _ hj es2) kV_X7_392 rfl (by omega) rfl (Nat.le_of_ble_eq_true rfl) dX7_proudSays_9 ?_
    refine j_bipush (pc := 12) C dX7_proudSays_12 (by decide) ?_
    refine j_ixor (pc := 14) C dX7_proudSays_14 ?_
    exact j_ireturn C rfl rfl rfl rfl dX7_proudSays_15)
def X7_saysAct (st : PS) (l1 l2 : Int) : Option (Int × PS) := bI (zrd st 2 8 l1) (fun v1 => if wI v1 = 1 then bP (X7_proudSays st l1 l2) (fun v2 s1 => some (v2, s1)) else (if wI v1 = 4 then bI (X7_body st 51) (fun s2 => bP (X7_proudSays s2 l1 (l2 + 1)) (fun v3 s3 => some (v3, s3))) else (if wI v1 = 6 then bI (X7_body st 70) (fun s4 => bP (X7_houseSays s4 l1 l2) (fun v4 s5 => bP (X7_houseEarns s5 l1 2) (fun v5 s6 => some (v4 + v5, s6)))) else (bP (X7_houseSays st l1 l2) (fun v6 s7 => some (v6, s7))))))
set_option maxHeartbeats 4000000 in
set_option maxRecDepth 100000 in
theorem X7_saysAct_m (l : Launch) {G : GD} (hj : zInj sM G) {st : PS} {l1 l2 : Int} {r : (Int × PS)} (hr : X7_saysAct st l1 l2 = some r) : zM l sM G yX7_saysAct cX7_saysAct 4 (some .int) 5 [.ref (G.2.2.1 0), .int (oI l1), .int (oI l2)] st (some (.int (oI r.1))) r.2 :=
  zEnter (f := fI) hr hj (by decide) rfl (lv := [(0, .ref (G.2.2.1 0)), (1, .int (oI l1)), (2, .int (oI l2))]) rfl (Nat.le_of_ble_eq_true rfl) (fun X _ hN C => by
    unfold X7_saysAct
    refine j_aload_n (pc := 0) C dX7_saysAct_0 rfl 0 rfl ?_
    refine gf_X7_16 (pc := 1) C dX7_saysAct_1 ?_
    refine j_iload_n (pc := 4) C dX7_saysAct_4 rfl 1 rfl ?_
    refine j_bI (fun v1 ev1 => ?_)
    refine j_iald (pc := 5) C arX7_2 ev1 dX7_saysAct_5 ?_
    refine j_if (fun hc => ?_) (fun hn0 => ?_)
    · refine j_look (pc := 6) (tgt := 40) (off := 34) C dX7_saysAct_6 (by decide) (by simp [Op.lookupswitch.offset, List.find?, hc]) rfl ?_
      refine j_aload_n (pc := 40) C dX7_saysAct_40 rfl 0 rfl ?_
      refine j_iload_n (pc := 41) C dX7_saysAct_41 rfl 1 rfl ?_
      refine j_iload_n (pc := 42) C dX7_saysAct_42 rfl 2 rfl ?_
      refine j_bP (fun v2 s1 es1 => ?_)
      refine j_callV1 (pc := 43) C obX7 rfl rfl (X7_proudSays_m _ hj es1) kV_X7_395 rfl (by omega) rfl (Nat.le_of_ble_eq_true rfl) dX7_saysAct_43 ?_
      exact j_ireturn C rfl rfl rfl rfl dX7_saysAct_46
    · refine j_if (fun hc => ?_) (fun hn1 => ?_)
      · refine j_look (pc := 6) (tgt := 47) (off := 41) C dX7_saysAct_6 (by decide) (by simp [Op.lookupswitch.offset, List.find?, hc]) rfl ?_
        refine j_aload_n (pc := 47) C dX7_saysAct_47 rfl 0 rfl ?_
        refine j_bipush (pc := 48) C dX7_saysAct_48 (by decide) ?_
        refine j_bI (fun s2 es2 => ?_)
        refine j_callV0 (pc := 50) C obX7 rfl rfl (X7_body_m _ hj es2) kV_X7_383 rfl (by omega) rfl (Nat.le_of_ble_eq_true rfl) dX7_saysAct_50 ?_
        refine j_aload_n (pc := 53) C dX7_saysAct_53 rfl 0 rfl ?_
        refine j_iload_n (pc := 54) C dX7_saysAct_54 rfl 1 rfl ?_
        refine j_iload_n (pc := 55) C dX7_saysAct_55 rfl 2 rfl ?_
        refine j_iconst (pc := 56) C dX7_saysAct_56 ?_
        refine j_iadd (pc := 57) C dX7_saysAct_57 ?_
        refine j_bP (fun v3 s3 es3 => ?_)
        refine j_callV1 (pc := 58) C obX7 rfl rfl (X7_proudSays_m _ hj es3) kV_X7_395 rfl (by omega) rfl (Nat.le_of_ble_eq_true rfl) dX7_saysAct_58 ?_
        exact j_ireturn C rfl rfl rfl rfl dX7_saysAct_61
      · refine j_if (fun hc => ?_) (fun hn2 => ?_)
        · refine j_look (pc := 6) (tgt := 62) (off := 56) C dX7_saysAct_6 (by decide) (by simp [Op.lookupswitch.offset, List.find?, hc]) rfl ?_
          refine j_aload_n (pc := 62) C dX7_saysAct_62 rfl 0 rfl ?_
          refine j_bipush (pc := 63) C dX7_saysAct_63 (by decide) ?_
          refine j_bI (fun s4 es4 => ?_)
          refine j_callV0 (pc := 65) C obX7 rfl rfl (X7_body_m _ hj es4) kV_X7_383 rfl (by omega) rfl (Nat.le_of_ble_eq_true rfl) dX7_saysAct_65 ?_
          refine j_aload_n (pc := 68) C dX7_saysAct_68 rfl 0 rfl ?_
          refine j_iload_n (pc := 69) C dX7_saysAct_69 rfl 1 rfl ?_
          refine j_iload_n (pc := 70) C dX7_saysAct_70 rfl 2 rfl ?_
          refine j_bP (fun v4 s5 es5 => ?_)
          refine j_callV1 (pc := 71) C obX7 rfl rfl (X7_houseSays_m _ hj es5) kV_X7_392 rfl (by omega) rfl (Nat.le_of_ble_eq_true rfl) dX7_saysAct_71 ?_
          refine j_istore_n (pc := 74) C hN dX7_saysAct_74 rfl (by decide) (lv' := [(3, .int (oI v4)), (0, .ref (G.2.2.1 0)), (1, .int (oI l1)), (2, .int (oI l2))]) rfl ?_
          refine j_iload_n (pc := 75) C dX7_saysAct_75 rfl 0 rfl ?_
          refine j_aload_n (pc := 76) C dX7_saysAct_76 rfl 1 rfl ?_
          refine j_iload_n (pc := 77) C dX7_saysAct_77 rfl 2 rfl ?_
          refine j_iconst (pc := 78) C dX7_saysAct_78 ?_
          refine j_bP (fun v5 s6 es6 => ?_)
          refine j_callV1 (pc := 79) C obX7 rfl rfl (X7_houseEarns_m _ hj es6) kV_X7_386 rfl (by omega) rfl (Nat.le_of_ble_eq_true rfl) dX7_saysAct_79 ?_
          refine j_iadd (pc := 82) C dX7_saysAct_82 ?_
          exact j_ireturn C rfl rfl rfl rfl dX7_saysAct_83
        · refine j_look (pc := 6) (tgt := 84) C dX7_saysAct_6 (by decide) (off := 78) (by simp [Op.lookupswitch.offset, List.find?, show ¬ (1 : Int) = wI v1 from fun q => hn0 q.symm, show ¬ (4 : Int) = wI v1 from fun q => hn1 q.symm, show ¬ (6 : Int) = wI v1 from fun q => hn2 q.symm]) rfl ?_
          refine j_aload_n (pc := 84) C dX7_saysAct_84 rfl 0 rfl ?_
          refine j_iload_n (pc := 85) C dX7_saysAct_85 rfl 1 rfl ?_
          refine j_iload_n (pc := 86) C dX7_saysAct_86 rfl 2 rfl ?_
          refine j_bP (fun v6 s7 es7 => ?_)
          refine j_callV1 (pc := 87) C obX7 rfl rfl (X7_houseSays_m _ hj es7) kV_X7_392 rfl (by omega) rfl (Nat.le_of_ble_eq_true rfl) dX7_saysAct_87 ?_
          exact j_ireturn C rfl rfl rfl rfl dX7_saysAct_90)
def X7_houseTells (st : PS) (l1 l2 : Int) : Option (Int × PS) := bI (X7_body st 12) (fun s1 => bP (X7_saysAct s1 l1 l2) (fun v1 s2 => some (v1 * 2, s2)))
set_option maxHeartbeats 4000000 in
set_option maxRecDepth 100000 in
theorem X7_houseTells_m (l : Launch) {G : GD} (hj : zInj sM G) {st : PS} {l1 l2 : Int} {r : (Int × PS)} (hr : X7_houseTells st l1 l2 = some r) : zM l sM G yX7_houseTells cX7_houseTells 3 (some .int) 6 [.ref (G.2.2.1 0), .int (oI l1), .int (oI l2)] st (some (.int (oI r.1))) r.2 :=
  zEnter (f := fI) hr hj (by decide) rfl (lv := [(0, .ref (G.2.2.1 0)), (1, .int (oI l1)), (2, .int (oI l2))]) rfl (Nat.le_of_ble_eq_true rfl) (fun X _ hN C => by
    unfold X7_houseTells
    refine j_aload_n (pc := 0) C dX7_houseTells_0 rfl 0 rfl ?_
    refine j_bipush (pc := 1) C dX7_houseTells_1 (by decide) ?_
    refine j_bI (fun s1 es1 => ?_)
    refine j_callV0 (pc := 3) C obX7 rfl rfl (X7_body_m _ hj es1) kV_X7_383 rfl (by omega) rfl (Nat.le_of_ble_eq_true rfl) dX7_houseTells_3 ?_
    refine j_aload_n (pc := 6) C dX7_houseTells_6 rfl 0 rfl ?_
    refine j_iload_n (pc := 7) C dX7_houseTells_7 rfl 1 rfl ?_
    refine j_iload_n (pc := 8) C dX7_houseTells_8 rfl 2 rfl ?_
    refine j_bP (fun v1 s2 es2 => ?_)
    refine j_callV1 (pc := 9) C obX7 rfl rfl (X7_saysAct_m _ hj es2) kV_X7_398 rfl (by omega) rfl (Nat.le_of_ble_eq_true rfl) dX7_houseTells_9 ?_
    refine j_iconst (pc := 12) C dX7_houseTells_12 ?_
    refine j_imul (pc := 13) C dX7_houseTells_13 ?_
    exact j_ireturn C rfl rfl rfl rfl dX7_houseTells_14)
def X7_tellsAct (st : PS) (l1 l2 : Int) : Option (Int × PS) := bI (zrd st 2 8 l1) (fun v1 => if wI v1 = 3 ∨ wI v1 = 6 then bI (X7_body st 40) (fun s1 => bP (X7_houseTells s1 l1 l2) (fun v2 s2 => bP (X7_saysAct s2 l1 1) (fun v3 s3 => some (v2 + v3, s3)))) else (if wI v1 = 5 then bI (X7_body st 60) (fun s4 => bP (X7_houseTells s4 l1 (l2 - l1)) (fun v4 s5 => some (v4, s5))) else (bP (X7_houseTells st l1 l2) (fun v5 s6 => some (v5, s6)))))
set_option maxHeartbeats 4000000 in
set_option maxRecDepth 100000 in
theorem X7_tellsAct_m (l : Launch) {G : GD} (hj : zInj sM G) {st : PS} {l1 l2 : Int} {r : (Int × PS)} (hr : X7_tellsAct st l1 l2 = some r) : zM l sM G yX7_tellsAct cX7_tellsAct 4 (some .int) 7 [.ref (G.2.2.1 0), .int (oI l1), .int (oI l2)] st (some (.int (oI r.1))) r.2 :=
  zEnter (f := fI) hr hj (by decide) rfl (lv := [(0, .ref (G.2.2.1 0)), (1, .int (oI l1)), (2, .int (oI l2))]) rfl (Nat.le_of_ble_eq_true rfl) (fun X _ hN C => by
    unfold X7_tellsAct
    refine j_aload_n (pc := 0) C dX7_tellsAct_0 rfl 0 rfl ?_
    refine gf_X7_16 (pc := 1) C dX7_tellsAct_1 ?_
    refine j_iload_n (pc := 4) C dX7_tellsAct_4 rfl 1 rfl ?_
    refine j_bI (fun v1 ev1 => ?_)
    refine j_iald (pc := 5) C arX7_2 ev1 dX7_tellsAct_5 ?_
    refine j_if (fun hc => ?_) (fun hn0 => ?_)
    · refine j_join (lv' := [(0, .ref (G.2.2.1 0)), (1, .int (oI l1)), (2, .int (oI l2))]) (pc' := 36) (stk' := []) ?_ (fun jn => ?_)
      · refine j_aload_n (pc := 36) C dX7_tellsAct_36 rfl 0 rfl ?_
        refine j_bipush (pc := 37) C dX7_tellsAct_37 (by decide) ?_
        refine j_bI (fun s1 es1 => ?_)
        refine j_callV0 (pc := 39) C obX7 rfl rfl (X7_body_m _ hj es1) kV_X7_383 rfl (by omega) rfl (Nat.le_of_ble_eq_true rfl) dX7_tellsAct_39 ?_
        refine j_aload_n (pc := 42) C dX7_tellsAct_42 rfl 0 rfl ?_
        refine j_iload_n (pc := 43) C dX7_tellsAct_43 rfl 1 rfl ?_
        refine j_iload_n (pc := 44) C dX7_tellsAct_44 rfl 2 rfl ?_
        refine j_bP (fun v2 s2 es2 => ?_)
        refine j_callV1 (pc := 45) C obX7 rfl rfl (X7_houseTells_m _ hj es2) kV_X7_401 rfl (by omega) rfl (Nat.le_of_ble_eq_true rfl) dX7_tellsAct_45 ?_
        refine j_istore_n (pc := 48) C hN dX7_tellsAct_48 rfl (by decide) (lv' := [(3, .int (oI v2)), (0, .ref (G.2.2.1 0)), (1, .int (oI l1)), (2, .int (oI l2))]) rfl ?_
        refine j_iload_n (pc := 49) C dX7_tellsAct_49 rfl 0 rfl ?_
        refine j_aload_n (pc := 50) C dX7_tellsAct_50 rfl 1 rfl ?_
        refine j_iload_n (pc := 51) C dX7_tellsAct_51 rfl 2 rfl ?_
        refine j_iconst (pc := 52) C dX7_tellsAct_52 ?_
        refine j_bP (fun v3 s3 es3 => ?_)
        refine j_callV1 (pc := 53) C obX7 rfl rfl (X7_saysAct_m _ hj es3) kV_X7_398 rfl (by omega) rfl (Nat.le_of_ble_eq_true rfl) dX7_tellsAct_53 ?_
        refine j_iadd (pc := 56) C dX7_tellsAct_56 ?_
        exact j_ireturn C rfl rfl rfl rfl dX7_tellsAct_57
      · rcases hc with hc | hc
        · exact j_tabIn (pc := 6) (tgt := 36) C dX7_tellsAct_6 hc (by decide) (by decide) rfl rfl jn
        · exact j_tabIn (pc := 6) (tgt := 36) C dX7_tellsAct_6 hc (by decide) (by decide) rfl rfl jn
    · refine j_if (fun hc => ?_) (fun hn1 => ?_)
      · refine j_tabIn (pc := 6) (tgt := 58) C dX7_tellsAct_6 hc (by decide) (by decide) rfl rfl ?_
        refine j_aload_n (pc := 58) C dX7_tellsAct_58 rfl 0 rfl ?_
        refine j_bipush (pc := 59) C dX7_tellsAct_59 (by decide) ?_
        refine j_bI (fun s4 es4 => ?_)
        refine j_callV0 (pc := 61) C obX7 rfl rfl (X7_body_m _ hj es4) kV_X7_383 rfl (by omega) rfl (Nat.le_of_ble_eq_true rfl) dX7_tellsAct_61 ?_
        refine j_aload_n (pc := 64) C dX7_tellsAct_64 rfl 0 rfl ?_
        refine j_iload_n (pc := 65) C dX7_tellsAct_65 rfl 1 rfl ?_
        refine j_iload_n (pc := 66) C dX7_tellsAct_66 rfl 2 rfl ?_
        refine j_iload_n (pc := 67) C dX7_tellsAct_67 rfl 1 rfl ?_
        refine j_isub (pc := 68) C dX7_tellsAct_68 ?_
        refine j_bP (fun v4 s5 es5 => ?_)
        refine j_callV1 (pc := 69) C obX7 rfl rfl (X7_houseTells_m _ hj es5) kV_X7_401 rfl (by omega) rfl (Nat.le_of_ble_eq_true rfl) dX7_tellsAct_69 ?_
        exact j_ireturn C rfl rfl rfl rfl dX7_tellsAct_72
      · refine j_join (lv' := [(0, .ref (G.2.2.1 0)), (1, .int (oI l1)), (2, .int (oI l2))]) (pc' := 73) (stk' := []) ?_ (fun jn => ?_)
        · refine j_aload_n (pc := 73) C dX7_tellsAct_73 rfl 0 rfl ?_
          refine j_iload_n (pc := 74) C dX7_tellsAct_74 rfl 1 rfl ?_
          refine j_iload_n (pc := 75) C dX7_tellsAct_75 rfl 2 rfl ?_
          refine j_bP (fun v5 s6 es6 => ?_)
          refine j_callV1 (pc := 76) C obX7 rfl rfl (X7_houseTells_m _ hj es6) kV_X7_401 rfl (by omega) rfl (Nat.le_of_ble_eq_true rfl) dX7_tellsAct_76 ?_
          exact j_ireturn C rfl rfl rfl rfl dX7_tellsAct_79
        · rcases (show (wI v1 < 3 ∨ 6 < wI v1) ∨ wI v1 = 4 from by omega) with hc | hc
          · exact j_tabOut (pc := 6) (tgt := 73) C dX7_tellsAct_6 hc rfl jn
          · exact j_tabIn (pc := 6) (tgt := 73) C dX7_tellsAct_6 hc (by decide) (by decide) rfl rfl jn)
def X7_act (st : PS) (l1 l2 l3 : Int) : Option (Int × PS) := zlet (zu st 0 55 0) (fun s1 => if wI (X7_isHouse s1 l1) = 0 then some (0, s1) else (if wI (X7_in s1 l2 0 2) = 0 then some (0, s1) else (if wI l2 = 0 then bP (X7_earnsAct s1 l1 l3) (fun v1 s2 => some (v1, s2)) else (if wI l2 = wI 1 then bP (X7_saysAct s1 l1 l3) (fun v2 s3 => some (v2, s3)) else (bP (X7_tellsAct s1 l1 l3) (fun v3 s4 => some (v3, s4)))))))
set_option maxHeartbeats 4000000 in
set_option maxRecDepth 100000 in
theorem X7_act_m (l : Launch) {G : GD} (hj : zInj sM G) {st : PS} {l1 l2 l3 : Int} {r : (Int × PS)} (hr : X7_act st l1 l2 l3 = some r) : zM l sM G yX7_act cX7_act 4 (some .int) 8 [.ref (G.2.2.1 0), .int (oI l1), .int (oI l2), .int (oI l3)] st (some (.int (oI r.1))) r.2 :=
  zEnter (f := fI) hr hj (by decide) rfl (lv := [(0, .ref (G.2.2.1 0)), (1, .int (oI l1)), (2, .int (oI l2)), (3, .int (oI l3))]) rfl (Nat.le_of_ble_eq_true rfl) (fun X _ hN C => by
    unfold X7_act
    refine j_aload_n (pc := 0) C dX7_act_0 rfl 0 rfl ?_
    refine j_iconst (pc := 1) C dX7_act_1 ?_
    refine fp_X7_178 (pc := 2) C dX7_act_2 ?_
    refine j_let (fun s1 => ?_)
    refine j_aload_n (pc := 5) C dX7_act_5 rfl 0 rfl ?_
    refine j_iload_n (pc := 6) C dX7_act_6 rfl 1 rfl ?_
    refine j_callV1 (pc := 7) C obX7 rfl rfl (X7_isHouse_m _ hj rfl) kV_X7_205 rfl (by omega) rfl (Nat.le_of_ble_eq_true rfl) dX7_act_7 ?_
    refine j_if_eq (pc := 10) (tgt := 23) C dX7_act_10 rfl ?_ ?_
    · refine j_iconst (pc := 23) C dX7_act_23 ?_
      exact j_ireturn C rfl rfl rfl rfl dX7_act_24
    · refine j_aload_n (pc := 13) C dX7_act_13 rfl 0 rfl ?_
      refine j_iload_n (pc := 14) C dX7_act_14 rfl 2 rfl ?_
      refine j_iconst (pc := 15) C dX7_act_15 ?_
      refine j_iconst (pc := 16) C dX7_act_16 ?_
      refine j_callV1 (pc := 17) C obX7 rfl rfl (X7_in_m _ hj rfl) kV_X7_197 rfl (by omega) rfl (Nat.le_of_ble_eq_true rfl) dX7_act_17 ?_
      refine j_if_ne (pc := 20) (tgt := 25) C dX7_act_20 rfl ?_ ?_
      · refine j_iconst (pc := 23) C dX7_act_23 ?_
        exact j_ireturn C rfl rfl rfl rfl dX7_act_24
      · refine j_iload_n (pc := 25) C dX7_act_25 rfl 2 rfl ?_
        refine j_if_ne (pc := 26) (tgt := 38) C dX7_act_26 rfl ?_ ?_
        · refine j_aload_n (pc := 29) C dX7_act_29 rfl 0 rfl ?_
          refine j_iload_n (pc := 30) C dX7_act_30 rfl 1 rfl ?_
          refine j_iload_n (pc := 31) C dX7_act_31 rfl 3 rfl ?_
          refine j_bP (fun v1 s2 es2 => ?_)
          refine j_callV1 (pc := 32) C obX7 rfl rfl (X7_earnsAct_m _ hj es2) kV_X7_389 rfl (by omega) rfl (Nat.le_of_ble_eq_true rfl) dX7_act_32 ?_
          refine j_goto (pc := 35) (tgt := 58) C dX7_act_35 rfl ?_
          exact j_ireturn C rfl rfl rfl rfl dX7_act_58
        · refine j_iload_n (pc := 38) C dX7_act_38 rfl 2 rfl ?_
          refine j_iconst (pc := 39) C dX7_act_39 ?_
          refine j_icmp_ne (pc := 40) (tgt := 52) C dX7_act_40 rfl ?_ ?_
          · refine j_aload_n (pc := 43) C dX7_act_43 rfl 0 rfl ?_
            refine j_iload_n (pc := 44) C dX7_act_44 rfl 1 rfl ?_
            refine j_iload_n (pc := 45) C dX7_act_45 rfl 3 rfl ?_
            refine j_bP (fun v2 s3 es3 => ?_)
            refine j_callV1 (pc := 46) C obX7 rfl rfl (X7_saysAct_m _ hj es3) kV_X7_398 rfl (by omega) rfl (Nat.le_of_ble_eq_true rfl) dX7_act_46 ?_
            refine j_goto (pc := 49) (tgt := 58) C dX7_act_49 rfl ?_
            exact j_ireturn C rfl rfl rfl rfl dX7_act_58
          · refine j_aload_n (pc := 52) C dX7_act_52 rfl 0 rfl ?_
            refine j_iload_n (pc := 53) C dX7_act_53 rfl 1 rfl ?_
            refine j_iload_n (pc := 54) C dX7_act_54 rfl 3 rfl ?_
            refine j_bP (fun v3 s4 es4 => ?_)
            refine j_callV1 (pc := 55) C obX7 rfl rfl (X7_tellsAct_m _ hj es4) kV_X7_404 rfl (by omega) rfl (Nat.le_of_ble_eq_true rfl) dX7_act_55 ?_
            exact j_ireturn C rfl rfl rfl rfl dX7_act_58)
def X7_trace (st : PS) (l1 : Int) : Option Int := if wI (X7_in st l1 0 19) = 0 then some (-1) else (if wI (st 0 55) ≤ wI l1 then some (-1) else (bI (zrd st 56 20 l1) (fun v1 => some v1)))
set_option maxHeartbeats 4000000 in
set_option maxRecDepth 100000 in
theorem X7_trace_m (l : Launch) {G : GD} (hj : zInj sM G) {st : PS} {l1 : Int} {r : Int} (hr : X7_trace st l1 = some r) : zM l sM G yX7_trace cX7_trace 2 (some .int) 1 [.ref (G.2.2.1 0), .int (oI l1)] st (some (.int (oI r))) st :=
  zEnter (f := fR st) hr hj (by decide) rfl (lv := [(0, .ref (G.2.2.1 0)), (1, .int (oI l1))]) rfl (Nat.le_of_ble_eq_true rfl) (fun X _ hN C => by
    unfold X7_trace
    refine j_aload_n (pc := 0) C dX7_trace_0 rfl 0 rfl ?_
    refine j_iload_n (pc := 1) C dX7_trace_1 rfl 1 rfl ?_
    refine j_iconst (pc := 2) C dX7_trace_2 ?_
    refine j_bipush (pc := 3) C dX7_trace_3 (by decide) ?_
    refine j_callV1 (pc := 5) C obX7 rfl rfl (X7_in_m _ hj rfl) kV_X7_197 rfl (by omega) rfl (Nat.le_of_ble_eq_true rfl) dX7_trace_5 ?_
    refine j_if_eq (pc := 8) (tgt := 28) C dX7_trace_8 rfl ?_ ?_
    · refine j_iconst (pc := 28) C dX7_trace_28 ?_
      exact j_ireturn C rfl rfl rfl rfl dX7_trace_29
    · refine j_iload_n (pc := 11) C dX7_trace_11 rfl 1 rfl ?_
      refine j_aload_n (pc := 12) C dX7_trace_12 rfl 0 rfl ?_
      refine gf_X7_178 (pc := 13) C dX7_trace_13 ?_
      refine j_icmp_ge (pc := 16) (tgt := 28) C dX7_trace_16 rfl ?_ ?_
      · refine j_iconst (pc := 28) C dX7_trace_28 ?_
        exact j_ireturn C rfl rfl rfl rfl dX7_trace_29
      · refine j_aload_n (pc := 19) C dX7_trace_19 rfl 0 rfl ?_
        refine gf_X7_181 (pc := 20) C dX7_trace_20 ?_
        refine j_iload_n (pc := 23) C dX7_trace_23 rfl 1 rfl ?_
        refine j_bI (fun v1 ev1 => ?_)
        refine j_iald (pc := 24) C arX7_56 ev1 dX7_trace_24 ?_
        refine j_goto (pc := 25) (tgt := 29) C dX7_trace_25 rfl ?_
        exact j_ireturn C rfl rfl rfl rfl dX7_trace_29)
def X7_taken (st : PS) (l1 l2 : Int) : Option Int := if wI (X7_in st l2 0 6) = 0 then some (-2) else (if wI (X7_isHouse st l1) = 0 then some (-11) else (bI (zrd st 2 8 l1) (fun v1 => if wI l2 = 0 then some v1 else (if wI v1 = wI l2 then some v1 else (if wI l2 = wI 1 then if wI v1 = wI 4 then some v1 else (if wI l2 = wI 2 then if wI v1 = wI 5 then some v1 else (if wI l2 = wI 3 then if wI v1 = wI 6 then some v1 else (some (-12)) else (some (-12))) else (if wI l2 = wI 3 then if wI v1 = wI 6 then some v1 else (some (-12)) else (some (-12)))) else (if wI l2 = wI 2 then if wI v1 = wI 5 then some v1 else (if wI l2 = wI 3 then if wI v1 = wI 6 then some v1 else (some (-12)) else (some (-12))) else (if wI l2 = wI 3 then if wI v1 = wI 6 then some v1 else (some (-12)) else (some (-12)))))))))
set_option maxHeartbeats 4000000 in
set_option maxRecDepth 100000 in
theorem X7_taken_m (l : Launch) {G : GD} (hj : zInj sM G) {st : PS} {l1 l2 : Int} {r : Int} (hr : X7_taken st l1 l2 = some r) : zM l sM G yX7_taken cX7_taken 4 (some .int) 2 [.ref (G.2.2.1 0), .int (oI l1), .int (oI l2)] st (some (.int (oI r))) st :=
  zEnter (f := fR st) hr hj (by decide) rfl (lv := [(0, .ref (G.2.2.1 0)), (1, .int (oI l1)), (2, .int (oI l2))]) rfl (Nat.le_of_ble_eq_true rfl) (fun X _ hN C => by
    unfold X7_taken
    refine j_aload_n (pc := 0) C dX7_taken_0 rfl 0 rfl ?_
    refine j_iload_n (pc := 1) C dX7_taken_1 rfl 2 rfl ?_
    refine j_iconst (pc := 2) C dX7_taken_2 ?_
    refine j_bipush (pc := 3) C dX7_taken_3 (by decide) ?_
    refine j_callV1 (pc := 5) C obX7 rfl rfl (X7_in_m _ hj rfl) kV_X7_197 rfl (by omega) rfl (Nat.le_of_ble_eq_true rfl) dX7_taken_5 ?_
    refine j_if_ne (pc := 8) (tgt := 14) C dX7_taken_8 rfl ?_ ?_
    · refine j_bipush (pc := 11) C dX7_taken_11 (by decide) ?_
      exact j_ireturn C rfl rfl rfl rfl dX7_taken_13
    · refine j_aload_n (pc := 14) C dX7_taken_14 rfl 0 rfl ?_
      refine j_iload_n (pc := 15) C dX7_taken_15 rfl 1 rfl ?_
      refine j_callV1 (pc := 16) C obX7 rfl rfl (X7_isHouse_m _ hj rfl) kV_X7_205 rfl (by omega) rfl (Nat.le_of_ble_eq_true rfl) dX7_taken_16 ?_
      refine j_if_ne (pc := 19) (tgt := 25) C dX7_taken_19 rfl ?_ ?_
      · refine j_bipush (pc := 22) C dX7_taken_22 (by decide) ?_
        exact j_ireturn C rfl rfl rfl rfl dX7_taken_24
      · refine j_aload_n (pc := 25) C dX7_taken_25 rfl 0 rfl ?_
        refine gf_X7_16 (pc := 26) C dX7_taken_26 ?_
        refine j_iload_n (pc := 29) C dX7_taken_29 rfl 1 rfl ?_
        refine j_bI (fun v1 ev1 => ?_)
        refine j_iald (pc := 30) C arX7_2 ev1 dX7_taken_30 ?_
        refine j_istore_n (pc := 31) C hN dX7_taken_31 rfl (by decide) (lv' := [(3, .int (oI v1)), (0, .ref (G.2.2.1 0)), (1, .int (oI l1)), (2, .int (oI l2))]) rfl ?_
        refine j_iload_n (pc := 32) C dX7_taken_32 rfl 3 rfl ?_
        refine j_if_eq (pc := 33) (tgt := 72) C dX7_taken_33 rfl ?_ ?_
        · refine j_iload_n (pc := 72) C dX7_taken_72 rfl 0 rfl ?_
          refine j_goto (pc := 73) (tgt := 78) C dX7_taken_73 rfl ?_
          exact j_ireturn C rfl rfl rfl rfl dX7_taken_78
        · refine j_iload_n (pc := 36) C dX7_taken_36 rfl 0 rfl ?_
          refine j_iload_n (pc := 37) C dX7_taken_37 rfl 3 rfl ?_
          refine j_icmp_eq (pc := 38) (tgt := 72) C dX7_taken_38 rfl ?_ ?_
          · refine j_iload_n (pc := 72) C dX7_taken_72 rfl 0 rfl ?_
            refine j_goto (pc := 73) (tgt := 78) C dX7_taken_73 rfl ?_
            exact j_ireturn C rfl rfl rfl rfl dX7_taken_78
          · refine j_iload_n (pc := 41) C dX7_taken_41 rfl 3 rfl ?_
            refine j_iconst (pc := 42) C dX7_taken_42 ?_
            refine j_icmp_ne (pc := 43) (tgt := 51) C dX7_taken_43 rfl ?_ ?_
            · refine j_iload_n (pc := 46) C dX7_taken_46 rfl 0 rfl ?_
              refine j_iconst (pc := 47) C dX7_taken_47 ?_
              refine j_icmp_eq (pc := 48) (tgt := 72) C dX7_taken_48 rfl ?_ ?_
              · refine j_iload_n (pc := 72) C dX7_taken_72 rfl 0 rfl ?_
                refine j_goto (pc := 73) (tgt := 78) C dX7_taken_73 rfl ?_
                exact j_ireturn C rfl rfl rfl rfl dX7_taken_78
              · refine j_iload_n (pc := 51) C dX7_taken_51 rfl 3 rfl ?_
                refine j_iconst (pc := 52) C dX7_taken_52 ?_
                refine j_icmp_ne (pc := 53) (tgt := 61) C dX7_taken_53 rfl ?_ ?_
                · refine j_iload_n (pc := 56) C dX7_taken_56 rfl 0 rfl ?_
                  refine j_iconst (pc := 57) C dX7_taken_57 ?_
                  refine j_icmp_eq (pc := 58) (tgt := 72) C dX7_taken_58 rfl ?_ ?_
                  · refine j_iload_n (pc := 72) C dX7_taken_72 rfl 0 rfl ?_
                    refine j_goto (pc := 73) (tgt := 78) C dX7_taken_73 rfl ?_
                    exact j_ireturn C rfl rfl rfl rfl dX7_taken_78
                  · refine j_iload_n (pc := 61) C dX7_taken_61 rfl 3 rfl ?_
                    refine j_iconst (pc := 62) C dX7_taken_62 ?_
                    refine j_icmp_ne (pc := 63) (tgt := 76) C dX7_taken_63 rfl ?_ ?_
                    · refine j_iload_n (pc := 66) C dX7_taken_66 rfl 0 rfl ?_
                      refine j_bipush (pc := 67) C dX7_taken_67 (by decide) ?_
                      refine j_icmp_ne (pc := 69) (tgt := 76) C dX7_taken_69 rfl ?_ ?_
                      · refine j_iload_n (pc := 72) C dX7_taken_72 rfl 0 rfl ?_
                        refine j_goto (pc := 73) (tgt := 78) C dX7_taken_73 rfl ?_
                        exact j_ireturn C rfl rfl rfl rfl dX7_taken_78
                      · refine j_bipush (pc := 76) C dX7_taken_76 (by decide) ?_
                        exact j_ireturn C rfl rfl rfl rfl dX7_taken_78
                    · refine j_bipush (pc := 76) C dX7_taken_76 (by decide) ?_
                      exact j_ireturn C rfl rfl rfl rfl dX7_taken_78
                · refine j_iload_n (pc := 61) C dX7_taken_61 rfl 3 rfl ?_
                  refine j_iconst (pc := 62) C dX7_taken_62 ?_
                  refine j_icmp_ne (pc := 63) (tgt := 76) C dX7_taken_63 rfl ?_ ?_
                  · refine j_iload_n (pc := 66) C dX7_taken_66 rfl 0 rfl ?_
                    refine j_bipush (pc := 67) C dX7_taken_67 (by decide) ?_
                    refine j_icmp_ne (pc := 69) (tgt := 76) C dX7_taken_69 rfl ?_ ?_
                    · refine j_iload_n (pc := 72) C dX7_taken_72 rfl 0 rfl ?_
                      refine j_goto (pc := 73) (tgt := 78) C dX7_taken_73 rfl ?_
                      exact j_ireturn C rfl rfl rfl rfl dX7_taken_78
                    · refine j_bipush (pc := 76) C dX7_taken_76 (by decide) ?_
                      exact j_ireturn C rfl rfl rfl rfl dX7_taken_78
                  · refine j_bipush (pc := 76) C dX7_taken_76 (by decide) ?_
                    exact j_ireturn C rfl rfl rfl rfl dX7_taken_78
            · refine j_iload_n (pc := 51) C dX7_taken_51 rfl 3 rfl ?_
              refine j_iconst (pc := 52) C dX7_taken_52 ?_
              refine j_icmp_ne (pc := 53) (tgt := 61) C dX7_taken_53 rfl ?_ ?_
              · refine j_iload_n (pc := 56) C dX7_taken_56 rfl 0 rfl ?_
                refine j_iconst (pc := 57) C dX7_taken_57 ?_
                refine j_icmp_eq (pc := 58) (tgt := 72) C dX7_taken_58 rfl ?_ ?_
                · refine j_iload_n (pc := 72) C dX7_taken_72 rfl 0 rfl ?_
                  refine j_goto (pc := 73) (tgt := 78) C dX7_taken_73 rfl ?_
                  exact j_ireturn C rfl rfl rfl rfl dX7_taken_78
                · refine j_iload_n (pc := 61) C dX7_taken_61 rfl 3 rfl ?_
                  refine j_iconst (pc := 62) C dX7_taken_62 ?_
                  refine j_icmp_ne (pc := 63) (tgt := 76) C dX7_taken_63 rfl ?_ ?_
                  · refine j_iload_n (pc := 66) C dX7_taken_66 rfl 0 rfl ?_
                    refine j_bipush (pc := 67) C dX7_taken_67 (by decide) ?_
                    refine j_icmp_ne (pc := 69) (tgt := 76) C dX7_taken_69 rfl ?_ ?_
                    · refine j_iload_n (pc := 72) C dX7_taken_72 rfl 0 rfl ?_
                      refine j_goto (pc := 73) (tgt := 78) C dX7_taken_73 rfl ?_
                      exact j_ireturn C rfl rfl rfl rfl dX7_taken_78
                    · refine j_bipush (pc := 76) C dX7_taken_76 (by decide) ?_
                      exact j_ireturn C rfl rfl rfl rfl dX7_taken_78
                  · refine j_bipush (pc := 76) C dX7_taken_76 (by decide) ?_
                    exact j_ireturn C rfl rfl rfl rfl dX7_taken_78
              · refine j_iload_n (pc := 61) C dX7_taken_61 rfl 3 rfl ?_
                refine j_iconst (pc := 62) C dX7_taken_62 ?_
                refine j_icmp_ne (pc := 63) (tgt := 76) C dX7_taken_63 rfl ?_ ?_
                · refine j_iload_n (pc := 66) C dX7_taken_66 rfl 0 rfl ?_
                  refine j_bipush (pc := 67) C dX7_taken_67 (by decide) ?_
                  refine j_icmp_ne (pc := 69) (tgt := 76) C dX7_taken_69 rfl ?_ ?_
                  · refine j_iload_n (pc := 72) C dX7_taken_72 rfl 0 rfl ?_
                    refine j_goto (pc := 73) (tgt := 78) C dX7_taken_73 rfl ?_
                    exact j_ireturn C rfl rfl rfl rfl dX7_taken_78
                  · refine j_bipush (pc := 76) C dX7_taken_76 (by decide) ?_
                    exact j_ireturn C rfl rfl rfl rfl dX7_taken_78
                · refine j_bipush (pc := 76) C dX7_taken_76 (by decide) ?_
                  exact j_ireturn C rfl rfl rfl rfl dX7_taken_78)
def X7_count (st : PS) (l1 : Int) : Int := if wI l1 = 0 then (st 0 0) else (if wI l1 = 1 then (st 0 6) else (if wI l1 = 2 then (st 0 37) else (if wI l1 = 3 then (st 0 40) else (if wI l1 = 4 then (st 0 8) else (if wI l1 = 5 then (st 0 55) else ((-2)))))))
set_option maxHeartbeats 4000000 in
set_option maxRecDepth 100000 in
theorem X7_count_m (l : Launch) {G : GD} (hj : zInj sM G) {st : PS} {l1 : Int} {r : Int} (hr : X7_count st l1 = r) : zM l sM G yX7_count cX7_count 2 (some .int) 0 [.ref (G.2.2.1 0), .int (oI l1)] st (some (.int (oI r))) st :=
  zEnter (f := fR st) (o := some (X7_count st l1)) (by rw [hr]) hj (by decide) rfl (lv := [(0, .ref (G.2.2.1 0)), (1, .int (oI l1))]) rfl (Nat.le_of_ble_eq_true rfl) (fun X _ hN C => by
    simp only [X7_count, zsome_ite]
    refine j_iload_n (pc := 0) C dX7_count_0 rfl 1 rfl ?_
    refine j_if (fun hc => ?_) (fun hn0 => ?_)
    · refine j_tabIn (pc := 1) (tgt := 40) C dX7_count_1 hc (by decide) (by decide) rfl rfl ?_
      refine j_aload_n (pc := 40) C dX7_count_40 rfl 0 rfl ?_
      refine gf_X7_7 (pc := 41) C dX7_count_41 ?_
      exact j_ireturn C rfl rfl rfl rfl dX7_count_44
    · refine j_if (fun hc => ?_) (fun hn1 => ?_)
      · refine j_tabIn (pc := 1) (tgt := 45) C dX7_count_1 hc (by decide) (by decide) rfl rfl ?_
        refine j_aload_n (pc := 45) C dX7_count_45 rfl 0 rfl ?_
        refine gf_X7_29 (pc := 46) C dX7_count_46 ?_
        exact j_ireturn C rfl rfl rfl rfl dX7_count_49
      · refine j_if (fun hc => ?_) (fun hn2 => ?_)
        · refine j_tabIn (pc := 1) (tgt := 50) C dX7_count_1 hc (by decide) (by decide) rfl rfl ?_
          refine j_aload_n (pc := 50) C dX7_count_50 rfl 0 rfl ?_
          refine gf_X7_123 (pc := 51) C dX7_count_51 ?_
          exact j_ireturn C rfl rfl rfl rfl dX7_count_54
        · refine j_if (fun hc => ?_) (fun hn3 => ?_)
          · refine j_tabIn (pc := 1) (tgt := 55) C dX7_count_1 hc (by decide) (by decide) rfl rfl ?_
            refine j_aload_n (pc := 55) C dX7_count_55 rfl 0 rfl ?_
            refine gf_X7_132 (pc := 56) C dX7_count_56 ?_
            exact j_ireturn C rfl rfl rfl rfl dX7_count_59
          · refine j_if (fun hc => ?_) (fun hn4 => ?_)
            · refine j_tabIn (pc := 1) (tgt := 60) C dX7_count_1 hc (by decide) (by decide) rfl rfl ?_
              refine j_aload_n (pc := 60) C dX7_count_60 rfl 0 rfl ?_
              refine gf_X7_35 (pc := 61) C dX7_count_61 ?_
              exact j_ireturn C rfl rfl rfl rfl dX7_count_64
            · refine j_if (fun hc => ?_) (fun hn5 => ?_)
              · refine j_tabIn (pc := 1) (tgt := 65) C dX7_count_1 hc (by decide) (by decide) rfl rfl ?_
                refine j_aload_n (pc := 65) C dX7_count_65 rfl 0 rfl ?_
                refine gf_X7_178 (pc := 66) C dX7_count_66 ?_
                exact j_ireturn C rfl rfl rfl rfl dX7_count_69
              · refine j_tabOut (pc := 1) (tgt := 70) C dX7_count_1 (by omega) rfl ?_
                refine j_bipush (pc := 70) C dX7_count_70 (by decide) ?_
                exact j_ireturn C rfl rfl rfl rfl dX7_count_72)
def X7_tape_L69 (l1 : Int) : Nat → PS → Int → Option (Int × PS)
  | 0, _, _ => none
  | k + 1, st, l4 => if wI 60 ≤ wI l4 then some (1, st) else (bI (zwr st 59 360 ((60 * l1) + l4) 0) (fun s3 => X7_tape_L69 l1 k s3 (l4 + 1)))
def X7_tape (st : PS) (l1 l2 l3 : Int) : Option (Int × PS) := if wI (X7_isTape st l1) = 0 then some ((-1), st) else (if wI (X7_in st l2 (-1) 4) = 0 then some ((-2), st) else (if wI l2 < 0 then if wI l2 < 0 then bI (zwr st 57 6 l1 l2) (fun s1 => if 0 ≤ wI l2 then bI (zwr s1 58 6 l1 l3) (fun s2 => X7_tape_L69 l1 FU s2 0) else (bI (zwr s1 58 6 l1 0) (fun s4 => X7_tape_L69 l1 FU s4 0))) else (if 0 ≤ wI l3 then bI (zwr st 57 6 l1 l2) (fun s5 => if 0 ≤ wI l2 then bI (zwr s5 58 6 l1 l3) (fun s6 => X7_tape_L69 l1 FU s6 0) else (bI (zwr s5 58 6 l1 0) (fun s7 => X7_tape_L69 l1 FU s7 0))) else (some ((-14), st))) else (if wI l3 ≤ wI 60 then if wI l2 < 0 then bI (zwr st 57 6 l1 l2) (fun s8 => if 0 ≤ wI l2 then bI (zwr s8 58 6 l1 l3) (fun s9 => X7_tape_L69 l1 FU s9 0) else (bI (zwr s8 58 6 l1 0) (fun s10 => X7_tape_L69 l1 FU s10 0))) else (if 0 ≤ wI l3 then bI (zwr st 57 6 l1 l2) (fun s11 => if 0 ≤ wI l2 then bI (zwr s11 58 6 l1 l3) (fun s12 => X7_tape_L69 l1 FU s12 0) else (bI (zwr s11 58 6 l1 0) (fun s13 => X7_tape_L69 l1 FU s13 0))) else (some ((-14), st))) else (some ((-2), st)))))
set_option maxHeartbeats 4000000 in
set_option maxRecDepth 100000 in
theorem X7_tape_L69_j {X : JX} {G : GD} (C : zC X sM G RX7 cX7_tape (some .int) 2) (hN : X.2.2.2.2.2.2.2.2.2.2.2.2 = 5) (hj : zInj sM G) {l1 : Int} : ∀ (k : Nat) (st : PS) (l4 : Int), J X (zI sM G) (zQ sM G fI) st [(0, .ref (G.2.2.1 0)), (1, .int (oI l1)), (4, .int (oI l4))] 69 [] (X7_tape_L69 l1 k st l4) := by
  intro k
  induction k with
  | zero => intro st l4; exact j_none
  | succ k ih =>
    intro st l4
    rw [X7_tape_L69]
    refine j_iload (pc := 69) C dX7_tape_69 2 rfl ?_
    refine j_bipush (pc := 71) C dX7_tape_71 (by decide) ?_
    refine j_icmp_ge (pc := 73) (tgt := 95) C dX7_tape_73 rfl ?_ ?_
    · refine j_iconst (pc := 95) C dX7_tape_95 ?_
      exact j_ireturn C rfl rfl rfl rfl dX7_tape_96
    · refine j_aload_n (pc := 76) C dX7_tape_76 rfl 0 rfl ?_
      refine gf_X7_190 (pc := 77) C dX7_tape_77 ?_
      refine j_bipush (pc := 80) C dX7_tape_80 (by decide) ?_
      refine j_iload_n (pc := 82) C dX7_tape_82 rfl 1 rfl ?_
      refine j_imul (pc := 83) C dX7_tape_83 ?_
      refine j_iload (pc := 84) C dX7_tape_84 2 rfl ?_
      refine j_iadd (pc := 86) C dX7_tape_86 ?_
      refine j_lconst (pc := 87) C (z := 0) dX7_tape_87 (by decide) ?_
      refine j_bI (fun s3 es3 => ?_)
      refine j_last (pc := 88) C arX7_59 es3 dX7_tape_88 ?_
      refine j_iinc (pc := 89) C hN dX7_tape_89 2 rfl (by decide) (lv' := [(4, .int (oI (l4 + 1))), (0, .ref (G.2.2.1 0)), (1, .int (oI l1))]) rfl ?_
      refine j_goto (pc := 92) (tgt := 69) C dX7_tape_92 rfl ?_
      exact j_sub [1, 2, 0] rfl (ih _ _)
set_option maxHeartbeats 4000000 in
set_option maxRecDepth 100000 in
theorem X7_tape_m (l : Launch) {G : GD} (hj : zInj sM G) {st : PS} {l1 l2 l3 : Int} {r : (Int × PS)} (hr : X7_tape st l1 l2 l3 = some r) : zM l sM G yX7_tape cX7_tape 5 (some .int) 2 [.ref (G.2.2.1 0), .int (oI l1), .int (oI l2), .int (oI l3)] st (some (.int (oI r.1))) r.2 :=
  zEnter (f := fI) hr hj (by decide) rfl (lv := [(0, .ref (G.2.2.1 0)), (1, .int (oI l1)), (2, .int (oI l2)), (3, .int (oI l3))]) rfl (Nat.le_of_ble_eq_true rfl) (fun X _ hN C => by
    unfold X7_tape
    refine j_aload_n (pc := 0) C dX7_tape_0 rfl 0 rfl ?_
    refine j_iload_n (pc := 1) C dX7_tape_1 rfl 1 rfl ?_
    refine j_callV1 (pc := 2) C obX7 rfl rfl (X7_isTape_m _ hj rfl) kV_X7_380 rfl (by omega) rfl (Nat.le_of_ble_eq_true rfl) dX7_tape_2 ?_
    refine j_if_ne (pc := 5) (tgt := 10) C dX7_tape_5 rfl ?_ ?_
    · refine j_iconst (pc := 8) C dX7_tape_8 ?_
      exact j_ireturn C rfl rfl rfl rfl dX7_tape_9
    · refine j_aload_n (pc := 10) C dX7_tape_10 rfl 0 rfl ?_
      refine j_iload_n (pc := 11) C dX7_tape_11 rfl 2 rfl ?_
      refine j_iconst (pc := 12) C dX7_tape_12 ?_
      refine j_iconst (pc := 13) C dX7_tape_13 ?_
      refine j_callV1 (pc := 14) C obX7 rfl rfl (X7_in_m _ hj rfl) kV_X7_197 rfl (by omega) rfl (Nat.le_of_ble_eq_true rfl) dX7_tape_14 ?_
      refine j_if_eq (pc := 17) (tgt := 30) C dX7_tape_17 rfl ?_ ?_
      · refine j_bipush (pc := 30) C dX7_tape_30 (by decide) ?_
        exact j_ireturn C rfl rfl rfl rfl dX7_tape_32
      · refine j_iload_n (pc := 20) C dX7_tape_20 rfl 2 rfl ?_
        refine j_if_lt (pc := 21) (tgt := 33) C dX7_tape_21 rfl ?_ ?_
        · refine j_iload_n (pc := 33) C dX7_tape_33 rfl 2 rfl ?_
          refine j_if_lt (pc := 34) (tgt := 44) C dX7_tape_34 rfl ?_ ?_
          · refine j_aload_n (pc := 44) C dX7_tape_44 rfl 0 rfl ?_
            refine gf_X7_184 (pc := 45) C dX7_tape_45 ?_
            refine j_iload_n (pc := 48) C dX7_tape_48 rfl 1 rfl ?_
            refine j_iload_n (pc := 49) C dX7_tape_49 rfl 2 rfl ?_
            refine j_bI (fun s1 es1 => ?_)
            refine j_iast (pc := 50) C arX7_57 es1 dX7_tape_50 ?_
            refine j_aload_n (pc := 51) C dX7_tape_51 rfl 0 rfl ?_
            refine gf_X7_187 (pc := 52) C dX7_tape_52 ?_
            refine j_iload_n (pc := 55) C dX7_tape_55 rfl 1 rfl ?_
            refine j_iload_n (pc := 56) C dX7_tape_56 rfl 2 rfl ?_
            refine j_if_ge (pc := 57) (tgt := 64) C dX7_tape_57 rfl ?_ ?_
            · refine j_iload_n (pc := 64) C dX7_tape_64 rfl 3 rfl ?_
              refine j_bI (fun s2 es2 => ?_)
              refine j_iast (pc := 65) C arX7_58 es2 dX7_tape_65 ?_
              refine j_iconst (pc := 66) C dX7_tape_66 ?_
              refine j_istore (pc := 67) C hN dX7_tape_67 (by decide) (lv' := [(4, .int (oI 0)), (0, .ref (G.2.2.1 0)), (1, .int (oI l1)), (2, .int (oI l2)), (3, .int (oI l3))]) rfl ?_
              exact j_sub [1, 2, 0] rfl (X7_tape_L69_j C hN hj FU _ _)
            · refine j_iconst (pc := 60) C dX7_tape_60 ?_
              refine j_goto (pc := 61) (tgt := 65) C dX7_tape_61 rfl ?_
              refine j_bI (fun s4 es4 => ?_)
              refine j_iast (pc := 65) C arX7_58 es4 dX7_tape_65 ?_
              refine j_iconst (pc := 66) C dX7_tape_66 ?_
              refine j_istore (pc := 67) C hN dX7_tape_67 (by decide) (lv' := [(4, .int (oI 0)), (0, .ref (G.2.2.1 0)), (1, .int (oI l1)), (2, .int (oI l2)), (3, .int (oI l3))]) rfl ?_
              exact j_sub [1, 2, 0] rfl (X7_tape_L69_j C hN hj FU _ _)
          · refine j_iload_n (pc := 37) C dX7_tape_37 rfl 3 rfl ?_
            refine j_if_ge (pc := 38) (tgt := 44) C dX7_tape_38 rfl ?_ ?_
            · refine j_aload_n (pc := 44) C dX7_tape_44 rfl 0 rfl ?_
              refine gf_X7_184 (pc := 45) C dX7_tape_45 ?_
              refine j_iload_n (pc := 48) C dX7_tape_48 rfl 1 rfl ?_
              refine j_iload_n (pc := 49) C dX7_tape_49 rfl 2 rfl ?_
              refine j_bI (fun s5 es5 => ?_)
              refine j_iast (pc := 50) C arX7_57 es5 dX7_tape_50 ?_
              refine j_aload_n (pc := 51) C dX7_tape_51 rfl 0 rfl ?_
              refine gf_X7_187 (pc := 52) C dX7_tape_52 ?_
              refine j_iload_n (pc := 55) C dX7_tape_55 rfl 1 rfl ?_
              refine j_iload_n (pc := 56) C dX7_tape_56 rfl 2 rfl ?_
              refine j_if_ge (pc := 57) (tgt := 64) C dX7_tape_57 rfl ?_ ?_
              · refine j_iload_n (pc := 64) C dX7_tape_64 rfl 3 rfl ?_
                refine j_bI (fun s6 es6 => ?_)
                refine j_iast (pc := 65) C arX7_58 es6 dX7_tape_65 ?_
                refine j_iconst (pc := 66) C dX7_tape_66 ?_
                refine j_istore (pc := 67) C hN dX7_tape_67 (by decide) (lv' := [(4, .int (oI 0)), (0, .ref (G.2.2.1 0)), (1, .int (oI l1)), (2, .int (oI l2)), (3, .int (oI l3))]) rfl ?_
                exact j_sub [1, 2, 0] rfl (X7_tape_L69_j C hN hj FU _ _)
              · refine j_iconst (pc := 60) C dX7_tape_60 ?_
                refine j_goto (pc := 61) (tgt := 65) C dX7_tape_61 rfl ?_
                refine j_bI (fun s7 es7 => ?_)
                refine j_iast (pc := 65) C arX7_58 es7 dX7_tape_65 ?_
                refine j_iconst (pc := 66) C dX7_tape_66 ?_
                refine j_istore (pc := 67) C hN dX7_tape_67 (by decide) (lv' := [(4, .int (oI 0)), (0, .ref (G.2.2.1 0)), (1, .int (oI l1)), (2, .int (oI l2)), (3, .int (oI l3))]) rfl ?_
                exact j_sub [1, 2, 0] rfl (X7_tape_L69_j C hN hj FU _ _)
            · refine j_bipush (pc := 41) C dX7_tape_41 (by decide) ?_
              exact j_ireturn C rfl rfl rfl rfl dX7_tape_43
        · refine j_iload_n (pc := 24) C dX7_tape_24 rfl 3 rfl ?_
          refine j_bipush (pc := 25) C dX7_tape_25 (by decide) ?_
          refine j_icmp_le (pc := 27) (tgt := 33) C dX7_tape_27 rfl ?_ ?_
          · refine j_iload_n (pc := 33) C dX7_tape_33 rfl 2 rfl ?_
            refine j_if_lt (pc := 34) (tgt := 44) C dX7_tape_34 rfl ?_ ?_
            · refine j_aload_n (pc := 44) C dX7_tape_44 rfl 0 rfl ?_
              refine gf_X7_184 (pc := 45) C dX7_tape_45 ?_
              refine j_iload_n (pc := 48) C dX7_tape_48 rfl 1 rfl ?_
              refine j_iload_n (pc := 49) C dX7_tape_49 rfl 2 rfl ?_
              refine j_bI (fun s8 es8 => ?_)
              refine j_iast (pc := 50) C arX7_57 es8 dX7_tape_50 ?_
              refine j_aload_n (pc := 51) C dX7_tape_51 rfl 0 rfl ?_
              refine gf_X7_187 (pc := 52) C dX7_tape_52 ?_
              refine j_iload_n (pc := 55) C dX7_tape_55 rfl 1 rfl ?_
              refine j_iload_n (pc := 56) C dX7_tape_56 rfl 2 rfl ?_
              refine j_if_ge (pc := 57) (tgt := 64) C dX7_tape_57 rfl ?_ ?_
              · refine j_iload_n (pc := 64) C dX7_tape_64 rfl 3 rfl ?_
                refine j_bI (fun s9 es9 => ?_)
                refine j_iast (pc := 65) C arX7_58 es9 dX7_tape_65 ?_
                refine j_iconst (pc := 66) C dX7_tape_66 ?_
                refine j_istore (pc := 67) C hN dX7_tape_67 (by decide) (lv' := [(4, .int (oI 0)), (0, .ref (G.2.2.1 0)), (1, .int (oI l1)), (2, .int (oI l2)), (3, .int (oI l3))]) rfl ?_
                exact j_sub [1, 2, 0] rfl (X7_tape_L69_j C hN hj FU _ _)
              · refine j_iconst (pc := 60) C dX7_tape_60 ?_
                refine j_goto (pc := 61) (tgt := 65) C dX7_tape_61 rfl ?_
                refine j_bI (fun s10 es10 => ?_)
                refine j_iast (pc := 65) C arX7_58 es10 dX7_tape_65 ?_
                refine j_iconst (pc := 66) C dX7_tape_66 ?_
                refine j_istore (pc := 67) C hN dX7_tape_67 (by decide) (lv' := [(4, .int (oI 0)), (0, .ref (G.2.2.1 0)), (1, .int (oI l1)), (2, .int (oI l2)), (3, .int (oI l3))]) rfl ?_
                exact j_sub [1, 2, 0] rfl (X7_tape_L69_j C hN hj FU _ _)
            · refine j_iload_n (pc := 37) C dX7_tape_37 rfl 3 rfl ?_
              refine j_if_ge (pc := 38) (tgt := 44) C dX7_tape_38 rfl ?_ ?_
              · refine j_aload_n (pc := 44) C dX7_tape_44 rfl 0 rfl ?_
                refine gf_X7_184 (pc := 45) C dX7_tape_45 ?_
                refine j_iload_n (pc := 48) C dX7_tape_48 rfl 1 rfl ?_
                refine j_iload_n (pc := 49) C dX7_tape_49 rfl 2 rfl ?_
                refine j_bI (fun s11 es11 => ?_)
                refine j_iast (pc := 50) C arX7_57 es11 dX7_tape_50 ?_
                refine j_aload_n (pc := 51) C dX7_tape_51 rfl 0 rfl ?_
                refine gf_X7_187 (pc := 52) C dX7_tape_52 ?_
                refine j_iload_n (pc := 55) C dX7_tape_55 rfl 1 rfl ?_
                refine j_iload_n (pc := 56) C dX7_tape_56 rfl 2 rfl ?_
                refine j_if_ge (pc := 57) (tgt := 64) C dX7_tape_57 rfl ?_ ?_
                · refine j_iload_n (pc := 64) C dX7_tape_64 rfl 3 rfl ?_
                  refine j_bI (fun s12 es12 => ?_)
                  refine j_iast (pc := 65) C arX7_58 es12 dX7_tape_65 ?_
                  refine j_iconst (pc := 66) C dX7_tape_66 ?_
                  refine j_istore (pc := 67) C hN dX7_tape_67 (by decide) (lv' := [(4, .int (oI 0)), (0, .ref (G.2.2.1 0)), (1, .int (oI l1)), (2, .int (oI l2)), (3, .int (oI l3))]) rfl ?_
                  exact j_sub [1, 2, 0] rfl (X7_tape_L69_j C hN hj FU _ _)
                · refine j_iconst (pc := 60) C dX7_tape_60 ?_
                  refine j_goto (pc := 61) (tgt := 65) C dX7_tape_61 rfl ?_
                  refine j_bI (fun s13 es13 => ?_)
                  refine j_iast (pc := 65) C arX7_58 es13 dX7_tape_65 ?_
                  refine j_iconst (pc := 66) C dX7_tape_66 ?_
                  refine j_istore (pc := 67) C hN dX7_tape_67 (by decide) (lv' := [(4, .int (oI 0)), (0, .ref (G.2.2.1 0)), (1, .int (oI l1)), (2, .int (oI l2)), (3, .int (oI l3))]) rfl ?_
                  exact j_sub [1, 2, 0] rfl (X7_tape_L69_j C hN hj FU _ _)
              · refine j_bipush (pc := 41) C dX7_tape_41 (by decide) ?_
                exact j_ireturn C rfl rfl rfl rfl dX7_tape_43
          · refine j_bipush (pc := 30) C dX7_tape_30 (by decide) ?_
            exact j_ireturn C rfl rfl rfl rfl dX7_tape_32)
def X7_narrow (st : PS) (l1 l2 : Int) : Int := if wI l1 = 0 then (wI (wB l2)) else (if wI l1 = wI 1 then (wI (wH l2)) else (if wI l1 = wI 2 then (wI l2) else (if wI l1 = wI 4 then if wI (zcmp l2 0) = 0 then 0 else (1) else (l2))))
set_option maxHeartbeats 4000000 in
set_option maxRecDepth 100000 in
theorem X7_narrow_m (l : Launch) {G : GD} (hj : zInj sM G) {st : PS} {l1 l2 : Int} {r : Int} (hr : X7_narrow st l1 l2 = r) : zM l sM G yX7_narrow cX7_narrow 4 (some .long) 0 [.ref (G.2.2.1 0), .int (oI l1), .long (oL l2)] st (some (.long (oL r))) st :=
  zEnter (f := fL st) (o := some (X7_narrow st l1 l2)) (by rw [hr]) hj (by decide) rfl (lv := [(0, .ref (G.2.2.1 0)), (1, .int (oI l1)), (2, .long (oL l2))]) rfl (Nat.le_of_ble_eq_true rfl) (fun X _ hN C => by
    simp only [X7_narrow, zsome_ite]
    refine j_iload_n (pc := 0) C dX7_narrow_0 rfl 1 rfl ?_
    refine j_if_ne (pc := 1) (tgt := 11) C dX7_narrow_1 rfl ?_ ?_
    · refine j_lload_n (pc := 4) C dX7_narrow_4 rfl 2 rfl ?_
      refine j_l2i (pc := 5) C dX7_narrow_5 ?_
      refine j_i2b (pc := 6) C dX7_narrow_6 ?_
      refine j_i2l (pc := 7) C dX7_narrow_7 ?_
      refine j_goto (pc := 8) (tgt := 54) C dX7_narrow_8 rfl ?_
      exact j_lreturn C rfl rfl dX7_narrow_54
    · refine j_iload_n (pc := 11) C dX7_narrow_11 rfl 1 rfl ?_
      refine j_iconst (pc := 12) C dX7_narrow_12 ?_
      refine j_icmp_ne (pc := 13) (tgt := 23) C dX7_narrow_13 rfl ?_ ?_
      · refine j_lload_n (pc := 16) C dX7_narrow_16 rfl 2 rfl ?_
        refine j_l2i (pc := 17) C dX7_narrow_17 ?_
        refine j_i2s (pc := 18) C dX7_narrow_18 ?_
        refine j_i2l (pc := 19) C dX7_narrow_19 ?_
        refine j_goto (pc := 20) (tgt := 54) C dX7_narrow_20 rfl ?_
        exact j_lreturn C rfl rfl dX7_narrow_54
      · refine j_iload_n (pc := 23) C dX7_narrow_23 rfl 1 rfl ?_
        refine j_iconst (pc := 24) C dX7_narrow_24 ?_
        refine j_icmp_ne (pc := 25) (tgt := 34) C dX7_narrow_25 rfl ?_ ?_
        · refine j_lload_n (pc := 28) C dX7_narrow_28 rfl 2 rfl ?_
          refine j_l2i (pc := 29) C dX7_narrow_29 ?_
          refine j_i2l (pc := 30) C dX7_narrow_30 ?_
          refine j_goto (pc := 31) (tgt := 54) C dX7_narrow_31 rfl ?_
          exact j_lreturn C rfl rfl dX7_narrow_54
        · refine j_iload_n (pc := 34) C dX7_narrow_34 rfl 1 rfl ?_
          refine j_iconst (pc := 35) C dX7_narrow_35 ?_
          refine j_icmp_ne (pc := 36) (tgt := 53) C dX7_narrow_36 rfl ?_ ?_
          · refine j_lload_n (pc := 39) C dX7_narrow_39 rfl 2 rfl ?_
            refine j_lconst (pc := 40) C (z := 0) dX7_narrow_40 (by decide) ?_
            refine j_lcmp (pc := 41) C dX7_narrow_41 ?_
            refine j_if_eq (pc := 42) (tgt := 49) C dX7_narrow_42 rfl ?_ ?_
            · refine j_lconst (pc := 49) C (z := 0) dX7_narrow_49 (by decide) ?_
              refine j_goto (pc := 50) (tgt := 54) C dX7_narrow_50 rfl ?_
              exact j_lreturn C rfl rfl dX7_narrow_54
            · refine j_lconst (pc := 45) C (z := 1) dX7_narrow_45 (by decide) ?_
              refine j_goto (pc := 46) (tgt := 54) C dX7_narrow_46 rfl ?_
              exact j_lreturn C rfl rfl dX7_narrow_54
          · refine j_lload_n (pc := 53) C dX7_narrow_53 rfl 2 rfl ?_
            exact j_lreturn C rfl rfl dX7_narrow_54)
def X7_item (st : PS) (l1 l2 l3 : Int) : Option (Int × PS) := if wI (X7_isTape st l1) = 0 then some ((-1), st) else (bI (zrd st 57 6 l1) (fun v1 => if 0 ≤ wI v1 then bI (zrd st 58 6 l1) (fun v2 => if wI (X7_in st l2 0 (v2 - 1)) = 0 then some ((-13), st) else (bI (zrd st 57 6 l1) (fun v3 => bI (zwr st 59 360 ((60 * l1) + l2) (X7_narrow st v3 l3)) (fun s1 => some (1, s1))))) else (some ((-11), st))))
set_option maxHeartbeats 4000000 in
set_option maxRecDepth 100000 in
theorem X7_item_m (l : Launch) {G : GD} (hj : zInj sM G) {st : PS} {l1 l2 l3 : Int} {r : (Int × PS)} (hr : X7_item st l1 l2 l3 = some r) : zM l sM G yX7_item cX7_item 5 (some .int) 2 [.ref (G.2.2.1 0), .int (oI l1), .int (oI l2), .long (oL l3)] st (some (.int (oI r.1))) r.2 :=
  zEnter (f := fI) hr hj (by decide) rfl (lv := [(0, .ref (G.2.2.1 0)), (1, .int (oI l1)), (2, .int (oI l2)), (3, .long (oL l3))]) rfl (Nat.le_of_ble_eq_true rfl) (fun X _ hN C => by
    unfold X7_item
    refine j_aload_n (pc := 0) C dX7_item_0 rfl 0 rfl ?_
    refine j_iload_n (pc := 1) C dX7_item_1 rfl 1 rfl ?_
    refine j_callV1 (pc := 2) C obX7 rfl rfl (X7_isTape_m _ hj rfl) kV_X7_380 rfl (by omega) rfl (Nat.le_of_ble_eq_true rfl) dX7_item_2 ?_
    refine j_if_ne (pc := 5) (tgt := 10) C dX7_item_5 rfl ?_ ?_
    · refine j_iconst (pc := 8) C dX7_item_8 ?_
      exact j_ireturn C rfl rfl rfl rfl dX7_item_9
    · refine j_aload_n (pc := 10) C dX7_item_10 rfl 0 rfl ?_
      refine gf_X7_184 (pc := 11) C dX7_item_11 ?_
      refine j_iload_n (pc := 14) C dX7_item_14 rfl 1 rfl ?_
      refine j_bI (fun v1 ev1 => ?_)
      refine j_iald (pc := 15) C arX7_57 ev1 dX7_item_15 ?_
      refine j_if_ge (pc := 16) (tgt := 22) C dX7_item_16 rfl ?_ ?_
      · refine j_aload_n (pc := 22) C dX7_item_22 rfl 0 rfl ?_
        refine j_iload_n (pc := 23) C dX7_item_23 rfl 2 rfl ?_
        refine j_iconst (pc := 24) C dX7_item_24 ?_
        refine j_aload_n (pc := 25) C dX7_item_25 rfl 0 rfl ?_
        refine gf_X7_187 (pc := 26) C dX7_item_26 ?_
        refine j_iload_n (pc := 29) C dX7_item_29 rfl 1 rfl ?_
        refine j_bI (fun v2 ev2 => ?_)
        refine j_iald (pc := 30) C arX7_58 ev2 dX7_item_30 ?_
        refine j_iconst (pc := 31) C dX7_item_31 ?_
        refine j_isub (pc := 32) C dX7_item_32 ?_
        refine j_callV1 (pc := 33) C obX7 rfl rfl (X7_in_m _ hj rfl) kV_X7_197 rfl (by omega) rfl (Nat.le_of_ble_eq_true rfl) dX7_item_33 ?_
        refine j_if_ne (pc := 36) (tgt := 42) C dX7_item_36 rfl ?_ ?_
        · refine j_bipush (pc := 39) C dX7_item_39 (by decide) ?_
          exact j_ireturn C rfl rfl rfl rfl dX7_item_41
        · refine j_aload_n (pc := 42) C dX7_item_42 rfl 0 rfl ?_
          refine gf_X7_190 (pc := 43) C dX7_item_43 ?_
          refine j_bipush (pc := 46) C dX7_item_46 (by decide) ?_
          refine j_iload_n (pc := 48) C dX7_item_48 rfl 1 rfl ?_
          refine j_imul (pc := 49) C dX7_item_49 ?_
          refine j_iload_n (pc := 50) C dX7_item_50 rfl 2 rfl ?_
          refine j_iadd (pc := 51) C dX7_item_51 ?_
          refine j_aload_n (pc := 52) C dX7_item_52 rfl 0 rfl ?_
          refine j_aload_n (pc := 53) C dX7_item_53 rfl 0 rfl ?_
          refine gf_X7_184 (pc := 54) C dX7_item_54 ?_
          refine j_iload_n (pc := 57) C dX7_item_57 rfl 1 rfl ?_
          refine j_bI (fun v3 ev3 => ?_)
          refine j_iald (pc := 58) C arX7_57 ev3 dX7_item_58 ?_
          refine j_lload_n (pc := 59) C dX7_item_59 rfl 3 rfl ?_
          refine j_callV1 (pc := 60) C obX7 rfl rfl (X7_narrow_m _ hj rfl) kV_X7_407 rfl (by omega) rfl (Nat.le_of_ble_eq_true rfl) dX7_item_60 ?_
          refine j_bI (fun s1 es1 => ?_)
          refine j_last (pc := 63) C arX7_59 es1 dX7_item_63 ?_
          refine j_iconst (pc := 64) C dX7_item_64 ?_
          exact j_ireturn C rfl rfl rfl rfl dX7_item_65
      · refine j_bipush (pc := 19) C dX7_item_19 (by decide) ?_
        exact j_ireturn C rfl rfl rfl rfl dX7_item_21)
def X7_read (st : PS) (l1 l2 : Int) : Option Int := if wI (X7_isTape st l1) = 0 then some (-9223372036854775808) else (bI (zrd st 57 6 l1) (fun v1 => if wI v1 < 0 then some (-9223372036854775808) else (bI (zrd st 58 6 l1) (fun v2 => if wI (X7_in st l2 0 (v2 - 1)) = 0 then some (-9223372036854775808) else (bI (zrd st 59 360 ((60 * l1) + l2)) (fun v3 => some v3))))))
set_option maxHeartbeats 4000000 in
set_option maxRecDepth 100000 in
theorem X7_read_m (l : Launch) {G : GD} (hj : zInj sM G) {st : PS} {l1 l2 : Int} {r : Int} (hr : X7_read st l1 l2 = some r) : zM l sM G yX7_read cX7_read 3 (some .long) 2 [.ref (G.2.2.1 0), .int (oI l1), .int (oI l2)] st (some (.long (oL r))) st :=
  zEnter (f := fL st) hr hj (by decide) rfl (lv := [(0, .ref (G.2.2.1 0)), (1, .int (oI l1)), (2, .int (oI l2))]) rfl (Nat.le_of_ble_eq_true rfl) (fun X _ hN C => by
    unfold X7_read
    refine j_aload_n (pc := 0) C dX7_read_0 rfl 0 rfl ?_
    refine j_iload_n (pc := 1) C dX7_read_1 rfl 1 rfl ?_
    refine j_callV1 (pc := 2) C obX7 rfl rfl (X7_isTape_m _ hj rfl) kV_X7_380 rfl (by omega) rfl (Nat.le_of_ble_eq_true rfl) dX7_read_2 ?_
    refine j_if_eq (pc := 5) (tgt := 34) C dX7_read_5 rfl ?_ ?_
    · refine j_ldc2 (pc := 34) C (z := (-9223372036854775808)) (zT_of (i := 1357) (by decide +kernel) rfl) rfl dX7_read_34 ?_
      refine j_goto (pc := 37) (tgt := 51) C dX7_read_37 rfl ?_
      exact j_lreturn C rfl rfl dX7_read_51
    · refine j_aload_n (pc := 8) C dX7_read_8 rfl 0 rfl ?_
      refine gf_X7_184 (pc := 9) C dX7_read_9 ?_
      refine j_iload_n (pc := 12) C dX7_read_12 rfl 1 rfl ?_
      refine j_bI (fun v1 ev1 => ?_)
      refine j_iald (pc := 13) C arX7_57 ev1 dX7_read_13 ?_
      refine j_if_lt (pc := 14) (tgt := 34) C dX7_read_14 rfl ?_ ?_
      · refine j_ldc2 (pc := 34) C (z := (-9223372036854775808)) (zT_of (i := 1357) (by decide +kernel) rfl) rfl dX7_read_34 ?_
        refine j_goto (pc := 37) (tgt := 51) C dX7_read_37 rfl ?_
        exact j_lreturn C rfl rfl dX7_read_51
      · refine j_aload_n (pc := 17) C dX7_read_17 rfl 0 rfl ?_
        refine j_iload_n (pc := 18) C dX7_read_18 rfl 2 rfl ?_
        refine j_iconst (pc := 19) C dX7_read_19 ?_
        refine j_aload_n (pc := 20) C dX7_read_20 rfl 0 rfl ?_
        refine gf_X7_187 (pc := 21) C dX7_read_21 ?_
        refine j_iload_n (pc := 24) C dX7_read_24 rfl 1 rfl ?_
        refine j_bI (fun v2 ev2 => ?_)
        refine j_iald (pc := 25) C arX7_58 ev2 dX7_read_25 ?_
        refine j_iconst (pc := 26) C dX7_read_26 ?_
        refine j_isub (pc := 27) C dX7_read_27 ?_
        refine j_callV1 (pc := 28) C obX7 rfl rfl (X7_in_m _ hj rfl) kV_X7_197 rfl (by omega) rfl (Nat.le_of_ble_eq_true rfl) dX7_read_28 ?_
        refine j_if_ne (pc := 31) (tgt := 40) C dX7_read_31 rfl ?_ ?_
        · refine j_ldc2 (pc := 34) C (z := (-9223372036854775808)) (zT_of (i := 1357) (by decide +kernel) rfl) rfl dX7_read_34 ?_
          refine j_goto (pc := 37) (tgt := 51) C dX7_read_37 rfl ?_
          exact j_lreturn C rfl rfl dX7_read_51
        · refine j_aload_n (pc := 40) C dX7_read_40 rfl 0 rfl ?_
          refine gf_X7_190 (pc := 41) C dX7_read_41 ?_
          refine j_bipush (pc := 44) C dX7_read_44 (by decide) ?_
          refine j_iload_n (pc := 46) C dX7_read_46 rfl 1 rfl ?_
          refine j_imul (pc := 47) C dX7_read_47 ?_
          refine j_iload_n (pc := 48) C dX7_read_48 rfl 2 rfl ?_
          refine j_iadd (pc := 49) C dX7_read_49 ?_
          refine j_bI (fun v3 ev3 => ?_)
          refine j_lald (pc := 50) C arX7_59 ev3 dX7_read_50 ?_
          exact j_lreturn C rfl rfl dX7_read_51)
def X7_shift_L141 (l3 : Int) (l4 : Int) (l5 : Int) : Nat → PS → Int → Option (Int × PS)
  | 0, _, _ => none
  | k + 1, st, l6 => if wI l5 ≤ wI l6 then some (l5, st) else (bI (zrd st 60 60 l6) (fun v7 => bI (zwr st 59 360 (((60 * l3) + l4) + l6) v7) (fun s1 => X7_shift_L141 l3 l4 l5 k s1 (l6 + 1))))
def X7_shift_L104 (l1 : Int) (l2 : Int) (l3 : Int) (l4 : Int) (l5 : Int) : Nat → PS → Int → Option (Int × PS)
  | 0, _, _ => none
  | k + 1, st, l6 => if wI l5 ≤ wI l6 then X7_shift_L141 l3 l4 l5 FU st 0 else (bI (zrd st 59 360 (((60 * l1) + l2) + l6)) (fun v8 => bI (zwr st 60 60 l6 v8) (fun s2 => X7_shift_L104 l1 l2 l3 l4 l5 k s2 (l6 + 1))))
def X7_shift (st : PS) (l1 l2 l3 l4 l5 : Int) : Option (Int × PS) := if wI (X7_isTape st l1) = 0 then some ((-1), st) else (if wI (X7_isTape st l3) = 0 then some ((-1), st) else (bI (zrd st 57 6 l1) (fun v1 => if wI v1 < 0 then some ((-11), st) else (bI (zrd st 57 6 l3) (fun v2 => if 0 ≤ wI v2 then bI (zrd st 57 6 l1) (fun v3 => bI (zrd st 57 6 l3) (fun v4 => if wI v3 = wI v4 then if wI l5 < 0 then some ((-13), st) else (if wI l2 < 0 then some ((-13), st) else (if wI l4 < 0 then some ((-13), st) else (bI (zrd st 58 6 l1) (fun v5 => if wI (v5 - l5) < wI l2 then some ((-13), st) else (bI (zrd st 58 6 l3) (fun v6 => if wI l4 ≤ wI (v6 - l5) then X7_shift_L104 l1 l2 l3 l4 l5 FU st 0 else (some ((-13), st)))))))) else (some ((-12), st)))) else (some ((-11), st)))))))
set_option maxHeartbeats 4000000 in
set_option maxRecDepth 100000 in
theorem X7_shift_L141_j {X : JX} {G : GD} (C : zC X sM G RX7 cX7_shift (some .int) 2) (hN : X.2.2.2.2.2.2.2.2.2.2.2.2 = 7) (hj : zInj sM G) {l3 : Int} {l4 : Int} {l5 : Int} : ∀ (k : Nat) (st : PS) (l6 : Int), J X (zI sM G) (zQ sM G fI) st [(0, .ref (G.2.2.1 0)), (3, .int (oI l3)), (4, .int (oI l4)), (5, .int (oI l5)), (6, .int (oI l6))] 141 [] (X7_shift_L141 l3 l4 l5 k st l6) := by
  intro k
  induction k with
  | zero => intro st l6; exact j_none
  | succ k ih =>
    intro st l6
    rw [X7_shift_L141]
    refine j_iload (pc := 141) C dX7_shift_141 4 rfl ?_
    refine j_iload (pc := 143) C dX7_shift_143 3 rfl ?_
    refine j_icmp_ge (pc := 145) (tgt := 176) C dX7_shift_145 rfl ?_ ?_
    · refine j_iload (pc := 176) C dX7_shift_176 3 rfl ?_
      exact j_ireturn C rfl rfl rfl rfl dX7_shift_178
    · refine j_aload_n (pc := 148) C dX7_shift_148 rfl 0 rfl ?_
      refine gf_X7_190 (pc := 149) C dX7_shift_149 ?_
      refine j_bipush (pc := 152) C dX7_shift_152 (by decide) ?_
      refine j_iload_n (pc := 154) C dX7_shift_154 rfl 1 rfl ?_
      refine j_imul (pc := 155) C dX7_shift_155 ?_
      refine j_iload (pc := 156) C dX7_shift_156 2 rfl ?_
      refine j_iadd (pc := 158) C dX7_shift_158 ?_
      refine j_iload (pc := 159) C dX7_shift_159 4 rfl ?_
      refine j_iadd (pc := 161) C dX7_shift_161 ?_
      refine j_aload_n (pc := 162) C dX7_shift_162 rfl 0 rfl ?_
      refine gf_X7_194 (pc := 163) C dX7_shift_163 ?_
      refine j_iload (pc := 166) C dX7_shift_166 4 rfl ?_
      refine j_bI (fun v7 ev7 => ?_)
      refine j_lald (pc := 168) C arX7_60 ev7 dX7_shift_168 ?_
      refine j_bI (fun s1 es1 => ?_)
      refine j_last (pc := 169) C arX7_59 es1 dX7_shift_169 ?_
      refine j_iinc (pc := 170) C hN dX7_shift_170 4 rfl (by decide) (lv' := [(6, .int (oI (l6 + 1))), (0, .ref (G.2.2.1 0)), (3, .int (oI l3)), (4, .int (oI l4)), (5, .int (oI l5))]) rfl ?_
      refine j_goto (pc := 173) (tgt := 141) C dX7_shift_173 rfl ?_
      exact j_sub [1, 2, 3, 4, 0] rfl (ih _ _)
set_option maxHeartbeats 4000000 in
set_option maxRecDepth 100000 in
theorem X7_shift_L104_j {X : JX} {G : GD} (C : zC X sM G RX7 cX7_shift (some .int) 2) (hN : X.2.2.2.2.2.2.2.2.2.2.2.2 = 7) (hj : zInj sM G) {l1 : Int} {l2 : Int} {l3 : Int} {l4 : Int} {l5 : Int} : ∀ (k : Nat) (st : PS) (l6 : Int), J X (zI sM G) (zQ sM G fI) st [(0, .ref (G.2.2.1 0)), (1, .int (oI l1)), (2, .int (oI l2)), (3, .int (oI l3)), (4, .int (oI l4)), (5, .int (oI l5)), (6, .int (oI l6))] 104 [] (X7_shift_L104 l1 l2 l3 l4 l5 k st l6) := by
  intro k
  induction k with
  | zero => intro st l6; exact j_none
  | succ k ih =>
    intro st l6
    rw [X7_shift_L104]
    refine j_iload (pc := 104) C dX7_shift_104 6 rfl ?_
    refine j_iload (pc := 106) C dX7_shift_106 5 rfl ?_
    refine j_icmp_ge (pc := 108) (tgt := 138) C dX7_shift_108 rfl ?_ ?_
    · refine j_iconst (pc := 138) C dX7_shift_138 ?_
      refine j_istore (pc := 139) C hN dX7_shift_139 (by decide) (lv' := [(6, .int (oI 0)), (0, .ref (G.2.2.1 0)), (1, .int (oI l1)), (2, .int (oI l2)), (3, .int (oI l3)), (4, .int (oI l4)), (5, .int (oI l5))]) rfl ?_
      exact j_sub [1, 4, 5, 6, 0] rfl (X7_shift_L141_j C hN hj FU _ _)
    · refine j_aload_n (pc := 111) C dX7_shift_111 rfl 0 rfl ?_
      refine gf_X7_194 (pc := 112) C dX7_shift_112 ?_
      refine j_iload (pc := 115) C dX7_shift_115 6 rfl ?_
      refine j_aload_n (pc := 117) C dX7_shift_117 rfl 0 rfl ?_
      refine gf_X7_190 (pc := 118) C dX7_shift_118 ?_
      refine j_bipush (pc := 121) C dX7_shift_121 (by decide) ?_
      refine j_iload_n (pc := 123) C dX7_shift_123 rfl 1 rfl ?_
      refine j_imul (pc := 124) C dX7_shift_124 ?_
      refine j_iload_n (pc := 125) C dX7_shift_125 rfl 2 rfl ?_
      refine j_iadd (pc := 126) C dX7_shift_126 ?_
      refine j_iload (pc := 127) C dX7_shift_127 6 rfl ?_
      refine j_iadd (pc := 129) C dX7_shift_129 ?_
      refine j_bI (fun v8 ev8 => ?_)
      refine j_lald (pc := 130) C arX7_59 ev8 dX7_shift_130 ?_
      refine j_bI (fun s2 es2 => ?_)
      refine j_last (pc := 131) C arX7_60 es2 dX7_shift_131 ?_
      refine j_iinc (pc := 132) C hN dX7_shift_132 6 rfl (by decide) (lv' := [(6, .int (oI (l6 + 1))), (0, .ref (G.2.2.1 0)), (1, .int (oI l1)), (2, .int (oI l2)), (3, .int (oI l3)), (4, .int (oI l4)), (5, .int (oI l5))]) rfl ?_
      refine j_goto (pc := 135) (tgt := 104) C dX7_shift_135 rfl ?_
      exact j_sub [1, 2, 3, 4, 5, 6, 0] rfl (ih _ _)
set_option maxHeartbeats 4000000 in
set_option maxRecDepth 100000 in
theorem X7_shift_m (l : Launch) {G : GD} (hj : zInj sM G) {st : PS} {l1 l2 l3 l4 l5 : Int} {r : (Int × PS)} (hr : X7_shift st l1 l2 l3 l4 l5 = some r) : zM l sM G yX7_shift cX7_shift 7 (some .int) 2 [.ref (G.2.2.1 0), .int (oI l1), .int (oI l2), .int (oI l3), .int (oI l4), .int (oI l5)] st (some (.int (oI r.1))) r.2 :=
  zEnter (f := fI) hr hj (by decide) rfl (lv := [(0, .ref (G.2.2.1 0)), (1, .int (oI l1)), (2, .int (oI l2)), (3, .int (oI l3)), (4, .int (oI l4)), (5, .int (oI l5))]) rfl (Nat.le_of_ble_eq_true rfl) (fun X _ hN C => by
    unfold X7_shift
    refine j_aload_n (pc := 0) C dX7_shift_0 rfl 0 rfl ?_
    refine j_iload_n (pc := 1) C dX7_shift_1 rfl 1 rfl ?_
    refine j_callV1 (pc := 2) C obX7 rfl rfl (X7_isTape_m _ hj rfl) kV_X7_380 rfl (by omega) rfl (Nat.le_of_ble_eq_true rfl) dX7_shift_2 ?_
    refine j_if_eq (pc := 5) (tgt := 16) C dX7_shift_5 rfl ?_ ?_
    · refine j_iconst (pc := 16) C dX7_shift_16 ?_
      exact j_ireturn C rfl rfl rfl rfl dX7_shift_17
    · refine j_aload_n (pc := 8) C dX7_shift_8 rfl 0 rfl ?_
      refine j_iload_n (pc := 9) C dX7_shift_9 rfl 3 rfl ?_
      refine j_callV1 (pc := 10) C obX7 rfl rfl (X7_isTape_m _ hj rfl) kV_X7_380 rfl (by omega) rfl (Nat.le_of_ble_eq_true rfl) dX7_shift_10 ?_
      refine j_if_ne (pc := 13) (tgt := 18) C dX7_shift_13 rfl ?_ ?_
      · refine j_iconst (pc := 16) C dX7_shift_16 ?_
        exact j_ireturn C rfl rfl rfl rfl dX7_shift_17
      · refine j_aload_n (pc := 18) C dX7_shift_18 rfl 0 rfl ?_
        refine gf_X7_184 (pc := 19) C dX7_shift_19 ?_
        refine j_iload_n (pc := 22) C dX7_shift_22 rfl 1 rfl ?_
        refine j_bI (fun v1 ev1 => ?_)
        refine j_iald (pc := 23) C arX7_57 ev1 dX7_shift_23 ?_
        refine j_if_lt (pc := 24) (tgt := 36) C dX7_shift_24 rfl ?_ ?_
        · refine j_bipush (pc := 36) C dX7_shift_36 (by decide) ?_
          exact j_ireturn C rfl rfl rfl rfl dX7_shift_38
        · refine j_aload_n (pc := 27) C dX7_shift_27 rfl 0 rfl ?_
          refine gf_X7_184 (pc := 28) C dX7_shift_28 ?_
          refine j_iload_n (pc := 31) C dX7_shift_31 rfl 3 rfl ?_
          refine j_bI (fun v2 ev2 => ?_)
          refine j_iald (pc := 32) C arX7_57 ev2 dX7_shift_32 ?_
          refine j_if_ge (pc := 33) (tgt := 39) C dX7_shift_33 rfl ?_ ?_
          · refine j_aload_n (pc := 39) C dX7_shift_39 rfl 0 rfl ?_
            refine gf_X7_184 (pc := 40) C dX7_shift_40 ?_
            refine j_iload_n (pc := 43) C dX7_shift_43 rfl 1 rfl ?_
            refine j_bI (fun v3 ev3 => ?_)
            refine j_iald (pc := 44) C arX7_57 ev3 dX7_shift_44 ?_
            refine j_aload_n (pc := 45) C dX7_shift_45 rfl 0 rfl ?_
            refine gf_X7_184 (pc := 46) C dX7_shift_46 ?_
            refine j_iload_n (pc := 49) C dX7_shift_49 rfl 3 rfl ?_
            refine j_bI (fun v4 ev4 => ?_)
            refine j_iald (pc := 50) C arX7_57 ev4 dX7_shift_50 ?_
            refine j_icmp_eq (pc := 51) (tgt := 57) C dX7_shift_51 rfl ?_ ?_
            · refine j_iload (pc := 57) C dX7_shift_57 5 rfl ?_
              refine j_if_lt (pc := 59) (tgt := 98) C dX7_shift_59 rfl ?_ ?_
              · refine j_bipush (pc := 98) C dX7_shift_98 (by decide) ?_
                exact j_ireturn C rfl rfl rfl rfl dX7_shift_100
              · refine j_iload_n (pc := 62) C dX7_shift_62 rfl 2 rfl ?_
                refine j_if_lt (pc := 63) (tgt := 98) C dX7_shift_63 rfl ?_ ?_
                · refine j_bipush (pc := 98) C dX7_shift_98 (by decide) ?_
                  exact j_ireturn C rfl rfl rfl rfl dX7_shift_100
                · refine j_iload (pc := 66) C dX7_shift_66 4 rfl ?_
                  refine j_if_lt (pc := 68) (tgt := 98) C dX7_shift_68 rfl ?_ ?_
                  · refine j_bipush (pc := 98) C dX7_shift_98 (by decide) ?_
                    exact j_ireturn C rfl rfl rfl rfl dX7_shift_100
                  · refine j_iload_n (pc := 71) C dX7_shift_71 rfl 2 rfl ?_
                    refine j_aload_n (pc := 72) C dX7_shift_72 rfl 0 rfl ?_
                    refine gf_X7_187 (pc := 73) C dX7_shift_73 ?_
                    refine j_iload_n (pc := 76) C dX7_shift_76 rfl 1 rfl ?_
                    refine j_bI (fun v5 ev5 => ?_)
                    refine j_iald (pc := 77) C arX7_58 ev5 dX7_shift_77 ?_
                    refine j_iload (pc := 78) C dX7_shift_78 5 rfl ?_
                    refine j_isub (pc := 80) C dX7_shift_80 ?_
                    refine j_icmp_gt (pc := 81) (tgt := 98) C dX7_shift_81 rfl ?_ ?_
                    · refine j_bipush (pc := 98) C dX7_shift_98 (by decide) ?_
                      exact j_ireturn C rfl rfl rfl rfl dX7_shift_100
                    · refine j_iload (pc := 84) C dX7_shift_84 4 rfl ?_
                      refine j_aload_n (pc := 86) C dX7_shift_86 rfl 0 rfl ?_
                      refine gf_X7_187 (pc := 87) C dX7_shift_87 ?_
                      refine j_iload_n (pc := 90) C dX7_shift_90 rfl 3 rfl ?_
                      refine j_bI (fun v6 ev6 => ?_)
                      refine j_iald (pc := 91) C arX7_58 ev6 dX7_shift_91 ?_
                      refine j_iload (pc := 92) C dX7_shift_92 5 rfl ?_
                      refine j_isub (pc := 94) C dX7_shift_94 ?_
                      refine j_icmp_le (pc := 95) (tgt := 101) C dX7_shift_95 rfl ?_ ?_
                      · refine j_iconst (pc := 101) C dX7_shift_101 ?_
                        refine j_istore (pc := 102) C hN dX7_shift_102 (by decide) (lv' := [(6, .int (oI 0)), (0, .ref (G.2.2.1 0)), (1, .int (oI l1)), (2, .int (oI l2)), (3, .int (oI l3)), (4, .int (oI l4)), (5, .int (oI l5))]) rfl ?_
                        exact j_sub [1, 2, 3, 4, 5, 6, 0] rfl (X7_shift_L104_j C hN hj FU _ _)
                      · refine j_bipush (pc := 98) C dX7_shift_98 (by decide) ?_
                        exact j_ireturn C rfl rfl rfl rfl dX7_shift_100
            · refine j_bipush (pc := 54) C dX7_shift_54 (by decide) ?_
              exact j_ireturn C rfl rfl rfl rfl dX7_shift_56
          · refine j_bipush (pc := 36) C dX7_shift_36 (by decide) ?_
            exact j_ireturn C rfl rfl rfl rfl dX7_shift_38)
