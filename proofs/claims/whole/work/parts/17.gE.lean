def X6_isKind (st : PS) (l0 : Int) : Int := if wI l0 < 0 then 0 else (if wI 6 < wI l0 then 0 else (1))
set_option maxHeartbeats 4000000 in
set_option maxRecDepth 100000 in
theorem X6_isKind_m (l : Launch) {G : GD} (hj : zInj sC G) {st : PS} {l0 : Int} {r : Int} (hr : X6_isKind st l0 = r) : zM l sC G yX6_isKind cX6_isKind 1 (some .boolean) 0 [.int (oI l0)] st (some (.int (oI r))) st :=
  zEnter (f := fR st) (o := some (X6_isKind st l0)) (by rw [hr]) hj (by decide) rfl (lv := [(0, .int (oI l0))]) rfl (Nat.le_of_ble_eq_true rfl) (fun X _ hN C => by
    simp only [X6_isKind, zsome_ite]
    refine j_iload_n (pc := 0) C dX6_isKind_0 rfl 0 rfl ?_
    refine j_if_lt (pc := 1) (tgt := 14) C dX6_isKind_1 rfl ?_ ?_
    · refine j_iconst (pc := 14) C dX6_isKind_14 ?_
      exact j_ireturn C rfl rfl (znar (Or.inl rfl)) rfl dX6_isKind_15
    · refine j_iload_n (pc := 4) C dX6_isKind_4 rfl 0 rfl ?_
      refine j_bipush (pc := 5) C dX6_isKind_5 (by decide) ?_
      refine j_icmp_gt (pc := 7) (tgt := 14) C dX6_isKind_7 rfl ?_ ?_
      · refine j_iconst (pc := 14) C dX6_isKind_14 ?_
        exact j_ireturn C rfl rfl (znar (Or.inl rfl)) rfl dX6_isKind_15
      · refine j_iconst (pc := 10) C dX6_isKind_10 ?_
        refine j_goto (pc := 11) (tgt := 15) C dX6_isKind_11 rfl ?_
        exact j_ireturn C rfl rfl (znar (Or.inr rfl)) rfl dX6_isKind_15)
theorem X6_isKind_bit {st : PS} {l0 : Int} : X6_isKind st l0 = 0 ∨ X6_isKind st l0 = 1 := by
  unfold X6_isKind
  first | exact Or.inl rfl | (repeat' split) <;> first | exact Or.inl rfl | exact Or.inr rfl
def X6_isV (st : PS) (l0 : Int) : Int := if wI l0 < 0 then 0 else (if wI 9 < wI l0 then 0 else (1))
set_option maxHeartbeats 4000000 in
set_option maxRecDepth 100000 in
theorem X6_isV_m (l : Launch) {G : GD} (hj : zInj sC G) {st : PS} {l0 : Int} {r : Int} (hr : X6_isV st l0 = r) : zM l sC G yX6_isV cX6_isV 1 (some .boolean) 0 [.int (oI l0)] st (some (.int (oI r))) st :=
  zEnter (f := fR st) (o := some (X6_isV st l0)) (by rw [hr]) hj (by decide) rfl (lv := [(0, .int (oI l0))]) rfl (Nat.le_of_ble_eq_true rfl) (fun X _ hN C => by
    simp only [X6_isV, zsome_ite]
    refine j_iload_n (pc := 0) C dX6_isV_0 rfl 0 rfl ?_
    refine j_if_lt (pc := 1) (tgt := 14) C dX6_isV_1 rfl ?_ ?_
    · refine j_iconst (pc := 14) C dX6_isV_14 ?_
      exact j_ireturn C rfl rfl (znar (Or.inl rfl)) rfl dX6_isV_15
    · refine j_iload_n (pc := 4) C dX6_isV_4 rfl 0 rfl ?_
      refine j_bipush (pc := 5) C dX6_isV_5 (by decide) ?_
      refine j_icmp_gt (pc := 7) (tgt := 14) C dX6_isV_7 rfl ?_ ?_
      · refine j_iconst (pc := 14) C dX6_isV_14 ?_
        exact j_ireturn C rfl rfl (znar (Or.inl rfl)) rfl dX6_isV_15
      · refine j_iconst (pc := 10) C dX6_isV_10 ?_
        refine j_goto (pc := 11) (tgt := 15) C dX6_isV_11 rfl ?_
        exact j_ireturn C rfl rfl (znar (Or.inr rfl)) rfl dX6_isV_15)
theorem X6_isV_bit {st : PS} {l0 : Int} : X6_isV st l0 = 0 ∨ X6_isV st l0 = 1 := by
  unfold X6_isV
  first | exact Or.inl rfl | (repeat' split) <;> first | exact Or.inl rfl | exact Or.inr rfl
def X6_isEarned (st : PS) (l0 : Int) : Int := if wI l0 < 0 then 0 else (if wI 99 < wI l0 then 0 else (1))
set_option maxHeartbeats 4000000 in
set_option maxRecDepth 100000 in
theorem X6_isEarned_m (l : Launch) {G : GD} (hj : zInj sC G) {st : PS} {l0 : Int} {r : Int} (hr : X6_isEarned st l0 = r) : zM l sC G yX6_isEarned cX6_isEarned 1 (some .boolean) 0 [.int (oI l0)] st (some (.int (oI r))) st :=
  zEnter (f := fR st) (o := some (X6_isEarned st l0)) (by rw [hr]) hj (by decide) rfl (lv := [(0, .int (oI l0))]) rfl (Nat.le_of_ble_eq_true rfl) (fun X _ hN C => by
    simp only [X6_isEarned, zsome_ite]
    refine j_iload_n (pc := 0) C dX6_isEarned_0 rfl 0 rfl ?_
    refine j_if_lt (pc := 1) (tgt := 14) C dX6_isEarned_1 rfl ?_ ?_
    · refine j_iconst (pc := 14) C dX6_isEarned_14 ?_
      exact j_ireturn C rfl rfl (znar (Or.inl rfl)) rfl dX6_isEarned_15
    · refine j_iload_n (pc := 4) C dX6_isEarned_4 rfl 0 rfl ?_
      refine j_bipush (pc := 5) C dX6_isEarned_5 (by decide) ?_
      refine j_icmp_gt (pc := 7) (tgt := 14) C dX6_isEarned_7 rfl ?_ ?_
      · refine j_iconst (pc := 14) C dX6_isEarned_14 ?_
        exact j_ireturn C rfl rfl (znar (Or.inl rfl)) rfl dX6_isEarned_15
      · refine j_iconst (pc := 10) C dX6_isEarned_10 ?_
        refine j_goto (pc := 11) (tgt := 15) C dX6_isEarned_11 rfl ?_
        exact j_ireturn C rfl rfl (znar (Or.inr rfl)) rfl dX6_isEarned_15)
theorem X6_isEarned_bit {st : PS} {l0 : Int} : X6_isEarned st l0 = 0 ∨ X6_isEarned st l0 = 1 := by
  unfold X6_isEarned
  first | exact Or.inl rfl | (repeat' split) <;> first | exact Or.inl rfl | exact Or.inr rfl
def X6_house (st : PS) (l1 l2 l3 : Int) : Option (Int × PS) := if wI (X6_isKind st l1) = 0 then some ((-1), st) else (if wI (X6_isV st l2) = 0 then some ((-2), st) else (if wI (X6_isEarned st l3) = 0 then some ((-2), st) else (if wI (st 20 0) < wI 7 then bI (X5_insert 20 st (st 20 0) l1 l2 l3) (fun s1 => some ((s1 20 0) - 1, s1)) else (some ((-4), st)))))
set_option maxHeartbeats 4000000 in
set_option maxRecDepth 100000 in
theorem X6_house_m (l : Launch) {G : GD} (hj : zInj sC G) {st : PS} {l1 l2 l3 : Int} {r : (Int × PS)} (hr : X6_house st l1 l2 l3 = some r) : zM l sC G yX6_house cX6_house 4 (some .int) 2 [.ref (G.2.2.1 0), .int (oI l1), .int (oI l2), .int (oI l3)] st (some (.int (oI r.1))) r.2 :=
  zEnter (f := fI) hr hj (by decide) rfl (lv := [(0, .ref (G.2.2.1 0)), (1, .int (oI l1)), (2, .int (oI l2)), (3, .int (oI l3))]) rfl (Nat.le_of_ble_eq_true rfl) (fun X _ hN C => by
    unfold X6_house
    refine j_iload_n (pc := 0) C dX6_house_0 rfl 1 rfl ?_
    refine j_callS1 (pc := 1) C (X6_isKind_m _ hj rfl) kS_X6_69 rfl (by omega) rfl (Nat.le_of_ble_eq_true rfl) dX6_house_1 ?_
    refine j_if_ne (pc := 4) (tgt := 9) C dX6_house_4 rfl ?_ ?_
    · refine j_iconst (pc := 7) C dX6_house_7 ?_
      exact j_ireturn C rfl rfl rfl rfl dX6_house_8
    · refine j_iload_n (pc := 9) C dX6_house_9 rfl 2 rfl ?_
      refine j_callS1 (pc := 10) C (X6_isV_m _ hj rfl) kS_X6_73 rfl (by omega) rfl (Nat.le_of_ble_eq_true rfl) dX6_house_10 ?_
      refine j_if_eq (pc := 13) (tgt := 23) C dX6_house_13 rfl ?_ ?_
      · refine j_bipush (pc := 23) C dX6_house_23 (by decide) ?_
        exact j_ireturn C rfl rfl rfl rfl dX6_house_25
      · refine j_iload_n (pc := 16) C dX6_house_16 rfl 3 rfl ?_
        refine j_callS1 (pc := 17) C (X6_isEarned_m _ hj rfl) kS_X6_76 rfl (by omega) rfl (Nat.le_of_ble_eq_true rfl) dX6_house_17 ?_
        refine j_if_ne (pc := 20) (tgt := 26) C dX6_house_20 rfl ?_ ?_
        · refine j_bipush (pc := 23) C dX6_house_23 (by decide) ?_
          exact j_ireturn C rfl rfl rfl rfl dX6_house_25
        · refine j_aload_n (pc := 26) C dX6_house_26 rfl 0 rfl ?_
          refine gf_X6_12 (pc := 27) C dX6_house_27 ?_
          refine gf_X6_79 (pc := 30) C is20 dX6_house_30 ?_
          refine j_bipush (pc := 33) C dX6_house_33 (by decide) ?_
          refine j_icmp_lt (pc := 35) (tgt := 41) C dX6_house_35 rfl ?_ ?_
          · refine j_aload_n (pc := 41) C dX6_house_41 rfl 0 rfl ?_
            refine gf_X6_12 (pc := 42) C dX6_house_42 ?_
            refine j_aload_n (pc := 45) C dX6_house_45 rfl 0 rfl ?_
            refine gf_X6_12 (pc := 46) C dX6_house_46 ?_
            refine gf_X6_79 (pc := 49) C is20 dX6_house_49 ?_
            refine j_iload_n (pc := 52) C dX6_house_52 rfl 1 rfl ?_
            refine j_iload_n (pc := 53) C dX6_house_53 rfl 2 rfl ?_
            refine j_iload_n (pc := 54) C dX6_house_54 rfl 3 rfl ?_
            refine j_bI (fun s1 es1 => ?_)
            refine j_callV0 (pc := 55) C (obX5 is20) rfl rfl (X5_insert_m _ hj is20 es1) kV_X6_83 rfl (by omega) rfl (Nat.le_of_ble_eq_true rfl) dX6_house_55 ?_
            refine j_aload_n (pc := 58) C dX6_house_58 rfl 0 rfl ?_
            refine gf_X6_12 (pc := 59) C dX6_house_59 ?_
            refine gf_X6_79 (pc := 62) C is20 dX6_house_62 ?_
            refine j_iconst (pc := 65) C dX6_house_65 ?_
            refine j_isub (pc := 66) C dX6_house_66 ?_
            exact j_ireturn C rfl rfl rfl rfl dX6_house_67
          · refine j_bipush (pc := 38) C dX6_house_38 (by decide) ?_
            exact j_ireturn C rfl rfl rfl rfl dX6_house_40)
def X6_isHouse (st : PS) (l1 : Int) : Int := if wI l1 < 0 then 0 else (if wI (st 20 0) ≤ wI l1 then 0 else (1))
set_option maxHeartbeats 4000000 in
set_option maxRecDepth 100000 in
theorem X6_isHouse_m (l : Launch) {G : GD} (hj : zInj sC G) {st : PS} {l1 : Int} {r : Int} (hr : X6_isHouse st l1 = r) : zM l sC G yX6_isHouse cX6_isHouse 2 (some .boolean) 0 [.ref (G.2.2.1 0), .int (oI l1)] st (some (.int (oI r))) st :=
  zEnter (f := fR st) (o := some (X6_isHouse st l1)) (by rw [hr]) hj (by decide) rfl (lv := [(0, .ref (G.2.2.1 0)), (1, .int (oI l1))]) rfl (Nat.le_of_ble_eq_true rfl) (fun X _ hN C => by
    simp only [X6_isHouse, zsome_ite]
    refine j_iload_n (pc := 0) C dX6_isHouse_0 rfl 1 rfl ?_
    refine j_if_lt (pc := 1) (tgt := 19) C dX6_isHouse_1 rfl ?_ ?_
    · refine j_iconst (pc := 19) C dX6_isHouse_19 ?_
      exact j_ireturn C rfl rfl (znar (Or.inl rfl)) rfl dX6_isHouse_20
    · refine j_iload_n (pc := 4) C dX6_isHouse_4 rfl 1 rfl ?_
      refine j_aload_n (pc := 5) C dX6_isHouse_5 rfl 0 rfl ?_
      refine gf_X6_12 (pc := 6) C dX6_isHouse_6 ?_
      refine gf_X6_79 (pc := 9) C is20 dX6_isHouse_9 ?_
      refine j_icmp_ge (pc := 12) (tgt := 19) C dX6_isHouse_12 rfl ?_ ?_
      · refine j_iconst (pc := 19) C dX6_isHouse_19 ?_
        exact j_ireturn C rfl rfl (znar (Or.inl rfl)) rfl dX6_isHouse_20
      · refine j_iconst (pc := 15) C dX6_isHouse_15 ?_
        refine j_goto (pc := 16) (tgt := 20) C dX6_isHouse_16 rfl ?_
        exact j_ireturn C rfl rfl (znar (Or.inr rfl)) rfl dX6_isHouse_20)
theorem X6_isHouse_bit {st : PS} {l1 : Int} : X6_isHouse st l1 = 0 ∨ X6_isHouse st l1 = 1 := by
  unfold X6_isHouse
  first | exact Or.inl rfl | (repeat' split) <;> first | exact Or.inl rfl | exact Or.inr rfl
def X6_of (st : PS) (l1 l2 : Int) : Option (Int × PS) := if wI (X6_isHouse st l1) = 0 then some ((-1), st) else (if wI l2 = 0 then bI (zrd st (20 + 3) 7 l1) (fun v1 => some (v1, st)) else (if wI l2 = 1 then bI (zrd st (20 + 4) 7 l1) (fun v2 => some (v2, st)) else (if wI l2 = 2 then bI (zrd st (20 + 5) 7 l1) (fun v3 => some (v3, st)) else (if wI l2 = 3 then bI (X5_sayByKind 20 st) (fun s1 => bI (zrd s1 (20 + 7) 7 l1) (fun v4 => some (v4, s1))) else (if wI l2 = 4 then bI (X5_sayByKind 20 st) (fun s2 => bI (X5_reckon 20 s2) (fun s3 => bI (zrd s3 (20 + 8) 7 l1) (fun v5 => some (v5, s3)))) else (some ((-1), st)))))))
set_option maxHeartbeats 4000000 in
set_option maxRecDepth 100000 in
theorem X6_of_m (l : Launch) {G : GD} (hj : zInj sC G) {st : PS} {l1 l2 : Int} {r : (Int × PS)} (hr : X6_of st l1 l2 = some r) : zM l sC G yX6_of cX6_of 3 (some .int) 5 [.ref (G.2.2.1 0), .int (oI l1), .int (oI l2)] st (some (.int (oI r.1))) r.2 :=
  zEnter (f := fI) hr hj (by decide) rfl (lv := [(0, .ref (G.2.2.1 0)), (1, .int (oI l1)), (2, .int (oI l2))]) rfl (Nat.le_of_ble_eq_true rfl) (fun X _ hN C => by
    unfold X6_of
    refine j_aload_n (pc := 0) C dX6_of_0 rfl 0 rfl ?_
    refine j_iload_n (pc := 1) C dX6_of_1 rfl 1 rfl ?_
    refine j_callV1 (pc := 2) C obX6 rfl rfl (X6_isHouse_m _ hj rfl) kV_X6_87 rfl (by omega) rfl (Nat.le_of_ble_eq_true rfl) dX6_of_2 ?_
    refine j_if_ne (pc := 5) (tgt := 10) C dX6_of_5 rfl ?_ ?_
    · refine j_iconst (pc := 8) C dX6_of_8 ?_
      exact j_ireturn C rfl rfl rfl rfl dX6_of_9
    · refine j_iload_n (pc := 10) C dX6_of_10 rfl 2 rfl ?_
      refine j_if (fun hc => ?_) (fun hn0 => ?_)
      · refine j_tabIn (pc := 11) (tgt := 44) C dX6_of_11 hc (by decide) (by decide) rfl rfl ?_
        refine j_aload_n (pc := 44) C dX6_of_44 rfl 0 rfl ?_
        refine gf_X6_12 (pc := 45) C dX6_of_45 ?_
        refine gf_X6_90 (pc := 48) C is20 dX6_of_48 ?_
        refine j_iload_n (pc := 51) C dX6_of_51 rfl 1 rfl ?_
        refine j_bI (fun v1 ev1 => ?_)
        refine j_iald (pc := 52) C (arX5_3 is20) ev1 dX6_of_52 ?_
        exact j_ireturn C rfl rfl rfl rfl dX6_of_53
      · refine j_if (fun hc => ?_) (fun hn1 => ?_)
        · refine j_tabIn (pc := 11) (tgt := 54) C dX6_of_11 hc (by decide) (by decide) rfl rfl ?_
          refine j_aload_n (pc := 54) C dX6_of_54 rfl 0 rfl ?_
          refine gf_X6_12 (pc := 55) C dX6_of_55 ?_
          refine gf_X6_93 (pc := 58) C is20 dX6_of_58 ?_
          refine j_iload_n (pc := 61) C dX6_of_61 rfl 1 rfl ?_
          refine j_bI (fun v2 ev2 => ?_)
          refine j_iald (pc := 62) C (arX5_4 is20) ev2 dX6_of_62 ?_
          exact j_ireturn C rfl rfl rfl rfl dX6_of_63
        · refine j_if (fun hc => ?_) (fun hn2 => ?_)
          · refine j_tabIn (pc := 11) (tgt := 64) C dX6_of_11 hc (by decide) (by decide) rfl rfl ?_
            refine j_aload_n (pc := 64) C dX6_of_64 rfl 0 rfl ?_
            refine gf_X6_12 (pc := 65) C dX6_of_65 ?_
            refine gf_X6_96 (pc := 68) C is20 dX6_of_68 ?_
            refine j_iload_n (pc := 71) C dX6_of_71 rfl 1 rfl ?_
            refine j_bI (fun v3 ev3 => ?_)
            refine j_iald (pc := 72) C (arX5_5 is20) ev3 dX6_of_72 ?_
            exact j_ireturn C rfl rfl rfl rfl dX6_of_73
          · refine j_if (fun hc => ?_) (fun hn3 => ?_)
            · refine j_tabIn (pc := 11) (tgt := 74) C dX6_of_11 hc (by decide) (by decide) rfl rfl ?_
              refine j_aload_n (pc := 74) C dX6_of_74 rfl 0 rfl ?_
              refine gf_X6_12 (pc := 75) C dX6_of_75 ?_
              refine j_bI (fun s1 es1 => ?_)
              refine j_callV0 (pc := 78) C (obX5 is20) rfl rfl (X5_sayByKind_m _ hj is20 es1) kV_X6_99 rfl (by omega) rfl (Nat.le_of_ble_eq_true rfl) dX6_of_78 ?_
              refine j_aload_n (pc := 81) C dX6_of_81 rfl 0 rfl ?_
              refine gf_X6_12 (pc := 82) C dX6_of_82 ?_
              refine gf_X6_102 (pc := 85) C is20 dX6_of_85 ?_
              refine j_iload_n (pc := 88) C dX6_of_88 rfl 1 rfl ?_
              refine j_bI (fun v4 ev4 => ?_)
              refine j_iald (pc := 89) C (arX5_7 is20) ev4 dX6_of_89 ?_
              exact j_ireturn C rfl rfl rfl rfl dX6_of_90
            · refine j_if (fun hc => ?_) (fun hn4 => ?_)
              · refine j_tabIn (pc := 11) (tgt := 91) C dX6_of_11 hc (by decide) (by decide) rfl rfl ?_
                refine j_aload_n (pc := 91) C dX6_of_91 rfl 0 rfl ?_
                refine gf_X6_12 (pc := 92) C dX6_of_92 ?_
                refine j_bI (fun s2 es2 => ?_)
                refine j_callV0 (pc := 95) C (obX5 is20) rfl rfl (X5_sayByKind_m _ hj is20 es2) kV_X6_99 rfl (by omega) rfl (Nat.le_of_ble_eq_true rfl) dX6_of_95 ?_
                refine j_aload_n (pc := 98) C dX6_of_98 rfl 0 rfl ?_
                refine gf_X6_12 (pc := 99) C dX6_of_99 ?_
                refine j_bI (fun s3 es3 => ?_)
                refine j_callV0 (pc := 102) C (obX5 is20) rfl rfl (X5_reckon_m _ hj is20 es3) kV_X6_105 rfl (by omega) rfl (Nat.le_of_ble_eq_true rfl) dX6_of_102 ?_
                refine j_aload_n (pc := 105) C dX6_of_105 rfl 0 rfl ?_
                refine gf_X6_12 (pc := 106) C dX6_of_106 ?_
                refine gf_X6_108 (pc := 109) C is20 dX6_of_109 ?_
                refine j_iload_n (pc := 112) C dX6_of_112 rfl 1 rfl ?_
                refine j_bI (fun v5 ev5 => ?_)
                refine j_iald (pc := 113) C (arX5_8 is20) ev5 dX6_of_113 ?_
                exact j_ireturn C rfl rfl rfl rfl dX6_of_114
              · refine j_tabOut (pc := 11) (tgt := 115) C dX6_of_11 (by omega) rfl ?_
                refine j_iconst (pc := 115) C dX6_of_115 ?_
                exact j_ireturn C rfl rfl rfl rfl dX6_of_116)
def X6_earn (st : PS) (l1 l2 : Int) : Option (Int × PS) := if wI (X6_isHouse st l1) = 0 then some ((-1), st) else (if wI (X6_isEarned st l2) = 0 then some ((-2), st) else (bI (zrd st (20 + 5) 7 l1) (fun v1 => bI (zwr st (20 + 5) 7 l1 l2) (fun s1 => some (v1, s1)))))
set_option maxHeartbeats 4000000 in
set_option maxRecDepth 100000 in
theorem X6_earn_m (l : Launch) {G : GD} (hj : zInj sC G) {st : PS} {l1 l2 : Int} {r : (Int × PS)} (hr : X6_earn st l1 l2 = some r) : zM l sC G yX6_earn cX6_earn 4 (some .int) 1 [.ref (G.2.2.1 0), .int (oI l1), .int (oI l2)] st (some (.int (oI r.1))) r.2 :=
  zEnter (f := fI) hr hj (by decide) rfl (lv := [(0, .ref (G.2.2.1 0)), (1, .int (oI l1)), (2, .int (oI l2))]) rfl (Nat.le_of_ble_eq_true rfl) (fun X _ hN C => by
    unfold X6_earn
    refine j_aload_n (pc := 0) C dX6_earn_0 rfl 0 rfl ?_
    refine j_iload_n (pc := 1) C dX6_earn_1 rfl 1 rfl ?_
    refine j_callV1 (pc := 2) C obX6 rfl rfl (X6_isHouse_m _ hj rfl) kV_X6_87 rfl (by omega) rfl (Nat.le_of_ble_eq_true rfl) dX6_earn_2 ?_
    refine j_if_ne (pc := 5) (tgt := 10) C dX6_earn_5 rfl ?_ ?_
    · refine j_iconst (pc := 8) C dX6_earn_8 ?_
      exact j_ireturn C rfl rfl rfl rfl dX6_earn_9
    · refine j_iload_n (pc := 10) C dX6_earn_10 rfl 2 rfl ?_
      refine j_callS1 (pc := 11) C (X6_isEarned_m _ hj rfl) kS_X6_76 rfl (by omega) rfl (Nat.le_of_ble_eq_true rfl) dX6_earn_11 ?_
      refine j_if_ne (pc := 14) (tgt := 20) C dX6_earn_14 rfl ?_ ?_
      · refine j_bipush (pc := 17) C dX6_earn_17 (by decide) ?_
        exact j_ireturn C rfl rfl rfl rfl dX6_earn_19
      · refine j_aload_n (pc := 20) C dX6_earn_20 rfl 0 rfl ?_
        refine gf_X6_12 (pc := 21) C dX6_earn_21 ?_
        refine gf_X6_96 (pc := 24) C is20 dX6_earn_24 ?_
        refine j_iload_n (pc := 27) C dX6_earn_27 rfl 1 rfl ?_
        refine j_bI (fun v1 ev1 => ?_)
        refine j_iald (pc := 28) C (arX5_5 is20) ev1 dX6_earn_28 ?_
        refine j_istore_n (pc := 29) C hN dX6_earn_29 rfl (by decide) (lv' := [(3, .int (oI v1)), (0, .ref (G.2.2.1 0)), (1, .int (oI l1)), (2, .int (oI l2))]) rfl ?_
        refine j_aload_n (pc := 30) C dX6_earn_30 rfl 1 rfl ?_
        refine gf_X6_12 (pc := 31) C dX6_earn_31 ?_
        refine gf_X6_96 (pc := 34) C is20 dX6_earn_34 ?_
        refine j_iload_n (pc := 37) C dX6_earn_37 rfl 2 rfl ?_
        refine j_iload_n (pc := 38) C dX6_earn_38 rfl 3 rfl ?_
        refine j_bI (fun s1 es1 => ?_)
        refine j_iast (pc := 39) C (arX5_5 is20) es1 dX6_earn_39 ?_
        refine j_iload_n (pc := 40) C dX6_earn_40 rfl 0 rfl ?_
        exact j_ireturn C rfl rfl rfl rfl dX6_earn_41)
def X6_row (st : PS) (l1 l2 l3 : Int) : Option (Int × PS) := if wI (X6_isHouse st l1) = 0 then some ((-1), st) else (if wI l2 < 0 then some ((-1), st) else (if wI l2 < wI 4 then if wI l3 < 0 then some ((-2), st) else (if wI l3 < wI 5 then bI (zrd st (20 + 3) 7 l1) (fun v1 => if wI v1 = wI 6 then bI (zrd st (20 + 6) 28 ((l1 * 4) + l2)) (fun v2 => bI (zwr st (20 + 6) 28 ((l1 * 4) + l2) l3) (fun s1 => some (v2, s1))) else (some ((-3), st))) else (some ((-2), st))) else (some ((-1), st))))
set_option maxHeartbeats 4000000 in
set_option maxRecDepth 100000 in
theorem X6_row_m (l : Launch) {G : GD} (hj : zInj sC G) {st : PS} {l1 l2 l3 : Int} {r : (Int × PS)} (hr : X6_row st l1 l2 l3 = some r) : zM l sC G yX6_row cX6_row 5 (some .int) 1 [.ref (G.2.2.1 0), .int (oI l1), .int (oI l2), .int (oI l3)] st (some (.int (oI r.1))) r.2 :=
  zEnter (f := fI) hr hj (by decide) rfl (lv := [(0, .ref (G.2.2.1 0)), (1, .int (oI l1)), (2, .int (oI l2)), (3, .int (oI l3))]) rfl (Nat.le_of_ble_eq_true rfl) (fun X _ hN C => by
    unfold X6_row
    refine j_aload_n (pc := 0) C dX6_row_0 rfl 0 rfl ?_
    refine j_iload_n (pc := 1) C dX6_row_1 rfl 1 rfl ?_
    refine j_callV1 (pc := 2) C obX6 rfl rfl (X6_isHouse_m _ hj rfl) kV_X6_87 rfl (by omega) rfl (Nat.le_of_ble_eq_true rfl) dX6_row_2 ?_
    refine j_if_eq (pc := 5) (tgt := 17) C dX6_row_5 rfl ?_ ?_
    · refine j_iconst (pc := 17) C dX6_row_17 ?_
      exact j_ireturn C rfl rfl rfl rfl dX6_row_18
    · refine j_iload_n (pc := 8) C dX6_row_8 rfl 2 rfl ?_
      refine j_if_lt (pc := 9) (tgt := 17) C dX6_row_9 rfl ?_ ?_
      · refine j_iconst (pc := 17) C dX6_row_17 ?_
        exact j_ireturn C rfl rfl rfl rfl dX6_row_18
      · refine j_iload_n (pc := 12) C dX6_row_12 rfl 2 rfl ?_
        refine j_iconst (pc := 13) C dX6_row_13 ?_
        refine j_icmp_lt (pc := 14) (tgt := 19) C dX6_row_14 rfl ?_ ?_
        · refine j_iload_n (pc := 19) C dX6_row_19 rfl 3 rfl ?_
          refine j_if_lt (pc := 20) (tgt := 28) C dX6_row_20 rfl ?_ ?_
          · refine j_bipush (pc := 28) C dX6_row_28 (by decide) ?_
            exact j_ireturn C rfl rfl rfl rfl dX6_row_30
          · refine j_iload_n (pc := 23) C dX6_row_23 rfl 3 rfl ?_
            refine j_iconst (pc := 24) C dX6_row_24 ?_
            refine j_icmp_lt (pc := 25) (tgt := 31) C dX6_row_25 rfl ?_ ?_
            · refine j_aload_n (pc := 31) C dX6_row_31 rfl 0 rfl ?_
              refine gf_X6_12 (pc := 32) C dX6_row_32 ?_
              refine gf_X6_90 (pc := 35) C is20 dX6_row_35 ?_
              refine j_iload_n (pc := 38) C dX6_row_38 rfl 1 rfl ?_
              refine j_bI (fun v1 ev1 => ?_)
              refine j_iald (pc := 39) C (arX5_3 is20) ev1 dX6_row_39 ?_
              refine j_bipush (pc := 40) C dX6_row_40 (by decide) ?_
              refine j_icmp_eq (pc := 42) (tgt := 48) C dX6_row_42 rfl ?_ ?_
              · refine j_aload_n (pc := 48) C dX6_row_48 rfl 0 rfl ?_
                refine gf_X6_12 (pc := 49) C dX6_row_49 ?_
                refine gf_X6_111 (pc := 52) C is20 dX6_row_52 ?_
                refine j_iload_n (pc := 55) C dX6_row_55 rfl 1 rfl ?_
                refine j_iconst (pc := 56) C dX6_row_56 ?_
                refine j_imul (pc := 57) C dX6_row_57 ?_
                refine j_iload_n (pc := 58) C dX6_row_58 rfl 2 rfl ?_
                refine j_iadd (pc := 59) C dX6_row_59 ?_
                refine j_bI (fun v2 ev2 => ?_)
                refine j_iald (pc := 60) C (arX5_6 is20) ev2 dX6_row_60 ?_
                refine j_istore (pc := 61) C hN dX6_row_61 (by decide) (lv' := [(4, .int (oI v2)), (0, .ref (G.2.2.1 0)), (1, .int (oI l1)), (2, .int (oI l2)), (3, .int (oI l3))]) rfl ?_
                refine j_aload_n (pc := 63) C dX6_row_63 rfl 1 rfl ?_
                refine gf_X6_12 (pc := 64) C dX6_row_64 ?_
                refine gf_X6_111 (pc := 67) C is20 dX6_row_67 ?_
                refine j_iload_n (pc := 70) C dX6_row_70 rfl 2 rfl ?_
                refine j_iconst (pc := 71) C dX6_row_71 ?_
                refine j_imul (pc := 72) C dX6_row_72 ?_
                refine j_iload_n (pc := 73) C dX6_row_73 rfl 3 rfl ?_
                refine j_iadd (pc := 74) C dX6_row_74 ?_
                refine j_iload_n (pc := 75) C dX6_row_75 rfl 4 rfl ?_
                refine j_bI (fun s1 es1 => ?_)
                refine j_iast (pc := 76) C (arX5_6 is20) es1 dX6_row_76 ?_
                refine j_iload (pc := 77) C dX6_row_77 0 rfl ?_
                exact j_ireturn C rfl rfl rfl rfl dX6_row_79
              · refine j_bipush (pc := 45) C dX6_row_45 (by decide) ?_
                exact j_ireturn C rfl rfl rfl rfl dX6_row_47
            · refine j_bipush (pc := 28) C dX6_row_28 (by decide) ?_
              exact j_ireturn C rfl rfl rfl rfl dX6_row_30
        · refine j_iconst (pc := 17) C dX6_row_17 ?_
          exact j_ireturn C rfl rfl rfl rfl dX6_row_18)
def X6_feed (st : PS) (l1 : Int) : Option (Int × PS) := if wI l1 < 0 then some ((-2), st) else (if wI l1 ≤ wI 127 then bP (X3_addSign st l1) (fun v1 s1 => some (v1, s1)) else (some ((-2), st)))
set_option maxHeartbeats 4000000 in
set_option maxRecDepth 100000 in
theorem X6_feed_m (l : Launch) {G : GD} (hj : zInj sC G) {st : PS} {l1 : Int} {r : (Int × PS)} (hr : X6_feed st l1 = some r) : zM l sC G yX6_feed cX6_feed 2 (some .int) 1 [.ref (G.2.2.1 0), .int (oI l1)] st (some (.int (oI r.1))) r.2 :=
  zEnter (f := fI) hr hj (by decide) rfl (lv := [(0, .ref (G.2.2.1 0)), (1, .int (oI l1))]) rfl (Nat.le_of_ble_eq_true rfl) (fun X _ hN C => by
    unfold X6_feed
    refine j_iload_n (pc := 0) C dX6_feed_0 rfl 1 rfl ?_
    refine j_if_lt (pc := 1) (tgt := 10) C dX6_feed_1 rfl ?_ ?_
    · refine j_bipush (pc := 10) C dX6_feed_10 (by decide) ?_
      exact j_ireturn C rfl rfl rfl rfl dX6_feed_12
    · refine j_iload_n (pc := 4) C dX6_feed_4 rfl 1 rfl ?_
      refine j_bipush (pc := 5) C dX6_feed_5 (by decide) ?_
      refine j_icmp_le (pc := 7) (tgt := 13) C dX6_feed_7 rfl ?_ ?_
      · refine j_aload_n (pc := 13) C dX6_feed_13 rfl 0 rfl ?_
        refine gf_X6_37 (pc := 14) C dX6_feed_14 ?_
        refine j_iload_n (pc := 17) C dX6_feed_17 rfl 1 rfl ?_
        refine j_bP (fun v1 s1 es1 => ?_)
        refine j_callV1 (pc := 18) C obX3 rfl rfl (X3_addSign_m _ hj es1) kV_X6_114 rfl (by omega) rfl (Nat.le_of_ble_eq_true rfl) dX6_feed_18 ?_
        exact j_ireturn C rfl rfl rfl rfl dX6_feed_21
      · refine j_bipush (pc := 10) C dX6_feed_10 (by decide) ?_
        exact j_ireturn C rfl rfl rfl rfl dX6_feed_12)
def X6_told (st : PS) (l1 : Int) : Option Int := if wI l1 = 0 then some (st 20 1) else (if wI l1 = 1 then bI (X5_isRing 20 st) (fun v1 => if wI v1 = 0 then some 0 else (some 1)) else (if wI l1 = 2 then bI (X5_total 20 st) (fun v2 => some v2) else (some (-1))))
set_option maxHeartbeats 4000000 in
set_option maxRecDepth 100000 in
theorem X6_told_m (l : Launch) {G : GD} (hj : zInj sC G) {st : PS} {l1 : Int} {r : Int} (hr : X6_told st l1 = some r) : zM l sC G yX6_told cX6_told 2 (some .int) 1 [.ref (G.2.2.1 0), .int (oI l1)] st (some (.int (oI r))) st :=
  zEnter (f := fR st) hr hj (by decide) rfl (lv := [(0, .ref (G.2.2.1 0)), (1, .int (oI l1))]) rfl (Nat.le_of_ble_eq_true rfl) (fun X _ hN C => by
    unfold X6_told
    refine j_iload_n (pc := 0) C dX6_told_0 rfl 1 rfl ?_
    refine j_if (fun hc => ?_) (fun hn0 => ?_)
    · refine j_tabIn (pc := 1) (tgt := 28) C dX6_told_1 hc (by decide) (by decide) rfl rfl ?_
      refine j_aload_n (pc := 28) C dX6_told_28 rfl 0 rfl ?_
      refine gf_X6_12 (pc := 29) C dX6_told_29 ?_
      refine gf_X6_137 (pc := 32) C is20 dX6_told_32 ?_
      exact j_ireturn C rfl rfl rfl rfl dX6_told_35
    · refine j_if (fun hc => ?_) (fun hn1 => ?_)
      · refine j_tabIn (pc := 1) (tgt := 36) C dX6_told_1 hc (by decide) (by decide) rfl rfl ?_
        refine j_aload_n (pc := 36) C dX6_told_36 rfl 0 rfl ?_
        refine gf_X6_12 (pc := 37) C dX6_told_37 ?_
        refine j_bI (fun v1 ev1 => ?_)
        refine j_callV1 (pc := 40) C (obX5 is20) rfl rfl (X5_isRing_m _ hj is20 ev1) kV_X6_140 rfl (by omega) rfl (Nat.le_of_ble_eq_true rfl) dX6_told_40 ?_
        refine j_if_eq (pc := 43) (tgt := 50) C dX6_told_43 rfl ?_ ?_
        · refine j_iconst (pc := 50) C dX6_told_50 ?_
          exact j_ireturn C rfl rfl rfl rfl dX6_told_51
        · refine j_iconst (pc := 46) C dX6_told_46 ?_
          refine j_goto (pc := 47) (tgt := 51) C dX6_told_47 rfl ?_
          exact j_ireturn C rfl rfl rfl rfl dX6_told_51
      · refine j_if (fun hc => ?_) (fun hn2 => ?_)
        · refine j_tabIn (pc := 1) (tgt := 52) C dX6_told_1 hc (by decide) (by decide) rfl rfl ?_
          refine j_aload_n (pc := 52) C dX6_told_52 rfl 0 rfl ?_
          refine gf_X6_12 (pc := 53) C dX6_told_53 ?_
          refine j_bI (fun v2 ev2 => ?_)
          refine j_callV1 (pc := 56) C (obX5 is20) rfl rfl (X5_total_m _ hj is20 ev2) kV_X6_144 rfl (by omega) rfl (Nat.le_of_ble_eq_true rfl) dX6_told_56 ?_
          exact j_ireturn C rfl rfl rfl rfl dX6_told_59
        · refine j_tabOut (pc := 1) (tgt := 60) C dX6_told_1 (by omega) rfl ?_
          refine j_iconst (pc := 60) C dX6_told_60 ?_
          exact j_ireturn C rfl rfl rfl rfl dX6_told_61)
def X6_year (st : PS) : Option (Int × PS) := if wI (st 20 1) < wI 999 then bI (X5_go 20 st 1) (fun s1 => some (s1 20 1, s1)) else (some ((-3), st))
set_option maxHeartbeats 4000000 in
set_option maxRecDepth 100000 in
theorem X6_year_m (l : Launch) {G : GD} (hj : zInj sC G) {st : PS} {r : (Int × PS)} (hr : X6_year st = some r) : zM l sC G yX6_year cX6_year 1 (some .int) 6 [.ref (G.2.2.1 0)] st (some (.int (oI r.1))) r.2 :=
  zEnter (f := fI) hr hj (by decide) rfl (lv := [(0, .ref (G.2.2.1 0))]) rfl (Nat.le_of_ble_eq_true rfl) (fun X _ hN C => by
    unfold X6_year
    refine j_aload_n (pc := 0) C dX6_year_0 rfl 0 rfl ?_
    refine gf_X6_12 (pc := 1) C dX6_year_1 ?_
    refine gf_X6_137 (pc := 4) C is20 dX6_year_4 ?_
    refine j_sipush (pc := 7) C dX6_year_7 (by decide) ?_
    refine j_icmp_lt (pc := 10) (tgt := 16) C dX6_year_10 rfl ?_ ?_
    · refine j_aload_n (pc := 16) C dX6_year_16 rfl 0 rfl ?_
      refine gf_X6_12 (pc := 17) C dX6_year_17 ?_
      refine j_iconst (pc := 20) C dX6_year_20 ?_
      refine j_bI (fun s1 es1 => ?_)
      refine j_callV0 (pc := 21) C (obX5 is20) rfl rfl (X5_go_m _ hj is20 es1) kV_X6_147 rfl (by omega) rfl (Nat.le_of_ble_eq_true rfl) dX6_year_21 ?_
      refine j_aload_n (pc := 24) C dX6_year_24 rfl 0 rfl ?_
      refine gf_X6_12 (pc := 25) C dX6_year_25 ?_
      refine gf_X6_137 (pc := 28) C is20 dX6_year_28 ?_
      exact j_ireturn C rfl rfl rfl rfl dX6_year_31
    · refine j_bipush (pc := 13) C dX6_year_13 (by decide) ?_
      exact j_ireturn C rfl rfl rfl rfl dX6_year_15)
def X6_at (st : PS) (l1 l2 : Int) : Option (Int × PS) := if wI (X6_isHouse st l2) = 0 then if wI l2 = wI 10 then if wI l1 < 0 then some ((-2), st) else (if wI l1 ≤ wI 60 then bI (X5_takeFrom 40 20 st) (fun s1 => bI (X5_go 40 s1 l1) (fun s2 => if wI (X6_isHouse st l2) = 0 then bI (X5_total 40 s2) (fun v1 => some (v1, s2)) else (bI (zrd s2 (40 + 5) 7 l2) (fun v2 => some (v2, s2))))) else (some ((-2), st))) else (some ((-1), st)) else (if wI l1 < 0 then some ((-2), st) else (if wI l1 ≤ wI 60 then bI (X5_takeFrom 40 20 st) (fun s3 => bI (X5_go 40 s3 l1) (fun s4 => if wI (X6_isHouse st l2) = 0 then bI (X5_total 40 s4) (fun v3 => some (v3, s4)) else (bI (zrd s4 (40 + 5) 7 l2) (fun v4 => some (v4, s4))))) else (some ((-2), st))))
set_option maxHeartbeats 4000000 in
set_option maxRecDepth 100000 in
theorem X6_at_m (l : Launch) {G : GD} (hj : zInj sC G) {st : PS} {l1 l2 : Int} {r : (Int × PS)} (hr : X6_at st l1 l2 = some r) : zM l sC G yX6_at cX6_at 4 (some .int) 6 [.ref (G.2.2.1 0), .int (oI l1), .int (oI l2)] st (some (.int (oI r.1))) r.2 :=
  zEnter (f := fI) hr hj (by decide) rfl (lv := [(0, .ref (G.2.2.1 0)), (1, .int (oI l1)), (2, .int (oI l2))]) rfl (Nat.le_of_ble_eq_true rfl) (fun X _ hN C => by
    unfold X6_at
    refine j_aload_n (pc := 0) C dX6_at_0 rfl 0 rfl ?_
    refine j_iload_n (pc := 1) C dX6_at_1 rfl 2 rfl ?_
    refine j_callV1 (pc := 2) C obX6 rfl rfl (X6_isHouse_m _ hj rfl) kV_X6_87 rfl (by omega) rfl (Nat.le_of_ble_eq_true rfl) dX6_at_2 ?_
    refine j_istore_n (pc := 5) C hN dX6_at_5 rfl (by decide) (lv' := [(3, .int (oI (X6_isHouse st l2))), (0, .ref (G.2.2.1 0)), (1, .int (oI l1)), (2, .int (oI l2))]) rfl ?_
    refine j_iload_n (pc := 6) C dX6_at_6 rfl 0 rfl ?_
    refine j_if_ne (pc := 7) (tgt := 18) C dX6_at_7 rfl ?_ ?_
    · refine j_iload_n (pc := 10) C dX6_at_10 rfl 3 rfl ?_
      refine j_bipush (pc := 11) C dX6_at_11 (by decide) ?_
      refine j_icmp_eq (pc := 13) (tgt := 18) C dX6_at_13 rfl ?_ ?_
      · refine j_iload_n (pc := 18) C dX6_at_18 rfl 2 rfl ?_
        refine j_if_lt (pc := 19) (tgt := 28) C dX6_at_19 rfl ?_ ?_
        · refine j_bipush (pc := 28) C dX6_at_28 (by decide) ?_
          exact j_ireturn C rfl rfl rfl rfl dX6_at_30
        · refine j_iload_n (pc := 22) C dX6_at_22 rfl 2 rfl ?_
          refine j_bipush (pc := 23) C dX6_at_23 (by decide) ?_
          refine j_icmp_le (pc := 25) (tgt := 31) C dX6_at_25 rfl ?_ ?_
          · refine j_aload_n (pc := 31) C dX6_at_31 rfl 1 rfl ?_
            refine gf_X6_18 (pc := 32) C dX6_at_32 ?_
            refine j_aload_n (pc := 35) C dX6_at_35 rfl 1 rfl ?_
            refine gf_X6_12 (pc := 36) C dX6_at_36 ?_
            refine j_bI (fun s1 es1 => ?_)
            refine j_callV0 (pc := 39) C (obX5 is40) rfl rfl (X5_takeFrom_m _ hj is40 is20 es1) kV_X6_151 rfl (by omega) rfl (Nat.le_of_ble_eq_true rfl) dX6_at_39 ?_
            refine j_aload_n (pc := 42) C dX6_at_42 rfl 1 rfl ?_
            refine gf_X6_18 (pc := 43) C dX6_at_43 ?_
            refine j_iload_n (pc := 46) C dX6_at_46 rfl 2 rfl ?_
            refine j_bI (fun s2 es2 => ?_)
            refine j_callV0 (pc := 47) C (obX5 is40) rfl rfl (X5_go_m _ hj is40 es2) kV_X6_147 rfl (by omega) rfl (Nat.le_of_ble_eq_true rfl) dX6_at_47 ?_
            refine j_iload_n (pc := 50) C dX6_at_50 rfl 0 rfl ?_
            refine j_if_eq (pc := 51) (tgt := 66) C dX6_at_51 rfl ?_ ?_
            · refine j_aload_n (pc := 66) C dX6_at_66 rfl 1 rfl ?_
              refine gf_X6_18 (pc := 67) C dX6_at_67 ?_
              refine j_bI (fun v1 ev1 => ?_)
              refine j_callV1 (pc := 70) C (obX5 is40) rfl rfl (X5_total_m _ hj is40 ev1) kV_X6_144 rfl (by omega) rfl (Nat.le_of_ble_eq_true rfl) dX6_at_70 ?_
              exact j_ireturn C rfl rfl rfl rfl dX6_at_73
            · refine j_aload_n (pc := 54) C dX6_at_54 rfl 1 rfl ?_
              refine gf_X6_18 (pc := 55) C dX6_at_55 ?_
              refine gf_X6_96 (pc := 58) C is40 dX6_at_58 ?_
              refine j_iload_n (pc := 61) C dX6_at_61 rfl 3 rfl ?_
              refine j_bI (fun v2 ev2 => ?_)
              refine j_iald (pc := 62) C (arX5_5 is40) ev2 dX6_at_62 ?_
              refine j_goto (pc := 63) (tgt := 73) C dX6_at_63 rfl ?_
              exact j_ireturn C rfl rfl rfl rfl dX6_at_73
          · refine j_bipush (pc := 28) C dX6_at_28 (by decide) ?_
            exact j_ireturn C rfl rfl rfl rfl dX6_at_30
      · refine j_iconst (pc := 16) C dX6_at_16 ?_
        exact j_ireturn C rfl rfl rfl rfl dX6_at_17
    · refine j_iload_n (pc := 18) C dX6_at_18 rfl 2 rfl ?_
      refine j_if_lt (pc := 19) (tgt := 28) C dX6_at_19 rfl ?_ ?_
      · refine j_bipush (pc := 28) C dX6_at_28 (by decide) ?_
        exact j_ireturn C rfl rfl rfl rfl dX6_at_30
      · refine j_iload_n (pc := 22) C dX6_at_22 rfl 2 rfl ?_
        refine j_bipush (pc := 23) C dX6_at_23 (by decide) ?_
        refine j_icmp_le (pc := 25) (tgt := 31) C dX6_at_25 rfl ?_ ?_
        · refine j_aload_n (pc := 31) C dX6_at_31 rfl 1 rfl ?_
          refine gf_X6_18 (pc := 32) C dX6_at_32 ?_
          refine j_aload_n (pc := 35) C dX6_at_35 rfl 1 rfl ?_
          refine gf_X6_12 (pc := 36) C dX6_at_36 ?_
          refine j_bI (fun s3 es3 => ?_)
          refine j_callV0 (pc := 39) C (obX5 is40) rfl rfl (X5_takeFrom_m _ hj is40 is20 es3) kV_X6_151 rfl (by omega) rfl (Nat.le_of_ble_eq_true rfl) dX6_at_39 ?_
          refine j_aload_n (pc := 42) C dX6_at_42 rfl 1 rfl ?_
          refine gf_X6_18 (pc := 43) C dX6_at_43 ?_
          refine j_iload_n (pc := 46) C dX6_at_46 rfl 2 rfl ?_
          refine j_bI (fun s4 es4 => ?_)
          refine j_callV0 (pc := 47) C (obX5 is40) rfl rfl (X5_go_m _ hj is40 es4) kV_X6_147 rfl (by omega) rfl (Nat.le_of_ble_eq_true rfl) dX6_at_47 ?_
          refine j_iload_n (pc := 50) C dX6_at_50 rfl 0 rfl ?_
          refine j_if_eq (pc := 51) (tgt := 66) C dX6_at_51 rfl ?_ ?_
          · refine j_aload_n (pc := 66) C dX6_at_66 rfl 1 rfl ?_
            refine gf_X6_18 (pc := 67) C dX6_at_67 ?_
            refine j_bI (fun v3 ev3 => ?_)
            refine j_callV1 (pc := 70) C (obX5 is40) rfl rfl (X5_total_m _ hj is40 ev3) kV_X6_144 rfl (by omega) rfl (Nat.le_of_ble_eq_true rfl) dX6_at_70 ?_
            exact j_ireturn C rfl rfl rfl rfl dX6_at_73
          · refine j_aload_n (pc := 54) C dX6_at_54 rfl 1 rfl ?_
            refine gf_X6_18 (pc := 55) C dX6_at_55 ?_
            refine gf_X6_96 (pc := 58) C is40 dX6_at_58 ?_
            refine j_iload_n (pc := 61) C dX6_at_61 rfl 3 rfl ?_
            refine j_bI (fun v4 ev4 => ?_)
            refine j_iald (pc := 62) C (arX5_5 is40) ev4 dX6_at_62 ?_
            refine j_goto (pc := 63) (tgt := 73) C dX6_at_63 rfl ?_
            exact j_ireturn C rfl rfl rfl rfl dX6_at_73
        · refine j_bipush (pc := 28) C dX6_at_28 (by decide) ?_
          exact j_ireturn C rfl rfl rfl rfl dX6_at_30)
def X6_keepLater (st : PS) : Option PS := bI (zcp st (40 + 5) 7 11 7 0 0 7) (fun s1 => some s1)
set_option maxHeartbeats 4000000 in
set_option maxRecDepth 100000 in
theorem X6_keepLater_m (l : Launch) {G : GD} (hj : zInj sC G) {st : PS} {r : PS} (hr : X6_keepLater st = some r) : zM l sC G yX6_keepLater cX6_keepLater 1 none 0 [.ref (G.2.2.1 0)] st none r :=
  zEnter (f := fV) hr hj (by decide) rfl (lv := [(0, .ref (G.2.2.1 0))]) rfl (Nat.le_of_ble_eq_true rfl) (fun X _ hN C => by
    unfold X6_keepLater
    refine j_aload_n (pc := 0) C dX6_keepLater_0 rfl 0 rfl ?_
    refine gf_X6_18 (pc := 1) C dX6_keepLater_1 ?_
    refine gf_X6_96 (pc := 4) C is40 dX6_keepLater_4 ?_
    refine j_iconst (pc := 7) C dX6_keepLater_7 ?_
    refine j_aload_n (pc := 8) C dX6_keepLater_8 rfl 0 rfl ?_
    refine gf_X6_60 (pc := 9) C dX6_keepLater_9 ?_
    refine j_iconst (pc := 12) C dX6_keepLater_12 ?_
    refine j_bipush (pc := 13) C dX6_keepLater_13 (by decide) ?_
    refine j_bI (fun s1 es1 => ?_)
    refine j_copy (pc := 15) C (arX5_5 is40) arX6_11 es1 kC_X6_253 (Nat.le_of_ble_eq_true rfl) dX6_keepLater_15 ?_
    exact j_return C rfl rfl dX6_keepLater_18)
def X6_laterOtherwise_L4  (st : PS) : Nat → Int → Int → Option Int
  | 0, _, _ => none
  | k + 1, l1, l2 => if wI (st 40 0) ≤ wI l2 then some l1 else (bI (zrd st (40 + 5) 7 l2) (fun v1 => bI (zrd st 11 7 l2) (fun v2 => if wI v1 = wI v2 then X6_laterOtherwise_L4 st k l1 (l2 + 1) else (X6_laterOtherwise_L4 st k (l1 + 1) (l2 + 1)))))
def X6_laterOtherwise (st : PS) : Option Int := X6_laterOtherwise_L4 st FU 0 0
set_option maxHeartbeats 4000000 in
set_option maxRecDepth 100000 in
theorem X6_laterOtherwise_L4_j {X : JX} {G : GD} (C : zC X sC G RX6 cX6_laterOtherwise (some .int) 0) (hN : X.2.2.2.2.2.2.2.2.2.2.2.2 = 3) (hj : zInj sC G)  {st : PS} : ∀ (k : Nat) (l1 : Int) (l2 : Int), J X (zI sC G) (zQ sC G (fR st)) st [(0, .ref (G.2.2.1 0)), (1, .int (oI l1)), (2, .int (oI l2))] 4 [] (X6_laterOtherwise_L4 st k l1 l2) := by
  intro k
  induction k with
  | zero => intro l1 l2; exact j_none
  | succ k ih =>
    intro l1 l2
    rw [X6_laterOtherwise_L4]
    refine j_iload_n (pc := 4) C dX6_laterOtherwise_4 rfl 2 rfl ?_
    refine j_aload_n (pc := 5) C dX6_laterOtherwise_5 rfl 0 rfl ?_
    refine gf_X6_18 (pc := 6) C dX6_laterOtherwise_6 ?_
    refine gf_X6_79 (pc := 9) C is40 dX6_laterOtherwise_9 ?_
    refine j_icmp_ge (pc := 12) (tgt := 42) C dX6_laterOtherwise_12 rfl ?_ ?_
    · refine j_iload_n (pc := 42) C dX6_laterOtherwise_42 rfl 1 rfl ?_
      exact j_ireturn C rfl rfl rfl rfl dX6_laterOtherwise_43
    · refine j_aload_n (pc := 15) C dX6_laterOtherwise_15 rfl 0 rfl ?_
      refine gf_X6_18 (pc := 16) C dX6_laterOtherwise_16 ?_
      refine gf_X6_96 (pc := 19) C is40 dX6_laterOtherwise_19 ?_
      refine j_iload_n (pc := 22) C dX6_laterOtherwise_22 rfl 2 rfl ?_
      refine j_bI (fun v1 ev1 => ?_)
      refine j_iald (pc := 23) C (arX5_5 is40) ev1 dX6_laterOtherwise_23 ?_
      refine j_aload_n (pc := 24) C dX6_laterOtherwise_24 rfl 0 rfl ?_
      refine gf_X6_60 (pc := 25) C dX6_laterOtherwise_25 ?_
      refine j_iload_n (pc := 28) C dX6_laterOtherwise_28 rfl 2 rfl ?_
      refine j_bI (fun v2 ev2 => ?_)
      refine j_iald (pc := 29) C arX6_11 ev2 dX6_laterOtherwise_29 ?_
      refine j_icmp_eq (pc := 30) (tgt := 36) C dX6_laterOtherwise_30 rfl ?_ ?_
      · refine j_iinc (pc := 36) C hN dX6_laterOtherwise_36 2 rfl (by decide) (lv' := [(2, .int (oI (l2 + 1))), (0, .ref (G.2.2.1 0)), (1, .int (oI l1))]) rfl ?_
        refine j_goto (pc := 39) (tgt := 4) C dX6_laterOtherwise_39 rfl ?_
        exact j_sub [1, 2, 0] rfl (ih _ _)
      · refine j_iinc (pc := 33) C hN dX6_laterOtherwise_33 1 rfl (by decide) (lv' := [(1, .int (oI (l1 + 1))), (0, .ref (G.2.2.1 0)), (2, .int (oI l2))]) rfl ?_
        refine j_iinc (pc := 36) C hN dX6_laterOtherwise_36 2 rfl (by decide) (lv' := [(2, .int (oI (l2 + 1))), (1, .int (oI (l1 + 1))), (0, .ref (G.2.2.1 0))]) rfl ?_
        refine j_goto (pc := 39) (tgt := 4) C dX6_laterOtherwise_39 rfl ?_
        exact j_sub [2, 1, 0] rfl (ih _ _)
set_option maxHeartbeats 4000000 in
set_option maxRecDepth 100000 in
theorem X6_laterOtherwise_m (l : Launch) {G : GD} (hj : zInj sC G) {st : PS} {r : Int} (hr : X6_laterOtherwise st = some r) : zM l sC G yX6_laterOtherwise cX6_laterOtherwise 3 (some .int) 0 [.ref (G.2.2.1 0)] st (some (.int (oI r))) st :=
  zEnter (f := fR st) hr hj (by decide) rfl (lv := [(0, .ref (G.2.2.1 0))]) rfl (Nat.le_of_ble_eq_true rfl) (fun X _ hN C => by
    unfold X6_laterOtherwise
    refine j_iconst (pc := 0) C dX6_laterOtherwise_0 ?_
    refine j_istore_n (pc := 1) C hN dX6_laterOtherwise_1 rfl (by decide) (lv' := [(1, .int (oI 0)), (0, .ref (G.2.2.1 0))]) rfl ?_
    refine j_iconst (pc := 2) C dX6_laterOtherwise_2 ?_
    refine j_istore_n (pc := 3) C hN dX6_laterOtherwise_3 rfl (by decide) (lv' := [(2, .int (oI 0)), (1, .int (oI 0)), (0, .ref (G.2.2.1 0))]) rfl ?_
    exact j_sub [2, 1, 0] rfl (X6_laterOtherwise_L4_j C hN hj FU _ _))
def X6_stays_L13  : Nat → PS → Int → Option (Int × PS)
  | 0, _, _ => none
  | k + 1, st, l1 => if wI 60 < wI l1 then some ((-5), st) else (bI (X6_keepLater st) (fun s2 => bI (X5_go 40 s2 1) (fun s3 => bI (X6_laterOtherwise s3) (fun v1 => if wI v1 = 0 then some (l1, s3) else (X6_stays_L13 k s3 (l1 + 1))))))
def X6_stays (st : PS) : Option (Int × PS) := bI (X5_takeFrom 40 20 st) (fun s1 => X6_stays_L13 FU s1 0)
set_option maxHeartbeats 4000000 in
set_option maxRecDepth 100000 in
theorem X6_stays_L13_j {X : JX} {G : GD} (C : zC X sC G RX6 cX6_stays (some .int) 6) (hN : X.2.2.2.2.2.2.2.2.2.2.2.2 = 2) (hj : zInj sC G)  : ∀ (k : Nat) (st : PS) (l1 : Int), J X (zI sC G) (zQ sC G fI) st [(0, .ref (G.2.2.1 0)), (1, .int (oI l1))] 13 [] (X6_stays_L13 k st l1) := by
  intro k
  induction k with
  | zero => intro st l1; exact j_none
  | succ k ih =>
    intro st l1
    rw [X6_stays_L13]
    refine j_iload_n (pc := 13) C dX6_stays_13 rfl 1 rfl ?_
    refine j_bipush (pc := 14) C dX6_stays_14 (by decide) ?_
    refine j_icmp_gt (pc := 16) (tgt := 46) C dX6_stays_16 rfl ?_ ?_
    · refine j_bipush (pc := 46) C dX6_stays_46 (by decide) ?_
      exact j_ireturn C rfl rfl rfl rfl dX6_stays_48
    · refine j_aload_n (pc := 19) C dX6_stays_19 rfl 0 rfl ?_
      refine j_bI (fun s2 es2 => ?_)
      refine j_callV0 (pc := 20) C obX6 rfl rfl (X6_keepLater_m _ hj es2) kV_X6_154 rfl (by omega) rfl (Nat.le_of_ble_eq_true rfl) dX6_stays_20 ?_
      refine j_aload_n (pc := 23) C dX6_stays_23 rfl 0 rfl ?_
      refine gf_X6_18 (pc := 24) C dX6_stays_24 ?_
      refine j_iconst (pc := 27) C dX6_stays_27 ?_
      refine j_bI (fun s3 es3 => ?_)
      refine j_callV0 (pc := 28) C (obX5 is40) rfl rfl (X5_go_m _ hj is40 es3) kV_X6_147 rfl (by omega) rfl (Nat.le_of_ble_eq_true rfl) dX6_stays_28 ?_
      refine j_aload_n (pc := 31) C dX6_stays_31 rfl 0 rfl ?_
      refine j_bI (fun v1 ev1 => ?_)
      refine j_callV1 (pc := 32) C obX6 rfl rfl (X6_laterOtherwise_m _ hj ev1) kV_X6_157 rfl (by omega) rfl (Nat.le_of_ble_eq_true rfl) dX6_stays_32 ?_
      refine j_if_ne (pc := 35) (tgt := 40) C dX6_stays_35 rfl ?_ ?_
      · refine j_iload_n (pc := 38) C dX6_stays_38 rfl 1 rfl ?_
        exact j_ireturn C rfl rfl rfl rfl dX6_stays_39
      · refine j_iinc (pc := 40) C hN dX6_stays_40 1 rfl (by decide) (lv' := [(1, .int (oI (l1 + 1))), (0, .ref (G.2.2.1 0))]) rfl ?_
        refine j_goto (pc := 43) (tgt := 13) C dX6_stays_43 rfl ?_
        exact j_sub [1, 0] rfl (ih _ _)
set_option maxHeartbeats 4000000 in
set_option maxRecDepth 100000 in
theorem X6_stays_m (l : Launch) {G : GD} (hj : zInj sC G) {st : PS} {r : (Int × PS)} (hr : X6_stays st = some r) : zM l sC G yX6_stays cX6_stays 2 (some .int) 6 [.ref (G.2.2.1 0)] st (some (.int (oI r.1))) r.2 :=
  zEnter (f := fI) hr hj (by decide) rfl (lv := [(0, .ref (G.2.2.1 0))]) rfl (Nat.le_of_ble_eq_true rfl) (fun X _ hN C => by
    unfold X6_stays
    refine j_aload_n (pc := 0) C dX6_stays_0 rfl 0 rfl ?_
    refine gf_X6_18 (pc := 1) C dX6_stays_1 ?_
    refine j_aload_n (pc := 4) C dX6_stays_4 rfl 0 rfl ?_
    refine gf_X6_12 (pc := 5) C dX6_stays_5 ?_
    refine j_bI (fun s1 es1 => ?_)
    refine j_callV0 (pc := 8) C (obX5 is40) rfl rfl (X5_takeFrom_m _ hj is40 is20 es1) kV_X6_151 rfl (by omega) rfl (Nat.le_of_ble_eq_true rfl) dX6_stays_8 ?_
    refine j_iconst (pc := 11) C dX6_stays_11 ?_
    refine j_istore_n (pc := 12) C hN dX6_stays_12 rfl (by decide) (lv' := [(1, .int (oI 0)), (0, .ref (G.2.2.1 0))]) rfl ?_
    exact j_sub [1, 0] rfl (X6_stays_L13_j C hN hj FU _ _))
def X6_swings_L26  : Nat → PS → Int → Option (Int × PS)
  | 0, _, _ => none
  | k + 1, st, l1 => if wI 20 < wI l1 then some ((-5), st) else (bI (X5_go 40 st 1) (fun s4 => bI (X6_laterOtherwise s4) (fun v1 => if wI v1 = 0 then some (l1, s4) else (X6_swings_L26 k s4 (l1 + 1)))))
def X6_swings (st : PS) : Option (Int × PS) := bI (X5_takeFrom 40 20 st) (fun s1 => bI (X5_go 40 s1 40) (fun s2 => bI (X6_keepLater s2) (fun s3 => X6_swings_L26 FU s3 1)))
set_option maxHeartbeats 4000000 in
set_option maxRecDepth 100000 in
theorem X6_swings_L26_j {X : JX} {G : GD} (C : zC X sC G RX6 cX6_swings (some .int) 6) (hN : X.2.2.2.2.2.2.2.2.2.2.2.2 = 2) (hj : zInj sC G)  : ∀ (k : Nat) (st : PS) (l1 : Int), J X (zI sC G) (zQ sC G fI) st [(0, .ref (G.2.2.1 0)), (1, .int (oI l1))] 26 [] (X6_swings_L26 k st l1) := by
  intro k
  induction k with
  | zero => intro st l1; exact j_none
  | succ k ih =>
    intro st l1
    rw [X6_swings_L26]
    refine j_iload_n (pc := 26) C dX6_swings_26 rfl 1 rfl ?_
    refine j_bipush (pc := 27) C dX6_swings_27 (by decide) ?_
    refine j_icmp_gt (pc := 29) (tgt := 55) C dX6_swings_29 rfl ?_ ?_
    · refine j_bipush (pc := 55) C dX6_swings_55 (by decide) ?_
      exact j_ireturn C rfl rfl rfl rfl dX6_swings_57
    · refine j_aload_n (pc := 32) C dX6_swings_32 rfl 0 rfl ?_
      refine gf_X6_18 (pc := 33) C dX6_swings_33 ?_
      refine j_iconst (pc := 36) C dX6_swings_36 ?_
      refine j_bI (fun s4 es4 => ?_)
      refine j_callV0 (pc := 37) C (obX5 is40) rfl rfl (X5_go_m _ hj is40 es4) kV_X6_147 rfl (by omega) rfl (Nat.le_of_ble_eq_true rfl) dX6_swings_37 ?_
      refine j_aload_n (pc := 40) C dX6_swings_40 rfl 0 rfl ?_
      refine j_bI (fun v1 ev1 => ?_)
      refine j_callV1 (pc := 41) C obX6 rfl rfl (X6_laterOtherwise_m _ hj ev1) kV_X6_157 rfl (by omega) rfl (Nat.le_of_ble_eq_true rfl) dX6_swings_41 ?_
      refine j_if_ne (pc := 44) (tgt := 49) C dX6_swings_44 rfl ?_ ?_
      · refine j_iload_n (pc := 47) C dX6_swings_47 rfl 1 rfl ?_
        exact j_ireturn C rfl rfl rfl rfl dX6_swings_48
      · refine j_iinc (pc := 49) C hN dX6_swings_49 1 rfl (by decide) (lv' := [(1, .int (oI (l1 + 1))), (0, .ref (G.2.2.1 0))]) rfl ?_
        refine j_goto (pc := 52) (tgt := 26) C dX6_swings_52 rfl ?_
        exact j_sub [1, 0] rfl (ih _ _)
set_option maxHeartbeats 4000000 in
set_option maxRecDepth 100000 in
theorem X6_swings_m (l : Launch) {G : GD} (hj : zInj sC G) {st : PS} {r : (Int × PS)} (hr : X6_swings st = some r) : zM l sC G yX6_swings cX6_swings 2 (some .int) 6 [.ref (G.2.2.1 0)] st (some (.int (oI r.1))) r.2 :=
  zEnter (f := fI) hr hj (by decide) rfl (lv := [(0, .ref (G.2.2.1 0))]) rfl (Nat.le_of_ble_eq_true rfl) (fun X _ hN C => by
    unfold X6_swings
    refine j_aload_n (pc := 0) C dX6_swings_0 rfl 0 rfl ?_
    refine gf_X6_18 (pc := 1) C dX6_swings_1 ?_
    refine j_aload_n (pc := 4) C dX6_swings_4 rfl 0 rfl ?_
    refine gf_X6_12 (pc := 5) C dX6_swings_5 ?_
    refine j_bI (fun s1 es1 => ?_)
    refine j_callV0 (pc := 8) C (obX5 is40) rfl rfl (X5_takeFrom_m _ hj is40 is20 es1) kV_X6_151 rfl (by omega) rfl (Nat.le_of_ble_eq_true rfl) dX6_swings_8 ?_
    refine j_aload_n (pc := 11) C dX6_swings_11 rfl 0 rfl ?_
    refine gf_X6_18 (pc := 12) C dX6_swings_12 ?_
    refine j_bipush (pc := 15) C dX6_swings_15 (by decide) ?_
    refine j_bI (fun s2 es2 => ?_)
    refine j_callV0 (pc := 17) C (obX5 is40) rfl rfl (X5_go_m _ hj is40 es2) kV_X6_147 rfl (by omega) rfl (Nat.le_of_ble_eq_true rfl) dX6_swings_17 ?_
    refine j_aload_n (pc := 20) C dX6_swings_20 rfl 0 rfl ?_
    refine j_bI (fun s3 es3 => ?_)
    refine j_callV0 (pc := 21) C obX6 rfl rfl (X6_keepLater_m _ hj es3) kV_X6_154 rfl (by omega) rfl (Nat.le_of_ble_eq_true rfl) dX6_swings_21 ?_
    refine j_iconst (pc := 24) C dX6_swings_24 ?_
    refine j_istore_n (pc := 25) C hN dX6_swings_25 rfl (by decide) (lv' := [(1, .int (oI 1)), (0, .ref (G.2.2.1 0))]) rfl ?_
    exact j_sub [1, 0] rfl (X6_swings_L26_j C hN hj FU _ _))
def X6_isWhich (st : PS) (l0 : Int) : Int := if wI l0 = 0 then 1 else (if wI l0 = wI 1 then 1 else (0))
set_option maxHeartbeats 4000000 in
set_option maxRecDepth 100000 in
theorem X6_isWhich_m (l : Launch) {G : GD} (hj : zInj sC G) {st : PS} {l0 : Int} {r : Int} (hr : X6_isWhich st l0 = r) : zM l sC G yX6_isWhich cX6_isWhich 1 (some .boolean) 0 [.int (oI l0)] st (some (.int (oI r))) st :=
  zEnter (f := fR st) (o := some (X6_isWhich st l0)) (by rw [hr]) hj (by decide) rfl (lv := [(0, .int (oI l0))]) rfl (Nat.le_of_ble_eq_true rfl) (fun X _ hN C => by
    simp only [X6_isWhich, zsome_ite]
    refine j_iload_n (pc := 0) C dX6_isWhich_0 rfl 0 rfl ?_
    refine j_if_eq (pc := 1) (tgt := 9) C dX6_isWhich_1 rfl ?_ ?_
    · refine j_iconst (pc := 9) C dX6_isWhich_9 ?_
      refine j_goto (pc := 10) (tgt := 14) C dX6_isWhich_10 rfl ?_
      exact j_ireturn C rfl rfl (znar (Or.inr rfl)) rfl dX6_isWhich_14
    · refine j_iload_n (pc := 4) C dX6_isWhich_4 rfl 0 rfl ?_
      refine j_iconst (pc := 5) C dX6_isWhich_5 ?_
      refine j_icmp_ne (pc := 6) (tgt := 13) C dX6_isWhich_6 rfl ?_ ?_
      · refine j_iconst (pc := 9) C dX6_isWhich_9 ?_
        refine j_goto (pc := 10) (tgt := 14) C dX6_isWhich_10 rfl ?_
        exact j_ireturn C rfl rfl (znar (Or.inr rfl)) rfl dX6_isWhich_14
      · refine j_iconst (pc := 13) C dX6_isWhich_13 ?_
        exact j_ireturn C rfl rfl (znar (Or.inl rfl)) rfl dX6_isWhich_14)
theorem X6_isWhich_bit {st : PS} {l0 : Int} : X6_isWhich st l0 = 0 ∨ X6_isWhich st l0 = 1 := by
  unfold X6_isWhich
  first | exact Or.inl rfl | (repeat' split) <;> first | exact Or.inl rfl | exact Or.inr rfl
def X6_gift (st : PS) (l1 l2 l3 : Int) : Option (Int × PS) := if wI (X6_isHouse st l1) = 0 then some ((-1001), st) else (if wI (X6_isWhich st l3) = 0 then some ((-1001), st) else (if wI (X6_isEarned st l2) = 0 then some ((-1002), st) else (bI (X5_takeFrom 40 20 st) (fun s1 => bI (X5_go 40 s1 40) (fun s2 => bI (X5_total 40 s2) (fun v1 => bI (zrd s2 (40 + 5) 7 l1) (fun v2 => bI (X5_takeFrom 40 20 s2) (fun s3 => bI (X5_give 40 s3 l1 l2) (fun s4 => bI (X5_go 40 s4 40) (fun s5 => bI (X5_total 40 s5) (fun v3 => if wI l3 = 0 then bI (zrd s5 (40 + 5) 7 l1) (fun v4 => some (v4 - v2, s5)) else (some (v3 - v1, s5)))))))))))))
set_option maxHeartbeats 4000000 in
set_option maxRecDepth 100000 in
theorem X6_gift_m (l : Launch) {G : GD} (hj : zInj sC G) {st : PS} {l1 l2 l3 : Int} {r : (Int × PS)} (hr : X6_gift st l1 l2 l3 = some r) : zM l sC G yX6_gift cX6_gift 7 (some .int) 6 [.ref (G.2.2.1 0), .int (oI l1), .int (oI l2), .int (oI l3)] st (some (.int (oI r.1))) r.2 :=
  zEnter (f := fI) hr hj (by decide) rfl (lv := [(0, .ref (G.2.2.1 0)), (1, .int (oI l1)), (2, .int (oI l2)), (3, .int (oI l3))]) rfl (Nat.le_of_ble_eq_true rfl) (fun X _ hN C => by
    unfold X6_gift
    refine j_aload_n (pc := 0) C dX6_gift_0 rfl 0 rfl ?_
    refine j_iload_n (pc := 1) C dX6_gift_1 rfl 1 rfl ?_
    refine j_callV1 (pc := 2) C obX6 rfl rfl (X6_isHouse_m _ hj rfl) kV_X6_87 rfl (by omega) rfl (Nat.le_of_ble_eq_true rfl) dX6_gift_2 ?_
    refine j_if_eq (pc := 5) (tgt := 15) C dX6_gift_5 rfl ?_ ?_
    · refine j_sipush (pc := 15) C dX6_gift_15 (by decide) ?_
      exact j_ireturn C rfl rfl rfl rfl dX6_gift_18
    · refine j_iload_n (pc := 8) C dX6_gift_8 rfl 3 rfl ?_
      refine j_callS1 (pc := 9) C (X6_isWhich_m _ hj rfl) kS_X6_160 rfl (by omega) rfl (Nat.le_of_ble_eq_true rfl) dX6_gift_9 ?_
      refine j_if_ne (pc := 12) (tgt := 19) C dX6_gift_12 rfl ?_ ?_
      · refine j_sipush (pc := 15) C dX6_gift_15 (by decide) ?_
        exact j_ireturn C rfl rfl rfl rfl dX6_gift_18
      · refine j_iload_n (pc := 19) C dX6_gift_19 rfl 2 rfl ?_
        refine j_callS1 (pc := 20) C (X6_isEarned_m _ hj rfl) kS_X6_76 rfl (by omega) rfl (Nat.le_of_ble_eq_true rfl) dX6_gift_20 ?_
        refine j_if_ne (pc := 23) (tgt := 30) C dX6_gift_23 rfl ?_ ?_
        · refine j_sipush (pc := 26) C dX6_gift_26 (by decide) ?_
          exact j_ireturn C rfl rfl rfl rfl dX6_gift_29
        · refine j_aload_n (pc := 30) C dX6_gift_30 rfl 0 rfl ?_
          refine gf_X6_18 (pc := 31) C dX6_gift_31 ?_
          refine j_aload_n (pc := 34) C dX6_gift_34 rfl 0 rfl ?_
          refine gf_X6_12 (pc := 35) C dX6_gift_35 ?_
          refine j_bI (fun s1 es1 => ?_)
          refine j_callV0 (pc := 38) C (obX5 is40) rfl rfl (X5_takeFrom_m _ hj is40 is20 es1) kV_X6_151 rfl (by omega) rfl (Nat.le_of_ble_eq_true rfl) dX6_gift_38 ?_
          refine j_aload_n (pc := 41) C dX6_gift_41 rfl 0 rfl ?_
          refine gf_X6_18 (pc := 42) C dX6_gift_42 ?_
          refine j_bipush (pc := 45) C dX6_gift_45 (by decide) ?_
          refine j_bI (fun s2 es2 => ?_)
          refine j_callV0 (pc := 47) C (obX5 is40) rfl rfl (X5_go_m _ hj is40 es2) kV_X6_147 rfl (by omega) rfl (Nat.le_of_ble_eq_true rfl) dX6_gift_47 ?_
          refine j_aload_n (pc := 50) C dX6_gift_50 rfl 0 rfl ?_
          refine gf_X6_18 (pc := 51) C dX6_gift_51 ?_
          refine j_bI (fun v1 ev1 => ?_)
          refine j_callV1 (pc := 54) C (obX5 is40) rfl rfl (X5_total_m _ hj is40 ev1) kV_X6_144 rfl (by omega) rfl (Nat.le_of_ble_eq_true rfl) dX6_gift_54 ?_
          refine j_istore (pc := 57) C hN dX6_gift_57 (by decide) (lv' := [(4, .int (oI v1)), (0, .ref (G.2.2.1 0)), (1, .int (oI l1)), (2, .int (oI l2)), (3, .int (oI l3))]) rfl ?_
          refine j_aload_n (pc := 59) C dX6_gift_59 rfl 1 rfl ?_
          refine gf_X6_18 (pc := 60) C dX6_gift_60 ?_
          refine gf_X6_96 (pc := 63) C is40 dX6_gift_63 ?_
          refine j_iload_n (pc := 66) C dX6_gift_66 rfl 2 rfl ?_
          refine j_bI (fun v2 ev2 => ?_)
          refine j_iald (pc := 67) C (arX5_5 is40) ev2 dX6_gift_67 ?_
          refine j_istore (pc := 68) C hN dX6_gift_68 (by decide) (lv' := [(5, .int (oI v2)), (4, .int (oI v1)), (0, .ref (G.2.2.1 0)), (1, .int (oI l1)), (2, .int (oI l2)), (3, .int (oI l3))]) rfl ?_
          refine j_aload_n (pc := 70) C dX6_gift_70 rfl 2 rfl ?_
          refine gf_X6_18 (pc := 71) C dX6_gift_71 ?_
          refine j_aload_n (pc := 74) C dX6_gift_74 rfl 2 rfl ?_
          refine gf_X6_12 (pc := 75) C dX6_gift_75 ?_
          refine j_bI (fun s3 es3 => ?_)
          refine j_callV0 (pc := 78) C (obX5 is40) rfl rfl (X5_takeFrom_m _ hj is40 is20 es3) kV_X6_151 rfl (by omega) rfl (Nat.le_of_ble_eq_true rfl) dX6_gift_78 ?_
          refine j_aload_n (pc := 81) C dX6_gift_81 rfl 2 rfl ?_
          refine gf_X6_18 (pc := 82) C dX6_gift_82 ?_
          refine j_iload_n (pc := 85) C dX6_gift_85 rfl 3 rfl ?_
          refine j_iload_n (pc := 86) C dX6_gift_86 rfl 4 rfl ?_
          refine j_bI (fun s4 es4 => ?_)
          refine j_callV0 (pc := 87) C (obX5 is40) rfl rfl (X5_give_m _ hj is40 es4) kV_X6_163 rfl (by omega) rfl (Nat.le_of_ble_eq_true rfl) dX6_gift_87 ?_
          refine j_aload_n (pc := 90) C dX6_gift_90 rfl 2 rfl ?_
          refine gf_X6_18 (pc := 91) C dX6_gift_91 ?_
          refine j_bipush (pc := 94) C dX6_gift_94 (by decide) ?_
          refine j_bI (fun s5 es5 => ?_)
          refine j_callV0 (pc := 96) C (obX5 is40) rfl rfl (X5_go_m _ hj is40 es5) kV_X6_147 rfl (by omega) rfl (Nat.le_of_ble_eq_true rfl) dX6_gift_96 ?_
          refine j_aload_n (pc := 99) C dX6_gift_99 rfl 2 rfl ?_
          refine gf_X6_18 (pc := 100) C dX6_gift_100 ?_
          refine j_bI (fun v3 ev3 => ?_)
          refine j_callV1 (pc := 103) C (obX5 is40) rfl rfl (X5_total_m _ hj is40 ev3) kV_X6_144 rfl (by omega) rfl (Nat.le_of_ble_eq_true rfl) dX6_gift_103 ?_
          refine j_istore (pc := 106) C hN dX6_gift_106 (by decide) (lv' := [(6, .int (oI v3)), (5, .int (oI v2)), (4, .int (oI v1)), (0, .ref (G.2.2.1 0)), (1, .int (oI l1)), (2, .int (oI l2)), (3, .int (oI l3))]) rfl ?_
          refine j_iload_n (pc := 108) C dX6_gift_108 rfl 6 rfl ?_
          refine j_if_ne (pc := 109) (tgt := 127) C dX6_gift_109 rfl ?_ ?_
          · refine j_aload_n (pc := 112) C dX6_gift_112 rfl 3 rfl ?_
            refine gf_X6_18 (pc := 113) C dX6_gift_113 ?_
            refine gf_X6_96 (pc := 116) C is40 dX6_gift_116 ?_
            refine j_iload_n (pc := 119) C dX6_gift_119 rfl 4 rfl ?_
            refine j_bI (fun v4 ev4 => ?_)
            refine j_iald (pc := 120) C (arX5_5 is40) ev4 dX6_gift_120 ?_
            refine j_iload (pc := 121) C dX6_gift_121 1 rfl ?_
            refine j_isub (pc := 123) C dX6_gift_123 ?_
            refine j_goto (pc := 124) (tgt := 132) C dX6_gift_124 rfl ?_
            exact j_ireturn C rfl rfl rfl rfl dX6_gift_132
          · refine j_iload (pc := 127) C dX6_gift_127 0 rfl ?_
            refine j_iload (pc := 129) C dX6_gift_129 2 rfl ?_
            refine j_isub (pc := 131) C dX6_gift_131 ?_
            exact j_ireturn C rfl rfl rfl rfl dX6_gift_132)
def X6_best_L18 (l1 : Int) : Nat → PS → Int → Int → Int → Option (Int × PS)
  | 0, _, _, _, _ => none
  | k + 1, st, l2, l3, l4 => if wI (st 20 0) ≤ wI l4 then some (l2, st) else (bI (X5_takeFrom 40 20 st) (fun s1 => bI (X5_give 40 s1 l4 l1) (fun s2 => bI (X5_go 40 s2 40) (fun s3 => bI (X5_total 40 s3) (fun v1 => if wI v1 ≤ wI l3 then X6_best_L18 l1 k s3 l2 l3 (l4 + 1) else (X6_best_L18 l1 k s3 l4 v1 (l4 + 1)))))))
def X6_best (st : PS) (l1 : Int) : Option (Int × PS) := if wI (X6_isEarned st l1) = 0 then some ((-2), st) else (X6_best_L18 l1 FU st (-5) (-1) 0)
set_option maxHeartbeats 4000000 in
set_option maxRecDepth 100000 in
theorem X6_best_L18_j {X : JX} {G : GD} (C : zC X sC G RX6 cX6_best (some .int) 6) (hN : X.2.2.2.2.2.2.2.2.2.2.2.2 = 6) (hj : zInj sC G) {l1 : Int} : ∀ (k : Nat) (st : PS) (l2 : Int) (l3 : Int) (l4 : Int), J X (zI sC G) (zQ sC G fI) st [(0, .ref (G.2.2.1 0)), (1, .int (oI l1)), (2, .int (oI l2)), (3, .int (oI l3)), (4, .int (oI l4))] 18 [] (X6_best_L18 l1 k st l2 l3 l4) := by
  intro k
  induction k with
  | zero => intro st l2 l3 l4; exact j_none
  | succ k ih =>
    intro st l2 l3 l4
    rw [X6_best_L18]
    refine j_iload (pc := 18) C dX6_best_18 4 rfl ?_
    refine j_aload_n (pc := 20) C dX6_best_20 rfl 0 rfl ?_
    refine gf_X6_12 (pc := 21) C dX6_best_21 ?_
    refine gf_X6_79 (pc := 24) C is20 dX6_best_24 ?_
    refine j_icmp_ge (pc := 27) (tgt := 87) C dX6_best_27 rfl ?_ ?_
    · refine j_iload_n (pc := 87) C dX6_best_87 rfl 2 rfl ?_
      exact j_ireturn C rfl rfl rfl rfl dX6_best_88
    · refine j_aload_n (pc := 30) C dX6_best_30 rfl 0 rfl ?_
      refine gf_X6_18 (pc := 31) C dX6_best_31 ?_
      refine j_aload_n (pc := 34) C dX6_best_34 rfl 0 rfl ?_
      refine gf_X6_12 (pc := 35) C dX6_best_35 ?_
      refine j_bI (fun s1 es1 => ?_)
      refine j_callV0 (pc := 38) C (obX5 is40) rfl rfl (X5_takeFrom_m _ hj is40 is20 es1) kV_X6_151 rfl (by omega) rfl (Nat.le_of_ble_eq_true rfl) dX6_best_38 ?_
      refine j_aload_n (pc := 41) C dX6_best_41 rfl 0 rfl ?_
      refine gf_X6_18 (pc := 42) C dX6_best_42 ?_
      refine j_iload (pc := 45) C dX6_best_45 4 rfl ?_
      refine j_iload_n (pc := 47) C dX6_best_47 rfl 1 rfl ?_
      refine j_bI (fun s2 es2 => ?_)
      refine j_callV0 (pc := 48) C (obX5 is40) rfl rfl (X5_give_m _ hj is40 es2) kV_X6_163 rfl (by omega) rfl (Nat.le_of_ble_eq_true rfl) dX6_best_48 ?_
      refine j_aload_n (pc := 51) C dX6_best_51 rfl 0 rfl ?_
      refine gf_X6_18 (pc := 52) C dX6_best_52 ?_
      refine j_bipush (pc := 55) C dX6_best_55 (by decide) ?_
      refine j_bI (fun s3 es3 => ?_)
      refine j_callV0 (pc := 57) C (obX5 is40) rfl rfl (X5_go_m _ hj is40 es3) kV_X6_147 rfl (by omega) rfl (Nat.le_of_ble_eq_true rfl) dX6_best_57 ?_
      refine j_aload_n (pc := 60) C dX6_best_60 rfl 0 rfl ?_
      refine gf_X6_18 (pc := 61) C dX6_best_61 ?_
      refine j_bI (fun v1 ev1 => ?_)
      refine j_callV1 (pc := 64) C (obX5 is40) rfl rfl (X5_total_m _ hj is40 ev1) kV_X6_144 rfl (by omega) rfl (Nat.le_of_ble_eq_true rfl) dX6_best_64 ?_
      refine j_istore (pc := 67) C hN dX6_best_67 (by decide) (lv' := [(5, .int (oI v1)), (0, .ref (G.2.2.1 0)), (1, .int (oI l1)), (2, .int (oI l2)), (3, .int (oI l3)), (4, .int (oI l4))]) rfl ?_
      refine j_iload (pc := 69) C dX6_best_69 0 rfl ?_
      refine j_iload_n (pc := 71) C dX6_best_71 rfl 4 rfl ?_
      refine j_icmp_le (pc := 72) (tgt := 81) C dX6_best_72 rfl ?_ ?_
      · refine j_iinc (pc := 81) C hN dX6_best_81 5 rfl (by decide) (lv' := [(4, .int (oI (l4 + 1))), (5, .int (oI v1)), (0, .ref (G.2.2.1 0)), (1, .int (oI l1)), (2, .int (oI l2)), (3, .int (oI l3))]) rfl ?_
        refine j_goto (pc := 84) (tgt := 18) C dX6_best_84 rfl ?_
        exact j_sub [2, 3, 4, 5, 0] rfl (ih _ _ _ _)
      · refine j_iload (pc := 75) C dX6_best_75 0 rfl ?_
        refine j_istore_n (pc := 77) C hN dX6_best_77 rfl (by decide) (lv' := [(3, .int (oI v1)), (5, .int (oI v1)), (0, .ref (G.2.2.1 0)), (1, .int (oI l1)), (2, .int (oI l2)), (4, .int (oI l4))]) rfl ?_
        refine j_iload (pc := 78) C dX6_best_78 5 rfl ?_
        refine j_istore_n (pc := 80) C hN dX6_best_80 rfl (by decide) (lv' := [(2, .int (oI l4)), (3, .int (oI v1)), (5, .int (oI v1)), (0, .ref (G.2.2.1 0)), (1, .int (oI l1)), (4, .int (oI l4))]) rfl ?_
        refine j_iinc (pc := 81) C hN dX6_best_81 5 rfl (by decide) (lv' := [(4, .int (oI (l4 + 1))), (2, .int (oI l4)), (3, .int (oI v1)), (5, .int (oI v1)), (0, .ref (G.2.2.1 0)), (1, .int (oI l1))]) rfl ?_
        refine j_goto (pc := 84) (tgt := 18) C dX6_best_84 rfl ?_
        exact j_sub [4, 5, 1, 2, 0] rfl (ih _ _ _ _)
set_option maxHeartbeats 4000000 in
set_option maxRecDepth 100000 in
theorem X6_best_m (l : Launch) {G : GD} (hj : zInj sC G) {st : PS} {l1 : Int} {r : (Int × PS)} (hr : X6_best st l1 = some r) : zM l sC G yX6_best cX6_best 6 (some .int) 6 [.ref (G.2.2.1 0), .int (oI l1)] st (some (.int (oI r.1))) r.2 :=
  zEnter (f := fI) hr hj (by decide) rfl (lv := [(0, .ref (G.2.2.1 0)), (1, .int (oI l1))]) rfl (Nat.le_of_ble_eq_true rfl) (fun X _ hN C => by
    unfold X6_best
    refine j_iload_n (pc := 0) C dX6_best_0 rfl 1 rfl ?_
    refine j_callS1 (pc := 1) C (X6_isEarned_m _ hj rfl) kS_X6_76 rfl (by omega) rfl (Nat.le_of_ble_eq_true rfl) dX6_best_1 ?_
    refine j_if_ne (pc := 4) (tgt := 10) C dX6_best_4 rfl ?_ ?_
    · refine j_bipush (pc := 7) C dX6_best_7 (by decide) ?_
      exact j_ireturn C rfl rfl rfl rfl dX6_best_9
    · refine j_bipush (pc := 10) C dX6_best_10 (by decide) ?_
      refine j_istore_n (pc := 12) C hN dX6_best_12 rfl (by decide) (lv' := [(2, .int (oI (-5))), (0, .ref (G.2.2.1 0)), (1, .int (oI l1))]) rfl ?_
      refine j_iconst (pc := 13) C dX6_best_13 ?_
      refine j_istore_n (pc := 14) C hN dX6_best_14 rfl (by decide) (lv' := [(3, .int (oI (-1))), (2, .int (oI (-5))), (0, .ref (G.2.2.1 0)), (1, .int (oI l1))]) rfl ?_
      refine j_iconst (pc := 15) C dX6_best_15 ?_
      refine j_istore (pc := 16) C hN dX6_best_16 (by decide) (lv' := [(4, .int (oI 0)), (3, .int (oI (-1))), (2, .int (oI (-5))), (0, .ref (G.2.2.1 0)), (1, .int (oI l1))]) rfl ?_
      exact j_sub [3, 4, 2, 1, 0] rfl (X6_best_L18_j C hN hj FU _ _ _ _))
def X6_lots_L49 (l3 : Int) (co33 : PS → Int → Int → Int → Option (Int × PS)) : Nat → PS → Int → Int → Int → Option (Int × PS)
  | 0, _, _, _, _ => none
  | k + 1, st, l1, l2, l4 => if wI (st 20 0) ≤ wI l4 then co33 st l1 l2 (l3 + 1) else (bI (X5_takeFrom 40 20 st) (fun s3 => bI (zrd s3 (20 + 5) 7 l4) (fun v2 => bI (zwr s3 (40 + 5) 7 l3 v2) (fun s4 => bI (zrd s4 (20 + 5) 7 l3) (fun v3 => bI (zwr s4 (40 + 5) 7 l4 v3) (fun s5 => bI (X5_go 40 s5 20) (fun s6 => bI (X5_total 40 s6) (fun v4 => if wI v4 ≤ wI l1 then X6_lots_L49 l3 co33 k s6 l1 l2 (l4 + 1) else (X6_lots_L49 l3 co33 k s6 v4 ((10 * l3) + l4) (l4 + 1))))))))))
def X6_lots_L33  : Nat → PS → Int → Int → Int → Option (Int × PS)
  | 0, _, _, _, _ => none
  | k + 1, st, l1, l2, l3 => if wI (st 20 0) ≤ wI l3 then some (l2, st) else (X6_lots_L49 l3 (fun s_ x1 x2 x3 => X6_lots_L33 k s_ x1 x2 x3) FU st l1 l2 (l3 + 1))
def X6_lots (st : PS) : Option (Int × PS) := bI (X5_takeFrom 40 20 st) (fun s1 => bI (X5_go 40 s1 20) (fun s2 => bI (X5_total 40 s2) (fun v1 => X6_lots_L33 FU s2 v1 (-5) 0)))
set_option maxHeartbeats 4000000 in
set_option maxRecDepth 100000 in
theorem X6_lots_L49_j {X : JX} {G : GD} (C : zC X sC G RX6 cX6_lots (some .int) 6) (hN : X.2.2.2.2.2.2.2.2.2.2.2.2 = 6) (hj : zInj sC G) {l3 : Int} (co33 : PS → Int → Int → Int → Option (Int × PS)) (hco33 : ∀ (st : PS) (l1 : Int) (l2 : Int) (l3 : Int), J X (zI sC G) (zQ sC G fI) st [(0, .ref (G.2.2.1 0)), (1, .int (oI l1)), (2, .int (oI l2)), (3, .int (oI l3))] 33 [] (co33 st l1 l2 l3)) : ∀ (k : Nat) (st : PS) (l1 : Int) (l2 : Int) (l4 : Int), J X (zI sC G) (zQ sC G fI) st [(0, .ref (G.2.2.1 0)), (1, .int (oI l1)), (2, .int (oI l2)), (3, .int (oI l3)), (4, .int (oI l4))] 49 [] (X6_lots_L49 l3 co33 k st l1 l2 l4) := by
  intro k
  induction k with
  | zero => intro st l1 l2 l4; exact j_none
  | succ k ih =>
    intro st l1 l2 l4
    rw [X6_lots_L49]
    refine j_iload (pc := 49) C dX6_lots_49 4 rfl ?_
    refine j_aload_n (pc := 51) C dX6_lots_51 rfl 0 rfl ?_
    refine gf_X6_12 (pc := 52) C dX6_lots_52 ?_
    refine gf_X6_79 (pc := 55) C is20 dX6_lots_55 ?_
    refine j_icmp_ge (pc := 58) (tgt := 151) C dX6_lots_58 rfl ?_ ?_
    · refine j_iinc (pc := 151) C hN dX6_lots_151 3 rfl (by decide) (lv' := [(3, .int (oI (l3 + 1))), (0, .ref (G.2.2.1 0)), (1, .int (oI l1)), (2, .int (oI l2)), (4, .int (oI l4))]) rfl ?_
      refine j_goto (pc := 154) (tgt := 33) C dX6_lots_154 rfl ?_
      exact j_sub [1, 2, 3, 0] rfl (hco33 _ _ _ _)
    · refine j_aload_n (pc := 61) C dX6_lots_61 rfl 0 rfl ?_
      refine gf_X6_18 (pc := 62) C dX6_lots_62 ?_
      refine j_aload_n (pc := 65) C dX6_lots_65 rfl 0 rfl ?_
      refine gf_X6_12 (pc := 66) C dX6_lots_66 ?_
      refine j_bI (fun s3 es3 => ?_)
      refine j_callV0 (pc := 69) C (obX5 is40) rfl rfl (X5_takeFrom_m _ hj is40 is20 es3) kV_X6_151 rfl (by omega) rfl (Nat.le_of_ble_eq_true rfl) dX6_lots_69 ?_
      refine j_aload_n (pc := 72) C dX6_lots_72 rfl 0 rfl ?_
      refine gf_X6_18 (pc := 73) C dX6_lots_73 ?_
      refine gf_X6_96 (pc := 76) C is40 dX6_lots_76 ?_
      refine j_iload_n (pc := 79) C dX6_lots_79 rfl 3 rfl ?_
      refine j_aload_n (pc := 80) C dX6_lots_80 rfl 0 rfl ?_
      refine gf_X6_12 (pc := 81) C dX6_lots_81 ?_
      refine gf_X6_96 (pc := 84) C is20 dX6_lots_84 ?_
      refine j_iload (pc := 87) C dX6_lots_87 4 rfl ?_
      refine j_bI (fun v2 ev2 => ?_)
      refine j_iald (pc := 89) C (arX5_5 is20) ev2 dX6_lots_89 ?_
      refine j_bI (fun s4 es4 => ?_)
      refine j_iast (pc := 90) C (arX5_5 is40) es4 dX6_lots_90 ?_
      refine j_aload_n (pc := 91) C dX6_lots_91 rfl 0 rfl ?_
      refine gf_X6_18 (pc := 92) C dX6_lots_92 ?_
      refine gf_X6_96 (pc := 95) C is40 dX6_lots_95 ?_
      refine j_iload (pc := 98) C dX6_lots_98 4 rfl ?_
      refine j_aload_n (pc := 100) C dX6_lots_100 rfl 0 rfl ?_
      refine gf_X6_12 (pc := 101) C dX6_lots_101 ?_
      refine gf_X6_96 (pc := 104) C is20 dX6_lots_104 ?_
      refine j_iload_n (pc := 107) C dX6_lots_107 rfl 3 rfl ?_
      refine j_bI (fun v3 ev3 => ?_)
      refine j_iald (pc := 108) C (arX5_5 is20) ev3 dX6_lots_108 ?_
      refine j_bI (fun s5 es5 => ?_)
      refine j_iast (pc := 109) C (arX5_5 is40) es5 dX6_lots_109 ?_
      refine j_aload_n (pc := 110) C dX6_lots_110 rfl 0 rfl ?_
      refine gf_X6_18 (pc := 111) C dX6_lots_111 ?_
      refine j_bipush (pc := 114) C dX6_lots_114 (by decide) ?_
      refine j_bI (fun s6 es6 => ?_)
      refine j_callV0 (pc := 116) C (obX5 is40) rfl rfl (X5_go_m _ hj is40 es6) kV_X6_147 rfl (by omega) rfl (Nat.le_of_ble_eq_true rfl) dX6_lots_116 ?_
      refine j_aload_n (pc := 119) C dX6_lots_119 rfl 0 rfl ?_
      refine gf_X6_18 (pc := 120) C dX6_lots_120 ?_
      refine j_bI (fun v4 ev4 => ?_)
      refine j_callV1 (pc := 123) C (obX5 is40) rfl rfl (X5_total_m _ hj is40 ev4) kV_X6_144 rfl (by omega) rfl (Nat.le_of_ble_eq_true rfl) dX6_lots_123 ?_
      refine j_istore (pc := 126) C hN dX6_lots_126 (by decide) (lv' := [(5, .int (oI v4)), (0, .ref (G.2.2.1 0)), (1, .int (oI l1)), (2, .int (oI l2)), (3, .int (oI l3)), (4, .int (oI l4))]) rfl ?_
      refine j_iload (pc := 128) C dX6_lots_128 0 rfl ?_
      refine j_iload_n (pc := 130) C dX6_lots_130 rfl 2 rfl ?_
      refine j_icmp_le (pc := 131) (tgt := 145) C dX6_lots_131 rfl ?_ ?_
      · refine j_iinc (pc := 145) C hN dX6_lots_145 5 rfl (by decide) (lv' := [(4, .int (oI (l4 + 1))), (5, .int (oI v4)), (0, .ref (G.2.2.1 0)), (1, .int (oI l1)), (2, .int (oI l2)), (3, .int (oI l3))]) rfl ?_
        refine j_goto (pc := 148) (tgt := 49) C dX6_lots_148 rfl ?_
        exact j_sub [2, 3, 4, 5, 0] rfl (ih _ _ _ _)
      · refine j_iload (pc := 134) C dX6_lots_134 0 rfl ?_
        refine j_istore_n (pc := 136) C hN dX6_lots_136 rfl (by decide) (lv' := [(1, .int (oI v4)), (5, .int (oI v4)), (0, .ref (G.2.2.1 0)), (2, .int (oI l2)), (3, .int (oI l3)), (4, .int (oI l4))]) rfl ?_
        refine j_bipush (pc := 137) C dX6_lots_137 (by decide) ?_
        refine j_iload_n (pc := 139) C dX6_lots_139 rfl 4 rfl ?_
        refine j_imul (pc := 140) C dX6_lots_140 ?_
        refine j_iload (pc := 141) C dX6_lots_141 5 rfl ?_
        refine j_iadd (pc := 143) C dX6_lots_143 ?_
        refine j_istore_n (pc := 144) C hN dX6_lots_144 rfl (by decide) (lv' := [(2, .int (oI ((10 * l3) + l4))), (1, .int (oI v4)), (5, .int (oI v4)), (0, .ref (G.2.2.1 0)), (3, .int (oI l3)), (4, .int (oI l4))]) rfl ?_
        refine j_iinc (pc := 145) C hN dX6_lots_145 5 rfl (by decide) (lv' := [(4, .int (oI (l4 + 1))), (2, .int (oI ((10 * l3) + l4))), (1, .int (oI v4)), (5, .int (oI v4)), (0, .ref (G.2.2.1 0)), (3, .int (oI l3))]) rfl ?_
        refine j_goto (pc := 148) (tgt := 49) C dX6_lots_148 rfl ?_
        exact j_sub [4, 2, 1, 5, 0] rfl (ih _ _ _ _)
set_option maxHeartbeats 4000000 in
set_option maxRecDepth 100000 in
theorem X6_lots_L33_j {X : JX} {G : GD} (C : zC X sC G RX6 cX6_lots (some .int) 6) (hN : X.2.2.2.2.2.2.2.2.2.2.2.2 = 6) (hj : zInj sC G)  : ∀ (k : Nat) (st : PS) (l1 : Int) (l2 : Int) (l3 : Int), J X (zI sC G) (zQ sC G fI) st [(0, .ref (G.2.2.1 0)), (1, .int (oI l1)), (2, .int (oI l2)), (3, .int (oI l3))] 33 [] (X6_lots_L33 k st l1 l2 l3) := by
  intro k
  induction k with
  | zero => intro st l1 l2 l3; exact j_none
  | succ k ih =>
    intro st l1 l2 l3
    rw [X6_lots_L33]
    refine j_iload_n (pc := 33) C dX6_lots_33 rfl 3 rfl ?_
    refine j_aload_n (pc := 34) C dX6_lots_34 rfl 0 rfl ?_
    refine gf_X6_12 (pc := 35) C dX6_lots_35 ?_
    refine gf_X6_79 (pc := 38) C is20 dX6_lots_38 ?_
    refine j_icmp_ge (pc := 41) (tgt := 157) C dX6_lots_41 rfl ?_ ?_
    · refine j_iload_n (pc := 157) C dX6_lots_157 rfl 2 rfl ?_
      exact j_ireturn C rfl rfl rfl rfl dX6_lots_158
    · refine j_iload_n (pc := 44) C dX6_lots_44 rfl 3 rfl ?_
      refine j_iconst (pc := 45) C dX6_lots_45 ?_
      refine j_iadd (pc := 46) C dX6_lots_46 ?_
      refine j_istore (pc := 47) C hN dX6_lots_47 (by decide) (lv' := [(4, .int (oI (l3 + 1))), (0, .ref (G.2.2.1 0)), (1, .int (oI l1)), (2, .int (oI l2)), (3, .int (oI l3))]) rfl ?_
      exact j_sub [1, 2, 3, 4, 0] rfl (X6_lots_L49_j C hN hj _ (fun s_ x1 x2 x3 => ih s_ x1 x2 x3) FU _ _ _ _)
set_option maxHeartbeats 4000000 in
set_option maxRecDepth 100000 in
theorem X6_lots_m (l : Launch) {G : GD} (hj : zInj sC G) {st : PS} {r : (Int × PS)} (hr : X6_lots st = some r) : zM l sC G yX6_lots cX6_lots 6 (some .int) 6 [.ref (G.2.2.1 0)] st (some (.int (oI r.1))) r.2 :=
  zEnter (f := fI) hr hj (by decide) rfl (lv := [(0, .ref (G.2.2.1 0))]) rfl (Nat.le_of_ble_eq_true rfl) (fun X _ hN C => by
    unfold X6_lots
    refine j_aload_n (pc := 0) C dX6_lots_0 rfl 0 rfl ?_
    refine gf_X6_18 (pc := 1) C dX6_lots_1 ?_
    refine j_aload_n (pc := 4) C dX6_lots_4 rfl 0 rfl ?_
    refine gf_X6_12 (pc := 5) C dX6_lots_5 ?_
    refine j_bI (fun s1 es1 => ?_)
    refine j_callV0 (pc := 8) C (obX5 is40) rfl rfl (X5_takeFrom_m _ hj is40 is20 es1) kV_X6_151 rfl (by omega) rfl (Nat.le_of_ble_eq_true rfl) dX6_lots_8 ?_
    refine j_aload_n (pc := 11) C dX6_lots_11 rfl 0 rfl ?_
    refine gf_X6_18 (pc := 12) C dX6_lots_12 ?_
    refine j_bipush (pc := 15) C dX6_lots_15 (by decide) ?_
    refine j_bI (fun s2 es2 => ?_)
    refine j_callV0 (pc := 17) C (obX5 is40) rfl rfl (X5_go_m _ hj is40 es2) kV_X6_147 rfl (by omega) rfl (Nat.le_of_ble_eq_true rfl) dX6_lots_17 ?_
    refine j_aload_n (pc := 20) C dX6_lots_20 rfl 0 rfl ?_
    refine gf_X6_18 (pc := 21) C dX6_lots_21 ?_
    refine j_bI (fun v1 ev1 => ?_)
    refine j_callV1 (pc := 24) C (obX5 is40) rfl rfl (X5_total_m _ hj is40 ev1) kV_X6_144 rfl (by omega) rfl (Nat.le_of_ble_eq_true rfl) dX6_lots_24 ?_
    refine j_istore_n (pc := 27) C hN dX6_lots_27 rfl (by decide) (lv' := [(1, .int (oI v1)), (0, .ref (G.2.2.1 0))]) rfl ?_
    refine j_bipush (pc := 28) C dX6_lots_28 (by decide) ?_
    refine j_istore_n (pc := 30) C hN dX6_lots_30 rfl (by decide) (lv' := [(2, .int (oI (-5))), (1, .int (oI v1)), (0, .ref (G.2.2.1 0))]) rfl ?_
    refine j_iconst (pc := 31) C dX6_lots_31 ?_
    refine j_istore_n (pc := 32) C hN dX6_lots_32 rfl (by decide) (lv' := [(3, .int (oI 0)), (2, .int (oI (-5))), (1, .int (oI v1)), (0, .ref (G.2.2.1 0))]) rfl ?_
    exact j_sub [3, 2, 1, 0] rfl (X6_lots_L33_j C hN hj FU _ _ _ _))
def X6_build_L58 (l1 : Int) (l2 : Int) (l3 : Int) (l4 : Int) : Nat → PS → Int → Int → Int → Option (Int × PS)
  | 0, _, _, _, _ => none
  | k + 1, st, l5, l6, l7 => if wI (st 20 0) < wI l7 then if wI l4 = 0 then some (l5, st) else (some (l6, st)) else (bI (X5_takeFrom 40 20 st) (fun s1 => bI (X5_insert 40 s1 l7 l1 l2 l3) (fun s2 => bI (X5_go 40 s2 20) (fun s3 => bI (X5_total 40 s3) (fun v1 => if wI v1 ≤ wI l6 then X6_build_L58 l1 l2 l3 l4 k s3 l5 l6 (l7 + 1) else (X6_build_L58 l1 l2 l3 l4 k s3 l7 v1 (l7 + 1)))))))
def X6_build (st : PS) (l1 l2 l3 l4 : Int) : Option (Int × PS) := if wI (X6_isKind st l1) = 0 then some ((-1), st) else (if wI (X6_isWhich st l4) = 0 then some ((-1), st) else (if wI (X6_isV st l2) = 0 then some ((-2), st) else (if wI (X6_isEarned st l3) = 0 then some ((-2), st) else (if wI (st 20 0) < wI 7 then X6_build_L58 l1 l2 l3 l4 FU st 0 (-1) 0 else (some ((-9), st))))))
set_option maxHeartbeats 4000000 in
set_option maxRecDepth 100000 in
theorem X6_build_L58_j {X : JX} {G : GD} (C : zC X sC G RX6 cX6_build (some .int) 6) (hN : X.2.2.2.2.2.2.2.2.2.2.2.2 = 9) (hj : zInj sC G) {l1 : Int} {l2 : Int} {l3 : Int} {l4 : Int} : ∀ (k : Nat) (st : PS) (l5 : Int) (l6 : Int) (l7 : Int), J X (zI sC G) (zQ sC G fI) st [(0, .ref (G.2.2.1 0)), (1, .int (oI l1)), (2, .int (oI l2)), (3, .int (oI l3)), (4, .int (oI l4)), (5, .int (oI l5)), (6, .int (oI l6)), (7, .int (oI l7))] 58 [] (X6_build_L58 l1 l2 l3 l4 k st l5 l6 l7) := by
  intro k
  induction k with
  | zero => intro st l5 l6 l7; exact j_none
  | succ k ih =>
    intro st l5 l6 l7
    rw [X6_build_L58]
    refine j_iload (pc := 58) C dX6_build_58 7 rfl ?_
    refine j_aload_n (pc := 60) C dX6_build_60 rfl 0 rfl ?_
    refine gf_X6_12 (pc := 61) C dX6_build_61 ?_
    refine gf_X6_79 (pc := 64) C is20 dX6_build_64 ?_
    refine j_icmp_gt (pc := 67) (tgt := 132) C dX6_build_67 rfl ?_ ?_
    · refine j_iload (pc := 132) C dX6_build_132 4 rfl ?_
      refine j_if_ne (pc := 134) (tgt := 142) C dX6_build_134 rfl ?_ ?_
      · refine j_iload (pc := 137) C dX6_build_137 5 rfl ?_
        refine j_goto (pc := 139) (tgt := 144) C dX6_build_139 rfl ?_
        exact j_ireturn C rfl rfl rfl rfl dX6_build_144
      · refine j_iload (pc := 142) C dX6_build_142 6 rfl ?_
        exact j_ireturn C rfl rfl rfl rfl dX6_build_144
    · refine j_aload_n (pc := 70) C dX6_build_70 rfl 0 rfl ?_
      refine gf_X6_18 (pc := 71) C dX6_build_71 ?_
      refine j_aload_n (pc := 74) C dX6_build_74 rfl 0 rfl ?_
      refine gf_X6_12 (pc := 75) C dX6_build_75 ?_
      refine j_bI (fun s1 es1 => ?_)
      refine j_callV0 (pc := 78) C (obX5 is40) rfl rfl (X5_takeFrom_m _ hj is40 is20 es1) kV_X6_151 rfl (by omega) rfl (Nat.le_of_ble_eq_true rfl) dX6_build_78 ?_
      refine j_aload_n (pc := 81) C dX6_build_81 rfl 0 rfl ?_
      refine gf_X6_18 (pc := 82) C dX6_build_82 ?_
      refine j_iload (pc := 85) C dX6_build_85 7 rfl ?_
      refine j_iload_n (pc := 87) C dX6_build_87 rfl 1 rfl ?_
      refine j_iload_n (pc := 88) C dX6_build_88 rfl 2 rfl ?_
      refine j_iload_n (pc := 89) C dX6_build_89 rfl 3 rfl ?_
      refine j_bI (fun s2 es2 => ?_)
      refine j_callV0 (pc := 90) C (obX5 is40) rfl rfl (X5_insert_m _ hj is40 es2) kV_X6_83 rfl (by omega) rfl (Nat.le_of_ble_eq_true rfl) dX6_build_90 ?_
      refine j_aload_n (pc := 93) C dX6_build_93 rfl 0 rfl ?_
      refine gf_X6_18 (pc := 94) C dX6_build_94 ?_
      refine j_bipush (pc := 97) C dX6_build_97 (by decide) ?_
      refine j_bI (fun s3 es3 => ?_)
      refine j_callV0 (pc := 99) C (obX5 is40) rfl rfl (X5_go_m _ hj is40 es3) kV_X6_147 rfl (by omega) rfl (Nat.le_of_ble_eq_true rfl) dX6_build_99 ?_
      refine j_aload_n (pc := 102) C dX6_build_102 rfl 0 rfl ?_
      refine gf_X6_18 (pc := 103) C dX6_build_103 ?_
      refine j_bI (fun v1 ev1 => ?_)
      refine j_callV1 (pc := 106) C (obX5 is40) rfl rfl (X5_total_m _ hj is40 ev1) kV_X6_144 rfl (by omega) rfl (Nat.le_of_ble_eq_true rfl) dX6_build_106 ?_
      refine j_istore (pc := 109) C hN dX6_build_109 (by decide) (lv' := [(8, .int (oI v1)), (0, .ref (G.2.2.1 0)), (1, .int (oI l1)), (2, .int (oI l2)), (3, .int (oI l3)), (4, .int (oI l4)), (5, .int (oI l5)), (6, .int (oI l6)), (7, .int (oI l7))]) rfl ?_
      refine j_iload (pc := 111) C dX6_build_111 0 rfl ?_
      refine j_iload (pc := 113) C dX6_build_113 7 rfl ?_
      refine j_icmp_le (pc := 115) (tgt := 126) C dX6_build_115 rfl ?_ ?_
      · refine j_iinc (pc := 126) C hN dX6_build_126 8 rfl (by decide) (lv' := [(7, .int (oI (l7 + 1))), (8, .int (oI v1)), (0, .ref (G.2.2.1 0)), (1, .int (oI l1)), (2, .int (oI l2)), (3, .int (oI l3)), (4, .int (oI l4)), (5, .int (oI l5)), (6, .int (oI l6))]) rfl ?_
        refine j_goto (pc := 129) (tgt := 58) C dX6_build_129 rfl ?_
        exact j_sub [2, 3, 4, 5, 6, 7, 8, 0] rfl (ih _ _ _ _)
      · refine j_iload (pc := 118) C dX6_build_118 0 rfl ?_
        refine j_istore (pc := 120) C hN dX6_build_120 (by decide) (lv' := [(6, .int (oI v1)), (8, .int (oI v1)), (0, .ref (G.2.2.1 0)), (1, .int (oI l1)), (2, .int (oI l2)), (3, .int (oI l3)), (4, .int (oI l4)), (5, .int (oI l5)), (7, .int (oI l7))]) rfl ?_
        refine j_iload (pc := 122) C dX6_build_122 8 rfl ?_
        refine j_istore (pc := 124) C hN dX6_build_124 (by decide) (lv' := [(5, .int (oI l7)), (6, .int (oI v1)), (8, .int (oI v1)), (0, .ref (G.2.2.1 0)), (1, .int (oI l1)), (2, .int (oI l2)), (3, .int (oI l3)), (4, .int (oI l4)), (7, .int (oI l7))]) rfl ?_
        refine j_iinc (pc := 126) C hN dX6_build_126 8 rfl (by decide) (lv' := [(7, .int (oI (l7 + 1))), (5, .int (oI l7)), (6, .int (oI v1)), (8, .int (oI v1)), (0, .ref (G.2.2.1 0)), (1, .int (oI l1)), (2, .int (oI l2)), (3, .int (oI l3)), (4, .int (oI l4))]) rfl ?_
        refine j_goto (pc := 129) (tgt := 58) C dX6_build_129 rfl ?_
        exact j_sub [4, 5, 6, 7, 8, 1, 2, 0] rfl (ih _ _ _ _)
set_option maxHeartbeats 4000000 in
set_option maxRecDepth 100000 in
theorem X6_build_m (l : Launch) {G : GD} (hj : zInj sC G) {st : PS} {l1 l2 l3 l4 : Int} {r : (Int × PS)} (hr : X6_build st l1 l2 l3 l4 = some r) : zM l sC G yX6_build cX6_build 9 (some .int) 6 [.ref (G.2.2.1 0), .int (oI l1), .int (oI l2), .int (oI l3), .int (oI l4)] st (some (.int (oI r.1))) r.2 :=
  zEnter (f := fI) hr hj (by decide) rfl (lv := [(0, .ref (G.2.2.1 0)), (1, .int (oI l1)), (2, .int (oI l2)), (3, .int (oI l3)), (4, .int (oI l4))]) rfl (Nat.le_of_ble_eq_true rfl) (fun X _ hN C => by
    unfold X6_build
    refine j_iload_n (pc := 0) C dX6_build_0 rfl 1 rfl ?_
    refine j_callS1 (pc := 1) C (X6_isKind_m _ hj rfl) kS_X6_69 rfl (by omega) rfl (Nat.le_of_ble_eq_true rfl) dX6_build_1 ?_
    refine j_if_eq (pc := 4) (tgt := 15) C dX6_build_4 rfl ?_ ?_
    · refine j_iconst (pc := 15) C dX6_build_15 ?_
      exact j_ireturn C rfl rfl rfl rfl dX6_build_16
    · refine j_iload (pc := 7) C dX6_build_7 4 rfl ?_
      refine j_callS1 (pc := 9) C (X6_isWhich_m _ hj rfl) kS_X6_160 rfl (by omega) rfl (Nat.le_of_ble_eq_true rfl) dX6_build_9 ?_
      refine j_if_ne (pc := 12) (tgt := 17) C dX6_build_12 rfl ?_ ?_
      · refine j_iconst (pc := 15) C dX6_build_15 ?_
        exact j_ireturn C rfl rfl rfl rfl dX6_build_16
      · refine j_iload_n (pc := 17) C dX6_build_17 rfl 2 rfl ?_
        refine j_callS1 (pc := 18) C (X6_isV_m _ hj rfl) kS_X6_73 rfl (by omega) rfl (Nat.le_of_ble_eq_true rfl) dX6_build_18 ?_
        refine j_if_eq (pc := 21) (tgt := 31) C dX6_build_21 rfl ?_ ?_
        · refine j_bipush (pc := 31) C dX6_build_31 (by decide) ?_
          exact j_ireturn C rfl rfl rfl rfl dX6_build_33
        · refine j_iload_n (pc := 24) C dX6_build_24 rfl 3 rfl ?_
          refine j_callS1 (pc := 25) C (X6_isEarned_m _ hj rfl) kS_X6_76 rfl (by omega) rfl (Nat.le_of_ble_eq_true rfl) dX6_build_25 ?_
          refine j_if_ne (pc := 28) (tgt := 34) C dX6_build_28 rfl ?_ ?_
          · refine j_bipush (pc := 31) C dX6_build_31 (by decide) ?_
            exact j_ireturn C rfl rfl rfl rfl dX6_build_33
          · refine j_aload_n (pc := 34) C dX6_build_34 rfl 0 rfl ?_
            refine gf_X6_12 (pc := 35) C dX6_build_35 ?_
            refine gf_X6_79 (pc := 38) C is20 dX6_build_38 ?_
            refine j_bipush (pc := 41) C dX6_build_41 (by decide) ?_
            refine j_icmp_lt (pc := 43) (tgt := 49) C dX6_build_43 rfl ?_ ?_
            · refine j_iconst (pc := 49) C dX6_build_49 ?_
              refine j_istore (pc := 50) C hN dX6_build_50 (by decide) (lv' := [(5, .int (oI 0)), (0, .ref (G.2.2.1 0)), (1, .int (oI l1)), (2, .int (oI l2)), (3, .int (oI l3)), (4, .int (oI l4))]) rfl ?_
              refine j_iconst (pc := 52) C dX6_build_52 ?_
              refine j_istore (pc := 53) C hN dX6_build_53 (by decide) (lv' := [(6, .int (oI (-1))), (5, .int (oI 0)), (0, .ref (G.2.2.1 0)), (1, .int (oI l1)), (2, .int (oI l2)), (3, .int (oI l3)), (4, .int (oI l4))]) rfl ?_
              refine j_iconst (pc := 55) C dX6_build_55 ?_
              refine j_istore (pc := 56) C hN dX6_build_56 (by decide) (lv' := [(7, .int (oI 0)), (6, .int (oI (-1))), (5, .int (oI 0)), (0, .ref (G.2.2.1 0)), (1, .int (oI l1)), (2, .int (oI l2)), (3, .int (oI l3)), (4, .int (oI l4))]) rfl ?_
              exact j_sub [3, 4, 5, 6, 7, 2, 1, 0] rfl (X6_build_L58_j C hN hj FU _ _ _ _)
            · refine j_bipush (pc := 46) C dX6_build_46 (by decide) ?_
              exact j_ireturn C rfl rfl rfl rfl dX6_build_48)
def X6_down_L18 (l1 : Int) : Nat → PS → Int → Int → Int → Option (Int × PS)
  | 0, _, _, _, _ => none
  | k + 1, st, l2, l3, l4 => if wI (st 20 0) ≤ wI l4 then if wI l1 = 0 then some (l2, st) else (some (l3, st)) else (bI (X5_takeFrom 40 20 st) (fun s1 => bI (X5_remove 40 s1 l4) (fun s2 => bI (X5_go 40 s2 20) (fun s3 => bI (X5_total 40 s3) (fun v1 => if wI v1 ≤ wI l3 then X6_down_L18 l1 k s3 l2 l3 (l4 + 1) else (X6_down_L18 l1 k s3 l4 v1 (l4 + 1)))))))
def X6_down (st : PS) (l1 : Int) : Option (Int × PS) := if wI (X6_isWhich st l1) = 0 then some ((-1), st) else (X6_down_L18 l1 FU st (-5) (-5) 0)
set_option maxHeartbeats 4000000 in
set_option maxRecDepth 100000 in
theorem X6_down_L18_j {X : JX} {G : GD} (C : zC X sC G RX6 cX6_down (some .int) 6) (hN : X.2.2.2.2.2.2.2.2.2.2.2.2 = 6) (hj : zInj sC G) {l1 : Int} : ∀ (k : Nat) (st : PS) (l2 : Int) (l3 : Int) (l4 : Int), J X (zI sC G) (zQ sC G fI) st [(0, .ref (G.2.2.1 0)), (1, .int (oI l1)), (2, .int (oI l2)), (3, .int (oI l3)), (4, .int (oI l4))] 18 [] (X6_down_L18 l1 k st l2 l3 l4) := by
  intro k
  induction k with
  | zero => intro st l2 l3 l4; exact j_none
  | succ k ih =>
    intro st l2 l3 l4
    rw [X6_down_L18]
    refine j_iload (pc := 18) C dX6_down_18 4 rfl ?_
    refine j_aload_n (pc := 20) C dX6_down_20 rfl 0 rfl ?_
    refine gf_X6_12 (pc := 21) C dX6_down_21 ?_
    refine gf_X6_79 (pc := 24) C is20 dX6_down_24 ?_
    refine j_icmp_ge (pc := 27) (tgt := 86) C dX6_down_27 rfl ?_ ?_
    · refine j_iload_n (pc := 86) C dX6_down_86 rfl 1 rfl ?_
      refine j_if_ne (pc := 87) (tgt := 94) C dX6_down_87 rfl ?_ ?_
      · refine j_iload_n (pc := 90) C dX6_down_90 rfl 2 rfl ?_
        refine j_goto (pc := 91) (tgt := 95) C dX6_down_91 rfl ?_
        exact j_ireturn C rfl rfl rfl rfl dX6_down_95
      · refine j_iload_n (pc := 94) C dX6_down_94 rfl 3 rfl ?_
        exact j_ireturn C rfl rfl rfl rfl dX6_down_95
    · refine j_aload_n (pc := 30) C dX6_down_30 rfl 0 rfl ?_
      refine gf_X6_18 (pc := 31) C dX6_down_31 ?_
      refine j_aload_n (pc := 34) C dX6_down_34 rfl 0 rfl ?_
      refine gf_X6_12 (pc := 35) C dX6_down_35 ?_
      refine j_bI (fun s1 es1 => ?_)
      refine j_callV0 (pc := 38) C (obX5 is40) rfl rfl (X5_takeFrom_m _ hj is40 is20 es1) kV_X6_151 rfl (by omega) rfl (Nat.le_of_ble_eq_true rfl) dX6_down_38 ?_
      refine j_aload_n (pc := 41) C dX6_down_41 rfl 0 rfl ?_
      refine gf_X6_18 (pc := 42) C dX6_down_42 ?_
      refine j_iload (pc := 45) C dX6_down_45 4 rfl ?_
      refine j_bI (fun s2 es2 => ?_)
      refine j_callV0 (pc := 47) C (obX5 is40) rfl rfl (X5_remove_m _ hj is40 es2) kV_X6_167 rfl (by omega) rfl (Nat.le_of_ble_eq_true rfl) dX6_down_47 ?_
      refine j_aload_n (pc := 50) C dX6_down_50 rfl 0 rfl ?_
      refine gf_X6_18 (pc := 51) C dX6_down_51 ?_
      refine j_bipush (pc := 54) C dX6_down_54 (by decide) ?_
      refine j_bI (fun s3 es3 => ?_)
      refine j_callV0 (pc := 56) C (obX5 is40) rfl rfl (X5_go_m _ hj is40 es3) kV_X6_147 rfl (by omega) rfl (Nat.le_of_ble_eq_true rfl) dX6_down_56 ?_
      refine j_aload_n (pc := 59) C dX6_down_59 rfl 0 rfl ?_
      refine gf_X6_18 (pc := 60) C dX6_down_60 ?_
      refine j_bI (fun v1 ev1 => ?_)
      refine j_callV1 (pc := 63) C (obX5 is40) rfl rfl (X5_total_m _ hj is40 ev1) kV_X6_144 rfl (by omega) rfl (Nat.le_of_ble_eq_true rfl) dX6_down_63 ?_
      refine j_istore (pc := 66) C hN dX6_down_66 (by decide) (lv' := [(5, .int (oI v1)), (0, .ref (G.2.2.1 0)), (1, .int (oI l1)), (2, .int (oI l2)), (3, .int (oI l3)), (4, .int (oI l4))]) rfl ?_
      refine j_iload (pc := 68) C dX6_down_68 0 rfl ?_
      refine j_iload_n (pc := 70) C dX6_down_70 rfl 4 rfl ?_
      refine j_icmp_le (pc := 71) (tgt := 80) C dX6_down_71 rfl ?_ ?_
      · refine j_iinc (pc := 80) C hN dX6_down_80 5 rfl (by decide) (lv' := [(4, .int (oI (l4 + 1))), (5, .int (oI v1)), (0, .ref (G.2.2.1 0)), (1, .int (oI l1)), (2, .int (oI l2)), (3, .int (oI l3))]) rfl ?_
        refine j_goto (pc := 83) (tgt := 18) C dX6_down_83 rfl ?_
        exact j_sub [2, 3, 4, 5, 0] rfl (ih _ _ _ _)
      · refine j_iload (pc := 74) C dX6_down_74 0 rfl ?_
        refine j_istore_n (pc := 76) C hN dX6_down_76 rfl (by decide) (lv' := [(3, .int (oI v1)), (5, .int (oI v1)), (0, .ref (G.2.2.1 0)), (1, .int (oI l1)), (2, .int (oI l2)), (4, .int (oI l4))]) rfl ?_
        refine j_iload (pc := 77) C dX6_down_77 5 rfl ?_
        refine j_istore_n (pc := 79) C hN dX6_down_79 rfl (by decide) (lv' := [(2, .int (oI l4)), (3, .int (oI v1)), (5, .int (oI v1)), (0, .ref (G.2.2.1 0)), (1, .int (oI l1)), (4, .int (oI l4))]) rfl ?_
        refine j_iinc (pc := 80) C hN dX6_down_80 5 rfl (by decide) (lv' := [(4, .int (oI (l4 + 1))), (2, .int (oI l4)), (3, .int (oI v1)), (5, .int (oI v1)), (0, .ref (G.2.2.1 0)), (1, .int (oI l1))]) rfl ?_
        refine j_goto (pc := 83) (tgt := 18) C dX6_down_83 rfl ?_
        exact j_sub [4, 5, 1, 2, 0] rfl (ih _ _ _ _)
set_option maxHeartbeats 4000000 in
set_option maxRecDepth 100000 in
theorem X6_down_m (l : Launch) {G : GD} (hj : zInj sC G) {st : PS} {l1 : Int} {r : (Int × PS)} (hr : X6_down st l1 = some r) : zM l sC G yX6_down cX6_down 6 (some .int) 6 [.ref (G.2.2.1 0), .int (oI l1)] st (some (.int (oI r.1))) r.2 :=
  zEnter (f := fI) hr hj (by decide) rfl (lv := [(0, .ref (G.2.2.1 0)), (1, .int (oI l1))]) rfl (Nat.le_of_ble_eq_true rfl) (fun X _ hN C => by
    unfold X6_down
    refine j_iload_n (pc := 0) C dX6_down_0 rfl 1 rfl ?_
    refine j_callS1 (pc := 1) C (X6_isWhich_m _ hj rfl) kS_X6_160 rfl (by omega) rfl (Nat.le_of_ble_eq_true rfl) dX6_down_1 ?_
    refine j_if_ne (pc := 4) (tgt := 9) C dX6_down_4 rfl ?_ ?_
    · refine j_iconst (pc := 7) C dX6_down_7 ?_
      exact j_ireturn C rfl rfl rfl rfl dX6_down_8
    · refine j_bipush (pc := 9) C dX6_down_9 (by decide) ?_
      refine j_istore_n (pc := 11) C hN dX6_down_11 rfl (by decide) (lv' := [(2, .int (oI (-5))), (0, .ref (G.2.2.1 0)), (1, .int (oI l1))]) rfl ?_
      refine j_bipush (pc := 12) C dX6_down_12 (by decide) ?_
      refine j_istore_n (pc := 14) C hN dX6_down_14 rfl (by decide) (lv' := [(3, .int (oI (-5))), (2, .int (oI (-5))), (0, .ref (G.2.2.1 0)), (1, .int (oI l1))]) rfl ?_
      refine j_iconst (pc := 15) C dX6_down_15 ?_
      refine j_istore (pc := 16) C hN dX6_down_16 (by decide) (lv' := [(4, .int (oI 0)), (3, .int (oI (-5))), (2, .int (oI (-5))), (0, .ref (G.2.2.1 0)), (1, .int (oI l1))]) rfl ?_
      exact j_sub [3, 4, 2, 1, 0] rfl (X6_down_L18_j C hN hj FU _ _ _ _))
def X6_listValues_L4  : Nat → PS → Int → Int → Option (Int × PS)
  | 0, _, _, _ => none
  | k + 1, st, l1, l2 => if wI 99 < wI l2 then some (l1, st) else (bI (X5_someEarns 20 st l2) (fun v1 => if wI v1 = 0 then X6_listValues_L4 k st l1 (l2 + 1) else (if wI 7 ≤ wI l1 then X6_listValues_L4 k st l1 (l2 + 1) else (bI (zwr st 12 7 l1 l2) (fun s3 => X6_listValues_L4 k s3 (l1 + 1) (l2 + 1))))))
def X6_listValues (st : PS) : Option (Int × PS) := X6_listValues_L4 FU st 0 0
set_option maxHeartbeats 4000000 in
set_option maxRecDepth 100000 in
theorem X6_listValues_L4_j {X : JX} {G : GD} (C : zC X sC G RX6 cX6_listValues (some .int) 1) (hN : X.2.2.2.2.2.2.2.2.2.2.2.2 = 3) (hj : zInj sC G)  : ∀ (k : Nat) (st : PS) (l1 : Int) (l2 : Int), J X (zI sC G) (zQ sC G fI) st [(0, .ref (G.2.2.1 0)), (1, .int (oI l1)), (2, .int (oI l2))] 4 [] (X6_listValues_L4 k st l1 l2) := by
  intro k
  induction k with
  | zero => intro st l1 l2; exact j_none
  | succ k ih =>
    intro st l1 l2
    rw [X6_listValues_L4]
    refine j_iload_n (pc := 4) C dX6_listValues_4 rfl 2 rfl ?_
    refine j_bipush (pc := 5) C dX6_listValues_5 (by decide) ?_
    refine j_icmp_gt (pc := 7) (tgt := 43) C dX6_listValues_7 rfl ?_ ?_
    · refine j_iload_n (pc := 43) C dX6_listValues_43 rfl 1 rfl ?_
      exact j_ireturn C rfl rfl rfl rfl dX6_listValues_44
    · refine j_aload_n (pc := 10) C dX6_listValues_10 rfl 0 rfl ?_
      refine gf_X6_12 (pc := 11) C dX6_listValues_11 ?_
      refine j_iload_n (pc := 14) C dX6_listValues_14 rfl 2 rfl ?_
      refine j_bI (fun v1 ev1 => ?_)
      refine j_callV1 (pc := 15) C (obX5 is20) rfl rfl (X5_someEarns_m _ hj is20 ev1) kV_X6_262 rfl (by omega) rfl (Nat.le_of_ble_eq_true rfl) dX6_listValues_15 ?_
      refine j_if_eq (pc := 18) (tgt := 37) C dX6_listValues_18 rfl ?_ ?_
      · refine j_iinc (pc := 37) C hN dX6_listValues_37 2 rfl (by decide) (lv' := [(2, .int (oI (l2 + 1))), (0, .ref (G.2.2.1 0)), (1, .int (oI l1))]) rfl ?_
        refine j_goto (pc := 40) (tgt := 4) C dX6_listValues_40 rfl ?_
        exact j_sub [1, 2, 0] rfl (ih _ _ _)
      · refine j_iload_n (pc := 21) C dX6_listValues_21 rfl 1 rfl ?_
        refine j_bipush (pc := 22) C dX6_listValues_22 (by decide) ?_
        refine j_icmp_ge (pc := 24) (tgt := 37) C dX6_listValues_24 rfl ?_ ?_
        · refine j_iinc (pc := 37) C hN dX6_listValues_37 2 rfl (by decide) (lv' := [(2, .int (oI (l2 + 1))), (0, .ref (G.2.2.1 0)), (1, .int (oI l1))]) rfl ?_
          refine j_goto (pc := 40) (tgt := 4) C dX6_listValues_40 rfl ?_
          exact j_sub [1, 2, 0] rfl (ih _ _ _)
        · refine j_aload_n (pc := 27) C dX6_listValues_27 rfl 0 rfl ?_
          refine gf_X6_64 (pc := 28) C dX6_listValues_28 ?_
          refine j_iload_n (pc := 31) C dX6_listValues_31 rfl 1 rfl ?_
          refine j_iload_n (pc := 32) C dX6_listValues_32 rfl 2 rfl ?_
          refine j_bI (fun s3 es3 => ?_)
          refine j_iast (pc := 33) C arX6_12 es3 dX6_listValues_33 ?_
          refine j_iinc (pc := 34) C hN dX6_listValues_34 1 rfl (by decide) (lv' := [(1, .int (oI (l1 + 1))), (0, .ref (G.2.2.1 0)), (2, .int (oI l2))]) rfl ?_
          refine j_iinc (pc := 37) C hN dX6_listValues_37 2 rfl (by decide) (lv' := [(2, .int (oI (l2 + 1))), (1, .int (oI (l1 + 1))), (0, .ref (G.2.2.1 0))]) rfl ?_
          refine j_goto (pc := 40) (tgt := 4) C dX6_listValues_40 rfl ?_
          exact j_sub [2, 1, 0] rfl (ih _ _ _)
set_option maxHeartbeats 4000000 in
set_option maxRecDepth 100000 in
theorem X6_listValues_m (l : Launch) {G : GD} (hj : zInj sC G) {st : PS} {r : (Int × PS)} (hr : X6_listValues st = some r) : zM l sC G yX6_listValues cX6_listValues 3 (some .int) 1 [.ref (G.2.2.1 0)] st (some (.int (oI r.1))) r.2 :=
  zEnter (f := fI) hr hj (by decide) rfl (lv := [(0, .ref (G.2.2.1 0))]) rfl (Nat.le_of_ble_eq_true rfl) (fun X _ hN C => by
    unfold X6_listValues
    refine j_iconst (pc := 0) C dX6_listValues_0 ?_
    refine j_istore_n (pc := 1) C hN dX6_listValues_1 rfl (by decide) (lv' := [(1, .int (oI 0)), (0, .ref (G.2.2.1 0))]) rfl ?_
    refine j_iconst (pc := 2) C dX6_listValues_2 ?_
    refine j_istore_n (pc := 3) C hN dX6_listValues_3 rfl (by decide) (lv' := [(2, .int (oI 0)), (1, .int (oI 0)), (0, .ref (G.2.2.1 0))]) rfl ?_
    exact j_sub [2, 1, 0] rfl (X6_listValues_L4_j C hN hj FU _ _ _))
def X6_setLaterRow_L13 (l2 : Int) : Nat → PS → Int → Int → Option PS
  | 0, _, _, _ => none
  | k + 1, st, l3, l4 => if wI l4 < 0 then some st else (if wI l2 ≤ 0 then some st else (znz l2 (bI (zrd st 12 7 (zrem l3 l2)) (fun v1 => bI (zwr st (40 + 5) 7 l4 v1) (fun s1 => znz l2 (X6_setLaterRow_L13 l2 k s1 (zdiv l3 l2) (l4 + (-1))))))))
def X6_setLaterRow (st : PS) (l1 l2 : Int) : Option PS := X6_setLaterRow_L13 l2 FU st l1 ((st 20 0) - 1)
set_option maxHeartbeats 4000000 in
set_option maxRecDepth 100000 in
theorem X6_setLaterRow_L13_j {X : JX} {G : GD} (C : zC X sC G RX6 cX6_setLaterRow none 0) (hN : X.2.2.2.2.2.2.2.2.2.2.2.2 = 5) (hj : zInj sC G) {l2 : Int} : ∀ (k : Nat) (st : PS) (l3 : Int) (l4 : Int), J X (zI sC G) (zQ sC G fV) st [(0, .ref (G.2.2.1 0)), (2, .int (oI l2)), (3, .int (oI l3)), (4, .int (oI l4))] 13 [] (X6_setLaterRow_L13 l2 k st l3 l4) := by
  intro k
  induction k with
  | zero => intro st l3 l4; exact j_none
  | succ k ih =>
    intro st l3 l4
    rw [X6_setLaterRow_L13]
    refine j_iload (pc := 13) C dX6_setLaterRow_13 3 rfl ?_
    refine j_if_lt (pc := 15) (tgt := 50) C dX6_setLaterRow_15 rfl ?_ ?_
    · exact j_return C rfl rfl dX6_setLaterRow_50
    · refine j_iload_n (pc := 18) C dX6_setLaterRow_18 rfl 1 rfl ?_
      refine j_if_le (pc := 19) (tgt := 50) C dX6_setLaterRow_19 rfl ?_ ?_
      · exact j_return C rfl rfl dX6_setLaterRow_50
      · refine j_aload_n (pc := 22) C dX6_setLaterRow_22 rfl 0 rfl ?_
        refine gf_X6_18 (pc := 23) C dX6_setLaterRow_23 ?_
        refine gf_X6_96 (pc := 26) C is40 dX6_setLaterRow_26 ?_
        refine j_iload (pc := 29) C dX6_setLaterRow_29 3 rfl ?_
        refine j_aload_n (pc := 31) C dX6_setLaterRow_31 rfl 0 rfl ?_
        refine gf_X6_64 (pc := 32) C dX6_setLaterRow_32 ?_
        refine j_iload_n (pc := 35) C dX6_setLaterRow_35 rfl 2 rfl ?_
        refine j_iload_n (pc := 36) C dX6_setLaterRow_36 rfl 1 rfl ?_
        refine j_nz (fun hz => ?_)
        refine j_irem (pc := 37) C hz dX6_setLaterRow_37 ?_
        refine j_bI (fun v1 ev1 => ?_)
        refine j_iald (pc := 38) C arX6_12 ev1 dX6_setLaterRow_38 ?_
        refine j_bI (fun s1 es1 => ?_)
        refine j_iast (pc := 39) C (arX5_5 is40) es1 dX6_setLaterRow_39 ?_
        refine j_iload_n (pc := 40) C dX6_setLaterRow_40 rfl 2 rfl ?_
        refine j_iload_n (pc := 41) C dX6_setLaterRow_41 rfl 1 rfl ?_
        refine j_nz (fun hz => ?_)
        refine j_idiv (pc := 42) C hz dX6_setLaterRow_42 ?_
        refine j_istore_n (pc := 43) C hN dX6_setLaterRow_43 rfl (by decide) (lv' := [(3, .int (oI (zdiv l3 l2))), (0, .ref (G.2.2.1 0)), (2, .int (oI l2)), (4, .int (oI l4))]) rfl ?_
        refine j_iinc (pc := 44) C hN dX6_setLaterRow_44 3 rfl (by decide) (lv' := [(4, .int (oI (l4 + (-1)))), (3, .int (oI (zdiv l3 l2))), (0, .ref (G.2.2.1 0)), (2, .int (oI l2))]) rfl ?_
        refine j_goto (pc := 47) (tgt := 13) C dX6_setLaterRow_47 rfl ?_
        exact j_sub [2, 3, 1, 0] rfl (ih _ _ _)
set_option maxHeartbeats 4000000 in
set_option maxRecDepth 100000 in
theorem X6_setLaterRow_m (l : Launch) {G : GD} (hj : zInj sC G) {st : PS} {l1 l2 : Int} {r : PS} (hr : X6_setLaterRow st l1 l2 = some r) : zM l sC G yX6_setLaterRow cX6_setLaterRow 5 none 0 [.ref (G.2.2.1 0), .int (oI l1), .int (oI l2)] st none r :=
  zEnter (f := fV) hr hj (by decide) rfl (lv := [(0, .ref (G.2.2.1 0)), (1, .int (oI l1)), (2, .int (oI l2))]) rfl (Nat.le_of_ble_eq_true rfl) (fun X _ hN C => by
    unfold X6_setLaterRow
    refine j_iload_n (pc := 0) C dX6_setLaterRow_0 rfl 1 rfl ?_
    refine j_istore_n (pc := 1) C hN dX6_setLaterRow_1 rfl (by decide) (lv' := [(3, .int (oI l1)), (0, .ref (G.2.2.1 0)), (1, .int (oI l1)), (2, .int (oI l2))]) rfl ?_
    refine j_aload_n (pc := 2) C dX6_setLaterRow_2 rfl 1 rfl ?_
    refine gf_X6_12 (pc := 3) C dX6_setLaterRow_3 ?_
    refine gf_X6_79 (pc := 6) C is20 dX6_setLaterRow_6 ?_
    refine j_iconst (pc := 9) C dX6_setLaterRow_9 ?_
    refine j_isub (pc := 10) C dX6_setLaterRow_10 ?_
    refine j_istore (pc := 11) C hN dX6_setLaterRow_11 (by decide) (lv' := [(4, .int (oI ((st 20 0) - 1))), (3, .int (oI l1)), (0, .ref (G.2.2.1 0)), (1, .int (oI l1)), (2, .int (oI l2))]) rfl ?_
    exact j_sub [2, 4, 1, 0] rfl (X6_setLaterRow_L13_j C hN hj FU _ _ _))
def X6_laterAsNow_L2  (st : PS) : Nat → Int → Option Int
  | 0, _ => none
  | k + 1, l1 => if wI (st 20 0) ≤ wI l1 then some 1 else (bI (zrd st (40 + 5) 7 l1) (fun v1 => bI (zrd st (20 + 5) 7 l1) (fun v2 => if wI v1 = wI v2 then X6_laterAsNow_L2 st k (l1 + 1) else (some 0))))
def X6_laterAsNow (st : PS) : Option Int := X6_laterAsNow_L2 st FU 0
set_option maxHeartbeats 4000000 in
set_option maxRecDepth 100000 in
theorem X6_laterAsNow_L2_j {X : JX} {G : GD} (C : zC X sC G RX6 cX6_laterAsNow (some .boolean) 0) (hN : X.2.2.2.2.2.2.2.2.2.2.2.2 = 2) (hj : zInj sC G)  {st : PS} : ∀ (k : Nat) (l1 : Int), J X (zI sC G) (zQ sC G (fR st)) st [(0, .ref (G.2.2.1 0)), (1, .int (oI l1))] 2 [] (X6_laterAsNow_L2 st k l1) := by
  intro k
  induction k with
  | zero => intro l1; exact j_none
  | succ k ih =>
    intro l1
    rw [X6_laterAsNow_L2]
    refine j_iload_n (pc := 2) C dX6_laterAsNow_2 rfl 1 rfl ?_
    refine j_aload_n (pc := 3) C dX6_laterAsNow_3 rfl 0 rfl ?_
    refine gf_X6_12 (pc := 4) C dX6_laterAsNow_4 ?_
    refine gf_X6_79 (pc := 7) C is20 dX6_laterAsNow_7 ?_
    refine j_icmp_ge (pc := 10) (tgt := 42) C dX6_laterAsNow_10 rfl ?_ ?_
    · refine j_iconst (pc := 42) C dX6_laterAsNow_42 ?_
      exact j_ireturn C rfl rfl (znar (Or.inr rfl)) rfl dX6_laterAsNow_43
    · refine j_aload_n (pc := 13) C dX6_laterAsNow_13 rfl 0 rfl ?_
      refine gf_X6_18 (pc := 14) C dX6_laterAsNow_14 ?_
      refine gf_X6_96 (pc := 17) C is40 dX6_laterAsNow_17 ?_
      refine j_iload_n (pc := 20) C dX6_laterAsNow_20 rfl 1 rfl ?_
      refine j_bI (fun v1 ev1 => ?_)
      refine j_iald (pc := 21) C (arX5_5 is40) ev1 dX6_laterAsNow_21 ?_
      refine j_aload_n (pc := 22) C dX6_laterAsNow_22 rfl 0 rfl ?_
      refine gf_X6_12 (pc := 23) C dX6_laterAsNow_23 ?_
      refine gf_X6_96 (pc := 26) C is20 dX6_laterAsNow_26 ?_
      refine j_iload_n (pc := 29) C dX6_laterAsNow_29 rfl 1 rfl ?_
      refine j_bI (fun v2 ev2 => ?_)
      refine j_iald (pc := 30) C (arX5_5 is20) ev2 dX6_laterAsNow_30 ?_
      refine j_icmp_eq (pc := 31) (tgt := 36) C dX6_laterAsNow_31 rfl ?_ ?_
      · refine j_iinc (pc := 36) C hN dX6_laterAsNow_36 1 rfl (by decide) (lv' := [(1, .int (oI (l1 + 1))), (0, .ref (G.2.2.1 0))]) rfl ?_
        refine j_goto (pc := 39) (tgt := 2) C dX6_laterAsNow_39 rfl ?_
        exact j_sub [1, 0] rfl (ih _)
      · refine j_iconst (pc := 34) C dX6_laterAsNow_34 ?_
        exact j_ireturn C rfl rfl (znar (Or.inl rfl)) rfl dX6_laterAsNow_35
set_option maxHeartbeats 4000000 in
set_option maxRecDepth 100000 in
theorem X6_laterAsNow_m (l : Launch) {G : GD} (hj : zInj sC G) {st : PS} {r : Int} (hr : X6_laterAsNow st = some r) : zM l sC G yX6_laterAsNow cX6_laterAsNow 2 (some .boolean) 0 [.ref (G.2.2.1 0)] st (some (.int (oI r))) st :=
  zEnter (f := fR st) hr hj (by decide) rfl (lv := [(0, .ref (G.2.2.1 0))]) rfl (Nat.le_of_ble_eq_true rfl) (fun X _ hN C => by
    unfold X6_laterAsNow
    refine j_iconst (pc := 0) C dX6_laterAsNow_0 ?_
    refine j_istore_n (pc := 1) C hN dX6_laterAsNow_1 rfl (by decide) (lv' := [(1, .int (oI 0)), (0, .ref (G.2.2.1 0))]) rfl ?_
    exact j_sub [1, 0] rfl (X6_laterAsNow_L2_j C hN hj FU _))
def X6_before_L95 (l1 : Int) (l2 : Int) (l3 : Int) : Nat → PS → Int → Int → Int → Option (Int × PS)
  | 0, _, _, _, _ => none
  | k + 1, st, l4, l5, l6 => if wI l3 ≤ wI l6 then if wI l1 = wI (-1) then some (l4, st) else (some (l5, st)) else (bI (X6_setLaterRow st l6 l2) (fun s3 => if wI l1 = wI (-1) then zlet (zu s3 40 1 ((s3 20 1) - 1)) (fun s4 => bI (X5_go 40 s4 1) (fun s5 => bI (X6_laterAsNow s5) (fun v3 => if wI v3 = 0 then X6_before_L95 l1 l2 l3 k s5 l4 l5 (l6 + 1) else (if wI l4 = 0 then X6_before_L95 l1 l2 l3 k s5 (l4 + 1) 0 (l6 + 1) else (X6_before_L95 l1 l2 l3 k s5 (l4 + 1) l5 (l6 + 1)))))) else (bI (zrd s3 (40 + 5) 7 l1) (fun v4 => zlet (zu s3 40 1 ((s3 20 1) - 1)) (fun s6 => bI (X5_go 40 s6 1) (fun s7 => bI (X6_laterAsNow s7) (fun v5 => if wI v5 = 0 then X6_before_L95 l1 l2 l3 k s7 l4 l5 (l6 + 1) else (if wI l4 = 0 then X6_before_L95 l1 l2 l3 k s7 (l4 + 1) v4 (l6 + 1) else (X6_before_L95 l1 l2 l3 k s7 (l4 + 1) l5 (l6 + 1))))))))))
def X6_before_L52 (l1 : Int) (l2 : Int) : Nat → PS → Int → Int → Option (Int × PS)
  | 0, _, _, _ => none
  | k + 1, st, l3, l4 => if wI (st 20 0) ≤ wI l4 then bI (X5_takeFrom 40 20 st) (fun s2 => X6_before_L95 l1 l2 l3 FU s2 0 (-5) 0) else (X6_before_L52 l1 l2 k st (l3 * l2) (l4 + 1))
def X6_before (st : PS) (l1 : Int) : Option (Int × PS) := if wI l1 = wI (-1) then if wI (st 20 0) ≤ wI 4 then if wI (st 20 1) = 0 then some ((-8), st) else (bP (X6_listValues st) (fun v1 s1 => X6_before_L52 l1 v1 FU s1 1 0)) else (some ((-9), st)) else (if wI (X6_isHouse st l1) = 0 then some ((-1), st) else (if wI (st 20 0) ≤ wI 4 then if wI (st 20 1) = 0 then some ((-8), st) else (bP (X6_listValues st) (fun v6 s8 => X6_before_L52 l1 v6 FU s8 1 0)) else (some ((-9), st))))
set_option maxHeartbeats 4000000 in
set_option maxRecDepth 100000 in
theorem X6_before_L95_j {X : JX} {G : GD} (C : zC X sC G RX6 cX6_before (some .int) 6) (hN : X.2.2.2.2.2.2.2.2.2.2.2.2 = 8) (hj : zInj sC G) {l1 : Int} {l2 : Int} {l3 : Int} : ∀ (k : Nat) (st : PS) (l4 : Int) (l5 : Int) (l6 : Int), J X (zI sC G) (zQ sC G fI) st [(0, .ref (G.2.2.1 0)), (1, .int (oI l1)), (2, .int (oI l2)), (3, .int (oI l3)), (4, .int (oI l4)), (5, .int (oI l5)), (6, .int (oI l6))] 95 [] (X6_before_L95 l1 l2 l3 k st l4 l5 l6) := by
  intro k
  induction k with
  | zero => intro st l4 l5 l6; exact j_none
  | succ k ih =>
    intro st l4 l5 l6
    rw [X6_before_L95]
    refine j_iload (pc := 95) C dX6_before_95 6 rfl ?_
    refine j_iload_n (pc := 97) C dX6_before_97 rfl 3 rfl ?_
    refine j_icmp_ge (pc := 98) (tgt := 182) C dX6_before_98 rfl ?_ ?_
    · refine j_iload_n (pc := 182) C dX6_before_182 rfl 1 rfl ?_
      refine j_iconst (pc := 183) C dX6_before_183 ?_
      refine j_icmp_ne (pc := 184) (tgt := 192) C dX6_before_184 rfl ?_ ?_
      · refine j_iload (pc := 187) C dX6_before_187 4 rfl ?_
        refine j_goto (pc := 189) (tgt := 194) C dX6_before_189 rfl ?_
        exact j_ireturn C rfl rfl rfl rfl dX6_before_194
      · refine j_iload (pc := 192) C dX6_before_192 5 rfl ?_
        exact j_ireturn C rfl rfl rfl rfl dX6_before_194
    · refine j_aload_n (pc := 101) C dX6_before_101 rfl 0 rfl ?_
      refine j_iload (pc := 102) C dX6_before_102 6 rfl ?_
      refine j_iload_n (pc := 104) C dX6_before_104 rfl 2 rfl ?_
      refine j_bI (fun s3 es3 => ?_)
      refine j_callV0 (pc := 105) C obX6 rfl rfl (X6_setLaterRow_m _ hj es3) kV_X6_173 rfl (by omega) rfl (Nat.le_of_ble_eq_true rfl) dX6_before_105 ?_
      refine j_iload_n (pc := 108) C dX6_before_108 rfl 1 rfl ?_
      refine j_iconst (pc := 109) C dX6_before_109 ?_
      refine j_icmp_ne (pc := 110) (tgt := 117) C dX6_before_110 rfl ?_ ?_
      · refine j_iconst (pc := 113) C dX6_before_113 ?_
        refine j_goto (pc := 114) (tgt := 126) C dX6_before_114 rfl ?_
        refine j_istore (pc := 126) C hN dX6_before_126 (by decide) (lv' := [(7, .int (oI 0)), (0, .ref (G.2.2.1 0)), (1, .int (oI l1)), (2, .int (oI l2)), (3, .int (oI l3)), (4, .int (oI l4)), (5, .int (oI l5)), (6, .int (oI l6))]) rfl ?_
        refine j_aload_n (pc := 128) C dX6_before_128 rfl 1 rfl ?_
        refine gf_X6_18 (pc := 129) C dX6_before_129 ?_
        refine j_aload_n (pc := 132) C dX6_before_132 rfl 1 rfl ?_
        refine gf_X6_12 (pc := 133) C dX6_before_133 ?_
        refine gf_X6_137 (pc := 136) C is20 dX6_before_136 ?_
        refine j_iconst (pc := 139) C dX6_before_139 ?_
        refine j_isub (pc := 140) C dX6_before_140 ?_
        refine fp_X6_137 (pc := 141) C is40 dX6_before_141 ?_
        refine j_let (fun s4 => ?_)
        refine j_aload_n (pc := 144) C dX6_before_144 rfl 1 rfl ?_
        refine gf_X6_18 (pc := 145) C dX6_before_145 ?_
        refine j_iconst (pc := 148) C dX6_before_148 ?_
        refine j_bI (fun s5 es5 => ?_)
        refine j_callV0 (pc := 149) C (obX5 is40) rfl rfl (X5_go_m _ hj is40 es5) kV_X6_147 rfl (by omega) rfl (Nat.le_of_ble_eq_true rfl) dX6_before_149 ?_
        refine j_aload_n (pc := 152) C dX6_before_152 rfl 1 rfl ?_
        refine j_bI (fun v3 ev3 => ?_)
        refine j_callV1 (pc := 153) C obX6 rfl rfl (X6_laterAsNow_m _ hj ev3) kV_X6_176 rfl (by omega) rfl (Nat.le_of_ble_eq_true rfl) dX6_before_153 ?_
        refine j_if_eq (pc := 156) (tgt := 176) C dX6_before_156 rfl ?_ ?_
        · refine j_iinc (pc := 176) C hN dX6_before_176 7 rfl (by decide) (lv' := [(6, .int (oI (l6 + 1))), (7, .int (oI 0)), (0, .ref (G.2.2.1 0)), (1, .int (oI l1)), (2, .int (oI l2)), (3, .int (oI l3)), (4, .int (oI l4)), (5, .int (oI l5))]) rfl ?_
          refine j_goto (pc := 179) (tgt := 95) C dX6_before_179 rfl ?_
          exact j_sub [2, 3, 4, 5, 6, 7, 0] rfl (ih _ _ _ _)
        · refine j_iload (pc := 159) C dX6_before_159 5 rfl ?_
          refine j_if_ne (pc := 161) (tgt := 169) C dX6_before_161 rfl ?_ ?_
          · refine j_iload (pc := 164) C dX6_before_164 0 rfl ?_
            refine j_goto (pc := 166) (tgt := 171) C dX6_before_166 rfl ?_
            refine j_istore (pc := 171) C hN dX6_before_171 (by decide) (lv' := [(5, .int (oI 0)), (7, .int (oI 0)), (0, .ref (G.2.2.1 0)), (1, .int (oI l1)), (2, .int (oI l2)), (3, .int (oI l3)), (4, .int (oI l4)), (6, .int (oI l6))]) rfl ?_
            refine j_iinc (pc := 173) C hN dX6_before_173 6 rfl (by decide) (lv' := [(4, .int (oI (l4 + 1))), (5, .int (oI 0)), (7, .int (oI 0)), (0, .ref (G.2.2.1 0)), (1, .int (oI l1)), (2, .int (oI l2)), (3, .int (oI l3)), (6, .int (oI l6))]) rfl ?_
            refine j_iinc (pc := 176) C hN dX6_before_176 7 rfl (by decide) (lv' := [(6, .int (oI (l6 + 1))), (4, .int (oI (l4 + 1))), (5, .int (oI 0)), (7, .int (oI 0)), (0, .ref (G.2.2.1 0)), (1, .int (oI l1)), (2, .int (oI l2)), (3, .int (oI l3))]) rfl ?_
            refine j_goto (pc := 179) (tgt := 95) C dX6_before_179 rfl ?_
            exact j_sub [4, 5, 6, 7, 1, 2, 0] rfl (ih _ _ _ _)
          · refine j_iload (pc := 169) C dX6_before_169 6 rfl ?_
            refine j_istore (pc := 171) C hN dX6_before_171 (by decide) (lv' := [(5, .int (oI l5)), (7, .int (oI 0)), (0, .ref (G.2.2.1 0)), (1, .int (oI l1)), (2, .int (oI l2)), (3, .int (oI l3)), (4, .int (oI l4)), (6, .int (oI l6))]) rfl ?_
            refine j_iinc (pc := 173) C hN dX6_before_173 6 rfl (by decide) (lv' := [(4, .int (oI (l4 + 1))), (5, .int (oI l5)), (7, .int (oI 0)), (0, .ref (G.2.2.1 0)), (1, .int (oI l1)), (2, .int (oI l2)), (3, .int (oI l3)), (6, .int (oI l6))]) rfl ?_
            refine j_iinc (pc := 176) C hN dX6_before_176 7 rfl (by decide) (lv' := [(6, .int (oI (l6 + 1))), (4, .int (oI (l4 + 1))), (5, .int (oI l5)), (7, .int (oI 0)), (0, .ref (G.2.2.1 0)), (1, .int (oI l1)), (2, .int (oI l2)), (3, .int (oI l3))]) rfl ?_
            refine j_goto (pc := 179) (tgt := 95) C dX6_before_179 rfl ?_
            exact j_sub [4, 5, 6, 7, 1, 2, 0] rfl (ih _ _ _ _)
      · refine j_aload_n (pc := 117) C dX6_before_117 rfl 0 rfl ?_
        refine gf_X6_18 (pc := 118) C dX6_before_118 ?_
        refine gf_X6_96 (pc := 121) C is40 dX6_before_121 ?_
        refine j_iload_n (pc := 124) C dX6_before_124 rfl 1 rfl ?_
        refine j_bI (fun v4 ev4 => ?_)
        refine j_iald (pc := 125) C (arX5_5 is40) ev4 dX6_before_125 ?_
        refine j_istore (pc := 126) C hN dX6_before_126 (by decide) (lv' := [(7, .int (oI v4)), (0, .ref (G.2.2.1 0)), (1, .int (oI l1)), (2, .int (oI l2)), (3, .int (oI l3)), (4, .int (oI l4)), (5, .int (oI l5)), (6, .int (oI l6))]) rfl ?_
        refine j_aload_n (pc := 128) C dX6_before_128 rfl 1 rfl ?_
        refine gf_X6_18 (pc := 129) C dX6_before_129 ?_
        refine j_aload_n (pc := 132) C dX6_before_132 rfl 1 rfl ?_
        refine gf_X6_12 (pc := 133) C dX6_before_133 ?_
        refine gf_X6_137 (pc := 136) C is20 dX6_before_136 ?_
        refine j_iconst (pc := 139) C dX6_before_139 ?_
        refine j_isub (pc := 140) C dX6_before_140 ?_
        refine fp_X6_137 (pc := 141) C is40 dX6_before_141 ?_
        refine j_let (fun s6 => ?_)
        refine j_aload_n (pc := 144) C dX6_before_144 rfl 1 rfl ?_
        refine gf_X6_18 (pc := 145) C dX6_before_145 ?_
        refine j_iconst (pc := 148) C dX6_before_148 ?_
        refine j_bI (fun s7 es7 => ?_)
        refine j_callV0 (pc := 149) C (obX5 is40) rfl rfl (X5_go_m _ hj is40 es7) kV_X6_147 rfl (by omega) rfl (Nat.le_of_ble_eq_true rfl) dX6_before_149 ?_
        refine j_aload_n (pc := 152) C dX6_before_152 rfl 1 rfl ?_
        refine j_bI (fun v5 ev5 => ?_)
        refine j_callV1 (pc := 153) C obX6 rfl rfl (X6_laterAsNow_m _ hj ev5) kV_X6_176 rfl (by omega) rfl (Nat.le_of_ble_eq_true rfl) dX6_before_153 ?_
        refine j_if_eq (pc := 156) (tgt := 176) C dX6_before_156 rfl ?_ ?_
        · refine j_iinc (pc := 176) C hN dX6_before_176 7 rfl (by decide) (lv' := [(6, .int (oI (l6 + 1))), (7, .int (oI v4)), (0, .ref (G.2.2.1 0)), (1, .int (oI l1)), (2, .int (oI l2)), (3, .int (oI l3)), (4, .int (oI l4)), (5, .int (oI l5))]) rfl ?_
          refine j_goto (pc := 179) (tgt := 95) C dX6_before_179 rfl ?_
          exact j_sub [2, 3, 4, 5, 6, 7, 0] rfl (ih _ _ _ _)
        · refine j_iload (pc := 159) C dX6_before_159 5 rfl ?_
          refine j_if_ne (pc := 161) (tgt := 169) C dX6_before_161 rfl ?_ ?_
          · refine j_iload (pc := 164) C dX6_before_164 0 rfl ?_
            refine j_goto (pc := 166) (tgt := 171) C dX6_before_166 rfl ?_
            refine j_istore (pc := 171) C hN dX6_before_171 (by decide) (lv' := [(5, .int (oI v4)), (7, .int (oI v4)), (0, .ref (G.2.2.1 0)), (1, .int (oI l1)), (2, .int (oI l2)), (3, .int (oI l3)), (4, .int (oI l4)), (6, .int (oI l6))]) rfl ?_
            refine j_iinc (pc := 173) C hN dX6_before_173 6 rfl (by decide) (lv' := [(4, .int (oI (l4 + 1))), (5, .int (oI v4)), (7, .int (oI v4)), (0, .ref (G.2.2.1 0)), (1, .int (oI l1)), (2, .int (oI l2)), (3, .int (oI l3)), (6, .int (oI l6))]) rfl ?_
            refine j_iinc (pc := 176) C hN dX6_before_176 7 rfl (by decide) (lv' := [(6, .int (oI (l6 + 1))), (4, .int (oI (l4 + 1))), (5, .int (oI v4)), (7, .int (oI v4)), (0, .ref (G.2.2.1 0)), (1, .int (oI l1)), (2, .int (oI l2)), (3, .int (oI l3))]) rfl ?_
            refine j_goto (pc := 179) (tgt := 95) C dX6_before_179 rfl ?_
            exact j_sub [4, 5, 6, 7, 1, 2, 0] rfl (ih _ _ _ _)
          · refine j_iload (pc := 169) C dX6_before_169 6 rfl ?_
            refine j_istore (pc := 171) C hN dX6_before_171 (by decide) (lv' := [(5, .int (oI l5)), (7, .int (oI v4)), (0, .ref (G.2.2.1 0)), (1, .int (oI l1)), (2, .int (oI l2)), (3, .int (oI l3)), (4, .int (oI l4)), (6, .int (oI l6))]) rfl ?_
            refine j_iinc (pc := 173) C hN dX6_before_173 6 rfl (by decide) (lv' := [(4, .int (oI (l4 + 1))), (5, .int (oI l5)), (7, .int (oI v4)), (0, .ref (G.2.2.1 0)), (1, .int (oI l1)), (2, .int (oI l2)), (3, .int (oI l3)), (6, .int (oI l6))]) rfl ?_
            refine j_iinc (pc := 176) C hN dX6_before_176 7 rfl (by decide) (lv' := [(6, .int (oI (l6 + 1))), (4, .int (oI (l4 + 1))), (5, .int (oI l5)), (7, .int (oI v4)), (0, .ref (G.2.2.1 0)), (1, .int (oI l1)), (2, .int (oI l2)), (3, .int (oI l3))]) rfl ?_
            refine j_goto (pc := 179) (tgt := 95) C dX6_before_179 rfl ?_
            exact j_sub [4, 5, 6, 7, 1, 2, 0] rfl (ih _ _ _ _)
set_option maxHeartbeats 4000000 in
set_option maxRecDepth 100000 in
theorem X6_before_L52_j {X : JX} {G : GD} (C : zC X sC G RX6 cX6_before (some .int) 6) (hN : X.2.2.2.2.2.2.2.2.2.2.2.2 = 8) (hj : zInj sC G) {l1 : Int} {l2 : Int} : ∀ (k : Nat) (st : PS) (l3 : Int) (l4 : Int), J X (zI sC G) (zQ sC G fI) st [(0, .ref (G.2.2.1 0)), (1, .int (oI l1)), (2, .int (oI l2)), (3, .int (oI l3)), (4, .int (oI l4))] 52 [] (X6_before_L52 l1 l2 k st l3 l4) := by
  intro k
  induction k with
  | zero => intro st l3 l4; exact j_none
  | succ k ih =>
    intro st l3 l4
    rw [X6_before_L52]
    refine j_iload (pc := 52) C dX6_before_52 4 rfl ?_
    refine j_aload_n (pc := 54) C dX6_before_54 rfl 0 rfl ?_
    refine gf_X6_12 (pc := 55) C dX6_before_55 ?_
    refine gf_X6_79 (pc := 58) C is20 dX6_before_58 ?_
    refine j_icmp_ge (pc := 61) (tgt := 74) C dX6_before_61 rfl ?_ ?_
    · refine j_aload_n (pc := 74) C dX6_before_74 rfl 0 rfl ?_
      refine gf_X6_18 (pc := 75) C dX6_before_75 ?_
      refine j_aload_n (pc := 78) C dX6_before_78 rfl 0 rfl ?_
      refine gf_X6_12 (pc := 79) C dX6_before_79 ?_
      refine j_bI (fun s2 es2 => ?_)
      refine j_callV0 (pc := 82) C (obX5 is40) rfl rfl (X5_takeFrom_m _ hj is40 is20 es2) kV_X6_151 rfl (by omega) rfl (Nat.le_of_ble_eq_true rfl) dX6_before_82 ?_
      refine j_iconst (pc := 85) C dX6_before_85 ?_
      refine j_istore (pc := 86) C hN dX6_before_86 (by decide) (lv' := [(4, .int (oI 0)), (0, .ref (G.2.2.1 0)), (1, .int (oI l1)), (2, .int (oI l2)), (3, .int (oI l3))]) rfl ?_
      refine j_bipush (pc := 88) C dX6_before_88 (by decide) ?_
      refine j_istore (pc := 90) C hN dX6_before_90 (by decide) (lv' := [(5, .int (oI (-5))), (4, .int (oI 0)), (0, .ref (G.2.2.1 0)), (1, .int (oI l1)), (2, .int (oI l2)), (3, .int (oI l3))]) rfl ?_
      refine j_iconst (pc := 92) C dX6_before_92 ?_
      refine j_istore (pc := 93) C hN dX6_before_93 (by decide) (lv' := [(6, .int (oI 0)), (5, .int (oI (-5))), (4, .int (oI 0)), (0, .ref (G.2.2.1 0)), (1, .int (oI l1)), (2, .int (oI l2)), (3, .int (oI l3))]) rfl ?_
      exact j_sub [3, 4, 5, 6, 2, 1, 0] rfl (X6_before_L95_j C hN hj FU _ _ _ _)
    · refine j_iload_n (pc := 64) C dX6_before_64 rfl 3 rfl ?_
      refine j_iload_n (pc := 65) C dX6_before_65 rfl 2 rfl ?_
      refine j_imul (pc := 66) C dX6_before_66 ?_
      refine j_istore_n (pc := 67) C hN dX6_before_67 rfl (by decide) (lv' := [(3, .int (oI (l3 * l2))), (0, .ref (G.2.2.1 0)), (1, .int (oI l1)), (2, .int (oI l2)), (4, .int (oI l4))]) rfl ?_
      refine j_iinc (pc := 68) C hN dX6_before_68 4 rfl (by decide) (lv' := [(4, .int (oI (l4 + 1))), (3, .int (oI (l3 * l2))), (0, .ref (G.2.2.1 0)), (1, .int (oI l1)), (2, .int (oI l2))]) rfl ?_
      refine j_goto (pc := 71) (tgt := 52) C dX6_before_71 rfl ?_
      exact j_sub [2, 3, 4, 1, 0] rfl (ih _ _ _)
set_option maxHeartbeats 4000000 in
set_option maxRecDepth 100000 in
theorem X6_before_m (l : Launch) {G : GD} (hj : zInj sC G) {st : PS} {l1 : Int} {r : (Int × PS)} (hr : X6_before st l1 = some r) : zM l sC G yX6_before cX6_before 8 (some .int) 6 [.ref (G.2.2.1 0), .int (oI l1)] st (some (.int (oI r.1))) r.2 :=
  zEnter (f := fI) hr hj (by decide) rfl (lv := [(0, .ref (G.2.2.1 0)), (1, .int (oI l1))]) rfl (Nat.le_of_ble_eq_true rfl) (fun X _ hN C => by
    unfold X6_before
    refine j_iload_n (pc := 0) C dX6_before_0 rfl 1 rfl ?_
    refine j_iconst (pc := 1) C dX6_before_1 ?_
    refine j_icmp_eq (pc := 2) (tgt := 15) C dX6_before_2 rfl ?_ ?_
    · refine j_aload_n (pc := 15) C dX6_before_15 rfl 0 rfl ?_
      refine gf_X6_12 (pc := 16) C dX6_before_16 ?_
      refine gf_X6_79 (pc := 19) C is20 dX6_before_19 ?_
      refine j_iconst (pc := 22) C dX6_before_22 ?_
      refine j_icmp_le (pc := 23) (tgt := 29) C dX6_before_23 rfl ?_ ?_
      · refine j_aload_n (pc := 29) C dX6_before_29 rfl 0 rfl ?_
        refine gf_X6_12 (pc := 30) C dX6_before_30 ?_
        refine gf_X6_137 (pc := 33) C is20 dX6_before_33 ?_
        refine j_if_ne (pc := 36) (tgt := 42) C dX6_before_36 rfl ?_ ?_
        · refine j_bipush (pc := 39) C dX6_before_39 (by decide) ?_
          exact j_ireturn C rfl rfl rfl rfl dX6_before_41
        · refine j_aload_n (pc := 42) C dX6_before_42 rfl 0 rfl ?_
          refine j_bP (fun v1 s1 es1 => ?_)
          refine j_callV1 (pc := 43) C obX6 rfl rfl (X6_listValues_m _ hj es1) kV_X6_170 rfl (by omega) rfl (Nat.le_of_ble_eq_true rfl) dX6_before_43 ?_
          refine j_istore_n (pc := 46) C hN dX6_before_46 rfl (by decide) (lv' := [(2, .int (oI v1)), (0, .ref (G.2.2.1 0)), (1, .int (oI l1))]) rfl ?_
          refine j_iconst (pc := 47) C dX6_before_47 ?_
          refine j_istore_n (pc := 48) C hN dX6_before_48 rfl (by decide) (lv' := [(3, .int (oI 1)), (2, .int (oI v1)), (0, .ref (G.2.2.1 0)), (1, .int (oI l1))]) rfl ?_
          refine j_iconst (pc := 49) C dX6_before_49 ?_
          refine j_istore (pc := 50) C hN dX6_before_50 (by decide) (lv' := [(4, .int (oI 0)), (3, .int (oI 1)), (2, .int (oI v1)), (0, .ref (G.2.2.1 0)), (1, .int (oI l1))]) rfl ?_
          exact j_sub [3, 4, 2, 1, 0] rfl (X6_before_L52_j C hN hj FU _ _ _)
      · refine j_bipush (pc := 26) C dX6_before_26 (by decide) ?_
        exact j_ireturn C rfl rfl rfl rfl dX6_before_28
    · refine j_aload_n (pc := 5) C dX6_before_5 rfl 0 rfl ?_
      refine j_iload_n (pc := 6) C dX6_before_6 rfl 1 rfl ?_
      refine j_callV1 (pc := 7) C obX6 rfl rfl (X6_isHouse_m _ hj rfl) kV_X6_87 rfl (by omega) rfl (Nat.le_of_ble_eq_true rfl) dX6_before_7 ?_
      refine j_if_ne (pc := 10) (tgt := 15) C dX6_before_10 rfl ?_ ?_
      · refine j_iconst (pc := 13) C dX6_before_13 ?_
        exact j_ireturn C rfl rfl rfl rfl dX6_before_14
      · refine j_aload_n (pc := 15) C dX6_before_15 rfl 0 rfl ?_
        refine gf_X6_12 (pc := 16) C dX6_before_16 ?_
        refine gf_X6_79 (pc := 19) C is20 dX6_before_19 ?_
        refine j_iconst (pc := 22) C dX6_before_22 ?_
        refine j_icmp_le (pc := 23) (tgt := 29) C dX6_before_23 rfl ?_ ?_
        · refine j_aload_n (pc := 29) C dX6_before_29 rfl 0 rfl ?_
          refine gf_X6_12 (pc := 30) C dX6_before_30 ?_
          refine gf_X6_137 (pc := 33) C is20 dX6_before_33 ?_
          refine j_if_ne (pc := 36) (tgt := 42) C dX6_before_36 rfl ?_ ?_
          · refine j_bipush (pc := 39) C dX6_before_39 (by decide) ?_
            exact j_ireturn C rfl rfl rfl rfl dX6_before_41
          · refine j_aload_n (pc := 42) C dX6_before_42 rfl 0 rfl ?_
            refine j_bP (fun v6 s8 es8 => ?_)
            refine j_callV1 (pc := 43) C obX6 rfl rfl (X6_listValues_m _ hj es8) kV_X6_170 rfl (by omega) rfl (Nat.le_of_ble_eq_true rfl) dX6_before_43 ?_
            refine j_istore_n (pc := 46) C hN dX6_before_46 rfl (by decide) (lv' := [(2, .int (oI v6)), (0, .ref (G.2.2.1 0)), (1, .int (oI l1))]) rfl ?_
            refine j_iconst (pc := 47) C dX6_before_47 ?_
            refine j_istore_n (pc := 48) C hN dX6_before_48 rfl (by decide) (lv' := [(3, .int (oI 1)), (2, .int (oI v6)), (0, .ref (G.2.2.1 0)), (1, .int (oI l1))]) rfl ?_
            refine j_iconst (pc := 49) C dX6_before_49 ?_
            refine j_istore (pc := 50) C hN dX6_before_50 (by decide) (lv' := [(4, .int (oI 0)), (3, .int (oI 1)), (2, .int (oI v6)), (0, .ref (G.2.2.1 0)), (1, .int (oI l1))]) rfl ?_
            exact j_sub [3, 4, 2, 1, 0] rfl (X6_before_L52_j C hN hj FU _ _ _)
        · refine j_bipush (pc := 26) C dX6_before_26 (by decide) ?_
          exact j_ireturn C rfl rfl rfl rfl dX6_before_28)
def X6_see (st : PS) (l1 l2 : Int) : Option (Int × PS) := if wI l1 = wI (-1) then zlet (zu st 80 0 0) (fun s1 => some (0, s1)) else (if wI (X6_isHouse st l1) = 0 then some ((-1), st) else (if wI (X6_isEarned st l2) = 0 then some ((-2), st) else (bP (X1_addSeen 80 st l1 l2) (fun v1 s2 => some (v1, s2)))))
set_option maxHeartbeats 4000000 in
set_option maxRecDepth 100000 in
theorem X6_see_m (l : Launch) {G : GD} (hj : zInj sC G) {st : PS} {l1 l2 : Int} {r : (Int × PS)} (hr : X6_see st l1 l2 = some r) : zM l sC G yX6_see cX6_see 3 (some .int) 1 [.ref (G.2.2.1 0), .int (oI l1), .int (oI l2)] st (some (.int (oI r.1))) r.2 :=
  zEnter (f := fI) hr hj (by decide) rfl (lv := [(0, .ref (G.2.2.1 0)), (1, .int (oI l1)), (2, .int (oI l2))]) rfl (Nat.le_of_ble_eq_true rfl) (fun X _ hN C => by
    unfold X6_see
    refine j_iload_n (pc := 0) C dX6_see_0 rfl 1 rfl ?_
    refine j_iconst (pc := 1) C dX6_see_1 ?_
    refine j_icmp_ne (pc := 2) (tgt := 15) C dX6_see_2 rfl ?_ ?_
    · refine j_aload_n (pc := 5) C dX6_see_5 rfl 0 rfl ?_
      refine gf_X6_27 (pc := 6) C dX6_see_6 ?_
      refine j_iconst (pc := 9) C dX6_see_9 ?_
      refine fp_X6_179 (pc := 10) C is80 dX6_see_10 ?_
      refine j_let (fun s1 => ?_)
      refine j_iconst (pc := 13) C dX6_see_13 ?_
      exact j_ireturn C rfl rfl rfl rfl dX6_see_14
    · refine j_aload_n (pc := 15) C dX6_see_15 rfl 0 rfl ?_
      refine j_iload_n (pc := 16) C dX6_see_16 rfl 1 rfl ?_
      refine j_callV1 (pc := 17) C obX6 rfl rfl (X6_isHouse_m _ hj rfl) kV_X6_87 rfl (by omega) rfl (Nat.le_of_ble_eq_true rfl) dX6_see_17 ?_
      refine j_if_ne (pc := 20) (tgt := 25) C dX6_see_20 rfl ?_ ?_
      · refine j_iconst (pc := 23) C dX6_see_23 ?_
        exact j_ireturn C rfl rfl rfl rfl dX6_see_24
      · refine j_iload_n (pc := 25) C dX6_see_25 rfl 2 rfl ?_
        refine j_callS1 (pc := 26) C (X6_isEarned_m _ hj rfl) kS_X6_76 rfl (by omega) rfl (Nat.le_of_ble_eq_true rfl) dX6_see_26 ?_
        refine j_if_ne (pc := 29) (tgt := 35) C dX6_see_29 rfl ?_ ?_
        · refine j_bipush (pc := 32) C dX6_see_32 (by decide) ?_
          exact j_ireturn C rfl rfl rfl rfl dX6_see_34
        · refine j_aload_n (pc := 35) C dX6_see_35 rfl 0 rfl ?_
          refine gf_X6_27 (pc := 36) C dX6_see_36 ?_
          refine j_iload_n (pc := 39) C dX6_see_39 rfl 1 rfl ?_
          refine j_iload_n (pc := 40) C dX6_see_40 rfl 2 rfl ?_
          refine j_bP (fun v1 s2 es2 => ?_)
          refine j_callV1 (pc := 41) C (obX1 is80) rfl rfl (X1_addSeen_m _ hj is80 es2) kV_X6_182 rfl (by omega) rfl (Nat.le_of_ble_eq_true rfl) dX6_see_41 ?_
          exact j_ireturn C rfl rfl rfl rfl dX6_see_44)
def X6_allSeenIfLies_L17  : Nat → PS → Int → Option (Int × PS)
  | 0, _, _ => none
  | k + 1, st, l2 => if wI (st 80 0) ≤ wI l2 then some (1, st) else (bI (zrd st (80 + 1) 8 l2) (fun v1 => if wI (X6_isHouse st v1) = 0 then some (0, st) else (bI (zrd st (40 + 8) 7 v1) (fun v2 => bI (zrd st (80 + 2) 8 l2) (fun v3 => if wI v2 = wI v3 then X6_allSeenIfLies_L17 k st (l2 + 1) else (some (0, st)))))))
def X6_allSeenIfLies (st : PS) (l1 : Int) : Option (Int × PS) := bI (X5_sayPlain 40 st l1) (fun s1 => bI (X5_reckon 40 s1) (fun s2 => X6_allSeenIfLies_L17 FU s2 0))
set_option maxHeartbeats 4000000 in
set_option maxRecDepth 100000 in
theorem X6_allSeenIfLies_L17_j {X : JX} {G : GD} (C : zC X sC G RX6 cX6_allSeenIfLies (some .boolean) 5) (hN : X.2.2.2.2.2.2.2.2.2.2.2.2 = 4) (hj : zInj sC G)  : ∀ (k : Nat) (st : PS) (l2 : Int), J X (zI sC G) (zQ sC G fI) st [(0, .ref (G.2.2.1 0)), (2, .int (oI l2))] 17 [] (X6_allSeenIfLies_L17 k st l2) := by
  intro k
  induction k with
  | zero => intro st l2; exact j_none
  | succ k ih =>
    intro st l2
    rw [X6_allSeenIfLies_L17]
    refine j_iload_n (pc := 17) C dX6_allSeenIfLies_17 rfl 1 rfl ?_
    refine j_aload_n (pc := 18) C dX6_allSeenIfLies_18 rfl 0 rfl ?_
    refine gf_X6_27 (pc := 19) C dX6_allSeenIfLies_19 ?_
    refine gf_X6_179 (pc := 22) C is80 dX6_allSeenIfLies_22 ?_
    refine j_icmp_ge (pc := 25) (tgt := 75) C dX6_allSeenIfLies_25 rfl ?_ ?_
    · refine j_iconst (pc := 75) C dX6_allSeenIfLies_75 ?_
      exact j_ireturn C rfl rfl (znar (Or.inr rfl)) rfl dX6_allSeenIfLies_76
    · refine j_aload_n (pc := 28) C dX6_allSeenIfLies_28 rfl 0 rfl ?_
      refine gf_X6_27 (pc := 29) C dX6_allSeenIfLies_29 ?_
      refine gf_X6_268 (pc := 32) C is80 dX6_allSeenIfLies_32 ?_
      refine j_iload_n (pc := 35) C dX6_allSeenIfLies_35 rfl 1 rfl ?_
      refine j_bI (fun v1 ev1 => ?_)
      refine j_iald (pc := 36) C (arX1_1 is80) ev1 dX6_allSeenIfLies_36 ?_
      refine j_istore_n (pc := 37) C hN dX6_allSeenIfLies_37 rfl (by decide) (lv' := [(3, .int (oI v1)), (0, .ref (G.2.2.1 0)), (2, .int (oI l2))]) rfl ?_
      refine j_aload_n (pc := 38) C dX6_allSeenIfLies_38 rfl 1 rfl ?_
      refine j_iload_n (pc := 39) C dX6_allSeenIfLies_39 rfl 0 rfl ?_
      refine j_callV1 (pc := 40) C obX6 rfl rfl (X6_isHouse_m _ hj rfl) kV_X6_87 rfl (by omega) rfl (Nat.le_of_ble_eq_true rfl) dX6_allSeenIfLies_40 ?_
      refine j_if_eq (pc := 43) (tgt := 67) C dX6_allSeenIfLies_43 rfl ?_ ?_
      · refine j_iconst (pc := 67) C dX6_allSeenIfLies_67 ?_
        exact j_ireturn C rfl rfl (znar (Or.inl rfl)) rfl dX6_allSeenIfLies_68
      · refine j_aload_n (pc := 46) C dX6_allSeenIfLies_46 rfl 1 rfl ?_
        refine gf_X6_18 (pc := 47) C dX6_allSeenIfLies_47 ?_
        refine gf_X6_108 (pc := 50) C is40 dX6_allSeenIfLies_50 ?_
        refine j_iload_n (pc := 53) C dX6_allSeenIfLies_53 rfl 0 rfl ?_
        refine j_bI (fun v2 ev2 => ?_)
        refine j_iald (pc := 54) C (arX5_8 is40) ev2 dX6_allSeenIfLies_54 ?_
        refine j_aload_n (pc := 55) C dX6_allSeenIfLies_55 rfl 1 rfl ?_
        refine gf_X6_27 (pc := 56) C dX6_allSeenIfLies_56 ?_
        refine gf_X6_271 (pc := 59) C is80 dX6_allSeenIfLies_59 ?_
        refine j_iload_n (pc := 62) C dX6_allSeenIfLies_62 rfl 2 rfl ?_
        refine j_bI (fun v3 ev3 => ?_)
        refine j_iald (pc := 63) C (arX1_2 is80) ev3 dX6_allSeenIfLies_63 ?_
        refine j_icmp_eq (pc := 64) (tgt := 69) C dX6_allSeenIfLies_64 rfl ?_ ?_
        · refine j_iinc (pc := 69) C hN dX6_allSeenIfLies_69 2 rfl (by decide) (lv' := [(2, .int (oI (l2 + 1))), (3, .int (oI v1)), (0, .ref (G.2.2.1 0))]) rfl ?_
          refine j_goto (pc := 72) (tgt := 17) C dX6_allSeenIfLies_72 rfl ?_
          exact j_sub [2, 0] rfl (ih _ _)
        · refine j_iconst (pc := 67) C dX6_allSeenIfLies_67 ?_
          exact j_ireturn C rfl rfl (znar (Or.inl rfl)) rfl dX6_allSeenIfLies_68
set_option maxHeartbeats 4000000 in
set_option maxRecDepth 100000 in
theorem X6_allSeenIfLies_m (l : Launch) {G : GD} (hj : zInj sC G) {st : PS} {l1 : Int} {r : (Int × PS)} (hr : X6_allSeenIfLies st l1 = some r) : zM l sC G yX6_allSeenIfLies cX6_allSeenIfLies 4 (some .boolean) 5 [.ref (G.2.2.1 0), .int (oI l1)] st (some (.int (oI r.1))) r.2 :=
  zEnter (f := fI) hr hj (by decide) rfl (lv := [(0, .ref (G.2.2.1 0)), (1, .int (oI l1))]) rfl (Nat.le_of_ble_eq_true rfl) (fun X _ hN C => by
    unfold X6_allSeenIfLies
    refine j_aload_n (pc := 0) C dX6_allSeenIfLies_0 rfl 0 rfl ?_
    refine gf_X6_18 (pc := 1) C dX6_allSeenIfLies_1 ?_
    refine j_iload_n (pc := 4) C dX6_allSeenIfLies_4 rfl 1 rfl ?_
    refine j_bI (fun s1 es1 => ?_)
    refine j_callV0 (pc := 5) C (obX5 is40) rfl rfl (X5_sayPlain_m _ hj is40 es1) kV_X6_265 rfl (by omega) rfl (Nat.le_of_ble_eq_true rfl) dX6_allSeenIfLies_5 ?_
    refine j_aload_n (pc := 8) C dX6_allSeenIfLies_8 rfl 0 rfl ?_
    refine gf_X6_18 (pc := 9) C dX6_allSeenIfLies_9 ?_
    refine j_bI (fun s2 es2 => ?_)
    refine j_callV0 (pc := 12) C (obX5 is40) rfl rfl (X5_reckon_m _ hj is40 es2) kV_X6_105 rfl (by omega) rfl (Nat.le_of_ble_eq_true rfl) dX6_allSeenIfLies_12 ?_
    refine j_iconst (pc := 15) C dX6_allSeenIfLies_15 ?_
    refine j_istore_n (pc := 16) C hN dX6_allSeenIfLies_16 rfl (by decide) (lv' := [(2, .int (oI 0)), (0, .ref (G.2.2.1 0)), (1, .int (oI l1))]) rfl ?_
    exact j_sub [1, 0] rfl (X6_allSeenIfLies_L17_j C hN hj FU _ _))
def X6_lied_L43  : Nat → PS → Int → Int → Option (Int × PS)
  | 0, _, _, _ => none
  | k + 1, st, l2, l3 => if wI (st 20 0) ≤ wI l3 then some (l2, st) else (bP (X6_allSeenIfLies st l3) (fun v2 s3 => if wI v2 = 0 then X6_lied_L43 k s3 l2 (l3 + 1) else (X6_lied_L43 k s3 (zor l2 (zshl 1 l3)) (l3 + 1))))
def X6_lied (st : PS) (l1 : Int) : Option (Int × PS) := if wI (X6_isWhich st l1) = 0 then some ((-1), st) else (bI (X5_takeFrom 40 20 st) (fun s1 => if wI l1 = wI 1 then bP (X6_allSeenIfLies s1 (-1)) (fun v1 s2 => if wI v1 = 0 then some (0, s2) else (some (1, s2))) else (X6_lied_L43 FU s1 0 0)))
set_option maxHeartbeats 4000000 in
set_option maxRecDepth 100000 in
theorem X6_lied_L43_j {X : JX} {G : GD} (C : zC X sC G RX6 cX6_lied (some .int) 6) (hN : X.2.2.2.2.2.2.2.2.2.2.2.2 = 4) (hj : zInj sC G)  : ∀ (k : Nat) (st : PS) (l2 : Int) (l3 : Int), J X (zI sC G) (zQ sC G fI) st [(0, .ref (G.2.2.1 0)), (2, .int (oI l2)), (3, .int (oI l3))] 43 [] (X6_lied_L43 k st l2 l3) := by
  intro k
  induction k with
  | zero => intro st l2 l3; exact j_none
  | succ k ih =>
    intro st l2 l3
    rw [X6_lied_L43]
    refine j_iload_n (pc := 43) C dX6_lied_43 rfl 2 rfl ?_
    refine j_aload_n (pc := 44) C dX6_lied_44 rfl 0 rfl ?_
    refine gf_X6_12 (pc := 45) C dX6_lied_45 ?_
    refine gf_X6_79 (pc := 48) C is20 dX6_lied_48 ?_
    refine j_icmp_ge (pc := 51) (tgt := 74) C dX6_lied_51 rfl ?_ ?_
    · refine j_iload_n (pc := 74) C dX6_lied_74 rfl 1 rfl ?_
      exact j_ireturn C rfl rfl rfl rfl dX6_lied_75
    · refine j_aload_n (pc := 54) C dX6_lied_54 rfl 0 rfl ?_
      refine j_iload_n (pc := 55) C dX6_lied_55 rfl 2 rfl ?_
      refine j_bP (fun v2 s3 es3 => ?_)
      refine j_callV1 (pc := 56) C obX6 rfl rfl (X6_allSeenIfLies_m _ hj es3) kV_X6_186 rfl (by omega) rfl (Nat.le_of_ble_eq_true rfl) dX6_lied_56 ?_
      refine j_if_eq (pc := 59) (tgt := 68) C dX6_lied_59 rfl ?_ ?_
      · refine j_iinc (pc := 68) C hN dX6_lied_68 2 rfl (by decide) (lv' := [(3, .int (oI (l3 + 1))), (0, .ref (G.2.2.1 0)), (2, .int (oI l2))]) rfl ?_
        refine j_goto (pc := 71) (tgt := 43) C dX6_lied_71 rfl ?_
        exact j_sub [1, 2, 0] rfl (ih _ _ _)
      · refine j_iload_n (pc := 62) C dX6_lied_62 rfl 1 rfl ?_
        refine j_iconst (pc := 63) C dX6_lied_63 ?_
        refine j_iload_n (pc := 64) C dX6_lied_64 rfl 2 rfl ?_
        refine j_ishl (pc := 65) C dX6_lied_65 ?_
        refine j_ior (pc := 66) C dX6_lied_66 ?_
        refine j_istore_n (pc := 67) C hN dX6_lied_67 rfl (by decide) (lv' := [(2, .int (oI (zor l2 (zshl 1 l3)))), (0, .ref (G.2.2.1 0)), (3, .int (oI l3))]) rfl ?_
        refine j_iinc (pc := 68) C hN dX6_lied_68 2 rfl (by decide) (lv' := [(3, .int (oI (l3 + 1))), (2, .int (oI (zor l2 (zshl 1 l3)))), (0, .ref (G.2.2.1 0))]) rfl ?_
        refine j_goto (pc := 71) (tgt := 43) C dX6_lied_71 rfl ?_
        exact j_sub [2, 1, 0] rfl (ih _ _ _)
set_option maxHeartbeats 4000000 in
set_option maxRecDepth 100000 in
theorem X6_lied_m (l : Launch) {G : GD} (hj : zInj sC G) {st : PS} {l1 : Int} {r : (Int × PS)} (hr : X6_lied st l1 = some r) : zM l sC G yX6_lied cX6_lied 4 (some .int) 6 [.ref (G.2.2.1 0), .int (oI l1)] st (some (.int (oI r.1))) r.2 :=
  zEnter (f := fI) hr hj (by decide) rfl (lv := [(0, .ref (G.2.2.1 0)), (1, .int (oI l1))]) rfl (Nat.le_of_ble_eq_true rfl) (fun X _ hN C => by
    unfold X6_lied
    refine j_iload_n (pc := 0) C dX6_lied_0 rfl 1 rfl ?_
    refine j_callS1 (pc := 1) C (X6_isWhich_m _ hj rfl) kS_X6_160 rfl (by omega) rfl (Nat.le_of_ble_eq_true rfl) dX6_lied_1 ?_
    refine j_if_ne (pc := 4) (tgt := 9) C dX6_lied_4 rfl ?_ ?_
    · refine j_iconst (pc := 7) C dX6_lied_7 ?_
      exact j_ireturn C rfl rfl rfl rfl dX6_lied_8
    · refine j_aload_n (pc := 9) C dX6_lied_9 rfl 0 rfl ?_
      refine gf_X6_18 (pc := 10) C dX6_lied_10 ?_
      refine j_aload_n (pc := 13) C dX6_lied_13 rfl 0 rfl ?_
      refine gf_X6_12 (pc := 14) C dX6_lied_14 ?_
      refine j_bI (fun s1 es1 => ?_)
      refine j_callV0 (pc := 17) C (obX5 is40) rfl rfl (X5_takeFrom_m _ hj is40 is20 es1) kV_X6_151 rfl (by omega) rfl (Nat.le_of_ble_eq_true rfl) dX6_lied_17 ?_
      refine j_iload_n (pc := 20) C dX6_lied_20 rfl 1 rfl ?_
      refine j_iconst (pc := 21) C dX6_lied_21 ?_
      refine j_icmp_ne (pc := 22) (tgt := 39) C dX6_lied_22 rfl ?_ ?_
      · refine j_aload_n (pc := 25) C dX6_lied_25 rfl 0 rfl ?_
        refine j_iconst (pc := 26) C dX6_lied_26 ?_
        refine j_bP (fun v1 s2 es2 => ?_)
        refine j_callV1 (pc := 27) C obX6 rfl rfl (X6_allSeenIfLies_m _ hj es2) kV_X6_186 rfl (by omega) rfl (Nat.le_of_ble_eq_true rfl) dX6_lied_27 ?_
        refine j_if_eq (pc := 30) (tgt := 37) C dX6_lied_30 rfl ?_ ?_
        · refine j_iconst (pc := 37) C dX6_lied_37 ?_
          exact j_ireturn C rfl rfl rfl rfl dX6_lied_38
        · refine j_iconst (pc := 33) C dX6_lied_33 ?_
          refine j_goto (pc := 34) (tgt := 38) C dX6_lied_34 rfl ?_
          exact j_ireturn C rfl rfl rfl rfl dX6_lied_38
      · refine j_iconst (pc := 39) C dX6_lied_39 ?_
        refine j_istore_n (pc := 40) C hN dX6_lied_40 rfl (by decide) (lv' := [(2, .int (oI 0)), (0, .ref (G.2.2.1 0)), (1, .int (oI l1))]) rfl ?_
        refine j_iconst (pc := 41) C dX6_lied_41 ?_
        refine j_istore_n (pc := 42) C hN dX6_lied_42 rfl (by decide) (lv' := [(3, .int (oI 0)), (2, .int (oI 0)), (0, .ref (G.2.2.1 0)), (1, .int (oI l1))]) rfl ?_
        exact j_sub [2, 1, 0] rfl (X6_lied_L43_j C hN hj FU _ _ _))
def X6_wed (st : PS) (l1 l2 : Int) : Option (Int × PS) := if wI (X6_isHouse st l1) = 0 then some ((-1), st) else (if wI (X6_isHouse st l2) = 0 then some ((-1), st) else (if wI l1 = wI l2 then some ((-2), st) else (bI (X5_takeFrom 40 20 st) (fun s1 => bI (X5_go 40 s1 10) (fun s2 => bI (X6_keepLater s2) (fun s3 => bI (X5_takeFrom 40 20 s3) (fun s4 => bI (zrd s4 (20 + 5) 7 l1) (fun v1 => bI (zrd s4 (20 + 5) 7 l2) (fun v2 => bI (zwr s4 (40 + 5) 7 l1 (zdiv (v1 + v2) 2)) (fun s5 => bI (zwr s5 (40 + 5) 7 l2 (zdiv (v1 + v2) 2)) (fun s6 => bI (X5_go 40 s6 10) (fun s7 => bI (X6_laterOtherwise s7) (fun v3 => some (v3, s7))))))))))))))
set_option maxHeartbeats 4000000 in
set_option maxRecDepth 100000 in
theorem X6_wed_m (l : Launch) {G : GD} (hj : zInj sC G) {st : PS} {l1 l2 : Int} {r : (Int × PS)} (hr : X6_wed st l1 l2 = some r) : zM l sC G yX6_wed cX6_wed 4 (some .int) 6 [.ref (G.2.2.1 0), .int (oI l1), .int (oI l2)] st (some (.int (oI r.1))) r.2 :=
  zEnter (f := fI) hr hj (by decide) rfl (lv := [(0, .ref (G.2.2.1 0)), (1, .int (oI l1)), (2, .int (oI l2))]) rfl (Nat.le_of_ble_eq_true rfl) (fun X _ hN C => by
    unfold X6_wed
    refine j_aload_n (pc := 0) C dX6_wed_0 rfl 0 rfl ?_
    refine j_iload_n (pc := 1) C dX6_wed_1 rfl 1 rfl ?_
    refine j_callV1 (pc := 2) C obX6 rfl rfl (X6_isHouse_m _ hj rfl) kV_X6_87 rfl (by omega) rfl (Nat.le_of_ble_eq_true rfl) dX6_wed_2 ?_
    refine j_if_eq (pc := 5) (tgt := 16) C dX6_wed_5 rfl ?_ ?_
    · refine j_iconst (pc := 16) C dX6_wed_16 ?_
      exact j_ireturn C rfl rfl rfl rfl dX6_wed_17
    · refine j_aload_n (pc := 8) C dX6_wed_8 rfl 0 rfl ?_
      refine j_iload_n (pc := 9) C dX6_wed_9 rfl 2 rfl ?_
      refine j_callV1 (pc := 10) C obX6 rfl rfl (X6_isHouse_m _ hj rfl) kV_X6_87 rfl (by omega) rfl (Nat.le_of_ble_eq_true rfl) dX6_wed_10 ?_
      refine j_if_ne (pc := 13) (tgt := 18) C dX6_wed_13 rfl ?_ ?_
      · refine j_iconst (pc := 16) C dX6_wed_16 ?_
        exact j_ireturn C rfl rfl rfl rfl dX6_wed_17
      · refine j_iload_n (pc := 18) C dX6_wed_18 rfl 1 rfl ?_
        refine j_iload_n (pc := 19) C dX6_wed_19 rfl 2 rfl ?_
        refine j_icmp_ne (pc := 20) (tgt := 26) C dX6_wed_20 rfl ?_ ?_
        · refine j_bipush (pc := 23) C dX6_wed_23 (by decide) ?_
          exact j_ireturn C rfl rfl rfl rfl dX6_wed_25
        · refine j_aload_n (pc := 26) C dX6_wed_26 rfl 0 rfl ?_
          refine gf_X6_18 (pc := 27) C dX6_wed_27 ?_
          refine j_aload_n (pc := 30) C dX6_wed_30 rfl 0 rfl ?_
          refine gf_X6_12 (pc := 31) C dX6_wed_31 ?_
          refine j_bI (fun s1 es1 => ?_)
          refine j_callV0 (pc := 34) C (obX5 is40) rfl rfl (X5_takeFrom_m _ hj is40 is20 es1) kV_X6_151 rfl (by omega) rfl (Nat.le_of_ble_eq_true rfl) dX6_wed_34 ?_
          refine j_aload_n (pc := 37) C dX6_wed_37 rfl 0 rfl ?_
          refine gf_X6_18 (pc := 38) C dX6_wed_38 ?_
          refine j_bipush (pc := 41) C dX6_wed_41 (by decide) ?_
          refine j_bI (fun s2 es2 => ?_)
          refine j_callV0 (pc := 43) C (obX5 is40) rfl rfl (X5_go_m _ hj is40 es2) kV_X6_147 rfl (by omega) rfl (Nat.le_of_ble_eq_true rfl) dX6_wed_43 ?_
          refine j_aload_n (pc := 46) C dX6_wed_46 rfl 0 rfl ?_
          refine j_bI (fun s3 es3 => ?_)
          refine j_callV0 (pc := 47) C obX6 rfl rfl (X6_keepLater_m _ hj es3) kV_X6_154 rfl (by omega) rfl (Nat.le_of_ble_eq_true rfl) dX6_wed_47 ?_
          refine j_aload_n (pc := 50) C dX6_wed_50 rfl 0 rfl ?_
          refine gf_X6_18 (pc := 51) C dX6_wed_51 ?_
          refine j_aload_n (pc := 54) C dX6_wed_54 rfl 0 rfl ?_
          refine gf_X6_12 (pc := 55) C dX6_wed_55 ?_
          refine j_bI (fun s4 es4 => ?_)
          refine j_callV0 (pc := 58) C (obX5 is40) rfl rfl (X5_takeFrom_m _ hj is40 is20 es4) kV_X6_151 rfl (by omega) rfl (Nat.le_of_ble_eq_true rfl) dX6_wed_58 ?_
          refine j_aload_n (pc := 61) C dX6_wed_61 rfl 0 rfl ?_
          refine gf_X6_12 (pc := 62) C dX6_wed_62 ?_
          refine gf_X6_96 (pc := 65) C is20 dX6_wed_65 ?_
          refine j_iload_n (pc := 68) C dX6_wed_68 rfl 1 rfl ?_
          refine j_bI (fun v1 ev1 => ?_)
          refine j_iald (pc := 69) C (arX5_5 is20) ev1 dX6_wed_69 ?_
          refine j_aload_n (pc := 70) C dX6_wed_70 rfl 0 rfl ?_
          refine gf_X6_12 (pc := 71) C dX6_wed_71 ?_
          refine gf_X6_96 (pc := 74) C is20 dX6_wed_74 ?_
          refine j_iload_n (pc := 77) C dX6_wed_77 rfl 2 rfl ?_
          refine j_bI (fun v2 ev2 => ?_)
          refine j_iald (pc := 78) C (arX5_5 is20) ev2 dX6_wed_78 ?_
          refine j_iadd (pc := 79) C dX6_wed_79 ?_
          refine j_iconst (pc := 80) C dX6_wed_80 ?_
          refine j_idiv (pc := 81) C (by decide) dX6_wed_81 ?_
          refine j_istore_n (pc := 82) C hN dX6_wed_82 rfl (by decide) (lv' := [(3, .int (oI (zdiv (v1 + v2) 2))), (0, .ref (G.2.2.1 0)), (1, .int (oI l1)), (2, .int (oI l2))]) rfl ?_
          refine j_aload_n (pc := 83) C dX6_wed_83 rfl 1 rfl ?_
          refine gf_X6_18 (pc := 84) C dX6_wed_84 ?_
          refine gf_X6_96 (pc := 87) C is40 dX6_wed_87 ?_
          refine j_iload_n (pc := 90) C dX6_wed_90 rfl 2 rfl ?_
          refine j_iload_n (pc := 91) C dX6_wed_91 rfl 0 rfl ?_
          refine j_bI (fun s5 es5 => ?_)
          refine j_iast (pc := 92) C (arX5_5 is40) es5 dX6_wed_92 ?_
          refine j_aload_n (pc := 93) C dX6_wed_93 rfl 1 rfl ?_
          refine gf_X6_18 (pc := 94) C dX6_wed_94 ?_
          refine gf_X6_96 (pc := 97) C is40 dX6_wed_97 ?_
          refine j_iload_n (pc := 100) C dX6_wed_100 rfl 3 rfl ?_
          refine j_iload_n (pc := 101) C dX6_wed_101 rfl 0 rfl ?_
          refine j_bI (fun s6 es6 => ?_)
          refine j_iast (pc := 102) C (arX5_5 is40) es6 dX6_wed_102 ?_
          refine j_aload_n (pc := 103) C dX6_wed_103 rfl 1 rfl ?_
          refine gf_X6_18 (pc := 104) C dX6_wed_104 ?_
          refine j_bipush (pc := 107) C dX6_wed_107 (by decide) ?_
          refine j_bI (fun s7 es7 => ?_)
          refine j_callV0 (pc := 109) C (obX5 is40) rfl rfl (X5_go_m _ hj is40 es7) kV_X6_147 rfl (by omega) rfl (Nat.le_of_ble_eq_true rfl) dX6_wed_109 ?_
          refine j_aload_n (pc := 112) C dX6_wed_112 rfl 1 rfl ?_
          refine j_bI (fun v3 ev3 => ?_)
          refine j_callV1 (pc := 113) C obX6 rfl rfl (X6_laterOtherwise_m _ hj ev3) kV_X6_157 rfl (by omega) rfl (Nat.le_of_ble_eq_true rfl) dX6_wed_113 ?_
          exact j_ireturn C rfl rfl rfl rfl dX6_wed_116)
def X6_lowest_L8 (l0 : Int) (l1 : Int) (l2 : Int) (st : PS) : Nat → Int → Int → Int → Option Int
  | 0, _, _, _ => none
  | k + 1, l3, l4, l5 => if wI 100 ≤ wI l5 then if wI l3 = 0 then some (-9223372036854775808) else (if wI l2 = 0 then znz l3 (some (wI (zdiv l0 l3))) else (znz l3 (some (wI (zdiv l1 l3))))) else (if wI l4 = 0 then if wI l3 = 0 then some (-9223372036854775808) else (if wI l2 = 0 then znz l3 (some (wI (zdiv l0 l3))) else (znz l3 (some (wI (zdiv l1 l3))))) else (znz l4 (X6_lowest_L8 l0 l1 l2 st k l4 (zrem l3 l4) (l5 + 1))))
def X6_lowest (st : PS) (l0 l1 l2 : Int) : Option Int := X6_lowest_L8 l0 l1 l2 st FU l0 l1 0
set_option maxHeartbeats 4000000 in
set_option maxRecDepth 100000 in
theorem X6_lowest_L8_j {X : JX} {G : GD} (C : zC X sC G RX6 cX6_lowest (some .long) 0) (hN : X.2.2.2.2.2.2.2.2.2.2.2.2 = 7) (hj : zInj sC G) {l0 : Int} {l1 : Int} {l2 : Int} {st : PS} : ∀ (k : Nat) (l3 : Int) (l4 : Int) (l5 : Int), J X (zI sC G) (zQ sC G (fL st)) st [(0, .int (oI l0)), (1, .int (oI l1)), (2, .int (oI l2)), (3, .int (oI l3)), (4, .int (oI l4)), (5, .int (oI l5))] 8 [] (X6_lowest_L8 l0 l1 l2 st k l3 l4 l5) := by
  intro k
  induction k with
  | zero => intro l3 l4 l5; exact j_none
  | succ k ih =>
    intro l3 l4 l5
    rw [X6_lowest_L8]
    refine j_iload (pc := 8) C dX6_lowest_8 5 rfl ?_
    refine j_bipush (pc := 10) C dX6_lowest_10 (by decide) ?_
    refine j_icmp_ge (pc := 12) (tgt := 39) C dX6_lowest_12 rfl ?_ ?_
    · refine j_iload_n (pc := 39) C dX6_lowest_39 rfl 3 rfl ?_
      refine j_if_ne (pc := 40) (tgt := 47) C dX6_lowest_40 rfl ?_ ?_
      · refine j_ldc2 (pc := 43) C (z := (-9223372036854775808)) (zT_of (i := 749) (by decide +kernel) rfl) rfl dX6_lowest_43 ?_
        exact j_lreturn C rfl rfl dX6_lowest_46
      · refine j_iload_n (pc := 47) C dX6_lowest_47 rfl 2 rfl ?_
        refine j_if_ne (pc := 48) (tgt := 58) C dX6_lowest_48 rfl ?_ ?_
        · refine j_iload_n (pc := 51) C dX6_lowest_51 rfl 0 rfl ?_
          refine j_iload_n (pc := 52) C dX6_lowest_52 rfl 3 rfl ?_
          refine j_nz (fun hz => ?_)
          refine j_idiv (pc := 53) C hz dX6_lowest_53 ?_
          refine j_i2l (pc := 54) C dX6_lowest_54 ?_
          refine j_goto (pc := 55) (tgt := 62) C dX6_lowest_55 rfl ?_
          exact j_lreturn C rfl rfl dX6_lowest_62
        · refine j_iload_n (pc := 58) C dX6_lowest_58 rfl 1 rfl ?_
          refine j_iload_n (pc := 59) C dX6_lowest_59 rfl 3 rfl ?_
          refine j_nz (fun hz => ?_)
          refine j_idiv (pc := 60) C hz dX6_lowest_60 ?_
          refine j_i2l (pc := 61) C dX6_lowest_61 ?_
          exact j_lreturn C rfl rfl dX6_lowest_62
    · refine j_iload (pc := 15) C dX6_lowest_15 4 rfl ?_
      refine j_if_eq (pc := 17) (tgt := 39) C dX6_lowest_17 rfl ?_ ?_
      · refine j_iload_n (pc := 39) C dX6_lowest_39 rfl 3 rfl ?_
        refine j_if_ne (pc := 40) (tgt := 47) C dX6_lowest_40 rfl ?_ ?_
        · refine j_ldc2 (pc := 43) C (z := (-9223372036854775808)) (zT_of (i := 749) (by decide +kernel) rfl) rfl dX6_lowest_43 ?_
          exact j_lreturn C rfl rfl dX6_lowest_46
        · refine j_iload_n (pc := 47) C dX6_lowest_47 rfl 2 rfl ?_
          refine j_if_ne (pc := 48) (tgt := 58) C dX6_lowest_48 rfl ?_ ?_
          · refine j_iload_n (pc := 51) C dX6_lowest_51 rfl 0 rfl ?_
            refine j_iload_n (pc := 52) C dX6_lowest_52 rfl 3 rfl ?_
            refine j_nz (fun hz => ?_)
            refine j_idiv (pc := 53) C hz dX6_lowest_53 ?_
            refine j_i2l (pc := 54) C dX6_lowest_54 ?_
            refine j_goto (pc := 55) (tgt := 62) C dX6_lowest_55 rfl ?_
            exact j_lreturn C rfl rfl dX6_lowest_62
          · refine j_iload_n (pc := 58) C dX6_lowest_58 rfl 1 rfl ?_
            refine j_iload_n (pc := 59) C dX6_lowest_59 rfl 3 rfl ?_
            refine j_nz (fun hz => ?_)
            refine j_idiv (pc := 60) C hz dX6_lowest_60 ?_
            refine j_i2l (pc := 61) C dX6_lowest_61 ?_
            exact j_lreturn C rfl rfl dX6_lowest_62
      · refine j_iload_n (pc := 20) C dX6_lowest_20 rfl 3 rfl ?_
        refine j_iload (pc := 21) C dX6_lowest_21 4 rfl ?_
        refine j_nz (fun hz => ?_)
        refine j_irem (pc := 23) C hz dX6_lowest_23 ?_
        refine j_istore (pc := 24) C hN dX6_lowest_24 (by decide) (lv' := [(6, .int (oI (zrem l3 l4))), (0, .int (oI l0)), (1, .int (oI l1)), (2, .int (oI l2)), (3, .int (oI l3)), (4, .int (oI l4)), (5, .int (oI l5))]) rfl ?_
        refine j_iload (pc := 26) C dX6_lowest_26 5 rfl ?_
        refine j_istore_n (pc := 28) C hN dX6_lowest_28 rfl (by decide) (lv' := [(3, .int (oI l4)), (6, .int (oI (zrem l3 l4))), (0, .int (oI l0)), (1, .int (oI l1)), (2, .int (oI l2)), (4, .int (oI l4)), (5, .int (oI l5))]) rfl ?_
        refine j_iload (pc := 29) C dX6_lowest_29 1 rfl ?_
        refine j_istore (pc := 31) C hN dX6_lowest_31 (by decide) (lv' := [(4, .int (oI (zrem l3 l4))), (3, .int (oI l4)), (6, .int (oI (zrem l3 l4))), (0, .int (oI l0)), (1, .int (oI l1)), (2, .int (oI l2)), (5, .int (oI l5))]) rfl ?_
        refine j_iinc (pc := 33) C hN dX6_lowest_33 6 rfl (by decide) (lv' := [(5, .int (oI (l5 + 1))), (4, .int (oI (zrem l3 l4))), (3, .int (oI l4)), (6, .int (oI (zrem l3 l4))), (0, .int (oI l0)), (1, .int (oI l1)), (2, .int (oI l2))]) rfl ?_
        refine j_goto (pc := 36) (tgt := 8) C dX6_lowest_36 rfl ?_
        exact j_sub [4, 5, 6, 2, 1, 0] rfl (ih _ _ _)
set_option maxHeartbeats 4000000 in
set_option maxRecDepth 100000 in
theorem X6_lowest_m (l : Launch) {G : GD} (hj : zInj sC G) {st : PS} {l0 l1 l2 : Int} {r : Int} (hr : X6_lowest st l0 l1 l2 = some r) : zM l sC G yX6_lowest cX6_lowest 7 (some .long) 0 [.int (oI l0), .int (oI l1), .int (oI l2)] st (some (.long (oL r))) st :=
  zEnter (f := fL st) hr hj (by decide) rfl (lv := [(0, .int (oI l0)), (1, .int (oI l1)), (2, .int (oI l2))]) rfl (Nat.le_of_ble_eq_true rfl) (fun X _ hN C => by
    unfold X6_lowest
    refine j_iload_n (pc := 0) C dX6_lowest_0 rfl 0 rfl ?_
    refine j_istore_n (pc := 1) C hN dX6_lowest_1 rfl (by decide) (lv' := [(3, .int (oI l0)), (0, .int (oI l0)), (1, .int (oI l1)), (2, .int (oI l2))]) rfl ?_
    refine j_iload_n (pc := 2) C dX6_lowest_2 rfl 2 rfl ?_
    refine j_istore (pc := 3) C hN dX6_lowest_3 (by decide) (lv' := [(4, .int (oI l1)), (3, .int (oI l0)), (0, .int (oI l0)), (1, .int (oI l1)), (2, .int (oI l2))]) rfl ?_
    refine j_iconst (pc := 5) C dX6_lowest_5 ?_
    refine j_istore (pc := 6) C hN dX6_lowest_6 (by decide) (lv' := [(5, .int (oI 0)), (4, .int (oI l1)), (3, .int (oI l0)), (0, .int (oI l0)), (1, .int (oI l1)), (2, .int (oI l2))]) rfl ?_
    exact j_sub [3, 4, 5, 2, 1, 0] rfl (X6_lowest_L8_j C hN hj FU _ _ _))
def X6_odds_L32 (l1 : Int) (l2 : Int) (l3 : Int) : Nat → PS → Int → Int → Option (Int × PS)
  | 0, _, _, _ => none
  | k + 1, st, l4, l5 => if wI (st 20 0) ≤ wI l5 then bI (X6_lowest st l4 (st 20 0) l3) (fun v1 => some (v1, st)) else (bI (X5_takeFrom 40 20 st) (fun s1 => bI (X5_give 40 s1 l5 9) (fun s2 => bI (X5_go 40 s2 40) (fun s3 => bI (zrd s3 (40 + 5) 7 l1) (fun v2 => if wI v2 < wI l2 then X6_odds_L32 l1 l2 l3 k s3 l4 (l5 + 1) else (X6_odds_L32 l1 l2 l3 k s3 (l4 + 1) (l5 + 1)))))))
def X6_odds (st : PS) (l1 l2 l3 : Int) : Option (Int × PS) := if wI (X6_isHouse st l1) = 0 then some ((-9223372036854775808), st) else (if wI (X6_isEarned st l2) = 0 then some ((-9223372036854775808), st) else (if wI (X6_isWhich st l3) = 0 then some ((-9223372036854775808), st) else (X6_odds_L32 l1 l2 l3 FU st 0 0)))
set_option maxHeartbeats 4000000 in
set_option maxRecDepth 100000 in
theorem X6_odds_L32_j {X : JX} {G : GD} (C : zC X sC G RX6 cX6_odds (some .long) 6) (hN : X.2.2.2.2.2.2.2.2.2.2.2.2 = 6) (hj : zInj sC G) {l1 : Int} {l2 : Int} {l3 : Int} : ∀ (k : Nat) (st : PS) (l4 : Int) (l5 : Int), J X (zI sC G) (zQ sC G fLI) st [(0, .ref (G.2.2.1 0)), (1, .int (oI l1)), (2, .int (oI l2)), (3, .int (oI l3)), (4, .int (oI l4)), (5, .int (oI l5))] 32 [] (X6_odds_L32 l1 l2 l3 k st l4 l5) := by
  intro k
  induction k with
  | zero => intro st l4 l5; exact j_none
  | succ k ih =>
    intro st l4 l5
    rw [X6_odds_L32]
    refine j_iload (pc := 32) C dX6_odds_32 5 rfl ?_
    refine j_aload_n (pc := 34) C dX6_odds_34 rfl 0 rfl ?_
    refine gf_X6_12 (pc := 35) C dX6_odds_35 ?_
    refine gf_X6_79 (pc := 38) C is20 dX6_odds_38 ?_
    refine j_icmp_ge (pc := 41) (tgt := 97) C dX6_odds_41 rfl ?_ ?_
    · refine j_iload (pc := 97) C dX6_odds_97 4 rfl ?_
      refine j_aload_n (pc := 99) C dX6_odds_99 rfl 0 rfl ?_
      refine gf_X6_12 (pc := 100) C dX6_odds_100 ?_
      refine gf_X6_79 (pc := 103) C is20 dX6_odds_103 ?_
      refine j_iload_n (pc := 106) C dX6_odds_106 rfl 3 rfl ?_
      refine j_bI (fun v1 ev1 => ?_)
      refine j_callS1 (pc := 107) C (X6_lowest_m _ hj ev1) kS_X6_191 rfl (by omega) rfl (Nat.le_of_ble_eq_true rfl) dX6_odds_107 ?_
      exact j_lreturn C rfl rfl dX6_odds_110
    · refine j_aload_n (pc := 44) C dX6_odds_44 rfl 0 rfl ?_
      refine gf_X6_18 (pc := 45) C dX6_odds_45 ?_
      refine j_aload_n (pc := 48) C dX6_odds_48 rfl 0 rfl ?_
      refine gf_X6_12 (pc := 49) C dX6_odds_49 ?_
      refine j_bI (fun s1 es1 => ?_)
      refine j_callV0 (pc := 52) C (obX5 is40) rfl rfl (X5_takeFrom_m _ hj is40 is20 es1) kV_X6_151 rfl (by omega) rfl (Nat.le_of_ble_eq_true rfl) dX6_odds_52 ?_
      refine j_aload_n (pc := 55) C dX6_odds_55 rfl 0 rfl ?_
      refine gf_X6_18 (pc := 56) C dX6_odds_56 ?_
      refine j_iload (pc := 59) C dX6_odds_59 5 rfl ?_
      refine j_bipush (pc := 61) C dX6_odds_61 (by decide) ?_
      refine j_bI (fun s2 es2 => ?_)
      refine j_callV0 (pc := 63) C (obX5 is40) rfl rfl (X5_give_m _ hj is40 es2) kV_X6_163 rfl (by omega) rfl (Nat.le_of_ble_eq_true rfl) dX6_odds_63 ?_
      refine j_aload_n (pc := 66) C dX6_odds_66 rfl 0 rfl ?_
      refine gf_X6_18 (pc := 67) C dX6_odds_67 ?_
      refine j_bipush (pc := 70) C dX6_odds_70 (by decide) ?_
      refine j_bI (fun s3 es3 => ?_)
      refine j_callV0 (pc := 72) C (obX5 is40) rfl rfl (X5_go_m _ hj is40 es3) kV_X6_147 rfl (by omega) rfl (Nat.le_of_ble_eq_true rfl) dX6_odds_72 ?_
      refine j_aload_n (pc := 75) C dX6_odds_75 rfl 0 rfl ?_
      refine gf_X6_18 (pc := 76) C dX6_odds_76 ?_
      refine gf_X6_96 (pc := 79) C is40 dX6_odds_79 ?_
      refine j_iload_n (pc := 82) C dX6_odds_82 rfl 1 rfl ?_
      refine j_bI (fun v2 ev2 => ?_)
      refine j_iald (pc := 83) C (arX5_5 is40) ev2 dX6_odds_83 ?_
      refine j_iload_n (pc := 84) C dX6_odds_84 rfl 2 rfl ?_
      refine j_icmp_lt (pc := 85) (tgt := 91) C dX6_odds_85 rfl ?_ ?_
      · refine j_iinc (pc := 91) C hN dX6_odds_91 5 rfl (by decide) (lv' := [(5, .int (oI (l5 + 1))), (0, .ref (G.2.2.1 0)), (1, .int (oI l1)), (2, .int (oI l2)), (3, .int (oI l3)), (4, .int (oI l4))]) rfl ?_
        refine j_goto (pc := 94) (tgt := 32) C dX6_odds_94 rfl ?_
        exact j_sub [1, 2, 3, 4, 5, 0] rfl (ih _ _ _)
      · refine j_iinc (pc := 88) C hN dX6_odds_88 4 rfl (by decide) (lv' := [(4, .int (oI (l4 + 1))), (0, .ref (G.2.2.1 0)), (1, .int (oI l1)), (2, .int (oI l2)), (3, .int (oI l3)), (5, .int (oI l5))]) rfl ?_
        refine j_iinc (pc := 91) C hN dX6_odds_91 5 rfl (by decide) (lv' := [(5, .int (oI (l5 + 1))), (4, .int (oI (l4 + 1))), (0, .ref (G.2.2.1 0)), (1, .int (oI l1)), (2, .int (oI l2)), (3, .int (oI l3))]) rfl ?_
        refine j_goto (pc := 94) (tgt := 32) C dX6_odds_94 rfl ?_
        exact j_sub [2, 3, 4, 5, 1, 0] rfl (ih _ _ _)
set_option maxHeartbeats 4000000 in
set_option maxRecDepth 100000 in
theorem X6_odds_m (l : Launch) {G : GD} (hj : zInj sC G) {st : PS} {l1 l2 l3 : Int} {r : (Int × PS)} (hr : X6_odds st l1 l2 l3 = some r) : zM l sC G yX6_odds cX6_odds 6 (some .long) 6 [.ref (G.2.2.1 0), .int (oI l1), .int (oI l2), .int (oI l3)] st (some (.long (oL r.1))) r.2 :=
  zEnter (f := fLI) hr hj (by decide) rfl (lv := [(0, .ref (G.2.2.1 0)), (1, .int (oI l1)), (2, .int (oI l2)), (3, .int (oI l3))]) rfl (Nat.le_of_ble_eq_true rfl) (fun X _ hN C => by
    unfold X6_odds
    refine j_aload_n (pc := 0) C dX6_odds_0 rfl 0 rfl ?_
    refine j_iload_n (pc := 1) C dX6_odds_1 rfl 1 rfl ?_
    refine j_callV1 (pc := 2) C obX6 rfl rfl (X6_isHouse_m _ hj rfl) kV_X6_87 rfl (by omega) rfl (Nat.le_of_ble_eq_true rfl) dX6_odds_2 ?_
    refine j_if_eq (pc := 5) (tgt := 22) C dX6_odds_5 rfl ?_ ?_
    · refine j_ldc2 (pc := 22) C (z := (-9223372036854775808)) (zT_of (i := 749) (by decide +kernel) rfl) rfl dX6_odds_22 ?_
      exact j_lreturn C rfl rfl dX6_odds_25
    · refine j_iload_n (pc := 8) C dX6_odds_8 rfl 2 rfl ?_
      refine j_callS1 (pc := 9) C (X6_isEarned_m _ hj rfl) kS_X6_76 rfl (by omega) rfl (Nat.le_of_ble_eq_true rfl) dX6_odds_9 ?_
      refine j_if_eq (pc := 12) (tgt := 22) C dX6_odds_12 rfl ?_ ?_
      · refine j_ldc2 (pc := 22) C (z := (-9223372036854775808)) (zT_of (i := 749) (by decide +kernel) rfl) rfl dX6_odds_22 ?_
        exact j_lreturn C rfl rfl dX6_odds_25
      · refine j_iload_n (pc := 15) C dX6_odds_15 rfl 3 rfl ?_
        refine j_callS1 (pc := 16) C (X6_isWhich_m _ hj rfl) kS_X6_160 rfl (by omega) rfl (Nat.le_of_ble_eq_true rfl) dX6_odds_16 ?_
        refine j_if_ne (pc := 19) (tgt := 26) C dX6_odds_19 rfl ?_ ?_
        · refine j_ldc2 (pc := 22) C (z := (-9223372036854775808)) (zT_of (i := 749) (by decide +kernel) rfl) rfl dX6_odds_22 ?_
          exact j_lreturn C rfl rfl dX6_odds_25
        · refine j_iconst (pc := 26) C dX6_odds_26 ?_
          refine j_istore (pc := 27) C hN dX6_odds_27 (by decide) (lv' := [(4, .int (oI 0)), (0, .ref (G.2.2.1 0)), (1, .int (oI l1)), (2, .int (oI l2)), (3, .int (oI l3))]) rfl ?_
          refine j_iconst (pc := 29) C dX6_odds_29 ?_
          refine j_istore (pc := 30) C hN dX6_odds_30 (by decide) (lv' := [(5, .int (oI 0)), (4, .int (oI 0)), (0, .ref (G.2.2.1 0)), (1, .int (oI l1)), (2, .int (oI l2)), (3, .int (oI l3))]) rfl ?_
          exact j_sub [2, 3, 4, 5, 1, 0] rfl (X6_odds_L32_j C hN hj FU _ _ _))
def X6_mean_L48 (l1 : Int) (l2 : Int) : Nat → PS → Int → Int → Option (Int × PS)
  | 0, _, _, _ => none
  | k + 1, st, l3, l4 => if wI l1 < wI l4 then bI (X6_lowest st l3 (l1 * (st 20 0)) l2) (fun v1 => some (v1, st)) else (bI (X5_go 40 st 1) (fun s2 => bI (X5_total 40 s2) (fun v2 => X6_mean_L48 l1 l2 k s2 (l3 + v2) (l4 + 1))))
def X6_mean (st : PS) (l1 l2 : Int) : Option (Int × PS) := if wI l1 < wI 1 then some ((-9223372036854775808), st) else (if wI 60 < wI l1 then some ((-9223372036854775808), st) else (if wI (X6_isWhich st l2) = 0 then some ((-9223372036854775808), st) else (if wI (st 20 0) = 0 then some ((-9223372036854775808), st) else (bI (X5_takeFrom 40 20 st) (fun s1 => X6_mean_L48 l1 l2 FU s1 0 1)))))
set_option maxHeartbeats 4000000 in
set_option maxRecDepth 100000 in
theorem X6_mean_L48_j {X : JX} {G : GD} (C : zC X sC G RX6 cX6_mean (some .long) 6) (hN : X.2.2.2.2.2.2.2.2.2.2.2.2 = 5) (hj : zInj sC G) {l1 : Int} {l2 : Int} : ∀ (k : Nat) (st : PS) (l3 : Int) (l4 : Int), J X (zI sC G) (zQ sC G fLI) st [(0, .ref (G.2.2.1 0)), (1, .int (oI l1)), (2, .int (oI l2)), (3, .int (oI l3)), (4, .int (oI l4))] 48 [] (X6_mean_L48 l1 l2 k st l3 l4) := by
  intro k
  induction k with
  | zero => intro st l3 l4; exact j_none
  | succ k ih =>
    intro st l3 l4
    rw [X6_mean_L48]
    refine j_iload (pc := 48) C dX6_mean_48 4 rfl ?_
    refine j_iload_n (pc := 50) C dX6_mean_50 rfl 1 rfl ?_
    refine j_icmp_gt (pc := 51) (tgt := 78) C dX6_mean_51 rfl ?_ ?_
    · refine j_iload_n (pc := 78) C dX6_mean_78 rfl 3 rfl ?_
      refine j_iload_n (pc := 79) C dX6_mean_79 rfl 1 rfl ?_
      refine j_aload_n (pc := 80) C dX6_mean_80 rfl 0 rfl ?_
      refine gf_X6_12 (pc := 81) C dX6_mean_81 ?_
      refine gf_X6_79 (pc := 84) C is20 dX6_mean_84 ?_
      refine j_imul (pc := 87) C dX6_mean_87 ?_
      refine j_iload_n (pc := 88) C dX6_mean_88 rfl 2 rfl ?_
      refine j_bI (fun v1 ev1 => ?_)
      refine j_callS1 (pc := 89) C (X6_lowest_m _ hj ev1) kS_X6_191 rfl (by omega) rfl (Nat.le_of_ble_eq_true rfl) dX6_mean_89 ?_
      exact j_lreturn C rfl rfl dX6_mean_92
    · refine j_aload_n (pc := 54) C dX6_mean_54 rfl 0 rfl ?_
      refine gf_X6_18 (pc := 55) C dX6_mean_55 ?_
      refine j_iconst (pc := 58) C dX6_mean_58 ?_
      refine j_bI (fun s2 es2 => ?_)
      refine j_callV0 (pc := 59) C (obX5 is40) rfl rfl (X5_go_m _ hj is40 es2) kV_X6_147 rfl (by omega) rfl (Nat.le_of_ble_eq_true rfl) dX6_mean_59 ?_
      refine j_iload_n (pc := 62) C dX6_mean_62 rfl 3 rfl ?_
      refine j_aload_n (pc := 63) C dX6_mean_63 rfl 0 rfl ?_
      refine gf_X6_18 (pc := 64) C dX6_mean_64 ?_
      refine j_bI (fun v2 ev2 => ?_)
      refine j_callV1 (pc := 67) C (obX5 is40) rfl rfl (X5_total_m _ hj is40 ev2) kV_X6_144 rfl (by omega) rfl (Nat.le_of_ble_eq_true rfl) dX6_mean_67 ?_
      refine j_iadd (pc := 70) C dX6_mean_70 ?_
      refine j_istore_n (pc := 71) C hN dX6_mean_71 rfl (by decide) (lv' := [(3, .int (oI (l3 + v2))), (0, .ref (G.2.2.1 0)), (1, .int (oI l1)), (2, .int (oI l2)), (4, .int (oI l4))]) rfl ?_
      refine j_iinc (pc := 72) C hN dX6_mean_72 4 rfl (by decide) (lv' := [(4, .int (oI (l4 + 1))), (3, .int (oI (l3 + v2))), (0, .ref (G.2.2.1 0)), (1, .int (oI l1)), (2, .int (oI l2))]) rfl ?_
      refine j_goto (pc := 75) (tgt := 48) C dX6_mean_75 rfl ?_
      exact j_sub [2, 3, 4, 1, 0] rfl (ih _ _ _)
set_option maxHeartbeats 4000000 in
set_option maxRecDepth 100000 in
theorem X6_mean_m (l : Launch) {G : GD} (hj : zInj sC G) {st : PS} {l1 l2 : Int} {r : (Int × PS)} (hr : X6_mean st l1 l2 = some r) : zM l sC G yX6_mean cX6_mean 5 (some .long) 6 [.ref (G.2.2.1 0), .int (oI l1), .int (oI l2)] st (some (.long (oL r.1))) r.2 :=
  zEnter (f := fLI) hr hj (by decide) rfl (lv := [(0, .ref (G.2.2.1 0)), (1, .int (oI l1)), (2, .int (oI l2))]) rfl (Nat.le_of_ble_eq_true rfl) (fun X _ hN C => by
    unfold X6_mean
    refine j_iload_n (pc := 0) C dX6_mean_0 rfl 1 rfl ?_
    refine j_iconst (pc := 1) C dX6_mean_1 ?_
    refine j_icmp_lt (pc := 2) (tgt := 28) C dX6_mean_2 rfl ?_ ?_
    · refine j_ldc2 (pc := 28) C (z := (-9223372036854775808)) (zT_of (i := 749) (by decide +kernel) rfl) rfl dX6_mean_28 ?_
      exact j_lreturn C rfl rfl dX6_mean_31
    · refine j_iload_n (pc := 5) C dX6_mean_5 rfl 1 rfl ?_
      refine j_bipush (pc := 6) C dX6_mean_6 (by decide) ?_
      refine j_icmp_gt (pc := 8) (tgt := 28) C dX6_mean_8 rfl ?_ ?_
      · refine j_ldc2 (pc := 28) C (z := (-9223372036854775808)) (zT_of (i := 749) (by decide +kernel) rfl) rfl dX6_mean_28 ?_
        exact j_lreturn C rfl rfl dX6_mean_31
      · refine j_iload_n (pc := 11) C dX6_mean_11 rfl 2 rfl ?_
        refine j_callS1 (pc := 12) C (X6_isWhich_m _ hj rfl) kS_X6_160 rfl (by omega) rfl (Nat.le_of_ble_eq_true rfl) dX6_mean_12 ?_
        refine j_if_eq (pc := 15) (tgt := 28) C dX6_mean_15 rfl ?_ ?_
        · refine j_ldc2 (pc := 28) C (z := (-9223372036854775808)) (zT_of (i := 749) (by decide +kernel) rfl) rfl dX6_mean_28 ?_
          exact j_lreturn C rfl rfl dX6_mean_31
        · refine j_aload_n (pc := 18) C dX6_mean_18 rfl 0 rfl ?_
          refine gf_X6_12 (pc := 19) C dX6_mean_19 ?_
          refine gf_X6_79 (pc := 22) C is20 dX6_mean_22 ?_
          refine j_if_ne (pc := 25) (tgt := 32) C dX6_mean_25 rfl ?_ ?_
          · refine j_ldc2 (pc := 28) C (z := (-9223372036854775808)) (zT_of (i := 749) (by decide +kernel) rfl) rfl dX6_mean_28 ?_
            exact j_lreturn C rfl rfl dX6_mean_31
          · refine j_aload_n (pc := 32) C dX6_mean_32 rfl 0 rfl ?_
            refine gf_X6_18 (pc := 33) C dX6_mean_33 ?_
            refine j_aload_n (pc := 36) C dX6_mean_36 rfl 0 rfl ?_
            refine gf_X6_12 (pc := 37) C dX6_mean_37 ?_
            refine j_bI (fun s1 es1 => ?_)
            refine j_callV0 (pc := 40) C (obX5 is40) rfl rfl (X5_takeFrom_m _ hj is40 is20 es1) kV_X6_151 rfl (by omega) rfl (Nat.le_of_ble_eq_true rfl) dX6_mean_40 ?_
            refine j_iconst (pc := 43) C dX6_mean_43 ?_
            refine j_istore_n (pc := 44) C hN dX6_mean_44 rfl (by decide) (lv' := [(3, .int (oI 0)), (0, .ref (G.2.2.1 0)), (1, .int (oI l1)), (2, .int (oI l2))]) rfl ?_
            refine j_iconst (pc := 45) C dX6_mean_45 ?_
            refine j_istore (pc := 46) C hN dX6_mean_46 (by decide) (lv' := [(4, .int (oI 1)), (3, .int (oI 0)), (0, .ref (G.2.2.1 0)), (1, .int (oI l1)), (2, .int (oI l2))]) rfl ?_
            exact j_sub [2, 3, 4, 1, 0] rfl (X6_mean_L48_j C hN hj FU _ _ _))
def X6_book (st : PS) (l1 : Int) : Option (Int × PS) := if wI l1 = wI (-1) then zlet (zu st 80 3 0) (fun s1 => some (0, s1)) else (if wI l1 = wI (-2) then bP (X1_addBook 80 st l1) (fun v1 s2 => some (v1, s2)) else (if wI (X6_isEarned st l1) = 0 then some ((-2), st) else (bP (X1_addBook 80 st l1) (fun v2 s3 => some (v2, s3)))))
set_option maxHeartbeats 4000000 in
set_option maxRecDepth 100000 in
theorem X6_book_m (l : Launch) {G : GD} (hj : zInj sC G) {st : PS} {l1 : Int} {r : (Int × PS)} (hr : X6_book st l1 = some r) : zM l sC G yX6_book cX6_book 2 (some .int) 1 [.ref (G.2.2.1 0), .int (oI l1)] st (some (.int (oI r.1))) r.2 :=
  zEnter (f := fI) hr hj (by decide) rfl (lv := [(0, .ref (G.2.2.1 0)), (1, .int (oI l1))]) rfl (Nat.le_of_ble_eq_true rfl) (fun X _ hN C => by
    unfold X6_book
    refine j_iload_n (pc := 0) C dX6_book_0 rfl 1 rfl ?_
    refine j_iconst (pc := 1) C dX6_book_1 ?_
    refine j_icmp_ne (pc := 2) (tgt := 15) C dX6_book_2 rfl ?_ ?_
    · refine j_aload_n (pc := 5) C dX6_book_5 rfl 0 rfl ?_
      refine gf_X6_27 (pc := 6) C dX6_book_6 ?_
      refine j_iconst (pc := 9) C dX6_book_9 ?_
      refine fp_X6_195 (pc := 10) C is80 dX6_book_10 ?_
      refine j_let (fun s1 => ?_)
      refine j_iconst (pc := 13) C dX6_book_13 ?_
      exact j_ireturn C rfl rfl rfl rfl dX6_book_14
    · refine j_iload_n (pc := 15) C dX6_book_15 rfl 1 rfl ?_
      refine j_bipush (pc := 16) C dX6_book_16 (by decide) ?_
      refine j_icmp_eq (pc := 18) (tgt := 31) C dX6_book_18 rfl ?_ ?_
      · refine j_aload_n (pc := 31) C dX6_book_31 rfl 0 rfl ?_
        refine gf_X6_27 (pc := 32) C dX6_book_32 ?_
        refine j_iload_n (pc := 35) C dX6_book_35 rfl 1 rfl ?_
        refine j_bP (fun v1 s2 es2 => ?_)
        refine j_callV1 (pc := 36) C (obX1 is80) rfl rfl (X1_addBook_m _ hj is80 es2) kV_X6_198 rfl (by omega) rfl (Nat.le_of_ble_eq_true rfl) dX6_book_36 ?_
        exact j_ireturn C rfl rfl rfl rfl dX6_book_39
      · refine j_iload_n (pc := 21) C dX6_book_21 rfl 1 rfl ?_
        refine j_callS1 (pc := 22) C (X6_isEarned_m _ hj rfl) kS_X6_76 rfl (by omega) rfl (Nat.le_of_ble_eq_true rfl) dX6_book_22 ?_
        refine j_if_ne (pc := 25) (tgt := 31) C dX6_book_25 rfl ?_ ?_
        · refine j_bipush (pc := 28) C dX6_book_28 (by decide) ?_
          exact j_ireturn C rfl rfl rfl rfl dX6_book_30
        · refine j_aload_n (pc := 31) C dX6_book_31 rfl 0 rfl ?_
          refine gf_X6_27 (pc := 32) C dX6_book_32 ?_
          refine j_iload_n (pc := 35) C dX6_book_35 rfl 1 rfl ?_
          refine j_bP (fun v2 s3 es3 => ?_)
          refine j_callV1 (pc := 36) C (obX1 is80) rfl rfl (X1_addBook_m _ hj is80 es3) kV_X6_198 rfl (by omega) rfl (Nat.le_of_ble_eq_true rfl) dX6_book_36 ?_
          exact j_ireturn C rfl rfl rfl rfl dX6_book_39)
def X6_looked_L26  : Nat → PS → Int → Option (Int × PS)
  | 0, _, _ => none
  | k + 1, st, l1 => if wI (st 80 3) ≤ wI l1 then some ((-5), st) else (bI (X5_go 40 st 1) (fun s2 => bI (zrd s2 (80 + 4) 12 l1) (fun v1 => if wI v1 = wI (-2) then X6_looked_L26 k s2 (l1 + 1) else (bI (zrd s2 (80 + 4) 12 l1) (fun v2 => bI (zrd s2 (40 + 5) 7 0) (fun v3 => if wI v2 = wI v3 then X6_looked_L26 k s2 (l1 + 1) else (some (l1, s2))))))))
def X6_looked (st : PS) : Option (Int × PS) := if wI (st 20 0) = 0 then some ((-3), st) else (bI (X5_takeFrom 40 20 st) (fun s1 => X6_looked_L26 FU s1 0))
set_option maxHeartbeats 4000000 in
set_option maxRecDepth 100000 in
theorem X6_looked_L26_j {X : JX} {G : GD} (C : zC X sC G RX6 cX6_looked (some .int) 6) (hN : X.2.2.2.2.2.2.2.2.2.2.2.2 = 2) (hj : zInj sC G)  : ∀ (k : Nat) (st : PS) (l1 : Int), J X (zI sC G) (zQ sC G fI) st [(0, .ref (G.2.2.1 0)), (1, .int (oI l1))] 26 [] (X6_looked_L26 k st l1) := by
  intro k
  induction k with
  | zero => intro st l1; exact j_none
  | succ k ih =>
    intro st l1
    rw [X6_looked_L26]
    refine j_iload_n (pc := 26) C dX6_looked_26 rfl 1 rfl ?_
    refine j_aload_n (pc := 27) C dX6_looked_27 rfl 0 rfl ?_
    refine gf_X6_27 (pc := 28) C dX6_looked_28 ?_
    refine gf_X6_195 (pc := 31) C is80 dX6_looked_31 ?_
    refine j_icmp_ge (pc := 34) (tgt := 88) C dX6_looked_34 rfl ?_ ?_
    · refine j_bipush (pc := 88) C dX6_looked_88 (by decide) ?_
      exact j_ireturn C rfl rfl rfl rfl dX6_looked_90
    · refine j_aload_n (pc := 37) C dX6_looked_37 rfl 0 rfl ?_
      refine gf_X6_18 (pc := 38) C dX6_looked_38 ?_
      refine j_iconst (pc := 41) C dX6_looked_41 ?_
      refine j_bI (fun s2 es2 => ?_)
      refine j_callV0 (pc := 42) C (obX5 is40) rfl rfl (X5_go_m _ hj is40 es2) kV_X6_147 rfl (by omega) rfl (Nat.le_of_ble_eq_true rfl) dX6_looked_42 ?_
      refine j_aload_n (pc := 45) C dX6_looked_45 rfl 0 rfl ?_
      refine gf_X6_27 (pc := 46) C dX6_looked_46 ?_
      refine gf_X6_201 (pc := 49) C is80 dX6_looked_49 ?_
      refine j_iload_n (pc := 52) C dX6_looked_52 rfl 1 rfl ?_
      refine j_bI (fun v1 ev1 => ?_)
      refine j_iald (pc := 53) C (arX1_4 is80) ev1 dX6_looked_53 ?_
      refine j_bipush (pc := 54) C dX6_looked_54 (by decide) ?_
      refine j_icmp_eq (pc := 56) (tgt := 82) C dX6_looked_56 rfl ?_ ?_
      · refine j_iinc (pc := 82) C hN dX6_looked_82 1 rfl (by decide) (lv' := [(1, .int (oI (l1 + 1))), (0, .ref (G.2.2.1 0))]) rfl ?_
        refine j_goto (pc := 85) (tgt := 26) C dX6_looked_85 rfl ?_
        exact j_sub [1, 0] rfl (ih _ _)
      · refine j_aload_n (pc := 59) C dX6_looked_59 rfl 0 rfl ?_
        refine gf_X6_27 (pc := 60) C dX6_looked_60 ?_
        refine gf_X6_201 (pc := 63) C is80 dX6_looked_63 ?_
        refine j_iload_n (pc := 66) C dX6_looked_66 rfl 1 rfl ?_
        refine j_bI (fun v2 ev2 => ?_)
        refine j_iald (pc := 67) C (arX1_4 is80) ev2 dX6_looked_67 ?_
        refine j_aload_n (pc := 68) C dX6_looked_68 rfl 0 rfl ?_
        refine gf_X6_18 (pc := 69) C dX6_looked_69 ?_
        refine gf_X6_96 (pc := 72) C is40 dX6_looked_72 ?_
        refine j_iconst (pc := 75) C dX6_looked_75 ?_
        refine j_bI (fun v3 ev3 => ?_)
        refine j_iald (pc := 76) C (arX5_5 is40) ev3 dX6_looked_76 ?_
        refine j_icmp_eq (pc := 77) (tgt := 82) C dX6_looked_77 rfl ?_ ?_
        · refine j_iinc (pc := 82) C hN dX6_looked_82 1 rfl (by decide) (lv' := [(1, .int (oI (l1 + 1))), (0, .ref (G.2.2.1 0))]) rfl ?_
          refine j_goto (pc := 85) (tgt := 26) C dX6_looked_85 rfl ?_
          exact j_sub [1, 0] rfl (ih _ _)
        · refine j_iload_n (pc := 80) C dX6_looked_80 rfl 1 rfl ?_
          exact j_ireturn C rfl rfl rfl rfl dX6_looked_81
set_option maxHeartbeats 4000000 in
set_option maxRecDepth 100000 in
theorem X6_looked_m (l : Launch) {G : GD} (hj : zInj sC G) {st : PS} {r : (Int × PS)} (hr : X6_looked st = some r) : zM l sC G yX6_looked cX6_looked 2 (some .int) 6 [.ref (G.2.2.1 0)] st (some (.int (oI r.1))) r.2 :=
  zEnter (f := fI) hr hj (by decide) rfl (lv := [(0, .ref (G.2.2.1 0))]) rfl (Nat.le_of_ble_eq_true rfl) (fun X _ hN C => by
    unfold X6_looked
    refine j_aload_n (pc := 0) C dX6_looked_0 rfl 0 rfl ?_
    refine gf_X6_12 (pc := 1) C dX6_looked_1 ?_
    refine gf_X6_79 (pc := 4) C is20 dX6_looked_4 ?_
    refine j_if_ne (pc := 7) (tgt := 13) C dX6_looked_7 rfl ?_ ?_
    · refine j_bipush (pc := 10) C dX6_looked_10 (by decide) ?_
      exact j_ireturn C rfl rfl rfl rfl dX6_looked_12
    · refine j_aload_n (pc := 13) C dX6_looked_13 rfl 0 rfl ?_
      refine gf_X6_18 (pc := 14) C dX6_looked_14 ?_
      refine j_aload_n (pc := 17) C dX6_looked_17 rfl 0 rfl ?_
      refine gf_X6_12 (pc := 18) C dX6_looked_18 ?_
      refine j_bI (fun s1 es1 => ?_)
      refine j_callV0 (pc := 21) C (obX5 is40) rfl rfl (X5_takeFrom_m _ hj is40 is20 es1) kV_X6_151 rfl (by omega) rfl (Nat.le_of_ble_eq_true rfl) dX6_looked_21 ?_
      refine j_iconst (pc := 24) C dX6_looked_24 ?_
      refine j_istore_n (pc := 25) C hN dX6_looked_25 rfl (by decide) (lv' := [(1, .int (oI 0)), (0, .ref (G.2.2.1 0))]) rfl ?_
      exact j_sub [1, 0] rfl (X6_looked_L26_j C hN hj FU _ _))
def X6_isTape (st : PS) (l0 : Int) : Int := if wI l0 < 0 then 0 else (if wI 6 ≤ wI l0 then 0 else (1))
set_option maxHeartbeats 4000000 in
set_option maxRecDepth 100000 in
theorem X6_isTape_m (l : Launch) {G : GD} (hj : zInj sC G) {st : PS} {l0 : Int} {r : Int} (hr : X6_isTape st l0 = r) : zM l sC G yX6_isTape cX6_isTape 1 (some .boolean) 0 [.int (oI l0)] st (some (.int (oI r))) st :=
  zEnter (f := fR st) (o := some (X6_isTape st l0)) (by rw [hr]) hj (by decide) rfl (lv := [(0, .int (oI l0))]) rfl (Nat.le_of_ble_eq_true rfl) (fun X _ hN C => by
    simp only [X6_isTape, zsome_ite]
    refine j_iload_n (pc := 0) C dX6_isTape_0 rfl 0 rfl ?_
    refine j_if_lt (pc := 1) (tgt := 14) C dX6_isTape_1 rfl ?_ ?_
    · refine j_iconst (pc := 14) C dX6_isTape_14 ?_
      exact j_ireturn C rfl rfl (znar (Or.inl rfl)) rfl dX6_isTape_15
    · refine j_iload_n (pc := 4) C dX6_isTape_4 rfl 0 rfl ?_
      refine j_bipush (pc := 5) C dX6_isTape_5 (by decide) ?_
      refine j_icmp_ge (pc := 7) (tgt := 14) C dX6_isTape_7 rfl ?_ ?_
      · refine j_iconst (pc := 14) C dX6_isTape_14 ?_
        exact j_ireturn C rfl rfl (znar (Or.inl rfl)) rfl dX6_isTape_15
      · refine j_iconst (pc := 10) C dX6_isTape_10 ?_
        refine j_goto (pc := 11) (tgt := 15) C dX6_isTape_11 rfl ?_
        exact j_ireturn C rfl rfl (znar (Or.inr rfl)) rfl dX6_isTape_15)
theorem X6_isTape_bit {st : PS} {l0 : Int} : X6_isTape st l0 = 0 ∨ X6_isTape st l0 = 1 := by
  unfold X6_isTape
  first | exact Or.inl rfl | (repeat' split) <;> first | exact Or.inl rfl | exact Or.inr rfl
def X6_judge_L38 (l2 : Int) (r3 : Nat) (st : PS) : Nat → Int → Option Int
  | 0, _ => none
  | k + 1, l4 => if wI (st 20 0) ≤ wI l4 then some (-5) else (if wI l2 < 0 then some (100 + l4) else (if wI l2 < wI ((st r3 1) - l4) then bI (zrd st (r3 + 2) 60 (l2 + l4)) (fun v1 => bI (zrd st (20 + 5) 7 l4) (fun v2 => if wI (zcmp v1 (wI v2)) = 0 then X6_judge_L38 l2 r3 st k (l4 + 1) else (some l4))) else (some (100 + l4))))
def X6_judge (st : PS) (l1 l2 : Int) : Option Int := if wI (X6_isTape st l1) = 0 then some (-1) else (zchk (wI l1) 6 (if wI (st (200 + 10 * (wI l1).toNat) 0) = wI (-1) then X6_judge_L38 l2 (200 + 10 * (wI l1).toNat) st FU 0 else (if wI (st (200 + 10 * (wI l1).toNat) 0) = wI 1 then X6_judge_L38 l2 (200 + 10 * (wI l1).toNat) st FU 0 else (some (-12)))))
set_option maxHeartbeats 4000000 in
set_option maxRecDepth 100000 in
theorem X6_judge_L38_j {X : JX} {G : GD} (C : zC X sC G RX6 cX6_judge (some .int) 1) (hN : X.2.2.2.2.2.2.2.2.2.2.2.2 = 5) (hj : zInj sC G) {l2 : Int} {r3 : Nat} {st : PS} (h3 : IsTape r3) : ∀ (k : Nat) (l4 : Int), J X (zI sC G) (zQ sC G (fR st)) st [(0, .ref (G.2.2.1 0)), (2, .int (oI l2)), (3, .ref (G.2.2.1 r3)), (4, .int (oI l4))] 38 [] (X6_judge_L38 l2 r3 st k l4) := by
  intro k
  induction k with
  | zero => intro l4; exact j_none
  | succ k ih =>
    intro l4
    rw [X6_judge_L38]
    refine j_iload (pc := 38) C dX6_judge_38 3 rfl ?_
    refine j_aload_n (pc := 40) C dX6_judge_40 rfl 0 rfl ?_
    refine gf_X6_12 (pc := 41) C dX6_judge_41 ?_
    refine gf_X6_79 (pc := 44) C is20 dX6_judge_44 ?_
    refine j_icmp_ge (pc := 47) (tgt := 104) C dX6_judge_47 rfl ?_ ?_
    · refine j_bipush (pc := 104) C dX6_judge_104 (by decide) ?_
      exact j_ireturn C rfl rfl rfl rfl dX6_judge_106
    · refine j_iload_n (pc := 50) C dX6_judge_50 rfl 1 rfl ?_
      refine j_if_lt (pc := 51) (tgt := 65) C dX6_judge_51 rfl ?_ ?_
      · refine j_bipush (pc := 65) C dX6_judge_65 (by decide) ?_
        refine j_iload (pc := 67) C dX6_judge_67 3 rfl ?_
        refine j_iadd (pc := 69) C dX6_judge_69 ?_
        exact j_ireturn C rfl rfl rfl rfl dX6_judge_70
      · refine j_iload_n (pc := 54) C dX6_judge_54 rfl 1 rfl ?_
        refine j_aload_n (pc := 55) C dX6_judge_55 rfl 2 rfl ?_
        refine gf_X6_210 (pc := 56) C h3 dX6_judge_56 ?_
        refine j_iload (pc := 59) C dX6_judge_59 3 rfl ?_
        refine j_isub (pc := 61) C dX6_judge_61 ?_
        refine j_icmp_lt (pc := 62) (tgt := 71) C dX6_judge_62 rfl ?_ ?_
        · refine j_aload_n (pc := 71) C dX6_judge_71 rfl 2 rfl ?_
          refine gf_X6_213 (pc := 72) C h3 dX6_judge_72 ?_
          refine j_iload_n (pc := 75) C dX6_judge_75 rfl 1 rfl ?_
          refine j_iload (pc := 76) C dX6_judge_76 3 rfl ?_
          refine j_iadd (pc := 78) C dX6_judge_78 ?_
          refine j_bI (fun v1 ev1 => ?_)
          refine j_lald (pc := 79) C (arX4_2 h3) ev1 dX6_judge_79 ?_
          refine j_aload_n (pc := 80) C dX6_judge_80 rfl 0 rfl ?_
          refine gf_X6_12 (pc := 81) C dX6_judge_81 ?_
          refine gf_X6_96 (pc := 84) C is20 dX6_judge_84 ?_
          refine j_iload (pc := 87) C dX6_judge_87 3 rfl ?_
          refine j_bI (fun v2 ev2 => ?_)
          refine j_iald (pc := 89) C (arX5_5 is20) ev2 dX6_judge_89 ?_
          refine j_i2l (pc := 90) C dX6_judge_90 ?_
          refine j_lcmp (pc := 91) C dX6_judge_91 ?_
          refine j_if_eq (pc := 92) (tgt := 98) C dX6_judge_92 rfl ?_ ?_
          · refine j_iinc (pc := 98) C hN dX6_judge_98 3 rfl (by decide) (lv' := [(4, .int (oI (l4 + 1))), (0, .ref (G.2.2.1 0)), (2, .int (oI l2)), (3, .ref (G.2.2.1 r3))]) rfl ?_
            refine j_goto (pc := 101) (tgt := 38) C dX6_judge_101 rfl ?_
            exact j_sub [1, 2, 3, 0] rfl (ih _)
          · refine j_iload (pc := 95) C dX6_judge_95 3 rfl ?_
            exact j_ireturn C rfl rfl rfl rfl dX6_judge_97
        · refine j_bipush (pc := 65) C dX6_judge_65 (by decide) ?_
          refine j_iload (pc := 67) C dX6_judge_67 3 rfl ?_
          refine j_iadd (pc := 69) C dX6_judge_69 ?_
          exact j_ireturn C rfl rfl rfl rfl dX6_judge_70
set_option maxHeartbeats 4000000 in
set_option maxRecDepth 100000 in
theorem X6_judge_m (l : Launch) {G : GD} (hj : zInj sC G) {st : PS} {l1 l2 : Int} {r : Int} (hr : X6_judge st l1 l2 = some r) : zM l sC G yX6_judge cX6_judge 5 (some .int) 1 [.ref (G.2.2.1 0), .int (oI l1), .int (oI l2)] st (some (.int (oI r))) st :=
  zEnter (f := fR st) hr hj (by decide) rfl (lv := [(0, .ref (G.2.2.1 0)), (1, .int (oI l1)), (2, .int (oI l2))]) rfl (Nat.le_of_ble_eq_true rfl) (fun X _ hN C => by
    unfold X6_judge
    refine j_iload_n (pc := 0) C dX6_judge_0 rfl 1 rfl ?_
    refine j_callS1 (pc := 1) C (X6_isTape_m _ hj rfl) kS_X6_204 rfl (by omega) rfl (Nat.le_of_ble_eq_true rfl) dX6_judge_1 ?_
    refine j_if_ne (pc := 4) (tgt := 9) C dX6_judge_4 rfl ?_ ?_
    · refine j_iconst (pc := 7) C dX6_judge_7 ?_
      exact j_ireturn C rfl rfl rfl rfl dX6_judge_8
    · refine j_aload_n (pc := 9) C dX6_judge_9 rfl 0 rfl ?_
      refine gf_X6_56 (pc := 10) C dX6_judge_10 ?_
      refine j_iload_n (pc := 13) C dX6_judge_13 rfl 1 rfl ?_
      refine j_aald (pc := 14) C arX6_10 rfl dX6_judge_14 (fun hk14 => ?_)
      refine j_astore_n (pc := 15) C hN dX6_judge_15 rfl (by decide) (lv' := [(3, .ref (G.2.2.1 (200 + 10 * (wI l1).toNat))), (0, .ref (G.2.2.1 0)), (1, .int (oI l1)), (2, .int (oI l2))]) rfl ?_
      refine j_aload_n (pc := 16) C dX6_judge_16 rfl 0 rfl ?_
      refine gf_X6_207 (pc := 17) C (sixIsTape hk14) dX6_judge_17 ?_
      refine j_iconst (pc := 20) C dX6_judge_20 ?_
      refine j_icmp_eq (pc := 21) (tgt := 35) C dX6_judge_21 rfl ?_ ?_
      · refine j_iconst (pc := 35) C dX6_judge_35 ?_
        refine j_istore (pc := 36) C hN dX6_judge_36 (by decide) (lv' := [(4, .int (oI 0)), (3, .ref (G.2.2.1 (200 + 10 * (wI l1).toNat))), (0, .ref (G.2.2.1 0)), (1, .int (oI l1)), (2, .int (oI l2))]) rfl ?_
        exact j_sub [2, 4, 1, 0] rfl (X6_judge_L38_j C hN hj (sixIsTape hk14) FU _)
      · refine j_aload_n (pc := 24) C dX6_judge_24 rfl 0 rfl ?_
        refine gf_X6_207 (pc := 25) C (sixIsTape hk14) dX6_judge_25 ?_
        refine j_iconst (pc := 28) C dX6_judge_28 ?_
        refine j_icmp_eq (pc := 29) (tgt := 35) C dX6_judge_29 rfl ?_ ?_
        · refine j_iconst (pc := 35) C dX6_judge_35 ?_
          refine j_istore (pc := 36) C hN dX6_judge_36 (by decide) (lv' := [(4, .int (oI 0)), (3, .ref (G.2.2.1 (200 + 10 * (wI l1).toNat))), (0, .ref (G.2.2.1 0)), (1, .int (oI l1)), (2, .int (oI l2))]) rfl ?_
          exact j_sub [2, 4, 1, 0] rfl (X6_judge_L38_j C hN hj (sixIsTape hk14) FU _)
        · refine j_bipush (pc := 32) C dX6_judge_32 (by decide) ?_
          exact j_ireturn C rfl rfl rfl rfl dX6_judge_34)
def X6_image (st : PS) : Option (Int × PS) := bI (X5_takeFrom 60 20 st) (fun s1 => bI (X1_takeFrom 90 80 s1) (fun s2 => zlet (zu s2 0 5 1) (fun s3 => some (s3 20 0, s3))))
set_option maxHeartbeats 4000000 in
set_option maxRecDepth 100000 in
theorem X6_image_m (l : Launch) {G : GD} (hj : zInj sC G) {st : PS} {r : (Int × PS)} (hr : X6_image st = some r) : zM l sC G yX6_image cX6_image 1 (some .int) 1 [.ref (G.2.2.1 0)] st (some (.int (oI r.1))) r.2 :=
  zEnter (f := fI) hr hj (by decide) rfl (lv := [(0, .ref (G.2.2.1 0))]) rfl (Nat.le_of_ble_eq_true rfl) (fun X _ hN C => by
    unfold X6_image
    refine j_aload_n (pc := 0) C dX6_image_0 rfl 0 rfl ?_
    refine gf_X6_21 (pc := 1) C dX6_image_1 ?_
    refine j_aload_n (pc := 4) C dX6_image_4 rfl 0 rfl ?_
    refine gf_X6_12 (pc := 5) C dX6_image_5 ?_
    refine j_bI (fun s1 es1 => ?_)
    refine j_callV0 (pc := 8) C (obX5 is60) rfl rfl (X5_takeFrom_m _ hj is60 is20 es1) kV_X6_151 rfl (by omega) rfl (Nat.le_of_ble_eq_true rfl) dX6_image_8 ?_
    refine j_aload_n (pc := 11) C dX6_image_11 rfl 0 rfl ?_
    refine gf_X6_31 (pc := 12) C dX6_image_12 ?_
    refine j_aload_n (pc := 15) C dX6_image_15 rfl 0 rfl ?_
    refine gf_X6_27 (pc := 16) C dX6_image_16 ?_
    refine j_bI (fun s2 es2 => ?_)
    refine j_callV0 (pc := 19) C (obX1 is90) rfl rfl (X1_takeFrom_m _ hj is90 is80 es2) kV_X6_217 rfl (by omega) rfl (Nat.le_of_ble_eq_true rfl) dX6_image_19 ?_
    refine j_aload_n (pc := 22) C dX6_image_22 rfl 0 rfl ?_
    refine j_iconst (pc := 23) C dX6_image_23 ?_
    refine fp_X6_220 (pc := 24) C (Or.inr rfl) dX6_image_24 ?_
    refine j_let (fun s3 => ?_)
    refine j_aload_n (pc := 27) C dX6_image_27 rfl 0 rfl ?_
    refine gf_X6_12 (pc := 28) C dX6_image_28 ?_
    refine gf_X6_79 (pc := 31) C is20 dX6_image_31 ?_
    exact j_ireturn C rfl rfl rfl rfl dX6_image_34)
def X6_undo (st : PS) : Option (Int × PS) := if wI (st 0 5) = 0 then some ((-3), st) else (bI (X5_takeFrom 20 60 st) (fun s1 => bI (X1_takeFrom 80 90 s1) (fun s2 => some (s2 20 0, s2))))
set_option maxHeartbeats 4000000 in
set_option maxRecDepth 100000 in
theorem X6_undo_m (l : Launch) {G : GD} (hj : zInj sC G) {st : PS} {r : (Int × PS)} (hr : X6_undo st = some r) : zM l sC G yX6_undo cX6_undo 1 (some .int) 1 [.ref (G.2.2.1 0)] st (some (.int (oI r.1))) r.2 :=
  zEnter (f := fI) hr hj (by decide) rfl (lv := [(0, .ref (G.2.2.1 0))]) rfl (Nat.le_of_ble_eq_true rfl) (fun X _ hN C => by
    unfold X6_undo
    refine j_aload_n (pc := 0) C dX6_undo_0 rfl 0 rfl ?_
    refine gf_X6_220 (pc := 1) C dX6_undo_1 ?_
    refine j_if_ne (pc := 4) (tgt := 10) C dX6_undo_4 rfl ?_ ?_
    · refine j_bipush (pc := 7) C dX6_undo_7 (by decide) ?_
      exact j_ireturn C rfl rfl rfl rfl dX6_undo_9
    · refine j_aload_n (pc := 10) C dX6_undo_10 rfl 0 rfl ?_
      refine gf_X6_12 (pc := 11) C dX6_undo_11 ?_
      refine j_aload_n (pc := 14) C dX6_undo_14 rfl 0 rfl ?_
      refine gf_X6_21 (pc := 15) C dX6_undo_15 ?_
      refine j_bI (fun s1 es1 => ?_)
      refine j_callV0 (pc := 18) C (obX5 is20) rfl rfl (X5_takeFrom_m _ hj is20 is60 es1) kV_X6_151 rfl (by omega) rfl (Nat.le_of_ble_eq_true rfl) dX6_undo_18 ?_
      refine j_aload_n (pc := 21) C dX6_undo_21 rfl 0 rfl ?_
      refine gf_X6_27 (pc := 22) C dX6_undo_22 ?_
      refine j_aload_n (pc := 25) C dX6_undo_25 rfl 0 rfl ?_
      refine gf_X6_31 (pc := 26) C dX6_undo_26 ?_
      refine j_bI (fun s2 es2 => ?_)
      refine j_callV0 (pc := 29) C (obX1 is80) rfl rfl (X1_takeFrom_m _ hj is80 is90 es2) kV_X6_217 rfl (by omega) rfl (Nat.le_of_ble_eq_true rfl) dX6_undo_29 ?_
      refine j_aload_n (pc := 32) C dX6_undo_32 rfl 0 rfl ?_
      refine gf_X6_12 (pc := 33) C dX6_undo_33 ?_
      refine gf_X6_79 (pc := 36) C is20 dX6_undo_36 ?_
      exact j_ireturn C rfl rfl rfl rfl dX6_undo_39)
def X6_trace (st : PS) (l1 : Int) : Option Int := if wI l1 < 0 then some (-1) else (if wI (st 180 0) ≤ wI l1 then some (-1) else (if wI l1 < wI 20 then bI (zrd st 181 20 l1) (fun v1 => some v1) else (some (-1))))
set_option maxHeartbeats 4000000 in
set_option maxRecDepth 100000 in
theorem X6_trace_m (l : Launch) {G : GD} (hj : zInj sC G) {st : PS} {l1 : Int} {r : Int} (hr : X6_trace st l1 = some r) : zM l sC G yX6_trace cX6_trace 2 (some .int) 0 [.ref (G.2.2.1 0), .int (oI l1)] st (some (.int (oI r))) st :=
  zEnter (f := fR st) hr hj (by decide) rfl (lv := [(0, .ref (G.2.2.1 0)), (1, .int (oI l1))]) rfl (Nat.le_of_ble_eq_true rfl) (fun X _ hN C => by
    unfold X6_trace
    refine j_iload_n (pc := 0) C dX6_trace_0 rfl 1 rfl ?_
    refine j_if_lt (pc := 1) (tgt := 21) C dX6_trace_1 rfl ?_ ?_
    · refine j_iconst (pc := 21) C dX6_trace_21 ?_
      exact j_ireturn C rfl rfl rfl rfl dX6_trace_22
    · refine j_iload_n (pc := 4) C dX6_trace_4 rfl 1 rfl ?_
      refine j_aload_n (pc := 5) C dX6_trace_5 rfl 0 rfl ?_
      refine gf_X6_50 (pc := 6) C dX6_trace_6 ?_
      refine gf_X6_232 (pc := 9) C dX6_trace_9 ?_
      refine j_icmp_ge (pc := 12) (tgt := 21) C dX6_trace_12 rfl ?_ ?_
      · refine j_iconst (pc := 21) C dX6_trace_21 ?_
        exact j_ireturn C rfl rfl rfl rfl dX6_trace_22
      · refine j_iload_n (pc := 15) C dX6_trace_15 rfl 1 rfl ?_
        refine j_bipush (pc := 16) C dX6_trace_16 (by decide) ?_
        refine j_icmp_lt (pc := 18) (tgt := 23) C dX6_trace_18 rfl ?_ ?_
        · refine j_aload_n (pc := 23) C dX6_trace_23 rfl 0 rfl ?_
          refine gf_X6_50 (pc := 24) C dX6_trace_24 ?_
          refine gf_X6_235 (pc := 27) C dX6_trace_27 ?_
          refine j_iload_n (pc := 30) C dX6_trace_30 rfl 1 rfl ?_
          refine j_bI (fun v1 ev1 => ?_)
          refine j_iald (pc := 31) C arX0_1 ev1 dX6_trace_31 ?_
          exact j_ireturn C rfl rfl rfl rfl dX6_trace_32
        · refine j_iconst (pc := 21) C dX6_trace_21 ?_
          exact j_ireturn C rfl rfl rfl rfl dX6_trace_22)
def X6_count (st : PS) (l1 : Int) : Int := if wI l1 = 0 then (st 20 0) else (if wI l1 = 1 then (st 0 8) else (if wI l1 = 2 then (st 80 0) else (if wI l1 = 3 then (st 80 3) else (if wI l1 = 4 then (st 170 0) else (if wI l1 = 5 then (st 180 0) else ((-2)))))))
set_option maxHeartbeats 4000000 in
set_option maxRecDepth 100000 in
theorem X6_count_m (l : Launch) {G : GD} (hj : zInj sC G) {st : PS} {l1 : Int} {r : Int} (hr : X6_count st l1 = r) : zM l sC G yX6_count cX6_count 2 (some .int) 0 [.ref (G.2.2.1 0), .int (oI l1)] st (some (.int (oI r))) st :=
  zEnter (f := fR st) (o := some (X6_count st l1)) (by rw [hr]) hj (by decide) rfl (lv := [(0, .ref (G.2.2.1 0)), (1, .int (oI l1))]) rfl (Nat.le_of_ble_eq_true rfl) (fun X _ hN C => by
    simp only [X6_count, zsome_ite]
    refine j_iload_n (pc := 0) C dX6_count_0 rfl 1 rfl ?_
    refine j_if (fun hc => ?_) (fun hn0 => ?_)
    · refine j_tabIn (pc := 1) (tgt := 40) C dX6_count_1 hc (by decide) (by decide) rfl rfl ?_
      refine j_aload_n (pc := 40) C dX6_count_40 rfl 0 rfl ?_
      refine gf_X6_12 (pc := 41) C dX6_count_41 ?_
      refine gf_X6_79 (pc := 44) C is20 dX6_count_44 ?_
      exact j_ireturn C rfl rfl rfl rfl dX6_count_47
    · refine j_if (fun hc => ?_) (fun hn1 => ?_)
      · refine j_tabIn (pc := 1) (tgt := 48) C dX6_count_1 hc (by decide) (by decide) rfl rfl ?_
        refine j_aload_n (pc := 48) C dX6_count_48 rfl 0 rfl ?_
        refine gf_X6_118 (pc := 49) C dX6_count_49 ?_
        exact j_ireturn C rfl rfl rfl rfl dX6_count_52
      · refine j_if (fun hc => ?_) (fun hn2 => ?_)
        · refine j_tabIn (pc := 1) (tgt := 53) C dX6_count_1 hc (by decide) (by decide) rfl rfl ?_
          refine j_aload_n (pc := 53) C dX6_count_53 rfl 0 rfl ?_
          refine gf_X6_27 (pc := 54) C dX6_count_54 ?_
          refine gf_X6_179 (pc := 57) C is80 dX6_count_57 ?_
          exact j_ireturn C rfl rfl rfl rfl dX6_count_60
        · refine j_if (fun hc => ?_) (fun hn3 => ?_)
          · refine j_tabIn (pc := 1) (tgt := 61) C dX6_count_1 hc (by decide) (by decide) rfl rfl ?_
            refine j_aload_n (pc := 61) C dX6_count_61 rfl 0 rfl ?_
            refine gf_X6_27 (pc := 62) C dX6_count_62 ?_
            refine gf_X6_195 (pc := 65) C is80 dX6_count_65 ?_
            exact j_ireturn C rfl rfl rfl rfl dX6_count_68
          · refine j_if (fun hc => ?_) (fun hn4 => ?_)
            · refine j_tabIn (pc := 1) (tgt := 69) C dX6_count_1 hc (by decide) (by decide) rfl rfl ?_
              refine j_aload_n (pc := 69) C dX6_count_69 rfl 0 rfl ?_
              refine gf_X6_37 (pc := 70) C dX6_count_70 ?_
              refine gf_X6_242 (pc := 73) C dX6_count_73 ?_
              exact j_ireturn C rfl rfl rfl rfl dX6_count_76
            · refine j_if (fun hc => ?_) (fun hn5 => ?_)
              · refine j_tabIn (pc := 1) (tgt := 77) C dX6_count_1 hc (by decide) (by decide) rfl rfl ?_
                refine j_aload_n (pc := 77) C dX6_count_77 rfl 0 rfl ?_
                refine gf_X6_50 (pc := 78) C dX6_count_78 ?_
                refine gf_X6_232 (pc := 81) C dX6_count_81 ?_
                exact j_ireturn C rfl rfl rfl rfl dX6_count_84
              · refine j_tabOut (pc := 1) (tgt := 85) C dX6_count_1 (by omega) rfl ?_
                refine j_bipush (pc := 85) C dX6_count_85 (by decide) ?_
                exact j_ireturn C rfl rfl rfl rfl dX6_count_87)
def X6_tape (st : PS) (l1 l2 l3 : Int) : Option (Int × PS) := if wI (X6_isTape st l1) = 0 then some ((-1), st) else (if wI l2 < wI (-1) then some ((-2), st) else (if wI l2 ≤ wI 4 then if wI l2 = wI (-1) then zchk (wI l1) 6 (bI (X4_become (200 + 10 * (wI l1).toNat) st (-1) 0) (fun s1 => some (1, s1))) else (if wI l3 ≤ wI 60 then if 0 ≤ wI l3 then zchk (wI l1) 6 (bI (X4_become (200 + 10 * (wI l1).toNat) st l2 l3) (fun s2 => some (1, s2))) else (some ((-14), st)) else (some ((-2), st))) else (some ((-2), st))))
set_option maxHeartbeats 4000000 in
set_option maxRecDepth 100000 in
theorem X6_tape_m (l : Launch) {G : GD} (hj : zInj sC G) {st : PS} {l1 l2 l3 : Int} {r : (Int × PS)} (hr : X6_tape st l1 l2 l3 = some r) : zM l sC G yX6_tape cX6_tape 4 (some .int) 1 [.ref (G.2.2.1 0), .int (oI l1), .int (oI l2), .int (oI l3)] st (some (.int (oI r.1))) r.2 :=
  zEnter (f := fI) hr hj (by decide) rfl (lv := [(0, .ref (G.2.2.1 0)), (1, .int (oI l1)), (2, .int (oI l2)), (3, .int (oI l3))]) rfl (Nat.le_of_ble_eq_true rfl) (fun X _ hN C => by
    unfold X6_tape
    refine j_iload_n (pc := 0) C dX6_tape_0 rfl 1 rfl ?_
    refine j_callS1 (pc := 1) C (X6_isTape_m _ hj rfl) kS_X6_204 rfl (by omega) rfl (Nat.le_of_ble_eq_true rfl) dX6_tape_1 ?_
    refine j_if_ne (pc := 4) (tgt := 9) C dX6_tape_4 rfl ?_ ?_
    · refine j_iconst (pc := 7) C dX6_tape_7 ?_
      exact j_ireturn C rfl rfl rfl rfl dX6_tape_8
    · refine j_iload_n (pc := 9) C dX6_tape_9 rfl 2 rfl ?_
      refine j_iconst (pc := 10) C dX6_tape_10 ?_
      refine j_icmp_lt (pc := 11) (tgt := 19) C dX6_tape_11 rfl ?_ ?_
      · refine j_bipush (pc := 19) C dX6_tape_19 (by decide) ?_
        exact j_ireturn C rfl rfl rfl rfl dX6_tape_21
      · refine j_iload_n (pc := 14) C dX6_tape_14 rfl 2 rfl ?_
        refine j_iconst (pc := 15) C dX6_tape_15 ?_
        refine j_icmp_le (pc := 16) (tgt := 22) C dX6_tape_16 rfl ?_ ?_
        · refine j_iload_n (pc := 22) C dX6_tape_22 rfl 2 rfl ?_
          refine j_iconst (pc := 23) C dX6_tape_23 ?_
          refine j_icmp_ne (pc := 24) (tgt := 40) C dX6_tape_24 rfl ?_ ?_
          · refine j_aload_n (pc := 27) C dX6_tape_27 rfl 0 rfl ?_
            refine gf_X6_56 (pc := 28) C dX6_tape_28 ?_
            refine j_iload_n (pc := 31) C dX6_tape_31 rfl 1 rfl ?_
            refine j_aald (pc := 32) C arX6_10 rfl dX6_tape_32 (fun hk32 => ?_)
            refine j_iconst (pc := 33) C dX6_tape_33 ?_
            refine j_iconst (pc := 34) C dX6_tape_34 ?_
            refine j_bI (fun s1 es1 => ?_)
            refine j_callV0 (pc := 35) C (obX4 (sixIsTape hk32)) rfl rfl (X4_become_m _ hj (sixIsTape hk32) es1) kV_X6_243 rfl (by omega) rfl (Nat.le_of_ble_eq_true rfl) dX6_tape_35 ?_
            refine j_iconst (pc := 38) C dX6_tape_38 ?_
            exact j_ireturn C rfl rfl rfl rfl dX6_tape_39
          · refine j_iload_n (pc := 40) C dX6_tape_40 rfl 3 rfl ?_
            refine j_bipush (pc := 41) C dX6_tape_41 (by decide) ?_
            refine j_icmp_le (pc := 43) (tgt := 49) C dX6_tape_43 rfl ?_ ?_
            · refine j_iload_n (pc := 49) C dX6_tape_49 rfl 3 rfl ?_
              refine j_if_ge (pc := 50) (tgt := 56) C dX6_tape_50 rfl ?_ ?_
              · refine j_aload_n (pc := 56) C dX6_tape_56 rfl 0 rfl ?_
                refine gf_X6_56 (pc := 57) C dX6_tape_57 ?_
                refine j_iload_n (pc := 60) C dX6_tape_60 rfl 1 rfl ?_
                refine j_aald (pc := 61) C arX6_10 rfl dX6_tape_61 (fun hk61 => ?_)
                refine j_iload_n (pc := 62) C dX6_tape_62 rfl 2 rfl ?_
                refine j_iload_n (pc := 63) C dX6_tape_63 rfl 3 rfl ?_
                refine j_bI (fun s2 es2 => ?_)
                refine j_callV0 (pc := 64) C (obX4 (sixIsTape hk61)) rfl rfl (X4_become_m _ hj (sixIsTape hk61) es2) kV_X6_243 rfl (by omega) rfl (Nat.le_of_ble_eq_true rfl) dX6_tape_64 ?_
                refine j_iconst (pc := 67) C dX6_tape_67 ?_
                exact j_ireturn C rfl rfl rfl rfl dX6_tape_68
              · refine j_bipush (pc := 53) C dX6_tape_53 (by decide) ?_
                exact j_ireturn C rfl rfl rfl rfl dX6_tape_55
            · refine j_bipush (pc := 46) C dX6_tape_46 (by decide) ?_
              exact j_ireturn C rfl rfl rfl rfl dX6_tape_48
        · refine j_bipush (pc := 19) C dX6_tape_19 (by decide) ?_
          exact j_ireturn C rfl rfl rfl rfl dX6_tape_21)
def X6_item (st : PS) (l1 l2 l3 : Int) : Option (Int × PS) := if wI (X6_isTape st l1) = 0 then some ((-1), st) else (zchk (wI l1) 6 (if wI (st (200 + 10 * (wI l1).toNat) 0) = wI (-1) then some ((-11), st) else (if wI l2 < 0 then some ((-13), st) else (if wI l2 < wI (st (200 + 10 * (wI l1).toNat) 1) then bI (zwr st (200 + 10 * (wI l1).toNat + 2) 60 l2 (X4_fitted (200 + 10 * (wI l1).toNat) st l3)) (fun s1 => some (1, s1)) else (some ((-13), st))))))
set_option maxHeartbeats 4000000 in
set_option maxRecDepth 100000 in
theorem X6_item_m (l : Launch) {G : GD} (hj : zInj sC G) {st : PS} {l1 l2 l3 : Int} {r : (Int × PS)} (hr : X6_item st l1 l2 l3 = some r) : zM l sC G yX6_item cX6_item 6 (some .int) 1 [.ref (G.2.2.1 0), .int (oI l1), .int (oI l2), .long (oL l3)] st (some (.int (oI r.1))) r.2 :=
  zEnter (f := fI) hr hj (by decide) rfl (lv := [(0, .ref (G.2.2.1 0)), (1, .int (oI l1)), (2, .int (oI l2)), (3, .long (oL l3))]) rfl (Nat.le_of_ble_eq_true rfl) (fun X _ hN C => by
    unfold X6_item
    refine j_iload_n (pc := 0) C dX6_item_0 rfl 1 rfl ?_
    refine j_callS1 (pc := 1) C (X6_isTape_m _ hj rfl) kS_X6_204 rfl (by omega) rfl (Nat.le_of_ble_eq_true rfl) dX6_item_1 ?_
    refine j_if_ne (pc := 4) (tgt := 9) C dX6_item_4 rfl ?_ ?_
    · refine j_iconst (pc := 7) C dX6_item_7 ?_
      exact j_ireturn C rfl rfl rfl rfl dX6_item_8
    · refine j_aload_n (pc := 9) C dX6_item_9 rfl 0 rfl ?_
      refine gf_X6_56 (pc := 10) C dX6_item_10 ?_
      refine j_iload_n (pc := 13) C dX6_item_13 rfl 1 rfl ?_
      refine j_aald (pc := 14) C arX6_10 rfl dX6_item_14 (fun hk14 => ?_)
      refine j_astore (pc := 15) C hN dX6_item_15 (by decide) (lv' := [(5, .ref (G.2.2.1 (200 + 10 * (wI l1).toNat))), (0, .ref (G.2.2.1 0)), (1, .int (oI l1)), (2, .int (oI l2)), (3, .long (oL l3))]) rfl ?_
      refine j_aload (pc := 17) C dX6_item_17 0 rfl ?_
      refine gf_X6_207 (pc := 19) C (sixIsTape hk14) dX6_item_19 ?_
      refine j_iconst (pc := 22) C dX6_item_22 ?_
      refine j_icmp_ne (pc := 23) (tgt := 29) C dX6_item_23 rfl ?_ ?_
      · refine j_bipush (pc := 26) C dX6_item_26 (by decide) ?_
        exact j_ireturn C rfl rfl rfl rfl dX6_item_28
      · refine j_iload_n (pc := 29) C dX6_item_29 rfl 3 rfl ?_
        refine j_if_lt (pc := 30) (tgt := 42) C dX6_item_30 rfl ?_ ?_
        · refine j_bipush (pc := 42) C dX6_item_42 (by decide) ?_
          exact j_ireturn C rfl rfl rfl rfl dX6_item_44
        · refine j_iload_n (pc := 33) C dX6_item_33 rfl 3 rfl ?_
          refine j_aload (pc := 34) C dX6_item_34 0 rfl ?_
          refine gf_X6_210 (pc := 36) C (sixIsTape hk14) dX6_item_36 ?_
          refine j_icmp_lt (pc := 39) (tgt := 45) C dX6_item_39 rfl ?_ ?_
          · refine j_aload (pc := 45) C dX6_item_45 0 rfl ?_
            refine gf_X6_213 (pc := 47) C (sixIsTape hk14) dX6_item_47 ?_
            refine j_iload_n (pc := 50) C dX6_item_50 rfl 3 rfl ?_
            refine j_aload (pc := 51) C dX6_item_51 0 rfl ?_
            refine j_lload_n (pc := 53) C dX6_item_53 rfl 4 rfl ?_
            refine j_callV1 (pc := 54) C (obX4 (sixIsTape hk14)) rfl rfl (X4_fitted_m _ hj (sixIsTape hk14) rfl) kV_X6_246 rfl (by omega) rfl (Nat.le_of_ble_eq_true rfl) dX6_item_54 ?_
            refine j_bI (fun s1 es1 => ?_)
            refine j_last (pc := 57) C (arX4_2 (sixIsTape hk14)) es1 dX6_item_57 ?_
            refine j_iconst (pc := 58) C dX6_item_58 ?_
            exact j_ireturn C rfl rfl rfl rfl dX6_item_59
          · refine j_bipush (pc := 42) C dX6_item_42 (by decide) ?_
            exact j_ireturn C rfl rfl rfl rfl dX6_item_44)
def X6_read (st : PS) (l1 l2 : Int) : Option Int := if wI (X6_isTape st l1) = 0 then some (-9223372036854775808) else (if wI l2 < 0 then some (-9223372036854775808) else (zchk (wI l1) 6 (if wI l2 < wI (st (200 + 10 * (wI l1).toNat) 1) then zchk (wI l1) 6 (bI (zrd st (200 + 10 * (wI l1).toNat + 2) 60 l2) (fun v1 => some v1)) else (some (-9223372036854775808)))))
set_option maxHeartbeats 4000000 in
set_option maxRecDepth 100000 in
theorem X6_read_m (l : Launch) {G : GD} (hj : zInj sC G) {st : PS} {l1 l2 : Int} {r : Int} (hr : X6_read st l1 l2 = some r) : zM l sC G yX6_read cX6_read 3 (some .long) 1 [.ref (G.2.2.1 0), .int (oI l1), .int (oI l2)] st (some (.long (oL r))) st :=
  zEnter (f := fL st) hr hj (by decide) rfl (lv := [(0, .ref (G.2.2.1 0)), (1, .int (oI l1)), (2, .int (oI l2))]) rfl (Nat.le_of_ble_eq_true rfl) (fun X _ hN C => by
    unfold X6_read
    refine j_iload_n (pc := 0) C dX6_read_0 rfl 1 rfl ?_
    refine j_callS1 (pc := 1) C (X6_isTape_m _ hj rfl) kS_X6_204 rfl (by omega) rfl (Nat.le_of_ble_eq_true rfl) dX6_read_1 ?_
    refine j_if_eq (pc := 4) (tgt := 24) C dX6_read_4 rfl ?_ ?_
    · refine j_ldc2 (pc := 24) C (z := (-9223372036854775808)) (zT_of (i := 749) (by decide +kernel) rfl) rfl dX6_read_24 ?_
      exact j_lreturn C rfl rfl dX6_read_27
    · refine j_iload_n (pc := 7) C dX6_read_7 rfl 2 rfl ?_
      refine j_if_lt (pc := 8) (tgt := 24) C dX6_read_8 rfl ?_ ?_
      · refine j_ldc2 (pc := 24) C (z := (-9223372036854775808)) (zT_of (i := 749) (by decide +kernel) rfl) rfl dX6_read_24 ?_
        exact j_lreturn C rfl rfl dX6_read_27
      · refine j_iload_n (pc := 11) C dX6_read_11 rfl 2 rfl ?_
        refine j_aload_n (pc := 12) C dX6_read_12 rfl 0 rfl ?_
        refine gf_X6_56 (pc := 13) C dX6_read_13 ?_
        refine j_iload_n (pc := 16) C dX6_read_16 rfl 1 rfl ?_
        refine j_aald (pc := 17) C arX6_10 rfl dX6_read_17 (fun hk17 => ?_)
        refine gf_X6_210 (pc := 18) C (sixIsTape hk17) dX6_read_18 ?_
        refine j_icmp_lt (pc := 21) (tgt := 28) C dX6_read_21 rfl ?_ ?_
        · refine j_aload_n (pc := 28) C dX6_read_28 rfl 0 rfl ?_
          refine gf_X6_56 (pc := 29) C dX6_read_29 ?_
          refine j_iload_n (pc := 32) C dX6_read_32 rfl 1 rfl ?_
          refine j_aald (pc := 33) C arX6_10 rfl dX6_read_33 (fun hk33 => ?_)
          refine gf_X6_213 (pc := 34) C (sixIsTape hk33) dX6_read_34 ?_
          refine j_iload_n (pc := 37) C dX6_read_37 rfl 2 rfl ?_
          refine j_bI (fun v1 ev1 => ?_)
          refine j_lald (pc := 38) C (arX4_2 (sixIsTape hk33)) ev1 dX6_read_38 ?_
          exact j_lreturn C rfl rfl dX6_read_39
        · refine j_ldc2 (pc := 24) C (z := (-9223372036854775808)) (zT_of (i := 749) (by decide +kernel) rfl) rfl dX6_read_24 ?_
          exact j_lreturn C rfl rfl dX6_read_27)
def X6_shift (st : PS) (l1 l2 l3 l4 l5 : Int) : Option (Int × PS) := if wI (X6_isTape st l1) = 0 then some ((-1), st) else (if wI (X6_isTape st l3) = 0 then some ((-1), st) else (zchk (wI l1) 6 (zchk (wI l3) 6 (if wI (st (200 + 10 * (wI l1).toNat) 0) = wI (-1) then some ((-11), st) else (if wI (st (200 + 10 * (wI l3).toNat) 0) = wI (-1) then some ((-11), st) else (if wI (st (200 + 10 * (wI l1).toNat) 0) = wI (st (200 + 10 * (wI l3).toNat) 0) then if wI (X4_reaches (200 + 10 * (wI l1).toNat) st l2 l5) = 0 then some ((-13), st) else (if wI (X4_reaches (200 + 10 * (wI l3).toNat) st l4 l5) = 0 then some ((-13), st) else (bI (zcp st (200 + 10 * (wI l1).toNat + 2) 60 (200 + 10 * (wI l3).toNat + 2) 60 l2 l4 l5) (fun s1 => some (l5, s1)))) else (some ((-12), st))))))))
set_option maxHeartbeats 4000000 in
set_option maxRecDepth 100000 in
theorem X6_shift_m (l : Launch) {G : GD} (hj : zInj sC G) {st : PS} {l1 l2 l3 l4 l5 : Int} {r : (Int × PS)} (hr : X6_shift st l1 l2 l3 l4 l5 = some r) : zM l sC G yX6_shift cX6_shift 8 (some .int) 1 [.ref (G.2.2.1 0), .int (oI l1), .int (oI l2), .int (oI l3), .int (oI l4), .int (oI l5)] st (some (.int (oI r.1))) r.2 :=
  zEnter (f := fI) hr hj (by decide) rfl (lv := [(0, .ref (G.2.2.1 0)), (1, .int (oI l1)), (2, .int (oI l2)), (3, .int (oI l3)), (4, .int (oI l4)), (5, .int (oI l5))]) rfl (Nat.le_of_ble_eq_true rfl) (fun X _ hN C => by
    unfold X6_shift
    refine j_iload_n (pc := 0) C dX6_shift_0 rfl 1 rfl ?_
    refine j_callS1 (pc := 1) C (X6_isTape_m _ hj rfl) kS_X6_204 rfl (by omega) rfl (Nat.le_of_ble_eq_true rfl) dX6_shift_1 ?_
    refine j_if_eq (pc := 4) (tgt := 14) C dX6_shift_4 rfl ?_ ?_
    · refine j_iconst (pc := 14) C dX6_shift_14 ?_
      exact j_ireturn C rfl rfl rfl rfl dX6_shift_15
    · refine j_iload_n (pc := 7) C dX6_shift_7 rfl 3 rfl ?_
      refine j_callS1 (pc := 8) C (X6_isTape_m _ hj rfl) kS_X6_204 rfl (by omega) rfl (Nat.le_of_ble_eq_true rfl) dX6_shift_8 ?_
      refine j_if_ne (pc := 11) (tgt := 16) C dX6_shift_11 rfl ?_ ?_
      · refine j_iconst (pc := 14) C dX6_shift_14 ?_
        exact j_ireturn C rfl rfl rfl rfl dX6_shift_15
      · refine j_aload_n (pc := 16) C dX6_shift_16 rfl 0 rfl ?_
        refine gf_X6_56 (pc := 17) C dX6_shift_17 ?_
        refine j_iload_n (pc := 20) C dX6_shift_20 rfl 1 rfl ?_
        refine j_aald (pc := 21) C arX6_10 rfl dX6_shift_21 (fun hk21 => ?_)
        refine j_astore (pc := 22) C hN dX6_shift_22 (by decide) (lv' := [(6, .ref (G.2.2.1 (200 + 10 * (wI l1).toNat))), (0, .ref (G.2.2.1 0)), (1, .int (oI l1)), (2, .int (oI l2)), (3, .int (oI l3)), (4, .int (oI l4)), (5, .int (oI l5))]) rfl ?_
        refine j_aload_n (pc := 24) C dX6_shift_24 rfl 1 rfl ?_
        refine gf_X6_56 (pc := 25) C dX6_shift_25 ?_
        refine j_iload_n (pc := 28) C dX6_shift_28 rfl 4 rfl ?_
        refine j_aald (pc := 29) C arX6_10 rfl dX6_shift_29 (fun hk29 => ?_)
        refine j_astore (pc := 30) C hN dX6_shift_30 (by decide) (lv' := [(7, .ref (G.2.2.1 (200 + 10 * (wI l3).toNat))), (6, .ref (G.2.2.1 (200 + 10 * (wI l1).toNat))), (0, .ref (G.2.2.1 0)), (1, .int (oI l1)), (2, .int (oI l2)), (3, .int (oI l3)), (4, .int (oI l4)), (5, .int (oI l5))]) rfl ?_
        refine j_aload (pc := 32) C dX6_shift_32 1 rfl ?_
        refine gf_X6_207 (pc := 34) C (sixIsTape hk21) dX6_shift_34 ?_
        refine j_iconst (pc := 37) C dX6_shift_37 ?_
        refine j_icmp_eq (pc := 38) (tgt := 50) C dX6_shift_38 rfl ?_ ?_
        · refine j_bipush (pc := 50) C dX6_shift_50 (by decide) ?_
          exact j_ireturn C rfl rfl rfl rfl dX6_shift_52
        · refine j_aload (pc := 41) C dX6_shift_41 0 rfl ?_
          refine gf_X6_207 (pc := 43) C (sixIsTape hk29) dX6_shift_43 ?_
          refine j_iconst (pc := 46) C dX6_shift_46 ?_
          refine j_icmp_ne (pc := 47) (tgt := 53) C dX6_shift_47 rfl ?_ ?_
          · refine j_bipush (pc := 50) C dX6_shift_50 (by decide) ?_
            exact j_ireturn C rfl rfl rfl rfl dX6_shift_52
          · refine j_aload (pc := 53) C dX6_shift_53 1 rfl ?_
            refine gf_X6_207 (pc := 55) C (sixIsTape hk21) dX6_shift_55 ?_
            refine j_aload (pc := 58) C dX6_shift_58 0 rfl ?_
            refine gf_X6_207 (pc := 60) C (sixIsTape hk29) dX6_shift_60 ?_
            refine j_icmp_eq (pc := 63) (tgt := 69) C dX6_shift_63 rfl ?_ ?_
            · refine j_aload (pc := 69) C dX6_shift_69 1 rfl ?_
              refine j_iload_n (pc := 71) C dX6_shift_71 rfl 4 rfl ?_
              refine j_iload (pc := 72) C dX6_shift_72 7 rfl ?_
              refine j_callV1 (pc := 74) C (obX4 (sixIsTape hk21)) rfl rfl (X4_reaches_m _ hj (sixIsTape hk21) rfl) kV_X6_250 rfl (by omega) rfl (Nat.le_of_ble_eq_true rfl) dX6_shift_74 ?_
              refine j_if_eq (pc := 77) (tgt := 92) C dX6_shift_77 rfl ?_ ?_
              · refine j_bipush (pc := 92) C dX6_shift_92 (by decide) ?_
                exact j_ireturn C rfl rfl rfl rfl dX6_shift_94
              · refine j_aload (pc := 80) C dX6_shift_80 0 rfl ?_
                refine j_iload (pc := 82) C dX6_shift_82 6 rfl ?_
                refine j_iload (pc := 84) C dX6_shift_84 7 rfl ?_
                refine j_callV1 (pc := 86) C (obX4 (sixIsTape hk29)) rfl rfl (X4_reaches_m _ hj (sixIsTape hk29) rfl) kV_X6_250 rfl (by omega) rfl (Nat.le_of_ble_eq_true rfl) dX6_shift_86 ?_
                refine j_if_ne (pc := 89) (tgt := 95) C dX6_shift_89 rfl ?_ ?_
                · refine j_bipush (pc := 92) C dX6_shift_92 (by decide) ?_
                  exact j_ireturn C rfl rfl rfl rfl dX6_shift_94
                · refine j_aload (pc := 95) C dX6_shift_95 1 rfl ?_
                  refine gf_X6_213 (pc := 97) C (sixIsTape hk21) dX6_shift_97 ?_
                  refine j_iload_n (pc := 100) C dX6_shift_100 rfl 4 rfl ?_
                  refine j_aload (pc := 101) C dX6_shift_101 0 rfl ?_
                  refine gf_X6_213 (pc := 103) C (sixIsTape hk29) dX6_shift_103 ?_
                  refine j_iload (pc := 106) C dX6_shift_106 6 rfl ?_
                  refine j_iload (pc := 108) C dX6_shift_108 7 rfl ?_
                  refine j_bI (fun s1 es1 => ?_)
                  refine j_copyL (pc := 110) C (arX4_2 (sixIsTape hk21)) (arX4_2 (sixIsTape hk29)) es1 kC_X6_253 (Nat.le_of_ble_eq_true rfl) dX6_shift_110 ?_
                  refine j_iload (pc := 113) C dX6_shift_113 7 rfl ?_
                  exact j_ireturn C rfl rfl rfl rfl dX6_shift_115
            · refine j_bipush (pc := 66) C dX6_shift_66 (by decide) ?_
              exact j_ireturn C rfl rfl rfl rfl dX6_shift_68)
