def X2_clear (a : Nat) (st : PS) : Option PS := zlet (zu st a 0 0) (fun s1 => zlet (zu s1 a 1 0) (fun s2 => zlet (zu s2 a 4 0) (fun s3 => some s3)))
set_option maxHeartbeats 4000000 in
set_option maxRecDepth 100000 in
theorem X2_clear_m (l : Launch) {G : GD} (hj : zInj sC G) {a : Nat} (h : IsStreet a) {st : PS} {r : PS} (hr : X2_clear a st = some r) : zM l sC G yX2_clear cX2_clear 1 none 0 [.ref (G.2.2.1 a)] st none r :=
  zEnter (f := fV) hr hj (by decide) rfl (lv := [(0, .ref (G.2.2.1 a))]) rfl (Nat.le_of_ble_eq_true rfl) (fun X _ hN C => by
    unfold X2_clear
    refine j_aload_n (pc := 0) C dX2_clear_0 rfl 0 rfl ?_
    refine j_iconst (pc := 1) C dX2_clear_1 ?_
    refine fp_X2_27 (pc := 2) C h (Or.inl rfl) dX2_clear_2 ?_
    refine j_let (fun s1 => ?_)
    refine j_aload_n (pc := 5) C dX2_clear_5 rfl 0 rfl ?_
    refine j_iconst (pc := 6) C dX2_clear_6 ?_
    refine fp_X2_31 (pc := 7) C h dX2_clear_7 ?_
    refine j_let (fun s2 => ?_)
    refine j_aload_n (pc := 10) C dX2_clear_10 rfl 0 rfl ?_
    refine j_iconst (pc := 11) C dX2_clear_11 ?_
    refine fp_X2_35 (pc := 12) C h dX2_clear_12 ?_
    refine j_let (fun s3 => ?_)
    exact j_return C rfl rfl dX2_clear_15)
def X2_takeFrom (a : Nat) (r1 : Nat) (st : PS) : Option PS := zbit (st r1 0) (zlet (zu st a 0 (st r1 0)) (fun s1 => zlet (zu s1 a 1 (s1 r1 1)) (fun s2 => zlet (zu s2 a 4 (s2 r1 4)) (fun s3 => bI (zcp s3 (r1 + 2) 10 (a + 2) 10 0 0 10) (fun s4 => bI (zcp s4 (r1 + 3) 10 (a + 3) 10 0 0 10) (fun s5 => bI (zcp s5 (r1 + 5) 100 (a + 5) 100 0 0 100) (fun s6 => bI (zcp s6 (r1 + 6) 100 (a + 6) 100 0 0 100) (fun s7 => bI (zcp s7 (r1 + 7) 100 (a + 7) 100 0 0 100) (fun s8 => some s8)))))))))
set_option maxHeartbeats 4000000 in
set_option maxRecDepth 100000 in
theorem X2_takeFrom_m (l : Launch) {G : GD} (hj : zInj sC G) {a : Nat} {r1 : Nat} (h : IsStreet a) (h1 : IsStreet r1) {st : PS} {r : PS} (hr : X2_takeFrom a r1 st = some r) : zM l sC G yX2_takeFrom cX2_takeFrom 2 none 0 [.ref (G.2.2.1 a), .ref (G.2.2.1 r1)] st none r :=
  zEnter (f := fV) hr hj (by decide) rfl (lv := [(0, .ref (G.2.2.1 a)), (1, .ref (G.2.2.1 r1))]) rfl (Nat.le_of_ble_eq_true rfl) (fun X _ hN C => by
    unfold X2_takeFrom
    refine j_aload_n (pc := 0) C dX2_takeFrom_0 rfl 0 rfl ?_
    refine j_aload_n (pc := 1) C dX2_takeFrom_1 rfl 1 rfl ?_
    refine gf_X2_27 (pc := 2) C h1 dX2_takeFrom_2 ?_
    refine j_bit (fun hb5 => ?_)
    refine fp_X2_27 (pc := 5) C h hb5 dX2_takeFrom_5 ?_
    refine j_let (fun s1 => ?_)
    refine j_aload_n (pc := 8) C dX2_takeFrom_8 rfl 0 rfl ?_
    refine j_aload_n (pc := 9) C dX2_takeFrom_9 rfl 1 rfl ?_
    refine gf_X2_31 (pc := 10) C h1 dX2_takeFrom_10 ?_
    refine fp_X2_31 (pc := 13) C h dX2_takeFrom_13 ?_
    refine j_let (fun s2 => ?_)
    refine j_aload_n (pc := 16) C dX2_takeFrom_16 rfl 0 rfl ?_
    refine j_aload_n (pc := 17) C dX2_takeFrom_17 rfl 1 rfl ?_
    refine gf_X2_35 (pc := 18) C h1 dX2_takeFrom_18 ?_
    refine fp_X2_35 (pc := 21) C h dX2_takeFrom_21 ?_
    refine j_let (fun s3 => ?_)
    refine j_aload_n (pc := 24) C dX2_takeFrom_24 rfl 1 rfl ?_
    refine gf_X2_9 (pc := 25) C h1 dX2_takeFrom_25 ?_
    refine j_iconst (pc := 28) C dX2_takeFrom_28 ?_
    refine j_aload_n (pc := 29) C dX2_takeFrom_29 rfl 0 rfl ?_
    refine gf_X2_9 (pc := 30) C h dX2_takeFrom_30 ?_
    refine j_iconst (pc := 33) C dX2_takeFrom_33 ?_
    refine j_bipush (pc := 34) C dX2_takeFrom_34 (by decide) ?_
    refine j_bI (fun s4 es4 => ?_)
    refine j_copy (pc := 36) C (arX2_2 h1) (arX2_2 h) es4 kC_X2_38 (Nat.le_of_ble_eq_true rfl) dX2_takeFrom_36 ?_
    refine j_aload_n (pc := 39) C dX2_takeFrom_39 rfl 1 rfl ?_
    refine gf_X2_15 (pc := 40) C h1 dX2_takeFrom_40 ?_
    refine j_iconst (pc := 43) C dX2_takeFrom_43 ?_
    refine j_aload_n (pc := 44) C dX2_takeFrom_44 rfl 0 rfl ?_
    refine gf_X2_15 (pc := 45) C h dX2_takeFrom_45 ?_
    refine j_iconst (pc := 48) C dX2_takeFrom_48 ?_
    refine j_bipush (pc := 49) C dX2_takeFrom_49 (by decide) ?_
    refine j_bI (fun s5 es5 => ?_)
    refine j_copy (pc := 51) C (arX2_3 h1) (arX2_3 h) es5 kC_X2_38 (Nat.le_of_ble_eq_true rfl) dX2_takeFrom_51 ?_
    refine j_aload_n (pc := 54) C dX2_takeFrom_54 rfl 1 rfl ?_
    refine gf_X2_18 (pc := 55) C h1 dX2_takeFrom_55 ?_
    refine j_iconst (pc := 58) C dX2_takeFrom_58 ?_
    refine j_aload_n (pc := 59) C dX2_takeFrom_59 rfl 0 rfl ?_
    refine gf_X2_18 (pc := 60) C h dX2_takeFrom_60 ?_
    refine j_iconst (pc := 63) C dX2_takeFrom_63 ?_
    refine j_bipush (pc := 64) C dX2_takeFrom_64 (by decide) ?_
    refine j_bI (fun s6 es6 => ?_)
    refine j_copy (pc := 66) C (arX2_5 h1) (arX2_5 h) es6 kC_X2_38 (Nat.le_of_ble_eq_true rfl) dX2_takeFrom_66 ?_
    refine j_aload_n (pc := 69) C dX2_takeFrom_69 rfl 1 rfl ?_
    refine gf_X2_21 (pc := 70) C h1 dX2_takeFrom_70 ?_
    refine j_iconst (pc := 73) C dX2_takeFrom_73 ?_
    refine j_aload_n (pc := 74) C dX2_takeFrom_74 rfl 0 rfl ?_
    refine gf_X2_21 (pc := 75) C h dX2_takeFrom_75 ?_
    refine j_iconst (pc := 78) C dX2_takeFrom_78 ?_
    refine j_bipush (pc := 79) C dX2_takeFrom_79 (by decide) ?_
    refine j_bI (fun s7 es7 => ?_)
    refine j_copy (pc := 81) C (arX2_6 h1) (arX2_6 h) es7 kC_X2_38 (Nat.le_of_ble_eq_true rfl) dX2_takeFrom_81 ?_
    refine j_aload_n (pc := 84) C dX2_takeFrom_84 rfl 1 rfl ?_
    refine gf_X2_24 (pc := 85) C h1 dX2_takeFrom_85 ?_
    refine j_iconst (pc := 88) C dX2_takeFrom_88 ?_
    refine j_aload_n (pc := 89) C dX2_takeFrom_89 rfl 0 rfl ?_
    refine gf_X2_24 (pc := 90) C h dX2_takeFrom_90 ?_
    refine j_iconst (pc := 93) C dX2_takeFrom_93 ?_
    refine j_bipush (pc := 94) C dX2_takeFrom_94 (by decide) ?_
    refine j_bI (fun s8 es8 => ?_)
    refine j_copy (pc := 96) C (arX2_7 h1) (arX2_7 h) es8 kC_X2_38 (Nat.le_of_ble_eq_true rfl) dX2_takeFrom_96 ?_
    exact j_return C rfl rfl dX2_takeFrom_99)
def X2_put (a : Nat) (st : PS) (l1 l2 l3 : Int) : Option PS := if wI 100 ≤ wI (st a 4) then some st else (bI (zwr st (a + 5) 100 (st a 4) l1) (fun s5 => bI (zwr s5 (a + 6) 100 (s5 a 4) l2) (fun s6 => bI (zwr s6 (a + 7) 100 (s6 a 4) l3) (fun s7 => zlet (zu s7 a 4 ((s7 a 4) + 1)) (fun s8 => some s8)))))
set_option maxHeartbeats 4000000 in
set_option maxRecDepth 100000 in
theorem X2_put_m (l : Launch) {G : GD} (hj : zInj sC G) {a : Nat} (h : IsStreet a) {st : PS} {l1 l2 l3 : Int} {r : PS} (hr : X2_put a st l1 l2 l3 = some r) : zM l sC G yX2_put cX2_put 4 none 0 [.ref (G.2.2.1 a), .int (oI l1), .int (oI l2), .int (oI l3)] st none r :=
  zEnter (f := fV) hr hj (by decide) rfl (lv := [(0, .ref (G.2.2.1 a)), (1, .int (oI l1)), (2, .int (oI l2)), (3, .int (oI l3))]) rfl (Nat.le_of_ble_eq_true rfl) (fun X _ hN C => by
    unfold X2_put
    refine j_aload_n (pc := 0) C dX2_put_0 rfl 0 rfl ?_
    refine gf_X2_35 (pc := 1) C h dX2_put_1 ?_
    refine j_bipush (pc := 4) C dX2_put_4 (by decide) ?_
    refine j_icmp_ge (pc := 6) (tgt := 49) C dX2_put_6 rfl ?_ ?_
    · exact j_return C rfl rfl dX2_put_49
    · refine j_aload_n (pc := 9) C dX2_put_9 rfl 0 rfl ?_
      refine gf_X2_18 (pc := 10) C h dX2_put_10 ?_
      refine j_aload_n (pc := 13) C dX2_put_13 rfl 0 rfl ?_
      refine gf_X2_35 (pc := 14) C h dX2_put_14 ?_
      refine j_iload_n (pc := 17) C dX2_put_17 rfl 1 rfl ?_
      refine j_bI (fun s5 es5 => ?_)
      refine j_iast (pc := 18) C (arX2_5 h) es5 dX2_put_18 ?_
      refine j_aload_n (pc := 19) C dX2_put_19 rfl 0 rfl ?_
      refine gf_X2_21 (pc := 20) C h dX2_put_20 ?_
      refine j_aload_n (pc := 23) C dX2_put_23 rfl 0 rfl ?_
      refine gf_X2_35 (pc := 24) C h dX2_put_24 ?_
      refine j_iload_n (pc := 27) C dX2_put_27 rfl 2 rfl ?_
      refine j_bI (fun s6 es6 => ?_)
      refine j_iast (pc := 28) C (arX2_6 h) es6 dX2_put_28 ?_
      refine j_aload_n (pc := 29) C dX2_put_29 rfl 0 rfl ?_
      refine gf_X2_24 (pc := 30) C h dX2_put_30 ?_
      refine j_aload_n (pc := 33) C dX2_put_33 rfl 0 rfl ?_
      refine gf_X2_35 (pc := 34) C h dX2_put_34 ?_
      refine j_iload_n (pc := 37) C dX2_put_37 rfl 3 rfl ?_
      refine j_bI (fun s7 es7 => ?_)
      refine j_iast (pc := 38) C (arX2_7 h) es7 dX2_put_38 ?_
      refine j_aload_n (pc := 39) C dX2_put_39 rfl 0 rfl ?_
      refine j_dup (pc := 40) C dX2_put_40 rfl ?_
      refine gf_X2_35 (pc := 41) C h dX2_put_41 ?_
      refine j_iconst (pc := 44) C dX2_put_44 ?_
      refine j_iadd (pc := 45) C dX2_put_45 ?_
      refine fp_X2_35 (pc := 46) C h dX2_put_46 ?_
      refine j_let (fun s8 => ?_)
      exact j_return C rfl rfl dX2_put_49)
def X2_close (a : Nat) (st : PS) (l1 : Int) : Option (Int × PS) := if wI (st a 1) < wI 10 then bI (zwr st (a + 2) 10 (st a 1) l1) (fun s1 => bI (zwr s1 (a + 3) 10 (s1 a 1) (s1 a 4)) (fun s2 => zlet (zu s2 a 1 ((s2 a 1) + 1)) (fun s3 => some (1, s3)))) else (some (0, st))
set_option maxHeartbeats 4000000 in
set_option maxRecDepth 100000 in
theorem X2_close_m (l : Launch) {G : GD} (hj : zInj sC G) {a : Nat} (h : IsStreet a) {st : PS} {l1 : Int} {r : (Int × PS)} (hr : X2_close a st l1 = some r) : zM l sC G yX2_close cX2_close 2 (some .boolean) 0 [.ref (G.2.2.1 a), .int (oI l1)] st (some (.int (oI r.1))) r.2 :=
  zEnter (f := fI) hr hj (by decide) rfl (lv := [(0, .ref (G.2.2.1 a)), (1, .int (oI l1))]) rfl (Nat.le_of_ble_eq_true rfl) (fun X _ hN C => by
    unfold X2_close
    refine j_aload_n (pc := 0) C dX2_close_0 rfl 0 rfl ?_
    refine gf_X2_31 (pc := 1) C h dX2_close_1 ?_
    refine j_bipush (pc := 4) C dX2_close_4 (by decide) ?_
    refine j_icmp_lt (pc := 6) (tgt := 11) C dX2_close_6 rfl ?_ ?_
    · refine j_aload_n (pc := 11) C dX2_close_11 rfl 0 rfl ?_
      refine gf_X2_9 (pc := 12) C h dX2_close_12 ?_
      refine j_aload_n (pc := 15) C dX2_close_15 rfl 0 rfl ?_
      refine gf_X2_31 (pc := 16) C h dX2_close_16 ?_
      refine j_iload_n (pc := 19) C dX2_close_19 rfl 1 rfl ?_
      refine j_bI (fun s1 es1 => ?_)
      refine j_iast (pc := 20) C (arX2_2 h) es1 dX2_close_20 ?_
      refine j_aload_n (pc := 21) C dX2_close_21 rfl 0 rfl ?_
      refine gf_X2_15 (pc := 22) C h dX2_close_22 ?_
      refine j_aload_n (pc := 25) C dX2_close_25 rfl 0 rfl ?_
      refine gf_X2_31 (pc := 26) C h dX2_close_26 ?_
      refine j_aload_n (pc := 29) C dX2_close_29 rfl 0 rfl ?_
      refine gf_X2_35 (pc := 30) C h dX2_close_30 ?_
      refine j_bI (fun s2 es2 => ?_)
      refine j_iast (pc := 33) C (arX2_3 h) es2 dX2_close_33 ?_
      refine j_aload_n (pc := 34) C dX2_close_34 rfl 0 rfl ?_
      refine j_dup (pc := 35) C dX2_close_35 rfl ?_
      refine gf_X2_31 (pc := 36) C h dX2_close_36 ?_
      refine j_iconst (pc := 39) C dX2_close_39 ?_
      refine j_iadd (pc := 40) C dX2_close_40 ?_
      refine fp_X2_31 (pc := 41) C h dX2_close_41 ?_
      refine j_let (fun s3 => ?_)
      refine j_iconst (pc := 44) C dX2_close_44 ?_
      exact j_ireturn C rfl rfl (znar (Or.inr rfl)) rfl dX2_close_45
    · refine j_iconst (pc := 9) C dX2_close_9 ?_
      exact j_ireturn C rfl rfl (znar (Or.inl rfl)) rfl dX2_close_10)
def X2_passes (a : Nat) (r2 : Nat) (st : PS) (l1 : Int) : Option Int := bI (zrd st (a + 5) 100 l1) (fun v1 => if wI v1 < 0 then some 0 else (if wI v1 < wI 6 then bI (zrd st (a + 6) 100 l1) (fun v2 => if wI v2 = 60 then bI (zrd st r2 6 v1) (fun v3 => bI (zrd st (a + 7) 100 l1) (fun v4 => if wI v4 ≤ wI v3 then some 0 else (some 1))) else (if wI v2 = 62 then bI (zrd st r2 6 v1) (fun v5 => bI (zrd st (a + 7) 100 l1) (fun v6 => if wI v5 ≤ wI v6 then some 0 else (some 1))) else (bI (zrd st r2 6 v1) (fun v7 => bI (zrd st (a + 7) 100 l1) (fun v8 => if wI v7 = wI v8 then some 1 else (some 0)))))) else (some 0)))
set_option maxHeartbeats 4000000 in
set_option maxRecDepth 100000 in
theorem X2_passes_m (l : Launch) {G : GD} (hj : zInj sC G) {a : Nat} {r2 : Nat} (h : IsStreet a) (h2 : IsFacts r2) {st : PS} {l1 : Int} {r : Int} (hr : X2_passes a r2 st l1 = some r) : zM l sC G yX2_passes cX2_passes 4 (some .boolean) 0 [.ref (G.2.2.1 a), .int (oI l1), .ref (G.2.2.1 r2)] st (some (.int (oI r))) st :=
  zEnter (f := fR st) hr hj (by decide) rfl (lv := [(0, .ref (G.2.2.1 a)), (1, .int (oI l1)), (2, .ref (G.2.2.1 r2))]) rfl (Nat.le_of_ble_eq_true rfl) (fun X _ hN C => by
    unfold X2_passes
    refine j_aload_n (pc := 0) C dX2_passes_0 rfl 0 rfl ?_
    refine gf_X2_18 (pc := 1) C h dX2_passes_1 ?_
    refine j_iload_n (pc := 4) C dX2_passes_4 rfl 1 rfl ?_
    refine j_bI (fun v1 ev1 => ?_)
    refine j_iald (pc := 5) C (arX2_5 h) ev1 dX2_passes_5 ?_
    refine j_istore_n (pc := 6) C hN dX2_passes_6 rfl (by decide) (lv' := [(3, .int (oI v1)), (0, .ref (G.2.2.1 a)), (1, .int (oI l1)), (2, .ref (G.2.2.1 r2))]) rfl ?_
    refine j_iload_n (pc := 7) C dX2_passes_7 rfl 0 rfl ?_
    refine j_if_lt (pc := 8) (tgt := 17) C dX2_passes_8 rfl ?_ ?_
    · refine j_iconst (pc := 17) C dX2_passes_17 ?_
      exact j_ireturn C rfl rfl (znar (Or.inl rfl)) rfl dX2_passes_18
    · refine j_iload_n (pc := 11) C dX2_passes_11 rfl 0 rfl ?_
      refine j_aload_n (pc := 12) C dX2_passes_12 rfl 3 rfl ?_
      refine j_alen (pc := 13) C (arFacts h2) rfl dX2_passes_13 ?_
      refine j_icmp_lt (pc := 14) (tgt := 19) C dX2_passes_14 rfl ?_ ?_
      · refine j_aload_n (pc := 19) C dX2_passes_19 rfl 1 rfl ?_
        refine gf_X2_21 (pc := 20) C h dX2_passes_20 ?_
        refine j_iload_n (pc := 23) C dX2_passes_23 rfl 2 rfl ?_
        refine j_bI (fun v2 ev2 => ?_)
        refine j_iald (pc := 24) C (arX2_6 h) ev2 dX2_passes_24 ?_
        refine j_if (fun hc => ?_) (fun hn0 => ?_)
        · refine j_look (pc := 25) (tgt := 52) (off := 27) C dX2_passes_25 (by decide) (by simp [Op.lookupswitch.offset, List.find?, hc]) rfl ?_
          refine j_aload_n (pc := 52) C dX2_passes_52 rfl 3 rfl ?_
          refine j_iload_n (pc := 53) C dX2_passes_53 rfl 0 rfl ?_
          refine j_bI (fun v3 ev3 => ?_)
          refine j_iald (pc := 54) C (arFacts h2) ev3 dX2_passes_54 ?_
          refine j_aload_n (pc := 55) C dX2_passes_55 rfl 1 rfl ?_
          refine gf_X2_24 (pc := 56) C h dX2_passes_56 ?_
          refine j_iload_n (pc := 59) C dX2_passes_59 rfl 2 rfl ?_
          refine j_bI (fun v4 ev4 => ?_)
          refine j_iald (pc := 60) C (arX2_7 h) ev4 dX2_passes_60 ?_
          refine j_icmp_ge (pc := 61) (tgt := 68) C dX2_passes_61 rfl ?_ ?_
          · refine j_iconst (pc := 68) C dX2_passes_68 ?_
            exact j_ireturn C rfl rfl (znar (Or.inl rfl)) rfl dX2_passes_69
          · refine j_iconst (pc := 64) C dX2_passes_64 ?_
            refine j_goto (pc := 65) (tgt := 69) C dX2_passes_65 rfl ?_
            exact j_ireturn C rfl rfl (znar (Or.inr rfl)) rfl dX2_passes_69
        · refine j_if (fun hc => ?_) (fun hn1 => ?_)
          · refine j_look (pc := 25) (tgt := 70) (off := 45) C dX2_passes_25 (by decide) (by simp [Op.lookupswitch.offset, List.find?, hc]) rfl ?_
            refine j_aload_n (pc := 70) C dX2_passes_70 rfl 3 rfl ?_
            refine j_iload_n (pc := 71) C dX2_passes_71 rfl 0 rfl ?_
            refine j_bI (fun v5 ev5 => ?_)
            refine j_iald (pc := 72) C (arFacts h2) ev5 dX2_passes_72 ?_
            refine j_aload_n (pc := 73) C dX2_passes_73 rfl 1 rfl ?_
            refine gf_X2_24 (pc := 74) C h dX2_passes_74 ?_
            refine j_iload_n (pc := 77) C dX2_passes_77 rfl 2 rfl ?_
            refine j_bI (fun v6 ev6 => ?_)
            refine j_iald (pc := 78) C (arX2_7 h) ev6 dX2_passes_78 ?_
            refine j_icmp_le (pc := 79) (tgt := 86) C dX2_passes_79 rfl ?_ ?_
            · refine j_iconst (pc := 86) C dX2_passes_86 ?_
              exact j_ireturn C rfl rfl (znar (Or.inl rfl)) rfl dX2_passes_87
            · refine j_iconst (pc := 82) C dX2_passes_82 ?_
              refine j_goto (pc := 83) (tgt := 87) C dX2_passes_83 rfl ?_
              exact j_ireturn C rfl rfl (znar (Or.inr rfl)) rfl dX2_passes_87
          · refine j_look (pc := 25) (tgt := 88) C dX2_passes_25 (by decide) (off := 63) (by simp [Op.lookupswitch.offset, List.find?, show ¬ (60 : Int) = wI v2 from fun q => hn0 q.symm, show ¬ (62 : Int) = wI v2 from fun q => hn1 q.symm]) rfl ?_
            refine j_aload_n (pc := 88) C dX2_passes_88 rfl 3 rfl ?_
            refine j_iload_n (pc := 89) C dX2_passes_89 rfl 0 rfl ?_
            refine j_bI (fun v7 ev7 => ?_)
            refine j_iald (pc := 90) C (arFacts h2) ev7 dX2_passes_90 ?_
            refine j_aload_n (pc := 91) C dX2_passes_91 rfl 1 rfl ?_
            refine gf_X2_24 (pc := 92) C h dX2_passes_92 ?_
            refine j_iload_n (pc := 95) C dX2_passes_95 rfl 2 rfl ?_
            refine j_bI (fun v8 ev8 => ?_)
            refine j_iald (pc := 96) C (arX2_7 h) ev8 dX2_passes_96 ?_
            refine j_icmp_ne (pc := 97) (tgt := 104) C dX2_passes_97 rfl ?_ ?_
            · refine j_iconst (pc := 100) C dX2_passes_100 ?_
              refine j_goto (pc := 101) (tgt := 105) C dX2_passes_101 rfl ?_
              exact j_ireturn C rfl rfl (znar (Or.inr rfl)) rfl dX2_passes_105
            · refine j_iconst (pc := 104) C dX2_passes_104 ?_
              exact j_ireturn C rfl rfl (znar (Or.inl rfl)) rfl dX2_passes_105
      · refine j_iconst (pc := 17) C dX2_passes_17 ?_
        exact j_ireturn C rfl rfl (znar (Or.inl rfl)) rfl dX2_passes_18)
def X2_holds_L6 (a : Nat) (l2 : Int) (r3 : Nat) (st : PS) : Nat → Int → Int → Option Int
  | 0, _, _ => none
  | k + 1, l4, l5 => if wI l2 ≤ wI l5 then if wI (zand l4 1) = wI 1 then some 1 else (some 0) else (bI (zrd st (a + 5) 100 l5) (fun v1 => if wI v1 = 6 then X2_holds_L6 a l2 r3 st k (zxor l4 1) (l5 + 1) else (if wI v1 = 7 then X2_holds_L6 a l2 r3 st k (zand (zshr l4 1) (zor (zand l4 1) (-2))) (l5 + 1) else (if wI v1 = 8 then X2_holds_L6 a l2 r3 st k (zor (zshr l4 1) (zand l4 1)) (l5 + 1) else (bI (X2_passes a r3 st l5) (fun v2 => if wI v2 = 0 then X2_holds_L6 a l2 r3 st k (zor (zshl l4 1) 0) (l5 + 1) else (X2_holds_L6 a l2 r3 st k (zor (zshl l4 1) 1) (l5 + 1))))))))
def X2_holds (a : Nat) (r3 : Nat) (st : PS) (l1 l2 : Int) : Option Int := X2_holds_L6 a l2 r3 st FU 0 l1
set_option maxHeartbeats 4000000 in
set_option maxRecDepth 100000 in
theorem X2_holds_L6_j {X : JX} {G : GD} (C : zC X sC G RX2 cX2_holds (some .boolean) 1) (hN : X.2.2.2.2.2.2.2.2.2.2.2.2 = 7) (hj : zInj sC G) {a : Nat} {l2 : Int} {r3 : Nat} {st : PS} (h : IsStreet a) (h3 : IsFacts r3) : ∀ (k : Nat) (l4 : Int) (l5 : Int), J X (zI sC G) (zQ sC G (fR st)) st [(0, .ref (G.2.2.1 a)), (2, .int (oI l2)), (3, .ref (G.2.2.1 r3)), (4, .int (oI l4)), (5, .int (oI l5))] 6 [] (X2_holds_L6 a l2 r3 st k l4 l5) := by
  intro k
  induction k with
  | zero => intro l4 l5; exact j_none
  | succ k ih =>
    intro l4 l5
    rw [X2_holds_L6]
    refine j_iload (pc := 6) C dX2_holds_6 4 rfl ?_
    refine j_iload_n (pc := 8) C dX2_holds_8 rfl 1 rfl ?_
    refine j_icmp_ge (pc := 9) (tgt := 116) C dX2_holds_9 rfl ?_ ?_
    · refine j_iload (pc := 116) C dX2_holds_116 3 rfl ?_
      refine j_iconst (pc := 118) C dX2_holds_118 ?_
      refine j_iand (pc := 119) C dX2_holds_119 ?_
      refine j_iconst (pc := 120) C dX2_holds_120 ?_
      refine j_icmp_ne (pc := 121) (tgt := 128) C dX2_holds_121 rfl ?_ ?_
      · refine j_iconst (pc := 124) C dX2_holds_124 ?_
        refine j_goto (pc := 125) (tgt := 129) C dX2_holds_125 rfl ?_
        exact j_ireturn C rfl rfl (znar (Or.inr rfl)) rfl dX2_holds_129
      · refine j_iconst (pc := 128) C dX2_holds_128 ?_
        exact j_ireturn C rfl rfl (znar (Or.inl rfl)) rfl dX2_holds_129
    · refine j_iload (pc := 12) C dX2_holds_12 3 rfl ?_
      refine j_iconst (pc := 14) C dX2_holds_14 ?_
      refine j_iand (pc := 15) C dX2_holds_15 ?_
      refine j_istore (pc := 16) C hN dX2_holds_16 (by decide) (lv' := [(6, .int (oI (zand l4 1))), (0, .ref (G.2.2.1 a)), (2, .int (oI l2)), (3, .ref (G.2.2.1 r3)), (4, .int (oI l4)), (5, .int (oI l5))]) rfl ?_
      refine j_aload_n (pc := 18) C dX2_holds_18 rfl 1 rfl ?_
      refine gf_X2_18 (pc := 19) C h dX2_holds_19 ?_
      refine j_iload (pc := 22) C dX2_holds_22 5 rfl ?_
      refine j_bI (fun v1 ev1 => ?_)
      refine j_iald (pc := 24) C (arX2_5 h) ev1 dX2_holds_24 ?_
      refine j_if (fun hc => ?_) (fun hn0 => ?_)
      · refine j_tabIn (pc := 25) (tgt := 52) C dX2_holds_25 hc (by decide) (by decide) rfl rfl ?_
        refine j_iload (pc := 52) C dX2_holds_52 4 rfl ?_
        refine j_iconst (pc := 54) C dX2_holds_54 ?_
        refine j_ixor (pc := 55) C dX2_holds_55 ?_
        refine j_istore (pc := 56) C hN dX2_holds_56 (by decide) (lv' := [(4, .int (oI (zxor l4 1))), (6, .int (oI (zand l4 1))), (0, .ref (G.2.2.1 a)), (2, .int (oI l2)), (3, .ref (G.2.2.1 r3)), (5, .int (oI l5))]) rfl ?_
        refine j_goto (pc := 58) (tgt := 110) C dX2_holds_58 rfl ?_
        refine j_iinc (pc := 110) C hN dX2_holds_110 5 rfl (by decide) (lv' := [(5, .int (oI (l5 + 1))), (4, .int (oI (zxor l4 1))), (6, .int (oI (zand l4 1))), (0, .ref (G.2.2.1 a)), (2, .int (oI l2)), (3, .ref (G.2.2.1 r3))]) rfl ?_
        refine j_goto (pc := 113) (tgt := 6) C dX2_holds_113 rfl ?_
        exact j_sub [3, 4, 5, 1, 0] rfl (ih _ _)
      · refine j_if (fun hc => ?_) (fun hn1 => ?_)
        · refine j_tabIn (pc := 25) (tgt := 61) C dX2_holds_25 hc (by decide) (by decide) rfl rfl ?_
          refine j_iload (pc := 61) C dX2_holds_61 4 rfl ?_
          refine j_iconst (pc := 63) C dX2_holds_63 ?_
          refine j_ishr (pc := 64) C dX2_holds_64 ?_
          refine j_iload (pc := 65) C dX2_holds_65 0 rfl ?_
          refine j_bipush (pc := 67) C dX2_holds_67 (by decide) ?_
          refine j_ior (pc := 69) C dX2_holds_69 ?_
          refine j_iand (pc := 70) C dX2_holds_70 ?_
          refine j_istore (pc := 71) C hN dX2_holds_71 (by decide) (lv' := [(4, .int (oI (zand (zshr l4 1) (zor (zand l4 1) (-2))))), (6, .int (oI (zand l4 1))), (0, .ref (G.2.2.1 a)), (2, .int (oI l2)), (3, .ref (G.2.2.1 r3)), (5, .int (oI l5))]) rfl ?_
          refine j_goto (pc := 73) (tgt := 110) C dX2_holds_73 rfl ?_
          refine j_iinc (pc := 110) C hN dX2_holds_110 5 rfl (by decide) (lv' := [(5, .int (oI (l5 + 1))), (4, .int (oI (zand (zshr l4 1) (zor (zand l4 1) (-2))))), (6, .int (oI (zand l4 1))), (0, .ref (G.2.2.1 a)), (2, .int (oI l2)), (3, .ref (G.2.2.1 r3))]) rfl ?_
          refine j_goto (pc := 113) (tgt := 6) C dX2_holds_113 rfl ?_
          exact j_sub [3, 4, 5, 1, 0] rfl (ih _ _)
        · refine j_if (fun hc => ?_) (fun hn2 => ?_)
          · refine j_tabIn (pc := 25) (tgt := 76) C dX2_holds_25 hc (by decide) (by decide) rfl rfl ?_
            refine j_iload (pc := 76) C dX2_holds_76 4 rfl ?_
            refine j_iconst (pc := 78) C dX2_holds_78 ?_
            refine j_ishr (pc := 79) C dX2_holds_79 ?_
            refine j_iload (pc := 80) C dX2_holds_80 0 rfl ?_
            refine j_ior (pc := 82) C dX2_holds_82 ?_
            refine j_istore (pc := 83) C hN dX2_holds_83 (by decide) (lv' := [(4, .int (oI (zor (zshr l4 1) (zand l4 1)))), (6, .int (oI (zand l4 1))), (0, .ref (G.2.2.1 a)), (2, .int (oI l2)), (3, .ref (G.2.2.1 r3)), (5, .int (oI l5))]) rfl ?_
            refine j_goto (pc := 85) (tgt := 110) C dX2_holds_85 rfl ?_
            refine j_iinc (pc := 110) C hN dX2_holds_110 5 rfl (by decide) (lv' := [(5, .int (oI (l5 + 1))), (4, .int (oI (zor (zshr l4 1) (zand l4 1)))), (6, .int (oI (zand l4 1))), (0, .ref (G.2.2.1 a)), (2, .int (oI l2)), (3, .ref (G.2.2.1 r3))]) rfl ?_
            refine j_goto (pc := 113) (tgt := 6) C dX2_holds_113 rfl ?_
            exact j_sub [3, 4, 5, 1, 0] rfl (ih _ _)
          · refine j_tabOut (pc := 25) (tgt := 88) C dX2_holds_25 (by omega) rfl ?_
            refine j_iload (pc := 88) C dX2_holds_88 4 rfl ?_
            refine j_iconst (pc := 90) C dX2_holds_90 ?_
            refine j_ishl (pc := 91) C dX2_holds_91 ?_
            refine j_aload_n (pc := 92) C dX2_holds_92 rfl 1 rfl ?_
            refine j_iload (pc := 93) C dX2_holds_93 5 rfl ?_
            refine j_aload_n (pc := 95) C dX2_holds_95 rfl 3 rfl ?_
            refine j_bI (fun v2 ev2 => ?_)
            refine j_callV1 (pc := 96) C (obX2 h) rfl rfl (X2_passes_m _ hj h h3 ev2) kV_X2_48 rfl (by omega) rfl (Nat.le_of_ble_eq_true rfl) dX2_holds_96 ?_
            refine j_if_eq (pc := 99) (tgt := 106) C dX2_holds_99 rfl ?_ ?_
            · refine j_iconst (pc := 106) C dX2_holds_106 ?_
              refine j_ior (pc := 107) C dX2_holds_107 ?_
              refine j_istore (pc := 108) C hN dX2_holds_108 (by decide) (lv' := [(4, .int (oI (zor (zshl l4 1) 0))), (6, .int (oI (zand l4 1))), (0, .ref (G.2.2.1 a)), (2, .int (oI l2)), (3, .ref (G.2.2.1 r3)), (5, .int (oI l5))]) rfl ?_
              refine j_iinc (pc := 110) C hN dX2_holds_110 5 rfl (by decide) (lv' := [(5, .int (oI (l5 + 1))), (4, .int (oI (zor (zshl l4 1) 0))), (6, .int (oI (zand l4 1))), (0, .ref (G.2.2.1 a)), (2, .int (oI l2)), (3, .ref (G.2.2.1 r3))]) rfl ?_
              refine j_goto (pc := 113) (tgt := 6) C dX2_holds_113 rfl ?_
              exact j_sub [3, 4, 5, 1, 0] rfl (ih _ _)
            · refine j_iconst (pc := 102) C dX2_holds_102 ?_
              refine j_goto (pc := 103) (tgt := 107) C dX2_holds_103 rfl ?_
              refine j_ior (pc := 107) C dX2_holds_107 ?_
              refine j_istore (pc := 108) C hN dX2_holds_108 (by decide) (lv' := [(4, .int (oI (zor (zshl l4 1) 1))), (6, .int (oI (zand l4 1))), (0, .ref (G.2.2.1 a)), (2, .int (oI l2)), (3, .ref (G.2.2.1 r3)), (5, .int (oI l5))]) rfl ?_
              refine j_iinc (pc := 110) C hN dX2_holds_110 5 rfl (by decide) (lv' := [(5, .int (oI (l5 + 1))), (4, .int (oI (zor (zshl l4 1) 1))), (6, .int (oI (zand l4 1))), (0, .ref (G.2.2.1 a)), (2, .int (oI l2)), (3, .ref (G.2.2.1 r3))]) rfl ?_
              refine j_goto (pc := 113) (tgt := 6) C dX2_holds_113 rfl ?_
              exact j_sub [3, 4, 5, 1, 0] rfl (ih _ _)
set_option maxHeartbeats 4000000 in
set_option maxRecDepth 100000 in
theorem X2_holds_m (l : Launch) {G : GD} (hj : zInj sC G) {a : Nat} {r3 : Nat} (h : IsStreet a) (h3 : IsFacts r3) {st : PS} {l1 l2 : Int} {r : Int} (hr : X2_holds a r3 st l1 l2 = some r) : zM l sC G yX2_holds cX2_holds 7 (some .boolean) 1 [.ref (G.2.2.1 a), .int (oI l1), .int (oI l2), .ref (G.2.2.1 r3)] st (some (.int (oI r))) st :=
  zEnter (f := fR st) hr hj (by decide) rfl (lv := [(0, .ref (G.2.2.1 a)), (1, .int (oI l1)), (2, .int (oI l2)), (3, .ref (G.2.2.1 r3))]) rfl (Nat.le_of_ble_eq_true rfl) (fun X _ hN C => by
    unfold X2_holds
    refine j_iconst (pc := 0) C dX2_holds_0 ?_
    refine j_istore (pc := 1) C hN dX2_holds_1 (by decide) (lv' := [(4, .int (oI 0)), (0, .ref (G.2.2.1 a)), (1, .int (oI l1)), (2, .int (oI l2)), (3, .ref (G.2.2.1 r3))]) rfl ?_
    refine j_iload_n (pc := 3) C dX2_holds_3 rfl 2 rfl ?_
    refine j_istore (pc := 4) C hN dX2_holds_4 (by decide) (lv' := [(5, .int (oI l1)), (4, .int (oI 0)), (0, .ref (G.2.2.1 a)), (1, .int (oI l1)), (2, .int (oI l2)), (3, .ref (G.2.2.1 r3))]) rfl ?_
    exact j_sub [2, 4, 5, 1, 0] rfl (X2_holds_L6_j C hN hj h h3 FU _ _))
def X2_addsBy_L7 (a : Nat) (r1 : Nat) (st : PS) : Nat → Int → Int → Int → Option Int
  | 0, _, _, _ => none
  | k + 1, l2, l3, l4 => if wI (st a 1) ≤ wI l4 then some l2 else (bI (zrd st (a + 3) 10 l4) (fun v1 => bI (X2_holds a r1 st l3 v1) (fun v2 => if wI v2 = 0 then bI (zrd st (a + 3) 10 l4) (fun v4 => X2_addsBy_L7 a r1 st k l2 v4 (l4 + 1)) else (bI (zrd st (a + 2) 10 l4) (fun v5 => bI (zrd st (a + 3) 10 l4) (fun v6 => X2_addsBy_L7 a r1 st k (l2 + v5) v6 (l4 + 1)))))))
def X2_addsBy (a : Nat) (r1 : Nat) (st : PS) : Option Int := X2_addsBy_L7 a r1 st FU 0 0 0
set_option maxHeartbeats 4000000 in
set_option maxRecDepth 100000 in
theorem X2_addsBy_L7_j {X : JX} {G : GD} (C : zC X sC G RX2 cX2_addsBy (some .int) 2) (hN : X.2.2.2.2.2.2.2.2.2.2.2.2 = 5) (hj : zInj sC G) {a : Nat} {r1 : Nat} {st : PS} (h : IsStreet a) (h1 : IsFacts r1) : ∀ (k : Nat) (l2 : Int) (l3 : Int) (l4 : Int), J X (zI sC G) (zQ sC G (fR st)) st [(0, .ref (G.2.2.1 a)), (1, .ref (G.2.2.1 r1)), (2, .int (oI l2)), (3, .int (oI l3)), (4, .int (oI l4))] 7 [] (X2_addsBy_L7 a r1 st k l2 l3 l4) := by
  intro k
  induction k with
  | zero => intro l2 l3 l4; exact j_none
  | succ k ih =>
    intro l2 l3 l4
    rw [X2_addsBy_L7]
    refine j_iload (pc := 7) C dX2_addsBy_7 4 rfl ?_
    refine j_aload_n (pc := 9) C dX2_addsBy_9 rfl 0 rfl ?_
    refine gf_X2_31 (pc := 10) C h dX2_addsBy_10 ?_
    refine j_icmp_ge (pc := 13) (tgt := 56) C dX2_addsBy_13 rfl ?_ ?_
    · refine j_iload_n (pc := 56) C dX2_addsBy_56 rfl 2 rfl ?_
      exact j_ireturn C rfl rfl rfl rfl dX2_addsBy_57
    · refine j_aload_n (pc := 16) C dX2_addsBy_16 rfl 0 rfl ?_
      refine j_iload_n (pc := 17) C dX2_addsBy_17 rfl 3 rfl ?_
      refine j_aload_n (pc := 18) C dX2_addsBy_18 rfl 0 rfl ?_
      refine gf_X2_15 (pc := 19) C h dX2_addsBy_19 ?_
      refine j_iload (pc := 22) C dX2_addsBy_22 4 rfl ?_
      refine j_bI (fun v1 ev1 => ?_)
      refine j_iald (pc := 24) C (arX2_3 h) ev1 dX2_addsBy_24 ?_
      refine j_aload_n (pc := 25) C dX2_addsBy_25 rfl 1 rfl ?_
      refine j_bI (fun v2 ev2 => ?_)
      refine j_callV1 (pc := 26) C (obX2 h) rfl rfl (X2_holds_m _ hj h h1 ev2) kV_X2_44 rfl (by omega) rfl (Nat.le_of_ble_eq_true rfl) dX2_addsBy_26 ?_
      refine j_if_eq (pc := 29) (tgt := 42) C dX2_addsBy_29 rfl ?_ ?_
      · refine j_aload_n (pc := 42) C dX2_addsBy_42 rfl 0 rfl ?_
        refine gf_X2_15 (pc := 43) C h dX2_addsBy_43 ?_
        refine j_iload (pc := 46) C dX2_addsBy_46 4 rfl ?_
        refine j_bI (fun v4 ev4 => ?_)
        refine j_iald (pc := 48) C (arX2_3 h) ev4 dX2_addsBy_48 ?_
        refine j_istore_n (pc := 49) C hN dX2_addsBy_49 rfl (by decide) (lv' := [(3, .int (oI v4)), (0, .ref (G.2.2.1 a)), (1, .ref (G.2.2.1 r1)), (2, .int (oI l2)), (4, .int (oI l4))]) rfl ?_
        refine j_iinc (pc := 50) C hN dX2_addsBy_50 4 rfl (by decide) (lv' := [(4, .int (oI (l4 + 1))), (3, .int (oI v4)), (0, .ref (G.2.2.1 a)), (1, .ref (G.2.2.1 r1)), (2, .int (oI l2))]) rfl ?_
        refine j_goto (pc := 53) (tgt := 7) C dX2_addsBy_53 rfl ?_
        exact j_sub [2, 3, 4, 1, 0] rfl (ih _ _ _)
      · refine j_iload_n (pc := 32) C dX2_addsBy_32 rfl 2 rfl ?_
        refine j_aload_n (pc := 33) C dX2_addsBy_33 rfl 0 rfl ?_
        refine gf_X2_9 (pc := 34) C h dX2_addsBy_34 ?_
        refine j_iload (pc := 37) C dX2_addsBy_37 4 rfl ?_
        refine j_bI (fun v5 ev5 => ?_)
        refine j_iald (pc := 39) C (arX2_2 h) ev5 dX2_addsBy_39 ?_
        refine j_iadd (pc := 40) C dX2_addsBy_40 ?_
        refine j_istore_n (pc := 41) C hN dX2_addsBy_41 rfl (by decide) (lv' := [(2, .int (oI (l2 + v5))), (0, .ref (G.2.2.1 a)), (1, .ref (G.2.2.1 r1)), (3, .int (oI l3)), (4, .int (oI l4))]) rfl ?_
        refine j_aload_n (pc := 42) C dX2_addsBy_42 rfl 1 rfl ?_
        refine gf_X2_15 (pc := 43) C h dX2_addsBy_43 ?_
        refine j_iload (pc := 46) C dX2_addsBy_46 4 rfl ?_
        refine j_bI (fun v6 ev6 => ?_)
        refine j_iald (pc := 48) C (arX2_3 h) ev6 dX2_addsBy_48 ?_
        refine j_istore_n (pc := 49) C hN dX2_addsBy_49 rfl (by decide) (lv' := [(3, .int (oI v6)), (2, .int (oI (l2 + v5))), (0, .ref (G.2.2.1 a)), (1, .ref (G.2.2.1 r1)), (4, .int (oI l4))]) rfl ?_
        refine j_iinc (pc := 50) C hN dX2_addsBy_50 4 rfl (by decide) (lv' := [(4, .int (oI (l4 + 1))), (3, .int (oI v6)), (2, .int (oI (l2 + v5))), (0, .ref (G.2.2.1 a)), (1, .ref (G.2.2.1 r1))]) rfl ?_
        refine j_goto (pc := 53) (tgt := 7) C dX2_addsBy_53 rfl ?_
        exact j_sub [3, 4, 2, 1, 0] rfl (ih _ _ _)
set_option maxHeartbeats 4000000 in
set_option maxRecDepth 100000 in
theorem X2_addsBy_m (l : Launch) {G : GD} (hj : zInj sC G) {a : Nat} {r1 : Nat} (h : IsStreet a) (h1 : IsFacts r1) {st : PS} {r : Int} (hr : X2_addsBy a r1 st = some r) : zM l sC G yX2_addsBy cX2_addsBy 5 (some .int) 2 [.ref (G.2.2.1 a), .ref (G.2.2.1 r1)] st (some (.int (oI r))) st :=
  zEnter (f := fR st) hr hj (by decide) rfl (lv := [(0, .ref (G.2.2.1 a)), (1, .ref (G.2.2.1 r1))]) rfl (Nat.le_of_ble_eq_true rfl) (fun X _ hN C => by
    unfold X2_addsBy
    refine j_iconst (pc := 0) C dX2_addsBy_0 ?_
    refine j_istore_n (pc := 1) C hN dX2_addsBy_1 rfl (by decide) (lv' := [(2, .int (oI 0)), (0, .ref (G.2.2.1 a)), (1, .ref (G.2.2.1 r1))]) rfl ?_
    refine j_iconst (pc := 2) C dX2_addsBy_2 ?_
    refine j_istore_n (pc := 3) C hN dX2_addsBy_3 rfl (by decide) (lv' := [(3, .int (oI 0)), (2, .int (oI 0)), (0, .ref (G.2.2.1 a)), (1, .ref (G.2.2.1 r1))]) rfl ?_
    refine j_iconst (pc := 4) C dX2_addsBy_4 ?_
    refine j_istore (pc := 5) C hN dX2_addsBy_5 (by decide) (lv' := [(4, .int (oI 0)), (3, .int (oI 0)), (2, .int (oI 0)), (0, .ref (G.2.2.1 a)), (1, .ref (G.2.2.1 r1))]) rfl ?_
    exact j_sub [3, 4, 2, 1, 0] rfl (X2_addsBy_L7_j C hN hj h h1 FU _ _ _))
