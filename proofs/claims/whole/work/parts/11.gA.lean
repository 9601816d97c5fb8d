def X1_takeFrom (a : Nat) (r1 : Nat) (st : PS) : Option PS := zlet (zu st a 0 (st r1 0)) (fun s1 => bI (zcp s1 (r1 + 1) 8 (a + 1) 8 0 0 8) (fun s2 => bI (zcp s2 (r1 + 2) 8 (a + 2) 8 0 0 8) (fun s3 => zlet (zu s3 a 3 (s3 r1 3)) (fun s4 => bI (zcp s4 (r1 + 4) 12 (a + 4) 12 0 0 12) (fun s5 => some s5)))))
set_option maxHeartbeats 4000000 in
set_option maxRecDepth 100000 in
theorem X1_takeFrom_m (l : Launch) {G : GD} (hj : zInj sC G) {a : Nat} {r1 : Nat} (h : IsNotes a) (h1 : IsNotes r1) {st : PS} {r : PS} (hr : X1_takeFrom a r1 st = some r) : zM l sC G yX1_takeFrom cX1_takeFrom 2 none 0 [.ref (G.2.2.1 a), .ref (G.2.2.1 r1)] st none r :=
  zEnter (f := fV) hr hj (by decide) rfl (lv := [(0, .ref (G.2.2.1 a)), (1, .ref (G.2.2.1 r1))]) rfl (Nat.le_of_ble_eq_true rfl) (fun X _ hN C => by
    unfold X1_takeFrom
    refine j_aload_n (pc := 0) C dX1_takeFrom_0 rfl 0 rfl ?_
    refine j_aload_n (pc := 1) C dX1_takeFrom_1 rfl 1 rfl ?_
    refine gf_X1_21 (pc := 2) C h1 dX1_takeFrom_2 ?_
    refine fp_X1_21 (pc := 5) C h dX1_takeFrom_5 ?_
    refine j_let (fun s1 => ?_)
    refine j_aload_n (pc := 8) C dX1_takeFrom_8 rfl 1 rfl ?_
    refine gf_X1_9 (pc := 9) C h1 dX1_takeFrom_9 ?_
    refine j_iconst (pc := 12) C dX1_takeFrom_12 ?_
    refine j_aload_n (pc := 13) C dX1_takeFrom_13 rfl 0 rfl ?_
    refine gf_X1_9 (pc := 14) C h dX1_takeFrom_14 ?_
    refine j_iconst (pc := 17) C dX1_takeFrom_17 ?_
    refine j_bipush (pc := 18) C dX1_takeFrom_18 (by decide) ?_
    refine j_bI (fun s2 es2 => ?_)
    refine j_copy (pc := 20) C (arX1_1 h1) (arX1_1 h) es2 kC_X1_25 (Nat.le_of_ble_eq_true rfl) dX1_takeFrom_20 ?_
    refine j_aload_n (pc := 23) C dX1_takeFrom_23 rfl 1 rfl ?_
    refine gf_X1_15 (pc := 24) C h1 dX1_takeFrom_24 ?_
    refine j_iconst (pc := 27) C dX1_takeFrom_27 ?_
    refine j_aload_n (pc := 28) C dX1_takeFrom_28 rfl 0 rfl ?_
    refine gf_X1_15 (pc := 29) C h dX1_takeFrom_29 ?_
    refine j_iconst (pc := 32) C dX1_takeFrom_32 ?_
    refine j_bipush (pc := 33) C dX1_takeFrom_33 (by decide) ?_
    refine j_bI (fun s3 es3 => ?_)
    refine j_copy (pc := 35) C (arX1_2 h1) (arX1_2 h) es3 kC_X1_25 (Nat.le_of_ble_eq_true rfl) dX1_takeFrom_35 ?_
    refine j_aload_n (pc := 38) C dX1_takeFrom_38 rfl 0 rfl ?_
    refine j_aload_n (pc := 39) C dX1_takeFrom_39 rfl 1 rfl ?_
    refine gf_X1_31 (pc := 40) C h1 dX1_takeFrom_40 ?_
    refine fp_X1_31 (pc := 43) C h dX1_takeFrom_43 ?_
    refine j_let (fun s4 => ?_)
    refine j_aload_n (pc := 46) C dX1_takeFrom_46 rfl 1 rfl ?_
    refine gf_X1_18 (pc := 47) C h1 dX1_takeFrom_47 ?_
    refine j_iconst (pc := 50) C dX1_takeFrom_50 ?_
    refine j_aload_n (pc := 51) C dX1_takeFrom_51 rfl 0 rfl ?_
    refine gf_X1_18 (pc := 52) C h dX1_takeFrom_52 ?_
    refine j_iconst (pc := 55) C dX1_takeFrom_55 ?_
    refine j_bipush (pc := 56) C dX1_takeFrom_56 (by decide) ?_
    refine j_bI (fun s5 es5 => ?_)
    refine j_copy (pc := 58) C (arX1_4 h1) (arX1_4 h) es5 kC_X1_25 (Nat.le_of_ble_eq_true rfl) dX1_takeFrom_58 ?_
    exact j_return C rfl rfl dX1_takeFrom_61)
def X1_addSeen (a : Nat) (st : PS) (l1 l2 : Int) : Option (Int × PS) := if wI (st a 0) < wI 8 then bI (zwr st (a + 1) 8 (st a 0) l1) (fun s1 => bI (zwr s1 (a + 2) 8 (s1 a 0) l2) (fun s2 => zlet (zu s2 a 0 ((s2 a 0) + 1)) (fun s3 => some (s3 a 0, s3)))) else (some ((-4), st))
set_option maxHeartbeats 4000000 in
set_option maxRecDepth 100000 in
theorem X1_addSeen_m (l : Launch) {G : GD} (hj : zInj sC G) {a : Nat} (h : IsNotes a) {st : PS} {l1 l2 : Int} {r : (Int × PS)} (hr : X1_addSeen a st l1 l2 = some r) : zM l sC G yX1_addSeen cX1_addSeen 3 (some .int) 0 [.ref (G.2.2.1 a), .int (oI l1), .int (oI l2)] st (some (.int (oI r.1))) r.2 :=
  zEnter (f := fI) hr hj (by decide) rfl (lv := [(0, .ref (G.2.2.1 a)), (1, .int (oI l1)), (2, .int (oI l2))]) rfl (Nat.le_of_ble_eq_true rfl) (fun X _ hN C => by
    unfold X1_addSeen
    refine j_aload_n (pc := 0) C dX1_addSeen_0 rfl 0 rfl ?_
    refine gf_X1_21 (pc := 1) C h dX1_addSeen_1 ?_
    refine j_bipush (pc := 4) C dX1_addSeen_4 (by decide) ?_
    refine j_icmp_lt (pc := 6) (tgt := 12) C dX1_addSeen_6 rfl ?_ ?_
    · refine j_aload_n (pc := 12) C dX1_addSeen_12 rfl 0 rfl ?_
      refine gf_X1_9 (pc := 13) C h dX1_addSeen_13 ?_
      refine j_aload_n (pc := 16) C dX1_addSeen_16 rfl 0 rfl ?_
      refine gf_X1_21 (pc := 17) C h dX1_addSeen_17 ?_
      refine j_iload_n (pc := 20) C dX1_addSeen_20 rfl 1 rfl ?_
      refine j_bI (fun s1 es1 => ?_)
      refine j_iast (pc := 21) C (arX1_1 h) es1 dX1_addSeen_21 ?_
      refine j_aload_n (pc := 22) C dX1_addSeen_22 rfl 0 rfl ?_
      refine gf_X1_15 (pc := 23) C h dX1_addSeen_23 ?_
      refine j_aload_n (pc := 26) C dX1_addSeen_26 rfl 0 rfl ?_
      refine gf_X1_21 (pc := 27) C h dX1_addSeen_27 ?_
      refine j_iload_n (pc := 30) C dX1_addSeen_30 rfl 2 rfl ?_
      refine j_bI (fun s2 es2 => ?_)
      refine j_iast (pc := 31) C (arX1_2 h) es2 dX1_addSeen_31 ?_
      refine j_aload_n (pc := 32) C dX1_addSeen_32 rfl 0 rfl ?_
      refine j_dup (pc := 33) C dX1_addSeen_33 rfl ?_
      refine gf_X1_21 (pc := 34) C h dX1_addSeen_34 ?_
      refine j_iconst (pc := 37) C dX1_addSeen_37 ?_
      refine j_iadd (pc := 38) C dX1_addSeen_38 ?_
      refine fp_X1_21 (pc := 39) C h dX1_addSeen_39 ?_
      refine j_let (fun s3 => ?_)
      refine j_aload_n (pc := 42) C dX1_addSeen_42 rfl 0 rfl ?_
      refine gf_X1_21 (pc := 43) C h dX1_addSeen_43 ?_
      exact j_ireturn C rfl rfl rfl rfl dX1_addSeen_46
    · refine j_bipush (pc := 9) C dX1_addSeen_9 (by decide) ?_
      exact j_ireturn C rfl rfl rfl rfl dX1_addSeen_11)
def X1_addBook (a : Nat) (st : PS) (l1 : Int) : Option (Int × PS) := if wI (st a 3) < wI 12 then bI (zwr st (a + 4) 12 (st a 3) l1) (fun s1 => zlet (zu s1 a 3 ((s1 a 3) + 1)) (fun s2 => some (s2 a 3, s2))) else (some ((-4), st))
set_option maxHeartbeats 4000000 in
set_option maxRecDepth 100000 in
theorem X1_addBook_m (l : Launch) {G : GD} (hj : zInj sC G) {a : Nat} (h : IsNotes a) {st : PS} {l1 : Int} {r : (Int × PS)} (hr : X1_addBook a st l1 = some r) : zM l sC G yX1_addBook cX1_addBook 2 (some .int) 0 [.ref (G.2.2.1 a), .int (oI l1)] st (some (.int (oI r.1))) r.2 :=
  zEnter (f := fI) hr hj (by decide) rfl (lv := [(0, .ref (G.2.2.1 a)), (1, .int (oI l1))]) rfl (Nat.le_of_ble_eq_true rfl) (fun X _ hN C => by
    unfold X1_addBook
    refine j_aload_n (pc := 0) C dX1_addBook_0 rfl 0 rfl ?_
    refine gf_X1_31 (pc := 1) C h dX1_addBook_1 ?_
    refine j_bipush (pc := 4) C dX1_addBook_4 (by decide) ?_
    refine j_icmp_lt (pc := 6) (tgt := 12) C dX1_addBook_6 rfl ?_ ?_
    · refine j_aload_n (pc := 12) C dX1_addBook_12 rfl 0 rfl ?_
      refine gf_X1_18 (pc := 13) C h dX1_addBook_13 ?_
      refine j_aload_n (pc := 16) C dX1_addBook_16 rfl 0 rfl ?_
      refine gf_X1_31 (pc := 17) C h dX1_addBook_17 ?_
      refine j_iload_n (pc := 20) C dX1_addBook_20 rfl 1 rfl ?_
      refine j_bI (fun s1 es1 => ?_)
      refine j_iast (pc := 21) C (arX1_4 h) es1 dX1_addBook_21 ?_
      refine j_aload_n (pc := 22) C dX1_addBook_22 rfl 0 rfl ?_
      refine j_dup (pc := 23) C dX1_addBook_23 rfl ?_
      refine gf_X1_31 (pc := 24) C h dX1_addBook_24 ?_
      refine j_iconst (pc := 27) C dX1_addBook_27 ?_
      refine j_iadd (pc := 28) C dX1_addBook_28 ?_
      refine fp_X1_31 (pc := 29) C h dX1_addBook_29 ?_
      refine j_let (fun s2 => ?_)
      refine j_aload_n (pc := 32) C dX1_addBook_32 rfl 0 rfl ?_
      refine gf_X1_31 (pc := 33) C h dX1_addBook_33 ?_
      exact j_ireturn C rfl rfl rfl rfl dX1_addBook_36
    · refine j_bipush (pc := 9) C dX1_addBook_9 (by decide) ?_
      exact j_ireturn C rfl rfl rfl rfl dX1_addBook_11)
def X4_become_L12 (a : Nat) : Nat → PS → Int → Option PS
  | 0, _, _ => none
  | k + 1, st, l3 => if wI 60 ≤ wI l3 then some st else (bI (zwr st (a + 2) 60 l3 0) (fun s3 => X4_become_L12 a k s3 (l3 + 1)))
def X4_become (a : Nat) (st : PS) (l1 l2 : Int) : Option PS := zlet (zu st a 0 l1) (fun s1 => zlet (zu s1 a 1 l2) (fun s2 => X4_become_L12 a FU s2 0))
set_option maxHeartbeats 4000000 in
set_option maxRecDepth 100000 in
theorem X4_become_L12_j {X : JX} {G : GD} (C : zC X sC G RX4 cX4_become none 0) (hN : X.2.2.2.2.2.2.2.2.2.2.2.2 = 4) (hj : zInj sC G) {a : Nat} (h : IsTape a) : ∀ (k : Nat) (st : PS) (l3 : Int), J X (zI sC G) (zQ sC G fV) st [(0, .ref (G.2.2.1 a)), (3, .int (oI l3))] 12 [] (X4_become_L12 a k st l3) := by
  intro k
  induction k with
  | zero => intro st l3; exact j_none
  | succ k ih =>
    intro st l3
    rw [X4_become_L12]
    refine j_iload_n (pc := 12) C dX4_become_12 rfl 1 rfl ?_
    refine j_bipush (pc := 13) C dX4_become_13 (by decide) ?_
    refine j_icmp_ge (pc := 15) (tgt := 31) C dX4_become_15 rfl ?_ ?_
    · exact j_return C rfl rfl dX4_become_31
    · refine j_aload_n (pc := 18) C dX4_become_18 rfl 0 rfl ?_
      refine gf_X4_15 (pc := 19) C h dX4_become_19 ?_
      refine j_iload_n (pc := 22) C dX4_become_22 rfl 1 rfl ?_
      refine j_lconst (pc := 23) C (z := 0) dX4_become_23 (by decide) ?_
      refine j_bI (fun s3 es3 => ?_)
      refine j_last (pc := 24) C (arX4_2 h) es3 dX4_become_24 ?_
      refine j_iinc (pc := 25) C hN dX4_become_25 1 rfl (by decide) (lv' := [(3, .int (oI (l3 + 1))), (0, .ref (G.2.2.1 a))]) rfl ?_
      refine j_goto (pc := 28) (tgt := 12) C dX4_become_28 rfl ?_
      exact j_sub [1, 0] rfl (ih _ _)
set_option maxHeartbeats 4000000 in
set_option maxRecDepth 100000 in
theorem X4_become_m (l : Launch) {G : GD} (hj : zInj sC G) {a : Nat} (h : IsTape a) {st : PS} {l1 l2 : Int} {r : PS} (hr : X4_become a st l1 l2 = some r) : zM l sC G yX4_become cX4_become 4 none 0 [.ref (G.2.2.1 a), .int (oI l1), .int (oI l2)] st none r :=
  zEnter (f := fV) hr hj (by decide) rfl (lv := [(0, .ref (G.2.2.1 a)), (1, .int (oI l1)), (2, .int (oI l2))]) rfl (Nat.le_of_ble_eq_true rfl) (fun X _ hN C => by
    unfold X4_become
    refine j_aload_n (pc := 0) C dX4_become_0 rfl 0 rfl ?_
    refine j_iload_n (pc := 1) C dX4_become_1 rfl 1 rfl ?_
    refine fp_X4_9 (pc := 2) C h dX4_become_2 ?_
    refine j_let (fun s1 => ?_)
    refine j_aload_n (pc := 5) C dX4_become_5 rfl 0 rfl ?_
    refine j_iload_n (pc := 6) C dX4_become_6 rfl 2 rfl ?_
    refine fp_X4_19 (pc := 7) C h dX4_become_7 ?_
    refine j_let (fun s2 => ?_)
    refine j_iconst (pc := 10) C dX4_become_10 ?_
    refine j_istore_n (pc := 11) C hN dX4_become_11 rfl (by decide) (lv' := [(3, .int (oI 0)), (0, .ref (G.2.2.1 a)), (1, .int (oI l1)), (2, .int (oI l2))]) rfl ?_
    exact j_sub [1, 0] rfl (X4_become_L12_j C hN hj h FU _ _))
def X4_reaches (a : Nat) (st : PS) (l1 l2 : Int) : Int := if wI l1 < 0 then 0 else (if wI l2 < 0 then 0 else (if wI (st a 1) < wI l2 then 0 else (if wI ((st a 1) - l2) < wI l1 then 0 else (1))))
set_option maxHeartbeats 4000000 in
set_option maxRecDepth 100000 in
theorem X4_reaches_m (l : Launch) {G : GD} (hj : zInj sC G) {a : Nat} (h : IsTape a) {st : PS} {l1 l2 : Int} {r : Int} (hr : X4_reaches a st l1 l2 = r) : zM l sC G yX4_reaches cX4_reaches 3 (some .boolean) 0 [.ref (G.2.2.1 a), .int (oI l1), .int (oI l2)] st (some (.int (oI r))) st :=
  zEnter (f := fR st) (o := some (X4_reaches a st l1 l2)) (by rw [hr]) hj (by decide) rfl (lv := [(0, .ref (G.2.2.1 a)), (1, .int (oI l1)), (2, .int (oI l2))]) rfl (Nat.le_of_ble_eq_true rfl) (fun X _ hN C => by
    simp only [X4_reaches, zsome_ite]
    refine j_iload_n (pc := 0) C dX4_reaches_0 rfl 1 rfl ?_
    refine j_if_lt (pc := 1) (tgt := 30) C dX4_reaches_1 rfl ?_ ?_
    · refine j_iconst (pc := 30) C dX4_reaches_30 ?_
      exact j_ireturn C rfl rfl (znar (Or.inl rfl)) rfl dX4_reaches_31
    · refine j_iload_n (pc := 4) C dX4_reaches_4 rfl 2 rfl ?_
      refine j_if_lt (pc := 5) (tgt := 30) C dX4_reaches_5 rfl ?_ ?_
      · refine j_iconst (pc := 30) C dX4_reaches_30 ?_
        exact j_ireturn C rfl rfl (znar (Or.inl rfl)) rfl dX4_reaches_31
      · refine j_iload_n (pc := 8) C dX4_reaches_8 rfl 2 rfl ?_
        refine j_aload_n (pc := 9) C dX4_reaches_9 rfl 0 rfl ?_
        refine gf_X4_19 (pc := 10) C h dX4_reaches_10 ?_
        refine j_icmp_gt (pc := 13) (tgt := 30) C dX4_reaches_13 rfl ?_ ?_
        · refine j_iconst (pc := 30) C dX4_reaches_30 ?_
          exact j_ireturn C rfl rfl (znar (Or.inl rfl)) rfl dX4_reaches_31
        · refine j_iload_n (pc := 16) C dX4_reaches_16 rfl 1 rfl ?_
          refine j_aload_n (pc := 17) C dX4_reaches_17 rfl 0 rfl ?_
          refine gf_X4_19 (pc := 18) C h dX4_reaches_18 ?_
          refine j_iload_n (pc := 21) C dX4_reaches_21 rfl 2 rfl ?_
          refine j_isub (pc := 22) C dX4_reaches_22 ?_
          refine j_icmp_gt (pc := 23) (tgt := 30) C dX4_reaches_23 rfl ?_ ?_
          · refine j_iconst (pc := 30) C dX4_reaches_30 ?_
            exact j_ireturn C rfl rfl (znar (Or.inl rfl)) rfl dX4_reaches_31
          · refine j_iconst (pc := 26) C dX4_reaches_26 ?_
            refine j_goto (pc := 27) (tgt := 31) C dX4_reaches_27 rfl ?_
            exact j_ireturn C rfl rfl (znar (Or.inr rfl)) rfl dX4_reaches_31)
theorem X4_reaches_bit {a : Nat} {st : PS} {l1 l2 : Int} : X4_reaches a st l1 l2 = 0 ∨ X4_reaches a st l1 l2 = 1 := by
  unfold X4_reaches
  first | exact Or.inl rfl | (repeat' split) <;> first | exact Or.inl rfl | exact Or.inr rfl
def X4_fitted (a : Nat) (st : PS) (l1 : Int) : Int := if wI (st a 0) = 0 then (wI (wB l1)) else (if wI (st a 0) = 1 then (wI (wH l1)) else (if wI (st a 0) = 2 then (wI l1) else (if wI (st a 0) = 4 then if wI (zcmp l1 0) = 0 then 0 else (1) else (l1))))
set_option maxHeartbeats 4000000 in
set_option maxRecDepth 100000 in
theorem X4_fitted_m (l : Launch) {G : GD} (hj : zInj sC G) {a : Nat} (h : IsTape a) {st : PS} {l1 : Int} {r : Int} (hr : X4_fitted a st l1 = r) : zM l sC G yX4_fitted cX4_fitted 3 (some .long) 0 [.ref (G.2.2.1 a), .long (oL l1)] st (some (.long (oL r))) st :=
  zEnter (f := fL st) (o := some (X4_fitted a st l1)) (by rw [hr]) hj (by decide) rfl (lv := [(0, .ref (G.2.2.1 a)), (1, .long (oL l1))]) rfl (Nat.le_of_ble_eq_true rfl) (fun X _ hN C => by
    simp only [X4_fitted, zsome_ite]
    refine j_aload_n (pc := 0) C dX4_fitted_0 rfl 0 rfl ?_
    refine gf_X4_9 (pc := 1) C h dX4_fitted_1 ?_
    refine j_if (fun hc => ?_) (fun hn0 => ?_)
    · refine j_tabIn (pc := 4) (tgt := 40) C dX4_fitted_4 hc (by decide) (by decide) rfl rfl ?_
      refine j_lload_n (pc := 40) C dX4_fitted_40 rfl 1 rfl ?_
      refine j_l2i (pc := 41) C dX4_fitted_41 ?_
      refine j_i2b (pc := 42) C dX4_fitted_42 ?_
      refine j_i2l (pc := 43) C dX4_fitted_43 ?_
      exact j_lreturn C rfl rfl dX4_fitted_44
    · refine j_if (fun hc => ?_) (fun hn1 => ?_)
      · refine j_tabIn (pc := 4) (tgt := 45) C dX4_fitted_4 hc (by decide) (by decide) rfl rfl ?_
        refine j_lload_n (pc := 45) C dX4_fitted_45 rfl 1 rfl ?_
        refine j_l2i (pc := 46) C dX4_fitted_46 ?_
        refine j_i2s (pc := 47) C dX4_fitted_47 ?_
        refine j_i2l (pc := 48) C dX4_fitted_48 ?_
        exact j_lreturn C rfl rfl dX4_fitted_49
      · refine j_if (fun hc => ?_) (fun hn2 => ?_)
        · refine j_tabIn (pc := 4) (tgt := 50) C dX4_fitted_4 hc (by decide) (by decide) rfl rfl ?_
          refine j_lload_n (pc := 50) C dX4_fitted_50 rfl 1 rfl ?_
          refine j_l2i (pc := 51) C dX4_fitted_51 ?_
          refine j_i2l (pc := 52) C dX4_fitted_52 ?_
          exact j_lreturn C rfl rfl dX4_fitted_53
        · refine j_if (fun hc => ?_) (fun hn3 => ?_)
          · refine j_tabIn (pc := 4) (tgt := 54) C dX4_fitted_4 hc (by decide) (by decide) rfl rfl ?_
            refine j_lload_n (pc := 54) C dX4_fitted_54 rfl 1 rfl ?_
            refine j_lconst (pc := 55) C (z := 0) dX4_fitted_55 (by decide) ?_
            refine j_lcmp (pc := 56) C dX4_fitted_56 ?_
            refine j_if_eq (pc := 57) (tgt := 64) C dX4_fitted_57 rfl ?_ ?_
            · refine j_lconst (pc := 64) C (z := 0) dX4_fitted_64 (by decide) ?_
              exact j_lreturn C rfl rfl dX4_fitted_65
            · refine j_lconst (pc := 60) C (z := 1) dX4_fitted_60 (by decide) ?_
              refine j_goto (pc := 61) (tgt := 65) C dX4_fitted_61 rfl ?_
              exact j_lreturn C rfl rfl dX4_fitted_65
          · refine j_join (lv' := [(0, .ref (G.2.2.1 a)), (1, .long (oL l1))]) (pc' := 66) (stk' := []) ?_ (fun jn => ?_)
            · refine j_lload_n (pc := 66) C dX4_fitted_66 rfl 1 rfl ?_
              exact j_lreturn C rfl rfl dX4_fitted_67
            · rcases (show (wI (st a 0) < 0 ∨ 4 < wI (st a 0)) ∨ wI (st a 0) = 3 from by omega) with hc | hc
              · exact j_tabOut (pc := 4) (tgt := 66) C dX4_fitted_4 hc rfl jn
              · exact j_tabIn (pc := 4) (tgt := 66) C dX4_fitted_4 hc (by decide) (by decide) rfl rfl jn)
def X0_clear (st : PS) : Option PS := zlet (zu st 180 0 0) (fun s1 => some s1)
set_option maxHeartbeats 4000000 in
set_option maxRecDepth 100000 in
theorem X0_clear_m (l : Launch) {G : GD} (hj : zInj sC G) {st : PS} {r : PS} (hr : X0_clear st = some r) : zM l sC G yX0_clear cX0_clear 1 none 0 [.ref (G.2.2.1 180)] st none r :=
  zEnter (f := fV) hr hj (by decide) rfl (lv := [(0, .ref (G.2.2.1 180))]) rfl (Nat.le_of_ble_eq_true rfl) (fun X _ hN C => by
    unfold X0_clear
    refine j_aload_n (pc := 0) C dX0_clear_0 rfl 0 rfl ?_
    refine j_iconst (pc := 1) C dX0_clear_1 ?_
    refine fp_X0_15 (pc := 2) C dX0_clear_2 ?_
    refine j_let (fun s1 => ?_)
    exact j_return C rfl rfl dX0_clear_5)
def X0_choose (st : PS) (l1 l2 l3 : Int) : Option PS := zlet (zu st 180 2 l1) (fun s1 => zlet (zu s1 180 3 l2) (fun s2 => zlet (zu s2 180 4 l3) (fun s3 => some s3)))
set_option maxHeartbeats 4000000 in
set_option maxRecDepth 100000 in
theorem X0_choose_m (l : Launch) {G : GD} (hj : zInj sC G) {st : PS} {l1 l2 l3 : Int} {r : PS} (hr : X0_choose st l1 l2 l3 = some r) : zM l sC G yX0_choose cX0_choose 4 none 0 [.ref (G.2.2.1 180), .int (oI l1), .int (oI l2), .int (oI l3)] st none r :=
  zEnter (f := fV) hr hj (by decide) rfl (lv := [(0, .ref (G.2.2.1 180)), (1, .int (oI l1)), (2, .int (oI l2)), (3, .int (oI l3))]) rfl (Nat.le_of_ble_eq_true rfl) (fun X _ hN C => by
    unfold X0_choose
    refine j_aload_n (pc := 0) C dX0_choose_0 rfl 0 rfl ?_
    refine j_iload_n (pc := 1) C dX0_choose_1 rfl 1 rfl ?_
    refine fp_X0_19 (pc := 2) C dX0_choose_2 ?_
    refine j_let (fun s1 => ?_)
    refine j_aload_n (pc := 5) C dX0_choose_5 rfl 0 rfl ?_
    refine j_iload_n (pc := 6) C dX0_choose_6 rfl 2 rfl ?_
    refine fp_X0_22 (pc := 7) C dX0_choose_7 ?_
    refine j_let (fun s2 => ?_)
    refine j_aload_n (pc := 10) C dX0_choose_10 rfl 0 rfl ?_
    refine j_iload_n (pc := 11) C dX0_choose_11 rfl 3 rfl ?_
    refine fp_X0_25 (pc := 12) C dX0_choose_12 ?_
    refine j_let (fun s3 => ?_)
    exact j_return C rfl rfl dX0_choose_15)
def X0_begin (st : PS) (l1 : Int) : Option PS := if wI 20 ≤ wI (st 180 0) then zlet (zu st 180 0 ((st 180 0) + 1)) (fun s2 => some s2) else (bI (zwr st 181 20 (st 180 0) l1) (fun s3 => zlet (zu s3 180 0 ((s3 180 0) + 1)) (fun s4 => some s4)))
set_option maxHeartbeats 4000000 in
set_option maxRecDepth 100000 in
theorem X0_begin_m (l : Launch) {G : GD} (hj : zInj sC G) {st : PS} {l1 : Int} {r : PS} (hr : X0_begin st l1 = some r) : zM l sC G yX0_begin cX0_begin 2 none 0 [.ref (G.2.2.1 180), .int (oI l1)] st none r :=
  zEnter (f := fV) hr hj (by decide) rfl (lv := [(0, .ref (G.2.2.1 180)), (1, .int (oI l1))]) rfl (Nat.le_of_ble_eq_true rfl) (fun X _ hN C => by
    unfold X0_begin
    refine j_aload_n (pc := 0) C dX0_begin_0 rfl 0 rfl ?_
    refine gf_X0_15 (pc := 1) C dX0_begin_1 ?_
    refine j_bipush (pc := 4) C dX0_begin_4 (by decide) ?_
    refine j_icmp_ge (pc := 6) (tgt := 19) C dX0_begin_6 rfl ?_ ?_
    · refine j_aload_n (pc := 19) C dX0_begin_19 rfl 0 rfl ?_
      refine j_dup (pc := 20) C dX0_begin_20 rfl ?_
      refine gf_X0_15 (pc := 21) C dX0_begin_21 ?_
      refine j_iconst (pc := 24) C dX0_begin_24 ?_
      refine j_iadd (pc := 25) C dX0_begin_25 ?_
      refine fp_X0_15 (pc := 26) C dX0_begin_26 ?_
      refine j_let (fun s2 => ?_)
      exact j_return C rfl rfl dX0_begin_29
    · refine j_aload_n (pc := 9) C dX0_begin_9 rfl 0 rfl ?_
      refine gf_X0_9 (pc := 10) C dX0_begin_10 ?_
      refine j_aload_n (pc := 13) C dX0_begin_13 rfl 0 rfl ?_
      refine gf_X0_15 (pc := 14) C dX0_begin_14 ?_
      refine j_iload_n (pc := 17) C dX0_begin_17 rfl 1 rfl ?_
      refine j_bI (fun s3 es3 => ?_)
      refine j_iast (pc := 18) C arX0_1 es3 dX0_begin_18 ?_
      refine j_aload_n (pc := 19) C dX0_begin_19 rfl 0 rfl ?_
      refine j_dup (pc := 20) C dX0_begin_20 rfl ?_
      refine gf_X0_15 (pc := 21) C dX0_begin_21 ?_
      refine j_iconst (pc := 24) C dX0_begin_24 ?_
      refine j_iadd (pc := 25) C dX0_begin_25 ?_
      refine fp_X0_15 (pc := 26) C dX0_begin_26 ?_
      refine j_let (fun s4 => ?_)
      exact j_return C rfl rfl dX0_begin_29)
