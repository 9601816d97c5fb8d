def wX6 (g : KG) (h0 : Nat) (u : Nat → Nat) : va_W := [(h0, .inr (6, [.ref (u 0), .ref (u 9), .ref (u 18), .ref (u 27), .ref (u 31), .int 0, .ref (u 35), .ref (u 43), .int 0, .ref (u 44), .ref (u 46), .ref (u 47), .ref (u 48)])), ((u 95), .inr (4, [.int (-1), .int 0, .ref (u 96)])), ((u 96), .inl (g.2.1 3, 60, .inr (.inl (fun _ => 0)))), ((u 93), .inr (4, [.int (-1), .int 0, .ref (u 94)])), ((u 94), .inl (g.2.1 3, 60, .inr (.inl (fun _ => 0)))), ((u 91), .inr (4, [.int (-1), .int 0, .ref (u 92)])), ((u 92), .inl (g.2.1 3, 60, .inr (.inl (fun _ => 0)))), ((u 89), .inr (4, [.int (-1), .int 0, .ref (u 90)])), ((u 90), .inl (g.2.1 3, 60, .inr (.inl (fun _ => 0)))), ((u 87), .inr (4, [.int (-1), .int 0, .ref (u 88)])), ((u 88), .inl (g.2.1 3, 60, .inr (.inl (fun _ => 0)))), ((u 85), .inr (4, [.int (-1), .int 0, .ref (u 86)])), ((u 86), .inl (g.2.1 3, 60, .inr (.inl (fun _ => 0)))), ((u 79), .inr (2, [.int 0, .int 0, .ref (u 80), .ref (u 81), .int 0, .ref (u 82), .ref (u 83), .ref (u 84)])), ((u 84), .inl (g.2.1 0, 100, .inl (fun _ => 0))), ((u 83), .inl (g.2.1 0, 100, .inl (fun _ => 0))), ((u 82), .inl (g.2.1 0, 100, .inl (fun _ => 0))), ((u 81), .inl (g.2.1 0, 10, .inl (fun _ => 0))), ((u 80), .inl (g.2.1 0, 10, .inl (fun _ => 0))), ((u 73), .inr (2, [.int 0, .int 0, .ref (u 74), .ref (u 75), .int 0, .ref (u 76), .ref (u 77), .ref (u 78)])), ((u 78), .inl (g.2.1 0, 100, .inl (fun _ => 0))), ((u 77), .inl (g.2.1 0, 100, .inl (fun _ => 0))), ((u 76), .inl (g.2.1 0, 100, .inl (fun _ => 0))), ((u 75), .inl (g.2.1 0, 10, .inl (fun _ => 0))), ((u 74), .inl (g.2.1 0, 10, .inl (fun _ => 0))), ((u 67), .inr (2, [.int 0, .int 0, .ref (u 68), .ref (u 69), .int 0, .ref (u 70), .ref (u 71), .ref (u 72)])), ((u 72), .inl (g.2.1 0, 100, .inl (fun _ => 0))), ((u 71), .inl (g.2.1 0, 100, .inl (fun _ => 0))), ((u 70), .inl (g.2.1 0, 100, .inl (fun _ => 0))), ((u 69), .inl (g.2.1 0, 10, .inl (fun _ => 0))), ((u 68), .inl (g.2.1 0, 10, .inl (fun _ => 0))), ((u 61), .inr (2, [.int 0, .int 0, .ref (u 62), .ref (u 63), .int 0, .ref (u 64), .ref (u 65), .ref (u 66)])), ((u 66), .inl (g.2.1 0, 100, .inl (fun _ => 0))), ((u 65), .inl (g.2.1 0, 100, .inl (fun _ => 0))), ((u 64), .inl (g.2.1 0, 100, .inl (fun _ => 0))), ((u 63), .inl (g.2.1 0, 10, .inl (fun _ => 0))), ((u 62), .inl (g.2.1 0, 10, .inl (fun _ => 0))), ((u 55), .inr (2, [.int 0, .int 0, .ref (u 56), .ref (u 57), .int 0, .ref (u 58), .ref (u 59), .ref (u 60)])), ((u 60), .inl (g.2.1 0, 100, .inl (fun _ => 0))), ((u 59), .inl (g.2.1 0, 100, .inl (fun _ => 0))), ((u 58), .inl (g.2.1 0, 100, .inl (fun _ => 0))), ((u 57), .inl (g.2.1 0, 10, .inl (fun _ => 0))), ((u 56), .inl (g.2.1 0, 10, .inl (fun _ => 0))), ((u 49), .inr (2, [.int 0, .int 0, .ref (u 50), .ref (u 51), .int 0, .ref (u 52), .ref (u 53), .ref (u 54)])), ((u 54), .inl (g.2.1 0, 100, .inl (fun _ => 0))), ((u 53), .inl (g.2.1 0, 100, .inl (fun _ => 0))), ((u 52), .inl (g.2.1 0, 100, .inl (fun _ => 0))), ((u 51), .inl (g.2.1 0, 10, .inl (fun _ => 0))), ((u 50), .inl (g.2.1 0, 10, .inl (fun _ => 0))), ((u 48), .inl (g.2.1 0, 7, .inl (fun _ => 0))), ((u 47), .inl (g.2.1 0, 7, .inl (fun _ => 0))), ((u 46), .inl (g.2.1 5, 6, .inr (.inr (.inr (.inr (va_up (va_up (va_up (va_up (va_up (va_up (fun _ => none) (0 : Int32).toNatClampNeg (some (u 85))) (1 : Int32).toNatClampNeg (some (u 87))) (2 : Int32).toNatClampNeg (some (u 89))) (3 : Int32).toNatClampNeg (some (u 91))) (4 : Int32).toNatClampNeg (some (u 93))) (5 : Int32).toNatClampNeg (some (u 95)))))))), ((u 44), .inr (0, [.int 0, .ref (u 45), .int 0, .int 0, .int 0])), ((u 45), .inl (g.2.1 0, 20, .inl (fun _ => 0))), ((u 43), .inl (g.2.1 4, 6, .inr (.inr (.inr (.inr (va_up (va_up (va_up (va_up (va_up (va_up (fun _ => none) (0 : Int32).toNatClampNeg (some (u 49))) (1 : Int32).toNatClampNeg (some (u 55))) (2 : Int32).toNatClampNeg (some (u 61))) (3 : Int32).toNatClampNeg (some (u 67))) (4 : Int32).toNatClampNeg (some (u 73))) (5 : Int32).toNatClampNeg (some (u 79)))))))), ((u 35), .inr (3, [.int 0, .ref (u 36), .ref (u 42), .int 0])), ((u 42), .inl (g.2.1 1, 100, .inl (fun _ => 0))), ((u 36), .inr (2, [.int 0, .int 0, .ref (u 37), .ref (u 38), .int 0, .ref (u 39), .ref (u 40), .ref (u 41)])), ((u 41), .inl (g.2.1 0, 100, .inl (fun _ => 0))), ((u 40), .inl (g.2.1 0, 100, .inl (fun _ => 0))), ((u 39), .inl (g.2.1 0, 100, .inl (fun _ => 0))), ((u 38), .inl (g.2.1 0, 10, .inl (fun _ => 0))), ((u 37), .inl (g.2.1 0, 10, .inl (fun _ => 0))), ((u 31), .inr (1, [.int 0, .ref (u 32), .ref (u 33), .int 0, .ref (u 34)])), ((u 34), .inl (g.2.1 0, 12, .inl (fun _ => 0))), ((u 33), .inl (g.2.1 0, 8, .inl (fun _ => 0))), ((u 32), .inl (g.2.1 0, 8, .inl (fun _ => 0))), ((u 27), .inr (1, [.int 0, .ref (u 28), .ref (u 29), .int 0, .ref (u 30)])), ((u 30), .inl (g.2.1 0, 12, .inl (fun _ => 0))), ((u 29), .inl (g.2.1 0, 8, .inl (fun _ => 0))), ((u 28), .inl (g.2.1 0, 8, .inl (fun _ => 0))), ((u 18), .inr (5, [.int 0, .int 0, .null, .ref (u 19), .ref (u 20), .ref (u 21), .ref (u 22), .ref (u 23), .ref (u 24), .ref (u 25), .int 0, .ref (u 26)])), ((u 26), .inl (g.2.1 0, 6, .inl (fun _ => 0))), ((u 25), .inl (g.2.1 0, 5, .inl (fun _ => 0))), ((u 24), .inl (g.2.1 0, 7, .inl (fun _ => 0))), ((u 23), .inl (g.2.1 0, 7, .inl (fun _ => 0))), ((u 22), .inl (g.2.1 0, 28, .inl (fun _ => 0))), ((u 21), .inl (g.2.1 0, 7, .inl (fun _ => 0))), ((u 20), .inl (g.2.1 0, 7, .inl (fun _ => 0))), ((u 19), .inl (g.2.1 0, 7, .inl (fun _ => 0))), ((u 9), .inr (5, [.int 0, .int 0, .null, .ref (u 10), .ref (u 11), .ref (u 12), .ref (u 13), .ref (u 14), .ref (u 15), .ref (u 16), .int 0, .ref (u 17)])), ((u 17), .inl (g.2.1 0, 6, .inl (fun _ => 0))), ((u 16), .inl (g.2.1 0, 5, .inl (fun _ => 0))), ((u 15), .inl (g.2.1 0, 7, .inl (fun _ => 0))), ((u 14), .inl (g.2.1 0, 7, .inl (fun _ => 0))), ((u 13), .inl (g.2.1 0, 28, .inl (fun _ => 0))), ((u 12), .inl (g.2.1 0, 7, .inl (fun _ => 0))), ((u 11), .inl (g.2.1 0, 7, .inl (fun _ => 0))), ((u 10), .inl (g.2.1 0, 7, .inl (fun _ => 0))), ((u 0), .inr (5, [.int 0, .int 0, .null, .ref (u 1), .ref (u 2), .ref (u 3), .ref (u 4), .ref (u 5), .ref (u 6), .ref (u 7), .int 0, .ref (u 8)])), ((u 8), .inl (g.2.1 0, 6, .inl (fun _ => 0))), ((u 7), .inl (g.2.1 0, 5, .inl (fun _ => 0))), ((u 6), .inl (g.2.1 0, 7, .inl (fun _ => 0))), ((u 5), .inl (g.2.1 0, 7, .inl (fun _ => 0))), ((u 4), .inl (g.2.1 0, 28, .inl (fun _ => 0))), ((u 3), .inl (g.2.1 0, 7, .inl (fun _ => 0))), ((u 2), .inl (g.2.1 0, 7, .inl (fun _ => 0))), ((u 1), .inl (g.2.1 0, 7, .inl (fun _ => 0)))]
set_option maxHeartbeats 8000000 in
set_option maxRecDepth 100000 in
theorem X6_init_k (l : Launch) {g : KG} {h0 sz : Nat} : kM l g yX6_init cX6_init 2 4 h0 6 [.null, .null, .null, .null, .null, .int 0, .null, .null, .int 0, .null, .null, .null, .null] sz (wX6 g h0) [3, 3, 3, 3, 3, 3, 0, 0, 0, 0, 0, 0, 0, 0, 0, 0, 0, 0, 0, 0, 0, 0, 0, 0, 0, 0, 0, 0, 0, 0, 0, 0, 0, 0, 0, 0, 0, 0, 5, 0, 4, 1, 0, 0, 0, 0, 0, 0, 0, 0, 0, 0, 0, 0, 0, 0, 0, 0, 0, 0, 0, 0, 0, 0, 0, 0, 0, 0, 0, 0, 0, 0, 0, 0, 0, 0, 0] 97 3153 :=
  kEnter (by decide) rfl rfl (by decide) (fun Y A Q _ hN C hend => by
    refine v_aload_n (pc := 0) C dX6_init_0 rfl 0 rfl ?_
    refine v_obj (pc := 1) C ⟨(zT_of (i := 116) (by decide +kernel) rfl), (zT_of (i := 117) (by decide +kernel) rfl), (zT_of (i := 118) (by decide +kernel) rfl)⟩ (Nat.le_of_ble_eq_true rfl) dX6_init_1 ?_
    refine v_aload_n (pc := 4) C dX6_init_4 rfl 0 rfl ?_
    refine v_new (pc := 5) (ci := 5) (fs := [.int 0, .int 0, .null, .null, .null, .null, .null, .null, .null, .null, .int 0, .null]) C ⟨(zT_of (i := 119) (by decide +kernel) rfl), (zT_of (i := 120) (by decide +kernel) rfl), (zT_of (i := 97) (by decide +kernel) rfl)⟩ rfl inX5 tyX5 tyX5_ok (by decide) (Nat.le_of_ble_eq_true rfl) (Nat.le_of_ble_eq_true rfl) dX6_init_5 (fun q0 => ?_)
    refine v_dup (pc := 8) C dX6_init_8 rfl ?_
    refine v_ctorN (pc := 9) C (fun _ => X5_init_k _) ⟨⟨(zT_of (i := 122) (by decide +kernel) rfl), (zT_of (i := 97) (by decide +kernel) rfl), (zT_of (i := 123) (by decide +kernel) rfl)⟩, ⟨by decide +kernel, by decide +kernel, by decide +kernel⟩, by decide, rfl⟩ (fun _ h => h.1.1) (by decide) (Nat.le_of_ble_eq_true rfl) (Nat.le_of_ble_eq_true rfl) (Nat.le_of_ble_eq_true rfl) dX6_init_9 (fun u => ?_)
    obtain ⟨q1, q2, q3, q4, q5, q6, q7, q8⟩ := u
    refine v_putF (ci := 6) (fs := [.null, .null, .null, .null, .null, .int 0, .null, .null, .int 0, .null, .null, .null, .null]) (pc := 12) (v := .ref q0) (ty := .object "MiddleThree$Town") C rfl inX6 tyX6 tyX6_ok nmX6 0 (by decide) (zT_of (i := 313) (by decide +kernel) rfl) rfl rfl (by decide +kernel) rfl rfl (Nat.le_of_ble_eq_true rfl) dX6_init_12 ?_
    refine v_aload_n (pc := 15) C dX6_init_15 rfl 0 rfl ?_
    refine v_new (pc := 16) (ci := 5) (fs := [.int 0, .int 0, .null, .null, .null, .null, .null, .null, .null, .null, .int 0, .null]) C ⟨(zT_of (i := 119) (by decide +kernel) rfl), (zT_of (i := 120) (by decide +kernel) rfl), (zT_of (i := 97) (by decide +kernel) rfl)⟩ rfl inX5 tyX5 tyX5_ok (by decide) (Nat.le_of_ble_eq_true rfl) (Nat.le_of_ble_eq_true rfl) dX6_init_16 (fun q9 => ?_)
    refine v_dup (pc := 19) C dX6_init_19 rfl ?_
    refine v_ctorN (pc := 20) C (fun _ => X5_init_k _) ⟨⟨(zT_of (i := 122) (by decide +kernel) rfl), (zT_of (i := 97) (by decide +kernel) rfl), (zT_of (i := 123) (by decide +kernel) rfl)⟩, ⟨by decide +kernel, by decide +kernel, by decide +kernel⟩, by decide, rfl⟩ (fun _ h => h.1.1) (by decide) (Nat.le_of_ble_eq_true rfl) (Nat.le_of_ble_eq_true rfl) (Nat.le_of_ble_eq_true rfl) dX6_init_20 (fun u => ?_)
    obtain ⟨q10, q11, q12, q13, q14, q15, q16, q17⟩ := u
    refine v_putF (ci := 6) (fs := [.ref q0, .null, .null, .null, .null, .int 0, .null, .null, .int 0, .null, .null, .null, .null]) (pc := 23) (v := .ref q9) (ty := .object "MiddleThree$Town") C rfl inX6 tyX6 tyX6_ok nmX6 1 (by decide) (zT_of (i := 314) (by decide +kernel) rfl) rfl rfl (by decide +kernel) rfl rfl (Nat.le_of_ble_eq_true rfl) dX6_init_23 ?_
    refine v_aload_n (pc := 26) C dX6_init_26 rfl 0 rfl ?_
    refine v_new (pc := 27) (ci := 5) (fs := [.int 0, .int 0, .null, .null, .null, .null, .null, .null, .null, .null, .int 0, .null]) C ⟨(zT_of (i := 119) (by decide +kernel) rfl), (zT_of (i := 120) (by decide +kernel) rfl), (zT_of (i := 97) (by decide +kernel) rfl)⟩ rfl inX5 tyX5 tyX5_ok (by decide) (Nat.le_of_ble_eq_true rfl) (Nat.le_of_ble_eq_true rfl) dX6_init_27 (fun q18 => ?_)
    refine v_dup (pc := 30) C dX6_init_30 rfl ?_
    refine v_ctorN (pc := 31) C (fun _ => X5_init_k _) ⟨⟨(zT_of (i := 122) (by decide +kernel) rfl), (zT_of (i := 97) (by decide +kernel) rfl), (zT_of (i := 123) (by decide +kernel) rfl)⟩, ⟨by decide +kernel, by decide +kernel, by decide +kernel⟩, by decide, rfl⟩ (fun _ h => h.1.1) (by decide) (Nat.le_of_ble_eq_true rfl) (Nat.le_of_ble_eq_true rfl) (Nat.le_of_ble_eq_true rfl) dX6_init_31 (fun u => ?_)
    obtain ⟨q19, q20, q21, q22, q23, q24, q25, q26⟩ := u
    refine v_putF (ci := 6) (fs := [.ref q0, .ref q9, .null, .null, .null, .int 0, .null, .null, .int 0, .null, .null, .null, .null]) (pc := 34) (v := .ref q18) (ty := .object "MiddleThree$Town") C rfl inX6 tyX6 tyX6_ok nmX6 2 (by decide) (zT_of (i := 315) (by decide +kernel) rfl) rfl rfl (by decide +kernel) rfl rfl (Nat.le_of_ble_eq_true rfl) dX6_init_34 ?_
    refine v_aload_n (pc := 37) C dX6_init_37 rfl 0 rfl ?_
    refine v_new (pc := 38) (ci := 1) (fs := [.int 0, .null, .null, .int 0, .null]) C ⟨(zT_of (i := 184) (by decide +kernel) rfl), (zT_of (i := 185) (by decide +kernel) rfl), (zT_of (i := 99) (by decide +kernel) rfl)⟩ rfl inX1 tyX1 tyX1_ok (by decide) (Nat.le_of_ble_eq_true rfl) (Nat.le_of_ble_eq_true rfl) dX6_init_38 (fun q27 => ?_)
    refine v_dup (pc := 41) C dX6_init_41 rfl ?_
    refine v_ctorN (pc := 42) C (fun _ => X1_init_k _) ⟨⟨(zT_of (i := 187) (by decide +kernel) rfl), (zT_of (i := 99) (by decide +kernel) rfl), (zT_of (i := 188) (by decide +kernel) rfl)⟩, ⟨by decide +kernel, by decide +kernel, by decide +kernel⟩, by decide, rfl⟩ (fun _ h => h.1.2.1) (by decide) (Nat.le_of_ble_eq_true rfl) (Nat.le_of_ble_eq_true rfl) (Nat.le_of_ble_eq_true rfl) dX6_init_42 (fun u => ?_)
    obtain ⟨q28, q29, q30⟩ := u
    refine v_putF (ci := 6) (fs := [.ref q0, .ref q9, .ref q18, .null, .null, .int 0, .null, .null, .int 0, .null, .null, .null, .null]) (pc := 45) (v := .ref q27) (ty := .object "MiddleThree$Notes") C rfl inX6 tyX6 tyX6_ok nmX6 3 (by decide) (zT_of (i := 316) (by decide +kernel) rfl) rfl rfl (by decide +kernel) rfl rfl (Nat.le_of_ble_eq_true rfl) dX6_init_45 ?_
    refine v_aload_n (pc := 48) C dX6_init_48 rfl 0 rfl ?_
    refine v_new (pc := 49) (ci := 1) (fs := [.int 0, .null, .null, .int 0, .null]) C ⟨(zT_of (i := 184) (by decide +kernel) rfl), (zT_of (i := 185) (by decide +kernel) rfl), (zT_of (i := 99) (by decide +kernel) rfl)⟩ rfl inX1 tyX1 tyX1_ok (by decide) (Nat.le_of_ble_eq_true rfl) (Nat.le_of_ble_eq_true rfl) dX6_init_49 (fun q31 => ?_)
    refine v_dup (pc := 52) C dX6_init_52 rfl ?_
    refine v_ctorN (pc := 53) C (fun _ => X1_init_k _) ⟨⟨(zT_of (i := 187) (by decide +kernel) rfl), (zT_of (i := 99) (by decide +kernel) rfl), (zT_of (i := 188) (by decide +kernel) rfl)⟩, ⟨by decide +kernel, by decide +kernel, by decide +kernel⟩, by decide, rfl⟩ (fun _ h => h.1.2.1) (by decide) (Nat.le_of_ble_eq_true rfl) (Nat.le_of_ble_eq_true rfl) (Nat.le_of_ble_eq_true rfl) dX6_init_53 (fun u => ?_)
    obtain ⟨q32, q33, q34⟩ := u
    refine v_putF (ci := 6) (fs := [.ref q0, .ref q9, .ref q18, .ref q27, .null, .int 0, .null, .null, .int 0, .null, .null, .null, .null]) (pc := 56) (v := .ref q31) (ty := .object "MiddleThree$Notes") C rfl inX6 tyX6 tyX6_ok nmX6 4 (by decide) (zT_of (i := 317) (by decide +kernel) rfl) rfl rfl (by decide +kernel) rfl rfl (Nat.le_of_ble_eq_true rfl) dX6_init_56 ?_
    refine v_aload_n (pc := 59) C dX6_init_59 rfl 0 rfl ?_
    refine v_new (pc := 60) (ci := 3) (fs := [.int 0, .null, .null, .int 0]) C ⟨(zT_of (i := 211) (by decide +kernel) rfl), (zT_of (i := 212) (by decide +kernel) rfl), (zT_of (i := 100) (by decide +kernel) rfl)⟩ rfl inX3 tyX3 tyX3_ok (by decide) (Nat.le_of_ble_eq_true rfl) (Nat.le_of_ble_eq_true rfl) dX6_init_60 (fun q35 => ?_)
    refine v_dup (pc := 63) C dX6_init_63 rfl ?_
    refine v_ctorN (pc := 64) C (fun _ => X3_init_k _) ⟨⟨(zT_of (i := 214) (by decide +kernel) rfl), (zT_of (i := 100) (by decide +kernel) rfl), (zT_of (i := 215) (by decide +kernel) rfl)⟩, ⟨by decide +kernel, by decide +kernel, by decide +kernel⟩, by decide, rfl⟩ (fun _ h => h.1.2.2.1) (by decide) (Nat.le_of_ble_eq_true rfl) (Nat.le_of_ble_eq_true rfl) (Nat.le_of_ble_eq_true rfl) dX6_init_64 (fun u => ?_)
    obtain ⟨q36, q37, q38, q39, q40, q41, q42⟩ := u
    refine v_putF (ci := 6) (fs := [.ref q0, .ref q9, .ref q18, .ref q27, .ref q31, .int 0, .null, .null, .int 0, .null, .null, .null, .null]) (pc := 67) (v := .ref q35) (ty := .object "MiddleThree$StreetReader") C rfl inX6 tyX6 tyX6_ok nmX6 6 (by decide) (zT_of (i := 319) (by decide +kernel) rfl) rfl rfl (by decide +kernel) rfl rfl (Nat.le_of_ble_eq_true rfl) dX6_init_67 ?_
    refine v_aload_n (pc := 70) C dX6_init_70 rfl 0 rfl ?_
    refine v_bipush (v := 6) (pc := 71) C dX6_init_71 (by decide) ?_
    refine v_newq (Cn := "MiddleThree$Street") (pc := 73) (t := 4) (N' := 6) C (zT_of (i := 265) (by decide +kernel) rfl) zao2 rfl (by decide) (by decide) (Nat.le_of_ble_eq_true rfl) (Nat.le_of_ble_eq_true rfl) (Nat.le_of_ble_eq_true rfl) dX6_init_73 (fun q43 => ?_)
    refine v_putF (ci := 6) (fs := [.ref q0, .ref q9, .ref q18, .ref q27, .ref q31, .int 0, .ref q35, .null, .int 0, .null, .null, .null, .null]) (pc := 76) (v := .ref q43) (ty := .array (.object "MiddleThree$Street")) C rfl inX6 tyX6 tyX6_ok nmX6 7 (by decide) (zT_of (i := 320) (by decide +kernel) rfl) rfl rfl (by decide +kernel) rfl rfl (Nat.le_of_ble_eq_true rfl) dX6_init_76 ?_
    refine v_aload_n (pc := 79) C dX6_init_79 rfl 0 rfl ?_
    refine v_new (pc := 80) (ci := 0) (fs := [.int 0, .null, .int 0, .int 0, .int 0]) C ⟨(zT_of (i := 267) (by decide +kernel) rfl), (zT_of (i := 268) (by decide +kernel) rfl), (zT_of (i := 102) (by decide +kernel) rfl)⟩ rfl inX0 tyX0 tyX0_ok (by decide) (Nat.le_of_ble_eq_true rfl) (Nat.le_of_ble_eq_true rfl) dX6_init_80 (fun q44 => ?_)
    refine v_dup (pc := 83) C dX6_init_83 rfl ?_
    refine v_ctorN (pc := 84) C (fun _ => X0_init_k _) ⟨⟨(zT_of (i := 270) (by decide +kernel) rfl), (zT_of (i := 102) (by decide +kernel) rfl), (zT_of (i := 271) (by decide +kernel) rfl)⟩, ⟨by decide +kernel, by decide +kernel, by decide +kernel⟩, by decide, rfl⟩ (fun _ h => h.1.2.2.2.1) (by decide) (Nat.le_of_ble_eq_true rfl) (Nat.le_of_ble_eq_true rfl) (Nat.le_of_ble_eq_true rfl) dX6_init_84 (fun q45 => ?_)
    refine v_putF (ci := 6) (fs := [.ref q0, .ref q9, .ref q18, .ref q27, .ref q31, .int 0, .ref q35, .ref q43, .int 0, .null, .null, .null, .null]) (pc := 87) (v := .ref q44) (ty := .object "MiddleThree$Acts") C rfl inX6 tyX6 tyX6_ok nmX6 9 (by decide) (zT_of (i := 322) (by decide +kernel) rfl) rfl rfl (by decide +kernel) rfl rfl (Nat.le_of_ble_eq_true rfl) dX6_init_87 ?_
    refine v_aload_n (pc := 90) C dX6_init_90 rfl 0 rfl ?_
    refine v_bipush (v := 6) (pc := 91) C dX6_init_91 (by decide) ?_
    refine v_newq (Cn := "MiddleThree$Tape") (pc := 93) (t := 5) (N' := 6) C (zT_of (i := 291) (by decide +kernel) rfl) zao4 rfl (by decide) (by decide) (Nat.le_of_ble_eq_true rfl) (Nat.le_of_ble_eq_true rfl) (Nat.le_of_ble_eq_true rfl) dX6_init_93 (fun q46 => ?_)
    refine v_putF (ci := 6) (fs := [.ref q0, .ref q9, .ref q18, .ref q27, .ref q31, .int 0, .ref q35, .ref q43, .int 0, .ref q44, .null, .null, .null]) (pc := 96) (v := .ref q46) (ty := .array (.object "MiddleThree$Tape")) C rfl inX6 tyX6 tyX6_ok nmX6 10 (by decide) (zT_of (i := 323) (by decide +kernel) rfl) rfl rfl (by decide +kernel) rfl rfl (Nat.le_of_ble_eq_true rfl) dX6_init_96 ?_
    refine v_aload_n (pc := 99) C dX6_init_99 rfl 0 rfl ?_
    refine v_bipush (v := 7) (pc := 100) C dX6_init_100 (by decide) ?_
    refine v_newa (at_ := .int) (ty := .int) (pc := 102) (t := 0) (N' := 7) (a0 := (7, .inl (fun _ => 0))) C (zT_of (i := 182) (by decide +kernel) rfl) rfl rfl (fun _ => rfl) (by decide) (by decide) (Nat.le_of_ble_eq_true rfl) (Nat.le_of_ble_eq_true rfl) (Nat.le_of_ble_eq_true rfl) dX6_init_102 (fun q47 => ?_)
    refine v_putF (ci := 6) (fs := [.ref q0, .ref q9, .ref q18, .ref q27, .ref q31, .int 0, .ref q35, .ref q43, .int 0, .ref q44, .ref q46, .null, .null]) (pc := 104) (v := .ref q47) (ty := .array .int) C rfl inX6 tyX6 tyX6_ok nmX6 11 (by decide) (zT_of (i := 324) (by decide +kernel) rfl) rfl rfl (by decide +kernel) rfl rfl (Nat.le_of_ble_eq_true rfl) dX6_init_104 ?_
    refine v_aload_n (pc := 107) C dX6_init_107 rfl 0 rfl ?_
    refine v_bipush (v := 7) (pc := 108) C dX6_init_108 (by decide) ?_
    refine v_newa (at_ := .int) (ty := .int) (pc := 110) (t := 0) (N' := 7) (a0 := (7, .inl (fun _ => 0))) C (zT_of (i := 182) (by decide +kernel) rfl) rfl rfl (fun _ => rfl) (by decide) (by decide) (Nat.le_of_ble_eq_true rfl) (Nat.le_of_ble_eq_true rfl) (Nat.le_of_ble_eq_true rfl) dX6_init_110 (fun q48 => ?_)
    refine v_putF (ci := 6) (fs := [.ref q0, .ref q9, .ref q18, .ref q27, .ref q31, .int 0, .ref q35, .ref q43, .int 0, .ref q44, .ref q46, .ref q47, .null]) (pc := 112) (v := .ref q48) (ty := .array .int) C rfl inX6 tyX6 tyX6_ok nmX6 12 (by decide) (zT_of (i := 325) (by decide +kernel) rfl) rfl rfl (by decide +kernel) rfl rfl (Nat.le_of_ble_eq_true rfl) dX6_init_112 ?_
    refine v_iconst (v := 0) (pc := 115) C dX6_init_115 (by decide) ?_
    refine v_istore_n (pc := 116) C hN dX6_init_116 rfl (by decide) (lv' := [(1, .int 0), (0, .ref h0)]) rfl ?_
    refine v_iload_n (pc := 117) C dX6_init_117 rfl 0 rfl ?_
    refine v_bipush (v := 6) (pc := 118) C dX6_init_118 (by decide) ?_
    refine v_geF (pc := 120) (tgt := 142) C dX6_init_120 rfl (by decide) ?_
    refine v_aload_n (pc := 123) C dX6_init_123 rfl 1 rfl ?_
    refine v_get (pc := 124) C rfl inX6 7 (by decide) (zT_of (i := 320) (by decide +kernel) rfl) rfl rfl dX6_init_124 ?_
    refine v_iload_n (pc := 127) C dX6_init_127 rfl 0 rfl ?_
    refine v_new (pc := 128) (ci := 2) (fs := [.int 0, .int 0, .null, .null, .int 0, .null, .null, .null]) C ⟨(zT_of (i := 265) (by decide +kernel) rfl), (zT_of (i := 218) (by decide +kernel) rfl), (zT_of (i := 101) (by decide +kernel) rfl)⟩ rfl inX2 tyX2 tyX2_ok (by decide) (Nat.le_of_ble_eq_true rfl) (Nat.le_of_ble_eq_true rfl) dX6_init_128 (fun q49 => ?_)
    refine v_dup (pc := 131) C dX6_init_131 rfl ?_
    refine v_ctorN (pc := 132) C (fun _ => X2_init_k _) ⟨⟨(zT_of (i := 220) (by decide +kernel) rfl), (zT_of (i := 101) (by decide +kernel) rfl), (zT_of (i := 221) (by decide +kernel) rfl)⟩, ⟨by decide +kernel, by decide +kernel, by decide +kernel⟩, by decide, rfl⟩ (fun _ h => h.1.2.2.2.2.1) (by decide) (Nat.le_of_ble_eq_true rfl) (Nat.le_of_ble_eq_true rfl) (Nat.le_of_ble_eq_true rfl) dX6_init_132 (fun u => ?_)
    obtain ⟨q50, q51, q52, q53, q54⟩ := u
    refine v_aast (pc := 135) C 12 1 rfl rfl rfl rfl (vp_in_iff.mpr (by decide)) dX6_init_135 (by decide) ?_
    refine v_iinc (v := 1) (pc := 136) C hN dX6_init_136 0 rfl (by decide) (by decide) (lv' := [(1, .int 1), (0, .ref h0)]) rfl ?_
    refine v_goto (pc := 139) (tgt := 117) C dX6_init_139 rfl ?_
    refine v_iload_n (pc := 117) C dX6_init_117 rfl 0 rfl ?_
    refine v_bipush (v := 6) (pc := 118) C dX6_init_118 (by decide) ?_
    refine v_geF (pc := 120) (tgt := 142) C dX6_init_120 rfl (by decide) ?_
    refine v_aload_n (pc := 123) C dX6_init_123 rfl 1 rfl ?_
    refine v_get (pc := 124) C rfl inX6 7 (by decide) (zT_of (i := 320) (by decide +kernel) rfl) rfl rfl dX6_init_124 ?_
    refine v_iload_n (pc := 127) C dX6_init_127 rfl 0 rfl ?_
    refine v_new (pc := 128) (ci := 2) (fs := [.int 0, .int 0, .null, .null, .int 0, .null, .null, .null]) C ⟨(zT_of (i := 265) (by decide +kernel) rfl), (zT_of (i := 218) (by decide +kernel) rfl), (zT_of (i := 101) (by decide +kernel) rfl)⟩ rfl inX2 tyX2 tyX2_ok (by decide) (Nat.le_of_ble_eq_true rfl) (Nat.le_of_ble_eq_true rfl) dX6_init_128 (fun q55 => ?_)
    refine v_dup (pc := 131) C dX6_init_131 rfl ?_
    refine v_ctorN (pc := 132) C (fun _ => X2_init_k _) ⟨⟨(zT_of (i := 220) (by decide +kernel) rfl), (zT_of (i := 101) (by decide +kernel) rfl), (zT_of (i := 221) (by decide +kernel) rfl)⟩, ⟨by decide +kernel, by decide +kernel, by decide +kernel⟩, by decide, rfl⟩ (fun _ h => h.1.2.2.2.2.1) (by decide) (Nat.le_of_ble_eq_true rfl) (Nat.le_of_ble_eq_true rfl) (Nat.le_of_ble_eq_true rfl) dX6_init_132 (fun u => ?_)
    obtain ⟨q56, q57, q58, q59, q60⟩ := u
    refine v_aast (pc := 135) C 18 1 rfl rfl rfl rfl (vp_in_iff.mpr (by decide)) dX6_init_135 (by decide) ?_
    refine v_iinc (v := 2) (pc := 136) C hN dX6_init_136 0 rfl (by decide) (by decide) (lv' := [(1, .int 2), (0, .ref h0)]) rfl ?_
    refine v_goto (pc := 139) (tgt := 117) C dX6_init_139 rfl ?_
    refine v_iload_n (pc := 117) C dX6_init_117 rfl 0 rfl ?_
    refine v_bipush (v := 6) (pc := 118) C dX6_init_118 (by decide) ?_
    refine v_geF (pc := 120) (tgt := 142) C dX6_init_120 rfl (by decide) ?_
    refine v_aload_n (pc := 123) C dX6_init_123 rfl 1 rfl ?_
    refine v_get (pc := 124) C rfl inX6 7 (by decide) (zT_of (i := 320) (by decide +kernel) rfl) rfl rfl dX6_init_124 ?_
    refine v_iload_n (pc := 127) C dX6_init_127 rfl 0 rfl ?_
    refine v_new (pc := 128) (ci := 2) (fs := [.int 0, .int 0, .null, .null, .int 0, .null, .null, .null]) C ⟨(zT_of (i := 265) (by decide +kernel) rfl), (zT_of (i := 218) (by decide +kernel) rfl), (zT_of (i := 101) (by decide +kernel) rfl)⟩ rfl inX2 tyX2 tyX2_ok (by decide) (Nat.le_of_ble_eq_true rfl) (Nat.le_of_ble_eq_true rfl) dX6_init_128 (fun q61 => ?_)
    refine v_dup (pc := 131) C dX6_init_131 rfl ?_
    refine v_ctorN (pc := 132) C (fun _ => X2_init_k _) ⟨⟨(zT_of (i := 220) (by decide +kernel) rfl), (zT_of (i := 101) (by decide +kernel) rfl), (zT_of (i := 221) (by decide +kernel) rfl)⟩, ⟨by decide +kernel, by decide +kernel, by decide +kernel⟩, by decide, rfl⟩ (fun _ h => h.1.2.2.2.2.1) (by decide) (Nat.le_of_ble_eq_true rfl) (Nat.le_of_ble_eq_true rfl) (Nat.le_of_ble_eq_true rfl) dX6_init_132 (fun u => ?_)
    obtain ⟨q62, q63, q64, q65, q66⟩ := u
    refine v_aast (pc := 135) C 24 1 rfl rfl rfl rfl (vp_in_iff.mpr (by decide)) dX6_init_135 (by decide) ?_
    refine v_iinc (v := 3) (pc := 136) C hN dX6_init_136 0 rfl (by decide) (by decide) (lv' := [(1, .int 3), (0, .ref h0)]) rfl ?_
    refine v_goto (pc := 139) (tgt := 117) C dX6_init_139 rfl ?_
    refine v_iload_n (pc := 117) C dX6_init_117 rfl 0 rfl ?_
    refine v_bipush (v := 6) (pc := 118) C dX6_init_118 (by decide) ?_
    refine v_geF (pc := 120) (tgt := 142) C dX6_init_120 rfl (by decide) ?_
    refine v_aload_n (pc := 123) C dX6_init_123 rfl 1 rfl ?_
    refine v_get (pc := 124) C rfl inX6 7 (by decide) (zT_of (i := 320) (by decide +kernel) rfl) rfl rfl dX6_init_124 ?_
    refine v_iload_n (pc := 127) C dX6_init_127 rfl 0 rfl ?_
    refine v_new (pc := 128) (ci := 2) (fs := [.int 0, .int 0, .null, .null, .int 0, .null, .null, .null]) C ⟨(zT_of (i := 265) (by decide +kernel) rfl), (zT_of (i := 218) (by decide +kernel) rfl), (zT_of (i := 101) (by decide +kernel) rfl)⟩ rfl inX2 tyX2 tyX2_ok (by decide) (Nat.le_of_ble_eq_true rfl) (Nat.le_of_ble_eq_true rfl) dX6_init_128 (fun q67 => ?_)
    refine v_dup (pc := 131) C dX6_init_131 rfl ?_
    refine v_ctorN (pc := 132) C (fun _ => X2_init_k _) ⟨⟨(zT_of (i := 220) (by decide +kernel) rfl), (zT_of (i := 101) (by decide +kernel) rfl), (zT_of (i := 221) (by decide +kernel) rfl)⟩, ⟨by decide +kernel, by decide +kernel, by decide +kernel⟩, by decide, rfl⟩ (fun _ h => h.1.2.2.2.2.1) (by decide) (Nat.le_of_ble_eq_true rfl) (Nat.le_of_ble_eq_true rfl) (Nat.le_of_ble_eq_true rfl) dX6_init_132 (fun u => ?_)
    obtain ⟨q68, q69, q70, q71, q72⟩ := u
    refine v_aast (pc := 135) C 30 1 rfl rfl rfl rfl (vp_in_iff.mpr (by decide)) dX6_init_135 (by decide) ?_
    refine v_iinc (v := 4) (pc := 136) C hN dX6_init_136 0 rfl (by decide) (by decide) (lv' := [(1, .int 4), (0, .ref h0)]) rfl ?_
    refine v_goto (pc := 139) (tgt := 117) C dX6_init_139 rfl ?_
    refine v_iload_n (pc := 117) C dX6_init_117 rfl 0 rfl ?_
    refine v_bipush (v := 6) (pc := 118) C dX6_init_118 (by decide) ?_
    refine v_geF (pc := 120) (tgt := 142) C dX6_init_120 rfl (by decide) ?_
    refine v_aload_n (pc := 123) C dX6_init_123 rfl 1 rfl ?_
    refine v_get (pc := 124) C rfl inX6 7 (by decide) (zT_of (i := 320) (by decide +kernel) rfl) rfl rfl dX6_init_124 ?_
    refine v_iload_n (pc := 127) C dX6_init_127 rfl 0 rfl ?_
    refine v_new (pc := 128) (ci := 2) (fs := [.int 0, .int 0, .null, .null, .int 0, .null, .null, .null]) C ⟨(zT_of (i := 265) (by decide +kernel) rfl), (zT_of (i := 218) (by decide +kernel) rfl), (zT_of (i := 101) (by decide +kernel) rfl)⟩ rfl inX2 tyX2 tyX2_ok (by decide) (Nat.le_of_ble_eq_true rfl) (Nat.le_of_ble_eq_true rfl) dX6_init_128 (fun q73 => ?_)
    refine v_dup (pc := 131) C dX6_init_131 rfl ?_
    refine v_ctorN (pc := 132) C (fun _ => X2_init_k _) ⟨⟨(zT_of (i := 220) (by decide +kernel) rfl), (zT_of (i := 101) (by decide +kernel) rfl), (zT_of (i := 221) (by decide +kernel) rfl)⟩, ⟨by decide +kernel, by decide +kernel, by decide +kernel⟩, by decide, rfl⟩ (fun _ h => h.1.2.2.2.2.1) (by decide) (Nat.le_of_ble_eq_true rfl) (Nat.le_of_ble_eq_true rfl) (Nat.le_of_ble_eq_true rfl) dX6_init_132 (fun u => ?_)
    obtain ⟨q74, q75, q76, q77, q78⟩ := u
    refine v_aast (pc := 135) C 36 1 rfl rfl rfl rfl (vp_in_iff.mpr (by decide)) dX6_init_135 (by decide) ?_
    refine v_iinc (v := 5) (pc := 136) C hN dX6_init_136 0 rfl (by decide) (by decide) (lv' := [(1, .int 5), (0, .ref h0)]) rfl ?_
    refine v_goto (pc := 139) (tgt := 117) C dX6_init_139 rfl ?_
    refine v_iload_n (pc := 117) C dX6_init_117 rfl 0 rfl ?_
    refine v_bipush (v := 6) (pc := 118) C dX6_init_118 (by decide) ?_
    refine v_geF (pc := 120) (tgt := 142) C dX6_init_120 rfl (by decide) ?_
    refine v_aload_n (pc := 123) C dX6_init_123 rfl 1 rfl ?_
    refine v_get (pc := 124) C rfl inX6 7 (by decide) (zT_of (i := 320) (by decide +kernel) rfl) rfl rfl dX6_init_124 ?_
    refine v_iload_n (pc := 127) C dX6_init_127 rfl 0 rfl ?_
    refine v_new (pc := 128) (ci := 2) (fs := [.int 0, .int 0, .null, .null, .int 0, .null, .null, .null]) C ⟨(zT_of (i := 265) (by decide +kernel) rfl), (zT_of (i := 218) (by decide +kernel) rfl), (zT_of (i := 101) (by decide +kernel) rfl)⟩ rfl inX2 tyX2 tyX2_ok (by decide) (Nat.le_of_ble_eq_true rfl) (Nat.le_of_ble_eq_true rfl) dX6_init_128 (fun q79 => ?_)
    refine v_dup (pc := 131) C dX6_init_131 rfl ?_
    refine v_ctorN (pc := 132) C (fun _ => X2_init_k _) ⟨⟨(zT_of (i := 220) (by decide +kernel) rfl), (zT_of (i := 101) (by decide +kernel) rfl), (zT_of (i := 221) (by decide +kernel) rfl)⟩, ⟨by decide +kernel, by decide +kernel, by decide +kernel⟩, by decide, rfl⟩ (fun _ h => h.1.2.2.2.2.1) (by decide) (Nat.le_of_ble_eq_true rfl) (Nat.le_of_ble_eq_true rfl) (Nat.le_of_ble_eq_true rfl) dX6_init_132 (fun u => ?_)
    obtain ⟨q80, q81, q82, q83, q84⟩ := u
    refine v_aast (pc := 135) C 42 1 rfl rfl rfl rfl (vp_in_iff.mpr (by decide)) dX6_init_135 (by decide) ?_
    refine v_iinc (v := 6) (pc := 136) C hN dX6_init_136 0 rfl (by decide) (by decide) (lv' := [(1, .int 6), (0, .ref h0)]) rfl ?_
    refine v_goto (pc := 139) (tgt := 117) C dX6_init_139 rfl ?_
    refine v_iload_n (pc := 117) C dX6_init_117 rfl 0 rfl ?_
    refine v_bipush (v := 6) (pc := 118) C dX6_init_118 (by decide) ?_
    refine v_geT (pc := 120) (tgt := 142) C dX6_init_120 rfl (by decide) ?_
    refine v_iconst (v := 0) (pc := 142) C dX6_init_142 (by decide) ?_
    refine v_istore_n (pc := 143) C hN dX6_init_143 rfl (by decide) (lv' := [(1, .int 0), (0, .ref h0)]) rfl ?_
    refine v_iload_n (pc := 144) C dX6_init_144 rfl 0 rfl ?_
    refine v_bipush (v := 6) (pc := 145) C dX6_init_145 (by decide) ?_
    refine v_geF (pc := 147) (tgt := 169) C dX6_init_147 rfl (by decide) ?_
    refine v_aload_n (pc := 150) C dX6_init_150 rfl 1 rfl ?_
    refine v_get (pc := 151) C rfl inX6 10 (by decide) (zT_of (i := 323) (by decide +kernel) rfl) rfl rfl dX6_init_151 ?_
    refine v_iload_n (pc := 154) C dX6_init_154 rfl 0 rfl ?_
    refine v_new (pc := 155) (ci := 4) (fs := [.int 0, .int 0, .null]) C ⟨(zT_of (i := 291) (by decide +kernel) rfl), (zT_of (i := 294) (by decide +kernel) rfl), (zT_of (i := 103) (by decide +kernel) rfl)⟩ rfl inX4 tyX4 tyX4_ok (by decide) (Nat.le_of_ble_eq_true rfl) (Nat.le_of_ble_eq_true rfl) dX6_init_155 (fun q85 => ?_)
    refine v_dup (pc := 158) C dX6_init_158 rfl ?_
    refine v_ctorN (pc := 159) C (fun _ => X4_init_k _) ⟨⟨(zT_of (i := 296) (by decide +kernel) rfl), (zT_of (i := 103) (by decide +kernel) rfl), (zT_of (i := 297) (by decide +kernel) rfl)⟩, ⟨by decide +kernel, by decide +kernel, by decide +kernel⟩, by decide, rfl⟩ (fun _ h => h.1.2.2.2.2.2.1) (by decide) (Nat.le_of_ble_eq_true rfl) (Nat.le_of_ble_eq_true rfl) (Nat.le_of_ble_eq_true rfl) dX6_init_159 (fun q86 => ?_)
    refine v_aast (pc := 162) C 41 1 rfl rfl rfl rfl (vp_in_iff.mpr (by decide)) dX6_init_162 (by decide) ?_
    refine v_iinc (v := 1) (pc := 163) C hN dX6_init_163 0 rfl (by decide) (by decide) (lv' := [(1, .int 1), (0, .ref h0)]) rfl ?_
    refine v_goto (pc := 166) (tgt := 144) C dX6_init_166 rfl ?_
    refine v_iload_n (pc := 144) C dX6_init_144 rfl 0 rfl ?_
    refine v_bipush (v := 6) (pc := 145) C dX6_init_145 (by decide) ?_
    refine v_geF (pc := 147) (tgt := 169) C dX6_init_147 rfl (by decide) ?_
    refine v_aload_n (pc := 150) C dX6_init_150 rfl 1 rfl ?_
    refine v_get (pc := 151) C rfl inX6 10 (by decide) (zT_of (i := 323) (by decide +kernel) rfl) rfl rfl dX6_init_151 ?_
    refine v_iload_n (pc := 154) C dX6_init_154 rfl 0 rfl ?_
    refine v_new (pc := 155) (ci := 4) (fs := [.int 0, .int 0, .null]) C ⟨(zT_of (i := 291) (by decide +kernel) rfl), (zT_of (i := 294) (by decide +kernel) rfl), (zT_of (i := 103) (by decide +kernel) rfl)⟩ rfl inX4 tyX4 tyX4_ok (by decide) (Nat.le_of_ble_eq_true rfl) (Nat.le_of_ble_eq_true rfl) dX6_init_155 (fun q87 => ?_)
    refine v_dup (pc := 158) C dX6_init_158 rfl ?_
    refine v_ctorN (pc := 159) C (fun _ => X4_init_k _) ⟨⟨(zT_of (i := 296) (by decide +kernel) rfl), (zT_of (i := 103) (by decide +kernel) rfl), (zT_of (i := 297) (by decide +kernel) rfl)⟩, ⟨by decide +kernel, by decide +kernel, by decide +kernel⟩, by decide, rfl⟩ (fun _ h => h.1.2.2.2.2.2.1) (by decide) (Nat.le_of_ble_eq_true rfl) (Nat.le_of_ble_eq_true rfl) (Nat.le_of_ble_eq_true rfl) dX6_init_159 (fun q88 => ?_)
    refine v_aast (pc := 162) C 43 1 rfl rfl rfl rfl (vp_in_iff.mpr (by decide)) dX6_init_162 (by decide) ?_
    refine v_iinc (v := 2) (pc := 163) C hN dX6_init_163 0 rfl (by decide) (by decide) (lv' := [(1, .int 2), (0, .ref h0)]) rfl ?_
    refine v_goto (pc := 166) (tgt := 144) C dX6_init_166 rfl ?_
    refine v_iload_n (pc := 144) C dX6_init_144 rfl 0 rfl ?_
    refine v_bipush (v := 6) (pc := 145) C dX6_init_145 (by decide) ?_
    refine v_geF (pc := 147) (tgt := 169) C dX6_init_147 rfl (by decide) ?_
    refine v_aload_n (pc := 150) C dX6_init_150 rfl 1 rfl ?_
    refine v_get (pc := 151) C rfl inX6 10 (by decide) (zT_of (i := 323) (by decide +kernel) rfl) rfl rfl dX6_init_151 ?_
    refine v_iload_n (pc := 154) C dX6_init_154 rfl 0 rfl ?_
    refine v_new (pc := 155) (ci := 4) (fs := [.int 0, .int 0, .null]) C ⟨(zT_of (i := 291) (by decide +kernel) rfl), (zT_of (i := 294) (by decide +kernel) rfl), (zT_of (i := 103) (by decide +kernel) rfl)⟩ rfl inX4 tyX4 tyX4_ok (by decide) (Nat.le_of_ble_eq_true rfl) (Nat.le_of_ble_eq_true rfl) dX6_init_155 (fun q89 => ?_)
    refine v_dup (pc := 158) C dX6_init_158 rfl ?_
    refine v_ctorN (pc := 159) C (fun _ => X4_init_k _) ⟨⟨(zT_of (i := 296) (by decide +kernel) rfl), (zT_of (i := 103) (by decide +kernel) rfl), (zT_of (i := 297) (by decide +kernel) rfl)⟩, ⟨by decide +kernel, by decide +kernel, by decide +kernel⟩, by decide, rfl⟩ (fun _ h => h.1.2.2.2.2.2.1) (by decide) (Nat.le_of_ble_eq_true rfl) (Nat.le_of_ble_eq_true rfl) (Nat.le_of_ble_eq_true rfl) dX6_init_159 (fun q90 => ?_)
    refine v_aast (pc := 162) C 45 1 rfl rfl rfl rfl (vp_in_iff.mpr (by decide)) dX6_init_162 (by decide) ?_
    refine v_iinc (v := 3) (pc := 163) C hN dX6_init_163 0 rfl (by decide) (by decide) (lv' := [(1, .int 3), (0, .ref h0)]) rfl ?_
    refine v_goto (pc := 166) (tgt := 144) C dX6_init_166 rfl ?_
    refine v_iload_n (pc := 144) C dX6_init_144 rfl 0 rfl ?_
    refine v_bipush (v := 6) (pc := 145) C dX6_init_145 (by decide) ?_
    refine v_geF (pc := 147) (tgt := 169) C dX6_init_147 rfl (by decide) ?_
    refine v_aload_n (pc := 150) C dX6_init_150 rfl 1 rfl ?_
    refine v_get (pc := 151) C rfl inX6 10 (by decide) (zT_of (i := 323) (by decide +kernel) rfl) rfl rfl dX6_init_151 ?_
    refine v_iload_n (pc := 154) C dX6_init_154 rfl 0 rfl ?_
    refine v_new (pc := 155) (ci := 4) (fs := [.int 0, .int 0, .null]) C ⟨(zT_of (i := 291) (by decide +kernel) rfl), (zT_of (i := 294) (by decide +kernel) rfl), (zT_of (i := 103) (by decide +kernel) rfl)⟩ rfl inX4 tyX4 tyX4_ok (by decide) (Nat.le_of_ble_eq_true rfl) (Nat.le_of_ble_eq_true rfl) dX6_init_155 (fun q91 => ?_)
    refine v_dup (pc := 158) C dX6_init_158 rfl ?_
    refine v_ctorN (pc := 159) C (fun _ => X4_init_k _) ⟨⟨(zT_of (i := 296) (by decide +kernel) rfl), (zT_of (i := 103) (by decide +kernel) rfl), (zT_of (i := 297) (by decide +kernel) rfl)⟩, ⟨by decide +kernel, by decide +kernel, by decide +kernel⟩, by decide, rfl⟩ (fun _ h => h.1.2.2.2.2.2.1) (by decide) (Nat.le_of_ble_eq_true rfl) (Nat.le_of_ble_eq_true rfl) (Nat.le_of_ble_eq_true rfl) dX6_init_159 (fun q92 => ?_)
    refine v_aast (pc := 162) C 47 1 rfl rfl rfl rfl (vp_in_iff.mpr (by decide)) dX6_init_162 (by decide) ?_
    refine v_iinc (v := 4) (pc := 163) C hN dX6_init_163 0 rfl (by decide) (by decide) (lv' := [(1, .int 4), (0, .ref h0)]) rfl ?_
    refine v_goto (pc := 166) (tgt := 144) C dX6_init_166 rfl ?_
    refine v_iload_n (pc := 144) C dX6_init_144 rfl 0 rfl ?_
    refine v_bipush (v := 6) (pc := 145) C dX6_init_145 (by decide) ?_
    refine v_geF (pc := 147) (tgt := 169) C dX6_init_147 rfl (by decide) ?_
    refine v_aload_n (pc := 150) C dX6_init_150 rfl 1 rfl ?_
    refine v_get (pc := 151) C rfl inX6 10 (by decide) (zT_of (i := 323) (by decide +kernel) rfl) rfl rfl dX6_init_151 ?_
    refine v_iload_n (pc := 154) C dX6_init_154 rfl 0 rfl ?_
    refine v_new (pc := 155) (ci := 4) (fs := [.int 0, .int 0, .null]) C ⟨(zT_of (i := 291) (by decide +kernel) rfl), (zT_of (i := 294) (by decide +kernel) rfl), (zT_of (i := 103) (by decide +kernel) rfl)⟩ rfl inX4 tyX4 tyX4_ok (by decide) (Nat.le_of_ble_eq_true rfl) (Nat.le_of_ble_eq_true rfl) dX6_init_155 (fun q93 => ?_)
    refine v_dup (pc := 158) C dX6_init_158 rfl ?_
    refine v_ctorN (pc := 159) C (fun _ => X4_init_k _) ⟨⟨(zT_of (i := 296) (by decide +kernel) rfl), (zT_of (i := 103) (by decide +kernel) rfl), (zT_of (i := 297) (by decide +kernel) rfl)⟩, ⟨by decide +kernel, by decide +kernel, by decide +kernel⟩, by decide, rfl⟩ (fun _ h => h.1.2.2.2.2.2.1) (by decide) (Nat.le_of_ble_eq_true rfl) (Nat.le_of_ble_eq_true rfl) (Nat.le_of_ble_eq_true rfl) dX6_init_159 (fun q94 => ?_)
    refine v_aast (pc := 162) C 49 1 rfl rfl rfl rfl (vp_in_iff.mpr (by decide)) dX6_init_162 (by decide) ?_
    refine v_iinc (v := 5) (pc := 163) C hN dX6_init_163 0 rfl (by decide) (by decide) (lv' := [(1, .int 5), (0, .ref h0)]) rfl ?_
    refine v_goto (pc := 166) (tgt := 144) C dX6_init_166 rfl ?_
    refine v_iload_n (pc := 144) C dX6_init_144 rfl 0 rfl ?_
    refine v_bipush (v := 6) (pc := 145) C dX6_init_145 (by decide) ?_
    refine v_geF (pc := 147) (tgt := 169) C dX6_init_147 rfl (by decide) ?_
    refine v_aload_n (pc := 150) C dX6_init_150 rfl 1 rfl ?_
    refine v_get (pc := 151) C rfl inX6 10 (by decide) (zT_of (i := 323) (by decide +kernel) rfl) rfl rfl dX6_init_151 ?_
    refine v_iload_n (pc := 154) C dX6_init_154 rfl 0 rfl ?_
    refine v_new (pc := 155) (ci := 4) (fs := [.int 0, .int 0, .null]) C ⟨(zT_of (i := 291) (by decide +kernel) rfl), (zT_of (i := 294) (by decide +kernel) rfl), (zT_of (i := 103) (by decide +kernel) rfl)⟩ rfl inX4 tyX4 tyX4_ok (by decide) (Nat.le_of_ble_eq_true rfl) (Nat.le_of_ble_eq_true rfl) dX6_init_155 (fun q95 => ?_)
    refine v_dup (pc := 158) C dX6_init_158 rfl ?_
    refine v_ctorN (pc := 159) C (fun _ => X4_init_k _) ⟨⟨(zT_of (i := 296) (by decide +kernel) rfl), (zT_of (i := 103) (by decide +kernel) rfl), (zT_of (i := 297) (by decide +kernel) rfl)⟩, ⟨by decide +kernel, by decide +kernel, by decide +kernel⟩, by decide, rfl⟩ (fun _ h => h.1.2.2.2.2.2.1) (by decide) (Nat.le_of_ble_eq_true rfl) (Nat.le_of_ble_eq_true rfl) (Nat.le_of_ble_eq_true rfl) dX6_init_159 (fun q96 => ?_)
    refine v_aast (pc := 162) C 51 1 rfl rfl rfl rfl (vp_in_iff.mpr (by decide)) dX6_init_162 (by decide) ?_
    refine v_iinc (v := 6) (pc := 163) C hN dX6_init_163 0 rfl (by decide) (by decide) (lv' := [(1, .int 6), (0, .ref h0)]) rfl ?_
    refine v_goto (pc := 166) (tgt := 144) C dX6_init_166 rfl ?_
    refine v_iload_n (pc := 144) C dX6_init_144 rfl 0 rfl ?_
    refine v_bipush (v := 6) (pc := 145) C dX6_init_145 (by decide) ?_
    refine v_geT (pc := 147) (tgt := 169) C dX6_init_147 rfl (by decide) ?_
    exact hend (fun k => [q0, q1, q2, q3, q4, q5, q6, q7, q8, q9, q10, q11, q12, q13, q14, q15, q16, q17, q18, q19, q20, q21, q22, q23, q24, q25, q26, q27, q28, q29, q30, q31, q32, q33, q34, q35, q36, q37, q38, q39, q40, q41, q42, q43, q44, q45, q46, q47, q48, q49, q50, q51, q52, q53, q54, q55, q56, q57, q58, q59, q60, q61, q62, q63, q64, q65, q66, q67, q68, q69, q70, q71, q72, q73, q74, q75, q76, q77, q78, q79, q80, q81, q82, q83, q84, q85, q86, q87, q88, q89, q90, q91, q92, q93, q94, q95, q96].getD k 0) _ _ dX6_init_169)
