theorem j_ablen {T : Type} {X : JX} {G : GD} {own : String} {cc : ByteArray} {rt : Option FieldType} {d : Nat} {Q : JX → T → State → Prop} {st : PS} {lv : List (Nat × Value)} {pc : Nat} {stk : List Value} {o : Option T} (C : zC X sC G own cc rt d) (hd : decode cc pc = .ok (.arraylength, 1)) (kk : J X (zI sC G) Q st lv (pc + 1) (.int (oI 7) :: stk) o) : J X (zI sC G) Q st lv pc (.ref G.2.2.2.2.2 :: stk) o := by
  obtain ⟨p, l, e, R, s, m, args, below, meth, c, cells, slots, nL⟩ := X
  obtain ⟨⟨hx, hb, hml, hown, hts⟩, hK, hj, hO, hR, hr0, hlk⟩ := C
  intro r hr H locs ls hI hl
  exact va_tlen hx hb (hO rfl).1.2.2.1 hI.2 rfl hd (kk r hr H locs ls hI hl)
def X0_runEarns : Nat → PS → Int → Int → Int → Option (Int × PS)
  | 0, _, _, _, _ => none
  | n + 1, st, l1, l2, l3 => if wI l3 ≤ wI 40 then if wI l1 = 1 ∨ wI l1 = 3 then bP (X0_runEarns n st 0 l2 (l3 + 1)) (fun v1 s1 => some (v1, s1)) else (if wI l1 = 2 then bI (X0_begin st 30) (fun s2 => bP (X0_runEarns n s2 0 (l2 * 3) (l3 + 1)) (fun v2 s3 => some (v2, s3))) else (if wI l1 = 4 then bI (X0_begin st 50) (fun s4 => bP (X0_runEarns n s4 1 l2 (l3 + 1)) (fun v3 s5 => some (-v3, s5))) else (if wI l1 = 5 then bP (X0_runEarns n st 2 l2 (l3 + 1)) (fun v4 s6 => some (v4, s6)) else (if wI l1 = 6 then bI (X0_begin st 71) (fun s7 => bP (X0_runEarns n s7 3 l2 (l3 + 1)) (fun v5 s8 => some (zxor v5 (s8 180 3), s8))) else (bI (X0_begin st 10) (fun s9 => some (l2 + (s9 180 4), s9))))))) else (some (0, st))
set_option maxHeartbeats 4000000 in
set_option maxRecDepth 100000 in
theorem X0_runEarns_m (l : Launch) {G : GD} (hj : zInj sC G) : ∀ (n : Nat) {st : PS} {l1 l2 l3 : Int} {r : (Int × PS)} (hr : X0_runEarns n st l1 l2 l3 = some r), zM l sC G yX0_runEarns cX0_runEarns 4 (some .int) (1 + n) [.ref (G.2.2.1 180), .int (oI l1), .int (oI l2), .int (oI l3)] st (some (.int (oI r.1))) r.2 := by
  intro n
  induction n with
  | zero => intro st l1 l2 l3 r hr; exact absurd (show (none : Option _) = some r from hr) (by simp)
  | succ n ih =>
    intro st l1 l2 l3 r hr
    exact zEnter (d := (1 + (n + 1))) (f := fI) hr hj (by decide) rfl (lv := [(0, .ref (G.2.2.1 180)), (1, .int (oI l1)), (2, .int (oI l2)), (3, .int (oI l3))]) rfl (Nat.le_of_ble_eq_true rfl) (fun X hl hN C => by
      subst hl
      rw [X0_runEarns]
      refine j_iload_n (pc := 0) C dX0_runEarns_0 rfl 3 rfl ?_
      refine j_bipush (pc := 1) C dX0_runEarns_1 (by decide) ?_
      refine j_icmp_le (pc := 3) (tgt := 8) C dX0_runEarns_3 rfl ?_ ?_
      · refine j_iload_n (pc := 8) C dX0_runEarns_8 rfl 1 rfl ?_
        refine j_if (fun hc => ?_) (fun hn0 => ?_)
        · refine j_join (lv' := [(0, .ref (G.2.2.1 180)), (1, .int (oI l1)), (2, .int (oI l2)), (3, .int (oI l3))]) (pc' := 104) (stk' := []) ?_ (fun jn => ?_)
          · refine j_aload_n (pc := 104) C dX0_runEarns_104 rfl 0 rfl ?_
            refine j_iconst (pc := 105) C dX0_runEarns_105 ?_
            refine j_iload_n (pc := 106) C dX0_runEarns_106 rfl 2 rfl ?_
            refine j_iload_n (pc := 107) C dX0_runEarns_107 rfl 3 rfl ?_
            refine j_iconst (pc := 108) C dX0_runEarns_108 ?_
            refine j_iadd (pc := 109) C dX0_runEarns_109 ?_
            refine j_bP (fun v1 s1 es1 => ?_)
            refine j_callV1 (pc := 110) C obX0 rfl rfl (ih es1) kV_X0_28 rfl (by omega) rfl (Nat.le_of_ble_eq_true rfl) dX0_runEarns_110 ?_
            exact j_ireturn C rfl rfl rfl rfl dX0_runEarns_113
          · rcases hc with hc | hc
            · exact j_tabIn (pc := 9) (tgt := 104) C dX0_runEarns_9 hc (by decide) (by decide) rfl rfl jn
            · exact j_tabIn (pc := 9) (tgt := 104) C dX0_runEarns_9 hc (by decide) (by decide) rfl rfl jn
        · refine j_if (fun hc => ?_) (fun hn1 => ?_)
          · refine j_tabIn (pc := 9) (tgt := 48) C dX0_runEarns_9 hc (by decide) (by decide) rfl rfl ?_
            refine j_aload_n (pc := 48) C dX0_runEarns_48 rfl 0 rfl ?_
            refine j_bipush (pc := 49) C dX0_runEarns_49 (by decide) ?_
            refine j_bI (fun s2 es2 => ?_)
            refine j_callV0 (pc := 51) C obX0 rfl rfl (X0_begin_m _ hj es2) kV_X0_38 rfl (by omega) rfl (Nat.le_of_ble_eq_true rfl) dX0_runEarns_51 ?_
            refine j_aload_n (pc := 54) C dX0_runEarns_54 rfl 0 rfl ?_
            refine j_iconst (pc := 55) C dX0_runEarns_55 ?_
            refine j_iload_n (pc := 56) C dX0_runEarns_56 rfl 2 rfl ?_
            refine j_iconst (pc := 57) C dX0_runEarns_57 ?_
            refine j_imul (pc := 58) C dX0_runEarns_58 ?_
            refine j_iload_n (pc := 59) C dX0_runEarns_59 rfl 3 rfl ?_
            refine j_iconst (pc := 60) C dX0_runEarns_60 ?_
            refine j_iadd (pc := 61) C dX0_runEarns_61 ?_
            refine j_bP (fun v2 s3 es3 => ?_)
            refine j_callV1 (pc := 62) C obX0 rfl rfl (ih es3) kV_X0_28 rfl (by omega) rfl (Nat.le_of_ble_eq_true rfl) dX0_runEarns_62 ?_
            exact j_ireturn C rfl rfl rfl rfl dX0_runEarns_65
          · refine j_if (fun hc => ?_) (fun hn2 => ?_)
            · refine j_tabIn (pc := 9) (tgt := 66) C dX0_runEarns_9 hc (by decide) (by decide) rfl rfl ?_
              refine j_aload_n (pc := 66) C dX0_runEarns_66 rfl 0 rfl ?_
              refine j_bipush (pc := 67) C dX0_runEarns_67 (by decide) ?_
              refine j_bI (fun s4 es4 => ?_)
              refine j_callV0 (pc := 69) C obX0 rfl rfl (X0_begin_m _ hj es4) kV_X0_38 rfl (by omega) rfl (Nat.le_of_ble_eq_true rfl) dX0_runEarns_69 ?_
              refine j_aload_n (pc := 72) C dX0_runEarns_72 rfl 0 rfl ?_
              refine j_iconst (pc := 73) C dX0_runEarns_73 ?_
              refine j_iload_n (pc := 74) C dX0_runEarns_74 rfl 2 rfl ?_
              refine j_iload_n (pc := 75) C dX0_runEarns_75 rfl 3 rfl ?_
              refine j_iconst (pc := 76) C dX0_runEarns_76 ?_
              refine j_iadd (pc := 77) C dX0_runEarns_77 ?_
              refine j_bP (fun v3 s5 es5 => ?_)
              refine j_callV1 (pc := 78) C obX0 rfl rfl (ih es5) kV_X0_28 rfl (by omega) rfl (Nat.le_of_ble_eq_true rfl) dX0_runEarns_78 ?_
              refine j_ineg (pc := 81) C dX0_runEarns_81 ?_
              exact j_ireturn C rfl rfl rfl rfl dX0_runEarns_82
            · refine j_if (fun hc => ?_) (fun hn3 => ?_)
              · refine j_tabIn (pc := 9) (tgt := 114) C dX0_runEarns_9 hc (by decide) (by decide) rfl rfl ?_
                refine j_aload_n (pc := 114) C dX0_runEarns_114 rfl 0 rfl ?_
                refine j_iconst (pc := 115) C dX0_runEarns_115 ?_
                refine j_iload_n (pc := 116) C dX0_runEarns_116 rfl 2 rfl ?_
                refine j_iload_n (pc := 117) C dX0_runEarns_117 rfl 3 rfl ?_
                refine j_iconst (pc := 118) C dX0_runEarns_118 ?_
                refine j_iadd (pc := 119) C dX0_runEarns_119 ?_
                refine j_bP (fun v4 s6 es6 => ?_)
                refine j_callV1 (pc := 120) C obX0 rfl rfl (ih es6) kV_X0_28 rfl (by omega) rfl (Nat.le_of_ble_eq_true rfl) dX0_runEarns_120 ?_
                exact j_ireturn C rfl rfl rfl rfl dX0_runEarns_123
              · refine j_if (fun hc => ?_) (fun hn4 => ?_)
                · refine j_tabIn (pc := 9) (tgt := 83) C dX0_runEarns_9 hc (by decide) (by decide) rfl rfl ?_
                  refine j_aload_n (pc := 83) C dX0_runEarns_83 rfl 0 rfl ?_
                  refine j_bipush (pc := 84) C dX0_runEarns_84 (by decide) ?_
                  refine j_bI (fun s7 es7 => ?_)
                  refine j_callV0 (pc := 86) C obX0 rfl rfl (X0_begin_m _ hj es7) kV_X0_38 rfl (by omega) rfl (Nat.le_of_ble_eq_true rfl) dX0_runEarns_86 ?_
                  refine j_aload_n (pc := 89) C dX0_runEarns_89 rfl 0 rfl ?_
                  refine j_iconst (pc := 90) C dX0_runEarns_90 ?_
                  refine j_iload_n (pc := 91) C dX0_runEarns_91 rfl 2 rfl ?_
                  refine j_iload_n (pc := 92) C dX0_runEarns_92 rfl 3 rfl ?_
                  refine j_iconst (pc := 93) C dX0_runEarns_93 ?_
                  refine j_iadd (pc := 94) C dX0_runEarns_94 ?_
                  refine j_bP (fun v5 s8 es8 => ?_)
                  refine j_callV1 (pc := 95) C obX0 rfl rfl (ih es8) kV_X0_28 rfl (by omega) rfl (Nat.le_of_ble_eq_true rfl) dX0_runEarns_95 ?_
                  refine j_aload_n (pc := 98) C dX0_runEarns_98 rfl 0 rfl ?_
                  refine gf_X0_22 (pc := 99) C dX0_runEarns_99 ?_
                  refine j_ixor (pc := 102) C dX0_runEarns_102 ?_
                  exact j_ireturn C rfl rfl rfl rfl dX0_runEarns_103
                · refine j_tabOut (pc := 9) (tgt := 124) C dX0_runEarns_9 (by omega) rfl ?_
                  refine j_aload_n (pc := 124) C dX0_runEarns_124 rfl 0 rfl ?_
                  refine j_bipush (pc := 125) C dX0_runEarns_125 (by decide) ?_
                  refine j_bI (fun s9 es9 => ?_)
                  refine j_callV0 (pc := 127) C obX0 rfl rfl (X0_begin_m _ hj es9) kV_X0_38 rfl (by omega) rfl (Nat.le_of_ble_eq_true rfl) dX0_runEarns_127 ?_
                  refine j_iload_n (pc := 130) C dX0_runEarns_130 rfl 2 rfl ?_
                  refine j_aload_n (pc := 131) C dX0_runEarns_131 rfl 0 rfl ?_
                  refine gf_X0_25 (pc := 132) C dX0_runEarns_132 ?_
                  refine j_iadd (pc := 135) C dX0_runEarns_135 ?_
                  exact j_ireturn C rfl rfl rfl rfl dX0_runEarns_136
      · refine j_iconst (pc := 6) C dX0_runEarns_6 ?_
        exact j_ireturn C rfl rfl rfl rfl dX0_runEarns_7)
def X0_runSays : Nat → PS → Int → Int → Int → Option (Int × PS)
  | 0, _, _, _, _ => none
  | n + 1, st, l1, l2, l3 => if wI l3 ≤ wI 40 then if wI l1 = 1 then bI (X0_begin st 20) (fun s1 => bP (X0_runSays n s1 0 l2 (l3 + 1)) (fun v1 s2 => some (zxor v1 6, s2))) else (if wI l1 = 2 ∨ wI l1 = 3 then bP (X0_runSays n st 0 l2 (l3 + 1)) (fun v2 s3 => some (v2, s3)) else (if wI l1 = 4 then bI (X0_begin st 51) (fun s4 => bP (X0_runSays n s4 1 (l2 + 1) (l3 + 1)) (fun v3 s5 => some (v3, s5))) else (if wI l1 = 5 then bP (X0_runSays n st 2 l2 (l3 + 1)) (fun v4 s6 => some (v4, s6)) else (if wI l1 = 6 then bI (X0_begin st 70) (fun s7 => bP (X0_runSays n s7 3 l2 (l3 + 1)) (fun v5 s8 => bP (X0_runEarns 60 s8 3 2 (l3 + 1)) (fun v6 s9 => some (v5 + v6, s9)))) else (bI (X0_begin st 11) (fun s10 => bP (X0_runEarns 60 s10 (s10 180 2) l2 (l3 + 1)) (fun v7 s11 => some (v7 - (s11 180 3), s11)))))))) else (some (0, st))
set_option maxHeartbeats 4000000 in
set_option maxRecDepth 100000 in
theorem X0_runSays_m (l : Launch) {G : GD} (hj : zInj sC G) : ∀ (n : Nat) {st : PS} {l1 l2 l3 : Int} {r : (Int × PS)} (hr : X0_runSays n st l1 l2 l3 = some r), zM l sC G yX0_runSays cX0_runSays 4 (some .int) (62 + n) [.ref (G.2.2.1 180), .int (oI l1), .int (oI l2), .int (oI l3)] st (some (.int (oI r.1))) r.2 := by
  intro n
  induction n with
  | zero => intro st l1 l2 l3 r hr; exact absurd (show (none : Option _) = some r from hr) (by simp)
  | succ n ih =>
    intro st l1 l2 l3 r hr
    exact zEnter (d := (62 + (n + 1))) (f := fI) hr hj (by decide) rfl (lv := [(0, .ref (G.2.2.1 180)), (1, .int (oI l1)), (2, .int (oI l2)), (3, .int (oI l3))]) rfl (Nat.le_of_ble_eq_true rfl) (fun X hl hN C => by
      subst hl
      rw [X0_runSays]
      refine j_iload_n (pc := 0) C dX0_runSays_0 rfl 3 rfl ?_
      refine j_bipush (pc := 1) C dX0_runSays_1 (by decide) ?_
      refine j_icmp_le (pc := 3) (tgt := 8) C dX0_runSays_3 rfl ?_ ?_
      · refine j_iload_n (pc := 8) C dX0_runSays_8 rfl 1 rfl ?_
        refine j_if (fun hc => ?_) (fun hn0 => ?_)
        · refine j_tabIn (pc := 9) (tgt := 48) C dX0_runSays_9 hc (by decide) (by decide) rfl rfl ?_
          refine j_aload_n (pc := 48) C dX0_runSays_48 rfl 0 rfl ?_
          refine j_bipush (pc := 49) C dX0_runSays_49 (by decide) ?_
          refine j_bI (fun s1 es1 => ?_)
          refine j_callV0 (pc := 51) C obX0 rfl rfl (X0_begin_m _ hj es1) kV_X0_38 rfl (by omega) rfl (Nat.le_of_ble_eq_true rfl) dX0_runSays_51 ?_
          refine j_aload_n (pc := 54) C dX0_runSays_54 rfl 0 rfl ?_
          refine j_iconst (pc := 55) C dX0_runSays_55 ?_
          refine j_iload_n (pc := 56) C dX0_runSays_56 rfl 2 rfl ?_
          refine j_iload_n (pc := 57) C dX0_runSays_57 rfl 3 rfl ?_
          refine j_iconst (pc := 58) C dX0_runSays_58 ?_
          refine j_iadd (pc := 59) C dX0_runSays_59 ?_
          refine j_bP (fun v1 s2 es2 => ?_)
          refine j_callV1 (pc := 60) C obX0 rfl rfl (ih es2) kV_X0_32 rfl (by omega) rfl (Nat.le_of_ble_eq_true rfl) dX0_runSays_60 ?_
          refine j_bipush (pc := 63) C dX0_runSays_63 (by decide) ?_
          refine j_ixor (pc := 65) C dX0_runSays_65 ?_
          exact j_ireturn C rfl rfl rfl rfl dX0_runSays_66
        · refine j_if (fun hc => ?_) (fun hn1 => ?_)
          · refine j_join (lv' := [(0, .ref (G.2.2.1 180)), (1, .int (oI l1)), (2, .int (oI l2)), (3, .int (oI l3))]) (pc' := 111) (stk' := []) ?_ (fun jn => ?_)
            · refine j_aload_n (pc := 111) C dX0_runSays_111 rfl 0 rfl ?_
              refine j_iconst (pc := 112) C dX0_runSays_112 ?_
              refine j_iload_n (pc := 113) C dX0_runSays_113 rfl 2 rfl ?_
              refine j_iload_n (pc := 114) C dX0_runSays_114 rfl 3 rfl ?_
              refine j_iconst (pc := 115) C dX0_runSays_115 ?_
              refine j_iadd (pc := 116) C dX0_runSays_116 ?_
              refine j_bP (fun v2 s3 es3 => ?_)
              refine j_callV1 (pc := 117) C obX0 rfl rfl (ih es3) kV_X0_32 rfl (by omega) rfl (Nat.le_of_ble_eq_true rfl) dX0_runSays_117 ?_
              exact j_ireturn C rfl rfl rfl rfl dX0_runSays_120
            · rcases hc with hc | hc
              · exact j_tabIn (pc := 9) (tgt := 111) C dX0_runSays_9 hc (by decide) (by decide) rfl rfl jn
              · exact j_tabIn (pc := 9) (tgt := 111) C dX0_runSays_9 hc (by decide) (by decide) rfl rfl jn
          · refine j_if (fun hc => ?_) (fun hn2 => ?_)
            · refine j_tabIn (pc := 9) (tgt := 67) C dX0_runSays_9 hc (by decide) (by decide) rfl rfl ?_
              refine j_aload_n (pc := 67) C dX0_runSays_67 rfl 0 rfl ?_
              refine j_bipush (pc := 68) C dX0_runSays_68 (by decide) ?_
              refine j_bI (fun s4 es4 => ?_)
              refine j_callV0 (pc := 70) C obX0 rfl rfl (X0_begin_m _ hj es4) kV_X0_38 rfl (by omega) rfl (Nat.le_of_ble_eq_true rfl) dX0_runSays_70 ?_
              refine j_aload_n (pc := 73) C dX0_runSays_73 rfl 0 rfl ?_
              refine j_iconst (pc := 74) C dX0_runSays_74 ?_
              refine j_iload_n (pc := 75) C dX0_runSays_75 rfl 2 rfl ?_
              refine j_iconst (pc := 76) C dX0_runSays_76 ?_
              refine j_iadd (pc := 77) C dX0_runSays_77 ?_
              refine j_iload_n (pc := 78) C dX0_runSays_78 rfl 3 rfl ?_
              refine j_iconst (pc := 79) C dX0_runSays_79 ?_
              refine j_iadd (pc := 80) C dX0_runSays_80 ?_
              refine j_bP (fun v3 s5 es5 => ?_)
              refine j_callV1 (pc := 81) C obX0 rfl rfl (ih es5) kV_X0_32 rfl (by omega) rfl (Nat.le_of_ble_eq_true rfl) dX0_runSays_81 ?_
              exact j_ireturn C rfl rfl rfl rfl dX0_runSays_84
            · refine j_if (fun hc => ?_) (fun hn3 => ?_)
              · refine j_tabIn (pc := 9) (tgt := 121) C dX0_runSays_9 hc (by decide) (by decide) rfl rfl ?_
                refine j_aload_n (pc := 121) C dX0_runSays_121 rfl 0 rfl ?_
                refine j_iconst (pc := 122) C dX0_runSays_122 ?_
                refine j_iload_n (pc := 123) C dX0_runSays_123 rfl 2 rfl ?_
                refine j_iload_n (pc := 124) C dX0_runSays_124 rfl 3 rfl ?_
                refine j_iconst (pc := 125) C dX0_runSays_125 ?_
                refine j_iadd (pc := 126) C dX0_runSays_126 ?_
                refine j_bP (fun v4 s6 es6 => ?_)
                refine j_callV1 (pc := 127) C obX0 rfl rfl (ih es6) kV_X0_32 rfl (by omega) rfl (Nat.le_of_ble_eq_true rfl) dX0_runSays_127 ?_
                exact j_ireturn C rfl rfl rfl rfl dX0_runSays_130
              · refine j_if (fun hc => ?_) (fun hn4 => ?_)
                · refine j_tabIn (pc := 9) (tgt := 85) C dX0_runSays_9 hc (by decide) (by decide) rfl rfl ?_
                  refine j_aload_n (pc := 85) C dX0_runSays_85 rfl 0 rfl ?_
                  refine j_bipush (pc := 86) C dX0_runSays_86 (by decide) ?_
                  refine j_bI (fun s7 es7 => ?_)
                  refine j_callV0 (pc := 88) C obX0 rfl rfl (X0_begin_m _ hj es7) kV_X0_38 rfl (by omega) rfl (Nat.le_of_ble_eq_true rfl) dX0_runSays_88 ?_
                  refine j_aload_n (pc := 91) C dX0_runSays_91 rfl 0 rfl ?_
                  refine j_iconst (pc := 92) C dX0_runSays_92 ?_
                  refine j_iload_n (pc := 93) C dX0_runSays_93 rfl 2 rfl ?_
                  refine j_iload_n (pc := 94) C dX0_runSays_94 rfl 3 rfl ?_
                  refine j_iconst (pc := 95) C dX0_runSays_95 ?_
                  refine j_iadd (pc := 96) C dX0_runSays_96 ?_
                  refine j_bP (fun v5 s8 es8 => ?_)
                  refine j_callV1 (pc := 97) C obX0 rfl rfl (ih es8) kV_X0_32 rfl (by omega) rfl (Nat.le_of_ble_eq_true rfl) dX0_runSays_97 ?_
                  refine j_aload_n (pc := 100) C dX0_runSays_100 rfl 0 rfl ?_
                  refine j_iconst (pc := 101) C dX0_runSays_101 ?_
                  refine j_iconst (pc := 102) C dX0_runSays_102 ?_
                  refine j_iload_n (pc := 103) C dX0_runSays_103 rfl 3 rfl ?_
                  refine j_iconst (pc := 104) C dX0_runSays_104 ?_
                  refine j_iadd (pc := 105) C dX0_runSays_105 ?_
                  refine j_bP (fun v6 s9 es9 => ?_)
                  refine j_callV1 (pc := 106) C obX0 rfl rfl (X0_runEarns_m _ hj 60 es9) kV_X0_28 rfl (by omega) rfl (Nat.le_of_ble_eq_true rfl) dX0_runSays_106 ?_
                  refine j_iadd (pc := 109) C dX0_runSays_109 ?_
                  exact j_ireturn C rfl rfl rfl rfl dX0_runSays_110
                · refine j_tabOut (pc := 9) (tgt := 131) C dX0_runSays_9 (by omega) rfl ?_
                  refine j_aload_n (pc := 131) C dX0_runSays_131 rfl 0 rfl ?_
                  refine j_bipush (pc := 132) C dX0_runSays_132 (by decide) ?_
                  refine j_bI (fun s10 es10 => ?_)
                  refine j_callV0 (pc := 134) C obX0 rfl rfl (X0_begin_m _ hj es10) kV_X0_38 rfl (by omega) rfl (Nat.le_of_ble_eq_true rfl) dX0_runSays_134 ?_
                  refine j_aload_n (pc := 137) C dX0_runSays_137 rfl 0 rfl ?_
                  refine j_aload_n (pc := 138) C dX0_runSays_138 rfl 0 rfl ?_
                  refine gf_X0_19 (pc := 139) C dX0_runSays_139 ?_
                  refine j_iload_n (pc := 142) C dX0_runSays_142 rfl 2 rfl ?_
                  refine j_iload_n (pc := 143) C dX0_runSays_143 rfl 3 rfl ?_
                  refine j_iconst (pc := 144) C dX0_runSays_144 ?_
                  refine j_iadd (pc := 145) C dX0_runSays_145 ?_
                  refine j_bP (fun v7 s11 es11 => ?_)
                  refine j_callV1 (pc := 146) C obX0 rfl rfl (X0_runEarns_m _ hj 60 es11) kV_X0_28 rfl (by omega) rfl (Nat.le_of_ble_eq_true rfl) dX0_runSays_146 ?_
                  refine j_aload_n (pc := 149) C dX0_runSays_149 rfl 0 rfl ?_
                  refine gf_X0_22 (pc := 150) C dX0_runSays_150 ?_
                  refine j_isub (pc := 153) C dX0_runSays_153 ?_
                  exact j_ireturn C rfl rfl rfl rfl dX0_runSays_154
      · refine j_iconst (pc := 6) C dX0_runSays_6 ?_
        exact j_ireturn C rfl rfl rfl rfl dX0_runSays_7)
def X0_runTells : Nat → PS → Int → Int → Int → Option (Int × PS)
  | 0, _, _, _, _ => none
  | n + 1, st, l1, l2, l3 => if wI l3 ≤ wI 40 then if wI l1 = 1 ∨ wI l1 = 2 then bP (X0_runTells n st 0 l2 (l3 + 1)) (fun v1 s1 => some (v1, s1)) else (if wI l1 = 3 then bI (X0_begin st 40) (fun s2 => bP (X0_runTells n s2 0 l2 (l3 + 1)) (fun v2 s3 => bP (X0_runSays 60 s3 (s3 180 2) 1 (l3 + 1)) (fun v3 s4 => some (v2 + v3, s4)))) else (if wI l1 = 4 then bP (X0_runTells n st 1 l2 (l3 + 1)) (fun v4 s5 => some (v4, s5)) else (if wI l1 = 5 then bI (X0_begin st 60) (fun s6 => bP (X0_runTells n s6 2 (l2 - (s6 180 4)) (l3 + 1)) (fun v5 s7 => some (v5, s7))) else (if wI l1 = 6 then bP (X0_runTells n st 3 l2 (l3 + 1)) (fun v6 s8 => some (v6, s8)) else (bI (X0_begin st 12) (fun s9 => bP (X0_runSays 60 s9 (s9 180 2) l2 (l3 + 1)) (fun v7 s10 => some (v7 * 2, s10)))))))) else (some (0, st))
set_option maxHeartbeats 4000000 in
set_option maxRecDepth 100000 in
theorem X0_runTells_m (l : Launch) {G : GD} (hj : zInj sC G) : ∀ (n : Nat) {st : PS} {l1 l2 l3 : Int} {r : (Int × PS)} (hr : X0_runTells n st l1 l2 l3 = some r), zM l sC G yX0_runTells cX0_runTells 4 (some .int) (123 + n) [.ref (G.2.2.1 180), .int (oI l1), .int (oI l2), .int (oI l3)] st (some (.int (oI r.1))) r.2 := by
  intro n
  induction n with
  | zero => intro st l1 l2 l3 r hr; exact absurd (show (none : Option _) = some r from hr) (by simp)
  | succ n ih =>
    intro st l1 l2 l3 r hr
    exact zEnter (d := (123 + (n + 1))) (f := fI) hr hj (by decide) rfl (lv := [(0, .ref (G.2.2.1 180)), (1, .int (oI l1)), (2, .int (oI l2)), (3, .int (oI l3))]) rfl (Nat.le_of_ble_eq_true rfl) (fun X hl hN C => by
      subst hl
      rw [X0_runTells]
      refine j_iload_n (pc := 0) C dX0_runTells_0 rfl 3 rfl ?_
      refine j_bipush (pc := 1) C dX0_runTells_1 (by decide) ?_
      refine j_icmp_le (pc := 3) (tgt := 8) C dX0_runTells_3 rfl ?_ ?_
      · refine j_iload_n (pc := 8) C dX0_runTells_8 rfl 1 rfl ?_
        refine j_if (fun hc => ?_) (fun hn0 => ?_)
        · refine j_join (lv' := [(0, .ref (G.2.2.1 180)), (1, .int (oI l1)), (2, .int (oI l2)), (3, .int (oI l3))]) (pc' := 98) (stk' := []) ?_ (fun jn => ?_)
          · refine j_aload_n (pc := 98) C dX0_runTells_98 rfl 0 rfl ?_
            refine j_iconst (pc := 99) C dX0_runTells_99 ?_
            refine j_iload_n (pc := 100) C dX0_runTells_100 rfl 2 rfl ?_
            refine j_iload_n (pc := 101) C dX0_runTells_101 rfl 3 rfl ?_
            refine j_iconst (pc := 102) C dX0_runTells_102 ?_
            refine j_iadd (pc := 103) C dX0_runTells_103 ?_
            refine j_bP (fun v1 s1 es1 => ?_)
            refine j_callV1 (pc := 104) C obX0 rfl rfl (ih es1) kV_X0_35 rfl (by omega) rfl (Nat.le_of_ble_eq_true rfl) dX0_runTells_104 ?_
            exact j_ireturn C rfl rfl rfl rfl dX0_runTells_107
          · rcases hc with hc | hc
            · exact j_tabIn (pc := 9) (tgt := 98) C dX0_runTells_9 hc (by decide) (by decide) rfl rfl jn
            · exact j_tabIn (pc := 9) (tgt := 98) C dX0_runTells_9 hc (by decide) (by decide) rfl rfl jn
        · refine j_if (fun hc => ?_) (fun hn1 => ?_)
          · refine j_tabIn (pc := 9) (tgt := 48) C dX0_runTells_9 hc (by decide) (by decide) rfl rfl ?_
            refine j_aload_n (pc := 48) C dX0_runTells_48 rfl 0 rfl ?_
            refine j_bipush (pc := 49) C dX0_runTells_49 (by decide) ?_
            refine j_bI (fun s2 es2 => ?_)
            refine j_callV0 (pc := 51) C obX0 rfl rfl (X0_begin_m _ hj es2) kV_X0_38 rfl (by omega) rfl (Nat.le_of_ble_eq_true rfl) dX0_runTells_51 ?_
            refine j_aload_n (pc := 54) C dX0_runTells_54 rfl 0 rfl ?_
            refine j_iconst (pc := 55) C dX0_runTells_55 ?_
            refine j_iload_n (pc := 56) C dX0_runTells_56 rfl 2 rfl ?_
            refine j_iload_n (pc := 57) C dX0_runTells_57 rfl 3 rfl ?_
            refine j_iconst (pc := 58) C dX0_runTells_58 ?_
            refine j_iadd (pc := 59) C dX0_runTells_59 ?_
            refine j_bP (fun v2 s3 es3 => ?_)
            refine j_callV1 (pc := 60) C obX0 rfl rfl (ih es3) kV_X0_35 rfl (by omega) rfl (Nat.le_of_ble_eq_true rfl) dX0_runTells_60 ?_
            refine j_aload_n (pc := 63) C dX0_runTells_63 rfl 0 rfl ?_
            refine j_aload_n (pc := 64) C dX0_runTells_64 rfl 0 rfl ?_
            refine gf_X0_19 (pc := 65) C dX0_runTells_65 ?_
            refine j_iconst (pc := 68) C dX0_runTells_68 ?_
            refine j_iload_n (pc := 69) C dX0_runTells_69 rfl 3 rfl ?_
            refine j_iconst (pc := 70) C dX0_runTells_70 ?_
            refine j_iadd (pc := 71) C dX0_runTells_71 ?_
            refine j_bP (fun v3 s4 es4 => ?_)
            refine j_callV1 (pc := 72) C obX0 rfl rfl (X0_runSays_m _ hj 60 es4) kV_X0_32 rfl (by omega) rfl (Nat.le_of_ble_eq_true rfl) dX0_runTells_72 ?_
            refine j_iadd (pc := 75) C dX0_runTells_75 ?_
            exact j_ireturn C rfl rfl rfl rfl dX0_runTells_76
          · refine j_if (fun hc => ?_) (fun hn2 => ?_)
            · refine j_tabIn (pc := 9) (tgt := 108) C dX0_runTells_9 hc (by decide) (by decide) rfl rfl ?_
              refine j_aload_n (pc := 108) C dX0_runTells_108 rfl 0 rfl ?_
              refine j_iconst (pc := 109) C dX0_runTells_109 ?_
              refine j_iload_n (pc := 110) C dX0_runTells_110 rfl 2 rfl ?_
              refine j_iload_n (pc := 111) C dX0_runTells_111 rfl 3 rfl ?_
              refine j_iconst (pc := 112) C dX0_runTells_112 ?_
              refine j_iadd (pc := 113) C dX0_runTells_113 ?_
              refine j_bP (fun v4 s5 es5 => ?_)
              refine j_callV1 (pc := 114) C obX0 rfl rfl (ih es5) kV_X0_35 rfl (by omega) rfl (Nat.le_of_ble_eq_true rfl) dX0_runTells_114 ?_
              exact j_ireturn C rfl rfl rfl rfl dX0_runTells_117
            · refine j_if (fun hc => ?_) (fun hn3 => ?_)
              · refine j_tabIn (pc := 9) (tgt := 77) C dX0_runTells_9 hc (by decide) (by decide) rfl rfl ?_
                refine j_aload_n (pc := 77) C dX0_runTells_77 rfl 0 rfl ?_
                refine j_bipush (pc := 78) C dX0_runTells_78 (by decide) ?_
                refine j_bI (fun s6 es6 => ?_)
                refine j_callV0 (pc := 80) C obX0 rfl rfl (X0_begin_m _ hj es6) kV_X0_38 rfl (by omega) rfl (Nat.le_of_ble_eq_true rfl) dX0_runTells_80 ?_
                refine j_aload_n (pc := 83) C dX0_runTells_83 rfl 0 rfl ?_
                refine j_iconst (pc := 84) C dX0_runTells_84 ?_
                refine j_iload_n (pc := 85) C dX0_runTells_85 rfl 2 rfl ?_
                refine j_aload_n (pc := 86) C dX0_runTells_86 rfl 0 rfl ?_
                refine gf_X0_25 (pc := 87) C dX0_runTells_87 ?_
                refine j_isub (pc := 90) C dX0_runTells_90 ?_
                refine j_iload_n (pc := 91) C dX0_runTells_91 rfl 3 rfl ?_
                refine j_iconst (pc := 92) C dX0_runTells_92 ?_
                refine j_iadd (pc := 93) C dX0_runTells_93 ?_
                refine j_bP (fun v5 s7 es7 => ?_)
                refine j_callV1 (pc := 94) C obX0 rfl rfl (ih es7) kV_X0_35 rfl (by omega) rfl (Nat.le_of_ble_eq_true rfl) dX0_runTells_94 ?_
                exact j_ireturn C rfl rfl rfl rfl dX0_runTells_97
              · refine j_if (fun hc => ?_) (fun hn4 => ?_)
                · refine j_tabIn (pc := 9) (tgt := 118) C dX0_runTells_9 hc (by decide) (by decide) rfl rfl ?_
                  refine j_aload_n (pc := 118) C dX0_runTells_118 rfl 0 rfl ?_
                  refine j_iconst (pc := 119) C dX0_runTells_119 ?_
                  refine j_iload_n (pc := 120) C dX0_runTells_120 rfl 2 rfl ?_
                  refine j_iload_n (pc := 121) C dX0_runTells_121 rfl 3 rfl ?_
                  refine j_iconst (pc := 122) C dX0_runTells_122 ?_
                  refine j_iadd (pc := 123) C dX0_runTells_123 ?_
                  refine j_bP (fun v6 s8 es8 => ?_)
                  refine j_callV1 (pc := 124) C obX0 rfl rfl (ih es8) kV_X0_35 rfl (by omega) rfl (Nat.le_of_ble_eq_true rfl) dX0_runTells_124 ?_
                  exact j_ireturn C rfl rfl rfl rfl dX0_runTells_127
                · refine j_tabOut (pc := 9) (tgt := 128) C dX0_runTells_9 (by omega) rfl ?_
                  refine j_aload_n (pc := 128) C dX0_runTells_128 rfl 0 rfl ?_
                  refine j_bipush (pc := 129) C dX0_runTells_129 (by decide) ?_
                  refine j_bI (fun s9 es9 => ?_)
                  refine j_callV0 (pc := 131) C obX0 rfl rfl (X0_begin_m _ hj es9) kV_X0_38 rfl (by omega) rfl (Nat.le_of_ble_eq_true rfl) dX0_runTells_131 ?_
                  refine j_aload_n (pc := 134) C dX0_runTells_134 rfl 0 rfl ?_
                  refine j_aload_n (pc := 135) C dX0_runTells_135 rfl 0 rfl ?_
                  refine gf_X0_19 (pc := 136) C dX0_runTells_136 ?_
                  refine j_iload_n (pc := 139) C dX0_runTells_139 rfl 2 rfl ?_
                  refine j_iload_n (pc := 140) C dX0_runTells_140 rfl 3 rfl ?_
                  refine j_iconst (pc := 141) C dX0_runTells_141 ?_
                  refine j_iadd (pc := 142) C dX0_runTells_142 ?_
                  refine j_bP (fun v7 s10 es10 => ?_)
                  refine j_callV1 (pc := 143) C obX0 rfl rfl (X0_runSays_m _ hj 60 es10) kV_X0_32 rfl (by omega) rfl (Nat.le_of_ble_eq_true rfl) dX0_runTells_143 ?_
                  refine j_iconst (pc := 146) C dX0_runTells_146 ?_
                  refine j_imul (pc := 147) C dX0_runTells_147 ?_
                  exact j_ireturn C rfl rfl rfl rfl dX0_runTells_148
      · refine j_iconst (pc := 6) C dX0_runTells_6 ?_
        exact j_ireturn C rfl rfl rfl rfl dX0_runTells_7)
def X0_perform (st : PS) (l1 l2 : Int) : Option (Int × PS) := if wI l1 = 0 then bP (X0_runEarns 60 st (st 180 2) l2 0) (fun v1 s1 => some (v1, s1)) else (if wI l1 = 1 then bP (X0_runSays 60 st (st 180 2) l2 0) (fun v2 s2 => some (v2, s2)) else (if wI l1 = 2 then bP (X0_runTells 60 st (st 180 2) l2 0) (fun v3 s3 => some (v3, s3)) else (some (0, st))))
set_option maxHeartbeats 4000000 in
set_option maxRecDepth 100000 in
theorem X0_perform_m (l : Launch) {G : GD} (hj : zInj sC G) {st : PS} {l1 l2 : Int} {r : (Int × PS)} (hr : X0_perform st l1 l2 = some r) : zM l sC G yX0_perform cX0_perform 3 (some .int) 184 [.ref (G.2.2.1 180), .int (oI l1), .int (oI l2)] st (some (.int (oI r.1))) r.2 :=
  zEnter (f := fI) hr hj (by decide) rfl (lv := [(0, .ref (G.2.2.1 180)), (1, .int (oI l1)), (2, .int (oI l2))]) rfl (Nat.le_of_ble_eq_true rfl) (fun X _ hN C => by
    unfold X0_perform
    refine j_iload_n (pc := 0) C dX0_perform_0 rfl 1 rfl ?_
    refine j_if (fun hc => ?_) (fun hn0 => ?_)
    · refine j_tabIn (pc := 1) (tgt := 28) C dX0_perform_1 hc (by decide) (by decide) rfl rfl ?_
      refine j_aload_n (pc := 28) C dX0_perform_28 rfl 0 rfl ?_
      refine j_aload_n (pc := 29) C dX0_perform_29 rfl 0 rfl ?_
      refine gf_X0_19 (pc := 30) C dX0_perform_30 ?_
      refine j_iload_n (pc := 33) C dX0_perform_33 rfl 2 rfl ?_
      refine j_iconst (pc := 34) C dX0_perform_34 ?_
      refine j_bP (fun v1 s1 es1 => ?_)
      refine j_callV1 (pc := 35) C obX0 rfl rfl (X0_runEarns_m _ hj 60 es1) kV_X0_28 rfl (by omega) rfl (Nat.le_of_ble_eq_true rfl) dX0_perform_35 ?_
      exact j_ireturn C rfl rfl rfl rfl dX0_perform_38
    · refine j_if (fun hc => ?_) (fun hn1 => ?_)
      · refine j_tabIn (pc := 1) (tgt := 39) C dX0_perform_1 hc (by decide) (by decide) rfl rfl ?_
        refine j_aload_n (pc := 39) C dX0_perform_39 rfl 0 rfl ?_
        refine j_aload_n (pc := 40) C dX0_perform_40 rfl 0 rfl ?_
        refine gf_X0_19 (pc := 41) C dX0_perform_41 ?_
        refine j_iload_n (pc := 44) C dX0_perform_44 rfl 2 rfl ?_
        refine j_iconst (pc := 45) C dX0_perform_45 ?_
        refine j_bP (fun v2 s2 es2 => ?_)
        refine j_callV1 (pc := 46) C obX0 rfl rfl (X0_runSays_m _ hj 60 es2) kV_X0_32 rfl (by omega) rfl (Nat.le_of_ble_eq_true rfl) dX0_perform_46 ?_
        exact j_ireturn C rfl rfl rfl rfl dX0_perform_49
      · refine j_if (fun hc => ?_) (fun hn2 => ?_)
        · refine j_tabIn (pc := 1) (tgt := 50) C dX0_perform_1 hc (by decide) (by decide) rfl rfl ?_
          refine j_aload_n (pc := 50) C dX0_perform_50 rfl 0 rfl ?_
          refine j_aload_n (pc := 51) C dX0_perform_51 rfl 0 rfl ?_
          refine gf_X0_19 (pc := 52) C dX0_perform_52 ?_
          refine j_iload_n (pc := 55) C dX0_perform_55 rfl 2 rfl ?_
          refine j_iconst (pc := 56) C dX0_perform_56 ?_
          refine j_bP (fun v3 s3 es3 => ?_)
          refine j_callV1 (pc := 57) C obX0 rfl rfl (X0_runTells_m _ hj 60 es3) kV_X0_35 rfl (by omega) rfl (Nat.le_of_ble_eq_true rfl) dX0_perform_57 ?_
          exact j_ireturn C rfl rfl rfl rfl dX0_perform_60
        · refine j_tabOut (pc := 1) (tgt := 61) C dX0_perform_1 (by omega) rfl ?_
          refine j_iconst (pc := 61) C dX0_perform_61 ?_
          exact j_ireturn C rfl rfl rfl rfl dX0_perform_62)
def X3_word_L2 (r1 : Nat) : Nat → PS → Int → Option (Int × PS)
  | 0, _, _ => none
  | k + 1, st, l2 => if wI ((zsl r1 : Nat) : Int) ≤ wI l2 then some (1, st) else (bI (X3_sign st) (fun v1 => zchk (wI l2) (zsl r1) (if wI v1 = wI (zsch r1 l2) then zlet (zu st 170 3 ((st 170 3) + 1)) (fun s1 => X3_word_L2 r1 k s1 (l2 + 1)) else (some (0, st)))))
def X3_word (r1 : Nat) (st : PS) : Option (Int × PS) := X3_word_L2 r1 FU st 0
set_option maxHeartbeats 4000000 in
set_option maxRecDepth 100000 in
theorem X3_word_L2_j {X : JX} {G : GD} (C : zC X sC G RX3 cX3_word (some .boolean) 4) (hN : X.2.2.2.2.2.2.2.2.2.2.2.2 = 3) (hj : zInj sC G) {r1 : Nat} (h1 : r1 < 8) : ∀ (k : Nat) (st : PS) (l2 : Int), J X (zI sC G) (zQ sC G fI) st [(0, .ref (G.2.2.1 170)), (1, .ref (G.2.2.2.1 r1)), (2, .int (oI l2))] 2 [] (X3_word_L2 r1 k st l2) := by
  intro k
  induction k with
  | zero => intro st l2; exact j_none
  | succ k ih =>
    intro st l2
    rw [X3_word_L2]
    refine j_iload_n (pc := 2) C dX3_word_2 rfl 2 rfl ?_
    refine j_aload_n (pc := 3) C dX3_word_3 rfl 1 rfl ?_
    refine j_callK (pc := 4) C h1 rfl (J0_length_m _ hj h1) kV_X3_73 rfl (by omega) rfl (Nat.le_of_ble_eq_true rfl) dX3_word_4 ?_
    refine j_icmp_ge (pc := 7) (tgt := 40) C dX3_word_7 rfl ?_ ?_
    · refine j_iconst (pc := 40) C dX3_word_40 ?_
      exact j_ireturn C rfl rfl (znar (Or.inr rfl)) rfl dX3_word_41
    · refine j_aload_n (pc := 10) C dX3_word_10 rfl 0 rfl ?_
      refine j_bI (fun v1 ev1 => ?_)
      refine j_callV1 (pc := 11) C obX3 rfl rfl (X3_sign_m _ hj ev1) kV_X3_42 rfl (by omega) rfl (Nat.le_of_ble_eq_true rfl) dX3_word_11 ?_
      refine j_aload_n (pc := 14) C dX3_word_14 rfl 1 rfl ?_
      refine j_iload_n (pc := 15) C dX3_word_15 rfl 2 rfl ?_
      refine j_chk (fun hk16 => ?_)
      refine j_callK (pc := 16) C h1 rfl (J0_charAt_m _ hj h1 hk16) kV_X3_78 rfl (by omega) rfl (Nat.le_of_ble_eq_true rfl) dX3_word_16 ?_
      refine j_icmp_eq (pc := 19) (tgt := 24) C dX3_word_19 rfl ?_ ?_
      · refine j_aload_n (pc := 24) C dX3_word_24 rfl 0 rfl ?_
        refine j_dup (pc := 25) C dX3_word_25 rfl ?_
        refine gf_X3_26 (pc := 26) C dX3_word_26 ?_
        refine j_iconst (pc := 29) C dX3_word_29 ?_
        refine j_iadd (pc := 30) C dX3_word_30 ?_
        refine fp_X3_26 (pc := 31) C dX3_word_31 ?_
        refine j_let (fun s1 => ?_)
        refine j_iinc (pc := 34) C hN dX3_word_34 2 rfl (by decide) (lv' := [(2, .int (oI (l2 + 1))), (0, .ref (G.2.2.1 170)), (1, .ref (G.2.2.2.1 r1))]) rfl ?_
        refine j_goto (pc := 37) (tgt := 2) C dX3_word_37 rfl ?_
        exact j_sub [1, 2, 0] rfl (ih _ _)
      · refine j_iconst (pc := 22) C dX3_word_22 ?_
        exact j_ireturn C rfl rfl (znar (Or.inl rfl)) rfl dX3_word_23
set_option maxHeartbeats 4000000 in
set_option maxRecDepth 100000 in
theorem X3_word_m (l : Launch) {G : GD} (hj : zInj sC G) {r1 : Nat} (h1 : r1 < 8) {st : PS} {r : (Int × PS)} (hr : X3_word r1 st = some r) : zM l sC G yX3_word cX3_word 3 (some .boolean) 4 [.ref (G.2.2.1 170), .ref (G.2.2.2.1 r1)] st (some (.int (oI r.1))) r.2 :=
  zEnter (f := fI) hr hj (by decide) rfl (lv := [(0, .ref (G.2.2.1 170)), (1, .ref (G.2.2.2.1 r1))]) rfl (Nat.le_of_ble_eq_true rfl) (fun X _ hN C => by
    unfold X3_word
    refine j_iconst (pc := 0) C dX3_word_0 ?_
    refine j_istore_n (pc := 1) C hN dX3_word_1 rfl (by decide) (lv' := [(2, .int (oI 0)), (0, .ref (G.2.2.1 170)), (1, .ref (G.2.2.2.1 r1))]) rfl ?_
    exact j_sub [1, 2, 0] rfl (X3_word_L2_j C hN hj h1 FU _ _))
def X3_shape (st : PS) : Option (Int × PS) := zlet (zu st 170 3 ((st 170 3) + 1)) (fun s1 => bI (X3_sign s1) (fun v1 => if wI v1 = wI 105 then zlet (zu s1 160 0 1) (fun s2 => if wI (s2 160 0) = 0 then bP (X3_word 2 s2) (fun v2 s3 => zbit v2 (some (v2, s3))) else (bP (X3_word 1 s2) (fun v3 s4 => zbit v3 (some (v3, s4))))) else (zlet (zu s1 160 0 0) (fun s5 => if wI (s5 160 0) = 0 then bP (X3_word 2 s5) (fun v4 s6 => zbit v4 (some (v4, s6))) else (bP (X3_word 1 s5) (fun v5 s7 => zbit v5 (some (v5, s7))))))))
set_option maxHeartbeats 4000000 in
set_option maxRecDepth 100000 in
theorem X3_shape_m (l : Launch) {G : GD} (hj : zInj sC G) {st : PS} {r : (Int × PS)} (hr : X3_shape st = some r) : zM l sC G yX3_shape cX3_shape 1 (some .boolean) 5 [.ref (G.2.2.1 170)] st (some (.int (oI r.1))) r.2 :=
  zEnter (f := fI) hr hj (by decide) rfl (lv := [(0, .ref (G.2.2.1 170))]) rfl (Nat.le_of_ble_eq_true rfl) (fun X _ hN C => by
    unfold X3_shape
    refine j_aload_n (pc := 0) C dX3_shape_0 rfl 0 rfl ?_
    refine j_dup (pc := 1) C dX3_shape_1 rfl ?_
    refine gf_X3_26 (pc := 2) C dX3_shape_2 ?_
    refine j_iconst (pc := 5) C dX3_shape_5 ?_
    refine j_iadd (pc := 6) C dX3_shape_6 ?_
    refine fp_X3_26 (pc := 7) C dX3_shape_7 ?_
    refine j_let (fun s1 => ?_)
    refine j_aload_n (pc := 10) C dX3_shape_10 rfl 0 rfl ?_
    refine gf_X3_12 (pc := 11) C dX3_shape_11 ?_
    refine j_aload_n (pc := 14) C dX3_shape_14 rfl 0 rfl ?_
    refine j_bI (fun v1 ev1 => ?_)
    refine j_callV1 (pc := 15) C obX3 rfl rfl (X3_sign_m _ hj ev1) kV_X3_42 rfl (by omega) rfl (Nat.le_of_ble_eq_true rfl) dX3_shape_15 ?_
    refine j_bipush (pc := 18) C dX3_shape_18 (by decide) ?_
    refine j_icmp_ne (pc := 20) (tgt := 27) C dX3_shape_20 rfl ?_ ?_
    · refine j_iconst (pc := 23) C dX3_shape_23 ?_
      refine j_goto (pc := 24) (tgt := 28) C dX3_shape_24 rfl ?_
      refine fp_X3_65 (pc := 28) C is160 (Or.inr rfl) dX3_shape_28 ?_
      refine j_let (fun s2 => ?_)
      refine j_aload_n (pc := 31) C dX3_shape_31 rfl 0 rfl ?_
      refine j_aload_n (pc := 32) C dX3_shape_32 rfl 0 rfl ?_
      refine gf_X3_12 (pc := 33) C dX3_shape_33 ?_
      refine gf_X3_65 (pc := 36) C is160 dX3_shape_36 ?_
      refine j_if_eq (pc := 39) (tgt := 47) C dX3_shape_39 rfl ?_ ?_
      · refine j_ldcS (pc := 47) (i := 2) C (fun _ _ h => h.2.2.1) dX3_shape_47 ?_
        refine j_bP (fun v2 s3 es3 => ?_)
        refine j_callV1 (pc := 49) C obX3 rfl rfl (X3_word_m _ hj (by decide) es3) kV_X3_38 rfl (by omega) rfl (Nat.le_of_ble_eq_true rfl) dX3_shape_49 ?_
        refine j_bit (fun hb => ?_)
        exact j_ireturn C rfl rfl (znar hb) rfl dX3_shape_52
      · refine j_ldcS (pc := 42) (i := 1) C (fun _ _ h => h.2.1) dX3_shape_42 ?_
        refine j_goto (pc := 44) (tgt := 49) C dX3_shape_44 rfl ?_
        refine j_bP (fun v3 s4 es4 => ?_)
        refine j_callV1 (pc := 49) C obX3 rfl rfl (X3_word_m _ hj (by decide) es4) kV_X3_38 rfl (by omega) rfl (Nat.le_of_ble_eq_true rfl) dX3_shape_49 ?_
        refine j_bit (fun hb => ?_)
        exact j_ireturn C rfl rfl (znar hb) rfl dX3_shape_52
    · refine j_iconst (pc := 27) C dX3_shape_27 ?_
      refine fp_X3_65 (pc := 28) C is160 (Or.inl rfl) dX3_shape_28 ?_
      refine j_let (fun s5 => ?_)
      refine j_aload_n (pc := 31) C dX3_shape_31 rfl 0 rfl ?_
      refine j_aload_n (pc := 32) C dX3_shape_32 rfl 0 rfl ?_
      refine gf_X3_12 (pc := 33) C dX3_shape_33 ?_
      refine gf_X3_65 (pc := 36) C is160 dX3_shape_36 ?_
      refine j_if_eq (pc := 39) (tgt := 47) C dX3_shape_39 rfl ?_ ?_
      · refine j_ldcS (pc := 47) (i := 2) C (fun _ _ h => h.2.2.1) dX3_shape_47 ?_
        refine j_bP (fun v4 s6 es6 => ?_)
        refine j_callV1 (pc := 49) C obX3 rfl rfl (X3_word_m _ hj (by decide) es6) kV_X3_38 rfl (by omega) rfl (Nat.le_of_ble_eq_true rfl) dX3_shape_49 ?_
        refine j_bit (fun hb => ?_)
        exact j_ireturn C rfl rfl (znar hb) rfl dX3_shape_52
      · refine j_ldcS (pc := 42) (i := 1) C (fun _ _ h => h.2.1) dX3_shape_42 ?_
        refine j_goto (pc := 44) (tgt := 49) C dX3_shape_44 rfl ?_
        refine j_bP (fun v5 s7 es7 => ?_)
        refine j_callV1 (pc := 49) C obX3 rfl rfl (X3_word_m _ hj (by decide) es7) kV_X3_38 rfl (by omega) rfl (Nat.le_of_ble_eq_true rfl) dX3_shape_49 ?_
        refine j_bit (fun hb => ?_)
        exact j_ireturn C rfl rfl (znar hb) rfl dX3_shape_52)
def X3_test (st : PS) : Option (Int × PS) := bI (X3_sign st) (fun v1 => if wI v1 = wI (-1) then if 0 ≤ wI (-1) then zlet (zu st 170 3 ((st 170 3) + 1)) (fun s1 => bI (X3_sign s1) (fun v4 => if wI v4 = wI 60 then zlet (zu s1 170 3 ((s1 170 3) + 1)) (fun s2 => bP (X3_number s2) (fun v5 s3 => if 0 ≤ wI v5 then bI (X2_put 160 s3 (-1) v4 v5) (fun s4 => some (1, s4)) else (some (0, s3)))) else (if wI v4 = wI 61 then zlet (zu s1 170 3 ((s1 170 3) + 1)) (fun s5 => bP (X3_number s5) (fun v6 s6 => if 0 ≤ wI v6 then bI (X2_put 160 s6 (-1) v4 v6) (fun s7 => some (1, s7)) else (some (0, s6)))) else (if wI v4 = wI 62 then zlet (zu s1 170 3 ((s1 170 3) + 1)) (fun s8 => bP (X3_number s8) (fun v7 s9 => if 0 ≤ wI v7 then bI (X2_put 160 s9 (-1) v4 v7) (fun s10 => some (1, s10)) else (some (0, s9)))) else (some (0, s1)))))) else (some (0, st)) else (bI (X3_sign st) (fun v8 => bI (zix 0 (wC v8)) (fun v9 => if 0 ≤ wI v9 then zlet (zu st 170 3 ((st 170 3) + 1)) (fun s11 => bI (X3_sign s11) (fun v10 => if wI v10 = wI 60 then zlet (zu s11 170 3 ((s11 170 3) + 1)) (fun s12 => bP (X3_number s12) (fun v11 s13 => if 0 ≤ wI v11 then bI (X2_put 160 s13 v9 v10 v11) (fun s14 => some (1, s14)) else (some (0, s13)))) else (if wI v10 = wI 61 then zlet (zu s11 170 3 ((s11 170 3) + 1)) (fun s15 => bP (X3_number s15) (fun v12 s16 => if 0 ≤ wI v12 then bI (X2_put 160 s16 v9 v10 v12) (fun s17 => some (1, s17)) else (some (0, s16)))) else (if wI v10 = wI 62 then zlet (zu s11 170 3 ((s11 170 3) + 1)) (fun s18 => bP (X3_number s18) (fun v13 s19 => if 0 ≤ wI v13 then bI (X2_put 160 s19 v9 v10 v13) (fun s20 => some (1, s20)) else (some (0, s19)))) else (some (0, s11)))))) else (some (0, st))))))
set_option maxHeartbeats 4000000 in
set_option maxRecDepth 100000 in
theorem X3_test_m (l : Launch) {G : GD} (hj : zInj sC G) {st : PS} {r : (Int × PS)} (hr : X3_test st = some r) : zM l sC G yX3_test cX3_test 4 (some .boolean) 4 [.ref (G.2.2.1 170)] st (some (.int (oI r.1))) r.2 :=
  zEnter (f := fI) hr hj (by decide) rfl (lv := [(0, .ref (G.2.2.1 170))]) rfl (Nat.le_of_ble_eq_true rfl) (fun X _ hN C => by
    unfold X3_test
    refine j_aload_n (pc := 0) C dX3_test_0 rfl 0 rfl ?_
    refine j_bI (fun v1 ev1 => ?_)
    refine j_callV1 (pc := 1) C obX3 rfl rfl (X3_sign_m _ hj ev1) kV_X3_42 rfl (by omega) rfl (Nat.le_of_ble_eq_true rfl) dX3_test_1 ?_
    refine j_iconst (pc := 4) C dX3_test_4 ?_
    refine j_icmp_ne (pc := 5) (tgt := 12) C dX3_test_5 rfl ?_ ?_
    · refine j_iconst (pc := 8) C dX3_test_8 ?_
      refine j_goto (pc := 9) (tgt := 22) C dX3_test_9 rfl ?_
      refine j_istore_n (pc := 22) C hN dX3_test_22 rfl (by decide) (lv' := [(1, .int (oI (-1))), (0, .ref (G.2.2.1 170))]) rfl ?_
      refine j_iload_n (pc := 23) C dX3_test_23 rfl 0 rfl ?_
      refine j_if_ge (pc := 24) (tgt := 29) C dX3_test_24 rfl ?_ ?_
      · refine j_aload_n (pc := 29) C dX3_test_29 rfl 1 rfl ?_
        refine j_dup (pc := 30) C dX3_test_30 rfl ?_
        refine gf_X3_26 (pc := 31) C dX3_test_31 ?_
        refine j_iconst (pc := 34) C dX3_test_34 ?_
        refine j_iadd (pc := 35) C dX3_test_35 ?_
        refine fp_X3_26 (pc := 36) C dX3_test_36 ?_
        refine j_let (fun s1 => ?_)
        refine j_aload_n (pc := 39) C dX3_test_39 rfl 1 rfl ?_
        refine j_bI (fun v4 ev4 => ?_)
        refine j_callV1 (pc := 40) C obX3 rfl rfl (X3_sign_m _ hj ev4) kV_X3_42 rfl (by omega) rfl (Nat.le_of_ble_eq_true rfl) dX3_test_40 ?_
        refine j_istore_n (pc := 43) C hN dX3_test_43 rfl (by decide) (lv' := [(2, .int (oI v4)), (1, .int (oI (-1))), (0, .ref (G.2.2.1 170))]) rfl ?_
        refine j_iload_n (pc := 44) C dX3_test_44 rfl 0 rfl ?_
        refine j_bipush (pc := 45) C dX3_test_45 (by decide) ?_
        refine j_icmp_eq (pc := 47) (tgt := 64) C dX3_test_47 rfl ?_ ?_
        · refine j_aload_n (pc := 64) C dX3_test_64 rfl 2 rfl ?_
          refine j_dup (pc := 65) C dX3_test_65 rfl ?_
          refine gf_X3_26 (pc := 66) C dX3_test_66 ?_
          refine j_iconst (pc := 69) C dX3_test_69 ?_
          refine j_iadd (pc := 70) C dX3_test_70 ?_
          refine fp_X3_26 (pc := 71) C dX3_test_71 ?_
          refine j_let (fun s2 => ?_)
          refine j_aload_n (pc := 74) C dX3_test_74 rfl 2 rfl ?_
          refine j_bP (fun v5 s3 es3 => ?_)
          refine j_callV1 (pc := 75) C obX3 rfl rfl (X3_number_m _ hj es3) kV_X3_53 rfl (by omega) rfl (Nat.le_of_ble_eq_true rfl) dX3_test_75 ?_
          refine j_istore_n (pc := 78) C hN dX3_test_78 rfl (by decide) (lv' := [(3, .int (oI v5)), (2, .int (oI v4)), (1, .int (oI (-1))), (0, .ref (G.2.2.1 170))]) rfl ?_
          refine j_iload_n (pc := 79) C dX3_test_79 rfl 0 rfl ?_
          refine j_if_ge (pc := 80) (tgt := 85) C dX3_test_80 rfl ?_ ?_
          · refine j_aload_n (pc := 85) C dX3_test_85 rfl 3 rfl ?_
            refine gf_X3_12 (pc := 86) C dX3_test_86 ?_
            refine j_iload_n (pc := 89) C dX3_test_89 rfl 2 rfl ?_
            refine j_iload_n (pc := 90) C dX3_test_90 rfl 1 rfl ?_
            refine j_iload_n (pc := 91) C dX3_test_91 rfl 0 rfl ?_
            refine j_bI (fun s4 es4 => ?_)
            refine j_callV0 (pc := 92) C (obX2 is160) rfl rfl (X2_put_m _ hj is160 es4) kV_X3_91 rfl (by omega) rfl (Nat.le_of_ble_eq_true rfl) dX3_test_92 ?_
            refine j_iconst (pc := 95) C dX3_test_95 ?_
            exact j_ireturn C rfl rfl (znar (Or.inr rfl)) rfl dX3_test_96
          · refine j_iconst (pc := 83) C dX3_test_83 ?_
            exact j_ireturn C rfl rfl (znar (Or.inl rfl)) rfl dX3_test_84
        · refine j_iload_n (pc := 50) C dX3_test_50 rfl 0 rfl ?_
          refine j_bipush (pc := 51) C dX3_test_51 (by decide) ?_
          refine j_icmp_eq (pc := 53) (tgt := 64) C dX3_test_53 rfl ?_ ?_
          · refine j_aload_n (pc := 64) C dX3_test_64 rfl 2 rfl ?_
            refine j_dup (pc := 65) C dX3_test_65 rfl ?_
            refine gf_X3_26 (pc := 66) C dX3_test_66 ?_
            refine j_iconst (pc := 69) C dX3_test_69 ?_
            refine j_iadd (pc := 70) C dX3_test_70 ?_
            refine fp_X3_26 (pc := 71) C dX3_test_71 ?_
            refine j_let (fun s5 => ?_)
            refine j_aload_n (pc := 74) C dX3_test_74 rfl 2 rfl ?_
            refine j_bP (fun v6 s6 es6 => ?_)
            refine j_callV1 (pc := 75) C obX3 rfl rfl (X3_number_m _ hj es6) kV_X3_53 rfl (by omega) rfl (Nat.le_of_ble_eq_true rfl) dX3_test_75 ?_
            refine j_istore_n (pc := 78) C hN dX3_test_78 rfl (by decide) (lv' := [(3, .int (oI v6)), (2, .int (oI v4)), (1, .int (oI (-1))), (0, .ref (G.2.2.1 170))]) rfl ?_
            refine j_iload_n (pc := 79) C dX3_test_79 rfl 0 rfl ?_
            refine j_if_ge (pc := 80) (tgt := 85) C dX3_test_80 rfl ?_ ?_
            · refine j_aload_n (pc := 85) C dX3_test_85 rfl 3 rfl ?_
              refine gf_X3_12 (pc := 86) C dX3_test_86 ?_
              refine j_iload_n (pc := 89) C dX3_test_89 rfl 2 rfl ?_
              refine j_iload_n (pc := 90) C dX3_test_90 rfl 1 rfl ?_
              refine j_iload_n (pc := 91) C dX3_test_91 rfl 0 rfl ?_
              refine j_bI (fun s7 es7 => ?_)
              refine j_callV0 (pc := 92) C (obX2 is160) rfl rfl (X2_put_m _ hj is160 es7) kV_X3_91 rfl (by omega) rfl (Nat.le_of_ble_eq_true rfl) dX3_test_92 ?_
              refine j_iconst (pc := 95) C dX3_test_95 ?_
              exact j_ireturn C rfl rfl (znar (Or.inr rfl)) rfl dX3_test_96
            · refine j_iconst (pc := 83) C dX3_test_83 ?_
              exact j_ireturn C rfl rfl (znar (Or.inl rfl)) rfl dX3_test_84
          · refine j_iload_n (pc := 56) C dX3_test_56 rfl 0 rfl ?_
            refine j_bipush (pc := 57) C dX3_test_57 (by decide) ?_
            refine j_icmp_eq (pc := 59) (tgt := 64) C dX3_test_59 rfl ?_ ?_
            · refine j_aload_n (pc := 64) C dX3_test_64 rfl 2 rfl ?_
              refine j_dup (pc := 65) C dX3_test_65 rfl ?_
              refine gf_X3_26 (pc := 66) C dX3_test_66 ?_
              refine j_iconst (pc := 69) C dX3_test_69 ?_
              refine j_iadd (pc := 70) C dX3_test_70 ?_
              refine fp_X3_26 (pc := 71) C dX3_test_71 ?_
              refine j_let (fun s8 => ?_)
              refine j_aload_n (pc := 74) C dX3_test_74 rfl 2 rfl ?_
              refine j_bP (fun v7 s9 es9 => ?_)
              refine j_callV1 (pc := 75) C obX3 rfl rfl (X3_number_m _ hj es9) kV_X3_53 rfl (by omega) rfl (Nat.le_of_ble_eq_true rfl) dX3_test_75 ?_
              refine j_istore_n (pc := 78) C hN dX3_test_78 rfl (by decide) (lv' := [(3, .int (oI v7)), (2, .int (oI v4)), (1, .int (oI (-1))), (0, .ref (G.2.2.1 170))]) rfl ?_
              refine j_iload_n (pc := 79) C dX3_test_79 rfl 0 rfl ?_
              refine j_if_ge (pc := 80) (tgt := 85) C dX3_test_80 rfl ?_ ?_
              · refine j_aload_n (pc := 85) C dX3_test_85 rfl 3 rfl ?_
                refine gf_X3_12 (pc := 86) C dX3_test_86 ?_
                refine j_iload_n (pc := 89) C dX3_test_89 rfl 2 rfl ?_
                refine j_iload_n (pc := 90) C dX3_test_90 rfl 1 rfl ?_
                refine j_iload_n (pc := 91) C dX3_test_91 rfl 0 rfl ?_
                refine j_bI (fun s10 es10 => ?_)
                refine j_callV0 (pc := 92) C (obX2 is160) rfl rfl (X2_put_m _ hj is160 es10) kV_X3_91 rfl (by omega) rfl (Nat.le_of_ble_eq_true rfl) dX3_test_92 ?_
                refine j_iconst (pc := 95) C dX3_test_95 ?_
                exact j_ireturn C rfl rfl (znar (Or.inr rfl)) rfl dX3_test_96
              · refine j_iconst (pc := 83) C dX3_test_83 ?_
                exact j_ireturn C rfl rfl (znar (Or.inl rfl)) rfl dX3_test_84
            · refine j_iconst (pc := 62) C dX3_test_62 ?_
              exact j_ireturn C rfl rfl (znar (Or.inl rfl)) rfl dX3_test_63
      · refine j_iconst (pc := 27) C dX3_test_27 ?_
        exact j_ireturn C rfl rfl (znar (Or.inl rfl)) rfl dX3_test_28
    · refine j_ldcS (pc := 12) (i := 0) C (fun _ _ h => h.1) dX3_test_12 ?_
      refine j_aload_n (pc := 14) C dX3_test_14 rfl 0 rfl ?_
      refine j_bI (fun v8 ev8 => ?_)
      refine j_callV1 (pc := 15) C obX3 rfl rfl (X3_sign_m _ hj ev8) kV_X3_42 rfl (by omega) rfl (Nat.le_of_ble_eq_true rfl) dX3_test_15 ?_
      refine j_i2c (pc := 18) C dX3_test_18 ?_
      refine j_bI (fun v9 ev9 => ?_)
      refine j_callK (pc := 19) C (by decide) rfl (J0_indexOf_m _ hj (by decide) ev9) kV_X3_102 rfl (by omega) rfl (Nat.le_of_ble_eq_true rfl) dX3_test_19 ?_
      refine j_istore_n (pc := 22) C hN dX3_test_22 rfl (by decide) (lv' := [(1, .int (oI v9)), (0, .ref (G.2.2.1 170))]) rfl ?_
      refine j_iload_n (pc := 23) C dX3_test_23 rfl 0 rfl ?_
      refine j_if_ge (pc := 24) (tgt := 29) C dX3_test_24 rfl ?_ ?_
      · refine j_aload_n (pc := 29) C dX3_test_29 rfl 1 rfl ?_
        refine j_dup (pc := 30) C dX3_test_30 rfl ?_
        refine gf_X3_26 (pc := 31) C dX3_test_31 ?_
        refine j_iconst (pc := 34) C dX3_test_34 ?_
        refine j_iadd (pc := 35) C dX3_test_35 ?_
        refine fp_X3_26 (pc := 36) C dX3_test_36 ?_
        refine j_let (fun s11 => ?_)
        refine j_aload_n (pc := 39) C dX3_test_39 rfl 1 rfl ?_
        refine j_bI (fun v10 ev10 => ?_)
        refine j_callV1 (pc := 40) C obX3 rfl rfl (X3_sign_m _ hj ev10) kV_X3_42 rfl (by omega) rfl (Nat.le_of_ble_eq_true rfl) dX3_test_40 ?_
        refine j_istore_n (pc := 43) C hN dX3_test_43 rfl (by decide) (lv' := [(2, .int (oI v10)), (1, .int (oI v9)), (0, .ref (G.2.2.1 170))]) rfl ?_
        refine j_iload_n (pc := 44) C dX3_test_44 rfl 0 rfl ?_
        refine j_bipush (pc := 45) C dX3_test_45 (by decide) ?_
        refine j_icmp_eq (pc := 47) (tgt := 64) C dX3_test_47 rfl ?_ ?_
        · refine j_aload_n (pc := 64) C dX3_test_64 rfl 2 rfl ?_
          refine j_dup (pc := 65) C dX3_test_65 rfl ?_
          refine gf_X3_26 (pc := 66) C dX3_test_66 ?_
          refine j_iconst (pc := 69) C dX3_test_69 ?_
          refine j_iadd (pc := 70) C dX3_test_70 ?_
          refine fp_X3_26 (pc := 71) C dX3_test_71 ?_
          refine j_let (fun s12 => ?_)
          refine j_aload_n (pc := 74) C dX3_test_74 rfl 2 rfl ?_
          refine j_bP (fun v11 s13 es13 => ?_)
          refine j_callV1 (pc := 75) C obX3 rfl rfl (X3_number_m _ hj es13) kV_X3_53 rfl (by omega) rfl (Nat.le_of_ble_eq_true rfl) dX3_test_75 ?_
          refine j_istore_n (pc := 78) C hN dX3_test_78 rfl (by decide) (lv' := [(3, .int (oI v11)), (2, .int (oI v10)), (1, .int (oI v9)), (0, .ref (G.2.2.1 170))]) rfl ?_
          refine j_iload_n (pc := 79) C dX3_test_79 rfl 0 rfl ?_
          refine j_if_ge (pc := 80) (tgt := 85) C dX3_test_80 rfl ?_ ?_
          · refine j_aload_n (pc := 85) C dX3_test_85 rfl 3 rfl ?_
            refine gf_X3_12 (pc := 86) C dX3_test_86 ?_
            refine j_iload_n (pc := 89) C dX3_test_89 rfl 2 rfl ?_
            refine j_iload_n (pc := 90) C dX3_test_90 rfl 1 rfl ?_
            refine j_iload_n (pc := 91) C dX3_test_91 rfl 0 rfl ?_
            refine j_bI (fun s14 es14 => ?_)
            refine j_callV0 (pc := 92) C (obX2 is160) rfl rfl (X2_put_m _ hj is160 es14) kV_X3_91 rfl (by omega) rfl (Nat.le_of_ble_eq_true rfl) dX3_test_92 ?_
            refine j_iconst (pc := 95) C dX3_test_95 ?_
            exact j_ireturn C rfl rfl (znar (Or.inr rfl)) rfl dX3_test_96
          · refine j_iconst (pc := 83) C dX3_test_83 ?_
            exact j_ireturn C rfl rfl (znar (Or.inl rfl)) rfl dX3_test_84
        · refine j_iload_n (pc := 50) C dX3_test_50 rfl 0 rfl ?_
          refine j_bipush (pc := 51) C dX3_test_51 (by decide) ?_
          refine j_icmp_eq (pc := 53) (tgt := 64) C dX3_test_53 rfl ?_ ?_
          · refine j_aload_n (pc := 64) C dX3_test_64 rfl 2 rfl ?_
            refine j_dup (pc := 65) C dX3_test_65 rfl ?_
            refine gf_X3_26 (pc := 66) C dX3_test_66 ?_
            refine j_iconst (pc := 69) C dX3_test_69 ?_
            refine j_iadd (pc := 70) C dX3_test_70 ?_
            refine fp_X3_26 (pc := 71) C dX3_test_71 ?_
            refine j_let (fun s15 => ?_)
            refine j_aload_n (pc := 74) C dX3_test_74 rfl 2 rfl ?_
            refine j_bP (fun v12 s16 es16 => ?_)
            refine j_callV1 (pc := 75) C obX3 rfl rfl (X3_number_m _ hj es16) kV_X3_53 rfl (by omega) rfl (Nat.le_of_ble_eq_true rfl) dX3_test_75 ?_
            refine j_istore_n (pc := 78) C hN dX3_test_78 rfl (by decide) (lv' := [(3, .int (oI v12)), (2, .int (oI v10)), (1, .int (oI v9)), (0, .ref (G.2.2.1 170))]) rfl ?_
            refine j_iload_n (pc := 79) C dX3_test_79 rfl 0 rfl ?_
            refine j_if_ge (pc := 80) (tgt := 85) C dX3_test_80 rfl ?_ ?_
            · refine j_aload_n (pc := 85) C dX3_test_85 rfl 3 rfl ?_
              refine gf_X3_12 (pc := 86) C dX3_test_86 ?_
              refine j_iload_n (pc := 89) C dX3_test_89 rfl 2 rfl ?_
              refine j_iload_n (pc := 90) C dX3_test_90 rfl 1 rfl ?_
              refine j_iload_n (pc := 91) C dX3_test_91 rfl 0 rfl ?_
              refine j_bI (fun s17 es17 => ?_)
              refine j_callV0 (pc := 92) C (obX2 is160) rfl rfl (X2_put_m _ hj is160 es17) kV_X3_91 rfl (by omega) rfl (Nat.le_of_ble_eq_true rfl) dX3_test_92 ?_
              refine j_iconst (pc := 95) C dX3_test_95 ?_
              exact j_ireturn C rfl rfl (znar (Or.inr rfl)) rfl dX3_test_96
            · refine j_iconst (pc := 83) C dX3_test_83 ?_
              exact j_ireturn C rfl rfl (znar (Or.inl rfl)) rfl dX3_test_84
          · refine j_iload_n (pc := 56) C dX3_test_56 rfl 0 rfl ?_
            refine j_bipush (pc := 57) C dX3_test_57 (by decide) ?_
            refine j_icmp_eq (pc := 59) (tgt := 64) C dX3_test_59 rfl ?_ ?_
            · refine j_aload_n (pc := 64) C dX3_test_64 rfl 2 rfl ?_
              refine j_dup (pc := 65) C dX3_test_65 rfl ?_
              refine gf_X3_26 (pc := 66) C dX3_test_66 ?_
              refine j_iconst (pc := 69) C dX3_test_69 ?_
              refine j_iadd (pc := 70) C dX3_test_70 ?_
              refine fp_X3_26 (pc := 71) C dX3_test_71 ?_
              refine j_let (fun s18 => ?_)
              refine j_aload_n (pc := 74) C dX3_test_74 rfl 2 rfl ?_
              refine j_bP (fun v13 s19 es19 => ?_)
              refine j_callV1 (pc := 75) C obX3 rfl rfl (X3_number_m _ hj es19) kV_X3_53 rfl (by omega) rfl (Nat.le_of_ble_eq_true rfl) dX3_test_75 ?_
              refine j_istore_n (pc := 78) C hN dX3_test_78 rfl (by decide) (lv' := [(3, .int (oI v13)), (2, .int (oI v10)), (1, .int (oI v9)), (0, .ref (G.2.2.1 170))]) rfl ?_
              refine j_iload_n (pc := 79) C dX3_test_79 rfl 0 rfl ?_
              refine j_if_ge (pc := 80) (tgt := 85) C dX3_test_80 rfl ?_ ?_
              · refine j_aload_n (pc := 85) C dX3_test_85 rfl 3 rfl ?_
                refine gf_X3_12 (pc := 86) C dX3_test_86 ?_
                refine j_iload_n (pc := 89) C dX3_test_89 rfl 2 rfl ?_
                refine j_iload_n (pc := 90) C dX3_test_90 rfl 1 rfl ?_
                refine j_iload_n (pc := 91) C dX3_test_91 rfl 0 rfl ?_
                refine j_bI (fun s20 es20 => ?_)
                refine j_callV0 (pc := 92) C (obX2 is160) rfl rfl (X2_put_m _ hj is160 es20) kV_X3_91 rfl (by omega) rfl (Nat.le_of_ble_eq_true rfl) dX3_test_92 ?_
                refine j_iconst (pc := 95) C dX3_test_95 ?_
                exact j_ireturn C rfl rfl (znar (Or.inr rfl)) rfl dX3_test_96
              · refine j_iconst (pc := 83) C dX3_test_83 ?_
                exact j_ireturn C rfl rfl (znar (Or.inl rfl)) rfl dX3_test_84
            · refine j_iconst (pc := 62) C dX3_test_62 ?_
              exact j_ireturn C rfl rfl (znar (Or.inl rfl)) rfl dX3_test_63
      · refine j_iconst (pc := 27) C dX3_test_27 ?_
        exact j_ireturn C rfl rfl (znar (Or.inl rfl)) rfl dX3_test_28)
def X3_either_L7 (fac : PS → Int → Option (Int × PS)) (l1 : Int) : Nat → PS → Int → Int → Int → Option (Int × PS)
  | 0, _, _, _, _ => none
  | k + 1, st, l2, l3, l4 => if wI 100 ≤ wI l4 then some (0, st) else (bP (fac st l1) (fun v1 s1 => if wI v1 = 0 then some (0, s1) else (if wI l3 = 0 then bI (X3_sign s1) (fun v2 => if wI v2 = wI 38 then zlet (zu s1 170 3 ((s1 170 3) + 1)) (fun s3 => X3_either_L7 fac l1 k s3 l2 1 (l4 + 1)) else (if wI l2 = 0 then bI (X3_sign s1) (fun v3 => if wI v3 = wI 124 then zlet (zu s1 170 3 ((s1 170 3) + 1)) (fun s5 => X3_either_L7 fac l1 k s5 1 0 (l4 + 1)) else (some (1, s1))) else (bI (X2_put 160 s1 8 0 0) (fun s6 => bI (X3_sign s6) (fun v4 => if wI v4 = wI 124 then zlet (zu s6 170 3 ((s6 170 3) + 1)) (fun s7 => X3_either_L7 fac l1 k s7 1 0 (l4 + 1)) else (some (1, s6))))))) else (bI (X2_put 160 s1 7 0 0) (fun s8 => bI (X3_sign s8) (fun v5 => if wI v5 = wI 38 then zlet (zu s8 170 3 ((s8 170 3) + 1)) (fun s9 => X3_either_L7 fac l1 k s9 l2 1 (l4 + 1)) else (if wI l2 = 0 then bI (X3_sign s8) (fun v6 => if wI v6 = wI 124 then zlet (zu s8 170 3 ((s8 170 3) + 1)) (fun s11 => X3_either_L7 fac l1 k s11 1 0 (l4 + 1)) else (some (1, s8))) else (bI (X2_put 160 s8 8 0 0) (fun s12 => bI (X3_sign s12) (fun v7 => if wI v7 = wI 124 then zlet (zu s12 170 3 ((s12 170 3) + 1)) (fun s13 => X3_either_L7 fac l1 k s13 1 0 (l4 + 1)) else (some (1, s12))))))))))))
def X3_either (fac : PS → Int → Option (Int × PS))  (st : PS) (l1 : Int) : Option (Int × PS) := X3_either_L7 fac l1 FU st 0 0 0
set_option maxHeartbeats 4000000 in
set_option maxRecDepth 100000 in
theorem X3_either_L7_j {X : JX} {G : GD} {df : Nat} (C : zC X sC G RX3 cX3_either (some .boolean) (df + 2)) (hN : X.2.2.2.2.2.2.2.2.2.2.2.2 = 5) (hj : zInj sC G) {fac : PS → Int → Option (Int × PS)} (hfac : ∀ {st : PS} {l1 : Int} {r : Int × PS}, fac st l1 = some r → zM X.2.1 sC G yX3_factor cX3_factor 3 (some .boolean) df [.ref (G.2.2.1 170), .int (oI l1)] st (some (.int (oI r.1))) r.2) {l1 : Int} : ∀ (k : Nat) (st : PS) (l2 : Int) (l3 : Int) (l4 : Int), J X (zI sC G) (zQ sC G fI) st [(0, .ref (G.2.2.1 170)), (1, .int (oI l1)), (2, .int (oI l2)), (3, .int (oI l3)), (4, .int (oI l4))] 7 [] (X3_either_L7 fac l1 k st l2 l3 l4) := by
  intro k
  induction k with
  | zero => intro st l2 l3 l4; exact j_none
  | succ k ih =>
    intro st l2 l3 l4
    rw [X3_either_L7]
    refine j_iload (pc := 7) C dX3_either_7 4 rfl ?_
    refine j_bipush (pc := 9) C dX3_either_9 (by decide) ?_
    refine j_icmp_ge (pc := 11) (tgt := 110) C dX3_either_11 rfl ?_ ?_
    · refine j_iconst (pc := 110) C dX3_either_110 ?_
      exact j_ireturn C rfl rfl (znar (Or.inl rfl)) rfl dX3_either_111
    · refine j_aload_n (pc := 14) C dX3_either_14 rfl 0 rfl ?_
      refine j_iload_n (pc := 15) C dX3_either_15 rfl 1 rfl ?_
      refine j_bP (fun v1 s1 es1 => ?_)
      refine j_callV1 (pc := 16) C obX3 rfl rfl (hfac es1) kV_X3_88 rfl (by omega) rfl (Nat.le_of_ble_eq_true rfl) dX3_either_16 ?_
      refine j_if_ne (pc := 19) (tgt := 24) C dX3_either_19 rfl ?_ ?_
      · refine j_iconst (pc := 22) C dX3_either_22 ?_
        exact j_ireturn C rfl rfl (znar (Or.inl rfl)) rfl dX3_either_23
      · refine j_iload_n (pc := 24) C dX3_either_24 rfl 3 rfl ?_
        refine j_if_eq (pc := 25) (tgt := 39) C dX3_either_25 rfl ?_ ?_
        · refine j_aload_n (pc := 39) C dX3_either_39 rfl 0 rfl ?_
          refine j_bI (fun v2 ev2 => ?_)
          refine j_callV1 (pc := 40) C obX3 rfl rfl (X3_sign_m _ hj ev2) kV_X3_42 rfl (by omega) rfl (Nat.le_of_ble_eq_true rfl) dX3_either_40 ?_
          refine j_bipush (pc := 43) C dX3_either_43 (by decide) ?_
          refine j_icmp_ne (pc := 45) (tgt := 52) C dX3_either_45 rfl ?_ ?_
          · refine j_iconst (pc := 48) C dX3_either_48 ?_
            refine j_goto (pc := 49) (tgt := 53) C dX3_either_49 rfl ?_
            refine j_istore_n (pc := 53) C hN dX3_either_53 rfl (by decide) (lv' := [(3, .int (oI 1)), (0, .ref (G.2.2.1 170)), (1, .int (oI l1)), (2, .int (oI l2)), (4, .int (oI l4))]) rfl ?_
            refine j_iload_n (pc := 54) C dX3_either_54 rfl 0 rfl ?_
            refine j_if_ne_t (pc := 55) (tgt := 94) C dX3_either_55 rfl (by decide) ?_
            refine j_aload_n (pc := 94) C dX3_either_94 rfl 1 rfl ?_
            refine j_dup (pc := 95) C dX3_either_95 rfl ?_
            refine gf_X3_26 (pc := 96) C dX3_either_96 ?_
            refine j_iconst (pc := 99) C dX3_either_99 ?_
            refine j_iadd (pc := 100) C dX3_either_100 ?_
            refine fp_X3_26 (pc := 101) C dX3_either_101 ?_
            refine j_let (fun s3 => ?_)
            refine j_iinc (pc := 104) C hN dX3_either_104 4 rfl (by decide) (lv' := [(4, .int (oI (l4 + 1))), (3, .int (oI 1)), (0, .ref (G.2.2.1 170)), (1, .int (oI l1)), (2, .int (oI l2))]) rfl ?_
            refine j_goto (pc := 107) (tgt := 7) C dX3_either_107 rfl ?_
            exact j_sub [2, 3, 4, 1, 0] rfl (ih _ _ _ _)
          · refine j_iconst (pc := 52) C dX3_either_52 ?_
            refine j_istore_n (pc := 53) C hN dX3_either_53 rfl (by decide) (lv' := [(3, .int (oI 0)), (0, .ref (G.2.2.1 170)), (1, .int (oI l1)), (2, .int (oI l2)), (4, .int (oI l4))]) rfl ?_
            refine j_iload_n (pc := 54) C dX3_either_54 rfl 0 rfl ?_
            refine j_if_ne_f (pc := 55) (tgt := 94) C dX3_either_55 rfl (by decide) ?_
            refine j_iload_n (pc := 58) C dX3_either_58 rfl 3 rfl ?_
            refine j_if_eq (pc := 59) (tgt := 73) C dX3_either_59 rfl ?_ ?_
            · refine j_aload_n (pc := 73) C dX3_either_73 rfl 1 rfl ?_
              refine j_bI (fun v3 ev3 => ?_)
              refine j_callV1 (pc := 74) C obX3 rfl rfl (X3_sign_m _ hj ev3) kV_X3_42 rfl (by omega) rfl (Nat.le_of_ble_eq_true rfl) dX3_either_74 ?_
              refine j_bipush (pc := 77) C dX3_either_77 (by decide) ?_
              refine j_icmp_ne (pc := 79) (tgt := 86) C dX3_either_79 rfl ?_ ?_
              · refine j_iconst (pc := 82) C dX3_either_82 ?_
                refine j_goto (pc := 83) (tgt := 87) C dX3_either_83 rfl ?_
                refine j_istore_n (pc := 87) C hN dX3_either_87 rfl (by decide) (lv' := [(2, .int (oI 1)), (3, .int (oI 0)), (0, .ref (G.2.2.1 170)), (1, .int (oI l1)), (4, .int (oI l4))]) rfl ?_
                refine j_iload_n (pc := 88) C dX3_either_88 rfl 0 rfl ?_
                refine j_if_ne_t (pc := 89) (tgt := 94) C dX3_either_89 rfl (by decide) ?_
                refine j_aload_n (pc := 94) C dX3_either_94 rfl 2 rfl ?_
                refine j_dup (pc := 95) C dX3_either_95 rfl ?_
                refine gf_X3_26 (pc := 96) C dX3_either_96 ?_
                refine j_iconst (pc := 99) C dX3_either_99 ?_
                refine j_iadd (pc := 100) C dX3_either_100 ?_
                refine fp_X3_26 (pc := 101) C dX3_either_101 ?_
                refine j_let (fun s5 => ?_)
                refine j_iinc (pc := 104) C hN dX3_either_104 4 rfl (by decide) (lv' := [(4, .int (oI (l4 + 1))), (2, .int (oI 1)), (3, .int (oI 0)), (0, .ref (G.2.2.1 170)), (1, .int (oI l1))]) rfl ?_
                refine j_goto (pc := 107) (tgt := 7) C dX3_either_107 rfl ?_
                exact j_sub [3, 4, 1, 2, 0] rfl (ih _ _ _ _)
              · refine j_iconst (pc := 86) C dX3_either_86 ?_
                refine j_istore_n (pc := 87) C hN dX3_either_87 rfl (by decide) (lv' := [(2, .int (oI 0)), (3, .int (oI 0)), (0, .ref (G.2.2.1 170)), (1, .int (oI l1)), (4, .int (oI l4))]) rfl ?_
                refine j_iload_n (pc := 88) C dX3_either_88 rfl 0 rfl ?_
                refine j_if_ne_f (pc := 89) (tgt := 94) C dX3_either_89 rfl (by decide) ?_
                refine j_iconst (pc := 92) C dX3_either_92 ?_
                exact j_ireturn C rfl rfl (znar (Or.inr rfl)) rfl dX3_either_93
            · refine j_aload_n (pc := 62) C dX3_either_62 rfl 1 rfl ?_
              refine gf_X3_12 (pc := 63) C dX3_either_63 ?_
              refine j_bipush (pc := 66) C dX3_either_66 (by decide) ?_
              refine j_iconst (pc := 68) C dX3_either_68 ?_
              refine j_iconst (pc := 69) C dX3_either_69 ?_
              refine j_bI (fun s6 es6 => ?_)
              refine j_callV0 (pc := 70) C (obX2 is160) rfl rfl (X2_put_m _ hj is160 es6) kV_X3_91 rfl (by omega) rfl (Nat.le_of_ble_eq_true rfl) dX3_either_70 ?_
              refine j_aload_n (pc := 73) C dX3_either_73 rfl 1 rfl ?_
              refine j_bI (fun v4 ev4 => ?_)
              refine j_callV1 (pc := 74) C obX3 rfl rfl (X3_sign_m _ hj ev4) kV_X3_42 rfl (by omega) rfl (Nat.le_of_ble_eq_true rfl) dX3_either_74 ?_
              refine j_bipush (pc := 77) C dX3_either_77 (by decide) ?_
              refine j_icmp_ne (pc := 79) (tgt := 86) C dX3_either_79 rfl ?_ ?_
              · refine j_iconst (pc := 82) C dX3_either_82 ?_
                refine j_goto (pc := 83) (tgt := 87) C dX3_either_83 rfl ?_
                refine j_istore_n (pc := 87) C hN dX3_either_87 rfl (by decide) (lv' := [(2, .int (oI 1)), (3, .int (oI 0)), (0, .ref (G.2.2.1 170)), (1, .int (oI l1)), (4, .int (oI l4))]) rfl ?_
                refine j_iload_n (pc := 88) C dX3_either_88 rfl 0 rfl ?_
                refine j_if_ne_t (pc := 89) (tgt := 94) C dX3_either_89 rfl (by decide) ?_
                refine j_aload_n (pc := 94) C dX3_either_94 rfl 2 rfl ?_
                refine j_dup (pc := 95) C dX3_either_95 rfl ?_
                refine gf_X3_26 (pc := 96) C dX3_either_96 ?_
                refine j_iconst (pc := 99) C dX3_either_99 ?_
                refine j_iadd (pc := 100) C dX3_either_100 ?_
                refine fp_X3_26 (pc := 101) C dX3_either_101 ?_
                refine j_let (fun s7 => ?_)
                refine j_iinc (pc := 104) C hN dX3_either_104 4 rfl (by decide) (lv' := [(4, .int (oI (l4 + 1))), (2, .int (oI 1)), (3, .int (oI 0)), (0, .ref (G.2.2.1 170)), (1, .int (oI l1))]) rfl ?_
                refine j_goto (pc := 107) (tgt := 7) C dX3_either_107 rfl ?_
                exact j_sub [3, 4, 1, 2, 0] rfl (ih _ _ _ _)
              · refine j_iconst (pc := 86) C dX3_either_86 ?_
                refine j_istore_n (pc := 87) C hN dX3_either_87 rfl (by decide) (lv' := [(2, .int (oI 0)), (3, .int (oI 0)), (0, .ref (G.2.2.1 170)), (1, .int (oI l1)), (4, .int (oI l4))]) rfl ?_
                refine j_iload_n (pc := 88) C dX3_either_88 rfl 0 rfl ?_
                refine j_if_ne_f (pc := 89) (tgt := 94) C dX3_either_89 rfl (by decide) ?_
                refine j_iconst (pc := 92) C dX3_either_92 ?_
                exact j_ireturn C rfl rfl (znar (Or.inr rfl)) rfl dX3_either_93
        · refine j_aload_n (pc := 28) C dX3_either_28 rfl 0 rfl ?_
          refine gf_X3_12 (pc := 29) C dX3_either_29 ?_
          refine j_bipush (pc := 32) C dX3_either_32 (by decide) ?_
          refine j_iconst (pc := 34) C dX3_either_34 ?_
          refine j_iconst (pc := 35) C dX3_either_35 ?_
          refine j_bI (fun s8 es8 => ?_)
          refine j_callV0 (pc := 36) C (obX2 is160) rfl rfl (X2_put_m _ hj is160 es8) kV_X3_91 rfl (by omega) rfl (Nat.le_of_ble_eq_true rfl) dX3_either_36 ?_
          refine j_aload_n (pc := 39) C dX3_either_39 rfl 0 rfl ?_
          refine j_bI (fun v5 ev5 => ?_)
          refine j_callV1 (pc := 40) C obX3 rfl rfl (X3_sign_m _ hj ev5) kV_X3_42 rfl (by omega) rfl (Nat.le_of_ble_eq_true rfl) dX3_either_40 ?_
          refine j_bipush (pc := 43) C dX3_either_43 (by decide) ?_
          refine j_icmp_ne (pc := 45) (tgt := 52) C dX3_either_45 rfl ?_ ?_
          · refine j_iconst (pc := 48) C dX3_either_48 ?_
            refine j_goto (pc := 49) (tgt := 53) C dX3_either_49 rfl ?_
            refine j_istore_n (pc := 53) C hN dX3_either_53 rfl (by decide) (lv' := [(3, .int (oI 1)), (0, .ref (G.2.2.1 170)), (1, .int (oI l1)), (2, .int (oI l2)), (4, .int (oI l4))]) rfl ?_
            refine j_iload_n (pc := 54) C dX3_either_54 rfl 0 rfl ?_
            refine j_if_ne_t (pc := 55) (tgt := 94) C dX3_either_55 rfl (by decide) ?_
            refine j_aload_n (pc := 94) C dX3_either_94 rfl 1 rfl ?_
            refine j_dup (pc := 95) C dX3_either_95 rfl ?_
            refine gf_X3_26 (pc := 96) C dX3_either_96 ?_
            refine j_iconst (pc := 99) C dX3_either_99 ?_
            refine j_iadd (pc := 100) C dX3_either_100 ?_
            refine fp_X3_26 (pc := 101) C dX3_either_101 ?_
            refine j_let (fun s9 => ?_)
            refine j_iinc (pc := 104) C hN dX3_either_104 4 rfl (by decide) (lv' := [(4, .int (oI (l4 + 1))), (3, .int (oI 1)), (0, .ref (G.2.2.1 170)), (1, .int (oI l1)), (2, .int (oI l2))]) rfl ?_
            refine j_goto (pc := 107) (tgt := 7) C dX3_either_107 rfl ?_
            exact j_sub [2, 3, 4, 1, 0] rfl (ih _ _ _ _)
          · refine j_iconst (pc := 52) C dX3_either_52 ?_
            refine j_istore_n (pc := 53) C hN dX3_either_53 rfl (by decide) (lv' := [(3, .int (oI 0)), (0, .ref (G.2.2.1 170)), (1, .int (oI l1)), (2, .int (oI l2)), (4, .int (oI l4))]) rfl ?_
            refine j_iload_n (pc := 54) C dX3_either_54 rfl 0 rfl ?_
            refine j_if_ne_f (pc := 55) (tgt := 94) C dX3_either_55 rfl (by decide) ?_
            refine j_iload_n (pc := 58) C dX3_either_58 rfl 3 rfl ?_
            refine j_if_eq (pc := 59) (tgt := 73) C dX3_either_59 rfl ?_ ?_
            · refine j_aload_n (pc := 73) C dX3_either_73 rfl 1 rfl ?_
              refine j_bI (fun v6 ev6 => ?_)
              refine j_callV1 (pc := 74) C obX3 rfl rfl (X3_sign_m _ hj ev6) kV_X3_42 rfl (by omega) rfl (Nat.le_of_ble_eq_true rfl) dX3_either_74 ?_
              refine j_bipush (pc := 77) C dX3_either_77 (by decide) ?_
              refine j_icmp_ne (pc := 79) (tgt := 86) C dX3_either_79 rfl ?_ ?_
              · refine j_iconst (pc := 82) C dX3_either_82 ?_
                refine j_goto (pc := 83) (tgt := 87) C dX3_either_83 rfl ?_
                refine j_istore_n (pc := 87) C hN dX3_either_87 rfl (by decide) (lv' := [(2, .int (oI 1)), (3, .int (oI 0)), (0, .ref (G.2.2.1 170)), (1, .int (oI l1)), (4, .int (oI l4))]) rfl ?_
                refine j_iload_n (pc := 88) C dX3_either_88 rfl 0 rfl ?_
                refine j_if_ne_t (pc := 89) (tgt := 94) C dX3_either_89 rfl (by decide) ?_
                refine j_aload_n (pc := 94) C dX3_either_94 rfl 2 rfl ?_
                refine j_dup (pc := 95) C dX3_either_95 rfl ?_
                refine gf_X3_26 (pc := 96) C dX3_either_96 ?_
                refine j_iconst (pc := 99) C dX3_either_99 ?_
                refine j_iadd (pc := 100) C dX3_either_100 ?_
                refine fp_X3_26 (pc := 101) C dX3_either_101 ?_
                refine j_let (fun s11 => ?_)
                refine j_iinc (pc := 104) C hN dX3_either_104 4 rfl (by decide) (lv' := [(4, .int (oI (l4 + 1))), (2, .int (oI 1)), (3, .int (oI 0)), (0, .ref (G.2.2.1 170)), (1, .int (oI l1))]) rfl ?_
                refine j_goto (pc := 107) (tgt := 7) C dX3_either_107 rfl ?_
                exact j_sub [3, 4, 1, 2, 0] rfl (ih _ _ _ _)
              · refine j_iconst (pc := 86) C dX3_either_86 ?_
                refine j_istore_n (pc := 87) C hN dX3_either_87 rfl (by decide) (lv' := [(2, .int (oI 0)), (3, .int (oI 0)), (0, .ref (G.2.2.1 170)), (1, .int (oI l1)), (4, .int (oI l4))]) rfl ?_
                refine j_iload_n (pc := 88) C dX3_either_88 rfl 0 rfl ?_
                refine j_if_ne_f (pc := 89) (tgt := 94) C dX3_either_89 rfl (by decide) ?_
                refine j_iconst (pc := 92) C dX3_either_92 ?_
                exact j_ireturn C rfl rfl (znar (Or.inr rfl)) rfl dX3_either_93
            · refine j_aload_n (pc := 62) C dX3_either_62 rfl 1 rfl ?_
              refine gf_X3_12 (pc := 63) C dX3_either_63 ?_
              refine j_bipush (pc := 66) C dX3_either_66 (by decide) ?_
              refine j_iconst (pc := 68) C dX3_either_68 ?_
              refine j_iconst (pc := 69) C dX3_either_69 ?_
              refine j_bI (fun s12 es12 => ?_)
              refine j_callV0 (pc := 70) C (obX2 is160) rfl rfl (X2_put_m _ hj is160 es12) kV_X3_91 rfl (by omega) rfl (Nat.le_of_ble_eq_true rfl) dX3_either_70 ?_
              refine j_aload_n (pc := 73) C dX3_either_73 rfl 1 rfl ?_
              refine j_bI (fun v7 ev7 => ?_)
              refine j_callV1 (pc := 74) C obX3 rfl rfl (X3_sign_m _ hj ev7) kV_X3_42 rfl (by omega) rfl (Nat.le_of_ble_eq_true rfl) dX3_either_74 ?_
              refine j_bipush (pc := 77) C dX3_either_77 (by decide) ?_
              refine j_icmp_ne (pc := 79) (tgt := 86) C dX3_either_79 rfl ?_ ?_
              · refine j_iconst (pc := 82) C dX3_either_82 ?_
                refine j_goto (pc := 83) (tgt := 87) C dX3_either_83 rfl ?_
                refine j_istore_n (pc := 87) C hN dX3_either_87 rfl (by decide) (lv' := [(2, .int (oI 1)), (3, .int (oI 0)), (0, .ref (G.2.2.1 170)), (1, .int (oI l1)), (4, .int (oI l4))]) rfl ?_
                refine j_iload_n (pc := 88) C dX3_either_88 rfl 0 rfl ?_
                refine j_if_ne_t (pc := 89) (tgt := 94) C dX3_either_89 rfl (by decide) ?_
                refine j_aload_n (pc := 94) C dX3_either_94 rfl 2 rfl ?_
                refine j_dup (pc := 95) C dX3_either_95 rfl ?_
                refine gf_X3_26 (pc := 96) C dX3_either_96 ?_
                refine j_iconst (pc := 99) C dX3_either_99 ?_
                refine j_iadd (pc := 100) C dX3_either_100 ?_
                refine fp_X3_26 (pc := 101) C dX3_either_101 ?_
                refine j_let (fun s13 => ?_)
                refine j_iinc (pc := 104) C hN dX3_either_104 4 rfl (by decide) (lv' := [(4, .int (oI (l4 + 1))), (2, .int (oI 1)), (3, .int (oI 0)), (0, .ref (G.2.2.1 170)), (1, .int (oI l1))]) rfl ?_
                refine j_goto (pc := 107) (tgt := 7) C dX3_either_107 rfl ?_
                exact j_sub [3, 4, 1, 2, 0] rfl (ih _ _ _ _)
              · refine j_iconst (pc := 86) C dX3_either_86 ?_
                refine j_istore_n (pc := 87) C hN dX3_either_87 rfl (by decide) (lv' := [(2, .int (oI 0)), (3, .int (oI 0)), (0, .ref (G.2.2.1 170)), (1, .int (oI l1)), (4, .int (oI l4))]) rfl ?_
                refine j_iload_n (pc := 88) C dX3_either_88 rfl 0 rfl ?_
                refine j_if_ne_f (pc := 89) (tgt := 94) C dX3_either_89 rfl (by decide) ?_
                refine j_iconst (pc := 92) C dX3_either_92 ?_
                exact j_ireturn C rfl rfl (znar (Or.inr rfl)) rfl dX3_either_93
set_option maxHeartbeats 4000000 in
set_option maxRecDepth 100000 in
theorem X3_either_m (l : Launch) {G : GD} (hj : zInj sC G) {df : Nat} {fac : PS → Int → Option (Int × PS)} (hfac : ∀ {st : PS} {l1 : Int} {r : Int × PS}, fac st l1 = some r → zM l sC G yX3_factor cX3_factor 3 (some .boolean) df [.ref (G.2.2.1 170), .int (oI l1)] st (some (.int (oI r.1))) r.2) {st : PS} {l1 : Int} {r : (Int × PS)} (hr : X3_either fac st l1 = some r) : zM l sC G yX3_either cX3_either 5 (some .boolean) (df + 2) [.ref (G.2.2.1 170), .int (oI l1)] st (some (.int (oI r.1))) r.2 :=
  zEnter (f := fI) hr hj (by decide) rfl (lv := [(0, .ref (G.2.2.1 170)), (1, .int (oI l1))]) rfl (Nat.le_of_ble_eq_true rfl) (fun X hl hN C => by
    subst hl
    unfold X3_either
    refine j_iconst (pc := 0) C dX3_either_0 ?_
    refine j_istore_n (pc := 1) C hN dX3_either_1 rfl (by decide) (lv' := [(2, .int (oI 0)), (0, .ref (G.2.2.1 170)), (1, .int (oI l1))]) rfl ?_
    refine j_iconst (pc := 2) C dX3_either_2 ?_
    refine j_istore_n (pc := 3) C hN dX3_either_3 rfl (by decide) (lv' := [(3, .int (oI 0)), (2, .int (oI 0)), (0, .ref (G.2.2.1 170)), (1, .int (oI l1))]) rfl ?_
    refine j_iconst (pc := 4) C dX3_either_4 ?_
    refine j_istore (pc := 5) C hN dX3_either_5 (by decide) (lv' := [(4, .int (oI 0)), (3, .int (oI 0)), (2, .int (oI 0)), (0, .ref (G.2.2.1 170)), (1, .int (oI l1))]) rfl ?_
    exact j_sub [3, 4, 2, 1, 0] rfl (X3_either_L7_j C hN hj hfac FU _ _ _ _))
def X3_factor : Nat → PS → Int → Option (Int × PS)
  | 0, _, _ => none
  | n + 1, st, l1 => bI (X3_sign st) (fun v1 => if wI 4 ≤ wI l1 then bP (X3_test st) (fun v2 s1 => zbit v2 (some (v2, s1))) else (if wI v1 = wI 33 then zlet (zu st 170 3 ((st 170 3) + 1)) (fun s2 => if wI v1 = wI 40 then bP (X3_either (X3_factor n) s2 (l1 + 1)) (fun v3 s3 => if wI v3 = 0 then some (0, s3) else (bP (X3_word 6 s3) (fun v4 s4 => if wI v4 = 0 then some (0, s4) else (some (1, s4))))) else (bP (X3_factor n s2 (l1 + 1)) (fun v5 s5 => if wI v5 = 0 then some (0, s5) else (bI (X2_put 160 s5 6 0 0) (fun s6 => some (1, s6)))))) else (if wI v1 = wI 40 then zlet (zu st 170 3 ((st 170 3) + 1)) (fun s7 => if wI v1 = wI 40 then bP (X3_either (X3_factor n) s7 (l1 + 1)) (fun v6 s8 => if wI v6 = 0 then some (0, s8) else (bP (X3_word 6 s8) (fun v7 s9 => if wI v7 = 0 then some (0, s9) else (some (1, s9))))) else (bP (X3_factor n s7 (l1 + 1)) (fun v8 s10 => if wI v8 = 0 then some (0, s10) else (bI (X2_put 160 s10 6 0 0) (fun s11 => some (1, s11)))))) else (bP (X3_test st) (fun v9 s12 => zbit v9 (some (v9, s12)))))))
set_option maxHeartbeats 4000000 in
set_option maxRecDepth 100000 in
theorem X3_factor_m (l : Launch) {G : GD} (hj : zInj sC G) : ∀ (n : Nat) {st : PS} {l1 : Int} {r : (Int × PS)} (hr : X3_factor n st l1 = some r), zM l sC G yX3_factor cX3_factor 3 (some .boolean) (5 + 3 * n) [.ref (G.2.2.1 170), .int (oI l1)] st (some (.int (oI r.1))) r.2 := by
  intro n
  induction n with
  | zero => intro st l1 r hr; exact absurd (show (none : Option _) = some r from hr) (by simp)
  | succ n ih =>
    intro st l1 r hr
    exact zEnter (d := (5 + 3 * (n + 1))) (f := fI) hr hj (by decide) rfl (lv := [(0, .ref (G.2.2.1 170)), (1, .int (oI l1))]) rfl (Nat.le_of_ble_eq_true rfl) (fun X hl hN C => by
      subst hl
      rw [X3_factor]
      refine j_aload_n (pc := 0) C dX3_factor_0 rfl 0 rfl ?_
      refine j_bI (fun v1 ev1 => ?_)
      refine j_callV1 (pc := 1) C obX3 rfl rfl (X3_sign_m _ hj ev1) kV_X3_42 rfl (by omega) rfl (Nat.le_of_ble_eq_true rfl) dX3_factor_1 ?_
      refine j_istore_n (pc := 4) C hN dX3_factor_4 rfl (by decide) (lv' := [(2, .int (oI v1)), (0, .ref (G.2.2.1 170)), (1, .int (oI l1))]) rfl ?_
      refine j_iload_n (pc := 5) C dX3_factor_5 rfl 2 rfl ?_
      refine j_iconst (pc := 6) C dX3_factor_6 ?_
      refine j_icmp_ge (pc := 7) (tgt := 22) C dX3_factor_7 rfl ?_ ?_
      · refine j_aload_n (pc := 22) C dX3_factor_22 rfl 1 rfl ?_
        refine j_bP (fun v2 s1 es1 => ?_)
        refine j_callV1 (pc := 23) C obX3 rfl rfl (X3_test_m _ hj es1) kV_X3_95 rfl (by omega) rfl (Nat.le_of_ble_eq_true rfl) dX3_factor_23 ?_
        refine j_bit (fun hb => ?_)
        exact j_ireturn C rfl rfl (znar hb) rfl dX3_factor_26
      · refine j_iload_n (pc := 10) C dX3_factor_10 rfl 0 rfl ?_
        refine j_bipush (pc := 11) C dX3_factor_11 (by decide) ?_
        refine j_icmp_eq (pc := 13) (tgt := 27) C dX3_factor_13 rfl ?_ ?_
        · refine j_aload_n (pc := 27) C dX3_factor_27 rfl 1 rfl ?_
          refine j_dup (pc := 28) C dX3_factor_28 rfl ?_
          refine gf_X3_26 (pc := 29) C dX3_factor_29 ?_
          refine j_iconst (pc := 32) C dX3_factor_32 ?_
          refine j_iadd (pc := 33) C dX3_factor_33 ?_
          refine fp_X3_26 (pc := 34) C dX3_factor_34 ?_
          refine j_let (fun s2 => ?_)
          refine j_iload_n (pc := 37) C dX3_factor_37 rfl 0 rfl ?_
          refine j_bipush (pc := 38) C dX3_factor_38 (by decide) ?_
          refine j_icmp_ne (pc := 40) (tgt := 68) C dX3_factor_40 rfl ?_ ?_
          · refine j_aload_n (pc := 43) C dX3_factor_43 rfl 1 rfl ?_
            refine j_iload_n (pc := 44) C dX3_factor_44 rfl 2 rfl ?_
            refine j_iconst (pc := 45) C dX3_factor_45 ?_
            refine j_iadd (pc := 46) C dX3_factor_46 ?_
            refine j_bP (fun v3 s3 es3 => ?_)
            refine j_callV1 (pc := 47) C obX3 rfl rfl (X3_either_m _ hj ih es3) kV_X3_58 rfl (by omega) rfl (Nat.le_of_ble_eq_true rfl) dX3_factor_47 ?_
            refine j_if_eq (pc := 50) (tgt := 66) C dX3_factor_50 rfl ?_ ?_
            · refine j_iconst (pc := 66) C dX3_factor_66 ?_
              exact j_ireturn C rfl rfl (znar (Or.inl rfl)) rfl dX3_factor_67
            · refine j_aload_n (pc := 53) C dX3_factor_53 rfl 1 rfl ?_
              refine j_ldcS (pc := 54) (i := 6) C (fun _ _ h => h.2.2.2.2.2.2.1) dX3_factor_54 ?_
              refine j_bP (fun v4 s4 es4 => ?_)
              refine j_callV1 (pc := 56) C obX3 rfl rfl (X3_word_m _ hj (by decide) es4) kV_X3_38 rfl (by omega) rfl (Nat.le_of_ble_eq_true rfl) dX3_factor_56 ?_
              refine j_if_eq (pc := 59) (tgt := 66) C dX3_factor_59 rfl ?_ ?_
              · refine j_iconst (pc := 66) C dX3_factor_66 ?_
                exact j_ireturn C rfl rfl (znar (Or.inl rfl)) rfl dX3_factor_67
              · refine j_iconst (pc := 62) C dX3_factor_62 ?_
                refine j_goto (pc := 63) (tgt := 67) C dX3_factor_63 rfl ?_
                exact j_ireturn C rfl rfl (znar (Or.inr rfl)) rfl dX3_factor_67
          · refine j_aload_n (pc := 68) C dX3_factor_68 rfl 1 rfl ?_
            refine j_iload_n (pc := 69) C dX3_factor_69 rfl 2 rfl ?_
            refine j_iconst (pc := 70) C dX3_factor_70 ?_
            refine j_iadd (pc := 71) C dX3_factor_71 ?_
            refine j_bP (fun v5 s5 es5 => ?_)
            refine j_callV1 (pc := 72) C obX3 rfl rfl (ih es5) kV_X3_88 rfl (by omega) rfl (Nat.le_of_ble_eq_true rfl) dX3_factor_72 ?_
            refine j_if_ne (pc := 75) (tgt := 80) C dX3_factor_75 rfl ?_ ?_
            · refine j_iconst (pc := 78) C dX3_factor_78 ?_
              exact j_ireturn C rfl rfl (znar (Or.inl rfl)) rfl dX3_factor_79
            · refine j_aload_n (pc := 80) C dX3_factor_80 rfl 1 rfl ?_
              refine gf_X3_12 (pc := 81) C dX3_factor_81 ?_
              refine j_bipush (pc := 84) C dX3_factor_84 (by decide) ?_
              refine j_iconst (pc := 86) C dX3_factor_86 ?_
              refine j_iconst (pc := 87) C dX3_factor_87 ?_
              refine j_bI (fun s6 es6 => ?_)
              refine j_callV0 (pc := 88) C (obX2 is160) rfl rfl (X2_put_m _ hj is160 es6) kV_X3_91 rfl (by omega) rfl (Nat.le_of_ble_eq_true rfl) dX3_factor_88 ?_
              refine j_iconst (pc := 91) C dX3_factor_91 ?_
              exact j_ireturn C rfl rfl (znar (Or.inr rfl)) rfl dX3_factor_92
        · refine j_iload_n (pc := 16) C dX3_factor_16 rfl 0 rfl ?_
          refine j_bipush (pc := 17) C dX3_factor_17 (by decide) ?_
          refine j_icmp_eq (pc := 19) (tgt := 27) C dX3_factor_19 rfl ?_ ?_
          · refine j_aload_n (pc := 27) C dX3_factor_27 rfl 1 rfl ?_
            refine j_dup (pc := 28) C dX3_factor_28 rfl ?_
            refine gf_X3_26 (pc := 29) C dX3_factor_29 ?_
            refine j_iconst (pc := 32) C dX3_factor_32 ?_
            refine j_iadd (pc := 33) C dX3_factor_33 ?_
            refine fp_X3_26 (pc := 34) C dX3_factor_34 ?_
            refine j_let (fun s7 => ?_)
            refine j_iload_n (pc := 37) C dX3_factor_37 rfl 0 rfl ?_
            refine j_bipush (pc := 38) C dX3_factor_38 (by decide) ?_
            refine j_icmp_ne (pc := 40) (tgt := 68) C dX3_factor_40 rfl ?_ ?_
            · refine j_aload_n (pc := 43) C dX3_factor_43 rfl 1 rfl ?_
              refine j_iload_n (pc := 44) C dX3_factor_44 rfl 2 rfl ?_
              refine j_iconst (pc := 45) C dX3_factor_45 ?_
              refine j_iadd (pc := 46) C dX3_factor_46 ?_
              refine j_bP (fun v6 s8 es8 => ?_)
              refine j_callV1 (pc := 47) C obX3 rfl rfl (X3_either_m _ hj ih es8) kV_X3_58 rfl (by omega) rfl (Nat.le_of_ble_eq_true rfl) dX3_factor_47 ?_
              refine j_if_eq (pc := 50) (tgt := 66) C dX3_factor_50 rfl ?_ ?_
              · refine j_iconst (pc := 66) C dX3_factor_66 ?_
                exact j_ireturn C rfl rfl (znar (Or.inl rfl)) rfl dX3_factor_67
              · refine j_aload_n (pc := 53) C dX3_factor_53 rfl 1 rfl ?_
                refine j_ldcS (pc := 54) (i := 6) C (fun _ _ h => h.2.2.2.2.2.2.1) dX3_factor_54 ?_
                refine j_bP (fun v7 s9 es9 => ?_)
                refine j_callV1 (pc := 56) C obX3 rfl rfl (X3_word_m _ hj (by decide) es9) kV_X3_38 rfl (by omega) rfl (Nat.le_of_ble_eq_true rfl) dX3_factor_56 ?_
                refine j_if_eq (pc := 59) (tgt := 66) C dX3_factor_59 rfl ?_ ?_
                · refine j_iconst (pc := 66) C dX3_factor_66 ?_
                  exact j_ireturn C rfl rfl (znar (Or.inl rfl)) rfl dX3_factor_67
                · refine j_iconst (pc := 62) C dX3_factor_62 ?_
                  refine j_goto (pc := 63) (tgt := 67) C dX3_factor_63 rfl ?_
                  exact j_ireturn C rfl rfl (znar (Or.inr rfl)) rfl dX3_factor_67
            · refine j_aload_n (pc := 68) C dX3_factor_68 rfl 1 rfl ?_
              refine j_iload_n (pc := 69) C dX3_factor_69 rfl 2 rfl ?_
              refine j_iconst (pc := 70) C dX3_factor_70 ?_
              refine j_iadd (pc := 71) C dX3_factor_71 ?_
              refine j_bP (fun v8 s10 es10 => ?_)
              refine j_callV1 (pc := 72) C obX3 rfl rfl (ih es10) kV_X3_88 rfl (by omega) rfl (Nat.le_of_ble_eq_true rfl) dX3_factor_72 ?_
              refine j_if_ne (pc := 75) (tgt := 80) C dX3_factor_75 rfl ?_ ?_
              · refine j_iconst (pc := 78) C dX3_factor_78 ?_
                exact j_ireturn C rfl rfl (znar (Or.inl rfl)) rfl dX3_factor_79
              · refine j_aload_n (pc := 80) C dX3_factor_80 rfl 1 rfl ?_
                refine gf_X3_12 (pc := 81) C dX3_factor_81 ?_
                refine j_bipush (pc := 84) C dX3_factor_84 (by decide) ?_
                refine j_iconst (pc := 86) C dX3_factor_86 ?_
                refine j_iconst (pc := 87) C dX3_factor_87 ?_
                refine j_bI (fun s11 es11 => ?_)
                refine j_callV0 (pc := 88) C (obX2 is160) rfl rfl (X2_put_m _ hj is160 es11) kV_X3_91 rfl (by omega) rfl (Nat.le_of_ble_eq_true rfl) dX3_factor_88 ?_
                refine j_iconst (pc := 91) C dX3_factor_91 ?_
                exact j_ireturn C rfl rfl (znar (Or.inr rfl)) rfl dX3_factor_92
          · refine j_aload_n (pc := 22) C dX3_factor_22 rfl 1 rfl ?_
            refine j_bP (fun v9 s12 es12 => ?_)
            refine j_callV1 (pc := 23) C obX3 rfl rfl (X3_test_m _ hj es12) kV_X3_95 rfl (by omega) rfl (Nat.le_of_ble_eq_true rfl) dX3_factor_23 ?_
            refine j_bit (fun hb => ?_)
            exact j_ireturn C rfl rfl (znar hb) rfl dX3_factor_26)
def X3_clause (st : PS) : Option (Int × PS) := bI (X3_sign st) (fun v1 => if wI v1 = wI 116 then bI (X3_sign st) (fun v2 => if wI v2 = wI 114 then bP (X3_shape st) (fun v3 s1 => zbit v3 (some (v3, s1))) else (bP (X3_word 3 st) (fun v4 s2 => if wI v4 = 0 then some (0, s2) else (bP (X3_number s2) (fun v5 s3 => if wI v5 < 0 then some (0, s3) else (bP (X3_word 5 s3) (fun v6 s4 => if wI v6 = 0 then some (0, s4) else (bP (X3_either (X3_factor 8) s4 0) (fun v7 s5 => if wI v7 = 0 then some (0, s5) else (bP (X2_close 160 s5 (-v5)) (fun v8 s6 => if wI v8 = 0 then some (0, s6) else (some (1, s6))))))))))))) else (bI (X3_sign st) (fun v9 => if wI v9 = wI 114 then bP (X3_shape st) (fun v10 s7 => zbit v10 (some (v10, s7))) else (bP (X3_word 4 st) (fun v11 s8 => if wI v11 = 0 then some (0, s8) else (bP (X3_number s8) (fun v12 s9 => if wI v12 < 0 then some (0, s9) else (bP (X3_word 5 s9) (fun v13 s10 => if wI v13 = 0 then some (0, s10) else (bP (X3_either (X3_factor 8) s10 0) (fun v14 s11 => if wI v14 = 0 then some (0, s11) else (bP (X2_close 160 s11 v12) (fun v15 s12 => if wI v15 = 0 then some (0, s12) else (some (1, s12)))))))))))))))
set_option maxHeartbeats 4000000 in
set_option maxRecDepth 100000 in
theorem X3_clause_m (l : Launch) {G : GD} (hj : zInj sC G) {st : PS} {r : (Int × PS)} (hr : X3_clause st = some r) : zM l sC G yX3_clause cX3_clause 3 (some .boolean) 42 [.ref (G.2.2.1 170)] st (some (.int (oI r.1))) r.2 :=
  zEnter (f := fI) hr hj (by decide) rfl (lv := [(0, .ref (G.2.2.1 170))]) rfl (Nat.le_of_ble_eq_true rfl) (fun X _ hN C => by
    unfold X3_clause
    refine j_aload_n (pc := 0) C dX3_clause_0 rfl 0 rfl ?_
    refine j_bI (fun v1 ev1 => ?_)
    refine j_callV1 (pc := 1) C obX3 rfl rfl (X3_sign_m _ hj ev1) kV_X3_42 rfl (by omega) rfl (Nat.le_of_ble_eq_true rfl) dX3_clause_1 ?_
    refine j_bipush (pc := 4) C dX3_clause_4 (by decide) ?_
    refine j_icmp_ne (pc := 6) (tgt := 13) C dX3_clause_6 rfl ?_ ?_
    · refine j_iconst (pc := 9) C dX3_clause_9 ?_
      refine j_goto (pc := 10) (tgt := 14) C dX3_clause_10 rfl ?_
      refine j_istore_n (pc := 14) C hN dX3_clause_14 rfl (by decide) (lv' := [(1, .int (oI 1)), (0, .ref (G.2.2.1 170))]) rfl ?_
      refine j_aload_n (pc := 15) C dX3_clause_15 rfl 1 rfl ?_
      refine j_bI (fun v2 ev2 => ?_)
      refine j_callV1 (pc := 16) C obX3 rfl rfl (X3_sign_m _ hj ev2) kV_X3_42 rfl (by omega) rfl (Nat.le_of_ble_eq_true rfl) dX3_clause_16 ?_
      refine j_bipush (pc := 19) C dX3_clause_19 (by decide) ?_
      refine j_icmp_ne (pc := 21) (tgt := 29) C dX3_clause_21 rfl ?_ ?_
      · refine j_aload_n (pc := 24) C dX3_clause_24 rfl 1 rfl ?_
        refine j_bP (fun v3 s1 es1 => ?_)
        refine j_callV1 (pc := 25) C obX3 rfl rfl (X3_shape_m _ hj es1) kV_X3_46 rfl (by omega) rfl (Nat.le_of_ble_eq_true rfl) dX3_clause_25 ?_
        refine j_bit (fun hb => ?_)
        exact j_ireturn C rfl rfl (znar hb) rfl dX3_clause_28
      · refine j_aload_n (pc := 29) C dX3_clause_29 rfl 1 rfl ?_
        refine j_iload_n (pc := 30) C dX3_clause_30 rfl 0 rfl ?_
        refine j_if_eq_f (pc := 31) (tgt := 39) C dX3_clause_31 rfl (by decide) ?_
        refine j_ldcS (pc := 34) (i := 3) C (fun _ _ h => h.2.2.2.1) dX3_clause_34 ?_
        refine j_goto (pc := 36) (tgt := 41) C dX3_clause_36 rfl ?_
        refine j_bP (fun v4 s2 es2 => ?_)
        refine j_callV1 (pc := 41) C obX3 rfl rfl (X3_word_m _ hj (by decide) es2) kV_X3_38 rfl (by omega) rfl (Nat.le_of_ble_eq_true rfl) dX3_clause_41 ?_
        refine j_if_ne (pc := 44) (tgt := 49) C dX3_clause_44 rfl ?_ ?_
        · refine j_iconst (pc := 47) C dX3_clause_47 ?_
          exact j_ireturn C rfl rfl (znar (Or.inl rfl)) rfl dX3_clause_48
        · refine j_aload_n (pc := 49) C dX3_clause_49 rfl 1 rfl ?_
          refine j_bP (fun v5 s3 es3 => ?_)
          refine j_callV1 (pc := 50) C obX3 rfl rfl (X3_number_m _ hj es3) kV_X3_53 rfl (by omega) rfl (Nat.le_of_ble_eq_true rfl) dX3_clause_50 ?_
          refine j_istore_n (pc := 53) C hN dX3_clause_53 rfl (by decide) (lv' := [(2, .int (oI v5)), (1, .int (oI 1)), (0, .ref (G.2.2.1 170))]) rfl ?_
          refine j_iload_n (pc := 54) C dX3_clause_54 rfl 0 rfl ?_
          refine j_if_lt (pc := 55) (tgt := 99) C dX3_clause_55 rfl ?_ ?_
          · refine j_iconst (pc := 99) C dX3_clause_99 ?_
            exact j_ireturn C rfl rfl (znar (Or.inl rfl)) rfl dX3_clause_100
          · refine j_aload_n (pc := 58) C dX3_clause_58 rfl 2 rfl ?_
            refine j_ldcS (pc := 59) (i := 5) C (fun _ _ h => h.2.2.2.2.2.1) dX3_clause_59 ?_
            refine j_bP (fun v6 s4 es4 => ?_)
            refine j_callV1 (pc := 61) C obX3 rfl rfl (X3_word_m _ hj (by decide) es4) kV_X3_38 rfl (by omega) rfl (Nat.le_of_ble_eq_true rfl) dX3_clause_61 ?_
            refine j_if_eq (pc := 64) (tgt := 99) C dX3_clause_64 rfl ?_ ?_
            · refine j_iconst (pc := 99) C dX3_clause_99 ?_
              exact j_ireturn C rfl rfl (znar (Or.inl rfl)) rfl dX3_clause_100
            · refine j_aload_n (pc := 67) C dX3_clause_67 rfl 2 rfl ?_
              refine j_iconst (pc := 68) C dX3_clause_68 ?_
              refine j_bP (fun v7 s5 es5 => ?_)
              refine j_callV1 (pc := 69) C obX3 rfl rfl (X3_either_m _ hj (X3_factor_m _ hj 8) es5) kV_X3_58 rfl (by omega) rfl (Nat.le_of_ble_eq_true rfl) dX3_clause_69 ?_
              refine j_if_eq (pc := 72) (tgt := 99) C dX3_clause_72 rfl ?_ ?_
              · refine j_iconst (pc := 99) C dX3_clause_99 ?_
                exact j_ireturn C rfl rfl (znar (Or.inl rfl)) rfl dX3_clause_100
              · refine j_aload_n (pc := 75) C dX3_clause_75 rfl 2 rfl ?_
                refine gf_X3_12 (pc := 76) C dX3_clause_76 ?_
                refine j_iload_n (pc := 79) C dX3_clause_79 rfl 1 rfl ?_
                refine j_if_eq_f (pc := 80) (tgt := 88) C dX3_clause_80 rfl (by decide) ?_
                refine j_iload_n (pc := 83) C dX3_clause_83 rfl 0 rfl ?_
                refine j_ineg (pc := 84) C dX3_clause_84 ?_
                refine j_goto (pc := 85) (tgt := 89) C dX3_clause_85 rfl ?_
                refine j_bP (fun v8 s6 es6 => ?_)
                refine j_callV1 (pc := 89) C (obX2 is160) rfl rfl (X2_close_m _ hj is160 es6) kV_X3_62 rfl (by omega) rfl (Nat.le_of_ble_eq_true rfl) dX3_clause_89 ?_
                refine j_if_eq (pc := 92) (tgt := 99) C dX3_clause_92 rfl ?_ ?_
                · refine j_iconst (pc := 99) C dX3_clause_99 ?_
                  exact j_ireturn C rfl rfl (znar (Or.inl rfl)) rfl dX3_clause_100
                · refine j_iconst (pc := 95) C dX3_clause_95 ?_
                  refine j_goto (pc := 96) (tgt := 100) C dX3_clause_96 rfl ?_
                  exact j_ireturn C rfl rfl (znar (Or.inr rfl)) rfl dX3_clause_100
    · refine j_iconst (pc := 13) C dX3_clause_13 ?_
      refine j_istore_n (pc := 14) C hN dX3_clause_14 rfl (by decide) (lv' := [(1, .int (oI 0)), (0, .ref (G.2.2.1 170))]) rfl ?_
      refine j_aload_n (pc := 15) C dX3_clause_15 rfl 1 rfl ?_
      refine j_bI (fun v9 ev9 => ?_)
      refine j_callV1 (pc := 16) C obX3 rfl rfl (X3_sign_m _ hj ev9) kV_X3_42 rfl (by omega) rfl (Nat.le_of_ble_eq_true rfl) dX3_clause_16 ?_
      refine j_bipush (pc := 19) C dX3_clause_19 (by decide) ?_
      refine j_icmp_ne (pc := 21) (tgt := 29) C dX3_clause_21 rfl ?_ ?_
      · refine j_aload_n (pc := 24) C dX3_clause_24 rfl 1 rfl ?_
        refine j_bP (fun v10 s7 es7 => ?_)
        refine j_callV1 (pc := 25) C obX3 rfl rfl (X3_shape_m _ hj es7) kV_X3_46 rfl (by omega) rfl (Nat.le_of_ble_eq_true rfl) dX3_clause_25 ?_
        refine j_bit (fun hb => ?_)
        exact j_ireturn C rfl rfl (znar hb) rfl dX3_clause_28
      · refine j_aload_n (pc := 29) C dX3_clause_29 rfl 1 rfl ?_
        refine j_iload_n (pc := 30) C dX3_clause_30 rfl 0 rfl ?_
        refine j_if_eq_t (pc := 31) (tgt := 39) C dX3_clause_31 rfl (by decide) ?_
        refine j_ldcS (pc := 39) (i := 4) C (fun _ _ h => h.2.2.2.2.1) dX3_clause_39 ?_
        refine j_bP (fun v11 s8 es8 => ?_)
        refine j_callV1 (pc := 41) C obX3 rfl rfl (X3_word_m _ hj (by decide) es8) kV_X3_38 rfl (by omega) rfl (Nat.le_of_ble_eq_true rfl) dX3_clause_41 ?_
        refine j_if_ne (pc := 44) (tgt := 49) C dX3_clause_44 rfl ?_ ?_
        · refine j_iconst (pc := 47) C dX3_clause_47 ?_
          exact j_ireturn C rfl rfl (znar (Or.inl rfl)) rfl dX3_clause_48
        · refine j_aload_n (pc := 49) C dX3_clause_49 rfl 1 rfl ?_
          refine j_bP (fun v12 s9 es9 => ?_)
          refine j_callV1 (pc := 50) C obX3 rfl rfl (X3_number_m _ hj es9) kV_X3_53 rfl (by omega) rfl (Nat.le_of_ble_eq_true rfl) dX3_clause_50 ?_
          refine j_istore_n (pc := 53) C hN dX3_clause_53 rfl (by decide) (lv' := [(2, .int (oI v12)), (1, .int (oI 0)), (0, .ref (G.2.2.1 170))]) rfl ?_
          refine j_iload_n (pc := 54) C dX3_clause_54 rfl 0 rfl ?_
          refine j_if_lt (pc := 55) (tgt := 99) C dX3_clause_55 rfl ?_ ?_
          · refine j_iconst (pc := 99) C dX3_clause_99 ?_
            exact j_ireturn C rfl rfl (znar (Or.inl rfl)) rfl dX3_clause_100
          · refine j_aload_n (pc := 58) C dX3_clause_58 rfl 2 rfl ?_
            refine j_ldcS (pc := 59) (i := 5) C (fun _ _ h => h.2.2.2.2.2.1) dX3_clause_59 ?_
            refine j_bP (fun v13 s10 es10 => ?_)
            refine j_callV1 (pc := 61) C obX3 rfl rfl (X3_word_m _ hj (by decide) es10) kV_X3_38 rfl (by omega) rfl (Nat.le_of_ble_eq_true rfl) dX3_clause_61 ?_
            refine j_if_eq (pc := 64) (tgt := 99) C dX3_clause_64 rfl ?_ ?_
            · refine j_iconst (pc := 99) C dX3_clause_99 ?_
              exact j_ireturn C rfl rfl (znar (Or.inl rfl)) rfl dX3_clause_100
            · refine j_aload_n (pc := 67) C dX3_clause_67 rfl 2 rfl ?_
              refine j_iconst (pc := 68) C dX3_clause_68 ?_
              refine j_bP (fun v14 s11 es11 => ?_)
              refine j_callV1 (pc := 69) C obX3 rfl rfl (X3_either_m _ hj (X3_factor_m _ hj 8) es11) kV_X3_58 rfl (by omega) rfl (Nat.le_of_ble_eq_true rfl) dX3_clause_69 ?_
              refine j_if_eq (pc := 72) (tgt := 99) C dX3_clause_72 rfl ?_ ?_
              · refine j_iconst (pc := 99) C dX3_clause_99 ?_
                exact j_ireturn C rfl rfl (znar (Or.inl rfl)) rfl dX3_clause_100
              · refine j_aload_n (pc := 75) C dX3_clause_75 rfl 2 rfl ?_
                refine gf_X3_12 (pc := 76) C dX3_clause_76 ?_
                refine j_iload_n (pc := 79) C dX3_clause_79 rfl 1 rfl ?_
                refine j_if_eq_t (pc := 80) (tgt := 88) C dX3_clause_80 rfl (by decide) ?_
                refine j_iload_n (pc := 88) C dX3_clause_88 rfl 0 rfl ?_
                refine j_bP (fun v15 s12 es12 => ?_)
                refine j_callV1 (pc := 89) C (obX2 is160) rfl rfl (X2_close_m _ hj is160 es12) kV_X3_62 rfl (by omega) rfl (Nat.le_of_ble_eq_true rfl) dX3_clause_89 ?_
                refine j_if_eq (pc := 92) (tgt := 99) C dX3_clause_92 rfl ?_ ?_
                · refine j_iconst (pc := 99) C dX3_clause_99 ?_
                  exact j_ireturn C rfl rfl (znar (Or.inl rfl)) rfl dX3_clause_100
                · refine j_iconst (pc := 95) C dX3_clause_95 ?_
                  refine j_goto (pc := 96) (tgt := 100) C dX3_clause_96 rfl ?_
                  exact j_ireturn C rfl rfl (znar (Or.inr rfl)) rfl dX3_clause_100)
def X3_readStreet_L14  : Nat → PS → Int → Option (Int × PS)
  | 0, _, _ => none
  | k + 1, st, l1 => if wI 10 < wI l1 then some (st 170 3, st) else (bP (X3_clause st) (fun v1 s3 => if wI v1 = 0 then some (s3 170 3, s3) else (if wI (s3 170 3) < wI (s3 170 0) then if wI l1 = wI 10 then some (s3 170 3, s3) else (bP (X3_word 7 s3) (fun v2 s4 => if wI v2 = 0 then some (s4 170 3, s4) else (X3_readStreet_L14 k s4 (l1 + 1)))) else (some ((-1), s3)))))
def X3_readStreet (st : PS) : Option (Int × PS) := zlet (zu st 170 3 0) (fun s1 => bI (X2_clear 160 s1) (fun s2 => X3_readStreet_L14 FU s2 1))
set_option maxHeartbeats 4000000 in
set_option maxRecDepth 100000 in
theorem X3_readStreet_L14_j {X : JX} {G : GD} (C : zC X sC G RX3 cX3_readStreet (some .int) 43) (hN : X.2.2.2.2.2.2.2.2.2.2.2.2 = 2) (hj : zInj sC G)  : ∀ (k : Nat) (st : PS) (l1 : Int), J X (zI sC G) (zQ sC G fI) st [(0, .ref (G.2.2.1 170)), (1, .int (oI l1))] 14 [] (X3_readStreet_L14 k st l1) := by
  intro k
  induction k with
  | zero => intro st l1; exact j_none
  | succ k ih =>
    intro st l1
    rw [X3_readStreet_L14]
    refine j_iload_n (pc := 14) C dX3_readStreet_14 rfl 1 rfl ?_
    refine j_bipush (pc := 15) C dX3_readStreet_15 (by decide) ?_
    refine j_icmp_gt (pc := 17) (tgt := 71) C dX3_readStreet_17 rfl ?_ ?_
    · refine j_aload_n (pc := 71) C dX3_readStreet_71 rfl 0 rfl ?_
      refine gf_X3_26 (pc := 72) C dX3_readStreet_72 ?_
      exact j_ireturn C rfl rfl rfl rfl dX3_readStreet_75
    · refine j_aload_n (pc := 20) C dX3_readStreet_20 rfl 0 rfl ?_
      refine j_bP (fun v1 s3 es3 => ?_)
      refine j_callV1 (pc := 21) C obX3 rfl rfl (X3_clause_m _ hj es3) kV_X3_32 rfl (by omega) rfl (Nat.le_of_ble_eq_true rfl) dX3_readStreet_21 ?_
      refine j_if_ne (pc := 24) (tgt := 32) C dX3_readStreet_24 rfl ?_ ?_
      · refine j_aload_n (pc := 27) C dX3_readStreet_27 rfl 0 rfl ?_
        refine gf_X3_26 (pc := 28) C dX3_readStreet_28 ?_
        exact j_ireturn C rfl rfl rfl rfl dX3_readStreet_31
      · refine j_aload_n (pc := 32) C dX3_readStreet_32 rfl 0 rfl ?_
        refine gf_X3_26 (pc := 33) C dX3_readStreet_33 ?_
        refine j_aload_n (pc := 36) C dX3_readStreet_36 rfl 0 rfl ?_
        refine gf_X3_22 (pc := 37) C dX3_readStreet_37 ?_
        refine j_icmp_lt (pc := 40) (tgt := 45) C dX3_readStreet_40 rfl ?_ ?_
        · refine j_iload_n (pc := 45) C dX3_readStreet_45 rfl 1 rfl ?_
          refine j_bipush (pc := 46) C dX3_readStreet_46 (by decide) ?_
          refine j_icmp_eq (pc := 48) (tgt := 60) C dX3_readStreet_48 rfl ?_ ?_
          · refine j_aload_n (pc := 60) C dX3_readStreet_60 rfl 0 rfl ?_
            refine gf_X3_26 (pc := 61) C dX3_readStreet_61 ?_
            exact j_ireturn C rfl rfl rfl rfl dX3_readStreet_64
          · refine j_aload_n (pc := 51) C dX3_readStreet_51 rfl 0 rfl ?_
            refine j_ldcS (pc := 52) (i := 7) C (fun _ _ h => h.2.2.2.2.2.2.2.1) dX3_readStreet_52 ?_
            refine j_bP (fun v2 s4 es4 => ?_)
            refine j_callV1 (pc := 54) C obX3 rfl rfl (X3_word_m _ hj (by decide) es4) kV_X3_38 rfl (by omega) rfl (Nat.le_of_ble_eq_true rfl) dX3_readStreet_54 ?_
            refine j_if_ne (pc := 57) (tgt := 65) C dX3_readStreet_57 rfl ?_ ?_
            · refine j_aload_n (pc := 60) C dX3_readStreet_60 rfl 0 rfl ?_
              refine gf_X3_26 (pc := 61) C dX3_readStreet_61 ?_
              exact j_ireturn C rfl rfl rfl rfl dX3_readStreet_64
            · refine j_iinc (pc := 65) C hN dX3_readStreet_65 1 rfl (by decide) (lv' := [(1, .int (oI (l1 + 1))), (0, .ref (G.2.2.1 170))]) rfl ?_
              refine j_goto (pc := 68) (tgt := 14) C dX3_readStreet_68 rfl ?_
              exact j_sub [1, 0] rfl (ih _ _)
        · refine j_iconst (pc := 43) C dX3_readStreet_43 ?_
          exact j_ireturn C rfl rfl rfl rfl dX3_readStreet_44
set_option maxHeartbeats 4000000 in
set_option maxRecDepth 100000 in
theorem X3_readStreet_m (l : Launch) {G : GD} (hj : zInj sC G) {st : PS} {r : (Int × PS)} (hr : X3_readStreet st = some r) : zM l sC G yX3_readStreet cX3_readStreet 2 (some .int) 43 [.ref (G.2.2.1 170)] st (some (.int (oI r.1))) r.2 :=
  zEnter (f := fI) hr hj (by decide) rfl (lv := [(0, .ref (G.2.2.1 170))]) rfl (Nat.le_of_ble_eq_true rfl) (fun X _ hN C => by
    unfold X3_readStreet
    refine j_aload_n (pc := 0) C dX3_readStreet_0 rfl 0 rfl ?_
    refine j_iconst (pc := 1) C dX3_readStreet_1 ?_
    refine fp_X3_26 (pc := 2) C dX3_readStreet_2 ?_
    refine j_let (fun s1 => ?_)
    refine j_aload_n (pc := 5) C dX3_readStreet_5 rfl 0 rfl ?_
    refine gf_X3_12 (pc := 6) C dX3_readStreet_6 ?_
    refine j_bI (fun s2 es2 => ?_)
    refine j_callV0 (pc := 9) C (obX2 is160) rfl rfl (X2_clear_m _ hj is160 es2) kV_X3_29 rfl (by omega) rfl (Nat.le_of_ble_eq_true rfl) dX3_readStreet_9 ?_
    refine j_iconst (pc := 12) C dX3_readStreet_12 ?_
    refine j_istore_n (pc := 13) C hN dX3_readStreet_13 rfl (by decide) (lv' := [(1, .int (oI 1)), (0, .ref (G.2.2.1 170))]) rfl ?_
    exact j_sub [1, 0] rfl (X3_readStreet_L14_j C hN hj FU _ _))
def X6_street (st : PS) : Option (Int × PS) := if wI (st 0 8) < wI 6 then bP (X3_readStreet st) (fun v1 s1 => bI (X3_clear s1) (fun s2 => if wI v1 = wI (-1) then zchk (wI (s2 0 8)) 6 (bI (X2_takeFrom (100 + 10 * (wI (s2 0 8)).toNat) 160 s2) (fun s3 => zlet (zu s3 20 2 (wI (s2 0 8))) (fun s4 => zlet (zu s4 0 8 ((s4 0 8) + 1)) (fun s5 => some ((s5 0 8) - 1, s5))))) else (some ((-10) - v1, s2)))) else (some ((-4), st))
set_option maxHeartbeats 4000000 in
set_option maxRecDepth 100000 in
theorem X6_street_m (l : Launch) {G : GD} (hj : zInj sC G) {st : PS} {r : (Int × PS)} (hr : X6_street st = some r) : zM l sC G yX6_street cX6_street 3 (some .int) 44 [.ref (G.2.2.1 0)] st (some (.int (oI r.1))) r.2 :=
  zEnter (f := fI) hr hj (by decide) rfl (lv := [(0, .ref (G.2.2.1 0))]) rfl (Nat.le_of_ble_eq_true rfl) (fun X _ hN C => by
    unfold X6_street
    refine j_aload_n (pc := 0) C dX6_street_0 rfl 0 rfl ?_
    refine gf_X6_118 (pc := 1) C dX6_street_1 ?_
    refine j_bipush (pc := 4) C dX6_street_4 (by decide) ?_
    refine j_icmp_lt (pc := 6) (tgt := 12) C dX6_street_6 rfl ?_ ?_
    · refine j_aload_n (pc := 12) C dX6_street_12 rfl 0 rfl ?_
      refine gf_X6_37 (pc := 13) C dX6_street_13 ?_
      refine j_bP (fun v1 s1 es1 => ?_)
      refine j_callV1 (pc := 16) C obX3 rfl rfl (X3_readStreet_m _ hj es1) kV_X6_121 rfl (by omega) rfl (Nat.le_of_ble_eq_true rfl) dX6_street_16 ?_
      refine j_istore_n (pc := 19) C hN dX6_street_19 rfl (by decide) (lv' := [(1, .int (oI v1)), (0, .ref (G.2.2.1 0))]) rfl ?_
      refine j_aload_n (pc := 20) C dX6_street_20 rfl 1 rfl ?_
      refine gf_X6_37 (pc := 21) C dX6_street_21 ?_
      refine j_bI (fun s2 es2 => ?_)
      refine j_callV0 (pc := 24) C obX3 rfl rfl (X3_clear_m _ hj es2) kV_X6_125 rfl (by omega) rfl (Nat.le_of_ble_eq_true rfl) dX6_street_24 ?_
      refine j_iload_n (pc := 27) C dX6_street_27 rfl 0 rfl ?_
      refine j_iconst (pc := 28) C dX6_street_28 ?_
      refine j_icmp_eq (pc := 29) (tgt := 37) C dX6_street_29 rfl ?_ ?_
      · refine j_aload_n (pc := 37) C dX6_street_37 rfl 1 rfl ?_
        refine gf_X6_43 (pc := 38) C dX6_street_38 ?_
        refine j_aload_n (pc := 41) C dX6_street_41 rfl 1 rfl ?_
        refine gf_X6_118 (pc := 42) C dX6_street_42 ?_
        refine j_aald (pc := 45) C arX6_7 rfl dX6_street_45 (fun hk45 => ?_)
        refine j_astore_n (pc := 46) C hN dX6_street_46 rfl (by decide) (lv' := [(2, .ref (G.2.2.1 (100 + 10 * (wI (s2 0 8)).toNat))), (1, .int (oI v1)), (0, .ref (G.2.2.1 0))]) rfl ?_
        refine j_aload_n (pc := 47) C dX6_street_47 rfl 0 rfl ?_
        refine j_aload_n (pc := 48) C dX6_street_48 rfl 2 rfl ?_
        refine gf_X6_37 (pc := 49) C dX6_street_49 ?_
        refine gf_X6_128 (pc := 52) C dX6_street_52 ?_
        refine j_bI (fun s3 es3 => ?_)
        refine j_callV0 (pc := 55) C (obX2 (sixIsStreet hk45)) rfl rfl (X2_takeFrom_m _ hj (sixIsStreet hk45) is160 es3) kV_X6_132 rfl (by omega) rfl (Nat.le_of_ble_eq_true rfl) dX6_street_55 ?_
        refine j_aload_n (pc := 58) C dX6_street_58 rfl 2 rfl ?_
        refine gf_X6_12 (pc := 59) C dX6_street_59 ?_
        refine j_aload_n (pc := 62) C dX6_street_62 rfl 0 rfl ?_
        rw [show Value.ref (G.2.2.1 (100 + 10 * (wI (s2 0 8)).toNat)) = zm G.2.2.1 (wI (s2 0 8)) from (zm_ref hk45.1).symm]
        refine fp_X6_136 (pc := 63) C is20 dX6_street_63 ?_
        refine j_let (fun s4 => ?_)
        refine j_aload_n (pc := 66) C dX6_street_66 rfl 2 rfl ?_
        refine j_dup (pc := 67) C dX6_street_67 rfl ?_
        refine gf_X6_118 (pc := 68) C dX6_street_68 ?_
        refine j_iconst (pc := 71) C dX6_street_71 ?_
        refine j_iadd (pc := 72) C dX6_street_72 ?_
        refine fp_X6_118 (pc := 73) C dX6_street_73 ?_
        refine j_let (fun s5 => ?_)
        refine j_aload_n (pc := 76) C dX6_street_76 rfl 2 rfl ?_
        refine gf_X6_118 (pc := 77) C dX6_street_77 ?_
        refine j_iconst (pc := 80) C dX6_street_80 ?_
        refine j_isub (pc := 81) C dX6_street_81 ?_
        exact j_ireturn C rfl rfl rfl rfl dX6_street_82
      · refine j_bipush (pc := 32) C dX6_street_32 (by decide) ?_
        refine j_iload_n (pc := 34) C dX6_street_34 rfl 0 rfl ?_
        refine j_isub (pc := 35) C dX6_street_35 ?_
        exact j_ireturn C rfl rfl rfl rfl dX6_street_36
    · refine j_bipush (pc := 9) C dX6_street_9 (by decide) ?_
      exact j_ireturn C rfl rfl rfl rfl dX6_street_11)
def X6_act (st : PS) (l1 l2 l3 : Int) : Option (Int × PS) := bI (X0_clear st) (fun s1 => if wI (X6_isHouse s1 l1) = 0 then some (0, s1) else (bI (zrd s1 (20 + 3) 7 l1) (fun v1 => bI (zrd s1 (20 + 4) 7 l1) (fun v2 => bI (X0_choose s1 v1 v2 l1) (fun s2 => bP (X0_perform s2 l2 l3) (fun v3 s3 => some (v3, s3)))))))
set_option maxHeartbeats 4000000 in
set_option maxRecDepth 100000 in
theorem X6_act_m (l : Launch) {G : GD} (hj : zInj sC G) {st : PS} {l1 l2 l3 : Int} {r : (Int × PS)} (hr : X6_act st l1 l2 l3 = some r) : zM l sC G yX6_act cX6_act 4 (some .int) 185 [.ref (G.2.2.1 0), .int (oI l1), .int (oI l2), .int (oI l3)] st (some (.int (oI r.1))) r.2 :=
  zEnter (f := fI) hr hj (by decide) rfl (lv := [(0, .ref (G.2.2.1 0)), (1, .int (oI l1)), (2, .int (oI l2)), (3, .int (oI l3))]) rfl (Nat.le_of_ble_eq_true rfl) (fun X _ hN C => by
    unfold X6_act
    refine j_aload_n (pc := 0) C dX6_act_0 rfl 0 rfl ?_
    refine gf_X6_50 (pc := 1) C dX6_act_1 ?_
    refine j_bI (fun s1 es1 => ?_)
    refine j_callV0 (pc := 4) C obX0 rfl rfl (X0_clear_m _ hj es1) kV_X6_224 rfl (by omega) rfl (Nat.le_of_ble_eq_true rfl) dX6_act_4 ?_
    refine j_aload_n (pc := 7) C dX6_act_7 rfl 0 rfl ?_
    refine j_iload_n (pc := 8) C dX6_act_8 rfl 1 rfl ?_
    refine j_callV1 (pc := 9) C obX6 rfl rfl (X6_isHouse_m _ hj rfl) kV_X6_87 rfl (by omega) rfl (Nat.le_of_ble_eq_true rfl) dX6_act_9 ?_
    refine j_if_ne (pc := 12) (tgt := 17) C dX6_act_12 rfl ?_ ?_
    · refine j_iconst (pc := 15) C dX6_act_15 ?_
      exact j_ireturn C rfl rfl rfl rfl dX6_act_16
    · refine j_aload_n (pc := 17) C dX6_act_17 rfl 0 rfl ?_
      refine gf_X6_50 (pc := 18) C dX6_act_18 ?_
      refine j_aload_n (pc := 21) C dX6_act_21 rfl 0 rfl ?_
      refine gf_X6_12 (pc := 22) C dX6_act_22 ?_
      refine gf_X6_90 (pc := 25) C is20 dX6_act_25 ?_
      refine j_iload_n (pc := 28) C dX6_act_28 rfl 1 rfl ?_
      refine j_bI (fun v1 ev1 => ?_)
      refine j_iald (pc := 29) C (arX5_3 is20) ev1 dX6_act_29 ?_
      refine j_aload_n (pc := 30) C dX6_act_30 rfl 0 rfl ?_
      refine gf_X6_12 (pc := 31) C dX6_act_31 ?_
      refine gf_X6_93 (pc := 34) C is20 dX6_act_34 ?_
      refine j_iload_n (pc := 37) C dX6_act_37 rfl 1 rfl ?_
      refine j_bI (fun v2 ev2 => ?_)
      refine j_iald (pc := 38) C (arX5_4 is20) ev2 dX6_act_38 ?_
      refine j_iload_n (pc := 39) C dX6_act_39 rfl 1 rfl ?_
      refine j_bI (fun s2 es2 => ?_)
      refine j_callV0 (pc := 40) C obX0 rfl rfl (X0_choose_m _ hj es2) kV_X6_225 rfl (by omega) rfl (Nat.le_of_ble_eq_true rfl) dX6_act_40 ?_
      refine j_aload_n (pc := 43) C dX6_act_43 rfl 0 rfl ?_
      refine gf_X6_50 (pc := 44) C dX6_act_44 ?_
      refine j_iload_n (pc := 47) C dX6_act_47 rfl 2 rfl ?_
      refine j_iload_n (pc := 48) C dX6_act_48 rfl 3 rfl ?_
      refine j_bP (fun v3 s3 es3 => ?_)
      refine j_callV1 (pc := 49) C obX0 rfl rfl (X0_perform_m _ hj es3) kV_X6_229 rfl (by omega) rfl (Nat.le_of_ble_eq_true rfl) dX6_act_49 ?_
      exact j_ireturn C rfl rfl rfl rfl dX6_act_52)
def X6_isUnder_L4 (l1 : Int) (st : PS) : Nat → Int → Int → Option Int
  | 0, _, _ => none
  | k + 1, l2, l3 => if wI 7 ≤ wI l3 then some 0 else (if wI (X6_isKind st l2) = 0 then some 0 else (if wI l2 = wI l1 then some 1 else (zchk (wI l2) 7 (X6_isUnder_L4 l1 st k (zab (wI l2)) (l3 + 1)))))
def X6_isUnder (st : PS) (l0 l1 : Int) : Option Int := X6_isUnder_L4 l1 st FU l0 0
set_option maxHeartbeats 4000000 in
set_option maxRecDepth 100000 in
theorem X6_isUnder_L4_j {X : JX} {G : GD} (C : zC X sC G RX6 cX6_isUnder (some .boolean) 1) (hN : X.2.2.2.2.2.2.2.2.2.2.2.2 = 4) (hj : zInj sC G) {l1 : Int} {st : PS} : ∀ (k : Nat) (l2 : Int) (l3 : Int), J X (zI sC G) (zQ sC G (fR st)) st [(1, .int (oI l1)), (2, .int (oI l2)), (3, .int (oI l3))] 4 [] (X6_isUnder_L4 l1 st k l2 l3) := by
  intro k
  induction k with
  | zero => intro l2 l3; exact j_none
  | succ k ih =>
    intro l2 l3
    rw [X6_isUnder_L4]
    refine j_iload_n (pc := 4) C dX6_isUnder_4 rfl 2 rfl ?_
    refine j_gab (pc := 5) C dX6_isUnder_5 ?_
    refine j_ablen (pc := 8) C dX6_isUnder_8 ?_
    refine j_icmp_ge (pc := 9) (tgt := 38) C dX6_isUnder_9 rfl ?_ ?_
    · refine j_iconst (pc := 38) C dX6_isUnder_38 ?_
      exact j_ireturn C rfl rfl (znar (Or.inl rfl)) rfl dX6_isUnder_39
    · refine j_iload_n (pc := 12) C dX6_isUnder_12 rfl 1 rfl ?_
      refine j_callS1 (pc := 13) C (X6_isKind_m _ hj rfl) kS_X6_69 rfl (by omega) rfl (Nat.le_of_ble_eq_true rfl) dX6_isUnder_13 ?_
      refine j_if_eq (pc := 16) (tgt := 38) C dX6_isUnder_16 rfl ?_ ?_
      · refine j_iconst (pc := 38) C dX6_isUnder_38 ?_
        exact j_ireturn C rfl rfl (znar (Or.inl rfl)) rfl dX6_isUnder_39
      · refine j_iload_n (pc := 19) C dX6_isUnder_19 rfl 1 rfl ?_
        refine j_iload_n (pc := 20) C dX6_isUnder_20 rfl 0 rfl ?_
        refine j_icmp_ne (pc := 21) (tgt := 26) C dX6_isUnder_21 rfl ?_ ?_
        · refine j_iconst (pc := 24) C dX6_isUnder_24 ?_
          exact j_ireturn C rfl rfl (znar (Or.inr rfl)) rfl dX6_isUnder_25
        · refine j_gab (pc := 26) C dX6_isUnder_26 ?_
          refine j_iload_n (pc := 29) C dX6_isUnder_29 rfl 1 rfl ?_
          refine j_chk (fun hk30 => ?_)
          refine j_abld (pc := 30) C hk30 dX6_isUnder_30 ?_
          refine j_istore_n (pc := 31) C hN dX6_isUnder_31 rfl (by decide) (lv' := [(2, .int (oI (zab (wI l2)))), (1, .int (oI l1)), (3, .int (oI l3))]) rfl ?_
          refine j_iinc (pc := 32) C hN dX6_isUnder_32 2 rfl (by decide) (lv' := [(3, .int (oI (l3 + 1))), (2, .int (oI (zab (wI l2)))), (1, .int (oI l1))]) rfl ?_
          refine j_goto (pc := 35) (tgt := 4) C dX6_isUnder_35 rfl ?_
          exact j_sub [2, 1, 0] rfl (ih _ _)
set_option maxHeartbeats 4000000 in
set_option maxRecDepth 100000 in
theorem X6_isUnder_m (l : Launch) {G : GD} (hj : zInj sC G) {st : PS} {l0 l1 : Int} {r : Int} (hr : X6_isUnder st l0 l1 = some r) : zM l sC G yX6_isUnder cX6_isUnder 4 (some .boolean) 1 [.int (oI l0), .int (oI l1)] st (some (.int (oI r))) st :=
  zEnter (f := fR st) hr hj (by decide) rfl (lv := [(0, .int (oI l0)), (1, .int (oI l1))]) rfl (Nat.le_of_ble_eq_true rfl) (fun X _ hN C => by
    unfold X6_isUnder
    refine j_iload_n (pc := 0) C dX6_isUnder_0 rfl 0 rfl ?_
    refine j_istore_n (pc := 1) C hN dX6_isUnder_1 rfl (by decide) (lv' := [(2, .int (oI l0)), (0, .int (oI l0)), (1, .int (oI l1))]) rfl ?_
    refine j_iconst (pc := 2) C dX6_isUnder_2 ?_
    refine j_istore_n (pc := 3) C hN dX6_isUnder_3 rfl (by decide) (lv' := [(3, .int (oI 0)), (2, .int (oI l0)), (0, .int (oI l0)), (1, .int (oI l1))]) rfl ?_
    exact j_sub [3, 1, 0] rfl (X6_isUnder_L4_j C hN hj FU _ _))
def X6_taken (st : PS) (l1 l2 : Int) : Option Int := if wI (X6_isKind st l2) = 0 then some (-2) else (if wI (X6_isHouse st l1) = 0 then some (-11) else (bI (zrd st (20 + 3) 7 l1) (fun v1 => bI (X6_isUnder st v1 l2) (fun v2 => if wI v2 = 0 then some (-12) else (some v1)))))
set_option maxHeartbeats 4000000 in
set_option maxRecDepth 100000 in
theorem X6_taken_m (l : Launch) {G : GD} (hj : zInj sC G) {st : PS} {l1 l2 : Int} {r : Int} (hr : X6_taken st l1 l2 = some r) : zM l sC G yX6_taken cX6_taken 4 (some .int) 2 [.ref (G.2.2.1 0), .int (oI l1), .int (oI l2)] st (some (.int (oI r))) st :=
  zEnter (f := fR st) hr hj (by decide) rfl (lv := [(0, .ref (G.2.2.1 0)), (1, .int (oI l1)), (2, .int (oI l2))]) rfl (Nat.le_of_ble_eq_true rfl) (fun X _ hN C => by
    unfold X6_taken
    refine j_iload_n (pc := 0) C dX6_taken_0 rfl 2 rfl ?_
    refine j_callS1 (pc := 1) C (X6_isKind_m _ hj rfl) kS_X6_69 rfl (by omega) rfl (Nat.le_of_ble_eq_true rfl) dX6_taken_1 ?_
    refine j_if_ne (pc := 4) (tgt := 10) C dX6_taken_4 rfl ?_ ?_
    · refine j_bipush (pc := 7) C dX6_taken_7 (by decide) ?_
      exact j_ireturn C rfl rfl rfl rfl dX6_taken_9
    · refine j_aload_n (pc := 10) C dX6_taken_10 rfl 0 rfl ?_
      refine j_iload_n (pc := 11) C dX6_taken_11 rfl 1 rfl ?_
      refine j_callV1 (pc := 12) C obX6 rfl rfl (X6_isHouse_m _ hj rfl) kV_X6_87 rfl (by omega) rfl (Nat.le_of_ble_eq_true rfl) dX6_taken_12 ?_
      refine j_if_ne (pc := 15) (tgt := 21) C dX6_taken_15 rfl ?_ ?_
      · refine j_bipush (pc := 18) C dX6_taken_18 (by decide) ?_
        exact j_ireturn C rfl rfl rfl rfl dX6_taken_20
      · refine j_aload_n (pc := 21) C dX6_taken_21 rfl 0 rfl ?_
        refine gf_X6_12 (pc := 22) C dX6_taken_22 ?_
        refine gf_X6_90 (pc := 25) C is20 dX6_taken_25 ?_
        refine j_iload_n (pc := 28) C dX6_taken_28 rfl 1 rfl ?_
        refine j_bI (fun v1 ev1 => ?_)
        refine j_iald (pc := 29) C (arX5_3 is20) ev1 dX6_taken_29 ?_
        refine j_istore_n (pc := 30) C hN dX6_taken_30 rfl (by decide) (lv' := [(3, .int (oI v1)), (0, .ref (G.2.2.1 0)), (1, .int (oI l1)), (2, .int (oI l2))]) rfl ?_
        refine j_iload_n (pc := 31) C dX6_taken_31 rfl 0 rfl ?_
        refine j_iload_n (pc := 32) C dX6_taken_32 rfl 3 rfl ?_
        refine j_bI (fun v2 ev2 => ?_)
        refine j_callS1 (pc := 33) C (X6_isUnder_m _ hj ev2) kS_X6_238 rfl (by omega) rfl (Nat.le_of_ble_eq_true rfl) dX6_taken_33 ?_
        refine j_if_eq (pc := 36) (tgt := 43) C dX6_taken_36 rfl ?_ ?_
        · refine j_bipush (pc := 43) C dX6_taken_43 (by decide) ?_
          exact j_ireturn C rfl rfl rfl rfl dX6_taken_45
        · refine j_iload_n (pc := 39) C dX6_taken_39 rfl 0 rfl ?_
          refine j_goto (pc := 40) (tgt := 45) C dX6_taken_40 rfl ?_
          exact j_ireturn C rfl rfl rfl rfl dX6_taken_45)
