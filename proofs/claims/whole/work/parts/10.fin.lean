/-! MORE ROWS: joins, lets, ends, calls by kind -/
def zlet {R : Type} (v : PS) (k : PS → Option R) : Option R := k v
def fR (st : PS) (v : Int) : Option Value × PS := (some (.int (oI v)), st)
def fL (st : PS) (v : Int) : Option Value × PS := (some (.long (oL v)), st)
def fI (r : Int × PS) : Option Value × PS := (some (.int (oI r.1)), r.2)
def fLI (r : Int × PS) : Option Value × PS := (some (.long (oL r.1)), r.2)
def fV (s : PS) : Option Value × PS := (none, s)
theorem zsome_ite {α : Type} {c : Prop} [Decidable c] (a b : α) : some (if c then a else b) = if c then some a else some b := by split <;> rfl
theorem zm_ref {ad : Nat → Nat} {k : Int} (h : 0 ≤ k) : zm ad k = .ref (ad (100 + 10 * k.toNat)) := if_neg (by omega)
section ZFIN
variable {σ T : Type} {X : JX} {K : SD} {G : GD} {own : String} {cc : ByteArray} {rt : Option FieldType} {d : Nat} {WR : State → σ → Heap → List Loc → Prop} {Q : JX → T → State → Prop} {st : σ} {lv lv' : List (Nat × Value)} {pc pc' : Nat} {stk stk' : List Value} {o A B : Option T}
theorem j_join (kk : J X WR Q st lv' pc' stk' o) (h : J X WR Q st lv' pc' stk' o → J X WR Q st lv pc stk o) : J X WR Q st lv pc stk o := h kk
theorem j_eq {stk1 stk2 : List Value} {lv1 lv2 : List (Nat × Value)} (h1 : lv1 = lv2) (h2 : stk1 = stk2) (kk : J X WR Q st lv1 pc stk1 o) : J X WR Q st lv2 pc stk2 o := h1 ▸ h2 ▸ kk
theorem j_let {WS : State → PS → Heap → List Loc → Prop} {v : PS} {k : PS → Option T} (kk : ∀ s1, J X WS Q s1 lv pc stk (k s1)) : J X WS Q v lv pc stk (zlet v k) := kk v

theorem j_icmp_ltH  (C : zC X K G own cc rt d) {a b : Int} {off : Int} {tgt : Nat} (hd : decode cc pc = .ok (.if_icmp .lt off, 3)) (ht : (pc : Int) + off = (tgt : Int)) (kt : wI a < wI b → J X WR Q st lv tgt stk o) (kf : ¬ (wI a < wI b) → J X WR Q st lv (pc + 3) stk o) : J X WR Q st lv pc (.int (oI b) :: .int (oI a) :: stk) o := by
  obtain ⟨p, l, e, R, s, m, args, below, meth, c, cells, slots, nL⟩ := X
  obtain ⟨⟨hx, hb, hml, hown, hts⟩, hK, hj, hO, hR, hr0, hlk⟩ := C
  intro r hr H locs ls hI hl
  refine lv_icmp_lt hx hb hd ht (fun h => ?_) (fun h => ?_)
  · exact kt (oI_lt.mp h) r hr H locs ls hI hl
  · exact kf (fun q => h (oI_lt.mpr q)) r hr H locs ls hI hl

theorem j_icmp_leH  (C : zC X K G own cc rt d) {a b : Int} {off : Int} {tgt : Nat} (hd : decode cc pc = .ok (.if_icmp .le off, 3)) (ht : (pc : Int) + off = (tgt : Int)) (kt : wI a ≤ wI b → J X WR Q st lv tgt stk o) (kf : ¬ (wI a ≤ wI b) → J X WR Q st lv (pc + 3) stk o) : J X WR Q st lv pc (.int (oI b) :: .int (oI a) :: stk) o := by
  obtain ⟨p, l, e, R, s, m, args, below, meth, c, cells, slots, nL⟩ := X
  obtain ⟨⟨hx, hb, hml, hown, hts⟩, hK, hj, hO, hR, hr0, hlk⟩ := C
  intro r hr H locs ls hI hl
  refine lv_icmp_le hx hb hd ht (fun h => ?_) (fun h => ?_)
  · exact kt (oI_le.mp h) r hr H locs ls hI hl
  · exact kf (fun q => h (oI_le.mpr q)) r hr H locs ls hI hl

theorem j_icmp_eqH  (C : zC X K G own cc rt d) {a b : Int} {off : Int} {tgt : Nat} (hd : decode cc pc = .ok (.if_icmp .eq off, 3)) (ht : (pc : Int) + off = (tgt : Int)) (kt : wI a = wI b → J X WR Q st lv tgt stk o) (kf : ¬ (wI a = wI b) → J X WR Q st lv (pc + 3) stk o) : J X WR Q st lv pc (.int (oI b) :: .int (oI a) :: stk) o := by
  obtain ⟨p, l, e, R, s, m, args, below, meth, c, cells, slots, nL⟩ := X
  obtain ⟨⟨hx, hb, hml, hown, hts⟩, hK, hj, hO, hR, hr0, hlk⟩ := C
  intro r hr H locs ls hI hl
  refine lv_icmp_eq hx hb hd ht (fun h => ?_) (fun h => ?_)
  · exact kt (oI_eq.mp h) r hr H locs ls hI hl
  · exact kf (fun q => h (oI_eq.mpr q)) r hr H locs ls hI hl

theorem j_icmp_geH  (C : zC X K G own cc rt d) {a b : Int} {off : Int} {tgt : Nat} (hd : decode cc pc = .ok (.if_icmp .ge off, 3)) (ht : (pc : Int) + off = (tgt : Int)) (kt : wI b ≤ wI a → J X WR Q st lv tgt stk o) (kf : ¬ (wI b ≤ wI a) → J X WR Q st lv (pc + 3) stk o) : J X WR Q st lv pc (.int (oI b) :: .int (oI a) :: stk) o := by
  obtain ⟨p, l, e, R, s, m, args, below, meth, c, cells, slots, nL⟩ := X
  obtain ⟨⟨hx, hb, hml, hown, hts⟩, hK, hj, hO, hR, hr0, hlk⟩ := C
  intro r hr H locs ls hI hl
  refine lv_icmp_ge hx hb hd ht (fun h => ?_) (fun h => ?_)
  · exact kt (oI_le.mp h) r hr H locs ls hI hl
  · exact kf (fun q => h (oI_le.mpr q)) r hr H locs ls hI hl

theorem j_icmp_gtH  (C : zC X K G own cc rt d) {a b : Int} {off : Int} {tgt : Nat} (hd : decode cc pc = .ok (.if_icmp .gt off, 3)) (ht : (pc : Int) + off = (tgt : Int)) (kt : wI b < wI a → J X WR Q st lv tgt stk o) (kf : ¬ (wI b < wI a) → J X WR Q st lv (pc + 3) stk o) : J X WR Q st lv pc (.int (oI b) :: .int (oI a) :: stk) o := by
  obtain ⟨p, l, e, R, s, m, args, below, meth, c, cells, slots, nL⟩ := X
  obtain ⟨⟨hx, hb, hml, hown, hts⟩, hK, hj, hO, hR, hr0, hlk⟩ := C
  intro r hr H locs ls hI hl
  refine lv_icmp_gt hx hb hd ht (fun h => ?_) (fun h => ?_)
  · exact kt (oI_lt.mp h) r hr H locs ls hI hl
  · exact kf (fun q => h (oI_lt.mpr q)) r hr H locs ls hI hl

theorem j_icmp_neH  (C : zC X K G own cc rt d) {a b : Int} {off : Int} {tgt : Nat} (hd : decode cc pc = .ok (.if_icmp .ne off, 3)) (ht : (pc : Int) + off = (tgt : Int)) (kt : wI a = wI b → J X WR Q st lv (pc + 3) stk o) (kf : ¬ (wI a = wI b) → J X WR Q st lv tgt stk o) : J X WR Q st lv pc (.int (oI b) :: .int (oI a) :: stk) o := by
  obtain ⟨p, l, e, R, s, m, args, below, meth, c, cells, slots, nL⟩ := X
  obtain ⟨⟨hx, hb, hml, hown, hts⟩, hK, hj, hO, hR, hr0, hlk⟩ := C
  intro r hr H locs ls hI hl
  refine lv_icmp_ne hx hb hd ht (fun h => ?_) (fun h => ?_)
  · exact kf (fun q => h (oI_eq.mpr q)) r hr H locs ls hI hl
  · exact kt (oI_eq.mp h) r hr H locs ls hI hl

theorem j_if_ltH  (C : zC X K G own cc rt d) {a : Int} {off : Int} {tgt : Nat} (hd : decode cc pc = .ok (.ifCond .lt off, 3)) (ht : (pc : Int) + off = (tgt : Int)) (kt : wI a < 0 → J X WR Q st lv tgt stk o) (kf : ¬ (wI a < 0) → J X WR Q st lv (pc + 3) stk o) : J X WR Q st lv pc (.int (oI a) :: stk) o := by
  obtain ⟨p, l, e, R, s, m, args, below, meth, c, cells, slots, nL⟩ := X
  obtain ⟨⟨hx, hb, hml, hown, hts⟩, hK, hj, hO, hR, hr0, hlk⟩ := C
  intro r hr H locs ls hI hl
  refine lv_if_lt hx hb hd ht (fun h => ?_) (fun h => ?_)
  · exact kt (oI_lt0.mp h) r hr H locs ls hI hl
  · exact kf (fun q => h (oI_lt0.mpr q)) r hr H locs ls hI hl

theorem j_if_leH  (C : zC X K G own cc rt d) {a : Int} {off : Int} {tgt : Nat} (hd : decode cc pc = .ok (.ifCond .le off, 3)) (ht : (pc : Int) + off = (tgt : Int)) (kt : wI a ≤ 0 → J X WR Q st lv tgt stk o) (kf : ¬ (wI a ≤ 0) → J X WR Q st lv (pc + 3) stk o) : J X WR Q st lv pc (.int (oI a) :: stk) o := by
  obtain ⟨p, l, e, R, s, m, args, below, meth, c, cells, slots, nL⟩ := X
  obtain ⟨⟨hx, hb, hml, hown, hts⟩, hK, hj, hO, hR, hr0, hlk⟩ := C
  intro r hr H locs ls hI hl
  refine lv_if_le hx hb hd ht (fun h => ?_) (fun h => ?_)
  · exact kt (oI_le0.mp h) r hr H locs ls hI hl
  · exact kf (fun q => h (oI_le0.mpr q)) r hr H locs ls hI hl

theorem j_if_eqH  (C : zC X K G own cc rt d) {a : Int} {off : Int} {tgt : Nat} (hd : decode cc pc = .ok (.ifCond .eq off, 3)) (ht : (pc : Int) + off = (tgt : Int)) (kt : wI a = 0 → J X WR Q st lv tgt stk o) (kf : ¬ (wI a = 0) → J X WR Q st lv (pc + 3) stk o) : J X WR Q st lv pc (.int (oI a) :: stk) o := by
  obtain ⟨p, l, e, R, s, m, args, below, meth, c, cells, slots, nL⟩ := X
  obtain ⟨⟨hx, hb, hml, hown, hts⟩, hK, hj, hO, hR, hr0, hlk⟩ := C
  intro r hr H locs ls hI hl
  refine lv_if_eq hx hb hd ht (fun h => ?_) (fun h => ?_)
  · exact kt (oI_eq0.mp h) r hr H locs ls hI hl
  · exact kf (fun q => h (oI_eq0.mpr q)) r hr H locs ls hI hl

theorem j_if_geH  (C : zC X K G own cc rt d) {a : Int} {off : Int} {tgt : Nat} (hd : decode cc pc = .ok (.ifCond .ge off, 3)) (ht : (pc : Int) + off = (tgt : Int)) (kt : 0 ≤ wI a → J X WR Q st lv tgt stk o) (kf : ¬ (0 ≤ wI a) → J X WR Q st lv (pc + 3) stk o) : J X WR Q st lv pc (.int (oI a) :: stk) o := by
  obtain ⟨p, l, e, R, s, m, args, below, meth, c, cells, slots, nL⟩ := X
  obtain ⟨⟨hx, hb, hml, hown, hts⟩, hK, hj, hO, hR, hr0, hlk⟩ := C
  intro r hr H locs ls hI hl
  refine lv_if_ge hx hb hd ht (fun h => ?_) (fun h => ?_)
  · exact kt (oI_ge0.mp h) r hr H locs ls hI hl
  · exact kf (fun q => h (oI_ge0.mpr q)) r hr H locs ls hI hl

theorem j_if_gtH  (C : zC X K G own cc rt d) {a : Int} {off : Int} {tgt : Nat} (hd : decode cc pc = .ok (.ifCond .gt off, 3)) (ht : (pc : Int) + off = (tgt : Int)) (kt : 0 < wI a → J X WR Q st lv tgt stk o) (kf : ¬ (0 < wI a) → J X WR Q st lv (pc + 3) stk o) : J X WR Q st lv pc (.int (oI a) :: stk) o := by
  obtain ⟨p, l, e, R, s, m, args, below, meth, c, cells, slots, nL⟩ := X
  obtain ⟨⟨hx, hb, hml, hown, hts⟩, hK, hj, hO, hR, hr0, hlk⟩ := C
  intro r hr H locs ls hI hl
  refine lv_if_gt hx hb hd ht (fun h => ?_) (fun h => ?_)
  · exact kt (oI_gt0.mp h) r hr H locs ls hI hl
  · exact kf (fun q => h (oI_gt0.mpr q)) r hr H locs ls hI hl

theorem j_if_neH  (C : zC X K G own cc rt d) {a : Int} {off : Int} {tgt : Nat} (hd : decode cc pc = .ok (.ifCond .ne off, 3)) (ht : (pc : Int) + off = (tgt : Int)) (kt : wI a = 0 → J X WR Q st lv (pc + 3) stk o) (kf : ¬ (wI a = 0) → J X WR Q st lv tgt stk o) : J X WR Q st lv pc (.int (oI a) :: stk) o := by
  obtain ⟨p, l, e, R, s, m, args, below, meth, c, cells, slots, nL⟩ := X
  obtain ⟨⟨hx, hb, hml, hown, hts⟩, hK, hj, hO, hR, hr0, hlk⟩ := C
  intro r hr H locs ls hI hl
  refine lv_if_ne hx hb hd ht (fun h => ?_) (fun h => ?_)
  · exact kf (fun q => h (oI_eq0.mpr q)) r hr H locs ls hI hl
  · exact kt (oI_eq0.mp h) r hr H locs ls hI hl

end ZFIN
section ZCALL2
variable {T : Type} {X : JX} {K : SD} {G : GD} {own : String} {cc : ByteArray} {rt : Option FieldType} {d : Nat} {Q : JX → T → State → Prop} {st st' : PS} {lv : List (Nat × Value)} {pc : Nat} {stk stk0 : List Value} {o : Option T} {y : MethodName} {b : ByteArray} {n d' idx k : Nat} {rt' : Option FieldType} {As : List Value} {v : Value}
theorem j_callV1 (C : zC X K G own cc rt d) {a ci : Nat} {q : vw_C} {fs : (Nat → Nat) → (Int → Int) → List Value} (hob : zOb K a ci fs) (hc : zCl[ci]? = some q) (hq : q.1 = y.cls) (hM : zM X.2.1 K G y b n rt' d' (.ref (G.2.2.1 a) :: As) st (some v) st') (hk : zLV own idx y b n rt' k) (hk2 : As.length = k) (hdd : d' < d) (hs : stk0 = As.reverse ++ .ref (G.2.2.1 a) :: stk) (hsz : (stk.map fun v => v.category).sum ≤ 8) (hd : decode cc pc = .ok (.invokevirtual idx, 3))
    (kk : J X (zI K G) Q st' lv (pc + 3) (v :: stk) o) : J X (zI K G) Q st lv pc stk0 o := j_callV C hob hc hq hM hk hk2 hdd hs hsz hd kk
theorem j_callS1 (C : zC X K G own cc rt d) (hM : zM X.2.1 K G y b n rt' d' As st (some v) st') (hk : zLS own idx y b n rt' k) (hk2 : As.length = k) (hdd : d' < d) (hs : stk0 = As.reverse ++ stk) (hsz : (stk.map fun v => v.category).sum ≤ 8) (hd : decode cc pc = .ok (.invokestatic idx, 3))
    (kk : J X (zI K G) Q st' lv (pc + 3) (v :: stk) o) : J X (zI K G) Q st lv pc stk0 o := j_callS C hM hk hk2 hdd hs hsz hd kk
theorem j_callV0 (C : zC X K G own cc rt d) {a ci : Nat} {q : vw_C} {fs : (Nat → Nat) → (Int → Int) → List Value} (hob : zOb K a ci fs) (hc : zCl[ci]? = some q) (hq : q.1 = y.cls) (hM : zM X.2.1 K G y b n rt' d' (.ref (G.2.2.1 a) :: As) st none st') (hk : zLV own idx y b n rt' k) (hk2 : As.length = k) (hdd : d' < d) (hs : stk0 = As.reverse ++ .ref (G.2.2.1 a) :: stk) (hsz : (stk.map fun v => v.category).sum ≤ 8) (hd : decode cc pc = .ok (.invokevirtual idx, 3))
    (kk : J X (zI K G) Q st' lv (pc + 3) stk o) : J X (zI K G) Q st lv pc stk0 o := j_callV C hob hc hq hM hk hk2 hdd hs hsz hd kk
theorem j_callS0 (C : zC X K G own cc rt d) (hM : zM X.2.1 K G y b n rt' d' As st none st') (hk : zLS own idx y b n rt' k) (hk2 : As.length = k) (hdd : d' < d) (hs : stk0 = As.reverse ++ stk) (hsz : (stk.map fun v => v.category).sum ≤ 8) (hd : decode cc pc = .ok (.invokestatic idx, 3))
    (kk : J X (zI K G) Q st' lv (pc + 3) stk o) : J X (zI K G) Q st lv pc stk0 o := j_callS C hM hk hk2 hdd hs hsz hd kk
end ZCALL2
theorem sixge_ {k : Int} (h : 0 ≤ k ∧ k < (6 : Nat)) : 0 ≤ k := h.1
