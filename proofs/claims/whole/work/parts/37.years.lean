/-! years on: what the next year hangs on, and the class's go -/
theorem wideF_ext {n : Nat} {ring h far : Int} {e e' s s' : Int → Int} (he : e h = e' h) : ∀ m : Nat, (∀ o : Int, 0 ≤ o → o < m → s o = s' o) → wideF n ring e s h far m = wideF n ring e' s' h far m
  | 0, _ => by rw [wideF, wideF, he]
  | m + 1, hs => by
    rw [wideF, wideF, wideF_ext he m (fun o h1 h2 => hs o h1 (by omega)), hs m (by omega) (by omega)]
theorem midF_ext {n : Nat} {ring h : Int} {e e' s s' : Int → Int} (h0 : 0 ≤ h) (h1 : h < n) (he : e h = e' h) (hs : ∀ o : Int, 0 ≤ o → o < n → s o = s' o) : midF n ring e s h = midF n ring e' s' h := by
  unfold midF
  rw [he]
  split
  · rfl
  · next c => rw [hs (if h = 0 then (n : Int) - 1 else h - 1) (by split <;> omega) (by split <;> omega), hs (if h = (n : Int) - 1 then 0 else h + 1) (by split <;> omega) (by split <;> omega)]
theorem addsL_ext {fx fx' : Int → Int} (h : ∀ f, fx f = fx' f) (L : Cl) : addsL fx L = addsL fx' L := by
  rw [show fx = fx' from funext h]
theorem nextF_ext {n : Nat} {y : Int} {L : Cl} {kd kd' v v' e e' rw rw' s s' : Int → Int} (hy : 0 ≤ y) (hk : ∀ o : Int, 0 ≤ o → o < n → kd o = kd' o) (hv : ∀ o : Int, 0 ≤ o → o < n → v o = v' o) (he : ∀ o : Int, 0 ≤ o → o < n → e o = e' o) (hr : ∀ o p : Int, 0 ≤ o → o < n → 0 ≤ p → p < 4 → rw (o * 4 + p) = rw' (o * 4 + p)) (hs : ∀ o : Int, 0 ≤ o → o < n → s o = s' o) {h : Int} (h0 : 0 ≤ h) (h1 : h < n) : nextF n y L kd v e rw s h = nextF n y L kd' v' e' rw' s' h := by
  unfold nextF plainF
  rw [midF_ext (e := e) (e' := e') (s := s) (s' := s') h0 h1 (he h h0 h1) hs, wideF_ext (e := e) (e' := e') (s := s) (s' := s') (he h h0 h1) n hs, hk h h0 h1, hv h h0 h1, he h h0 h1, hr h (y % 4) h0 h1 (by omega) (by omega)]
  have ef : fctF n y kd v e h = fctF n y kd' v' e' h := by
    funext f
    unfold fctF
    rw [hk h h0 h1, hv h h0 h1, he h h0 h1, richF_ext he]
  rw [ef]
theorem sayF_ext {n : Nat} {y : Int} {kd kd' v v' e e' : Int → Int} (hk : ∀ o : Int, 0 ≤ o → o < n → kd o = kd' o) (hv : ∀ o : Int, 0 ≤ o → o < n → v o = v' o) (he : ∀ o : Int, 0 ≤ o → o < n → e o = e' o) {h : Int} (h0 : 0 ≤ h) (h1 : h < n) : sayF y kd v e h = sayF y kd' v' e' h := by
  unfold sayF; rw [hk h h0 h1, hv h h0 h1, he h h0 h1]
theorem sayF_rng {y : Int} {kd v e : Int → Int} {h : Int} (he : 0 ≤ e h ∧ e h ≤ 99) : 0 ≤ sayF y kd v e h ∧ sayF y kd v e h ≤ 99 := by
  unfold sayF; split
  · split
    · decide
    · exact he
  · exact he
theorem nextF_rng (n : Nat) (y : Int) (L : Cl) (kd v e rw s : Int → Int) (h : Int) : 0 ≤ nextF n y L kd v e rw s h ∧ nextF n y L kd v e rw s h ≤ 99 := by
  unfold nextF; omega
theorem goF_ext {n : Nat} {L : Cl} {kd kd' v v' rw rw' : Int → Int} (hk : ∀ o : Int, 0 ≤ o → o < n → kd o = kd' o) (hv : ∀ o : Int, 0 ≤ o → o < n → v o = v' o) (hr : ∀ o p : Int, 0 ≤ o → o < n → 0 ≤ p → p < 4 → rw (o * 4 + p) = rw' (o * 4 + p)) : ∀ (K : Nat) (y : Int) (e e' : Int → Int), 0 ≤ y → (∀ o : Int, 0 ≤ o → o < n → e o = e' o) → ∀ h : Int, 0 ≤ h → h < n → goF n L kd v rw K y e h = goF n L kd' v' rw' K y e' h
  | 0, _, _, _, _, he => fun h h0 h1 => he h h0 h1
  | K + 1, y, e, e', hy, he => fun h h0 h1 => by
    rw [goF, goF]
    exact goF_ext hk hv hr K (y + 1) _ _ (by omega) (fun o o0 o1 => nextF_ext hy hk hv he hr (fun q q0 q1 => sayF_ext hk hv he q0 q1) o0 o1) h h0 h1
theorem goF_rng {n : Nat} {L : Cl} {kd v rw : Int → Int} : ∀ (K : Nat) (y : Int) (e : Int → Int), (∀ o : Int, 0 ≤ o → o < n → 0 ≤ e o ∧ e o ≤ 99) → ∀ h : Int, 0 ≤ h → h < n → 0 ≤ goF n L kd v rw K y e h ∧ goF n L kd v rw K y e h ≤ 99
  | 0, _, _, he => he
  | K + 1, y, e, he => by
    rw [goF]
    exact goF_rng K (y + 1) _ (fun o _ _ => nextF_rng _ _ _ _ _ _ _ _ _)
theorem go_L {a n : Nat} {L : Cl} (ha : a ≤ 60) {l : Nat} (hl : l ≤ 1000) : ∀ (d k i : Nat) (s0 : PS) (y : Int), i + d = l → d < k → TW s0 a n y → y + d ≤ 2000 → TS s0 a L →
    ∃ s', X5_go_L2 a l k s0 i = some s' ∧ Same s0 s' (fun b j => b = a + 5 ∨ b = a + 7 ∨ b = a + 8 ∨ b = a + 9 ∨ b = a + 11 ∨ (b = a ∧ (j = 1 ∨ j = 10))) ∧ TW s' a n (y + d) ∧ ∀ h : Int, 0 ≤ h → h < n → s' (a + 5) h = goF n L (s0 (a + 3)) (s0 (a + 4)) (s0 (a + 6)) d y (s0 (a + 5)) h := by
  intro d
  induction d with
  | zero =>
    intro k i s0 y hi hk T hy hT
    obtain ⟨k, rfl⟩ : ∃ k', k = k' + 1 := ⟨k - 1, by omega⟩
    rw [X5_go_L2, if_pos (by rw [wI_id (by omega) (by omega), wI_id (by omega) (by omega)]; omega)]
    exact ⟨s0, rfl, Same.rf, by rw [show y + ((0 : Nat) : Int) = y by omega]; exact T, fun h _ _ => rfl⟩
  | succ d ih =>
    intro k i s0 y hi hk T hy hT
    obtain ⟨k, rfl⟩ : ∃ k', k = k' + 1 := ⟨k - 1, by omega⟩
    rw [X5_go_L2, if_neg (by rw [wI_id (by omega) (by omega), wI_id (by omega) (by omega)]; omega)]
    obtain ⟨s1, a1, a2, a3⟩ := say_ok T
    have T1 : TW s1 a n y := T.same a2 (by omega) (by omega) (fun j => by omega)
    have TS1 : TS s1 a L := hT.same a2 (by omega) (fun b j z1 z2 => by omega)
    have B1 : SB s1 a n := fun h q1 q2 => by rw [a3 h q1 q2]; exact sayF_rng (T.erng h q1 q2)
    obtain ⟨s2, b1, b2, b3⟩ := reckon_ok ha T1 B1 TS1
    have T2 : TW s2 a n y := T1.same b2 (by omega) (by omega) (fun j => by omega)
    obtain ⟨t1, t2, t3, t4, t5, t6⟩ := id T2
    rw [a1, bI_some, b1, bI_some, t1, zcp_ok (by omega) (by omega) (by omega) (by omega) (by omega) (by omega) (by omega), bI_some]
    have TS2 : TS s2 a L := TS1.same b2 (by omega) (fun b j z1 z2 => by omega)
    show ∃ s', X5_go_L2 a l k (zu (zcpf s2 (a + 8) (a + 5) 0 0 n) a 1 (zcpf s2 (a + 8) (a + 5) 0 0 n a 1 + 1)) (i + 1) = some s' ∧ _
    have c1 : zcpf s2 (a + 8) (a + 5) 0 0 n a 1 = y := by unfold zcpf; rw [if_neg (by omega)]; exact t3
    rw [c1]
    have S3 : Same s2 (zu (zcpf s2 (a + 8) (a + 5) 0 0 n) a 1 (y + 1)) (fun b j => b = a + 5 ∨ (b = a ∧ j = 1)) := by
      intro b j hb
      rw [zu_o (by omega)]
      unfold zcpf
      rw [if_neg (by omega)]
    have v3 : ∀ h : Int, 0 ≤ h → h < n → zu (zcpf s2 (a + 8) (a + 5) 0 0 n) a 1 (y + 1) (a + 5) h = nextF n y L (s0 (a + 3)) (s0 (a + 4)) (s0 (a + 5)) (s0 (a + 6)) (sayF y (s0 (a + 3)) (s0 (a + 4)) (s0 (a + 5))) h := by
      intro h q1 q2
      rw [zu_o (by omega)]
      unfold zcpf
      rw [if_pos (by omega), show (0 : Int) + (h - 0) = h by omega, b3 h q1 q2]
      refine nextF_ext t4 (fun o _ _ => a2 _ _ (by omega)) (fun o _ _ => a2 _ _ (by omega)) (fun o _ _ => a2 _ _ (by omega)) (fun o p _ _ _ _ => a2 _ _ (by omega)) (fun o o1 o2 => a3 o o1 o2) q1 q2
    have e1 : zu (zcpf s2 (a + 8) (a + 5) 0 0 n) a 1 (y + 1) a 1 = y + 1 := zu_at
    generalize zu (zcpf s2 (a + 8) (a + 5) 0 0 n) a 1 (y + 1) = s3 at S3 v3 e1 ⊢
    have S03 : Same s0 s3 (fun b j => b = a + 5 ∨ b = a + 7 ∨ b = a + 8 ∨ b = a + 9 ∨ b = a + 11 ∨ (b = a ∧ (j = 1 ∨ j = 10))) := fun b j hb => (S3 b j (by omega)).trans ((b2 b j (by omega)).trans (a2 b j (by omega)))
    have T3 : TW s3 a n (y + 1) := by
      refine ⟨(S3 _ _ (by omega)).trans t1, t2, e1, by omega, by omega, fun h q1 q2 => ?_⟩
      obtain ⟨u1, u2, u3, u4⟩ := t6 h q1 q2
      refine ⟨by rw [S3 _ _ (by omega)]; exact u1, by rw [S3 _ _ (by omega)]; exact u2, by rw [v3 h q1 q2]; exact nextF_rng _ _ _ _ _ _ _ _ _, fun p p1 p2 => by rw [S3 _ _ (by omega)]; exact u4 p p1 p2⟩
    have TS3 : TS s3 a L := TS2.same S3 (by omega) (fun b j z1 z2 => by omega)
    obtain ⟨s', r1, r2, r3, r4⟩ := ih k (i + 1) s3 (y + 1) (by omega) (by omega) T3 (by omega) TS3
    refine ⟨s', r1, S03.tr r2 (fun _ _ q => q) (fun _ _ q => q), by rw [show y + ((d + 1 : Nat) : Int) = y + 1 + (d : Int) by omega]; exact r3, fun h q1 q2 => ?_⟩
    rw [r4 h q1 q2, goF]
    have k3 : s3 (a + 3) = s0 (a + 3) := funext fun j => S03 _ _ (by omega)
    have k4 : s3 (a + 4) = s0 (a + 4) := funext fun j => S03 _ _ (by omega)
    have k6 : s3 (a + 6) = s0 (a + 6) := funext fun j => S03 _ _ (by omega)
    rw [k3, k4, k6]
    exact goF_ext (fun _ _ _ => rfl) (fun _ _ _ => rfl) (fun _ _ _ _ _ _ => rfl) d (y + 1) _ _ (by omega) v3 h q1 q2
theorem go_ok {st : PS} {a n : Nat} {y : Int} {L : Cl} (ha : a ≤ 60) {K : Nat} (hK : K ≤ 1000) (T : TW st a n y) (hy : y + K ≤ 2000) (hT : TS st a L) :
    ∃ s', X5_go a st K = some s' ∧ Same st s' (fun b j => b = a + 5 ∨ b = a + 7 ∨ b = a + 8 ∨ b = a + 9 ∨ b = a + 11 ∨ (b = a ∧ (j = 1 ∨ j = 10))) ∧ TW s' a n (y + K) ∧ ∀ h : Int, 0 ≤ h → h < n → s' (a + 5) h = goF n L (st (a + 3)) (st (a + 4)) (st (a + 6)) K y (st (a + 5)) h :=
  go_L ha hK K FU 0 st y (by omega) (by unfold FU; omega) T hy hT
