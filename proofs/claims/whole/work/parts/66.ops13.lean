/-! CALLS: act, taken -/
theorem bP_id (o : Option (Int × PS)) : bP o (fun v s => some (v, s)) = o := by
  cases o with
  | none => rfl
  | some r => rfl
def AC (c0 m0 c m : PS) (B : Nat) : Prop := Same c0 c (fun b j => (b = 180 ∧ j = 0) ∨ b = 181) ∧ Same m0 m (fun b j => (b = 0 ∧ j = 55) ∨ b = 56) ∧ ∃ q : Nat, q ≤ B ∧ c 180 0 = q ∧ m 0 55 = q ∧ ∀ i : Int, 0 ≤ i → i < q → i < 20 → m 56 i = c 181 i
def AH (c0 m0 : PS) (i kd v : Int) : Prop := c0 180 2 = kd ∧ c0 180 3 = v ∧ c0 180 4 = i ∧ m0 2 i = kd ∧ m0 3 i = v ∧ (0 ≤ i ∧ i < 7) ∧ 0 ≤ kd ∧ kd ≤ 6
section ACTS
variable {c0 m0 c m : PS} {B : Nat} {i kd v : Int}
theorem abegin (A : AC c0 m0 c m B) (hB : B ≤ 150) (x : Int) : ∃ c' m', X0_begin c x = some c' ∧ X7_body m x = some m' ∧ AC c0 m0 c' m' (B + 1) := by
  obtain ⟨h1, h2, q, h3, h4, h5, h6⟩ := A
  unfold X0_begin X7_body
  rw [h4, h5, wI_id (z := (q : Int)) (by omega) (by omega), wI_id (z := 20) (by omega) (by omega)]
  by_cases g : (20 : Int) ≤ q
  · rw [if_pos g, if_pos g, zlet_eq, zlet_eq]
    refine ⟨_, _, rfl, rfl, fun b j hb => (zu_o (by omega)).trans (h1 b j hb), fun b j hb => (zu_o (by omega)).trans (h2 b j hb), q + 1, by omega, by rw [zu_at]; omega, by rw [zu_at]; omega, fun i i1 i2 i3 => ?_⟩
    rw [zu_o (by omega), zu_o (by omega)]
    exact h6 i i1 (by omega) i3
  · rw [if_neg g, if_neg g, zwr_ok (by omega) (by omega) (by omega), bI_some, zwr_ok (by omega) (by omega) (by omega), bI_some, zlet_eq, zlet_eq]
    refine ⟨_, _, rfl, rfl, fun b j hb => ?_, fun b j hb => ?_, q + 1, by omega, ?_, ?_, fun i i1 i2 i3 => ?_⟩
    · simp (disch := omega) only [zu_o]; exact h1 b j hb
    · simp (disch := omega) only [zu_o]; exact h2 b j hb
    · rw [zu_at, zu_o (by omega), h4]; omega
    · rw [zu_at, zu_o (by omega), h5]; omega
    · by_cases e : i = q
      · subst e
        simp (disch := omega) only [zu_o, zu_at]
      · simp (disch := omega) only [zu_o]
        exact h6 i i1 (by omega) i3
theorem AC.k (A : AC c0 m0 c m B) (H : AH c0 m0 i kd v) : c 180 2 = kd ∧ c 180 3 = v ∧ c 180 4 = i ∧ m 2 i = kd ∧ m 3 i = v := by
  obtain ⟨h1, h2, -⟩ := A
  obtain ⟨g1, g2, g3, g4, g5, -⟩ := H
  exact ⟨(h1 _ _ (by omega)).trans g1, (h1 _ _ (by omega)).trans g2, (h1 _ _ (by omega)).trans g3, (h2 _ _ (by omega)).trans g4, (h2 _ _ (by omega)).trans g5⟩
theorem AC.mono {B' : Nat} (A : AC c0 m0 c m B) (h : B ≤ B') : AC c0 m0 c m B' := by
  obtain ⟨h1, h2, q, h3, h4⟩ := A
  exact ⟨h1, h2, q, by omega, h4⟩
variable {n : Nat} {x d : Int}
theorem hd40 (h : 0 ≤ d ∧ d ≤ 40) : wI d ≤ wI 40 := by rw [wI_id (by omega) (by omega), wI_id (by omega) (by omega)]; omega
theorem rE0 (hd : 0 ≤ d ∧ d ≤ 40) : X0_runEarns (n + 1) c 0 x d = bI (X0_begin c 10) (fun s9 => some (x + (s9 180 4), s9)) := by
  rw [X0_runEarns, if_pos (hd40 hd), if_neg (by decide), if_neg (by decide), if_neg (by decide), if_neg (by decide), if_neg (by decide)]
theorem rE1 (hd : 0 ≤ d ∧ d ≤ 40) : X0_runEarns (n + 1) c 1 x d = X0_runEarns n c 0 x (d + 1) := by
  rw [X0_runEarns, if_pos (hd40 hd), if_pos (by decide), bP_id]
theorem rE3 (hd : 0 ≤ d ∧ d ≤ 40) : X0_runEarns (n + 1) c 3 x d = X0_runEarns n c 0 x (d + 1) := by
  rw [X0_runEarns, if_pos (hd40 hd), if_pos (by decide), bP_id]
theorem rE2 (hd : 0 ≤ d ∧ d ≤ 40) : X0_runEarns (n + 1) c 2 x d = bI (X0_begin c 30) (fun s2 => X0_runEarns n s2 0 (x * 3) (d + 1)) := by
  rw [X0_runEarns, if_pos (hd40 hd), if_neg (by decide), if_pos (by decide)]
  simp only [bP_id]
theorem rE4 (hd : 0 ≤ d ∧ d ≤ 40) : X0_runEarns (n + 1) c 4 x d = bI (X0_begin c 50) (fun s4 => bP (X0_runEarns n s4 1 x (d + 1)) (fun v3 s5 => some (-v3, s5))) := by
  rw [X0_runEarns, if_pos (hd40 hd), if_neg (by decide), if_neg (by decide), if_pos (by decide)]
theorem rE5 (hd : 0 ≤ d ∧ d ≤ 40) : X0_runEarns (n + 1) c 5 x d = X0_runEarns n c 2 x (d + 1) := by
  rw [X0_runEarns, if_pos (hd40 hd), if_neg (by decide), if_neg (by decide), if_neg (by decide), if_pos (by decide), bP_id]
theorem rE6 (hd : 0 ≤ d ∧ d ≤ 40) : X0_runEarns (n + 1) c 6 x d = bI (X0_begin c 71) (fun s7 => bP (X0_runEarns n s7 3 x (d + 1)) (fun v5 s8 => some (zxor v5 (s8 180 3), s8))) := by
  rw [X0_runEarns, if_pos (hd40 hd), if_neg (by decide), if_neg (by decide), if_neg (by decide), if_neg (by decide), if_pos (by decide)]
theorem ehouse (A : AC c0 m0 c m B) (H : AH c0 m0 i kd v) (hB : B ≤ 150) (hd : 0 ≤ d ∧ d ≤ 40) : ∃ c' m', X0_runEarns (n + 1) c 0 x d = some (x + i, c') ∧ X7_houseEarns m i x = some (x + i, m') ∧ AC c0 m0 c' m' (B + 1) := by
  obtain ⟨c', m', a1, a2, a3⟩ := abegin A hB 10
  refine ⟨c', m', ?_, ?_, a3⟩
  · rw [rE0 hd, a1, bI_some, (a3.k H).2.2.1]
  · unfold X7_houseEarns
    rw [a2, bI_some]
theorem kd7 (h : 0 ≤ kd ∧ kd ≤ 6) : kd = 0 ∨ kd = 1 ∨ kd = 2 ∨ kd = 3 ∨ kd = 4 ∨ kd = 5 ∨ kd = 6 := by omega
theorem eact (A : AC c0 m0 c m B) (H : AH c0 m0 i kd v) (hB : B ≤ 140) (hd : 0 ≤ d ∧ d ≤ 30) : ∃ r c' m', X0_runEarns (n + 4) c kd x d = some (r, c') ∧ X7_earnsAct m i x = some (r, m') ∧ AC c0 m0 c' m' (B + 3) := by
  obtain ⟨k1, k2, k3, k4, k5⟩ := A.k H
  obtain ⟨i0, i7⟩ := H.2.2.2.2.2.1
  have z2 : zrd m 2 8 i = some kd := by rw [zrd_ok (by omega) (by omega) (by omega), k4]
  unfold X7_earnsAct
  rw [z2, bI_some]
  rcases kd7 H.2.2.2.2.2.2 with e | e | e | e | e | e | e <;> subst e
  · obtain ⟨c', m', a1, a2, a3⟩ := ehouse (n := n + 3) (x := x) A H (by omega) (d := d) (by omega)
    rw [if_neg (by decide), if_neg (by decide), if_neg (by decide), a1, a2]
    exact ⟨_, _, _, rfl, rfl, a3.mono (by omega)⟩
  · obtain ⟨c', m', a1, a2, a3⟩ := ehouse (n := n + 2) (x := x) A H (by omega) (d := d + 1) (by omega)
    rw [if_neg (by decide), if_neg (by decide), if_neg (by decide), rE1 (by omega), a1, a2]
    exact ⟨_, _, _, rfl, rfl, a3.mono (by omega)⟩
  · obtain ⟨c1, m1, b1, b2, b3⟩ := abegin A (by omega) 30
    obtain ⟨c', m', a1, a2, a3⟩ := ehouse (n := n + 2) (x := x * 3) b3 H (by omega) (d := d + 1) (by omega)
    rw [if_pos (by decide), rE2 (by omega), b1, bI_some, a1, b2, bI_some, a2]
    exact ⟨_, _, _, rfl, rfl, a3.mono (by omega)⟩
  · obtain ⟨c', m', a1, a2, a3⟩ := ehouse (n := n + 2) (x := x) A H (by omega) (d := d + 1) (by omega)
    rw [if_neg (by decide), if_neg (by decide), if_neg (by decide), rE3 (by omega), a1, a2]
    exact ⟨_, _, _, rfl, rfl, a3.mono (by omega)⟩
  · obtain ⟨c1, m1, b1, b2, b3⟩ := abegin A (by omega) 50
    obtain ⟨c', m', a1, a2, a3⟩ := ehouse (n := n + 1) (x := x) b3 H (by omega) (d := d + 1 + 1) (by omega)
    rw [if_neg (by decide), if_pos (by decide), rE4 (by omega), b1, bI_some, rE1 (by omega), a1, b2, bI_some, a2]
    exact ⟨_, _, _, rfl, rfl, a3.mono (by omega)⟩
  · obtain ⟨c1, m1, b1, b2, b3⟩ := abegin A (by omega) 30
    obtain ⟨c', m', a1, a2, a3⟩ := ehouse (n := n + 1) (x := x * 3) b3 H (by omega) (d := d + 1 + 1) (by omega)
    rw [if_pos (by decide), rE5 (by omega), rE2 (by omega), b1, bI_some, a1, b2, bI_some, a2]
    exact ⟨_, _, _, rfl, rfl, a3.mono (by omega)⟩
  · obtain ⟨c1, m1, b1, b2, b3⟩ := abegin A (by omega) 71
    obtain ⟨c', m', a1, a2, a3⟩ := ehouse (n := n + 1) (x := x) b3 H (by omega) (d := d + 1 + 1) (by omega)
    obtain ⟨q1, q2, q3, q4, q5⟩ := a3.k H
    rw [if_neg (by decide), if_neg (by decide), if_pos (by decide), rE6 (by omega), b1, bI_some, rE3 (by omega), a1, b2, bI_some, a2, bP_some, bP_some, zrd_ok (by omega) (by omega) (by omega), bI_some, q2, q5]
    exact ⟨_, _, _, rfl, rfl, a3.mono (by omega)⟩
theorem rS0 (hd : 0 ≤ d ∧ d ≤ 40) : X0_runSays (n + 1) c 0 x d = bI (X0_begin c 11) (fun s10 => bP (X0_runEarns 60 s10 (s10 180 2) x (d + 1)) (fun v7 s11 => some (v7 - (s11 180 3), s11))) := by
  rw [X0_runSays, if_pos (hd40 hd), if_neg (by decide), if_neg (by decide), if_neg (by decide), if_neg (by decide), if_neg (by decide)]
theorem rS1 (hd : 0 ≤ d ∧ d ≤ 40) : X0_runSays (n + 1) c 1 x d = bI (X0_begin c 20) (fun s1 => bP (X0_runSays n s1 0 x (d + 1)) (fun v1 s2 => some (zxor v1 6, s2))) := by
  rw [X0_runSays, if_pos (hd40 hd), if_pos (by decide)]
theorem rS2 (hd : 0 ≤ d ∧ d ≤ 40) : X0_runSays (n + 1) c 2 x d = X0_runSays n c 0 x (d + 1) := by
  rw [X0_runSays, if_pos (hd40 hd), if_neg (by decide), if_pos (by decide), bP_id]
theorem rS3 (hd : 0 ≤ d ∧ d ≤ 40) : X0_runSays (n + 1) c 3 x d = X0_runSays n c 0 x (d + 1) := by
  rw [X0_runSays, if_pos (hd40 hd), if_neg (by decide), if_pos (by decide), bP_id]
theorem rS4 (hd : 0 ≤ d ∧ d ≤ 40) : X0_runSays (n + 1) c 4 x d = bI (X0_begin c 51) (fun s4 => X0_runSays n s4 1 (x + 1) (d + 1)) := by
  rw [X0_runSays, if_pos (hd40 hd), if_neg (by decide), if_neg (by decide), if_pos (by decide)]
  simp only [bP_id]
theorem rS5 (hd : 0 ≤ d ∧ d ≤ 40) : X0_runSays (n + 1) c 5 x d = X0_runSays n c 2 x (d + 1) := by
  rw [X0_runSays, if_pos (hd40 hd), if_neg (by decide), if_neg (by decide), if_neg (by decide), if_pos (by decide), bP_id]
theorem rS6 (hd : 0 ≤ d ∧ d ≤ 40) : X0_runSays (n + 1) c 6 x d = bI (X0_begin c 70) (fun s7 => bP (X0_runSays n s7 3 x (d + 1)) (fun v5 s8 => bP (X0_runEarns 60 s8 3 2 (d + 1)) (fun v6 s9 => some (v5 + v6, s9)))) := by
  rw [X0_runSays, if_pos (hd40 hd), if_neg (by decide), if_neg (by decide), if_neg (by decide), if_neg (by decide), if_pos (by decide)]
theorem shouse (A : AC c0 m0 c m B) (H : AH c0 m0 i kd v) (hB : B ≤ 120) (hd : 0 ≤ d ∧ d ≤ 25) : ∃ r c' m', X0_runSays (n + 1) c 0 x d = some (r, c') ∧ X7_houseSays m i x = some (r, m') ∧ AC c0 m0 c' m' (B + 4) := by
  obtain ⟨i0, i7⟩ := H.2.2.2.2.2.1
  obtain ⟨c1, m1, a1, a2, a3⟩ := abegin A (by omega) 11
  obtain ⟨r, c2, m2, b1, b2, b3⟩ := eact (n := 56) (x := x) a3 H (by omega) (d := d + 1) (by omega)
  obtain ⟨q1, q2, q3, q4, q5⟩ := b3.k H
  refine ⟨r - v, c2, m2, ?_, ?_, b3⟩
  · rw [rS0 (by omega), a1, bI_some, (a3.k H).1, b1, bP_some, q2]
  · unfold X7_houseSays
    rw [a2, bI_some, b2, bP_some, zrd_ok (by omega) (by omega) (by omega), bI_some, q5]
theorem sproud (A : AC c0 m0 c m B) (H : AH c0 m0 i kd v) (hB : B ≤ 110) (hd : 0 ≤ d ∧ d ≤ 24) : ∃ r c' m', X0_runSays (n + 2) c 1 x d = some (r, c') ∧ X7_proudSays m i x = some (r, m') ∧ AC c0 m0 c' m' (B + 5) := by
  obtain ⟨c1, m1, a1, a2, a3⟩ := abegin A (by omega) 20
  obtain ⟨r, c2, m2, b1, b2, b3⟩ := shouse (n := n) (x := x) a3 H (by omega) (d := d + 1) (by omega)
  refine ⟨zxor r 6, c2, m2, ?_, ?_, b3⟩
  · rw [rS1 (by omega), a1, bI_some, b1, bP_some]
  · unfold X7_proudSays
    rw [a2, bI_some, b2, bP_some]
theorem sact (A : AC c0 m0 c m B) (H : AH c0 m0 i kd v) (hB : B ≤ 100) (hd : 0 ≤ d ∧ d ≤ 20) : ∃ r c' m', X0_runSays (n + 4) c kd x d = some (r, c') ∧ X7_saysAct m i x = some (r, m') ∧ AC c0 m0 c' m' (B + 8) := by
  obtain ⟨k1, k2, k3, k4, k5⟩ := A.k H
  obtain ⟨i0, i7⟩ := H.2.2.2.2.2.1
  have z2 : zrd m 2 8 i = some kd := by rw [zrd_ok (by omega) (by omega) (by omega), k4]
  unfold X7_saysAct
  rw [z2, bI_some]
  rcases kd7 H.2.2.2.2.2.2 with e | e | e | e | e | e | e <;> subst e
  · obtain ⟨r, c', m', a1, a2, a3⟩ := shouse (n := n + 3) (x := x) A H (by omega) (d := d) (by omega)
    rw [if_neg (by decide), if_neg (by decide), if_neg (by decide), a1, a2]
    exact ⟨_, _, _, rfl, rfl, a3.mono (by omega)⟩
  · obtain ⟨r, c', m', a1, a2, a3⟩ := sproud (n := n + 2) (x := x) A H (by omega) (d := d) (by omega)
    rw [if_pos (by decide), a1, a2]
    exact ⟨_, _, _, rfl, rfl, a3.mono (by omega)⟩
  · obtain ⟨r, c', m', a1, a2, a3⟩ := shouse (n := n + 2) (x := x) A H (by omega) (d := d + 1) (by omega)
    rw [if_neg (by decide), if_neg (by decide), if_neg (by decide), rS2 (by omega), a1, a2]
    exact ⟨_, _, _, rfl, rfl, a3.mono (by omega)⟩
  · obtain ⟨r, c', m', a1, a2, a3⟩ := shouse (n := n + 2) (x := x) A H (by omega) (d := d + 1) (by omega)
    rw [if_neg (by decide), if_neg (by decide), if_neg (by decide), rS3 (by omega), a1, a2]
    exact ⟨_, _, _, rfl, rfl, a3.mono (by omega)⟩
  · obtain ⟨c1, m1, b1, b2, b3⟩ := abegin A (by omega) 51
    obtain ⟨r, c', m', a1, a2, a3⟩ := sproud (n := n + 1) (x := x + 1) b3 H (by omega) (d := d + 1) (by omega)
    rw [if_neg (by decide), if_pos (by decide), rS4 (by omega), b1, bI_some, a1, b2, bI_some, a2]
    exact ⟨_, _, _, rfl, rfl, a3.mono (by omega)⟩
  · obtain ⟨r, c', m', a1, a2, a3⟩ := shouse (n := n + 1) (x := x) A H (by omega) (d := d + 1 + 1) (by omega)
    rw [if_neg (by decide), if_neg (by decide), if_neg (by decide), rS5 (by omega), rS2 (by omega), a1, a2]
    exact ⟨_, _, _, rfl, rfl, a3.mono (by omega)⟩
  · obtain ⟨c1, m1, b1, b2, b3⟩ := abegin A (by omega) 70
    obtain ⟨r, c', m', a1, a2, a3⟩ := shouse (n := n + 1) (x := x) b3 H (by omega) (d := d + 1 + 1) (by omega)
    obtain ⟨c2, m2, e1, e2, e3⟩ := ehouse (n := 58) (x := 2) a3 H (by omega) (d := d + 1 + 1) (by omega)
    rw [if_neg (by decide), if_neg (by decide), if_pos (by decide), rS6 (by omega), b1, bI_some, rS3 (by omega), a1, b2, bI_some, a2, bP_some, bP_some, rE3 (n := 59) (by omega), e1, e2]
    exact ⟨_, _, _, rfl, rfl, e3.mono (by omega)⟩
theorem rT0 (hd : 0 ≤ d ∧ d ≤ 40) : X0_runTells (n + 1) c 0 x d = bI (X0_begin c 12) (fun s9 => bP (X0_runSays 60 s9 (s9 180 2) x (d + 1)) (fun v7 s10 => some (v7 * 2, s10))) := by
  rw [X0_runTells, if_pos (hd40 hd), if_neg (by decide), if_neg (by decide), if_neg (by decide), if_neg (by decide), if_neg (by decide)]
theorem rT1 (hd : 0 ≤ d ∧ d ≤ 40) : X0_runTells (n + 1) c 1 x d = X0_runTells n c 0 x (d + 1) := by
  rw [X0_runTells, if_pos (hd40 hd), if_pos (by decide), bP_id]
theorem rT2 (hd : 0 ≤ d ∧ d ≤ 40) : X0_runTells (n + 1) c 2 x d = X0_runTells n c 0 x (d + 1) := by
  rw [X0_runTells, if_pos (hd40 hd), if_pos (by decide), bP_id]
theorem rT3 (hd : 0 ≤ d ∧ d ≤ 40) : X0_runTells (n + 1) c 3 x d = bI (X0_begin c 40) (fun s2 => bP (X0_runTells n s2 0 x (d + 1)) (fun v2 s3 => bP (X0_runSays 60 s3 (s3 180 2) 1 (d + 1)) (fun v3 s4 => some (v2 + v3, s4)))) := by
  rw [X0_runTells, if_pos (hd40 hd), if_neg (by decide), if_pos (by decide)]
theorem rT4 (hd : 0 ≤ d ∧ d ≤ 40) : X0_runTells (n + 1) c 4 x d = X0_runTells n c 1 x (d + 1) := by
  rw [X0_runTells, if_pos (hd40 hd), if_neg (by decide), if_neg (by decide), if_pos (by decide), bP_id]
theorem rT5 (hd : 0 ≤ d ∧ d ≤ 40) : X0_runTells (n + 1) c 5 x d = bI (X0_begin c 60) (fun s6 => X0_runTells n s6 2 (x - (s6 180 4)) (d + 1)) := by
  rw [X0_runTells, if_pos (hd40 hd), if_neg (by decide), if_neg (by decide), if_neg (by decide), if_pos (by decide)]
  simp only [bP_id]
theorem rT6 (hd : 0 ≤ d ∧ d ≤ 40) : X0_runTells (n + 1) c 6 x d = X0_runTells n c 3 x (d + 1) := by
  rw [X0_runTells, if_pos (hd40 hd), if_neg (by decide), if_neg (by decide), if_neg (by decide), if_neg (by decide), if_pos (by decide), bP_id]
theorem thouse (A : AC c0 m0 c m B) (H : AH c0 m0 i kd v) (hB : B ≤ 80) (hd : 0 ≤ d ∧ d ≤ 18) : ∃ r c' m', X0_runTells (n + 1) c 0 x d = some (r, c') ∧ X7_houseTells m i x = some (r, m') ∧ AC c0 m0 c' m' (B + 9) := by
  obtain ⟨c1, m1, a1, a2, a3⟩ := abegin A (by omega) 12
  obtain ⟨r, c2, m2, b1, b2, b3⟩ := sact (n := 56) (x := x) a3 H (by omega) (d := d + 1) (by omega)
  refine ⟨r * 2, c2, m2, ?_, ?_, b3⟩
  · rw [rT0 (by omega), a1, bI_some, (a3.k H).1, b1, bP_some]
  · unfold X7_houseTells
    rw [a2, bI_some, b2, bP_some]
theorem tsaint (A : AC c0 m0 c m B) (H : AH c0 m0 i kd v) (hB : B ≤ 60) (hd : 0 ≤ d ∧ d ≤ 16) : ∃ r c' m', X0_runTells (n + 2) c 3 x d = some (r, c') ∧ bI (X7_body m 40) (fun s1 => bP (X7_houseTells s1 i x) (fun v2 s2 => bP (X7_saysAct s2 i 1) (fun v3 s3 => some (v2 + v3, s3)))) = some (r, m') ∧ AC c0 m0 c' m' (B + 18) := by
  obtain ⟨c1, m1, a1, a2, a3⟩ := abegin A (by omega) 40
  obtain ⟨r, c2, m2, b1, b2, b3⟩ := thouse (n := n) (x := x) a3 H (by omega) (d := d + 1) (by omega)
  obtain ⟨r', c3, m3, e1, e2, e3⟩ := sact (n := 56) (x := 1) b3 H (by omega) (d := d + 1) (by omega)
  refine ⟨r + r', c3, m3, ?_, ?_, e3⟩
  · rw [rT3 (by omega), a1, bI_some, b1, bP_some, (b3.k H).1, e1, bP_some]
  · rw [a2, bI_some, b2, bP_some, e2, bP_some]
theorem tact (A : AC c0 m0 c m B) (H : AH c0 m0 i kd v) (hB : B ≤ 50) (hd : 0 ≤ d ∧ d ≤ 10) : ∃ r c' m', X0_runTells (n + 4) c kd x d = some (r, c') ∧ X7_tellsAct m i x = some (r, m') ∧ AC c0 m0 c' m' (B + 18) := by
  obtain ⟨k1, k2, k3, k4, k5⟩ := A.k H
  obtain ⟨i0, i7⟩ := H.2.2.2.2.2.1
  have z2 : zrd m 2 8 i = some kd := by rw [zrd_ok (by omega) (by omega) (by omega), k4]
  unfold X7_tellsAct
  rw [z2, bI_some]
  rcases kd7 H.2.2.2.2.2.2 with e | e | e | e | e | e | e <;> subst e
  · obtain ⟨r, c', m', a1, a2, a3⟩ := thouse (n := n + 3) (x := x) A H (by omega) (d := d) (by omega)
    rw [if_neg (by decide), if_neg (by decide), a1, a2]
    exact ⟨_, _, _, rfl, rfl, a3.mono (by omega)⟩
  · obtain ⟨r, c', m', a1, a2, a3⟩ := thouse (n := n + 2) (x := x) A H (by omega) (d := d + 1) (by omega)
    rw [if_neg (by decide), if_neg (by decide), rT1 (by omega), a1, a2]
    exact ⟨_, _, _, rfl, rfl, a3.mono (by omega)⟩
  · obtain ⟨r, c', m', a1, a2, a3⟩ := thouse (n := n + 2) (x := x) A H (by omega) (d := d + 1) (by omega)
    rw [if_neg (by decide), if_neg (by decide), rT2 (by omega), a1, a2]
    exact ⟨_, _, _, rfl, rfl, a3.mono (by omega)⟩
  · obtain ⟨r, c', m', a1, a2, a3⟩ := tsaint (n := n + 2) (x := x) A H (by omega) (d := d) (by omega)
    rw [if_pos (by decide), a1, a2]
    exact ⟨_, _, _, rfl, rfl, a3.mono (by omega)⟩
  · obtain ⟨r, c', m', a1, a2, a3⟩ := thouse (n := n + 1) (x := x) A H (by omega) (d := d + 1 + 1) (by omega)
    rw [if_neg (by decide), if_neg (by decide), rT4 (by omega), rT1 (by omega), a1, a2]
    exact ⟨_, _, _, rfl, rfl, a3.mono (by omega)⟩
  · obtain ⟨c1, m1, b1, b2, b3⟩ := abegin A (by omega) 60
    obtain ⟨r, c', m', a1, a2, a3⟩ := thouse (n := n + 1) (x := x - i) b3 H (by omega) (d := d + 1 + 1) (by omega)
    rw [if_neg (by decide), if_pos (by decide), rT5 (by omega), b1, bI_some, (b3.k H).2.2.1, rT2 (by omega), a1, b2, bI_some, a2]
    exact ⟨_, _, _, rfl, rfl, a3.mono (by omega)⟩
  · obtain ⟨r, c', m', a1, a2, a3⟩ := tsaint (n := n + 1) (x := x) A H (by omega) (d := d + 1) (by omega)
    rw [if_pos (by decide), rT6 (by omega), a1, a2]
    exact ⟨_, _, _, rfl, rfl, a3.mono (by omega)⟩
end ACTS
theorem Rel.acts {sc sm sc' sm' : PS} (h : Rel sc sm) (hS : Same sc sc' (fun b _ => b = 180 ∨ b = 181)) (hT : Same sm sm' (fun b j => (b = 0 ∧ j = 55) ∨ b = 56)) (hN : RC sc' sm') : Rel sc' sm' := by
  obtain ⟨⟨n, y, h1, h2, h3⟩, h4, h5, h6, h7, h8, h9, h10⟩ := h
  exact ⟨⟨n, y, h1.same hS hT (fun b j q => by omega) (fun b j q => by omega), h2, h3.same hS hT (fun b j q => by omega) (fun b j q => by omega)⟩, h4.same hS hT (fun b j q => by omega) (fun b j q => by omega), (hT _ _ (by omega)).trans h5, fun i i1 i2 => (hT _ _ (by omega)).trans (h6 i i1 i2), h7.same hS hT (fun b j q => by omega) (fun b j q => by omega), h8.same hS hT (fun b j q => by omega) (fun b j q => by omega), hN, h10.same hS hT (fun b j q => by omega) (fun b j q => by omega)⟩
theorem sim_act : Sim_act Rel := by
  intro sc sm R a1 a2 a3 r1 r2 r3
  obtain ⟨n, y, L, E, hy⟩ := R.eq
  obtain ⟨⟨⟨t1, n7, t3, t4, t5, t6⟩, m0, m1, h3⟩, -⟩ := E
  have Sc1 : Same sc (zu sc 180 0 0) (fun b j => b = 180 ∧ j = 0) := fun b j hb => zu_o (by omega)
  have Sm1 : Same sm (zu sm 0 55 0) (fun b j => b = 0 ∧ j = 55) := fun b j hb => zu_o (by omega)
  have R1 : Rel (zu sc 180 0 0) (zu sm 0 55 0) := R.acts (Sc1.wk fun b j q => by omega) (Sm1.wk fun b j q => by omega) ⟨0, by omega, zu_at, zu_at, fun i i1 i2 => by omega⟩
  have z0 : zu sc 180 0 0 180 0 = 0 := zu_at
  have y0 : zu sm 0 55 0 0 55 = 0 := zu_at
  unfold X6_act X7_act X0_clear
  rw [zlet_eq, zlet_eq, bI_some]
  generalize zu sc 180 0 0 = c1 at Sc1 R1 z0 ⊢
  generalize zu sm 0 55 0 = m1 at Sm1 R1 y0 ⊢
  rw [isH_c ((Sc1 _ _ (by omega)).trans t1) n7 r1, isH_m ((Sm1 _ _ (by omega)).trans m0) n7 r1]
  by_cases g1 : 0 ≤ a1 ∧ a1 < n
  · simp only [if_pos g1, w10, if_false]
    obtain ⟨u1, u2, u3, u4⟩ := h3 a1 g1.1 g1.2
    obtain ⟨v1, v2, v3, v4⟩ := t6 a1 g1.1 g1.2
    rw [zrd_ok (by omega) (by omega) (by omega), bI_some, zrd_ok (by omega) (by omega) (by omega), bI_some]
    obtain ⟨c2, hc2⟩ : ∃ c2, c2 = zu (zu (zu c1 180 2 (c1 (20 + 3) a1)) 180 3 (c1 (20 + 4) a1)) 180 4 a1 := ⟨_, rfl⟩
    have ech : X0_choose c1 (c1 (20 + 3) a1) (c1 (20 + 4) a1) a1 = some c2 := by
      unfold X0_choose
      rw [zlet_eq, zlet_eq, zlet_eq, hc2]
    have Sc2 : Same c1 c2 (fun b j => b = 180 ∧ 2 ≤ j) := fun b j hb => by rw [hc2]; simp (disch := omega) only [zu_o]
    have x2 : c2 180 2 = c1 (20 + 3) a1 := by rw [hc2]; simp (disch := omega) only [zu_o, zu_at]
    have x3 : c2 180 3 = c1 (20 + 4) a1 := by rw [hc2]; simp (disch := omega) only [zu_o, zu_at]
    have x4 : c2 180 4 = a1 := by rw [hc2]; simp (disch := omega) only [zu_o, zu_at]
    clear hc2
    have e3 : c1 (20 + 3) a1 = sc (20 + 3) a1 := Sc1 _ _ (by omega)
    have e4 : c1 (20 + 4) a1 = sc (20 + 4) a1 := Sc1 _ _ (by omega)
    have H : AH c2 m1 a1 (c1 (20 + 3) a1) (c1 (20 + 4) a1) := ⟨x2, x3, x4, by rw [Sm1 _ _ (by omega), u1, e3], by rw [Sm1 _ _ (by omega), e4, show (3 : Nat) = 2 + 1 from rfl, u2], ⟨g1.1, by omega⟩, by rw [e3]; exact v1.1, by rw [e3]; exact v1.2⟩
    have A : AC c2 m1 c2 m1 0 := ⟨Same.rf, Same.rf, 0, Nat.le_refl _, (Sc2 _ _ (by omega)).trans z0, y0, fun i i1 i2 => by omega⟩
    have fin : ∀ {c' m' : PS}, AC c2 m1 c' m' 100 → Rel c' m' := by
      intro c' m' A'
      obtain ⟨q1, q2, q, q3, q4, q5, q6⟩ := A'
      exact R1.acts ((Sc2.wk (R := fun b _ => b = 180 ∨ b = 181) fun b j q => by omega).tr q1 (fun _ _ q => q) (fun b j q => by omega)) q2 ⟨q, by omega, q4, q5, q6⟩
    have R2 : Rel c2 m1 := fin (A.mono (by omega))
    rw [ech, bI_some, bP_id, in_l r2 (by decide), wI_r r2, wI_id (z := 1) (by omega) (by omega)]
    unfold X0_perform
    rw [wI_r r2, x2]
    by_cases p0 : a2 = 0
    · obtain ⟨r, c', m', b1, b2, b3⟩ := eact (n := 56) (x := a3) A H (by omega) (d := 0) (by omega)
      rw [if_pos p0, if_pos (by omega : 0 ≤ a2 ∧ a2 ≤ 2)]
      simp only [w10, if_false, if_pos p0, bP_id]
      exact ⟨r, c', r, m', b1, b2, rfl, fin (b3.mono (by omega))⟩
    · by_cases p1 : a2 = 1
      · obtain ⟨r, c', m', b1, b2, b3⟩ := sact (n := 56) (x := a3) A H (by omega) (d := 0) (by omega)
        rw [if_neg p0, if_pos p1, if_pos (by omega : 0 ≤ a2 ∧ a2 ≤ 2)]
        simp only [w10, if_false, if_neg p0, if_pos p1, bP_id]
        exact ⟨r, c', r, m', b1, b2, rfl, fin (b3.mono (by omega))⟩
      · by_cases p2 : a2 = 2
        · obtain ⟨r, c', m', b1, b2, b3⟩ := tact (n := 56) (x := a3) A H (by omega) (d := 0) (by omega)
          rw [if_neg p0, if_neg p1, if_pos p2, if_pos (by omega : 0 ≤ a2 ∧ a2 ≤ 2)]
          simp only [w10, if_false, if_neg p0, if_neg p1, bP_id]
          exact ⟨r, c', r, m', b1, b2, rfl, fin (b3.mono (by omega))⟩
        · rw [if_neg p0, if_neg p1, if_neg p2, if_neg (by omega : ¬ (0 ≤ a2 ∧ a2 ≤ 2))]
          simp only [w00, if_true]
          exact ⟨_, _, _, _, rfl, rfl, rfl, R2⟩
  · simp only [if_neg g1, w00, if_true]
    exact ⟨_, _, _, _, rfl, rfl, rfl, R1⟩
theorem und_s {st : PS} {p l t : Int} {k : Nat} (hl : 0 ≤ l ∧ l ≤ 6) (hp : 0 ≤ p ∧ p ≤ 6) (ht : 0 ≤ t ∧ t < 7) : X6_isUnder_L4 p st (k + 1) l t = if l = p then some 1 else X6_isUnder_L4 p st k (zab l) (t + 1) := by
  rw [X6_isUnder_L4, wI_id (z := 7) (by omega) (by omega), wI_id (z := t) (by omega) (by omega), isK_c (rngs (by omega) (by omega)), wI_id (z := l) (by omega) (by omega), wI_id (z := p) (by omega) (by omega), if_neg (by omega), if_pos hl]
  simp only [w10, if_false]
  rw [zchk_ok (by omega)]
theorem und_0 {st : PS} {p t : Int} {k : Nat} (ht : 0 ≤ t ∧ t < 7) : X6_isUnder_L4 p st (k + 1) (-1) t = some 0 := by
  rw [X6_isUnder_L4, wI_id (z := 7) (by omega) (by omega), wI_id (z := t) (by omega) (by omega), isK_c (rngs (by omega) (by omega)), if_neg (by omega : ¬ (7 : Int) ≤ t), if_neg (by omega : ¬ (0 ≤ (-1 : Int) ∧ (-1 : Int) ≤ 6))]
  simp only [w00, if_true]
theorem und_ok {st : PS} {p l : Int} (hl : 0 ≤ l ∧ l ≤ 6) (hp : 0 ≤ p ∧ p ≤ 6) : X6_isUnder st l p = some (if p = l ∨ p = 0 ∨ (l = 4 ∧ p = 1) ∨ (l = 5 ∧ p = 2) ∨ (l = 6 ∧ p = 3) then 1 else 0) := by
  have e : ∀ F, X6_isUnder_L4 p st (F + 1 + 1 + 1 + 1) l 0 = some (if p = l ∨ p = 0 ∨ (l = 4 ∧ p = 1) ∨ (l = 5 ∧ p = 2) ∨ (l = 6 ∧ p = 3) then 1 else 0) := by
    intro F
    have z0 : zab 0 = -1 := by decide
    have z1 : zab 1 = 0 := by decide
    have z2 : zab 2 = 0 := by decide
    have z3 : zab 3 = 0 := by decide
    have z4 : zab 4 = 1 := by decide
    have z5 : zab 5 = 2 := by decide
    have z6 : zab 6 = 3 := by decide
    have b0 : ∀ (t : Int) (k : Nat), 0 ≤ t → t < 5 → X6_isUnder_L4 p st (k + 1 + 1) 0 t = if 0 = p then some 1 else some 0 := fun t k h1 h2 => by
      rw [und_s (by omega) hp (by omega), z0, und_0 (by omega)]
    have b1 : ∀ (t l z : Int) (k : Nat), 0 ≤ t → t < 4 → 0 ≤ l ∧ l ≤ 6 → zab l = 0 → X6_isUnder_L4 p st (k + 1 + 1 + 1) l t = if l = p then some 1 else if 0 = p then some 1 else some 0 := fun t l z k h1 h2 h3 h4 => by
      rw [und_s h3 hp (by omega), h4, b0 _ _ (by omega) (by omega)]
    have fin : ∀ (c : Prop) [Decidable c] (d : Prop) [Decidable d] (a b : Int), (c ↔ d) → (if c then some a else some b) = some (if d then a else b) := by
      intro c _ d _ a b h
      by_cases q : c
      · rw [if_pos q, if_pos (h.mp q)]
      · rw [if_neg q, if_neg (fun w => q (h.mpr w))]
    have two : ∀ (a b : Prop) [Decidable a] [Decidable b] (X Y : Option Int), (if a then X else if b then X else Y) = if a ∨ b then X else Y := by
      intro a b _ _ X Y
      by_cases q : a
      · rw [if_pos q, if_pos (Or.inl q)]
      · by_cases q' : b
        · rw [if_neg q, if_pos q', if_pos (Or.inr q')]
        · rw [if_neg q, if_neg q', if_neg (by rintro (w | w) <;> contradiction)]
    have hl' : l = 0 ∨ l = 1 ∨ l = 2 ∨ l = 3 ∨ l = 4 ∨ l = 5 ∨ l = 6 := by omega
    rcases hl' with q | q | q | q | q | q | q
    · rw [q, b0 _ _ (by omega) (by omega)]; exact fin _ _ _ _ (by omega)
    · rw [q, b1 _ _ 0 _ (by omega) (by omega) (by omega) z1, two]; exact fin _ _ _ _ (by omega)
    · rw [q, b1 _ _ 0 _ (by omega) (by omega) (by omega) z2, two]; exact fin _ _ _ _ (by omega)
    · rw [q, b1 _ _ 0 _ (by omega) (by omega) (by omega) z3, two]; exact fin _ _ _ _ (by omega)
    · rw [q, und_s (by omega) hp (by omega), z4, b1 _ _ 0 _ (by omega) (by omega) (by omega) z1, two, two]; exact fin _ _ _ _ (by omega)
    · rw [q, und_s (by omega) hp (by omega), z5, b1 _ _ 0 _ (by omega) (by omega) (by omega) z2, two, two]; exact fin _ _ _ _ (by omega)
    · rw [q, und_s (by omega) hp (by omega), z6, b1 _ _ 0 _ (by omega) (by omega) (by omega) z3, two, two]; exact fin _ _ _ _ (by omega)
  exact e 99996
theorem sim_taken : Sim_taken Rel := by
  intro sc sm R a1 a2 r1 r2
  obtain ⟨n, y, L, E, hy⟩ := R.eq
  obtain ⟨⟨⟨t1, n7, t3, t4, t5, t6⟩, m0, m1, h3⟩, -⟩ := E
  unfold X6_taken X7_taken
  rw [isK_c r2, in_l r2 (by decide), isH_c t1 n7 r1, isH_m m0 n7 r1]
  by_cases g2 : 0 ≤ a2 ∧ a2 ≤ 6
  · by_cases g1 : 0 ≤ a1 ∧ a1 < n
    · simp only [if_pos g1, if_pos g2, w10, if_false]
      obtain ⟨u1, u2, u3, u4⟩ := h3 a1 g1.1 g1.2
      obtain ⟨v1, v2, v3, v4⟩ := t6 a1 g1.1 g1.2
      rw [zrd_ok (by omega) (by omega) (by omega), bI_some, zrd_ok (by omega) (by omega) (by omega), bI_some, u1, und_ok v1 g2, bI_some]
      generalize sc (20 + 3) a1 = l at v1
      simp (disch := omega) only [wI_id]
      by_cases q : a2 = l ∨ a2 = 0 ∨ (l = 4 ∧ a2 = 1) ∨ (l = 5 ∧ a2 = 2) ∨ (l = 6 ∧ a2 = 3)
      · rw [if_pos q]
        refine ⟨l, l, by simp only [w10, if_false, show ¬ ((1 : Int) = 0) from by decide], ?_, rfl, R⟩
        repeat' split
        all_goals first | rfl | (exfalso; omega)
      · rw [if_neg q]
        refine ⟨-12, -12, by simp only [w00, if_true], ?_, rfl, R⟩
        repeat' split
        all_goals first | rfl | (exfalso; omega)
    · simp only [if_neg g1, if_pos g2, w10, w00, if_false, if_true]
      exact ⟨_, _, rfl, rfl, rfl, R⟩
  · simp only [if_neg g2, w00, if_true]
    exact ⟨_, _, rfl, rfl, rfl, R⟩
