/-! both stand as they were made -/
theorem ShR.kept {m n : MM} {t : Nat} (h : ShR m t) (A : Ag m n t (t + 21)) : ShR n t := by
  obtain ⟨h1, h2, h3, h4, h5, h6, h7, h8, h9⟩ := h
  have a0 := A t (by omega) (by omega)
  have a1 := A (t + 19) (by omega) (by omega)
  have a2 := A (t + 20) (by omega) (by omega)
  exact ⟨by rw [a0.1]; exact h1, by rw [a0.2.2.2]; exact h2, by rw [a0.2.2.2]; exact h3, by rw [a0.2.2.2]; exact h4, by rw [a0.2.2.2]; exact h5, by rw [a1.1]; exact h6, by rw [a1.2.1]; exact h7, by rw [a2.1]; exact h8, by rw [a2.2.1]; exact h9⟩
theorem ShS.kept {m n : MM} {t : Nat} (h : ShS m t) (A : Ag m n t (t + 15)) : ShS n t := by
  obtain ⟨h1, h2, h3, h4, h5, h6, h7, h8⟩ := h
  have a0 := A t (by omega) (by omega)
  have a1 := A (t + 1) (by omega) (by omega)
  have a2 := A (t + 14) (by omega) (by omega)
  exact ⟨by rw [a0.1]; exact h1, by rw [a0.2.2.2]; exact h2, by rw [a0.2.2.2]; exact h3, by rw [a1.1]; exact h4, by rw [a1.2.1]; exact h5, by rw [a2.1]; exact h6, by rw [a2.2.1]; exact h7, fun i hi => ⟨by rw [a1.2.2.2]; exact (h8 i hi).1, by rw [(A (t + 2 + i) (by omega) (by omega)).1]; exact (h8 i hi).2⟩⟩
theorem ShC.kept {m n : MM} {t c : Nat} (h : ShC m t c) (A : Ag m n t (t + 3)) : ShC n t c := by
  obtain ⟨h1, h2, h3, h4, h5, h6, h7, h8⟩ := h
  have a0 := A t (by omega) (by omega)
  have a1 := A (t + 1) (by omega) (by omega)
  have a2 := A (t + 2) (by omega) (by omega)
  exact ⟨by rw [a0.1]; exact h1, by rw [a0.2.2.2]; exact h2, by rw [a0.2.2.2]; exact h3, by rw [a0.2.2.2]; exact h4, by rw [a1.1]; exact h5, by rw [a1.2.1]; exact h6, by rw [a2.1]; exact h7, by rw [a2.2.1]; exact h8⟩
theorem ShP.kept {m n : MM} {t c : Nat} (h : ShP m t c) (A : Ag m n t (t + 7)) : ShP n t c := by
  obtain ⟨h1, h2, h3, h4, h5, h6, h7, h8, h9, h10, h11, h12⟩ := h
  have a0 := A t (by omega) (by omega)
  have a1 := A (t + 1) (by omega) (by omega)
  have a5 := A (t + 5) (by omega) (by omega)
  have a6 := A (t + 6) (by omega) (by omega)
  exact ⟨by rw [a0.1]; exact h1, by rw [a0.2.2.2]; exact h2, by rw [a0.2.2.2]; exact h3, by rw [a0.2.2.2]; exact h4, by rw [a0.2.2.2]; exact h5, by rw [a1.1]; exact h6, by rw [a1.2.1]; exact h7, by rw [a5.1]; exact h8, by rw [a5.2.1]; exact h9, by rw [a6.1]; exact h10, by rw [a6.2.1]; exact h11, fun i hi => ⟨by rw [a1.2.2.2]; exact (h12 i hi).1, by rw [(A (t + 2 + i) (by omega) (by omega)).1]; exact (h12 i hi).2⟩⟩
/-- of what stood only the FarTown's own references from a number on have changed -/
def Fx (x j : Nat) (m n : MM) : Prop := Gz (fun s b _ => b = x ∧ 1000 + j ≤ s) m n
theorem Fx.tr {x i j : Nat} {m n q : MM} (h1 : Fx x i m n) (h2 : Fx x j n q) (hij : i ≤ j) : Fx x i m q := Gz.tr h1 (h2.up (fun _ _ _ _ z => ⟨z.1, by omega⟩))
theorem Fx.ag {x j : Nat} {m n : MM} (h : Fx x j m n) {lo hi : Nat} (h1 : hi ≤ m.S) (h2 : x < lo) : Ag m n lo hi := Gz.ag h h1 (fun s a i g1 g2 z => by omega)
/-- an object is made and kept -/
theorem Fx.stage {x j a : Nat} {q n : MM} (g : Gz nul q n) (v : Option Nat) (hx : x < q.S) (hk : q.K x = 10) : n.K x = 10 ∧ Fx x j q (n.sR (1000 + j) x 0 v) ∧ (n.sR (1000 + j) x 0 v).K x = 10 ∧ (n.sR (1000 + j) x 0 v).R (1000 + j) x 0 = v ∧ ∀ lo hi, x < lo → Ag n (n.sR (1000 + j) x 0 v) lo hi := by
  have k : n.K x = 10 := by rw [g.k hx]; exact hk
  exact ⟨k, g.nn.sR _ _ _ _ (.inl ⟨rfl, Nat.le_refl _⟩), k, by rw [R_sR, if_pos ⟨rfl, rfl, rfl⟩], fun lo hi h => (Ag.rf n lo hi).sR _ _ _ _ (by omega)⟩
theorem i_class {m : MM} {x : Nat} (h : frs m x 10) : ∃ n, f_X9_init x m = some ((), n) ∧ n.S = x + 106 ∧ Sh n x ∧ TD n (x + 1) W0 ∧ CT n (x + 61) T0 ∧ CL n (x + 76) L0 ∧ ∀ k, n.R 27 (x + 59) k = none := by
  obtain ⟨hS, hK, h0⟩ := h
  -- the told
  obtain ⟨n1, e1, s1, g1, c1⟩ := i_told (frs_nw m 8)
  rw [hS] at e1 s1 g1 c1
  have g1' : Gz nul m n1 := g1.mk hS.symm
  obtain ⟨k1, F1, K1, R1, A1⟩ := Fx.stage (j := 0) (a := 0) g1' (some (x + 1)) (by omega) hK
  obtain ⟨q1, hq1⟩ : ∃ q, q = n1.sR (1000 + 0) x 0 (some (x + 1)) := ⟨_, rfl⟩
  have S1 : q1.S = x + 59 := by rw [hq1, S_sR, s1]
  have D1 : TD q1 (x + 1) W0 := by rw [hq1]; exact c1.kept (A1 _ _ (by omega))
  rw [← hq1] at F1 K1 R1
  -- the images
  obtain ⟨n2, hn2⟩ : ∃ q, q = q1.nw 27 3 := ⟨_, rfl⟩
  have g2' : Gz nul q1 n2 := by rw [hn2]; exact (Gz.rf _ q1).nw _ _
  have s2 : n2.S = x + 60 := by rw [hn2, S_nw, S1]
  have w2 : n2.K (x + 59) = 27 ∧ n2.N (x + 59) = 3 ∧ ∀ k, n2.R 27 (x + 59) k = none := by
    rw [hn2]
    exact ⟨by rw [K_nw, if_pos S1.symm], by rw [N_nw, if_pos S1.symm], fun k => by rw [R_nw, if_pos S1.symm]⟩
  obtain ⟨k2, F2, K2, R2, A2⟩ := Fx.stage (j := 1) (a := 0) g2' (some (x + 59)) (by omega) K1
  obtain ⟨q2, hq2⟩ : ∃ q, q = n2.sR (1000 + 1) x 0 (some (x + 59)) := ⟨_, rfl⟩
  have S2 : q2.S = x + 60 := by rw [hq2, S_sR, s2]
  have I2 : q2.K (x + 59) = 27 ∧ q2.N (x + 59) = 3 ∧ ∀ k, q2.R 27 (x + 59) k = none := by
    have a := A2 (x + 59) (x + 60) (by omega) (x + 59) (by omega) (by omega)
    rw [hq2]
    exact ⟨by rw [a.1]; exact w2.1, by rw [a.2.1]; exact w2.2.1, fun k => by rw [a.2.2.2]; exact w2.2.2 k⟩
  rw [← hq2] at F2 K2 R2
  -- the reader
  obtain ⟨n3, e3, s3, g3, c3, t3, l3⟩ := i_reader (frs_nw q2 5)
  rw [S2] at e3 s3 g3 c3 t3 l3
  have g3' : Gz nul q2 n3 := g3.mk S2.symm
  obtain ⟨k3, F3, K3, R3, A3⟩ := Fx.stage (j := 2) (a := 0) g3' (some (x + 60)) (by omega) K2
  obtain ⟨q3, hq3⟩ : ∃ q, q = n3.sR (1000 + 2) x 0 (some (x + 60)) := ⟨_, rfl⟩
  have S3 : q3.S = x + 81 := by rw [hq3, S_sR, s3]
  have D3 : ShR q3 (x + 60) := by rw [hq3]; exact c3.kept (A3 _ _ (by omega))
  have T3 : CT q3 (x + 61) T0 := by rw [hq3]; exact t3.kept (A3 _ _ (by omega))
  have L3 : CL q3 (x + 76) L0 := by rw [hq3]; exact l3.kept (A3 _ _ (by omega))
  rw [← hq3] at F3 K3 R3
  -- the scene
  obtain ⟨n4, e4, s4, g4, c4⟩ := i_scene (frs_nw q3 6)
  rw [S3] at e4 s4 g4 c4
  have g4' : Gz nul q3 n4 := g4.mk S3.symm
  obtain ⟨k4, F4, K4, R4, A4⟩ := Fx.stage (j := 3) (a := 0) g4' (some (x + 81)) (by omega) K3
  obtain ⟨q4, hq4⟩ : ∃ q, q = n4.sR (1000 + 3) x 0 (some (x + 81)) := ⟨_, rfl⟩
  have S4 : q4.S = x + 96 := by rw [hq4, S_sR, s4]
  have D4 : ShS q4 (x + 81) := by rw [hq4]; exact c4.kept (A4 _ _ (by omega))
  rw [← hq4] at F4 K4 R4
  -- the court
  have kw5 : (q4.nw 2 0).K x = 10 := by rw [K_nw, if_neg (by omega)]; exact K4
  have rw5 : (q4.nw 2 0).R 1003 x 0 = some (x + 81) := by rw [R_nw, if_neg (by omega)]; exact R4
  obtain ⟨n5, e5, s5, g5, c5⟩ := i_court (x + 81) (frs_nw q4 2)
  rw [S4] at e5 s5 g5 c5
  have g5' : Gz nul q4 n5 := g5.mk S4.symm
  obtain ⟨k5, F5, K5, R5, A5⟩ := Fx.stage (j := 4) (a := 0) g5' (some (x + 96)) (by omega) K4
  obtain ⟨q5, hq5⟩ : ∃ q, q = n5.sR (1000 + 4) x 0 (some (x + 96)) := ⟨_, rfl⟩
  have S5 : q5.S = x + 99 := by rw [hq5, S_sR, s5]
  have D5 : ShC q5 (x + 96) (x + 81) := by rw [hq5]; exact c5.kept (A5 _ _ (by omega))
  rw [← hq5] at F5 K5 R5
  have R45 : q5.R 1003 x 0 = some (x + 81) := by rw [Gz.r F5 (by omega) (fun z => by omega)]; exact R4
  -- the planner
  have kw6 : (q5.nw 4 0).K x = 10 := by rw [K_nw, if_neg (by omega)]; exact K5
  have rw6 : (q5.nw 4 0).R 1003 x 0 = some (x + 81) := by rw [R_nw, if_neg (by omega)]; exact R45
  obtain ⟨n6, e6, s6, g6, c6⟩ := i_planner (x + 81) (frs_nw q5 4)
  rw [S5] at e6 s6 g6 c6
  have g6' : Gz nul q5 n6 := g6.mk S5.symm
  obtain ⟨k6, F6, K6, R6, A6⟩ := Fx.stage (j := 5) (a := 0) g6' (some (x + 99)) (by omega) K5
  obtain ⟨q6, hq6⟩ : ∃ q, q = n6.sR (1000 + 5) x 0 (some (x + 99)) := ⟨_, rfl⟩
  have S6 : q6.S = x + 106 := by rw [hq6, S_sR, s6]
  have D6 : ShP q6 (x + 99) (x + 81) := by rw [hq6]; exact c6.kept (A6 _ _ (by omega))
  rw [← hq6] at F6 K6 R6
  have f5 := F6
  have f4 := F5.tr f5 (by omega)
  have f3 := F4.tr f4 (by omega)
  have f2 := F3.tr f3 (by omega)
  have f1 := F2.tr f2 (by omega)
  refine ⟨q6, ?_, S6, ?_, D1.kept (f1.ag (by omega) (by omega)), T3.kept (f3.ag (by omega) (by omega)), L3.kept (f3.ag (by omega) (by omega)), fun k => ?_⟩
  · unfold f_X9_init
    rw [bnd_e, hS, bnd_e, e1, cal_s, chk_t k1, bnd_e, ← hq1, S1, bnd_e, bnd_e, ← hn2, chk_t k2, bnd_e, ← hq2, S2, bnd_e, bnd_e, e3, cal_s, chk_t k3, bnd_e, ← hq3, S3, bnd_e, bnd_e, e4, cal_s, chk_t k4, bnd_e, ← hq4, S4, bnd_e, bnd_e, chk_t kw5, rw5, e5, cal_s, chk_t k5, bnd_e, ← hq5, S5, bnd_e, bnd_e, chk_t kw6, rw6, e6, cal_s, chk_t k6, bnd_e, ← hq6]
  · have i2 := f2.ag (lo := x + 59) (hi := x + 60) (by omega) (by omega) (x + 59) (by omega) (by omega)
    refine ⟨⟨K6, ?_, ?_, ?_, ?_, ?_, R6, by rw [i2.1]; exact I2.1, by rw [i2.2.1]; exact I2.2.1⟩, ?_, ?_, ?_, ?_⟩
    · rw [Gz.r f1 (by omega) (fun z => by omega)]; exact R1
    · rw [Gz.r f2 (by omega) (fun z => by omega)]; exact R2
    · rw [Gz.r f3 (by omega) (fun z => by omega)]; exact R3
    · rw [Gz.r f4 (by omega) (fun z => by omega)]; exact R4
    · rw [Gz.r f5 (by omega) (fun z => by omega)]; exact R5
    · exact D3.kept (f3.ag (by omega) (by omega))
    · exact D4.kept (f4.ag (by omega) (by omega))
    · exact D5.kept (f5.ag (by omega) (by omega))
    · exact D6
  · rw [(f2.ag (lo := x + 59) (hi := x + 60) (by omega) (by omega) (x + 59) (by omega) (by omega)).2.2.2]; exact I2.2.2 k
/-- at the start both hold the same: nothing -/
theorem i_both {m : MM} {x : Nat} (hx : m.S = x) : ∃ m2 m4, f_X9_init x (m.nw 10 0) = some ((), m2) ∧ m2.S = x + 106 ∧ f_X10_init (x + 106) (m2.nw 11 0) = some ((), m4) ∧ Inv m4 x W0 (fun _ => none) := by
  subst hx
  obtain ⟨m2, e1, s1, h1, h2, h3, h4, h5⟩ := i_class (frs_nw m 10)
  obtain ⟨m4, e2, s2, g2, M, z, z4⟩ := i_model (frs_nw m2 11)
  rw [s1] at e2 s2 g2 M z z4
  have g : Gz nul m2 m4 := g2.mk s1.symm
  have A : ∀ lo hi, hi ≤ m.S + 106 → Ag m2 m4 lo hi := fun lo hi h => g.ag (by omega) (fun _ _ _ _ _ q => q)
  have Z : ∀ s a i, m.S + 106 < a → a < m.S + 163 → ¬ (s = 22 ∧ a = m.S + 106 + 4 ∧ i = 0) → m4.I s a i = 0 := fun s a i h1 h2 h3 => z s a i h1 (by omega) h3
  refine ⟨m2, m4, e1, s1, e2, ?_, M, ⟨T0, h3.kept (A _ _ (by omega))⟩, ⟨L0, h4.kept (A _ _ (by omega))⟩, h2.kept (A _ _ (by omega)), ?_, ⟨fun i hi => absurd hi (Nat.not_lt_zero i), fun i hi => absurd hi (Nat.not_lt_zero i)⟩, by rw [s2]; omega, ?_, ?_, ?_⟩
  · obtain ⟨⟨a1, a2, a3, a4, a5, a6, a7, a8, a9⟩, b, c, d, e⟩ := h1
    have k0 := A m.S (m.S + 1) (by omega) m.S (by omega) (by omega)
    have k9 := A (m.S + 59) (m.S + 60) (by omega) (m.S + 59) (by omega) (by omega)
    exact ⟨⟨by rw [k0.1]; exact a1, by rw [k0.2.2.2]; exact a2, by rw [k0.2.2.2]; exact a3, by rw [k0.2.2.2]; exact a4, by rw [k0.2.2.2]; exact a5, by rw [k0.2.2.2]; exact a6, by rw [k0.2.2.2]; exact a7, by rw [k9.1]; exact a8, by rw [k9.2.1]; exact a9⟩, ShR.kept b (A _ _ (by omega)), ShS.kept c (A _ _ (by omega)), ShC.kept d (A _ _ (by omega)), ShP.kept e (A _ _ (by omega))⟩
  · exact ⟨fun j _ => Z _ _ _ (by omega) (by omega) (by omega), Z _ _ _ (by omega) (by omega) (by omega), Z _ _ _ (by omega) (by omega) (by omega), z4, Z _ _ _ (by omega) (by omega) (by omega), Z _ _ _ (by omega) (by omega) (by omega), fun i hi => absurd hi (Nat.not_lt_zero i), fun i hi => absurd hi (Nat.not_lt_zero i)⟩
  · intro k hk _
    exact ⟨by rw [(A (m.S + 59) (m.S + 60) (by omega) (m.S + 59) (by omega) (by omega)).2.2.2]; exact h5 k, Z _ _ _ (by omega) (by omega) (by omega)⟩
  · intro k hk d V hD; cases hD
  · intro k j hk hj hne d V e U hD; cases hD
