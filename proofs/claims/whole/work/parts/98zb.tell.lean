/-! law: the reference; both together -/
def PLw (y l q a i : Nat) : Prop := q = 22 ∧ ((y + 29 ≤ a ∧ a < y + 33 ∧ i = l) ∨ (y + 33 ≤ a ∧ a < y + 38 ∧ 10 * l ≤ i ∧ i < 10 * l + 10))
section RTellL
variable {x y : Nat} {m : MM} {W : WD}
theorem cp_171 {B : LW} (M : Md m y) (p1 : Int32) {l : Nat} (hl : l < 3) (hB : RNw m y B) (hN : B.2.1 ≤ 10) : ∃ u, l_X10_law_171 y p1 FU (nI l) 0 m = some (nI l, u) ∧ Cw (PLw y l) m u ∧ (∀ d, d < 33 → ∀ i, u.I 22 (y + d) i = m.I 22 (y + d) i) ∧ ∀ k, k < B.2.1 → ∀ c, c < 5 → u.I 22 (y + (33 + c)) (10 * l + k) = m.I 22 (y + 44) (5 * k + c) := by
  obtain ⟨u, ⟨i1, i2, i3⟩, e⟩ := lp_inv (fun n i (s : MM) => l_X10_law_171 y p1 n (nI l) i s) (fun i s => Cw (PLw y l) m s ∧ (∀ d, d < 33 → ∀ i, s.I 22 (y + d) i = m.I 22 (y + d) i) ∧ ∀ k, k < i → ∀ c, c < 5 → s.I 22 (y + (33 + c)) (10 * l + k) = m.I 22 (y + 44) (5 * k + c)) (fun s => some (nI l, s)) B.2.1 (fun i hi s hI => by
    obtain ⟨a1, a3, a2⟩ := hI
    have M0 := a1.md M
    have ea : (10 : Int32) * nI l + nI i = nI (10 * l + i) := by
      show nI 10 * nI l + nI i = _
      rw [pk_mul, nI_add]
    have m5 : (5 : Int32) * nI i = nI (5 * i) := by
      show nI 5 * nI i = _
      rw [pk_mul]
    have m5_1 : nI (5 * i) + 1 = nI (5 * i + 1) := nI_add _ 1
    have m5_2 : nI (5 * i) + 2 = nI (5 * i + 2) := nI_add _ 2
    have m5_3 : nI (5 * i) + 3 = nI (5 * i + 3) := nI_add _ 3
    have m5_4 : nI (5 * i) + 4 = nI (5 * i + 4) := nI_add _ 4
    have n5 : s.I 1155 y 0 = nI B.2.1 := (a1.2.2.2.2 _ _ _ (by unfold PLw; omega)).trans hB.1
    obtain ⟨w0, g0⟩ : ∃ q, q = s.sI 22 (y + 33) (10 * l + i) (m.I 22 (y + 44) (5 * i)) := ⟨_, rfl⟩
    have o0 : Cw (PLw y l) m w0 := by rw [g0]; exact a1.sI _ _ _ _ ⟨rfl, by omega⟩
    obtain ⟨w1, g1⟩ : ∃ q, q = w0.sI 22 (y + 34) (10 * l + i) (m.I 22 (y + 44) (5 * i + 1)) := ⟨_, rfl⟩
    have o1 : Cw (PLw y l) m w1 := by rw [g1]; exact o0.sI _ _ _ _ ⟨rfl, by omega⟩
    obtain ⟨w2, g2⟩ : ∃ q, q = w1.sI 22 (y + 35) (10 * l + i) (m.I 22 (y + 44) (5 * i + 2)) := ⟨_, rfl⟩
    have o2 : Cw (PLw y l) m w2 := by rw [g2]; exact o1.sI _ _ _ _ ⟨rfl, by omega⟩
    obtain ⟨w3, g3⟩ : ∃ q, q = w2.sI 22 (y + 36) (10 * l + i) (m.I 22 (y + 44) (5 * i + 3)) := ⟨_, rfl⟩
    have o3 : Cw (PLw y l) m w3 := by rw [g3]; exact o2.sI _ _ _ _ ⟨rfl, by omega⟩
    obtain ⟨w4, g4⟩ : ∃ q, q = w3.sI 22 (y + 37) (10 * l + i) (m.I 22 (y + 44) (5 * i + 4)) := ⟨_, rfl⟩
    have o4 : Cw (PLw y l) m w4 := by rw [g4]; exact o3.sI _ _ _ _ ⟨rfl, by omega⟩
    have N0 := o0.md M
    have N1 := o1.md M
    have N2 := o2.md M
    have N3 := o3.md M
    have os : ∀ q a j, ¬ (q = 22 ∧ y + 33 ≤ a ∧ j = 10 * l + i) → w4.I q a j = s.I q a j := fun q a j hq => by
      rw [g4, I_sI, if_neg (by omega), g3, I_sI, if_neg (by omega), g2, I_sI, if_neg (by omega), g1, I_sI, if_neg (by omega), g0, I_sI, if_neg (by omega)]
    refine ⟨w4, ⟨o4, fun d hd j => (os _ _ _ (by omega)).trans (a3 d hd j), fun k hk c hc => ?_⟩, fun n => ?_⟩
    · by_cases q : k = i
      · subst q
        have : c = 0 ∨ c = 1 ∨ c = 2 ∨ c = 3 ∨ c = 4 := by omega
        rcases this with rfl | rfl | rfl | rfl | rfl
        · rw [g4, I_sI, if_neg (by omega), g3, I_sI, if_neg (by omega), g2, I_sI, if_neg (by omega), g1, I_sI, if_neg (by omega), g0, I_sI, if_pos ⟨rfl, rfl, rfl⟩]; rfl
        · rw [g4, I_sI, if_neg (by omega), g3, I_sI, if_neg (by omega), g2, I_sI, if_neg (by omega), g1, I_sI, if_pos ⟨rfl, rfl, rfl⟩]
        · rw [g4, I_sI, if_neg (by omega), g3, I_sI, if_neg (by omega), g2, I_sI, if_pos ⟨rfl, rfl, rfl⟩]
        · rw [g4, I_sI, if_neg (by omega), g3, I_sI, if_pos ⟨rfl, rfl, rfl⟩]
        · rw [g4, I_sI, if_pos ⟨rfl, rfl, rfl⟩]
      · rw [os _ _ _ (by omega)]; exact a2 k (by omega) c hc
    · show g_X10_law_171 y p1 (l_X10_law_171 y p1 n) (nI l) (nI i) s = _
      unfold g_X10_law_171
      rw [chk_t M0.1, n5, if_neg (nI_ge hi (by omega)), ea, m5, m5_1, m5_2, m5_3, m5_4]
      rw [M0.c1159, M0.n1159, chk_t (inb_nI (show 5 * i < 55 by omega) (by decide)), M0.c1133, M0.n1133, chk_t (inb_nI (show 10 * l + i < 120 by omega) (by decide)), bnd_e, cl_nI (show 10 * l + i < 2 ^ 31 by omega), cl_nI (show 5 * i < 2 ^ 31 by omega), a1.2.2.2.2 22 (y + 44) (5 * i) (by unfold PLw; omega), ← g0]
      rw [N0.c1159, N0.n1159, chk_t (inb_nI (show 5 * i + 1 < 55 by omega) (by decide)), N0.c1134, N0.n1134, chk_t (inb_nI (show 10 * l + i < 120 by omega) (by decide)), bnd_e, cl_nI (show 5 * i + 1 < 2 ^ 31 by omega), o0.2.2.2.2 22 (y + 44) (5 * i + 1) (by unfold PLw; omega), ← g1]
      rw [N1.c1159, N1.n1159, chk_t (inb_nI (show 5 * i + 2 < 55 by omega) (by decide)), N1.c1135, N1.n1135, chk_t (inb_nI (show 10 * l + i < 120 by omega) (by decide)), bnd_e, cl_nI (show 5 * i + 2 < 2 ^ 31 by omega), o1.2.2.2.2 22 (y + 44) (5 * i + 2) (by unfold PLw; omega), ← g2]
      rw [N2.c1159, N2.n1159, chk_t (inb_nI (show 5 * i + 3 < 55 by omega) (by decide)), N2.c1136, N2.n1136, chk_t (inb_nI (show 10 * l + i < 120 by omega) (by decide)), bnd_e, cl_nI (show 5 * i + 3 < 2 ^ 31 by omega), o2.2.2.2.2 22 (y + 44) (5 * i + 3) (by unfold PLw; omega), ← g3]
      rw [N3.c1159, N3.n1159, chk_t (inb_nI (show 5 * i + 4 < 55 by omega) (by decide)), N3.c1137, N3.n1137, chk_t (inb_nI (show 10 * l + i < 120 by omega) (by decide)), bnd_e, cl_nI (show 5 * i + 4 < 2 ^ 31 by omega), o3.2.2.2.2 22 (y + 44) (5 * i + 4) (by unfold PLw; omega), ← g4, nI_1]) (fun s hI n => by
    obtain ⟨a1, a3, a2⟩ := hI
    have M0 := a1.md M
    have n5 : s.I 1155 y 0 = nI B.2.1 := (a1.2.2.2.2 _ _ _ (by unfold PLw; omega)).trans hB.1
    show g_X10_law_171 y p1 (l_X10_law_171 y p1 n) (nI l) (nI B.2.1) s = _
    unfold g_X10_law_171
    rw [chk_t M0.1, n5, if_pos (Int32.le_refl _)]) (s0 := m) ⟨Cw.rf _ m, fun _ _ _ => rfl, fun k hk => by omega⟩
  exact ⟨u, e FU (by unfold FU; omega), i1, i2, i3⟩
theorem cp_law {B : LW} (M : Md m y) (p1 : Int32) {l : Nat} (hl : l < 3) (hB : RNw m y B) (hN : B.2.1 ≤ 10) : ∃ u, (chk (m.K y = 11) (ck m (m.R 1129 y 0) 22 (fun a12 => chk (inb (nI l) (m.N a12) = true) (bnd (m.sI 22 a12 (Int32.toNatClampNeg (nI l)) (m.I 1155 y 0)) (fun m8 => ck m8 (m8.R 1130 y 0) 22 (fun a13 => chk (inb (nI l) (m8.N a13) = true) (bnd (m8.sI 22 a13 (Int32.toNatClampNeg (nI l)) (m8.I 1156 y 0)) (fun m9 => ck m9 (m9.R 1131 y 0) 22 (fun a14 => chk (inb (nI l) (m9.N a14) = true) (bnd (m9.sI 22 a14 (Int32.toNatClampNeg (nI l)) (m9.I 1157 y 0)) (fun m10 => ck m10 (m10.R 1132 y 0) 22 (fun a15 => chk (inb (nI l) (m10.N a15) = true) (bnd (m10.sI 22 a15 (Int32.toNatClampNeg (nI l)) (m10.I 1158 y 0)) (fun m11 => l_X10_law_171 y p1 FU (nI l) 0 m11)))))))))))))) = some (nI l, u) ∧ Cw (PLw y l) m u ∧ RLw u y l B := by
  obtain ⟨b0, b1, b2, b3, b4⟩ := id hB
  obtain ⟨w0, g0⟩ : ∃ q, q = m.sI 22 (y + 29) l (nI B.2.1) := ⟨_, rfl⟩
  have o0 : Cw (PLw y l) m w0 := by rw [g0]; exact (Cw.rf _ m).sI _ _ _ _ ⟨rfl, by omega⟩
  obtain ⟨w1, g1⟩ : ∃ q, q = w0.sI 22 (y + 30) l (B.1 0) := ⟨_, rfl⟩
  have o1 : Cw (PLw y l) m w1 := by rw [g1]; exact o0.sI _ _ _ _ ⟨rfl, by omega⟩
  obtain ⟨w2, g2⟩ : ∃ q, q = w1.sI 22 (y + 31) l (B.1 1) := ⟨_, rfl⟩
  have o2 : Cw (PLw y l) m w2 := by rw [g2]; exact o1.sI _ _ _ _ ⟨rfl, by omega⟩
  obtain ⟨w3, g3⟩ : ∃ q, q = w2.sI 22 (y + 32) l (B.1 2) := ⟨_, rfl⟩
  have o3 : Cw (PLw y l) m w3 := by rw [g3]; exact o2.sI _ _ _ _ ⟨rfl, by omega⟩
  have fy : ∀ {v : MM}, Cw (PLw y l) m v → ∀ s, v.I s y 0 = m.I s y 0 := fun o s => o.2.2.2.2 _ _ _ (by unfold PLw; omega)
  have N0 := o0.md M
  have N1 := o1.md M
  have N2 := o2.md M
  have N3 := o3.md M
  have B3 : RNw w3 y B := ⟨(fy o3 _).trans b0, (fy o3 _).trans b1, (fy o3 _).trans b2, (fy o3 _).trans b3, fun r hr c hc => (o3.2.2.2.2 _ _ _ (by unfold PLw; omega)).trans (b4 r hr c hc)⟩
  obtain ⟨u, e, o4, v0, v1⟩ := cp_171 N3 p1 hl B3 hN
  refine ⟨u, ?_, o3.tr o4, ?_, ?_, ?_, ?_, fun r hr c hc => (v1 r hr c hc).trans (B3.2.2.2.2 r hr c hc)⟩
  · rw [chk_t M.1, M.c1129, M.n1129, chk_t (inb_nI (show l < 12 by omega) (by decide)), bnd_e, cl_nI (by omega), b0, ← g0, N0.c1130, N0.n1130, chk_t (inb_nI (show l < 12 by omega) (by decide)), bnd_e, fy o0, b1, ← g1, N1.c1131, N1.n1131, chk_t (inb_nI (show l < 12 by omega) (by decide)), bnd_e, fy o1, b2, ← g2, N2.c1132, N2.n1132, chk_t (inb_nI (show l < 12 by omega) (by decide)), bnd_e, fy o2, b3, ← g3]
    exact e
  · rw [v0 29 (by omega), g3, I_sI, if_neg (by omega), g2, I_sI, if_neg (by omega), g1, I_sI, if_neg (by omega), g0, I_sI, if_pos ⟨rfl, rfl, rfl⟩]
  · rw [v0 30 (by omega), g3, I_sI, if_neg (by omega), g2, I_sI, if_neg (by omega), g1, I_sI, if_pos ⟨rfl, rfl, rfl⟩]
  · rw [v0 31 (by omega), g3, I_sI, if_neg (by omega), g2, I_sI, if_pos ⟨rfl, rfl, rfl⟩]
  · rw [v0 32 (by omega), g3, I_sI, if_pos ⟨rfl, rfl, rfl⟩]
theorem plw_g {n : MM} {l : Nat} (hl : l < 3) (o : Cw (PLw (x + 106) l) m n) : Gq x m n ∧ Ag m n (x + 1) (x + 81) := by
  have no : ∀ {q a i : Nat}, (a ≤ x + 106 + 28 ∨ x + 106 + 38 ≤ a) → ¬ PLw (x + 106) l q a i := fun h => by unfold PLw; omega
  refine ⟨⟨o.1, o.2.1, o.2.2.1, fun a ha s i => o.2.2.2.2 _ _ _ (no (by omega)), fun s a i _ _ _ => by rw [o.2.2.2.1], fun s a i _ => by rw [o.2.2.2.1], fun d d1 d2 s i hi => o.2.2.2.2 _ _ _ (fun q => ?_)⟩, fun a g1 g2 => ⟨by rw [o.1], by rw [o.2.1], fun s i => o.2.2.2.2 _ _ _ (no (by omega)), fun s i => by rw [o.2.2.2.1]⟩⟩
  obtain ⟨_, ⟨h1, h2, h3⟩ | ⟨h1, h2, h3, h4⟩⟩ := q
  · have : zsz d = 3 := by unfold zsz; repeat' (split <;> try omega)
    omega
  · have : zsz d = 30 := by unfold zsz; repeat' (split <;> try omega)
    omega
theorem RW.putL {n : MM} {y i nl : Nat} {B : LW} (h : RW m y 0 W) (hA : Cw (PLw y i) (m.sI 22 (y + 28) 0 (nI nl)) n) (hB : RLw n y i B) (hb : ∀ j, j < W.nl → (W.lw j).2.1 ≤ 10) (hj : ∀ j, j < nl → j ≠ i → j < W.nl) : RW n y 0 (plW W i B nl) := by
  obtain ⟨h0, h1, h2, h3, h4, h5, h6, h7⟩ := h
  have z : ∀ d, d < 29 → ∀ j, n.I 22 (y + d) j = (m.sI 22 (y + 28) 0 (nI nl)).I 22 (y + d) j := fun d d1 j => hA.2.2.2.2 _ _ _ (by unfold PLw; omega)
  have z2 : ∀ d, d ≠ 28 → ∀ j, (m.sI 22 (y + 28) 0 (nI nl)).I 22 (y + d) j = m.I 22 (y + d) j := fun d d3 j => by rw [I_sI, if_neg (by omega)]
  have zz : ∀ d, d < 28 → ∀ j, n.I 22 (y + d) j = m.I 22 (y + d) j := fun d hd j => (z d (by omega) j).trans (z2 d (by omega) j)
  refine ⟨fun j hj => ?_, (zz 2 (by omega) _).trans h1, (zz 3 (by omega) _).trans h2, (zz 4 (by omega) _).trans h3, (zz 5 (by omega) _).trans h4, ?_, fun j hj2 => ?_, fun j hj2 => ?_⟩
  · rw [hA.2.2.2.2 _ _ _ (by unfold PLw; omega), I_sI, if_neg (by omega)]; exact h0 j hj
  · rw [z 28 (by omega), I_sI, if_pos ⟨rfl, rfl, rfl⟩]; rfl
  · obtain ⟨⟨a0, a1, a2, a3, a4, a5, a6, a7, a8, a9, a10, a11⟩, g0, g1, g2, g3, g4, g5⟩ := h6 j hj2
    have e6 : ∀ q, n.I 22 (y + 6) q = m.I 22 (y + 6) q := fun q => zz 6 (by omega) q
    exact ⟨⟨(e6 _).trans a0, (e6 _).trans a1, (e6 _).trans a2, (e6 _).trans a3, (e6 _).trans a4, (e6 _).trans a5, (e6 _).trans a6, (e6 _).trans a7, (e6 _).trans a8, (e6 _).trans a9, fun q hq => (e6 _).trans (a10 q hq), fun q hq => (e6 _).trans (a11 q hq)⟩, fun r hr c hc => (zz (7 + c) (by omega) _).trans (g0 r hr c hc), fun r hr c hc => (zz (15 + c) (by omega) _).trans (g1 r hr c hc), fun r hr c hc => (zz (15 + c) (by omega) _).trans (g2 r hr c hc), fun r hr c hc => (zz (20 + c) (by omega) _).trans (g3 r hr c hc), fun r hr c hc => (zz (23 + c) (by omega) _).trans (g4 r hr c hc), fun r hr c hc => (zz (26 + c) (by omega) _).trans (g5 r hr c hc)⟩
  · show RLw n y (3 * 0 + j) (if j = i then B else W.lw j)
    have hj3 : j < nl := hj2
    by_cases e : j = i
    · subst e; rw [if_pos rfl, Nat.mul_zero, Nat.zero_add]; exact hB
    · rw [if_neg e]
      have hjw := hj j hj3 e
      have hb10 := hb j hjw
      obtain ⟨a0, a1, a2, a3, a4⟩ := h7 j hjw
      rw [Nat.mul_zero, Nat.zero_add] at a0 a1 a2 a3 a4 ⊢
      have y1 : ∀ d, 29 ≤ d → d < 33 → n.I 22 (y + d) j = m.I 22 (y + d) j := fun d d1 d2 => (hA.2.2.2.2 _ _ _ (by unfold PLw; omega)).trans (z2 d (by omega) j)
      exact ⟨(y1 29 (by omega) (by omega)).trans a0, (y1 30 (by omega) (by omega)).trans a1, (y1 31 (by omega) (by omega)).trans a2, (y1 32 (by omega) (by omega)).trans a3, fun r hr c hc => ((hA.2.2.2.2 _ _ _ (by unfold PLw; omega)).trans (z2 (33 + c) (by omega) _)).trans (a4 r hr c hc)⟩
theorem r_law (h : RI m x W) (hb : ∀ j, j < W.nl → (W.lw j).2.1 ≤ 10) (p : Int32) : ∃ m2, f_X10_law (x + 106) p m = some (lR W p, m2) ∧ Gq x m m2 ∧ Ag m m2 (x + 1) (x + 81) ∧ RW m2 (x + 106) 0 (lV W p) := by
  have g := h.code
  have fc := gq_code x m
  have ac := ag_code x m
  have hcn := h.nl
  unfold f_X10_law g_X10_law_0
  rw [chk_t h.M.1, bnd_e]
  generalize m.sI 1100 (x + 106) 0 0 = m0 at g fc ac ⊢
  obtain ⟨m1, e1, g1, a1, w1, B1, l1, l2⟩ := r_takeTape g
  have G1 := fc.tr g1
  have A1 := ac.tr a1
  have M1 := B1.1
  rw [e1, cal_s]
  have go : ∀ i, stN W.nl p = some i → ∃ m2, g_X10_law_38 (x + 106) p m1 = some (lR W p, m2) ∧ Gq x m m2 ∧ Ag m m2 (x + 1) (x + 81) ∧ RW m2 (x + 106) 0 (lV W p) := by
    intro i hs
    obtain ⟨hi3, hsi⟩ := stN_s hcn hs
    unfold lR lV
    rw [hs]
    unfold g_X10_law_38
    rw [chk_t M1.1, bnd_e, bnd_e, bnd_e, bnd_e]
    obtain ⟨v, hv⟩ : ∃ q, q = (((m1.sI 1155 (x + 106) 0 0).sI 1156 (x + 106) 0 0).sI 1157 (x + 106) 0 0).sI 1158 (x + 106) 0 (-1) := ⟨_, rfl⟩
    rw [← hv]
    have ov : Rm (x + 106) m1 v := by
      rw [hv]
      exact (((rm_sI (by omega) (by omega)).tr (rm_sI (by omega) (by omega))).tr (rm_sI (by omega) (by omega))).tr (rm_sI (by omega) (by omega))
    have fv : ∀ s, s < 1155 → v.I s (x + 106) 0 = m1.I s (x + 106) 0 := fun s hs => by rw [hv, I_sI, if_neg (by omega), I_sI, if_neg (by omega), I_sI, if_neg (by omega), I_sI, if_neg (by omega)]
    have Bv : RB (txW W) (x + 106) v := ⟨M1.kept ov.1 ov.2.1 (fun s => by rw [ov.2.2.2.1]), fun j hj => by rw [ov.2.2.2.2.1 _ _ _ (by omega) (by omega)]; exact B1.2.1 j hj, (fv _ (by omega)).trans B1.2.2.1, B1.2.2.2⟩
    have Lv : RNw v (x + 106) BC := by
      refine ⟨?_, ?_, ?_, ?_, fun r hr => absurd hr (Nat.not_lt_zero r)⟩
      · rw [hv, I_sI, if_neg (by omega), I_sI, if_neg (by omega), I_sI, if_neg (by omega), I_sI, if_pos ⟨rfl, rfl, rfl⟩]; rfl
      · rw [hv, I_sI, if_neg (by omega), I_sI, if_neg (by omega), I_sI, if_pos ⟨rfl, rfl, rfl⟩]; rfl
      · rw [hv, I_sI, if_neg (by omega), I_sI, if_pos ⟨rfl, rfl, rfl⟩]; rfl
      · rw [hv, I_sI, if_pos ⟨rfl, rfl, rfl⟩]; rfl
    obtain ⟨v1, r, g', t1, t2, t3⟩ := r_first Bv ((fv _ (by omega)).trans l1) ((fv _ (by omega)).trans l2)
    rw [t1, cal_s]
    have O1 : Rm (x + 106) m1 v1 := ov.tr t2.rm
    have rd := r_rdR (X := txW W) p (g_X10_law_83 (x + 106) p) 501 0 0 0 BC BC v1 r g' (by omega) (by omega) t3 (Lv.nq t2) (by decide) (fun _ => rfl) (fun z => absurd rfl z) FU (by unfold FU; omega)
    have hrd : rdR (txW W) 501 0 0 BC = rdW (txW W) := rfl
    rw [hrd] at rd
    rcases rd with ⟨n, pl, b1, b2, b3, b4⟩ | ⟨n, E, B, p', r', g'', b1, b2, b3, b4, b5⟩
    · rw [b1, b2]
      have O2 := O1.tr b3
      have Mn : Md n (x + 106) := M1.kept O2.1 O2.2.1 (fun s => by rw [O2.2.2.2.1])
      have oz : Rz (x + 106) m1 ((n.sI 22 (x + 106 + 3) 0 1).sI 22 (x + 106 + 4) 0 (nI pl)) := O2.rz.tr (rz_2 _ _)
      unfold g_X10_law_83
      rw [chk_t Mn.1, r_good0 Mn b4, cal_s, if_pos rfl]
      exact ⟨_, rfl, G1.tr oz.g, A1.tr oz.ag, w1.rz oz (by rw [I_sI, if_neg (by omega), I_sI, if_pos ⟨rfl, rfl, rfl⟩]) (by rw [I_sI, if_pos ⟨rfl, rfl, rfl⟩])⟩
    · rw [b1, b2]
      have O2 := O1.tr b3
      dsimp only
      have Mn0 := b4.md
      obtain ⟨n2, hn2⟩ : ∃ q, q = (n.sI 22 (x + 106 + 3) 0 (nI (E % 8))).sI 22 (x + 106 + 4) 0 (plE E) := ⟨_, rfl⟩
      have oz : Rz (x + 106) m1 n2 := by rw [hn2]; exact O2.rz.tr (rz_2 _ _)
      have f3 : n2.I 22 (x + 106 + 3) 0 = nI (E % 8) := by rw [hn2, I_sI, if_neg (by omega), I_sI, if_pos ⟨rfl, rfl, rfl⟩]
      have f4 : n2.I 22 (x + 106 + 4) 0 = plE E := by rw [hn2, I_sI, if_pos ⟨rfl, rfl, rfl⟩]
      unfold g_X10_law_83
      rw [chk_t b4.k, r_good1 b4, cal_s, ← hn2]
      by_cases z : E = 0
      · subst z
        have W1 : RW n2 (x + 106) 0 (w0W W) := w1.rz oz f3 f4
        have Mn : Md n2 (x + 106) := M1.kept oz.1 oz.2.1 (fun s => by rw [oz.2.2.2.1])
        obtain ⟨rn, nt⟩ := b5 rfl
        have rn2 : RNw n2 (x + 106) B := by
          obtain ⟨q0, q1, q2, q3, q4⟩ := rn
          rw [hn2]
          exact ⟨by rw [I_sI, if_neg (by omega), I_sI, if_neg (by omega)]; exact q0, by rw [I_sI, if_neg (by omega), I_sI, if_neg (by omega)]; exact q1, by rw [I_sI, if_neg (by omega), I_sI, if_neg (by omega)]; exact q2, by rw [I_sI, if_neg (by omega), I_sI, if_neg (by omega)]; exact q3, fun r hr c hc => by rw [I_sI, if_neg (by omega), I_sI, if_neg (by omega)]; exact q4 r hr c hc⟩
        obtain ⟨k, hk⟩ : ∃ k, k = if p = -1 then W.nl + 1 else W.nl := ⟨_, rfl⟩
        obtain ⟨u, hu⟩ : ∃ u, u = n2.sI 22 (x + 106 + 28) 0 (nI k) := ⟨_, rfl⟩
        have Mu : Md u (x + 106) := by rw [hu]; exact Mn
        have ru : RNw u (x + 106) B := by
          obtain ⟨q0, q1, q2, q3, q4⟩ := rn2
          rw [hu]
          exact ⟨by rw [I_sI, if_neg (by omega)]; exact q0, by rw [I_sI, if_neg (by omega)]; exact q1, by rw [I_sI, if_neg (by omega)]; exact q2, by rw [I_sI, if_neg (by omega)]; exact q3, fun r hr c hc => by rw [I_sI, if_neg (by omega)]; exact q4 r hr c hc⟩
        obtain ⟨u2, d1, d2, d3⟩ := cp_law Mu p hi3 ru nt
        obtain ⟨q1, q2⟩ := plw_g hi3 d2
        have Gu : Gq x n2 u := by rw [hu]; exact (Gq.rf x n2).sI _ _ _ _ (.inr (.inr (.inr ⟨28, by omega, by omega, rfl, by decide⟩)))
        have Au : Ag n2 u (x + 1) (x + 81) := by rw [hu]; exact (Ag.rf n2 _ _).sI _ _ _ _ (by omega)
        have c5 : n2.I 22 (x + 106 + 28) 0 = nI W.nl := W1.sT.2
        have fin : RW u2 (x + 106) 0 (plW (w0W W) i B k) := by
          rw [hu] at d2
          refine RW.putL W1 d2 d3 hb (fun j hj hne => ?_)
          rw [hk] at hj
          show j < W.nl
          rcases hsi with ⟨c1, c2, c3⟩ | ⟨c1, c2, c3⟩
          · rw [if_pos c1] at hj; omega
          · rw [if_neg c1] at hj; exact hj
        rw [show bI (decide (0 = 0)) = 1 from rfl, if_neg (by decide), if_pos rfl, if_pos rfl, ← hk]
        have st : (if p = -1 then chk (n2.K (x + 106) = 11) (ck n2 (n2.R 1128 (x + 106) 0) 22 (fun a17 => chk (inb 0 (n2.N a17) = true) (g_X10_law_108 (x + 106) p (n2.I 22 a17 (Int32.toNatClampNeg 0)) n2))) else g_X10_law_108 (x + 106) p p n2) = g_X10_law_108 (x + 106) p (nI i) n2 := by
          rcases hsi with ⟨c1, c2, c3⟩ | ⟨c1, c2, c3⟩
          · rw [if_pos c1, chk_t Mn.1, Mn.c1128, Mn.n1128, chk_t (show inb 0 4 = true by decide), show Int32.toNatClampNeg 0 = 0 from rfl, c5, c2]
          · rw [if_neg c1]
            conv => lhs; arg 3; rw [c3]
        rw [st]
        unfold g_X10_law_108 g_X10_law_126
        rw [chk_t Mn.1, Mn.c1128, Mn.n1128, chk_t (show inb 0 4 = true by decide), show Int32.toNatClampNeg 0 = 0 from rfl, c5]
        rcases hsi with ⟨c1, c2, c3⟩ | ⟨c1, c2, c3⟩
        · rw [if_pos c1] at hk
          rw [if_pos c1, Mn.c1128, Mn.n1128, chk_t (show inb 0 4 = true by decide), bnd_e, nI_1, ← hk, ← hu, d1]
          exact ⟨u2, rfl, ((G1.tr oz.g).tr Gu).tr q1, ((A1.tr oz.ag).tr Au).tr q2, fin⟩
        · rw [if_neg c1] at hk
          rw [if_neg c1, Mn.c1128, Mn.n1128, chk_t (show inb 0 4 = true by decide), bnd_e, Int32.add_zero, ← hk, ← hu, d1]
          exact ⟨u2, rfl, ((G1.tr oz.g).tr Gu).tr q1, ((A1.tr oz.ag).tr Au).tr q2, fin⟩
      · rw [decide_eq_false z, show bI false = 0 from rfl, if_pos rfl, if_neg z, if_neg z]
        refine ⟨n2, rfl, G1.tr oz.g, A1.tr oz.ag, w1.rz oz f3 ?_⟩
        rw [f4]
        exact if_neg z
  have c5 : m1.I 22 (x + 106 + 28) 0 = nI W.nl := w1.sT.2
  by_cases e : p = -1
  · rw [if_pos e, chk_t M1.1, M1.c1128, M1.n1128, chk_t (show inb 0 4 = true by decide), show Int32.toNatClampNeg 0 = 0 from rfl, c5]
    by_cases e3 : W.nl = 3
    · have hs : stN W.nl p = none := by unfold stN; rw [if_pos e, if_pos e3]
      rw [if_pos (by rw [e3]; rfl)]
      refine ⟨m1, ?_, G1, A1, ?_⟩
      · unfold lR; rw [hs]
      · unfold lV; rw [hs]; exact w1
    · rw [if_neg (nl (v := 3) (k := 3) rfl e3 (by omega) (by omega))]
      exact go W.nl (by unfold stN; rw [if_pos e, if_neg e3])
  · rw [if_neg e, chk_t M1.1, r_isLaw M1 w1 (show (w0W W).nl ≤ 3 from hcn), cal_s]
    cases hq : isN W.nl p with
    | false =>
      have hs : stN W.nl p = none := by unfold stN; rw [if_neg e, hq, if_neg (by decide)]
      rw [show isN (w0W W).nl p = false from hq, if_pos (show bI false = 0 by rfl)]
      refine ⟨m1, ?_, G1, A1, ?_⟩
      · unfold lR; rw [hs]
      · unfold lV; rw [hs]; exact w1
    | true =>
      rw [show isN (w0W W).nl p = true from hq, if_neg (show ¬ bI true = 0 by decide)]
      exact go p.toNatClampNeg (by unfold stN; rw [if_neg e, if_pos hq])
theorem m_law (x : Nat) (p : Int32) : Mq x (f_X9_law x p) (f_X10_law (x + 106) p) := by
  intro m W D h
  obtain ⟨m1, e1, g1, ⟨T, hT⟩, ⟨L, hL⟩, r1, t1, v1⟩ := c_law h p
  have hR : RI m1 x W := ⟨g1.md h.M, h.R.kept r1, h.V, h.nt, h.nl, fun _ hi => h.nn hi, h.T.lnle⟩
  have hnl := h.nl
  obtain ⟨m2, e2, g2, a2, w2⟩ := r_law hR (fun j hj => (h.T.L j (by omega)).n.2.2) p
  exact ⟨lR W p, m1, m2, lV W p, D, e1, e2, h.step (g1.tr g2) ⟨T, hT.kept (a2.sub (by omega) (by omega))⟩ ⟨L, hL.kept (a2.sub (by omega) (by omega))⟩ (t1.kept (a2.sub (by omega) (by omega))) w2 v1⟩
end RTellL
