/-! a told, made anew -/
/-- a told in the making: j towns and laws stand -/
def PTo (m : MM) (t j : Nat) (q : MM) : Prop := q.S = t + 4 + 18 * j ∧ (q.K t = 8 ∧ q.R 800 t 0 = some (t + 1) ∧ q.R 806 t 0 = some (t + 2) ∧ q.R 807 t 0 = some (t + 3) ∧ q.K (t + 1) = 21 ∧ q.N (t + 1) = 500 ∧ q.K (t + 2) = 28 ∧ q.N (t + 2) = 3 ∧ q.K (t + 3) = 26 ∧ q.N (t + 3) = 3) ∧ ((∀ i, q.I 21 (t + 1) i = 0) ∧ q.I 801 t 0 = 0 ∧ q.I 802 t 0 = 0 ∧ q.I 803 t 0 = -1 ∧ q.I 804 t 0 = 0 ∧ q.I 805 t 0 = 0) ∧ Gz (fun _ b _ => b = t) m q ∧ ∀ k, k < j → q.R 28 (t + 2) k = some (t + 4 + 18 * k) ∧ q.R 26 (t + 3) k = some (t + 19 + 18 * k) ∧ CT q (t + 4 + 18 * k) T0 ∧ CL q (t + 19 + 18 * k) L0
theorem PTo.step {m q : MM} {t j : Nat} (hm : m.S = t + 1) (hj : j < 3) (h : PTo m t j q) : ∃ q2, PTo m t (j + 1) q2 ∧ ∀ X : MM → Option (Unit × MM), (bnd q.S (fun a4 => bnd (q.nw 9 0) (fun m8 => cal (f_X8_init a4 m8) (fun r1 m9 => ck m9 (q.R 806 t 0) 28 (fun a5 => chk (m9.K a4 = 9) (chk (inb (nI j) (m9.N a5) = true) (bnd (m9.sR 28 a5 (Int32.toNatClampNeg (nI j)) (some a4)) (fun m10 => chk (m10.K t = 8) (bnd m10.S (fun a6 => bnd (m10.nw 3 0) (fun m11 => cal (f_X2_init a6 m11) (fun r2 m12 => ck m12 (m10.R 807 t 0) 26 (fun a7 => chk (m12.K a6 = 3) (chk (inb (nI j) (m12.N a7) = true) (bnd (m12.sR 26 a7 (Int32.toNatClampNeg (nI j)) (some a6)) X))))))))))))))) = X q2 := by
  obtain ⟨h1, ⟨a1, a2, a3, a4, a5, a6, a7, a8, a9, a10⟩, ⟨b1, b2, b3, b4, b5, b6⟩, h4, h5⟩ := h
  obtain ⟨n1, e1, s1, g1, c1⟩ := i_town (frs_nw q 9)
  have g1 : Gz nul q n1 := g1.mk rfl
  obtain ⟨q1, hq1⟩ : ∃ u, u = n1.sR 28 (t + 2) j (some q.S) := ⟨_, rfl⟩
  have S1 : q1.S = t + 19 + 18 * j := by rw [hq1, S_sR, s1, h1]; omega
  have G1 : Gz (fun s b i => b = t + 2 ∧ s = 28 ∧ i = j) q q1 := by rw [hq1]; exact g1.nn.sR _ _ _ _ (.inl ⟨rfl, rfl, rfl⟩)
  obtain ⟨n2, e2, s2, g2, c2⟩ := i_law (frs_nw q1 3)
  have g2 : Gz nul q1 n2 := g2.mk rfl
  obtain ⟨q2, hq2⟩ : ∃ u, u = n2.sR 26 (t + 3) j (some q1.S) := ⟨_, rfl⟩
  have S2 : q2.S = t + 4 + 18 * (j + 1) := by rw [hq2, S_sR, s2, S1]; omega
  have G2 : Gz (fun s b i => b = t + 3 ∧ s = 26 ∧ i = j) q1 q2 := by rw [hq2]; exact g2.nn.sR _ _ _ _ (.inl ⟨rfl, rfl, rfl⟩)
  have G : Gz (fun s b i => (b = t + 2 ∧ s = 28 ∧ i = j) ∨ (b = t + 3 ∧ s = 26 ∧ i = j)) q q2 := (G1.up (fun _ _ _ _ z => .inl z)).tr (G2.up (fun _ _ _ _ z => .inr z))
  have l0 : t < q.S := by omega
  have l1 : t + 1 < q.S := by omega
  have l2 : t + 2 < q.S := by omega
  have l3 : t + 3 < q.S := by omega
  have ct1 : CT q1 (t + 4 + 18 * j) T0 := by
    rw [hq1]
    rw [h1] at c1
    exact c1.kept ((Ag.rf n1 _ _).sR _ _ _ _ (by omega))
  refine ⟨q2, ⟨S2, ⟨by rw [G.k l0]; exact a1, by rw [G.r l0 (fun z => by omega)]; exact a2, by rw [G.r l0 (fun z => by omega)]; exact a3, by rw [G.r l0 (fun z => by omega)]; exact a4, by rw [G.k l1]; exact a5, by rw [G.l l1]; exact a6, by rw [G.k l2]; exact a7, by rw [G.l l2]; exact a8, by rw [G.k l3]; exact a9, by rw [G.l l3]; exact a10⟩, ⟨fun i => by rw [G.i l1 (fun z => by omega)]; exact b1 i, by rw [G.i l0 (fun z => by omega)]; exact b2, by rw [G.i l0 (fun z => by omega)]; exact b3, by rw [G.i l0 (fun z => by omega)]; exact b4, by rw [G.i l0 (fun z => by omega)]; exact b5, by rw [G.i l0 (fun z => by omega)]; exact b6⟩, ⟨Nat.le_trans h4.1 G.1, fun a ha => ?_⟩, fun k hk => ?_⟩, fun X => ?_⟩
  · have hg := h4.2 a ha
    have gg := G.2 a (by omega)
    exact ⟨gg.1.trans hg.1, gg.2.1.trans hg.2.1, fun s i hp => (gg.2.2.1 s i (fun z => by omega)).trans (hg.2.2.1 s i hp), fun s i hp => (gg.2.2.2 s i (fun z => by omega)).trans (hg.2.2.2 s i hp)⟩
  · by_cases z : k = j
    · subst z
      refine ⟨?_, ?_, ?_, ?_⟩
      · rw [G2.r (by omega) (fun z => by omega), hq1, R_sR, if_pos ⟨rfl, rfl, rfl⟩, h1]
      · rw [hq2, R_sR, if_pos ⟨rfl, rfl, rfl⟩, S1]
      · exact ct1.kept (G2.ag (by omega) (fun s a i x1 x2 z => by omega))
      · rw [hq2]
        rw [S1] at c2
        exact c2.kept ((Ag.rf n2 _ _).sR _ _ _ _ (by omega))
    · obtain ⟨d1, d2, d3, d4⟩ := h5 k (by omega)
      exact ⟨by rw [G.r l2 (fun z => by omega)]; exact d1, by rw [G.r l3 (fun z => by omega)]; exact d2, d3.kept (G.ag (by omega) (fun s a i x1 x2 z => by omega)), d4.kept (G.ag (by omega) (fun s a i x1 x2 z => by omega))⟩
  · have k1 : n1.K (t + 2) = 28 := by rw [g1.k l2]; exact a7
    have n1' : n1.N (t + 2) = 3 := by rw [g1.l l2]; exact a8
    have k2 : q1.K t = 8 := by rw [G1.k l0]; exact a1
    have r2 : q1.R 807 t 0 = some (t + 3) := by rw [G1.r l0 (fun z => by omega)]; exact a4
    have k3 : n2.K (t + 3) = 26 := by rw [g2.k (by omega), G1.k l3]; exact a9
    have n3 : n2.N (t + 3) = 3 := by rw [g2.l (by omega), G1.l l3]; exact a10
    rw [bnd_e, bnd_e, e1, cal_s, ck_e a3 k1, chk_t c1.K, n1', chk_t (inb_nI hj (by decide)), bnd_e, cl_nI (show j < 2 ^ 31 by omega), ← hq1, chk_t k2, bnd_e, bnd_e, e2, cal_s, ck_e r2 k3, chk_t c2.K, n3, chk_t (inb_nI hj (by decide)), bnd_e, ← hq2]
theorem i_told {m : MM} {t : Nat} (h : frs m t 8) : ∃ n, f_X7_init t m = some ((), n) ∧ n.S = t + 58 ∧ Gz (fun _ b _ => b = t) m n ∧ TD n t W0 := by
  obtain ⟨hS, hK, h0⟩ := h
  obtain ⟨m3, hm3⟩ : ∃ u, u = ((m.nw 21 500).sR 800 t 0 (some (t + 1))).sI 803 t 0 (-1) := ⟨_, rfl⟩
  have S3 : m3.S = t + 2 := by rw [hm3, S_sI, S_sR, S_nw, hS]
  have G3 : Gz (fun s b _ => b = t ∧ (s = 800 ∨ s = 803)) m m3 := by rw [hm3]; exact (((Gz.rf _ m).nw _ _).sR _ _ _ _ (.inl ⟨rfl, .inl rfl⟩)).sI _ _ _ _ (.inl ⟨rfl, .inr rfl⟩)
  have k1 : (m.nw 21 500).K t = 8 := by rw [K_nw, if_neg (by omega)]; exact hK
  have c3 : m3.K (t + 1) = 21 ∧ m3.N (t + 1) = 500 ∧ (∀ i, m3.I 21 (t + 1) i = 0) ∧ m3.R 800 t 0 = some (t + 1) ∧ m3.I 803 t 0 = -1 := by
    refine ⟨by rw [hm3, K_sI, K_sR, K_nw, if_pos hS.symm], by rw [hm3, N_sI, N_sR, N_nw, if_pos hS.symm], fun i => by rw [hm3, I_sI, if_neg (by omega), I_sR, I_nw, if_pos hS.symm], by rw [hm3, R_sI, R_sR, if_pos ⟨rfl, rfl, rfl⟩], by rw [hm3, I_sI, if_pos ⟨rfl, rfl, rfl⟩]⟩
  obtain ⟨m5, hm5⟩ : ∃ u, u = (m3.nw 28 3).sR 806 t 0 (some (t + 2)) := ⟨_, rfl⟩
  have S5 : m5.S = t + 3 := by rw [hm5, S_sR, S_nw, S3]
  have G5 : Gz (fun s b _ => b = t ∧ s = 806) m3 m5 := by rw [hm5]; exact ((Gz.rf _ m3).nw _ _).sR _ _ _ _ (.inl ⟨rfl, rfl⟩)
  have k4 : (m3.nw 28 3).K t = 8 := by rw [K_nw, if_neg (by omega), G3.k (by omega)]; exact hK
  have c5 : m5.K (t + 2) = 28 ∧ m5.N (t + 2) = 3 ∧ m5.R 806 t 0 = some (t + 2) := ⟨by rw [hm5, K_sR, K_nw, if_pos S3.symm], by rw [hm5, N_sR, N_nw, if_pos S3.symm], by rw [hm5, R_sR, if_pos ⟨rfl, rfl, rfl⟩]⟩
  obtain ⟨m7, hm7⟩ : ∃ u, u = (m5.nw 26 3).sR 807 t 0 (some (t + 3)) := ⟨_, rfl⟩
  have S7 : m7.S = t + 4 := by rw [hm7, S_sR, S_nw, S5]
  have G7 : Gz (fun s b _ => b = t ∧ s = 807) m5 m7 := by rw [hm7]; exact ((Gz.rf _ m5).nw _ _).sR _ _ _ _ (.inl ⟨rfl, rfl⟩)
  have k6 : (m5.nw 26 3).K t = 8 := by rw [K_nw, if_neg (by omega), G5.k (by omega), G3.k (by omega)]; exact hK
  have c7 : m7.K (t + 3) = 26 ∧ m7.N (t + 3) = 3 ∧ m7.R 807 t 0 = some (t + 3) := ⟨by rw [hm7, K_sR, K_nw, if_pos S5.symm], by rw [hm7, N_sR, N_nw, if_pos S5.symm], by rw [hm7, R_sR, if_pos ⟨rfl, rfl, rfl⟩]⟩
  have G37 : Gz (fun s b _ => b = t ∧ (s = 806 ∨ s = 807)) m3 m7 := (G5.up (fun _ _ _ _ z => ⟨z.1, .inl z.2⟩)).tr (G7.up (fun _ _ _ _ z => ⟨z.1, .inr z.2⟩))
  have Gm : Gz (fun s b _ => b = t ∧ (s = 800 ∨ s = 803 ∨ s = 806 ∨ s = 807)) m m7 := (G3.up (fun _ _ _ _ z => ⟨z.1, by omega⟩)).tr (G37.up (fun _ _ _ _ z => ⟨z.1, by omega⟩))
  have P0 : PTo m t 0 m7 := ⟨S7, ⟨by rw [Gm.k (by omega)]; exact hK, by rw [G37.r (by omega) (fun z => by omega)]; exact c3.2.2.2.1, by rw [G7.r (by omega) (fun z => by omega)]; exact c5.2.2, c7.2.2, by rw [G37.k (by omega)]; exact c3.1, by rw [G37.l (by omega)]; exact c3.2.1, by rw [G7.k (by omega)]; exact c5.1, by rw [G7.l (by omega)]; exact c5.2.1, c7.1, c7.2.1⟩, ⟨fun i => by rw [G37.i (by omega) (fun z => by omega)]; exact c3.2.2.1 i, by rw [Gm.i (by omega) (fun z => by omega)]; exact h0 _ _, by rw [Gm.i (by omega) (fun z => by omega)]; exact h0 _ _, by rw [G37.i (by omega) (fun z => by omega)]; exact c3.2.2.2.2, by rw [Gm.i (by omega) (fun z => by omega)]; exact h0 _ _, by rw [Gm.i (by omega) (fun z => by omega)]; exact h0 _ _⟩, Gm.up (fun _ _ _ _ z => z.1), fun k hk => by omega⟩
  obtain ⟨p1, P1, x1⟩ := P0.step hS (by omega)
  obtain ⟨p2, P2, x2⟩ := P1.step hS (by omega)
  obtain ⟨p3, P3, x3⟩ := P2.step hS (by omega)
  have hfin : f_X7_init t m = some ((), p3) := by
    unfold f_X7_init
    rw [bnd_e, bnd_e, chk_t k1, hS, bnd_e, bnd_e, ← hm3, bnd_e, bnd_e, chk_t k4, S3, bnd_e, ← hm5, bnd_e, bnd_e, chk_t k6, S5, bnd_e, ← hm7]
    refine (x1 _).trans ?_
    rw [chk_t P1.2.1.1]
    refine (x2 _).trans ?_
    rw [chk_t P2.2.1.1]
    exact x3 _
  clear x1 x2 x3 P0 P1 P2 Gm G37 c7 k6 G7 S7 hm7 c5 k4 G5 S5 hm5 c3 k1 G3 S3 hm3
  obtain ⟨h1, ⟨a1, a2, a3, a4, a5, a6, a7, a8, a9, a10⟩, ⟨b1, b2, b3, b4, b5, b6⟩, h4, h5⟩ := P3
  exact ⟨p3, hfin, h1, h4, a1, a2, a3, a4, a5, a6, a7, a8, a9, a10, fun i hi => (h5 i hi).1, fun i hi => (h5 i hi).2.1, fun j _ => b1 j, b2, Nat.zero_le _, b3, b4, b5, Nat.zero_le _, b6, Nat.zero_le _, fun i hi => (h5 i hi).2.2.1, fun i hi => (h5 i hi).2.2.2⟩
