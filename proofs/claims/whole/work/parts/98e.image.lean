/-! image, again -/
theorem Sh.ce {m n : MM} {x : Nat} (hK : ∀ a, x ≤ a → a < x + 106 → n.K a = m.K a) (hN : ∀ a, x ≤ a → a < x + 106 → n.N a = m.N a) (hR : ∀ s a i, x ≤ a → a < x + 106 → s ≠ 27 → s ≠ 602 → s ≠ 603 → s ≠ 504 → n.R s a i = m.R s a i) (h : Sh m x) : Sh n x := by
  obtain ⟨⟨a1, a2, a3, a4, a5, a6, a7, a8, a9⟩, ⟨b1, b2, b3, b4, b5, b6, b7, b8, b9⟩, ⟨c1, c2, c3, c4, c5, c6, c7, c8⟩, ⟨d1, d2, d3, d4, d5, d6, d7, d8⟩, e1, e2, e3, e4, e5, e6, e7, e8, e9, e10, e11, e12⟩ := h
  exact ⟨⟨by rw [hK _ (by omega) (by omega)]; exact a1, by rw [hR _ _ _ (by omega) (by omega) (by decide) (by decide) (by decide) (by decide)]; exact a2, by rw [hR _ _ _ (by omega) (by omega) (by decide) (by decide) (by decide) (by decide)]; exact a3, by rw [hR _ _ _ (by omega) (by omega) (by decide) (by decide) (by decide) (by decide)]; exact a4, by rw [hR _ _ _ (by omega) (by omega) (by decide) (by decide) (by decide) (by decide)]; exact a5, by rw [hR _ _ _ (by omega) (by omega) (by decide) (by decide) (by decide) (by decide)]; exact a6, by rw [hR _ _ _ (by omega) (by omega) (by decide) (by decide) (by decide) (by decide)]; exact a7, by rw [hK _ (by omega) (by omega)]; exact a8, by rw [hN _ (by omega) (by omega)]; exact a9⟩, ⟨by rw [hK _ (by omega) (by omega)]; exact b1, by rw [hR _ _ _ (by omega) (by omega) (by decide) (by decide) (by decide) (by decide)]; exact b2, by rw [hR _ _ _ (by omega) (by omega) (by decide) (by decide) (by decide) (by decide)]; exact b3, by rw [hR _ _ _ (by omega) (by omega) (by decide) (by decide) (by decide) (by decide)]; exact b4, by rw [hR _ _ _ (by omega) (by omega) (by decide) (by decide) (by decide) (by decide)]; exact b5, by rw [hK _ (by omega) (by omega)]; exact b6, by rw [hN _ (by omega) (by omega)]; exact b7, by rw [hK _ (by omega) (by omega)]; exact b8, by rw [hN _ (by omega) (by omega)]; exact b9⟩, ⟨by rw [hK _ (by omega) (by omega)]; exact c1, by rw [hR _ _ _ (by omega) (by omega) (by decide) (by decide) (by decide) (by decide)]; exact c2, by rw [hR _ _ _ (by omega) (by omega) (by decide) (by decide) (by decide) (by decide)]; exact c3, by rw [hK _ (by omega) (by omega)]; exact c4, by rw [hN _ (by omega) (by omega)]; exact c5, by rw [hK _ (by omega) (by omega)]; exact c6, by rw [hN _ (by omega) (by omega)]; exact c7, fun i hi => ⟨by rw [hR _ _ _ (by omega) (by omega) (by decide) (by decide) (by decide) (by decide)]; exact (c8 i hi).1, by rw [hK _ (by omega) (by omega)]; exact (c8 i hi).2⟩⟩, ⟨by rw [hK _ (by omega) (by omega)]; exact d1, by rw [hR _ _ _ (by omega) (by omega) (by decide) (by decide) (by decide) (by decide)]; exact d2, by rw [hR _ _ _ (by omega) (by omega) (by decide) (by decide) (by decide) (by decide)]; exact d3, by rw [hR _ _ _ (by omega) (by omega) (by decide) (by decide) (by decide) (by decide)]; exact d4, by rw [hK _ (by omega) (by omega)]; exact d5, by rw [hN _ (by omega) (by omega)]; exact d6, by rw [hK _ (by omega) (by omega)]; exact d7, by rw [hN _ (by omega) (by omega)]; exact d8⟩, by rw [hK _ (by omega) (by omega)]; exact e1, by rw [hR _ _ _ (by omega) (by omega) (by decide) (by decide) (by decide) (by decide)]; exact e2, by rw [hR _ _ _ (by omega) (by omega) (by decide) (by decide) (by decide) (by decide)]; exact e3, by rw [hR _ _ _ (by omega) (by omega) (by decide) (by decide) (by decide) (by decide)]; exact e4, by rw [hR _ _ _ (by omega) (by omega) (by decide) (by decide) (by decide) (by decide)]; exact e5, by rw [hK _ (by omega) (by omega)]; exact e6, by rw [hN _ (by omega) (by omega)]; exact e7, by rw [hK _ (by omega) (by omega)]; exact e8, by rw [hN _ (by omega) (by omega)]; exact e9, by rw [hK _ (by omega) (by omega)]; exact e10, by rw [hN _ (by omega) (by omega)]; exact e11, fun i hi => ⟨by rw [hR _ _ _ (by omega) (by omega) (by decide) (by decide) (by decide) (by decide)]; exact (e12 i hi).1, by rw [hK _ (by omega) (by omega)]; exact (e12 i hi).2⟩⟩
theorem Md.ce {m n : MM} {y : Nat} (hK : ∀ a, y ≤ a → a < y + 57 → n.K a = m.K a) (hN : ∀ a, y ≤ a → a < y + 57 → n.N a = m.N a) (hR : ∀ s, n.R s y 0 = m.R s y 0) (h : Md m y) : Md n y := by
  have hb : ∀ q ∈ mdL, q.2.1 < 57 := by decide
  exact ⟨by rw [hK _ (by omega) (by omega)]; exact h.1, fun q hq => ⟨by rw [hR]; exact (h.2 q hq).1, by rw [hK _ (by omega) (by have := hb q hq; omega)]; exact (h.2 q hq).2.1, by rw [hN _ (by omega) (by have := hb q hq; omega)]; exact (h.2 q hq).2.2⟩⟩
theorem Tq.gz {lo hi : Nat} {m n : MM} (h : Tq lo hi m n) : Gz (fun _ a _ => lo ≤ a ∧ a < hi) m n := ⟨by rw [h.2.2.1]; exact Nat.le_refl _, fun a _ => ⟨by rw [h.1], by rw [h.2.1], fun s i hp => h.2.2.2.2 s a i (by omega), fun s i _ => by rw [h.2.2.2.1]⟩⟩
theorem c_img37 {m : MM} {x d k : Nat} {W V : WD} (hx : m.K x = 10) (h0 : m.R 1000 x 0 = some (x + 1)) (h1 : m.R 1001 x 0 = some (x + 59)) (h2 : m.K (x + 59) = 27) (h3 : m.N (x + 59) = 3) (hk : k < 3) (h4 : m.R 27 (x + 59) k = some d) (hd : TD m d V) (ht : TD m (x + 1) W) (ha : d + 58 ≤ x + 1 ∨ x + 1 + 58 ≤ d) : ∃ n, g_X9_image_37 x (nI k) m = some (1, n) ∧ Tq d (d + 58) m n ∧ TD n d (cvW W) := by
  obtain ⟨n, e1, e2, e3⟩ := c_toldTake hd ht ha
  refine ⟨n, ?_, e2, e3⟩
  unfold g_X9_image_37
  rw [chk_t hx, ck_e h1 h2, h3, chk_t (inb_nI hk (by decide)), cl_nI (show k < 2 ^ 31 by omega), ck_e h4 hd.K, h0, e1, cal_s]
theorem c_image {m : MM} {x k : Nat} {W : WD} {D : Nat → Option (Nat × WD)} (h : Inv m x W D) (hk : k < 3) : ∃ m1 d, f_X9_image x (nI k) m = some (1, m1) ∧ x + 163 ≤ d ∧ d + 58 ≤ m1.S ∧ TD m1 d (cvW W) ∧ m1.R 27 (x + 59) k = some d ∧ Gz (fun s a i => (d ≤ a ∧ a < d + 58) ∨ (a = x + 59 ∧ s = 27 ∧ i = k)) m m1 ∧ ∀ j e V, j < 3 → j ≠ k → D j = some (e, V) → e + 58 ≤ d ∨ d + 58 ≤ e := by
  have hS := h.2.2.2.2.2.2.2.1
  obtain ⟨i1, i2, i3⟩ := h.2.2.2.2.2.2.2.2
  have sh := h.1.1
  have pre : f_X9_image x (nI k) m = ifn (m.R 27 (x + 59) k) (bnd m.S (fun a5 => bnd (m.nw 8 0) (fun m2 => cal (f_X7_init a5 m2) (fun r2 m3 => chk (m3.K (x + 59) = 27) (chk (m3.K a5 = 8) (chk (inb (nI k) (m3.N (x + 59)) = true) (bnd (m3.sR 27 (x + 59) k (some a5)) (fun m4 => g_X9_image_37 x (nI k) m4)))))))) (fun a4 => g_X9_image_37 x (nI k) m) := by
    unfold f_X9_image g_X9_image_0
    rw [if_neg (nI_pos (show k < 2 ^ 31 by omega)), chk_t h.kx, ck_e sh.2.2.1 sh.2.2.2.2.2.2.2.1, sh.2.2.2.2.2.2.2.2, ofN, if_pos ((nI_ltI (by omega) (by decide)).mpr hk), chk_t (inb_nI hk (by decide)), cl_nI (show k < 2 ^ 31 by omega)]
  cases hD : D k with
  | none =>
    obtain ⟨g1, g2⟩ := i1 k hk hD
    obtain ⟨m3, e1, s3, z3, t3⟩ := i_told (frs_nw m 8)
    have z3 : Gz nul m m3 := z3.mk rfl
    have Z4 : Gz (fun s a i => a = x + 59 ∧ s = 27 ∧ i = k) m (m3.sR 27 (x + 59) k (some m.S)) := z3.nn.sR _ _ _ _ (.inl ⟨rfl, rfl, rfl⟩)
    have T4 : TD (m3.sR 27 (x + 59) k (some m.S)) m.S W0 := t3.kept ((Ag.rf m3 _ _).sR _ _ _ _ (by omega))
    have U4 : TD (m3.sR 27 (x + 59) k (some m.S)) (x + 1) W := h.T.kept (Z4.ag (by omega) (fun s a i h1 h2 z => by omega))
    have k3 : m3.K (x + 59) = 27 := by rw [z3.k (by omega)]; exact sh.2.2.2.2.2.2.2.1
    have n3 : m3.N (x + 59) = 3 := by rw [z3.l (by omega)]; exact sh.2.2.2.2.2.2.2.2
    obtain ⟨m1, x1, x2, x3⟩ := c_img37 (m := m3.sR 27 (x + 59) k (some m.S)) (x := x) (d := m.S) (k := k) (by rw [K_sR, z3.k (by omega)]; exact sh.1) (by rw [Z4.r (by omega) (fun z => by omega)]; exact sh.2.1) (by rw [Z4.r (by omega) (fun z => by omega)]; exact sh.2.2.1) (by rw [K_sR]; exact k3) (by rw [N_sR]; exact n3) hk (by rw [R_sR, if_pos ⟨rfl, rfl, rfl⟩]) T4 U4 (by omega)
    refine ⟨m1, m.S, ?_, hS, by rw [x2.2.2.1, S_sR, s3]; exact Nat.le_refl _, x3, by rw [x2.2.2.2.1, R_sR, if_pos ⟨rfl, rfl, rfl⟩], (Z4.up (fun _ _ _ _ z => .inr z)).tr ((x2.gz).up (fun _ _ _ _ z => .inl z)), fun j e V hj hjk he => ?_⟩
    · rw [pre, g1, ifn_n, bnd_e, bnd_e, e1, cal_s, chk_t k3, chk_t t3.K, n3, chk_t (inb_nI hk (by decide)), bnd_e]
      exact x1
    · have := (i2 j hj e V he).2.2.2.1
      exact .inl this
  | some v =>
    obtain ⟨d, V⟩ := v
    obtain ⟨g1, g2, g3, g4, g5, g6, g7⟩ := i2 k hk d V hD
    obtain ⟨m1, x1, x2, x3⟩ := c_img37 (x := x) (d := d) (k := k) sh.1 sh.2.1 sh.2.2.1 sh.2.2.2.2.2.2.2.1 sh.2.2.2.2.2.2.2.2 hk g1 g5 h.T (by omega)
    refine ⟨m1, d, ?_, g3, by rw [x2.2.2.1]; exact g4, x3, by rw [x2.2.2.2.1]; exact g1, (x2.gz).up (fun _ _ _ _ z => .inl z), fun j e U hj hjk he => i3 j k hj hk hjk e U d V he hD⟩
    rw [pre, g1, ifn_s]
    exact x1
theorem sl_ne {z a b i : Nat} (hab : a ≠ b) (hi : i < z) : ¬ (z * b ≤ z * a + i ∧ z * a + i < z * b + z) := by
  rintro ⟨h1, h2⟩
  rcases Nat.lt_or_gt_of_ne hab with h | h
  · have : z * (a + 1) ≤ z * b := Nat.mul_le_mul_left z h
    rw [Nat.mul_succ] at this; omega
  · have : z * (b + 1) ≤ z * a := Nat.mul_le_mul_left z h
    rw [Nat.mul_succ] at this; omega
theorem Cq.other {m n : MM} {y p q k : Nat} {W : WD} (h : Cq m y p q 38 n) (hk : k ≠ q) (hn : W.nt ≤ 3) (hl : W.nl ≤ 3) (hN : ∀ i, i < W.nt → NT (W.tn i)) (hB : ∀ i, i < W.nl → (W.lw i).2.1 ≤ 10) (r : RW m y k W) : RW n y k W := RW.sl (tp := W.tp) (fun d d1 d2 j hj => (h.2.2.2.2.2.1 d d1 d2).2 _ (sl_ne hk hj)) (fun j hj => by rw [h.2.2.2.2.2.2.2 _ (sl_ne hk hj)]; exact r.1 j hj) hn hl hN hB r
theorem Cq.here {m n : MM} {y p q : Nat} {W : WD} (h : Cq m y p q 38 n) (hn : W.nt ≤ 3) (hl : W.nl ≤ 3) (hN : ∀ i, i < W.nt → NT (W.tn i)) (hB : ∀ i, i < W.nl → (W.lw i).2.1 ≤ 10) (r : RW m y p W) : RW n y q (cvW W) := RW.sl (fun d d1 d2 j hj => (h.2.2.2.2.2.1 d d1 d2).1 j hj) (fun j hj => by rw [h.2.2.2.2.2.2.1 j hj, r.1 j hj]) hn hl hN hB r
theorem TD.nn {m : MM} {t : Nat} {W : WD} (h : TD m t W) : (∀ i, i < W.nt → NT (W.tn i)) ∧ ∀ i, i < W.nl → (W.lw i).2.1 ≤ 10 := ⟨fun i hi => (h.T i (by have := h.ntle; omega)).nn, fun i hi => (h.L i (by have := h.nlle; omega)).n.2.2⟩
theorem in02 {k : Nat} (hk : k < 3) : inR (nI k) 0 2 = true := by
  have e : (2 : Int32) = nI 3 - 1 := by decide
  rw [e, inR_isN (by decide), isN_nI (by decide) hk]
theorem m_image (x : Nat) (p : Int32) : Mq x (f_X9_image x p) (f_X10_image (x + 106) p) := by
  intro m W D h
  have sh := h.1.1
  have e2 : (2 : Int32) = nI 3 - 1 := by decide
  cases hp : isN 3 p with
  | false =>
    have fc := fq_code x m
    refine ⟨0, m, m.sI 1100 (x + 106) 0 0, W, D, ?_, ?_, h.kept fc⟩
    · unfold f_X9_image g_X9_image_0
      by_cases z : p < 0
      · rw [if_pos z]
      · have z2 : nI 3 ≤ p := (isN_f hp).resolve_left z
        rw [if_neg z, chk_t h.kx, ck_e sh.2.2.1 sh.2.2.2.2.2.2.2.1, sh.2.2.2.2.2.2.2.2, ofN, if_neg (fun y => absurd z2 (Int32.not_le.mpr y))]
    · unfold f_X10_image g_X10_image_0
      rw [chk_t h.M.1, bnd_e, r_in, cal_s, e2, inR_isN (by decide), hp, bI_f, if_pos rfl]
  | true =>
    obtain ⟨k, hk, ek⟩ := (isN_iff (by decide)).mp hp
    subst ek
    have hS := h.2.2.2.2.2.2.2.1
    obtain ⟨i1, i2, i3⟩ := h.2.2.2.2.2.2.2.2
    obtain ⟨m1, d, c1, c2, c3, c4, c5, c6, c7⟩ := c_image h hk
    obtain ⟨Tr, hTr⟩ := h.2.2.1
    obtain ⟨Lr, hLr⟩ := h.2.2.2.1
    have S1 : Sh m1 x := h.1.ce (fun a a1 a2 => c6.k (by omega)) (fun a a1 a2 => c6.l (by omega)) (fun s a i a1 a2 a3 _ _ _ => c6.r (by omega) (fun z => by omega))
    have M1 : Md m1 (x + 106) := h.M.ce (fun a a1 a2 => c6.k (by omega)) (fun a a1 a2 => c6.l (by omega)) (fun s => c6.r (by omega) (fun z => by omega))
    have A1 : Ag m m1 (x + 106) (x + 163) := c6.ag (by omega) (fun s a i a1 a2 z => by omega)
    have Ar1 : Ar m m1 (x + 106) := ⟨fun d d1 d2 i => (A1 _ (by omega) (by omega)).2.2.1 _ _, fun i => (A1 _ (by omega) (by omega)).2.2.1 _ _, fun i => (A1 _ (by omega) (by omega)).2.2.1 _ _⟩
    obtain ⟨m2, hm2⟩ : ∃ u, u = m1.sI 1100 (x + 106) 0 0 := ⟨_, rfl⟩
    have M2 : Md m2 (x + 106) := by rw [hm2]; exact M1
    have Ar2 : Ar m1 m2 (x + 106) := by rw [hm2]; exact (fq_code x m1).ar
    obtain ⟨m3, x1, C⟩ := r_copy M2 (p := 0) (q := k + 1) (by omega) (by omega) (by omega)
    obtain ⟨m4, hm4⟩ : ∃ u, u = m3.sI 24 (x + 162) k 1 := ⟨_, rfl⟩
    have M3 : Md m3 (x + 106) := M2.kept C.1 C.2.1 (fun s => by rw [C.2.2.2.1])
    have M4 : Md m4 (x + 106) := by rw [hm4]; exact M3
    have Ar4 : (∀ d, 1 ≤ d → d < 38 → ∀ s i, m4.I s (x + 106 + d) i = m3.I s (x + 106 + d) i) := fun d d1 d2 s i => by rw [hm4, I_sI, if_neg (by omega)]
    have rwk : ∀ {j V}, RW m3 (x + 106) j V → RW m4 (x + 106) j V := fun {j V} r => by
      obtain ⟨r0, r1, r2, r3, r4, r5, r6, r7⟩ := r
      refine ⟨fun i hi => by rw [Ar4 1 (by omega) (by omega)]; exact r0 i hi, by rw [Ar4 2 (by omega) (by omega)]; exact r1, by rw [Ar4 3 (by omega) (by omega)]; exact r2, by rw [Ar4 4 (by omega) (by omega)]; exact r3, by rw [Ar4 5 (by omega) (by omega)]; exact r4, by rw [Ar4 28 (by omega) (by omega)]; exact r5, fun i hi => ?_, fun i hi => ?_⟩
      · obtain ⟨⟨b0, b1, b2, b3, b4, b5, b6, b7, b8, b9, b10, b11⟩, g0, g1, g2, g3, g4, g5⟩ := r6 i hi
        have e6 := Ar4 6 (by omega) (by omega)
        exact ⟨⟨by rw [e6]; exact b0, by rw [e6]; exact b1, by rw [e6]; exact b2, by rw [e6]; exact b3, by rw [e6]; exact b4, by rw [e6]; exact b5, by rw [e6]; exact b6, by rw [e6]; exact b7, by rw [e6]; exact b8, by rw [e6]; exact b9, fun h hh => by rw [e6]; exact b10 h hh, fun g hg => by rw [e6]; exact b11 g hg⟩, fun r hr c hc => by rw [Ar4 (7 + c) (by omega) (by omega)]; exact g0 r hr c hc, fun r hr c hc => by rw [Ar4 (15 + c) (by omega) (by omega)]; exact g1 r hr c hc, fun r hr c hc => by rw [Ar4 (15 + c) (by omega) (by omega)]; exact g2 r hr c hc, fun r hr c hc => by rw [Ar4 (20 + c) (by omega) (by omega)]; exact g3 r hr c hc, fun r hr c hc => by rw [Ar4 (23 + c) (by omega) (by omega)]; exact g4 r hr c hc, fun r hr c hc => by rw [Ar4 (26 + c) (by omega) (by omega)]; exact g5 r hr c hc⟩
      · obtain ⟨b0, b1, b2, b3, b4⟩ := r7 i hi
        exact ⟨by rw [Ar4 29 (by omega) (by omega)]; exact b0, by rw [Ar4 30 (by omega) (by omega)]; exact b1, by rw [Ar4 31 (by omega) (by omega)]; exact b2, by rw [Ar4 32 (by omega) (by omega)]; exact b3, fun r hr c hc => by rw [Ar4 (33 + c) (by omega) (by omega)]; exact b4 r hr c hc⟩
    have O4 : ∀ a, (a < x + 106 ∨ x + 163 ≤ a) → ∀ s i, m4.I s a i = m1.I s a i := fun a ha s i => by
      rw [hm4, I_sI, if_neg (by omega), C.2.2.2.2.1 s a i (by omega), hm2, I_sI, if_neg (by omega)]
    have K4 : m4.K = m1.K := by rw [hm4, K_sI, C.1, hm2, K_sI]
    have N4 : m4.N = m1.N := by rw [hm4, N_sI, C.2.1, hm2, N_sI]
    have S4 : m4.S = m1.S := by rw [hm4, S_sI, C.2.2.1, hm2, S_sI]
    have R4 : m4.R = m1.R := by rw [hm4, R_sI, C.2.2.2.1, hm2, R_sI]
    have Ag4 : ∀ {lo hi}, (hi ≤ x + 106 ∨ x + 163 ≤ lo) → Ag m1 m4 lo hi := fun {lo hi} hh a a1 a2 => ⟨by rw [K4], by rw [N4], fun s i => O4 a (by omega) s i, fun s i => by rw [R4]⟩
    have F4 : ∀ j, m4.I 24 (x + 162) j = if j = k then 1 else m.I 24 (x + 162) j := fun j => by
      rw [hm4, I_sI]
      by_cases z : j = k
      · rw [if_pos ⟨rfl, rfl, z⟩, if_pos z]
      · rw [if_neg (fun y => z y.2.2), if_neg z, C.2.2.2.2.1 _ _ _ (by omega), hm2, I_sI, if_neg (by omega), (A1 _ (by omega) (by omega)).2.2.1]
    obtain ⟨nn1, nn2⟩ := h.T.nn
    refine ⟨1, m1, m4, W, fun j => if j = k then some (d, cvW W) else D j, c1, ?_, S1.kept K4 N4 (fun s a i _ _ _ => by rw [R4]), M4, ⟨Tr, (hTr.kept (c6.ag (by omega) (fun s a i a1 a2 z => by omega))).kept (Ag4 (by omega))⟩, ⟨Lr, (hLr.kept (c6.ag (by omega) (fun s a i a1 a2 z => by omega))).kept (Ag4 (by omega))⟩, (h.T.kept (c6.ag (by omega) (fun s a i a1 a2 z => by omega))).kept (Ag4 (by omega)), rwk (C.other (by omega) h.nt h.nl nn1 nn2 ((h.R.kept Ar1).kept Ar2)), h.V, by rw [S4]; omega, fun j hj hDj => ?_, fun j hj e V hDj => ?_, fun j j' hj hj' hjj e V e' V' hDj hDj' => ?_⟩
    · unfold f_X10_image g_X10_image_0
      rw [chk_t M1.1, bnd_e, ← hm2, r_in, cal_s, in02 hk, if_neg (show ¬ bI true = 0 by decide), chk_t M2.1, nI_1, show f_X10_copy (x + 106) 0 (nI (k + 1)) m2 = _ from x1, cal_s, chk_t M3.1, M3.c1183, M3.n1183, chk_t (inb_nI hk (by decide)), bnd_e, cl_nI (show k < 2 ^ 31 by omega)]
      rw [hm4]
      rfl
    · dsimp only at hDj
      by_cases z : j = k
      · rw [if_pos z] at hDj; cases hDj
      · rw [if_neg z] at hDj
        obtain ⟨g1, g2⟩ := i1 j hj hDj
        exact ⟨by rw [R4, c6.r (by omega) (fun y => by omega)]; exact g1, by rw [F4, if_neg z]; exact g2⟩
    · dsimp only at hDj
      by_cases z : j = k
      · rw [if_pos z] at hDj
        have hv := Option.some.inj hDj
        have e1 : d = e := congrArg Prod.fst hv
        have e2 : cvW W = V := congrArg Prod.snd hv
        subst e1; subst e2; subst z
        exact ⟨by rw [R4]; exact c5, by rw [F4, if_pos rfl], c2, by rw [S4]; exact c3, c4.kept (Ag4 (by omega)), rwk (C.here h.nt h.nl nn1 nn2 ((h.R.kept Ar1).kept Ar2)), h.V⟩
      · rw [if_neg z] at hDj
        obtain ⟨g1, g2, g3, g4, g5, g6, g7⟩ := i2 j hj e V hDj
        have hdis := c7 j e V hj z hDj
        obtain ⟨v1, v2⟩ := g5.nn
        exact ⟨by rw [R4, c6.r (by omega) (fun y => by omega)]; exact g1, by rw [F4, if_neg z]; exact g2, g3, by rw [S4]; exact Nat.le_trans g4 c6.1, (g5.kept (c6.ag (by omega) (fun s a i a1 a2 y => by omega))).kept (Ag4 (by omega)), rwk (C.other (by omega) g5.ntle g5.nlle v1 v2 ((g6.kept Ar1).kept Ar2)), g7⟩
    · dsimp only at hDj hDj'
      by_cases z : j = k
      · have z' : j' ≠ k := fun y => hjj (z.trans y.symm)
        rw [if_pos z] at hDj
        rw [if_neg z'] at hDj'
        have e1 : d = e := congrArg Prod.fst (Option.some.inj hDj)
        subst e1
        exact (c7 j' e' V' hj' z' hDj').symm
      · rw [if_neg z] at hDj
        by_cases z' : j' = k
        · rw [if_pos z'] at hDj'
          have e1 : d = e' := congrArg Prod.fst (Option.some.inj hDj')
          subst e1
          exact c7 j e V hj z hDj
        · rw [if_neg z'] at hDj'
          exact i3 j j' hj hj' hjj e V e' V' hDj hDj'
theorem m_again (x : Nat) (p : Int32) : Mq x (f_X9_again x p) (f_X10_again (x + 106) p) := by
  intro m W D h
  have sh := h.1.1
  have e2 : (2 : Int32) = nI 3 - 1 := by decide
  have g := h.code
  have fc := fq_code x m
  cases hp : isN 3 p with
  | false =>
    refine ⟨0, m, m.sI 1100 (x + 106) 0 0, W, D, ?_, ?_, h.kept fc⟩
    · unfold f_X9_again g_X9_again_0
      by_cases z : p < 0
      · rw [if_pos z]
      · have z2 : nI 3 ≤ p := (isN_f hp).resolve_left z
        rw [if_neg z, chk_t h.kx, ck_e sh.2.2.1 sh.2.2.2.2.2.2.2.1, sh.2.2.2.2.2.2.2.2, ofN, if_pos z2]
    · unfold f_X10_again g_X10_again_0
      rw [chk_t h.M.1, bnd_e, r_in, cal_s, e2, inR_isN (by decide), hp, bI_f, if_pos rfl]
  | true =>
    obtain ⟨k, hk, ek⟩ := (isN_iff (by decide)).mp hp
    subst ek
    have hS := h.2.2.2.2.2.2.2.1
    obtain ⟨i1, i2, i3⟩ := h.2.2.2.2.2.2.2.2
    have preC : f_X9_again x (nI k) m = ifn (m.R 27 (x + 59) k) (some (0, m)) (fun a2 => ck m (m.R 1000 x 0) 8 (fun a3 => cal (f_X7_take a3 (m.R 27 (x + 59) k) m) (fun r1 m1 => some (1, m1)))) := by
      unfold f_X9_again g_X9_again_0
      rw [if_neg (nI_pos (show k < 2 ^ 31 by omega)), chk_t h.kx, ck_e sh.2.2.1 sh.2.2.2.2.2.2.2.1, sh.2.2.2.2.2.2.2.2, ofN, if_neg (nI_ge hk (by decide)), chk_t (inb_nI hk (by decide)), cl_nI (show k < 2 ^ 31 by omega), chk_t (inb_nI hk (by decide))]
    have preR : ∀ n, Md n (x + 106) → f_X10_again (x + 106) (nI k) n = if (n.sI 1100 (x + 106) 0 0).I 24 (x + 162) k = 0 then some (0, n.sI 1100 (x + 106) 0 0) else cal (f_X10_copy (x + 106) (nI (k + 1)) 0 (n.sI 1100 (x + 106) 0 0)) (fun r2 m3 => some (1, m3)) := by
      intro n hM
      have hM2 : Md (n.sI 1100 (x + 106) 0 0) (x + 106) := hM
      unfold f_X10_again g_X10_again_0
      rw [chk_t hM.1, bnd_e, r_in, cal_s, in02 hk, if_neg (show ¬ bI true = 0 by decide), chk_t hM2.1, hM2.c1183, hM2.n1183, chk_t (inb_nI hk (by decide)), cl_nI (show k < 2 ^ 31 by omega), nI_1]
    cases hD : D k with
    | none =>
      obtain ⟨g1, g2⟩ := i1 k hk hD
      refine ⟨0, m, _, W, D, by rw [preC, g1, ifn_n], ?_, h.kept fc⟩
      rw [preR m h.M, if_pos (by rw [I_sI, if_neg (by omega)]; exact g2)]
    | some v =>
      obtain ⟨d, V⟩ := v
      obtain ⟨g1, g2, g3, g4, g5, g6, g7⟩ := i2 k hk d V hD
      obtain ⟨m1, x1, x2, x3⟩ := c_toldTake h.T g5 (by omega)
      have M1 : Md m1 (x + 106) := h.M.kept x2.1 x2.2.1 (fun s => by rw [x2.2.2.2.1])
      have Ar1 : Ar m m1 (x + 106) := ⟨fun d d1 d2 i => x2.2.2.2.2 _ _ _ (by omega), fun i => x2.2.2.2.2 _ _ _ (by omega), fun i => x2.2.2.2.2 _ _ _ (by omega)⟩
      obtain ⟨m2, hm2⟩ : ∃ u, u = m1.sI 1100 (x + 106) 0 0 := ⟨_, rfl⟩
      have M2 : Md m2 (x + 106) := by rw [hm2]; exact M1
      have Ar2 : Ar m1 m2 (x + 106) := by rw [hm2]; exact (fq_code x m1).ar
      obtain ⟨m3, y1, C⟩ := r_copy M2 (p := k + 1) (q := 0) (by omega) (by omega) (by omega)
      have M3 : Md m3 (x + 106) := M2.kept C.1 C.2.1 (fun s => by rw [C.2.2.2.1])
      have O3 : ∀ a, (a < x + 106 ∨ x + 144 ≤ a) → ∀ s i, m3.I s a i = m1.I s a i := fun a ha s i => by
        rw [C.2.2.2.2.1 s a i (by omega), hm2, I_sI, if_neg (by omega)]
      have K3 : m3.K = m.K := by rw [C.1, hm2, K_sI, x2.1]
      have N3 : m3.N = m.N := by rw [C.2.1, hm2, N_sI, x2.2.1]
      have S3 : m3.S = m.S := by rw [C.2.2.1, hm2, S_sI, x2.2.2.1]
      have R3 : m3.R = m.R := by rw [C.2.2.2.1, hm2, R_sI, x2.2.2.2.1]
      have Ag3 : ∀ {lo hi}, ((x + 59 ≤ lo ∧ hi ≤ x + 106) ∨ x + 144 ≤ lo) → Ag m m3 lo hi := fun {lo hi} hh a a1 a2 => ⟨by rw [K3], by rw [N3], fun s i => by rw [O3 a (by omega) s i, x2.2.2.2.2 _ _ _ (by omega)], fun s i => by rw [R3]⟩
      have T3 : TD m3 (x + 1) (cvW V) := x3.kept (fun a a1 a2 => ⟨by rw [K3, x2.1], by rw [N3, x2.2.1], fun s i => O3 a (by omega) s i, fun s i => by rw [R3, x2.2.2.2.1]⟩)
      obtain ⟨Tr, hTr⟩ := h.2.2.1
      obtain ⟨Lr, hLr⟩ := h.2.2.2.1
      obtain ⟨v1, v2⟩ := g5.nn
      refine ⟨1, m1, m3, cvW V, D, ?_, ?_, h.1.kept K3 N3 (fun s a i _ _ _ => by rw [R3]), M3, ⟨Tr, hTr.kept (Ag3 (by omega))⟩, ⟨Lr, hLr.kept (Ag3 (by omega))⟩, T3, C.here g5.ntle g5.nlle v1 v2 ((g6.kept Ar1).kept Ar2), g7, by rw [S3]; exact hS, fun j hj hDj => ?_, fun j hj e U hDj => ?_, i3⟩
      · rw [preC, g1, ifn_s, ck_e sh.2.1 h.T.K, x1, cal_s]
      · rw [preR m1 M1, ← hm2, if_neg (by rw [hm2, I_sI, if_neg (by omega), x2.2.2.2.2 _ _ _ (by omega), g2]; decide), show f_X10_copy (x + 106) (nI (k + 1)) 0 m2 = _ from y1, cal_s]
      · obtain ⟨b1, b2⟩ := i1 j hj hDj
        exact ⟨by rw [R3]; exact b1, by rw [(Ag3 (lo := x + 162) (hi := x + 163) (by omega) _ (by omega) (by omega)).2.2.1]; exact b2⟩
      · obtain ⟨b1, b2, b3, b4, b5, b6, b7⟩ := i2 j hj e U hDj
        obtain ⟨u1, u2⟩ := b5.nn
        exact ⟨by rw [R3]; exact b1, by rw [(Ag3 (lo := x + 162) (hi := x + 163) (by omega) _ (by omega) (by omega)).2.2.1]; exact b2, b3, by rw [S3]; exact b4, b5.kept (Ag3 (by omega)), C.other (by omega) b5.ntle b5.nlle u1 u2 ((b6.kept Ar1).kept Ar2), b7⟩
