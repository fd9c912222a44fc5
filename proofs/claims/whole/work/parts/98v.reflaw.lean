/-! the reference reads a town -/
theorem nI_ex (v : Int32) : ∃ n, v = nI n := ⟨v.toBitVec.toNat, by
  apply Int32.toBitVec_inj.mp
  show v.toBitVec = BitVec.ofNat 32 v.toBitVec.toNat
  simp⟩
section RRead
variable {X : Tx} {y : Nat} {m : MM} {p E n : Nat} {g : Int32}
/-- the first token -/
theorem r_first (h : RB X y m) (e : m.I 1138 y 0 = 0) (el : m.I 1145 y 0 = 0) : ∃ u r g, f_X10_token y m = some ((), u) ∧ Nq y m u ∧ RC X y u 0 0 r g := by
  obtain ⟨u, t1, t2, t3⟩ := r_token0 (p := 0) h (by omega) e
  obtain ⟨r, hr⟩ := nI_ex (u.I 1148 y 0)
  exact ⟨u, r, u.I 1149 y 0, t1, t2.nq (by omega) (by omega), h.rs t2, t3, ⟨(t2.2.2.2.2.2 _ _ (by omega)).trans el, fun z => absurd rfl z⟩, hr, rfl, by omega⟩
theorem r_init (M : Md m y) (K : MM → Option (Int32 × MM)) : ∃ u, l_X10_readTown_2 y K FU 0 m = K u ∧ Wr y 39 0 32 m u ∧ ∀ i, i < 32 → u.I 22 (y + 39) i = if i < 10 then 0 else -1 := by
  obtain ⟨u, ⟨i1, i2⟩, e⟩ := lp_inv (fun n i (s : MM) => l_X10_readTown_2 y K n i s) (fun i s => Wr y 39 0 32 m s ∧ ∀ c, c < i → s.I 22 (y + 39) c = if c < 10 then 0 else -1) (fun s => K s) 32 (fun i hi s hI => by
    obtain ⟨a1, a2⟩ := hI
    have M1 : Md s y := M.kept a1.1 a1.2.1 (fun q => by rw [a1.2.2.2.1])
    refine ⟨s.sI 22 (y + 39) i (if i < 10 then 0 else -1), ⟨a1.sI _ _ (by omega) (by omega), fun c hc => ?_⟩, fun n => ?_⟩
    · rw [I_sI]
      by_cases q : c = i
      · rw [if_pos ⟨rfl, rfl, q⟩, q]
      · rw [if_neg (by omega)]; exact a2 c (by omega)
    · show g_X10_readTown_2 y (l_X10_readTown_2 y K n) K (nI i) s = _
      unfold g_X10_readTown_2 g_X10_readTown_24
      rw [if_neg (show ¬ (32 : Int32) ≤ nI i from nI_ge (b := 32) hi (by decide)), chk_t M1.1]
      by_cases q : i < 10
      · rw [if_neg (show ¬ (10 : Int32) ≤ nI i from nI_ge (b := 10) q (by decide)), M1.c1150, M1.n1150, chk_t (inb_nI hi (by decide)), bnd_e, cl_nI (by omega), nI_1, if_pos q]
      · rw [if_pos (show (10 : Int32) ≤ nI i from nI_le (a := 10) (by omega) (by omega)), M1.c1150, M1.n1150, chk_t (inb_nI hi (by decide)), bnd_e, cl_nI (by omega), nI_1, if_neg q]) (fun s hI n => by
    show g_X10_readTown_2 y (l_X10_readTown_2 y K n) K (nI 32) s = _
    unfold g_X10_readTown_2
    rw [if_pos (show (32 : Int32) ≤ nI 32 by decide)]) (s0 := m) ⟨Wr.rf _ _ _ _ m, fun c hc => by omega⟩
  exact ⟨u, e FU (by unfold FU; omega), i1, i2⟩
theorem NT_TC : NT TC := ⟨by decide, by decide, by decide, by decide, by decide, by decide⟩
theorem r_readTown (h : RB X y m) (e : m.I 1138 y 0 = 0) (el : m.I 1145 y 0 = 0) : RdR y m (f_X10_readTown y m) (rdT X) := by
  unfold f_X10_readTown g_X10_readTown_0
  obtain ⟨u, e1, o1, v1⟩ := r_init h.1 (g_X10_readTown_31 y)
  rw [e1]
  have s0 : ∀ s, u.I s y 0 = m.I s y 0 := fun s => o1.2.2.2.2.2 _ _ _ (by omega)
  have B : RB X y u := ⟨h.1.kept o1.1 o1.2.1 (fun q => by rw [o1.2.2.2.1]), fun j hj => by rw [o1.2.2.2.2.2 _ _ _ (by omega)]; exact h.2.1 j hj, (s0 _).trans h.2.2.1, h.2.2.2⟩
  have T0 : RN u y TC := by
    have z : ∀ i, i < 10 → u.I 22 (y + 39) i = 0 := fun i hi => by rw [v1 i (by omega), if_pos hi]
    refine ⟨⟨z 0 (by omega), z 1 (by omega), z 2 (by omega), z 3 (by omega), z 4 (by omega), z 5 (by omega), z 6 (by omega), z 7 (by omega), z 8 (by omega), z 9 (by omega), fun h hh => ?_, fun g hg => ?_⟩, fun r hr => absurd hr (Nat.not_lt_zero r), fun r hr => absurd hr (Nat.not_lt_zero r), fun r hr => absurd hr (Nat.not_lt_zero r), fun r hr => absurd hr (Nat.not_lt_zero r), fun r hr => absurd hr (Nat.not_lt_zero r)⟩
    · rw [v1 _ (by omega), if_neg (by omega)]; show _ = if 10 + h < 10 then 0 else -1; rw [if_neg (by omega)]
    · rw [v1 _ (by omega), if_neg (by omega)]; show _ = if 20 + g < 10 then 0 else -1; rw [if_neg (by omega)]
  obtain ⟨u1, r, g, t1, t2, t3⟩ := r_first B ((s0 _).trans e) ((s0 _).trans el)
  have T1 := T0.nq t2
  unfold g_X10_readTown_31
  rw [chk_t B.1.1, t1, cal_s, chk_t t3.k]
  refine RdR.pre ((o1.rm (by omega) (by omega)).tr t2.rm).rz ?_
  unfold rdT
  rcases r_sizeLine t3 T1 NT_TC with ⟨u2, pl, a1, a2, a3, a4⟩ | ⟨u2, q, r2, g2, a1, a2, a3, a4, T', a5, a6, a7⟩
  · rw [a1, cal_s, a2]
    exact RdR.pre a3.rz (rd_bad (t3.md.kept a3.1 a3.2.1 (fun s => by rw [a3.2.2.2.1])) a4 1048575 _)
  · rw [a1, cal_s, a2]
    have hf : fmT X (tkN X 0) 2 = .inr q ∧ tkK X 0 = 1 := by
      unfold fmSize at a2
      cases hw : wdT X 0 0 with
      | true => rw [hw] at a2; exact ⟨a2, wdk1 hw⟩
      | false => rw [hw] at a2; cases a2
    refine RdR.pre a3.rz (r_rdL 501 q 0 _ _ T' u2 r2 g2 (by omega) (by omega) a4 a5 a6 a7 (fun z => ?_) (fun z => by omega) FU (by unfold FU; omega))
    exact e2_lt (e2_lt (by have := (fmT_gt hf.1).1; omega) (fmS_lt hf.1 0 (by omega))) (fmS_lt hf.1 1 (by omega))
end RRead
/-! the reference reads a law -/
def RNw (m : MM) (y : Nat) (B : LW) : Prop := m.I 1155 y 0 = nI B.2.1 ∧ m.I 1156 y 0 = B.1 0 ∧ m.I 1157 y 0 = B.1 1 ∧ m.I 1158 y 0 = B.1 2 ∧ ∀ r, r < B.2.1 → ∀ c, c < 5 → m.I 22 (y + 44) (5 * r + c) = B.2.2 r c
theorem RNw.nq {m n : MM} {y : Nat} {B : LW} (h : RNw m y B) (o : Nq y m n) : RNw n y B := ⟨(o.2.2.2.2.2 _ _ (by omega)).trans h.1, (o.2.2.2.2.2 _ _ (by omega)).trans h.2.1, (o.2.2.2.2.2 _ _ (by omega)).trans h.2.2.1, (o.2.2.2.2.2 _ _ (by omega)).trans h.2.2.2.1, fun r hr c hc => (o.2.2.2.2.1 _ _ _ (by omega) (by omega)).trans (h.2.2.2.2 r hr c hc)⟩
def CtL (y e : Nat) (B : LW) (n : MM) : Prop := ∃ B', RNw n y B' ∧ B'.2.1 ≤ 10 ∧ (e = 0 → B' = B)
theorem CtL.nq {m u : MM} {y e : Nat} {B : LW} (h : CtL y e B m) (o : Nq y m u) : CtL y e B u := by
  obtain ⟨T', a, b⟩ := h
  exact ⟨T', a.nq o, b⟩
section RLaw
variable {X : Tx} {y : Nat} {m : MM} {p E n : Nat} {g : Int32}
/-- a number of the reference's law is written -/
theorem RC.sI {s : Nat} {v : Int32} (h : RC X y m p E n g) (hs : 1150 ≤ s) : RC X y (m.sI s y 0 v) p E n g := by
  have i1 : ∀ t, t ≠ s → (m.sI s y 0 v).I t y 0 = m.I t y 0 := fun t ht => by rw [I_sI, if_neg (by omega)]
  exact ⟨⟨h.1.1, fun j hj => by rw [I_sI, if_neg (by omega)]; exact h.1.2.1 j hj, (i1 _ (by omega)).trans h.1.2.2.1, h.1.2.2.2⟩, h.2.1.of (fun t _ _ => i1 t (by omega)) rfl, ⟨(i1 _ (by omega)).trans h.2.2.1.1, fun z => ⟨(i1 _ (by omega)).trans (h.2.2.1.2 z).1, (h.2.2.1.2 z).2⟩⟩, (i1 _ (by omega)).trans h.2.2.2.1, (i1 _ (by omega)).trans h.2.2.2.2.1, h.2.2.2.2.2⟩
theorem rm_sI {s : Nat} {v : Int32} (h1 : 1140 ≤ s) (h2 : s < 1159) : Rm y m (m.sI s y 0 v) := ⟨rfl, rfl, rfl, rfl, fun t a i g1 _ => by rw [I_sI, if_neg (fun q => g1 q.2.1)], fun t i ht => by rw [I_sI, if_neg (by omega)]⟩
def ruO (X : Tx) (q : Nat) : Nat ⊕ Nat := bdT (nmT X q 3) (fun r => .inr (cond (wdT X r 3) (tkN X r) r))
theorem r_ruleLine {B : LW} (so : Int32) (h : RC X y m p E 0 g) (hk : tkK X p = 1) (hB : RNw m y B) (hN : B.2.1 ≤ 10) {z : Int32} {hd : Nat} (hz : z = nI hd) (hh : hd ≤ 500) : LnR X y m (f_X10_ruleLine y so z m) (ruO X (tkN X p)) (eRule B hd (vT X (tkN X p)) (sT X (tkN X p)) E) (CtL y (eRule B hd (vT X (tkN X p)) (sT X (tkN X p)) E) (uRule B (ruF so (vT X (tkN X p)) (wdT X (itN X (tkN X p) 3) 3)))) := by
  unfold f_X10_ruleLine g_X10_ruleLine_0
  rw [chk_t h.k, hB.1]
  obtain ⟨u0, e0, o0, c0⟩ := r_note h (k := 3) (f := 3) rfl hz (by omega) (by omega) hh (nIk (a := B.2.1) (k := 10) (v := 10) rfl (by omega) (by omega)) (g_X10_ruleLine_15 y so z)
  rw [e0]
  have q0 := o0.nq (by omega) (by omega)
  obtain ⟨u1, t1, t2, t3⟩ := r_token c0 (by omega)
  have q1 := q0.tr (t2.nq (by omega) (by omega))
  unfold g_X10_ruleLine_15
  rw [chk_t c0.k, t1, cal_s, chk_t t3.k]
  have nf : ∀ k pl, k ≤ 3 → nmT X (tkN X p) k = .inl pl → ruO X (tkN X p) = .inl pl := fun k pl hk a => by
    unfold ruO
    have := nmT_l a (3 - k)
    rw [show k + (3 - k) = 3 by omega] at this
    rw [this]
    rfl
  refine r_num (q := tkN X p) (k := 0) (P := fun R => LnR X y m (cal R _) _ _ _) t3 (by omega) rfl (fun i hi => by omega) 0 5 _ rfl (fun u pl a1 a2 a3 => ?_) (fun u2 a1 a2 a3 a4 a5 => ?_)
  · rw [cal_s, if_pos rfl]; exact lr_f rfl (nf _ pl (by omega) a1) (q1.tr a2).rm a3
  rw [cal_s, if_neg (by decide), chk_t a3.k]
  refine r_num (P := fun R => LnR X y m (cal R _) _ _ _) a3 (by omega) a1 a4 0 5 _ rfl (fun u pl b1 b2 b3 => ?_) (fun u3 b1 b2 b3 b4 b5 => ?_)
  · rw [cal_s, if_pos rfl]; exact lr_f rfl (nf _ pl (by omega) b1) ((q1.tr a2).tr b2).rm b3
  rw [cal_s, if_neg (by decide), chk_t b3.k]
  refine r_num (P := fun R => LnR X y m (cal R _) _ _ _) b3 (by omega) b1 b4 1 12 _ rfl (fun u pl d1 d2 d3 => ?_) (fun u4 d1 d2 d3 d4 d5 => ?_)
  · rw [cal_s, if_pos rfl]; exact lr_f rfl (nf _ pl (by omega) d1) (((q1.tr a2).tr b2).tr d2).rm d3
  have O := ((q1.tr a2).tr b2).tr d2
  have B4 := hB.nq O
  obtain ⟨s, es⟩ : ∃ s, s = B.2.1 := ⟨_, rfl⟩
  have ey : (5 : Int32) * nI s = nI (5 * s) := by
    show nI 5 * nI s = _
    rw [pk_mul]
  obtain ⟨f, ef⟩ : ∃ f, f = ruF so (vT X (tkN X p)) (wdT X (itN X (tkN X p) 3) 3) := ⟨_, rfl⟩
  have f0 : f 0 = so := by rw [ef]; rfl
  have f1 : f 1 = nI (vT X (tkN X p) 0) := by rw [ef]; rfl
  have f2 : f 2 = nI (vT X (tkN X p) 1) := by rw [ef]; rfl
  have f3 : f 3 = nI (vT X (tkN X p) 2) := by rw [ef]; rfl
  have f4 : f 4 = cond (wdT X (itN X (tkN X p) 3) 3) 1 0 := by rw [ef]; rfl
  have stp : ∀ (v w : MM) (c : Nat) (z : Int32), Wr y 44 (5 * s) 5 u4 v → w = v.sI 22 (y + 44) (5 * s + c) z → c < 5 → Wr y 44 (5 * s) 5 u4 w := fun v w c z o hw hc => by rw [hw]; exact o.sI _ _ (by omega) (by omega)
  have rd : ∀ (v : MM), Wr y 44 (5 * s) 5 u4 v → ∀ i, i < 3 → v.I 22 (y + 38) i = nI (vT X (tkN X p) i) := fun v o i hi => (o.2.2.2.2.2 _ _ _ (by omega)).trans (d4 i hi)
  obtain ⟨w0, g0⟩ : ∃ w, w = u4.sI 22 (y + 44) (5 * s) (f 0) := ⟨_, rfl⟩
  have p0 : Wr y 44 (5 * s) 5 u4 w0 := by rw [g0]; exact (Wr.rf _ _ _ _ u4).sI _ _ (by omega) (by omega)
  obtain ⟨w1, g1⟩ : ∃ w, w = w0.sI 22 (y + 44) (5 * s + 1) (f 1) := ⟨_, rfl⟩
  have p1 := stp _ _ _ _ p0 g1 (by omega)
  obtain ⟨w2, g2⟩ : ∃ w, w = w1.sI 22 (y + 44) (5 * s + 2) (f 2) := ⟨_, rfl⟩
  have p2 := stp _ _ _ _ p1 g2 (by omega)
  obtain ⟨w3, g3⟩ : ∃ w, w = w2.sI 22 (y + 44) (5 * s + 3) (f 3) := ⟨_, rfl⟩
  have p3 := stp _ _ _ _ p2 g3 (by omega)
  obtain ⟨w4, g4⟩ : ∃ w, w = w3.sI 22 (y + 44) (5 * s + 4) (f 4) := ⟨_, rfl⟩
  have p4 := stp _ _ _ _ p3 g4 (by omega)
  have M4 := d3.md
  have k0 := d3.wr p0 (by omega)
  have k1 := d3.wr p1 (by omega)
  have k2 := d3.wr p2 (by omega)
  have k3 := d3.wr p3 (by omega)
  have k4 := d3.wr p4 (by omega)
  have row : ∀ c, c < 5 → w4.I 22 (y + 44) (5 * s + c) = f c := fun c hc => by
    have : c = 0 ∨ c = 1 ∨ c = 2 ∨ c = 3 ∨ c = 4 := by omega
    rcases this with rfl | rfl | rfl | rfl | rfl
    · rw [g4, I_sI, if_neg (by omega), g3, I_sI, if_neg (by omega), g2, I_sI, if_neg (by omega), g1, I_sI, if_neg (by omega), g0, I_sI, if_pos ⟨rfl, rfl, rfl⟩]
    · rw [g4, I_sI, if_neg (by omega), g3, I_sI, if_neg (by omega), g2, I_sI, if_neg (by omega), g1, I_sI, if_pos ⟨rfl, rfl, rfl⟩]
    · rw [g4, I_sI, if_neg (by omega), g3, I_sI, if_neg (by omega), g2, I_sI, if_pos ⟨rfl, rfl, rfl⟩]
    · rw [g4, I_sI, if_neg (by omega), g3, I_sI, if_pos ⟨rfl, rfl, rfl⟩]
    · rw [g4, I_sI, if_pos ⟨rfl, rfl, rfl⟩]
  have fld : ∀ t, w4.I t y 0 = u4.I t y 0 := fun t => p4.2.2.2.2.2 _ _ _ (by omega)
  have hs10 : s ≤ 10 := by omega
  have wd3 : ∀ (v : MM), RC X y v (itN X (tkN X p) 3) (e2T (e2T (e2T (ncT E (decide (B.2.1 = 10)) (8 * hd + 3)) (vT X (tkN X p) 0) 0 5 (sT X (tkN X p) 0)) (vT X (tkN X p) 1) 0 5 (sT X (tkN X p) 1)) (vT X (tkN X p) 2) 1 12 (sT X (tkN X p) 2)) 3 (cond (inR (nI (vT X (tkN X p) 2)) 1 12) (cond (inR (nI (vT X (tkN X p) 1)) 0 5) (cond (inR (nI (vT X (tkN X p) 0)) 0 5) g 0) 0) 0) → f_X10_isWord y 2002873452 v = some (bI (wdT X (itN X (tkN X p) 3) 3), v) := fun v c => r_isWord c (k := 3) (by decide) (by omega)
  rw [cal_s, if_neg (by decide), chk_t d3.k, B4.1, ← es, ey, bnd_e, M4.c1159, M4.n1159, chk_t (inb_nI (show 5 * s < 55 by omega) (by decide)), bnd_e, cl_nI (by omega), ← f0, ← g0, k0.md.c1147, k0.md.n1147, chk_t (show inb 0 6 = true by decide), show Int32.toNatClampNeg 0 = 0 from rfl, rd w0 p0 0 (by omega), k0.md.c1159, k0.md.n1159, nI_1, chk_t (inb_nI (show 5 * s + 1 < 55 by omega) (by decide)), bnd_e, cl_nI (by omega), ← f1, ← g1, k1.md.c1147, k1.md.n1147, chk_t (show inb 1 6 = true by decide), show Int32.toNatClampNeg 1 = 1 from rfl, rd w1 p1 1 (by omega), k1.md.c1159, k1.md.n1159, show nI (5 * s) + 2 = nI (5 * s + 2) from nI_add _ 2, chk_t (inb_nI (show 5 * s + 2 < 55 by omega) (by decide)), bnd_e, cl_nI (by omega), ← f2, ← g2, k2.md.c1147, k2.md.n1147, chk_t (show inb 2 6 = true by decide), show Int32.toNatClampNeg 2 = 2 from rfl, rd w2 p2 2 (by omega), k2.md.c1159, k2.md.n1159, show nI (5 * s) + 3 = nI (5 * s + 3) from nI_add _ 3, chk_t (inb_nI (show 5 * s + 3 < 55 by omega) (by decide)), bnd_e, cl_nI (by omega), ← f3, ← g3, wd3 w3 k3, cal_s, show nI (5 * s) + 4 = nI (5 * s + 4) from nI_add _ 4]
  have tail : ∀ (v : MM) (r : Nat), Nq y w4 v → RC X y v r (eRule B hd (vT X (tkN X p)) (sT X (tkN X p)) E) 3 (cond (inR (nI (vT X (tkN X p) 2)) 1 12) (cond (inR (nI (vT X (tkN X p) 1)) 0 5) (cond (inR (nI (vT X (tkN X p) 0)) 0 5) g 0) 0) 0) → ruO X (tkN X p) = .inr r → LnR X y m (g_X10_ruleLine_142 y so z v) (ruO X (tkN X p)) (eRule B hd (vT X (tkN X p)) (sT X (tkN X p)) E) (CtL y (eRule B hd (vT X (tkN X p)) (sT X (tkN X p)) E) (uRule B f)) := by
    intro v r Ov cv hr
    have fv : ∀ t, 1150 ≤ t → v.I t y 0 = u4.I t y 0 := fun t ht => (Ov.2.2.2.2.2 t 0 (by omega)).trans (fld t)
    have n5 : v.I 1155 y 0 = nI s := by rw [fv _ (by omega), B4.1, es]
    have av : ∀ i, v.I 22 (y + 44) i = w4.I 22 (y + 44) i := fun i => Ov.2.2.2.2.1 _ _ _ (by omega) (by omega)
    have OO : Rm y m v := (O.rm.tr (p4.rm (by omega) (by omega))).tr Ov.rm
    unfold g_X10_ruleLine_142
    rw [chk_t cv.k, n5]
    by_cases q : s = 10
    · rw [if_pos (show (10 : Int32) ≤ nI s by rw [q]; decide), bnd_e]
      refine .inr ⟨_, r, 3, _, rfl, hr, OO.tr (rm_sI (by omega) (by omega)), cv.sI (by omega), B, ⟨?_, ?_, ?_, ?_, fun r hr c hc => ?_⟩, hN, fun z0 => ?_⟩
      · rw [I_sI, if_pos ⟨rfl, rfl, rfl⟩, Int32.add_zero, es]
      · rw [I_sI, if_neg (by omega), fv _ (by omega)]; exact B4.2.1
      · rw [I_sI, if_neg (by omega), fv _ (by omega)]; exact B4.2.2.1
      · rw [I_sI, if_neg (by omega), fv _ (by omega)]; exact B4.2.2.2.1
      · rw [I_sI, if_neg (by omega), av, p4.2.2.2.2.2 _ _ _ (by omega)]; exact B4.2.2.2.2 r hr c hc
      · have := (ncT_0 (e2T_0 (e2T_0 (e2T_0 z0).1).1).1 (by omega)).2
        have h10 : ¬ B.2.1 = 10 := by simpa using this
        omega
    · rw [if_neg (show ¬ (10 : Int32) ≤ nI s from nI_ge (b := 10) (by omega) (by decide)), bnd_e, nI_1]
      refine .inr ⟨_, r, 3, _, rfl, hr, OO.tr (rm_sI (by omega) (by omega)), cv.sI (by omega), uRule B f, ⟨?_, ?_, ?_, ?_, fun r hr c hc => ?_⟩, (show B.2.1 + 1 ≤ 10 by omega), fun _ => rfl⟩
      · rw [I_sI, if_pos ⟨rfl, rfl, rfl⟩, es]; rfl
      · rw [I_sI, if_neg (by omega), fv _ (by omega)]; exact B4.2.1
      · rw [I_sI, if_neg (by omega), fv _ (by omega)]; exact B4.2.2.1
      · rw [I_sI, if_neg (by omega), fv _ (by omega)]; exact B4.2.2.2.1
      · rw [I_sI, if_neg (by omega), av]
        show _ = if r = B.2.1 then f c else B.2.2 r c
        have hr' : r < B.2.1 + 1 := hr
        by_cases e : r = B.2.1
        · rw [if_pos e, e, ← es]; exact row c hc
        · rw [if_neg e, p4.2.2.2.2.2 _ _ _ (by omega)]; exact B4.2.2.2.2 r (by omega) c hc
  have hro : ruO X (tkN X p) = .inr (cond (wdT X (itN X (tkN X p) 3) 3) (tkN X (itN X (tkN X p) 3)) (itN X (tkN X p) 3)) := by
    unfold ruO
    rw [d1]
    rfl
  rw [f0, ← ef]
  unfold g_X10_ruleLine_127
  cases hw : wdT X (itN X (tkN X p) 3) 3 with
  | false =>
    rw [hw] at f4 hro
    have f4' : f 4 = 0 := f4
    rw [f4'] at g4
    rw [if_pos (show bI false = 0 by rfl), k3.md.c1159, k3.md.n1159, chk_t (inb_nI (show 5 * s + 4 < 55 by omega) (by decide)), bnd_e, cl_nI (by omega), ← g4, chk_t k4.k, wd3 w4 k4, cal_s, hw, if_pos (show bI false = 0 by rfl)]
    exact tail w4 _ (Nq.rf y w4) k4 hro
  | true =>
    rw [hw] at f4 hro
    have f4' : f 4 = 1 := f4
    rw [f4'] at g4
    obtain ⟨u5, x1, x2, x3⟩ := r_token k4 (by have h1 : tkK X (itN X (tkN X p) 3) = 1 := wdk1 hw; show tkK X (itN X (tkN X p) 3) ≠ 4; omega)
    rw [if_neg (show ¬ bI true = 0 by decide), k3.md.c1159, k3.md.n1159, chk_t (inb_nI (show 5 * s + 4 < 55 by omega) (by decide)), bnd_e, cl_nI (by omega), ← g4, chk_t k4.k, wd3 w4 k4, cal_s, hw, if_neg (show ¬ bI true = 0 by decide), chk_t k4.k, x1, cal_s]
    exact tail u5 _ (x2.nq (by omega) (by omega)) x3 hro
end RLaw
