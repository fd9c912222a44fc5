/-! town, law: the reference; both together -/
section RTell
variable {x : Nat} {m : MM} {W : WD}
theorem Rz.g {n : MM} (h : Rz (x + 106) m n) : Gq x m n := by
  refine ⟨h.1, h.2.1, h.2.2.1, fun a ha s i => h.2.2.2.2.1 s a i (by omega) (by omega) (by omega), fun s a i _ _ _ => by rw [h.2.2.2.1], fun s a i _ => by rw [h.2.2.2.1], fun d d1 d2 s i hi => h.2.2.2.2.1 s _ i (by omega) (by omega) (fun q => ?_)⟩
  have : d = 3 ∨ d = 4 := by omega
  rcases this with rfl | rfl
  · have hz : zsz 3 = 1 := rfl
    omega
  · have hz : zsz 4 = 1 := rfl
    omega
theorem Rz.ag {n : MM} (h : Rz (x + 106) m n) : Ag m n (x + 1) (x + 81) := fun a g1 g2 => ⟨by rw [h.1], by rw [h.2.1], fun s i => h.2.2.2.2.1 s a i (by omega) (by omega) (by omega), fun s i => by rw [h.2.2.2.1]⟩
theorem RW.rz {n : MM} {y : Nat} {f q : Int32} (h : RW m y 0 W) (o : Rz y m n) (hf : n.I 22 (y + 3) 0 = f) (hq : n.I 22 (y + 4) 0 = q) : RW n y 0 (faW W f q) := by
  obtain ⟨r0, r1, r2, r3, r4, r5, r6, r7⟩ := id h
  refine RW.head h (fun d d1 d2 d3 j => o.2.2.2.2.1 _ _ _ (by omega) (by omega) (by omega)) (fun j hj => ?_) ?_ hf hq ?_ ?_ rfl rfl rfl rfl
  · rw [o.2.2.2.2.1 _ _ _ (by omega) (by omega) (by omega)]
    have := r0 j hj
    rw [Nat.mul_zero, Nat.zero_add] at this
    exact this
  · rw [o.2.2.2.2.1 _ _ _ (by omega) (by omega) (by omega)]; exact r1
  · rw [o.2.2.2.2.1 _ _ _ (by omega) (by omega) (by omega)]; exact r4
  · rw [o.2.2.2.2.1 _ _ _ (by omega) (by omega) (by omega)]; exact r5
theorem r_takeTape (h : RI m x W) : ∃ n, f_X10_takeTape (x + 106) m = some ((), n) ∧ Gq x m n ∧ Ag m n (x + 1) (x + 81) ∧ RW n (x + 106) 0 (w0W W) ∧ RB (txW W) (x + 106) n ∧ n.I 1138 (x + 106) 0 = 0 ∧ n.I 1145 (x + 106) 0 = 0 := by
  have M := h.M
  obtain ⟨r0, r1, r2, r3, r4, r5, r6, r7⟩ := id h.R
  unfold f_X10_takeTape g_X10_takeTape_0
  obtain ⟨n, hn⟩ : ∃ q, q = (((((m.sI 1139 (x + 106) 0 (nI W.ln)).sI 22 (x + 106 + 2) 0 0).sI 22 (x + 106 + 3) 0 0).sI 22 (x + 106 + 4) 0 (-1)).sI 1138 (x + 106) 0 0).sI 1145 (x + 106) 0 0 := ⟨_, rfl⟩
  have M1 : Md (m.sI 1139 (x + 106) 0 (nI W.ln)) (x + 106) := M
  have M2 : Md ((m.sI 1139 (x + 106) 0 (nI W.ln)).sI 22 (x + 106 + 2) 0 0) (x + 106) := M
  have M3 : Md (((m.sI 1139 (x + 106) 0 (nI W.ln)).sI 22 (x + 106 + 2) 0 0).sI 22 (x + 106 + 3) 0 0) (x + 106) := M
  rw [chk_t M.1, M.c1102, M.n1102, chk_t (show inb 0 4 = true by decide), bnd_e, show Int32.toNatClampNeg 0 = 0 from rfl, r1, M1.c1102, M1.n1102, chk_t (show inb 0 4 = true by decide), bnd_e, M2.c1103, M2.n1103, chk_t (show inb 0 4 = true by decide), bnd_e, M3.c1104, M3.n1104, chk_t (show inb 0 4 = true by decide), bnd_e, bnd_e, bnd_e, ← hn]
  have i1 : ∀ q a i, ¬ (a = x + 106) → ¬ (q = 22 ∧ (a = x + 106 + 2 ∨ a = x + 106 + 3 ∨ a = x + 106 + 4) ∧ i = 0) → n.I q a i = m.I q a i := fun q a i h1 h2 => by rw [hn, I_sI, if_neg (by omega), I_sI, if_neg (by omega), I_sI, if_neg (by omega), I_sI, if_neg (by omega), I_sI, if_neg (by omega), I_sI, if_neg (by omega)]
  have Mn : Md n (x + 106) := by rw [hn]; exact M
  have tp : ∀ j, j < 500 → n.I 21 (x + 106 + 1) j = W.tp j := fun j hj => by
    rw [i1 _ _ _ (by omega) (by omega)]
    have := r0 j hj
    rw [Nat.mul_zero, Nat.zero_add] at this
    exact this
  refine ⟨n, rfl, ?_, ?_, RW.head h.R (fun d d1 d2 d3 j => i1 _ _ _ (by omega) (by omega)) (fun j hj => tp j hj) ?_ ?_ ?_ ?_ ?_ rfl rfl rfl rfl, ⟨Mn, fun j hj => by rw [tp j hj]; exact (txW_b W j).1, ?_, h.lnle, fun j => (txW_b W j).2⟩, ?_, ?_⟩
  · rw [hn]
    exact ((((((Gq.rf x m).sI _ _ _ _ (.inr (.inl (by omega)))).sI _ _ _ _ (.inr (.inr (.inr ⟨2, by omega, by omega, rfl, by decide⟩)))).sI _ _ _ _ (.inr (.inr (.inr ⟨3, by omega, by omega, rfl, by decide⟩)))).sI _ _ _ _ (.inr (.inr (.inr ⟨4, by omega, by omega, rfl, by decide⟩)))).sI _ _ _ _ (.inr (.inl (by omega)))).sI _ _ _ _ (.inr (.inl (by omega)))
  · rw [hn]
    exact ((((((Ag.rf m _ _).sI _ _ _ _ (by omega)).sI _ _ _ _ (by omega)).sI _ _ _ _ (by omega)).sI _ _ _ _ (by omega)).sI _ _ _ _ (by omega)).sI _ _ _ _ (by omega)
  · rw [hn, I_sI, if_neg (by omega), I_sI, if_neg (by omega), I_sI, if_neg (by omega), I_sI, if_neg (by omega), I_sI, if_pos ⟨rfl, rfl, rfl⟩]; rfl
  · rw [hn, I_sI, if_neg (by omega), I_sI, if_neg (by omega), I_sI, if_neg (by omega), I_sI, if_pos ⟨rfl, rfl, rfl⟩]; rfl
  · rw [hn, I_sI, if_neg (by omega), I_sI, if_neg (by omega), I_sI, if_pos ⟨rfl, rfl, rfl⟩]; rfl
  · rw [i1 _ _ _ (by omega) (by omega)]; exact r4
  · rw [i1 _ _ _ (by omega) (by omega)]; exact r5
  · rw [hn, I_sI, if_neg (by omega), I_sI, if_neg (by omega), I_sI, if_neg (by omega), I_sI, if_neg (by omega), I_sI, if_neg (by omega), I_sI, if_pos ⟨rfl, rfl, rfl⟩]; rfl
  · rw [hn, I_sI, if_neg (by omega), I_sI, if_pos ⟨rfl, rfl, rfl⟩]
  · rw [hn, I_sI, if_pos ⟨rfl, rfl, rfl⟩]
theorem tsz_z {d : Nat} (h1 : 6 ≤ d) (h2 : d < 28) : zsz d = 3 * tsz d := by
  unfold zsz tsz
  repeat' (split <;> try omega)
theorem ptw_d {y t q a i : Nat} (h : PTw y t q a i) : q = 22 ∧ ∃ d, 6 ≤ d ∧ d < 28 ∧ a = y + d ∧ tsz d * t ≤ i ∧ i < tsz d * t + tsz d := by
  have key : ∀ d, 6 ≤ d → d < 28 → a = y + d → tsz d * t ≤ i → i < tsz d * t + tsz d → ∃ d, 6 ≤ d ∧ d < 28 ∧ a = y + d ∧ tsz d * t ≤ i ∧ i < tsz d * t + tsz d := fun d h1 h2 h3 h4 h5 => ⟨d, h1, h2, h3, h4, h5⟩
  rcases h with ⟨a1, a2, a3, a4⟩ | ⟨a1, a2, a3, a4⟩ | ⟨a1, a2, a3, a4⟩
  · exact ⟨a1, key 6 (by omega) (by omega) a2 (by show 32 * t ≤ i; omega) (by show i < 32 * t + 32; omega)⟩
  · have e : tsz (a - y) = 12 := by unfold tsz; repeat' (split <;> try omega)
    exact ⟨a1, key (a - y) (by omega) (by omega) (by omega) (by rw [e]; omega) (by rw [e]; omega)⟩
  · have e : tsz (a - y) = 14 := by unfold tsz; repeat' (split <;> try omega)
    exact ⟨a1, key (a - y) (by omega) (by omega) (by omega) (by rw [e]; omega) (by rw [e]; omega)⟩
theorem ptw_g {n : MM} {t : Nat} (ht : t < 3) (o : Cw (PTw (x + 106) t) m n) : Gq x m n ∧ Ag m n (x + 1) (x + 81) ∧ At (x + 106) t m n := by
  refine ⟨⟨o.1, o.2.1, o.2.2.1, fun a ha s i => o.2.2.2.2 _ _ _ (ptw_no (by omega)), fun s a i _ _ _ => by rw [o.2.2.2.1], fun s a i _ => by rw [o.2.2.2.1], fun d d1 d2 s i hi => o.2.2.2.2 _ _ _ (fun q => ?_)⟩, fun a g1 g2 => ⟨by rw [o.1], by rw [o.2.1], fun s i => o.2.2.2.2 _ _ _ (ptw_no (by omega)), fun s i => by rw [o.2.2.2.1]⟩, fun d d1 d2 j hj => o.2.2.2.2 _ _ _ (fun q => ?_), fun j => o.2.2.2.2 _ _ _ (ptw_no (by omega))⟩
  · obtain ⟨_, d', h1, h2, h3, h4, h5⟩ := ptw_d q
    have : d = d' := by omega
    subst this
    rw [tsz_z h1 h2] at hi
    have : t = 0 ∨ t = 1 ∨ t = 2 := by omega
    rcases this with rfl | rfl | rfl <;> omega
  · obtain ⟨_, d', h1, h2, h3, h4, h5⟩ := ptw_d q
    have : d = d' := by omega
    subst this
    omega
theorem RW.put {n : MM} {y i nt : Nat} {T : TW} (h : RW m y 0 W) (hN : ∀ i, i < W.nt → NT (W.tn i)) (hA : At y i (m.sI 22 (y + 5) 0 (nI nt)) n) (hT : RT n y i T) (hj : ∀ j, j < nt → j ≠ i → j < W.nt) : RW n y 0 (ptW W i T nt) := by
  obtain ⟨h0, h1, h2, h3, h4, h5, h6, h7⟩ := h
  have z : ∀ d, 1 ≤ d → d < 38 → (d < 6 ∨ 28 ≤ d) → ∀ j, n.I 22 (y + d) j = (m.sI 22 (y + 5) 0 (nI nt)).I 22 (y + d) j := fun d d1 d2 d3 j => hA.1 d d1 d2 j (by rw [show tsz d = 0 from by unfold tsz; repeat' (split <;> try omega)]; omega)
  have z2 : ∀ d, 1 ≤ d → d < 38 → d ≠ 5 → ∀ j, (m.sI 22 (y + 5) 0 (nI nt)).I 22 (y + d) j = m.I 22 (y + d) j := fun d d1 d2 d3 j => by rw [I_sI, if_neg (by omega)]
  refine ⟨fun j hj => ?_, ?_, ?_, ?_, ?_, ?_, fun j hj2 => ?_, fun j hj2 => ?_⟩
  · rw [hA.2, I_sI, if_neg (by omega)]; exact h0 j hj
  · rw [z 2 (by omega) (by omega) (by omega), z2 2 (by omega) (by omega) (by omega)]; exact h1
  · rw [z 3 (by omega) (by omega) (by omega), z2 3 (by omega) (by omega) (by omega)]; exact h2
  · rw [z 4 (by omega) (by omega) (by omega), z2 4 (by omega) (by omega) (by omega)]; exact h3
  · rw [z 5 (by omega) (by omega) (by omega), I_sI, if_pos ⟨rfl, rfl, rfl⟩]; rfl
  · rw [z 28 (by omega) (by omega) (by omega), z2 28 (by omega) (by omega) (by omega)]; exact h5
  · show RT n y (3 * 0 + j) (if j = i then T else W.tn j)
    have hj3 : j < nt := hj2
    by_cases e : j = i
    · subst e; rw [if_pos rfl, Nat.mul_zero, Nat.zero_add]; exact hT
    · rw [if_neg e]
      have hjw := hj j hj3 e
      have r := h6 j hjw
      have r2 : RT (m.sI 22 (y + 5) 0 (nI nt)) y (3 * 0 + j) (W.tn j) := by
        obtain ⟨⟨a0, a1, a2, a3, a4, a5, a6, a7, a8, a9, a10, a11⟩, g0, g1, g2, g3, g4, g5⟩ := r
        have e6 : ∀ q, (m.sI 22 (y + 5) 0 (nI nt)).I 22 (y + 6) q = m.I 22 (y + 6) q := fun q => z2 6 (by omega) (by omega) (by omega) q
        exact ⟨⟨(e6 _).trans a0, (e6 _).trans a1, (e6 _).trans a2, (e6 _).trans a3, (e6 _).trans a4, (e6 _).trans a5, (e6 _).trans a6, (e6 _).trans a7, (e6 _).trans a8, (e6 _).trans a9, fun q hq => (e6 _).trans (a10 q hq), fun q hq => (e6 _).trans (a11 q hq)⟩, fun r hr c hc => (z2 (7 + c) (by omega) (by omega) (by omega) _).trans (g0 r hr c hc), fun r hr c hc => (z2 (15 + c) (by omega) (by omega) (by omega) _).trans (g1 r hr c hc), fun r hr c hc => (z2 (15 + c) (by omega) (by omega) (by omega) _).trans (g2 r hr c hc), fun r hr c hc => (z2 (20 + c) (by omega) (by omega) (by omega) _).trans (g3 r hr c hc), fun r hr c hc => (z2 (23 + c) (by omega) (by omega) (by omega) _).trans (g4 r hr c hc), fun r hr c hc => (z2 (26 + c) (by omega) (by omega) (by omega) _).trans (g5 r hr c hc)⟩
      exact r2.other hA (hN j hjw) (by omega)
  · obtain ⟨a0, a1, a2, a3, a4⟩ := h7 j hj2
    refine ⟨?_, ?_, ?_, ?_, fun r hr c hc => ?_⟩
    · rw [z 29 (by omega) (by omega) (by omega), z2 29 (by omega) (by omega) (by omega)]; exact a0
    · rw [z 30 (by omega) (by omega) (by omega), z2 30 (by omega) (by omega) (by omega)]; exact a1
    · rw [z 31 (by omega) (by omega) (by omega), z2 31 (by omega) (by omega) (by omega)]; exact a2
    · rw [z 32 (by omega) (by omega) (by omega), z2 32 (by omega) (by omega) (by omega)]; exact a3
    · rw [z (33 + c) (by omega) (by omega) (by omega), z2 (33 + c) (by omega) (by omega) (by omega)]; exact a4 r hr c hc
theorem RW.sT {y : Nat} (h : RW m y 0 W) : m.I 22 (y + 5) 0 = nI W.nt ∧ m.I 22 (y + 28) 0 = nI W.nl := ⟨h.2.2.2.2.1, h.2.2.2.2.2.1⟩
theorem r_town (h : RI m x W) (p : Int32) : ∃ m2, f_X10_town (x + 106) p m = some (tR W p, m2) ∧ Gq x m m2 ∧ Ag m m2 (x + 1) (x + 81) ∧ RW m2 (x + 106) 0 (tV W p) := by
  have g := h.code
  have fc := gq_code x m
  have ac := ag_code x m
  have hcn := h.nt
  unfold f_X10_town g_X10_town_0
  rw [chk_t h.M.1, bnd_e]
  generalize m.sI 1100 (x + 106) 0 0 = m0 at g fc ac ⊢
  obtain ⟨m1, e1, g1, a1, w1, B1, l1, l2⟩ := r_takeTape g
  have G1 := fc.tr g1
  have A1 := ac.tr a1
  have M1 := B1.1
  rw [e1, cal_s]
  have go : ∀ i, stN W.nt p = some i → ∃ m2, g_X10_town_38 (x + 106) p m1 = some (tR W p, m2) ∧ Gq x m m2 ∧ Ag m m2 (x + 1) (x + 81) ∧ RW m2 (x + 106) 0 (tV W p) := by
    intro i hs
    obtain ⟨hi3, hsi⟩ := stN_s hcn hs
    unfold tR tV
    rw [hs]
    unfold g_X10_town_38
    rw [chk_t M1.1]
    rcases r_readTown B1 l1 l2 with ⟨n, pl, b1, b2, b3, b4, b5⟩ | ⟨n, E, T, b1, b2, b3, b4, b5, b6⟩
    · rw [b1, b2, cal_s, if_pos rfl]
      exact ⟨n, rfl, G1.tr b3.g, A1.tr b3.ag, w1.rz b3 b4 b5⟩
    · rw [b1, b2, cal_s]
      dsimp only
      by_cases z : E = 0
      · subst z
        have W1 : RW n (x + 106) 0 (w0W W) := w1.rz b3 b4 b5
        have Mn : Md n (x + 106) := M1.kept b3.1 b3.2.1 (fun s => by rw [b3.2.2.2.1])
        obtain ⟨rn, nt⟩ := b6 rfl
        obtain ⟨vn, _⟩ := rdT_0 b2
        obtain ⟨k, hk⟩ : ∃ k, k = if p = -1 then W.nt + 1 else W.nt := ⟨_, rfl⟩
        obtain ⟨u, hu⟩ : ∃ u, u = n.sI 22 (x + 106 + 5) 0 (nI k) := ⟨_, rfl⟩
        have Mu : Md u (x + 106) := by rw [hu]; exact Mn
        have ru : RN u (x + 106) T := rn.of (fun d j h1 h2 => by rw [hu, I_sI, if_neg (by omega)])
        obtain ⟨u2, d1, d2, d3⟩ := cp_town Mu p hi3 ru nt vn
        obtain ⟨q1, q2, q3⟩ := ptw_g hi3 d2
        have Gu : Gq x n u := by rw [hu]; exact (Gq.rf x n).sI _ _ _ _ (.inr (.inr (.inr ⟨5, by omega, by omega, rfl, by decide⟩)))
        have Au : Ag n u (x + 1) (x + 81) := by rw [hu]; exact (Ag.rf n _ _).sI _ _ _ _ (by omega)
        have c5 : n.I 22 (x + 106 + 5) 0 = nI W.nt := W1.sT.1
        have fin : RW u2 (x + 106) 0 (ptW (w0W W) i T k) := by
          rw [hu] at q3
          refine RW.put W1 h.nn q3 d3 (fun j hj hne => ?_)
          rw [hk] at hj
          show j < W.nt
          rcases hsi with ⟨c1, c2, c3⟩ | ⟨c1, c2, c3⟩
          · rw [if_pos c1] at hj; omega
          · rw [if_neg c1] at hj; exact hj
        rw [show bI (decide (0 = 0)) = 1 from rfl, if_neg (by decide), if_pos rfl, if_pos rfl, ← hk]
        have st : (if p = -1 then chk (n.K (x + 106) = 11) (ck n (n.R 1105 (x + 106) 0) 22 (fun a42 => chk (inb 0 (n.N a42) = true) (g_X10_town_62 (x + 106) p (n.I 22 a42 (Int32.toNatClampNeg 0)) n))) else g_X10_town_62 (x + 106) p p n) = g_X10_town_62 (x + 106) p (nI i) n := by
          rcases hsi with ⟨c1, c2, c3⟩ | ⟨c1, c2, c3⟩
          · rw [if_pos c1, chk_t Mn.1, Mn.c1105, Mn.n1105, chk_t (show inb 0 4 = true by decide), show Int32.toNatClampNeg 0 = 0 from rfl, c5, c2]
          · rw [if_neg c1]
            conv => lhs; arg 3; rw [c3]
        rw [st]
        unfold g_X10_town_62 g_X10_town_80
        rw [chk_t Mn.1, Mn.c1105, Mn.n1105, chk_t (show inb 0 4 = true by decide), show Int32.toNatClampNeg 0 = 0 from rfl, c5]
        rcases hsi with ⟨c1, c2, c3⟩ | ⟨c1, c2, c3⟩
        · rw [if_pos c1] at hk
          rw [if_pos c1, Mn.c1105, Mn.n1105, chk_t (show inb 0 4 = true by decide), bnd_e, nI_1, ← hk, ← hu, d1]
          exact ⟨u2, rfl, ((G1.tr b3.g).tr Gu).tr q1, ((A1.tr b3.ag).tr Au).tr q2, fin⟩
        · rw [if_neg c1] at hk
          rw [if_neg c1, Mn.c1105, Mn.n1105, chk_t (show inb 0 4 = true by decide), bnd_e, Int32.add_zero, ← hk, ← hu, d1]
          exact ⟨u2, rfl, ((G1.tr b3.g).tr Gu).tr q1, ((A1.tr b3.ag).tr Au).tr q2, fin⟩
      · rw [decide_eq_false z, show bI false = 0 from rfl, if_pos rfl, if_neg z, if_neg z]
        refine ⟨n, rfl, G1.tr b3.g, A1.tr b3.ag, w1.rz b3 b4 ?_⟩
        rw [b5]
        exact if_neg z
  have c5 : m1.I 22 (x + 106 + 5) 0 = nI W.nt := w1.sT.1
  by_cases e : p = -1
  · rw [if_pos e, chk_t M1.1, M1.c1105, M1.n1105, chk_t (show inb 0 4 = true by decide), show Int32.toNatClampNeg 0 = 0 from rfl, c5]
    by_cases e3 : W.nt = 3
    · have hs : stN W.nt p = none := by unfold stN; rw [if_pos e, if_pos e3]
      rw [if_pos (by rw [e3]; rfl)]
      refine ⟨m1, ?_, G1, A1, ?_⟩
      · unfold tR; rw [hs]
      · unfold tV; rw [hs]; exact w1
    · rw [if_neg (nl (v := 3) (k := 3) rfl e3 (by omega) (by omega))]
      exact go W.nt (by unfold stN; rw [if_pos e, if_neg e3])
  · rw [if_neg e, chk_t M1.1, r_isTown M1 w1 (show (w0W W).nt ≤ 3 from hcn), cal_s]
    cases hq : isN W.nt p with
    | false =>
      have hs : stN W.nt p = none := by unfold stN; rw [if_neg e, hq, if_neg (by decide)]
      rw [show isN (w0W W).nt p = false from hq, if_pos (show bI false = 0 by rfl)]
      refine ⟨m1, ?_, G1, A1, ?_⟩
      · unfold tR; rw [hs]
      · unfold tV; rw [hs]; exact w1
    | true =>
      rw [show isN (w0W W).nt p = true from hq, if_neg (show ¬ bI true = 0 by decide)]
      exact go p.toNatClampNeg (by unfold stN; rw [if_neg e, if_pos hq])
theorem m_town (x : Nat) (p : Int32) : Mq x (f_X9_town x p) (f_X10_town (x + 106) p) := Mq_r (fun W => tR W p) (fun W => tV W p) (fun m W D h => c_town h p) (fun m W h => r_town h p)
end RTell
