/-! pairs, walls: the reference -/
section RPair
variable {X : Tx} {y : Nat} {m : MM} {p E n : Nat} {g : Int32}
theorem gg_0 {a b : Bool} : (cond b (cond a (1 : Int32) 0) 0 = 0) ↔ ¬ (a = true ∧ b = true) := by cases a <;> cases b <;> decide
theorem r_wind {T : TW} (h : RC X y m p E 0 1) (hT : RN m y T) (N : NT T) : LnR X y m (f_X10_pairLine y 1 0 m) (nmT X p 2) (eWind (vT X p) (sT X p) E) (Ct y (eWind (vT X p) (sT X p) E) (uWind T (vT X p))) := by
  unfold f_X10_pairLine g_X10_pairLine_0 g_X10_pairLine_27
  rw [if_neg (show ¬ (1 : Int32) = 0 by decide), ck_s h.k]
  refine r_num (q := p) (k := 0) (P := fun R => LnR X y m (cal R _) _ _ _) h (by omega) rfl (fun i hi => by omega) 0 7 _ rfl (fun u pl a1 a2 a3 => ?_) (fun u1 a1 a2 a3 a4 a5 => ?_)
  · rw [cal_s, if_pos rfl]; exact lr_f rfl (nmT_l a1 1) a2.rm a3
  unfold g_X10_pairLine_42 g_X10_pairLine_47 g_X10_pairLine_58
  rw [cal_s, if_neg (by decide), if_neg (show ¬ (1 : Int32) = 0 by decide), if_neg (show ¬ (1 : Int32) = 0 by decide), ck_s a3.k]
  refine r_num (P := fun R => LnR X y m (cal R _) _ _ _) a3 (by omega) a1 a4 0 7 _ rfl (fun u pl b1 b2 b3 => ?_) (fun u2 b1 b2 b3 b4 b5 => ?_)
  · rw [cal_s, if_pos rfl]; exact lr_f rfl b1 (a2.tr b2).rm b3
  have O := a2.tr b2
  have T2 := hT.nq O
  have M := b3.md
  unfold g_X10_pairLine_103 g_X10_pairLine_125
  rw [cal_s, if_neg (by decide), chk_t b3.k, b3.2.2.2.2.1]
  by_cases gz : cond (inR (nI (vT X p 1)) 0 7) (cond (inR (nI (vT X p 0)) 0 7) (1 : Int32) 0) 0 = 0
  · rw [if_pos gz, chk_t b3.k, if_pos gz]
    refine .inr ⟨u2, _, _, _, rfl, b1, O.rm, b3, T, T2, N, fun z0 => ?_⟩
    obtain ⟨z1, z2⟩ := e2T_0 z0
    exact absurd ⟨(e2T_0 z1).2, z2⟩ (gg_0.mp gz)
  · have gt : inR (nI (vT X p 0)) 0 7 = true ∧ inR (nI (vT X p 1)) 0 7 = true := Classical.byContradiction (fun q => gz (gg_0.mpr q))
    have w0 : vT X p 0 ≤ 7 := inR_lt (n := 7) a5 rfl gt.1 (by omega)
    have ei : (10 : Int32) + nI (vT X p 0) = nI (10 + vT X p 0) := nI_add 10 _
    rw [if_neg gz, if_pos rfl, chk_t b3.k, if_neg gz, if_neg (show ¬ (1 : Int32) = 0 by decide), chk_t b3.k, M.c1147, M.n1147, chk_t (show inb 0 6 = true by decide), chk_t (show inb 1 6 = true by decide), show Int32.toNatClampNeg 0 = 0 from rfl, show Int32.toNatClampNeg 1 = 1 from rfl, b4 0 (by omega), b4 1 (by omega), M.c1150, M.n1150, ei, chk_t (inb_nI (show 10 + vT X p 0 < 32 by omega) (by decide)), bnd_e, cl_nI (by omega)]
    have o3 : Wr y 39 0 32 u2 (u2.sI 22 (y + 39) (10 + vT X p 0) (nI (vT X p 1))) := (Wr.rf _ _ _ _ u2).sI _ _ (by omega) (by omega)
    exact .inr ⟨_, _, _, _, rfl, b1, O.rm.tr (o3.rm (by omega) (by omega)), b3.wr o3 (by omega), uWind T (vT X p), T2.set rfl (by omega), N, fun _ => rfl⟩
theorem r_grow {T : TW} (h : RC X y m p E 0 1) (hT : RN m y T) (N : NT T) : LnR X y m (f_X10_pairLine y 0 0 m) (nmT X p 2) (eGrow (vT X p) (sT X p) E) (Ct y (eGrow (vT X p) (sT X p) E) (uGrow T (vT X p))) := by
  unfold f_X10_pairLine g_X10_pairLine_0 g_X10_pairLine_27
  rw [if_pos rfl, if_pos rfl, ck_s h.k]
  refine r_num (q := p) (k := 0) (P := fun R => LnR X y m (cal R _) _ _ _) h (by omega) rfl (fun i hi => by omega) 0 5 _ rfl (fun u pl a1 a2 a3 => ?_) (fun u1 a1 a2 a3 a4 a5 => ?_)
  · rw [cal_s, if_pos rfl]; exact lr_f rfl (nmT_l a1 1) a2.rm a3
  unfold g_X10_pairLine_47 g_X10_pairLine_58
  rw [cal_s, if_neg (by decide), if_pos rfl, if_pos rfl, if_pos rfl, ck_s a3.k]
  refine r_num (P := fun R => LnR X y m (cal R _) _ _ _) a3 (by omega) a1 a4 1 99 _ rfl (fun u pl b1 b2 b3 => ?_) (fun u2 b1 b2 b3 b4 b5 => ?_)
  · rw [cal_s, if_pos rfl]; exact lr_f rfl b1 (a2.tr b2).rm b3
  have O := a2.tr b2
  have T2 := hT.nq O
  have M := b3.md
  unfold g_X10_pairLine_103 g_X10_pairLine_125
  rw [cal_s, if_neg (by decide), chk_t b3.k, b3.2.2.2.2.1]
  by_cases gz : cond (inR (nI (vT X p 1)) 1 99) (cond (inR (nI (vT X p 0)) 0 5) (1 : Int32) 0) 0 = 0
  · rw [if_pos gz, chk_t b3.k, if_pos gz]
    refine .inr ⟨u2, _, _, _, rfl, b1, O.rm, b3, T, T2, N, fun z0 => ?_⟩
    obtain ⟨z1, z2⟩ := e2T_0 z0
    exact absurd ⟨(e2T_0 z1).2, z2⟩ (gg_0.mp gz)
  · have gt : inR (nI (vT X p 0)) 0 5 = true ∧ inR (nI (vT X p 1)) 1 99 = true := Classical.byContradiction (fun q => gz (gg_0.mpr q))
    have w0 : vT X p 0 ≤ 5 := inR_lt (n := 5) a5 rfl gt.1 (by omega)
    have ei : (18 : Int32) + nI (vT X p 0) = nI (18 + vT X p 0) := nI_add 18 _
    rw [if_neg gz, if_pos rfl, chk_t b3.k, if_neg gz, if_pos rfl, chk_t b3.k, M.c1147, M.n1147, chk_t (show inb 0 6 = true by decide), chk_t (show inb 1 6 = true by decide), show Int32.toNatClampNeg 0 = 0 from rfl, show Int32.toNatClampNeg 1 = 1 from rfl, b4 0 (by omega), b4 1 (by omega), M.c1150, M.n1150, ei, chk_t (inb_nI (show 18 + vT X p 0 < 32 by omega) (by decide)), bnd_e, cl_nI (by omega)]
    have o3 : Wr y 39 0 32 u2 (u2.sI 22 (y + 39) (18 + vT X p 0) (nI (vT X p 1))) := (Wr.rf _ _ _ _ u2).sI _ _ (by omega) (by omega)
    exact .inr ⟨_, _, _, _, rfl, b1, O.rm.tr (o3.rm (by omega) (by omega)), b3.wr o3 (by omega), uGrow T (vT X p), T2.set rfl (by omega), N, fun _ => rfl⟩
theorem r_cost {T : TW} (h : RC X y m p E 0 1) (hT : RN m y T) (N : NT T) : LnR X y m (f_X10_pairLine y 0 1 m) (nmT X p 2) (eCost T (vT X p) (sT X p) E) (Ct y (eCost T (vT X p) (sT X p) E) (uCost T (vT X p))) := by
  have hN := N.le0
  have M0 := h.md
  unfold f_X10_pairLine g_X10_pairLine_0 g_X10_pairLine_27
  rw [if_pos rfl, if_neg (show ¬ (1 : Int32) = 0 by decide), chk_t h.k, M0.c1150, M0.n1150, chk_t (show inb 2 32 = true by decide), show Int32.toNatClampNeg 2 = 2 from rfl, hT.1.2.2.1, ck_s h.k]
  refine r_num (q := p) (k := 0) (P := fun R => LnR X y m (cal R _) _ _ _) h (by omega) rfl (fun i hi => by omega) 0 (nI (T.2.1 0) - 1) _ rfl (fun u pl a1 a2 a3 => ?_) (fun u1 a1 a2 a3 a4 a5 => ?_)
  · rw [cal_s, if_pos rfl]; exact lr_f rfl (nmT_l a1 1) a2.rm a3
  unfold g_X10_pairLine_42 g_X10_pairLine_47 g_X10_pairLine_58
  rw [cal_s, if_neg (by decide), if_pos rfl, if_neg (show ¬ (1 : Int32) = 0 by decide), if_pos rfl, ck_s a3.k]
  refine r_num (P := fun R => LnR X y m (cal R _) _ _ _) a3 (by omega) a1 a4 0 99 _ rfl (fun u pl b1 b2 b3 => ?_) (fun u2 b1 b2 b3 b4 b5 => ?_)
  · rw [cal_s, if_pos rfl]; exact lr_f rfl b1 (a2.tr b2).rm b3
  have O := a2.tr b2
  have T2 := hT.nq O
  have M := b3.md
  unfold g_X10_pairLine_103
  rw [cal_s, if_neg (by decide), chk_t b3.k, b3.2.2.2.2.1]
  by_cases gz : cond (inR (nI (vT X p 1)) 0 99) (cond (inR (nI (vT X p 0)) 0 (nI (T.2.1 0) - 1)) (1 : Int32) 0) 0 = 0
  · rw [if_pos gz, chk_t b3.k, if_pos gz]
    refine .inr ⟨u2, _, _, _, rfl, b1, O.rm, b3, T, T2, N, fun z0 => ?_⟩
    obtain ⟨z1, z2⟩ := e2T_0 z0
    exact absurd ⟨(e2T_0 z1).2, z2⟩ (gg_0.mp gz)
  · have gt : inR (nI (vT X p 0)) 0 (nI (T.2.1 0) - 1) = true ∧ inR (nI (vT X p 1)) 0 99 = true := Classical.byContradiction (fun q => gz (gg_0.mpr q))
    have w0 : vT X p 0 < T.2.1 0 := inR_ltn a5 (by omega) gt.1
    have ei : (7 : Int32) * nI (vT X p 0) + 6 = nI (7 * vT X p 0 + 6) := by
      show nI 7 * nI (vT X p 0) + nI 6 = _
      rw [pk_mul, nI_add]
    rw [if_neg gz, if_neg (show ¬ (1 : Int32) = 0 by decide), M.c1147, M.n1147, chk_t (show inb 0 6 = true by decide), chk_t (show inb 1 6 = true by decide), show Int32.toNatClampNeg 0 = 0 from rfl, show Int32.toNatClampNeg 1 = 1 from rfl, b4 0 (by omega), b4 1 (by omega), M.c1151, M.n1151, ei, chk_t (inb_nI (show 7 * vT X p 0 + 6 < 91 by omega) (by decide)), bnd_e, cl_nI (by omega)]
    have o3 : Wr y 40 0 91 u2 (u2.sI 22 (y + 40) (7 * vT X p 0 + 6) (nI (vT X p 1))) := (Wr.rf _ _ _ _ u2).sI _ _ (by omega) (by omega)
    refine .inr ⟨_, _, _, _, rfl, b1, O.rm.tr (o3.rm (by omega) (by omega)), b3.wr o3 (by omega), uCost T (vT X p), ?_, N, fun _ => rfl⟩
    refine T2.tab0 (fun i hi => by rw [I_sI, if_neg (by omega)]) (by rw [I_sI, if_neg (by omega)]; exact T2.1.2.2.1) (fun d i h1 h2 h3 => by rw [I_sI, if_neg (by omega)]) (fun r hr c hc => ?_)
    rw [I_sI]
    by_cases q : r = vT X p 0 ∧ c = 6
    · rw [if_pos q, if_pos ⟨rfl, rfl, by rw [q.1, q.2]⟩]
    · rw [if_neg q, if_neg (fun u => q (by have := u.2.2; omega))]
      exact T2.2.1 r hr c hc
theorem en_Wall {T : TW} (p1 : Int32) (h : RC X y m p E n g) (hT : RN m y T) (N : NT T) (v : Nat → Nat) (hv : ∀ c, c < 5 → m.I 22 (y + 38) c = nI (v c)) : ∃ u T', g_X10_wallLine_150 y p1 0 3 8 m = some (1, u) ∧ Rm y m u ∧ RC X y u p E n g ∧ RN u y T' ∧ NT T' ∧ (T.2.1 1 ≠ 8 → T' = addR T 1 (fun c => nI (v c))) := by
  have hz : T.2.1 1 ≤ 8 := N.le0.2.1
  have M := h.md
  have hi : m.I 22 (y + 39) 3 = nI (T.2.1 1) := hT.1.2.2.2.1
  obtain ⟨z, hz14, ez⟩ : ∃ z, z ≤ 14 ∧ z = if T.2.1 1 = 8 then 14 else T.2.1 1 := ⟨_, by split <;> omega, rfl⟩
  have st : g_X10_wallLine_150 y p1 0 3 8 m = g_X10_wallLine_183 y p1 0 3 8 (nI z) m := by
    unfold g_X10_wallLine_150 g_X10_wallLine_171
    rw [chk_t h.k, M.c1150, M.n1150, chk_t (show inb 3 32 = true by decide), show Int32.toNatClampNeg 3 = 3 from rfl, hi]
    by_cases q : T.2.1 1 = 8
    · rw [if_pos q] at ez
      rw [if_pos (show (8 : Int32) ≤ nI (T.2.1 1) by rw [q]; decide), ez]
      rfl
    · rw [if_neg q] at ez
      rw [if_neg (show ¬ (8 : Int32) ≤ nI (T.2.1 1) from nI_ge (b := 8) (by omega) (by decide)), if_pos rfl, chk_t h.k, M.c1150, M.n1150, chk_t (show inb 3 32 = true by decide), hi, show (0 : Int32) + nI (T.2.1 1) = nI z from by rw [ez]; show nI 0 + nI (T.2.1 1) = _; rw [nI_add, Nat.zero_add]]
  rw [st]
  unfold g_X10_wallLine_183
  obtain ⟨u, e1, o1, v1⟩ := cp_wallLine p1 0 3 8 (g_X10_wallLine_219 y p1 0) h hz14
  rw [e1]
  have c1 := h.wr o1 (by omega)
  have M1 := c1.md
  have e9 : ∀ i, u.I 22 (y + 39) i = m.I 22 (y + 39) i := fun i => o1.2.2.2.2.2 _ _ _ (by omega)
  have hi1 : u.I 22 (y + 39) 3 = nI (T.2.1 1) := (e9 _).trans hi
  have r4 : u.I 22 (y + 38) 4 = nI (v 4) := (o1.2.2.2.2.2 _ _ _ (by omega)).trans (hv 4 (by omega))
  have ea : (5 : Int32) * nI z + 4 = nI (5 * z + 4) := by
    show nI 5 * nI z + nI 4 = _
    rw [pk_mul, nI_add]
  unfold g_X10_wallLine_219 g_X10_wallLine_243
  rw [chk_t c1.k, if_pos rfl, M1.c1147, M1.n1147, chk_t (show inb 4 6 = true by decide), show Int32.toNatClampNeg 4 = 4 from rfl, r4, ea, M1.c1152, M1.n1152, chk_t (inb_nI (show 5 * z + 4 < 75 by omega) (by decide)), bnd_e, cl_nI (show 5 * z + 4 < 2 ^ 31 by omega)]
  obtain ⟨u2, hu2⟩ : ∃ q, q = u.sI 22 (y + 41) (5 * z + 4) (nI (v 4)) := ⟨_, rfl⟩
  rw [← hu2]
  have o2 : Wr y 41 (5 * z) 5 m u2 := by rw [hu2]; exact (o1.up (by omega) (by omega)).sI _ _ (by omega) (by omega)
  have c2 := h.wr o2 (by omega)
  have M2 := c2.md
  have f9 : ∀ i, u2.I 22 (y + 39) i = m.I 22 (y + 39) i := fun i => o2.2.2.2.2.2 _ _ _ (by omega)
  have hi2 : u2.I 22 (y + 39) 3 = nI (T.2.1 1) := (f9 _).trans hi
  have v2 : ∀ c, c < 5 → u2.I 22 (y + 41) (5 * z + c) = nI (v c) := fun c hc => by
    rw [hu2, I_sI]
    by_cases q : c = 4
    · rw [if_pos ⟨rfl, rfl, by rw [q]⟩, q]
    · rw [if_neg (by omega), v1 c (by omega)]; exact hv c hc
  rw [chk_t c2.k, M2.c1150, M2.n1150, chk_t (show inb 3 32 = true by decide), chk_t (show inb 3 32 = true by decide), show Int32.toNatClampNeg 3 = 3 from rfl, hi2]
  by_cases q : T.2.1 1 = 8
  · rw [if_pos q] at ez
    rw [if_pos (show (8 : Int32) ≤ nI (T.2.1 1) by rw [q]; decide), chk_t (show inb 3 32 = true by decide), bnd_e]
    have o3 : Wr y 39 3 1 u2 (u2.sI 22 (y + 39) 3 (nI (T.2.1 1) + 0)) := (Wr.rf _ _ _ _ u2).sI _ _ (by omega) (by omega)
    refine ⟨_, T, rfl, (o2.rm (by omega) (by omega)).tr (o3.rm (by omega) (by omega)), c2.wr o3 (by omega), ?_, N, fun u => absurd q u⟩
    refine RN.idt (j := 1) (hT.tab1 (fun i hi3 => ?_) ?_ (fun d i h1 h2 h3 => ?_) (fun r hr c hc => ?_) (fun i h1 h2 => ?_) N.le0.2.2.1)
    · rw [I_sI, if_neg (by omega)]; exact f9 i
    · rw [I_sI, if_pos ⟨rfl, rfl, rfl⟩, Int32.add_zero]
    · rw [I_sI, if_neg (by omega)]; exact o2.2.2.2.2.2 _ _ _ (by omega)
    · rw [I_sI, if_neg (by omega), o2.2.2.2.2.2 _ _ _ (by omega)]
      exact hT.2.2.1 r hr c hc
    · rw [I_sI, if_neg (by omega), o2.2.2.2.2.2 _ _ _ (by omega)]
  · rw [if_neg q] at ez
    rw [if_neg (show ¬ (8 : Int32) ≤ nI (T.2.1 1) from nI_ge (b := 8) (by omega) (by decide)), chk_t (show inb 3 32 = true by decide), bnd_e, nI_1]
    have o3 : Wr y 39 3 1 u2 (u2.sI 22 (y + 39) 3 (nI (T.2.1 1 + 1))) := (Wr.rf _ _ _ _ u2).sI _ _ (by omega) (by omega)
    refine ⟨_, addR T 1 (fun c => nI (v c)), rfl, (o2.rm (by omega) (by omega)).tr (o3.rm (by omega) (by omega)), c2.wr o3 (by omega), ?_, ⟨N.1, (show T.2.1 1 + 1 ≤ 8 by omega), N.2.2.1, N.2.2.2.1, N.2.2.2.2.1, N.2.2.2.2.2⟩, fun _ => rfl⟩
    unfold addR
    refine hT.tab1 (fun i hi3 => ?_) ?_ (fun d i h1 h2 h3 => ?_) (fun r hr c hc => ?_) (fun i h1 h2 => ?_) N.le0.2.2.1
    · rw [I_sI, if_neg (by omega)]; exact f9 i
    · rw [I_sI, if_pos ⟨rfl, rfl, rfl⟩]
    · rw [I_sI, if_neg (by omega)]; exact o2.2.2.2.2.2 _ _ _ (by omega)
    · rw [I_sI, if_neg (by omega)]
      by_cases s : r = T.2.1 1
      · rw [if_pos s]
        have := v2 c hc
        rw [ez, ← s] at this
        exact this
      · rw [if_neg s, o2.2.2.2.2.2 _ _ _ (by omega)]
        exact hT.2.2.1 r (by omega) c hc
    · rw [I_sI, if_neg (by omega), o2.2.2.2.2.2 _ _ _ (by omega)]
theorem en_Fence {T : TW} (p1 : Int32) (h : RC X y m p E n g) (hT : RN m y T) (N : NT T) (v : Nat → Nat) (hv : ∀ c, c < 4 → m.I 22 (y + 38) c = nI (v c)) : ∃ u T', g_X10_wallLine_150 y p1 1 4 6 m = some (1, u) ∧ Rm y m u ∧ RC X y u p E n g ∧ RN u y T' ∧ NT T' ∧ (T.2.1 2 ≠ 6 → T' = addR T 2 (fun c => nI (v c))) := by
  have hz : T.2.1 2 ≤ 6 := N.le0.2.2.1
  have M := h.md
  have hi : m.I 22 (y + 39) 4 = nI (T.2.1 2) := hT.1.2.2.2.2.1
  obtain ⟨z, hz14, ez⟩ : ∃ z, z ≤ 14 ∧ z = if T.2.1 2 = 6 then 14 else (8 + T.2.1 2) := ⟨_, by split <;> omega, rfl⟩
  have st : g_X10_wallLine_150 y p1 1 4 6 m = g_X10_wallLine_183 y p1 1 4 6 (nI z) m := by
    unfold g_X10_wallLine_150 g_X10_wallLine_171
    rw [chk_t h.k, M.c1150, M.n1150, chk_t (show inb 4 32 = true by decide), show Int32.toNatClampNeg 4 = 4 from rfl, hi]
    by_cases q : T.2.1 2 = 6
    · rw [if_pos q] at ez
      rw [if_pos (show (6 : Int32) ≤ nI (T.2.1 2) by rw [q]; decide), ez]
      rfl
    · rw [if_neg q] at ez
      rw [if_neg (show ¬ (6 : Int32) ≤ nI (T.2.1 2) from nI_ge (b := 6) (by omega) (by decide)), if_neg (show ¬ (1 : Int32) = 0 by decide), chk_t h.k, M.c1150, M.n1150, chk_t (show inb 4 32 = true by decide), hi, show (8 : Int32) + nI (T.2.1 2) = nI z from by rw [ez]; exact nI_add 8 _]
  rw [st]
  unfold g_X10_wallLine_183
  obtain ⟨u, e1, o1, v1⟩ := cp_wallLine p1 1 4 6 (g_X10_wallLine_219 y p1 1) h hz14
  rw [e1]
  have c1 := h.wr o1 (by omega)
  have M1 := c1.md
  have e9 : ∀ i, u.I 22 (y + 39) i = m.I 22 (y + 39) i := fun i => o1.2.2.2.2.2 _ _ _ (by omega)
  have hi1 : u.I 22 (y + 39) 4 = nI (T.2.1 2) := (e9 _).trans hi
  skip
  have ea : (5 : Int32) * nI z + 4 = nI (5 * z + 4) := by
    show nI 5 * nI z + nI 4 = _
    rw [pk_mul, nI_add]
  unfold g_X10_wallLine_219 g_X10_wallLine_243
  rw [chk_t c1.k, if_neg (show ¬ (1 : Int32) = 0 by decide), ea, M1.c1152, M1.n1152, chk_t (inb_nI (show 5 * z + 4 < 75 by omega) (by decide)), bnd_e, cl_nI (show 5 * z + 4 < 2 ^ 31 by omega)]
  obtain ⟨u2, hu2⟩ : ∃ q, q = u.sI 22 (y + 41) (5 * z + 4) (0) := ⟨_, rfl⟩
  rw [← hu2]
  have o2 : Wr y 41 (5 * z) 5 m u2 := by rw [hu2]; exact (o1.up (by omega) (by omega)).sI _ _ (by omega) (by omega)
  have c2 := h.wr o2 (by omega)
  have M2 := c2.md
  have f9 : ∀ i, u2.I 22 (y + 39) i = m.I 22 (y + 39) i := fun i => o2.2.2.2.2.2 _ _ _ (by omega)
  have hi2 : u2.I 22 (y + 39) 4 = nI (T.2.1 2) := (f9 _).trans hi
  have v2 : ∀ c, c < 4 → u2.I 22 (y + 41) (5 * z + c) = nI (v c) := fun c hc => by
    rw [hu2, I_sI]
    by_cases q : c = 4
    · omega
    · rw [if_neg (by omega), v1 c (by omega)]; exact hv c hc
  rw [chk_t c2.k, M2.c1150, M2.n1150, chk_t (show inb 4 32 = true by decide), chk_t (show inb 4 32 = true by decide), show Int32.toNatClampNeg 4 = 4 from rfl, hi2]
  by_cases q : T.2.1 2 = 6
  · rw [if_pos q] at ez
    rw [if_pos (show (6 : Int32) ≤ nI (T.2.1 2) by rw [q]; decide), chk_t (show inb 4 32 = true by decide), bnd_e]
    have o3 : Wr y 39 4 1 u2 (u2.sI 22 (y + 39) 4 (nI (T.2.1 2) + 0)) := (Wr.rf _ _ _ _ u2).sI _ _ (by omega) (by omega)
    refine ⟨_, T, rfl, (o2.rm (by omega) (by omega)).tr (o3.rm (by omega) (by omega)), c2.wr o3 (by omega), ?_, N, fun u => absurd q u⟩
    refine RN.idt (j := 2) (hT.tab2 (fun i hi3 => ?_) ?_ (fun d i h1 h2 h3 => ?_) (fun r hr c hc => ?_) (fun i h1 => ?_) N.le0.2.1)
    · rw [I_sI, if_neg (by omega)]; exact f9 i
    · rw [I_sI, if_pos ⟨rfl, rfl, rfl⟩, Int32.add_zero]
    · rw [I_sI, if_neg (by omega)]; exact o2.2.2.2.2.2 _ _ _ (by omega)
    · rw [I_sI, if_neg (by omega), o2.2.2.2.2.2 _ _ _ (by omega)]
      exact hT.2.2.2.1 r hr c hc
    · rw [I_sI, if_neg (by omega), o2.2.2.2.2.2 _ _ _ (by omega)]
  · rw [if_neg q] at ez
    rw [if_neg (show ¬ (6 : Int32) ≤ nI (T.2.1 2) from nI_ge (b := 6) (by omega) (by decide)), chk_t (show inb 4 32 = true by decide), bnd_e, nI_1]
    have o3 : Wr y 39 4 1 u2 (u2.sI 22 (y + 39) 4 (nI (T.2.1 2 + 1))) := (Wr.rf _ _ _ _ u2).sI _ _ (by omega) (by omega)
    refine ⟨_, addR T 2 (fun c => nI (v c)), rfl, (o2.rm (by omega) (by omega)).tr (o3.rm (by omega) (by omega)), c2.wr o3 (by omega), ?_, ⟨N.1, N.2.1, (show T.2.1 2 + 1 ≤ 6 by omega), N.2.2.2.1, N.2.2.2.2.1, N.2.2.2.2.2⟩, fun _ => rfl⟩
    unfold addR
    refine hT.tab2 (fun i hi3 => ?_) ?_ (fun d i h1 h2 h3 => ?_) (fun r hr c hc => ?_) (fun i h1 => ?_) N.le0.2.1
    · rw [I_sI, if_neg (by omega)]; exact f9 i
    · rw [I_sI, if_pos ⟨rfl, rfl, rfl⟩]
    · rw [I_sI, if_neg (by omega)]; exact o2.2.2.2.2.2 _ _ _ (by omega)
    · rw [I_sI, if_neg (by omega)]
      by_cases s : r = T.2.1 2
      · rw [if_pos s]
        have := v2 c hc
        rw [ez, ← s] at this
        exact this
      · rw [if_neg s, o2.2.2.2.2.2 _ _ _ (by omega)]
        exact hT.2.2.2.1 r (by omega) c hc
    · rw [I_sI, if_neg (by omega), o2.2.2.2.2.2 _ _ _ (by omega)]
/-- the points of a wall or a fence -/
theorem r_w40 {T : TW} (p1 p2 x3 x4 : Int32) (h : RC X y m p E 0 1) (hT : RN m y T) {o : Nat ⊕ Nat} {e : Nat} {C : MM → Prop} (hf : ∀ pl, nmT X p 4 = .inl pl → o = .inl pl) (hs : ∀ u gg, Nq y m u → nmT X p 4 = .inr (itN X p 4) → RC X y u (itN X p 4) (ePts T (vT X p) (sT X p) E) 4 gg → NR X y u p 4 → LnR X y m (g_X10_wallLine_133 y p1 p2 x3 x4 u) o e C) : LnR X y m (g_X10_wallLine_40 y p1 p2 x3 x4 m) o e C := by
  have l5 := h.l5
  have hp := h.2.2.2.2.2
  unfold g_X10_wallLine_40
  rw [chk_t h.k]
  refine r_pt (q := p) (k := 0) (P := fun R => LnR X y m (cal R _) _ _ _) h (by omega) rfl (fun i hi => by omega) hT _ rfl (fun u pl a1 a2 a3 => ?_) (fun u1 a1 a2 a3 a4 => ?_)
  · rw [cal_s, if_pos rfl]; exact lr_f rfl (hf pl (nmT_l a1 2)) a2.rm a3
  have T1 := hT.nq a2
  have M1 := a3.md
  rw [cal_s, if_neg (by decide), chk_t a3.k, M1.c1150, M1.n1150, chk_t (show inb 0 32 = true by decide), show Int32.toNatClampNeg 0 = 0 from rfl, T1.1.1]
  refine r_num (P := fun R => LnR X y m (cal R _) _ _ _) a3 (by omega) a1 a4 0 (T.1 0 - 1) _ rfl (fun u pl b1 b2 b3 => ?_) (fun u2 b1 b2 b3 b4 b5 => ?_)
  · rw [cal_s, if_pos rfl]; exact lr_f rfl (hf pl (nmT_l b1 1)) (a2.tr b2).rm b3
  have T2 := T1.nq b2
  have M2 := b3.md
  have y1 : u2.I 1140 y 0 = nI (sT X p 3) := b3.2.1.2.1
  rw [cal_s, if_neg (by decide), chk_t b3.k, bnd_e, y1, M2.c1150, M2.n1150, chk_t (show inb 1 32 = true by decide), show Int32.toNatClampNeg 1 = 1 from rfl, T2.1.2.1]
  refine r_num (P := fun R => LnR X y m (cal R _) _ _ _) b3 (by omega) b1 b4 0 (T.1 1 - 1) _ rfl (fun u pl d1 d2 d3 => ?_) (fun u3 d1 d2 d3 d4 d5 => ?_)
  · rw [cal_s, if_pos rfl]; exact lr_f rfl (hf pl d1) ((a2.tr b2).tr d2).rm d3
  have O := (a2.tr b2).tr d2
  have M3 := d3.md
  rw [cal_s, if_neg (by decide), chk_t d3.k, d3.2.2.2.2.1]
  have hs3 : sT X p 3 ≤ 500 := (sT_le hp l5 3).2
  have m0 : sT X p 0 ≤ sT X p 3 := sT_mono p 3 0
  have m1 : sT X p 1 ≤ sT X p 3 := sT_mono p 2 1
  have m2 : sT X p 2 ≤ sT X p 3 := sT_mono p 1 2
  unfold ePts at hs
  by_cases gz : cond (inR (nI (vT X p 3)) 0 (T.1 1 - 1)) (cond (inR (nI (vT X p 2)) 0 (T.1 0 - 1)) (cond (inR (nI (vT X p 1)) 0 (T.1 1 - 1)) (cond (inR (nI (vT X p 0)) 0 (T.1 0 - 1)) (1 : Int32) 0) 0) 0) 0 = 0
  · have hb : Bd (e2T (e2T (e2T (e2T E (vT X p 0) 0 (T.1 0 - 1) (sT X p 0)) (vT X p 1) 0 (T.1 1 - 1) (sT X p 1)) (vT X p 2) 0 (T.1 0 - 1) (sT X p 2)) (vT X p 3) 0 (T.1 1 - 1) (sT X p 3)) (8 * sT X p 3 + 2) := by
      cases h3 : inR (nI (vT X p 3)) 0 (T.1 1 - 1) with
      | false => exact Bd.e2on h3
      | true =>
        cases h2 : inR (nI (vT X p 2)) 0 (T.1 0 - 1) with
        | false => exact (Bd.e2 (Bd.e2on h2)).up (by omega)
        | true =>
          cases h1 : inR (nI (vT X p 1)) 0 (T.1 1 - 1) with
          | false => exact (Bd.e2 (Bd.e2 (Bd.e2on h1))).up (by omega)
          | true =>
            cases h0 : inR (nI (vT X p 0)) 0 (T.1 0 - 1) with
            | false => exact (Bd.e2 (Bd.e2 (Bd.e2 (Bd.e2on h0)))).up (by omega)
            | true => rw [h3, h2, h1, h0] at gz; exact absurd gz (by decide)
    rw [hb.keep] at hs
    rw [if_pos gz]
    exact hs u3 _ O d1 d3 d4
  · rw [if_neg gz, M3.c1147, M3.n1147, chk_t (show inb 0 6 = true by decide), chk_t (show inb 2 6 = true by decide), show Int32.toNatClampNeg 2 = 2 from rfl, d4 0 (by omega), d4 2 (by omega)]
    by_cases c1 : nI (vT X p 0) = nI (vT X p 2)
    · rw [if_pos c1, chk_t (show inb 1 6 = true by decide), chk_t (show inb 3 6 = true by decide), show Int32.toNatClampNeg 3 = 3 from rfl, d4 1 (by omega), d4 3 (by omega)]
      rw [decide_eq_true c1, Bool.true_and] at hs
      obtain ⟨u4, e4, o4, c4⟩ := r_note d3 (k := 2) (z := nI (sT X p 3)) (f := 2) rfl rfl (by omega) (by omega) hs3 (c := nI (vT X p 1) = nI (vT X p 3)) (b := decide (nI (vT X p 1) = nI (vT X p 3))) (by rw [decide_eq_true_iff]) (g_X10_wallLine_133 y p1 p2 x3 x4)
      rw [e4]
      exact hs u4 _ (O.tr (o4.nq (by omega) (by omega))) d1 c4 (d4.nq (fun j => o4.2.2.2.2.1 _ _ _ (by omega)))
    · rw [if_neg c1]
      rw [decide_eq_false c1, Bool.false_and] at hs
      exact hs u3 _ O d1 d3 d4
theorem r_wall {T : TW} (h : RC X y m p E 0 1) (hT : RN m y T) (N : NT T) {z : Int32} {hd : Nat} (hz : z = nI hd) (hh : hd ≤ 500) : LnR X y m (f_X10_wallLine y z 0 m) (nmT X p 5) (eWall T hd (vT X p) (sT X p) E) (Ct y (eWall T hd (vT X p) (sT X p) E) (addR T 1 (fun c => nI (vT X p c)))) := by
  unfold f_X10_wallLine g_X10_wallLine_0 g_X10_wallLine_9 g_X10_wallLine_21
  have M := h.md
  have hN := N.le0
  rw [if_pos rfl, if_pos rfl, chk_t h.k, M.c1150, M.n1150, chk_t (show inb 3 32 = true by decide), show Int32.toNatClampNeg 3 = 3 from rfl, hT.1.2.2.2.1]
  obtain ⟨u0, e0, o0, c0⟩ := r_note h (k := 3) (f := 3) rfl hz (by omega) (by omega) hh (nIk (a := T.2.1 1) (k := 8) (v := 8) rfl (by omega) (by omega)) (g_X10_wallLine_40 y z 0 3 8)
  rw [e0]
  have q0 := o0.nq (by omega) (by omega)
  have T0 := hT.nq q0
  refine LnR.pre q0.rm (r_w40 z 0 3 8 c0 T0 (fun pl a => nmT_l a 1) (fun u gg O d1 d3 d4 => ?_))
  unfold g_X10_wallLine_133
  rw [if_pos rfl, chk_t d3.k]
  refine r_num (P := fun R => LnR X y u0 (cal R _) _ _ _) d3 (by omega) d1 d4 0 999 _ rfl (fun u pl b1 b2 b3 => ?_) (fun u2 b1 b2 b3 b4 b5 => ?_)
  · rw [cal_s, if_pos rfl]; exact lr_f rfl b1 (O.tr b2).rm b3
  rw [cal_s, if_neg (by decide)]
  obtain ⟨u4, T', w1, w2, w3, w4, w5, w6⟩ := en_Wall z b3 ((T0.nq O).nq b2) N (vT X p) (fun c hc => b4 c hc)
  rw [w1]
  refine .inr ⟨u4, _, _, _, rfl, b1, (O.tr b2).rm.tr w2, w3, T', w4, w5, fun z0 => w6 ?_⟩
  have := (ncT_0 (ePts_0 (e2T_0 z0).1) (by omega)).2
  simpa using this
theorem r_fence {T : TW} (h : RC X y m p E 0 1) (hT : RN m y T) (N : NT T) {z : Int32} {hd : Nat} (hz : z = nI hd) (hh : hd ≤ 500) : LnR X y m (f_X10_wallLine y z 1 m) (nmT X p 4) (eFence T hd (vT X p) (sT X p) E) (Ct y (eFence T hd (vT X p) (sT X p) E) (addR T 2 (fun c => nI (vT X p c)))) := by
  unfold f_X10_wallLine g_X10_wallLine_0 g_X10_wallLine_9 g_X10_wallLine_21
  have M := h.md
  have hN := N.le0
  rw [if_neg (show ¬ (1 : Int32) = 0 by decide), if_neg (show ¬ (1 : Int32) = 0 by decide), chk_t h.k, M.c1150, M.n1150, chk_t (show inb 4 32 = true by decide), show Int32.toNatClampNeg 4 = 4 from rfl, hT.1.2.2.2.2.1]
  obtain ⟨u0, e0, o0, c0⟩ := r_note h (k := 3) (f := 3) rfl hz (by omega) (by omega) hh (nIk (a := T.2.1 2) (k := 6) (v := 6) rfl (by omega) (by omega)) (g_X10_wallLine_40 y z 1 4 6)
  rw [e0]
  have q0 := o0.nq (by omega) (by omega)
  have T0 := hT.nq q0
  refine LnR.pre q0.rm (r_w40 z 1 4 6 c0 T0 (fun pl a => a) (fun u gg O d1 d3 d4 => ?_))
  unfold g_X10_wallLine_133
  rw [if_neg (show ¬ (1 : Int32) = 0 by decide)]
  obtain ⟨u4, T', w1, w2, w3, w4, w5, w6⟩ := en_Fence z d3 (T0.nq O) N (vT X p) (fun c hc => d4 c hc)
  rw [w1]
  refine .inr ⟨u4, _, _, _, rfl, d1, O.rm.tr w2, w3, T', w4, w5, fun z0 => w6 ?_⟩
  have := (ncT_0 (ePts_0 z0) (by omega)).2
  simpa using this
end RPair
