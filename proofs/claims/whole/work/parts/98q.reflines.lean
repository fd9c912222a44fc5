/-! a town's lines: the reference -/
/-- a fault that is there already, no later than e -/
def Bd (E e : Nat) : Prop := E ≠ 0 ∧ E ≤ e
theorem Bd.nc {E e e2 : Nat} {b : Bool} (h : Bd E e) (h2 : e2 ≠ 0) : Bd (ncT E b e2) e := by
  cases b with
  | false => exact h
  | true =>
    show Bd (ntT E e2) e
    unfold ntT
    obtain ⟨a, c⟩ := h
    split
    · exact ⟨h2, by omega⟩
    · exact ⟨a, c⟩
theorem Bd.on {E e : Nat} (he : e ≠ 0) : Bd (ncT E true e) e := by
  show Bd (ntT E e) e
  unfold ntT
  split
  · exact ⟨he, Nat.le_refl _⟩
  · exact ⟨by omega, by omega⟩
theorem Bd.up {E e e2 : Nat} (h : Bd E e) (h2 : e ≤ e2) : Bd E e2 := ⟨h.1, Nat.le_trans h.2 h2⟩
theorem Bd.keep {E e : Nat} {b : Bool} (h : Bd E e) : ncT E b e = E := ncT_keep h.1 h.2
theorem Bd.e2 {E e v s : Nat} {lo hi : Int32} (h : Bd E e) : Bd (e2T E v lo hi s) e := h.nc (by omega)
theorem Bd.e2on {E v s : Nat} {lo hi : Int32} (h : inR (nI v) lo hi = false) : Bd (e2T E v lo hi s) (8 * s + 2) := by
  unfold e2T
  rw [h]
  exact Bd.on (by omega)
section RLine2
variable {X : Tx} {y : Nat} {m : MM} {p E n : Nat} {g : Int32}
theorem sT_mono (q : Nat) : ∀ d i, sT X q i ≤ sT X q (i + d)
  | 0, i => Nat.le_refl _
  | d + 1, i => by
    have h1 := sT_mono q d i
    have h2 : sT X q (i + d) ≤ sT X q (i + d + 1) := by
      have a := tkN_ge X (itN X q (i + d))
      have b := tkS_ge X (tkN X (itN X q (i + d)))
      exact Nat.le_trans a b
    exact Nat.le_trans h1 h2
theorem nIk {a k : Nat} {v : Int32} (hv : v = nI k) (ha : a < 2 ^ 31) (hk : k < 2 ^ 31) : (nI a = v) ↔ decide (a = k) = true := by
  subst hv
  rw [decide_eq_true_iff]
  exact ⟨fun h => nI_inj ha hk h, fun h => by rw [h]⟩
theorem NT.le0 {T : TW} (h : NT T) : T.2.1 0 ≤ 12 ∧ T.2.1 1 ≤ 8 ∧ T.2.1 2 ≤ 6 ∧ T.2.1 3 ≤ 12 ∧ T.2.1 4 ≤ 12 := ⟨h.1, h.2.1, h.2.2.1, h.2.2.2.1, h.2.2.2.2.1⟩
theorem tabW_id (T : TW) (j : Nat) : tabW T j (T.2.1 j) (T.2.2 j) = T := by
  obtain ⟨a, b, c⟩ := T
  show (a, (fun i => if i = j then b j else b i), (fun i r k => if i = j then c j r k else c i r k)) = (a, b, c)
  congr 2
  · funext i
    by_cases q : i = j
    · rw [if_pos q, q]
    · rw [if_neg q]
  · funext i r k
    by_cases q : i = j
    · rw [if_pos q, q]
    · rw [if_neg q]
theorem RN.idt {u : MM} {T : TW} {j : Nat} (h : RN u y (tabW T j (T.2.1 j) (T.2.2 j))) : RN u y T := by rw [tabW_id] at h; exact h
theorem NT.setV {T : TW} (h : NT T) (k : Nat) (v : Int32) : NT (setV T k v) := h
theorem en_leaveLine {T : TW} (p1 : Int32) (h : RC X y m p E n g) (hT : RN m y T) (N : NT T) (f : Nat → Int32) (hf : ∀ c, c < 3 → m.I 22 (y + 38) c = f c) : ∃ u T', l_X10_leaveLine_61 y p1 (g_X10_leaveLine_88 y p1) FU (nI (T.2.1 3)) 0 m = some (1, u) ∧ Rm y m u ∧ RC X y u p E n g ∧ RN u y T' ∧ NT T' ∧ (T.2.1 3 ≠ 12 → T' = addR T 3 f) := by
  have hz : T.2.1 3 ≤ 12 := N.le0.2.2.2.1
  obtain ⟨u, e1, o1, v1⟩ := cp_leaveLine p1 (g_X10_leaveLine_88 y p1) h hz
  have c1 := h.wr o1 (by omega)
  have M := c1.md
  have e9 : ∀ i, u.I 22 (y + 39) i = m.I 22 (y + 39) i := fun i => o1.2.2.2.2.2 _ _ _ (by omega)
  have hi : u.I 22 (y + 39) 7 = nI (T.2.1 3) := (e9 _).trans hT.1.2.2.2.2.2.2.2.1
  rw [e1]
  unfold g_X10_leaveLine_88
  rw [chk_t c1.k, M.c1150, M.n1150, chk_t (show inb 7 32 = true by decide), show Int32.toNatClampNeg 7 = 7 from rfl, hi]
  by_cases z : T.2.1 3 = 12
  · rw [if_pos (show (12 : Int32) ≤ nI (T.2.1 3) by rw [z]; decide), chk_t (show inb 7 32 = true by decide), bnd_e]
    have o2 : Wr y 39 7 1 u (u.sI 22 (y + 39) 7 (nI (T.2.1 3) + 0)) := (Wr.rf _ _ _ _ u).sI _ _ (by omega) (by omega)
    refine ⟨_, T, rfl, (o1.rm (by omega) (by omega)).tr (o2.rm (by omega) (by omega)), c1.wr o2 (by omega), ?_, N, fun q => absurd z q⟩
    refine RN.idt (j := 3) (hT.tab3 (fun i hi2 => ?_) ?_ (fun d i h1 h2 h3 => ?_) (fun r hr c hc => ?_))
    · rw [I_sI, if_neg (by omega)]; exact e9 i
    · rw [I_sI, if_pos ⟨rfl, rfl, rfl⟩, Int32.add_zero]
    · rw [I_sI, if_neg (by omega)]; exact o1.2.2.2.2.2 _ _ _ (by omega)
    · rw [I_sI, if_neg (by omega), o1.2.2.2.2.2 _ _ _ (by omega)]
      exact hT.2.2.2.2.1 r (by omega) c hc
  · rw [if_neg (show ¬ (12 : Int32) ≤ nI (T.2.1 3) from nI_ge (b := 12) (by omega) (by decide)), chk_t (show inb 7 32 = true by decide), bnd_e, nI_1]
    have o2 : Wr y 39 7 1 u (u.sI 22 (y + 39) 7 (nI (T.2.1 3 + 1))) := (Wr.rf _ _ _ _ u).sI _ _ (by omega) (by omega)
    refine ⟨_, addR T 3 f, rfl, (o1.rm (by omega) (by omega)).tr (o2.rm (by omega) (by omega)), c1.wr o2 (by omega), ?_, ⟨N.1, N.2.1, N.2.2.1, (show T.2.1 3 + 1 ≤ 12 by omega), N.2.2.2.2.1, N.2.2.2.2.2⟩, fun _ => rfl⟩
    unfold addR
    refine hT.tab3 (fun i hi2 => ?_) ?_ (fun d i h1 h2 h3 => ?_) (fun r hr c hc => ?_)
    · rw [I_sI, if_neg (by omega)]; exact e9 i
    · rw [I_sI, if_pos ⟨rfl, rfl, rfl⟩]
    · rw [I_sI, if_neg (by omega)]; exact o1.2.2.2.2.2 _ _ _ (by omega)
    · rw [I_sI, if_neg (by omega)]
      by_cases q : r = T.2.1 3
      · rw [if_pos q, q, v1 c hc]; exact hf c hc
      · rw [if_neg q, o1.2.2.2.2.2 _ _ _ (by omega)]
        exact hT.2.2.2.2.1 r (by omega) c hc
theorem en_objectLine {T : TW} (p1 : Int32) (h : RC X y m p E n g) (hT : RN m y T) (N : NT T) (f : Nat → Int32) (hf : ∀ c, c < 3 → m.I 22 (y + 38) c = f c) : ∃ u T', l_X10_objectLine_111 y p1 (g_X10_objectLine_141 y p1) FU (nI (T.2.1 4)) 0 m = some (1, u) ∧ Rm y m u ∧ RC X y u p E n g ∧ RN u y T' ∧ NT T' ∧ (T.2.1 4 ≠ 12 → T' = addR T 4 f) := by
  have hz : T.2.1 4 ≤ 12 := N.le0.2.2.2.2
  obtain ⟨u, e1, o1, v1⟩ := cp_objectLine p1 (g_X10_objectLine_141 y p1) h hz
  have c1 := h.wr o1 (by omega)
  have M := c1.md
  have e9 : ∀ i, u.I 22 (y + 39) i = m.I 22 (y + 39) i := fun i => o1.2.2.2.2.2 _ _ _ (by omega)
  have hi : u.I 22 (y + 39) 8 = nI (T.2.1 4) := (e9 _).trans hT.1.2.2.2.2.2.2.2.2.1
  rw [e1]
  unfold g_X10_objectLine_141
  rw [chk_t c1.k, M.c1150, M.n1150, chk_t (show inb 8 32 = true by decide), show Int32.toNatClampNeg 8 = 8 from rfl, hi]
  by_cases z : T.2.1 4 = 12
  · rw [if_pos (show (12 : Int32) ≤ nI (T.2.1 4) by rw [z]; decide), chk_t (show inb 8 32 = true by decide), bnd_e]
    have o2 : Wr y 39 8 1 u (u.sI 22 (y + 39) 8 (nI (T.2.1 4) + 0)) := (Wr.rf _ _ _ _ u).sI _ _ (by omega) (by omega)
    refine ⟨_, T, rfl, (o1.rm (by omega) (by omega)).tr (o2.rm (by omega) (by omega)), c1.wr o2 (by omega), ?_, N, fun q => absurd z q⟩
    refine RN.idt (j := 4) (hT.tab4 (fun i hi2 => ?_) ?_ (fun d i h1 h2 h3 => ?_) (fun r hr c hc => ?_))
    · rw [I_sI, if_neg (by omega)]; exact e9 i
    · rw [I_sI, if_pos ⟨rfl, rfl, rfl⟩, Int32.add_zero]
    · rw [I_sI, if_neg (by omega)]; exact o1.2.2.2.2.2 _ _ _ (by omega)
    · rw [I_sI, if_neg (by omega), o1.2.2.2.2.2 _ _ _ (by omega)]
      exact hT.2.2.2.2.2 r (by omega) c hc
  · rw [if_neg (show ¬ (12 : Int32) ≤ nI (T.2.1 4) from nI_ge (b := 12) (by omega) (by decide)), chk_t (show inb 8 32 = true by decide), bnd_e, nI_1]
    have o2 : Wr y 39 8 1 u (u.sI 22 (y + 39) 8 (nI (T.2.1 4 + 1))) := (Wr.rf _ _ _ _ u).sI _ _ (by omega) (by omega)
    refine ⟨_, addR T 4 f, rfl, (o1.rm (by omega) (by omega)).tr (o2.rm (by omega) (by omega)), c1.wr o2 (by omega), ?_, ⟨N.1, N.2.1, N.2.2.1, N.2.2.2.1, (show T.2.1 4 + 1 ≤ 12 by omega), N.2.2.2.2.2⟩, fun _ => rfl⟩
    unfold addR
    refine hT.tab4 (fun i hi2 => ?_) ?_ (fun d i h1 h2 h3 => ?_) (fun r hr c hc => ?_)
    · rw [I_sI, if_neg (by omega)]; exact e9 i
    · rw [I_sI, if_pos ⟨rfl, rfl, rfl⟩]
    · rw [I_sI, if_neg (by omega)]; exact o1.2.2.2.2.2 _ _ _ (by omega)
    · rw [I_sI, if_neg (by omega)]
      by_cases q : r = T.2.1 4
      · rw [if_pos q, q, v1 c hc]; exact hf c hc
      · rw [if_neg q, o1.2.2.2.2.2 _ _ _ (by omega)]
        exact hT.2.2.2.2.2 r (by omega) c hc
theorem r_leaveLine {T : TW} (h : RC X y m p E 0 1) (hT : RN m y T) (N : NT T) {z : Int32} {hd : Nat} (hz : z = nI hd) (hh : hd ≤ 500) : LnR X y m (f_X10_leaveLine y z m) (nmT X p 3) (eLeave T hd (vT X p) (sT X p) E) (Ct y (eLeave T hd (vT X p) (sT X p) E) (addR T 3 (fun c => nI (vT X p c)))) := by
  unfold f_X10_leaveLine g_X10_leaveLine_0
  have M := h.md
  have hN := N.le0
  rw [chk_t h.k, M.c1150, M.n1150, chk_t (show inb 7 32 = true by decide), show Int32.toNatClampNeg 7 = 7 from rfl, hT.1.2.2.2.2.2.2.2.1]
  obtain ⟨u0, e0, o0, c0⟩ := r_note h (k := 3) (f := 3) rfl hz (by omega) (by omega) hh (nIk (a := T.2.1 3) (k := 12) (v := 12) rfl (by omega) (by omega)) (g_X10_leaveLine_18 y z)
  rw [e0]
  have q0 := o0.nq (by omega) (by omega)
  have T0 := hT.nq q0
  unfold g_X10_leaveLine_18
  rw [chk_t c0.k]
  refine r_num (q := p) (k := 0) (P := fun R => LnR X y m (cal R _) _ _ _) c0 (by omega) rfl (fun i hi => by omega) 0 7 _ rfl (fun u pl a1 a2 a3 => ?_) (fun u1 a1 a2 a3 a4 a5 => ?_)
  · rw [cal_s, if_pos rfl]; exact lr_f rfl (nmT_l a1 2) (q0.tr a2).rm a3
  rw [cal_s, if_neg (by decide), chk_t a3.k]
  refine r_num (P := fun R => LnR X y m (cal R _) _ _ _) a3 (by omega) a1 a4 0 7 _ rfl (fun u pl b1 b2 b3 => ?_) (fun u2 b1 b2 b3 b4 b5 => ?_)
  · rw [cal_s, if_pos rfl]; exact lr_f rfl (nmT_l b1 1) ((q0.tr a2).tr b2).rm b3
  rw [cal_s, if_neg (by decide), chk_t b3.k]
  refine r_num (P := fun R => LnR X y m (cal R _) _ _ _) b3 (by omega) b1 b4 0 999 _ rfl (fun u pl d1 d2 d3 => ?_) (fun u3 d1 d2 d3 d4 d5 => ?_)
  · rw [cal_s, if_pos rfl]; exact lr_f rfl d1 (((q0.tr a2).tr b2).tr d2).rm d3
  have O3 := ((q0.tr a2).tr b2).tr d2
  have T3 := hT.nq O3
  have M3 := d3.md
  rw [cal_s, if_neg (by decide), chk_t d3.k, M3.c1150, M3.n1150, chk_t (show inb 7 32 = true by decide), show Int32.toNatClampNeg 7 = 7 from rfl, T3.1.2.2.2.2.2.2.2.1, bnd_e]
  obtain ⟨u4, T', w1, w2, w3, w4, w5, w6⟩ := en_leaveLine z d3 T3 N (fun c => nI (vT X p c)) (fun c hc => d4 c hc)
  rw [w1]
  refine .inr ⟨u4, _, _, _, rfl, d1, O3.rm.tr w2, w3, T', w4, w5, fun z0 => w6 ?_⟩
  have := (ncT_0 (e2T_0 (e2T_0 (e2T_0 z0).1).1).1 (by omega)).2
  simpa using this
theorem r_objectLine {T : TW} (h : RC X y m p E 0 1) (hT : RN m y T) (N : NT T) {z : Int32} {hd : Nat} (hz : z = nI hd) (hh : hd ≤ 500) : LnR X y m (f_X10_objectLine y z m) (nmT X p 3) (eObj T hd (vT X p) (sT X p) E) (Ct y (eObj T hd (vT X p) (sT X p) E) (addR T 4 (fun c => nI (vT X p c)))) := by
  unfold f_X10_objectLine g_X10_objectLine_0
  have M := h.md
  have hN := N.le0
  have l5 := h.l5
  have hp := h.2.2.2.2.2
  rw [chk_t h.k, M.c1150, M.n1150, chk_t (show inb 8 32 = true by decide), show Int32.toNatClampNeg 8 = 8 from rfl, hT.1.2.2.2.2.2.2.2.2.1]
  obtain ⟨u0, e0, o0, c0⟩ := r_note h (k := 3) (f := 3) rfl hz (by omega) (by omega) hh (nIk (a := T.2.1 4) (k := 12) (v := 12) rfl (by omega) (by omega)) (g_X10_objectLine_18 y z)
  rw [e0]
  have q0 := o0.nq (by omega) (by omega)
  have T0 := hT.nq q0
  have M0 := c0.md
  unfold g_X10_objectLine_18
  rw [chk_t c0.k, M0.c1150, M0.n1150, chk_t (show inb 2 32 = true by decide), show Int32.toNatClampNeg 2 = 2 from rfl, T0.1.2.2.1]
  refine r_num (q := p) (k := 0) (P := fun R => LnR X y m (cal R _) _ _ _) c0 (by omega) rfl (fun i hi => by omega) 0 (nI (T.2.1 0) - 1) _ rfl (fun u pl a1 a2 a3 => ?_) (fun u1 a1 a2 a3 a4 a5 => ?_)
  · rw [cal_s, if_pos rfl]; exact lr_f rfl (nmT_l a1 2) (q0.tr a2).rm a3
  have T1 := T0.nq a2
  have M1 := a3.md
  have y2 : u1.I 1140 y 0 = nI (sT X p 1) := a3.2.1.2.1
  rw [cal_s, if_neg (by decide), chk_t a3.k, bnd_e, y2, M1.c1150, M1.n1150, chk_t (show inb 2 32 = true by decide), T1.1.2.2.1]
  refine r_num (P := fun R => LnR X y m (cal R _) _ _ _) a3 (by omega) a1 a4 0 (nI (T.2.1 0) - 1) _ rfl (fun u pl b1 b2 b3 => ?_) (fun u2 b1 b2 b3 b4 b5 => ?_)
  · rw [cal_s, if_pos rfl]; exact lr_f rfl (nmT_l b1 1) ((q0.tr a2).tr b2).rm b3
  have M2 := b3.md
  have O2 := (q0.tr a2).tr b2
  rw [cal_s, if_neg (by decide), chk_t b3.k, b3.2.2.2.2.1]
  have tail : ∀ (u : MM) (F : Nat) (gg : Int32), Nq y m u → RC X y u (itN X p 2) F 2 gg → NR X y u p 2 → (e2T F (vT X p 2) 0 999 (sT X p 2) = 0 → T.2.1 4 ≠ 12) → LnR X y m (g_X10_objectLine_87 y z u) (nmT X p 3) (e2T F (vT X p 2) 0 999 (sT X p 2)) (Ct y (e2T F (vT X p 2) 0 999 (sT X p 2)) (addR T 4 (fun c => nI (vT X p c)))) := by
    intro u F gg O c v hz0
    unfold g_X10_objectLine_87
    rw [chk_t c.k]
    refine r_num (P := fun R => LnR X y m (cal R _) _ _ _) c (by omega) b1 v 0 999 _ rfl (fun u pl d1 d2 d3 => ?_) (fun u3 d1 d2 d3 d4 d5 => ?_)
    · rw [cal_s, if_pos rfl]; exact lr_f rfl d1 (O.tr d2).rm d3
    have O3 := O.tr d2
    have T3 := hT.nq O3
    have M3 := d3.md
    rw [cal_s, if_neg (by decide), chk_t d3.k, M3.c1150, M3.n1150, chk_t (show inb 8 32 = true by decide), show Int32.toNatClampNeg 8 = 8 from rfl, T3.1.2.2.2.2.2.2.2.2.1, bnd_e]
    obtain ⟨u4, T', w1, w2, w3, w4, w5, w6⟩ := en_objectLine z d3 T3 N (fun c => nI (vT X p c)) (fun c hc => d4 c hc)
    rw [w1]
    exact .inr ⟨u4, _, _, _, rfl, d1, O3.rm.tr w2, w3, T', w4, w5, fun z0 => w6 (hz0 z0)⟩
  have z12 : ∀ b, ncT (e2T (e2T (ncT E (decide (T.2.1 4 = 12)) (8 * hd + 3)) (vT X p 0) 0 (nI (T.2.1 0) - 1) (sT X p 0)) (vT X p 1) 0 (nI (T.2.1 0) - 1) (sT X p 1)) b (8 * sT X p 1 + 2) = 0 → T.2.1 4 ≠ 12 := fun b z0 => by
    have := (ncT_0 (e2T_0 (e2T_0 (ncT_0 z0 (by omega)).1).1).1 (by omega)).2
    simpa using this
  unfold eObj
  by_cases gz : cond (inR (nI (vT X p 1)) 0 (nI (T.2.1 0) - 1)) (cond (inR (nI (vT X p 0)) 0 (nI (T.2.1 0) - 1)) (1 : Int32) 0) 0 = 0
  · rw [if_pos gz]
    have hb : Bd (e2T (e2T (ncT E (decide (T.2.1 4 = 12)) (8 * hd + 3)) (vT X p 0) 0 (nI (T.2.1 0) - 1) (sT X p 0)) (vT X p 1) 0 (nI (T.2.1 0) - 1) (sT X p 1)) (8 * sT X p 1 + 2) := by
      cases h1 : inR (nI (vT X p 1)) 0 (nI (T.2.1 0) - 1) with
      | false => exact Bd.e2on h1
      | true =>
        cases h0 : inR (nI (vT X p 0)) 0 (nI (T.2.1 0) - 1) with
        | false => exact (Bd.e2 (Bd.e2on h0)).up (by have : sT X p 0 ≤ sT X p 1 := sT_mono p 1 0; show 8 * sT X p 0 + 2 ≤ 8 * sT X p 1 + 2; omega)
        | true => rw [h1, h0] at gz; exact absurd gz (by decide)
    rw [hb.keep]
    exact tail u2 _ _ O2 b3 b4 (fun z0 => z12 false (e2T_0 z0).1)
  · rw [if_neg gz, M2.c1147, M2.n1147, chk_t (show inb 0 6 = true by decide), chk_t (show inb 1 6 = true by decide), show Int32.toNatClampNeg 0 = 0 from rfl, show Int32.toNatClampNeg 1 = 1 from rfl, b4 0 (by omega), b4 1 (by omega)]
    obtain ⟨u3, e3, o3, c3⟩ := r_note b3 (k := 2) (z := nI (sT X p 1)) (f := 2) rfl rfl (by omega) (by omega) (sT_le hp l5 1).2 (c := nI (vT X p 0) = nI (vT X p 1)) (b := decide (nI (vT X p 0) = nI (vT X p 1))) (by rw [decide_eq_true_iff]) (g_X10_objectLine_87 y z)
    rw [e3]
    exact tail u3 _ _ (O2.tr (o3.nq (by omega) (by omega))) c3 (b4.nq (fun j => o3.2.2.2.2.1 _ _ _ (by omega))) (fun z0 => z12 _ (e2T_0 z0).1)
end RLine2
