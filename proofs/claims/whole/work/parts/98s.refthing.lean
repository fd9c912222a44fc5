/-! slopes, things, sizes: the reference -/
section RThing
variable {X : Tx} {y : Nat} {m : MM} {p E n : Nat} {g : Int32}
theorem wdk1 {k : Nat} (h : wdT X p k = true) : tkK X p = 1 := (of_decide_eq_true h).1
theorem RC.e {E2 : Nat} (h : RC X y m p E n g) (e : E2 = E) : RC X y m p E2 n g := by subst e; exact h
theorem ws_ne : wsT 7 ≠ wsT 8 := by decide
theorem wdk78 (h : wdT X p 8 = true) : wdT X p 7 = false := decide_eq_false (fun q => ws_ne (q.2.symm.trans (of_decide_eq_true h).2))
def slT (X : Tx) (r : Nat) : Nat ⊕ Nat := bdT (sgT X r) (fun a => nmT X a 1)
theorem r_slope (h : RC X y m p E n g) (hn : n < 6) : (∃ u pl, f_X10_slope y m = some (0, u) ∧ slT X p = .inl pl ∧ Nq y m u ∧ u.I 1144 y 0 = nI pl) ∨ ∃ u g', f_X10_slope y m = some (1, u) ∧ slT X p = .inr (tkN X (tkN X p)) ∧ sgT X p = .inr (tkN X p) ∧ Nq y m u ∧ RC X y u (tkN X (tkN X p)) (e2T E (tkV X (tkN X p)) 0 9 (tkS X (tkN X p))) (n + 1) g' ∧ u.I 22 (y + 38) n = sgV X p * nI (tkV X (tkN X p)) ∧ ∀ j, j ≠ n → u.I 22 (y + 38) j = m.I 22 (y + 38) j := by
  have go : ∀ (b : Bool), tkK X p = 1 → sgT X p = .inr (tkN X p) → (sgV X p = if b = true then -1 else 1) → (∃ u pl, g_X10_slope_27 y (bI b) m = some (0, u) ∧ slT X p = .inl pl ∧ Nq y m u ∧ u.I 1144 y 0 = nI pl) ∨ ∃ u g', g_X10_slope_27 y (bI b) m = some (1, u) ∧ slT X p = .inr (tkN X (tkN X p)) ∧ sgT X p = .inr (tkN X p) ∧ Nq y m u ∧ RC X y u (tkN X (tkN X p)) (e2T E (tkV X (tkN X p)) 0 9 (tkS X (tkN X p))) (n + 1) g' ∧ u.I 22 (y + 38) n = sgV X p * nI (tkV X (tkN X p)) ∧ ∀ j, j ≠ n → u.I 22 (y + 38) j = m.I 22 (y + 38) j := by
    intro b hk hsg hv
    obtain ⟨u1, t1, t2, t3⟩ := r_token h (by omega)
    have q1 := t2.nq (by omega) (by omega)
    have v1 : ∀ j, u1.I 22 (y + 38) j = m.I 22 (y + 38) j := fun j => t2.2.2.2.2.1 _ _ _ (by omega)
    have hsl : slT X p = nmT X (tkN X p) 1 := by unfold slT; rw [hsg]; rfl
    unfold g_X10_slope_27
    rw [chk_t h.k, t1, cal_s, chk_t t3.k]
    rcases r_num1 t3 hn 0 9 with ⟨a, u, b1, b2, b3⟩ | ⟨a, u, b1, b2, b3, b4, b5⟩
    · left
      rw [b1, cal_s, if_pos rfl]
      exact ⟨u, _, rfl, hsl.trans (nmT_f (k := 0) rfl a), q1.tr b2, b3⟩
    · right
      have M := b3.md
      have e1 : u.I 1148 y 0 - 1 = nI n := by rw [b3.2.2.2.1]; exact nI_pred n
      rw [b1, cal_s, if_neg (by decide), chk_t b3.k]
      have fin : ∀ w, w = sgV X p * nI (tkV X (tkN X p)) → Nq y m (u.sI 22 (y + 38) n w) ∧ RC X y (u.sI 22 (y + 38) n w) (tkN X (tkN X p)) (e2T E (tkV X (tkN X p)) 0 9 (tkS X (tkN X p))) (n + 1) (cond (inR (nI (tkV X (tkN X p))) 0 9) g 0) ∧ (u.sI 22 (y + 38) n w).I 22 (y + 38) n = sgV X p * nI (tkV X (tkN X p)) ∧ ∀ j, j ≠ n → (u.sI 22 (y + 38) n w).I 22 (y + 38) j = m.I 22 (y + 38) j := fun w hw => ⟨(q1.tr b2).s38 _ _ _, b3.wr (d := 38) (b := 0) (k := n + 1) ((Wr.rf _ _ _ _ u).sI _ _ (by omega) (by omega)) (by omega), by rw [I_sI, if_pos ⟨rfl, rfl, rfl⟩, hw], fun j hj => by rw [I_sI, if_neg (by omega), b5 j hj]; exact v1 j⟩
      cases b with
      | false =>
        rw [if_pos (show bI false = 0 by rfl), M.c1147, M.n1147, e1, chk_t (inb_nI hn (by decide)), chk_t (inb_nI hn (by decide)), bnd_e, cl_nI (by omega), b4]
        obtain ⟨f1, f2, f3, f4⟩ := fin (nI (tkV X (tkN X p))) (by rw [hv, if_neg (by decide), Int32.one_mul])
        exact ⟨_, _, rfl, hsl.trans (nmT_s (k := 0) rfl a), hsg, f1, f2, f3, f4⟩
      | true =>
        rw [if_neg (show ¬ bI true = 0 by decide), M.c1147, M.n1147, e1, chk_t (inb_nI hn (by decide)), chk_t (inb_nI hn (by decide)), bnd_e, cl_nI (by omega), b4]
        obtain ⟨f1, f2, f3, f4⟩ := fin (-(nI (tkV X (tkN X p)))) (by rw [hv, if_pos rfl, Int32.neg_mul, Int32.one_mul])
        exact ⟨_, _, rfl, hsl.trans (nmT_s (k := 0) rfl a), hsg, f1, f2, f3, f4⟩
  unfold f_X10_slope g_X10_slope_0
  rw [chk_t h.k, r_isWord h (k := 8) (by decide) (by omega), cal_s]
  cases h8 : wdT X p 8 with
  | true =>
    rw [if_neg (show ¬ bI true = 0 by decide)]
    exact go true (wdk1 h8) (by unfold sgT; rw [if_pos (.inr h8)]) (by unfold sgV; rw [wdk78 h8]; rfl)
  | false =>
    rw [if_pos (show bI false = 0 by rfl), chk_t h.k, r_isWord h (k := 7) (by decide) (by omega), cal_s]
    cases h7 : wdT X p 7 with
    | true =>
      rw [if_neg (show ¬ bI true = 0 by decide)]
      exact go false (wdk1 h7) (by unfold sgT; rw [if_pos (.inl h7)]) (by unfold sgV; rw [h7]; rfl)
    | false =>
      left
      obtain ⟨u, s1, s2, s3⟩ := r_stops h
      rw [if_pos (show bI false = 0 by rfl), chk_t h.k, s1, cal_s, chk_t (.inl rfl)]
      refine ⟨u, _, rfl, ?_, s2, s3⟩
      unfold slT sgT
      rw [h7, h8, if_neg (by decide)]
      rfl
/-- both numbers of a slope, and what stands then -/
theorem r_slopes {T : TW} (h : RC X y m p E 0 1) (hT : RN m y T) (N : NT T) : LnR X y m (cal (f_X10_slope y m) (fun r7 m9 => if r7 = 0 then (g_X10_townLine_208 y m9) else (chk (m9.K y = 11) (cal (f_X10_slope y m9) (fun r8 m10 => if r8 = 0 then (g_X10_townLine_208 y m10) else (g_X10_townLine_209 y 1 m10)))))) (bdT (slT X p) (fun b => bdT (slT X b) (stT X))) (e2T (e2T E (tkV X (tkN X p)) 0 9 (tkS X (tkN X p))) (tkV X (tkN X (tkN X (tkN X p)))) 0 9 (tkS X (tkN X (tkN X (tkN X p))))) (Ct y (e2T (e2T E (tkV X (tkN X p)) 0 9 (tkS X (tkN X p))) (tkV X (tkN X (tkN X (tkN X p)))) 0 9 (tkS X (tkN X (tkN X (tkN X p))))) (setV (setV T 2 (sgV X p * nI (tkV X (tkN X p)))) 3 (sgV X (tkN X (tkN X p)) * nI (tkV X (tkN X (tkN X (tkN X p))))))) := by
  have bad : ∀ (u : MM) (pl : Nat), Nq y m u → u.I 1144 y 0 = nI pl → (bdT (slT X p) (fun b => bdT (slT X b) (stT X))) = .inl pl → ∀ {e : Nat} {C : MM → Prop}, LnR X y m (g_X10_townLine_208 y u) (bdT (slT X p) (fun b => bdT (slT X b) (stT X))) e C := by
    intro u pl O hu ho e C
    have Mu : Md u y := h.md.kept O.1 O.2.1 (fun s => by rw [O.2.2.2.1])
    have o1 : Wr y 39 0 32 u (u.sI 22 (y + 39) 5 0) := (Wr.rf _ _ _ _ u).sI _ _ (by omega) (by omega)
    have M1 : Md (u.sI 22 (y + 39) 5 0) y := Mu
    unfold g_X10_townLine_208 g_X10_townLine_209 g_X10_townLine_231 g_X10_townLine_253 g_X10_townLine_325 g_X10_townLine_341
    rw [chk_t Mu.1, if_pos rfl, Mu.c1150, Mu.n1150, chk_t (show inb 5 32 = true by decide), bnd_e, show Int32.toNatClampNeg 5 = 5 from rfl, chk_t M1.1, if_pos rfl, M1.c1150, M1.n1150, chk_t (show inb 6 32 = true by decide), bnd_e, if_pos rfl]
    have o2 := o1.sI (Int32.toNatClampNeg 6) 0 (by omega) (show Int32.toNatClampNeg 6 < 0 + 32 by decide)
    exact lr_f rfl ho (O.rm.tr (o2.rm (by omega) (by omega))) (by rw [I_sI, if_neg (by omega), I_sI, if_neg (by omega)]; exact hu)
  rcases r_slope h (by omega) with ⟨u, pl, a1, a2, a3, a4⟩ | ⟨u, g1, a1, a2, a2', a3, a4, a5, a6⟩
  · rw [a1, cal_s, if_pos rfl]
    exact bad u pl a3 a4 (by rw [a2]; rfl)
  rw [a1, cal_s, if_neg (by decide), chk_t a4.k]
  rcases r_slope a4 (by omega) with ⟨u2, pl, b1, b2, b3, b4⟩ | ⟨u2, g2, b1, b2, b2', b3, b4, b5, b6⟩
  · rw [b1, cal_s, if_pos rfl]
    exact bad u2 pl (a3.tr b3) b4 (by rw [a2]; show bdT (slT X _) _ = _; rw [b2]; rfl)
  rw [b1, cal_s, if_neg (by decide)]
  have O := a3.tr b3
  have T2 := hT.nq O
  have M := b4.md
  have r0 : u2.I 22 (y + 38) 0 = sgV X p * nI (tkV X (tkN X p)) := (b6 0 (by omega)).trans a5
  obtain ⟨u3, hu3⟩ : ∃ q, q = u2.sI 22 (y + 39) 5 (sgV X p * nI (tkV X (tkN X p))) := ⟨_, rfl⟩
  have o3 : Wr y 39 0 32 u2 u3 := by rw [hu3]; exact (Wr.rf _ _ _ _ u2).sI _ _ (by omega) (by omega)
  have c3 := b4.wr o3 (by omega)
  have M3 := c3.md
  have T3 : RN u3 y (setV T 2 (sgV X p * nI (tkV X (tkN X p)))) := T2.set (j := 5) (k := 2) hu3 (by omega)
  have r1 : u3.I 22 (y + 38) 1 = sgV X (tkN X (tkN X p)) * nI (tkV X (tkN X (tkN X (tkN X p)))) := (o3.2.2.2.2.2 _ _ _ (by omega)).trans b5
  obtain ⟨u4, hu4⟩ : ∃ q, q = u3.sI 22 (y + 39) 6 (sgV X (tkN X (tkN X p)) * nI (tkV X (tkN X (tkN X (tkN X p))))) := ⟨_, rfl⟩
  have o4 : Wr y 39 0 32 u3 u4 := by rw [hu4]; exact (Wr.rf _ _ _ _ u3).sI _ _ (by omega) (by omega)
  have c4 := c3.wr o4 (by omega)
  have T4 := T3.set (j := 6) (k := 3) hu4 (by omega)
  have O4 := (O.rm.tr (o3.rm (by omega) (by omega))).tr (o4.rm (by omega) (by omega))
  unfold g_X10_townLine_209 g_X10_townLine_231 g_X10_townLine_253 g_X10_townLine_325 g_X10_townLine_341
  rw [chk_t b4.k, if_neg (show ¬ (1 : Int32) = 0 by decide), M.c1147, M.n1147, chk_t (show inb 0 6 = true by decide), show Int32.toNatClampNeg 0 = 0 from rfl, r0, M.c1150, M.n1150, chk_t (show inb 5 32 = true by decide), bnd_e, show Int32.toNatClampNeg 5 = 5 from rfl, ← hu3, chk_t c3.k, if_neg (show ¬ (1 : Int32) = 0 by decide), M3.c1147, M3.n1147, chk_t (show inb 1 6 = true by decide), show Int32.toNatClampNeg 1 = 1 from rfl, r1, M3.c1150, M3.n1150, chk_t (show inb 6 32 = true by decide), bnd_e, show Int32.toNatClampNeg 6 = 6 from rfl, ← hu4, if_neg (show ¬ (1 : Int32) = 0 by decide), chk_t c4.k]
  rcases r_passes c4 with ⟨d1, u5, d2, d3, d4⟩ | ⟨d1, u5, d2, d3, d4⟩
  · rw [d2, cal_s, if_pos rfl]
    exact lr_f rfl (by rw [a2]; show bdT (slT X _) _ = _; rw [b2]; exact d1) (O4.tr d3.rm) d4
  · rw [d2, cal_s, if_neg (by decide)]
    exact .inr ⟨u5, _, _, _, rfl, by rw [a2]; show bdT (slT X _) _ = _; rw [b2]; exact d1, O4.tr d3.rm, d4, _, T4.nq d3, N, fun _ => rfl⟩
/-! things -/
def thO (X : Tx) (q : Nat) : Nat ⊕ Nat := bdT (nmT X q 5) (fun r => cond (wdT X r 2) (nmT X (tkN X r) 1) (.inr r))
theorem en_thing {T : TW} (p1 x4 : Int32) (h : RC X y m p E n g) (hT : RN m y T) (N : NT T) (v : Nat → Nat) (hv : ∀ c, c < 5 → m.I 22 (y + 38) c = nI (v c)) : ∃ u T', g_X10_thingLine_185 y p1 x4 m = some (1, u) ∧ Rm y m u ∧ RC X y u p E n g ∧ RN u y T' ∧ NT T' ∧ (T.2.1 0 ≠ 12 → T' = addR T 0 (thF (nI (v 0)) (nI (v 1)) (nI (v 2)) (nI (v 3)) (nI (v 4)) x4)) := by
  have hz : T.2.1 0 ≤ 12 := N.le0.1
  have M := h.md
  unfold g_X10_thingLine_185
  rw [chk_t h.k, M.c1150, M.n1150, chk_t (show inb 2 32 = true by decide), show Int32.toNatClampNeg 2 = 2 from rfl, hT.1.2.2.1, bnd_e]
  obtain ⟨u, e1, o1, v1⟩ := cp_thingLine p1 x4 (g_X10_thingLine_228 y p1) h hz
  rw [e1]
  obtain ⟨z, ez⟩ : ∃ z, z = T.2.1 0 := ⟨_, rfl⟩
  rw [← ez] at o1 v1 hz ⊢
  have c1 := h.wr o1 (by omega)
  have M1 := c1.md
  have ea : (7 : Int32) * nI z + 5 = nI (7 * z + 5) := by
    show nI 7 * nI z + nI 5 = _
    rw [pk_mul, nI_add]
  have eb : (7 : Int32) * nI z + 6 = nI (7 * z + 6) := by
    show nI 7 * nI z + nI 6 = _
    rw [pk_mul, nI_add]
  obtain ⟨u2, hu2⟩ : ∃ q, q = u.sI 22 (y + 40) (7 * z + 5) x4 := ⟨_, rfl⟩
  have o2 : Wr y 40 (7 * z) 7 m u2 := by rw [hu2]; exact (o1.up (by omega) (by omega)).sI _ _ (by omega) (by omega)
  have c2 := h.wr o2 (by omega)
  have M2 := c2.md
  obtain ⟨u3, hu3⟩ : ∃ q, q = u2.sI 22 (y + 40) (7 * z + 6) 1 := ⟨_, rfl⟩
  have o3 : Wr y 40 (7 * z) 7 m u3 := by rw [hu3]; exact o2.sI _ _ (by omega) (by omega)
  have c3 := h.wr o3 (by omega)
  have M3 := c3.md
  have f9 : ∀ i, u3.I 22 (y + 39) i = m.I 22 (y + 39) i := fun i => o3.2.2.2.2.2 _ _ _ (by omega)
  have hi : u3.I 22 (y + 39) 2 = nI z := (f9 _).trans (by rw [ez]; exact hT.1.2.2.1)
  unfold g_X10_thingLine_228
  rw [chk_t c1.k, M1.c1151, M1.n1151, ea, chk_t (inb_nI (show 7 * z + 5 < 91 by omega) (by decide)), bnd_e, cl_nI (by omega), ← hu2, M2.c1151, M2.n1151, eb, chk_t (inb_nI (show 7 * z + 6 < 91 by omega) (by decide)), bnd_e, cl_nI (by omega), ← hu3, M3.c1150, M3.n1150, chk_t (show inb 2 32 = true by decide), show Int32.toNatClampNeg 2 = 2 from rfl, hi]
  by_cases q : z = 12
  · rw [if_pos (show (12 : Int32) ≤ nI z by rw [q]; decide), chk_t (show inb 2 32 = true by decide), bnd_e]
    have o4 : Wr y 39 2 1 u3 (u3.sI 22 (y + 39) 2 (nI z + 0)) := (Wr.rf _ _ _ _ u3).sI _ _ (by omega) (by omega)
    refine ⟨_, T, rfl, (o3.rm (by omega) (by omega)).tr (o4.rm (by omega) (by omega)), c3.wr o4 (by omega), ?_, N, fun u => absurd q u⟩
    refine RN.idt (j := 0) (hT.tab0 (fun i hi3 => ?_) ?_ (fun d i h1 h2 h3 => ?_) (fun r hr c hc => ?_))
    · rw [I_sI, if_neg (by omega)]; exact f9 i
    · rw [I_sI, if_pos ⟨rfl, rfl, rfl⟩, Int32.add_zero, ez]
    · rw [I_sI, if_neg (by omega)]; exact o3.2.2.2.2.2 _ _ _ (by omega)
    · rw [I_sI, if_neg (by omega), o3.2.2.2.2.2 _ _ _ (by omega)]
      exact hT.2.1 r hr c hc
  · rw [if_neg (show ¬ (12 : Int32) ≤ nI z from nI_ge (b := 12) (by omega) (by decide)), chk_t (show inb 2 32 = true by decide), bnd_e, nI_1]
    have o4 : Wr y 39 2 1 u3 (u3.sI 22 (y + 39) 2 (nI (z + 1))) := (Wr.rf _ _ _ _ u3).sI _ _ (by omega) (by omega)
    refine ⟨_, addR T 0 (thF (nI (v 0)) (nI (v 1)) (nI (v 2)) (nI (v 3)) (nI (v 4)) x4), rfl, (o3.rm (by omega) (by omega)).tr (o4.rm (by omega) (by omega)), c3.wr o4 (by omega), ?_, ⟨(show T.2.1 0 + 1 ≤ 12 by omega), N.2.1, N.2.2.1, N.2.2.2.1, N.2.2.2.2.1, N.2.2.2.2.2⟩, fun _ => rfl⟩
    unfold addR
    rw [← ez]
    refine hT.tab0 (fun i hi3 => ?_) ?_ (fun d i h1 h2 h3 => ?_) (fun r hr c hc => ?_)
    · rw [I_sI, if_neg (by omega)]; exact f9 i
    · rw [I_sI, if_pos ⟨rfl, rfl, rfl⟩]
    · rw [I_sI, if_neg (by omega)]; exact o3.2.2.2.2.2 _ _ _ (by omega)
    · rw [I_sI, if_neg (by omega)]
      by_cases s : r = z
      · rw [if_pos s, s, hu3, I_sI]
        have hcc : c = 0 ∨ c = 1 ∨ c = 2 ∨ c = 3 ∨ c = 4 ∨ c = 5 ∨ c = 6 := by omega
        have lo : c < 5 → (if 22 = 22 ∧ y + 40 = y + 40 ∧ 7 * z + c = 7 * z + 6 then (1 : Int32) else u2.I 22 (y + 40) (7 * z + c)) = nI (v c) := fun hc5 => by
          rw [if_neg (by omega), hu2, I_sI, if_neg (by omega), v1 c hc5]; exact hv c hc5
        rcases hcc with rfl | rfl | rfl | rfl | rfl | rfl | rfl
        · exact lo (by omega)
        · exact lo (by omega)
        · exact lo (by omega)
        · exact lo (by omega)
        · exact lo (by omega)
        · rw [if_neg (by omega), hu2, I_sI, if_pos ⟨rfl, rfl, rfl⟩]; rfl
        · rw [if_pos ⟨rfl, rfl, rfl⟩]; rfl
      · rw [if_neg s, o3.2.2.2.2.2 _ _ _ (by omega)]
        exact hT.2.1 r (by omega) c hc
theorem r_stnd {T : TW} (p1 x2 : Int32) (K : Int32 → Int32 → MM → Option (Int32 × MM)) (h : RC X y m p E n g) (hT : RN m y T) (N : NT T) {a b : Int32} (ha : m.I 22 (y + 38) 1 = a) (hb : m.I 22 (y + 38) 2 = b) : l_X10_thingLine_47 y p1 K FU x2 0 0 m = K x2 (bI (tkB T a b)) m := by
  have hN := N.le0
  have M := h.md
  obtain ⟨s, i1, e⟩ := lp_inv (fun n i (s : Int32) => l_X10_thingLine_47 y p1 K n x2 s i m) (fun i s => s = bI ((List.range i).any (thAt T a b))) (fun s => K x2 s m) (T.2.1 0) (fun i hi s hI => by
    subst hI
    refine ⟨bI ((List.range (i + 1)).any (thAt T a b)), rfl, fun n => ?_⟩
    show g_X10_thingLine_47 y p1 (l_X10_thingLine_47 y p1 K n) K x2 _ (nI i) m = _
    have ea : (7 : Int32) * nI i + 1 = nI (7 * i + 1) := by
      show nI 7 * nI i + nI 1 = _
      rw [pk_mul, nI_add]
    have eb : (7 : Int32) * nI i + 2 = nI (7 * i + 2) := by
      show nI 7 * nI i + nI 2 = _
      rw [pk_mul, nI_add]
    unfold g_X10_thingLine_47 g_X10_thingLine_104 g_X10_thingLine_108 g_X10_thingLine_109
    rw [chk_t h.k, M.c1150, M.n1150, chk_t (show inb 2 32 = true by decide), show Int32.toNatClampNeg 2 = 2 from rfl, hT.1.2.2.1, if_neg (nI_ge hi (by omega)), anyS]
    cases ho : (List.range i).any (thAt T a b) with
    | true =>
      rw [if_neg (show ¬ bI true = 0 by decide), Bool.true_or, nI_1]
      rfl
    | false =>
      rw [if_pos (show bI false = 0 by rfl), M.c1151, M.n1151, ea, chk_t (inb_nI (show 7 * i + 1 < 91 by omega) (by decide)), M.c1147, M.n1147, chk_t (show inb 1 6 = true by decide), cl_nI (by omega), show Int32.toNatClampNeg 1 = 1 from rfl, ha, hT.2.1 i hi 1 (by omega), eb, chk_t (inb_nI (show 7 * i + 2 < 91 by omega) (by decide)), chk_t (show inb 2 6 = true by decide), cl_nI (by omega), hb, hT.2.1 i hi 2 (by omega), nI_1, Bool.false_or]
      unfold thAt
      by_cases c1 : T.2.2 0 i 1 = a
      · rw [if_pos c1, decide_eq_true c1, Bool.true_and]
        by_cases c2 : T.2.2 0 i 2 = b
        · rw [if_pos c2, decide_eq_true c2]; rfl
        · rw [if_neg c2, decide_eq_false c2]; rfl
      · rw [if_neg c1, decide_eq_false c1, Bool.false_and]; rfl) (fun s hI n => by
    show g_X10_thingLine_47 y p1 (l_X10_thingLine_47 y p1 K n) K x2 s (nI (T.2.1 0)) m = _
    unfold g_X10_thingLine_47
    rw [chk_t h.k, M.c1150, M.n1150, chk_t (show inb 2 32 = true by decide), show Int32.toNatClampNeg 2 = 2 from rfl, hT.1.2.2.1, if_pos (Int32.le_refl _)]) (s0 := 0) rfl
  have := e FU (by unfold FU; omega)
  rw [i1] at this
  exact this
theorem nc_move {B a x1 x2 x3 : Nat} {t b1 b2 b3 : Bool} (ha : a ≠ 0) (h1 : x1 ≠ 0) (h2 : x2 ≠ 0) (h3 : x3 ≠ 0) : ncT (ncT (ncT (ncT B t a) b1 x1) b2 x2) b3 x3 = ncT (ncT (ncT (ncT B b1 x1) b2 x2) b3 x3) t a := by
  rw [ncT_cm (E := B) ha h1, ncT_cm (E := ncT B b1 x1) ha h2, ncT_cm (E := ncT (ncT B b1 x1) b2 x2) ha h3]
theorem r_thing {T : TW} (h : RC X y m p E 0 1) (hT : RN m y T) (N : NT T) {z : Int32} {hd : Nat} (hz : z = nI hd) (hh : hd ≤ 500) : LnR X y m (f_X10_thingLine y z m) (thO X p) (eThing T hd (vT X p) (sT X p) (wdT X (itN X p 5) 2) (vT X (tkN X (itN X p 5)) 0) (sT X (tkN X (itN X p 5)) 0) E) (Ct y (eThing T hd (vT X p) (sT X p) (wdT X (itN X p 5) 2) (vT X (tkN X (itN X p 5)) 0) (sT X (tkN X (itN X p 5)) 0) E) (uThing T (vT X p) (wdT X (itN X p 5) 2) (vT X (tkN X (itN X p 5)) 0))) := by
  have l5 := h.l5
  have hp := h.2.2.2.2.2
  have hN := N.le0
  have M := h.md
  unfold f_X10_thingLine g_X10_thingLine_0
  rw [chk_t h.k, M.c1150, M.n1150, chk_t (show inb 2 32 = true by decide), show Int32.toNatClampNeg 2 = 2 from rfl, hT.1.2.2.1]
  obtain ⟨u0, e0, o0, c0⟩ := r_note h (k := 3) (f := 3) rfl hz (by omega) (by omega) hh (nIk (a := T.2.1 0) (k := 12) (v := 12) rfl (by omega) (by omega)) (g_X10_thingLine_17 y z)
  rw [e0]
  have q0 := o0.nq (by omega) (by omega)
  have T0 := hT.nq q0
  have nf : ∀ k pl, k ≤ 5 → nmT X p k = .inl pl → thO X p = .inl pl := fun k pl hk a => by
    unfold thO
    have := nmT_l a (5 - k)
    rw [show k + (5 - k) = 5 by omega] at this
    rw [this]
    rfl
  unfold g_X10_thingLine_17
  rw [chk_t c0.k]
  refine r_num (q := p) (k := 0) (P := fun R => LnR X y m (cal R _) _ _ _) c0 (by omega) rfl (fun i hi => by omega) 0 5 _ rfl (fun u pl a1 a2 a3 => ?_) (fun u1 a1 a2 a3 a4 a5 => ?_)
  · rw [cal_s, if_pos rfl]; exact lr_f rfl (nf _ pl (by omega) a1) (q0.tr a2).rm a3
  have y3 : u1.I 1140 y 0 = nI (sT X p 1) := a3.2.1.2.1
  have T1 := T0.nq a2
  rw [cal_s, if_neg (by decide), chk_t a3.k, bnd_e, y3]
  refine r_pt (P := fun R => LnR X y m (cal R _) _ _ _) a3 (by omega) a1 a4 T1 _ rfl (fun u pl b1 b2 b3 => ?_) (fun u2 b1 b2 b3 b4 => ?_)
  · rw [cal_s, if_pos rfl]; exact lr_f rfl (nf _ pl (by omega) b1) ((q0.tr a2).tr b2).rm b3
  have T2 := T1.nq b2
  rw [cal_s, if_neg (by decide), r_stnd z (nI (sT X p 1)) (g_X10_thingLine_116 y z) b3 T2 N (b4 1 (by omega)) (b4 2 (by omega))]
  unfold g_X10_thingLine_116
  have O2 := (q0.tr a2).tr b2
  obtain ⟨u3, e3, o3, c3⟩ : ∃ u, (if bI (tkB T (nI (vT X p 1)) (nI (vT X p 2))) = 0 then g_X10_thingLine_126 y z u2 else chk (u2.K y = 11) (cal (f_X10_later y 4 (nI (sT X p 1)) u2) (fun r6 m11 => g_X10_thingLine_126 y z m11))) = g_X10_thingLine_126 y z u ∧ Rs y 1145 1147 u2 u ∧ RC X y u (itN X p 3) (ncT (e2T (e2T (e2T (ncT E (decide (T.2.1 0 = 12)) (8 * hd + 3)) (vT X p 0) 0 5 (sT X p 0)) (vT X p 1) 0 (T.1 0 - 1) (sT X p 1)) (vT X p 2) 0 (T.1 1 - 1) (sT X p 2)) (tkB T (nI (vT X p 1)) (nI (vT X p 2))) (8 * sT X p 1 + 4)) 3 (cond (inR (nI (vT X p 2)) 0 (T.1 1 - 1)) (cond (inR (nI (vT X p 1)) 0 (T.1 0 - 1)) (cond (inR (nI (vT X p 0)) 0 5) 1 0) 0) 0) := by
    cases tkB T (nI (vT X p 1)) (nI (vT X p 2)) with
    | false => exact ⟨u2, by rw [if_pos (show bI false = 0 by rfl)], Rs.rf y _ _ u2, b3⟩
    | true =>
      obtain ⟨u, l1, l2, l3⟩ := r_later b3 (k := 4) (z := nI (sT X p 1)) (f := 4) rfl rfl (by omega) (by omega) (sT_le hp l5 1).2
      exact ⟨u, by rw [if_neg (show ¬ bI true = 0 by decide), chk_t b3.k, l1, cal_s], l2, l3⟩
  rw [e3]
  have O3 := O2.tr (o3.nq (by omega) (by omega))
  have v3 : NR X y u3 p 3 := b4.nq (fun j => o3.2.2.2.2.1 _ _ _ (by omega))
  unfold g_X10_thingLine_126
  rw [chk_t c3.k]
  refine r_num (P := fun R => LnR X y m (cal R _) _ _ _) c3 (by omega) b1 v3 0 7 _ rfl (fun u pl d1 d2 d3 => ?_) (fun u4 d1 d2 d3 d4 d5 => ?_)
  · rw [cal_s, if_pos rfl]; exact lr_f rfl (nf _ pl (by omega) d1) (O3.tr d2).rm d3
  rw [cal_s, if_neg (by decide), chk_t d3.k]
  refine r_num (P := fun R => LnR X y m (cal R _) _ _ _) d3 (by omega) d1 d4 0 999 _ rfl (fun u pl f1 f2 f3 => ?_) (fun u5 f1 f2 f3 f4 f5 => ?_)
  · rw [cal_s, if_pos rfl]; exact lr_f rfl (nf _ pl (by omega) f1) ((O3.tr d2).tr f2).rm f3
  have O5 := (O3.tr d2).tr f2
  have T5 := hT.nq O5
  rw [cal_s, if_neg (by decide), chk_t f3.k, r_isWord f3 (k := 2) (by decide) (by omega), cal_s]
  have done : ∀ (w : Bool), eThing T hd (vT X p) (sT X p) w (vT X (tkN X (itN X p 5)) 0) (sT X (tkN X (itN X p 5)) 0) E = 0 → T.2.1 0 ≠ 12 := fun w z0 => (eThA_0 (ncT_0 (ncT_0 z0 (by omega)).1 (by omega)).1).2
  cases hw : wdT X (itN X p 5) 2 with
  | false =>
    have ho : thO X p = .inr (itN X p 5) := by
      unfold thO
      rw [f1]
      show cond (wdT X (itN X p 5) 2) _ _ = _
      rw [hw]
      rfl
    obtain ⟨u6, T', w1, w2, w3, w4, w5, w6⟩ := en_thing z (-1) f3 T5 N (vT X p) (fun c hc => f4 c hc)
    have mv := nc_move (B := e2T (e2T (e2T (ncT E (decide (T.2.1 0 = 12)) (8 * hd + 3)) (vT X p 0) 0 5 (sT X p 0)) (vT X p 1) 0 (T.1 0 - 1) (sT X p 1)) (vT X p 2) 0 (T.1 1 - 1) (sT X p 2)) (a := 8 * sT X p 1 + 4) (t := tkB T (nI (vT X p 1)) (nI (vT X p 2))) (x1 := 8 * sT X p 3 + 2) (b1 := !inR (nI (vT X p 3)) 0 7) (x2 := 8 * sT X p 4 + 2) (b2 := !inR (nI (vT X p 4)) 0 999) (x3 := 1) (b3 := false) (by omega) (by omega) (by omega) (by omega)
    rw [if_pos (show bI false = 0 by rfl), w1]
    exact .inr ⟨u6, _, _, _, rfl, ho, O5.rm.tr w2, w3.e mv.symm, T', w4, w5, fun z0 => w6 (done false z0)⟩
  | true =>
    have hs : thO X p = nmT X (tkN X (itN X p 5)) 1 := by
      unfold thO
      rw [f1]
      show cond (wdT X (itN X p 5) 2) _ _ = _
      rw [hw]
      rfl
    obtain ⟨u6, t1, t2, t3⟩ := r_token f3 (by have h1 : tkK X (itN X p 5) = 1 := wdk1 hw; show tkK X (itN X p 5) ≠ 4; omega)
    have q6 := t2.nq (by omega) (by omega)
    rw [if_neg (show ¬ bI true = 0 by decide), chk_t f3.k, t1, cal_s, chk_t t3.k]
    rcases r_num1 t3 (by omega) 0 3 with ⟨a, u, k1, k2, k3⟩ | ⟨a, u7, k1, k2, k3, k4, k5⟩
    · rw [k1, cal_s, if_pos rfl]
      exact lr_f rfl (hs.trans (nmT_f (k := 0) rfl a)) ((O5.tr q6).tr k2).rm k3
    · have M7 := k3.md
      have O7 := (O5.tr q6).tr k2
      have T7 := hT.nq O7
      have v7 : ∀ c, c < 5 → u7.I 22 (y + 38) c = nI (vT X p c) := fun c hc => (k5 c (by omega)).trans ((t2.2.2.2.2.1 _ _ _ (by omega)).trans (f4 c hc))
      rw [k1, cal_s, if_neg (by decide), chk_t k3.k, M7.c1147, M7.n1147, chk_t (show inb 5 6 = true by decide), show Int32.toNatClampNeg 5 = 5 from rfl, k4, bnd_e]
      obtain ⟨u8, T', w1, w2, w3, w4, w5, w6⟩ := en_thing z (nI (tkV X (tkN X (itN X p 5)))) k3 T7 N (vT X p) v7
      have mv := nc_move (B := e2T (e2T (e2T (ncT E (decide (T.2.1 0 = 12)) (8 * hd + 3)) (vT X p 0) 0 5 (sT X p 0)) (vT X p 1) 0 (T.1 0 - 1) (sT X p 1)) (vT X p 2) 0 (T.1 1 - 1) (sT X p 2)) (a := 8 * sT X p 1 + 4) (t := tkB T (nI (vT X p 1)) (nI (vT X p 2))) (x1 := 8 * sT X p 3 + 2) (b1 := !inR (nI (vT X p 3)) 0 7) (x2 := 8 * sT X p 4 + 2) (b2 := !inR (nI (vT X p 4)) 0 999) (x3 := 8 * tkS X (tkN X (itN X p 5)) + 2) (b3 := !inR (nI (tkV X (tkN X (itN X p 5)))) 0 3) (by omega) (by omega) (by omega) (by omega)
      rw [w1]
      exact .inr ⟨u8, _, _, _, rfl, hs.trans (nmT_s (k := 0) rfl a), O7.rm.tr w2, w3.e mv.symm, T', w4, w5, fun z0 => w6 (done true z0)⟩
end RThing
