/-! the reference's own share of the state -/
def RI (m : MM) (x : Nat) (W : WD) : Prop := Md m (x + 106) ∧ RW m (x + 106) 0 W ∧ VW W ∧ W.nt ≤ 3 ∧ W.nl ≤ 3 ∧ (∀ i, i < W.nt → NT (W.tn i)) ∧ W.ln ≤ 500
theorem Inv.ri {m : MM} {x : Nat} {W : WD} {D : Nat → Option (Nat × WD)} (h : Inv m x W D) : RI m x W := ⟨h.M, h.R, h.V, h.nt, h.nl, fun _ hi => h.nn hi, h.T.lnle⟩
theorem Mq_w {x : Nat} {A B : MM → Option (Int32 × MM)} (R : WD → Int32) (V : WD → WD) (hA : ∀ m W D, Inv m x W D → ∃ m1, A m = some (R W, m1) ∧ Gq x m m1 ∧ Ag m m1 (x + 61) (x + 81) ∧ Ar m m1 (x + 106) ∧ TD m1 (x + 1) (V W) ∧ VW (V W)) (hB : ∀ m W, RI m x W → ∃ m2, B m = some (R W, m2) ∧ Gq x m m2 ∧ Ag m m2 (x + 1) (x + 81) ∧ RW m2 (x + 106) 0 (V W)) : Mq x A B := by
  intro m W D h
  obtain ⟨m1, e1, g1, a1, r1, t1, v1⟩ := hA m W D h
  have hR : RI m1 x W := ⟨g1.md h.M, h.R.kept r1, h.V, h.nt, h.nl, fun _ hi => h.nn hi, h.T.lnle⟩
  obtain ⟨m2, e2, g2, a2, w2⟩ := hB m1 W hR
  obtain ⟨T, hT⟩ := h.2.2.1
  obtain ⟨L, hL⟩ := h.2.2.2.1
  refine ⟨R W, m1, m2, V W, D, e1, e2, h.step (g1.tr g2) ⟨T, ?_⟩ ⟨L, ?_⟩ (t1.kept (a2.sub (by omega) (by omega))) w2 v1⟩
  · exact hT.kept ((a1.sub (by omega) (by omega)).tr (a2.sub (by omega) (by omega)))
  · exact hL.kept ((a1.sub (by omega) (by omega)).tr (a2.sub (by omega) (by omega)))
section RIM
variable {m : MM} {x : Nat} {W : WD}
theorem RI.code (h : RI m x W) : RI (m.sI 1100 (x + 106) 0 0) x W := by
  have f := fq_code x m
  exact ⟨f.md h.1, h.2.1.kept f.ar, h.2.2⟩
theorem RI.rt (h : RI m x W) {i : Nat} (hi : i < W.nt) : RT m (x + 106) i (W.tn i) := by have := h.2.1.2.2.2.2.2.2.1 i hi; rw [Nat.mul_zero, Nat.zero_add] at this; exact this
theorem RI.rl (h : RI m x W) {i : Nat} (hi : i < W.nl) : RLw m (x + 106) i (W.lw i) := by have := h.2.1.2.2.2.2.2.2.2 i hi; rw [Nat.mul_zero, Nat.zero_add] at this; exact this
theorem r_isThingR (g : RI m x W) {i : Nat} (hi : i < W.nt) (q : Int32) : f_X10_isThing (x + 106) (nI i) q m = some (bI (isN ((W.tn i).2.1 0) q), m) := by
  have hnt := g.2.2.2.1
  have hn := (g.2.2.2.2.2.1 i hi).1
  have o2 : f_X10_of (x + 106) (nI i) 2 m = some (nI ((W.tn i).2.1 0), m) := by rw [← (g.rt hi).1.2.2.1]; exact r_of g.1 (w := 2) (by omega) (by omega)
  simp only [g_X10_isThing_28, g_X10_isThing_0, f_X10_isThing, chk_t g.1.1, r_isTown g.1 g.2.1 hnt, isN_nI (show W.nt < 2 ^ 31 by omega) hi, chk_t, ck_sI, ck_sR, ck_sJ, cal_s, bnd_e, ifn_s, ifn_n, o2, r_in, inR_isN (show (W.tn i).2.1 0 < 2 ^ 30 by omega), bI_0, Bool.true_eq_false, if_false]
  cases isN ((W.tn i).2.1 0) q <;> rfl
theorem r_isThingR0 (g : RI m x W) {p : Int32} (hp : isN W.nt p = false) (q : Int32) : f_X10_isThing (x + 106) p q m = some (0, m) := by
  simp only [g_X10_isThing_28, g_X10_isThing_0, f_X10_isThing, chk_t g.1.1, r_isTown g.1 g.2.1 g.2.2.2.1, hp, chk_t, ck_sI, ck_sR, ck_sJ, cal_s, bnd_e, ifn_s, ifn_n, bI_0, if_true]
end RIM
/-- told's head is written anew -/
theorem TD.head {m n : MM} {t : Nat} {W V : WD} (h : TD m t W) (hA : Ag m n (t + 1) (t + 58)) (hK : n.K t = m.K t) (hR : ∀ s, n.R s t 0 = m.R s t 0) (e1 : n.I 801 t 0 = nI V.ln) (l1 : V.ln ≤ 500) (e2 : n.I 802 t 0 = V.fa) (e3 : n.I 803 t 0 = V.pl) (e4 : n.I 804 t 0 = nI V.nt) (l4 : V.nt ≤ 3) (e5 : n.I 805 t 0 = nI V.nl) (l5 : V.nl ≤ 3) (q1 : V.tp = W.tp) (q2 : V.tn = W.tn) (q3 : V.lw = W.lw) : TD n t V := by
  have a1 := hA (t + 1) (by omega) (by omega)
  have a2 := hA (t + 2) (by omega) (by omega)
  have a3 := hA (t + 3) (by omega) (by omega)
  refine ⟨by rw [hK]; exact h.K, by rw [hR]; exact h.Rt, by rw [hR]; exact h.Rr, by rw [hR]; exact h.Rl, by rw [a1.1]; exact h.K1, by rw [a1.2.1]; exact h.N1, by rw [a2.1]; exact h.K2, by rw [a2.2.1]; exact h.N2, by rw [a3.1]; exact h.K3, by rw [a3.2.1]; exact h.N3, fun i hi => by rw [a2.2.2.2]; exact h.rT i hi, fun i hi => by rw [a3.2.2.2]; exact h.rL i hi, fun j hj => by rw [a1.2.2.1, q1]; exact h.tp j hj, e1, l1, e2, e3, e4, l4, e5, l5, fun i hi => ?_, fun i hi => ?_⟩
  · rw [q2]; exact (h.T i hi).kept (hA.sub (by omega) (by omega))
  · rw [q3]; exact (h.L i hi).kept (hA.sub (by omega) (by omega))
