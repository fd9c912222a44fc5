section PEA
variable {m : MM} {x t l d i j p : Nat} {T : TW} {B : LW} {wo : Int32} {A : Nat → Nat → Bool} {kk : Nat → Nat} {ff : Nat → Int32}
theorem c_peaceWith (C : CS m x t l T B d 0 255 wo) (hi : i < 3) (hj : j < 3) (hij : i ≠ j) (hp : p < 64) (hkk : ∀ e, e = i ∨ e = j → kk e < 6) (hff : ∀ e, e = i ∨ e = j → ff e = -1 ∨ nB (ff e) 4) (hS : Bo m (x + 101 + i) (gst (kk i) (ff i) p)) (hW : Wl m x j (kk j) (ff j)) (hJ : m.J 23 (x + 104) j = mkL (A j) 64) : ∃ n, f_X3_peaceWith (x + 99) (nI i) (nI j) m = some (mkL (pwB A (gsC T B d wo kk ff) i j p) 64, n) ∧ Gi x j m n := by
  have g := C.1.2.2.2.2
  have e1 : ¬ nI j < 0 := nI_pos (by omega)
  have e2 : nI j < nI 3 := nI_lt hj (by decide)
  have ep : nI (p / 8) * 8 + nI (p % 8) = nI p := by
    show nI (p / 8) * nI 8 + nI (p % 8) = _
    rw [pk_mul, nI_add]
    congr 1; omega
  obtain ⟨s, ⟨q1, q2⟩, q3⟩ := lp_inv (fun n q (s : Int64 × MM) => l_X3_peaceWith_57 (x + 99) (nI i) (nI j) n (some (x + 101 + i)) (some (x + 101 + j)) s.1 (nI p) q s.2) (fun q s => s.1 = mkL (pwB A (gsC T B d wo kk ff) i j p) q ∧ Gi x j m s.2) (fun s => some (s.1, s.2)) 64 (fun q hq s hI => by
    obtain ⟨a1, a2⟩ := hI
    have Cs := C.pn (a2.p hj)
    have gs := Cs.1.2.2.2.2
    have z1 : ¬ (64 : Int32) ≤ nI q := nI_ge (b := 64) hq (by decide)
    have hJs : s.2.J 23 (x + 104) j = mkL (A j) 64 := by rw [a2.2.2.2.2.1]; exact hJ
    have hpw : pwB A (gsC T B d wo kk ff) i j p q = (A j q && (!decide (p = q) && !gsC T B d wo kk ff i p j q)) := rfl
    cases hA : A j q with
    | false =>
      rw [hA, Bool.false_and] at hpw
      refine ⟨s, ⟨by rw [mkL_s (pwB A (gsC T B d wo kk ff) i j p) q, hpw]; exact a1, a2⟩, fun n => ?_⟩
      show g_X3_peaceWith_57 (x + 99) (nI i) (nI j) (l_X3_peaceWith_57 (x + 99) (nI i) (nI j) n) (some (x + 101 + i)) (some (x + 101 + j)) s.1 (nI p) (nI q) s.2 = _
      simp only [g_X3_peaceWith_57, g_X3_peaceWith_119, if_neg z1, chk_t gs.1, ck_e gs.2.2.2.1 gs.2.2.2.2.2.2.2.1, gs.2.2.2.2.2.2.2.2.1, chk_t (inb_nI hj (by decide)), cl_nI (show j < 2 ^ 31 by omega), hJs, btL_q _ hq, btL_mk (show 64 ≤ 64 by omega) q hq, decide_eq_true hq, Bool.true_and, hA, if_true, nI_1]
    | true =>
      rw [hA, Bool.true_and] at hpw
      by_cases hpq : p = q
      · rw [decide_eq_true hpq] at hpw
        refine ⟨s, ⟨by rw [mkL_s (pwB A (gsC T B d wo kk ff) i j p) q, hpw]; exact a1, a2⟩, fun n => ?_⟩
        show g_X3_peaceWith_57 (x + 99) (nI i) (nI j) (l_X3_peaceWith_57 (x + 99) (nI i) (nI j) n) (some (x + 101 + i)) (some (x + 101 + j)) s.1 (nI p) (nI q) s.2 = _
        simp only [g_X3_peaceWith_57, g_X3_peaceWith_119, if_neg z1, chk_t gs.1, ck_e gs.2.2.2.1 gs.2.2.2.2.2.2.2.1, gs.2.2.2.2.2.2.2.2.1, chk_t (inb_nI hj (by decide)), cl_nI (show j < 2 ^ 31 by omega), hJs, btL_q _ hq, btL_mk (show 64 ≤ 64 by omega) q hq, decide_eq_true hq, Bool.true_and, hA, Bool.true_eq_false, if_false, hpq, if_true, nI_1]
      · rw [decide_eq_false hpq, Bool.not_false, Bool.true_and] at hpw
        have z2 : ¬ nI q = nI p := fun y => hpq (nI_inj (by omega) (by omega) y).symm
        obtain ⟨n1, u1, u2, u3⟩ := c_seatAt Cs.1 hj (hW.gi a2) hq
        have C1 := Cs.pn (u2.p hj)
        have hS1 : Bo n1 (x + 101 + i) (gst (kk i) (ff i) p) := (hS.gi a2 hij).gi u2 hij
        have cc := c_clash C1.2.1 C1.2.2.1 C1.2.2.2.1 C1.2.2.2.2.1 hS1 u3 (gst_v (hkk i (.inl rfl)) (hff i (.inl rfl)) hp) (gst_v (hkk j (.inr rfl)) (hff j (.inr rfl)) hq)
        have cc : f_X5_clash (x + 81) (some (x + 101 + i)) (some (x + 101 + j)) n1 = some (bI (gsC T B d wo kk ff i p j q), n1) := cc
        refine ⟨(mkL (pwB A (gsC T B d wo kk ff) i j p) (q + 1), n1), ⟨rfl, a2.tr u2⟩, fun n => ?_⟩
        show g_X3_peaceWith_57 (x + 99) (nI i) (nI j) (l_X3_peaceWith_57 (x + 99) (nI i) (nI j) n) (some (x + 101 + i)) (some (x + 101 + j)) s.1 (nI p) (nI q) s.2 = _
        simp only [g_X3_peaceWith_57, g_X3_peaceWith_119, if_neg z1, chk_t gs.1, ck_e gs.2.2.2.1 gs.2.2.2.2.2.2.2.1, gs.2.2.2.2.2.2.2.2.1, chk_t (inb_nI hj (by decide)), cl_nI (show j < 2 ^ 31 by omega), hJs, btL_q _ hq, btL_mk (show 64 ≤ 64 by omega) q hq, decide_eq_true hq, Bool.true_and, hA, Bool.true_eq_false, if_false, if_neg z2, u1, chk_t, ck_sI, ck_sR, ck_sJ, cal_s, bnd_e, ifn_s, ifn_n, chk_t C1.1.2.2.2.2.1, C1.1.2.2.2.2.2.1, ck_s C1.1.th, cc, bI_0, nI_1, a1]
        rw [mkL_s (pwB A (gsC T B d wo kk ff) i j p) q, hpw]
        cases gsC T B d wo kk ff i p j q <;> simp) (fun s hI n => by
    show g_X3_peaceWith_57 (x + 99) (nI i) (nI j) (l_X3_peaceWith_57 (x + 99) (nI i) (nI j) n) (some (x + 101 + i)) (some (x + 101 + j)) s.1 (nI p) (nI 64) s.2 = _
    simp only [g_X3_peaceWith_57, if_pos (show (64 : Int32) ≤ nI 64 by decide)]) (s0 := (0, m)) ⟨rfl, Gi.rf x j m⟩
  refine ⟨s.2, ?_, q2⟩
  have b1 : m.I 101 (x + 101 + i) 0 = nI (p % 8) := hS.2.2.1
  have b2 : m.I 102 (x + 101 + i) 0 = nI (p / 8) := hS.2.2.2.1
  simp only [f_X3_peaceWith, g_X3_peaceWith_0, chk_t g.1, c_guest C.1 hi, c_guest C.1 hj, chk_t, ck_sI, ck_sR, ck_sJ, cal_s, bnd_e, ifn_s, ifn_n, if_neg e1, ck_e g.2.2.2.1 g.2.2.2.2.2.2.2.1, g.2.2.2.2.2.2.2.2.1, ofN, if_pos e2, chk_t hS.1, b1, b2, ep]
  refine (q3 FU (by unfold FU; omega)).trans ?_
  rw [q1]
end PEA
