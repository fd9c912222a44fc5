/-! a whole text of a town: the class -/
def fmSize (X : Tx) (p : Nat) : Nat ⊕ Nat := cond (wdT X p 0) (fmT X (tkN X p) 2) (.inl (tkS X p))
def eSize (v s : Nat → Nat) (E : Nat) : Nat := e2T (e2T E (v 0) 1 8 (s 0)) (v 1) 1 8 (s 1)
def uSize (T : TW) (v : Nat → Nat) : TW := setV (setV T 0 (nI (v 0))) 1 (nI (v 1))
def lfT (X : Tx) (p : Nat) : Nat ⊕ Nat := cond (wdT X p 1) (fmThing X p) (cond (wdT X p 3) (fmT X (tkN X p) 5) (cond (wdT X p 4) (fmT X (tkN X p) 4) (cond (wdT X p 5) (fmT X (tkN X p) 2) (cond (wdT X p 6) (fmSlope X p) (cond (wdT X p 9) (fmT X (tkN X p) 3) (cond (wdT X p 10) (fmT X (tkN X p) 3) (cond (wdT X p 11) (fmT X (tkN X p) 2) (cond (wdT X p 12) (fmT X (tkN X p) 2) (.inl (tkS X p))))))))))
def leT (X : Tx) (p : Nat) (T : TW) (E : Nat) : Nat := cond (wdT X p 1) (eThing T (tkS X p) (vT X (tkN X p)) (sT X (tkN X p)) (wdT X (itN X (tkN X p) 5) 2) (vT X (tkN X (itN X (tkN X p) 5)) 0) (sT X (tkN X (itN X (tkN X p) 5)) 0) E) (cond (wdT X p 3) (eWall T (tkS X p) (vT X (tkN X p)) (sT X (tkN X p)) E) (cond (wdT X p 4) (eFence T (tkS X p) (vT X (tkN X p)) (sT X (tkN X p)) E) (cond (wdT X p 5) (eWind (vT X (tkN X p)) (sT X (tkN X p)) E) (cond (wdT X p 6) (eSlope X p E) (cond (wdT X p 9) (eLeave T (tkS X p) (vT X (tkN X p)) (sT X (tkN X p)) E) (cond (wdT X p 10) (eObj T (tkS X p) (vT X (tkN X p)) (sT X (tkN X p)) E) (cond (wdT X p 11) (eCost T (vT X (tkN X p)) (sT X (tkN X p)) E) (cond (wdT X p 12) (eGrow (vT X (tkN X p)) (sT X (tkN X p)) E) E))))))))
def luT (X : Tx) (p : Nat) (T : TW) : TW := cond (wdT X p 1) (uThing T (vT X (tkN X p)) (wdT X (itN X (tkN X p) 5) 2) (vT X (tkN X (itN X (tkN X p) 5)) 0)) (cond (wdT X p 3) (addR T 1 (fun c => nI (vT X (tkN X p) c))) (cond (wdT X p 4) (addR T 2 (fun c => nI (vT X (tkN X p) c))) (cond (wdT X p 5) (uWind T (vT X (tkN X p))) (cond (wdT X p 6) (uSlope X p T) (cond (wdT X p 9) (addR T 3 (fun c => nI (vT X (tkN X p) c))) (cond (wdT X p 10) (addR T 4 (fun c => nI (vT X (tkN X p) c))) (cond (wdT X p 11) (uCost T (vT X (tkN X p))) (cond (wdT X p 12) (uGrow T (vT X (tkN X p))) T))))))))
def rdL (X : Tx) : Nat → Nat → Nat → Nat → TW → Nat ⊕ (Nat × TW)
  | 0, _, _, E, T => .inr (E, T)
  | k + 1, p, n, E, T => if tkK X p = 0 then .inr (E, T) else match lfT X p with
    | .inl pl => .inl pl
    | .inr q => rdL X k q (n + 1) (leT X p T (ncT E (decide (40 ≤ n)) (8 * tkS X p + 3))) (if leT X p T (ncT E (decide (40 ≤ n)) (8 * tkS X p + 3)) = 0 then luT X p T else T)
/-- a town of which nothing is told yet -/
def TC : TW := (fun i => if i < 10 then 0 else -1, fun _ => 0, fun _ _ _ => 0)
def rdT (X : Tx) : Nat ⊕ (Nat × TW) := match fmSize X 0 with
  | .inl pl => .inl pl
  | .inr q => rdL X 501 q 0 (eSize (vT X (tkN X 0)) (sT X (tkN X 0)) 0) (uSize TC (vT X (tkN X 0)))
section CTown
variable {X : Tx} {x : Nat} {m : MM} {p E : Nat}
theorem tkN_ge' (X : Tx) (p : Nat) : p ≤ tkN X p := Nat.le_trans (tkS_ge X p) (tkN_ge X p)
theorem stT_gt {r q : Nat} (h : stT X r = .inr q) : r < q ∧ (r ≤ X.2 → q ≤ X.2) := by
  unfold stT at h
  by_cases c : tkK X r = 3
  · rw [if_pos c] at h
    injection h with h
    have := tkN_gt (X := X) (p := r) (by omega) (by omega)
    have := tkS_ge X r
    exact ⟨by omega, fun u => by rw [← h]; exact tkN_le u⟩
  · rw [if_neg c] at h; cases h
theorem nmT_ge : ∀ {k q r : Nat}, nmT X q k = .inr r → q ≤ r ∧ (q ≤ X.2 → r ≤ X.2)
  | 0, q, r, h => by injection h with h; subst h; exact ⟨Nat.le_refl _, fun u => u⟩
  | k + 1, q, r, h => by
    cases hk : nmT X q k with
    | inl a => rw [nmT_l hk 1] at h; cases h
    | inr r2 =>
      by_cases c : tkK X r2 = 2
      · rw [nmT_s hk c] at h
        injection h with h
        obtain ⟨a, b⟩ := nmT_ge hk
        have := tkN_ge' X r2
        exact ⟨by omega, fun u => by rw [← h]; exact tkN_le (b u)⟩
      · rw [nmT_f hk c] at h; cases h
theorem bdT_r {o : Nat ⊕ Nat} {f : Nat → Nat ⊕ Nat} {q : Nat} (h : bdT o f = .inr q) : ∃ r, o = .inr r ∧ f r = .inr q := by
  cases o with
  | inl a => cases h
  | inr r => exact ⟨r, rfl, h⟩
theorem fmT_gt {r k q : Nat} (h : fmT X r k = .inr q) : r < q ∧ (r ≤ X.2 → q ≤ X.2) := by
  obtain ⟨a, h1, h2⟩ := bdT_r h
  obtain ⟨b1, b2⟩ := nmT_ge h1
  obtain ⟨c1, c2⟩ := stT_gt h2
  exact ⟨by omega, fun u => c2 (b2 u)⟩
theorem sgT_ge {r q : Nat} (h : sgT X r = .inr q) : r ≤ q ∧ (r ≤ X.2 → q ≤ X.2) := by
  unfold sgT at h
  split at h
  · injection h with h
    rw [← h]
    exact ⟨tkN_ge' X r, fun u => tkN_le u⟩
  · cases h
theorem lfT_gt {q : Nat} (h : lfT X p = .inr q) : p < q ∧ (p ≤ X.2 → q ≤ X.2) := by
  have hN := tkN_ge' X p
  have key : ∀ k, fmT X (tkN X p) k = .inr q → p < q ∧ (p ≤ X.2 → q ≤ X.2) := fun k g => by
    obtain ⟨a, b⟩ := fmT_gt g
    exact ⟨by omega, fun u => b (tkN_le u)⟩
  unfold lfT at h
  cases h1 : wdT X p 1 with
  | true =>
    rw [h1] at h
    obtain ⟨r, g1, g2⟩ := bdT_r h
    obtain ⟨a1, a2⟩ := nmT_ge g1
    cases hw : wdT X r 2 with
    | true =>
      rw [hw] at g2
      obtain ⟨b1, b2⟩ := fmT_gt (k := 1) g2
      have := tkN_ge' X r
      exact ⟨by omega, fun u => b2 (tkN_le (a2 (tkN_le u)))⟩
    | false =>
      rw [hw] at g2
      obtain ⟨b1, b2⟩ := stT_gt g2
      exact ⟨by omega, fun u => b2 (a2 (tkN_le u))⟩
  | false =>
    rw [h1] at h
    cases h3 : wdT X p 3 with
    | true => rw [h3] at h; exact key _ h
    | false =>
      rw [h3] at h
      cases h4 : wdT X p 4 with
      | true => rw [h4] at h; exact key _ h
      | false =>
        rw [h4] at h
        cases h5 : wdT X p 5 with
        | true => rw [h5] at h; exact key _ h
        | false =>
          rw [h5] at h
          cases h6 : wdT X p 6 with
          | true =>
            rw [h6] at h
            obtain ⟨a, g1, g2⟩ := bdT_r h
            obtain ⟨b, g3, g4⟩ := bdT_r g2
            obtain ⟨c, g5, g6⟩ := bdT_r g4
            obtain ⟨a1, a2⟩ := sgT_ge g1
            obtain ⟨b1, b2⟩ := nmT_ge g3
            obtain ⟨c1, c2⟩ := sgT_ge g5
            obtain ⟨d1, d2⟩ := fmT_gt (k := 1) g6
            exact ⟨by omega, fun u => d2 (c2 (b2 (a2 (tkN_le u))))⟩
          | false =>
            rw [h6] at h
            cases h9 : wdT X p 9 with
            | true => rw [h9] at h; exact key _ h
            | false =>
              rw [h9] at h
              cases h10 : wdT X p 10 with
              | true => rw [h10] at h; exact key _ h
              | false =>
                rw [h10] at h
                cases h11 : wdT X p 11 with
                | true => rw [h11] at h; exact key _ h
                | false =>
                  rw [h11] at h
                  cases h12 : wdT X p 12 with
                  | true => rw [h12] at h; exact key _ h
                  | false => rw [h12] at h; cases h
theorem LnC.un {F : Option (Unit × MM)} {o : Nat ⊕ Nat} {e : Nat} {T : TW} (h : LnC X x m F o e T) : LnC X x m (cal F (fun _ q => some ((), q))) o e T := by
  rcases h with ⟨n, pl, a, b⟩ | ⟨n, p', a, b⟩
  · rw [a, cal_s]; exact .inl ⟨n, pl, rfl, b⟩
  · rw [a, cal_s]; exact .inr ⟨n, p', rfl, b⟩
theorem c_readLine {T : TW} (h : CC X x m p E) (hT : CT m (x + 61) T) : LnC X x m (f_X4_readLine (x + 60) m) (lfT X p) (leT X p T E) (if leT X p T E = 0 then luT X p T else T) := by
  have hh : tkS X p ≤ 500 := by have := tkS_le h.2.2.2; have := h.l5; omega
  unfold f_X4_readLine g_X4_readLine_0 lfT leT luT
  rw [chk_t h.1.1, bnd_e, h.2.1.2.1, c_isWord h (by omega), cal_s]
  cases h1 : wdT X p 1 with
  | true =>
    rw [if_neg (show ¬ bI true = 0 by decide), chk_t h.1.1]
    exact (c_readThing h hT rfl hh).un
  | false =>
    rw [if_pos (show bI false = 0 by rfl), chk_t h.1.1, c_isWord h (by omega), cal_s]
    cases h3 : wdT X p 3 with
    | true =>
      rw [if_neg (show ¬ bI true = 0 by decide), chk_t h.1.1, ck_e h.1.2.1 hT.K, hT.R5]
      exact (c_readWall h hT rfl hh).un
    | false =>
      rw [if_pos (show bI false = 0 by rfl), chk_t h.1.1, c_isWord h (by omega), cal_s]
      cases h4 : wdT X p 4 with
      | true =>
        rw [if_neg (show ¬ bI true = 0 by decide), chk_t h.1.1, ck_e h.1.2.1 hT.K, hT.R6]
        exact (c_readFence h hT rfl hh).un
      | false =>
        rw [if_pos (show bI false = 0 by rfl), chk_t h.1.1, c_isWord h (by omega), cal_s]
        cases h5 : wdT X p 5 with
        | true =>
          rw [if_neg (show ¬ bI true = 0 by decide), chk_t h.1.1]
          exact (c_readWind h hT).un
        | false =>
          rw [if_pos (show bI false = 0 by rfl), chk_t h.1.1, c_isWord h (by omega), cal_s]
          cases h6 : wdT X p 6 with
          | true =>
            rw [if_neg (show ¬ bI true = 0 by decide), chk_t h.1.1]
            exact (c_readSlope h hT).un
          | false =>
            rw [if_pos (show bI false = 0 by rfl), chk_t h.1.1, c_isWord h (by omega), cal_s]
            cases h9 : wdT X p 9 with
            | true =>
              rw [if_neg (show ¬ bI true = 0 by decide), chk_t h.1.1]
              exact (c_readLeave h hT rfl hh).un
            | false =>
              rw [if_pos (show bI false = 0 by rfl), chk_t h.1.1, c_isWord h (by omega), cal_s]
              cases h10 : wdT X p 10 with
              | true =>
                rw [if_neg (show ¬ bI true = 0 by decide), chk_t h.1.1]
                exact (c_readObjection h hT rfl hh).un
              | false =>
                rw [if_pos (show bI false = 0 by rfl), chk_t h.1.1, c_isWord h (by omega), cal_s]
                cases h11 : wdT X p 11 with
                | true =>
                  rw [if_neg (show ¬ bI true = 0 by decide), chk_t h.1.1]
                  exact (c_readCost h hT).un
                | false =>
                  rw [if_pos (show bI false = 0 by rfl), chk_t h.1.1, c_isWord h (by omega), cal_s]
                  cases h12 : wdT X p 12 with
                  | true =>
                    rw [if_neg (show ¬ bI true = 0 by decide), chk_t h.1.1]
                    exact (c_readGrow h hT).un
                  | false =>
                    obtain ⟨n, b1, b2⟩ := c_break h
                    rw [if_pos (show bI false = 0 by rfl), chk_t h.1.1, b1, cal_s]
                    exact .inl ⟨n, _, rfl, rfl, b2⟩
theorem c_readSize {T : TW} (h : CC X x m p E) (hT : CT m (x + 61) T) : LnC X x m (f_X4_readSize (x + 60) m) (fmSize X p) (eSize (vT X (tkN X p)) (sT X (tkN X p)) E) (uSize T (vT X (tkN X p))) := by
  unfold f_X4_readSize g_X4_readSize_0 f_X4_readWord g_X4_readWord_0 fmSize
  rw [chk_t h.1.1, chk_t h.1.1, c_isWord h (by omega), cal_s]
  cases hw : wdT X p 0 with
  | false =>
    obtain ⟨n, b1, b2⟩ := c_break h
    rw [if_pos (show bI false = 0 by rfl), chk_t h.1.1, b1, cal_s, cal_s, if_pos rfl]
    exact .inl ⟨n, _, rfl, rfl, b2⟩
  | true =>
    obtain ⟨m1, e1, o1, h1⟩ := c_step h
    rw [if_neg (show ¬ bI true = 0 by decide), chk_t h.1.1, e1, cal_s, cal_s, if_neg (by decide), chk_t h1.1.1]
    rcases c_numbers h1 (ka := 0) (kn := 2) (a := 0) (k := 2) rfl rfl (by omega) with ⟨m2, pl, e2, n2, f2⟩ | ⟨m2, e2, n2, o2, h2, v2, _⟩
    · rw [e2, cal_s, if_pos rfl]
      refine .inl ⟨m2, pl, rfl, ?_, o1.cp.tr f2.1, f2.2⟩
      show bdT (nmT X (tkN X p) 2) (stT X) = _
      rw [n2]
      rfl
    · rw [e2, cal_s, if_neg (by decide), chk_t h2.1.1]
      rcases c_stop h2 with ⟨m3, e3, s3, f3⟩ | ⟨m3, e3, s3, k3, o3, h3⟩
      · rw [e3, cal_s, if_pos rfl]
        refine .inl ⟨m3, _, rfl, ?_, (o1.cp.tr o2).tr f3.1, f3.2⟩
        show bdT (nmT X (tkN X p) 2) (stT X) = _
        rw [n2]
        exact s3
      · have na : NS X x m3 (tkN X p) 2 := fun i hi => ⟨by have := (v2 i hi).2; rw [Nat.zero_add] at this; exact this.cs o3, (sT_le h1.2.2.2 h.l5 i).2, tkV_lt (v2 i hi).1⟩
        have O3 := (o1.cp.tr o2).tr o3.cp
        obtain ⟨n1, a1, a2, a3, a4⟩ := c_ck h3 na (kk := 0) (i := 0) rfl (by omega) (by omega) 1 8
        obtain ⟨n2', b1, b2, b3, b4⟩ := c_ck a3 a4 (kk := 1) (i := 1) rfl (by omega) (by omega) 1 8
        have cs := a2.tr b2
        have hT3 : CT n2' (x + 61) T := (hT.kept (O3.2.sub (by omega) (by omega))).cs cs
        have t1 : Tq (x + 61) (x + 76) n2' (n2'.sI 900 (x + 61) 0 (nI (vT X (tkN X p) 0))) := (Tq.rf _ _ n2').sI _ _ _ _ (by omega) (by omega)
        have c1 := b3.on t1 (by omega) (by omega)
        have hT4 := hT3.set9 (k := 0) (by omega) (nI (vT X (tkN X p) 0))
        rw [e3, cal_s, if_neg (by decide), chk_t h3.1.1, a1, cal_s, chk_t a3.1.1, b1, cal_s, chk_t b3.1.1, na_n b3.1 (k := 0) (i := 0) rfl (by omega) (b4 0 (by omega)).1, cal_s, ck_e b3.1.2.1 hT3.K, bnd_e, chk_t c1.1.1, na_n c1.1 (k := 1) (i := 1) rfl (by omega) ((b4 1 (by omega)).1.on t1 (by omega)), cal_s, ck_e c1.1.2.1 hT4.K, bnd_e]
        refine ln_ok (p' := tkN X (itN X (tkN X p) 2)) ?_ (O3.tr cs.cp) rfl (t1.sI _ _ _ _ (by omega) (by omega)) b3 (hT4.set9 (k := 1) (by omega) _)
        show bdT (nmT X (tkN X p) 2) (stT X) = _
        rw [n2]
        exact s3
/-! the end of reading -/
def RdC (X : Tx) (x : Nat) (m : MM) (F : Option (Int32 × MM)) (o : Nat ⊕ (Nat × TW)) : Prop := (∃ n pl, F = some (0, n) ∧ o = .inl pl ∧ Tq (x + 60) (x + 81) m n ∧ Ag m n (x + 76) (x + 79) ∧ n.I 510 (x + 60) 0 = 1 ∧ n.I 511 (x + 60) 0 = nI pl ∧ ∃ T, CT n (x + 61) T) ∨ ∃ n E T, F = some (bI (decide (E = 0)), n) ∧ o = .inr (E, T) ∧ Tq (x + 60) (x + 81) m n ∧ Ag m n (x + 76) (x + 79) ∧ FC n x E ∧ CT n (x + 61) T
theorem RdC.pre {n : MM} {F : Option (Int32 × MM)} {o : Nat ⊕ (Nat × TW)} (h1 : Tq (x + 60) (x + 81) m n) (h2 : Ag m n (x + 76) (x + 79)) (h : RdC X x n F o) : RdC X x m F o := by
  rcases h with ⟨a, pl, b1, b2, b3, b4, b5⟩ | ⟨a, E, T, b1, b2, b3, b4, b5⟩
  · exact .inl ⟨a, pl, b1, b2, h1.tr b3, h2.tr b4, b5⟩
  · exact .inr ⟨a, E, T, b1, b2, h1.tr b3, h2.tr b4, b5⟩
theorem c_end66 {T : TW} {P1 : Option Nat} {P2 : Int32} (h : CC X x m p E) (hT : CT m (x + 61) T) : RdC X x m (g_X4_readTown_66 (x + 60) P1 P2 m) (.inr (E, T)) := by
  unfold g_X4_readTown_66
  rw [chk_t h.1.1]
  by_cases z : E = 0
  · rw [if_pos (h.f0 z)]
    exact .inr ⟨m, E, T, by rw [decide_eq_true z]; rfl, rfl, Tq.rf _ _ m, Ag.rf _ _ _, h.2.2.1, hT⟩
  · rw [if_neg (h.f1 z)]
    exact .inr ⟨m, E, T, by rw [decide_eq_false z]; rfl, rfl, Tq.rf _ _ m, Ag.rf _ _ _, h.2.2.1, hT⟩
theorem c_rdL {P1 : Option Nat} {P2 : Int32} : ∀ (k p n E : Nat) (T : TW) (m : MM), n + k = 501 → n ≤ p → CC X x m p E → CT m (x + 61) T → ∀ f, k < f → RdC X x m (l_X4_readTown_19 (x + 60) P1 P2 (g_X4_readTown_66 (x + 60) P1 P2) f (nI (n + 1)) m) (rdL X k p n E T) := by
  intro k
  induction k with
  | zero => intro p n E T m h1 h2 c; have := c.2.2.2; have := c.l5; omega
  | succ k ih =>
    intro p n E T m h1 h2 c hT f hf
    obtain ⟨f, rfl⟩ : ∃ q, f = q + 1 := ⟨f - 1, by omega⟩
    have l5 := c.l5
    have pl := c.2.2.2
    show RdC X x m (g_X4_readTown_19 (x + 60) P1 P2 (l_X4_readTown_19 (x + 60) P1 P2 (g_X4_readTown_66 (x + 60) P1 P2) f) (g_X4_readTown_66 (x + 60) P1 P2) (nI (n + 1)) m) (rdL X (k + 1) p n E T)
    unfold g_X4_readTown_19
    have n1 : ¬ m.I 510 (x + 60) 0 = 1 := by
      by_cases z : E = 0
      · rw [c.f0 z]; decide
      · obtain ⟨a, _, b, d⟩ := c.2.2.1.2 z
        rw [a]
        exact nl (k := 1) rfl (by omega) (by omega) (by omega)
    by_cases e0 : tkK X p = 0
    · have er : rdL X (k + 1) p n E T = .inr (E, T) := by unfold rdL; rw [if_pos e0]
      rw [er]
      by_cases e5 : (500 : Int32) < nI (n + 1)
      · rw [if_pos e5]; exact c_end66 c hT
      · rw [if_neg e5, chk_t c.1.1, if_neg n1, c.2.1.1, e0, if_pos (show nI 0 = 0 from rfl)]
        exact c_end66 c hT
    · have hlt := tkS_lt e0
      have hge := tkS_ge X p
      have kl := tkK_lt X p
      have hn : n < 500 := by omega
      rw [if_neg (show ¬ (500 : Int32) < nI (n + 1) from nI_nlt (a := 500) (by omega) (by omega)), chk_t c.1.1, if_neg n1, c.2.1.1, if_neg (nl (v := 0) (k := 0) rfl e0 (by omega) (by omega))]
      have go : ∀ (m1 : MM) (F : Nat), Cs x 510 512 m m1 → CC X x m1 p F → F = ncT E (decide (40 ≤ n)) (8 * tkS X p + 3) → RdC X x m (g_X4_readTown_56 (x + 60) P1 P2 (l_X4_readTown_19 (x + 60) P1 P2 (g_X4_readTown_66 (x + 60) P1 P2) f) (g_X4_readTown_66 (x + 60) P1 P2) (nI (n + 1)) m1) (rdL X (k + 1) p n E T) := by
        intro m1 F o1 c1 eF
        unfold g_X4_readTown_56
        unfold rdL
        rw [if_neg e0, ← eF, chk_t c1.1.1]
        refine RdC.pre (o1.1.up (by omega) (by omega)) (o1.1.ag (by omega)) ?_
        rcases c_readLine c1 (hT.cs o1) with ⟨m2, pl, a1, a2, a3⟩ | ⟨m2, q, a1, a2, a3, a4, a5, a6⟩
        · rw [a1, cal_s, a2]
          obtain ⟨f, rfl⟩ : ∃ q, f = q + 1 := ⟨f - 1, by omega⟩
          show RdC X x m1 (g_X4_readTown_19 (x + 60) P1 P2 (l_X4_readTown_19 (x + 60) P1 P2 (g_X4_readTown_66 (x + 60) P1 P2) f) (g_X4_readTown_66 (x + 60) P1 P2) (nI (n + 1) + 1) m2) _
          unfold g_X4_readTown_19 g_X4_readTown_66
          have k2 : m2.K (x + 60) = 5 := by rw [a3.1.1.1]; exact c1.1.1
          have fin : RdC X x m1 (some (0, m2)) (.inl pl) := .inl ⟨m2, pl, rfl, rfl, a3.1.1, a3.1.2.sub (by omega) (by omega), a3.2.1, a3.2.2, T, (hT.cs o1).kept (a3.1.2.sub (by omega) (by omega))⟩
          by_cases e5 : (500 : Int32) < nI (n + 1) + 1
          · rw [if_pos e5, chk_t k2, a3.2.1, if_neg (by decide)]; exact fin
          · rw [if_neg e5, chk_t k2, a3.2.1, if_pos rfl, chk_t k2, if_neg (by decide)]; exact fin
        · rw [a1, cal_s, a2, nI_1]
          have hq := (lfT_gt a2).1
          exact RdC.pre a3 a4 (ih q (n + 1) _ _ m2 (by omega) (by omega) a5 a6 f (by omega))
      by_cases e4 : n < 40
      · rw [if_pos (show nI (n + 1) ≤ 40 from nI_le (b := 40) (by omega) (by decide))]
        exact go m E (Cs.rf x _ _ m) c (by rw [decide_eq_false (by omega)]; rfl)
      · obtain ⟨m1, j1, j2, j3⟩ := c_note c (k := 3) (f := 3) rfl c.2.1.2.1 (by omega) (by omega) (show tkS X p ≤ 500 by omega)
        rw [if_neg (show ¬ nI (n + 1) ≤ 40 from nI_ge (a := 40) (by omega) (by omega)), j1, cal_s]
        exact go m1 _ j2 j3 (by rw [decide_eq_true (by omega)]; rfl)
end CTown
