/-! room -/
theorem lp_ex {σ ρ : Type} (L : Nat → Int32 → σ → ρ) (I : Nat → σ → Prop) (Q : ρ → Prop) (N k0 : Nat) (hk : k0 ≤ N) (hs : ∀ i, k0 ≤ i → i < N → ∀ s, I i s → (∃ r, Q r ∧ ∀ n, L (n + 1) (nI i) s = r) ∨ (∃ s', I (i + 1) s' ∧ ∀ n, L (n + 1) (nI i) s = L n (nI (i + 1)) s')) (he : ∀ s, I N s → ∃ r, Q r ∧ ∀ n, L (n + 1) (nI N) s = r) {s0 : σ} (h0 : I k0 s0) : ∃ r, Q r ∧ ∀ n, N < n → L n (nI k0) s0 = r := by
  have key : ∀ k i, i + k = N → k0 ≤ i → ∀ s, I i s → ∃ r, Q r ∧ ∀ n, k < n → L n (nI i) s = r := by
    intro k
    induction k with
    | zero =>
      intro i hi _ s hI
      have : i = N := by omega
      subst this
      obtain ⟨r, h1, h2⟩ := he s hI
      refine ⟨r, h1, fun n hn => ?_⟩
      obtain ⟨q, rfl⟩ : ∃ q, n = q + 1 := ⟨n - 1, by omega⟩
      exact h2 q
    | succ k ih =>
      intro i hi hk s hI
      rcases hs i hk (by omega) s hI with ⟨r, h1, h2⟩ | ⟨s1, h1, e1⟩
      · refine ⟨r, h1, fun n hn => ?_⟩
        obtain ⟨q, rfl⟩ : ∃ q, n = q + 1 := ⟨n - 1, by omega⟩
        exact h2 q
      · obtain ⟨r, h2, e2⟩ := ih (i + 1) (by omega) (by omega) s1 h1
        refine ⟨r, h2, fun n hn => ?_⟩
        obtain ⟨q, rfl⟩ : ∃ q, n = q + 1 := ⟨n - 1, by omega⟩
        rw [e1 q]
        exact e2 q (by omega)
  obtain ⟨r, h1, h2⟩ := key (N - k0) k0 (by omega) (Nat.le_refl _) s0 h0
  exact ⟨r, h1, fun n hn => h2 n (by omega)⟩
theorem fnd_t {ρ : Type} {P : Nat → Bool} {F : Nat → ρ} {e : ρ} {N i : Nat} (hi : i < N) (h : P i = true) : fnd P F e (N - i) i = F i := by
  obtain ⟨k, hk⟩ : ∃ k, N - i = k + 1 := ⟨N - i - 1, by omega⟩
  rw [hk]
  show (if P i then F i else fnd P F e k (i + 1)) = F i
  rw [h]; rfl
theorem fnd_f {ρ : Type} {P : Nat → Bool} {F : Nat → ρ} {e : ρ} {N i : Nat} (hi : i < N) (h : P i = false) : fnd P F e (N - i) i = fnd P F e (N - (i + 1)) (i + 1) := by
  obtain ⟨k, hk⟩ : ∃ k, N - i = k + 1 := ⟨N - i - 1, by omega⟩
  rw [hk, show N - (i + 1) = k by omega]
  show (if P i then F i else fnd P F e k (i + 1)) = _
  rw [h]; rfl
theorem le0 {n : Nat} (h : n < 2 ^ 31) : (nI n ≤ 0) ↔ n = 0 := by
  show nI n ≤ nI 0 ↔ _
  rw [nI_leI h (by decide)]; omega
def roP (T : TW) (B : LW) (d w : Nat) : Bool := foA (foe T B d w (bt 255) (clL T d))
def roV (T : TW) (B : LW) (d : Nat) : Int32 := fnd (roP T B d) (fun w => nI w - 1) 12 13 0
theorem roP_r {T : TW} {B : LW} {d w : Nat} (hB : B.2.1 ≤ 10) (N : NT T) : roP T B d w = !decide ((barL T B d w (ohB (-1)) (rfL T d 0)).length = 0) := by
  rw [roP, foA_bar hB (clL_sw T d) N.1, barL_congr (H' := bt 255) (L' := clL T d) (fun h hh => by rw [ohB_m, bt_255 h hh]) (fun a b => rfL_0 N d a b)]
theorem m_room (x : Nat) (p q d : Int32) : Mq x (f_X9_room x p q d) (f_X10_room (x + 106) p q d) := by
  refine Mq_o p q d (-1) (fun T B k => roV T B k) (fun m W D h ho => ⟨m, ?_, Fq.rf x m⟩) (fun m W D i j k h hi hj hk e1 e2 e3 => ?_) (fun m W D h ho => ⟨_, ?_, fq_code x m⟩) (fun m W D i j k h hi hj hk e1 e2 e3 => ?_)
  · simp only [f_X9_room, g_X9_room_0, chk_t h.kx, c_opened0 h ho, chk_t, ck_sI, ck_sR, ck_sJ, cal_s, bnd_e, ifn_s, ifn_n, if_true]
  · subst e1; subst e2; subst e3
    obtain ⟨m1, o1, f1, C1⟩ := c_opened1 h hi hj hk
    obtain ⟨r, ⟨m', er, fr⟩, hr⟩ := lp_ex (fun n w s => l_X9_room_15 x (nI i) (nI j) (nI k) n w s) (fun w s => fnd (roP (W.tn i) (W.lw j) k) (fun w => nI w - 1) 12 (13 - w) w = roV (W.tn i) (W.lw j) k ∧ Fq x m s ∧ ∃ w', CS s x (x + 1 + 4 + 18 * i) (x + 1 + 19 + 18 * j) (W.tn i) (W.lw j) k w' 255 (-1)) (fun r => ∃ m', r = some (roV (W.tn i) (W.lw j) k, m') ∧ Fq x m m') 13 0 (by omega) (fun w _ hw s hI => by
      obtain ⟨a1, a2, w', C⟩ := hI
      have C' := C.ex (show w ≤ 12 by omega)
      obtain ⟨m2, e2, o2, _⟩ := c_findFoes C'
      have C2 := C'.on o2 (by omega)
      have f2 : Fq x m m2 := (a2.sI _ _ _ _ (by unfold inW; omega)).tr (o2.f (by omega) (by omega))
      have z1 : ¬ (12 : Int32) < nI w := fun q => by have := (nI_ltI (a := 12) (by decide) (by omega)).mp q; omega
      have st : ∀ n, l_X9_room_15 x (nI i) (nI j) (nI k) (n + 1) (nI w) s = if roP (W.tn i) (W.lw j) k w = false then l_X9_room_15 x (nI i) (nI j) (nI k) n (nI (w + 1)) m2 else some (nI w - 1, m2) := by
        intro n
        show g_X9_room_15 x (nI i) (nI j) (nI k) (l_X9_room_15 x (nI i) (nI j) (nI k) n) (nI w) s = _
        simp only [g_X9_room_15, if_neg z1, chk_t C.1.1.1, C.1.sn, chk_t, ck_sI, ck_sR, ck_sJ, cal_s, bnd_e, ifn_s, ifn_n, R_sI, show f_X5_findFoes (x + 81) (s.sI 606 (x + 81) 0 (nI w)) = some (bI (roP (W.tn i) (W.lw j) k w), m2) from e2, bI_0, nI_1]
      cases hP : roP (W.tn i) (W.lw j) k w with
      | true =>
        refine .inl ⟨some (nI w - 1, m2), ⟨m2, ?_, f2⟩, fun n => ?_⟩
        · rw [← a1, fnd_t hw hP]
        · rw [st n, hP, if_neg (by decide)]
      | false =>
        refine .inr ⟨m2, ⟨?_, f2, _, C2⟩, fun n => ?_⟩
        · rw [← a1, fnd_f hw hP]
        · rw [st n, hP, if_pos rfl]) (fun s hI => by
      obtain ⟨a1, a2, w', C⟩ := hI
      refine ⟨some (12, s), ⟨s, ?_, a2⟩, fun n => ?_⟩
      · rw [← a1]; rfl
      · show g_X9_room_15 x (nI i) (nI j) (nI k) (l_X9_room_15 x (nI i) (nI j) (nI k) n) (nI 13) s = _
        simp only [g_X9_room_15, if_pos (show (12 : Int32) < nI 13 by decide)]) (s0 := m1) ⟨rfl, f1, _, C1⟩
    refine ⟨m', ?_, fr⟩
    simp only [f_X9_room, g_X9_room_0, chk_t h.kx, o1, chk_t, ck_sI, ck_sR, ck_sJ, cal_s, bnd_e, ifn_s, ifn_n, if_neg ne10]
    rw [← er]
    exact hr FU (by unfold FU; omega)
  · simp only [f_X10_room, g_X10_room_0, chk_t h.M.1, chk_t, ck_sI, ck_sR, ck_sJ, cal_s, bnd_e, ifn_s, ifn_n, r_bring0 h.code ho, if_true]
  · subst e1; subst e2; subst e3
    have hB := (h.cl hj).n.2.2
    have N := h.nn hi
    obtain ⟨m1, o1, f1, R1, G1, g1⟩ := r_bb h.code hi hj hk
    have hl : (br0 (W.tn i) (W.lw j) k).length ≤ 1320 := barL_le hB
    have hP0 : roP (W.tn i) (W.lw j) k 0 = !decide ((br0 (W.tn i) (W.lw j) k).length = 0) := by rw [roP_r hB N, br0_r N]
    simp only [f_X10_room, g_X10_room_0, chk_t h.M.1, o1, chk_t, ck_sI, ck_sR, ck_sJ, cal_s, bnd_e, ifn_s, ifn_n, if_neg ne10, chk_t g1.M.1, G1.1, le0 (show (br0 (W.tn i) (W.lw j) k).length < 2 ^ 31 by omega)]
    by_cases hz : (br0 (W.tn i) (W.lw j) k).length = 0
    · rw [if_pos hz]
      rw [decide_eq_true hz] at hP0
      obtain ⟨r, ⟨m', er, fr⟩, hr⟩ := lp_ex (fun n w s => l_X10_room_27 (x + 106) (nI i) (nI j) (nI k) n w s) (fun w s => fnd (roP (W.tn i) (W.lw j) k) (fun w => nI w - 1) 12 (13 - w) w = roV (W.tn i) (W.lw j) k ∧ Fq x (m.sI 1100 (x + 106) 0 0) s ∧ ∃ w', RS s (x + 106) i j (W.tn i) (W.lw j) k w' (-1) 0) (fun r => ∃ m', r = some (roV (W.tn i) (W.lw j) k, m') ∧ Fq x (m.sI 1100 (x + 106) 0 0) m') 13 1 (by omega) (fun w _ hw s hI => by
        obtain ⟨a1, a2, w', R⟩ := hI
        have R' := R.wd (show w ≤ 12 by omega)
        obtain ⟨m2, e2, o2, G2⟩ := r_findBars R'
        have R2 := R'.rn o2
        have f2 : Fq x (m.sI 1100 (x + 106) 0 0) m2 := (a2.sI _ _ _ _ (by unfold inW; omega)).tr o2.f
        have z1 : ¬ (13 : Int32) ≤ nI w := nI_ge (b := 13) hw (by decide)
        have hll : (barL (W.tn i) (W.lw j) k w (ohB (-1)) (rfL (W.tn i) k 0)).length ≤ 1320 := barL_le hB
        have hPw := roP_r (d := k) (w := w) hB N
        have st : ∀ n, l_X10_room_27 (x + 106) (nI i) (nI j) (nI k) (n + 1) (nI w) s = if (barL (W.tn i) (W.lw j) k w (ohB (-1)) (rfL (W.tn i) k 0)).length = 0 then l_X10_room_27 (x + 106) (nI i) (nI j) (nI k) n (nI (w + 1)) m2 else some (nI w - 1, m2) := by
          intro n
          show g_X10_room_27 (x + 106) (nI i) (nI j) (nI k) (l_X10_room_27 (x + 106) (nI i) (nI j) (nI k) n) (nI w) s = _
          simp only [g_X10_room_27, if_neg z1, chk_t R.1.1.1, chk_t, ck_sI, ck_sR, ck_sJ, cal_s, bnd_e, ifn_s, ifn_n, e2, chk_t R2.1.1.1, G2.1, le0 (show (barL (W.tn i) (W.lw j) k w (ohB (-1)) (rfL (W.tn i) k 0)).length < 2 ^ 31 by omega), nI_1]
        by_cases hy : (barL (W.tn i) (W.lw j) k w (ohB (-1)) (rfL (W.tn i) k 0)).length = 0
        · rw [decide_eq_true hy] at hPw
          refine .inr ⟨m2, ⟨?_, f2, _, R2⟩, fun n => ?_⟩
          · rw [← a1, fnd_f hw hPw]
          · rw [st n, if_pos hy]
        · rw [decide_eq_false hy] at hPw
          refine .inl ⟨some (nI w - 1, m2), ⟨m2, ?_, f2⟩, fun n => ?_⟩
          · rw [← a1, fnd_t hw hPw]
          · rw [st n, if_neg hy]) (fun s hI => by
        obtain ⟨a1, a2, w', R⟩ := hI
        refine ⟨some (12, s), ⟨s, ?_, a2⟩, fun n => ?_⟩
        · rw [← a1]; rfl
        · show g_X10_room_27 (x + 106) (nI i) (nI j) (nI k) (l_X10_room_27 (x + 106) (nI i) (nI j) (nI k) n) (nI 13) s = _
          simp only [g_X10_room_27, if_pos (show (13 : Int32) ≤ nI 13 by decide)]) (s0 := m1) ⟨(fnd_f (N := 13) (i := 0) (by omega) hP0).symm, f1, _, R1⟩
      refine ⟨m', ?_, (fq_code x m).tr fr⟩
      rw [← er]
      exact hr FU (by unfold FU; omega)
    · rw [if_neg hz]
      rw [decide_eq_false hz] at hP0
      refine ⟨m1, ?_, (fq_code x m).tr f1⟩
      have : roV (W.tn i) (W.lw j) k = -1 := by
        show fnd (roP (W.tn i) (W.lw j) k) (fun w => nI w - 1) 12 (13 - 0) 0 = -1
        rw [fnd_t (by omega) hP0]
        decide
      rw [this]
