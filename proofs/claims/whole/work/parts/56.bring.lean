/-! the reference brings a town -/
def snc (T : TW) (i : Nat) : Nat := (T.2.2 0 i 4).toNatClampNeg
def Rq (m : MM) (y ti : Nat) (T : TW) (d : Nat) : Prop := m.I 1166 y 0 = nI ti ∧ m.I 1167 y 0 = nI d ∧ m.I 1168 y 0 = 0 ∧ m.I 1169 y 0 = -1 ∧ m.I 1170 y 0 = 0 ∧ m.I 1165 y 0 = mks (sB T d) 12 ∧ ∀ k, k < T.2.1 0 → Rb m y k (bdy T d k) (snc T k)
def Ri (m : MM) (x ti : Nat) (T : TW) (d i : Nat) (s : MM) : Prop := Fq x m s ∧ (s.I 1166 (x + 106) 0 = nI ti ∧ s.I 1167 (x + 106) 0 = nI d ∧ s.I 1168 (x + 106) 0 = 0 ∧ s.I 1169 (x + 106) 0 = -1 ∧ s.I 1170 (x + 106) 0 = 0) ∧ s.I 1165 (x + 106) 0 = mks (sB T d) i ∧ ∀ k, k < i → Rb s (x + 106) k (bdy T d k) (snc T k)
theorem I_ne {m : MM} {s a i : Nat} {v : Int32} {s' a' i' : Nat} (h : ¬ a' = a) : (m.sI s a i v).I s' a' i' = m.I s' a' i' := by rw [I_sI, if_neg (fun q => h q.2.1)]
theorem or_0 (p : Int32) : p ||| 0 = p := bt_ext (fun i _ => by rw [bt_or, bt_0, Bool.or_false])
theorem Rb.kept {m n : MM} {y k : Nat} {b : BD} {s : Nat} (h : Rb m y k b s) (hI : ∀ a, y + 45 ≤ a → a < y + 50 → n.I 22 a k = m.I 22 a k) : Rb n y k b s := ⟨by rw [hI _ (by omega) (by omega)]; exact h.1, by rw [hI _ (by omega) (by omega)]; exact h.2.1, by rw [hI _ (by omega) (by omega)]; exact h.2.2.1, by rw [hI _ (by omega) (by omega)]; exact h.2.2.2.1, by rw [hI _ (by omega) (by omega)]; exact h.2.2.2.2⟩
theorem r_bring_s {m s : MM} {x ti d i : Nat} {T : TW} (hM : Md m (x + 106)) (hti : ti < 3) (R : RT m (x + 106) ti T) (V : VT T) (N : NT T) (hi : i < T.2.1 0) (hI : Ri m x ti T d i s) : ∃ s', Ri m x ti T d (i + 1) s' ∧ ∀ n, l_X10_bring_32 (x + 106) (nI ti) (nI d) (n + 1) (nI i) s = l_X10_bring_32 (x + 106) (nI ti) (nI d) n (nI (i + 1)) s' := by
  obtain ⟨j1, j2, j3, j4⟩ := hI
  have hn := N.1
  have sM := j1.md hM
  have sR := R.kept j1.ar
  have wy : inW x (x + 106) := by unfold inW; omega
  have w45 : inW x (x + 106 + 45) := by unfold inW; omega
  have w46 : inW x (x + 106 + 46) := by unfold inW; omega
  have w47 : inW x (x + 106 + 47) := by unfold inW; omega
  have w48 : inW x (x + 106 + 48) := by unfold inW; omega
  have w49 : inW x (x + 106 + 49) := by unfold inW; omega
  have e1 : ¬ nI (T.2.1 0) ≤ nI i := nI_ge hi (by omega)
  obtain ⟨v0, v1, v2, _, v4, v5, _⟩ := V.2.2.2.2.2.2.1 i hi
  have q0 := nB_e v0 (by omega)
  have q1 := nB_e v1 (by omega)
  have q2 := nB_e v2 (by omega)
  have q4 := nB_e v4 (by omega)
  have o2 : f_X10_of (x + 106) (nI ti) 2 s = some (nI (T.2.1 0), s) := by rw [← sR.1.2.2.1]; exact r_of sM (w := 2) (by omega) (by omega)
  have e12 : (12 : Int32) * nI ti + nI i = nI (12 * ti + i) := by
    show nI 12 * nI ti + nI i = _
    rw [pk_mul, nI_add]
  have hk : 12 * ti + i < 144 := by omega
  have r0 : s.I 22 (x + 106 + 7) (12 * ti + i) = T.2.2 0 i 0 := sR.2.1 i hi 0 (by omega)
  have r1 : s.I 22 (x + 106 + 8) (12 * ti + i) = T.2.2 0 i 1 := sR.2.1 i hi 1 (by omega)
  have r2 : s.I 22 (x + 106 + 9) (12 * ti + i) = T.2.2 0 i 2 := sR.2.1 i hi 2 (by omega)
  have r4 : s.I 22 (x + 106 + 11) (12 * ti + i) = T.2.2 0 i 4 := sR.2.1 i hi 4 (by omega)
  have r5 : s.I 22 (x + 106 + 12) (12 * ti + i) = T.2.2 0 i 5 := sR.2.1 i hi 5 (by omega)
  have r7 : s.I 22 (x + 106 + 14) (12 * ti + i) = T.2.2 0 i 7 := sR.2.1 i hi 7 (by omega)
  obtain ⟨s5, hs5⟩ : ∃ q : MM, q = ((((s.sI 22 (x + 106 + 45) i (T.2.2 0 i 0)).sI 22 (x + 106 + 46) i (T.2.2 0 i 1)).sI 22 (x + 106 + 47) i (T.2.2 0 i 2)).sI 22 (x + 106 + 48) i (T.2.2 0 i 5)).sI 22 (x + 106 + 49) i (T.2.2 0 i 4) := ⟨_, rfl⟩
  have o5 : ∀ s2 a2 i2, (a2 < x + 106 + 45 ∨ x + 106 + 50 ≤ a2 ∨ i2 ≠ i) → s5.I s2 a2 i2 = s.I s2 a2 i2 := by
    intro s2 a2 i2 ha
    rw [hs5]
    simp only [I_sI]
    rw [if_neg (fun q => by omega), if_neg (fun q => by omega), if_neg (fun q => by omega), if_neg (fun q => by omega), if_neg (fun q => by omega)]
  have f5 : Fq x m s5 := by rw [hs5]; exact ((((j1.sI _ _ _ _ w45).sI _ _ _ _ w46).sI _ _ _ _ w47).sI _ _ _ _ w48).sI _ _ _ _ w49
  have m5 := f5.md hM
  have n5 : Rb s5 (x + 106) i (bdy T d i) (snc T i) := by
    refine ⟨?_, ?_, ?_, ?_, ?_⟩
    · rw [hs5]; simp only [I_sI]; simp; exact q0.1
    · rw [hs5]; simp only [I_sI]; simp; exact q1.1
    · rw [hs5]; simp only [I_sI]; simp; exact q2.1
    · rw [hs5]; simp only [I_sI]; simp; rfl
    · rw [hs5]; simp only [I_sI]; simp; exact q4.1
  have key : ∀ n, l_X10_bring_32 (x + 106) (nI ti) (nI d) (n + 1) (nI i) s = l_X10_bring_32 (x + 106) (nI ti) (nI d) n (nI (i + 1)) (s5.sI 1165 (x + 106) 0 (mks (sB T d) (i + 1))) := by
    intro n
    show g_X10_bring_32 (x + 106) (nI ti) (nI d) (l_X10_bring_32 (x + 106) (nI ti) (nI d) n) (nI i) s = _
    simp only [g_X10_bring_32, chk_t sM.1, chk_t, ck_sI, ck_sR, ck_sJ, cal_s, bnd_e, ifn_s, ifn_n, o2, if_neg e1, e12, R_sI, N_sI, sM.c1107, sM.c1108, sM.c1109, sM.c1112, sM.c1111, sM.c1160, sM.c1161, sM.c1162, sM.c1163, sM.c1164, sM.n1107, sM.n1108, sM.n1109, sM.n1112, sM.n1111, sM.n1160, sM.n1161, sM.n1162, sM.n1163, sM.n1164, chk_t (inb_nI hk (by decide)), chk_t (inb_nI (show i < 15 by omega) (by decide)), cl_nI (show 12 * ti + i < 2 ^ 31 by omega), cl_nI (show i < 2 ^ 31 by omega), r0]
    simp only [I_ne (show ¬ x + 106 + 8 = x + 106 + 45 by omega), I_ne (show ¬ x + 106 + 9 = x + 106 + 45 by omega), I_ne (show ¬ x + 106 + 9 = x + 106 + 46 by omega), I_ne (show ¬ x + 106 + 12 = x + 106 + 45 by omega), I_ne (show ¬ x + 106 + 12 = x + 106 + 46 by omega), I_ne (show ¬ x + 106 + 12 = x + 106 + 47 by omega), I_ne (show ¬ x + 106 + 11 = x + 106 + 45 by omega), I_ne (show ¬ x + 106 + 11 = x + 106 + 46 by omega), I_ne (show ¬ x + 106 + 11 = x + 106 + 47 by omega), I_ne (show ¬ x + 106 + 11 = x + 106 + 48 by omega), I_ne (show ¬ x + 106 + 11 = x + 106 + 49 by omega), r1, r2, r5, r4]
    rw [← hs5]
    have i7 : s5.I 22 (x + 106 + 14) (12 * ti + i) = T.2.2 0 i 7 := by rw [o5 _ _ _ (by omega)]; exact r7
    have i65 : s5.I 1165 (x + 106) 0 = mks (sB T d) i := by rw [o5 _ _ _ (by omega)]; exact j3
    have n10 : ¬ (1 : Int32) = 0 := by decide
    simp only [g_X10_bring_152, g_X10_bring_148, g_X10_bring_153, g_X10_bring_172, chk_t m5.1, ck_s m5.1, chk_t, ck_sI, ck_sR, ck_sJ, cal_s, bnd_e, ifn_s, ifn_n, sM.c1114, sM.n1114, m5.c1114, m5.n1114, chk_t (inb_nI hk (by decide)), cl_nI (show 12 * ti + i < 2 ^ 31 by omega), i7, i65, if_neg n10, if_pos, or_0, nI_1, mks_s, sB, decide_eq_true hi, Bool.true_and, stB]
    by_cases k1 : nI d < T.2.2 0 i 4
    · simp [k1]
    · by_cases k2 : T.2.2 0 i 7 = -1
      · simp [k1, k2]
      · by_cases k3 : T.2.2 0 i 7 ≤ nI d
        · simp [k1, k2, k3]
        · simp [k1, k2, k3]
  refine ⟨_, ⟨f5.sI _ _ _ _ wy, ⟨?_, ?_, ?_, ?_, ?_⟩, ?_, fun k hk2 => ?_⟩, key⟩
  · rw [I_sI, if_neg (by simp), o5 _ _ _ (by omega)]; exact j2.1
  · rw [I_sI, if_neg (by simp), o5 _ _ _ (by omega)]; exact j2.2.1
  · rw [I_sI, if_neg (by simp), o5 _ _ _ (by omega)]; exact j2.2.2.1
  · rw [I_sI, if_neg (by simp), o5 _ _ _ (by omega)]; exact j2.2.2.2.1
  · rw [I_sI, if_neg (by simp), o5 _ _ _ (by omega)]; exact j2.2.2.2.2
  · rw [I_sI, if_pos ⟨rfl, rfl, rfl⟩]
  · have hb : Rb s5 (x + 106) k (bdy T d k) (snc T k) := by
      by_cases q : k = i
      · rw [q]; exact n5
      · exact (j4 k (by omega)).kept (fun a _ _ => o5 _ _ _ (by omega))
    exact hb.kept (fun a h1 h2 => by rw [I_sI, if_neg (fun q => by omega)])
theorem r_bring {m : MM} {x ti d : Nat} {T : TW} (hM : Md m (x + 106)) (hti : ti < 3) (R : RT m (x + 106) ti T) (V : VT T) (N : NT T) : ∃ m', f_X10_bring (x + 106) (nI ti) (nI d) m = some ((), m') ∧ Fq x m m' ∧ Rq m' (x + 106) ti T d := by
  have hn := N.1
  have wy : inW x (x + 106) := by unfold inW; omega
  obtain ⟨m1, hm1⟩ : ∃ q : MM, q = (((((m.sI 1166 (x + 106) 0 (nI ti)).sI 1167 (x + 106) 0 (nI d)).sI 1165 (x + 106) 0 0).sI 1168 (x + 106) 0 0).sI 1169 (x + 106) 0 (-1)).sI 1170 (x + 106) 0 0 := ⟨_, rfl⟩
  have f1 : Fq x m m1 := by rw [hm1]; exact ((((((Fq.rf x m).sI _ _ _ _ wy).sI _ _ _ _ wy).sI _ _ _ _ wy).sI _ _ _ _ wy).sI _ _ _ _ wy).sI _ _ _ _ wy
  have I0 : Ri m x ti T d 0 m1 := ⟨f1, by rw [hm1]; simp [I_sI], by rw [hm1]; simp [I_sI, mks], fun k hk => by omega⟩
  have he : ∀ s, Ri m x ti T d (T.2.1 0) s → ∀ n, l_X10_bring_32 (x + 106) (nI ti) (nI d) (n + 1) (nI (T.2.1 0)) s = some ((), s) := by
    intro s hI n
    have sM := hI.1.md hM
    have sR := R.kept hI.1.ar
    have o2 : f_X10_of (x + 106) (nI ti) 2 s = some (nI (T.2.1 0), s) := by rw [← sR.1.2.2.1]; exact r_of sM (w := 2) (by omega) (by omega)
    show g_X10_bring_32 (x + 106) (nI ti) (nI d) (l_X10_bring_32 (x + 106) (nI ti) (nI d) n) (nI (T.2.1 0)) s = _
    simp only [g_X10_bring_32, chk_t sM.1, chk_t, ck_sI, ck_sR, ck_sJ, cal_s, bnd_e, ifn_s, ifn_n, o2, if_pos (Int32.le_refl _)]
  obtain ⟨m2, ⟨g1, g2, g3, g4⟩, ge⟩ := lp_inv (fun n i s => l_X10_bring_32 (x + 106) (nI ti) (nI d) n i s) (Ri m x ti T d) (fun s => some ((), s)) (T.2.1 0) (fun i hi s hI => r_bring_s hM hti R V N hi hI) he I0
  refine ⟨m2, ?_, g1, g2.1, g2.2.1, g2.2.2.1, g2.2.2.2.1, g2.2.2.2.2, ?_, g4⟩
  · simp only [f_X10_bring, g_X10_bring_0, chk_t hM.1, chk_t, ck_sI, ck_sR, ck_sJ, cal_s, bnd_e, ifn_s, ifn_n]
    rw [← hm1]
    exact ge FU (by unfold FU; omega)
  · rw [g3]
    apply bt_ext
    intro i hi
    rw [bt_mks (by omega) i hi, bt_mks (by omega) i hi]
    by_cases q : i < T.2.1 0
    · rw [decide_eq_true q, decide_eq_true (show i < 12 by omega)]
    · rw [decide_eq_false q, sB, decide_eq_false q]; simp
