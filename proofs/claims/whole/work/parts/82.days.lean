/-! days on which something changes -/
def chB (T : TW) (d : Nat) : Bool := (List.range (T.2.1 0)).any (fun i => decide (T.2.2 0 i 4 = nI d) || decide (T.2.2 0 i 7 = nI d) || !decide ((bdy T d i).g = (bdy T (d - 1) i).g)) || (List.range (T.2.1 1)).any (fun i => decide (T.2.2 1 i 4 = nI d))
theorem c_changesOn {m : MM} {t d : Nat} {T : TW} (h : CT m t T) (V : VT T) (hd : d < 1000) (h1 : 1 ≤ d) : f_X8_changesOn t (nI d) m = some (bI (chB T d), m) := by
  have hn := h.n0.2.2
  have hn1 := h.n1.2.2
  have k69 : l_X8_changesOn_69 t (nI d) FU 0 m = some (bI ((List.range (T.2.1 1)).any (fun i => decide (T.2.2 1 i 4 = nI d))), m) := by
    have := lp_any (fun n i => l_X8_changesOn_69 t (nI d) n i m) (fun i => decide (T.2.2 1 i 4 = nI d)) (some (1, m)) (some (0, m)) (T.2.1 1) (fun i hi n => ?_) (fun n => ?_) (n := FU) (by unfold FU; omega)
    · refine this.trans ?_
      cases (List.range (T.2.1 1)).any _ <;> rfl
    · show g_X8_changesOn_69 t (nI d) (l_X8_changesOn_69 t (nI d) n) (nI i) m = _
      have e1 : ¬ nI (T.2.1 1) ≤ nI i := nI_ge hi (by omega)
      simp only [g_X8_changesOn_69, h.kt, h.k1, h.n1.1, if_neg e1, h.cell1_4 hi, chk_t, ck_sI, ck_sR, ck_sJ, cal_s, bnd_e, ifn_s, ifn_n, nI_1]
      by_cases z : T.2.2 1 i 4 = nI d
      · rw [if_pos z, decide_eq_true z]; rfl
      · rw [if_neg z, decide_eq_false z]; rfl
    · show g_X8_changesOn_69 t (nI d) (l_X8_changesOn_69 t (nI d) n) (nI (T.2.1 1)) m = _
      simp only [g_X8_changesOn_69, h.kt, h.k1, h.n1.1, if_pos (Int32.le_refl _)]
  have e0 : nI d - 1 = nI (d - 1) := pk_sub (b := 1) h1
  show l_X8_changesOn_2 t (nI d) (g_X8_changesOn_67 t (nI d)) FU 0 m = _
  have := lp_any (fun n i => l_X8_changesOn_2 t (nI d) (g_X8_changesOn_67 t (nI d)) n i m) (fun i => decide (T.2.2 0 i 4 = nI d) || decide (T.2.2 0 i 7 = nI d) || !decide ((bdy T d i).g = (bdy T (d - 1) i).g)) (some (1, m)) (some (bI ((List.range (T.2.1 1)).any (fun i => decide (T.2.2 1 i 4 = nI d))), m)) (T.2.1 0) (fun i hi n => ?_) (fun n => ?_) (n := FU) (by unfold FU; omega)
  · refine this.trans ?_
    unfold chB
    generalize (List.range (T.2.1 1)).any (fun i => decide (T.2.2 1 i 4 = nI d)) = A
    cases (List.range (T.2.1 0)).any _
    · rw [Bool.false_or]; rfl
    · rfl
  · show g_X8_changesOn_2 t (nI d) (l_X8_changesOn_2 t (nI d) (g_X8_changesOn_67 t (nI d)) n) (g_X8_changesOn_67 t (nI d)) (nI i) m = _
    obtain ⟨v0, v1, v2, _, v4, v5, _⟩ := V.2.2.2.2.2.2.1 i hi
    have q0 := nB_e v0 (by omega)
    have q4 := nB_e v4 (by omega)
    have e1 : ¬ nI (T.2.1 0) ≤ nI i := nI_ge hi (by omega)
    have ga : f_X8_growth t (nI i) (nI d) m = some (nI (bdy T d i).g, m) := c_growth h V hi q0.2 q0.1 q4.1 q4.2 (show d < 1001 by omega)
    have gb : f_X8_growth t (nI i) (nI (d - 1)) m = some (nI (bdy T (d - 1) i).g, m) := c_growth h V hi q0.2 q0.1 q4.1 q4.2 (show d - 1 < 1001 by omega)
    have g9 : (bdy T d i).g ≤ 9 := gN_le _ _ _ _
    have g9' : (bdy T (d - 1) i).g ≤ 9 := gN_le _ _ _ _
    have ge : (nI (bdy T d i).g = nI (bdy T (d - 1) i).g) ↔ (bdy T d i).g = (bdy T (d - 1) i).g := ⟨nI_inj (by omega) (by omega), fun q => by rw [q]⟩
    simp only [g_X8_changesOn_2, h.kt, h.k0, h.n0.1, if_neg e1, h.cell0_4 hi, h.cell0_7 hi, chk_t, ck_sI, ck_sR, ck_sJ, cal_s, bnd_e, ifn_s, ifn_n, e0, ga, gb, ge, nI_1]
    by_cases z1 : T.2.2 0 i 4 = nI d
    · rw [if_pos z1, decide_eq_true z1]; rfl
    · rw [if_neg z1, decide_eq_false z1]
      by_cases z2 : T.2.2 0 i 7 = nI d
      · rw [if_pos z2, decide_eq_true z2]; rfl
      · rw [if_neg z2, decide_eq_false z2]
        by_cases z3 : (bdy T d i).g = (bdy T (d - 1) i).g
        · rw [if_pos z3, decide_eq_true z3]; rfl
        · rw [if_neg z3, decide_eq_false z3]; rfl
  · show g_X8_changesOn_2 t (nI d) (l_X8_changesOn_2 t (nI d) (g_X8_changesOn_67 t (nI d)) n) (g_X8_changesOn_67 t (nI d)) (nI (T.2.1 0)) m = _
    simp only [g_X8_changesOn_2, h.kt, h.k0, h.n0.1, if_pos (Int32.le_refl _), g_X8_changesOn_67, k69]
section NCH
variable {T : TW} {B : LW} {d : Nat}
theorem nc_th (h : chB T d = false) {i : Nat} (hi : i < T.2.1 0) : ¬ T.2.2 0 i 4 = nI d ∧ ¬ T.2.2 0 i 7 = nI d ∧ (bdy T d i).g = (bdy T (d - 1) i).g := by
  unfold chB at h
  rw [Bool.or_eq_false_iff] at h
  have := anyF.mp h.1 i hi
  rw [Bool.or_eq_false_iff, Bool.or_eq_false_iff, decide_eq_false_iff_not, decide_eq_false_iff_not, Bool.not_eq_false', decide_eq_true_eq] at this
  exact ⟨this.1.1, this.1.2, this.2⟩
theorem nc_wl (h : chB T d = false) {i : Nat} (hi : i < T.2.1 1) : ¬ T.2.2 1 i 4 = nI d := by
  unfold chB at h
  rw [Bool.or_eq_false_iff] at h
  have := anyF.mp h.2 i hi
  rw [decide_eq_false_iff_not] at this
  exact this
theorem nc_sB (V : VT T) (hd : d < 1000) (h1 : 1 ≤ d) (h : chB T d = false) (i : Nat) : sB T d i = sB T (d - 1) i := by
  unfold sB
  by_cases hi : i < T.2.1 0
  · rw [decide_eq_true hi, Bool.true_and, Bool.true_and]
    obtain ⟨n1, n2, _⟩ := nc_th h hi
    obtain ⟨_, _, _, _, v4, _, _, v7⟩ := V.2.2.2.2.2.2.1 i hi
    obtain ⟨s, hs, es⟩ := v4
    unfold stB
    rw [es] at n1 ⊢
    have k1 : (nI d < nI s) ↔ (nI (d - 1) < nI s) := by
      rw [nI_ltI (by omega) (by omega), nI_ltI (by omega) (by omega)]
      have : s ≠ d := fun q => n1 (by rw [q])
      omega
    have e1 : decide (nI d < nI s) = decide (nI (d - 1) < nI s) := by rw [Bool.eq_iff_iff, decide_eq_true_eq, decide_eq_true_eq]; exact k1
    rw [e1]
    rcases v7 with v7 | ⟨g, hg, eg⟩
    · rw [v7, decide_eq_true (rfl : (-1 : Int32) = -1), Bool.true_or, Bool.true_or]
    · rw [eg] at n2 ⊢
      have k2 : (nI g ≤ nI d) ↔ (nI g ≤ nI (d - 1)) := by
        rw [nI_leI (by omega) (by omega), nI_leI (by omega) (by omega)]
        have : g ≠ d := fun q => n2 (by rw [q])
        omega
      have e2 : decide (nI g ≤ nI d) = decide (nI g ≤ nI (d - 1)) := by rw [Bool.eq_iff_iff, decide_eq_true_eq, decide_eq_true_eq]; exact k2
      rw [e2]
  · rw [decide_eq_false hi, Bool.false_and, Bool.false_and]
theorem nc_bd (h : chB T d = false) {i : Nat} (hi : i < T.2.1 0) : bdy T d i = bdy T (d - 1) i := by
  have q := (nc_th h hi).2.2
  unfold bdy at q ⊢
  have q : gN T (T.2.2 0 i 0).toNatClampNeg (T.2.2 0 i 4).toNatClampNeg d = gN T (T.2.2 0 i 0).toNatClampNeg (T.2.2 0 i 4).toNatClampNeg (d - 1) := q
  rw [q]
theorem nc_cl (V : VT T) (hd : d < 1000) (h1 : 1 ≤ d) (h : chB T d = false) : clL T d = clL T (d - 1) := by
  funext a b
  unfold clL
  refine any_congr (fun i hi => ?_)
  unfold wlB
  have n := nc_wl h hi
  obtain ⟨_, _, _, _, u, hu, eu⟩ := V.2.2.2.2.2.2.2.1 i hi
  rw [eu] at n ⊢
  have k2 : (nI u ≤ nI d) ↔ (nI u ≤ nI (d - 1)) := by
    rw [nI_leI (by omega) (by omega), nI_leI (by omega) (by omega)]
    have : u ≠ d := fun q => n (by rw [q])
    omega
  have e2 : decide (nI u ≤ nI d) = decide (nI u ≤ nI (d - 1)) := by rw [Bool.eq_iff_iff, decide_eq_true_eq, decide_eq_true_eq]; exact k2
  rw [e2]
theorem nc_foe (V : VT T) (hd : d < 1000) (h1 : 1 ≤ d) (h : chB T d = false) (i j : Nat) : foe T B d 0 (bt 255) (clL T d) i j = foe T B (d - 1) 0 (bt 255) (clL T (d - 1)) i j := by
  unfold foe
  rw [nc_sB V hd h1 h i, nc_sB V hd h1 h j, nc_cl V hd h1 h]
  cases hst : (sB T (d - 1) i && sB T (d - 1) j) with
  | false => rw [Bool.and_false]; rfl
  | true =>
    rw [Bool.and_eq_true] at hst
    rw [nc_bd h (sB_n hst.1), nc_bd h (sB_n hst.2)]
end NCH
def dyP (T : TW) (B : LW) (d : Nat) : Bool := foA (foe T B d 0 (bt 255) (clL T d))
theorem dyP_n {T : TW} {B : LW} {d : Nat} (V : VT T) (hd : d < 1000) (h1 : 1 ≤ d) (h : chB T d = false) : dyP T B d = dyP T B (d - 1) := by
  unfold dyP foA
  refine any_congr (fun i _ => any_congr (fun j _ => ?_))
  rw [nc_foe V hd h1 h]
def dyV (T : TW) (B : LW) (f : Int32) : Int32 := if f = 0 then nI (cntB (dyP T B) 1000) else fnd (dyP T B) (fun d => nI d) (-1) 1000 0
theorem dyP_r {T : TW} {B : LW} {d : Nat} (hB : B.2.1 ≤ 10) (N : NT T) : dyP T B d = !decide ((br0 T B d).length = 0) := by
  rw [dyP, foA_bar hB (clL_sw T d) N.1]; rfl
theorem m_days (x : Nat) (p q f : Int32) : Mq x (f_X9_days x p q f) (f_X10_days (x + 106) p q f) := by
  refine Mq_q (fun W => cond (isN W.nt p && isN W.nl q) (dyV (W.tn p.toNatClampNeg) (W.lw q.toNatClampNeg) f) (-1)) (fun m W D h => ?_) (fun m W D h => ?_)
  · have hnt := h.nt
    have hnl := h.nl
    cases hp : isN W.nt p with
    | false =>
      refine ⟨m, ?_, Fq.rf x m⟩
      simp only [hp, Bool.false_and, cond_false]
      cases hq : isN W.nl q with
      | false => simp only [f_X9_days, g_X9_days_0, chk_t h.kx, h.now, c_townAt0 h.T hp, c_lawAt0 h.T hq, chk_t, ck_sI, ck_sR, ck_sJ, cal_s, bnd_e, ifn_s, ifn_n]
      | true =>
        obtain ⟨j, hj, e⟩ := (isN_iff (by omega)).mp hq
        subst e
        simp only [f_X9_days, g_X9_days_0, chk_t h.kx, h.now, c_townAt0 h.T hp, c_lawAt h.T hj, chk_t, ck_sI, ck_sR, ck_sJ, cal_s, bnd_e, ifn_s, ifn_n]
    | true =>
    obtain ⟨i, hi, e⟩ := (isN_iff (by omega)).mp hp
    subst e
    cases hq : isN W.nl q with
    | false =>
      refine ⟨m, ?_, Fq.rf x m⟩
      simp only [hp, hq, Bool.and_false, cond_false, f_X9_days, g_X9_days_0, chk_t h.kx, h.now, c_townAt h.T hi, c_lawAt0 h.T hq, chk_t, ck_sI, ck_sR, ck_sJ, cal_s, bnd_e, ifn_s, ifn_n]
    | true =>
    obtain ⟨j, hj, e⟩ := (isN_iff (by omega)).mp hq
    subst e
    simp only [hp, hq, Bool.and_true, cond_true, cl_nI (show i < 2 ^ 31 by omega), cl_nI (show j < 2 ^ 31 by omega)]
    have V := h.V.1 i hi
    obtain ⟨r, ⟨m', er, fr⟩, hr⟩ := lp_ex (fun n d (s : Int32 × Int32 × MM) => l_X9_days_41 x (nI i) (nI j) f (g_X9_days_119 x (nI i) (nI j) f) n (some (x + 1 + 4 + 18 * i)) (some (x + 1 + 19 + 18 * j)) s.1 s.2.1 d s.2.2) (fun d s => (f = 0 → s.1 = nI (cntB (dyP (W.tn i) (W.lw j)) d)) ∧ (f ≠ 0 → fnd (dyP (W.tn i) (W.lw j)) (fun d => nI d) (-1) (1000 - d) d = dyV (W.tn i) (W.lw j) f) ∧ (0 < d → s.2.1 = bI (dyP (W.tn i) (W.lw j) (d - 1))) ∧ Fq x m s.2.2) (fun r => ∃ m', r = some (dyV (W.tn i) (W.lw j) f, m') ∧ Fq x m m') 1000 0 (by omega) (fun d _ hd s hI => by
      obtain ⟨a1, a2, a3, a4⟩ := hI
      have g := h.kept a4
      have z1 : ¬ (999 : Int32) < nI d := fun q => by have := (nI_ltI (a := 999) (by decide) (by omega)).mp q; omega
      have st86 : ∀ (n : Nat) (m2 : MM), g_X9_days_86 x (nI i) (nI j) f (l_X9_days_41 x (nI i) (nI j) f (g_X9_days_119 x (nI i) (nI j) f) n) (g_X9_days_119 x (nI i) (nI j) f) (some (x + 1 + 4 + 18 * i)) (some (x + 1 + 19 + 18 * j)) s.1 (bI (dyP (W.tn i) (W.lw j) d)) (nI d) m2 = if dyP (W.tn i) (W.lw j) d = true ∧ f ≠ 0 then some (nI d, m2) else l_X9_days_41 x (nI i) (nI j) f (g_X9_days_119 x (nI i) (nI j) f) n (some (x + 1 + 4 + 18 * i)) (some (x + 1 + 19 + 18 * j)) (s.1 + bI (dyP (W.tn i) (W.lw j) d)) (bI (dyP (W.tn i) (W.lw j) d)) (nI (d + 1)) m2 := by
        intro n m2
        simp only [g_X9_days_86, g_X9_days_98, g_X9_days_110, bI_0, chk_t, ck_sI, ck_sR, ck_sJ, cal_s, bnd_e, ifn_s, ifn_n, nI_1]
        cases dyP (W.tn i) (W.lw j) d with
        | false => simp [bI]
        | true => by_cases hf : f = 0 <;> simp [hf, bI]
      have fin : ∀ (m2 : MM), Fq x m m2 → (∀ n, l_X9_days_41 x (nI i) (nI j) f (g_X9_days_119 x (nI i) (nI j) f) (n + 1) (some (x + 1 + 4 + 18 * i)) (some (x + 1 + 19 + 18 * j)) s.1 s.2.1 (nI d) s.2.2 = g_X9_days_86 x (nI i) (nI j) f (l_X9_days_41 x (nI i) (nI j) f (g_X9_days_119 x (nI i) (nI j) f) n) (g_X9_days_119 x (nI i) (nI j) f) (some (x + 1 + 4 + 18 * i)) (some (x + 1 + 19 + 18 * j)) s.1 (bI (dyP (W.tn i) (W.lw j) d)) (nI d) m2) → (∃ r, (∃ m', r = some (dyV (W.tn i) (W.lw j) f, m') ∧ Fq x m m') ∧ ∀ n, l_X9_days_41 x (nI i) (nI j) f (g_X9_days_119 x (nI i) (nI j) f) (n + 1) (some (x + 1 + 4 + 18 * i)) (some (x + 1 + 19 + 18 * j)) s.1 s.2.1 (nI d) s.2.2 = r) ∨ (∃ s' : Int32 × Int32 × MM, ((f = 0 → s'.1 = nI (cntB (dyP (W.tn i) (W.lw j)) (d + 1))) ∧ (f ≠ 0 → fnd (dyP (W.tn i) (W.lw j)) (fun d => nI d) (-1) (1000 - (d + 1)) (d + 1) = dyV (W.tn i) (W.lw j) f) ∧ (0 < d + 1 → s'.2.1 = bI (dyP (W.tn i) (W.lw j) (d + 1 - 1))) ∧ Fq x m s'.2.2) ∧ ∀ n, l_X9_days_41 x (nI i) (nI j) f (g_X9_days_119 x (nI i) (nI j) f) (n + 1) (some (x + 1 + 4 + 18 * i)) (some (x + 1 + 19 + 18 * j)) s.1 s.2.1 (nI d) s.2.2 = l_X9_days_41 x (nI i) (nI j) f (g_X9_days_119 x (nI i) (nI j) f) n (some (x + 1 + 4 + 18 * i)) (some (x + 1 + 19 + 18 * j)) s'.1 s'.2.1 (nI (d + 1)) s'.2.2) := by
        intro m2 f2 hst
        by_cases hb : dyP (W.tn i) (W.lw j) d = true ∧ f ≠ 0
        · refine .inl ⟨some (nI d, m2), ⟨m2, ?_, f2⟩, fun n => ?_⟩
          · rw [← a2 hb.2, fnd_t hd hb.1]
          · rw [hst n, st86 n m2, if_pos hb]
        · refine .inr ⟨(s.1 + bI (dyP (W.tn i) (W.lw j) d), bI (dyP (W.tn i) (W.lw j) d), m2), ⟨fun hf => ?_, fun hf => ?_, fun _ => rfl, f2⟩, fun n => ?_⟩
          · show s.1 + bI (dyP (W.tn i) (W.lw j) d) = _
            rw [a1 hf, cntB_s]
            cases dyP (W.tn i) (W.lw j) d
            · rw [bN_f]; exact nI_add _ 0
            · rw [bN_t]; exact nI_add _ 1
          · have hp : dyP (W.tn i) (W.lw j) d = false := by
              cases q : dyP (W.tn i) (W.lw j) d with
              | false => rfl
              | true => exact absurd ⟨q, hf⟩ hb
            rw [← a2 hf, fnd_f hd hp]
          · rw [hst n, st86 n m2, if_neg hb]
      have op : ∃ m2, Fq x m m2 ∧ ∀ n, g_X9_days_64 x (nI i) (nI j) f (l_X9_days_41 x (nI i) (nI j) f (g_X9_days_119 x (nI i) (nI j) f) n) (g_X9_days_119 x (nI i) (nI j) f) (some (x + 1 + 4 + 18 * i)) (some (x + 1 + 19 + 18 * j)) s.1 (nI d) s.2.2 = g_X9_days_86 x (nI i) (nI j) f (l_X9_days_41 x (nI i) (nI j) f (g_X9_days_119 x (nI i) (nI j) f) n) (g_X9_days_119 x (nI i) (nI j) f) (some (x + 1 + 4 + 18 * i)) (some (x + 1 + 19 + 18 * j)) s.1 (bI (dyP (W.tn i) (W.lw j) d)) (nI d) m2 := by
        obtain ⟨m1, e1, f1, q1⟩ := c_open g.S (g.ct hi) V (by omega) (by omega) hd (some (x + 1 + 19 + 18 * j))
        have g1 := g.kept f1
        have C : CS m1 x (x + 1 + 4 + 18 * i) (x + 1 + 19 + 18 * j) (W.tn i) (W.lw j) d 0 255 (-1) := ⟨g1.S, ⟨g1.S.th, q1.1, q1.2.1, g1.ct hi, g1.cl hj, q1.2.2.1, q1.2.2.2.1, q1.2.2.2.2.1, q1.2.2.2.2.2.1⟩, V, h.V.2 j hj, by omega, q1.2.2.2.2.2.2.1, q1.2.2.2.2.2.2.2, by omega, by omega⟩
        obtain ⟨m2, e2, o2, _⟩ := c_findFoes C
        refine ⟨m2, a4.tr (f1.tr (o2.f (by omega) (by omega))), fun n => ?_⟩
        simp only [g_X9_days_64, chk_t g.kx, g.sc, e1, chk_t, ck_sI, ck_sR, ck_sJ, cal_s, bnd_e, ifn_s, ifn_n, chk_t g1.kx, g1.sc, show f_X5_findFoes (x + 81) m1 = some (bI (dyP (W.tn i) (W.lw j) d), m2) from e2]
      by_cases hd0 : d = 0
      · obtain ⟨m2, f2, e2⟩ := op
        refine fin m2 f2 (fun n => ?_)
        show g_X9_days_41 x (nI i) (nI j) f (l_X9_days_41 x (nI i) (nI j) f (g_X9_days_119 x (nI i) (nI j) f) n) (g_X9_days_119 x (nI i) (nI j) f) (some (x + 1 + 4 + 18 * i)) (some (x + 1 + 19 + 18 * j)) s.1 s.2.1 (nI d) s.2.2 = _
        have z2 : nI d = 0 := by rw [hd0]; rfl
        simp only [g_X9_days_41, if_neg z1, if_pos z2, e2]
      · have z2 : ¬ nI d = 0 := nI_ne0 (by omega) (by omega)
        have cc := c_changesOn (g.ct hi) V hd (by omega)
        cases hch : chB (W.tn i) d with
        | true =>
          obtain ⟨m2, f2, e2⟩ := op
          refine fin m2 f2 (fun n => ?_)
          show g_X9_days_41 x (nI i) (nI j) f (l_X9_days_41 x (nI i) (nI j) f (g_X9_days_119 x (nI i) (nI j) f) n) (g_X9_days_119 x (nI i) (nI j) f) (some (x + 1 + 4 + 18 * i)) (some (x + 1 + 19 + 18 * j)) s.1 s.2.1 (nI d) s.2.2 = _
          simp only [g_X9_days_41, if_neg z1, if_neg z2, ck_s (g.ct hi).K, cc, hch, chk_t, ck_sI, ck_sR, ck_sJ, cal_s, bnd_e, ifn_s, ifn_n, bI_0, Bool.true_eq_false, if_false, e2]
        | false =>
          refine fin s.2.2 a4 (fun n => ?_)
          show g_X9_days_41 x (nI i) (nI j) f (l_X9_days_41 x (nI i) (nI j) f (g_X9_days_119 x (nI i) (nI j) f) n) (g_X9_days_119 x (nI i) (nI j) f) (some (x + 1 + 4 + 18 * i)) (some (x + 1 + 19 + 18 * j)) s.1 s.2.1 (nI d) s.2.2 = _
          simp only [g_X9_days_41, if_neg z1, if_neg z2, ck_s (g.ct hi).K, cc, hch, chk_t, ck_sI, ck_sR, ck_sJ, cal_s, bnd_e, ifn_s, ifn_n, bI_0, if_true, a3 (by omega), dyP_n V hd (by omega) hch]) (fun s hI => by
      obtain ⟨a1, a2, a3, a4⟩ := hI
      refine ⟨some (dyV (W.tn i) (W.lw j) f, s.2.2), ⟨s.2.2, rfl, a4⟩, fun n => ?_⟩
      show g_X9_days_41 x (nI i) (nI j) f (l_X9_days_41 x (nI i) (nI j) f (g_X9_days_119 x (nI i) (nI j) f) n) (g_X9_days_119 x (nI i) (nI j) f) (some (x + 1 + 4 + 18 * i)) (some (x + 1 + 19 + 18 * j)) s.1 s.2.1 (nI 1000) s.2.2 = _
      simp only [g_X9_days_41, if_pos (show (999 : Int32) < nI 1000 by decide), g_X9_days_119]
      by_cases hf : f = 0
      · rw [if_pos hf, a1 hf]
        unfold dyV
        rw [if_pos hf]
      · rw [← a2 hf]
        simp only [hf, if_false]
        rfl) (s0 := (0, 0, m)) ⟨fun _ => rfl, fun hf => by unfold dyV; rw [if_neg hf], fun q => absurd q (by omega), Fq.rf x m⟩
    refine ⟨m', ?_, fr⟩
    simp only [f_X9_days, g_X9_days_0, chk_t h.kx, h.now, c_townAt h.T hi, c_lawAt h.T hj, chk_t, ck_sI, ck_sR, ck_sJ, cal_s, bnd_e, ifn_s, ifn_n]
    rw [← er]
    exact hr FU (by unfold FU; omega)
  · have hnt := h.nt
    have hnl := h.nl
    have g := h.code
    have fc := fq_code x m
    simp only [f_X10_days, g_X10_days_0, chk_t h.M.1, chk_t, ck_sI, ck_sR, ck_sJ, cal_s, bnd_e, ifn_s, ifn_n]
    generalize m.sI 1100 (x + 106) 0 0 = m1 at g fc ⊢
    simp only [r_isTown g.M g.R hnt, r_isLaw g.M g.R hnl, chk_t, ck_sI, ck_sR, ck_sJ, cal_s, bnd_e, ifn_s, ifn_n, bI_0]
    cases hp : isN W.nt p with
    | false => exact ⟨m1, by simp, fc⟩
    | true =>
    obtain ⟨i, hi, e⟩ := (isN_iff (by omega)).mp hp
    subst e
    cases hq : isN W.nl q with
    | false => exact ⟨m1, by simp [chk_t g.M.1], fc⟩
    | true =>
    obtain ⟨j, hj, e⟩ := (isN_iff (by omega)).mp hq
    subst e
    have hB := (h.cl hj).n.2.2
    have N := h.nn hi
    simp only [Bool.true_eq_false, if_false, Bool.and_true, cond_true, chk_t g.M.1, cl_nI (show i < 2 ^ 31 by omega), cl_nI (show j < 2 ^ 31 by omega)]
    obtain ⟨r, ⟨m', er, fr⟩, hr⟩ := lp_ex (fun n d (s : Int32 × MM) => l_X10_days_29 (x + 106) (nI i) (nI j) f (g_X10_days_86 (x + 106) (nI i) (nI j) f) n s.1 d s.2) (fun d s => (f = 0 → s.1 = nI (cntB (dyP (W.tn i) (W.lw j)) d)) ∧ (f ≠ 0 → fnd (dyP (W.tn i) (W.lw j)) (fun d => nI d) (-1) (1000 - d) d = dyV (W.tn i) (W.lw j) f) ∧ Fq x m s.2) (fun r => ∃ m', r = some (dyV (W.tn i) (W.lw j) f, m') ∧ Fq x m m') 1000 0 (by omega) (fun d _ hd s hI => by
      obtain ⟨a1, a2, a4⟩ := hI
      have g := h.kept a4
      have z1 : ¬ (999 : Int32) < nI d := fun q => by have := (nI_ltI (a := 999) (by decide) (by omega)).mp q; omega
      obtain ⟨m2, e2, f2, R2⟩ := r_br g hi hj hd
      obtain ⟨m3, e3, o3, G3⟩ := r_findBars R2
      rw [br0_r N] at G3
      have f3 : Fq x m m3 := a4.tr (f2.tr o3.f)
      have hl : (br0 (W.tn i) (W.lw j) d).length ≤ 1320 := barL_le hB
      have hP := dyP_r (d := d) hB N
      have st : ∀ n, l_X10_days_29 (x + 106) (nI i) (nI j) f (g_X10_days_86 (x + 106) (nI i) (nI j) f) (n + 1) s.1 (nI d) s.2 = if dyP (W.tn i) (W.lw j) d = true ∧ f ≠ 0 then some (nI d, m3) else l_X10_days_29 (x + 106) (nI i) (nI j) f (g_X10_days_86 (x + 106) (nI i) (nI j) f) n (s.1 + bI (dyP (W.tn i) (W.lw j) d)) (nI (d + 1)) m3 := by
        intro n
        show g_X10_days_29 (x + 106) (nI i) (nI j) f (l_X10_days_29 (x + 106) (nI i) (nI j) f (g_X10_days_86 (x + 106) (nI i) (nI j) f) n) (g_X10_days_86 (x + 106) (nI i) (nI j) f) s.1 (nI d) s.2 = _
        simp only [g_X10_days_29, g_X10_days_63, g_X10_days_77, if_neg z1, chk_t g.M.1, e2, chk_t, ck_sI, ck_sR, ck_sJ, cal_s, bnd_e, ifn_s, ifn_n, chk_t R2.1.1.1, e3, chk_t (R2.rn o3).1.1.1, G3.1, le0 (show (br0 (W.tn i) (W.lw j) d).length < 2 ^ 31 by omega), nI_1]
        by_cases hz : (br0 (W.tn i) (W.lw j) d).length = 0
        · rw [decide_eq_true hz] at hP
          simp [hz, hP, bI]
        · rw [decide_eq_false hz] at hP
          by_cases hf : f = 0 <;> simp [hz, hP, hf, bI]
      by_cases hb : dyP (W.tn i) (W.lw j) d = true ∧ f ≠ 0
      · refine .inl ⟨some (nI d, m3), ⟨m3, ?_, f3⟩, fun n => ?_⟩
        · rw [← a2 hb.2, fnd_t hd hb.1]
        · rw [st n, if_pos hb]
      · refine .inr ⟨(s.1 + bI (dyP (W.tn i) (W.lw j) d), m3), ⟨fun hf => ?_, fun hf => ?_, f3⟩, fun n => ?_⟩
        · show s.1 + bI (dyP (W.tn i) (W.lw j) d) = _
          rw [a1 hf, cntB_s]
          cases dyP (W.tn i) (W.lw j) d
          · rw [bN_f]; exact nI_add _ 0
          · rw [bN_t]; exact nI_add _ 1
        · have hp : dyP (W.tn i) (W.lw j) d = false := by
            cases q : dyP (W.tn i) (W.lw j) d with
            | false => rfl
            | true => exact absurd ⟨q, hf⟩ hb
          rw [← a2 hf, fnd_f hd hp]
        · rw [st n, if_neg hb]) (fun s hI => by
      obtain ⟨a1, a2, a4⟩ := hI
      refine ⟨some (dyV (W.tn i) (W.lw j) f, s.2), ⟨s.2, rfl, a4⟩, fun n => ?_⟩
      show g_X10_days_29 (x + 106) (nI i) (nI j) f (l_X10_days_29 (x + 106) (nI i) (nI j) f (g_X10_days_86 (x + 106) (nI i) (nI j) f) n) (g_X10_days_86 (x + 106) (nI i) (nI j) f) s.1 (nI 1000) s.2 = _
      simp only [g_X10_days_29, if_pos (show (999 : Int32) < nI 1000 by decide), g_X10_days_86]
      by_cases hf : f = 0
      · rw [if_pos hf, a1 hf]
        unfold dyV
        rw [if_pos hf]
      · rw [← a2 hf]
        simp only [hf, if_false]
        rfl) (s0 := (0, m1)) ⟨fun _ => rfl, fun hf => by unfold dyV; rw [if_neg hf], fc⟩
    refine ⟨m', ?_, fr⟩
    rw [← er]
    exact hr FU (by unfold FU; omega)
