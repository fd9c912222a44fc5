/-! gone, add -/
theorem fnd_none {ρ : Type} {P : Nat → Bool} {F : Nat → ρ} {e : ρ} {n : Nat} (h : (List.range n).any P = false) : fnd P F e n 0 = e := by
  have key : ∀ k i, i + k ≤ n → fnd P F e k i = e := by
    intro k
    induction k with
    | zero => intro i _; rfl
    | succ k ih =>
      intro i hi
      show (if P i then F i else fnd P F e k (i + 1)) = e
      rw [anyF.mp h i (by omega)]
      exact ih (i + 1) (by omega)
  exact key n 0 (by omega)
theorem fnd_some {ρ : Type} {P : Nat → Bool} {F : Nat → ρ} {e : ρ} {n : Nat} (h : (List.range n).any P = true) : ∃ j, j < n ∧ fnd P F e n 0 = F j := by
  have key : ∀ k i, i + k = n → (∃ j, i ≤ j ∧ j < n ∧ P j = true) → ∃ j, j < n ∧ fnd P F e k i = F j := by
    intro k
    induction k with
    | zero => intro i hi ⟨j, h1, h2, _⟩; omega
    | succ k ih =>
      intro i hi ⟨j, h1, h2, h3⟩
      cases q : P i with
      | true => exact ⟨i, by omega, by show (if P i then F i else _) = _; rw [q]; rfl⟩
      | false =>
        have hne : i ≠ j := fun e => by subst e; rw [q] at h3; cases h3
        obtain ⟨j', a, b⟩ := ih (i + 1) (by omega) ⟨j, by omega, h2, h3⟩
        refine ⟨j', a, ?_⟩
        show (if P i then F i else fnd P F e k (i + 1)) = _
        rw [q]
        exact b
  obtain ⟨j, hj, q⟩ := anyT.mp h
  exact key n 0 (by omega) ⟨j, by omega, hj, q⟩
/-- a loop that counts from an offset on -/
theorem lp_off {ρ : Type} (L : Nat → Int32 → ρ) (b : Nat) (P : Nat → Bool) (x e : ρ) (N : Nat) (hs : ∀ i, i < N → ∀ n, L (n + 1) (nI (b + i)) = if P i then x else L n (nI (b + (i + 1)))) (he : ∀ n, L (n + 1) (nI (b + N)) = e) {n : Nat} (hn : N < n) : L n (nI b) = if (List.range N).any P then x else e := by
  have key : ∀ k i, i + k = N → ∀ n, k < n → L n (nI (b + i)) = fnd P (fun _ => x) e k i := by
    intro k
    induction k with
    | zero =>
      intro i hi n hn
      obtain ⟨q, rfl⟩ : ∃ q, n = q + 1 := ⟨n - 1, by omega⟩
      have e1 : i = N := by omega
      subst e1
      exact he q
    | succ k ih =>
      intro i hi n hn
      obtain ⟨q, rfl⟩ : ∃ q, n = q + 1 := ⟨n - 1, by omega⟩
      rw [hs i (by omega) q]
      show _ = (if P i then x else fnd P (fun _ => x) e k (i + 1))
      cases hP : P i with
      | true => rfl
      | false => exact ih (i + 1) (by omega) q (by omega)
  have := key N 0 (by omega) n hn
  rw [Nat.add_zero] at this
  rw [this, fnd_any, List.range_eq_range']
def goB (W : WD) (p q d : Int32) : Bool := isN W.nt p && isN ((W.tn p.toNatClampNeg).2.1 0) q && isN 1000 d && decide ((W.tn p.toNatClampNeg).2.2 0 q.toNatClampNeg 4 < d)
def goW (W : WD) (i j : Nat) (d : Int32) : WD := setT W i (tabW (W.tn i) 0 ((W.tn i).2.1 0) (fun r c => if r = j ∧ c = 7 then d else (W.tn i).2.2 0 r c))
theorem goV {W : WD} {i j : Nat} {d : Int32} (V : VW W) (hi : i < W.nt) (hd : isN 1000 d = true) : VW (goW W i j d) := by
  refine V.town ((V.1 i hi).tab0 (fun r hr => ?_))
  obtain ⟨b1, b2, b3, b4, b5, b6, b7, b8⟩ := (V.1 i hi).2.2.2.2.2.2.1 r hr
  obtain ⟨q, hq, eq⟩ := (isN_iff (by decide)).mp hd
  simp only [show ∀ c, c ≠ 7 → ¬ (r = j ∧ c = 7) from fun c h1 h2 => h1 h2.2, show (0 : Nat) ≠ 7 from by decide, show (1 : Nat) ≠ 7 from by decide, show (2 : Nat) ≠ 7 from by decide, show (3 : Nat) ≠ 7 from by decide, show (4 : Nat) ≠ 7 from by decide, show (5 : Nat) ≠ 7 from by decide, show (6 : Nat) ≠ 7 from by decide, and_false, if_false, and_true]
  refine ⟨b1, b2, b3, b4, b5, b6, b7, ?_⟩
  split
  · exact .inr ⟨q, hq, eq⟩
  · exact b8
theorem m_gone (x : Nat) (p q d : Int32) : Mq x (f_X9_gone x p q d) (f_X10_gone (x + 106) p q d) := by
  refine Mq_w (fun W => bI (goB W p q d)) (fun W => if goB W p q d then goW W p.toNatClampNeg q.toNatClampNeg d else W) (fun m W D h => ?_) (fun m W h => ?_)
  · have hnt := h.nt
    simp only [g_X9_gone_0, f_X9_gone, chk_t h.kx, h.now]
    cases hp : isN W.nt p with
    | false => exact ⟨m, by simp only [c_townAt0 h.T hp, chk_t, ck_sI, ck_sR, ck_sJ, cal_s, bnd_e, ifn_s, ifn_n, goB, hp, Bool.false_and, bI_f], Gq.rf x m, Ag.rf _ _ _, (Fq.rf x m).ar, by simpa [goB, hp] using h.T, by simpa [goB, hp] using h.V⟩
    | true =>
      obtain ⟨i, hi, e⟩ := (isN_iff (by omega)).mp hp
      subst e
      have c := h.ct hi
      have hn := (h.nn hi).1
      simp only [c_townAt h.T hi, c_hasThing c, hasTh_isN, c_isDay, chk_t, ck_sI, ck_sR, ck_sJ, cal_s, bnd_e, ifn_s, ifn_n, chk_t c.K, bI_0, cl_nI (show i < 2 ^ 31 by omega), Bool.true_and, goB, hp]
      cases hq : isN ((W.tn i).2.1 0) q with
      | false => exact ⟨m, by simp [bI], Gq.rf x m, Ag.rf _ _ _, (Fq.rf x m).ar, by simpa using h.T, by simpa using h.V⟩
      | true =>
        cases hd : isN 1000 d with
        | false => exact ⟨m, by simp [bI], Gq.rf x m, Ag.rf _ _ _, (Fq.rf x m).ar, by simpa using h.T, by simpa using h.V⟩
        | true =>
          obtain ⟨j, hj, e⟩ := (isN_iff (by omega)).mp hq
          subst e
          simp only [Bool.true_eq_false, if_false, c.k0, c.cell0_4 hj, Bool.and_true, Bool.true_and, chk_t, ck_sI, ck_sR, ck_sJ, cal_s, bnd_e, ifn_s, ifn_n, cl_nI (show j < 2 ^ 31 by omega)]
          by_cases hz : (W.tn i).2.2 0 j 4 < d
          · have o : On m (m.sI 22 (x + 1 + 4 + 18 * i + 1 + 1) (j * 8 + 7) d) (x + 1 + 4 + 18 * i) (x + 1 + 19 + 18 * i) := (On.rf m _ _).sI _ _ _ _ (by omega) (by omega)
            refine ⟨_, ?_, o.g (by omega) (by omega), o.ag (by omega), o.ar (by omega), ?_, ?_⟩
            · simp only [chk_t c.K, show f_X6_put (x + 1 + 4 + 18 * i + 1) (nI j) 7 d m = _ from put_in (c := 7) c.T0 hj (by omega) d, chk_t, ck_sI, ck_sR, ck_sJ, cal_s, bnd_e, ifn_s, ifn_n, hz, decide_true, bI_t, if_true]
            · simp only [hz, decide_true, if_true]
              refine h.T.town (by omega) (o.ag (by omega)) (o.ag (by omega)) (c.tab0 rfl rfl rfl (fun s a j a1 a2 a3 a4 => ?_) ?_ (by omega) (fun r hr q hq => ?_))
              · rw [I_sI, if_neg (by omega)]
              · rw [I_sI, if_neg (by omega)]; exact c.n0.1
              · by_cases er : r = j ∧ q = 7
                · obtain ⟨rfl, rfl⟩ := er
                  rw [I_sI, if_pos ⟨rfl, rfl, rfl⟩, if_pos ⟨rfl, rfl⟩]
                · rw [if_neg er, I_sI, if_neg (by omega)]
                  exact c.c0 r hr q hq
            · simp only [hz, decide_true, if_true]
              exact goV h.V hi hd
          · exact ⟨m, by simp [hz, bI], Gq.rf x m, Ag.rf _ _ _, (Fq.rf x m).ar, by simpa [hz] using h.T, by simpa [hz] using h.V⟩
  · have hnt := h.nt
    have g := h.code
    have fc := gq_code x m
    have ac := ag_code x m
    simp only [f_X10_gone, g_X10_gone_0, chk_t h.M.1, bnd_e]
    generalize m.sI 1100 (x + 106) 0 0 = m1 at g fc ac ⊢
    cases hp : isN W.nt p with
    | false => exact ⟨m1, by simp only [r_isThingR0 g hp, chk_t, ck_sI, ck_sR, ck_sJ, cal_s, bnd_e, ifn_s, ifn_n, if_true, goB, hp, Bool.false_and, bI_f], fc, ac, by simpa [goB, hp] using g.R⟩
    | true =>
      obtain ⟨i, hi, e⟩ := (isN_iff (by omega)).mp hp
      subst e
      have hn := (g.nn i hi).1
      have R := (g.rt hi)
      simp only [r_isThingR g hi, chk_t, ck_sI, ck_sR, ck_sJ, cal_s, bnd_e, ifn_s, ifn_n, bI_0, cl_nI (show i < 2 ^ 31 by omega), Bool.true_and, goB, hp]
      cases hq : isN ((W.tn i).2.1 0) q with
      | false => exact ⟨m1, by simp [bI], fc, ac, by simpa using g.R⟩
      | true =>
        obtain ⟨j, hj, e⟩ := (isN_iff (by omega)).mp hq
        subst e
        have e12 : (12 : Int32) * nI i + nI j = nI (12 * i + j) := by
          show nI 12 * nI i + nI j = _
          rw [pk_mul, nI_add]
        have hk : 12 * i + j < 144 := by omega
        obtain ⟨s, hs, es⟩ := ((g.V.1 i hi).2.2.2.2.2.2.1 j hj).2.2.2.2.1
        have rs : m1.I 22 (x + 106 + 11) (12 * i + j) = nI s := (R.2.1 j hj 4 (by omega)).trans es
        have key : inR d (nI s + 1) 999 = (isN 1000 d && decide (nI s < d)) := by
          have a1 : (nI s + 1).toInt = s + 1 := by rw [show nI s + 1 = nI (s + 1) from nI_add s 1, nI_toInt (by omega)]; omega
          have a2 : (999 : Int32).toInt = 999 := rfl
          have a3 : (nI 1000).toInt = 1000 := rfl
          have a0 : (0 : Int32).toInt = 0 := rfl
          rw [Bool.eq_iff_iff]
          simp only [inR, isN, Bool.and_eq_true, Bool.not_eq_true', decide_eq_false_iff_not, decide_eq_true_eq, i_lt, i_le, a1, a2, a3, a0, nI_toInt (show s < 2 ^ 31 by omega)]
          omega
        simp only [Bool.true_eq_false, if_false, chk_t g.M.1, e12, g.M.c1111, g.M.n1111, g.M.c1114, g.M.n1114, chk_t (inb_nI hk (by decide)), cl_nI (show 12 * i + j < 2 ^ 31 by omega), cl_nI (show j < 2 ^ 31 by omega), rs, r_in, key, chk_t, ck_sI, ck_sR, ck_sJ, cal_s, bnd_e, ifn_s, ifn_n, bI_0, Bool.true_and, es]
        cases hz : (isN 1000 d && decide (nI s < d)) with
        | false => exact ⟨m1, by simp [bI], fc, ac, by simpa using g.R⟩
        | true =>
          refine ⟨m1.sI 22 (x + 106 + 14) (12 * i + j) d, by simp [bI], fc.sI _ _ _ _ (.inr (.inr (.inr ⟨14, by omega, by omega, rfl, by show _ < 36; omega⟩))), ac.sI _ _ _ _ (by omega), ?_⟩
          simp only [if_true]
          refine g.R.town g.nn ((At.rf _ i m1).sI _ _ _ _ (.inr (.inr ⟨14, j, by omega, by omega, rfl, rfl, by show j < 12; omega⟩))) (R.tab0 (fun j hj => ?_) ?_ (fun d d1 d2 j => ?_) (fun r hr c hc => ?_))
          · rw [I_sI, if_neg (by omega)]
          · rw [I_sI, if_neg (by omega)]; exact R.1.2.2.1
          · rw [I_sI, if_neg (by omega)]
          · by_cases er : r = j ∧ c = 7
            · obtain ⟨rfl, rfl⟩ := er
              rw [I_sI, if_pos ⟨rfl, rfl, rfl⟩, if_pos ⟨rfl, rfl⟩]
            · rw [if_neg er, I_sI, if_neg (by omega)]
              exact R.2.1 r hr c hc
/-! a thing's row is added -/
def thF (k x y h s f : Int32) (c : Nat) : Int32 := if c = 0 then k else if c = 1 then x else if c = 2 then y else if c = 3 then h else if c = 4 then s else if c = 5 then f else if c = 6 then 1 else -1
theorem c_addThing {m : MM} {t : Nat} {T : TW} (c : CT m t T) (hz : T.2.1 0 < 12) (k x y h s f : Int32) : ∃ n1 n2 n, f_X6_addRow (t + 1) m = some (nI (T.2.1 0), n1) ∧ n1.K = m.K ∧ f_X8_fillThing t (nI (T.2.1 0)) k x y n1 = some ((), n2) ∧ n2.K = m.K ∧ f_X8_fillRest t (nI (T.2.1 0)) h s f n2 = some ((), n) ∧ CT n t (addR T 0 (thF k x y h s f)) ∧ On m n t (t + 15) := by
  obtain ⟨a1, a2⟩ := addRow_in c.T0 hz
  obtain ⟨z, ez⟩ : ∃ z, z = T.2.1 0 := ⟨_, rfl⟩
  rw [← ez] at a1 a2 hz ⊢
  have p : ∀ (q : MM) (cc : Nat) (v : Int32), Tb q (t + 1) 12 8 (z + 1) → cc < 8 → f_X6_put (t + 1) (nI z) (nI cc) v q = some ((), q.sI 22 (t + 1 + 1) (z * 8 + cc) v) := fun q cc v hq hc => put_in hq (by omega) hc v
  have b0 := a2
  have b1 := b0.s22 (t + 1 + 1) (z * 8 + 0) k
  have b2 := b1.s22 (t + 1 + 1) (z * 8 + 1) x
  have b3 := b2.s22 (t + 1 + 1) (z * 8 + 2) y
  have b4 := b3.s22 (t + 1 + 1) (z * 8 + 3) h
  have b5 := b4.s22 (t + 1 + 1) (z * 8 + 4) s
  have b6 := b5.s22 (t + 1 + 1) (z * 8 + 5) f
  have b7 := b6.s22 (t + 1 + 1) (z * 8 + 6) 1
  refine ⟨(m.sI 703 (t + 1) 0 (nI (z + 1))), ((((m.sI 703 (t + 1) 0 (nI (z + 1))).sI 22 (t + 1 + 1) (z * 8 + 0) k).sI 22 (t + 1 + 1) (z * 8 + 1) x).sI 22 (t + 1 + 1) (z * 8 + 2) y), (((((((((m.sI 703 (t + 1) 0 (nI (z + 1))).sI 22 (t + 1 + 1) (z * 8 + 0) k).sI 22 (t + 1 + 1) (z * 8 + 1) x).sI 22 (t + 1 + 1) (z * 8 + 2) y).sI 22 (t + 1 + 1) (z * 8 + 3) h).sI 22 (t + 1 + 1) (z * 8 + 4) s).sI 22 (t + 1 + 1) (z * 8 + 5) f).sI 22 (t + 1 + 1) (z * 8 + 6) 1).sI 22 (t + 1 + 1) (z * 8 + 7) (-1)), a1, rfl, ?_, rfl, ?_, ?_, ?_⟩
  · simp only [g_X8_fillThing_0, f_X8_fillThing, K_sI, R_sI, chk_t c.K, c.k0, chk_t, ck_sI, ck_sR, ck_sJ, cal_s, bnd_e, ifn_s, ifn_n, show f_X6_put (t + 1) (nI z) 0 k _ = _ from p _ 0 k b0 (by omega), show f_X6_put (t + 1) (nI z) 1 x _ = _ from p _ 1 x b1 (by omega), show f_X6_put (t + 1) (nI z) 2 y _ = _ from p _ 2 y b2 (by omega)]
  · simp only [g_X8_fillRest_0, f_X8_fillRest, K_sI, R_sI, chk_t c.K, c.k0, chk_t, ck_sI, ck_sR, ck_sJ, cal_s, bnd_e, ifn_s, ifn_n, show f_X6_put (t + 1) (nI z) 3 h _ = _ from p _ 3 h b3 (by omega), show f_X6_put (t + 1) (nI z) 4 s _ = _ from p _ 4 s b4 (by omega), show f_X6_put (t + 1) (nI z) 5 f _ = _ from p _ 5 f b5 (by omega), show f_X6_put (t + 1) (nI z) 6 1 _ = _ from p _ 6 1 b6 (by omega), show f_X6_put (t + 1) (nI z) 7 (-1) _ = _ from p _ 7 (-1) b7 (by omega)]
  · unfold addR
    rw [← ez]
    refine c.tab0 rfl rfl rfl (fun s a j a1 a2 a3 a4 => ?_) ?_ (by omega) (fun r hr q hq => ?_)
    · rw [I_sI, if_neg (by omega), I_sI, if_neg (by omega), I_sI, if_neg (by omega), I_sI, if_neg (by omega), I_sI, if_neg (by omega), I_sI, if_neg (by omega), I_sI, if_neg (by omega), I_sI, if_neg (by omega), I_sI, if_neg (by omega)]
    · rw [I_sI, if_neg (by omega), I_sI, if_neg (by omega), I_sI, if_neg (by omega), I_sI, if_neg (by omega), I_sI, if_neg (by omega), I_sI, if_neg (by omega), I_sI, if_neg (by omega), I_sI, if_neg (by omega), I_sI, if_pos ⟨rfl, rfl, rfl⟩]
    · by_cases er : r = z
      · rw [if_pos er]
        subst er
        have : q = 0 ∨ q = 1 ∨ q = 2 ∨ q = 3 ∨ q = 4 ∨ q = 5 ∨ q = 6 ∨ q = 7 := by omega
        rcases this with rfl | rfl | rfl | rfl | rfl | rfl | rfl | rfl
        · rw [I_sI, if_neg (by omega), I_sI, if_neg (by omega), I_sI, if_neg (by omega), I_sI, if_neg (by omega), I_sI, if_neg (by omega), I_sI, if_neg (by omega), I_sI, if_neg (by omega), I_sI, if_pos ⟨rfl, rfl, rfl⟩]; rfl
        · rw [I_sI, if_neg (by omega), I_sI, if_neg (by omega), I_sI, if_neg (by omega), I_sI, if_neg (by omega), I_sI, if_neg (by omega), I_sI, if_neg (by omega), I_sI, if_pos ⟨rfl, rfl, rfl⟩]; rfl
        · rw [I_sI, if_neg (by omega), I_sI, if_neg (by omega), I_sI, if_neg (by omega), I_sI, if_neg (by omega), I_sI, if_neg (by omega), I_sI, if_pos ⟨rfl, rfl, rfl⟩]; rfl
        · rw [I_sI, if_neg (by omega), I_sI, if_neg (by omega), I_sI, if_neg (by omega), I_sI, if_neg (by omega), I_sI, if_pos ⟨rfl, rfl, rfl⟩]; rfl
        · rw [I_sI, if_neg (by omega), I_sI, if_neg (by omega), I_sI, if_neg (by omega), I_sI, if_pos ⟨rfl, rfl, rfl⟩]; rfl
        · rw [I_sI, if_neg (by omega), I_sI, if_neg (by omega), I_sI, if_pos ⟨rfl, rfl, rfl⟩]; rfl
        · rw [I_sI, if_neg (by omega), I_sI, if_pos ⟨rfl, rfl, rfl⟩]; rfl
        · rw [I_sI, if_pos ⟨rfl, rfl, rfl⟩]; rfl
      · rw [if_neg er, I_sI, if_neg (by omega), I_sI, if_neg (by omega), I_sI, if_neg (by omega), I_sI, if_neg (by omega), I_sI, if_neg (by omega), I_sI, if_neg (by omega), I_sI, if_neg (by omega), I_sI, if_neg (by omega), I_sI, if_neg (by omega)]
        exact c.c0 r (by omega) q hq
  · exact (((((((((On.rf m _ _).sI _ _ _ _ (by omega) (by omega)).sI _ _ _ _ (by omega) (by omega)).sI _ _ _ _ (by omega) (by omega)).sI _ _ _ _ (by omega) (by omega)).sI _ _ _ _ (by omega) (by omega)).sI _ _ _ _ (by omega) (by omega)).sI _ _ _ _ (by omega) (by omega)).sI _ _ _ _ (by omega) (by omega)).sI _ _ _ _ (by omega) (by omega)
def adB (W : WD) (p k x y h s f : Int32) : Bool := isN W.nt p && decide ((W.tn p.toNatClampNeg).2.1 0 < 12) && isN 6 k && hasPt (W.tn p.toNatClampNeg) x y && isN 8 h && isN 1000 s && fcB f && !(List.range ((W.tn p.toNatClampNeg).2.1 0)).any (thAt (W.tn p.toNatClampNeg) x y)
def adW (W : WD) (i : Nat) (k x y h s f : Int32) : WD := setT W i (addR (W.tn i) 0 (thF k x y h s f))
theorem fcB_or {f : Int32} (hf : fcB f = true) : f = -1 ∨ nB f 4 := by
  simp only [fcB, Bool.or_eq_true, decide_eq_true_eq] at hf
  rcases hf with hf | hf
  · exact .inl hf
  · obtain ⟨q, hq, eq⟩ := (isN_iff (by decide)).mp hf
    exact .inr ⟨q, hq, eq⟩
theorem hasPt_B {T : TW} (V : VT T) {p q : Int32} (h : hasPt T p q = true) : nB p 8 ∧ nB q 8 := by
  rw [hasPt_N V, Bool.and_eq_true] at h
  obtain ⟨⟨a, a1, a2, ea⟩, ⟨b, b1, b2, eb⟩, _⟩ := V
  rw [ea, eb, cl_nI (show a < 2 ^ 31 by omega), cl_nI (show b < 2 ^ 31 by omega)] at h
  obtain ⟨i, hi, e1⟩ := (isN_iff (by omega)).mp h.1
  obtain ⟨j, hj, e2⟩ := (isN_iff (by omega)).mp h.2
  exact ⟨⟨i, by omega, e1⟩, ⟨j, by omega, e2⟩⟩
theorem adV {W : WD} {i : Nat} {k x y h s f : Int32} (V : VW W) (hi : i < W.nt) (hk : isN 6 k = true) (hp : hasPt (W.tn i) x y = true) (hh : isN 8 h = true) (hs : isN 1000 s = true) (hf : fcB f = true) : VW (adW W i k x y h s f) := by
  refine V.town ((V.1 i hi).tab0 (fun r hr => ?_))
  by_cases e : r = (W.tn i).2.1 0
  · simp only [if_pos e]
    obtain ⟨k', hk', ek⟩ := (isN_iff (by decide)).mp hk
    obtain ⟨h', hh', eh⟩ := (isN_iff (by decide)).mp hh
    obtain ⟨s', hs', es⟩ := (isN_iff (by decide)).mp hs
    obtain ⟨px, py⟩ := hasPt_B (V.1 i hi) hp
    exact ⟨⟨k', hk', ek⟩, px, py, ⟨h', hh', eh⟩, ⟨s', hs', es⟩, fcB_or hf, ⟨1, by decide, rfl⟩, .inl rfl⟩
  · simp only [if_neg e]
    exact (V.1 i hi).2.2.2.2.2.2.1 r (by omega)
theorem m_add (x : Nat) (p k a b h s f : Int32) : Mq x (f_X9_add x p k a b h s f) (f_X10_add (x + 106) p k a b h s f) := by
  refine Mq_w (fun W => if adB W p k a b h s f then nI ((W.tn p.toNatClampNeg).2.1 0) else -1) (fun W => if adB W p k a b h s f then adW W p.toNatClampNeg k a b h s f else W) (fun m W D H => ?_) (fun m W H => ?_)
  · have hnt := H.nt
    have nope : adB W p k a b h s f = false → TD m (x + 1) (if adB W p k a b h s f then adW W p.toNatClampNeg k a b h s f else W) ∧ VW (if adB W p k a b h s f then adW W p.toNatClampNeg k a b h s f else W) := fun q => by rw [q]; exact ⟨H.T, H.V⟩
    have stay : adB W p k a b h s f = false → f_X9_add x p k a b h s f m = some (-1, m) → ∃ m1, f_X9_add x p k a b h s f m = some (if adB W p k a b h s f then nI ((W.tn p.toNatClampNeg).2.1 0) else -1, m1) ∧ Gq x m m1 ∧ Ag m m1 (x + 61) (x + 81) ∧ Ar m m1 (x + 106) ∧ TD m1 (x + 1) (if adB W p k a b h s f then adW W p.toNatClampNeg k a b h s f else W) ∧ VW (if adB W p k a b h s f then adW W p.toNatClampNeg k a b h s f else W) := fun q1 q2 => ⟨m, by rw [q1]; exact q2, Gq.rf x m, Ag.rf _ _ _, (Fq.rf x m).ar, (nope q1).1, (nope q1).2⟩
    cases hp : isN W.nt p with
    | false =>
      refine stay (by simp [adB, hp]) ?_
      simp only [g_X9_add_0, f_X9_add, chk_t H.kx, H.now, c_townAt0 H.T hp, chk_t, ck_sI, ck_sR, ck_sJ, cal_s, bnd_e, ifn_s, ifn_n]
    | true =>
      obtain ⟨i, hi, e⟩ := (isN_iff (by omega)).mp hp
      subst e
      have c := H.ct hi
      have hn := (H.nn hi).1
      have ci : (nI i).toNatClampNeg = i := cl_nI (by omega)
      have ev : f_X9_add x (nI i) k a b h s f m = if isN 6 k = false then some (-1, m) else if hasPt (W.tn i) a b = false then some (-1, m) else if isN 8 h = false then some (-1, m) else if isN 1000 s = false then some (-1, m) else if fcB f = false then some (-1, m) else f_X9_add x (nI i) k a b h s f m := by
        simp only [g_X9_add_0, f_X9_add, chk_t H.kx, H.now, c_townAt H.T hi, c_isKind, c_hasPoint c, c_isHouse, c_isDay, c_isFacing, chk_t, ck_sI, ck_sR, ck_sJ, cal_s, bnd_e, ifn_s, ifn_n, chk_t c.K, bI_0]
        cases isN 6 k <;> cases hasPt (W.tn i) a b <;> cases isN 8 h <;> cases isN 1000 s <;> cases fcB f <;> rfl
      cases hk : isN 6 k with
      | false => exact stay (by simp [adB, hk]) (by rw [ev, if_pos hk])
      | true =>
      cases hpt : hasPt (W.tn i) a b with
      | false => exact stay (by simp [adB, ci, hpt]) (by rw [ev, if_neg (by simp [hk]), if_pos hpt])
      | true =>
      cases hh : isN 8 h with
      | false => exact stay (by simp [adB, hh]) (by rw [ev, if_neg (by simp [hk]), if_neg (by simp [hpt]), if_pos hh])
      | true =>
      cases hs : isN 1000 s with
      | false => exact stay (by simp [adB, hs]) (by rw [ev, if_neg (by simp [hk]), if_neg (by simp [hpt]), if_neg (by simp [hh]), if_pos hs])
      | true =>
      cases hf : fcB f with
      | false => exact stay (by simp [adB, hf]) (by rw [ev, if_neg (by simp [hk]), if_neg (by simp [hpt]), if_neg (by simp [hh]), if_neg (by simp [hs]), if_pos hf])
      | true =>
      have fa := c_thingAt c a b
      cases ht : (List.range ((W.tn i).2.1 0)).any (thAt (W.tn i) a b) with
      | true =>
        obtain ⟨j, hj, ej⟩ := fnd_some (F := fun i => some (nI i, m)) (e := some (-1, m)) ht
        refine stay (by simp [adB, ci, ht]) ?_
        have nj : ¬ nI j = -1 := nI_ne_m1 (by omega)
        simp only [g_X9_add_0, f_X9_add, chk_t H.kx, H.now, c_townAt H.T hi, c_isKind, c_hasPoint c, c_isHouse, c_isDay, c_isFacing, chk_t, ck_sI, ck_sR, ck_sJ, cal_s, bnd_e, ifn_s, ifn_n, chk_t c.K, bI_0, hk, hpt, hh, hs, hf, Bool.true_eq_false, if_false, fa.trans ej, if_neg nj]
      | false =>
        have fb := fa.trans (fnd_none (F := fun i => some (nI i, m)) (e := some (-1, m)) ht)
        by_cases hz : (W.tn i).2.1 0 < 12
        · have yes : adB W (nI i) k a b h s f = true := by simp [adB, ci, hp, hz, hk, hpt, hh, hs, hf, ht]
          obtain ⟨n1, n2, n, u1, u2, u3, u4, u5, u6, o⟩ := c_addThing c hz k a b h s f
          rw [yes]
          refine ⟨n, ?_, o.g (by omega) (by omega), o.ag (by omega), o.ar (by omega), ?_, ?_⟩
          · simp only [g_X9_add_0, f_X9_add, chk_t H.kx, H.now, c_townAt H.T hi, c_isKind, c_hasPoint c, c_isHouse, c_isDay, c_isFacing, chk_t, ck_sI, ck_sR, ck_sJ, cal_s, bnd_e, ifn_s, ifn_n, chk_t c.K, bI_0, hk, hpt, hh, hs, hf, Bool.true_eq_false, if_false, fb, if_true, c.k0, u1, u2, u3, u4, u5, ci]
          · simp only [if_true, ci]
            exact H.T.town (by omega) (o.ag (by omega)) (o.ag (by omega)) u6
          · simp only [if_true, ci]
            exact adV H.V hi hk hpt hh hs hf
        · refine stay (by simp [adB, ci, hz]) ?_
          have q0 : ∀ cc v, f_X6_put (x + 1 + 4 + 18 * i + 1) (-1) cc v m = some ((), m) := fun cc v => put_no c.T0 cc v
          simp only [g_X9_add_0, f_X9_add, g_X8_fillThing_0, f_X8_fillThing, g_X8_fillRest_0, f_X8_fillRest, chk_t H.kx, H.now, c_townAt H.T hi, c_isKind, c_hasPoint c, c_isHouse, c_isDay, c_isFacing, chk_t, ck_sI, ck_sR, ck_sJ, cal_s, bnd_e, ifn_s, ifn_n, chk_t c.K, bI_0, hk, hpt, hh, hs, hf, Bool.true_eq_false, if_false, fb, if_true, c.k0, addRow_no c.T0 (by omega), q0]
  · have hnt := H.nt
    have g := H.code
    have fc := gq_code x m
    have ac := ag_code x m
    have e1 : (m.sI 1100 (x + 106) 0 0).sI 1100 (x + 106) 0 0 = m.sI 1100 (x + 106) 0 0 := mm_ext (fun s' a' i' => by simp only [I_sI]; split <;> rfl) (fun _ _ _ => rfl) (fun _ _ _ => rfl) rfl rfl rfl
    have e0 : f_X10_add (x + 106) p k a b h s f m = f_X10_add (x + 106) p k a b h s f (m.sI 1100 (x + 106) 0 0) := by
      simp only [f_X10_add, g_X10_add_0, K_sI, bnd_e, e1]
    rw [e0]
    generalize m.sI 1100 (x + 106) 0 0 = m1 at g fc ac e1 ⊢
    have stay : adB W p k a b h s f = false → f_X10_add (x + 106) p k a b h s f m1 = some (-1, m1) → ∃ m2, f_X10_add (x + 106) p k a b h s f m1 = some (if adB W p k a b h s f then nI ((W.tn p.toNatClampNeg).2.1 0) else -1, m2) ∧ Gq x m m2 ∧ Ag m m2 (x + 1) (x + 81) ∧ RW m2 (x + 106) 0 (if adB W p k a b h s f then adW W p.toNatClampNeg k a b h s f else W) := fun q1 q2 => ⟨m1, by rw [q1]; exact q2, fc, ac, by rw [q1]; exact g.R⟩
    cases hp : isN W.nt p with
    | false =>
      refine stay (by simp [adB, hp]) ?_
      simp only [f_X10_add, g_X10_add_0, chk_t g.M.1, bnd_e, e1, r_isTown g.M g.R hnt, chk_t, ck_sI, ck_sR, ck_sJ, cal_s, bnd_e, ifn_s, ifn_n, bI_0, hp, if_true]
    | true =>
      obtain ⟨i, hi, e⟩ := (isN_iff (by omega)).mp hp
      subst e
      have hn := (g.nn i hi).1
      have R := (g.rt hi)
      have ci : (nI i).toNatClampNeg = i := cl_nI (by omega)
      have o2 : f_X10_of (x + 106) (nI i) 2 m1 = some (nI ((W.tn i).2.1 0), m1) := by rw [← R.1.2.2.1]; exact r_of g.M (w := 2) (by omega) (by omega)
      have ip := r_isPoint g.M (show i < 12 by omega) R.1.1 R.1.2.1 (g.V.1 i hi) a b
      have e12 : (12 : Int32) * nI i = nI (12 * i) := pk_mul 12 i
      have e2 : nI (12 * i) + nI ((W.tn i).2.1 0) = nI (12 * i + (W.tn i).2.1 0) := nI_add _ _
      by_cases hz : (W.tn i).2.1 0 < 12
      · have k3 : ¬ nI ((W.tn i).2.1 0) = 12 := fun q => by have := nI_inj (b := 12) (by omega) (by decide) q; omega
        have ev : f_X10_add (x + 106) (nI i) k a b h s f m1 = if isN 6 k = false then some (-1, m1) else if hasPt (W.tn i) a b = false then some (-1, m1) else if isN 8 h = false then some (-1, m1) else if isN 1000 s = false then some (-1, m1) else if fcB f = false then some (-1, m1) else l_X10_add_81 (x + 106) (nI i) k a b h s f (g_X10_add_128 (x + 106) (nI i) k a b h s f) FU (nI (12 * i)) m1 := by
          simp only [f_X10_add, g_X10_add_0, chk_t g.M.1, bnd_e, e1, r_isTown g.M g.R hnt, hp, o2, ip, r_in, inR_6, inR_8, inR_f, r_isDay, chk_t, ck_sI, ck_sR, ck_sJ, cal_s, bnd_e, ifn_s, ifn_n, bI_0, Bool.true_eq_false, if_false, if_neg k3, e12]
        cases hk : isN 6 k with
        | false => exact stay (by simp [adB, hk]) (by rw [ev, if_pos hk])
        | true =>
        cases hpt : hasPt (W.tn i) a b with
        | false => exact stay (by simp [adB, ci, hpt]) (by rw [ev, if_neg (by simp [hk]), if_pos hpt])
        | true =>
        cases hh : isN 8 h with
        | false => exact stay (by simp [adB, hh]) (by rw [ev, if_neg (by simp [hk]), if_neg (by simp [hpt]), if_pos hh])
        | true =>
        cases hs : isN 1000 s with
        | false => exact stay (by simp [adB, hs]) (by rw [ev, if_neg (by simp [hk]), if_neg (by simp [hpt]), if_neg (by simp [hh]), if_pos hs])
        | true =>
        cases hf : fcB f with
        | false => exact stay (by simp [adB, hf]) (by rw [ev, if_neg (by simp [hk]), if_neg (by simp [hpt]), if_neg (by simp [hh]), if_neg (by simp [hs]), if_pos hf])
        | true =>
        rw [if_neg (by simp [hk]), if_neg (by simp [hpt]), if_neg (by simp [hh]), if_neg (by simp [hs]), if_neg (by simp [hf])] at ev
        have lo := lp_off (fun n q => l_X10_add_81 (x + 106) (nI i) k a b h s f (g_X10_add_128 (x + 106) (nI i) k a b h s f) n q m1) (12 * i) (thAt (W.tn i) a b) (some (-1, m1)) (g_X10_add_128 (x + 106) (nI i) k a b h s f m1) ((W.tn i).2.1 0) (fun j hj n => by
          show g_X10_add_81 (x + 106) (nI i) k a b h s f (l_X10_add_81 (x + 106) (nI i) k a b h s f (g_X10_add_128 (x + 106) (nI i) k a b h s f) n) (g_X10_add_128 (x + 106) (nI i) k a b h s f) (nI (12 * i + j)) m1 = _
          have q1 : ¬ nI (12 * i + (W.tn i).2.1 0) ≤ nI (12 * i + j) := nI_ge (by omega) (by omega)
          have q2 : nI (12 * i + j) + 1 = nI (12 * i + (j + 1)) := nI_add (12 * i + j) 1
          simp only [g_X10_add_81, g_X10_add_122, chk_t g.M.1, o2, chk_t, ck_sI, ck_sR, ck_sJ, cal_s, bnd_e, ifn_s, ifn_n, e12, e2, if_neg q1, g.M.c1108, g.M.n1108, g.M.c1109, g.M.n1109, chk_t (inb_nI (show 12 * i + j < 144 by omega) (by decide)), cl_nI (show 12 * i + j < 2 ^ 31 by omega), show m1.I 22 (x + 106 + 8) (12 * i + j) = _ from R.2.1 j hj 1 (by omega), show m1.I 22 (x + 106 + 9) (12 * i + j) = _ from R.2.1 j hj 2 (by omega), q2, thAt]
          by_cases u1 : (W.tn i).2.2 0 j 1 = a
          · by_cases u2 : (W.tn i).2.2 0 j 2 = b <;> simp [u1, u2]
          · simp [u1]) (fun n => by
          show g_X10_add_81 (x + 106) (nI i) k a b h s f (l_X10_add_81 (x + 106) (nI i) k a b h s f (g_X10_add_128 (x + 106) (nI i) k a b h s f) n) (g_X10_add_128 (x + 106) (nI i) k a b h s f) (nI (12 * i + (W.tn i).2.1 0)) m1 = _
          simp only [g_X10_add_81, chk_t g.M.1, o2, chk_t, ck_sI, ck_sR, ck_sJ, cal_s, bnd_e, ifn_s, ifn_n, e12, e2, if_pos (Int32.le_refl _)]) (n := FU) (by unfold FU; omega)
        cases ht : (List.range ((W.tn i).2.1 0)).any (thAt (W.tn i) a b) with
        | true => exact stay (by simp [adB, ci, ht]) (by rw [ev]; exact lo.trans (by rw [ht]; rfl))
        | false =>
          have yes : adB W (nI i) k a b h s f = true := by simp [adB, ci, hp, hz, hk, hpt, hh, hs, hf, ht]
          rw [yes, ev]
          rw [ht] at lo
          have lo2 : l_X10_add_81 (x + 106) (nI i) k a b h s f (g_X10_add_128 (x + 106) (nI i) k a b h s f) FU (nI (12 * i)) m1 = g_X10_add_128 (x + 106) (nI i) k a b h s f m1 := lo
          rw [lo2]
          clear lo lo2 ev stay ip
          obtain ⟨z, ez⟩ : ∃ z, z = (W.tn i).2.1 0 := ⟨_, rfl⟩
          rw [← ez] at o2 hz hn e2
          have e32 : (32 : Int32) * nI i + 2 = nI (32 * i + 2) := by
            show nI 32 * nI i + nI 2 = _
            rw [pk_mul, nI_add]
          have r2 : m1.I 22 (x + 106 + 6) (32 * i + 2) = nI z := by rw [ez]; exact R.1.2.2.1
          have e10 : nI z + 1 = nI (z + 1) := nI_add _ 1
          have e11 : nI (12 * i + z) - nI (12 * i) = nI z := by rw [pk_sub (by omega)]; congr 1; omega
          refine ⟨(((((((((m1.sI 22 (x + 106 + 6) (32 * i + 2) (nI (z + 1))).sI 22 (x + 106 + 7) (12 * i + z) k).sI 22 (x + 106 + 8) (12 * i + z) a).sI 22 (x + 106 + 9) (12 * i + z) b).sI 22 (x + 106 + 10) (12 * i + z) h).sI 22 (x + 106 + 11) (12 * i + z) s).sI 22 (x + 106 + 12) (12 * i + z) f).sI 22 (x + 106 + 13) (12 * i + z) 1).sI 22 (x + 106 + 14) (12 * i + z) (-1)), ?_, ?_, ?_, ?_⟩
          · simp only [g_X10_add_128, K_sI, R_sI, N_sI, chk_t g.M.1, o2, chk_t, ck_sI, ck_sR, ck_sJ, cal_s, bnd_e, ifn_s, ifn_n, e12, e2, e32, g.M.c1106, g.M.n1106, g.M.c1107, g.M.n1107, g.M.c1108, g.M.n1108, g.M.c1109, g.M.n1109, g.M.c1110, g.M.n1110, g.M.c1111, g.M.n1111, g.M.c1112, g.M.n1112, g.M.c1113, g.M.n1113, g.M.c1114, g.M.n1114, chk_t (inb_nI (show 12 * i + z < 144 by omega) (by decide)), chk_t (inb_nI (show 32 * i + 2 < 384 by omega) (by decide)), cl_nI (show 12 * i + z < 2 ^ 31 by omega), cl_nI (show 32 * i + 2 < 2 ^ 31 by omega), r2, e10, e11, if_true, ci, ← ez]
          · exact (((((((((fc.sI _ _ _ _ (.inr (.inr (.inr ⟨6, by omega, by omega, rfl, by show _ < 96; omega⟩)))).sI _ _ _ _ (.inr (.inr (.inr ⟨7, by omega, by omega, rfl, by show _ < 36; omega⟩)))).sI _ _ _ _ (.inr (.inr (.inr ⟨8, by omega, by omega, rfl, by show _ < 36; omega⟩)))).sI _ _ _ _ (.inr (.inr (.inr ⟨9, by omega, by omega, rfl, by show _ < 36; omega⟩)))).sI _ _ _ _ (.inr (.inr (.inr ⟨10, by omega, by omega, rfl, by show _ < 36; omega⟩)))).sI _ _ _ _ (.inr (.inr (.inr ⟨11, by omega, by omega, rfl, by show _ < 36; omega⟩)))).sI _ _ _ _ (.inr (.inr (.inr ⟨12, by omega, by omega, rfl, by show _ < 36; omega⟩)))).sI _ _ _ _ (.inr (.inr (.inr ⟨13, by omega, by omega, rfl, by show _ < 36; omega⟩)))).sI _ _ _ _ (.inr (.inr (.inr ⟨14, by omega, by omega, rfl, by show _ < 36; omega⟩))))
          · exact (((((((((ac.sI _ _ _ _ (by omega)).sI _ _ _ _ (by omega)).sI _ _ _ _ (by omega)).sI _ _ _ _ (by omega)).sI _ _ _ _ (by omega)).sI _ _ _ _ (by omega)).sI _ _ _ _ (by omega)).sI _ _ _ _ (by omega)).sI _ _ _ _ (by omega))
          · simp only [if_true, ci]
            refine g.R.town g.nn (((((((((((At.rf _ i m1).sI _ _ _ _ (.inr (.inr ⟨6, 2, by omega, by omega, rfl, rfl, by decide⟩))).sI _ _ _ _ (.inr (.inr ⟨7, z, by omega, by omega, rfl, rfl, hz⟩))).sI _ _ _ _ (.inr (.inr ⟨8, z, by omega, by omega, rfl, rfl, hz⟩))).sI _ _ _ _ (.inr (.inr ⟨9, z, by omega, by omega, rfl, rfl, hz⟩))).sI _ _ _ _ (.inr (.inr ⟨10, z, by omega, by omega, rfl, rfl, hz⟩))).sI _ _ _ _ (.inr (.inr ⟨11, z, by omega, by omega, rfl, rfl, hz⟩))).sI _ _ _ _ (.inr (.inr ⟨12, z, by omega, by omega, rfl, rfl, hz⟩))).sI _ _ _ _ (.inr (.inr ⟨13, z, by omega, by omega, rfl, rfl, hz⟩))).sI _ _ _ _ (.inr (.inr ⟨14, z, by omega, by omega, rfl, rfl, hz⟩)))) ?_
            unfold addR
            rw [← ez]
            refine R.tab0 (fun j hj => ?_) ?_ (fun d d1 d2 j => ?_) (fun r hr c hc => ?_)
            · rw [I_sI, if_neg (by omega), I_sI, if_neg (by omega), I_sI, if_neg (by omega), I_sI, if_neg (by omega), I_sI, if_neg (by omega), I_sI, if_neg (by omega), I_sI, if_neg (by omega), I_sI, if_neg (by omega), I_sI, if_neg (by omega)]
            · rw [I_sI, if_neg (by omega), I_sI, if_neg (by omega), I_sI, if_neg (by omega), I_sI, if_neg (by omega), I_sI, if_neg (by omega), I_sI, if_neg (by omega), I_sI, if_neg (by omega), I_sI, if_neg (by omega), I_sI, if_pos ⟨rfl, rfl, rfl⟩]
            · rw [I_sI, if_neg (by omega), I_sI, if_neg (by omega), I_sI, if_neg (by omega), I_sI, if_neg (by omega), I_sI, if_neg (by omega), I_sI, if_neg (by omega), I_sI, if_neg (by omega), I_sI, if_neg (by omega), I_sI, if_neg (by omega)]
            · by_cases er : r = z
              · rw [if_pos er]
                subst er
                have : c = 0 ∨ c = 1 ∨ c = 2 ∨ c = 3 ∨ c = 4 ∨ c = 5 ∨ c = 6 ∨ c = 7 := by omega
                rcases this with rfl | rfl | rfl | rfl | rfl | rfl | rfl | rfl
                · rw [I_sI, if_neg (by omega), I_sI, if_neg (by omega), I_sI, if_neg (by omega), I_sI, if_neg (by omega), I_sI, if_neg (by omega), I_sI, if_neg (by omega), I_sI, if_neg (by omega), I_sI, if_pos ⟨rfl, rfl, rfl⟩]; rfl
                · rw [I_sI, if_neg (by omega), I_sI, if_neg (by omega), I_sI, if_neg (by omega), I_sI, if_neg (by omega), I_sI, if_neg (by omega), I_sI, if_neg (by omega), I_sI, if_pos ⟨rfl, rfl, rfl⟩]; rfl
                · rw [I_sI, if_neg (by omega), I_sI, if_neg (by omega), I_sI, if_neg (by omega), I_sI, if_neg (by omega), I_sI, if_neg (by omega), I_sI, if_pos ⟨rfl, rfl, rfl⟩]; rfl
                · rw [I_sI, if_neg (by omega), I_sI, if_neg (by omega), I_sI, if_neg (by omega), I_sI, if_neg (by omega), I_sI, if_pos ⟨rfl, rfl, rfl⟩]; rfl
                · rw [I_sI, if_neg (by omega), I_sI, if_neg (by omega), I_sI, if_neg (by omega), I_sI, if_pos ⟨rfl, rfl, rfl⟩]; rfl
                · rw [I_sI, if_neg (by omega), I_sI, if_neg (by omega), I_sI, if_pos ⟨rfl, rfl, rfl⟩]; rfl
                · rw [I_sI, if_neg (by omega), I_sI, if_pos ⟨rfl, rfl, rfl⟩]; rfl
                · rw [I_sI, if_pos ⟨rfl, rfl, rfl⟩]; rfl
              · rw [if_neg er, I_sI, if_neg (by omega), I_sI, if_neg (by omega), I_sI, if_neg (by omega), I_sI, if_neg (by omega), I_sI, if_neg (by omega), I_sI, if_neg (by omega), I_sI, if_neg (by omega), I_sI, if_neg (by omega), I_sI, if_neg (by omega)]
                exact R.2.1 r (by omega) c hc
      · have k3 : nI ((W.tn i).2.1 0) = 12 := by rw [show (W.tn i).2.1 0 = 12 by omega]; rfl
        refine stay (by simp [adB, ci, hz]) ?_
        simp only [f_X10_add, g_X10_add_0, chk_t g.M.1, bnd_e, e1, r_isTown g.M g.R hnt, hp, o2, chk_t, ck_sI, ck_sR, ck_sJ, cal_s, bnd_e, ifn_s, ifn_n, bI_0, Bool.true_eq_false, if_false, k3, if_true]
