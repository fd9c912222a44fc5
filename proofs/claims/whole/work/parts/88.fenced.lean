/-! fenced, put together -/
theorem as_mt {T : TW} {B : LW} {d : Nat} (h6 : T.2.1 2 ≤ 6) (F : Nat) : (!(List.range 64).any (fun q => (List.range (br0 T B d).length).any (fun c => decide (askN T B d (lat (br0 T B d) c) = q)) && decide ((q &&& F) = 0))) = mtB T B d F := by
  unfold mtB
  congr 1
  rw [Bool.eq_iff_iff, anyT, anyT]
  constructor
  · rintro ⟨q, hq, h⟩
    rw [Bool.and_eq_true, decide_eq_true_eq] at h
    obtain ⟨c, hc, h2⟩ := anyT.mp h.1
    rw [decide_eq_true_eq] at h2
    exact ⟨c, hc, by rw [decide_eq_true_eq, h2]; exact h.2⟩
  · rintro ⟨c, hc, h⟩
    rw [decide_eq_true_eq] at h
    refine ⟨askN T B d (lat (br0 T B d) c), ask_lt h6 B d _, ?_⟩
    rw [Bool.and_eq_true, decide_eq_true_eq]
    exact ⟨anyT.mpr ⟨c, hc, decide_eq_true rfl⟩, h⟩
theorem FcL.on {m n : MM} {x lo hi : Nat} {L : List B3} (h : FcL m x L) (o : On m n lo hi) (hlo : x + 98 ≤ lo) : FcL n x L := ⟨by rw [o.2.2.2.2.2 _ _ _ (by omega)]; exact h.1, fun k hk => by rw [o.2.2.2.2.2 _ _ _ (by omega)]; exact h.2 k hk⟩
theorem c_fewestFences {m : MM} {x t l d : Nat} {T : TW} {B : LW} (C : CS m x t l T B d 0 255 (-1)) (F : FcL m x (br0 T B d)) : ∃ m', f_X1_fewestFences (x + 96) m = some (fcV T B d, m') ∧ On m m' (x + 98) (x + 99) := by
  have h6 : T.2.1 2 ≤ 6 := C.2.1.2.2.2.1.nn.2.2.1
  have hB := C.2.1.2.2.2.2.1.n.2.2
  have hL : (br0 T B d).length ≤ 1320 := barL_le hB
  have r0 : m.R 202 (x + 96) 0 = some (x + 98) ∧ m.K (x + 98) = 24 ∧ m.N (x + 98) = 64 := ⟨C.1.2.2.2.1.2.2.2.1, C.1.2.2.2.1.2.2.2.2.2.2.1, C.1.2.2.2.1.2.2.2.2.2.2.2⟩
  obtain ⟨s1, ⟨o1, z1⟩, q1⟩ := lp_inv (fun n i (s : MM) => fun (K : MM → Option (Int32 × MM)) => l_X1_fewestFences_2 (x + 96) K n i s) (fun i s => On m s (x + 98) (x + 99) ∧ ∀ a, a < i → s.I 24 (x + 98) a = 0) (fun s => fun K => K s) 64 (fun i hi s hI => by
    obtain ⟨o, z⟩ := hI
    have Cs := C.on o (by omega)
    have e1 : ¬ nI 64 ≤ nI i := nI_ge hi (by decide)
    refine ⟨s.sI 24 (x + 98) i (0 &&& 1), ⟨o.sI _ _ _ _ (by omega) (by omega), fun a ha => ?_⟩, fun n => ?_⟩
    · rw [I_sI]
      by_cases q : a = i
      · rw [if_pos ⟨rfl, rfl, q⟩]; decide
      · rw [if_neg (fun z => q z.2.2)]; exact z a (by omega)
    · funext K
      show g_X1_fewestFences_2 (x + 96) (l_X1_fewestFences_2 (x + 96) K n) K (nI i) s = _
      simp only [g_X1_fewestFences_2, chk_t Cs.1.2.2.2.1.1, o.2.2.2.1, r0.1, ck_s (show s.K (x + 98) = 24 from by rw [o.1]; exact r0.2.1), o.2.1, r0.2.2, ofN, if_neg e1, chk_t (inb_nI hi (by decide)), cl_nI (show i < 2 ^ 31 by omega), chk_t, ck_sI, ck_sR, ck_sJ, cal_s, bnd_e, ifn_s, ifn_n, nI_1]) (fun s hI n => by
    obtain ⟨o, z⟩ := hI
    have Cs := C.on o (by omega)
    funext K
    show g_X1_fewestFences_2 (x + 96) (l_X1_fewestFences_2 (x + 96) K n) K (nI 64) s = _
    simp only [g_X1_fewestFences_2, chk_t Cs.1.2.2.2.1.1, o.2.2.2.1, r0.1, ck_s (show s.K (x + 98) = 24 from by rw [o.1]; exact r0.2.1), o.2.1, r0.2.2, ofN, if_pos (Int32.le_refl _)]) (s0 := m) ⟨On.rf m _ _, fun a ha => by omega⟩
  have third : ∀ s, On m s (x + 98) (x + 99) → (∀ q, q < 64 → s.I 24 (x + 98) q = bI ((List.range (br0 T B d).length).any (fun c => decide (askN T B d (lat (br0 T B d) c) = q)))) → g_X1_fewestFences_68 (x + 96) s = some (nI (rfS (mtB T B d) (ltB (fun _ => 0)) 63 64), s) := by
    intro s o hA
    have Cs := C.on o (by omega)
    have bnd : ∀ c, c ≤ 64 → rfS (mtB T B d) (ltB (fun _ => 0)) 63 c < 64 := by
      intro c
      induction c with
      | zero => intro _; exact (by decide : 63 < 64)
      | succ c ih =>
        intro hc
        have := ih (by omega)
        rw [rfS_s]
        cases (mtB T B d c && ltB (fun _ => 0) c (rfS (mtB T B d) (ltB (fun _ => 0)) 63 c))
        · exact this
        · show c < 64; omega
    simp only [g_X1_fewestFences_68, chk_t Cs.1.2.2.2.1.1, o.2.2.2.1, r0.1, ck_s (show s.K (x + 98) = 24 from by rw [o.1]; exact r0.2.1), o.2.1, r0.2.2, ofN, chk_t, ck_sI, ck_sR, ck_sJ, cal_s, bnd_e, ifn_s, ifn_n, show nI 64 - 1 = nI 63 from by decide]
    have := lp_for (fun n b c => l_X1_fewestFences_78 (x + 96) n b c s) (fun c => nI (rfS (mtB T B d) (ltB (fun _ => 0)) 63 c)) 64 (some (nI (rfS (mtB T B d) (ltB (fun _ => 0)) 63 64), s)) (fun c hc n => ?_) (fun n => ?_) (n := FU) (by unfold FU; omega)
    · exact this
    · show g_X1_fewestFences_78 (x + 96) (l_X1_fewestFences_78 (x + 96) n) _ (nI c) s = l_X1_fewestFences_78 (x + 96) n (nI (rfS (mtB T B d) (ltB (fun _ => 0)) 63 (c + 1))) (nI (c + 1)) s
      have hb := bnd c (by omega)
      rw [rfS_s]
      generalize rfS (mtB T B d) (ltB (fun _ => 0)) 63 c = b at *
      have e1 : ¬ nI 64 ≤ nI c := nI_ge hc (by decide)
      have ma := c_meetsAll Cs.1 hA hc
      rw [as_mt h6] at ma
      simp only [g_X1_fewestFences_78, g_X1_fewestFences_105, chk_t Cs.1.2.2.2.1.1, o.2.2.2.1, r0.1, ck_s (show s.K (x + 98) = 24 from by rw [o.1]; exact r0.2.1), o.2.1, r0.2.2, ofN, if_neg e1, ma, chk_t, ck_sI, ck_sR, ck_sJ, cal_s, bnd_e, ifn_s, ifn_n, bI_0, c_isLesser (show c < 4096 by omega) (show b < 4096 by omega), ltB0, nI_1]
      cases mtB T B d c <;> cases lsB c b <;> simp
    · show g_X1_fewestFences_78 (x + 96) (l_X1_fewestFences_78 (x + 96) n) _ (nI 64) s = _
      simp only [g_X1_fewestFences_78, chk_t Cs.1.2.2.2.1.1, o.2.2.2.1, r0.1, ck_s (show s.K (x + 98) = 24 from by rw [o.1]; exact r0.2.1), o.2.1, r0.2.2, ofN, if_pos (Int32.le_refl _)]
  obtain ⟨r, ⟨m', er, fr⟩, hr⟩ := lp_ex (fun n c s => l_X1_fewestFences_26 (x + 96) (g_X1_fewestFences_68 (x + 96)) n c s) (fun c s => On m s (x + 98) (x + 99) ∧ (∀ q, q < 64 → s.I 24 (x + 98) q = bI ((List.range c).any (fun c => decide (askN T B d (lat (br0 T B d) c) = q)))) ∧ ∀ c', c' < c → askN T B d (lat (br0 T B d) c') ≠ 0) (fun r => ∃ m', r = some (fcV T B d, m') ∧ On m m' (x + 98) (x + 99)) (br0 T B d).length 0 (by omega) (fun c _ hc s hI => by
    obtain ⟨o, hA, hn⟩ := hI
    have Cs := C.on o (by omega)
    have ff := c_fencesFor Cs (F.on o (by omega)) hc
    have hl := ask_lt h6 B d (lat (br0 T B d) c)
    have e1 : ¬ nI (br0 T B d).length ≤ nI c := nI_ge hc (by omega)
    by_cases h0 : askN T B d (lat (br0 T B d) c) = 0
    · refine .inl ⟨some (-1, s), ⟨s, ?_, o⟩, fun n => ?_⟩
      · have : noB T B d = true := anyT.mpr ⟨c, hc, decide_eq_true h0⟩
        unfold fcV
        rw [this]
        rfl
      · show g_X1_fewestFences_26 (x + 96) (l_X1_fewestFences_26 (x + 96) (g_X1_fewestFences_68 (x + 96)) n) (g_X1_fewestFences_68 (x + 96)) (nI c) s = _
        simp only [g_X1_fewestFences_26, chk_t Cs.1.2.2.2.1.1, (F.on o (by omega)).1, if_neg e1, ff, chk_t, ck_sI, ck_sR, ck_sJ, cal_s, bnd_e, ifn_s, ifn_n, le0 (show askN T B d (lat (br0 T B d) c) < 2 ^ 31 by omega), if_pos h0]
    · refine .inr ⟨s.sI 24 (x + 98) (askN T B d (lat (br0 T B d) c)) (1 &&& 1), ⟨o.sI _ _ _ _ (by omega) (by omega), fun q hq => ?_, fun c' hc' => ?_⟩, fun n => ?_⟩
      · rw [I_sI, any_s]
        by_cases z : q = askN T B d (lat (br0 T B d) c)
        · rw [if_pos ⟨rfl, rfl, z⟩, decide_eq_true z.symm, Bool.or_true]; decide
        · rw [if_neg (fun y => z y.2.2), decide_eq_false (fun y => z y.symm), Bool.or_false]; exact hA q hq
      · by_cases z : c' = c
        · rw [z]; exact h0
        · exact hn c' (by omega)
      · show g_X1_fewestFences_26 (x + 96) (l_X1_fewestFences_26 (x + 96) (g_X1_fewestFences_68 (x + 96)) n) (g_X1_fewestFences_68 (x + 96)) (nI c) s = _
        have e2 : nI (askN T B d (lat (br0 T B d) c)) < nI 64 := nI_lt hl (by decide)
        simp only [g_X1_fewestFences_26, chk_t Cs.1.2.2.2.1.1, (F.on o (by omega)).1, if_neg e1, ff, chk_t, ck_sI, ck_sR, ck_sJ, cal_s, bnd_e, ifn_s, ifn_n, le0 (show askN T B d (lat (br0 T B d) c) < 2 ^ 31 by omega), if_neg h0, o.2.2.2.1, r0.1, ck_s (show s.K (x + 98) = 24 from by rw [o.1]; exact r0.2.1), o.2.1, r0.2.2, ofN, if_pos e2, chk_t (inb_nI hl (by decide)), cl_nI (show askN T B d (lat (br0 T B d) c) < 2 ^ 31 by omega), nI_1]) (fun s hI => by
    obtain ⟨o, hA, hn⟩ := hI
    have Cs := C.on o (by omega)
    refine ⟨some (fcV T B d, s), ⟨s, rfl, o⟩, fun n => ?_⟩
    show g_X1_fewestFences_26 (x + 96) (l_X1_fewestFences_26 (x + 96) (g_X1_fewestFences_68 (x + 96)) n) (g_X1_fewestFences_68 (x + 96)) (nI (br0 T B d).length) s = _
    have hno : noB T B d = false := anyF.mpr (fun c hc => decide_eq_false (hn c hc))
    have hf : fcV T B d = nI (rfS (mtB T B d) (ltB (fun _ => 0)) 63 64) := by unfold fcV; rw [hno]; rfl
    rw [hf]
    simp only [g_X1_fewestFences_26, chk_t Cs.1.2.2.2.1.1, (F.on o (by omega)).1, if_pos (Int32.le_refl _), third s o hA]) (s0 := s1) ⟨o1, fun q hq => z1 q hq, fun c' hc' => by omega⟩
  refine ⟨m', ?_, fr⟩
  show l_X1_fewestFences_2 (x + 96) (g_X1_fewestFences_24 (x + 96)) FU 0 m = _
  refine (congrFun (q1 FU (by unfold FU; omega)) (g_X1_fewestFences_24 (x + 96))).trans ?_
  show l_X1_fewestFences_26 (x + 96) (g_X1_fewestFences_68 (x + 96)) FU 0 s1 = _
  rw [← er]
  exact hr FU (by unfold FU; omega)
theorem m_fenced (x : Nat) (p q d : Int32) : Mq x (f_X9_fenced x p q d) (f_X10_fenced (x + 106) p q d) := by
  refine Mq_o p q d (-1) (fun T B k => fcV T B k) (fun m W D h ho => ⟨m, ?_, Fq.rf x m⟩) (fun m W D i j k h hi hj hk e1 e2 e3 => ?_) (fun m W D h ho => ⟨_, ?_, fq_code x m⟩) (fun m W D i j k h hi hj hk e1 e2 e3 => ?_)
  · simp only [g_X9_fenced_0, f_X9_fenced, chk_t h.kx, c_opened0 h ho, chk_t, ck_sI, ck_sR, ck_sJ, cal_s, bnd_e, ifn_s, ifn_n, if_true]
  · subst e1; subst e2; subst e3
    obtain ⟨m1, m2, o1, s1, o2, f2, C, F, g⟩ := c_oc h hi hj hk
    obtain ⟨m3, e3, o3⟩ := c_fewestFences C F
    refine ⟨m3, ?_, f2.tr (o3.f (by omega) (by omega))⟩
    simp only [g_X9_fenced_0, f_X9_fenced, chk_t h.kx, o1, chk_t, ck_sI, ck_sR, ck_sJ, cal_s, bnd_e, ifn_s, ifn_n, if_neg ne10, chk_t s1.1.1, s1.ct, o2, chk_t g.kx, C.1.ct, e3]
  · have hnt := h.nt
    have hnl := h.nl
    have g := h.code
    simp only [f_X10_fenced, g_X10_fenced_0, chk_t h.M.1, chk_t, ck_sI, ck_sR, ck_sJ, cal_s, bnd_e, ifn_s, ifn_n]
    unfold opB at ho
    generalize m.sI 1100 (x + 106) 0 0 = m1 at g ⊢
    simp only [r_isTown g.M g.R hnt, r_isLaw g.M g.R hnl, r_isDay, chk_t, ck_sI, ck_sR, ck_sJ, cal_s, bnd_e, ifn_s, ifn_n, bI_0]
    cases hp : isN W.nt p with
    | false => simp
    | true =>
      cases hq : isN W.nl q with
      | false => simp [chk_t g.M.1]
      | true =>
        have hd : isN 1000 d = false := by rw [hp, hq] at ho; simpa using ho
        simp [hd, chk_t g.M.1]
  · subst e1; subst e2; subst e3
    have hnt := h.nt
    have hnl := h.nl
    have hB := (h.cl hj).n.2.2
    have N := h.nn hi
    have h6 : (W.tn i).2.1 2 ≤ 6 := N.2.2.1
    have hN : 2 ^ (W.tn i).2.1 2 ≤ 64 := Nat.pow_le_pow_right (n := 2) (by omega) h6
    have g0 := h.code
    obtain ⟨m1, e1, f1, R1⟩ := r_br g0 hi hj hk
    obtain ⟨s, ⟨q1, q2, _⟩, q3⟩ := lp_inv (fun n c (s : Int32 × MM) => l_X10_fenced_42 (x + 106) (nI i) (nI j) (nI k) n s.1 c s.2) (fun c s => s.1 = cond (fwS (mtB (W.tn i) (W.lw j) k) (ltB (fun _ => 0)) c).2 (nI (fwS (mtB (W.tn i) (W.lw j) k) (ltB (fun _ => 0)) c).1) (-1) ∧ Fq x (m.sI 1100 (x + 106) 0 0) s.2 ∧ ∃ F, RS s.2 (x + 106) i j (W.tn i) (W.lw j) k 0 (-1) F) (fun s => some (s.1, s.2)) (2 ^ (W.tn i).2.1 2) (fun c hc s hI => by
      obtain ⟨a1, a2, F, R⟩ := hI
      have hcF : ∀ z, z < 6 → bt (nI c) z = true → z < (W.tn i).2.1 2 := fun z hz hb => by
        rw [bt_nI _ z (by omega)] at hb
        rcases Nat.lt_or_ge z ((W.tn i).2.1 2) with y | y
        · exact y
        · have : c.testBit z = false := Nat.testBit_lt_two_pow (Nat.lt_of_lt_of_le hc (Nat.pow_le_pow_right (n := 2) (by omega) y))
          rw [this] at hb; cases hb
      have R' := R.fn (nI c) hcF
      obtain ⟨m2, e2, o2, G2⟩ := r_findBars R'
      have R2 := R'.rn o2
      have f2 : Fq x (m.sI 1100 (x + 106) 0 0) m2 := (a2.sI _ _ _ _ (by unfold inW; omega)).tr o2.f
      have hll : (barL (W.tn i) (W.lw j) k 0 (ohB (-1)) (rfL (W.tn i) k (nI c))).length ≤ 1320 := barL_le hB
      have hmt := fc_bars (d := k) N (h.V.2 j hj) hc
      have o4 : f_X10_of (x + 106) (nI i) 4 s.2 = some (nI ((W.tn i).2.1 2), s.2) := by rw [← R.1.2.2.2.1.1.2.2.2.2.1]; exact r_of R.1.1 (w := 4) (by omega) (by omega)
      have z1 : ¬ nI (2 ^ (W.tn i).2.1 2) ≤ nI c := nI_ge hc (by omega)
      have iv := fwS_inv (ac := mtB (W.tn i) (W.lw j) k) (lt := ltB (fun _ => 0)) (N := 2 ^ (W.tn i).2.1 2) (fun a b c ha hb hc => ltB_tr (by omega) (by omega) (by omega)) (fun a ha => ltB_ir _ (by omega)) c (by omega)
      rw [fwS_s]
      generalize fwS (mtB (W.tn i) (W.lw j) k) (ltB (fun _ => 0)) c = st at *
      obtain ⟨b, has⟩ := st
      have f100 : ∀ n, g_X10_fenced_100 (x + 106) (nI i) (nI j) (nI k) (l_X10_fenced_42 (x + 106) (nI i) (nI j) (nI k) n) s.1 (nI c) s.2 = l_X10_fenced_42 (x + 106) (nI i) (nI j) (nI k) n (cond (mtB (W.tn i) (W.lw j) k c) (nI c) s.1) (nI (c + 1)) m2 := by
        intro n
        have e0 : (nI (barL (W.tn i) (W.lw j) k 0 (ohB (-1)) (rfL (W.tn i) k (nI c))).length = 0) ↔ (barL (W.tn i) (W.lw j) k 0 (ohB (-1)) (rfL (W.tn i) k (nI c))).length = 0 := ⟨fun z => nI_inj (b := 0) (by omega) (by decide) z, fun z => by rw [z]; rfl⟩
        simp only [g_X10_fenced_100, g_X10_fenced_125, g_X10_fenced_127, chk_t R.1.1.1, chk_t, ck_sI, ck_sR, ck_sJ, cal_s, bnd_e, ifn_s, ifn_n, e2, chk_t R2.1.1.1, G2.1, e0, hmt, nI_1]
        cases mtB (W.tn i) (W.lw j) k c <;> simp
      have hs1 : s.1 = cond has (nI b) (-1) := a1
      cases has with
      | false =>
        refine ⟨(cond (mtB (W.tn i) (W.lw j) k c) (nI c) s.1, m2), ⟨?_, f2, _, R2⟩, fun n => ?_⟩
        · show cond (mtB (W.tn i) (W.lw j) k c) (nI c) s.1 = _
          rw [hs1]
          cases mtB (W.tn i) (W.lw j) k c <;> rfl
        · show g_X10_fenced_42 (x + 106) (nI i) (nI j) (nI k) (l_X10_fenced_42 (x + 106) (nI i) (nI j) (nI k) n) s.1 (nI c) s.2 = _
          have hs2 : s.1 = -1 := hs1
          simp only [g_X10_fenced_42, chk_t R.1.1.1, o4, chk_t, ck_sI, ck_sR, ck_sJ, cal_s, bnd_e, ifn_s, ifn_n, sh_n _ h6, if_neg z1, if_pos hs2, f100]
      | true =>
        obtain ⟨b1, b2, _⟩ := iv.2 rfl
        have b1 : b < c := b1
        have hs2 : s.1 = nI b := hs1
        have n1 : ¬ nI b = -1 := nI_ne_m1 (by omega)
        have o1 := onN_le c
        have o2' := onN_le b
        have w1 : (nI (onN b) < nI (onN c)) ↔ onN b < onN c := nI_ltI (by omega) (by omega)
        have w2 : (nI (onN c) = nI (onN b)) ↔ onN c = onN b := ⟨nI_inj (by omega) (by omega), fun q => by rw [q]⟩
        have hls : lsB c b = (decide (onN c < onN b) || (decide (onN c = onN b) && lrB c b)) := rfl
        have st : ∀ n, g_X10_fenced_42 (x + 106) (nI i) (nI j) (nI k) (l_X10_fenced_42 (x + 106) (nI i) (nI j) (nI k) n) s.1 (nI c) s.2 = cond (lsB c b) (l_X10_fenced_42 (x + 106) (nI i) (nI j) (nI k) n (cond (mtB (W.tn i) (W.lw j) k c) (nI c) s.1) (nI (c + 1)) m2) (l_X10_fenced_42 (x + 106) (nI i) (nI j) (nI k) n s.1 (nI (c + 1)) s.2) := by
          intro n
          have f100' := f100 n
          rw [hs2] at f100' ⊢
          simp only [g_X10_fenced_42, g_X10_fenced_127, chk_t R.1.1.1, o4, chk_t, ck_sI, ck_sR, ck_sJ, cal_s, bnd_e, ifn_s, ifn_n, sh_n _ h6, if_neg z1, if_neg n1, r_ones, w1, w2, r_isLessRow, bI_0, f100', nI_1]
          rw [hls]
          by_cases y1 : onN b < onN c
          · have y2 : ¬ onN c < onN b := by omega
            have y3 : ¬ onN c = onN b := by omega
            simp [y1, y2, y3]
          · by_cases y3 : onN c = onN b
            · cases lrB c b <;> simp [y3]
            · have y2 : onN c < onN b := by omega
              simp [y1, y2, y3]
        cases hl : lsB c b with
        | true =>
          refine ⟨(cond (mtB (W.tn i) (W.lw j) k c) (nI c) s.1, m2), ⟨?_, f2, _, R2⟩, fun n => ?_⟩
          · show cond (mtB (W.tn i) (W.lw j) k c) (nI c) s.1 = _
            rw [hs2, ltB0, hl]
            cases mtB (W.tn i) (W.lw j) k c <;> rfl
          · refine (st n).trans ?_
            rw [hl]; rfl
        | false =>
          refine ⟨s, ⟨?_, a2, _, R⟩, fun n => ?_⟩
          · rw [hs2, ltB0, hl]
            cases mtB (W.tn i) (W.lw j) k c <;> rfl
          · refine (st n).trans ?_
            rw [hl]; rfl) (fun s hI n => by
      obtain ⟨a1, a2, F, R⟩ := hI
      have o4 : f_X10_of (x + 106) (nI i) 4 s.2 = some (nI ((W.tn i).2.1 2), s.2) := by rw [← R.1.2.2.2.1.1.2.2.2.2.1]; exact r_of R.1.1 (w := 4) (by omega) (by omega)
      show g_X10_fenced_42 (x + 106) (nI i) (nI j) (nI k) (l_X10_fenced_42 (x + 106) (nI i) (nI j) (nI k) n) s.1 (nI (2 ^ (W.tn i).2.1 2)) s.2 = _
      simp only [g_X10_fenced_42, chk_t R.1.1.1, o4, chk_t, ck_sI, ck_sR, ck_sJ, cal_s, bnd_e, ifn_s, ifn_n, sh_n _ h6, if_pos (Int32.le_refl _)]) (s0 := (-1, m1)) ⟨rfl, f1, _, R1⟩
    refine ⟨s.2, ?_, (fq_code x m).tr q2⟩
    simp only [f_X10_fenced, g_X10_fenced_0, chk_t h.M.1, chk_t, ck_sI, ck_sR, ck_sJ, cal_s, bnd_e, ifn_s, ifn_n, r_isTown g0.M g0.R hnt, r_isLaw g0.M g0.R hnl, r_isDay, bI_0, isN_nI (show W.nt < 2 ^ 31 by omega) hi, isN_nI (show W.nl < 2 ^ 31 by omega) hj, isN_nI (show 1000 < 2 ^ 31 by decide) hk, Bool.true_eq_false, if_false, chk_t g0.M.1, e1]
    refine (q3 FU (by unfold FU; omega)).trans ?_
    rw [q1, fc_r h6]
