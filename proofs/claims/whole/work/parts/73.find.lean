/-! the reference's list -/
def Rn (y : Nat) (m n : MM) : Prop := n.K = m.K ∧ n.N = m.N ∧ n.S = m.S ∧ n.R = m.R ∧ ∀ s a i, ¬ (a = y ∧ s = 1174) → (a < y + 50 ∨ y + 53 ≤ a) → n.I s a i = m.I s a i
theorem Rn.rf (y : Nat) (m : MM) : Rn y m m := ⟨rfl, rfl, rfl, rfl, fun _ _ _ _ _ => rfl⟩
theorem Rn.tr {y : Nat} {m n q : MM} (h1 : Rn y m n) (h2 : Rn y n q) : Rn y m q := ⟨h2.1.trans h1.1, h2.2.1.trans h1.2.1, h2.2.2.1.trans h1.2.2.1, h2.2.2.2.1.trans h1.2.2.2.1, fun s a i g1 g2 => (h2.2.2.2.2 s a i g1 g2).trans (h1.2.2.2.2 s a i g1 g2)⟩
theorem Rn.sI {y : Nat} {m n : MM} (h : Rn y m n) (s a i : Nat) (v : Int32) (ha : (a = y ∧ s = 1174) ∨ (y + 50 ≤ a ∧ a < y + 53)) : Rn y m (n.sI s a i v) := ⟨h.1, h.2.1, h.2.2.1, h.2.2.2.1, fun s2 a2 i2 g1 g2 => by rw [I_sI, if_neg (fun q => by omega)]; exact h.2.2.2.2 s2 a2 i2 g1 g2⟩
theorem Rn.f {x : Nat} {m n : MM} (h : Rn (x + 106) m n) : Fq x m n := ⟨h.1, h.2.1, h.2.2.1, fun a ha s i => ⟨h.2.2.2.2 s a i (by omega) (by omega), by rw [h.2.2.2.1]⟩, fun s a i _ _ => by rw [h.2.2.2.1]⟩
theorem Rn.ar {y : Nat} {m n : MM} (h : Rn y m n) : Ar m n y := ⟨fun d d1 d2 i => h.2.2.2.2 22 _ i (by omega) (by omega), fun i => h.2.2.2.2 21 _ i (by omega) (by omega), fun i => h.2.2.2.2 24 _ i (by omega) (by omega)⟩
theorem Rn.md {y : Nat} {m n : MM} (h : Rn y m n) (hs : Md m y) : Md n y := hs.kept h.1 h.2.1 (fun s => by rw [h.2.2.2.1])
/-- the reference's scene with its bodies -/
def RS (m : MM) (y i j : Nat) (T : TW) (B : LW) (d w : Nat) (oh F : Int32) : Prop := Rc m y i j T B d w oh F ∧ VT T ∧ NT T ∧ VL B ∧ B.2.1 ≤ 10 ∧ d < 1000 ∧ w ≤ 12 ∧ m.I 1165 y 0 = mks (sB T d) 12 ∧ ∀ k, k < T.2.1 0 → Rb m y k (bdy T d k) (snc T k)
theorem Rc.rn {m n : MM} {y i j d w : Nat} {T : TW} {B : LW} {oh F : Int32} (h : Rc m y i j T B d w oh F) (o : Rn y m n) : Rc n y i j T B d w oh F := by
  obtain ⟨h1, h2, h3, h4, h5, h6, h7, h8, h9, h10, h11⟩ := h
  have e : ∀ s, s ≠ 1174 → n.I s y 0 = m.I s y 0 := fun s hs => o.2.2.2.2 s y 0 (by omega) (by omega)
  exact ⟨o.md h1, by rw [e _ (by decide)]; exact h2, h3, h4.kept o.ar, by rw [e _ (by decide)]; exact h5, by rw [e _ (by decide)]; exact h6, h7, by rw [e _ (by decide)]; exact h8, by rw [e _ (by decide)]; exact h9, h10, h11.kept o.ar⟩
theorem RS.rn {m n : MM} {y i j d w : Nat} {T : TW} {B : LW} {oh F : Int32} (h : RS m y i j T B d w oh F) (o : Rn y m n) : RS n y i j T B d w oh F := by
  obtain ⟨h1, h2, h3, h4, h5, h6, h7, h8, h9⟩ := h
  exact ⟨h1.rn o, h2, h3, h4, h5, h6, h7, by rw [o.2.2.2.2 _ _ _ (by omega) (by omega)]; exact h8, fun k hk => (h9 k hk).kept (fun a a1 a2 => o.2.2.2.2 _ _ _ (by omega) (by omega))⟩
theorem RS.g {m : MM} {y i j d w : Nat} {T : TW} {B : LW} {oh F : Int32} (h : RS m y i j T B d w oh F) {k : Nat} (hk : k < T.2.1 0) : Rg m y k T d (bdy T d k) := by
  obtain ⟨h1, h2, h3, h4, h5, h6, h7, h8, h9⟩ := h
  exact ⟨snc T k, (nB_e (h2.2.2.2.2.2.2.1 k hk).2.2.2.2.1 (by omega)).2, h9 k hk, bdy_v h2 hk d, rfl⟩
def FrL (m : MM) (y : Nat) (L : List B3) : Prop := m.I 1174 y 0 = nI L.length ∧ ∀ k, k < L.length → m.I 22 (y + 50) k = nI (lat L k).1 ∧ m.I 22 (y + 51) k = nI (lat L k).2.1 ∧ m.I 22 (y + 52) k = nI (lat L k).2.2
theorem FrL.push {m : MM} {y : Nat} {L : List B3} (h : FrL m y L) (a b r : Nat) : FrL ((((m.sI 22 (y + 50) L.length (nI a)).sI 22 (y + 51) L.length (nI b)).sI 22 (y + 52) L.length (nI r)).sI 1174 y 0 (nI (L.length + 1))) y (L ++ [(a, b, r)]) := by
  refine ⟨by rw [I_sI, if_pos ⟨rfl, rfl, rfl⟩, List.length_append]; rfl, fun k hk => ?_⟩
  rw [List.length_append] at hk
  have hk : k < L.length + 1 := hk
  by_cases q : k = L.length
  · subst q
    rw [lat_e]
    refine ⟨?_, ?_, ?_⟩
    · rw [I_sI, if_neg (by omega), I_sI, if_neg (by omega), I_sI, if_neg (by omega), I_sI, if_pos ⟨rfl, rfl, rfl⟩]
    · rw [I_sI, if_neg (by omega), I_sI, if_neg (by omega), I_sI, if_pos ⟨rfl, rfl, rfl⟩]
    · rw [I_sI, if_neg (by omega), I_sI, if_pos ⟨rfl, rfl, rfl⟩]
  · rw [lat_1 (by omega)]
    obtain ⟨h1, h2, h3⟩ := h.2 k (by omega)
    refine ⟨?_, ?_, ?_⟩
    · rw [I_sI, if_neg (by omega), I_sI, if_neg (by omega), I_sI, if_neg (by omega), I_sI, if_neg (by omega)]; exact h1
    · rw [I_sI, if_neg (by omega), I_sI, if_neg (by omega), I_sI, if_neg (by omega), I_sI, if_neg (by omega)]; exact h2
    · rw [I_sI, if_neg (by omega), I_sI, if_neg (by omega), I_sI, if_neg (by omega), I_sI, if_neg (by omega)]; exact h3
theorem r_stands {m : MM} {y a d : Nat} {T : TW} (hM : Md m y) (h : m.I 1165 y 0 = mks (sB T d) 12) (ha : a < 12) : f_X10_stands y (nI a) m = some (bI (sB T d a), m) := by
  simp only [g_X10_stands_0, f_X10_stands, chk_t hM.1, h, bt_q _ (show a < 32 by omega), bt_mks (show 12 ≤ 32 by omega) a (by omega), decide_eq_true ha, Bool.true_and]
  cases sB T d a <;> rfl
section RSM
variable {m s : MM} {y i j d w a b : Nat} {T : TW} {B : LW} {oh F : Int32} {L : List B3}
theorem barP_r (R : RS m y i j T B d w oh F) (sa : sB T d a = true) (sb : sB T d b = true) (r : Nat) : (!decide (a = b) && !(evR B r && decide ((bdy T d a).k = (bdy T d b).k) && decide (b < a)) && baR T B w (ohB oh) (rfL T d F) r (bdy T d a) (bdy T d b)) = barP T B d w (ohB oh) (rfL T d F) a b r := by
  unfold barP
  rw [sa, sb, Bool.true_and, Bool.true_and]
  cases hb : baR T B w (ohB oh) (rfL T d F) r (bdy T d a) (bdy T d b) with
  | false => rw [Bool.and_false, Bool.and_false]
  | true =>
    have q : nI (bdy T d a).k = B.2.2 r 1 ∧ nI (bdy T d b).k = B.2.2 r 2 := by
      unfold baR at hb
      simp only [Bool.and_eq_true, decide_eq_true_eq] at hb
      exact ⟨hb.1.1.1.1, hb.1.1.1.2⟩
    have e : decide ((bdy T d a).k = (bdy T d b).k) = decide (B.2.2 r 1 = B.2.2 r 2) := by
      rw [← q.1, ← q.2]
      have v1 := (bdy_v R.2.1 (sB_n sa) d).1
      have v2 := (bdy_v R.2.1 (sB_n sb) d).1
      by_cases z : (bdy T d a).k = (bdy T d b).k
      · rw [decide_eq_true z, z]; simp
      · rw [decide_eq_false z, decide_eq_false (fun z2 => z (nI_inj (by omega) (by omega) z2))]
    rw [e]
theorem r_findRow (R : RS m y i j T B d w oh F) (ha : a < 12) (hb : b < 12) (o : Rn y m s) (G : FrL s y L) (hl : L.length + 10 ≤ 1440) : ∃ s', (Rn y m s' ∧ FrL s' y (L ++ rowL (barP T B d w (ohB oh) (rfL T d F)) B.2.1 a b)) ∧ ∀ K, l_X10_findBars_24 y (nI j) K FU (nI a) (nI b) 0 s = K (nI a) (nI b) s' := by
  have hB := R.2.2.2.2.1
  have hj := R.1.2.2.2.2.2.2.2.2.2.1
  cases hst : (sB T d a && sB T d b) with
  | false =>
    refine ⟨s, ⟨o, ?_⟩, fun K => ?_⟩
    · rw [rowL_nil (fun r _ => by unfold barP; rw [hst]; rfl), List.append_nil]; exact G
    · have Rs := R.rn o
      have hrl : s.I 22 (y + 29) j = nI B.2.1 := Rs.1.2.2.2.2.2.2.2.2.2.2.1
      show g_X10_findBars_24 y (nI j) (l_X10_findBars_24 y (nI j) K 1048575) K (nI a) (nI b) 0 s = _
      simp only [g_X10_findBars_24, chk_t Rs.1.1.1, Rs.1.1.c1129, Rs.1.1.n1129, chk_t (inb_nI (show j < 12 by omega) (by decide)), cl_nI (show j < 2 ^ 31 by omega), hrl, r_stands Rs.1.1 Rs.2.2.2.2.2.2.2.1 ha, r_stands Rs.1.1 Rs.2.2.2.2.2.2.2.1 hb, chk_t, ck_sI, ck_sR, ck_sJ, cal_s, bnd_e, ifn_s, ifn_n, bI_0]
      cases ha : sB T d a with
      | false => simp
      | true =>
        have hb : sB T d b = false := by rw [ha] at hst; simpa using hst
        simp [hb]
  | true =>
    rw [Bool.and_eq_true] at hst
    obtain ⟨sa, sb⟩ := hst
    obtain ⟨s', h1, h2⟩ := lp_inv (fun n r s => fun (K : Int32 → Int32 → MM → Option (Unit × MM)) => l_X10_findBars_24 y (nI j) K n (nI a) (nI b) r s) (fun r s => Rn y m s ∧ FrL s y (L ++ rowL (barP T B d w (ohB oh) (rfL T d F)) r a b)) (fun s => fun K => K (nI a) (nI b) s) B.2.1 (fun r hr s hI => by
      obtain ⟨o, G⟩ := hI
      have Rs := R.rn o
      have hrl : s.I 22 (y + 29) j = nI B.2.1 := Rs.1.2.2.2.2.2.2.2.2.2.2.1
      have e1 : ¬ nI B.2.1 ≤ nI r := nI_ge hr (by omega)
      have bb := r_barsBy Rs.1 Rs.2.1 Rs.2.2.1 Rs.2.2.2.1 Rs.2.2.2.2.1 Rs.2.2.2.2.2.1 Rs.2.2.2.2.2.2.1 (show a < 15 by omega) (show b < 15 by omega) (Rs.g (sB_n sa)) (Rs.g (sB_n sb)) hr
      rw [barP_r Rs sa sb] at bb
      obtain ⟨M, hM⟩ : ∃ M, M = L ++ rowL (barP T B d w (ohB oh) (rfL T d F)) r a b := ⟨_, rfl⟩
      have hML : M.length < 1440 := by
        have := rowL_le (P := barP T B d w (ohB oh) (rfL T d F)) (n := r) (a := a) (b := b)
        rw [hM, List.length_append]
        omega
      rw [← hM] at G
      have f3 : nI M.length + 1 = nI (M.length + 1) := nI_add _ 1
      have f4 : (s.sI 22 (y + 50) M.length (nI a)).I 1174 y 0 = nI M.length := by rw [I_sI, if_neg (by omega)]; exact G.1
      have f5 : ((s.sI 22 (y + 50) M.length (nI a)).sI 22 (y + 51) M.length (nI b)).I 1174 y 0 = nI M.length := by rw [I_sI, if_neg (by omega)]; exact f4
      have f6 : (((s.sI 22 (y + 50) M.length (nI a)).sI 22 (y + 51) M.length (nI b)).sI 22 (y + 52) M.length (nI r)).I 1174 y 0 = nI M.length := by rw [I_sI, if_neg (by omega)]; exact f5
      refine ⟨if barP T B d w (ohB oh) (rfL T d F) a b r then (((s.sI 22 (y + 50) M.length (nI a)).sI 22 (y + 51) M.length (nI b)).sI 22 (y + 52) M.length (nI r)).sI 1174 y 0 (nI (M.length + 1)) else s, ?_, fun n => ?_⟩
      · rw [rowL_s, ← List.append_assoc, ← hM]
        cases barP T B d w (ohB oh) (rfL T d F) a b r with
        | true =>
          simp only [if_true]
          exact ⟨(((o.sI _ _ _ _ (.inr (by omega))).sI _ _ _ _ (.inr (by omega))).sI _ _ _ _ (.inr (by omega))).sI _ _ _ _ (.inl ⟨rfl, rfl⟩), G.push a b r⟩
        | false =>
          simp only [Bool.false_eq_true, if_false, List.append_nil]
          exact ⟨o, G⟩
      · funext K
        show g_X10_findBars_24 y (nI j) (l_X10_findBars_24 y (nI j) K n) K (nI a) (nI b) (nI r) s = _
        simp only [g_X10_findBars_24, g_X10_findBars_104, chk_t Rs.1.1.1, Rs.1.1.c1129, Rs.1.1.n1129, chk_t (inb_nI (show j < 12 by omega) (by decide)), cl_nI (show j < 2 ^ 31 by omega), hrl, if_neg e1, r_stands Rs.1.1 Rs.2.2.2.2.2.2.2.1 ha, r_stands Rs.1.1 Rs.2.2.2.2.2.2.2.1 hb, sa, sb, bb, chk_t, ck_sI, ck_sR, ck_sJ, cal_s, bnd_e, ifn_s, ifn_n, bI_0, Bool.true_eq_false, if_false, R_sI, N_sI, Rs.1.1.c1171, Rs.1.1.n1171, Rs.1.1.c1172, Rs.1.1.n1172, Rs.1.1.c1173, Rs.1.1.n1173, G.1, chk_t (inb_nI hML (by decide)), cl_nI (show M.length < 2 ^ 31 by omega), f4, f5, f6, f3, nI_1]
        cases barP T B d w (ohB oh) (rfL T d F) a b r <;> simp) (fun s hI n => by
      obtain ⟨o, G⟩ := hI
      have Rs := R.rn o
      have hrl : s.I 22 (y + 29) j = nI B.2.1 := Rs.1.2.2.2.2.2.2.2.2.2.2.1
      funext K
      show g_X10_findBars_24 y (nI j) (l_X10_findBars_24 y (nI j) K n) K (nI a) (nI b) (nI B.2.1) s = _
      simp only [g_X10_findBars_24, chk_t Rs.1.1.1, Rs.1.1.c1129, Rs.1.1.n1129, chk_t (inb_nI (show j < 12 by omega) (by decide)), cl_nI (show j < 2 ^ 31 by omega), hrl, if_pos (Int32.le_refl _)]) (s0 := s) ⟨o, by rw [rowL_0, List.append_nil]; exact G⟩
    exact ⟨s', h1, fun K => congrFun (h2 FU (by unfold FU; omega)) K⟩
theorem r_findBars (R : RS m y i j T B d w oh F) : ∃ s', f_X10_findBars y (nI j) m = some ((), s') ∧ Rn y m s' ∧ FrL s' y (barL T B d w (ohB oh) (rfL T d F)) := by
  have hB := R.2.2.2.2.1
  have hP := barP_d T B d w (ohB oh) (rfL T d F)
  have inner : ∀ a, a < 12 → ∀ s, Rn y m s ∧ FrL s y (aL (barP T B d w (ohB oh) (rfL T d F)) B.2.1 a) → ∃ s', (Rn y m s' ∧ FrL s' y (aL (barP T B d w (ohB oh) (rfL T d F)) B.2.1 a ++ bL (barP T B d w (ohB oh) (rfL T d F)) B.2.1 a 12)) ∧ ∀ n, 12 < n → (fun (K : Int32 → MM → Option (Unit × MM)) => l_X10_findBars_15 y (nI j) K n (nI a) (nI 0) s) = fun K => K (nI a) s' := by
    intro a ha s hs
    refine lp_inv (fun n i s => fun (K : Int32 → MM → Option (Unit × MM)) => l_X10_findBars_15 y (nI j) K n (nI a) i s) (fun b s => Rn y m s ∧ FrL s y (aL (barP T B d w (ohB oh) (rfL T d F)) B.2.1 a ++ bL (barP T B d w (ohB oh) (rfL T d F)) B.2.1 a b)) (fun s => fun K => K (nI a) s) 12 (fun b hb s hI => ?_) (fun s hI n => ?_) (s0 := s) ⟨hs.1, by rw [show bL (barP T B d w (ohB oh) (rfL T d F)) B.2.1 a 0 = [] from rfl, List.append_nil]; exact hs.2⟩
    · obtain ⟨o, G⟩ := hI
      have e1 : ¬ (12 : Int32) ≤ nI b := nI_ge (b := 12) hb (by decide)
      have hlen : (aL (barP T B d w (ohB oh) (rfL T d F)) B.2.1 a ++ bL (barP T B d w (ohB oh) (rfL T d F)) B.2.1 a b).length + 10 ≤ 1440 := by
        have h1 := aL_le hP hB a (by omega)
        have h2 := bL_le (a := a) hP hB b
        rw [List.length_append]
        split at h2 <;> omega
      obtain ⟨s', q1, q2⟩ := r_findRow R ha hb o G hlen
      refine ⟨s', by rw [bL_s, ← List.append_assoc]; exact q1, fun n => ?_⟩
      funext K
      show g_X10_findBars_15 y (nI j) (l_X10_findBars_15 y (nI j) K n) K (nI a) (nI b) s = _
      simp only [g_X10_findBars_15, if_neg e1, q2, g_X10_findBars_110, nI_1]
    · funext K
      show g_X10_findBars_15 y (nI j) (l_X10_findBars_15 y (nI j) K n) K (nI a) (nI 12) s = _
      simp only [g_X10_findBars_15, if_pos (show (12 : Int32) ≤ nI 12 by decide)]
  obtain ⟨m1, hm1⟩ : ∃ q, q = m.sI 1174 y 0 0 := ⟨_, rfl⟩
  have o1 : Rn y m m1 := by rw [hm1]; exact (Rn.rf y m).sI _ _ _ _ (.inl ⟨rfl, rfl⟩)
  have G1 : FrL m1 y [] := ⟨by rw [hm1, I_sI, if_pos ⟨rfl, rfl, rfl⟩]; rfl, fun k hk => by simp at hk⟩
  obtain ⟨s', h1, h2⟩ := lp_inv (fun n i s => l_X10_findBars_7 y (nI j) n i s) (fun a s => Rn y m s ∧ FrL s y (aL (barP T B d w (ohB oh) (rfL T d F)) B.2.1 a)) (fun s => some ((), s)) 12 (fun a ha s hI => by
    have e1 : ¬ (12 : Int32) ≤ nI a := nI_ge (b := 12) ha (by decide)
    obtain ⟨s', q1, q2⟩ := inner a ha s hI
    refine ⟨s', by rw [aL_s]; exact q1, fun n => ?_⟩
    show g_X10_findBars_7 y (nI j) (l_X10_findBars_7 y (nI j) n) (nI a) s = _
    simp only [g_X10_findBars_7, if_neg e1]
    refine (congrFun (q2 FU (by unfold FU; omega)) (g_X10_findBars_116 y (nI j) (l_X10_findBars_7 y (nI j) n))).trans ?_
    simp only [g_X10_findBars_116, nI_1]) (fun s hI n => by
    show g_X10_findBars_7 y (nI j) (l_X10_findBars_7 y (nI j) n) (nI 12) s = _
    simp only [g_X10_findBars_7, if_pos (show (12 : Int32) ≤ nI 12 by decide)]) (s0 := m1) ⟨o1, G1⟩
  refine ⟨s', ?_, h1.1, h1.2⟩
  simp only [f_X10_findBars, g_X10_findBars_0, chk_t R.1.1.1, chk_t, ck_sI, ck_sR, ck_sJ, cal_s, bnd_e, ifn_s, ifn_n]
  rw [← hm1]
  exact h2 FU (by unfold FU; omega)
end RSM
