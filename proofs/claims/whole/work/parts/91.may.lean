/-! may, spots, spot -/
def maV (T : TW) (B : LW) (d : Nat) (k u v f : Int32) : Int32 := cond (isN 6 k && fcB f && hasPt T u v) (bI (styB T B d (-1) (sB T d) (gst k.toNatClampNeg f (8 * v.toNatClampNeg + u.toNatClampNeg)))) 0
theorem r_isAsked {m : MM} {x : Nat} {W : WD} {D : Nat → Option (Nat × WD)} (g : Inv m x W D) (p q d k f : Int32) : f_X10_isAsked (x + 106) p q d k f m = some (bI (opB W p q d && (isN 6 k && fcB f)), m) := by
  simp only [g_X10_isAsked_47, g_X10_isAsked_0, f_X10_isAsked, chk_t g.M.1, r_isTown g.M g.R g.nt, r_isLaw g.M g.R g.nl, r_isDay, r_in, inR_6, inR_f, chk_t, ck_sI, ck_sR, ck_sJ, cal_s, bnd_e, ifn_s, ifn_n, bI_0, opB]
  cases isN W.nt p <;> cases isN W.nl q <;> cases isN 1000 d <;> cases isN 6 k <;> cases fcB f <;> simp [bI]
theorem m_may (x : Nat) (p q d k u v f : Int32) : Mq x (f_X9_may x p q d k u v f) (f_X10_may (x + 106) p q d k u v f) := by
  refine Mq_o p q d 0 (fun T B e => maV T B e k u v f) (fun m W D h ho => ⟨m, ?_, Fq.rf x m⟩) (fun m W D i j e h hi hj hk e1 e2 e3 => ?_) (fun m W D h ho => ⟨_, ?_, fq_code x m⟩) (fun m W D i j e h hi hj hk e1 e2 e3 => ?_)
  · simp only [g_X9_may_0, f_X9_may, chk_t h.kx, c_isKind, c_isFacing, c_opened0 h ho, chk_t, ck_sI, ck_sR, ck_sJ, cal_s, bnd_e, ifn_s, ifn_n, if_true, ite_self]
  · subst e1; subst e2; subst e3
    have V := h.V.1 i hi
    simp only [g_X9_may_0, f_X9_may, c_isKind, c_isFacing, chk_t, ck_sI, ck_sR, ck_sJ, cal_s, bnd_e, ifn_s, ifn_n, bI_0, chk_t h.kx, maV]
    cases hkd : isN 6 k with
    | false => exact ⟨m, by simp, Fq.rf x m⟩
    | true =>
    cases hf : fcB f with
    | false => exact ⟨m, by simp, Fq.rf x m⟩
    | true =>
    obtain ⟨kd, hkl, ek⟩ := (isN_iff (by decide)).mp hkd
    subst ek
    obtain ⟨m1, o1, f1, C1⟩ := c_opened1 h hi hj hk
    have ct := C1.2.1.2.2.2.1
    simp only [Bool.true_eq_false, if_false, o1, chk_t, ck_sI, ck_sR, ck_sJ, cal_s, bnd_e, ifn_s, ifn_n, if_neg ne10, chk_t C1.1.1.1, C1.1.pn, Bool.true_and, cl_nI (show kd < 2 ^ 31 by omega)]
    cases hpt : hasPt (W.tn i) u v with
    | false =>
      refine ⟨m1, ?_, f1⟩
      simp only [g_X3_maySit_0, f_X3_maySit, chk_t C1.1.2.2.2.2.1, C1.1.2.2.2.2.2.1, ck_s C1.1.th, chk_t, ck_sI, ck_sR, ck_sJ, cal_s, bnd_e, ifn_s, ifn_n, C1.2.1.2.1, chk_t ct.K, c_hasPoint ct, hpt, bI_0, if_true, cond_false]
      rfl
    | true =>
      obtain ⟨⟨a, ha, ea⟩, ⟨b, hb, eb⟩⟩ := hasPt_B V hpt
      subst ea; subst eb
      obtain ⟨n1, u1, u2, _, u4, _⟩ := c_welcome C1.1 (i := 0) (by omega) kd f
      have C2 := C1.pn u2
      obtain ⟨n2, v1, v2, v3⟩ := c_seatAt C2.1 (i := 0) (p := 8 * b + a) (by omega) u4 (by omega)
      have C3 := C2.pn (v2.p (by omega))
      have ms := c_mayStay (q := mks (sB (W.tn i) e) 12) (O := sB (W.tn i) e) C3 (fun z hz => by rw [bt_mks (by omega) z (by omega), decide_eq_true hz, Bool.true_and]) (fun z _ hz => sB_n hz) v3 (gst_v hkl (fcB_or hf) (by omega))
      have ep : nI b * 8 + nI a = nI (8 * b + a) := by
        show nI b * nI 8 + nI a = _
        rw [pk_mul, nI_add]
        congr 1; omega
      refine ⟨n2, ?_, f1.tr (u2.f.tr (v2.p (by omega)).f)⟩
      simp only [g_X3_maySit_0, f_X3_maySit, chk_t C1.1.2.2.2.2.1, C1.1.2.2.2.2.2.1, ck_s C1.1.th, chk_t, ck_sI, ck_sR, ck_sJ, cal_s, bnd_e, ifn_s, ifn_n, C1.2.1.2.1, chk_t ct.K, c_hasPoint ct, hpt, bI_0, Bool.true_eq_false, if_false, show f_X3_welcome (x + 99) 0 (nI kd) f m1 = _ from u1, chk_t C2.1.2.2.2.2.1, ep, show f_X3_seatAt (x + 99) 0 (nI (8 * b + a)) n1 = _ from v1, chk_t C3.1.2.2.2.2.1, show f_X3_guest (x + 99) 0 n2 = _ from c_guest C3.1 (i := 0) (by omega), C3.1.2.2.2.2.2.1, ck_s C3.1.th, C3.2.2.2.2.2.1, ms, cond_true, cl_nI (show a < 2 ^ 31 by omega), cl_nI (show b < 2 ^ 31 by omega)]
      generalize styB (W.tn i) (W.lw j) e (-1) (sB (W.tn i) e) (gst kd f (8 * b + a)) = z
      cases z <;> rfl
  · have g := h.code
    simp only [g_X10_may_0, f_X10_may, chk_t h.M.1, chk_t, ck_sI, ck_sR, ck_sJ, cal_s, bnd_e, ifn_s, ifn_n, r_isAsked g, ho, Bool.false_and, bI_0, if_true]
  · subst e1; subst e2; subst e3
    have hnt := h.nt
    have hnl := h.nl
    have V := h.V.1 i hi
    have g := h.code
    have fc := fq_code x m
    have hop : opB W (nI i) (nI j) (nI e) = true := by unfold opB; rw [isN_nI (by omega) hi, isN_nI (by omega) hj, isN_nI (by decide) hk]; rfl
    simp only [g_X10_may_0, f_X10_may, chk_t h.M.1, chk_t, ck_sI, ck_sR, ck_sJ, cal_s, bnd_e, ifn_s, ifn_n, r_isAsked g, hop, Bool.true_and, bI_0, maV]
    generalize m.sI 1100 (x + 106) 0 0 = m0 at g fc ⊢
    cases hkd : isN 6 k with
    | false => exact ⟨m0, by simp, fc⟩
    | true =>
    cases hf : fcB f with
    | false => exact ⟨m0, by simp, fc⟩
    | true =>
    obtain ⟨kd, hkl, ek⟩ := (isN_iff (by decide)).mp hkd
    subst ek
    have ip := r_isPoint g.M (show i < 12 by omega) (g.rt hi).1.1 (g.rt hi).1.2.1 V u v
    simp only [Bool.and_true, Bool.true_and, Bool.true_eq_false, if_false, chk_t g.M.1, ip, chk_t, ck_sI, ck_sR, ck_sJ, cal_s, bnd_e, ifn_s, ifn_n, bI_0, cl_nI (show kd < 2 ^ 31 by omega)]
    cases hpt : hasPt (W.tn i) u v with
    | false => exact ⟨m0, by simp, fc⟩
    | true =>
      obtain ⟨⟨a, ha, ea⟩, ⟨b, hb, eb⟩⟩ := hasPt_B V hpt
      subst ea; subst eb
      obtain ⟨m1, e1, f1, R1⟩ := r_br g hi hj hk
      obtain ⟨m2, e2, l2, G2, _⟩ := r_lay R1.o (g := 0) (by omega) hkl (fcB_or hf) ha hb
      have R2 := R1.o.ln l2
      have hG : ((kd, a, b, f, 0) : BD) = gst kd f (8 * b + a) := by
        unfold gst
        rw [show (8 * b + a) % 8 = a by omega, show (8 * b + a) / 8 = b by omega]
      rw [hG] at G2
      have mb := r_mayBy R2 (g := 0) (by omega) G2 (-1)
      refine ⟨m2, ?_, fc.tr (f1.tr l2.f)⟩
      simp only [Bool.true_eq_false, if_false, e1, chk_t, ck_sI, ck_sR, ck_sJ, cal_s, bnd_e, ifn_s, ifn_n, chk_t R1.1.1.1, show f_X10_lay (x + 106) 0 (nI kd) (nI a) (nI b) f m1 = _ from e2, chk_t R2.1.1.1, show f_X10_mayBy (x + 106) (nI j) 0 (-1) m2 = _ from mb, chk_t (bI_01 _), cond_true, cl_nI (show a < 2 ^ 31 by omega), cl_nI (show b < 2 ^ 31 by omega)]
/-! which points are free -/
def sfS (P : Nat → Bool) (k : Int32) : Nat → Int32
  | 0 => -1
  | p + 1 => cond (P p && decide (nI (cntB P p) = k)) (nI p) (sfS P k p)
theorem sfS_s (P : Nat → Bool) (k : Int32) (p : Nat) : sfS P k (p + 1) = cond (P p && decide (nI (cntB P p) = k)) (nI p) (sfS P k p) := rfl
def sptP (P : Nat → Bool) (k : Int32) (p : Nat) : Bool := P p && decide (nI (cntB P p) = k)
theorem cnt_mono (P : Nat → Bool) {a b : Nat} (h : a ≤ b) : cntB P a ≤ cntB P b := by
  induction b with
  | zero => rw [show a = 0 by omega]; exact Nat.le_refl _
  | succ b ih =>
    by_cases z : a = b + 1
    · rw [z]; exact Nat.le_refl _
    · have := ih (by omega)
      rw [cntB_s]
      omega
theorem spt_one {P : Nat → Bool} {k : Int32} {a b : Nat} (hb : b < 64) (hab : a < b) (h1 : sptP P k a = true) (h2 : sptP P k b = true) : False := by
  unfold sptP at h1 h2
  rw [Bool.and_eq_true, decide_eq_true_eq] at h1 h2
  have e := nI_inj (by have := cntB_le P a; omega) (by have := cntB_le P b; omega) (h1.2.trans h2.2.symm)
  have := cnt_mono P (show a + 1 ≤ b by omega)
  rw [cntB_s, h1.1, bN_t] at this
  omega
theorem sfS_e (P : Nat → Bool) (k : Int32) : sfS P k 64 = fnd (sptP P k) (fun p => nI p) (-1) 64 0 := by
  have none' : ∀ n, (∀ p, p < n → sptP P k p = false) → sfS P k n = -1 := by
    intro n
    induction n with
    | zero => intro _; rfl
    | succ n ih =>
      intro h
      have := h n (by omega)
      unfold sptP at this
      rw [sfS_s, this]
      exact ih (fun p hp => h p (by omega))
  have one : ∀ n j, n ≤ 64 → j < n → sptP P k j = true → sfS P k n = nI j := by
    intro n
    induction n with
    | zero => intro j _ hj; omega
    | succ n ih =>
      intro j hn hj hP
      rw [sfS_s]
      by_cases z : j = n
      · subst z
        unfold sptP at hP
        rw [hP]; rfl
      · have : sptP P k n = false := by
          cases q : sptP P k n with
          | false => rfl
          | true => exact (spt_one (by omega) (by omega) hP q).elim
        unfold sptP at this
        rw [this]
        exact ih j (by omega) (by omega) hP
  have key : ∀ i, i ≤ 64 → (∀ p, p < i → sptP P k p = false) → sfS P k 64 = fnd (sptP P k) (fun p => nI p) (-1) (64 - i) i := by
    intro i
    induction h : 64 - i generalizing i with
    | zero =>
      intro hi hp
      have : i = 64 := by omega
      subst this
      exact none' 64 hp
    | succ c ih =>
      intro hi hp
      show _ = (if sptP P k i then nI i else fnd (sptP P k) (fun p => nI p) (-1) c (i + 1))
      cases q : sptP P k i with
      | true => exact one 64 i (by omega) (by omega) q
      | false => exact ih (i + 1) (by omega) (by omega) (fun p hp' => by
          by_cases z : p = i
          · rw [z]; exact q
          · exact hp p (by omega))
  exact key 0 (by omega) (fun p hp => by omega)
def spP (T : TW) (B : LW) (d : Nat) (k f : Int32) : Nat → Bool := opP T B d (-1) (sB T d) k.toNatClampNeg f
def ssV (T : TW) (B : LW) (d : Nat) (k f : Int32) : Int32 := cond (isN 6 k && fcB f) (nI (cntB (spP T B d k f) 64)) (-1)
def stV (T : TW) (B : LW) (d : Nat) (k f c : Int32) : Int32 := cond (isN 6 k && fcB f) (sfS (spP T B d k f) c 64) (-1)
theorem c_spotsFor {m : MM} {x t l d kd : Nat} {T : TW} {B : LW} {f : Int32} (C : CS m x t l T B d 0 255 (-1)) (hk : kd < 6) (hf : f = -1 ∨ nB f 4) : ∃ n, f_X3_spotsFor (x + 99) (nI kd) f m = some (mkL (opP T B d (-1) (sB T d) kd f) 64, n) ∧ Pn x m n := by
  obtain ⟨n1, u1, u2, _, u4, _⟩ := c_welcome C.1 (i := 0) (by omega) kd f
  have C2 := C.pn u2
  obtain ⟨n2, v1, v2⟩ := c_openPoints (q := mks (sB T d) 12) (O := sB T d) C2 (fun z hz => by rw [bt_mks (by omega) z (by omega), decide_eq_true hz, Bool.true_and]) (fun z _ hz => sB_n hz) (i := 0) (by omega) u4 hk hf
  refine ⟨n2, ?_, u2.tr (v2.p (by omega))⟩
  simp only [g_X3_spotsFor_0, f_X3_spotsFor, chk_t C.1.2.2.2.2.1, show f_X3_welcome (x + 99) 0 (nI kd) f m = _ from u1, chk_t, ck_sI, ck_sR, ck_sJ, cal_s, bnd_e, ifn_s, ifn_n, chk_t C2.1.2.2.2.2.1, C2.1.2.2.2.2.2.1, ck_s C2.1.th, C2.2.2.2.2.2.1, show f_X3_openPoints (x + 99) 0 (mks (sB T d) 12) n1 = _ from v1]
theorem r_spotsBy {m : MM} {y i j d kd : Nat} {T : TW} {B : LW} {O : Nat → Bool} {f : Int32} (R : RO m y i j T B d O) (hk : kd < 6) (hf : f = -1 ∨ nB f 4) (c : Int32) : ∃ n, f_X10_spotsBy y (nI i) (nI j) (nI kd) f c m = some (nI (cntB (opP T B d (-1) O kd f) 64), n) ∧ Ln y m n ∧ n.I 1175 y 0 = sfS (opP T B d (-1) O kd f) c 64 := by
  have hi := R.1.2.2.1
  obtain ⟨m1, hm1⟩ : ∃ q, q = m.sI 1175 y 0 (-1) := ⟨_, rfl⟩
  have l1 : Ln y m m1 := by rw [hm1]; exact (Ln.rf y m).sI _ _ _ _ (.inl ⟨rfl, rfl⟩)
  obtain ⟨s, ⟨q1, q2, q4⟩, q3⟩ := lp_inv (fun n p (s : Int32 × MM) => l_X10_spotsBy_11 y (nI i) (nI j) (nI kd) f c n s.1 p s.2) (fun p s => s.1 = nI (cntB (opP T B d (-1) O kd f) p) ∧ Ln y m s.2 ∧ s.2.I 1175 y 0 = sfS (opP T B d (-1) O kd f) c p) (fun s => some (s.1, s.2)) 64 (fun p hp s hI => by
    obtain ⟨a1, a2, a3⟩ := hI
    have Rs := R.ln a2
    have e1 : ¬ (64 : Int32) ≤ nI p := nI_ge (b := 64) hp (by decide)
    have ip := r_isPoint Rs.1.1 (show i < 12 by omega) Rs.1.2.2.2.1.1.1 Rs.1.2.2.2.1.1.2.1 Rs.2.1 (nI (p % 8)) (nI (p / 8))
    have hop : opP T B d (-1) O kd f p = (hasPt T (nI (p % 8)) (nI (p / 8)) && styB T B d (-1) O (gst kd f p)) := rfl
    cases hpt : hasPt T (nI (p % 8)) (nI (p / 8)) with
    | false =>
      rw [hpt, Bool.false_and] at hop
      refine ⟨s, ⟨by rw [cntB_s, hop]; exact a1, a2, by rw [sfS_s, hop]; exact a3⟩, fun n => ?_⟩
      show g_X10_spotsBy_11 y (nI i) (nI j) (nI kd) f c (l_X10_spotsBy_11 y (nI i) (nI j) (nI kd) f c n) s.1 (nI p) s.2 = _
      simp only [g_X10_spotsBy_11, g_X10_spotsBy_90, if_neg e1, chk_t Rs.1.1.1, dv8 p hp, md8 p hp, ip, hpt, chk_t, ck_sI, ck_sR, ck_sJ, cal_s, bnd_e, ifn_s, ifn_n, bI_0, if_true, nI_1]
    | true =>
      rw [hpt, Bool.true_and] at hop
      obtain ⟨n1, u1, u2, u3, u4⟩ := r_lay Rs (g := 0) (by omega) hk hf (show p % 8 < 8 by omega) (show p / 8 < 8 by omega)
      have R1 := Rs.ln u2
      have mb := r_mayBy R1 (g := 0) (by omega) u3 (-1)
      have mb : f_X10_mayBy y (nI j) 0 (-1) n1 = some (bI (styB T B d (-1) O (gst kd f p)), n1) := mb
      have i75 : n1.I 1175 y 0 = sfS (opP T B d (-1) O kd f) c p := by rw [u4 _ _ _ (by omega)]; exact a3
      cases hst : styB T B d (-1) O (gst kd f p) with
      | false =>
        rw [hst] at hop mb
        refine ⟨(s.1, n1), ⟨by rw [cntB_s, hop]; exact a1, a2.tr u2, by rw [sfS_s, hop]; exact i75⟩, fun n => ?_⟩
        show g_X10_spotsBy_11 y (nI i) (nI j) (nI kd) f c (l_X10_spotsBy_11 y (nI i) (nI j) (nI kd) f c n) s.1 (nI p) s.2 = _
        simp only [g_X10_spotsBy_11, g_X10_spotsBy_90, if_neg e1, chk_t Rs.1.1.1, dv8 p hp, md8 p hp, ip, hpt, chk_t, ck_sI, ck_sR, ck_sJ, cal_s, bnd_e, ifn_s, ifn_n, bI_0, Bool.true_eq_false, if_false, show f_X10_lay y 0 (nI kd) (nI (p % 8)) (nI (p / 8)) f s.2 = _ from u1, chk_t R1.1.1.1, mb, if_true, nI_1]
      | true =>
        rw [hst] at hop mb
        refine ⟨(nI (cntB (opP T B d (-1) O kd f) (p + 1)), n1.sI 1175 y 0 (sfS (opP T B d (-1) O kd f) c (p + 1))), ⟨rfl, (a2.tr u2).sI _ _ _ _ (.inl ⟨rfl, rfl⟩), by show (n1.sI _ _ _ _).I _ _ _ = _; rw [I_sI, if_pos ⟨rfl, rfl, rfl⟩]⟩, fun n => ?_⟩
        show g_X10_spotsBy_11 y (nI i) (nI j) (nI kd) f c (l_X10_spotsBy_11 y (nI i) (nI j) (nI kd) f c n) s.1 (nI p) s.2 = _
        simp only [g_X10_spotsBy_11, g_X10_spotsBy_84, g_X10_spotsBy_90, if_neg e1, chk_t Rs.1.1.1, dv8 p hp, md8 p hp, ip, hpt, chk_t, ck_sI, ck_sR, ck_sJ, cal_s, bnd_e, ifn_s, ifn_n, bI_0, Bool.true_eq_false, if_false, show f_X10_lay y 0 (nI kd) (nI (p % 8)) (nI (p / 8)) f s.2 = _ from u1, chk_t R1.1.1.1, ck_s R1.1.1.1, mb, nI_1, i75, a1, sfS_s, hop, Bool.true_and, cntB_s, bN_t]
        by_cases z : nI (cntB (opP T B d (-1) O kd f) p) = c
        · rw [if_pos z, decide_eq_true z]; rfl
        · rw [if_neg z, decide_eq_false z]; rfl) (fun s hI n => by
    show g_X10_spotsBy_11 y (nI i) (nI j) (nI kd) f c (l_X10_spotsBy_11 y (nI i) (nI j) (nI kd) f c n) s.1 (nI 64) s.2 = _
    simp only [g_X10_spotsBy_11, if_pos (show (64 : Int32) ≤ nI 64 by decide)]) (s0 := (0, m1)) ⟨rfl, l1, by show m1.I 1175 y 0 = -1; rw [hm1, I_sI, if_pos ⟨rfl, rfl, rfl⟩]⟩
  refine ⟨s.2, ?_, q2, q4⟩
  simp only [f_X10_spotsBy, g_X10_spotsBy_0, chk_t R.1.1.1, chk_t, ck_sI, ck_sR, ck_sJ, cal_s, bnd_e, ifn_s, ifn_n]
  rw [← hm1]
  refine (q3 FU (by unfold FU; omega)).trans ?_
  rw [q1]
theorem blv_mk {P : Nat → Bool} : blv (mkL P 64) = nI (cntB P 64) := by
  rw [blv_e]
  congr 1
  exact cntB_congr 64 (fun i hi => by rw [btL_mk (by omega) i hi, decide_eq_true hi, Bool.true_and])
theorem m_spots (x : Nat) (p q d k f : Int32) : Mq x (f_X9_spots x p q d k f) (f_X10_spots (x + 106) p q d k f) := by
  refine Mq_o p q d (-1) (fun T B e => ssV T B e k f) (fun m W D h ho => ⟨m, ?_, Fq.rf x m⟩) (fun m W D i j e h hi hj hk e1 e2 e3 => ?_) (fun m W D h ho => ⟨_, ?_, fq_code x m⟩) (fun m W D i j e h hi hj hk e1 e2 e3 => ?_)
  · simp only [g_X9_spots_0, f_X9_spots, chk_t h.kx, c_isKind, c_isFacing, c_opened0 h ho, chk_t, ck_sI, ck_sR, ck_sJ, cal_s, bnd_e, ifn_s, ifn_n, if_true, ite_self]
  · subst e1; subst e2; subst e3
    simp only [g_X9_spots_0, f_X9_spots, c_isKind, c_isFacing, chk_t, ck_sI, ck_sR, ck_sJ, cal_s, bnd_e, ifn_s, ifn_n, bI_0, chk_t h.kx, ssV]
    cases hkd : isN 6 k with
    | false => exact ⟨m, by simp, Fq.rf x m⟩
    | true =>
    cases hf : fcB f with
    | false => exact ⟨m, by simp, Fq.rf x m⟩
    | true =>
    obtain ⟨kd, hkl, ek⟩ := (isN_iff (by decide)).mp hkd
    subst ek
    obtain ⟨m1, o1, f1, C1⟩ := c_opened1 h hi hj hk
    obtain ⟨n, u1, u2⟩ := c_spotsFor C1 hkl (fcB_or hf)
    refine ⟨n, ?_, f1.tr u2.f⟩
    simp only [Bool.true_eq_false, if_false, o1, chk_t, ck_sI, ck_sR, ck_sJ, cal_s, bnd_e, ifn_s, ifn_n, if_neg ne10, chk_t C1.1.1.1, C1.1.pn, u1, j_bitCountL, blv_mk, Bool.and_true, cond_true, spP, cl_nI (show kd < 2 ^ 31 by omega)]
  · have g := h.code
    simp only [g_X10_spots_0, f_X10_spots, chk_t h.M.1, chk_t, ck_sI, ck_sR, ck_sJ, cal_s, bnd_e, ifn_s, ifn_n, r_isAsked g, ho, Bool.false_and, bI_0, if_true]
  · subst e1; subst e2; subst e3
    have hnt := h.nt
    have hnl := h.nl
    have g := h.code
    have fc := fq_code x m
    have hop : opB W (nI i) (nI j) (nI e) = true := by unfold opB; rw [isN_nI (by omega) hi, isN_nI (by omega) hj, isN_nI (by decide) hk]; rfl
    simp only [g_X10_spots_0, f_X10_spots, chk_t h.M.1, chk_t, ck_sI, ck_sR, ck_sJ, cal_s, bnd_e, ifn_s, ifn_n, r_isAsked g, hop, Bool.true_and, bI_0, ssV]
    generalize m.sI 1100 (x + 106) 0 0 = m0 at g fc ⊢
    cases hkd : isN 6 k with
    | false => exact ⟨m0, by simp, fc⟩
    | true =>
    cases hf : fcB f with
    | false => exact ⟨m0, by simp, fc⟩
    | true =>
    obtain ⟨kd, hkl, ek⟩ := (isN_iff (by decide)).mp hkd
    subst ek
    obtain ⟨m1, e1, f1, R1⟩ := r_br g hi hj hk
    obtain ⟨m2, e2, l2, _⟩ := r_spotsBy R1.o hkl (fcB_or hf) (-1)
    refine ⟨m2, ?_, fc.tr (f1.tr l2.f)⟩
    simp only [Bool.and_true, Bool.true_eq_false, if_false, chk_t g.M.1, e1, chk_t, ck_sI, ck_sR, ck_sJ, cal_s, bnd_e, ifn_s, ifn_n, chk_t R1.1.1.1, e2, cond_true, spP, cl_nI (show kd < 2 ^ 31 by omega)]
theorem c_spotL (x : Nat) (p1 p2 p3 p4 f c : Int32) (P : Nat → Bool) (n : MM) : ∀ b a, a + b = 64 → ∀ z, b < z → l_X9_spot_52 x p1 p2 p3 p4 f c z (mkL P 64) (nI (cntB P a)) (nI a) n = some (fnd (sptP P c) (fun p => nI p) (-1) b a, n) := by
  intro b
  induction b with
  | zero =>
    intro a ha z hz
    obtain ⟨z, rfl⟩ : ∃ y, z = y + 1 := ⟨z - 1, by omega⟩
    have : a = 64 := by omega
    subst this
    show g_X9_spot_52 x p1 p2 p3 p4 f c (l_X9_spot_52 x p1 p2 p3 p4 f c z) (mkL P 64) (nI (cntB P 64)) (nI 64) n = _
    simp only [g_X9_spot_52, if_pos (show (64 : Int32) ≤ nI 64 by decide)]
    rfl
  | succ b ih =>
    intro a ha z hz
    obtain ⟨z, rfl⟩ : ∃ y, z = y + 1 := ⟨z - 1, by omega⟩
    have e1 : ¬ (64 : Int32) ≤ nI a := nI_ge (b := 64) (by omega) (by decide)
    have ihh := ih (a + 1) (by omega) z (by omega)
    show g_X9_spot_52 x p1 p2 p3 p4 f c (l_X9_spot_52 x p1 p2 p3 p4 f c z) (mkL P 64) (nI (cntB P a)) (nI a) n = some (if sptP P c a then nI a else fnd (sptP P c) (fun p => nI p) (-1) b (a + 1), n)
    have hs : sptP P c a = (P a && decide (nI (cntB P a) = c)) := rfl
    simp only [g_X9_spot_52, g_X9_spot_87, if_neg e1, btL_q _ (show a < 64 by omega), btL_mk (show 64 ≤ 64 by omega) a (show a < 64 by omega), decide_eq_true (show a < 64 by omega), Bool.true_and, nI_1]
    rw [hs]
    rw [cntB_s] at ihh
    cases hPa : P a with
    | false =>
      rw [hPa, bN_f, Nat.add_zero] at ihh
      simp only [if_true, Bool.false_and, Bool.false_eq_true, if_false]
      exact ihh
    | true =>
      rw [hPa, bN_t] at ihh
      simp only [Bool.true_eq_false, if_false, Bool.true_and]
      by_cases y : nI (cntB P a) = c
      · rw [if_pos y, decide_eq_true y]; rfl
      · rw [if_neg y, decide_eq_false y]
        simp only [Bool.false_eq_true, if_false]
        exact ihh
theorem m_spot (x : Nat) (p q d k f c : Int32) : Mq x (f_X9_spot x p q d k f c) (f_X10_spot (x + 106) p q d k f c) := by
  refine Mq_o p q d (-1) (fun T B e => stV T B e k f c) (fun m W D h ho => ⟨m, ?_, Fq.rf x m⟩) (fun m W D i j e h hi hj hk e1 e2 e3 => ?_) (fun m W D h ho => ⟨_, ?_, fq_code x m⟩) (fun m W D i j e h hi hj hk e1 e2 e3 => ?_)
  · simp only [f_X9_spot, g_X9_spot_0, chk_t h.kx, c_isKind, c_isFacing, c_opened0 h ho, chk_t, ck_sI, ck_sR, ck_sJ, cal_s, bnd_e, ifn_s, ifn_n, if_true, ite_self]
  · subst e1; subst e2; subst e3
    unfold stV
    unfold f_X9_spot g_X9_spot_0
    have b1 : ¬ bI true = 0 := by decide
    by_cases hc0 : c < 0
    · refine ⟨m, ?_, Fq.rf x m⟩
      rw [if_pos hc0]
      cases (isN 6 k && fcB f) with
      | false => rfl
      | true =>
        rw [cond_true, sfS_e, fnd_none (anyF.mpr (fun p hp => ?_))]
        unfold sptP
        rw [decide_eq_false (fun q => nI_pos (show cntB (spP (W.tn i) (W.lw j) e k f) p < 2 ^ 31 by have := cntB_le (spP (W.tn i) (W.lw j) e k f) p; omega) (by rw [q]; exact hc0)), Bool.and_false]
    · rw [if_neg hc0, c_isKind, cal_s]
      cases hkd : isN 6 k with
      | false => exact ⟨m, by rw [bI_f, if_pos rfl, Bool.false_and, cond_false], Fq.rf x m⟩
      | true =>
      rw [if_neg b1, c_isFacing, cal_s]
      cases hf : fcB f with
      | false => exact ⟨m, by rw [bI_f, if_pos rfl, Bool.and_false, cond_false], Fq.rf x m⟩
      | true =>
      obtain ⟨kd, hkl, ek⟩ := (isN_iff (by decide)).mp hkd
      subst ek
      obtain ⟨m1, o1, f1, C1⟩ := c_opened1 h hi hj hk
      obtain ⟨n, u1, u2⟩ := c_spotsFor C1 hkl (fcB_or hf)
      refine ⟨n, ?_, f1.tr u2.f⟩
      have hsp : spP (W.tn i) (W.lw j) e (nI kd) f = opP (W.tn i) (W.lw j) e (-1) (sB (W.tn i) e) kd f := by unfold spP; rw [cl_nI (by omega)]
      rw [if_neg b1, chk_t h.kx, o1, cal_s, if_neg ne10, chk_t C1.1.1.1, C1.1.pn, u1, cal_s, Bool.and_true, cond_true, hsp, sfS_e]
      exact c_spotL x (nI i) (nI j) (nI e) (nI kd) f c (opP (W.tn i) (W.lw j) e (-1) (sB (W.tn i) e) kd f) n 64 0 (by omega) FU (by unfold FU; omega)
  · have g := h.code
    simp only [g_X10_spot_0, f_X10_spot, chk_t h.M.1, chk_t, ck_sI, ck_sR, ck_sJ, cal_s, bnd_e, ifn_s, ifn_n, r_isAsked g, ho, Bool.false_and, bI_0, if_true]
  · subst e1; subst e2; subst e3
    have hnt := h.nt
    have hnl := h.nl
    have g := h.code
    have fc := fq_code x m
    have hop : opB W (nI i) (nI j) (nI e) = true := by unfold opB; rw [isN_nI (by omega) hi, isN_nI (by omega) hj, isN_nI (by decide) hk]; rfl
    simp only [g_X10_spot_0, f_X10_spot, chk_t h.M.1, chk_t, ck_sI, ck_sR, ck_sJ, cal_s, bnd_e, ifn_s, ifn_n, r_isAsked g, hop, Bool.true_and, bI_0, stV]
    generalize m.sI 1100 (x + 106) 0 0 = m0 at g fc ⊢
    cases hkd : isN 6 k with
    | false => exact ⟨m0, by simp, fc⟩
    | true =>
    cases hf : fcB f with
    | false => exact ⟨m0, by simp, fc⟩
    | true =>
    obtain ⟨kd, hkl, ek⟩ := (isN_iff (by decide)).mp hkd
    subst ek
    obtain ⟨m1, e1, f1, R1⟩ := r_br g hi hj hk
    obtain ⟨m2, e2, l2, i75⟩ := r_spotsBy R1.o hkl (fcB_or hf) c
    have R2 := R1.o.ln l2
    refine ⟨m2, ?_, fc.tr (f1.tr l2.f)⟩
    simp only [Bool.and_true, Bool.true_eq_false, if_false, chk_t g.M.1, e1, chk_t, ck_sI, ck_sR, ck_sJ, cal_s, bnd_e, ifn_s, ifn_n, chk_t R1.1.1.1, e2, chk_t R2.1.1.1, i75, cond_true, spP, cl_nI (show kd < 2 ^ 31 by omega)]
