/-! fewest -/
def subB (T : TW) (d k : Nat) : Bool := !(List.range 12).any (fun i => k.testBit i && !sB T d i)
def ridB (P : Nat → Nat → Bool) (k : Nat) : Bool := !(List.range 12).any (fun i => !k.testBit i && (List.range 12).any (fun j => P i j && !k.testBit j))
def csN (T : TW) (k : Nat) : Nat := sumN (fun i => cond (k.testBit i) (T.2.2 0 i 6).toNatClampNeg 0) 12
def kcN (T : TW) (c : Int32) (k : Nat) : Nat := if c = 0 then 0 else csN T k
def acB (T : TW) (B : LW) (d k : Nat) : Bool := subB T d k && ridB (foe T B d 0 (bt 255) (clL T d)) k
def fwV (T : TW) (B : LW) (d : Nat) (c : Int32) : Int32 := nI (fwS (acB T B d) (ltB (kcN T c)) 4096).1
theorem tb_hi {k i : Nat} (hk : k < 4096) (hi : 12 ≤ i) : k.testBit i = false := Nat.testBit_lt_two_pow (Nat.lt_of_lt_of_le hk (Nat.pow_le_pow_right (n := 2) (by omega) hi))
theorem and_0 {p q : Int32} : (p &&& q = 0) ↔ ∀ i, i < 32 → (bt p i && bt q i) = false := by
  constructor
  · intro h i _
    rw [← bt_and, h, bt_0]
  · intro h
    apply bt_ext
    intro i hi
    rw [bt_and, h i hi, bt_0]
theorem sub_iff {T : TW} {d k : Nat} (hk : k < 4096) : (nI k &&& (mks (sB T d) 12 ^^^ (-1)) = 0) ↔ subB T d k = true := by
  rw [m1_xor, and_0]
  unfold subB
  rw [Bool.not_eq_true', anyF]
  constructor
  · intro h i hi
    have := h i (by omega)
    rw [bt_nI _ i (by omega), bt_not _ (by omega), bt_mks (by omega) i (by omega), decide_eq_true hi, Bool.true_and] at this
    exact this
  · intro h i hi
    rw [bt_nI _ i hi, bt_not _ hi, bt_mks (by omega) i hi]
    by_cases q : i < 12
    · rw [decide_eq_true q, Bool.true_and]; exact h i q
    · rw [tb_hi hk (by omega)]; rfl
theorem sub_i {T : TW} {d k i : Nat} (h : subB T d k = true) (hi : i < 12) (hb : k.testBit i = true) : sB T d i = true := by
  unfold subB at h
  rw [Bool.not_eq_true', anyF] at h
  have := h i hi
  rw [hb] at this
  simpa using this
theorem rid_iff {P : Nat → Nat → Bool} {k : Nat} : ridB P k = true ↔ ∀ i j, i < 12 → j < 12 → P i j = true → k.testBit i = true ∨ k.testBit j = true := by
  unfold ridB
  rw [Bool.not_eq_true', anyF]
  constructor
  · intro h i j hi hj hP
    have := h i hi
    rw [Bool.and_eq_false_iff] at this
    rcases this with q | q
    · exact .inl (by simpa using q)
    · have := anyF.mp q j hj
      rw [hP] at this
      exact .inr (by simpa using this)
  · intro h i hi
    rw [Bool.and_eq_false_iff]
    cases hb : k.testBit i with
    | true => exact .inl rfl
    | false =>
      refine .inr (anyF.mpr (fun j hj => ?_))
      cases hP : P i j with
      | false => rfl
      | true =>
        rcases h i j hi hj hP with q | q
        · rw [hb] at q; cases q
        · rw [q]; rfl
theorem csN_le {T : TW} (V : VT T) {k : Nat} (h : ∀ i, i < 12 → k.testBit i = true → i < T.2.1 0) : csN T k ≤ 1200 := by
  have key : ∀ n, n ≤ 12 → sumN (fun i => cond (k.testBit i) (T.2.2 0 i 6).toNatClampNeg 0) n ≤ 100 * n := by
    intro n
    induction n with
    | zero => intro _; exact Nat.le_refl 0
    | succ n ih =>
      intro hn
      have := ih (by omega)
      rw [sumN_s]
      cases hb : k.testBit n with
      | false => simp only [cond_false]; omega
      | true =>
        have := (nB_e (V.2.2.2.2.2.2.1 n (h n (by omega) hb)).2.2.2.2.2.2.1 (by omega)).2
        simp only [cond_true]
        omega
  exact key 12 (by omega)
theorem kcN_le {T : TW} (V : VT T) {k : Nat} (c : Int32) (h : ∀ i, i < 12 → k.testBit i = true → i < T.2.1 0) : kcN T c k ≤ 1200 := by
  unfold kcN
  split
  · omega
  · exact csN_le V h
section FEW
variable {m : MM} {x t l d w k : Nat} {T : TW} {B : LW} {ho wo : Int32}
theorem c_costOf (C : CS m x t l T B d w ho wo) (h : ∀ i, i < 12 → k.testBit i = true → i < T.2.1 0) : f_X1_costOf (x + 96) (nI k) m = some (nI (csN T k), m) := by
  have := lp_for (fun n s c => l_X1_costOf_4 (x + 96) (nI k) n s c m) (fun c => nI (sumN (fun i => cond (k.testBit i) (T.2.2 0 i 6).toNatClampNeg 0) c)) 12 (some (nI (csN T k), m)) (fun c hc n => ?_) (fun n => ?_) (n := FU) (by unfold FU; omega)
  · exact this
  · show g_X1_costOf_4 (x + 96) (nI k) (l_X1_costOf_4 (x + 96) (nI k) n) _ (nI c) m = _
    have e1 : ¬ (12 : Int32) ≤ nI c := nI_ge (b := 12) hc (by decide)
    rw [sumN_s]
    simp only [g_X1_costOf_4, g_X1_costOf_31, if_neg e1, bt_q _ (show c < 32 by omega), bt_nI _ c (show c < 32 by omega), nI_1]
    cases hb : k.testBit c with
    | false => simp only [if_true, cond_false, Nat.add_zero]
    | true =>
      have hc' := h c hc hb
      have q := nB_e (C.2.2.1.2.2.2.2.2.2.1 c hc').2.2.2.2.2.2.1 (by omega)
      simp only [Bool.true_eq_false, if_false, cond_true, chk_t C.1.2.2.2.1.1, C.1.2.2.2.1.2.1, ck_s C.1.th, show f_X5_ofThing (x + 81) (nI c) 6 m = _ from c_ofThing (c := 6) C.2.1 hc' (by omega), chk_t, ck_sI, ck_sR, ck_sJ, cal_s, bnd_e, ifn_s, ifn_n]
      have e : ∀ S : Nat, nI S + T.2.2 0 c 6 = nI (S + (T.2.2 0 c 6).toNatClampNeg) := fun S => by rw [← nI_add, ← q.1]
      rw [e]
  · show g_X1_costOf_4 (x + 96) (nI k) (l_X1_costOf_4 (x + 96) (nI k) n) _ (nI 12) m = _
    simp only [g_X1_costOf_4, if_pos (show (12 : Int32) ≤ nI 12 by decide), csN]
theorem c_rids {P : Nat → Nat → Bool} (hS : Sh m x) (F : FoR m x P (fun _ _ => True)) (hk : k < 4096) : f_X5_rids (x + 81) (nI k) m = some (bI (ridB P k), m) := by
  have r0 : m.R 601 (x + 81) 0 = some (x + 95) ∧ m.K (x + 95) = 22 ∧ m.N (x + 95) = 12 := ⟨hS.2.2.1.2.2.1, hS.2.2.1.2.2.2.2.2.1, hS.2.2.1.2.2.2.2.2.2.1⟩
  have := lp_any (fun n i => l_X5_rids_2 (x + 81) (nI k) n i m) (fun i => !k.testBit i && (List.range 12).any (fun j => P i j && !k.testBit j)) (some (0, m)) (some (1, m)) 12 (fun i hi n => ?_) (fun n => ?_) (n := FU) (by unfold FU; omega)
  · refine this.trans ?_
    unfold ridB
    cases (List.range 12).any _ <;> rfl
  · show g_X5_rids_2 (x + 81) (nI k) (l_X5_rids_2 (x + 81) (nI k) n) (nI i) m = _
    have e1 : ¬ nI 12 ≤ nI i := nI_ge hi (by decide)
    have key : (m.I 22 (x + 95) i &&& (nI k ^^^ (-1)) = 0) ↔ (List.range 12).any (fun j => P i j && !k.testBit j) = false := by
      rw [m1_xor, and_0, anyF]
      constructor
      · intro h j hj
        have := h j (by omega)
        rw [bt_not _ (by omega), bt_nI _ j (by omega)] at this
        cases hP : P i j with
        | false => rfl
        | true =>
          have := this
          rw [(F i hi j (by omega)).mpr ⟨hj, hP, trivial⟩] at this
          exact this
      · intro h j hj
        rw [bt_not _ hj, bt_nI _ j hj]
        cases hb : bt (m.I 22 (x + 95) i) j with
        | false => rfl
        | true =>
          obtain ⟨q1, q2, _⟩ := (F i hi j hj).mp hb
          have := h j q1
          rw [q2] at this
          exact this
    simp only [g_X5_rids_2, g_X5_rids_34, chk_t hS.th, r0.1, ck_s r0.2.1, r0.2.2, ofN, if_neg e1, bt_q _ (show i < 32 by omega), bt_nI _ i (show i < 32 by omega), chk_t (inb_nI hi (by decide)), cl_nI (show i < 2 ^ 31 by omega), key, nI_1]
    cases k.testBit i <;> cases (List.range 12).any (fun j => P i j && !k.testBit j) <;> simp
  · show g_X5_rids_2 (x + 81) (nI k) (l_X5_rids_2 (x + 81) (nI k) n) (nI 12) m = _
    simp only [g_X5_rids_2, chk_t hS.th, r0.1, ck_s r0.2.1, r0.2.2, ofN, if_pos (Int32.le_refl _)]
end FEW
theorem mem_lat {L : List B3} {e : B3} (h : e ∈ L) : ∃ c, c < L.length ∧ lat L c = e := by
  obtain ⟨c, hc, q⟩ := List.mem_iff_getElem.mp h
  refine ⟨c, hc, ?_⟩
  unfold lat
  rw [List.getElem?_eq_getElem hc]
  exact q
def frB (L : List B3) (k : Nat) : Bool := !(List.range L.length).any (fun c => !k.testBit (lat L c).1 && !k.testBit (lat L c).2.1)
theorem fr_rid {T : TW} {B : LW} {d k : Nat} (hB : B.2.1 ≤ 10) (hn : T.2.1 0 ≤ 12) : frB (br0 T B d) k = ridB (foe T B d 0 (bt 255) (clL T d)) k := by
  rw [Bool.eq_iff_iff, rid_iff]
  unfold frB
  rw [Bool.not_eq_true', anyF]
  constructor
  · intro h i j hi hj hf
    obtain ⟨r, hr, q⟩ := (foe_bar hB (clL_sw T d) i j).mp hf
    have one : ∀ a b, a < 12 → b < 12 → barP T B d 0 (bt 255) (clL T d) a b r = true → k.testBit a = true ∨ k.testBit b = true := by
      intro a b ha hb hP
      obtain ⟨c, hc, e⟩ := mem_lat (aL_mem (e := (a, b, r)).mpr ⟨ha, hb, hr, hP⟩)
      have e : lat (br0 T B d) c = (a, b, r) := e
      have := h c hc
      rw [e] at this
      rw [Bool.and_eq_false_iff] at this
      rcases this with z | z
      · exact .inl (by simpa using z)
      · exact .inr (by simpa using z)
    rcases q with q | q
    · exact one i j hi hj q
    · exact (one j i hj hi q).symm
  · intro h c hc
    obtain ⟨a, b, r, el, ha, hb, hab, hr, hP⟩ := bar_ok hc
    have el : lat (br0 T B d) c = (a, b, r) := el
    rw [el]
    rcases h a b (by omega) (by omega) ((foe_bar hB (clL_sw T d) a b).mpr ⟨r, hr, .inl hP⟩) with q | q
    · show (!k.testBit a && _) = false
      rw [q]; rfl
    · show (_ && !k.testBit b) = false
      rw [q, Bool.not_true, Bool.and_false]
section FRR
variable {m : MM} {y i j d w k : Nat} {T : TW} {B : LW} {oh F : Int32} {L : List B3}
theorem r_frees (hM : Md m y) (G : FrL m y L) (hL : L.length ≤ 1320) (hv : ∀ c, c < L.length → (lat L c).1 < 12 ∧ (lat L c).2.1 < 12) : f_X10_frees y (nI k) m = some (bI (frB L k), m) := by
  have := lp_any (fun n c => l_X10_frees_2 y (nI k) n c m) (fun c => !k.testBit (lat L c).1 && !k.testBit (lat L c).2.1) (some (0, m)) (some (1, m)) L.length (fun c hc n => ?_) (fun n => ?_) (n := FU) (by unfold FU; omega)
  · refine this.trans ?_
    unfold frB
    cases (List.range L.length).any _ <;> rfl
  · show g_X10_frees_2 y (nI k) (l_X10_frees_2 y (nI k) n) (nI c) m = _
    have e1 : ¬ nI L.length ≤ nI c := nI_ge hc (by omega)
    obtain ⟨g1, g2, g3⟩ := G.2 c hc
    obtain ⟨v1, v2⟩ := hv c hc
    simp only [g_X10_frees_2, g_X10_frees_38, chk_t hM.1, G.1, if_neg e1, hM.c1171, hM.n1171, hM.c1172, hM.n1172, chk_t (inb_nI (show c < 1440 by omega) (by decide)), cl_nI (show c < 2 ^ 31 by omega), g1, g2, bt_q _ (show (lat L c).1 < 32 by omega), bt_q _ (show (lat L c).2.1 < 32 by omega), bt_nI _ (lat L c).1 (show (lat L c).1 < 32 by omega), bt_nI _ (lat L c).2.1 (show (lat L c).2.1 < 32 by omega), nI_1]
    cases k.testBit (lat L c).1 <;> cases k.testBit (lat L c).2.1 <;> simp
  · show g_X10_frees_2 y (nI k) (l_X10_frees_2 y (nI k) n) (nI L.length) m = _
    simp only [g_X10_frees_2, chk_t hM.1, G.1, if_pos (Int32.le_refl _)]
theorem r_costOf (hM : Md m y) (hi : i < 3) (R : RT m y i T) (V : VT T) (hn : T.2.1 0 ≤ 12) (h : ∀ c, c < 12 → k.testBit c = true → c < T.2.1 0) : f_X10_costOf y (nI i) (nI k) m = some (nI (csN T k), m) := by
  have e12 : (12 : Int32) * nI i = nI (12 * i) := pk_mul 12 i
  have := lp_for (fun n s c => l_X10_costOf_5 y (nI i) (nI k) n s c m) (fun c => nI (sumN (fun i => cond (k.testBit i) (T.2.2 0 i 6).toNatClampNeg 0) c)) 12 (some (nI (csN T k), m)) (fun c hc n => ?_) (fun n => ?_) (n := FU) (by unfold FU; omega)
  · exact this
  · show g_X10_costOf_5 y (nI i) (nI k) (l_X10_costOf_5 y (nI i) (nI k) n) _ (nI c) m = _
    have e1 : ¬ (12 : Int32) ≤ nI c := nI_ge (b := 12) hc (by decide)
    rw [sumN_s]
    simp only [g_X10_costOf_5, g_X10_costOf_38, if_neg e1, bt_q _ (show c < 32 by omega), bt_nI _ c (show c < 32 by omega), nI_1, chk_t, ck_sI, ck_sR, ck_sJ, cal_s, bnd_e, ifn_s, ifn_n, Int32.add_zero]
    cases hb : k.testBit c with
    | false => simp only [if_true, cond_false, Nat.add_zero]
    | true =>
      have hc' := h c hc hb
      have q := nB_e (V.2.2.2.2.2.2.1 c hc').2.2.2.2.2.2.1 (by omega)
      simp only [Bool.true_eq_false, if_false, cond_true, chk_t hM.1, hM.c1113, hM.n1113, e12, nI_add (12 * i) c, chk_t (inb_nI (show 12 * i + c < 144 by omega) (by decide)), cl_nI (show 12 * i + c < 2 ^ 31 by omega), show m.I 22 (y + 13) (12 * i + c) = _ from R.2.1 c hc' 6 (by omega)]
      have e : ∀ S : Nat, nI S + T.2.2 0 c 6 = nI (S + (T.2.2 0 c 6).toNatClampNeg) := fun S => by rw [← nI_add, ← q.1]
      rw [e]
  · show g_X10_costOf_5 y (nI i) (nI k) (l_X10_costOf_5 y (nI i) (nI k) n) _ (nI 12) m = _
    simp only [g_X10_costOf_5, if_pos (show (12 : Int32) ≤ nI 12 by decide), csN]
end FRR
theorem m_fewest (x : Nat) (p q d u : Int32) : Mq x (f_X9_fewest x p q d u) (f_X10_fewest (x + 106) p q d u) := by
  refine Mq_o p q d (-1) (fun T B k => fwV T B k u) (fun m W D h ho => ⟨m, ?_, Fq.rf x m⟩) (fun m W D i j k h hi hj hk e1 e2 e3 => ?_) (fun m W D h ho => ⟨_, ?_, fq_code x m⟩) (fun m W D i j k h hi hj hk e1 e2 e3 => ?_)
  · simp only [f_X9_fewest, g_X9_fewest_0, chk_t h.kx, c_opened0 h ho, chk_t, ck_sI, ck_sR, ck_sJ, cal_s, bnd_e, ifn_s, ifn_n, if_true]
  · subst e1; subst e2; subst e3
    have V := h.V.1 i hi
    obtain ⟨m1, o1, f1, C1⟩ := c_opened1 h hi hj hk
    obtain ⟨m2, e2, o2, F2⟩ := c_findFoes C1
    have C2 := C1.on o2 (by omega)
    refine ⟨m2, ?_, f1.tr (o2.f (by omega) (by omega))⟩
    simp only [f_X9_fewest, g_X9_fewest_0, chk_t h.kx, o1, chk_t, ck_sI, ck_sR, ck_sJ, cal_s, bnd_e, ifn_s, ifn_n, if_neg ne10, chk_t C1.1.1.1, C1.1.sn, e2, chk_t C2.1.1.1, C2.1.ct]
    have key : f_X1_fewestWithout (x + 96) u m2 = some (fwV (W.tn i) (W.lw j) k u, m2) := by
      have sv := fun c => fwS_inv (ac := acB (W.tn i) (W.lw j) k) (lt := ltB (kcN (W.tn i) u)) (N := 4096) (fun a b c ha hb hc => ltB_tr ha hb hc) (fun a ha => ltB_ir _ ha) c
      have acs : ∀ c, acB (W.tn i) (W.lw j) k c = true → ∀ z, z < 12 → c.testBit z = true → z < (W.tn i).2.1 0 := fun c hc z hz hb => by
        unfold acB at hc
        rw [Bool.and_eq_true] at hc
        exact sB_n (sub_i hc.1 hz hb)
      have := lp_for (fun n (s : Nat × Bool) c => l_X1_fewestWithout_7 (x + 96) u n (nI s.1) (cond s.2 (nI (kcN (W.tn i) u s.1)) (-1)) c m2) (fwS (acB (W.tn i) (W.lw j) k) (ltB (kcN (W.tn i) u))) 4096 (some (fwV (W.tn i) (W.lw j) k u, m2)) (fun c hc n => ?_) (fun n => ?_) (n := FU) (by unfold FU; omega)
      · exact this
      · show g_X1_fewestWithout_7 (x + 96) u (l_X1_fewestWithout_7 (x + 96) u n) _ _ (nI c) m2 = _
        have z1 : ¬ (4096 : Int32) ≤ nI c := nI_ge (b := 4096) hc (by decide)
        have iv := sv c (by omega)
        rw [fwS_s]
        generalize fwS (acB (W.tn i) (W.lw j) k) (ltB (kcN (W.tn i) u)) c = s at *
        obtain ⟨b, has⟩ := s
        have hac : acB (W.tn i) (W.lw j) k c = (subB (W.tn i) k c && ridB (foe (W.tn i) (W.lw j) k 0 (bt 255) (clL (W.tn i) k)) c) := rfl
        have f59 : acB (W.tn i) (W.lw j) k c = true → g_X1_fewestWithout_59 (x + 96) u (l_X1_fewestWithout_7 (x + 96) u n) (nI b) (cond has (nI (kcN (W.tn i) u b)) (-1)) (nI c) (nI (kcN (W.tn i) u c)) m2 = l_X1_fewestWithout_7 (x + 96) u n (nI (cond (!has || ltB (kcN (W.tn i) u) c b) (c, true) (b, has)).1) (cond (cond (!has || ltB (kcN (W.tn i) u) c b) (c, true) (b, has)).2 (nI (kcN (W.tn i) u (cond (!has || ltB (kcN (W.tn i) u) c b) (c, true) (b, has)).1)) (-1)) (nI (c + 1)) m2 := by
          intro hc1
          have kc1 := kcN_le V u (acs c hc1)
          cases has with
          | false =>
            simp only [g_X1_fewestWithout_59, g_X1_fewestWithout_72, g_X1_fewestWithout_77, g_X1_fewestWithout_99, g_X1_fewestWithout_105, cond_false, cond_true, if_true, if_neg ne10, Bool.not_false, Bool.true_or, nI_1]
          | true =>
            obtain ⟨b1, b2, _⟩ := iv.2 rfl
            have b1 : b < c := b1
            have b2 : acB (W.tn i) (W.lw j) k b = true := b2
            have kb1 := kcN_le V u (acs b b2)
            have n1 : ¬ nI (kcN (W.tn i) u b) = -1 := nI_ne_m1 (by omega)
            have e1 : (nI (kcN (W.tn i) u b) ≤ nI (kcN (W.tn i) u c)) ↔ ¬ kcN (W.tn i) u c < kcN (W.tn i) u b := by rw [nI_leI (by omega) (by omega)]; omega
            have e2 : (nI (kcN (W.tn i) u c) = nI (kcN (W.tn i) u b)) ↔ kcN (W.tn i) u c = kcN (W.tn i) u b := ⟨nI_inj (by omega) (by omega), fun q => by rw [q]⟩
            simp only [g_X1_fewestWithout_59, g_X1_fewestWithout_72, g_X1_fewestWithout_77, g_X1_fewestWithout_99, g_X1_fewestWithout_105, cond_true, if_neg n1, e1, e2, if_true, if_neg ne10, Bool.not_true, Bool.false_or, c_isLesser (show c < 4096 by omega) (show b < 4096 by omega), chk_t, ck_sI, ck_sR, ck_sJ, cal_s, bnd_e, ifn_s, ifn_n, bI_0, nI_1]
            have hl : ltB (kcN (W.tn i) u) c b = (decide (kcN (W.tn i) u c < kcN (W.tn i) u b) || (decide (kcN (W.tn i) u c = kcN (W.tn i) u b) && lsB c b)) := rfl
            by_cases y1 : kcN (W.tn i) u c < kcN (W.tn i) u b
            · rw [decide_eq_true y1, Bool.true_or] at hl
              simp only [y1, not_true_eq_false, if_false, hl, cond_true]
            · rw [decide_eq_false y1, Bool.false_or] at hl
              by_cases y2 : kcN (W.tn i) u c = kcN (W.tn i) u b
              · rw [decide_eq_true y2, Bool.true_and] at hl
                rw [hl]
                simp only [y1, not_false_eq_true, if_true, y2]
                cases lsB c b with
                | true => simp [y2]
                | false => simp
              · rw [decide_eq_false y2, Bool.false_and] at hl
                simp only [y1, not_false_eq_true, if_true, if_neg y2, hl, cond_false, cond_true]
        have hcost : acB (W.tn i) (W.lw j) k c = true → f_X1_costOf (x + 96) (nI c) m2 = some (nI (csN (W.tn i) c), m2) := fun hc1 => c_costOf C2 (acs c hc1)
        simp only [g_X1_fewestWithout_7, g_X1_fewestWithout_105, if_neg z1, chk_t C2.1.2.2.2.1.1, C2.1.2.2.2.1.2.1, ck_s C2.1.th, C2.2.2.2.2.2.1, sub_iff (T := W.tn i) (d := k) hc, c_rids C2.1 F2 hc, chk_t, ck_sI, ck_sR, ck_sJ, cal_s, bnd_e, ifn_s, ifn_n, bI_0, nI_1]
        cases hs : subB (W.tn i) k c with
        | false =>
          rw [hs, Bool.false_and] at hac
          rw [hac]
          simp
        | true =>
          cases hr : ridB (foe (W.tn i) (W.lw j) k 0 (bt 255) (clL (W.tn i) k)) c with
          | false =>
            rw [hs, hr, Bool.true_and] at hac
            rw [hac]
            simp
          | true =>
            rw [hs, hr, Bool.true_and] at hac
            rw [hac, Bool.true_and, ← f59 hac]
            simp only [if_true, Bool.true_eq_false, if_false]
            by_cases hu : u = 0
            · have : kcN (W.tn i) u c = 0 := by unfold kcN; rw [if_pos hu]
              rw [if_pos hu, this]; rfl
            · have : kcN (W.tn i) u c = csN (W.tn i) c := by unfold kcN; rw [if_neg hu]
              rw [if_neg hu, this, hcost hac, cal_s]
      · show g_X1_fewestWithout_7 (x + 96) u (l_X1_fewestWithout_7 (x + 96) u n) (nI (fwS (acB (W.tn i) (W.lw j) k) (ltB (kcN (W.tn i) u)) 4096).1) (cond (fwS (acB (W.tn i) (W.lw j) k) (ltB (kcN (W.tn i) u)) 4096).2 (nI (kcN (W.tn i) u (fwS (acB (W.tn i) (W.lw j) k) (ltB (kcN (W.tn i) u)) 4096).1)) (-1)) (nI 4096) m2 = _
        simp only [g_X1_fewestWithout_7, if_pos (show (4096 : Int32) ≤ nI 4096 by decide), fwV]
    rw [key, cal_s]
  · simp only [f_X10_fewest, g_X10_fewest_0, chk_t h.M.1, chk_t, ck_sI, ck_sR, ck_sJ, cal_s, bnd_e, ifn_s, ifn_n, r_bring0 h.code ho, if_true]
  · subst e1; subst e2; subst e3
    have hnt := h.nt
    have V := h.V.1 i hi
    have N := h.nn hi
    have hB := (h.cl hj).n.2.2
    obtain ⟨m2, o2, f2, R, G, g⟩ := r_bb h.code hi hj hk
    have hL : (br0 (W.tn i) (W.lw j) k).length ≤ 1320 := barL_le hB
    refine ⟨m2, ?_, (fq_code x m).tr f2⟩
    obtain ⟨st, hst, est⟩ := lowN (p := mks (sB (W.tn i) k) 12) (fun z z1 z2 => by rw [bt_mks (by omega) z z2, decide_eq_false (by omega), Bool.false_and])
    have stb : ∀ z, z < 12 → st.testBit z = sB (W.tn i) k z := fun z hz => by
      have := congrArg (fun v => bt v z) est
      simp only [bt_mks (show 12 ≤ 32 by omega) z (show z < 32 by omega), bt_nI _ z (show z < 32 by omega), decide_eq_true hz, Bool.true_and] at this
      exact this.symm
    have hacst : acB (W.tn i) (W.lw j) k st = true := by
      unfold acB
      rw [Bool.and_eq_true, rid_iff]
      refine ⟨?_, fun a b ha hb hf => ?_⟩
      · unfold subB
        rw [Bool.not_eq_true', anyF]
        intro z hz
        rw [stb z hz]
        cases sB (W.tn i) k z <;> rfl
      · left
        rw [stb a ha]
        unfold foe at hf
        rw [Bool.and_eq_true, Bool.and_eq_true, Bool.and_eq_true] at hf
        exact hf.1.2.1
    have heq : fwV (W.tn i) (W.lw j) k u = nI (rfS (acB (W.tn i) (W.lw j) k) (ltB (kcN (W.tn i) u)) st 4096) := by
      unfold fwV
      rw [fold_eq (lt := ltB (kcN (W.tn i) u)) hst hacst (fun a b c ha hb hc => ltB_tr ha hb hc) (fun a ha => ltB_ir _ ha) (fun a b ha hb => ltB_tot ha hb)]
    have acs : ∀ c, acB (W.tn i) (W.lw j) k c = true → ∀ z, z < 12 → c.testBit z = true → z < (W.tn i).2.1 0 := fun c hc z hz hb => by
      unfold acB at hc
      rw [Bool.and_eq_true] at hc
      exact sB_n (sub_i hc.1 hz hb)
    rw [heq]
    simp only [f_X10_fewest, g_X10_fewest_0, chk_t h.M.1, chk_t, ck_sI, ck_sR, ck_sJ, cal_s, bnd_e, ifn_s, ifn_n, o2, if_neg ne10, chk_t g.M.1, R.2.2.2.2.2.2.2.1, est]
    have := lp_for (fun n s c => l_X10_fewest_26 (x + 106) (nI i) (nI j) (nI k) u n s c m2) (fun c => nI (rfS (acB (W.tn i) (W.lw j) k) (ltB (kcN (W.tn i) u)) st c)) 4096 (some (nI (rfS (acB (W.tn i) (W.lw j) k) (ltB (kcN (W.tn i) u)) st 4096), m2)) (fun c hc n => ?_) (fun n => ?_) (n := FU) (by unfold FU; omega)
    · exact this
    · show g_X10_fewest_26 (x + 106) (nI i) (nI j) (nI k) u (l_X10_fewest_26 (x + 106) (nI i) (nI j) (nI k) u n) _ (nI c) m2 = _
      have z1 : ¬ (4096 : Int32) ≤ nI c := nI_ge (b := 4096) hc (by decide)
      have iv := rfS_inv (ac := acB (W.tn i) (W.lw j) k) (lt := ltB (kcN (W.tn i) u)) (N := 4096) hst hacst (fun a b c ha hb hc => ltB_tr ha hb hc) (fun a ha => ltB_ir _ ha) c (by omega)
      show g_X10_fewest_26 (x + 106) (nI i) (nI j) (nI k) u (l_X10_fewest_26 (x + 106) (nI i) (nI j) (nI k) u n) _ (nI c) m2 = l_X10_fewest_26 (x + 106) (nI i) (nI j) (nI k) u n (nI (rfS (acB (W.tn i) (W.lw j) k) (ltB (kcN (W.tn i) u)) st (c + 1))) (nI (c + 1)) m2
      rw [rfS_s]
      generalize rfS (acB (W.tn i) (W.lw j) k) (ltB (kcN (W.tn i) u)) st c = b at *
      obtain ⟨b1, b2, _⟩ := iv
      have hac : acB (W.tn i) (W.lw j) k c = (subB (W.tn i) k c && ridB (foe (W.tn i) (W.lw j) k 0 (bt 255) (clL (W.tn i) k)) c) := rfl
      have kb1 := kcN_le V u (acs b b2)
      have kb2 := csN_le V (acs b b2)
      have o1 := onN_le c
      have o2' := onN_le b
      have f82 : ∀ (s0 : Int32), acB (W.tn i) (W.lw j) k c = true → s0 = nI (kcN (W.tn i) u c) - nI (kcN (W.tn i) u b) → g_X10_fewest_82 (x + 106) (nI i) (nI j) (nI k) u (l_X10_fewest_26 (x + 106) (nI i) (nI j) (nI k) u n) (nI b) (nI c) s0 m2 = l_X10_fewest_26 (x + 106) (nI i) (nI j) (nI k) u n (nI (cond (ltB (kcN (W.tn i) u) c b) c b)) (nI (c + 1)) m2 := by
        intro s0 hc1 hs0
        have kc1 := kcN_le V u (acs c hc1)
        have t0 : (0 : Int32).toInt = 0 := rfl
        have ts : s0.toInt = (kcN (W.tn i) u c : Int) - kcN (W.tn i) u b := by rw [hs0, i_sub (by rw [nI_toInt (by omega)]; omega) (by rw [nI_toInt (by omega)]; omega), nI_toInt (by omega), nI_toInt (by omega)]
        have ty : (nI (onN c) - nI (onN b)).toInt = (onN c : Int) - onN b := by rw [i_sub (by rw [nI_toInt (by omega)]; omega) (by rw [nI_toInt (by omega)]; omega), nI_toInt (by omega), nI_toInt (by omega)]
        have a1 : (s0 < 0) ↔ kcN (W.tn i) u c < kcN (W.tn i) u b := by rw [i_lt, ts, t0]; omega
        have a2 : (s0 = 0) ↔ kcN (W.tn i) u c = kcN (W.tn i) u b := by rw [i_eq, ts, t0]; omega
        have a3 : (nI (onN c) - nI (onN b) < 0) ↔ onN c < onN b := by rw [i_lt, ty, t0]; omega
        have a4 : (nI (onN c) - nI (onN b) = 0) ↔ onN c = onN b := by rw [i_eq, ty, t0]; omega
        simp only [g_X10_fewest_82, g_X10_fewest_127, g_X10_fewest_131, g_X10_fewest_132, g_X10_fewest_146, g_X10_fewest_148, r_ones, chk_t, ck_sI, ck_sR, ck_sJ, cal_s, bnd_e, ifn_s, ifn_n, a1, a2, a3, a4, r_isLessRow, bI_0, if_true, if_neg ne10, nI_1]
        have hl : ltB (kcN (W.tn i) u) c b = (decide (kcN (W.tn i) u c < kcN (W.tn i) u b) || (decide (kcN (W.tn i) u c = kcN (W.tn i) u b) && (decide (onN c < onN b) || (decide (onN c = onN b) && lrB c b)))) := rfl
        rw [hl]
        by_cases y1 : kcN (W.tn i) u c < kcN (W.tn i) u b
        · simp [y1]
        · by_cases y2 : kcN (W.tn i) u c = kcN (W.tn i) u b
          · by_cases y3 : onN c < onN b
            · simp [y2, y3]
            · by_cases y4 : onN c = onN b
              · cases lrB c b <;> simp [y2, y4]
              · simp [y2, y3, y4]
          · simp [y1, y2]
      have hfr := r_frees (k := c) g.M G hL (fun z hz => by
        obtain ⟨a, b, r, el, ha, hb, _⟩ := bar_ok hz
        have el' : lat (br0 (W.tn i) (W.lw j) k) z = (a, b, r) := el
        have := N.1
        rw [el']
        exact ⟨show a < 12 by omega, show b < 12 by omega⟩)
      rw [fr_rid hB N.1] at hfr
      simp only [g_X10_fewest_26, g_X10_fewest_148, if_neg z1, chk_t g.M.1, R.2.2.2.2.2.2.2.1, sub_iff (T := W.tn i) (d := k) hc, hfr, chk_t, ck_sI, ck_sR, ck_sJ, cal_s, bnd_e, ifn_s, ifn_n, bI_0, nI_1]
      cases hs : subB (W.tn i) k c with
      | false =>
        rw [hs, Bool.false_and] at hac
        rw [hac]
        simp
      | true =>
        cases hr : ridB (foe (W.tn i) (W.lw j) k 0 (bt 255) (clL (W.tn i) k)) c with
        | false =>
          rw [hs, hr, Bool.true_and] at hac
          rw [hac]
          simp
        | true =>
          rw [hs, hr, Bool.true_and] at hac
          rw [hac, Bool.true_and]
          simp only [if_true, Bool.true_eq_false, if_false]
          by_cases hu : u = 0
          · have y1 : kcN (W.tn i) u c = 0 := by unfold kcN; rw [if_pos hu]
            have y2 : kcN (W.tn i) u b = 0 := by unfold kcN; rw [if_pos hu]
            rw [if_pos hu, f82 0 hac (by rw [y1, y2]; rfl)]
          · have y1 : kcN (W.tn i) u c = csN (W.tn i) c := by unfold kcN; rw [if_neg hu]
            have y2 : kcN (W.tn i) u b = csN (W.tn i) b := by unfold kcN; rw [if_neg hu]
            rw [if_neg hu, r_costOf g.M (by omega) (g.rt hi) V N.1 (acs c hac), cal_s, r_costOf g.M (by omega) (g.rt hi) V N.1 (acs b b2), cal_s, f82 _ hac (by rw [y1, y2]), chk_t g.M.1]
    · show g_X10_fewest_26 (x + 106) (nI i) (nI j) (nI k) u (l_X10_fewest_26 (x + 106) (nI i) (nI j) (nI k) u n) _ (nI 4096) m2 = _
      simp only [g_X10_fewest_26, if_pos (show (4096 : Int32) ≤ nI 4096 by decide)]
