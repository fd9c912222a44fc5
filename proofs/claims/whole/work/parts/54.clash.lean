/-! both orders of two -/
theorem cutz_sw {ax ay bx by' fx fy tx ty : Int} (h : cutz ax ay bx by' fx fy tx ty) : cutz bx by' ax ay fx fy tx ty := by
  obtain ⟨h1, h2, h3⟩ := h
  refine ⟨by rw [sdz_sw ax ay bx by', sdz_sw ax ay bx by', z_neg2]; exact h1, by rw [Int.mul_comm]; exact h2, fun e1 e2 e3 e4 => ?_⟩
  rw [sdz_sw ax ay bx by'] at e1 e2
  rcases h3 (by omega) (by omega) e4 e3 with q | q | q
  · exact Or.inr (Or.inl q)
  · exact Or.inl q
  · exact Or.inr (Or.inr ⟨btw_sw.mp q.1, btw_sw.mp q.2⟩)
theorem cutN_sw (a b : BD) (fx fy tx ty : Nat) : cutN a b fx fy tx ty = cutN b a fx fy tx ty := by
  unfold cutN
  rw [Bool.eq_iff_iff, cutB_iff, cutB_iff]
  exact ⟨cutz_sw, cutz_sw⟩
theorem wlB_sw (T : TW) (d : Nat) (a b : BD) : wlB T d a b = wlB T d b a := by
  funext i
  unfold wlB cuT
  rw [cutN_sw]
theorem fnB_sw (T : TW) (a b : BD) : fnB T a b = fnB T b a := by
  funext i
  unfold fnB cuT
  rw [cutN_sw]
theorem clL_sw (T : TW) (d : Nat) (a b : BD) : clL T d a b = clL T d b a := by unfold clL; rw [wlB_sw]
theorem rfL_sw (T : TW) (d : Nat) (F : Int32) (a b : BD) : rfL T d F a b = rfL T d F b a := by
  unfold rfL
  have e : rwB T d F a b = rwB T d F b a := by funext k; unfold rwB; rw [wlB_sw, fnB_sw]
  rw [e]
/-- walls, or one of the fences thought of -/
theorem rfL_F {T : TW} (N : NT T) {d : Nat} {F : Int32} (hF : ∀ k, k < 6 → bt F k = true → k < T.2.1 2) (a b : BD) : rfL T d F a b = (clL T d a b || (List.range (T.2.1 2)).any (fun k => bt F k && fnB T a b k)) := by
  unfold rfL clL
  rw [Bool.eq_iff_iff, Bool.or_eq_true, anyT, anyT, Bool.not_eq_true', decide_eq_false_iff_not]
  constructor
  · intro h
    have h2 : ¬ ∀ k, k < 14 → rwB T d F a b k = false := fun q => h ((cntB_0 14).mpr q)
    have h3 : ∃ k, k < 14 ∧ rwB T d F a b k = true := by
      refine Classical.byContradiction (fun q => h2 (fun k hk => ?_))
      cases hr : rwB T d F a b k with
      | false => rfl
      | true => exact absurd ⟨k, hk, hr⟩ q
    obtain ⟨k, hk, hr⟩ := h3
    unfold rwB at hr
    by_cases k8 : k < 8
    · rw [if_pos k8, Bool.and_eq_true, decide_eq_true_eq] at hr
      exact Or.inl ⟨k, hr.1, hr.2⟩
    · rw [if_neg k8] at hr
      exact Or.inr ⟨k - 8, hF (k - 8) (by omega) (by rw [Bool.and_eq_true] at hr; exact hr.1), hr⟩
  · intro h hz
    have hz := (cntB_0 14).mp hz
    rcases h with ⟨k, hk, hr⟩ | ⟨k, hk, hr⟩
    · have := hz k (by have := N.2.1; omega)
      unfold rwB at this
      rw [if_pos (by have := N.2.1; omega), decide_eq_true hk, hr] at this
      exact absurd this (by decide)
    · have := hz (8 + k) (by have := N.2.2.1; omega)
      unfold rwB at this
      rw [if_neg (by omega), show 8 + k - 8 = k by omega] at this
      rw [this] at hr
      exact absurd hr (by decide)
theorem rfL_0 {T : TW} (N : NT T) (d : Nat) (a b : BD) : rfL T d 0 a b = clL T d a b := by
  rw [rfL_F N (fun k _ h => by rw [bt_0] at h; exact absurd h (by decide))]
  have : (List.range (T.2.1 2)).any (fun k => bt 0 k && fnB T a b k) = false := by
    rw [anyF]
    intro i _
    rw [bt_0]; rfl
  rw [this, Bool.or_false]
theorem baR_sw {T : TW} {B : LW} {w : Nat} {H : Nat → Bool} {L : BD → BD → Bool} {r : Nat} {a b : BD} (hL : L a b = L b a) (he : evR B r = true) (hk : a.k = b.k) : baR T B w H L r a b = baR T B w H L r b a := by
  have e1 : rch B r w a b = rch B r w b a := by unfold rch; congr 1; omega
  have e2 : soB T (B.2.2 r 0) H a b = soB T (B.2.2 r 0) H b a := by
    unfold evR at he
    rw [Bool.or_eq_true, decide_eq_true_eq, decide_eq_true_eq] at he
    unfold soB
    rcases he with q | q
    · rw [if_pos q, if_pos q]
    · have n0 : ¬ B.2.2 r 0 = 0 := by rw [q]; decide
      have n1 : ¬ B.2.2 r 0 = 1 := by rw [q]; decide
      have n2 : ¬ B.2.2 r 0 = 2 := by rw [q]; decide
      rw [if_neg n0, if_neg n1, if_neg n2, if_pos q, if_neg n0, if_neg n1, if_neg n2, if_pos q, Bool.and_comm]
  unfold baR
  rw [e1, e2, hL, dsq_c, hk]
theorem baR_congr {T : TW} {B : LW} {w : Nat} {H H' : Nat → Bool} {L L' : BD → BD → Bool} {r : Nat} {a b : BD} (hH : ∀ h, h < 8 → H h = H' h) (hL : L a b = L' a b) : baR T B w H L r a b = baR T B w H' L' r a b := by
  have e : cntB (fun h => H h && wdB T h ((b.x : Int) - a.x) ((b.y : Int) - a.y)) 8 = cntB (fun h => H' h && wdB T h ((b.x : Int) - a.x) ((b.y : Int) - a.y)) 8 := cntB_congr 8 (fun i hi => by rw [hH i hi])
  unfold baR soB
  rw [hL, e]
/-- a law bars two, but for a rule -/
def clB (T : TW) (B : LW) (w : Nat) (H : Nat → Bool) (L : BD → BD → Bool) (wo : Int32) (a b : BD) : Bool := (List.range B.2.1).any (fun r => !decide (nI r = wo) && (baR T B w H L r a b || baR T B w H L r b a))
theorem clB_sw (T : TW) (B : LW) (w : Nat) (H : Nat → Bool) (L : BD → BD → Bool) (wo : Int32) (a b : BD) : clB T B w H L wo a b = clB T B w H L wo b a := by
  unfold clB
  refine any_congr (fun r _ => ?_)
  rw [Bool.or_comm]
theorem clB_congr {T : TW} {B : LW} {w : Nat} {H H' : Nat → Bool} {L L' : BD → BD → Bool} {wo : Int32} {a b : BD} (hH : ∀ h, h < 8 → H h = H' h) (hL : L a b = L' a b) (hL2 : L b a = L' b a) : clB T B w H L wo a b = clB T B w H' L' wo a b := by
  unfold clB
  refine any_congr (fun r _ => ?_)
  rw [baR_congr hH hL, baR_congr hH hL2]
theorem c_clash {m : MM} {th t l p q d w : Nat} {T : TW} {B : LW} {ho wo : Int32} {a b : BD} (S : Sc m th t l T B d w ho wo) (V : VT T) (VB' : VL B) (hw : w ≤ 12) (ha : Bo m p a) (hb : Bo m q b) (va : VB a) (vb : VB b) : f_X5_clash th (some p) (some q) m = some (bI (clB T B w (bt ho) (clL T d) wo a b), m) := by
  have hn := S.2.2.2.2.1.n.2.2
  simp only [f_X5_clash, g_X5_clash_0, chk_t S.1, S.2.2.1, chk_t, ck_sI, ck_sR, ck_sJ, cal_s, bnd_e, ifn_s, ifn_n]
  have := lp_any (fun n i => l_X5_clash_11 th (some p) (some q) n i m) (fun r => !decide (nI r = wo) && (baR T B w (bt ho) (clL T d) r a b || baR T B w (bt ho) (clL T d) r b a)) (some (1, m)) (some (0, m)) B.2.1 (fun i hi n => ?_) (fun n => ?_) (n := FU) (by unfold FU; omega)
  · refine this.trans ?_
    rw [clB]
    cases (List.range B.2.1).any _ <;> rfl
  · show g_X5_clash_11 th (some p) (some q) (l_X5_clash_11 th (some p) (some q) n) (nI i) m = _
    have e1 : ¬ nI B.2.1 ≤ nI i := nI_ge hi (by omega)
    simp only [g_X5_clash_11, chk_t S.1, S.2.2.1, ck_s S.2.2.2.2.1.K, S.2.2.2.2.1.kr, S.2.2.2.2.1.n.1, if_neg e1, chk_t, ck_sI, ck_sR, ck_sJ, cal_s, bnd_e, ifn_s, ifn_n, c_barsTwo S V VB' hw ha hb va vb hi, c_barsTwo S V VB' hw hb ha vb va hi, bI_0, nI_1]
    by_cases k : nI i = wo
    · simp [k]
    · cases baR T B w (bt ho) (clL T d) i a b <;> cases baR T B w (bt ho) (clL T d) i b a <;> simp [k]
  · show g_X5_clash_11 th (some p) (some q) (l_X5_clash_11 th (some p) (some q) n) (nI B.2.1) m = _
    simp only [g_X5_clash_11, chk_t S.1, S.2.2.1, ck_s S.2.2.2.2.1.K, S.2.2.2.2.1.kr, S.2.2.2.2.1.n.1, if_pos (Int32.le_refl _)]
theorem r_barsBoth {m : MM} {y i j p q d w : Nat} {T : TW} {B : LW} {oh F : Int32} {a b : BD} (S : Rc m y i j T B d w oh F) (V : VT T) (N : NT T) (VB' : VL B) (hB : B.2.1 ≤ 10) (hd : d < 1000) (hw : w ≤ 12) (hp : p < 15) (hq : q < 15) (hpq : p ≠ q) (ha : Rg m y p T d a) (hb : Rg m y q T d b) (but : Int32) : f_X10_barsBoth y (nI j) (nI p) (nI q) but m = some (bI (clB T B w (ohB oh) (rfL T d F) but a b), m) := by
  show l_X10_barsBoth_3 y (nI j) (nI p) (nI q) but FU 0 m = _
  have hrl : m.I 22 (y + 29) j = nI B.2.1 := S.2.2.2.2.2.2.2.2.2.2.1
  have hj : j < 3 := S.2.2.2.2.2.2.2.2.2.1
  have := lp_any (fun n i => l_X10_barsBoth_3 y (nI j) (nI p) (nI q) but n i m) (fun r => !decide (nI r = but) && (baR T B w (ohB oh) (rfL T d F) r a b || baR T B w (ohB oh) (rfL T d F) r b a)) (some (1, m)) (some (0, m)) B.2.1 (fun r hr n => ?_) (fun n => ?_) (n := FU) (by unfold FU; omega)
  · refine this.trans ?_
    rw [clB]
    cases (List.range B.2.1).any _ <;> rfl
  · show g_X10_barsBoth_3 y (nI j) (nI p) (nI q) but (l_X10_barsBoth_3 y (nI j) (nI p) (nI q) but n) (nI r) m = _
    have e1 : ¬ nI B.2.1 ≤ nI r := nI_ge hr (by omega)
    simp only [g_X10_barsBoth_3, g_X10_barsBoth_47, chk_t S.1.1, S.1.c1129, S.1.n1129, chk_t (inb_nI (show j < 12 by omega) (by decide)), cl_nI (show j < 2 ^ 31 by omega), hrl, if_neg e1, chk_t, ck_sI, ck_sR, ck_sJ, cal_s, bnd_e, ifn_s, ifn_n, r_barsBy S V N VB' hB hd hw hp hq ha hb hr, r_barsBy S V N VB' hB hd hw hq hp hb ha hr, bI_0, nI_1, decide_eq_false hpq, decide_eq_false (Ne.symm hpq)]
    by_cases k : nI r = but
    · simp [k]
    · rw [if_neg k, decide_eq_false k]
      by_cases he : evR B r = true ∧ a.k = b.k
      · have sy := baR_sw (T := T) (w := w) (H := ohB oh) (L := rfL T d F) (rfL_sw T d F a b) he.1 he.2
        rw [sy, he.1, he.2]
        rcases Nat.lt_or_gt_of_ne hpq with g | g
        · rw [decide_eq_false (show ¬ q < p by omega), decide_eq_true (show p < q by omega)]
          cases baR T B w (ohB oh) (rfL T d F) r b a <;> simp
        · rw [decide_eq_true (show q < p by omega), decide_eq_false (show ¬ p < q by omega)]
          cases baR T B w (ohB oh) (rfL T d F) r b a <;> simp
      · have hx : ∀ c : Bool, (evR B r && decide (a.k = b.k) && c) = false := by
          intro c
          cases he1 : evR B r with
          | false => rfl
          | true =>
            have : ¬ a.k = b.k := fun q => he ⟨he1, q⟩
            rw [decide_eq_false this]; rfl
        have hx' : ∀ c : Bool, (evR B r && decide (b.k = a.k) && c) = false := by
          intro c
          cases he1 : evR B r with
          | false => rfl
          | true =>
            have : ¬ b.k = a.k := fun q => he ⟨he1, q.symm⟩
            rw [decide_eq_false this]; rfl
        rw [hx, hx']
        cases baR T B w (ohB oh) (rfL T d F) r a b <;> cases baR T B w (ohB oh) (rfL T d F) r b a <;> simp
  · show g_X10_barsBoth_3 y (nI j) (nI p) (nI q) but (l_X10_barsBoth_3 y (nI j) (nI p) (nI q) but n) (nI B.2.1) m = _
    simp only [g_X10_barsBoth_3, chk_t S.1.1, S.1.c1129, S.1.n1129, chk_t (inb_nI (show j < 12 by omega) (by decide)), cl_nI (show j < 2 ^ 31 by omega), hrl, if_pos (Int32.le_refl _)]
