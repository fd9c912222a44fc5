/-! fenced -/
def fmN (T : TW) (a b : BD) : Nat := (mks (fnB T a b) (T.2.1 2)).toBitVec.toNat
theorem fm_tb {T : TW} (h : T.2.1 2 ≤ 6) (a b : BD) (i : Nat) : (fmN T a b).testBit i = (decide (i < T.2.1 2) && fnB T a b i) := by
  rcases Nat.lt_or_ge i 32 with q | q
  · exact bt_mks (show T.2.1 2 ≤ 32 by omega) i q
  · rw [decide_eq_false (by omega), Bool.false_and]
    exact BitVec.getLsbD_of_ge _ i q
theorem fm_e (T : TW) (a b : BD) : mks (fnB T a b) (T.2.1 2) = nI (fmN T a b) := by
  apply bt_ext
  intro i hi
  rw [bt_nI _ i hi]
  rfl
theorem fm_lt {T : TW} (h : T.2.1 2 ≤ 6) (a b : BD) : fmN T a b < 64 := by
  apply Nat.lt_pow_two_of_testBit (n := 6)
  intro i hi
  rw [fm_tb h, decide_eq_false (by omega), Bool.false_and]
def askN (T : TW) (B : LW) (d : Nat) (e : B3) : Nat := cond (decide (B.2.2 e.2.2 4 = 1)) (fmN T (bdy T d e.1) (bdy T d e.2.1)) 0
theorem ask_lt {T : TW} (h : T.2.1 2 ≤ 6) (B : LW) (d : Nat) (e : B3) : askN T B d e < 64 := by
  unfold askN
  cases decide (B.2.2 e.2.2 4 = 1)
  · exact (by decide : 0 < 64)
  · exact fm_lt h _ _
def mtB (T : TW) (B : LW) (d F : Nat) : Bool := !(List.range (br0 T B d).length).any (fun c => decide ((askN T B d (lat (br0 T B d) c) &&& F) = 0))
def noB (T : TW) (B : LW) (d : Nat) : Bool := (List.range (br0 T B d).length).any (fun c => decide (askN T B d (lat (br0 T B d) c) = 0))
def fcV (T : TW) (B : LW) (d : Nat) : Int32 := cond (noB T B d) (-1) (nI (rfS (mtB T B d) (ltB (fun _ => 0)) 63 64))
theorem ltB0 (a b : Nat) : ltB (fun _ => 0) a b = lsB a b := by
  simp [ltB]
theorem cnt_lt {P Q : Nat → Bool} (h : ∀ i, P i = true → Q i = true) : ∀ n, cntB P n ≤ cntB Q n ∧ ∀ i, i < n → Q i = true → P i = false → cntB P n < cntB Q n
  | 0 => ⟨Nat.le_refl 0, fun i hi => by omega⟩
  | n + 1 => by
    obtain ⟨h1, h2⟩ := cnt_lt h n
    rw [cntB_s, cntB_s]
    have hb : bN (P n) ≤ bN (Q n) := by
      cases hP : P n with
      | false => exact Nat.zero_le _
      | true => rw [h n hP]; exact Nat.le_refl _
    refine ⟨by omega, fun i hi hq hp => ?_⟩
    by_cases z : i = n
    · subst z
      rw [hq, hp, bN_t, bN_f]
      omega
    · have := h2 i (by omega) hq hp
      omega
theorem land0 {a b : Nat} : (a &&& b = 0) ↔ ∀ i, (a.testBit i && b.testBit i) = false := by
  constructor
  · intro h i
    rw [← Nat.testBit_and, h, Nat.zero_testBit]
  · intro h
    apply Nat.eq_of_testBit_eq
    intro i
    rw [Nat.testBit_and, h i, Nat.zero_testBit]
theorem mt_iff {T : TW} {B : LW} {d F : Nat} : mtB T B d F = true ↔ ∀ c, c < (br0 T B d).length → askN T B d (lat (br0 T B d) c) &&& F ≠ 0 := by
  unfold mtB
  rw [Bool.not_eq_true', anyF]
  constructor
  · intro h c hc
    have := h c hc
    rw [decide_eq_false_iff_not] at this
    exact this
  · intro h c hc
    rw [decide_eq_false_iff_not]
    exact h c hc
theorem tb_md (b n i : Nat) : (b % 2 ^ n).testBit i = (decide (i < n) && b.testBit i) := Nat.testBit_mod_two_pow b n i
theorem fc_r {T : TW} {B : LW} {d : Nat} (h6 : T.2.1 2 ≤ 6) : fcV T B d = cond (fwS (mtB T B d) (ltB (fun _ => 0)) (2 ^ T.2.1 2)).2 (nI (fwS (mtB T B d) (ltB (fun _ => 0)) (2 ^ T.2.1 2)).1) (-1) := by
  have hN : 2 ^ T.2.1 2 ≤ 64 := Nat.pow_le_pow_right (n := 2) (by omega) h6
  have tr : ∀ a b c, a < 4096 → b < 4096 → c < 4096 → ltB (fun _ => 0) a b = true → ltB (fun _ => 0) b c = true → ltB (fun _ => 0) a c = true := fun a b c ha hb hc => ltB_tr ha hb hc
  obtain ⟨f1, f2⟩ := fwS_inv (ac := mtB T B d) (lt := ltB (fun _ => 0)) (N := 2 ^ T.2.1 2) (fun a b c ha hb hc => tr a b c (by omega) (by omega) (by omega)) (fun a ha => ltB_ir _ (by omega)) (2 ^ T.2.1 2) (Nat.le_refl _)
  unfold fcV
  cases hno : noB T B d with
  | true =>
    obtain ⟨c, hc, h0⟩ := anyT.mp hno
    rw [decide_eq_true_eq] at h0
    cases hh : (fwS (mtB T B d) (ltB (fun _ => 0)) (2 ^ T.2.1 2)).2 with
    | false => rfl
    | true =>
      have := mt_iff.mp (f2 hh).2.1 c hc
      rw [h0, Nat.zero_and] at this
      exact absurd rfl this
  | false =>
    have hall : ∀ c, c < (br0 T B d).length → askN T B d (lat (br0 T B d) c) ≠ 0 := fun c hc => by
      have := anyF.mp hno c hc
      rw [decide_eq_false_iff_not] at this
      exact this
    have m63 : mtB T B d 63 = true := mt_iff.mpr (fun c hc => by
      have hl := ask_lt h6 B d (lat (br0 T B d) c)
      have : askN T B d (lat (br0 T B d) c) &&& 63 = askN T B d (lat (br0 T B d) c) := by
        rw [show (63 : Nat) = 2 ^ 6 - 1 from rfl, Nat.and_two_pow_sub_one_eq_mod]
        exact Nat.mod_eq_of_lt hl
      rw [this]
      exact hall c hc)
    obtain ⟨r1, r2, r3⟩ := rfS_inv (ac := mtB T B d) (lt := ltB (fun _ => 0)) (N := 64) (st := 63) (by omega) m63 (fun a b c ha hb hc => tr a b c (by omega) (by omega) (by omega)) (fun a ha => ltB_ir _ (by omega)) 64 (Nat.le_refl _)
    generalize rfS (mtB T B d) (ltB (fun _ => 0)) 63 64 = bc at *
    have hbc : bc < 2 ^ T.2.1 2 := by
      refine Classical.byContradiction (fun hge => ?_)
      have hge : 2 ^ T.2.1 2 ≤ bc := by omega
      have hlt : bc % 2 ^ T.2.1 2 < 2 ^ T.2.1 2 := Nat.mod_lt _ (Nat.pow_pos (by omega))
      have hmt : mtB T B d (bc % 2 ^ T.2.1 2) = true := mt_iff.mpr (fun c hc q => mt_iff.mp r2 c hc (land0.mpr (fun i => by
        have := land0.mp q i
        rw [tb_md] at this
        by_cases z : i < T.2.1 2
        · rw [decide_eq_true z, Bool.true_and] at this
          exact this
        · have e : (askN T B d (lat (br0 T B d) c)).testBit i = false := by
            unfold askN
            cases decide (B.2.2 (lat (br0 T B d) c).2.2 4 = 1)
            · exact Nat.zero_testBit i
            · show (fmN _ _ _).testBit i = false
              rw [fm_tb h6, decide_eq_false z]; rfl
          rw [e]; rfl)))
      obtain ⟨i, hi, hbi⟩ : ∃ i, T.2.1 2 ≤ i ∧ bc.testBit i = true := by
        refine Classical.byContradiction (fun q => ?_)
        have : bc < 2 ^ T.2.1 2 := Nat.lt_pow_two_of_testBit bc (fun i hi => by
          cases z : bc.testBit i with
          | false => rfl
          | true => exact absurd ⟨i, hi, z⟩ q)
        omega
      have hi12 : i < 12 := by
        rcases Nat.lt_or_ge i 12 with z | z
        · exact z
        · rw [tb_hi (by omega) z] at hbi; cases hbi
      have hon : onN (bc % 2 ^ T.2.1 2) < onN bc := (cnt_lt (P := fun i => (bc % 2 ^ T.2.1 2).testBit i) (Q := fun i => bc.testBit i) (fun j hj => by rw [tb_md, Bool.and_eq_true] at hj; exact hj.2) 12).2 i hi12 hbi (by rw [tb_md, decide_eq_false (by omega)]; rfl)
      have := r3 (bc % 2 ^ T.2.1 2) (by omega) hmt
      have h2 : ltB (fun _ => 0) (bc % 2 ^ T.2.1 2) bc = true := (ltB_iff (by omega) (by omega)).mpr (.inr ⟨rfl, .inl hon⟩)
      rw [this] at h2; cases h2
    have hh : (fwS (mtB T B d) (ltB (fun _ => 0)) (2 ^ T.2.1 2)).2 = true := by
      cases q : (fwS (mtB T B d) (ltB (fun _ => 0)) (2 ^ T.2.1 2)).2 with
      | true => rfl
      | false => rw [f1 q bc hbc] at r2; cases r2
    obtain ⟨c1, c2, c3⟩ := f2 hh
    rw [hh]
    simp only [cond_true, cond_false]
    rw [ltB_tot (kc := fun _ => 0) (show bc < 4096 by omega) (show (fwS (mtB T B d) (ltB (fun _ => 0)) (2 ^ T.2.1 2)).1 < 4096 by omega) (c3 bc hbc r2) (r3 _ (by omega) c2)]
/-- no bar is left behind a set of fences -/
theorem fc_bars {T : TW} {B : LW} {d F : Nat} (N : NT T) (V : VL B) (hF : F < 2 ^ T.2.1 2) : (barL T B d 0 (ohB (-1)) (rfL T d (nI F))).length = 0 ↔ mtB T B d F = true := by
  have h6 : T.2.1 2 ≤ 6 := N.2.2.1
  have hN : 2 ^ T.2.1 2 ≤ 64 := Nat.pow_le_pow_right (n := 2) (by omega) h6
  have hFb : ∀ k, F.testBit k = true → k < T.2.1 2 := fun k hk => by
    rcases Nat.lt_or_ge k (T.2.1 2) with z | z
    · exact z
    · have : F.testBit k = false := Nat.testBit_lt_two_pow (Nat.lt_of_lt_of_le hF (Nat.pow_le_pow_right (n := 2) (by omega) z))
      rw [this] at hk; cases hk
  have hrf : ∀ a b, rfL T d (nI F) a b = (clL T d a b || (List.range (T.2.1 2)).any (fun k => F.testBit k && fnB T a b k)) := fun a b => by
    rw [rfL_F N (fun k hk hb => hFb k (by rw [bt_nI _ k (by omega)] at hb; exact hb))]
    congr 1
    refine any_congr (fun k hk => ?_)
    rw [bt_nI _ k (by omega)]
  have com : ∀ a b r, baR T B 0 (ohB (-1)) (rfL T d (nI F)) r a b = ((decide (nI a.k = B.2.2 r 1) && decide (nI b.k = B.2.2 r 2) && decide (dsq a b < rch B r 0 a b * rch B r 0 a b) && soB T (B.2.2 r 0) (ohB (-1)) a b) && (decide (B.2.2 r 4 = 0) || !rfL T d (nI F) a b)) := fun a b r => rfl
  have com0 : ∀ a b r, baR T B 0 (bt 255) (clL T d) r a b = ((decide (nI a.k = B.2.2 r 1) && decide (nI b.k = B.2.2 r 2) && decide (dsq a b < rch B r 0 a b * rch B r 0 a b) && soB T (B.2.2 r 0) (ohB (-1)) a b) && (decide (B.2.2 r 4 = 0) || !clL T d a b)) := fun a b r => by
    rw [baR_congr (H' := ohB (-1)) (L' := clL T d) (fun h hh => by rw [ohB_m, bt_255 h hh]) rfl]
    rfl
  unfold barL
  rw [aL_len0, mt_iff]
  constructor
  · intro h c hc q
    obtain ⟨a, b, r, el, ha, hb, hab, hr, hP⟩ := bar_ok hc
    have el : lat (br0 T B d) c = (a, b, r) := el
    have hn := N.1
    have h2 := h a b r (by omega) (by omega) hr
    unfold barP at hP h2
    rw [Bool.and_eq_true] at hP
    rw [hP.1, Bool.true_and, com] at h2
    have h3 := hP.2
    rw [com0, Bool.and_eq_true] at h3
    rw [h3.1, Bool.true_and, Bool.or_eq_false_iff, decide_eq_false_iff_not, Bool.not_eq_false', hrf, Bool.or_eq_true] at h2
    obtain ⟨w0, h2⟩ := h2
    have w1 : B.2.2 r 4 = 1 := ((V.2.2.2 r hr).2.2.2.2).resolve_left w0
    have h4 := h3.2
    rw [decide_eq_false w0, Bool.false_or, Bool.not_eq_true'] at h4
    rw [h4] at h2
    obtain ⟨k, hk, hf⟩ := anyT.mp (h2.resolve_left (by decide))
    rw [Bool.and_eq_true] at hf
    rw [el] at q
    have := land0.mp q k
    unfold askN at this
    rw [show decide (B.2.2 (a, b, r).2.2 4 = 1) = true from decide_eq_true w1, cond_true, fm_tb h6, decide_eq_true hk, hf.1] at this
    have hf2 : fnB T (bdy T d (a, b, r).1) (bdy T d (a, b, r).2.1) k = true := hf.2
    rw [hf2] at this
    cases this
  · intro h a b r ha hb hr
    cases hP : barP T B d 0 (ohB (-1)) (rfL T d (nI F)) a b r with
    | false => rfl
    | true =>
      unfold barP at hP
      rw [Bool.and_eq_true] at hP
      obtain ⟨p1, hP⟩ := hP
      rw [com, Bool.and_eq_true] at hP
      obtain ⟨p2, p3⟩ := hP
      rw [Bool.or_eq_true, Bool.not_eq_true', hrf, Bool.or_eq_false_iff] at p3
      have hP0 : barP T B d 0 (bt 255) (clL T d) a b r = true := by
        unfold barP
        rw [p1, Bool.true_and, com0, p2, Bool.true_and, Bool.or_eq_true, Bool.not_eq_true']
        rcases p3 with z | z
        · exact .inl z
        · exact .inr z.1
      obtain ⟨c, hc, el⟩ := mem_lat (aL_mem (e := (a, b, r)).mpr ⟨ha, hb, hr, hP0⟩)
      have el : lat (br0 T B d) c = (a, b, r) := el
      refine absurd ?_ (h c hc)
      rw [el]
      refine land0.mpr (fun i => ?_)
      unfold askN
      by_cases w1 : B.2.2 r 4 = 1
      · rw [show decide (B.2.2 (a, b, r).2.2 4 = 1) = true from decide_eq_true w1, cond_true, fm_tb h6]
        have w0 : ¬ B.2.2 r 4 = 0 := by rw [w1]; decide
        rcases p3 with z | z
        · rw [decide_eq_true_eq] at z; exact absurd z w0
        · by_cases hi : i < T.2.1 2
          · have := anyF.mp z.2 i hi
            rw [decide_eq_true hi, Bool.true_and]
            rw [Bool.and_comm]
            exact this
          · rw [decide_eq_false hi]; rfl
      · rw [show decide (B.2.2 (a, b, r).2.2 4 = 1) = false from decide_eq_false w1, cond_false, Nat.zero_testBit]; rfl
theorem sh_n : ∀ n, n ≤ 6 → (1 : Int32) <<< (nI n &&& 31) = nI (2 ^ n) := by decide
theorem and_n (a b : Nat) : nI a &&& nI b = nI (a &&& b) := by
  apply bt_ext
  intro i hi
  rw [bt_and, bt_nI _ i hi, bt_nI _ i hi, bt_nI _ i hi, Nat.testBit_and]
section FEN
variable {m : MM} {x t l d : Nat} {T : TW} {B : LW}
theorem c_fencesFor (C : CS m x t l T B d 0 255 (-1)) (F : FcL m x (br0 T B d)) {c : Nat} (hc : c < (br0 T B d).length) : f_X1_fencesFor (x + 96) (nI c) m = some (nI (askN T B d (lat (br0 T B d) c)), m) := by
  have hn := C.2.1.2.2.2.1.n0.2.2
  have cl := C.2.1.2.2.2.2.1
  have hB := cl.n.2.2
  have ct := C.2.1.2.2.2.1
  have hL : (br0 T B d).length ≤ 1320 := barL_le hB
  obtain ⟨a, b, r, el, ha, hb, hab, hr, hP⟩ := bar_ok hc
  have el : lat (br0 T B d) c = (a, b, r) := el
  rw [el]
  have bA := C.2.2.2.2.2.2.1 a ha
  have bB := C.2.2.2.2.2.2.1 b hb
  have vA := bdy_v C.2.2.1 ha d
  have vB := bdy_v C.2.2.1 hb d
  have hask : askN T B d (a, b, r) = cond (decide (B.2.2 r 4 = 1)) (fmN T (bdy T d a) (bdy T d b)) 0 := rfl
  rw [hask]
  have fb : f_X5_fencesBetween (x + 81) (some (x + 83 + a)) (some (x + 83 + b)) m = some (nI (fmN T (bdy T d a) (bdy T d b)), m) := by
    simp only [g_X5_fencesBetween_0, f_X5_fencesBetween, chk_t C.1.th, chk_t, ck_sI, ck_sR, ck_sJ, cal_s, bnd_e, ifn_s, ifn_n, C.2.1.2.1, chk_t ct.K, ct.R6, c_fences (th := x + 81) ct C.2.2.1 bA bB vA vB, fm_e]
  simp only [f_X1_fencesFor, g_X1_fencesFor_0, chk_t C.1.2.2.2.1.1, C.1.2.2.2.1.2.1, ck_s C.1.th, chk_t C.1.th, chk_t, ck_sI, ck_sR, ck_sJ, cal_s, bnd_e, ifn_s, ifn_n, C.2.1.2.2.1, chk_t cl.K, c_ruleOf C.1 F hL hc el (show a < 12 by omega) (show b < 12 by omega) (show r < 10 by omega), cl.kr, cl.cell_4 hr, c_firstOf C.1 F hL hc el (show a < 12 by omega) (show b < 12 by omega) (show r < 10 by omega), c_secondOf C.1 F hL hc el (show a < 12 by omega) (show b < 12 by omega) (show r < 10 by omega), c_body C.1 (show a < 12 by omega), c_body C.1 (show b < 12 by omega), fb]
  by_cases z : B.2.2 r 4 = 1
  · rw [if_pos z, decide_eq_true z, cond_true]
  · rw [if_neg z, decide_eq_false z, cond_false]; rfl
theorem c_meetsAll {as : Nat → Bool} (hS : Sh m x) (hA : ∀ q, q < 64 → m.I 24 (x + 98) q = bI (as q)) {F : Nat} (hF : F < 64) : f_X1_meetsAll (x + 96) (nI F) m = some (bI (!(List.range 64).any (fun q => as q && decide ((q &&& F) = 0))), m) := by
  have r0 : m.R 202 (x + 96) 0 = some (x + 98) ∧ m.K (x + 98) = 24 ∧ m.N (x + 98) = 64 := ⟨hS.2.2.2.1.2.2.2.1, hS.2.2.2.1.2.2.2.2.2.2.1, hS.2.2.2.1.2.2.2.2.2.2.2⟩
  have := lp_any (fun n q => l_X1_meetsAll_2 (x + 96) (nI F) n q m) (fun q => as q && decide ((q &&& F) = 0)) (some (0, m)) (some (1, m)) 64 (fun q hq n => ?_) (fun n => ?_) (n := FU) (by unfold FU; omega)
  · refine this.trans ?_
    cases (List.range 64).any _ <;> rfl
  · show g_X1_meetsAll_2 (x + 96) (nI F) (l_X1_meetsAll_2 (x + 96) (nI F) n) (nI q) m = _
    have e1 : ¬ nI 64 ≤ nI q := nI_ge hq (by decide)
    have hlt : q &&& F < 64 := Nat.and_lt_two_pow (n := 6) q hF
    have e2 : (nI (q &&& F) = 0) ↔ (q &&& F) = 0 := ⟨fun z => nI_inj (b := 0) (by omega) (by decide) z, fun z => by rw [z]; rfl⟩
    simp only [g_X1_meetsAll_2, g_X1_meetsAll_28, chk_t hS.2.2.2.1.1, r0.1, ck_s r0.2.1, r0.2.2, ofN, if_neg e1, chk_t (inb_nI hq (by decide)), cl_nI (show q < 2 ^ 31 by omega), hA q hq, bI_0, and_n, e2, nI_1]
    cases as q with
    | false => simp
    | true => by_cases z : (q &&& F) = 0 <;> simp [z]
  · show g_X1_meetsAll_2 (x + 96) (nI F) (l_X1_meetsAll_2 (x + 96) (nI F) n) (nI 64) m = _
    simp only [g_X1_meetsAll_2, chk_t hS.2.2.2.1.1, r0.1, ck_s r0.2.1, r0.2.2, ofN, if_pos (Int32.le_refl _)]
end FEN
