/-! sets of things, and which is the lesser -/
theorem sh1 (p : Int32) {i : Nat} (h : i < 32) : (p >>> (nI i &&& 31)) &&& 1 = nI (bN (bt p i)) := by
  have q := bt_q p h
  rw [an_1] at q
  apply bt_ext
  intro j hj
  have e : bt 1 j = decide (j = 0) := by revert j; decide
  rw [bt_and, e]
  by_cases z : j = 0
  · subst z
    generalize bt (p >>> (nI i &&& 31)) 0 = u at *
    generalize bt p i = v at *
    cases u <;> cases v <;> first | rfl | (simp at q)
  · rw [decide_eq_false z, Bool.and_false]
    cases bt p i
    · exact (bt_0 j).symm
    · show false = bt 1 j
      rw [e, decide_eq_false z]
def onN (a : Nat) : Nat := cntB (fun i => a.testBit i) 12
def tzN (s : Nat) : Nat := cntB (fun i => decide (s % 2 ^ (i + 1) = 0)) 12
def lowK (s : Nat) : Prop := s = 0 ∨ (nI s &&& -(nI s) = 1 <<< nI (tzN s) ∧ tzN s < 12 ∧ s.testBit (tzN s) = true ∧ ∀ j, j < tzN s → s.testBit j = false)
theorem lowK_a : ∀ a, a < 64 → ∀ b, b < 64 → (64 * a + b = 0 ∨ (nI (64 * a + b) &&& -(nI (64 * a + b)) = 1 <<< nI (tzN (64 * a + b)) ∧ tzN (64 * a + b) < 12 ∧ (64 * a + b).testBit (tzN (64 * a + b)) = true ∧ ∀ j, j < tzN (64 * a + b) → (64 * a + b).testBit j = false)) := by decide +kernel
theorem lowK_k {s : Nat} (h : s < 4096) : lowK s := by
  have := lowK_a (s / 64) (by omega) (s % 64) (by omega)
  rw [show 64 * (s / 64) + s % 64 = s by omega] at this
  exact this
def LR (a b : Nat) : Prop := ∃ i, i < 12 ∧ (∀ j, j < i → a.testBit j = b.testBit j) ∧ a.testBit i = true ∧ b.testBit i = false
def lrB (a b : Nat) : Bool := !decide ((nI a &&& (nI a ^^^ nI b)) &&& (-(nI a ^^^ nI b)) = 0)
theorem xr_n (a b : Nat) : nI a ^^^ nI b = nI (a ^^^ b) := by
  apply bt_ext
  intro i hi
  rw [bt_xor, bt_nI _ i hi, bt_nI _ i hi, bt_nI _ i hi, Nat.testBit_xor]
theorem xr_lt {a b : Nat} (ha : a < 4096) (hb : b < 4096) : a ^^^ b < 4096 := Nat.xor_lt_two_pow (n := 12) ha hb
theorem xr_0 {a b : Nat} (h : a ^^^ b = 0) : a = b := by
  apply Nat.eq_of_testBit_eq
  intro i
  have := congrArg (fun z => Nat.testBit z i) h
  simp only [Nat.testBit_xor, Nat.zero_testBit] at this
  revert this
  cases a.testBit i <;> cases b.testBit i <;> simp
theorem and_1b (p : Int32) {t : Nat} (ht : t < 32) : (p &&& (1 <<< nI t) = 0) ↔ bt p t = false := by
  constructor
  · intro h
    have := congrArg (fun z => bt z t) h
    simp only [bt_and, bt_1' ht ht, bt_0, decide_true, Bool.and_true] at this
    exact this
  · intro h
    apply bt_ext
    intro j hj
    rw [bt_and, bt_1' ht hj, bt_0]
    by_cases z : j = t
    · rw [z, h]; rfl
    · rw [decide_eq_false z, Bool.and_false]
theorem lr_iff {a b : Nat} (ha : a < 4096) (hb : b < 4096) : lrB a b = true ↔ LR a b := by
  unfold lrB
  rw [Bool.not_eq_true', decide_eq_false_iff_not, xr_n, Int32.and_assoc]
  rcases lowK_k (xr_lt ha hb) with h | ⟨h1, h2, h3, h4⟩
  · have e := xr_0 h
    subst e
    rw [h]
    constructor
    · intro q
      exact absurd (bt_ext (fun i hi => by rw [bt_and, bt_and, bt_0]; show (_ && (bt 0 i && _)) = false; rw [bt_0]; simp)) q
    · rintro ⟨i, _, _, q1, q2⟩
      rw [q1] at q2; cases q2
  · rw [h1, and_1b _ (by omega), bt_nI _ _ (by omega)]
    generalize tzN (a ^^^ b) = t at *
    rw [Nat.testBit_xor] at h3
    have h4' : ∀ j, j < t → a.testBit j = b.testBit j := fun j hj => by
      have := h4 j hj
      rw [Nat.testBit_xor] at this
      revert this
      cases a.testBit j <;> cases b.testBit j <;> simp
    constructor
    · intro q
      have qa : a.testBit t = true := by
        cases z : a.testBit t with
        | true => rfl
        | false => exact absurd z q
      refine ⟨t, h2, h4', qa, ?_⟩
      rw [qa] at h3
      revert h3
      cases b.testBit t <;> simp
    · rintro ⟨i, hi, q1, q2, q3⟩
      have : i = t := by
        rcases Nat.lt_trichotomy i t with z | z | z
        · have := h4' i z
          rw [q2, q3] at this; cases this
        · exact z
        · rw [q1 t z] at h3
          simp at h3
      subst this
      rw [q2]; decide
theorem LR.tr {a b c : Nat} (h1 : LR a b) (h2 : LR b c) : LR a c := by
  obtain ⟨i, hi, i1, i2, i3⟩ := h1
  obtain ⟨j, hj, j1, j2, j3⟩ := h2
  rcases Nat.lt_trichotomy i j with z | z | z
  · exact ⟨i, hi, fun k hk => (i1 k hk).trans (j1 k (by omega)), i2, by rw [← j1 i z]; exact i3⟩
  · subst z; rw [i3] at j2; cases j2
  · exact ⟨j, hj, fun k hk => (i1 k (by omega)).trans (j1 k hk), by rw [i1 j z]; exact j2, j3⟩
theorem LR.tot {a b : Nat} (ha : a < 4096) (hb : b < 4096) (h : a ≠ b) : LR a b ∨ LR b a := by
  rcases lowK_k (xr_lt ha hb) with q | ⟨_, h2, h3, h4⟩
  · exact absurd (xr_0 q) h
  · generalize tzN (a ^^^ b) = t at *
    rw [Nat.testBit_xor] at h3
    have h4' : ∀ j, j < t → a.testBit j = b.testBit j := fun j hj => by
      have := h4 j hj
      rw [Nat.testBit_xor] at this
      revert this
      cases a.testBit j <;> cases b.testBit j <;> simp
    cases qa : a.testBit t with
    | true =>
      refine .inl ⟨t, h2, h4', qa, ?_⟩
      rw [qa] at h3
      revert h3
      cases b.testBit t <;> simp
    | false =>
      refine .inr ⟨t, h2, fun j hj => (h4' j hj).symm, ?_, qa⟩
      rw [qa] at h3
      revert h3
      cases b.testBit t <;> simp
def lsB (a b : Nat) : Bool := decide (onN a < onN b) || (decide (onN a = onN b) && lrB a b)
def ltB (kc : Nat → Nat) (a b : Nat) : Bool := decide (kc a < kc b) || (decide (kc a = kc b) && lsB a b)
theorem ltB_iff {kc : Nat → Nat} {a b : Nat} (ha : a < 4096) (hb : b < 4096) : ltB kc a b = true ↔ kc a < kc b ∨ (kc a = kc b ∧ (onN a < onN b ∨ (onN a = onN b ∧ LR a b))) := by
  unfold ltB lsB
  rw [Bool.or_eq_true, Bool.and_eq_true, Bool.or_eq_true, Bool.and_eq_true, lr_iff ha hb]
  simp only [decide_eq_true_eq]
theorem ltB_tr {kc : Nat → Nat} {a b c : Nat} (ha : a < 4096) (hb : b < 4096) (hc : c < 4096) (h1 : ltB kc a b = true) (h2 : ltB kc b c = true) : ltB kc a c = true := by
  rw [ltB_iff ha hb] at h1
  rw [ltB_iff hb hc] at h2
  rw [ltB_iff ha hc]
  rcases h1 with h1 | ⟨h1, h1'⟩
  · rcases h2 with h2 | ⟨h2, _⟩
    · exact .inl (by omega)
    · exact .inl (by omega)
  · rcases h2 with h2 | ⟨h2, h2'⟩
    · exact .inl (by omega)
    · refine .inr ⟨by omega, ?_⟩
      rcases h1' with h1' | ⟨h1', l1⟩
      · rcases h2' with h2' | ⟨h2', _⟩
        · exact .inl (by omega)
        · exact .inl (by omega)
      · rcases h2' with h2' | ⟨h2', l2⟩
        · exact .inl (by omega)
        · exact .inr ⟨by omega, l1.tr l2⟩
theorem ltB_tot {kc : Nat → Nat} {a b : Nat} (ha : a < 4096) (hb : b < 4096) (h1 : ltB kc a b = false) (h2 : ltB kc b a = false) : a = b := by
  refine Classical.byContradiction (fun h => ?_)
  have n1 : ¬ ltB kc a b = true := by rw [h1]; decide
  have n2 : ¬ ltB kc b a = true := by rw [h2]; decide
  rw [ltB_iff ha hb] at n1
  rw [ltB_iff hb ha] at n2
  rcases LR.tot ha hb h with l | l
  · refine n1 ?_
    rcases Nat.lt_trichotomy (kc a) (kc b) with z | z | z
    · exact .inl z
    · refine .inr ⟨z, ?_⟩
      rcases Nat.lt_trichotomy (onN a) (onN b) with y | y | y
      · exact .inl y
      · exact .inr ⟨y, l⟩
      · exact absurd (.inr ⟨z.symm, .inl y⟩) n2
    · exact absurd (.inl z) n2
  · refine n2 ?_
    rcases Nat.lt_trichotomy (kc b) (kc a) with z | z | z
    · exact .inl z
    · refine .inr ⟨z, ?_⟩
      rcases Nat.lt_trichotomy (onN b) (onN a) with y | y | y
      · exact .inl y
      · exact .inr ⟨y, l⟩
      · exact absurd (.inr ⟨z.symm, .inl y⟩) n1
    · exact absurd (.inl z) n1
/-! the least of those that will do, with and without a first one -/
def fwS (ac : Nat → Bool) (lt : Nat → Nat → Bool) : Nat → Nat × Bool
  | 0 => (0, false)
  | k + 1 => cond (ac k && (!(fwS ac lt k).2 || lt k (fwS ac lt k).1)) (k, true) (fwS ac lt k)
def rfS (ac : Nat → Bool) (lt : Nat → Nat → Bool) (st : Nat) : Nat → Nat
  | 0 => st
  | k + 1 => cond (ac k && lt k (rfS ac lt st k)) k (rfS ac lt st k)
theorem fwS_s (ac : Nat → Bool) (lt : Nat → Nat → Bool) (k : Nat) : fwS ac lt (k + 1) = cond (ac k && (!(fwS ac lt k).2 || lt k (fwS ac lt k).1)) (k, true) (fwS ac lt k) := rfl
theorem rfS_s (ac : Nat → Bool) (lt : Nat → Nat → Bool) (st k : Nat) : rfS ac lt st (k + 1) = cond (ac k && lt k (rfS ac lt st k)) k (rfS ac lt st k) := rfl
section FLD2
variable {ac : Nat → Bool} {lt : Nat → Nat → Bool} {N st : Nat}
theorem fwS_inv (tr : ∀ a b c, a < N → b < N → c < N → lt a b = true → lt b c = true → lt a c = true) (ir : ∀ a, a < N → lt a a = false) : ∀ k, k ≤ N → ((fwS ac lt k).2 = false → ∀ t, t < k → ac t = false) ∧ ((fwS ac lt k).2 = true → (fwS ac lt k).1 < k ∧ ac (fwS ac lt k).1 = true ∧ ∀ t, t < k → ac t = true → lt t (fwS ac lt k).1 = false)
  | 0, _ => ⟨fun _ t ht => by omega, fun h => by cases h⟩
  | k + 1, hk => by
    have ih := fwS_inv tr ir k (by omega)
    rw [fwS_s]
    generalize fwS ac lt k = s at *
    obtain ⟨b, has⟩ := s
    cases hc : (ac k && (!has || lt k b)) with
    | true =>
      rw [Bool.and_eq_true] at hc
      refine ⟨fun h => by simp at h, fun _ => ⟨by simp, hc.1, fun t ht hat => ?_⟩⟩
      simp only [cond_true]
      by_cases z : t = k
      · subst z; exact ir t (by omega)
      · have htk : t < k := by omega
        cases has with
        | false => rw [ih.1 rfl t htk] at hat; cases hat
        | true =>
          obtain ⟨i1, i2, i3⟩ := ih.2 rfl
          have lk : lt k b = true := by simpa using hc.2
          cases q : lt t k with
          | false => rfl
          | true =>
            have := tr t k b (by omega) (by omega) (by have : b < k := i1; omega) q lk
            rw [i3 t htk hat] at this; cases this
    | false =>
      simp only [cond_false]
      rw [Bool.and_eq_false_iff] at hc
      refine ⟨fun h t ht => ?_, fun h => ?_⟩
      · have h : has = false := h
        subst h
        by_cases z : t = k
        · subst z
          rcases hc with q | q
          · exact q
          · simp at q
        · exact ih.1 rfl t (by omega)
      · have h : has = true := h
        subst h
        obtain ⟨i1, i2, i3⟩ := ih.2 rfl
        refine ⟨Nat.lt_succ_of_lt i1, i2, fun t ht hat => ?_⟩
        by_cases z : t = k
        · subst z
          rcases hc with q | q
          · rw [q] at hat; cases hat
          · simpa using q
        · exact i3 t (by omega) hat
theorem rfS_inv (hst : st < N) (hac : ac st = true) (tr : ∀ a b c, a < N → b < N → c < N → lt a b = true → lt b c = true → lt a c = true) (ir : ∀ a, a < N → lt a a = false) : ∀ k, k ≤ N → rfS ac lt st k < N ∧ ac (rfS ac lt st k) = true ∧ ∀ t, t < k → ac t = true → lt t (rfS ac lt st k) = false
  | 0, _ => ⟨hst, hac, fun t ht => by omega⟩
  | k + 1, hk => by
    obtain ⟨i1, i2, i3⟩ := rfS_inv hst hac tr ir k (by omega)
    rw [rfS_s]
    generalize rfS ac lt st k = b at *
    cases hc : (ac k && lt k b) with
    | true =>
      rw [Bool.and_eq_true] at hc
      refine ⟨by simp only [cond_true]; omega, hc.1, fun t ht hat => ?_⟩
      simp only [cond_true]
      by_cases z : t = k
      · subst z; exact ir t (by omega)
      · cases q : lt t k with
        | false => rfl
        | true =>
          have := tr t k b (by omega) (by omega) i1 q hc.2
          rw [i3 t (by omega) hat] at this; cases this
    | false =>
      simp only [cond_false]
      rw [Bool.and_eq_false_iff] at hc
      refine ⟨i1, i2, fun t ht hat => ?_⟩
      by_cases z : t = k
      · subst z
        rcases hc with q | q
        · rw [q] at hat; cases hat
        · exact q
      · exact i3 t (by omega) hat
theorem fold_eq (hst : st < N) (hac : ac st = true) (tr : ∀ a b c, a < N → b < N → c < N → lt a b = true → lt b c = true → lt a c = true) (ir : ∀ a, a < N → lt a a = false) (tot : ∀ a b, a < N → b < N → lt a b = false → lt b a = false → a = b) : (fwS ac lt N).1 = rfS ac lt st N := by
  obtain ⟨h1, h2⟩ := fwS_inv (ac := ac) tr ir N (Nat.le_refl N)
  obtain ⟨r1, r2, r3⟩ := rfS_inv hst hac tr ir N (Nat.le_refl N)
  have has : (fwS ac lt N).2 = true := by
    cases q : (fwS ac lt N).2 with
    | true => rfl
    | false => rw [h1 q st hst] at hac; cases hac
  obtain ⟨c1, c2, c3⟩ := h2 has
  exact tot _ _ c1 r1 (r3 _ c1 c2) (c3 _ r1 r2)
end FLD2
theorem ltB_ir (kc : Nat → Nat) {a : Nat} (ha : a < 4096) : ltB kc a a = false := by
  cases q : ltB kc a a with
  | false => rfl
  | true =>
    rw [ltB_iff ha ha] at q
    rcases q with q | ⟨_, q | ⟨_, i, _, _, q1, q2⟩⟩
    · omega
    · omega
    · rw [q1] at q2; cases q2
theorem bc_n {a : Nat} (ha : a < 4096) : bcv (nI a) = nI (onN a) := by rw [bcv_k ha, pcN_c]; rfl
theorem onN_le (a : Nat) : onN a ≤ 12 := cntB_le _ 12
theorem c_isLesser {a b : Nat} (ha : a < 4096) (hb : b < 4096) (m : MM) : f_X1_isLesser (nI a) (nI b) m = some (bI (lsB a b), m) := by
  have h1 := onN_le a
  have h2 := onN_le b
  have e1 : (nI (onN a) < nI (onN b)) ↔ onN a < onN b := nI_ltI (by omega) (by omega)
  have e2 : (nI (onN a) = nI (onN b)) ↔ onN a = onN b := ⟨nI_inj (by omega) (by omega), fun q => by rw [q]⟩
  have hl : lrB a b = !decide ((nI a &&& (nI a ^^^ nI b)) &&& (-(nI a ^^^ nI b)) = 0) := rfl
  simp only [g_X1_isLesser_36, g_X1_isLesser_40, g_X1_isLesser_0, f_X1_isLesser, j_bitCount, bc_n ha, bc_n hb, chk_t, ck_sI, ck_sR, ck_sJ, cal_s, bnd_e, ifn_s, ifn_n, e1, e2, lsB]
  by_cases k1 : onN a < onN b
  · rw [if_pos k1, decide_eq_true k1]; rfl
  · rw [if_neg k1, decide_eq_false k1]
    by_cases k2 : onN a = onN b
    · rw [if_pos k2, decide_eq_true k2, hl]
      by_cases k3 : (nI a &&& (nI a ^^^ nI b)) &&& (-(nI a ^^^ nI b)) = 0
      · rw [if_pos k3, decide_eq_true k3]; rfl
      · rw [if_neg k3, decide_eq_false k3]; rfl
    · rw [if_neg k2, decide_eq_false k2]; rfl
theorem r_isLessRow (a b : Nat) (m : MM) : f_X10_isLessRow (nI a) (nI b) m = some (bI (lrB a b), m) := by
  have hl : lrB a b = !decide ((nI a &&& (nI a ^^^ nI b)) &&& (-(nI a ^^^ nI b)) = 0) := rfl
  simp only [g_X10_isLessRow_0, f_X10_isLessRow, chk_t, ck_sI, ck_sR, ck_sJ, cal_s, bnd_e, ifn_s, ifn_n]
  rw [hl]
  by_cases k3 : (nI a &&& (nI a ^^^ nI b)) &&& (-(nI a ^^^ nI b)) = 0
  · rw [if_pos k3, decide_eq_true k3]; rfl
  · rw [if_neg k3, decide_eq_false k3]; rfl
theorem r_ones (a : Nat) (m : MM) : f_X10_ones (nI a) m = some (nI (onN a), m) := by
  have := lp_for (fun n s c => l_X10_ones_4 (nI a) n s c m) (fun c => nI (cntB (fun i => a.testBit i) c)) 12 (some (nI (onN a), m)) (fun c hc n => ?_) (fun n => ?_) (n := FU) (by unfold FU; omega)
  · exact this
  · show g_X10_ones_4 (nI a) (l_X10_ones_4 (nI a) n) _ (nI c) m = _
    have e1 : ¬ (12 : Int32) ≤ nI c := nI_ge (b := 12) hc (by decide)
    simp only [g_X10_ones_4, if_neg e1, sh1 _ (show c < 32 by omega), bt_nI _ c (by omega), chk_t, ck_sI, ck_sR, ck_sJ, cal_s, bnd_e, ifn_s, ifn_n, nI_add, cntB_s]
    rw [show nI c + 1 = nI (c + 1) from nI_add c 1]
  · show g_X10_ones_4 (nI a) (l_X10_ones_4 (nI a) n) _ (nI 12) m = _
    simp only [g_X10_ones_4, if_pos (show (12 : Int32) ≤ nI 12 by decide), onN]
