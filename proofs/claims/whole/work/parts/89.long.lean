/-! long numbers, bit by bit -/
def btL (p : Int64) (i : Nat) : Bool := p.toBitVec.getLsbD i
theorem btL_ext {p q : Int64} (h : ∀ i, i < 64 → btL p i = btL q i) : p = q := by
  apply Int64.toBitVec_inj.mp
  apply BitVec.eq_of_getLsbD_eq
  intro i hi
  exact h i hi
theorem btL_0 (i : Nat) : btL 0 i = false := by
  show (0#64).getLsbD i = false
  exact BitVec.getLsbD_zero
theorem btL_or (p q : Int64) (i : Nat) : btL (p ||| q) i = (btL p i || btL q i) := by
  unfold btL
  rw [Int64.toBitVec_or, BitVec.getLsbD_or]
theorem btL_and (p q : Int64) (i : Nat) : btL (p &&& q) i = (btL p i && btL q i) := by
  unfold btL
  rw [Int64.toBitVec_and, BitVec.getLsbD_and]
theorem btL_xor (p q : Int64) (i : Nat) : btL (p ^^^ q) i = (btL p i ^^ btL q i) := by
  unfold btL
  rw [Int64.toBitVec_xor, BitVec.getLsbD_xor]
theorem btL_m1 : ∀ i, i < 64 → btL (-1) i = true := by decide
theorem shL_a : ∀ i, i < 64 → ((Int32.toInt64 (nI i) &&& 63).toBitVec.smod 64).toNat = i := by decide +kernel
theorem btL_sr (p : Int64) {i : Nat} (h : i < 64) (j : Nat) (hj : j = 0) : btL (p >>> (Int32.toInt64 (nI i) &&& 63)) j = btL p i := by
  subst hj
  show (p.toBitVec.sshiftRight' ((Int32.toInt64 (nI i) &&& 63).toBitVec.smod 64)).getLsbD 0 = _
  unfold BitVec.sshiftRight'
  rw [shL_a i h, BitVec.getLsbD_sshiftRight]
  simp [h, btL]
theorem btL_1 {i j : Nat} (hi : i < 64) (hj : j < 64) : btL (1 <<< (Int32.toInt64 (nI i) &&& 63)) j = decide (j = i) := by
  show ((1 : Int64).toBitVec <<< ((Int32.toInt64 (nI i) &&& 63).toBitVec.smod 64)).getLsbD j = _
  rw [BitVec.shiftLeft_eq', shL_a i hi, BitVec.getLsbD_shiftLeft]
  have e : (1 : Int64).toBitVec = 1#64 := rfl
  rw [e, BitVec.getLsbD_one]
  by_cases z : j = i
  · subst z; simp [hj]
  · by_cases y : j < i
    · simp [y, z]
    · have : ¬ j - i = 0 := by omega
      simp [z, this]
theorem lg_0 (p : Int64) : (lg_cmp p 0 = 0) ↔ p = 0 := by
  unfold lg_cmp
  by_cases h1 : p > 0
  · rw [if_pos h1]
    constructor
    · intro q; exact absurd q (by decide)
    · intro q; subst q; exact absurd h1 (by decide)
  · rw [if_neg h1]
    by_cases h2 : p = 0
    · rw [if_pos h2]; exact ⟨fun _ => h2, fun _ => rfl⟩
    · rw [if_neg h2]
      constructor
      · intro q; exact absurd q (by decide)
      · intro q; exact absurd q h2
theorem anL_1 (p : Int64) : (p &&& 1 = 0) ↔ btL p 0 = false := by
  constructor
  · intro h
    have := congrArg (fun z => btL z 0) h
    simp only [btL_and, btL_0] at this
    have e : btL 1 0 = true := by decide
    rw [e, Bool.and_true] at this
    exact this
  · intro h
    apply btL_ext
    intro i hi
    rw [btL_and, btL_0]
    by_cases z : i = 0
    · rw [z, h]; rfl
    · have e : btL 1 i = false := by
        show (1#64).getLsbD i = false
        rw [BitVec.getLsbD_one]; simp [z]
      rw [e, Bool.and_false]
theorem btL_q (p : Int64) {i : Nat} (h : i < 64) : (lg_cmp ((p >>> (Int32.toInt64 (nI i) &&& 63)) &&& 1) 0 = 0) ↔ btL p i = false := by
  rw [lg_0, anL_1, btL_sr p h 0 rfl]
def mkL (P : Nat → Bool) : Nat → Int64
  | 0 => 0
  | n + 1 => if P n then mkL P n ||| (1 <<< (Int32.toInt64 (nI n) &&& 63)) else mkL P n
theorem mkL_s (P : Nat → Bool) (n : Nat) : mkL P (n + 1) = if P n then mkL P n ||| (1 <<< (Int32.toInt64 (nI n) &&& 63)) else mkL P n := rfl
theorem btL_mk {P : Nat → Bool} : ∀ {n : Nat}, n ≤ 64 → ∀ i, i < 64 → btL (mkL P n) i = (decide (i < n) && P i)
  | 0, _, i, _ => by rw [show mkL P 0 = 0 from rfl, btL_0, decide_eq_false (by omega)]; rfl
  | n + 1, h, i, hi => by
    have ih := btL_mk (P := P) (n := n) (by omega) i hi
    rw [mkL_s]
    by_cases z : i = n
    · subst z
      cases hP : P i with
      | true => rw [if_pos rfl, btL_or, btL_1 hi hi]; simp
      | false =>
        rw [if_neg (by decide), ih]
        simp
    · have e : decide (i < n + 1) = decide (i < n) := by
        by_cases y : i < n
        · rw [decide_eq_true y, decide_eq_true (by omega)]
        · rw [decide_eq_false y, decide_eq_false (by omega)]
      rw [e]
      cases hP : P n with
      | true => rw [if_pos rfl, btL_or, btL_1 (by omega) hi, ih, decide_eq_false z, Bool.or_false]
      | false => rw [if_neg (by decide), ih]
/-! how many bits a long has -/
theorem tb_ad {s : Nat} (f y j : Nat) (hf : f < 2 ^ s) : (f + 2 ^ s * y).testBit j = if j < s then f.testBit j else y.testBit (j - s) := by
  rw [Nat.add_comm]
  exact Nat.testBit_two_pow_mul_add y hf j
/-- a mask of one digit, a shift by r: digit by digit -/
theorem swl {s r f y mu M : Nat} (hf : f < 2 ^ s) (hmu : mu < 2 ^ (s - r)) (hr : r ≤ s) : ((f + 2 ^ s * y) >>> r) &&& (mu + 2 ^ s * M) = ((f >>> r) &&& mu) + 2 ^ s * ((y >>> r) &&& M) := by
  have hmu2 : mu < 2 ^ s := Nat.lt_of_lt_of_le hmu (Nat.pow_le_pow_right (by omega) (by omega))
  have hl : (f >>> r) &&& mu < 2 ^ s := Nat.and_lt_two_pow _ hmu2
  apply Nat.eq_of_testBit_eq
  intro j
  rw [Nat.testBit_and, Nat.testBit_shiftRight, tb_ad _ _ _ hf, tb_ad _ _ _ hmu2, tb_ad _ _ _ hl, Nat.testBit_and, Nat.testBit_shiftRight, Nat.testBit_and, Nat.testBit_shiftRight]
  by_cases h1 : j < s
  · rw [if_pos h1, if_pos h1]
    by_cases h2 : r + j < s
    · rw [if_pos h2]
    · have : mu.testBit j = false := Nat.testBit_lt_two_pow (Nat.lt_of_lt_of_le hmu (Nat.pow_le_pow_right (by omega) (by omega)))
      rw [this, Bool.and_false, Bool.and_false]
  · rw [if_neg h1, if_neg h1, if_neg (by omega)]
    congr 2
    omega
/-- digits to the base 2 ^ s -/
def dg (s : Nat) (c : Nat → Nat) : Nat → Nat
  | 0 => 0
  | n + 1 => c 0 + 2 ^ s * dg s (fun k => c (k + 1)) n
theorem dg_s (s : Nat) (c : Nat → Nat) (n : Nat) : dg s c (n + 1) = c 0 + 2 ^ s * dg s (fun k => c (k + 1)) n := rfl
theorem dg_and {s r mu : Nat} (hmu : mu < 2 ^ (s - r)) (hr : r ≤ s) : ∀ (n : Nat) (c : Nat → Nat), (∀ k, c k < 2 ^ s) → (dg s c n >>> r) &&& dg s (fun _ => mu) n = dg s (fun k => (c k >>> r) &&& mu) n
  | 0, c, _ => by show (0 >>> r) &&& 0 = 0; simp
  | n + 1, c, h => by
    rw [dg_s, dg_s, dg_s, swl (h 0) hmu hr, dg_and hmu hr n _ (fun k => h (k + 1))]
theorem dg_add (s : Nat) : ∀ (n : Nat) (a b : Nat → Nat), dg s a n + dg s b n = dg s (fun k => a k + b k) n
  | 0, _, _ => rfl
  | n + 1, a, b => by
    rw [dg_s, dg_s, dg_s, ← dg_add s n]
    rw [Nat.mul_add]
    omega
theorem dg_sub (s : Nat) (n : Nat) (a b : Nat → Nat) (h : ∀ k, b k ≤ a k) : dg s a n - dg s b n = dg s (fun k => a k - b k) n := by
  have := dg_add s n (fun k => a k - b k) b
  have e : (fun k => a k - b k + b k) = a := by funext k; have := h k; omega
  rw [e] at this
  omega
theorem dg_congr {s : Nat} : ∀ (n : Nat) (a b : Nat → Nat), (∀ k, a k = b k) → dg s a n = dg s b n
  | n, a, b, h => by rw [show a = b from funext h]
theorem dg_two (s : Nat) : ∀ (n : Nat) (c : Nat → Nat), dg s c (2 * n) = dg (2 * s) (fun k => c (2 * k) + 2 ^ s * c (2 * k + 1)) n
  | 0, _ => rfl
  | n + 1, c => by
    rw [show 2 * (n + 1) = 2 * n + 1 + 1 by omega, dg_s, dg_s, dg_s, dg_two s n]
    have e : ∀ Z, 2 ^ s * (c (0 + 1) + 2 ^ s * Z) = 2 ^ s * c 1 + 2 ^ (2 * s) * Z := fun Z => by
      rw [Nat.mul_add, ← Nat.mul_assoc, ← Nat.pow_add, show s + s = 2 * s by omega]
    rw [e]
    show c 0 + (2 ^ s * c 1 + 2 ^ (2 * s) * dg (2 * s) (fun k => c (2 * k + 1 + 1) + 2 ^ s * c (2 * k + 1 + 1 + 1)) n) = c (2 * 0) + 2 ^ s * c (2 * 0 + 1) + 2 ^ (2 * s) * dg (2 * s) (fun k => c (2 * (k + 1)) + 2 ^ s * c (2 * (k + 1) + 1)) n
    have e2 : (fun k => c (2 * k + 1 + 1) + 2 ^ s * c (2 * k + 1 + 1 + 1)) = (fun k => c (2 * (k + 1)) + 2 ^ s * c (2 * (k + 1) + 1)) := by
      funext k
      rw [show 2 * (k + 1) = 2 * k + 1 + 1 by omega]
    rw [e2]
    simp only [Nat.mul_zero, Nat.zero_add]
    omega
theorem dg_lt {s : Nat} : ∀ (n : Nat) (c : Nat → Nat), (∀ k, c k < 2 ^ s) → dg s c n < 2 ^ (s * n)
  | 0, _, _ => by show 0 < 2 ^ (s * 0); simp
  | n + 1, c, h => by
    rw [dg_s]
    have ih := dg_lt n (fun k => c (k + 1)) (fun k => h (k + 1))
    have h0 := h 0
    rw [show s * (n + 1) = s + s * n by rw [Nat.mul_add]; omega, Nat.pow_add]
    have : 2 ^ s * (dg s (fun k => c (k + 1)) n + 1) ≤ 2 ^ s * 2 ^ (s * n) := Nat.mul_le_mul_left _ ih
    rw [Nat.mul_add] at this
    omega
theorem dg_bits : ∀ (n x : Nat), x % 2 ^ n = dg 1 (fun k => x / 2 ^ k % 2) n
  | 0, x => by show x % 1 = 0; omega
  | n + 1, x => by
    rw [dg_s]
    have := dg_bits n (x / 2)
    have e : (fun k => x / 2 ^ (k + 1) % 2) = (fun k => x / 2 / 2 ^ k % 2) := by
      funext k
      rw [Nat.pow_succ, Nat.mul_comm, Nat.div_div_eq_div_mul]
    rw [e, ← this]
    rw [Nat.pow_succ, Nat.mul_comm, Nat.mod_mul]
    simp
theorem dg_top (s : Nat) : ∀ (n : Nat) (c : Nat → Nat), dg s c (n + 1) = dg s c n + 2 ^ (s * n) * c n
  | 0, c => by
    rw [dg_s]
    show c 0 + 2 ^ s * 0 = 0 + 2 ^ (s * 0) * c 0
    simp
  | n + 1, c => by
    rw [dg_s, dg_top s n, dg_s]
    rw [Nat.mul_add, ← Nat.mul_assoc, ← Nat.pow_add, show s + s * n = s * (n + 1) by rw [Nat.mul_add]; omega]
    omega
theorem dg_sh {s : Nat} (n : Nat) (c : Nat → Nat) (h : ∀ k, c k < 2 ^ s) (hz : ∀ k, n ≤ k → c k = 0) : dg s c n >>> s = dg s (fun k => c (k + 1)) n := by
  cases n with
  | zero => show 0 >>> s = 0; simp
  | succ n =>
    have e : dg s (fun k => c (k + 1)) (n + 1) = dg s (fun k => c (k + 1)) n := by
      rw [dg_top, hz (n + 1) (by omega)]
      simp
    rw [e, dg_s, Nat.shiftRight_eq_div_pow, Nat.add_mul_div_left _ _ (Nat.pow_pos (by omega)), Nat.div_eq_of_lt (h 0), Nat.zero_add]
theorem sum_two (b : Nat → Nat) : ∀ n, sumN b (2 * n) = sumN (fun k => b (2 * k) + b (2 * k + 1)) n
  | 0 => rfl
  | n + 1 => by
    rw [show 2 * (n + 1) = 2 * n + 1 + 1 by omega, sumN_s, sumN_s, sumN_s, sum_two b n]
    omega
theorem dgd4 : ∀ a, a < 2 → ∀ b, b < 2 → a + 2 ^ 1 * b - (((a + 2 ^ 1 * b) >>> 1) &&& 1) = a + b := by decide
theorem dgd16 : ∀ a, a < 3 → ∀ b, b < 3 → (((a + 2 ^ 2 * b) >>> 0) &&& 3) + (((a + 2 ^ 2 * b) >>> 2) &&& 3) = a + b := by decide
theorem dgd256 : ∀ a, a < 9 → ∀ b, b < 9 → ((a + 2 ^ 4 * b) >>> 0) &&& 15 = a := by decide
theorem m_5 : dg 2 (fun _ => 1) 32 = 6148914691236517205 := by decide
theorem m_3 : dg 4 (fun _ => 3) 16 = 3689348814741910323 := by decide
theorem m_f : dg 8 (fun _ => 15) 8 = 1085102592571150095 := by decide
/-- the count over the numbers -/
def blN (X : Nat) : Nat := let Y1 := X - ((X >>> 1) &&& 6148914691236517205); let Y2 := (Y1 &&& 3689348814741910323) + ((Y1 >>> 2) &&& 3689348814741910323); let Y3 := (Y2 + (Y2 >>> 4)) &&& 1085102592571150095; let Y4 := Y3 + (Y3 >>> 8); let Y5 := Y4 + (Y4 >>> 16); Y5 + (Y5 >>> 32)
theorem sh_sh (a b c : Nat) : a >>> (b + c) = (a >>> b) >>> c := by rw [Nat.shiftRight_add]
theorem blN_e {X : Nat} (hX : X < 2 ^ 64) : ∃ c : Nat → Nat, X - ((X >>> 1) &&& 6148914691236517205) = dg 2 (fun k => c (2 * k) + c (2 * k + 1)) 32 ∧ (∀ k, c k < 2) ∧ (∀ k, 64 ≤ k → c k = 0) ∧ ((X >>> 1) &&& 6148914691236517205) ≤ X ∧ ∀ k, c k = X / 2 ^ k % 2 := by
  have h0 := dg_bits 64 X
  rw [Nat.mod_eq_of_lt hX] at h0
  refine ⟨fun k => X / 2 ^ k % 2, ?_, fun k => by show X / 2 ^ k % 2 < 2; omega, fun k hk => ?_, Nat.le_trans Nat.and_le_left (by rw [Nat.shiftRight_eq_div_pow]; exact Nat.div_le_self _ _), fun k => rfl⟩
  · have e1 : X = dg 2 (fun k => X / 2 ^ (2 * k) % 2 + 2 ^ 1 * (X / 2 ^ (2 * k + 1) % 2)) 32 := by
      rw [show (64 : Nat) = 2 * 32 from rfl, dg_two] at h0
      exact h0
    generalize hb : (fun k => X / 2 ^ k % 2) = b at *
    have hb2 : ∀ k, b k < 2 := fun k => by rw [← hb]; show X / 2 ^ k % 2 < 2; omega
    have e1 : X = dg 2 (fun k => b (2 * k) + 2 ^ 1 * b (2 * k + 1)) 32 := by rw [← hb]; exact e1
    have e2 : (X >>> 1) &&& 6148914691236517205 = dg 2 (fun k => ((b (2 * k) + 2 ^ 1 * b (2 * k + 1)) >>> 1) &&& 1) 32 := by
      rw [e1, ← m_5, dg_and (by decide) (by decide) 32 _ (fun k => by have := hb2 (2 * k); have := hb2 (2 * k + 1); show _ < 4; omega)]
    rw [e2]
    conv => lhs; arg 1; rw [e1]
    rw [dg_sub _ _ _ _ (fun k => Nat.le_trans Nat.and_le_left (by rw [Nat.shiftRight_eq_div_pow]; exact Nat.div_le_self _ _))]
    exact dg_congr _ _ _ (fun k => dgd4 _ (hb2 _) _ (hb2 _))
  · show X / 2 ^ k % 2 = 0
    rw [Nat.div_eq_of_lt (Nat.lt_of_lt_of_le hX (Nat.pow_le_pow_right (by omega) hk))]
theorem blN_r {X : Nat} (hX : X < 2 ^ 64) : (∃ Z, blN X = sumN (fun k => X / 2 ^ k % 2) 64 + 256 * Z) ∧ (let Y1 := X - ((X >>> 1) &&& 6148914691236517205); let Y2 := (Y1 &&& 3689348814741910323) + ((Y1 >>> 2) &&& 3689348814741910323); let Y3 := (Y2 + (Y2 >>> 4)) &&& 1085102592571150095; let Y4 := Y3 + (Y3 >>> 8); let Y5 := Y4 + (Y4 >>> 16); Y2 < 2 ^ 64 ∧ Y2 + (Y2 >>> 4) < 2 ^ 64 ∧ Y4 < 2 ^ 64 ∧ Y5 < 2 ^ 64 ∧ Y5 + (Y5 >>> 32) < 2 ^ 64) := by
  obtain ⟨b, e1, hb2, hbz, _, hbe⟩ := blN_e hX
  unfold blN
  simp only
  rw [e1]
  obtain ⟨c, hc⟩ : ∃ c, c = fun k => b (2 * k) + b (2 * k + 1) := ⟨_, rfl⟩
  have hc2 : ∀ k, c k < 3 := fun k => by rw [hc]; have := hb2 (2 * k); have := hb2 (2 * k + 1); show b (2 * k) + b (2 * k + 1) < 3; omega
  have hcz : ∀ k, 32 ≤ k → c k = 0 := fun k hk => by rw [hc]; show b (2 * k) + b (2 * k + 1) = 0; rw [hbz _ (by omega), hbz _ (by omega)]
  rw [← hc]
  have e2 : (dg 2 c 32 &&& 3689348814741910323) + ((dg 2 c 32 >>> 2) &&& 3689348814741910323) = dg 4 (fun k => c (2 * k) + c (2 * k + 1)) 16 := by
    have q : ∀ k, c (2 * k) + 2 ^ 2 * c (2 * k + 1) < 2 ^ 4 := fun k => by have := hc2 (2 * k); have := hc2 (2 * k + 1); omega
    rw [show (32 : Nat) = 2 * 16 from rfl, dg_two, ← m_3]
    have a1 := dg_and (s := 4) (r := 0) (mu := 3) (by decide) (by decide) 16 _ q
    have a2 := dg_and (s := 4) (r := 2) (mu := 3) (by decide) (by decide) 16 _ q
    rw [Nat.shiftRight_zero] at a1
    show (dg 4 _ 16 &&& _) + _ = _
    rw [a1, a2, dg_add]
    exact dg_congr _ _ _ (fun k => dgd16 _ (hc2 _) _ (hc2 _))
  rw [e2]
  obtain ⟨e, he⟩ : ∃ e, e = fun k => c (2 * k) + c (2 * k + 1) := ⟨_, rfl⟩
  have he2 : ∀ k, e k < 5 := fun k => by rw [he]; have := hc2 (2 * k); have := hc2 (2 * k + 1); show c (2 * k) + c (2 * k + 1) < 5; omega
  have hez : ∀ k, 16 ≤ k → e k = 0 := fun k hk => by rw [he]; show c (2 * k) + c (2 * k + 1) = 0; rw [hcz _ (by omega), hcz _ (by omega)]
  rw [← he]
  have e3 : dg 4 e 16 + (dg 4 e 16 >>> 4) = dg 4 (fun k => e k + e (k + 1)) 16 := by
    rw [dg_sh 16 e (fun k => by have := he2 k; omega) hez, dg_add]
  rw [e3]
  have l2 : dg 4 e 16 < 2 ^ 64 := dg_lt (s := 4) 16 e (fun k => by have := he2 k; omega)
  have l3 : dg 4 (fun k => e k + e (k + 1)) 16 < 2 ^ 64 := dg_lt (s := 4) 16 _ (fun k => by have := he2 k; have := he2 (k + 1); omega)
  have e4 : dg 4 (fun k => e k + e (k + 1)) 16 &&& 1085102592571150095 = dg 8 (fun k => e (2 * k) + e (2 * k + 1)) 8 := by
    have q : ∀ k, (e (2 * k) + e (2 * k + 1)) + 2 ^ 4 * (e (2 * k + 1) + e (2 * k + 1 + 1)) < 2 ^ 8 := fun k => by have := he2 (2 * k); have := he2 (2 * k + 1); have := he2 (2 * k + 1 + 1); omega
    rw [show (16 : Nat) = 2 * 8 from rfl, dg_two, ← m_f]
    have a1 := dg_and (s := 8) (r := 0) (mu := 15) (by decide) (by decide) 8 _ q
    rw [Nat.shiftRight_zero] at a1
    show (dg 8 _ 8 &&& _) = _
    rw [a1]
    exact dg_congr _ _ _ (fun k => dgd256 _ (by have := he2 (2 * k); have := he2 (2 * k + 1); omega) _ (by have := he2 (2 * k + 1); have := he2 (2 * k + 1 + 1); omega))
  rw [e4]
  obtain ⟨g, hg⟩ : ∃ g, g = fun k => e (2 * k) + e (2 * k + 1) := ⟨_, rfl⟩
  have hg2 : ∀ k, g k ≤ 8 := fun k => by rw [hg]; have := he2 (2 * k); have := he2 (2 * k + 1); show e (2 * k) + e (2 * k + 1) ≤ 8; omega
  have hgz : ∀ k, 8 ≤ k → g k = 0 := fun k hk => by rw [hg]; show e (2 * k) + e (2 * k + 1) = 0; rw [hez _ (by omega), hez _ (by omega)]
  rw [← hg]
  have s8 : ∀ (f : Nat → Nat), (∀ k, f k < 2 ^ 8) → (∀ k, 8 ≤ k → f k = 0) → dg 8 f 8 >>> 8 = dg 8 (fun k => f (k + 1)) 8 := fun f h1 h2 => dg_sh 8 f h1 h2
  have e5 : dg 8 g 8 + (dg 8 g 8 >>> 8) = dg 8 (fun k => g k + g (k + 1)) 8 := by
    rw [s8 g (fun k => by have := hg2 k; omega) hgz, dg_add]
  rw [e5]
  obtain ⟨u, hu⟩ : ∃ u, u = fun k => g k + g (k + 1) := ⟨_, rfl⟩
  have hu2 : ∀ k, u k ≤ 16 := fun k => by rw [hu]; have := hg2 k; have := hg2 (k + 1); show g k + g (k + 1) ≤ 16; omega
  have huz : ∀ k, 8 ≤ k → u k = 0 := fun k hk => by rw [hu]; show g k + g (k + 1) = 0; rw [hgz _ (by omega), hgz _ (by omega)]
  rw [← hu]
  have s16 : ∀ (f : Nat → Nat), (∀ k, f k < 2 ^ 8) → (∀ k, 8 ≤ k → f k = 0) → dg 8 f 8 >>> 16 = dg 8 (fun k => f (k + 2)) 8 := fun f h1 h2 => by
    rw [sh_sh _ 8 8, s8 f h1 h2, s8 _ (fun k => h1 (k + 1)) (fun k hk => h2 (k + 1) (by omega))]
  have e6 : dg 8 u 8 + (dg 8 u 8 >>> 16) = dg 8 (fun k => u k + u (k + 2)) 8 := by
    rw [s16 u (fun k => by have := hu2 k; omega) huz, dg_add]
  rw [e6]
  obtain ⟨v, hv⟩ : ∃ v, v = fun k => u k + u (k + 2) := ⟨_, rfl⟩
  have hv2 : ∀ k, v k ≤ 32 := fun k => by rw [hv]; have := hu2 k; have := hu2 (k + 2); show u k + u (k + 2) ≤ 32; omega
  have hvz : ∀ k, 8 ≤ k → v k = 0 := fun k hk => by rw [hv]; show u k + u (k + 2) = 0; rw [huz _ (by omega), huz _ (by omega)]
  rw [← hv]
  have e7 : dg 8 v 8 + (dg 8 v 8 >>> 32) = dg 8 (fun k => v k + v (k + 4)) 8 := by
    rw [sh_sh _ 16 16, s16 v (fun k => by have := hv2 k; omega) hvz, s16 _ (fun k => by have := hv2 (k + 2); show v (k + 2) < 2 ^ 8; omega) (fun k hk => hvz (k + 2) (by omega)), dg_add]
  rw [e7]
  refine ⟨⟨dg 8 (fun k => v (k + 1) + v (k + 1 + 4)) 7, ?_⟩, l2, l3, ?_, ?_, ?_⟩
  · rw [dg_s]
    have ht : v 0 + v (0 + 4) = sumN (fun k => X / 2 ^ k % 2) 64 := by
      have f1 : (fun k => X / 2 ^ k % 2) = b := by funext k; exact (hbe k).symm
      rw [f1, show (64 : Nat) = 2 * 32 from rfl, sum_two, ← hc, show (32 : Nat) = 2 * 16 from rfl, sum_two, ← he, show (16 : Nat) = 2 * 8 from rfl, sum_two, ← hg, hv, hu]
      show g 0 + g (0 + 1) + (g (0 + 2) + g (0 + 2 + 1)) + (g (0 + 4) + g (0 + 4 + 1) + (g (0 + 4 + 2) + g (0 + 4 + 2 + 1))) = 0 + g 0 + g 1 + g 2 + g 3 + g 4 + g 5 + g 6 + g 7
      simp only [Nat.zero_add]
      show g 0 + g 1 + (g 2 + g 3) + (g 4 + g 5 + (g 6 + g 7)) = g 0 + g 1 + g 2 + g 3 + g 4 + g 5 + g 6 + g 7
      omega
    rw [ht]
  · exact dg_lt (s := 8) 8 _ (fun k => by have := hu2 k; omega)
  · exact dg_lt (s := 8) 8 _ (fun k => by have := hv2 k; omega)
  · exact dg_lt (s := 8) 8 _ (fun k => by have := hv2 k; have := hv2 (k + 4); show v k + v (k + 4) < 2 ^ 8; omega)
/-! .. and over longs -/
def blv (x0 : Int64) : Int32 := (let y1 := x0 - ((lush x0 1) &&& 6148914691236517205); let y2 := (y1 &&& 3689348814741910323) + ((lush y1 2) &&& 3689348814741910323); let y3 := (y2 + (lush y2 4)) &&& 1085102592571150095; let y4 := y3 + (lush y3 8); let y5 := y4 + (lush y4 16); let y6 := y5 + (lush y5 32); (Int64.toInt32 y6) &&& 127)
def tN (x : Int64) : Nat := x.toBitVec.toNat
theorem tN_lt (x : Int64) : tN x < 2 ^ 64 := x.toBitVec.isLt
theorem lush_n (x : Int64) (s : Int32) (k : Nat) (h : (s.toInt64.toUInt64 &&& Int64.toUInt64 63).toNat % 64 = k) : tN (lush x s) = tN x >>> k := by
  show (x.toUInt64 >>> (s.toInt64.toUInt64 &&& Int64.toUInt64 63)).toNat = x.toUInt64.toNat >>> k
  rw [UInt64.toNat_shiftRight, h]
theorem tN_and (x y : Int64) : tN (x &&& y) = tN x &&& tN y := by
  unfold tN
  rw [Int64.toBitVec_and, BitVec.toNat_and]
theorem tN_add {x y : Int64} (h : tN x + tN y < 2 ^ 64) : tN (x + y) = tN x + tN y := by
  unfold tN at *
  rw [Int64.toBitVec_add, BitVec.toNat_add, Nat.mod_eq_of_lt h]
theorem tN_sub {x y : Int64} (h : tN y ≤ tN x) : tN (x - y) = tN x - tN y := by
  have h1 := tN_lt x
  unfold tN at *
  rw [Int64.toBitVec_sub, BitVec.toNat_sub]
  have h2 : y.toBitVec.toNat < 2 ^ 64 := y.toBitVec.isLt
  rw [show 2 ^ 64 - y.toBitVec.toNat + x.toBitVec.toNat = 2 ^ 64 + (x.toBitVec.toNat - y.toBitVec.toNat) by omega, Nat.add_mod_left, Nat.mod_eq_of_lt (by omega)]
theorem bN_tb (X k : Nat) : X / 2 ^ k % 2 = bN (X.testBit k) := by
  rw [Nat.testBit_eq_decide_div_mod_eq]
  have : X / 2 ^ k % 2 = 0 ∨ X / 2 ^ k % 2 = 1 := by omega
  rcases this with q | q <;> rw [q] <;> rfl
theorem blv_e (p : Int64) : blv p = nI (cntB (btL p) 64) := by
  obtain ⟨⟨Z, hZ⟩, q2, q3, q4, q5, q6⟩ := blN_r (tN_lt p)
  have hs : sumN (fun k => tN p / 2 ^ k % 2) 64 = cntB (btL p) 64 := by
    rw [← sumN_cnt]
    congr 1
    funext k
    exact bN_tb _ k
  rw [hs] at hZ
  have hc := cntB_le (btL p) 64
  unfold blN at hZ
  simp only at hZ q2 q3 q4 q5 q6
  have c5 : tN 6148914691236517205 = 6148914691236517205 := by decide
  have c3 : tN 3689348814741910323 = 3689348814741910323 := by decide
  have cf : tN 1085102592571150095 = 1085102592571150095 := by decide
  have l1 : ∀ x, tN (lush x 1) = tN x >>> 1 := fun x => lush_n x 1 1 (by decide)
  have l2 : ∀ x, tN (lush x 2) = tN x >>> 2 := fun x => lush_n x 2 2 (by decide)
  have l4 : ∀ x, tN (lush x 4) = tN x >>> 4 := fun x => lush_n x 4 4 (by decide)
  have l8 : ∀ x, tN (lush x 8) = tN x >>> 8 := fun x => lush_n x 8 8 (by decide)
  have l16 : ∀ x, tN (lush x 16) = tN x >>> 16 := fun x => lush_n x 16 16 (by decide)
  have l32 : ∀ x, tN (lush x 32) = tN x >>> 32 := fun x => lush_n x 32 32 (by decide)
  unfold blv
  simp only
  generalize hY1 : p - ((lush p 1) &&& 6148914691236517205) = y1
  have n1 : tN y1 = tN p - ((tN p >>> 1) &&& 6148914691236517205) := by
    rw [← hY1, tN_sub, tN_and, l1, c5]
    rw [tN_and, l1, c5]
    exact Nat.le_trans Nat.and_le_left (by rw [Nat.shiftRight_eq_div_pow]; exact Nat.div_le_self _ _)
  rw [← n1] at hZ q2 q3 q4 q5 q6
  generalize hY2 : (y1 &&& 3689348814741910323) + ((lush y1 2) &&& 3689348814741910323) = y2
  have n2 : tN y2 = (tN y1 &&& 3689348814741910323) + ((tN y1 >>> 2) &&& 3689348814741910323) := by
    rw [← hY2, tN_add, tN_and, tN_and, l2, c3]
    rw [tN_and, tN_and, l2, c3]
    exact q2
  rw [← n2] at hZ q3 q4 q5 q6
  generalize hY3 : (y2 + (lush y2 4)) &&& 1085102592571150095 = y3
  have n3 : tN y3 = (tN y2 + (tN y2 >>> 4)) &&& 1085102592571150095 := by
    rw [← hY3, tN_and, tN_add, l4, cf]
    rw [l4]
    exact q3
  rw [← n3] at hZ q4 q5 q6
  generalize hY4 : y3 + (lush y3 8) = y4
  have n4 : tN y4 = tN y3 + (tN y3 >>> 8) := by
    rw [← hY4, tN_add, l8]
    rw [l8]
    exact q4
  rw [← n4] at hZ q5 q6
  generalize hY5 : y4 + (lush y4 16) = y5
  have n5 : tN y5 = tN y4 + (tN y4 >>> 16) := by
    rw [← hY5, tN_add, l16]
    rw [l16]
    exact q5
  rw [← n5] at hZ q6
  generalize hY6 : y5 + (lush y5 32) = y6
  have n6 : tN y6 = tN y5 + (tN y5 >>> 32) := by
    rw [← hY6, tN_add, l32]
    rw [l32]
    exact q6
  rw [← n6] at hZ
  apply bt_ext
  intro i hi
  rw [bt_and, bt_nI _ i hi]
  have e127 : bt 127 i = decide (i < 7) := by revert i; decide
  have ey : bt (Int64.toInt32 y6) i = (tN y6).testBit i := by
    show (y6.toBitVec.signExtend 32).getLsbD i = y6.toBitVec.getLsbD i
    rw [BitVec.getLsbD_signExtend]
    have : i < 64 := by omega
    simp [hi, this]
  rw [e127, ey, hZ]
  generalize cntB (btL p) 64 = C at *
  by_cases h7 : i < 7
  · rw [decide_eq_true h7, Bool.and_true, show (256 : Nat) = 2 ^ 8 from rfl, tb_ad _ _ _ (show C < 2 ^ 8 by omega), if_pos (by omega)]
  · rw [decide_eq_false h7, Bool.and_false]
    exact (Nat.testBit_lt_two_pow (Nat.lt_of_lt_of_le (show C < 2 ^ 7 by omega) (Nat.pow_le_pow_right (by omega) (by omega)))).symm
theorem j_bitCountL (p : Int64) (m : MM) : f_J13_bitCount_95d88 p m = some (blv p, m) := rfl
