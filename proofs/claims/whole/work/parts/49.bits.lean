/-! bits of a number -/
def bt (p : Int32) (i : Nat) : Bool := p.toBitVec.getLsbD i
theorem bt_out (p : Int32) {i : Nat} (h : 32 ≤ i) : bt p i = false := BitVec.getLsbD_of_ge _ _ h
theorem bt_ext {p q : Int32} (h : ∀ i, i < 32 → bt p i = bt q i) : p = q := by
  apply Int32.toBitVec_inj.mp
  apply BitVec.eq_of_getLsbD_eq
  intro i hi
  exact h i hi
theorem bt_0 (i : Nat) : bt 0 i = false := by
  show (0#32).getLsbD i = false
  exact BitVec.getLsbD_zero
theorem bt_or (p q : Int32) (i : Nat) : bt (p ||| q) i = (bt p i || bt q i) := by
  unfold bt
  rw [Int32.toBitVec_or, BitVec.getLsbD_or]
theorem bt_and (p q : Int32) (i : Nat) : bt (p &&& q) i = (bt p i && bt q i) := by
  unfold bt
  rw [Int32.toBitVec_and, BitVec.getLsbD_and]
theorem bt_xor (p q : Int32) (i : Nat) : bt (p ^^^ q) i = (bt p i ^^ bt q i) := by
  unfold bt
  rw [Int32.toBitVec_xor, BitVec.getLsbD_xor]
theorem bt_not (p : Int32) {i : Nat} (h : i < 32) : bt (~~~p) i = !bt p i := by
  unfold bt
  rw [Int32.toBitVec_not, BitVec.getLsbD_not, decide_eq_true h, Bool.true_and]
theorem m1_xor (p : Int32) : p ^^^ (-1) = ~~~p := by
  apply bt_ext
  intro i hi
  rw [bt_xor, bt_not p hi]
  have e : bt (-1) i = true := by revert i; decide
  rw [e, Bool.xor_true]
theorem bt_nI (s i : Nat) (h : i < 32) : bt (nI s) i = s.testBit i := by
  show (BitVec.ofNat 32 s).getLsbD i = _
  rw [BitVec.getLsbD_ofNat, decide_eq_true h, Bool.true_and]
theorem sh_31 : ∀ i, i < 32 → nI i &&& 31 = nI i := by decide
theorem sh_md : ∀ i, i < 32 → ((nI i).toBitVec.smod 32).toNat = i := by decide
theorem sr_b (p : Int32) {i : Nat} (h : i < 32) : (p >>> nI i).toBitVec = p.toBitVec.sshiftRight i := by
  show p.toBitVec.sshiftRight' ((nI i).toBitVec.smod 32) = _
  unfold BitVec.sshiftRight'
  rw [sh_md i h]
theorem sl_b (p : Int32) {i : Nat} (h : i < 32) : (p <<< nI i).toBitVec = p.toBitVec <<< i := by
  show p.toBitVec <<< ((nI i).toBitVec.smod 32) = _
  rw [BitVec.shiftLeft_eq', sh_md i h]
theorem an_1 (p : Int32) : (p &&& 1 = 0) ↔ bt p 0 = false := by
  constructor
  · intro h
    have := congrArg (fun q => bt q 0) h
    simp only [bt_and, bt_0] at this
    have e : bt 1 0 = true := by decide
    rw [e, Bool.and_true] at this
    exact this
  · intro h
    apply bt_ext
    intro i hi
    rw [bt_and, bt_0]
    cases i with
    | zero => rw [h]; rfl
    | succ i =>
      have e : ∀ i, i < 31 → bt 1 (i + 1) = false := by decide
      rw [e i (by omega), Bool.and_false]
/-- the question for a bit -/
theorem bt_q (p : Int32) {i : Nat} (h : i < 32) : (((p >>> (nI i &&& 31)) &&& 1) = 0) ↔ bt p i = false := by
  rw [sh_31 i h, an_1]
  unfold bt
  rw [sr_b p h, BitVec.getLsbD_sshiftRight]
  simp [h]
theorem bt_1A : ∀ i, i < 32 → ∀ j, j < 32 → bt (1 <<< nI i) j = decide (j = i) := by decide +kernel
theorem bt_1' {i j : Nat} (hi : i < 32) (hj : j < 32) : bt (1 <<< nI i) j = decide (j = i) := bt_1A i hi j hj
theorem bt_1 {i j : Nat} (hi : i < 32) (hj : j < 32) : bt (1 <<< (nI i &&& 31)) j = decide (j = i) := by
  rw [sh_31 i hi]
  exact bt_1A i hi j hj
/-- the set of the first n that have P -/
def mks (P : Nat → Bool) : Nat → Int32
  | 0 => 0
  | n + 1 => if P n then mks P n ||| (1 <<< (nI n &&& 31)) else mks P n
theorem bt_mks {P : Nat → Bool} : ∀ {n : Nat}, n ≤ 32 → ∀ i, i < 32 → bt (mks P n) i = (decide (i < n) && P i)
  | 0, _, i, _ => by rw [mks, bt_0]; simp
  | n + 1, hn, i, hi => by
    have ih := bt_mks (P := P) (n := n) (by omega) i hi
    rw [mks]
    rcases Nat.lt_trichotomy i n with q | q | q
    · have e1 : decide (i < n) = true := decide_eq_true q
      have e2 : decide (i < n + 1) = true := decide_eq_true (by omega)
      have e3 : decide (i = n) = false := decide_eq_false (by omega)
      cases hP : P n with
      | true => rw [if_pos rfl, bt_or, bt_1 (by omega) hi, ih, e1, e2, e3, Bool.or_false]
      | false => rw [if_neg (by decide), ih, e1, e2]
    · subst q
      have e1 : decide (i < i) = false := decide_eq_false (by omega)
      have e2 : decide (i < i + 1) = true := decide_eq_true (by omega)
      have e3 : decide (i = i) = true := decide_eq_true rfl
      cases hP : P i with
      | true => rw [if_pos rfl, bt_or, bt_1 (by omega) hi, e3, e2]; simp
      | false => rw [if_neg (by decide), ih, e1, e2]; simp [hP]
    · have e1 : decide (i < n) = false := decide_eq_false (by omega)
      have e2 : decide (i < n + 1) = false := decide_eq_false (by omega)
      have e3 : decide (i = n) = false := decide_eq_false (by omega)
      cases hP : P n with
      | true => rw [if_pos rfl, bt_or, bt_1 (by omega) hi, ih, e1, e2, e3]; simp
      | false => rw [if_neg (by decide), ih, e1, e2]
theorem mks_0 {P : Nat → Bool} {n : Nat} (hn : n ≤ 32) : mks P n = 0 ↔ (List.range n).any P = false := by
  rw [anyF]
  constructor
  · intro h i hi
    have := bt_mks (P := P) hn i (by omega)
    rw [h, bt_0, decide_eq_true hi, Bool.true_and] at this
    exact this.symm
  · intro h
    apply bt_ext
    intro i hi
    rw [bt_mks hn i hi, bt_0]
    by_cases q : i < n
    · rw [h i q, Bool.and_false]
    · rw [decide_eq_false q, Bool.false_and]
theorem mks_congr {P Q : Nat → Bool} : ∀ {n : Nat}, (∀ i, i < n → P i = Q i) → mks P n = mks Q n
  | 0, _ => rfl
  | n + 1, h => by rw [mks, mks, mks_congr (n := n) (fun i hi => h i (by omega)), h n (by omega)]
