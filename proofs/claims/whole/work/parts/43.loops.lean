def bI (b : Bool) : Int32 := if b then 1 else 0
theorem bI_t : bI true = 1 := rfl
theorem bI_f : bI false = 0 := rfl
theorem bI_0 {b : Bool} : (bI b = 0) ↔ b = false := by cases b <;> decide
theorem bI_01 (b : Bool) : bI b = 0 ∨ bI b = 1 := by cases b; exact Or.inl rfl; exact Or.inr rfl
theorem ifb {α : Type} {c : Prop} [Decidable c] (b : Bool) (h : c ↔ b = true) (X Y : α) : (if c then X else Y) = if b then X else Y := by
  cases b
  · rw [if_neg (fun q => by have := h.mp q; cases this)]; rfl
  · rw [if_pos (h.mpr rfl)]; rfl
/-- the first of N that has P -/
def fnd {ρ : Type} (P : Nat → Bool) (F : Nat → ρ) (e : ρ) : Nat → Nat → ρ
  | 0, _ => e
  | k + 1, i => if P i then F i else fnd P F e k (i + 1)
theorem lp_fnd {ρ : Type} (L : Nat → Int32 → ρ) (P : Nat → Bool) (F : Nat → ρ) (e : ρ) (N : Nat) (hs : ∀ i, i < N → ∀ n, L (n + 1) (nI i) = if P i then F i else L n (nI (i + 1))) (he : ∀ n, L (n + 1) (nI N) = e) : ∀ k i, i + k = N → ∀ n, k < n → L n (nI i) = fnd P F e k i := by
  intro k
  induction k with
  | zero =>
    intro i hi n hn
    obtain ⟨q, rfl⟩ : ∃ q, n = q + 1 := ⟨n - 1, by omega⟩
    have e1 : i = N := by omega
    subst e1
    exact he q
  | succ k ih =>
    intro i hi n hn
    obtain ⟨q, rfl⟩ : ∃ q, n = q + 1 := ⟨n - 1, by omega⟩
    rw [hs i (by omega) q]
    show _ = (if P i then F i else fnd P F e k (i + 1))
    cases hP : P i with
    | true => rfl
    | false => exact ih (i + 1) (by omega) q (by omega)
theorem fnd_any {ρ : Type} (P : Nat → Bool) (x e : ρ) : ∀ k i, fnd P (fun _ => x) e k i = if (List.range' i k).any P then x else e := by
  intro k
  induction k with
  | zero => intro i; rfl
  | succ k ih =>
    intro i
    show (if P i then x else fnd P (fun _ => x) e k (i + 1)) = _
    rw [ih (i + 1), List.range'_succ, List.any_cons]
    cases P i <;> rfl
/-- a loop that ends with x at the first that has P, else with e -/
theorem lp_any {ρ : Type} (L : Nat → Int32 → ρ) (P : Nat → Bool) (x e : ρ) (N : Nat) (hs : ∀ i, i < N → ∀ n, L (n + 1) (nI i) = if P i then x else L n (nI (i + 1))) (he : ∀ n, L (n + 1) (nI N) = e) {n : Nat} (hn : N < n) : L n (nI 0) = if (List.range N).any P then x else e := by
  rw [lp_fnd L P (fun _ => x) e N hs he N 0 (by omega) n hn, fnd_any, List.range_eq_range']
/-- a loop with a state: S i at i -/
theorem lp_for {σ ρ : Type} (L : Nat → σ → Int32 → ρ) (S : Nat → σ) (N : Nat) (e : ρ) (hs : ∀ i, i < N → ∀ n, L (n + 1) (S i) (nI i) = L n (S (i + 1)) (nI (i + 1))) (he : ∀ n, L (n + 1) (S N) (nI N) = e) {n : Nat} (hn : N < n) : L n (S 0) (nI 0) = e :=
  lp_run (fun n (q : σ × Int32) => L n q.1 q.2) (fun i => (S i, nI i)) N e hs he n hn
def cntB (P : Nat → Bool) : Nat → Nat
  | 0 => 0
  | n + 1 => cntB P n + (if P n then 1 else 0)
theorem cntB_le (P : Nat → Bool) : ∀ n, cntB P n ≤ n
  | 0 => Nat.le_refl 0
  | n + 1 => by
    have := cntB_le P n
    show cntB P n + (if P n then 1 else 0) ≤ n + 1
    split <;> omega
theorem cntB_congr {P Q : Nat → Bool} : ∀ n, (∀ i, i < n → P i = Q i) → cntB P n = cntB Q n
  | 0, _ => rfl
  | n + 1, h => by
    show cntB P n + _ = cntB Q n + _
    rw [cntB_congr n (fun i hi => h i (by omega)), h n (by omega)]
theorem cntB_0 {P : Nat → Bool} : ∀ n, (cntB P n = 0 ↔ ∀ i, i < n → P i = false)
  | 0 => ⟨fun _ i hi => by omega, fun _ => rfl⟩
  | n + 1 => by
    show cntB P n + (if P n then 1 else 0) = 0 ↔ _
    constructor
    · intro h i hi
      have h1 : cntB P n = 0 := by omega
      rcases Nat.lt_succ_iff_lt_or_eq.mp hi with q | q
      · exact (cntB_0 n).mp h1 i q
      · subst q
        cases hP : P i with
        | false => rfl
        | true => rw [hP] at h; simp at h
    · intro h
      rw [(cntB_0 n).mpr (fun i hi => h i (by omega)), h n (by omega)]
      rfl
theorem anyF {P : Nat → Bool} {n : Nat} : (List.range n).any P = false ↔ ∀ i, i < n → P i = false := by
  rw [List.any_eq_false]
  constructor
  · intro h i hi
    have := h i (List.mem_range.mpr hi)
    cases hP : P i
    · rfl
    · exact absurd hP this
  · intro h i hi
    rw [h i (List.mem_range.mp hi)]
    decide
theorem anyT {P : Nat → Bool} {n : Nat} : (List.range n).any P = true ↔ ∃ i, i < n ∧ P i = true := by
  rw [List.any_eq_true]
  constructor
  · intro ⟨i, hi, h⟩; exact ⟨i, List.mem_range.mp hi, h⟩
  · intro ⟨i, hi, h⟩; exact ⟨i, List.mem_range.mpr hi, h⟩
theorem any_congr {P Q : Nat → Bool} {n : Nat} (h : ∀ i, i < n → P i = Q i) : (List.range n).any P = (List.range n).any Q := by
  rw [Bool.eq_iff_iff, anyT, anyT]
  exact ⟨fun ⟨i, hi, q⟩ => ⟨i, hi, by rw [← h i hi]; exact q⟩, fun ⟨i, hi, q⟩ => ⟨i, hi, by rw [h i hi]; exact q⟩⟩
/-! small numbers -/
def nB (v : Int32) (B : Nat) : Prop := ∃ k, k < B ∧ v = nI k
theorem ti_nI {n : Nat} (h : n < 2 ^ 31) : (nI n).toInt = (n : Int) := nI_toInt h
theorem i_lt {a b : Int32} : a < b ↔ a.toInt < b.toInt := Int32.lt_iff_toInt_lt
theorem i_le {a b : Int32} : a ≤ b ↔ a.toInt ≤ b.toInt := Int32.le_iff_toInt_le
theorem i_eq {a b : Int32} : a = b ↔ a.toInt = b.toInt := Int32.toInt_inj.symm
theorem i_add {a b : Int32} (h : -1073741824 ≤ a.toInt ∧ a.toInt < 1073741824) (h2 : -1073741824 ≤ b.toInt ∧ b.toInt < 1073741824) : (a + b).toInt = a.toInt + b.toInt := by
  rw [Int32.toInt_add]
  exact Int.bmod_eq_of_le (by omega) (by omega)
theorem i_sub {a b : Int32} (h : -1073741824 ≤ a.toInt ∧ a.toInt < 1073741824) (h2 : -1073741824 ≤ b.toInt ∧ b.toInt < 1073741824) : (a - b).toInt = a.toInt - b.toInt := by
  rw [Int32.toInt_sub]
  exact Int.bmod_eq_of_le (by omega) (by omega)
theorem i_neg {a : Int32} (h : -1073741824 ≤ a.toInt ∧ a.toInt < 1073741824) : (-a).toInt = -a.toInt := by
  rw [Int32.toInt_neg]
  exact Int.bmod_eq_of_le (by omega) (by omega)
theorem i_mul {a b : Int32} (h : -1073741824 ≤ a.toInt * b.toInt ∧ a.toInt * b.toInt < 1073741824) : (a * b).toInt = a.toInt * b.toInt := by
  rw [Int32.toInt_mul]
  exact Int.bmod_eq_of_le (by omega) (by omega)
theorem nI_inj {a b : Nat} (ha : a < 2 ^ 31) (hb : b < 2 ^ 31) (h : nI a = nI b) : a = b := (nI_eq ha hb).mp h
theorem nI_ne_m1 {n : Nat} (h : n < 2 ^ 31) : nI n ≠ -1 := fun q => by
  have := congrArg Int32.toInt q
  rw [nI_toInt h] at this
  have e : (-1 : Int32).toInt = -1 := by decide
  omega
example (a b c : Int) (h : a * b = c * c) : (a + b) * (a + b) = a * a + 2 * (c * c) + b * b := by grind
