/-! reading a memory behind a write -/
theorem I_sI (m : MM) (s a i : Nat) (v : Int32) (s' a' i' : Nat) : (m.sI s a i v).I s' a' i' = if s' = s ∧ a' = a ∧ i' = i then v else m.I s' a' i' := rfl
theorem R_sI (m : MM) (s a i : Nat) (v : Int32) : (m.sI s a i v).R = m.R := rfl
theorem J_sI (m : MM) (s a i : Nat) (v : Int32) : (m.sI s a i v).J = m.J := rfl
theorem K_sI (m : MM) (s a i : Nat) (v : Int32) : (m.sI s a i v).K = m.K := rfl
theorem N_sI (m : MM) (s a i : Nat) (v : Int32) : (m.sI s a i v).N = m.N := rfl
theorem S_sI (m : MM) (s a i : Nat) (v : Int32) : (m.sI s a i v).S = m.S := rfl
theorem I_sR (m : MM) (s a i : Nat) (v : Option Nat) : (m.sR s a i v).I = m.I := rfl
theorem R_sR (m : MM) (s a i : Nat) (v : Option Nat) (s' a' i' : Nat) : (m.sR s a i v).R s' a' i' = if s' = s ∧ a' = a ∧ i' = i then v else m.R s' a' i' := rfl
theorem J_sR (m : MM) (s a i : Nat) (v : Option Nat) : (m.sR s a i v).J = m.J := rfl
theorem K_sR (m : MM) (s a i : Nat) (v : Option Nat) : (m.sR s a i v).K = m.K := rfl
theorem N_sR (m : MM) (s a i : Nat) (v : Option Nat) : (m.sR s a i v).N = m.N := rfl
theorem S_sR (m : MM) (s a i : Nat) (v : Option Nat) : (m.sR s a i v).S = m.S := rfl
theorem I_sJ (m : MM) (s a i : Nat) (v : Int64) : (m.sJ s a i v).I = m.I := rfl
theorem R_sJ (m : MM) (s a i : Nat) (v : Int64) : (m.sJ s a i v).R = m.R := rfl
theorem J_sJ (m : MM) (s a i : Nat) (v : Int64) (s' a' i' : Nat) : (m.sJ s a i v).J s' a' i' = if s' = s ∧ a' = a ∧ i' = i then v else m.J s' a' i' := rfl
theorem K_sJ (m : MM) (s a i : Nat) (v : Int64) : (m.sJ s a i v).K = m.K := rfl
theorem N_sJ (m : MM) (s a i : Nat) (v : Int64) : (m.sJ s a i v).N = m.N := rfl
theorem S_sJ (m : MM) (s a i : Nat) (v : Int64) : (m.sJ s a i v).S = m.S := rfl
theorem mm_ext {m n : MM} (h1 : ∀ s a i, m.I s a i = n.I s a i) (h2 : ∀ s a i, m.R s a i = n.R s a i) (h3 : ∀ s a i, m.J s a i = n.J s a i) (h4 : m.K = n.K) (h5 : m.N = n.N) (h6 : m.S = n.S) : m = n := by
  obtain ⟨a1, a2, a3, a4, a5, a6⟩ := m
  obtain ⟨b1, b2, b3, b4, b5, b6⟩ := n
  have e1 : a1 = b1 := by funext s a i; exact h1 s a i
  have e2 : a2 = b2 := by funext s a i; exact h2 s a i
  have e3 : a3 = b3 := by funext s a i; exact h3 s a i
  have e4 : a4 = b4 := h4
  have e5 : a5 = b5 := h5
  have e6 : a6 = b6 := h6
  subst e1; subst e2; subst e3; subst e4; subst e5; subst e6
  rfl
/-! the words of the functions -/
section EV
variable {α β : Type} {m : MM} {r : Option Nat} {k a : Nat} {K : Nat → Option α}
theorem chk_t {c : Prop} [Decidable c] (h : c) {X : Option α} : chk c X = X := if_pos h
theorem ck_e (hr : r = some a) (h : m.K a = k) : ck m r k K = K a := by subst hr; exact if_pos h
theorem ck_s (h : m.K a = k) : ck m (some a) k K = K a := if_pos h
theorem ck_sI (s b i : Nat) (v : Int32) : ck (m.sI s b i v) r k K = ck m r k K := by cases r <;> rfl
theorem ck_sR (s b i : Nat) (v : Option Nat) : ck (m.sR s b i v) r k K = ck m r k K := by cases r <;> rfl
theorem ck_sJ (s b i : Nat) (v : Int64) : ck (m.sJ s b i v) r k K = ck m r k K := by cases r <;> rfl
theorem cal_s (x : α) (n : MM) (K : α → MM → Option β) : cal (some (x, n)) K = K x n := rfl
theorem bnd_e (v : α) (K : α → Option β) : bnd v K = K v := rfl
theorem ifn_s (a : Nat) (X : Option α) (K : Nat → Option α) : ifn (some a) X K = K a := rfl
theorem ifn_n (X : Option α) (K : Nat → Option α) : ifn none X K = X := rfl
end EV
/-! numbers -/
theorem cl_nI {n : Nat} (h : n < 2 ^ 31) : Int32.toNatClampNeg (nI n) = n := nI_clamp h
theorem inb_nI {j n : Nat} (h : j < n) (hn : n < 2 ^ 31) : inb (nI j) n = true := by
  simp only [inb, Bool.and_eq_true, decide_eq_true_eq]
  exact ⟨nI_pos' (by omega), by rw [nI_clamp (by omega)]; exact h⟩
theorem li_0 : (0 : Int32) = nI 0 := rfl
theorem li_1 : (1 : Int32) = nI 1 := rfl
theorem li_2 : (2 : Int32) = nI 2 := rfl
theorem li_3 : (3 : Int32) = nI 3 := rfl
theorem li_4 : (4 : Int32) = nI 4 := rfl
theorem li_5 : (5 : Int32) = nI 5 := rfl
theorem li_6 : (6 : Int32) = nI 6 := rfl
theorem li_7 : (7 : Int32) = nI 7 := rfl
theorem ofN (n : Nat) : Int32.ofNat n = nI n := rfl
/-- a loop whose states are known, one by one -/
theorem lp_run {σ ρ : Type} (L : Nat → σ → ρ) (S : Nat → σ) (N : Nat) (e : ρ) (hs : ∀ i, i < N → ∀ n, L (n + 1) (S i) = L n (S (i + 1))) (he : ∀ n, L (n + 1) (S N) = e) : ∀ n, N < n → L n (S 0) = e := by
  have key : ∀ d i, i + d = N → ∀ n, d < n → L n (S i) = e := by
    intro d
    induction d with
    | zero =>
      intro i hi n hn
      have e1 : i = N := by omega
      subst e1
      obtain ⟨k, rfl⟩ : ∃ k, n = k + 1 := ⟨n - 1, by omega⟩
      exact he k
    | succ d ih =>
      intro i hi n hn
      obtain ⟨k, rfl⟩ : ∃ k, n = k + 1 := ⟨n - 1, by omega⟩
      rw [hs i (by omega) k]
      exact ih (i + 1) (by omega) k (by omega)
  intro n hn
  exact key N 0 (by omega) n hn
/-! a table -/
def Tb (m : MM) (a n w s : Nat) : Prop := m.K a = 7 ∧ m.I 700 a 0 = nI n ∧ m.I 701 a 0 = nI w ∧ m.R 702 a 0 = some (a + 1) ∧ m.K (a + 1) = 22 ∧ m.N (a + 1) = n * w ∧ m.I 703 a 0 = nI s ∧ s ≤ n ∧ n ≤ 12 ∧ w ≤ 8
theorem cell_in {m : MM} {a n w s i c : Nat} (h : Tb m a n w s) (hi : i < s) (hc : c < w) : f_X6_cell a (nI i) (nI c) m = some (m.I 22 (a + 1) (i * w + c), m) := by
  obtain ⟨k1, k2, k3, k4, k5, k6, k7, k8, k9, k10⟩ := h
  have hlt : i * w + c < n * w := by
    have h1 : (i + 1) * w ≤ n * w := Nat.mul_le_mul_right w (by omega)
    rw [Nat.succ_mul] at h1
    omega
  have hnw : n * w ≤ 96 := Nat.mul_le_mul k9 k10
  have e1 : ¬ nI i < 0 := nI_pos (by omega)
  have e2 : ¬ nI s ≤ nI i := fun q => by have := (nI_leI (by omega) (by omega)).mp q; omega
  have e3 : ¬ nI c < 0 := nI_pos (by omega)
  have e4 : nI c < nI w := (nI_ltI (by omega) (by omega)).mpr hc
  have e5 : nI i * nI w + nI c = nI (i * w + c) := by rw [pk_mul, nI_add]
  have e6 : ¬ nI (n * w) ≤ nI (i * w + c) := fun q => by have := (nI_leI (by omega) (by omega)).mp q; omega
  simp only [g_X6_cell_0, f_X6_cell, chk_t, ck_sI, ck_sR, ck_sJ, cal_s, bnd_e, ifn_s, ifn_n, k1, k7, if_neg e1, if_neg e2, if_neg e3, k3, if_pos e4, e5, ck_e k4 k5, k6, ofN, if_neg e6, chk_t (inb_nI hlt (by omega)), cl_nI (show i * w + c < 2 ^ 31 by omega)]
theorem cell_out {m : MM} {a n w s : Nat} {r c : Int32} (h : Tb m a n w s) (hr : r < 0 ∨ nI s ≤ r) : f_X6_cell a r c m = some (-1, m) := by
  obtain ⟨k1, k2, k3, k4, k5, k6, k7, k8, k9, k10⟩ := h
  by_cases e1 : r < 0
  · simp only [g_X6_cell_0, f_X6_cell, chk_t, ck_sI, ck_sR, ck_sJ, cal_s, bnd_e, ifn_s, ifn_n, if_pos e1]
  · have e2 : nI s ≤ r := hr.resolve_left e1
    simp only [g_X6_cell_0, f_X6_cell, chk_t, ck_sI, ck_sR, ck_sJ, cal_s, bnd_e, ifn_s, ifn_n, k1, k7, if_neg e1, if_pos e2]
