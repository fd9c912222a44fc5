/-! the lowest bit of a long -/
theorem low_ex (M : Int64) (h : M ≠ 0) : ∃ t, t < 64 ∧ btL M t = true ∧ ∀ j, j < t → btL M j = false := by
  have key : ∀ n, n ≤ 64 → (∀ j, j < n → btL M j = false) ∨ ∃ t, t < n ∧ btL M t = true ∧ ∀ j, j < t → btL M j = false := by
    intro n
    induction n with
    | zero => intro _; exact .inl (fun j hj => by omega)
    | succ n ih =>
      intro hn
      rcases ih (by omega) with q | ⟨t, h1, h2, h3⟩
      · cases hb : btL M n with
        | true => exact .inr ⟨n, by omega, hb, q⟩
        | false =>
          refine .inl (fun j hj => ?_)
          by_cases z : j = n
          · rw [z]; exact hb
          · exact q j (by omega)
      · exact .inr ⟨t, by omega, h2, h3⟩
  rcases key 64 (by omega) with q | q
  · exact absurd (btL_ext (fun i hi => by rw [q i hi, btL_0])) h
  · exact q
theorem tN_tb (M : Int64) (j : Nat) : (tN M).testBit j = btL M j := rfl
theorem tN_neg (M : Int64) (h : tN M ≠ 0) : tN (-M) = 2 ^ 64 - tN M := by
  have h1 := tN_lt M
  unfold tN at *
  rw [Int64.toBitVec_neg, BitVec.toNat_neg, Nat.mod_eq_of_lt (by omega)]
theorem lowL (M : Int64) {t : Nat} (ht : t < 64) (h1 : btL M t = true) (h2 : ∀ j, j < t → btL M j = false) : blv ((M &&& (-M)) - 1) = nI t := by
  have hX := tN_lt M
  have hd : ∃ a, tN M = 2 ^ t * (2 * a + 1) := by
    refine ⟨tN M / 2 ^ (t + 1), ?_⟩
    have e1 : tN M % 2 ^ t = 0 := by
      apply Nat.eq_of_testBit_eq
      intro j
      rw [Nat.testBit_mod_two_pow, Nat.zero_testBit]
      by_cases z : j < t
      · rw [decide_eq_true z, Bool.true_and]; exact h2 j z
      · rw [decide_eq_false z, Bool.false_and]
    have e2 : tN M / 2 ^ t % 2 = 1 := by
      have : (tN M).testBit t = true := h1
      rw [Nat.testBit_eq_decide_div_mod_eq] at this
      exact of_decide_eq_true this
    have e3 : tN M / 2 ^ (t + 1) = tN M / 2 ^ t / 2 := by rw [Nat.pow_succ, Nat.div_div_eq_div_mul]
    rw [e3]
    have e4 : 2 * (tN M / 2 ^ t / 2) + 1 = tN M / 2 ^ t := by omega
    rw [e4]
    have := Nat.div_add_mod (tN M) (2 ^ t)
    omega
  obtain ⟨a, ha⟩ := hd
  have hpt : 0 < 2 ^ t := Nat.pow_pos (by omega)
  have hM0 : tN M ≠ 0 := by
    rw [ha]
    exact Nat.pos_iff_ne_zero.mp (Nat.mul_pos hpt (by omega))
  have h64 : 2 ^ 64 = 2 ^ t * 2 ^ (64 - t) := by rw [← Nat.pow_add]; congr 1; omega
  have hs : 2 ^ (64 - t) = 2 * 2 ^ (63 - t) := by rw [show 64 - t = (63 - t) + 1 by omega, Nat.pow_succ]; omega
  have hal : a < 2 ^ (63 - t) := by
    rw [ha, h64, hs] at hX
    have := Nat.lt_of_mul_lt_mul_left hX
    omega
  have hneg : tN (-M) = 2 ^ t * (2 * (2 ^ (63 - t) - (a + 1)) + 1) := by
    rw [tN_neg M hM0, ha, h64, ← Nat.mul_sub, hs]
    congr 1
    omega
  have tb2 : ∀ (c j : Nat), (2 ^ t * (2 * c + 1)).testBit j = if j < t then false else if j = t then true else c.testBit (j - t - 1) := by
    intro c j
    rw [Nat.testBit_two_pow_mul]
    by_cases z : j < t
    · rw [if_pos z, decide_eq_false (by omega), Bool.false_and]
    · rw [if_neg z, decide_eq_true (by omega), Bool.true_and]
      by_cases y : j = t
      · rw [if_pos y, y, Nat.sub_self]
        rw [Nat.testBit_zero]
        simp
      · rw [if_neg y]
        obtain ⟨e, he⟩ : ∃ e, j - t = e + 1 := ⟨j - t - 1, by omega⟩
        rw [he, Nat.testBit_succ, show (2 * c + 1) / 2 = c by omega]
        rfl
  have hand : tN (M &&& (-M)) = 2 ^ t := by
    rw [tN_and, ha, hneg]
    apply Nat.eq_of_testBit_eq
    intro j
    rw [Nat.testBit_and, tb2, tb2, Nat.testBit_two_pow]
    by_cases z : j < t
    · rw [if_pos z, if_pos z, decide_eq_false (by omega)]; rfl
    · rw [if_neg z, if_neg z]
      by_cases y : j = t
      · rw [if_pos y, if_pos y, decide_eq_true y.symm]; rfl
      · rw [if_neg y, if_neg y, decide_eq_false (fun q => y q.symm), Nat.testBit_two_pow_sub_succ hal]
        cases a.testBit (j - t - 1) <;> simp
  have hsub : tN ((M &&& (-M)) - 1) = 2 ^ t - 1 := by
    have o1 : tN 1 = 1 := by decide
    rw [tN_sub, hand, o1]
    rw [hand, o1]
    omega
  rw [blv_e]
  congr 1
  have hb : ∀ j, btL ((M &&& (-M)) - 1) j = decide (j < t) := by
    intro j
    show (tN ((M &&& (-M)) - 1)).testBit j = _
    rw [hsub, Nat.testBit_two_pow_sub_one]
  have cnt : ∀ n, cntB (btL ((M &&& (-M)) - 1)) n = min n t := by
    intro n
    induction n with
    | zero => show 0 = _; omega
    | succ n ih =>
      rw [cntB_s, ih, hb n]
      by_cases z : n < t
      · rw [decide_eq_true z]; show min n t + 1 = _; omega
      · rw [decide_eq_false z]; show min n t + 0 = _; omega
  rw [cnt 64]
  omega
/-! guests that are seated -/
def gsC (T : TW) (B : LW) (d : Nat) (wo : Int32) (kk : Nat → Nat) (ff : Nat → Int32) (i p k q : Nat) : Bool := clB T B 0 (bt 255) (clL T d) wo (gst (kk i) (ff i) p) (gst (kk k) (ff k) q)
def pwB (A : Nat → Nat → Bool) (cl : Nat → Nat → Nat → Nat → Bool) (i j p q : Nat) : Bool := A j q && (!decide (p = q) && !cl i p j q)
theorem Bo.gi {m n : MM} {x e i : Nat} {b : BD} (h : Bo m (x + 101 + e) b) (o : Gi x i m n) (hei : e ≠ i) : Bo n (x + 101 + e) b := h.kept (by rw [o.1]) (fun s => o.2.2.2.2.2 _ _ _ (by omega))
theorem fo_none {α : Type} {f : Nat → Option α} : ∀ {c i : Nat}, (∀ j, i ≤ j → j < i + c → f j = none) → fo f c i = none
  | 0, _, _ => rfl
  | c + 1, i, h => by
    rw [fo_f (h i (by omega) (by omega))]
    exact fo_none (fun j h1 h2 => h j (by omega) (by omega))
theorem fo_at {α : Type} {f : Nat → Option α} {t : Nat} {v : α} (h1 : f t = some v) : ∀ {c i : Nat}, i ≤ t → t < i + c → (∀ j, i ≤ j → j < t → f j = none) → fo f c i = some v
  | 0, _, h2, h3, _ => by omega
  | c + 1, i, h2, h3, h4 => by
    by_cases z : i = t
    · subst z; exact fo_t h1
    · rw [fo_f (h4 i (Nat.le_refl i) (by omega))]
      exact fo_at h1 (by omega) (by omega) (fun j j1 j2 => h4 j (by omega) j2)
