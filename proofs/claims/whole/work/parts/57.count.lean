/-! how many bits -/
def bcv (x0 : Int32) : Int32 := (let y1 := x0 - ((iush x0 1) &&& 1431655765); let y2 := (y1 &&& 858993459) + ((iush y1 2) &&& 858993459); let y3 := (y2 + (iush y2 4)) &&& 252645135; let y4 := y3 + (iush y3 8); let y5 := y4 + (iush y4 16); y5 &&& 63)
theorem j_bitCount (p : Int32) (m : MM) : f_J6_bitCount_0f7a4 p m = some (bcv p, m) := rfl
def pcN (s : Nat) : Nat := s % 2 + s / 2 % 2 + s / 4 % 2 + s / 8 % 2 + s / 16 % 2 + s / 32 % 2 + s / 64 % 2 + s / 128 % 2 + s / 256 % 2 + s / 512 % 2 + s / 1024 % 2 + s / 2048 % 2
theorem bcv_k2 : ∀ a, a < 64 → ∀ b, b < 64 → bcv (nI (64 * a + b)) = nI (pcN (64 * a + b)) := by decide +kernel
theorem bcv_k {s : Nat} (h : s < 4096) : bcv (nI s) = nI (pcN s) := by
  have := bcv_k2 (s / 64) (by omega) (s % 64) (by omega)
  rw [show 64 * (s / 64) + s % 64 = s by omega] at this
  exact this
theorem bN_md (s k : Nat) : bN (s.testBit k) = s / 2 ^ k % 2 := by
  rw [Nat.testBit_eq_decide_div_mod_eq]
  have : s / 2 ^ k % 2 = 0 ∨ s / 2 ^ k % 2 = 1 := by omega
  rcases this with q | q <;> rw [q] <;> rfl
theorem pcN_c (s : Nat) : pcN s = cntB (fun i => s.testBit i) 12 := by
  simp only [cntB_s, bN_md]
  show _ = 0 + s / 1 % 2 + s / 2 % 2 + s / 4 % 2 + s / 8 % 2 + s / 16 % 2 + s / 32 % 2 + s / 64 % 2 + s / 128 % 2 + s / 256 % 2 + s / 512 % 2 + s / 1024 % 2 + s / 2048 % 2
  unfold pcN
  rw [Nat.div_one, Nat.zero_add]
theorem lowN {p : Int32} (h : ∀ i, 12 ≤ i → i < 32 → bt p i = false) : ∃ s, s < 4096 ∧ p = nI s := by
  refine ⟨p.toBitVec.toNat, ?_, ?_⟩
  · apply Nat.lt_pow_two_of_testBit (n := 12)
    intro i hi
    rcases Nat.lt_or_ge i 32 with q | q
    · exact h i hi q
    · exact BitVec.getLsbD_of_ge p.toBitVec i q
  · apply bt_ext
    intro i hi
    rw [bt_nI _ i hi]
    rfl
theorem bc_low {p : Int32} (h : ∀ i, 12 ≤ i → i < 32 → bt p i = false) : bcv p = nI (cntB (bt p) 12) := by
  obtain ⟨s, hs, e⟩ := lowN h
  subst e
  rw [bcv_k hs, pcN_c]
  congr 1
  exact cntB_congr 12 (fun i hi => (bt_nI s i (by omega)).symm)
theorem cntB_ex {P : Nat → Bool} {n : Nat} : ∀ k, n ≤ k → cntB (fun i => decide (i < n) && P i) k = cntB P n := by
  intro k
  induction k with
  | zero => intro h; have : n = 0 := by omega
            subst this; rfl
  | succ k ih =>
    intro h
    rcases Nat.lt_or_ge k n with q | q
    · have : n = k + 1 := by omega
      subst this
      exact cntB_congr (k + 1) (fun i hi => by rw [decide_eq_true hi, Bool.true_and])
    · rw [cntB_s, ih q, decide_eq_false (by omega)]
      rfl
theorem bc_mks {P : Nat → Bool} {n : Nat} (hn : n ≤ 12) : bcv (mks P n) = nI (cntB P n) := by
  rw [bc_low (fun i h1 h2 => by rw [bt_mks (by omega) i h2, decide_eq_false (by omega), Bool.false_and])]
  congr 1
  rw [← cntB_ex (P := P) 12 hn]
  exact cntB_congr 12 (fun i hi => bt_mks (by omega) i (by omega))
