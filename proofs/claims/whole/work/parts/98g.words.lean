/-! words -/
def wsT (k : Nat) : List Nat := (skB.getD k []).map (fun v => v.toNatClampNeg)
theorem ws_len : ∀ k, k < 19 → (wsT k).length = skL.getD k 0 := by decide +kernel
theorem ws_at : ∀ k, k < 19 → ∀ i, i < skL.getD k 0 → (skB.getD k []).getD i 0 = nI ((wsT k).getD i 0) ∧ (wsT k).getD i 0 < 256 := by decide +kernel
theorem ws_le : ∀ k, k < 19 → skL.getD k 0 ≤ 6 ∧ 0 < skL.getD k 0 := by decide +kernel
def wdT (X : Tx) (p k : Nat) : Bool := decide (tkK X p = 1 ∧ tkW X p = wsT k)
theorem tkW_len (X : Tx) (p : Nat) : (tkW X p).length = tkL X p - tkS X p := by unfold tkW; rw [List.length_map, List.length_range]
theorem tkW_at {X : Tx} {p i : Nat} (h : i < tkL X p - tkS X p) : (tkW X p).getD i 0 = X.1 (tkS X p + i) := by
  unfold tkW
  rw [List.getD_eq_getElem?_getD, List.getElem?_map, List.getElem?_range h]
  rfl
theorem li_ext {a b : List Nat} (h1 : a.length = b.length) (h2 : ∀ i, i < a.length → a.getD i 0 = b.getD i 0) : a = b := by
  apply List.ext_getElem h1
  intro i g1 g2
  have := h2 i g1
  rw [List.getD_eq_getElem?_getD, List.getD_eq_getElem?_getD, List.getElem?_eq_getElem g1, List.getElem?_eq_getElem g2] at this
  exact this
theorem tkN_1 {X : Tx} {p : Nat} (h : tkK X p = 1) : tkN X p = tkL X p := by
  unfold tkK at h
  unfold tkN
  split at h
  · cases h
  · rename_i e1
    rw [if_neg e1]
    split at h
    · cases h
    · rename_i e2
      rw [if_neg e2]
      split at h
      · rename_i e3
        rw [if_pos e3]
      · split at h
        · split at h <;> cases h
        · cases h
theorem tkL_le {X : Tx} {p : Nat} (h : p ≤ X.2) : tkL X p ≤ X.2 := tkE_le _ (tkS_le h)
theorem tkK_lt (X : Tx) (p : Nat) : tkK X p < 5 := by
  unfold tkK
  split
  · omega
  · split
    · omega
    · split
      · omega
      · split
        · split <;> omega
        · omega
theorem c_isWord0 {X : Tx} {x : Nat} {m : MM} (h : CB X x m) {p k : Nat} (hp : p ≤ X.2) (t : CTk X x m p) (hk : k < 19) : f_X4_isWord (x + 60) k m = some (bI (wdT X p k), m) := by
  have h15 := h.2.2.2.2.2.2.2.2.2.2.2.2.2.2.1
  have h16 := h.2.2.2.2.2.2.2.2.2.2.2.2.2.2.2
  have hl := ws_le k hk
  have hL := ws_len k hk
  unfold f_X4_isWord g_X4_isWord_0
  rw [chk_t h.1, t.1]
  have kl := tkK_lt X p
  by_cases e1 : tkK X p = 1
  · rw [e1, if_pos (show nI 1 = 1 from rfl), chk_t (show k < skN from hk)]
    unfold f_strlen
    rw [cal_s, t.2.2.1, t.2.1, tkN_1 e1]
    have g1 : tkS X p ≤ tkL X p := tkE_ge _ _ _
    have g2 := tkL_le hp
    rw [nI_sb g1, ofN]
    by_cases e2 : tkL X p - tkS X p = skL.getD k 0
    · rw [if_pos (by rw [e2])]
      have key : l_X4_isWord_28 (x + 60) k FU (nI 0) m = if (List.range (skL.getD k 0)).any (fun i => decide (X.1 (tkS X p + i) ≠ (wsT k).getD i 0)) then some (0, m) else some (1, m) := by
        refine lp_any (fun n i => l_X4_isWord_28 (x + 60) k n i m) _ (some (0, m)) (some (1, m)) (skL.getD k 0) (fun i hi n => ?_) (fun n => ?_) (by unfold FU; omega)
        · show g_X4_isWord_28 (x + 60) k (l_X4_isWord_28 (x + 60) k n) (nI i) m = _
          unfold g_X4_isWord_28 f_strlen f_strchr
          obtain ⟨w1, w2⟩ := ws_at k hk i hi
          have hb := h16 (tkS X p + i)
          rw [chk_t (show k < skN from hk), cal_s, ofN, if_neg (nI_ge hi (by omega)), chk_t h.1, t.2.1, nI_add, c_byteAt h (show tkS X p + i < X.2 by omega), cal_s, chk_t (show k < skN from hk), chk_t (inb_nI hi (by omega)), cal_s, cl_nI (by omega), w1, nI_1]
          by_cases e3 : X.1 (tkS X p + i) = (wsT k).getD i 0
          · rw [if_pos (by rw [e3]), decide_eq_false (fun q => q e3)]; rfl
          · rw [if_neg (fun q => e3 (nI_inj (by omega) (by omega) q)), decide_eq_true e3]; rfl
        · show g_X4_isWord_28 (x + 60) k (l_X4_isWord_28 (x + 60) k n) (nI (skL.getD k 0)) m = _
          unfold g_X4_isWord_28 f_strlen
          rw [chk_t (show k < skN from hk), cal_s, ofN, if_pos (Int32.le_refl _)]
      refine key.trans ?_
      by_cases e4 : tkW X p = wsT k
      · rw [show wdT X p k = true from decide_eq_true ⟨e1, e4⟩]
        rw [show (List.range (skL.getD k 0)).any (fun i => decide (X.1 (tkS X p + i) ≠ (wsT k).getD i 0)) = false from anyF.mpr (fun i hi => by
          rw [← tkW_at (show i < tkL X p - tkS X p by omega), e4]
          exact decide_eq_false (fun q => q rfl))]
        rfl
      · rw [show wdT X p k = false from decide_eq_false (fun q => e4 q.2)]
        rw [show (List.range (skL.getD k 0)).any (fun i => decide (X.1 (tkS X p + i) ≠ (wsT k).getD i 0)) = true from by
          cases hq : (List.range (skL.getD k 0)).any (fun i => decide (X.1 (tkS X p + i) ≠ (wsT k).getD i 0)) with
          | true => rfl
          | false =>
            exfalso
            apply e4
            refine li_ext (by rw [tkW_len, hL, e2]) (fun i hi => ?_)
            rw [tkW_len] at hi
            have := anyF.mp hq i (by omega)
            rw [tkW_at hi]
            simpa using this]
        rfl
    · rw [if_neg (fun q => e2 (nI_inj (by omega) (by omega) q)), show wdT X p k = false from decide_eq_false (fun q => e2 (by rw [← tkW_len, q.2, hL]))]
      rfl
  · rw [if_neg (nl (v := 1) (k := 1) rfl e1 (by omega) (by omega)), show wdT X p k = false from decide_eq_false (fun q => e1 q.1)]
    rfl
/-! the reference's words: their letters as one number -/
def cdT : List Nat → Nat
  | [] => 0
  | c :: l => cdT l + c * 256 ^ l.length
theorem cdT_lt : ∀ l : List Nat, (∀ c, c ∈ l → c < 256) → cdT l < 256 ^ l.length
  | [], _ => by show 0 < 1; omega
  | c :: l, h => by
    have h1 := cdT_lt l (fun d hd => h d (List.mem_cons_of_mem _ hd))
    have h2 := h c (List.mem_cons_self)
    show cdT l + c * 256 ^ l.length < 256 ^ (l.length + 1)
    rw [Nat.pow_succ]
    have : (c + 1) * 256 ^ l.length ≤ 256 * 256 ^ l.length := Nat.mul_le_mul_right _ h2
    rw [Nat.succ_mul] at this
    omega
theorem cdT_ge (c : Nat) (l : List Nat) (hc : 0 < c) : 256 ^ l.length ≤ cdT (c :: l) := by
  show _ ≤ cdT l + c * 256 ^ l.length
  have : 1 * 256 ^ l.length ≤ c * 256 ^ l.length := Nat.mul_le_mul_right _ hc
  omega
theorem cdT_inj : ∀ a b : List Nat, (∀ c, c ∈ a → 0 < c ∧ c < 256) → (∀ c, c ∈ b → 0 < c ∧ c < 256) → cdT a = cdT b → a = b
  | [], [], _, _, _ => rfl
  | [], c :: l, _, hb, e => by
    have := cdT_ge c l (hb c List.mem_cons_self).1
    have h0 : 0 < 256 ^ l.length := Nat.pow_pos (by omega)
    rw [← e] at this
    have e0 : cdT [] = 0 := rfl
    omega
  | c :: l, [], ha, _, e => by
    have := cdT_ge c l (ha c List.mem_cons_self).1
    have h0 : 0 < 256 ^ l.length := Nat.pow_pos (by omega)
    rw [e] at this
    have e0 : cdT [] = 0 := rfl
    omega
  | c :: l, d :: k, ha, hb, e => by
    have a1 := cdT_lt (c :: l) (fun d hd => (ha d hd).2)
    have b1 := cdT_lt (d :: k) (fun d hd => (hb d hd).2)
    have a2 := cdT_ge c l (ha c List.mem_cons_self).1
    have b2 := cdT_ge d k (hb d List.mem_cons_self).1
    have hlen : l.length = k.length := by
      rcases Nat.lt_trichotomy l.length k.length with q | q | q
      · have : 256 ^ (l.length + 1) ≤ 256 ^ k.length := Nat.pow_le_pow_right (by omega) q
        have a1' : cdT (c :: l) < 256 ^ (l.length + 1) := a1
        omega
      · exact q
      · have : 256 ^ (k.length + 1) ≤ 256 ^ l.length := Nat.pow_le_pow_right (by omega) q
        have b1' : cdT (d :: k) < 256 ^ (k.length + 1) := b1
        omega
    have a3 := cdT_lt l (fun d hd => (ha d (List.mem_cons_of_mem _ hd)).2)
    have b3 := cdT_lt k (fun d hd => (hb d (List.mem_cons_of_mem _ hd)).2)
    have e' : cdT l + c * 256 ^ l.length = cdT k + d * 256 ^ k.length := e
    rw [hlen] at e' a3
    have hcd : c = d := by
      have h1 : (cdT l + c * 256 ^ k.length) / 256 ^ k.length = c := by rw [Nat.add_mul_div_right _ _ (Nat.pow_pos (by omega)), Nat.div_eq_of_lt a3, Nat.zero_add]
      have h2 : (cdT k + d * 256 ^ k.length) / 256 ^ k.length = d := by rw [Nat.add_mul_div_right _ _ (Nat.pow_pos (by omega)), Nat.div_eq_of_lt b3, Nat.zero_add]
      rw [← h1, e', h2]
    subst hcd
    have : cdT l = cdT k := by omega
    rw [cdT_inj l k (fun d hd => ha d (List.mem_cons_of_mem _ hd)) (fun d hd => hb d (List.mem_cons_of_mem _ hd)) this]
theorem cdT_app : ∀ (l : List Nat) (c : Nat), cdT (l ++ [c]) = cdT l * 256 + c
  | [], c => by show 0 + c * 256 ^ 0 = 0 * 256 + c; omega
  | d :: l, c => by
    show cdT (l ++ [c]) + d * 256 ^ (l ++ [c]).length = (cdT l + d * 256 ^ l.length) * 256 + c
    rw [cdT_app l c, List.length_append, show [c].length = 1 from rfl, Nat.pow_succ, Nat.add_mul, ← Nat.mul_assoc]
    omega
/-- the letters from a place on -/
def lwT (b : Nat → Nat) (s n : Nat) : List Nat := (List.range n).map (fun i => b (s + i))
theorem lwT_s (b : Nat → Nat) (s n : Nat) : lwT b s (n + 1) = lwT b s n ++ [b (s + n)] := by unfold lwT; rw [List.range_succ, List.map_append]; rfl
theorem lwT_len (b : Nat → Nat) (s n : Nat) : (lwT b s n).length = n := by unfold lwT; rw [List.length_map, List.length_range]
theorem isLe_e {c : Nat} (h : isLe c = true) : 97 ≤ c ∧ c ≤ 122 := by simpa [isLe] using h
theorem lwT_in {b : Nat → Nat} {s n : Nat} (h : ∀ i, i < n → isLe (b (s + i)) = true) : ∀ c, c ∈ lwT b s n → 0 < c ∧ c < 256 := by
  intro c hc
  unfold lwT at hc
  obtain ⟨i, hi, e⟩ := List.mem_map.mp hc
  have := isLe_e (h i (List.mem_range.mp hi))
  rw [← e]
  omega
theorem tN_inj {x y : Int64} (h : tN x = tN y) : x = y := Int64.toBitVec_inj.mp (BitVec.eq_of_toNat_eq h)
theorem lg_eq (p q : Int64) : (lg_cmp p q = 0) ↔ p = q := by
  unfold lg_cmp
  by_cases h1 : p > q
  · rw [if_pos h1]
    constructor
    · intro z; exact absurd z (by decide)
    · intro z; subst z; exact absurd h1 (fun u => Int64.lt_irrefl u)
  · rw [if_neg h1]
    by_cases h2 : p = q
    · rw [if_pos h2]; exact ⟨fun _ => h2, fun _ => rfl⟩
    · rw [if_neg h2]; exact ⟨fun z => absurd z (by decide), fun z => absurd z h2⟩
/-- what the reference keeps of a word -/
def JW (X : Tx) (p : Nat) (j : Int64) : Prop := if (tkW X p).length ≤ 8 then tN j = cdT (tkW X p) else j = 0
theorem ws_in : ∀ k, k < 19 → ∀ c, c ∈ wsT k → 0 < c ∧ c < 256 := by decide +kernel
def wcT (k : Nat) : Int64 := Int64.ofNat (cdT (wsT k))
theorem wc_n : ∀ k, k < 19 → tN (wcT k) = cdT (wsT k) ∧ wcT k ≠ 0 := by decide +kernel
theorem tkW_in (X : Tx) (p : Nat) : ∀ c, c ∈ tkW X p → 0 < c ∧ c < 256 := lwT_in (b := X.1) (s := tkS X p) (n := tkL X p - tkS X p) (fun i hi => tkE_in isLe X (tkS X p) (by omega) (show tkS X p + i < tkL X p by omega))
theorem jw_eq {X : Tx} {p k : Nat} {j : Int64} (h : JW X p j) (hk : k < 19) : (lg_cmp j (wcT k) = 0) ↔ tkW X p = wsT k := by
  rw [lg_eq]
  obtain ⟨w1, w2⟩ := wc_n k hk
  unfold JW at h
  constructor
  · intro e
    by_cases l : (tkW X p).length ≤ 8
    · rw [if_pos l] at h
      exact cdT_inj _ _ (tkW_in X p) (ws_in k hk) (by rw [← h, e, w1])
    · rw [if_neg l] at h
      exact absurd (e.symm.trans h) w2
  · intro e
    rw [if_pos (by rw [e, ws_len k hk]; have := ws_le k hk; omega)] at h
    exact tN_inj (by rw [h, e, w1])
