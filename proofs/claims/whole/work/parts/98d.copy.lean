/-! the reference copies a slot -/
theorem r_move {m : MM} {a z p q : Nat} (hK : m.K a = 22) (hz : z < 100) (hp : p < 4) (hq : q < 4) (hpq : p ≠ q) (hN : 4 * z ≤ m.N a) (hN2 : m.N a < 2 ^ 31) : ∃ n, f_X10_move (some a) (nI z) (nI p) (nI q) m = some ((), n) ∧ n.K = m.K ∧ n.N = m.N ∧ n.S = m.S ∧ n.R = m.R ∧ (∀ s b i, ¬ (s = 22 ∧ b = a ∧ z * q ≤ i ∧ i < z * q + z) → n.I s b i = m.I s b i) ∧ ∀ i, i < z → n.I 22 a (z * q + i) = m.I 22 a (z * p + i) := by
  have zp : z * p + z ≤ 4 * z := by have : z * (p + 1) ≤ z * 4 := Nat.mul_le_mul_left z (by omega); rw [Nat.mul_succ] at this; omega
  have zq : z * q + z ≤ 4 * z := by have : z * (q + 1) ≤ z * 4 := Nat.mul_le_mul_left z (by omega); rw [Nat.mul_succ] at this; omega
  have apart : ∀ i j, i < z → j < z → z * p + i ≠ z * q + j := by
    intro i j hi hj e
    rcases Nat.lt_or_gt_of_ne hpq with h | h
    · have : z * (p + 1) ≤ z * q := Nat.mul_le_mul_left z h
      rw [Nat.mul_succ] at this; omega
    · have : z * (q + 1) ≤ z * p := Nat.mul_le_mul_left z h
      rw [Nat.mul_succ] at this; omega
  obtain ⟨s, ⟨q1, q2, q3, q4, q5, q6⟩, q7⟩ := lp_inv (fun n c (s : MM) => l_X10_move_3 (some a) (nI z) (nI p) (nI q) n c s) (fun c s => s.K = m.K ∧ s.N = m.N ∧ s.S = m.S ∧ s.R = m.R ∧ (∀ s' b i, ¬ (s' = 22 ∧ b = a ∧ z * q ≤ i ∧ i < z * q + c) → s.I s' b i = m.I s' b i) ∧ ∀ i, i < c → s.I 22 a (z * q + i) = m.I 22 a (z * p + i)) (fun s => some ((), s)) z (fun c hc s hI => by
    obtain ⟨a1, a2, a3, a4, a5, a6⟩ := hI
    have ap := apart c
    have v : s.I 22 a (z * p + c) = m.I 22 a (z * p + c) := a5 _ _ _ (fun y => by
      have := apart c (z * p + c - z * q) hc (by omega)
      omega)
    refine ⟨s.sI 22 a (z * q + c) (m.I 22 a (z * p + c)), ⟨a1, a2, a3, a4, fun s' b i hh => ?_, fun i hi => ?_⟩, fun n => ?_⟩
    · rw [I_sI, if_neg (fun y => hh ⟨y.1, y.2.1, by omega, by omega⟩)]
      exact a5 s' b i (fun y => hh ⟨y.1, y.2.1, y.2.2.1, by omega⟩)
    · by_cases y : i = c
      · rw [y, I_sI, if_pos ⟨rfl, rfl, rfl⟩]
      · rw [I_sI, if_neg (by omega)]; exact a6 i (by omega)
    · show g_X10_move_3 (some a) (nI z) (nI p) (nI q) (l_X10_move_3 (some a) (nI z) (nI p) (nI q) n) (nI c) s = _
      unfold g_X10_move_3
      have e1 : nI z * nI p + nI c = nI (z * p + c) := by rw [pk_mul, nI_add]
      have e2 : nI z * nI q + nI c = nI (z * q + c) := by rw [pk_mul, nI_add]
      rw [if_neg (nI_ge hc (by omega)), ck_s (show s.K a = 22 from by rw [a1]; exact hK), a2, e1, e2, chk_t (inb_nI (show z * p + c < m.N a by omega) hN2), chk_t (inb_nI (show z * q + c < m.N a by omega) hN2), bnd_e, cl_nI (show z * p + c < 2 ^ 31 by omega), cl_nI (show z * q + c < 2 ^ 31 by omega), v, nI_1]) (fun s hI n => by
    show g_X10_move_3 (some a) (nI z) (nI p) (nI q) (l_X10_move_3 (some a) (nI z) (nI p) (nI q) n) (nI z) s = _
    unfold g_X10_move_3
    rw [if_pos (Int32.le_refl _)]) (s0 := m) ⟨rfl, rfl, rfl, rfl, fun _ _ _ _ => rfl, fun i hi => by omega⟩
  exact ⟨s, q7 FU (by unfold FU; omega), q1, q2, q3, q4, q5, q6⟩
/-- slot p has been copied to slot q in the arrays below j -/
def Cq (m : MM) (y p q j : Nat) (n : MM) : Prop := n.K = m.K ∧ n.N = m.N ∧ n.S = m.S ∧ n.R = m.R ∧ (∀ s a i, ¬ (y + 1 ≤ a ∧ a < y + j) → n.I s a i = m.I s a i) ∧ (∀ d, 2 ≤ d → d < j → (∀ i, i < zsz d → n.I 22 (y + d) (zsz d * q + i) = m.I 22 (y + d) (zsz d * p + i)) ∧ ∀ i, ¬ (zsz d * q ≤ i ∧ i < zsz d * q + zsz d) → n.I 22 (y + d) i = m.I 22 (y + d) i) ∧ (∀ i, i < 500 → n.I 21 (y + 1) (500 * q + i) = cvB (m.I 21 (y + 1) (500 * p + i))) ∧ ∀ i, ¬ (500 * q ≤ i ∧ i < 500 * q + 500) → n.I 21 (y + 1) i = m.I 21 (y + 1) i
theorem Cq.step {m n : MM} {y p q j f z l : Nat} (h : Cq m y p q j n) (hM : Md m y) (hm : (f, j, 22, l) ∈ mdL) (hj : 2 ≤ j) (hz : zsz j = z) (hz2 : z < 100) (hl : 4 * z ≤ l) (hl2 : l < 2000) (hp : p < 4) (hq : q < 4) (hpq : p ≠ q) : ∃ n', f_X10_move (n.R f y 0) (nI z) (nI p) (nI q) n = some ((), n') ∧ Cq m y p q (j + 1) n' := by
  obtain ⟨h1, h2, h3, h4, h5, h6, h7, h8⟩ := h
  obtain ⟨m1, m2, m3⟩ := hM.2 _ hm
  have m1 : m.R f y 0 = some (y + j) := m1
  have m2 : m.K (y + j) = 22 := m2
  have m3 : m.N (y + j) = l := m3
  obtain ⟨n', e1, e2, e3, e4, e5, e6, e7⟩ := r_move (m := n) (a := y + j) (z := z) (p := p) (q := q) (by rw [h1]; exact m2) hz2 hp hq hpq (by rw [h2, m3]; exact hl) (by rw [h2, m3]; omega)
  refine ⟨n', by rw [h4, m1]; exact e1, e2.trans h1, e3.trans h2, e4.trans h3, e5.trans h4, fun s a i hh => ?_, fun d d1 d2 => ?_, fun i hi => ?_, fun i hi => ?_⟩
  · rw [e6 _ _ _ (fun c => by omega)]; exact h5 s a i (by omega)
  · by_cases c : d = j
    · subst c
      rw [hz]
      refine ⟨fun i hi => ?_, fun i hi => ?_⟩
      · rw [e7 i hi]; exact h5 _ _ _ (by omega)
      · rw [e6 _ _ _ (fun c => hi c.2.2)]; exact h5 _ _ _ (by omega)
    · obtain ⟨g1, g2⟩ := h6 d d1 (by omega)
      exact ⟨fun i hi => by rw [e6 _ _ _ (fun c => by omega)]; exact g1 i hi, fun i hi => by rw [e6 _ _ _ (fun c => by omega)]; exact g2 i hi⟩
  · rw [e6 _ _ _ (fun c => by omega)]; exact h7 i hi
  · rw [e6 _ _ _ (fun c => by omega)]; exact h8 i hi
theorem r_tape {m : MM} {y p q : Nat} (hM : Md m y) (hp : p < 4) (hq : q < 4) (hpq : p ≠ q) : ∃ n, Cq m y p q 2 n ∧ ∀ K, l_X10_copy_2 y (nI p) (nI q) K FU 0 m = K n := by
  obtain ⟨s, ⟨q1, q2, q3, q4, q5, q6⟩, q7⟩ := lp_inv (fun n c (s : MM) => fun (K : MM → Option (Unit × MM)) => l_X10_copy_2 y (nI p) (nI q) K n c s) (fun c s => s.K = m.K ∧ s.N = m.N ∧ s.S = m.S ∧ s.R = m.R ∧ (∀ s' b i, ¬ (s' = 21 ∧ b = y + 1 ∧ 500 * q ≤ i ∧ i < 500 * q + c) → s.I s' b i = m.I s' b i) ∧ ∀ i, i < c → s.I 21 (y + 1) (500 * q + i) = cvB (m.I 21 (y + 1) (500 * p + i))) (fun s => fun K => K s) 500 (fun c hc s hI => by
    obtain ⟨a1, a2, a3, a4, a5, a6⟩ := hI
    have v : s.I 21 (y + 1) (500 * p + c) = m.I 21 (y + 1) (500 * p + c) := a5 _ _ _ (fun y => by omega)
    refine ⟨s.sI 21 (y + 1) (500 * q + c) (cvB (m.I 21 (y + 1) (500 * p + c))), ⟨a1, a2, a3, a4, fun s' b i hh => ?_, fun i hi => ?_⟩, fun n => ?_⟩
    · rw [I_sI, if_neg (fun y => hh ⟨y.1, y.2.1, by omega, by omega⟩)]
      exact a5 s' b i (fun y => hh ⟨y.1, y.2.1, y.2.2.1, by omega⟩)
    · by_cases y : i = c
      · rw [y, I_sI, if_pos ⟨rfl, rfl, rfl⟩]
      · rw [I_sI, if_neg (by omega)]; exact a6 i (by omega)
    · funext K
      show g_X10_copy_2 y (nI p) (nI q) (l_X10_copy_2 y (nI p) (nI q) K n) K (nI c) s = _
      unfold g_X10_copy_2
      have Ms : Md s y := hM.kept a1 a2 (fun s => by rw [a4])
      have e1 : (500 : Int32) * nI p + nI c = nI (500 * p + c) := by rw [show (500 : Int32) * nI p = nI (500 * p) from pk_mul 500 p, nI_add]
      have e2 : (500 : Int32) * nI q + nI c = nI (500 * q + c) := by rw [show (500 : Int32) * nI q = nI (500 * q) from pk_mul 500 q, nI_add]
      rw [if_neg (show ¬ (500 : Int32) ≤ nI c from nI_ge (b := 500) hc (by decide)), chk_t Ms.1, Ms.c1101, Ms.n1101, e1, e2, chk_t (inb_nI (show 500 * p + c < 2000 by omega) (by decide)), chk_t (inb_nI (show 500 * q + c < 2000 by omega) (by decide)), bnd_e, cl_nI (show 500 * p + c < 2 ^ 31 by omega), cl_nI (show 500 * q + c < 2 ^ 31 by omega), v, nI_1]
      rfl) (fun s hI n => by
    funext K
    show g_X10_copy_2 y (nI p) (nI q) (l_X10_copy_2 y (nI p) (nI q) K n) K (nI 500) s = _
    unfold g_X10_copy_2
    rw [if_pos (show (500 : Int32) ≤ nI 500 by decide)]) (s0 := m) ⟨rfl, rfl, rfl, rfl, fun _ _ _ _ => rfl, fun i hi => by omega⟩
  exact ⟨s, ⟨q1, q2, q3, q4, fun s' a i hh => q5 s' a i (fun z => by omega), fun d d1 d2 => by omega, q6, fun i hi => q5 _ _ _ (fun z => hi z.2.2)⟩, fun K => congrFun (q7 FU (by unfold FU; omega)) K⟩
theorem r_copy {m : MM} {y p q : Nat} (hM : Md m y) (hp : p < 4) (hq : q < 4) (hpq : p ≠ q) : ∃ n, f_X10_copy y (nI p) (nI q) m = some ((), n) ∧ Cq m y p q 38 n := by
  obtain ⟨n2, C2, e1⟩ := r_tape hM hp hq hpq
  obtain ⟨n3, x2, C3⟩ := C2.step (f := 1102) (z := 1) (l := 4) hM (by decide) (by omega) rfl (by omega) (by omega) (by omega) hp hq hpq
  obtain ⟨n4, x3, C4⟩ := C3.step (f := 1103) (z := 1) (l := 4) hM (by decide) (by omega) rfl (by omega) (by omega) (by omega) hp hq hpq
  obtain ⟨n5, x4, C5⟩ := C4.step (f := 1104) (z := 1) (l := 4) hM (by decide) (by omega) rfl (by omega) (by omega) (by omega) hp hq hpq
  obtain ⟨n6, x5, C6⟩ := C5.step (f := 1105) (z := 1) (l := 4) hM (by decide) (by omega) rfl (by omega) (by omega) (by omega) hp hq hpq
  obtain ⟨n7, x6, C7⟩ := C6.step (f := 1106) (z := 96) (l := 384) hM (by decide) (by omega) rfl (by omega) (by omega) (by omega) hp hq hpq
  obtain ⟨n8, x7, C8⟩ := C7.step (f := 1107) (z := 36) (l := 144) hM (by decide) (by omega) rfl (by omega) (by omega) (by omega) hp hq hpq
  obtain ⟨n9, x8, C9⟩ := C8.step (f := 1108) (z := 36) (l := 144) hM (by decide) (by omega) rfl (by omega) (by omega) (by omega) hp hq hpq
  obtain ⟨n10, x9, C10⟩ := C9.step (f := 1109) (z := 36) (l := 144) hM (by decide) (by omega) rfl (by omega) (by omega) (by omega) hp hq hpq
  obtain ⟨n11, x10, C11⟩ := C10.step (f := 1110) (z := 36) (l := 144) hM (by decide) (by omega) rfl (by omega) (by omega) (by omega) hp hq hpq
  obtain ⟨n12, x11, C12⟩ := C11.step (f := 1111) (z := 36) (l := 144) hM (by decide) (by omega) rfl (by omega) (by omega) (by omega) hp hq hpq
  obtain ⟨n13, x12, C13⟩ := C12.step (f := 1112) (z := 36) (l := 144) hM (by decide) (by omega) rfl (by omega) (by omega) (by omega) hp hq hpq
  obtain ⟨n14, x13, C14⟩ := C13.step (f := 1113) (z := 36) (l := 144) hM (by decide) (by omega) rfl (by omega) (by omega) (by omega) hp hq hpq
  obtain ⟨n15, x14, C15⟩ := C14.step (f := 1114) (z := 36) (l := 144) hM (by decide) (by omega) rfl (by omega) (by omega) (by omega) hp hq hpq
  obtain ⟨n16, x15, C16⟩ := C15.step (f := 1115) (z := 42) (l := 168) hM (by decide) (by omega) rfl (by omega) (by omega) (by omega) hp hq hpq
  obtain ⟨n17, x16, C17⟩ := C16.step (f := 1116) (z := 42) (l := 168) hM (by decide) (by omega) rfl (by omega) (by omega) (by omega) hp hq hpq
  obtain ⟨n18, x17, C18⟩ := C17.step (f := 1117) (z := 42) (l := 168) hM (by decide) (by omega) rfl (by omega) (by omega) (by omega) hp hq hpq
  obtain ⟨n19, x18, C19⟩ := C18.step (f := 1118) (z := 42) (l := 168) hM (by decide) (by omega) rfl (by omega) (by omega) (by omega) hp hq hpq
  obtain ⟨n20, x19, C20⟩ := C19.step (f := 1119) (z := 42) (l := 168) hM (by decide) (by omega) rfl (by omega) (by omega) (by omega) hp hq hpq
  obtain ⟨n21, x20, C21⟩ := C20.step (f := 1120) (z := 36) (l := 144) hM (by decide) (by omega) rfl (by omega) (by omega) (by omega) hp hq hpq
  obtain ⟨n22, x21, C22⟩ := C21.step (f := 1121) (z := 36) (l := 144) hM (by decide) (by omega) rfl (by omega) (by omega) (by omega) hp hq hpq
  obtain ⟨n23, x22, C23⟩ := C22.step (f := 1122) (z := 36) (l := 144) hM (by decide) (by omega) rfl (by omega) (by omega) (by omega) hp hq hpq
  obtain ⟨n24, x23, C24⟩ := C23.step (f := 1123) (z := 36) (l := 144) hM (by decide) (by omega) rfl (by omega) (by omega) (by omega) hp hq hpq
  obtain ⟨n25, x24, C25⟩ := C24.step (f := 1124) (z := 36) (l := 144) hM (by decide) (by omega) rfl (by omega) (by omega) (by omega) hp hq hpq
  obtain ⟨n26, x25, C26⟩ := C25.step (f := 1125) (z := 36) (l := 144) hM (by decide) (by omega) rfl (by omega) (by omega) (by omega) hp hq hpq
  obtain ⟨n27, x26, C27⟩ := C26.step (f := 1126) (z := 9) (l := 36) hM (by decide) (by omega) rfl (by omega) (by omega) (by omega) hp hq hpq
  obtain ⟨n28, x27, C28⟩ := C27.step (f := 1127) (z := 9) (l := 36) hM (by decide) (by omega) rfl (by omega) (by omega) (by omega) hp hq hpq
  obtain ⟨n29, x28, C29⟩ := C28.step (f := 1128) (z := 1) (l := 4) hM (by decide) (by omega) rfl (by omega) (by omega) (by omega) hp hq hpq
  obtain ⟨n30, x29, C30⟩ := C29.step (f := 1129) (z := 3) (l := 12) hM (by decide) (by omega) rfl (by omega) (by omega) (by omega) hp hq hpq
  obtain ⟨n31, x30, C31⟩ := C30.step (f := 1130) (z := 3) (l := 12) hM (by decide) (by omega) rfl (by omega) (by omega) (by omega) hp hq hpq
  obtain ⟨n32, x31, C32⟩ := C31.step (f := 1131) (z := 3) (l := 12) hM (by decide) (by omega) rfl (by omega) (by omega) (by omega) hp hq hpq
  obtain ⟨n33, x32, C33⟩ := C32.step (f := 1132) (z := 3) (l := 12) hM (by decide) (by omega) rfl (by omega) (by omega) (by omega) hp hq hpq
  obtain ⟨n34, x33, C34⟩ := C33.step (f := 1133) (z := 30) (l := 120) hM (by decide) (by omega) rfl (by omega) (by omega) (by omega) hp hq hpq
  obtain ⟨n35, x34, C35⟩ := C34.step (f := 1134) (z := 30) (l := 120) hM (by decide) (by omega) rfl (by omega) (by omega) (by omega) hp hq hpq
  obtain ⟨n36, x35, C36⟩ := C35.step (f := 1135) (z := 30) (l := 120) hM (by decide) (by omega) rfl (by omega) (by omega) (by omega) hp hq hpq
  obtain ⟨n37, x36, C37⟩ := C36.step (f := 1136) (z := 30) (l := 120) hM (by decide) (by omega) rfl (by omega) (by omega) (by omega) hp hq hpq
  obtain ⟨n38, x37, C38⟩ := C37.step (f := 1137) (z := 30) (l := 120) hM (by decide) (by omega) rfl (by omega) (by omega) (by omega) hp hq hpq
  refine ⟨n38, ?_, C38⟩
  have hk : ∀ {j : Nat} {n : MM}, Cq m y p q j n → n.K y = 11 := fun h => by rw [h.1]; exact hM.1
  unfold f_X10_copy g_X10_copy_0
  rw [e1]
  unfold g_X10_copy_39
  rw [chk_t (hk C2), show f_X10_move (n2.R 1102 y 0) 1 (nI p) (nI q) n2 = _ from x2, cal_s]
  rw [chk_t (hk C3), show f_X10_move (n3.R 1103 y 0) 1 (nI p) (nI q) n3 = _ from x3, cal_s]
  rw [chk_t (hk C4), show f_X10_move (n4.R 1104 y 0) 1 (nI p) (nI q) n4 = _ from x4, cal_s]
  rw [chk_t (hk C5), show f_X10_move (n5.R 1105 y 0) 1 (nI p) (nI q) n5 = _ from x5, cal_s]
  rw [chk_t (hk C6), show f_X10_move (n6.R 1106 y 0) 96 (nI p) (nI q) n6 = _ from x6, cal_s]
  rw [chk_t (hk C7), show f_X10_move (n7.R 1107 y 0) 36 (nI p) (nI q) n7 = _ from x7, cal_s]
  rw [chk_t (hk C8), show f_X10_move (n8.R 1108 y 0) 36 (nI p) (nI q) n8 = _ from x8, cal_s]
  rw [chk_t (hk C9), show f_X10_move (n9.R 1109 y 0) 36 (nI p) (nI q) n9 = _ from x9, cal_s]
  rw [chk_t (hk C10), show f_X10_move (n10.R 1110 y 0) 36 (nI p) (nI q) n10 = _ from x10, cal_s]
  rw [chk_t (hk C11), show f_X10_move (n11.R 1111 y 0) 36 (nI p) (nI q) n11 = _ from x11, cal_s]
  rw [chk_t (hk C12), show f_X10_move (n12.R 1112 y 0) 36 (nI p) (nI q) n12 = _ from x12, cal_s]
  rw [chk_t (hk C13), show f_X10_move (n13.R 1113 y 0) 36 (nI p) (nI q) n13 = _ from x13, cal_s]
  rw [chk_t (hk C14), show f_X10_move (n14.R 1114 y 0) 36 (nI p) (nI q) n14 = _ from x14, cal_s]
  rw [chk_t (hk C15), show f_X10_move (n15.R 1115 y 0) 42 (nI p) (nI q) n15 = _ from x15, cal_s]
  rw [chk_t (hk C16), show f_X10_move (n16.R 1116 y 0) 42 (nI p) (nI q) n16 = _ from x16, cal_s]
  rw [chk_t (hk C17), show f_X10_move (n17.R 1117 y 0) 42 (nI p) (nI q) n17 = _ from x17, cal_s]
  rw [chk_t (hk C18), show f_X10_move (n18.R 1118 y 0) 42 (nI p) (nI q) n18 = _ from x18, cal_s]
  rw [chk_t (hk C19), show f_X10_move (n19.R 1119 y 0) 42 (nI p) (nI q) n19 = _ from x19, cal_s]
  rw [chk_t (hk C20), show f_X10_move (n20.R 1120 y 0) 36 (nI p) (nI q) n20 = _ from x20, cal_s]
  rw [chk_t (hk C21), show f_X10_move (n21.R 1121 y 0) 36 (nI p) (nI q) n21 = _ from x21, cal_s]
  rw [chk_t (hk C22), show f_X10_move (n22.R 1122 y 0) 36 (nI p) (nI q) n22 = _ from x22, cal_s]
  rw [chk_t (hk C23), show f_X10_move (n23.R 1123 y 0) 36 (nI p) (nI q) n23 = _ from x23, cal_s]
  rw [chk_t (hk C24), show f_X10_move (n24.R 1124 y 0) 36 (nI p) (nI q) n24 = _ from x24, cal_s]
  rw [chk_t (hk C25), show f_X10_move (n25.R 1125 y 0) 36 (nI p) (nI q) n25 = _ from x25, cal_s]
  rw [chk_t (hk C26), show f_X10_move (n26.R 1126 y 0) 9 (nI p) (nI q) n26 = _ from x26, cal_s]
  rw [chk_t (hk C27), show f_X10_move (n27.R 1127 y 0) 9 (nI p) (nI q) n27 = _ from x27, cal_s]
  rw [chk_t (hk C28), show f_X10_move (n28.R 1128 y 0) 1 (nI p) (nI q) n28 = _ from x28, cal_s]
  rw [chk_t (hk C29), show f_X10_move (n29.R 1129 y 0) 3 (nI p) (nI q) n29 = _ from x29, cal_s]
  rw [chk_t (hk C30), show f_X10_move (n30.R 1130 y 0) 3 (nI p) (nI q) n30 = _ from x30, cal_s]
  rw [chk_t (hk C31), show f_X10_move (n31.R 1131 y 0) 3 (nI p) (nI q) n31 = _ from x31, cal_s]
  rw [chk_t (hk C32), show f_X10_move (n32.R 1132 y 0) 3 (nI p) (nI q) n32 = _ from x32, cal_s]
  rw [chk_t (hk C33), show f_X10_move (n33.R 1133 y 0) 30 (nI p) (nI q) n33 = _ from x33, cal_s]
  rw [chk_t (hk C34), show f_X10_move (n34.R 1134 y 0) 30 (nI p) (nI q) n34 = _ from x34, cal_s]
  rw [chk_t (hk C35), show f_X10_move (n35.R 1135 y 0) 30 (nI p) (nI q) n35 = _ from x35, cal_s]
  rw [chk_t (hk C36), show f_X10_move (n36.R 1136 y 0) 30 (nI p) (nI q) n36 = _ from x36, cal_s]
  rw [chk_t (hk C37), show f_X10_move (n37.R 1137 y 0) 30 (nI p) (nI q) n37 = _ from x37, cal_s]
theorem zsz7 {c : Nat} (hc : c < 8) : zsz (7 + c) = 36 := by unfold zsz; repeat' (split <;> try omega)
theorem zsz15 {c : Nat} (hc : c < 5) : zsz (15 + c) = 42 := by unfold zsz; repeat' (split <;> try omega)
theorem zsz20 {c : Nat} (hc : c < 6) : zsz (20 + c) = 36 := by unfold zsz; repeat' (split <;> try omega)
theorem zsz26 {c : Nat} (hc : c < 2) : zsz (26 + c) = 9 := by unfold zsz; repeat' (split <;> try omega)
theorem zsz33 {c : Nat} (_ : c < 5) : zsz (33 + c) = 30 := by unfold zsz; repeat' (split <;> try omega)
theorem RW.sl {y k k' : Nat} {m n : MM} {W : WD} (hz : ∀ d, 2 ≤ d → d < 38 → ∀ j, j < zsz d → n.I 22 (y + d) (zsz d * k' + j) = m.I 22 (y + d) (zsz d * k + j)) {tp : Nat → Int32} (ht : ∀ j, j < 500 → n.I 21 (y + 1) (500 * k' + j) = tp j) (hn : W.nt ≤ 3) (hl : W.nl ≤ 3) (hN : ∀ i, i < W.nt → NT (W.tn i)) (hB : ∀ i, i < W.nl → (W.lw i).2.1 ≤ 10) (r : RW m y k W) : RW n y k' (tp, W.2) := by
  obtain ⟨h0, h1, h2, h3, h4, h5, h6, h7⟩ := r
  have one : ∀ d, 2 ≤ d → d < 38 → zsz d = 1 → n.I 22 (y + d) k' = m.I 22 (y + d) k := fun d d1 d2 hd => by
    have := hz d d1 d2 0 (by omega)
    rw [hd, Nat.one_mul, Nat.one_mul] at this
    exact this
  refine ⟨ht, ?_, ?_, ?_, ?_, ?_, fun i hi => ?_, fun i hi => ?_⟩
  · rw [one 2 (by omega) (by omega) rfl]; exact h1
  · rw [one 3 (by omega) (by omega) rfl]; exact h2
  · rw [one 4 (by omega) (by omega) rfl]; exact h3
  · rw [one 5 (by omega) (by omega) rfl]; exact h4
  · rw [one 28 (by omega) (by omega) rfl]; exact h5
  · have hi : i < W.nt := hi
    have e6 : ∀ c, c < 32 → n.I 22 (y + 6) (32 * (3 * k' + i) + c) = m.I 22 (y + 6) (32 * (3 * k + i) + c) := fun c hc => by
      have := hz 6 (by omega) (by omega) (32 * i + c) (by show _ < 96; omega)
      have e1 : zsz 6 = 96 := rfl
      rw [e1, show 96 * k' + (32 * i + c) = 32 * (3 * k' + i) + c by omega, show 96 * k + (32 * i + c) = 32 * (3 * k + i) + c by omega] at this
      exact this
    have b : ∀ d l z, 2 ≤ d → d < 38 → zsz d = 3 * z → l < z → n.I 22 (y + d) (z * (3 * k' + i) + l) = m.I 22 (y + d) (z * (3 * k + i) + l) := fun d l z d1 d2 hd hlz => by
      have hzi : z * i + l < 3 * z := by
        have : z * (i + 1) ≤ z * 3 := Nat.mul_le_mul_left z (by omega)
        rw [Nat.mul_succ] at this; omega
      have := hz d d1 d2 (z * i + l) (by omega)
      rw [hd] at this
      have e1 : ∀ u, 3 * z * u + (z * i + l) = z * (3 * u + i) + l := fun u => by rw [Nat.mul_add, ← Nat.mul_assoc, Nat.mul_comm z 3]; omega
      rw [e1, e1] at this
      exact this
    obtain ⟨⟨a0, a1, a2, a3, a4, a5, a6, a7, a8, a9, a10, a11⟩, g0, g1, g2, g3, g4, g5⟩ := h6 i hi
    obtain ⟨c0, c1, c2, c3, c4, c5⟩ := hN i hi
    refine ⟨⟨by rw [show 32 * (3 * k' + i) = 32 * (3 * k' + i) + 0 from rfl, e6 0 (by omega)]; exact a0, by rw [e6 _ (by omega)]; exact a1, by rw [e6 _ (by omega)]; exact a2, by rw [e6 _ (by omega)]; exact a3, by rw [e6 _ (by omega)]; exact a4, by rw [e6 _ (by omega)]; exact a5, by rw [e6 _ (by omega)]; exact a6, by rw [e6 _ (by omega)]; exact a7, by rw [e6 _ (by omega)]; exact a8, by rw [e6 _ (by omega)]; exact a9, fun h hh => by rw [e6 _ (by omega)]; exact a10 h hh, fun g hg => by rw [e6 _ (by omega)]; exact a11 g hg⟩, fun r hr c hc => ?_, fun r hr c hc => ?_, fun r hr c hc => ?_, fun r hr c hc => ?_, fun r hr c hc => ?_, fun r hr c hc => ?_⟩
    · have hr : r < (W.tn i).2.1 0 := hr
      rw [b (7 + c) r 12 (by omega) (by omega) (zsz7 hc) (by omega)]; exact g0 r hr c hc
    · have hr : r < (W.tn i).2.1 1 := hr
      rw [b (15 + c) r 14 (by omega) (by omega) (zsz15 hc) (by omega)]; exact g1 r hr c hc
    · have hr : r < (W.tn i).2.1 2 := hr
      rw [b (15 + c) (8 + r) 14 (by omega) (by omega) (zsz15 (by omega)) (by omega)]; exact g2 r hr c hc
    · have hr : r < (W.tn i).2.1 3 := hr
      rw [b (20 + c) r 12 (by omega) (by omega) (zsz20 (by omega)) (by omega)]; exact g3 r hr c hc
    · have hr : r < (W.tn i).2.1 4 := hr
      rw [show 23 + c = 20 + (3 + c) by omega, b (20 + (3 + c)) r 12 (by omega) (by omega) (zsz20 (by omega)) (by omega), show 20 + (3 + c) = 23 + c by omega]; exact g4 r hr c hc
    · have hr : r < (W.tn i).2.1 5 := hr
      rw [b (26 + c) r 3 (by omega) (by omega) (zsz26 hc) (by omega)]; exact g5 r hr c hc
  · have hi : i < W.nl := hi
    have b : ∀ d, 2 ≤ d → d < 38 → zsz d = 3 → n.I 22 (y + d) (3 * k' + i) = m.I 22 (y + d) (3 * k + i) := fun d d1 d2 hd => by
      have := hz d d1 d2 i (by omega)
      rw [hd] at this
      exact this
    obtain ⟨a0, a1, a2, a3, a4⟩ := h7 i hi
    have hb := hB i hi
    refine ⟨by rw [b 29 (by omega) (by omega) rfl]; exact a0, by rw [b 30 (by omega) (by omega) rfl]; exact a1, by rw [b 31 (by omega) (by omega) rfl]; exact a2, by rw [b 32 (by omega) (by omega) rfl]; exact a3, fun r hr c hc => ?_⟩
    have hr : r < (W.lw i).2.1 := hr
    have := hz (33 + c) (by omega) (by omega) (10 * i + r) (by rw [zsz33 hc]; omega)
    rw [zsz33 hc, show 30 * k' + (10 * i + r) = 10 * (3 * k' + i) + r by omega, show 30 * k + (10 * i + r) = 10 * (3 * k + i) + r by omega] at this
    rw [this]; exact a4 r hr c hc
