/-! the fewest that move -/
def mvO (T : TW) (d a b z : Nat) : Bool := sB T d z && (!decide (z = a) && !decide (z = b))
def mvT (a b i : Nat) : Nat := if i = 0 then a else b
def mkk (T : TW) (a b i : Nat) : Nat := (T.2.2 0 (mvT a b i) 0).toNatClampNeg
def mff (T : TW) (a b i : Nat) : Int32 := T.2.2 0 (mvT a b i) 5
def ownN (T : TW) (z : Nat) : Nat := 8 * (T.2.2 0 z 2).toNatClampNeg + (T.2.2 0 z 1).toNatClampNeg
def mvA (T : TW) (B : LW) (d a b i p : Nat) : Bool := opP T B d (-1) (mvO T d a b) (mkk T a b i) (mff T a b i) p && !decide (p = ownN T (mvT a b i))
def mvS (T : TW) (B : LW) (d a b N : Nat) : Option (Nat → Nat) := se (mvA T B d a b) (gsC T B d (-1) (mkk T a b) (mff T a b)) N 0 (fun _ => 0)
def st2 (a b : Nat) : Nat := 2 ^ a ||| 2 ^ b
def cnd (T : TW) (B : LW) (d a b : Nat) : Bool := sB T d a && sB T d b && ridB (foe T B d 0 (bt 255) (clL T d)) (st2 a b)
def mvI (T : TW) (B : LW) (d N a b : Nat) : Option (Nat × Nat × (Nat → Nat)) := if onN (st2 a b) = N ∧ cnd T B d a b = true then (mvS T B d a b N).map (fun ps => (a, b, ps)) else none
def mvF (T : TW) (B : LW) (d N : Nat) : Option (Nat × Nat × (Nat → Nat)) := fo (fun a => fo (mvI T B d N a) (12 - a) a) 12 0
def mvR (T : TW) (B : LW) (d : Nat) : Option (Nat × Nat × (Nat → Nat)) := match mvF T B d 1 with
  | some v => some v
  | none => mvF T B d 2
theorem st2_e : ∀ a, a < 12 → ∀ b, b < 12 → (1 : Int32) <<< (nI a &&& 31) ||| (1 : Int32) <<< (nI b &&& 31) = nI (st2 a b) ∧ st2 a b < 4096 ∧ onN (st2 a b) = (if a = b then 1 else 2) := by decide +kernel
theorem st2_b (a b i : Nat) : (st2 a b).testBit i = (decide (a = i) || decide (b = i)) := by
  unfold st2
  rw [Nat.testBit_or, Nat.testBit_two_pow, Nat.testBit_two_pow]
theorem st2_sub {T : TW} {d a b : Nat} (ha : a < 12) (hb : b < 12) : subB T d (st2 a b) = (sB T d a && sB T d b) := by
  unfold subB
  rw [Bool.eq_iff_iff, Bool.not_eq_true', anyF, Bool.and_eq_true]
  constructor
  · intro h
    have h1 := h a ha
    have h2 := h b hb
    rw [st2_b, decide_eq_true rfl] at h1
    rw [st2_b, decide_eq_true (show b = b from rfl), Bool.or_true] at h2
    exact ⟨by simpa using h1, by simpa using h2⟩
  · rintro ⟨h1, h2⟩ i hi
    rw [st2_b]
    by_cases z : a = i
    · rw [← z, h1]; simp
    · by_cases w : b = i
      · rw [← w, h2]; simp
      · rw [decide_eq_false z, decide_eq_false w]; rfl
theorem fo_st {α : Type} {f : Nat → Option α} {q M : Nat} (hq : q < M) : (∀ v, f q = some v → fo f (M - q) q = some v) ∧ (f q = none → fo f (M - q) q = fo f (M - (q + 1)) (q + 1)) := by
  obtain ⟨k, hk⟩ : ∃ k, M - q = k + 1 := ⟨M - q - 1, by omega⟩
  rw [hk, show M - (q + 1) = k by omega]
  exact ⟨fun v h => fo_t h, fun h => fo_f h⟩
theorem FoR.pn {m n : MM} {x : Nat} {P : Nat → Nat → Bool} {Pr : Nat → Nat → Prop} (h : FoR m x P Pr) (o : Pn x m n) : FoR n x P Pr := fun a ha b hb => by rw [o.2.2.2.2 _ _ _ (by omega) (by omega)]; exact h a ha b hb
section MOV
variable {m : MM} {x t l d a b N : Nat} {T : TW} {B : LW}
theorem c_uproot (C : CS m x t l T B d 0 255 (-1)) {i z : Nat} (hi : i < 3) (hz : z < T.2.1 0) : ∃ n, f_X3_uproot (x + 99) (nI i) (nI z) m = some (1 <<< (Int32.toInt64 (nI (ownN T z)) &&& 63), n) ∧ Pn x m n ∧ n.J = m.J ∧ Wl n x i (T.2.2 0 z 0).toNatClampNeg (T.2.2 0 z 5) ∧ ownN T z < 64 ∧ ∀ s a j, a ≠ x + 101 + i → n.I s a j = m.I s a j := by
  have ct := C.2.1.2.2.2.1
  have hn := ct.n0.2.2
  have bz := C.2.2.2.2.2.2.1 z hz
  have vz := bdy_v C.2.2.1 hz d
  obtain ⟨n1, u1, u2, u3, u4, u5⟩ := c_welcome C.1 (i := i) hi (bdy T d z).k (bdy T d z).f
  have b1 : n1.I 101 (x + 83 + z) 0 = nI (bdy T d z).x := by rw [u5 _ _ _ (by omega)]; exact bz.2.2.1
  have b2 : n1.I 102 (x + 83 + z) 0 = nI (bdy T d z).y := by rw [u5 _ _ _ (by omega)]; exact bz.2.2.2.1
  have ho : ownN T z = 8 * (bdy T d z).y + (bdy T d z).x := rfl
  have ep : nI (bdy T d z).y * 8 + nI (bdy T d z).x = nI (ownN T z) := by
    rw [ho]
    show nI (bdy T d z).y * nI 8 + nI (bdy T d z).x = _
    rw [pk_mul, nI_add]
    congr 1; omega
  have hl : ownN T z < 64 := by have := vz.2.1; have := vz.2.2.1; rw [ho]; omega
  refine ⟨n1, ?_, u2, u3, u4, hl, u5⟩
  unfold f_X3_uproot g_X3_uproot_0
  rw [chk_t C.1.2.2.2.2.1, show m.R 400 (x + 99) 0 = some (x + 81) from C.1.2.2.2.2.2.1, ck_s C.1.th, c_body C.1 (show z < 12 by omega), cal_s, ifn_s, chk_t bz.1, chk_t C.1.2.2.2.2.1, bz.2.1, bz.2.2.2.2.1, u1, cal_s, chk_t (show n1.K (x + 83 + z) = 1 from by rw [u2.1]; exact bz.1), b1, b2, ep]
theorem al_e {P : Nat → Bool} {o : Nat} (ho : o < 64) : mkL P 64 &&& ((1 <<< (Int32.toInt64 (nI o) &&& 63)) ^^^ (-1)) = mkL (fun p => P p && !decide (p = o)) 64 := by
  apply btL_ext
  intro i hi
  rw [btL_and, btL_xor, btL_mk (by omega) i hi, btL_mk (by omega) i hi, btL_1 ho hi, btL_m1 i hi, decide_eq_true hi, Bool.true_and, Bool.true_and, Bool.xor_true]
/-- two that might move are tried -/
theorem c_try (C : CS m x t l T B d 0 255 (-1)) (hN : N = 1 ∨ N = 2) (ha : a < 12) (hb : b < 12) (hon : onN (st2 a b) = N) (hc : cnd T B d a b = true) (F : FoR m x (foe T B d 0 (bt 255) (clL T d)) (fun _ _ => True)) : ∃ m', Pn x m m' ∧ (∀ ps, mvS T B d a b N = some ps → Gsd m' x N (mkk T a b) (mff T a b) ps) ∧ ∀ k34 k192, g_X3_findMoves_78 (x + 99) k34 k192 (nI N) (nI a) (nI b) (nI (st2 a b)) 1 m = if (mvS T B d a b N).isSome = false then k34 (nI N) (nI a) (nI (b + 1)) m' else some (1, m'.sI 404 (x + 99) 0 (nI (st2 a b))) := by
  have hc2 := hc
  unfold cnd at hc2
  rw [Bool.and_eq_true, Bool.and_eq_true] at hc2
  obtain ⟨⟨sa, sb⟩, hrid⟩ := hc2
  have V := C.2.2.1
  have hal := sB_n sa
  have hbl := sB_n sb
  have hlt := (st2_e a ha b hb).2.1
  obtain ⟨q, hq⟩ : ∃ q, q = mks (sB T d) 12 &&& (nI (st2 a b) ^^^ (-1)) := ⟨_, rfl⟩
  have hO : ∀ z, z < 12 → bt q z = mvO T d a b z := fun z hz => by
    rw [hq, bt_and, m1_xor, bt_not _ (by omega), bt_mks (by omega) z (by omega), decide_eq_true hz, Bool.true_and, bt_nI _ z (by omega), st2_b]
    unfold mvO
    have e1 : decide (a = z) = decide (z = a) := by by_cases y : z = a; rw [y]; rw [decide_eq_false y, decide_eq_false (fun w => y w.symm)]
    have e2 : decide (b = z) = decide (z = b) := by by_cases y : z = b; rw [y]; rw [decide_eq_false y, decide_eq_false (fun w => y w.symm)]
    rw [e1, e2, Bool.not_or]
  have hOn : ∀ z, z < 12 → mvO T d a b z = true → z < T.2.1 0 := fun z _ h => by
    unfold mvO at h
    rw [Bool.and_eq_true] at h
    exact sB_n h.1
  have kv : ∀ z, z < T.2.1 0 → (T.2.2 0 z 0).toNatClampNeg < 6 ∧ (T.2.2 0 z 5 = -1 ∨ nB (T.2.2 0 z 5) 4) := fun z hz => by
    obtain ⟨v0, _, _, _, _, v5, _⟩ := V.2.2.2.2.2.2.1 z hz
    exact ⟨(nB_e v0 (by omega)).2, v5⟩
  obtain ⟨n1, u1, u2, u3, u4, u5, u6⟩ := c_uproot C (i := 0) (by omega) hal
  have C1 := C.pn u2
  obtain ⟨n2, v1, v2⟩ := c_openPoints (q := q) (O := mvO T d a b) C1 hO hOn (i := 0) (by omega) u4 (kv a hal).1 (kv a hal).2
  have C2 := C1.pn (v2.p (by omega))
  obtain ⟨n3, hn3⟩ : ∃ n3, n3 = n2.sJ 23 (x + 104) 0 (mkL (mvA T B d a b 0) 64) := ⟨_, rfl⟩
  have P3 : Pn x n2 n3 := by rw [hn3]; exact (Pn.rf x n2).sJ _ _ _ _
  have C3 := C2.pn P3
  obtain ⟨n4, w1, w2, w3, w4, w5, w6⟩ := c_uproot C3 (i := 1) (by omega) hbl
  have C4 := C3.pn w2
  obtain ⟨n5, x1, x2⟩ := c_openPoints (q := q) (O := mvO T d a b) C4 hO hOn (i := 1) (by omega) w4 (kv b hbl).1 (kv b hbl).2
  have C5 := C4.pn (x2.p (by omega))
  obtain ⟨n6, hn6⟩ : ∃ n6, n6 = n5.sJ 23 (x + 104) 1 (mkL (mvA T B d a b 1) 64) := ⟨_, rfl⟩
  have P6 : Pn x n5 n6 := by rw [hn6]; exact (Pn.rf x n5).sJ _ _ _ _
  have C6 := C5.pn P6
  have W0 : Wl n6 x 0 (mkk T a b 0) (mff T a b 0) := by
    have s2 : Wl n2 x 0 (mkk T a b 0) (mff T a b 0) := u4.gi v2
    have s3 : Wl n3 x 0 (mkk T a b 0) (mff T a b 0) := by rw [hn3]; exact s2
    have s4 : Wl n4 x 0 (mkk T a b 0) (mff T a b 0) := ⟨by rw [w2.1]; exact s3.1, by rw [w6 _ _ _ (by omega)]; exact s3.2.1, by rw [w6 _ _ _ (by omega)]; exact s3.2.2.1, by rw [w6 _ _ _ (by omega)]; exact s3.2.2.2⟩
    have s5 : Wl n5 x 0 (mkk T a b 0) (mff T a b 0) := s4.gi x2
    rw [hn6]; exact s5
  have W1 : Wl n6 x 1 (mkk T a b 1) (mff T a b 1) := by
    have s5 : Wl n5 x 1 (mkk T a b 1) (mff T a b 1) := w4.gi x2
    rw [hn6]; exact s5
  have J0 : n6.J 23 (x + 104) 0 = mkL (mvA T B d a b 0) 64 := by
    rw [hn6, J_sJ, if_neg (by omega), x2.2.2.2.2.1, w3, hn3, J_sJ, if_pos ⟨rfl, rfl, rfl⟩]
  have J1 : n6.J 23 (x + 104) 1 = mkL (mvA T B d a b 1) 64 := by rw [hn6, J_sJ, if_pos ⟨rfl, rfl, rfl⟩]
  have F6 : SF n6 x N (mkk T a b) (mff T a b) (mvA T B d a b) := fun c hcN => by
    have : c = 0 ∨ c = 1 := by omega
    rcases this with rfl | rfl
    · exact ⟨W0, J0⟩
    · exact ⟨W1, J1⟩
  obtain ⟨m', y1, y2, y3⟩ := c_seatAll (N := N) (ps := fun _ => 0) C6 (by omega) (fun e he => by
    have : e = 0 ∨ e = 1 := by omega
    rcases this with rfl | rfl
    · exact (kv a hal).1
    · exact (kv b hbl).1) (fun e he => by
    have : e = 0 ∨ e = 1 := by omega
    rcases this with rfl | rfl
    · exact (kv a hal).2
    · exact (kv b hbl).2) F6
  have y1 : f_X3_seatAll (x + 99) (nI N) n6 = some (bI (mvS T B d a b N).isSome, m') := y1
  have C7 := C6.pn y2
  refine ⟨m', (((((u2.tr (v2.p (by omega))).tr P3).tr w2).tr (x2.p (by omega))).tr P6).tr y2, y3, fun k34 k192 => ?_⟩
  have g := C.1.2.2.2.2
  have g1 := C1.1.2.2.2.2
  have g2 := C2.1.2.2.2.2
  have g3 := C3.1.2.2.2.2
  have g4 := C4.1.2.2.2.2
  have g5 := C5.1.2.2.2.2
  have rd := c_rids C.1 F hlt
  rw [hrid] at rd
  have a0 := al_e (P := opP T B d (-1) (mvO T d a b) (T.2.2 0 a 0).toNatClampNeg (T.2.2 0 a 5)) u5
  have a1 := al_e (P := opP T B d (-1) (mvO T d a b) (T.2.2 0 b 0).toNatClampNeg (T.2.2 0 b 5)) w5
  have m0 : mvA T B d a b 0 = fun p => opP T B d (-1) (mvO T d a b) (T.2.2 0 a 0).toNatClampNeg (T.2.2 0 a 5) p && !decide (p = ownN T a) := rfl
  have m1' : mvA T B d a b 1 = fun p => opP T B d (-1) (mvO T d a b) (T.2.2 0 b 0).toNatClampNeg (T.2.2 0 b 5) p && !decide (p = ownN T b) := rfl
  rw [← m0] at a0
  rw [← m1'] at a1
  unfold g_X3_findMoves_78
  rw [if_neg ne10, chk_t g.1, show m.R 400 (x + 99) 0 = some (x + 81) from g.2.1, ck_s C.1.th, rd, cal_s, if_neg (show ¬ bI true = 0 by decide), chk_t g.1, show m.R 400 (x + 99) 0 = some (x + 81) from g.2.1, ck_s C.1.th, C.2.2.2.2.2.1, bnd_e, ← hq, show f_X3_uproot (x + 99) 0 (nI a) m = _ from u1, cal_s, chk_t g1.1, show f_X3_openPoints (x + 99) 0 q n1 = _ from v1, cal_s, show n1.R 402 (x + 99) 0 = some (x + 104) from g1.2.2.2.1, ck_s (show n2.K (x + 104) = 23 from g2.2.2.2.2.2.2.2.1), show n2.N (x + 104) = 3 from g2.2.2.2.2.2.2.2.2.1, chk_t (show inb 0 3 = true by decide), bnd_e, a0, show Int32.toNatClampNeg 0 = 0 from rfl, ← hn3, chk_t g3.1, show f_X3_uproot (x + 99) 1 (nI b) n3 = _ from w1, cal_s, chk_t g4.1, show f_X3_openPoints (x + 99) 1 q n4 = _ from x1, cal_s, show n4.R 402 (x + 99) 0 = some (x + 104) from g4.2.2.2.1, ck_s (show n5.K (x + 104) = 23 from g5.2.2.2.2.2.2.2.1), show n5.N (x + 104) = 3 from g5.2.2.2.2.2.2.2.2.1, chk_t (show inb 1 3 = true by decide), bnd_e, a1, show Int32.toNatClampNeg 1 = 1 from rfl, ← hn6, chk_t C6.1.2.2.2.2.1, y1, cal_s]
  cases (mvS T B d a b N).isSome with
  | false =>
    rw [bI_f, if_pos rfl, if_pos rfl]
    unfold g_X3_findMoves_186
    rw [nI_1]
  | true => rw [if_neg (show ¬ bI true = 0 by decide), if_neg (show ¬ true = false by decide), chk_t C7.1.2.2.2.2.1, bnd_e]
end MOV
