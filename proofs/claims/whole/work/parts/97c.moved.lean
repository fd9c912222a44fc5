/-! the reference's moves -/
def Mw (y a b : Nat) (m n : MM) : Prop := n.K = m.K ∧ n.N = m.N ∧ n.S = m.S ∧ n.R = m.R ∧ ∀ s q c, ¬ (q = y ∧ 1177 ≤ s ∧ s ≤ 1180) → ¬ ((q = y + 46 ∨ q = y + 47 ∨ q = y + 49) ∧ (c = a ∨ c = b)) → q ≠ y + 54 → q ≠ y + 55 → n.I s q c = m.I s q c
theorem Mw.rf (y a b : Nat) (m : MM) : Mw y a b m m := ⟨rfl, rfl, rfl, rfl, fun _ _ _ _ _ _ _ => rfl⟩
theorem Mw.tr {y a b : Nat} {m n q : MM} (h1 : Mw y a b m n) (h2 : Mw y a b n q) : Mw y a b m q := ⟨h2.1.trans h1.1, h2.2.1.trans h1.2.1, h2.2.2.1.trans h1.2.2.1, h2.2.2.2.1.trans h1.2.2.2.1, fun s q c g1 g2 g3 g4 => (h2.2.2.2.2 s q c g1 g2 g3 g4).trans (h1.2.2.2.2 s q c g1 g2 g3 g4)⟩
theorem Mw.sI {y a b : Nat} {m n : MM} (h : Mw y a b m n) (s q c : Nat) (v : Int32) (ha : (q = y ∧ 1177 ≤ s ∧ s ≤ 1180) ∨ ((q = y + 46 ∨ q = y + 47 ∨ q = y + 49) ∧ (c = a ∨ c = b)) ∨ q = y + 54 ∨ q = y + 55) : Mw y a b m (n.sI s q c v) := ⟨h.1, h.2.1, h.2.2.1, h.2.2.2.1, fun s2 q2 c2 g1 g2 g3 g4 => by rw [I_sI, if_neg (fun z => by omega)]; exact h.2.2.2.2 s2 q2 c2 g1 g2 g3 g4⟩
theorem Mw.f {x a b : Nat} {m n : MM} (h : Mw (x + 106) a b m n) : Fq x m n := ⟨h.1, h.2.1, h.2.2.1, fun q hq s i => ⟨h.2.2.2.2 s q i (by omega) (by omega) (by omega) (by omega), by rw [h.2.2.2.1]⟩, fun s q i _ _ => by rw [h.2.2.2.1]⟩
theorem Mw.ar {y a b : Nat} {m n : MM} (h : Mw y a b m n) : Ar m n y := ⟨fun d d1 d2 i => h.2.2.2.2 22 _ i (by omega) (by omega) (by omega) (by omega), fun i => h.2.2.2.2 21 _ i (by omega) (by omega) (by omega) (by omega), fun i => h.2.2.2.2 24 _ i (by omega) (by omega) (by omega) (by omega)⟩
def RX (m : MM) (y i j : Nat) (T : TW) (B : LW) (d a b : Nat) : Prop := Rc m y i j T B d 0 (-1) 0 ∧ VT T ∧ NT T ∧ VL B ∧ B.2.1 ≤ 10 ∧ d < 1000 ∧ m.I 1165 y 0 = mks (sB T d) 12 ∧ (∀ k, k < T.2.1 0 → m.I 22 (y + 45) k = nI (bdy T d k).k ∧ m.I 22 (y + 48) k = (bdy T d k).f) ∧ ∀ k, k < T.2.1 0 → k ≠ a → k ≠ b → Rb m y k (bdy T d k) (snc T k)
theorem RX.mw {m n : MM} {y i j d a b : Nat} {T : TW} {B : LW} (h : RX m y i j T B d a b) (o : Mw y a b m n) : RX n y i j T B d a b := by
  obtain ⟨⟨h1, h2, h3, h4, h5, h6, h7, h8, h9, h10, h11⟩, V, N, VB', hB, hd, h65, hkf, hb⟩ := h
  have e : ∀ s, s < 1177 → n.I s y 0 = m.I s y 0 := fun s hs => o.2.2.2.2 s y 0 (by omega) (by omega) (by omega) (by omega)
  have hn := N.1
  refine ⟨⟨h1.kept o.1 o.2.1 (fun s => by rw [o.2.2.2.1]), by rw [e _ (by decide)]; exact h2, h3, h4.kept o.ar, by rw [e _ (by decide)]; exact h5, by rw [e _ (by decide)]; exact h6, h7, by rw [e _ (by decide)]; exact h8, by rw [e _ (by decide)]; exact h9, h10, h11.kept o.ar⟩, V, N, VB', hB, hd, by rw [e _ (by decide)]; exact h65, fun k hk => ⟨by rw [o.2.2.2.2 _ _ _ (by omega) (by omega) (by omega) (by omega)]; exact (hkf k hk).1, by rw [o.2.2.2.2 _ _ _ (by omega) (by omega) (by omega) (by omega)]; exact (hkf k hk).2⟩, fun k hk ka kb => (hb k hk ka kb).kept (fun q q1 q2 => o.2.2.2.2 _ _ _ (by omega) (by omega) (by omega) (by omega))⟩
theorem RS.x {m : MM} {y i j d : Nat} {T : TW} {B : LW} (h : RS m y i j T B d 0 (-1) 0) (a b : Nat) : RX m y i j T B d a b := ⟨h.1, h.2.1, h.2.2.1, h.2.2.2.1, h.2.2.2.2.1, h.2.2.2.2.2.1, h.2.2.2.2.2.2.2.1, fun k hk => ⟨(h.2.2.2.2.2.2.2.2 k hk).1, (h.2.2.2.2.2.2.2.2 k hk).2.2.2.1⟩, fun k hk _ _ => h.2.2.2.2.2.2.2.2 k hk⟩
section RMV
variable {m : MM} {y i j d a b z p A : Nat} {T : TW} {B : LW}
theorem RX.s (h : RX m y i j T B d a b) (ha : a < T.2.1 0 → Rb m y a (bdy T d a) (snc T a)) (hb : b < T.2.1 0 → Rb m y b (bdy T d b) (snc T b)) : RS m y i j T B d 0 (-1) 0 := ⟨h.1, h.2.1, h.2.2.1, h.2.2.2.1, h.2.2.2.2.1, h.2.2.2.2.2.1, Nat.zero_le _, h.2.2.2.2.2.2.1, fun k hk => by
  by_cases za : k = a
  · rw [za]; exact ha (by omega)
  · by_cases zb : k = b
    · rw [zb]; exact hb (by omega)
    · exact h.2.2.2.2.2.2.2.2 k hk za zb⟩
theorem RX.bd (h : RX m y i j T B d a b) {k : Nat} (hk : k < T.2.1 0) (ka : k ≠ a) (kb : k ≠ b) : Rg m y k T d (bdy T d k) := ⟨snc T k, (nB_e (h.2.1.2.2.2.2.2.2.1 k hk).2.2.2.2.1 (by omega)).2, h.2.2.2.2.2.2.2.2 k hk ka kb, bdy_v h.2.1 hk d, rfl⟩
theorem RX.both (R : RX m y i j T B d a b) {p q : Nat} {u v : BD} (hp : p < 15) (hq : q < 15) (hpq : p ≠ q) (ha : Rg m y p T d u) (hb : Rg m y q T d v) (but : Int32) : f_X10_barsBoth y (nI j) (nI p) (nI q) but m = some (bI (clB T B 0 (bt 255) (clL T d) but u v), m) := by
  rw [r_barsBoth R.1 R.2.1 R.2.2.1 R.2.2.2.1 R.2.2.2.2.1 R.2.2.2.2.2.1 (by omega) hp hq hpq ha hb but, clB_congr (H := ohB (-1)) (H' := bt 255) (L := rfL T d 0) (L' := clL T d) (fun h hh => by rw [ohB_m, bt_255 h hh]) (rfL_0 R.2.2.1 d _ _) (rfL_0 R.2.2.1 d _ _)]
theorem RX.st (R : RX m y i j T B d a b) {c : Nat} (hc : c < 12) : f_X10_stands y (nI c) m = some (bI (sB T d c), m) := r_stands R.1.1 R.2.2.2.2.2.2.1 hc
theorem RX.ka (R : RX m y i j T B d a b) (hA : A = y + 54 ∨ A = y + 55) : m.K A = 24 ∧ m.N A = 64 := by
  rcases hA with e | e
  · rw [e]; exact (R.1.1.2 (1181, 54, 24, 64) (by decide)).2
  · rw [e]; exact (R.1.1.2 (1182, 55, 24, 64) (by decide)).2
theorem r_put (R : RX m y i j T B d a b) (hz : z < T.2.1 0) (hzab : z = a ∨ z = b) (hp : p < 64) : ∃ n, f_X10_put y (nI z) (nI p) m = some ((), n) ∧ Mw y a b m n ∧ Rg n y z T d (gst (bdy T d z).k (bdy T d z).f p) ∧ ∀ s q c, (c ≠ z ∨ (q ≠ y + 46 ∧ q ≠ y + 47 ∧ q ≠ y + 49)) → n.I s q c = m.I s q c := by
  have hM := R.1.1
  have hn := R.2.2.1.1
  have v := bdy_v R.2.1 hz d
  obtain ⟨k1, k2⟩ := R.2.2.2.2.2.2.2.1 z hz
  have e1 : ((m.sI 22 (y + 46) z (nI (p % 8))).sI 22 (y + 47) z (nI (p / 8))).I 1167 y 0 = nI d := by
    rw [I_sI, if_neg (by omega), I_sI, if_neg (by omega)]; exact R.1.2.2.2.2.1
  refine ⟨((m.sI 22 (y + 46) z (nI (p % 8))).sI 22 (y + 47) z (nI (p / 8))).sI 22 (y + 49) z (nI d), ?_, (((Mw.rf y a b m).sI _ _ _ _ (by omega)).sI _ _ _ _ (by omega)).sI _ _ _ _ (by omega), ⟨d, R.2.2.2.2.2.1, ⟨?_, ?_, ?_, ?_, ?_⟩, gst_v v.1 v.2.2.2.1 hp, (gN_0 T _ d).symm⟩, fun s q c hh => ?_⟩
  · unfold f_X10_put g_X10_put_0
    rw [chk_t hM.1, hM.c1161, hM.n1161, chk_t (inb_nI (show z < 15 by omega) (by decide)), bnd_e, cl_nI (show z < 2 ^ 31 by omega), dv8 p hp, md8 p hp, ck_sI, R_sI, hM.c1162, N_sI, hM.n1162, chk_t (inb_nI (show z < 15 by omega) (by decide)), bnd_e, ck_sI, ck_sI, R_sI, R_sI, hM.c1164, N_sI, N_sI, hM.n1164, chk_t (inb_nI (show z < 15 by omega) (by decide)), bnd_e, e1]
  · rw [I_sI, if_neg (by omega), I_sI, if_neg (by omega), I_sI, if_neg (by omega)]; exact k1
  · rw [I_sI, if_neg (by omega), I_sI, if_neg (by omega), I_sI, if_pos ⟨rfl, rfl, rfl⟩]; rfl
  · rw [I_sI, if_neg (by omega), I_sI, if_pos ⟨rfl, rfl, rfl⟩]; rfl
  · rw [I_sI, if_neg (by omega), I_sI, if_neg (by omega), I_sI, if_neg (by omega)]; exact k2
  · rw [I_sI, if_pos ⟨rfl, rfl, rfl⟩]
  · rw [I_sI, if_neg (by omega), I_sI, if_neg (by omega), I_sI, if_neg (by omega)]
theorem r_putBack (R : RX m y i j T B d a b) (hz : z < T.2.1 0) (hzab : z = a ∨ z = b) : ∃ n, f_X10_putBack y (nI z) m = some ((), n) ∧ Mw y a b m n ∧ Rb n y z (bdy T d z) (snc T z) ∧ ∀ s q c, (c ≠ z ∨ (q ≠ y + 46 ∧ q ≠ y + 47 ∧ q ≠ y + 49)) → n.I s q c = m.I s q c := by
  have hM := R.1.1
  have hn := R.2.2.1.1
  have hi := R.1.2.2.1
  have RT' := R.1.2.2.2.1
  obtain ⟨v0, v1, v2, v3, v4, _⟩ := R.2.1.2.2.2.2.2.2.1 z hz
  obtain ⟨k1, k2⟩ := R.2.2.2.2.2.2.2.1 z hz
  have e12 : (12 : Int32) * nI i + nI z = nI (12 * i + z) := by rw [show (12 : Int32) * nI i = nI (12 * i) from pk_mul 12 i, nI_add]
  have c1 : m.I 22 (y + 8) (12 * i + z) = T.2.2 0 z 1 := RT'.2.1 z hz 1 (by omega)
  have c2 : m.I 22 (y + 9) (12 * i + z) = T.2.2 0 z 2 := RT'.2.1 z hz 2 (by omega)
  have c4 : m.I 22 (y + 11) (12 * i + z) = T.2.2 0 z 4 := RT'.2.1 z hz 4 (by omega)
  have i1 : (m.sI 22 (y + 46) z (T.2.2 0 z 1)).I 1166 y 0 = nI i := by rw [I_sI, if_neg (by omega)]; exact R.1.2.1
  have i2 : ((m.sI 22 (y + 46) z (T.2.2 0 z 1)).sI 22 (y + 47) z (T.2.2 0 z 2)).I 1166 y 0 = nI i := by rw [I_sI, if_neg (by omega)]; exact i1
  have d2 : (m.sI 22 (y + 46) z (T.2.2 0 z 1)).I 22 (y + 9) (12 * i + z) = T.2.2 0 z 2 := by rw [I_sI, if_neg (by omega)]; exact c2
  have d4 : ((m.sI 22 (y + 46) z (T.2.2 0 z 1)).sI 22 (y + 47) z (T.2.2 0 z 2)).I 22 (y + 11) (12 * i + z) = T.2.2 0 z 4 := by rw [I_sI, if_neg (by omega), I_sI, if_neg (by omega)]; exact c4
  refine ⟨((m.sI 22 (y + 46) z (T.2.2 0 z 1)).sI 22 (y + 47) z (T.2.2 0 z 2)).sI 22 (y + 49) z (T.2.2 0 z 4), ?_, (((Mw.rf y a b m).sI _ _ _ _ (by omega)).sI _ _ _ _ (by omega)).sI _ _ _ _ (by omega), ⟨?_, ?_, ?_, ?_, ?_⟩, fun s q c hh => ?_⟩
  · unfold f_X10_putBack g_X10_putBack_0
    rw [chk_t hM.1, hM.c1108, hM.n1108, R.1.2.1, e12, chk_t (inb_nI (show 12 * i + z < 144 by omega) (by decide)), hM.c1161, hM.n1161, chk_t (inb_nI (show z < 15 by omega) (by decide)), bnd_e, cl_nI (show z < 2 ^ 31 by omega), cl_nI (show 12 * i + z < 2 ^ 31 by omega), c1, ck_sI, R_sI, hM.c1109, N_sI, hM.n1109, i1, e12, chk_t (inb_nI (show 12 * i + z < 144 by omega) (by decide)), ck_sI, hM.c1162, hM.n1162, chk_t (inb_nI (show z < 15 by omega) (by decide)), bnd_e, cl_nI (show 12 * i + z < 2 ^ 31 by omega), d2, ck_sI, ck_sI, R_sI, R_sI, hM.c1111, N_sI, N_sI, hM.n1111, i2, e12, chk_t (inb_nI (show 12 * i + z < 144 by omega) (by decide)), ck_sI, ck_sI, hM.c1164, hM.n1164, chk_t (inb_nI (show z < 15 by omega) (by decide)), bnd_e, cl_nI (show 12 * i + z < 2 ^ 31 by omega), d4]
  · rw [I_sI, if_neg (by omega), I_sI, if_neg (by omega), I_sI, if_neg (by omega)]; exact k1
  · rw [I_sI, if_neg (by omega), I_sI, if_neg (by omega), I_sI, if_pos ⟨rfl, rfl, rfl⟩]; exact (nB_e v1 (by omega)).1
  · rw [I_sI, if_neg (by omega), I_sI, if_pos ⟨rfl, rfl, rfl⟩]; exact (nB_e v2 (by omega)).1
  · rw [I_sI, if_neg (by omega), I_sI, if_neg (by omega), I_sI, if_neg (by omega)]; exact k2
  · rw [I_sI, if_pos ⟨rfl, rfl, rfl⟩]; exact (nB_e v4 (by omega)).1
  · rw [I_sI, if_neg (by omega), I_sI, if_neg (by omega), I_sI, if_neg (by omega)]
end RMV
