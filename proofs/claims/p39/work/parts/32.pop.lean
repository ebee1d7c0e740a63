/-! how many bits are set -/
def popN : Nat → Nat → Nat
  | 0, _ => 0
  | k + 1, x => x % 2 + popN k (x / 2)
theorem popN_0 (k : Nat) : popN k 0 = 0 := by
  induction k with
  | zero => rfl
  | succ k ih => show 0 + popN k 0 = 0; rw [ih]
theorem popN_le (k x : Nat) : popN k x ≤ k := by
  induction k generalizing x with
  | zero => exact Nat.le_refl 0
  | succ k ih => show x % 2 + popN k (x / 2) ≤ k + 1; have := ih (x / 2); omega
theorem popN_add (j k x : Nat) : popN (j + k) x = popN j (x % 2 ^ j) + popN k (x / 2 ^ j) := by
  induction j generalizing x with
  | zero => simp [popN]
  | succ j ih =>
    rw [show j + 1 + k = (j + k) + 1 by omega]
    show x % 2 + popN (j + k) (x / 2) = (x % 2 ^ (j + 1)) % 2 + popN j ((x % 2 ^ (j + 1)) / 2) + popN k (x / 2 ^ (j + 1))
    have h1 : (x % 2 ^ (j + 1)) % 2 = x % 2 := Nat.mod_mod_of_dvd x ⟨2 ^ j, by rw [Nat.pow_succ, Nat.mul_comm]⟩
    have h2 : (x % 2 ^ (j + 1)) / 2 = (x / 2) % 2 ^ j := by
      rw [Nat.pow_succ, Nat.mul_comm, Nat.mod_mul_right_div_self]
    have h3 : x / 2 ^ (j + 1) = x / 2 / 2 ^ j := by
      rw [Nat.div_div_eq_div_mul, Nat.pow_succ, Nat.mul_comm]
    rw [h1, h2, h3, ih (x / 2)]
    omega
theorem and_split (k a b : Nat) : a &&& b = 2 ^ k * ((a / 2 ^ k) &&& (b / 2 ^ k)) + (a % 2 ^ k &&& b % 2 ^ k) := by
  have h := Nat.div_add_mod (a &&& b) (2 ^ k)
  rw [Nat.and_div_two_pow, Nat.and_mod_two_pow] at h
  exact h.symm
def rep (c : Nat) : Nat → Nat
  | 0 => 0
  | k + 1 => 256 * rep c k + c
theorem rep_d {c : Nat} (hc : c < 256) (k : Nat) : rep c (k + 1) / 2 ^ 8 = rep c k ∧ rep c (k + 1) % 2 ^ 8 = c := by
  show (256 * rep c k + c) / 256 = _ ∧ (256 * rep c k + c) % 256 = _
  omega
def v1 (k x : Nat) : Nat := x - ((x / 2) &&& rep 85 k)
def v2 (k x : Nat) : Nat := (v1 k x &&& rep 51 k) + ((v1 k x / 4) &&& rep 51 k)
def v3 (k x : Nat) : Nat := (v2 k x + v2 k x / 16) &&& rep 15 k
def g1 (d : Nat) : Nat := d - (d / 2 &&& 85)
def g2 (d : Nat) : Nat := (g1 d &&& 51) + (g1 d / 4 &&& 51)
theorem g1_a : ∀ e, e < 2 → ∀ d, d < 256 → (128 * e + d / 2) &&& 85 = d / 2 &&& 85 := by decide +kernel
theorem g2_a : ∀ e, e < 4 → ∀ d, d < 256 → (64 * e + d / 4) &&& 51 = d / 4 &&& 51 := by decide +kernel
theorem g2_b : ∀ d, d < 256 → g2 d % 16 ≤ 4 ∧ g2 d / 16 ≤ 4 ∧ (g2 d + g2 d / 16) % 16 = popN 8 d := by decide +kernel
theorem v1_s (k x : Nat) : v1 (k + 1) x = 256 * v1 k (x / 256) + g1 (x % 256) := by
  unfold v1 g1
  rw [and_split 8 (x / 2), (rep_d (by omega) k).1, (rep_d (by omega) k).2]
  have a1 : x / 2 / 2 ^ 8 = x / 256 / 2 := by omega
  have a2 : x / 2 % 2 ^ 8 = 128 * (x / 256 % 2) + x % 256 / 2 := by omega
  rw [a1, a2, g1_a _ (Nat.mod_lt _ (by omega)) _ (Nat.mod_lt _ (by omega))]
  have b1 : (x / 256 / 2 &&& rep 85 k) ≤ x / 256 / 2 := Nat.and_le_left
  have b2 : (x % 256 / 2 &&& 85) ≤ x % 256 / 2 := Nat.and_le_left
  omega
theorem g1_lt {d : Nat} (h : d < 256) : g1 d < 256 := by unfold g1; omega
theorem g2_lt {d : Nat} (h : d < 256) : g2 d < 256 := by
  have := (g2_b d h)
  omega
theorem v2_s (k x : Nat) : v2 (k + 1) x = 256 * v2 k (x / 256) + g2 (x % 256) := by
  have hd := g1_lt (Nat.mod_lt x (show 256 > 0 by omega))
  unfold v2 g2
  rw [v1_s]
  generalize v1 k (x / 256) = y at *
  generalize g1 (x % 256) = d at *
  rw [and_split 8 (256 * y + d), and_split 8 ((256 * y + d) / 4), (rep_d (by omega) k).1, (rep_d (by omega) k).2]
  have a1 : (256 * y + d) / 2 ^ 8 = y := by omega
  have a2 : (256 * y + d) % 2 ^ 8 = d := by omega
  have a3 : (256 * y + d) / 4 / 2 ^ 8 = y / 4 := by omega
  have a4 : (256 * y + d) / 4 % 2 ^ 8 = 64 * (y % 4) + d / 4 := by omega
  rw [a1, a2, a3, a4, g2_a _ (Nat.mod_lt _ (by omega)) _ hd]
  omega
theorem v2_lo (k x : Nat) : v2 k x % 16 ≤ 4 := by
  cases k with
  | zero => simp [v2, rep]
  | succ k =>
    have := (g2_b (x % 256) (Nat.mod_lt _ (by omega))).1
    rw [v2_s]
    omega
theorem v3_s (k x : Nat) : v3 (k + 1) x = 256 * v3 k (x / 256) + popN 8 (x % 256) := by
  have hg := g2_b (x % 256) (Nat.mod_lt _ (by omega))
  have hl := v2_lo k (x / 256)
  unfold v3
  rw [v2_s, ← hg.2.2]
  generalize v2 k (x / 256) = y at *
  generalize g2 (x % 256) = d at *
  rw [and_split 8 (256 * y + d + (256 * y + d) / 16), (rep_d (by omega) k).1, (rep_d (by omega) k).2]
  have a1 : (256 * y + d + (256 * y + d) / 16) / 2 ^ 8 = y + y / 16 := by omega
  have a2 : (256 * y + d + (256 * y + d) / 16) % 2 ^ 8 = 16 * (y % 16) + (d + d / 16) := by omega
  rw [a1, a2, show (15 : Nat) = 2 ^ 4 - 1 from rfl, Nat.and_two_pow_sub_one_eq_mod]
  omega
theorem fin (x : Nat) : (v3 8 x + v3 8 x / 256 < 2 ^ 61 ∧ (v3 8 x + v3 8 x / 256) + (v3 8 x + v3 8 x / 256) / 65536 < 2 ^ 62) ∧ (((v3 8 x + v3 8 x / 256) + (v3 8 x + v3 8 x / 256) / 65536) + ((v3 8 x + v3 8 x / 256) + (v3 8 x + v3 8 x / 256) / 65536) / 4294967296) % 128 = popN 64 x := by
  obtain ⟨p0, p1, p2, p3, p4, p5, p6, p7, h0, h1, h2, h3, h4, h5, h6, h7, hv, hp⟩ : ∃ p0 p1 p2 p3 p4 p5 p6 p7 : Nat, p0 ≤ 8 ∧ p1 ≤ 8 ∧ p2 ≤ 8 ∧ p3 ≤ 8 ∧ p4 ≤ 8 ∧ p5 ≤ 8 ∧ p6 ≤ 8 ∧ p7 ≤ 8 ∧ v3 8 x = 256 * (256 * (256 * (256 * (256 * (256 * (256 * p7 + p6) + p5) + p4) + p3) + p2) + p1) + p0 ∧ popN 64 x = p0 + (p1 + (p2 + (p3 + (p4 + (p5 + (p6 + (p7 + 0))))))) := by
    refine ⟨_, _, _, _, _, _, _, _, popN_le 8 (x % 256), popN_le 8 (x / 256 % 256), popN_le 8 (x / 256 / 256 % 256), popN_le 8 (x / 256 / 256 / 256 % 256), popN_le 8 (x / 256 / 256 / 256 / 256 % 256), popN_le 8 (x / 256 / 256 / 256 / 256 / 256 % 256), popN_le 8 (x / 256 / 256 / 256 / 256 / 256 / 256 % 256), popN_le 8 (x / 256 / 256 / 256 / 256 / 256 / 256 / 256 % 256), ?_, ?_⟩
    · simp only [v3_s, show ∀ y, v3 0 y = 0 from fun y => by simp [v3, rep]]
      omega
    · have e : popN 64 x = popN (8 + (8 + (8 + (8 + (8 + (8 + (8 + (8 + 0)))))))) x := rfl
      rw [e, popN_add, popN_add, popN_add, popN_add, popN_add, popN_add, popN_add, popN_add]
      rfl
  obtain ⟨t6, e6⟩ : ∃ t, t = 256 * p7 + p6 := ⟨_, rfl⟩
  obtain ⟨t5, e5⟩ : ∃ t, t = 256 * t6 + p5 := ⟨_, rfl⟩
  obtain ⟨t4, e4⟩ : ∃ t, t = 256 * t5 + p4 := ⟨_, rfl⟩
  obtain ⟨t3, e3⟩ : ∃ t, t = 256 * t4 + p3 := ⟨_, rfl⟩
  obtain ⟨t2, e2⟩ : ∃ t, t = 256 * t3 + p2 := ⟨_, rfl⟩
  obtain ⟨t1, e1⟩ : ∃ t, t = 256 * t2 + p1 := ⟨_, rfl⟩
  obtain ⟨t0, e0⟩ : ∃ t, t = 256 * t1 + p0 := ⟨_, rfl⟩
  rw [← e6, ← e5, ← e4, ← e3, ← e2, ← e1, ← e0] at hv
  rw [hv, hp]
  have d1 : t0 / 256 = t1 := by omega
  rw [d1]
  have d2 : (t0 + t1) / 65536 = t2 + t3 := by omega
  rw [d2]
  have d3 : (t0 + t1 + (t2 + t3)) / 4294967296 = t4 + t5 + (t6 + p7) := by omega
  rw [d3]
  omega
theorem bitCount_sp {x : Nat} (hx : x < 2 ^ 64) : fJ_bitCount (lN x) = nI (popN 64 x) := by
  have s1 : (1 : Int32) = nI 1 := rfl
  have s2 : (2 : Int32) = nI 2 := rfl
  have s4 : (4 : Int32) = nI 4 := rfl
  have s8 : (8 : Int32) = nI 8 := rfl
  have s16 : (16 : Int32) = nI 16 := rfl
  have s32 : (32 : Int32) = nI 32 := rfl
  have m1 : (6148914691236517205 : Int64) = lN (rep 85 8) := rfl
  have m2 : (3689348814741910323 : Int64) = lN (rep 51 8) := rfl
  have m3 : (1085102592571150095 : Int64) = lN (rep 15 8) := rfl
  have b1 : v1 8 x < 2 ^ 64 := by unfold v1; omega
  have b2 : v2 8 x < 2 ^ 64 := by
    have r : rep 51 8 < 2 ^ 62 := by decide
    have c1 : (v1 8 x &&& rep 51 8) ≤ rep 51 8 := Nat.and_le_right
    have c2 : (v1 8 x / 4 &&& rep 51 8) ≤ rep 51 8 := Nat.and_le_right
    unfold v2
    omega
  have b3 : v3 8 x < 2 ^ 64 := by
    have := (fin x).1.1
    omega
  have b4 := (fin x).1.1
  have b5 := (fin x).1.2
  have e1 : lN x - (((lN x).toUInt64 >>> ((1 : Int32).toInt64.toUInt64 &&& Int64.toUInt64 63)).toInt64 &&& (6148914691236517205 : Int64)) = lN (v1 8 x) := by
    rw [s1, wb_shr hx (by omega), m1, fb_andL, lN_sub (Nat.le_trans Nat.and_le_left (Nat.div_le_self _ _))]
    rfl
  have e2 : (lN (v1 8 x) &&& (3689348814741910323 : Int64)) + (((lN (v1 8 x)).toUInt64 >>> ((2 : Int32).toInt64.toUInt64 &&& Int64.toUInt64 63)).toInt64 &&& (3689348814741910323 : Int64)) = lN (v2 8 x) := by
    rw [s2, wb_shr b1 (by omega), m2, fb_andL, fb_andL, lN_add]
    rfl
  have e3 : (lN (v2 8 x) + ((lN (v2 8 x)).toUInt64 >>> ((4 : Int32).toInt64.toUInt64 &&& Int64.toUInt64 63)).toInt64) &&& (1085102592571150095 : Int64) = lN (v3 8 x) := by
    rw [s4, wb_shr b2 (by omega), m3, lN_add, fb_andL]
    rfl
  have e4 : lN (v3 8 x) + ((lN (v3 8 x)).toUInt64 >>> ((8 : Int32).toInt64.toUInt64 &&& Int64.toUInt64 63)).toInt64 = lN (v3 8 x + v3 8 x / 256) := by
    rw [s8, wb_shr b3 (by omega), lN_add]
  have hf := (fin x).2
  unfold fJ_bitCount
  rw [e1, e2, e3, e4]
  generalize v3 8 x + v3 8 x / 256 = y at b4 b5 hf ⊢
  have e5 : lN y + ((lN y).toUInt64 >>> ((16 : Int32).toInt64.toUInt64 &&& Int64.toUInt64 63)).toInt64 = lN (y + y / 65536) := by
    rw [s16, wb_shr (by omega) (by omega), lN_add]
  rw [e5]
  generalize y + y / 65536 = z at b5 hf ⊢
  have e6 : lN z + ((lN z).toUInt64 >>> ((32 : Int32).toInt64.toUInt64 &&& Int64.toUInt64 63)).toInt64 = lN (z + z / 4294967296) := by
    rw [s32, wb_shr (by omega) (by omega), lN_add]
  rw [e6, lN_i, show (127 : Int32) = nI 127 from rfl]
  have e7 : nI (z + z / 4294967296) &&& nI 127 = nI ((z + z / 4294967296) &&& 127) := by
    apply Int32.toBitVec_inj.1
    show BitVec.ofNat 32 _ &&& BitVec.ofNat 32 127 = BitVec.ofNat 32 (_ &&& 127)
    apply BitVec.eq_of_getLsbD_eq
    intro i hi
    simp [hi]
  rw [e7, show (127 : Nat) = 2 ^ 7 - 1 from rfl, Nat.and_two_pow_sub_one_eq_mod, show (2 : Nat) ^ 7 = 128 from rfl, hf]
