-- numbers: a double that stands for n / 2^k exactly
def zq (k : Nat) (n : Int) : UInt64 := Jvm.FP.Core.of64 (Jvm.FP.Core.round Jvm.FP.Core.b64 (.fin (decide (n < 0)) n.natAbs (-(k : Int))))
theorem zq_signed (n : Int) : Jvm.FP.Core.signed (decide (n < 0)) n.natAbs = n := by
  unfold Jvm.FP.Core.signed
  by_cases h : n < 0
  · rw [if_pos (by simpa using h)]; omega
  · rw [if_neg (by simpa using h)]; omega
theorem zq_val {k : Nat} {n : Int} (hk : k ≤ 900) (hn : n.natAbs < 9007199254740992) : ∃ (c : Nat) (q : Int), Jvm.FP.Core.val64 (zq k n) = .fin (decide (n < 0)) c q ∧ n.natAbs * 2 ^ (-(k : Int) - q).toNat = c * 2 ^ (q - -(k : Int)).toNat := by
  have hv : Jvm.FP.Core.val64 (zq k n) = Jvm.FP.Core.round Jvm.FP.Core.b64 (.fin (decide (n < 0)) n.natAbs (-(k : Int))) := Jvm.FP.Core.val64_of64 (Jvm.FP.Core.round_fits Jvm.FP.Core.good_b64 _)
  have hp : Jvm.FP.Core.b64.p = 53 := rfl
  have hqm : Jvm.FP.Core.b64.qmin = -1074 := by decide
  have hqM : Jvm.FP.Core.b64.qmax = 971 := by decide
  have htl : Jvm.FP.Core.b64.tails = 2 ^ 52 := rfl
  by_cases h0 : n.natAbs = 0
  · refine ⟨0, Jvm.FP.Core.b64.qmin, ?_, by rw [h0]; simp⟩
    rw [hv]
    show Jvm.FP.Core.roundRatio _ _ _ _ _ = _
    unfold Jvm.FP.Core.roundRatio
    rw [if_pos h0]
  · have hl1 : 2 ^ n.natAbs.log2 ≤ n.natAbs := Nat.log2_self_le h0
    have hl2 : n.natAbs < 2 ^ (n.natAbs.log2 + 1) := Nat.lt_log2_self
    have hL : n.natAbs.log2 ≤ 52 := by
      have := (Nat.log2_lt h0 (k := 53)).mpr (by simpa using hn)
      omega
    generalize n.natAbs.log2 = L at hl1 hl2 hL
    refine ⟨n.natAbs * 2 ^ (52 - L), -(k : Int) - (52 - L : Nat), ?_, ?_⟩
    · rw [hv]
      show Jvm.FP.Core.roundRatio _ _ _ _ _ = _
      refine Jvm.FP.Core.roundRatio_exact Jvm.FP.Core.good_b64 (by decide) ⟨?_, ?_, ?_, Or.inr ?_⟩ ?_
      · rw [hp]
        calc n.natAbs * 2 ^ (52 - L) < 2 ^ (L + 1) * 2 ^ (52 - L) := Nat.mul_lt_mul_of_pos_right hl2 (Nat.two_pow_pos _)
          _ = 2 ^ 53 := by rw [← Nat.pow_add]; congr 1; omega
      · rw [hqm]; omega
      · rw [hqM]; omega
      · rw [htl]
        calc 2 ^ 52 = 2 ^ L * 2 ^ (52 - L) := by rw [← Nat.pow_add]; congr 1; omega
          _ ≤ n.natAbs * 2 ^ (52 - L) := Nat.mul_le_mul_right _ hl1
      · rw [show (-(k : Int) - (-(k : Int) - (52 - L : Nat))).toNat = 52 - L by omega, show (-(k : Int) - (52 - L : Nat) - -(k : Int)).toNat = 0 by omega]
        simp
    · rw [show (-(k : Int) - (-(k : Int) - (52 - L : Nat))).toNat = 52 - L by omega, show (-(k : Int) - (52 - L : Nat) - -(k : Int)).toNat = 0 by omega]
      simp
theorem zq_units {k : Nat} {m c : Nat} {q E : Int} (h : m * 2 ^ (-(k : Int) - q).toNat = c * 2 ^ (q - -(k : Int)).toNat) (h1 : E ≤ q) (h2 : E ≤ -(k : Int)) : c * 2 ^ (q - E).toNat = m * 2 ^ (-(k : Int) - E).toNat := by
  by_cases hq : -(k : Int) ≤ q
  · rw [show (-(k : Int) - q).toNat = 0 by omega, Nat.pow_zero, Nat.mul_one] at h
    rw [h, Nat.mul_assoc, ← Nat.pow_add]
    congr 2; omega
  · rw [show (q - -(k : Int)).toNat = 0 by omega, Nat.pow_zero, Nat.mul_one] at h
    rw [← h, Nat.mul_assoc, ← Nat.pow_add]
    congr 2; omega
/-- what a number's bits are worth, in units of 2^E -/
theorem zq_sU {k : Nat} {n : Int} {c : Nat} {q E : Int} (h : n.natAbs * 2 ^ (-(k : Int) - q).toNat = c * 2 ^ (q - -(k : Int)).toNat) (h1 : E ≤ q) (h2 : E ≤ -(k : Int)) : Jvm.FP.Core.signed (decide (n < 0)) (Jvm.FP.Core.inUnits c q E) = n * ((2 ^ (-(k : Int) - E).toNat : Nat) : Int) := by
  unfold Jvm.FP.Core.inUnits
  rw [zq_units h h1 h2, Jvm.FP.Core.signed_mul, zq_signed]
/-- a datum of the value n / 2^k rounds to the number's own -/
theorem zq_round {k : Nat} {n v : Int} {e E : Int} {s : Bool} (hv : v * ((2 ^ (e - E).toNat : Nat) : Int) = n * ((2 ^ (-(k : Int) - E).toNat : Nat) : Int)) (hE : E = min e (-(k : Int))) (hs : s = decide (n < 0)) : Jvm.FP.Core.round Jvm.FP.Core.b64 (.fin s v.natAbs e) = Jvm.FP.Core.round Jvm.FP.Core.b64 (.fin (decide (n < 0)) n.natAbs (-(k : Int))) := by
  subst hs
  refine Jvm.FP.Core.roundRatio_congr (by decide) (by decide) ?_
  have h := congrArg Int.natAbs hv
  rw [Int.natAbs_mul, Int.natAbs_mul, Int.natAbs_natCast, Int.natAbs_natCast] at h
  rw [Nat.mul_one, Nat.mul_one, show (e - -(k : Int)).toNat = (e - E).toNat by omega, show (-(k : Int) - e).toNat = (-(k : Int) - E).toNat by omega]
  exact h
theorem zq_pos (x : Nat) : (0 : Int) < ((2 ^ x : Nat) : Int) := by exact_mod_cast Nat.two_pow_pos x
theorem zq_sign {v n : Int} {x y : Nat} (h : v * ((2 ^ x : Nat) : Int) = n * ((2 ^ y : Nat) : Int)) : (v = 0 ↔ n = 0) ∧ (v < 0 ↔ n < 0) := by
  have hx := zq_pos x
  have hy := zq_pos y
  generalize ((2 ^ x : Nat) : Int) = X at h hx
  generalize ((2 ^ y : Nat) : Int) = Y at h hy
  constructor
  · constructor
    · rintro rfl
      rw [Int.zero_mul] at h
      rcases Int.mul_eq_zero.mp h.symm with h | h
      · exact h
      · omega
    · rintro rfl
      rw [Int.zero_mul] at h
      rcases Int.mul_eq_zero.mp h with h | h
      · exact h
      · omega
  · constructor
    · intro hv
      have := Int.mul_neg_of_neg_of_pos hv hx
      rw [h] at this
      exact Int.lt_of_not_ge fun hn => absurd (Int.mul_nonneg hn (Int.le_of_lt hy)) (by omega)
    · intro hn
      have := Int.mul_neg_of_neg_of_pos hn hy
      rw [← h] at this
      exact Int.lt_of_not_ge fun hv => absurd (Int.mul_nonneg hv (Int.le_of_lt hx)) (by omega)
theorem zq_sum {k : Nat} {a b : Int} {s t : Bool} {c d : Nat} {q r : Int} (ha : ∀ E : Int, E ≤ q → E ≤ -(k : Int) → Jvm.FP.Core.signed s (Jvm.FP.Core.inUnits c q E) = a * ((2 ^ (-(k : Int) - E).toNat : Nat) : Int)) (hb : ∀ E : Int, E ≤ r → E ≤ -(k : Int) → Jvm.FP.Core.signed t (Jvm.FP.Core.inUnits d r E) = b * ((2 ^ (-(k : Int) - E).toNat : Nat) : Int)) (hz : a + b = 0 → (s && t) = false) :
    Jvm.FP.Core.round Jvm.FP.Core.b64 (Jvm.FP.Core.exactSum (.fin s c q) (.fin t d r)) = Jvm.FP.Core.round Jvm.FP.Core.b64 (.fin (decide (a + b < 0)) (a + b).natAbs (-(k : Int))) := by
  show Jvm.FP.Core.round Jvm.FP.Core.b64 (.fin (Jvm.FP.Core.sumSign s t (Jvm.FP.Core.sumUnits s c q t d r (min q r))) (Jvm.FP.Core.sumUnits s c q t d r (min q r)).natAbs (min q r)) = _
  have hv : Jvm.FP.Core.sumUnits s c q t d r (min q r) * ((2 ^ (min q r - min (min q r) (-(k : Int))).toNat : Nat) : Int) = (a + b) * ((2 ^ (-(k : Int) - min (min q r) (-(k : Int))).toNat : Nat) : Int) := by
    rw [Int.add_mul, ← ha _ (by omega) (by omega), ← hb _ (by omega) (by omega)]
    unfold Jvm.FP.Core.sumUnits
    rw [Int.add_mul, ← Jvm.FP.Core.signed_mul, ← Jvm.FP.Core.signed_mul, ← Jvm.FP.Core.inUnits_move c (by omega) (by omega), ← Jvm.FP.Core.inUnits_move d (by omega) (by omega)]
  refine zq_round hv rfl ?_
  have hsg := zq_sign hv
  unfold Jvm.FP.Core.sumSign
  by_cases h0 : a + b = 0
  · rw [if_pos (hsg.1.mpr h0), hz h0, h0]; rfl
  · rw [if_neg (fun h => h0 (hsg.1.mp h))]
    exact decide_eq_decide.mpr hsg.2
theorem zq_add {k : Nat} {a b : Int} (hk : k ≤ 900) (ha : a.natAbs < 9007199254740992) (hb : b.natAbs < 9007199254740992) : Jvm.FP.dadd (zq k a) (zq k b) = zq k (a + b) := by
  obtain ⟨c, q, ea, ua⟩ := zq_val hk ha
  obtain ⟨d, r, eb, ub⟩ := zq_val hk hb
  show Jvm.FP.Core.of64 (Jvm.FP.Core.round Jvm.FP.Core.b64 (Jvm.FP.Core.exactSum (Jvm.FP.Core.val64 (zq k a)) (Jvm.FP.Core.val64 (zq k b)))) = Jvm.FP.Core.of64 _
  rw [ea, eb, zq_sum (k := k) (a := a) (b := b) (fun E h1 h2 => zq_sU ua h1 h2) (fun E h1 h2 => zq_sU ub h1 h2)]
  intro h
  rw [Bool.and_eq_false_iff]; simp; omega
theorem zq_sub {k : Nat} {a b : Int} (hk : k ≤ 900) (ha : a.natAbs < 9007199254740992) (hb : b.natAbs < 9007199254740992) : Jvm.FP.dsub (zq k a) (zq k b) = zq k (a - b) := by
  obtain ⟨c, q, ea, ua⟩ := zq_val hk ha
  obtain ⟨d, r, eb, ub⟩ := zq_val hk hb
  show Jvm.FP.Core.of64 (Jvm.FP.Core.round Jvm.FP.Core.b64 (Jvm.FP.Core.exactSum (Jvm.FP.Core.val64 (zq k a)) (Jvm.FP.Core.negate (Jvm.FP.Core.val64 (zq k b))))) = Jvm.FP.Core.of64 _
  rw [ea, eb]
  show Jvm.FP.Core.of64 (Jvm.FP.Core.round Jvm.FP.Core.b64 (Jvm.FP.Core.exactSum (.fin _ _ _) (.fin (!(decide (b < 0))) d r))) = _
  rw [zq_sum (k := k) (a := a) (b := -b) (fun E h1 h2 => zq_sU ua h1 h2) (fun E h1 h2 => ?_)]
  · rfl
  · intro h
    rw [Bool.and_eq_false_iff]; simp; omega
  · have h := zq_sU ub h1 h2
    rw [Int.neg_mul, ← h]
    cases decide (b < 0) <;> simp [Jvm.FP.Core.signed]
/-- a product of two numbers, one of them above 0 or neither below -/
theorem zq_mul {k j : Nat} {a b : Int} (hk : k ≤ 900) (hj : j ≤ 900) (ha : a.natAbs < 9007199254740992) (hb : b.natAbs < 9007199254740992) (hp : 0 < a ∨ 0 < b ∨ (0 ≤ a ∧ 0 ≤ b)) : Jvm.FP.dmul (zq k a) (zq j b) = zq (k + j) (a * b) := by
  obtain ⟨c, q, ea, ua⟩ := zq_val hk ha
  obtain ⟨d, r, eb, ub⟩ := zq_val hj hb
  show Jvm.FP.Core.of64 (Jvm.FP.Core.round Jvm.FP.Core.b64 (Jvm.FP.Core.exactProduct (Jvm.FP.Core.val64 (zq k a)) (Jvm.FP.Core.val64 (zq j b)))) = Jvm.FP.Core.of64 _
  rw [ea, eb]
  show Jvm.FP.Core.of64 (Jvm.FP.Core.round Jvm.FP.Core.b64 (.fin (decide (a < 0) != decide (b < 0)) (c * d) (q + r))) = _
  congr 1
  have hsg : (decide (a < 0) != decide (b < 0)) = decide (a * b < 0) := by
    rcases Int.lt_trichotomy a 0 with h1 | h1 | h1 <;> rcases Int.lt_trichotomy b 0 with h2 | h2 | h2
    · omega
    · omega
    · have := Int.mul_neg_of_neg_of_pos h1 h2
      simp [h1, this]; omega
    · omega
    · subst h1; subst h2; simp
    · subst h1; simp; omega
    · have := Int.mul_neg_of_pos_of_neg h1 h2
      simp [h2, this]; omega
    · subst h2; simp; omega
    · have := Int.mul_pos h1 h2
      have e1 : ¬ a < 0 := by omega
      have e2 : ¬ b < 0 := by omega
      have e3 : ¬ a * b < 0 := by omega
      simp [e1, e2, e3]
  rw [hsg]
  refine Jvm.FP.Core.roundRatio_congr (by decide) (by decide) ?_
  rw [Nat.mul_one, Nat.mul_one, Int.natAbs_mul]
  have h1 := zq_units ua (E := min q (-(k : Int))) (by omega) (by omega)
  have h2 := zq_units ub (E := min r (-(j : Int))) (by omega) (by omega)
  have h3 : c * d * 2 ^ ((q - min q (-(k : Int))).toNat + (r - min r (-(j : Int))).toNat) = a.natAbs * b.natAbs * 2 ^ ((-(k : Int) - min q (-(k : Int))).toNat + (-(j : Int) - min r (-(j : Int))).toNat) := by
    rw [Nat.pow_add, Nat.pow_add]
    calc c * d * (2 ^ (q - min q (-(k : Int))).toNat * 2 ^ (r - min r (-(j : Int))).toNat) = (c * 2 ^ (q - min q (-(k : Int))).toNat) * (d * 2 ^ (r - min r (-(j : Int))).toNat) := by ac_rfl
      _ = _ := by rw [h1, h2]; ac_rfl
  have e1 : (q - min q (-(k : Int))).toNat + (r - min r (-(j : Int))).toNat + (-((k + j : Nat) : Int) - (q + r)).toNat = (-(k : Int) - min q (-(k : Int))).toNat + (-(j : Int) - min r (-(j : Int))).toNat + (q + r - -((k + j : Nat) : Int)).toNat := by omega
  refine Nat.eq_of_mul_eq_mul_right (Nat.two_pow_pos ((-(k : Int) - min q (-(k : Int))).toNat + (-(j : Int) - min r (-(j : Int))).toNat)) ?_
  calc c * d * 2 ^ (q + r - -((k + j : Nat) : Int)).toNat * 2 ^ ((-(k : Int) - min q (-(k : Int))).toNat + (-(j : Int) - min r (-(j : Int))).toNat)
      = c * d * 2 ^ ((-(k : Int) - min q (-(k : Int))).toNat + (-(j : Int) - min r (-(j : Int))).toNat + (q + r - -((k + j : Nat) : Int)).toNat) := by rw [Nat.mul_assoc, ← Nat.pow_add]; congr 2; omega
    _ = c * d * 2 ^ ((q - min q (-(k : Int))).toNat + (r - min r (-(j : Int))).toNat) * 2 ^ (-((k + j : Nat) : Int) - (q + r)).toNat := by rw [← e1, Nat.pow_add]; ac_rfl
    _ = _ := by rw [h3]; ac_rfl
theorem zq_up (k j : Nat) (n : Int) : zq k n = zq (k + j) (n * ((2 ^ j : Nat) : Int)) := by
  unfold zq
  congr 1
  have hp := zq_pos j
  have hs : decide (n * ((2 ^ j : Nat) : Int) < 0) = decide (n < 0) := by
    refine decide_eq_decide.mpr ⟨fun h => ?_, fun h => Int.mul_neg_of_neg_of_pos h hp⟩
    exact Int.lt_of_not_ge fun hn => absurd (Int.mul_nonneg hn (Int.le_of_lt hp)) (by omega)
  rw [hs]
  refine Jvm.FP.Core.roundRatio_congr (by decide) (by decide) ?_
  rw [Nat.mul_one, Nat.mul_one, Int.natAbs_mul, Int.natAbs_natCast, show (-(k : Int) - -((k + j : Nat) : Int)).toNat = j by omega, show (-((k + j : Nat) : Int) - -(k : Int)).toNat = 0 by omega]
  simp
theorem zq_cmp {k : Nat} {a b : Int} (hk : k ≤ 900) (ha : a.natAbs < 9007199254740992) (hb : b.natAbs < 9007199254740992) : Jvm.FP.dcmp (zq k a) (zq k b) = some (compare a b) := by
  obtain ⟨c, q, ea, ua⟩ := zq_val hk ha
  obtain ⟨d, r, eb, ub⟩ := zq_val hk hb
  show Jvm.FP.Core.order (Jvm.FP.Core.val64 (zq k a)) (Jvm.FP.Core.val64 (zq k b)) = _
  rw [ea, eb]
  show some (compare (Jvm.FP.Core.signed _ (Jvm.FP.Core.inUnits c q (min q r))) (Jvm.FP.Core.signed _ (Jvm.FP.Core.inUnits d r (min q r)))) = _
  congr 1
  have h1 := zq_sU ua (E := min (min q r) (-(k : Int))) (by omega) (by omega)
  have h2 := zq_sU ub (E := min (min q r) (-(k : Int))) (by omega) (by omega)
  rw [Jvm.FP.Core.inUnits_move c (r := min q r) (by omega) (by omega), Jvm.FP.Core.signed_mul] at h1
  rw [Jvm.FP.Core.inUnits_move d (r := min q r) (by omega) (by omega), Jvm.FP.Core.signed_mul] at h2
  have hx := zq_pos (min q r - min (min q r) (-(k : Int))).toNat
  have hy := zq_pos (-(k : Int) - min (min q r) (-(k : Int))).toNat
  generalize ((2 ^ (min q r - min (min q r) (-(k : Int))).toNat : Nat) : Int) = X at h1 h2 hx
  generalize ((2 ^ (-(k : Int) - min (min q r) (-(k : Int))).toNat : Nat) : Int) = Y at h1 h2 hy
  generalize Jvm.FP.Core.signed (decide (a < 0)) (Jvm.FP.Core.inUnits c q (min q r)) = u at h1 ⊢
  generalize Jvm.FP.Core.signed (decide (b < 0)) (Jvm.FP.Core.inUnits d r (min q r)) = w at h2 ⊢
  have hlt : u < w ↔ a < b := by
    rw [← Int.mul_lt_mul_right hx (b := u) (c := w), h1, h2, Int.mul_lt_mul_right hy]
  have hgt : w < u ↔ b < a := by
    rw [← Int.mul_lt_mul_right hx (b := w) (c := u), h1, h2, Int.mul_lt_mul_right hy]
  rw [Jvm.FP.Core.compare_ite, Jvm.FP.Core.compare_ite]
  by_cases c1 : a < b
  · rw [if_pos (hlt.mpr c1), if_pos c1]
  · rw [if_neg (fun h => c1 (hlt.mp h)), if_neg c1]
    by_cases c2 : b < a
    · have := hgt.mpr c2
      rw [if_neg (by omega), if_neg (by omega)]
    · have n1 : ¬ u < w := fun h => c1 (hlt.mp h)
      have n2 : ¬ w < u := fun h => c2 (hgt.mp h)
      rw [if_pos (by omega), if_pos (by omega)]
theorem zq_i2d (x : Int32) : Jvm.FP.i2d x = zq 0 x.toInt := rfl
theorem zq_nn {k : Nat} {n : Int} (hk : k ≤ 900) (hn : n.natAbs < 9007199254740992) : Jvm.FP.Core.val64 (zq k n) ≠ .nan := by
  obtain ⟨c, q, e, -⟩ := zq_val hk hn
  rw [e]
  intro h
  cases h
theorem zq_fin {k : Nat} {n : Int} (hk : k ≤ 900) (hn : n.natAbs < 9007199254740992) : vf_n64 (zq k n) := by
  have h := (Jvm.FP.Core.ne_nan _).mp (zq_nn hk hn)
  unfold vf_n64
  rw [UInt64.le_iff_toNat_le, Jvm.FP.Core.mask_toNat]
  exact h
theorem zq_d2i {n : Int} (h1 : -2147483648 ≤ n) (h2 : n < 2147483648) : Jvm.FP.d2i (zq 0 n) = Int32.ofInt n := by
  obtain ⟨c, q, e, u⟩ := zq_val (k := 0) (n := n) (by omega) (by omega)
  refine Jvm.FP.Core.d2i_int ?_
  rw [Int32.toInt_ofInt_of_le (by omega) (by omega)]
  show Jvm.FP.Core.Whole n (Jvm.FP.Core.val64 (zq 0 n))
  rw [e]
  show Jvm.FP.Core.signed (decide (n < 0)) (c * 2 ^ q.toNat) = n * ((2 ^ (-q).toNat : Nat) : Int)
  have hu : c * 2 ^ q.toNat = n.natAbs * 2 ^ (-q).toNat := by
    rw [show (-((0 : Nat) : Int) - q).toNat = (-q).toNat by omega, show (q - -((0 : Nat) : Int)).toNat = q.toNat by omega] at u
    exact u.symm
  rw [hu, Jvm.FP.Core.signed_mul, zq_signed]
theorem zq_d2l {n : Int} (h1 : -9007199254740992 < n) (h2 : n < 9007199254740992) : Jvm.FP.d2l (zq 0 n) = Int64.ofInt n := by
  obtain ⟨c, q, e, u⟩ := zq_val (k := 0) (n := n) (by omega) (by omega)
  refine Jvm.FP.Core.d2l_int ?_
  rw [Int64.toInt_ofInt_of_le (by omega) (by omega)]
  show Jvm.FP.Core.Whole n (Jvm.FP.Core.val64 (zq 0 n))
  rw [e]
  show Jvm.FP.Core.signed (decide (n < 0)) (c * 2 ^ q.toNat) = n * ((2 ^ (-q).toNat : Nat) : Int)
  have hu : c * 2 ^ q.toNat = n.natAbs * 2 ^ (-q).toNat := by
    rw [show (-((0 : Nat) : Int) - q).toNat = (-q).toNat by omega, show (q - -((0 : Nat) : Int)).toNat = q.toNat by omega] at u
    exact u.symm
  rw [hu, Jvm.FP.Core.signed_mul, zq_signed]
theorem zq_l2d (x : Int64) : Jvm.FP.l2d x = zq 0 x.toInt := rfl
/-- the eight bits of a fraction of 256: two numbers of one worth have one image -/
theorem zq_inj {k : Nat} {a b : Int} (hk : k ≤ 900) (ha : a.natAbs < 9007199254740992) (hb : b.natAbs < 9007199254740992) (h : zq k a = zq k b) : a = b := by
  have h1 := zq_cmp hk ha hb
  have h2 := zq_cmp hk hb hb
  rw [h, h2] at h1
  have h3 : compare b b = Ordering.eq := by rw [Jvm.FP.Core.compare_ite]; simp
  rw [h3] at h1
  have h4 := (Option.some.inj h1).symm
  rw [Jvm.FP.Core.compare_ite] at h4
  by_cases c1 : a < b
  · rw [if_pos c1] at h4; cases h4
  · rw [if_neg c1] at h4
    by_cases c2 : a = b
    · exact c2
    · rw [if_neg c2] at h4; cases h4
