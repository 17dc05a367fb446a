theorem zk0 : Jvm.FP.dconst0 = zq 8 0 := by decide +kernel
theorem zk_half : (4602678819172646912 : UInt64) = zq 1 1 := by decide +kernel
theorem zk_98 : (4607745368753438720 : UInt64) = zq 3 9 := by decide +kernel
theorem z_half {m : Int} (hm : m % 2 = 0) (h0 : 0 ≤ m) (hb : m.natAbs < 9007199254740992) : Jvm.FP.dmul (zq 8 m) (zq 1 1) = zq 8 (m / 2) := by
  rw [zq_mul (k := 8) (j := 1) (by omega) (by omega) hb (by decide) (Or.inr (Or.inr ⟨h0, by omega⟩)), zq_up 8 1 (m / 2)]
  congr 1
  have : ((2 ^ 1 : Nat) : Int) = 2 := by decide
  rw [this]
  omega
def wys : Nat → Int → Int → Int → Int → Int
  | 0, _, _, _, sum => sum
  | n + 1, u, s, b, sum => if u ≤ s then sum else wys n (if u - b ≤ s then s else u - b) s b (sum + (u + (if u - b ≤ s then s else u - b)) / 2)
/-- the braking way -/
def bw (v s b : Int) : Int := wys 200 v s b 0
theorem s_bw47 {K : SC → UInt64 → UInt64 → UInt64 → Int32 → Prop} {i : Nat} {S : SC} {y3 : UInt64} {sum u w : Int} {y9 : Int32} {Q : UInt64 → SC → Prop} (hu : 0 ≤ u ∧ u ≤ 100000) (hw : 0 ≤ w ∧ w ≤ 100000) (he : (u + w) % 2 = 0) (hs : 0 ≤ sum ∧ sum ≤ 1000000000)
    (h : K S y3 (zq 8 (sum + (u + w) / 2)) (zq 8 w) (y9 + 1)) : w_T_brakingWay_47 K i S y3 (zq 8 sum) (zq 8 u) y9 (zq 8 w) Q := by
  unfold w_T_brakingWay_47
  rw [zq_add (by omega) (by omega) (by omega)]
  refine ⟨zq_fin (by omega) (by omega), fun f3 e3 => ?_⟩
  subst e3
  rw [zk_half, z_half he (by omega) (by omega)]
  refine ⟨zq_fin (by omega) (by omega), fun f4 e4 => ?_⟩
  subst e4
  rw [zq_add (by omega) (by omega) (by omega)]
  refine ⟨zq_fin (by omega) (by omega), fun f5 e5 => ?_⟩
  subst e5
  exact h
theorem s_bw9 {i : Nat} {S : SC} {s b : Int} {Q : UInt64 → SC → Prop} (hb : S.2 6 i = zq 8 b) (hs : 0 ≤ s ∧ s ≤ 100000 ∧ s % 16 = 0) (hbb : 0 < b ∧ b ≤ 1000 ∧ b % 16 = 0) : ∀ (n c : Nat) (u sum : Int), c + n ≤ 1000 → n ≤ 200 → 0 ≤ u → u ≤ 100000 → u % 16 = 0 → u - s ≤ (n : Int) * b → 0 ≤ sum → sum ≤ (200 - (n : Int)) * 100000 → Q (zq 8 (wys n u s b sum)) S → w_T_brakingWay_9 i (n + 1) S (zq 8 s) (zq 8 sum) (zq 8 u) (nI c) Q := by
  intro n
  induction n with
  | zero =>
    intro c u sum hc hn h1 h2 h3 h4 h5 h6 hQ
    have hle : u ≤ s := by
      have : ((0 : Nat) : Int) * b = 0 := by simp
      omega
    refine ⟨fun _ => hQ, fun _ => ⟨fun _ => hQ, fun hc2 => absurd ?_ hc2⟩⟩
    rw [zcv .l (by omega) (by omega) (by omega)]
    exact zi_le.mpr hle
  | succ n ih =>
    intro c u sum hc hn h1 h2 h3 h4 h5 h6 hQ
    have hcN : ¬ (1000 : Int32) ≤ nI c := nI_ge (a := c) (b := 1000) (by omega) (by decide)
    by_cases hle : u ≤ s
    · have hw : wys (n + 1) u s b sum = sum := by unfold wys; rw [if_pos hle]
      rw [hw] at hQ
      refine ⟨fun _ => hQ, fun _ => ⟨fun _ => hQ, fun hc2 => absurd ?_ hc2⟩⟩
      rw [zcv .l (by omega) (by omega) (by omega)]
      exact zi_le.mpr hle
    · have hw : wys (n + 1) u s b sum = wys n (if u - b ≤ s then s else u - b) s b (sum + (u + (if u - b ≤ s then s else u - b)) / 2) := by
        conv => lhs; unfold wys
        rw [if_neg hle]
      rw [hw] at hQ
      have hmul : ((n + 1 : Nat) : Int) * b = (n : Int) * b + b := by
        rw [Int.natCast_add, Int.add_mul]; simp
      rw [hmul] at h4
      have hnb : 0 ≤ (n : Int) * b := Int.mul_nonneg (by omega) (by omega)
      refine ⟨fun h => absurd h hcN, fun _ => ⟨fun h => absurd ?_ hle, fun _ => ?_⟩⟩
      · rw [zcv .l (by omega) (by omega) (by omega)] at h
        exact zi_le.mp h
      · rw [hb, zq_sub (by omega) (by omega) (by omega)]
        refine ⟨zq_fin (by omega) (by omega), fun f1 e1 => ?_⟩
        subst e1
        rw [zcv .l (by omega) (by omega) (by omega)]
        refine ⟨fun h => ?_, fun h => ⟨zq_fin (by omega) (by omega), fun f2 e2 => ?_⟩⟩
        · have hq := zi_le.mp h
          rw [if_pos hq] at hQ
          refine s_bw47 ⟨h1, h2⟩ ⟨hs.1, hs.2.1⟩ (by omega) ⟨h5, by omega⟩ ?_
          show w_T_brakingWay_9 i (n + 1) S (zq 8 s) _ _ (nI c + 1) Q
          rw [nI_1]
          exact ih (c + 1) s _ (by omega) (by omega) hs.1 hs.2.1 hs.2.2 (by omega) (by omega) (by omega) hQ
        · subst e2
          have hq : ¬ u - b ≤ s := fun h9 => h (zi_le.mpr h9)
          rw [if_neg hq] at hQ
          refine s_bw47 ⟨h1, h2⟩ ⟨by omega, by omega⟩ (by omega) ⟨h5, by omega⟩ ?_
          show w_T_brakingWay_9 i (n + 1) S (zq 8 s) _ _ (nI c + 1) Q
          rw [nI_1]
          exact ih (c + 1) (u - b) _ (by omega) (by omega) (by omega) (by omega) (by omega) (by omega) (by omega) (by omega) hQ
/-- the class's braking way -/
theorem s_brakingWay {i : Nat} {S : SC} {v s b : Int} {Q : UInt64 → SC → Prop} (hb : S.2 6 i = zq 8 b) (hs : 0 ≤ s ∧ s ≤ 100000 ∧ s % 16 = 0) (hbb : 128 ≤ b ∧ b ≤ 1000 ∧ b % 16 = 0) (hv : 0 ≤ v ∧ v ≤ 25000 ∧ v % 16 = 0) (hQ : Q (zq 8 (bw v s b)) S) : w_T_brakingWay S i (zq 8 v) (zq 8 s) Q := by
  refine ⟨201, ?_⟩
  rw [zk0, ← nI_0]
  exact s_bw9 hb hs ⟨by omega, hbb.2⟩ 200 0 v 0 (by omega) (by omega) hv.1 (by omega) hv.2.2 (by omega) (by omega) (by omega) hQ
theorem wys_facts (s b : Int) (hs : 0 ≤ s ∧ s % 16 = 0) (hbb : 0 < b ∧ b % 16 = 0) : ∀ (n : Nat) (u sum : Int), 0 ≤ u → u % 16 = 0 → 0 ≤ sum → sum % 8 = 0 → 0 ≤ wys n u s b sum ∧ wys n u s b sum % 8 = 0 := by
  intro n
  induction n with
  | zero => intro u sum _ _ h3 h4; exact ⟨h3, h4⟩
  | succ n ih =>
    intro u sum h1 h2 h3 h4
    unfold wys
    by_cases hle : u ≤ s
    · rw [if_pos hle]; exact ⟨h3, h4⟩
    · rw [if_neg hle]
      by_cases hq : u - b ≤ s
      · rw [if_pos hq]; exact ih _ _ hs.1 hs.2 (by omega) (by omega)
      · rw [if_neg hq]; exact ih _ _ (by omega) (by omega) (by omega) (by omega)
theorem wys_le (s b : Int) (hs : 0 ≤ s ∧ s ≤ 100000) (hbb : 0 < b) : ∀ (n : Nat) (u sum : Int), 0 ≤ u → u ≤ 100000 → wys n u s b sum ≤ sum + (n : Int) * 100000 := by
  intro n
  induction n with
  | zero => intro u sum _ _; unfold wys; omega
  | succ n ih =>
    intro u sum h1 h2
    have hmul : ((n + 1 : Nat) : Int) * 100000 = (n : Int) * 100000 + 100000 := by omega
    unfold wys
    by_cases hle : u ≤ s
    · rw [if_pos hle]; omega
    · rw [if_neg hle]
      by_cases hq : u - b ≤ s
      · rw [if_pos hq]
        have := ih s (sum + (u + s) / 2) hs.1 hs.2
        omega
      · rw [if_neg hq]
        have := ih (u - b) (sum + (u + (u - b)) / 2) (by omega) (by omega)
        omega
theorem bw_facts {v s b : Int} (hs : 0 ≤ s ∧ s ≤ 100000 ∧ s % 16 = 0) (hbb : 128 ≤ b ∧ b ≤ 1000 ∧ b % 16 = 0) (hv : 0 ≤ v ∧ v ≤ 25000 ∧ v % 16 = 0) : 0 ≤ bw v s b ∧ bw v s b ≤ 20000000 ∧ bw v s b % 8 = 0 := by
  have h1 := wys_facts s b ⟨hs.1, hs.2.2⟩ ⟨by omega, hbb.2.2⟩ 200 v 0 hv.1 hv.2.2 (by omega) (by omega)
  have h2 := wys_le s b ⟨hs.1, hs.2.1⟩ (by omega) 200 v 0 hv.1 (by omega)
  unfold bw
  exact ⟨h1.1, by omega, h1.2⟩
/-- the reference's braking way -/
theorem m_ways6 {M : SR} {s b : Int} {Q : Int64 → SR → Prop} (hs : 0 ≤ s ∧ s ≤ 100000 ∧ s % 16 = 0) (hbb : 0 < b ∧ b ≤ 1000 ∧ b % 16 = 0) : ∀ (n : Nat) (u sum : Int), n ≤ 200 → 0 ≤ u → u ≤ 100000 → u % 16 = 0 → u - s ≤ (n : Int) * b → 0 ≤ sum → sum ≤ (200 - (n : Int)) * 100000 → Q (lI (wys n u s b sum)) M → w_R_ways_6 (n + 1) M (lI s) (lI b) (lI sum) (lI u) Q := by
  intro n
  induction n with
  | zero =>
    intro u sum hn h1 h2 h3 h4 h5 h6 hQ
    have hle : u ≤ s := by
      have : ((0 : Nat) : Int) * b = 0 := by simp
      omega
    refine ⟨fun _ => hQ, fun hc2 => absurd ?_ hc2⟩
    rw [lcv (by omega) (by omega)]
    exact zi_le.mpr hle
  | succ n ih =>
    intro u sum hn h1 h2 h3 h4 h5 h6 hQ
    by_cases hle : u ≤ s
    · have hw : wys (n + 1) u s b sum = sum := by unfold wys; rw [if_pos hle]
      rw [hw] at hQ
      refine ⟨fun _ => hQ, fun hc2 => absurd ?_ hc2⟩
      rw [lcv (by omega) (by omega)]
      exact zi_le.mpr hle
    · have hw : wys (n + 1) u s b sum = wys n (if u - b ≤ s then s else u - b) s b (sum + (u + (if u - b ≤ s then s else u - b)) / 2) := by
        conv => lhs; unfold wys
        rw [if_neg hle]
      rw [hw] at hQ
      have hmul : ((n + 1 : Nat) : Int) * b = (n : Int) * b + b := by
        rw [Int.natCast_add, Int.add_mul]; simp
      rw [hmul] at h4
      have hnb : 0 ≤ (n : Int) * b := Int.mul_nonneg (by omega) (by omega)
      refine ⟨fun h => absurd ?_ hle, fun _ b1 e1 => ?_⟩
      · rw [lcv (by omega) (by omega)] at h
        exact zi_le.mp h
      · rw [lI_sub] at e1
        subst e1
        rw [lcv (by omega) (by omega)]
        refine ⟨fun h => ?_, fun h b2 e2 => ?_⟩
        · have hq := zi_le.mp h
          rw [if_pos hq] at hQ
          intro b3 e3 b4 e4 b5 e5
          rw [lI_add] at e3
          subst e3
          rw [show (2 : Int64) = lI 2 from rfl, lI_div (by omega) (by omega) (by omega) (by omega)] at e4
          subst e4
          rw [lI_add] at e5
          subst e5
          exact ih s _ (by omega) hs.1 hs.2.1 hs.2.2 (by omega) (by omega) (by omega) hQ
        · rw [lI_sub] at e2
          subst e2
          have hq : ¬ u - b ≤ s := fun h9 => h (zi_le.mpr h9)
          rw [if_neg hq] at hQ
          intro b3 e3 b4 e4 b5 e5
          rw [lI_add] at e3
          subst e3
          rw [show (2 : Int64) = lI 2 from rfl, lI_div (by omega) (by omega) (by omega) (by omega)] at e4
          subst e4
          rw [lI_add] at e5
          subst e5
          exact ih (u - b) _ (by omega) (by omega) (by omega) (by omega) (by omega) (by omega) (by omega) hQ
theorem m_ways {M : SR} {v s b : Int} {Q : Int64 → SR → Prop} (hs : 0 ≤ s ∧ s ≤ 100000 ∧ s % 16 = 0) (hbb : 128 ≤ b ∧ b ≤ 1000 ∧ b % 16 = 0) (hv : 0 ≤ v ∧ v ≤ 25000 ∧ v % 16 = 0) (hQ : Q (lI (bw v s b)) M) : w_R_ways M (lI v) (lI s) (lI b) Q := by
  refine ⟨201, ?_⟩
  rw [show (0 : Int64) = lI 0 from rfl]
  exact m_ways6 hs ⟨by omega, hbb.2⟩ 200 v 0 (by omega) hv.1 (by omega) hv.2.2 (by omega) (by omega) (by omega) hQ
/-- 'safe for': the place x, the front f = m + k, the speed v, the speed s, the brake b -/
def sfF (x f v s b : Int) : Prop := f + bw v s b + bw v s b / 8 ≤ x
theorem s_isSafe {i : Nat} {S : SC} {x f v s b : Int} {Q : Int32 → SC → Prop} (hb : S.2 6 i = zq 8 b) (hs : 0 ≤ s ∧ s ≤ 100000 ∧ s % 16 = 0) (hbb : 128 ≤ b ∧ b ≤ 1000 ∧ b % 16 = 0) (hv : 0 ≤ v ∧ v ≤ 25000 ∧ v % 16 = 0) (hx : x.natAbs < 100000000) (hf : f.natAbs < 100000000)
    (h1 : sfF x f v s b → Q 1 S) (h0 : ¬ sfF x f v s b → Q 0 S) : w_T_isSafe S i (zq 8 x) (zq 8 f) (zq 8 v) (zq 8 s) Q := by
  unfold w_T_isSafe
  refine s_brakingWay hb hs hbb hv ?_
  have hd := bw_facts hs hbb hv
  unfold sfF at h1 h0
  generalize bw v s b = d at hd h1 h0
  rw [zk_98, zq_mul (k := 3) (j := 8) (by omega) (by omega) (by decide) (by omega) (Or.inl (by omega))]
  refine ⟨zq_fin (by omega) (by omega), fun f3 e3 => ?_⟩
  subst e3
  have e8 : ((2 ^ 3 : Nat) : Int) = 8 := by decide
  rw [zq_up 8 3 f, zq_up 8 3 x, e8, zq_add (k := 11) (by omega) (by omega) (by omega)]
  refine ⟨zq_fin (by omega) (by omega), fun f4 e4 => ?_⟩
  subst e4
  rw [zcv (k := 11) .g (by omega) (by omega) (by omega)]
  refine ⟨fun h => h0 ?_, fun h => h1 ?_⟩
  · have := zi_gt.mp h
    omega
  · have : ¬ x * 8 < f * 8 + 9 * d := fun h9 => h (zi_gt.mpr h9)
    omega
theorem m_safeFor {t : Nat} {M : SR} {x m k v s b : Int} {Q : Int32 → SR → Prop} (ht : t < 3) (hb : M.2 6 t = lI b) (hs : 0 ≤ s ∧ s ≤ 100000 ∧ s % 16 = 0) (hbb : 128 ≤ b ∧ b ≤ 1000 ∧ b % 16 = 0) (hv : 0 ≤ v ∧ v ≤ 25000 ∧ v % 16 = 0) (hx : x.natAbs < 100000000) (hm : m.natAbs < 50000000) (hk : k.natAbs < 50000000)
    (h1 : sfF x (m + k) v s b → Q 1 M) (h0 : ¬ sfF x (m + k) v s b → Q 0 M) : w_R_safeFor M (nI t) (lI x) (lI m) (lI k) (lI v) (lI s) Q := by
  refine ⟨vp_in_nI ht (by decide), ?_⟩
  rw [nI_clamp (by omega), hb]
  refine m_ways hs hbb hv ?_
  have hd := bw_facts hs hbb hv
  unfold sfF at h1 h0
  generalize bw v s b = d at hd h1 h0
  intro b3 e3 b4 e4 b5 e5 b6 e6
  rw [lI_add] at e3
  subst e3
  rw [lI_add] at e4
  subst e4
  rw [show (8 : Int64) = lI 8 from rfl, lI_div (by omega) (by omega) (by omega) (by omega)] at e5
  subst e5
  rw [lI_add] at e6
  subst e6
  rw [lcv (by omega) (by omega)]
  refine ⟨fun h => h0 ?_, fun h => h1 ?_⟩
  · have := zi_gt.mp h
    omega
  · have : ¬ x < m + k + d + d / 8 := fun h9 => h (zi_gt.mpr h9)
    omega
