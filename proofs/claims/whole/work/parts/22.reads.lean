-- numbers shown, numbers made whole, constants
theorem z_shown {v : Int} (hv : v.natAbs < 9007199254740992) : Jvm.FP.ddiv (zq 0 v) (4643211215818981376 : UInt64) = zq 8 v := by
  obtain ⟨c, q, ea, ua⟩ := zq_val (k := 0) (by omega) hv
  have eb : Jvm.FP.Core.val64 (4643211215818981376 : UInt64) = .fin false 4503599627370496 (-44) := by decide +kernel
  show Jvm.FP.Core.of64 (Jvm.FP.Core.quotient Jvm.FP.Core.b64 (Jvm.FP.Core.val64 (zq 0 v)) (Jvm.FP.Core.val64 _)) = Jvm.FP.Core.of64 _
  rw [ea, eb]
  have eq9 : Jvm.FP.Core.quotient Jvm.FP.Core.b64 (.fin (decide (v < 0)) c q) (.fin false 4503599627370496 (-44)) = Jvm.FP.Core.roundRatio Jvm.FP.Core.b64 (decide (v < 0) != false) c 4503599627370496 (q - -44) := by
    show (if (4503599627370496 : Nat) = 0 then (if c = 0 then Jvm.FP.Core.Datum.nan else .inf (decide (v < 0) != false)) else Jvm.FP.Core.roundRatio Jvm.FP.Core.b64 (decide (v < 0) != false) c 4503599627370496 (q - -44)) = _
    rw [if_neg (by decide)]
  rw [eq9]
  congr 1
  rw [show (decide (v < 0) != false) = decide (v < 0) by cases decide (v < 0) <;> rfl]
  refine Jvm.FP.Core.roundRatio_congr (by decide) (by decide) ?_
  have e52 : (4503599627370496 : Nat) = 2 ^ 52 := by decide
  rw [Nat.mul_one, e52]
  by_cases hq : -52 ≤ q
  · have h := zq_units ua (E := -52) (by omega) (by omega)
    rw [show (q - -44 - -((8 : Nat) : Int)).toNat = (q - -52).toNat by omega, show (-((8 : Nat) : Int) - (q - -44)).toNat = 0 by omega, h]
    simp
  · have h := zq_units ua (E := q) (by omega) (by omega)
    rw [show (q - -44 - -((8 : Nat) : Int)).toNat = 0 by omega, Nat.pow_zero, Nat.mul_one, Nat.mul_assoc, ← Nat.pow_add]
    rw [show (q - q).toNat = 0 by omega, Nat.pow_zero, Nat.mul_one] at h
    rw [h]
    congr 2; omega
theorem zk_1 : Jvm.FP.dconst1 = zq 3 8 := by decide +kernel
theorem zk_60 : (4633641066610819072 : UInt64) = zq 3 480 := by decide +kernel
theorem zk_50 : (4632233691727265792 : UInt64) = zq 3 400 := by decide +kernel
theorem zk_1000 : (4652007308841189376 : UInt64) = zq 3 8000 := by decide +kernel
theorem zk_10 : (4621819117588971520 : UInt64) = zq 3 80 := by decide +kernel
theorem zk_h3 : (4602678819172646912 : UInt64) = zq 3 4 := by decide +kernel
theorem zk_2 : (4611686018427387904 : UInt64) = zq 3 16 := by decide +kernel
theorem zk_m2 : (13835058055282163712 : UInt64) = zq 3 (-16) := by decide +kernel
theorem zk_10000 : (4666723172467343360 : UInt64) = zq 3 80000 := by decide +kernel
theorem zk_03 : Jvm.FP.dconst0 = zq 3 0 := by decide +kernel
theorem zk_256 : (4643211215818981376 : UInt64) = zq 0 256 := by decide +kernel
theorem zk_8th : (4593671619917905920 : UInt64) = zq 3 1 := by decide +kernel
theorem zk_5 : (4617315517961601024 : UInt64) = zq 8 1280 := by decide +kernel
theorem zk_8 : (4620693217682128896 : UInt64) = zq 0 8 := by decide +kernel
theorem zk_m1 : (13830554455654793216 : UInt64) = zq 8 (-256) := by decide +kernel
theorem z38 (n : Int) : zq 3 n = zq 8 (32 * n) := by
  rw [zq_up 3 5 n]
  congr 1
  have : ((2 ^ 5 : Nat) : Int) = 32 := by decide
  omega
theorem z_whole {n : Int} (hn : n.natAbs < 4294967296) : Jvm.FP.dmul (zq 3 n) (4643211215818981376 : UInt64) = zq 0 (32 * n) := by
  rw [zk_256, zq_mul (k := 3) (j := 0) (by omega) (by omega) (by omega) (by decide) (Or.inr (Or.inl (by decide))), zq_up 0 3 (32 * n)]
  congr 1
  have : ((2 ^ 3 : Nat) : Int) = 8 := by decide
  omega
theorem m_whole {M : SR} {n : Int} {Q : Int64 → SR → Prop} (hn : n.natAbs < 4294967296) (h : Q (lI (32 * n)) M) : w_R_whole M (zq 3 n) Q := by
  unfold w_R_whole
  rw [z_whole hn]
  refine ⟨zq_fin (by omega) (by omega), fun f1 e1 b2 e2 => ?_⟩
  subst e1
  rw [zq_d2l (by omega) (by omega)] at e2
  subst e2
  exact h
theorem m_shown {M : SR} {v : Int} {Q : UInt64 → SR → Prop} (hv : v.natAbs < 9007199254740992) (h : Q (zq 8 v) (pI M 0 0 0)) : w_R_shown M (lI v) Q := by
  intro f1 e1
  rw [zq_l2d, lI_to hv] at e1
  subst e1
  rw [z_shown hv]
  refine ⟨zq_fin (by omega) hv, fun f2 e2 => ?_⟩
  subst e2
  exact h
-- what an update changes
theorem pI_s {α : Type} {S : (Nat → Nat → Int32) × α} {c j : Nat} {v : Int32} : (pI S c j v).1 c j = v := by
  show va_up S.1 c (va_up (S.1 c) j v) c j = v
  unfold va_up
  rw [if_pos rfl, if_pos rfl]
theorem pI_o {α : Type} {S : (Nat → Nat → Int32) × α} {c j c' j' : Nat} {v : Int32} (h : c' ≠ c ∨ j' ≠ j) : (pI S c j v).1 c' j' = S.1 c' j' := by
  show va_up S.1 c (va_up (S.1 c) j v) c' j' = S.1 c' j'
  unfold va_up
  by_cases e : c' = c
  · subst e
    rw [if_pos rfl, if_neg (by omega)]
  · rw [if_neg e]
theorem pV_s {α : Type} {S : (Nat → Nat → Int32) × (Nat → Nat → α)} {c j : Nat} {v : α} : (pV S c j v).2 c j = v := by
  show va_up S.2 c (va_up (S.2 c) j v) c j = v
  unfold va_up
  rw [if_pos rfl, if_pos rfl]
theorem pV_o {α : Type} {S : (Nat → Nat → Int32) × (Nat → Nat → α)} {c j c' j' : Nat} {v : α} (h : c' ≠ c ∨ j' ≠ j) : (pV S c j v).2 c' j' = S.2 c' j' := by
  show va_up S.2 c (va_up (S.2 c) j v) c' j' = S.2 c' j'
  unfold va_up
  by_cases e : c' = c
  · subst e
    rw [if_pos rfl, if_neg (by omega)]
  · rw [if_neg e]
theorem pI_comm {α : Type} (E : (Nat → Nat → Int32) × α) {c c' : Nat} (h : c ≠ c') (j j' : Nat) (v v' : Int32) : pI (pI E c j v) c' j' v' = pI (pI E c' j' v') c j v := by
  refine Prod.ext (funext fun d => ?_) rfl
  show va_up (va_up E.1 c (va_up (E.1 c) j v)) c' (va_up (va_up E.1 c (va_up (E.1 c) j v) c') j' v') d = va_up (va_up E.1 c' (va_up (E.1 c') j' v')) c (va_up (va_up E.1 c' (va_up (E.1 c') j' v') c) j v) d
  unfold va_up
  by_cases e : d = c
  · subst e
    simp [h]
  · by_cases e2 : d = c'
    · subst e2
      simp [e]
    · simp [e, e2]
theorem pV_comm {α : Type} (E : (Nat → Nat → Int32) × (Nat → Nat → α)) {c c' : Nat} (h : c ≠ c') (j j' : Nat) (v v' : α) : pV (pV E c j v) c' j' v' = pV (pV E c' j' v') c j v := by
  refine Prod.ext rfl (funext fun d => ?_)
  show va_up (va_up E.2 c (va_up (E.2 c) j v)) c' (va_up (va_up E.2 c (va_up (E.2 c) j v) c') j' v') d = va_up (va_up E.2 c' (va_up (E.2 c') j' v')) c (va_up (va_up E.2 c' (va_up (E.2 c') j' v') c) j v) d
  unfold va_up
  by_cases e : d = c
  · subst e
    simp [h]
  · by_cases e2 : d = c'
    · subst e2
      simp [e]
    · simp [e, e2]
theorem rc_xI {S : SC} {E : EA} (h : RC S E) (c j : Nat) (v : Int32) (hc : 14 ≤ c) : RC S (pI E c j v) :=
  ⟨fun c' j' hc' => by rw [pI_o (Or.inl (by omega))]; exact h.1 c' j' hc', h.2⟩
theorem rc_xV {S : SC} {E : EA} (h : RC S E) (c j : Nat) (v : Int) (hc : 13 ≤ c) : RC S (pV E c j v) :=
  ⟨h.1, fun c' j' hc' => by rw [pV_o (Or.inl (by omega))]; exact h.2 c' j' hc'⟩
theorem rm_xI {M : SR} {E : EA} (h : RM M E) (c j : Nat) (v : Int32) (hc : ∀ d, d < 12 → sg d ≠ c) : RM M (pI E c j v) :=
  ⟨fun c' j' hc' => by rw [pI_o (Or.inl (hc c' hc'))]; exact h.1 c' j' hc', h.2⟩
theorem rm_xV {M : SR} {E : EA} (h : RM M E) (j : Nat) (v : Int) : RM M (pV E 11 j v) :=
  ⟨h.1, fun c' j' hc' => by rw [pV_o (Or.inl (by unfold ta; split <;> omega))]; exact h.2 c' j' hc'⟩
-- ranges
theorem s_isWithin {S : SC} {k : Nat} {x a b : Int} {Q : Int32 → SC → Prop} (hk : k ≤ 900) (hx : x.natAbs < 9007199254740992) (ha : a.natAbs < 9007199254740992) (hb : b.natAbs < 9007199254740992) (h1 : a ≤ x → x ≤ b → Q 1 S) (h0 : ¬ (a ≤ x ∧ x ≤ b) → Q 0 S) : w_G_isWithin S (zq k x) (zq k a) (zq k b) Q := by
  unfold w_G_isWithin
  rw [zcv .l hk hx ha, zcv .g hk hx hb]
  refine ⟨fun p => h0 (fun q => ?_), fun p => ⟨fun q => h0 (fun r => ?_), fun q => h1 ?_ ?_⟩⟩
  · have := zi_lt.mp p
    omega
  · have := zi_gt.mp q
    omega
  · have : ¬ x < a := fun z => p (zi_lt.mpr z)
    omega
  · have : ¬ b < x := fun z => q (zi_gt.mpr z)
    omega
theorem m_between {S : SR} {k : Nat} {x a b : Int} {Q : Int32 → SR → Prop} (hk : k ≤ 900) (hx : x.natAbs < 9007199254740992) (ha : a.natAbs < 9007199254740992) (hb : b.natAbs < 9007199254740992) (h1 : a ≤ x → x ≤ b → Q 1 S) (h0 : ¬ (a ≤ x ∧ x ≤ b) → Q 0 S) : w_R_between S (zq k x) (zq k a) (zq k b) Q := by
  unfold w_R_between
  rw [zcv .l hk hx ha, zcv .g hk hx hb]
  refine ⟨fun p => h0 (fun q => ?_), fun p => ⟨fun q => h0 (fun r => ?_), fun q => h1 ?_ ?_⟩⟩
  · have := zi_lt.mp p
    omega
  · have := zi_gt.mp q
    omega
  · have : ¬ x < a := fun z => p (zi_lt.mpr z)
    omega
  · have : ¬ b < x := fun z => q (zi_gt.mpr z)
    omega
theorem s_isSpeed {S : SC} {x : Int} {Q : Int32 → SC → Prop} (hx : x.natAbs < 9007199254740992) (h1 : 8 ≤ x → x ≤ 480 → Q 1 S) (h0 : ¬ (8 ≤ x ∧ x ≤ 480) → Q 0 S) : w_G_isSpeed S (zq 3 x) Q := by
  unfold w_G_isSpeed
  rw [zk_1, zk_60]
  exact s_isWithin (by omega) hx (by decide) (by decide) (fun p q => ⟨rfl, h1 p q⟩) (fun p => ⟨rfl, h0 p⟩)
theorem s_tn {S : SC} {nT : Nat} {x : Int32} {Q X : Nat → SC → Prop} (e : S.1 0 0 = nI nT) (hT : nT ≤ 3) (h1 : ∀ t : Nat, t < nT → x = nI t → Q t S) (h0 : ¬ (∃ t : Nat, t < nT ∧ x = nI t) → X 1 S) : w_G_trainNumbered S x Q X := by
  unfold w_G_trainNumbered
  rw [e]
  refine ⟨fun a => ⟨fun _ => h0 ?_, fun hc => absurd rfl hc⟩, fun a => ⟨fun b => ⟨fun _ => h0 ?_, fun hc => absurd rfl hc⟩, fun b => ⟨fun hc => absurd hc (by decide), fun _ => ?_⟩⟩⟩
  · rintro ⟨t, ht, rfl⟩
    exact nI_pos (by omega) a
  · rintro ⟨t, ht, rfl⟩
    exact nI_ge ht (by omega) b
  · obtain ⟨t, ht, rfl⟩ := nI_of a
    have hlt : ¬ nT ≤ t := fun q => b (nI_le q (by omega))
    show vp_in (nI t) 3 ∧ _ ∧ Q _ S
    rw [nI_clamp (by omega)]
    exact ⟨vp_in_nI (by omega) (by decide), by omega, h1 t (by omega) rfl⟩
theorem m_inN {M : SR} {n : Nat} {x : Int32} {Q : Int32 → SR → Prop} (hn : n < 1000) (h1 : ∀ t : Nat, t < n → x = nI t → Q 1 M) (h0 : ¬ (∃ t : Nat, t < n ∧ x = nI t) → Q 0 M) : w_R_in M x 0 (nI n - 1) Q := by
  refine ⟨fun a => h0 ?_, fun a => ?_⟩
  · rintro ⟨t, ht, rfl⟩
    exact nI_pos (by omega) a
  obtain ⟨t, ht, rfl⟩ := nI_of a
  have key : (nI n - 1 < nI t) ↔ n ≤ t := by
    cases n with
    | zero =>
      refine ⟨fun _ => by omega, fun _ => ?_⟩
      rw [Int32.lt_iff_toInt_lt, nI_toInt ht]
      show ((nI 0 - 1 : Int32)).toInt < _
      have : (nI 0 - 1 : Int32).toInt = -1 := by decide
      omega
    | succ m =>
      rw [nI_pred]
      exact ⟨fun q => by have := (nI_ltI (by omega) ht).mp q; omega, fun q => nI_lt (by omega) ht⟩
  refine ⟨fun b => h0 ?_, fun b => h1 t ?_ rfl⟩
  · rintro ⟨t', ht', e⟩
    have := (nI_eq (by omega) (by omega)).mp e
    have := key.mp b
    omega
  · have : ¬ n ≤ t := fun q => b (key.mpr q)
    omega
theorem m_noTrain {M : SR} {nT : Nat} {x : Int32} {Q : Int32 → SR → Prop} (e : M.1 3 0 = nI nT) (hT : nT ≤ 3) (h1 : ∀ t : Nat, t < nT → x = nI t → Q 0 M) (h0 : ¬ (∃ t : Nat, t < nT ∧ x = nI t) → Q 1 M) : w_R_noTrain M x Q := by
  intro a1 ea
  rw [e] at ea
  subst ea
  exact m_inN (by omega) (fun t ht ex => ⟨fun _ => h1 t ht ex, fun hc => absurd hc (by decide)⟩) (fun hn => ⟨fun hc => absurd rfl hc, fun _ => h0 hn⟩)
theorem m_noSection {M : SR} {nS : Nat} {x : Int32} {Q : Int32 → SR → Prop} (e : M.1 1 0 = nI nS) (hT : nS ≤ 10) (h1 : ∀ t : Nat, t < nS → x = nI t → Q 0 M) (h0 : ¬ (∃ t : Nat, t < nS ∧ x = nI t) → Q 1 M) : w_R_noSection M x Q := by
  intro a1 ea
  rw [e] at ea
  subst ea
  exact m_inN (by omega) (fun t ht ex => ⟨fun _ => h1 t ht ex, fun hc => absurd hc (by decide)⟩) (fun hn => ⟨fun hc => absurd rfl hc, fun _ => h0 hn⟩)
theorem s_hasSection {S : SC} {nS : Nat} {x : Int32} {Q : Int32 → SC → Prop} (e : S.1 4 0 = nI nS) (hT : nS ≤ 10) (h1 : ∀ t : Nat, t < nS → x = nI t → Q 1 S) (h0 : ¬ (∃ t : Nat, t < nS ∧ x = nI t) → Q 0 S) : w_L_hasSection S x Q := by
  unfold w_L_hasSection
  rw [e]
  refine ⟨fun a => h0 ?_, fun a => ⟨fun b => h0 ?_, fun b => ?_⟩⟩
  · rintro ⟨t, ht, rfl⟩
    exact nI_pos (by omega) a
  · rintro ⟨t, ht, rfl⟩
    exact nI_ge ht (by omega) b
  · obtain ⟨t, ht, rfl⟩ := nI_of a
    have hlt : ¬ nS ≤ t := fun q => b (nI_le q (by omega))
    exact h1 t (by omega) rfl
-- who stands where
def inn (E : EA) (t s : Nat) : Prop := E.2 0 s < E.2 8 t ∧ E.2 8 t - E.2 5 t < E.2 0 (s + 1)
def bnd (E : EA) (t : Nat) : Prop := 0 ≤ E.2 8 t ∧ E.2 8 t ≤ 2560000 ∧ 0 ≤ E.2 5 t ∧ E.2 5 t ≤ 12800
theorem s_rear {S : SC} {E : EA} {t : Nat} {Q : UInt64 → SC → Prop} (hR : RC S E) (hb : bnd E t) (h : Q (zq 8 (E.2 8 t - E.2 5 t)) S) : w_T_rear S t Q := by
  unfold bnd at hb
  unfold w_T_rear
  rw [hR.2 8 t (by omega), hR.2 5 t (by omega), zq_sub (by omega) (by omega) (by omega)]
  refine ⟨zq_fin (by omega) (by omega), fun f1 e => ?_⟩
  subst e
  exact h
theorem s_endOf {S : SC} {E : EA} {s nS : Nat} {Q : UInt64 → SC → Prop} (hR : RC S E) (hs : s < nS) (hn : nS ≤ 10) (h : Q (zq 8 (E.2 0 (s + 1))) S) : w_L_endOf S (nI s) Q := by
  intro a1 ea
  rw [nI_1] at ea
  subst ea
  refine ⟨vp_in_nI (by omega) (by decide), ?_⟩
  rw [nI_clamp (by omega), hR.2 0 _ (by omega)]
  exact h
theorem s_beginOf {S : SC} {E : EA} {s nS : Nat} {Q : UInt64 → SC → Prop} (hR : RC S E) (hs : s < nS) (hn : nS ≤ 10) (h : Q (zq 8 (E.2 0 s)) S) : w_L_beginOf S (nI s) Q := by
  refine ⟨vp_in_nI (by omega) (by decide), ?_⟩
  rw [nI_clamp (by omega), hR.2 0 _ (by omega)]
  exact h
theorem s_isIn {S : SC} {E : EA} {nS nR t s : Nat} {Q : Int32 → SC → Prop} (hR : RC S E) (h : IL E nS nR) (hb : bnd E t) (hs : s < nS) (h1 : inn E t s → Q 1 S) (h0 : ¬ inn E t s → Q 0 S) : w_G_isIn S t (nI s) Q := by
  have hn := h.2.1
  have g1 := h.bg s (by omega)
  have g2 := h.bg (s + 1) (by omega)
  have hb' := hb
  unfold bnd at hb'
  refine s_beginOf hR hs hn ?_
  rw [hR.2 8 t (by omega), zcv .g (by omega) (by omega) (by omega)]
  refine ⟨fun a => h0 (fun q => ?_), fun a => s_endOf hR hs hn (s_rear hR hb ?_)⟩
  · have := zi_ge.mp a
    have := q.1
    omega
  have a1 : ¬ E.2 8 t ≤ E.2 0 s := fun q => a (zi_ge.mpr q)
  rw [zcv .l (by omega) (by omega) (by omega)]
  refine ⟨fun d => h0 (fun q => ?_), fun d => h1 ⟨by omega, ?_⟩⟩
  · have := zi_le.mp d
    have := q.2
    omega
  · have : ¬ E.2 0 (s + 1) ≤ E.2 8 t - E.2 5 t := fun q => d (zi_le.mpr q)
    omega
theorem m_isIn {M : SR} {E : EA} {nS nR t s : Nat} {Q : Int32 → SR → Prop} (hR : RM M E) (h : IL E nS nR) (hb : bnd E t) (ht : t < 3) (hs : s < nS) (h1 : inn E t s → Q 1 M) (h0 : ¬ inn E t s → Q 0 M) : w_R_isIn M (nI t) (nI s) Q := by
  have hn := h.2.1
  have g1 := h.bg s (by omega)
  have g2 := h.bg (s + 1) (by omega)
  unfold bnd at hb
  have c0 : M.2 0 s = lI (E.2 0 s) := hR.2 0 s (by omega)
  have c0' : M.2 0 (s + 1) = lI (E.2 0 (s + 1)) := hR.2 0 (s + 1) (by omega)
  have c8 : M.2 8 t = lI (E.2 8 t) := hR.2 8 t (by omega)
  have c5 : M.2 5 t = lI (E.2 5 t) := hR.2 5 t (by omega)
  have hin : vp_in (nI t) 3 := vp_in_nI ht (by decide)
  refine ⟨vp_in_nI (by omega) (by decide), hin, ?_⟩
  rw [nI_clamp (by omega), nI_clamp (by omega), c0, c8, c5, lcv (by omega) (by omega)]
  refine ⟨fun a => h0 (fun q => ?_), fun a a1 ea => ?_⟩
  · have := zi_ge.mp a
    have := q.1
    omega
  have a0 : ¬ E.2 8 t ≤ E.2 0 s := fun q => a (zi_ge.mpr q)
  rw [nI_1] at ea
  subst ea
  refine ⟨vp_in_nI (by omega) (by decide), hin, hin, fun b2 eb => ?_⟩
  rw [lI_sub] at eb
  subst eb
  rw [nI_clamp (by omega), c0', lcv (by omega) (by omega)]
  refine ⟨fun d => h0 (fun q => ?_), fun d => h1 ⟨by omega, ?_⟩⟩
  · have := zi_le.mp d
    have := q.2
    omega
  · have : ¬ E.2 0 (s + 1) ≤ E.2 8 t - E.2 5 t := fun q => d (zi_le.mpr q)
    omega
def hdF (E : EA) (t : Nat) : Nat → Nat → Nat → Nat
  | 0, _, h => h
  | n + 1, i, h => hdF E t n (i + 1) (if E.2 0 i < E.2 8 t ∧ E.2 8 t - E.2 5 t < E.2 0 (i + 1) then i else h)
theorem hdF_lt {E : EA} {t nS : Nat} : ∀ (n i h : Nat), i + n = nS → h < nS → hdF E t n i h < nS := by
  intro n
  induction n with
  | zero => intro i h _ hh; exact hh
  | succ n ih =>
    intro i h hi hh
    unfold hdF
    refine ih _ _ (by omega) ?_
    split <;> omega
theorem s_head4 {S : SC} {E : EA} {nS nR t : Nat} {Q : Int32 → SC → Prop} (hR : RC S E) (h : IL E nS nR) (hb : bnd E t) : ∀ (n i hd : Nat), i + n = nS → Q (nI (hdF E t n i hd)) S → w_G_headOf_4 t (n + 1) S (nI hd) (nI i) Q := by
  have hn := h.2.1
  have e4 : S.1 4 0 = nI nS := (hR.1 4 0 (by omega)).trans h.1
  intro n
  induction n with
  | zero =>
    intro i hd hi hQ
    refine ⟨fun _ => hQ, fun hc => absurd ?_ hc⟩
    rw [e4]
    exact nI_le (by omega) (by omega)
  | succ n ih =>
    intro i hd hi hQ
    refine ⟨fun hc => absurd hc ?_, fun _ => s_isIn hR h hb (by omega) (fun hin => ⟨fun hc => absurd hc (by decide), fun _ => ?_⟩) (fun hin => ⟨fun _ => ?_, fun hc => absurd rfl hc⟩)⟩
    · rw [e4]
      exact nI_ge (by omega) (by omega)
    · show w_G_headOf_4 t (n + 1) S (nI i) (nI i + 1) Q
      unfold hdF at hQ
      unfold inn at hin
      rw [if_pos hin] at hQ
      rw [nI_1]
      exact ih _ _ (by omega) hQ
    · show w_G_headOf_4 t (n + 1) S (nI hd) (nI i + 1) Q
      unfold hdF at hQ
      unfold inn at hin
      rw [if_neg hin] at hQ
      rw [nI_1]
      exact ih _ _ (by omega) hQ
theorem s_headOf {S : SC} {E : EA} {nS nR t : Nat} {Q : Int32 → SC → Prop} (hR : RC S E) (h : IL E nS nR) (hb : bnd E t) (hQ : Q (nI (hdF E t nS 0 0)) S) : w_G_headOf S t Q := by
  refine ⟨nS + 1, ?_⟩
  have := s_head4 hR h hb nS 0 0 (by omega) hQ
  rw [nI_0] at this
  exact this
theorem m_head4 {M : SR} {E : EA} {nS nR t : Nat} {Q : Int32 → SR → Prop} (hR : RM M E) (h : IL E nS nR) (hb : bnd E t) (ht : t < 3) : ∀ (n i hd : Nat), i + n = nS → Q (nI (hdF E t n i hd)) M → w_R_head_4 (n + 1) M (nI t) (nI hd) (nI i) Q := by
  have hn := h.2.1
  have e4 : M.1 1 0 = nI nS := (hR.1 1 0 (by omega)).trans h.1
  intro n
  induction n with
  | zero =>
    intro i hd hi hQ
    refine ⟨fun _ => hQ, fun hc => absurd ?_ hc⟩
    rw [e4]
    exact nI_le (by omega) (by omega)
  | succ n ih =>
    intro i hd hi hQ
    refine ⟨fun hc => absurd hc ?_, fun _ => m_isIn hR h hb ht (by omega) (fun hin => ⟨fun hc => absurd hc (by decide), fun _ => ?_⟩) (fun hin => ⟨fun _ => ?_, fun hc => absurd rfl hc⟩)⟩
    · rw [e4]
      exact nI_ge (by omega) (by omega)
    · show w_R_head_4 (n + 1) M (nI t) (nI i) (nI i + 1) Q
      unfold hdF at hQ
      unfold inn at hin
      rw [if_pos hin] at hQ
      rw [nI_1]
      exact ih _ _ (by omega) hQ
    · show w_R_head_4 (n + 1) M (nI t) (nI hd) (nI i + 1) Q
      unfold hdF at hQ
      unfold inn at hin
      rw [if_neg hin] at hQ
      rw [nI_1]
      exact ih _ _ (by omega) hQ
theorem m_head {M : SR} {E : EA} {nS nR t : Nat} {Q : Int32 → SR → Prop} (hR : RM M E) (h : IL E nS nR) (hb : bnd E t) (ht : t < 3) (hQ : Q (nI (hdF E t nS 0 0)) M) : w_R_head M (nI t) Q := by
  refine ⟨nS + 1, ?_⟩
  have := m_head4 hR h hb ht nS 0 0 (by omega) hQ
  rw [nI_0] at this
  exact this
theorem s_first2 {S : SC} {E : EA} {nS nR nT s : Nat} {ex : Int32} {Q : Int32 → SC → Prop} (hR : RC S E) (h : IL E nS nR) (hT : E.1 0 0 = nI nT) (hT3 : nT ≤ 3) (hb : ∀ t, t < nT → bnd E t) (hs : s < nS)
    (h1 : ∀ i : Nat, i < nT → ¬ nI i = ex → inn E i s → (∀ o : Nat, o < i → ¬ nI o = ex → ¬ inn E o s) → Q (nI i) S) (h0 : (∀ o : Nat, o < nT → ¬ nI o = ex → ¬ inn E o s) → Q (-1) S) : ∀ (n i : Nat), i + n = nT → (∀ o : Nat, o < i → ¬ nI o = ex → ¬ inn E o s) → w_G_firstTrainIn_2 (n + 1) S (nI s) ex (nI i) Q := by
  have e0 : S.1 0 0 = nI nT := (hR.1 0 0 (by omega)).trans hT
  intro n
  induction n with
  | zero =>
    intro i hi hp
    refine ⟨fun _ => h0 (fun o ho => hp o (by omega)), fun hc => absurd ?_ hc⟩
    rw [e0]
    exact nI_le (by omega) (by omega)
  | succ n ih =>
    intro i hi hp
    refine ⟨fun hc => absurd hc ?_, fun _ => ⟨fun he => ?_, fun he => ?_⟩⟩
    · rw [e0]
      exact nI_ge (by omega) (by omega)
    · show w_G_firstTrainIn_2 (n + 1) S (nI s) ex (nI i + 1) Q
      rw [nI_1]
      refine ih _ (by omega) (fun o ho hne => ?_)
      by_cases e : o = i
      · subst e; exact absurd he hne
      · exact hp o (by omega) hne
    · rw [nI_clamp (by omega)]
      refine ⟨vp_in_nI (by omega) (by decide), by omega, s_isIn hR h (hb i (by omega)) hs (fun hin => ⟨fun hc => absurd hc (by decide), fun _ => h1 i (by omega) he hin hp⟩) (fun hin => ⟨fun _ => ?_, fun hc => absurd rfl hc⟩)⟩
      show w_G_firstTrainIn_2 (n + 1) S (nI s) ex (nI i + 1) Q
      rw [nI_1]
      refine ih _ (by omega) (fun o ho hne => ?_)
      by_cases e : o = i
      · subst e; exact hin
      · exact hp o (by omega) hne
theorem s_first {S : SC} {E : EA} {nS nR nT s : Nat} {ex : Int32} {Q : Int32 → SC → Prop} (hR : RC S E) (h : IL E nS nR) (hT : E.1 0 0 = nI nT) (hT3 : nT ≤ 3) (hb : ∀ t, t < nT → bnd E t) (hs : s < nS)
    (h1 : ∀ i : Nat, i < nT → ¬ nI i = ex → inn E i s → (∀ o : Nat, o < i → ¬ nI o = ex → ¬ inn E o s) → Q (nI i) S) (h0 : (∀ o : Nat, o < nT → ¬ nI o = ex → ¬ inn E o s) → Q (-1) S) : w_G_firstTrainIn S (nI s) ex Q := by
  refine ⟨nT + 1, ?_⟩
  rw [← nI_0]
  exact s_first2 hR h hT hT3 hb hs h1 h0 nT 0 (by omega) (fun o ho => by omega)
def free (E : EA) (nT s : Nat) (ex : Int32) : Prop := (E.1 6 s = -1 ∨ E.1 6 s = ex) ∧ ∀ o : Nat, o < nT → ¬ nI o = ex → ¬ inn E o s
theorem s_isFreeFor {S : SC} {E : EA} {nS nR nT s : Nat} {ex : Int32} {Q : Int32 → SC → Prop} (hR : RC S E) (h : IL E nS nR) (hT : E.1 0 0 = nI nT) (hT3 : nT ≤ 3) (hb : ∀ t, t < nT → bnd E t) (hs : s < nS)
    (h1 : free E nT s ex → Q 1 S) (h0 : ¬ free E nT s ex → Q 0 S) : w_G_isFreeFor S ex (nI s) Q := by
  have hn := h.2.1
  have e6 : S.1 6 s = E.1 6 s := hR.1 6 s (by omega)
  have go : (E.1 6 s = -1 ∨ E.1 6 s = ex) → w_G_isFreeFor_20 S ex (nI s) Q := by
    intro hh
    refine s_first hR h hT hT3 hb hs (fun i hi he hin hp => ⟨fun _ => h0 (fun q => q.2 i hi he hin), fun hc => absurd hc ?_⟩) (fun hall => ⟨fun hc => absurd rfl hc, fun _ => h1 ⟨hh, hall⟩⟩)
    intro hc
    have := congrArg Int32.toInt hc
    rw [nI_toInt (by omega)] at this
    have e1 : (-1 : Int32).toInt = -1 := by decide
    omega
  refine ⟨vp_in_nI (by omega) (by decide), ?_⟩
  rw [nI_clamp (by omega), e6]
  exact ⟨fun a => go (Or.inl a), fun a => ⟨fun b => h0 (fun q => q.1.elim a b), fun b => go (Or.inr b)⟩⟩
theorem m_taken23 {M : SR} {E : EA} {nS nR nT s : Nat} {ex : Int32} {Q : Int32 → SR → Prop} (hR : RM M E) (h : IL E nS nR) (hT : E.1 0 0 = nI nT) (hT3 : nT ≤ 3) (hb : ∀ t, t < nT → bnd E t) (hs : s < nS)
    (h1 : (∃ o : Nat, o < nT ∧ ¬ nI o = ex ∧ inn E o s) → Q 1 M) (h0 : (∀ o : Nat, o < nT → ¬ nI o = ex → ¬ inn E o s) → Q 0 M) : ∀ (n i : Nat), i + n = nT → (∀ o : Nat, o < i → ¬ nI o = ex → ¬ inn E o s) → w_R_taken_23 (n + 1) M (nI s) ex (nI i) Q := by
  have e0 : M.1 3 0 = nI nT := (hR.1 3 0 (by omega)).trans hT
  intro n
  induction n with
  | zero =>
    intro i hi hp
    refine ⟨fun _ => h0 (fun o ho => hp o (by omega)), fun hc => absurd ?_ hc⟩
    rw [e0]
    exact nI_le (by omega) (by omega)
  | succ n ih =>
    intro i hi hp
    refine ⟨fun hc => absurd hc ?_, fun _ => ⟨fun he => ?_, fun he => ?_⟩⟩
    · rw [e0]
      exact nI_ge (by omega) (by omega)
    · show w_R_taken_23 (n + 1) M (nI s) ex (nI i + 1) Q
      rw [nI_1]
      refine ih _ (by omega) (fun o ho hne => ?_)
      by_cases e : o = i
      · subst e; exact absurd he hne
      · exact hp o (by omega) hne
    · refine m_isIn hR h (hb i (by omega)) (by omega) hs (fun hin => ⟨fun hc => absurd hc (by decide), fun _ => h1 ⟨i, by omega, he, hin⟩⟩) (fun hin => ⟨fun _ => ?_, fun hc => absurd rfl hc⟩)
      show w_R_taken_23 (n + 1) M (nI s) ex (nI i + 1) Q
      rw [nI_1]
      refine ih _ (by omega) (fun o ho hne => ?_)
      by_cases e : o = i
      · subst e; exact hin
      · exact hp o (by omega) hne
theorem m_taken {M : SR} {E : EA} {nS nR nT s : Nat} {ex : Int32} {Q : Int32 → SR → Prop} (hR : RM M E) (h : IL E nS nR) (hT : E.1 0 0 = nI nT) (hT3 : nT ≤ 3) (hb : ∀ t, t < nT → bnd E t) (hs : s < nS) (hh : E.1 6 s = -1 ∨ 0 ≤ E.1 6 s)
    (h1 : ¬ free E nT s ex → Q 1 M) (h0 : free E nT s ex → Q 0 M) : w_R_taken M (nI s) ex Q := by
  have hn := h.2.1
  have e6 : M.1 7 s = E.1 6 s := hR.1 7 s (by omega)
  have go : (E.1 6 s = -1 ∨ E.1 6 s = ex) → w_R_taken_21 M (nI s) ex Q := by
    intro hq
    refine ⟨nT + 1, ?_⟩
    rw [← nI_0]
    exact m_taken23 hR h hT hT3 hb hs (fun ⟨o, ho, he, hin⟩ => h1 (fun q => q.2 o ho he hin)) (fun hall => h0 ⟨hq, hall⟩) nT 0 (by omega) (fun o ho => by omega)
  refine ⟨vp_in_nI (by omega) (by decide), ?_⟩
  rw [nI_clamp (by omega), e6]
  refine ⟨fun a => go (hh.elim Or.inl (fun z => ?_)), fun a => ⟨vp_in_nI (by omega) (by decide), fun b => go (Or.inr b), fun b => h1 (fun q => ?_)⟩⟩
  · exact absurd a (Int32.not_lt.mpr z)
  · rcases q.1 with z | z
    · rw [z] at a
      exact a (by decide)
    · exact b z
def stb (E : EA) (nT : Nat) : Prop := ∀ o : Nat, o < nT → E.1 9 o = 0
theorem s_allStandBy {S : SC} {E : EA} {nT : Nat} {Q : Int32 → SC → Prop} (hR : RC S E) (hT : E.1 0 0 = nI nT) (hT3 : nT ≤ 3) (h1 : stb E nT → Q 1 S) (h0 : ¬ stb E nT → Q 0 S) : w_G_allStandBy S Q := by
  have e0 : S.1 0 0 = nI nT := (hR.1 0 0 (by omega)).trans hT
  have key : ∀ (n i : Nat), i + n = nT → (∀ o : Nat, o < i → E.1 9 o = 0) → w_G_allStandBy_2 (n + 1) S (nI i) Q := by
    intro n
    induction n with
    | zero =>
      intro i hi hp
      refine ⟨fun _ => h1 (fun o ho => hp o (by omega)), fun hc => absurd ?_ hc⟩
      rw [e0]
      exact nI_le (by omega) (by omega)
    | succ n ih =>
      intro i hi hp
      refine ⟨fun hc => absurd hc ?_, fun _ => ?_⟩
      · rw [e0]
        exact nI_ge (by omega) (by omega)
      · rw [nI_clamp (by omega), hR.1 9 i (by omega)]
        refine ⟨vp_in_nI (by omega) (by decide), by omega, fun he => ?_, fun he => h0 (fun q => he (q i (by omega)))⟩
        show w_G_allStandBy_2 (n + 1) S (nI i + 1) Q
        rw [nI_1]
        refine ih _ (by omega) (fun o ho => ?_)
        by_cases e : o = i
        · subst e; exact he
        · exact hp o (by omega)
  refine ⟨nT + 1, ?_⟩
  rw [← nI_0]
  exact key nT 0 (by omega) (fun o ho => by omega)
