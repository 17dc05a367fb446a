-- the line: what always holds of it
def IL (E : EA) (nS nR : Nat) : Prop := E.1 4 0 = nI nS ∧ nS ≤ 10 ∧ E.1 5 0 = nI nR ∧ nR ≤ 5 ∧ E.2 0 0 = 0 ∧
  (∀ s : Nat, s < nS → E.2 0 s + 12800 ≤ E.2 0 (s + 1) ∧ E.2 0 (s + 1) ≤ E.2 0 s + 256000 ∧ E.2 0 (s + 1) % 32 = 0 ∧ 256 ≤ E.2 1 s ∧ E.2 1 s ≤ 15360 ∧ E.2 1 s % 32 = 0) ∧
  (∀ r : Nat, r < nR → 0 ≤ E.2 2 r ∧ E.2 2 r < E.2 3 r ∧ E.2 3 r ≤ 2560000 ∧ 256 ≤ E.2 4 r ∧ E.2 4 r ≤ 15360 ∧ E.2 4 r % 32 = 0)
theorem IL.bg {E : EA} {nS nR : Nat} (h : IL E nS nR) : ∀ s : Nat, s ≤ nS → 0 ≤ E.2 0 s ∧ E.2 0 s ≤ 256000 * (s : Int) ∧ E.2 0 s % 32 = 0 := by
  obtain ⟨-, -, -, -, h0, hs, -⟩ := h
  intro s
  induction s with
  | zero => intro _; rw [h0]; omega
  | succ s ih =>
    intro hl
    have h1 := ih (by omega)
    have h2 := hs s (by omega)
    omega
theorem IL.mono {E : EA} {nS nR : Nat} (h : IL E nS nR) : ∀ t s : Nat, s < t → t ≤ nS → E.2 0 s + 12800 ≤ E.2 0 t := by
  obtain ⟨-, -, -, -, h0, hs, -⟩ := h
  intro t
  induction t with
  | zero => intro s h1; omega
  | succ t ih =>
    intro s h1 h2
    have h3 := hs t (by omega)
    by_cases e : s = t
    · subst e; omega
    · have := ih s (by omega) (by omega)
      omega
def rfold (E : EA) (x : Int) : Nat → Nat → Int → Int
  | 0, _, v => v
  | n + 1, r, v => rfold E x n (r + 1) (if E.2 2 r ≤ x ∧ x < E.2 3 r ∧ E.2 4 r < v then E.2 4 r else v)
def secF (E : EA) (x : Int) : Nat → Nat
  | 0 => 0
  | n + 1 => if E.2 0 (n + 1) ≤ x then n + 1 else secF E x n
def lim (E : EA) (nS nR : Nat) (x : Int) : Int := rfold E x nR 0 (E.2 1 (secF E x (nS - 1)))
theorem secF_le (E : EA) (x : Int) : ∀ n : Nat, secF E x n ≤ n := by
  intro n
  induction n with
  | zero => exact Nat.le_refl _
  | succ n ih => unfold secF; split <;> omega
theorem secF_eq (E : EA) (x : Int) (s : Nat) (h0 : E.2 0 s ≤ x ∨ s = 0) : ∀ n : Nat, s ≤ n → (∀ j : Nat, s < j → j ≤ n → x < E.2 0 j) → secF E x n = s := by
  intro n
  induction n with
  | zero => intro h1 _; unfold secF; omega
  | succ n ih =>
    intro h1 h2
    unfold secF
    by_cases e : s = n + 1
    · subst e
      rw [if_pos (by omega)]
    · rw [if_neg (by have := h2 (n + 1) (by omega) (by omega); omega)]
      exact ih (by omega) (fun j a b => h2 j a (by omega))
theorem rfold_facts {E : EA} {nS nR : Nat} (h : IL E nS nR) (x : Int) : ∀ (n r : Nat) (v : Int), r + n = nR → 256 ≤ v ∧ v ≤ 15360 ∧ v % 32 = 0 → 256 ≤ rfold E x n r v ∧ rfold E x n r v ≤ 15360 ∧ rfold E x n r v % 32 = 0 := by
  intro n
  induction n with
  | zero => intro r v _ hv; exact hv
  | succ n ih =>
    intro r v hr hv
    unfold rfold
    have hR := h.2.2.2.2.2.2 r (by omega)
    refine ih (r + 1) _ (by omega) ?_
    split <;> omega
theorem lim_facts {E : EA} {nS nR : Nat} (h : IL E nS nR) (h0 : 0 < nS) (x : Int) : 256 ≤ lim E nS nR x ∧ lim E nS nR x ≤ 15360 ∧ lim E nS nR x % 32 = 0 := by
  have h1 := secF_le E x (nS - 1)
  have h2 := h.2.2.2.2.2.1 (secF E x (nS - 1)) (by omega)
  exact rfold_facts h x nR 0 _ (by omega) (by omega)
theorem s_lim48 {S : SC} {E : EA} {nS nR : Nat} {x : Int} {Q : UInt64 → SC → Prop} (hR : RC S E) (h : IL E nS nR) (hx : x.natAbs < 100000000) : ∀ (n r : Nat) (v : Int), r + n = nR → 256 ≤ v ∧ v ≤ 15360 → Q (zq 8 (rfold E x n r v)) S → w_L_limitAt_48 (n + 1) S (zq 8 x) (zq 8 v) (nI r) Q := by
  have hn5 := h.2.2.2.1
  have e5 : S.1 5 0 = nI nR := (hR.1 5 0 (by omega)).trans h.2.2.1
  intro n
  induction n with
  | zero =>
    intro r v hr hv hQ
    refine ⟨fun _ => hQ, fun hc => absurd ?_ hc⟩
    rw [e5]
    exact nI_le (by omega) (by omega)
  | succ n ih =>
    intro r v hr hv hQ
    have hB := h.2.2.2.2.2.2 r (by omega)
    have c2 : S.2 2 r = zq 8 (E.2 2 r) := hR.2 2 r (by omega)
    have c3 : S.2 3 r = zq 8 (E.2 3 r) := hR.2 3 r (by omega)
    have c4 : S.2 4 r = zq 8 (E.2 4 r) := hR.2 4 r (by omega)
    have cl : (nI r).toNatClampNeg = r := nI_clamp (by omega)
    have hin : vp_in (nI r) 5 := vp_in_nI (by omega) (by decide)
    have step : ∀ v' : Int, 256 ≤ v' ∧ v' ≤ 15360 → Q (zq 8 (rfold E x n (r + 1) v')) S → w_L_limitAt_101 (fun S9 z0 z1 z2 => w_L_limitAt_48 (n + 1) S9 z0 z1 z2 Q) S (zq 8 x) (zq 8 v') (nI r) Q := by
      intro v' hv' hq
      show w_L_limitAt_48 (n + 1) S (zq 8 x) (zq 8 v') (nI r + 1) Q
      rw [nI_1]
      exact ih (r + 1) v' (by omega) hv' hq
    have hno : ¬ S.1 5 0 ≤ nI r := by rw [e5]; exact nI_ge (by omega) (by omega)
    unfold rfold at hQ
    refine ⟨fun hc => absurd hc hno, fun _ => ⟨hin, ?_⟩⟩
    rw [cl, c2, c3, c4, zcv .g (by omega) (by omega) (by omega), zcv .l (by omega) (by omega) (by omega), zcv .g (by omega) (by omega) (by omega)]
    refine ⟨fun a => ?_, fun a => ⟨hin, fun b => ?_, fun b => ⟨hin, fun d => ?_, fun d => ⟨hin, ?_⟩⟩⟩⟩
    · have := zi_gt.mp a
      rw [if_neg (by omega)] at hQ
      exact step v hv hQ
    · have := zi_le.mp b
      rw [if_neg (by omega)] at hQ
      exact step v hv hQ
    · have := zi_ge.mp d
      rw [if_neg (by omega)] at hQ
      exact step v hv hQ
    · have a1 : ¬ x < E.2 2 r := fun q => a (zi_gt.mpr q)
      have b1 : ¬ E.2 3 r ≤ x := fun q => b (zi_le.mpr q)
      have d1 : ¬ v ≤ E.2 4 r := fun q => d (zi_ge.mpr q)
      rw [if_pos (by omega)] at hQ
      exact step (E.2 4 r) (by omega) hQ
theorem s_lim10 {S : SC} {E : EA} {nS nR : Nat} {x : Int} {Q : UInt64 → SC → Prop} (hR : RC S E) (h : IL E nS nR) (h0 : 0 < nS) (hx : x.natAbs < 100000000) (hQ : Q (zq 8 (lim E nS nR x)) S) : ∀ (n i : Nat), i + n + 1 = nS → w_L_limitAt_10 (n + 1) S (zq 8 x) (zq 8 (E.2 1 (secF E x i))) (nI (i + 1)) Q := by
  have hn := h.2.1
  have e4 : S.1 4 0 = nI nS := (hR.1 4 0 (by omega)).trans h.1
  intro n
  induction n with
  | zero =>
    intro i hi
    refine ⟨fun _ => ⟨nR + 1, ?_⟩, fun hc => absurd ?_ hc⟩
    · have e : i = nS - 1 := by omega
      have hs := secF_le E x (nS - 1)
      have hB := h.2.2.2.2.2.1 (secF E x (nS - 1)) (by omega)
      rw [e, ← nI_0]
      exact s_lim48 hR h hx nR 0 _ (by omega) (by omega) hQ
    · rw [e4]
      exact nI_le (by omega) (by omega)
  | succ n ih =>
    intro i hi
    have hno : ¬ S.1 4 0 ≤ nI (i + 1) := by rw [e4]; exact nI_ge (by omega) (by omega)
    have hb := h.bg (i + 1) (by omega)
    have c0 : S.2 0 (i + 1) = zq 8 (E.2 0 (i + 1)) := hR.2 0 _ (by omega)
    have c1 : S.2 1 (i + 1) = zq 8 (E.2 1 (i + 1)) := hR.2 1 _ (by omega)
    have cl : (nI (i + 1)).toNatClampNeg = i + 1 := nI_clamp (by omega)
    have hI := ih (i + 1) (by omega)
    refine ⟨fun hc => absurd hc hno, fun _ => ⟨vp_in_nI (by omega) (by decide), ?_⟩⟩
    rw [cl, c0, c1, zcv .g (by omega) (by omega) (by omega)]
    refine ⟨fun a => ?_, fun a => ⟨vp_in_nI (by omega) (by decide), ?_⟩⟩
    · have := zi_gt.mp a
      show w_L_limitAt_10 (n + 1) S (zq 8 x) _ (nI (i + 1) + 1) Q
      rw [nI_1]
      have e : secF E x (i + 1) = secF E x i := by
        conv => lhs; unfold secF
        rw [if_neg (by omega)]
      rw [e] at hI
      exact hI
    · have a1 : ¬ x < E.2 0 (i + 1) := fun q => a (zi_gt.mpr q)
      show w_L_limitAt_10 (n + 1) S (zq 8 x) _ (nI (i + 1) + 1) Q
      rw [nI_1]
      have e : secF E x (i + 1) = i + 1 := by
        conv => lhs; unfold secF
        rw [if_pos (by omega)]
      rw [e] at hI
      exact hI
theorem s_limitAt {S : SC} {E : EA} {nS nR : Nat} {x : Int} {Q : UInt64 → SC → Prop} (hR : RC S E) (h : IL E nS nR) (h0 : 0 < nS) (hx : x.natAbs < 100000000) (hQ : Q (zq 8 (lim E nS nR x)) S) : w_L_limitAt S (zq 8 x) Q := by
  refine ⟨by unfold vp_in; decide, nS, ?_⟩
  have e : (0 : Int32).toNatClampNeg = 0 := by decide
  rw [e, hR.2 1 0 (by omega)]
  have h1 := s_lim10 hR h h0 hx hQ (nS - 1) 0 (by omega)
  rw [show nS - 1 + 1 = nS by omega] at h1
  exact h1
theorem s_lineEnd {S : SC} {E : EA} {nS nR : Nat} {Q : UInt64 → SC → Prop} (hR : RC S E) (h : IL E nS nR) (hQ : Q (zq 8 (E.2 0 nS)) S) : w_L_lineEnd S Q := by
  have hn := h.2.1
  have e4 : S.1 4 0 = nI nS := (hR.1 4 0 (by omega)).trans h.1
  unfold w_L_lineEnd
  rw [e4, nI_clamp (by omega), hR.2 0 nS (by omega)]
  exact ⟨vp_in_nI (by omega) (by decide), hQ⟩
def wn (E : EA) (nS : Nat) (y : Int) : Int := if y < 0 then 0 else if E.2 0 nS < y then E.2 0 nS else y
theorem s_limitNear {S : SC} {E : EA} {nS nR : Nat} {y : Int} {Q : UInt64 → SC → Prop} (hR : RC S E) (h : IL E nS nR) (h0 : 0 < nS) (hy : y.natAbs < 100000000) (hQ : Q (zq 8 (lim E nS nR (wn E nS y))) S) : w_L_limitNear S (zq 8 y) Q := by
  have hb := h.bg nS (by omega)
  have hn := h.2.1
  unfold w_L_limitNear
  rw [zk0, zcv .g (by omega) (by omega) (by omega)]
  unfold wn at hQ
  refine ⟨fun a => s_lineEnd hR h ?_, fun a => ?_⟩
  · have a1 := zi_ge.mp a
    rw [if_neg (by omega)] at hQ
    rw [zcv .l (by omega) (by omega) (by omega)]
    refine ⟨fun b => ?_, fun b => s_lineEnd hR h ?_⟩
    · have b1 := zi_le.mp b
      rw [if_neg (by omega)] at hQ
      exact s_limitAt hR h h0 hy hQ
    · have b1 : ¬ y ≤ E.2 0 nS := fun q => b (zi_le.mpr q)
      rw [if_pos (by omega)] at hQ
      exact s_limitAt hR h h0 (by omega) hQ
  · have a1 : ¬ 0 ≤ y := fun q => a (zi_ge.mpr q)
    rw [if_pos (by omega)] at hQ
    exact s_limitAt hR h h0 (by omega) hQ
-- the reference's
theorem m_sec2 {M : SR} {E : EA} {nS nR : Nat} {x : Int} {Q : Int32 → SR → Prop} (hR : RM M E) (h : IL E nS nR) (h0 : 0 < nS) (hx : 0 ≤ x ∧ x < 100000000) (hQ : Q (nI (secF E x (nS - 1))) M) : ∀ (n s : Nat), s + n = nS → E.2 0 s ≤ x → w_R_sectionAt_2 (n + 1) M (lI x) (nI s) Q := by
  have hn := h.2.1
  have e4 : M.1 1 0 = nI nS := (hR.1 1 0 (by omega)).trans h.1
  intro n
  induction n with
  | zero =>
    intro s hs hb
    refine ⟨fun _ a1 ea => ?_, fun hc => absurd ?_ hc⟩
    · have es : s = nS := by omega
      rw [es] at hb
      have e : secF E x (nS - 1) = nS - 1 := secF_eq E x (nS - 1) (by have := h.mono nS (nS - 1) (by omega) (by omega); omega) (nS - 1) (by omega) (fun j a b => by omega)
      rw [e] at hQ
      have ea' : a1 = nI (nS - 1) := by
        rw [ea, e4]
        have := nI_pred (nS - 1)
        rw [show nS - 1 + 1 = nS by omega] at this
        exact this
      rw [ea']
      exact hQ
    · rw [e4]
      exact nI_le (by omega) (by omega)
  | succ n ih =>
    intro s hs hb
    have hno : ¬ M.1 1 0 ≤ nI s := by rw [e4]; exact nI_ge (by omega) (by omega)
    have hbs := h.bg s (by omega)
    have hbt := h.bg (s + 1) (by omega)
    have c0 : M.2 0 s = lI (E.2 0 s) := hR.2 0 s (by omega)
    have c1 : M.2 0 (s + 1) = lI (E.2 0 (s + 1)) := hR.2 0 (s + 1) (by omega)
    have cl : (nI s).toNatClampNeg = s := nI_clamp (by omega)
    refine ⟨fun hc => absurd hc hno, fun _ => ⟨vp_in_nI (by omega) (by decide), ?_⟩⟩
    rw [cl, c0, lcv (by omega) (by omega)]
    refine ⟨fun a => absurd (zi_gt.mp a) (by omega), fun _ a2 e2 => ?_⟩
    rw [nI_1] at e2
    subst e2
    refine ⟨vp_in_nI (by omega) (by decide), ?_⟩
    rw [nI_clamp (by omega), c1, lcv (by omega) (by omega)]
    refine ⟨fun b => ?_, fun b => ?_⟩
    · have b1 := zi_ge.mp b
      show w_R_sectionAt_2 (n + 1) M (lI x) (nI s + 1) Q
      rw [nI_1]
      exact ih (s + 1) (by omega) b1
    · have b1 : ¬ E.2 0 (s + 1) ≤ x := fun q => b (zi_ge.mpr q)
      have e : secF E x (nS - 1) = s := secF_eq E x s (Or.inl hb) (nS - 1) (by omega) (fun j p q => by
        by_cases ej : j = s + 1
        · subst ej; omega
        · have := h.mono j (s + 1) (by omega) (by omega)
          omega)
      rw [e] at hQ
      exact hQ
theorem m_lim14 {M : SR} {E : EA} {nS nR : Nat} {x : Int} {Q : Int64 → SR → Prop} (hR : RM M E) (h : IL E nS nR) (hx : x.natAbs < 100000000) : ∀ (n r : Nat) (v : Int), r + n = nR → 256 ≤ v ∧ v ≤ 15360 → Q (lI (rfold E x n r v)) M → w_R_limitAt_14 (n + 1) M (lI x) (lI v) (nI r) Q := by
  have hn5 := h.2.2.2.1
  have e5 : M.1 2 0 = nI nR := (hR.1 2 0 (by omega)).trans h.2.2.1
  intro n
  induction n with
  | zero =>
    intro r v hr hv hQ
    refine ⟨fun _ => hQ, fun hc => absurd ?_ hc⟩
    rw [e5]
    exact nI_le (by omega) (by omega)
  | succ n ih =>
    intro r v hr hv hQ
    have hB := h.2.2.2.2.2.2 r (by omega)
    have c2 : M.2 2 r = lI (E.2 2 r) := hR.2 2 r (by omega)
    have c3 : M.2 3 r = lI (E.2 3 r) := hR.2 3 r (by omega)
    have c4 : M.2 4 r = lI (E.2 4 r) := hR.2 4 r (by omega)
    have cl : (nI r).toNatClampNeg = r := nI_clamp (by omega)
    have hin : vp_in (nI r) 5 := vp_in_nI (by omega) (by decide)
    have step : ∀ v' : Int, 256 ≤ v' ∧ v' ≤ 15360 → Q (lI (rfold E x n (r + 1) v')) M → w_R_limitAt_67 (fun S9 z0 z1 z2 => w_R_limitAt_14 (n + 1) S9 z0 z1 z2 Q) M (lI x) (lI v') (nI r) Q := by
      intro v' hv' hq
      show w_R_limitAt_14 (n + 1) M (lI x) (lI v') (nI r + 1) Q
      rw [nI_1]
      exact ih (r + 1) v' (by omega) hv' hq
    have hno : ¬ M.1 2 0 ≤ nI r := by rw [e5]; exact nI_ge (by omega) (by omega)
    unfold rfold at hQ
    refine ⟨fun hc => absurd hc hno, fun _ => ⟨hin, ?_⟩⟩
    rw [cl, c2, c3, c4, lcv (by omega) (by omega), lcv (by omega) (by omega), lcv (by omega) (by omega)]
    refine ⟨fun a => ?_, fun a => ⟨hin, fun b => ?_, fun b => ⟨hin, fun d => ?_, fun d => ⟨hin, ?_⟩⟩⟩⟩
    · have := zi_gt.mp a
      rw [if_neg (by omega)] at hQ
      exact step v hv hQ
    · have := zi_ge.mp b
      rw [if_neg (by omega)] at hQ
      exact step v hv hQ
    · have := zi_ge.mp d
      rw [if_neg (by omega)] at hQ
      exact step v hv hQ
    · have a1 : ¬ x < E.2 2 r := fun q => a (zi_gt.mpr q)
      have b1 : ¬ E.2 3 r ≤ x := fun q => b (zi_ge.mpr q)
      have d1 : ¬ v ≤ E.2 4 r := fun q => d (zi_ge.mpr q)
      rw [if_pos (by omega)] at hQ
      exact step (E.2 4 r) (by omega) hQ
theorem m_limitAt {M : SR} {E : EA} {nS nR : Nat} {x : Int} {Q : Int64 → SR → Prop} (hR : RM M E) (h : IL E nS nR) (h0 : 0 < nS) (hx : 0 ≤ x ∧ x < 100000000) (hQ : Q (lI (lim E nS nR x)) M) : w_R_limitAt M (lI x) Q := by
  have hn := h.2.1
  have hs := secF_le E x (nS - 1)
  have hB := h.2.2.2.2.2.1 (secF E x (nS - 1)) (by omega)
  refine ⟨nS + 1, ?_⟩
  rw [← nI_0]
  refine m_sec2 hR h h0 hx ⟨vp_in_nI (by omega) (by decide), nR + 1, ?_⟩ nS 0 (by omega) (by rw [h.2.2.2.2.1]; exact hx.1)
  have c1 : M.2 1 (secF E x (nS - 1)) = lI (E.2 1 (secF E x (nS - 1))) := hR.2 1 _ (by omega)
  rw [nI_clamp (by omega), c1]
  exact m_lim14 hR h (by omega) nR 0 _ (by omega) (by omega) hQ
theorem m_lineEnd {M : SR} {E : EA} {nS nR : Nat} {Q : Int64 → SR → Prop} (hR : RM M E) (h : IL E nS nR) (hQ : Q (lI (E.2 0 nS)) M) : w_R_lineEnd M Q := by
  have hn := h.2.1
  have e4 : M.1 1 0 = nI nS := (hR.1 1 0 (by omega)).trans h.1
  unfold w_R_lineEnd
  rw [e4, nI_clamp (by omega), hR.2 0 nS (by omega)]
  exact ⟨vp_in_nI (by omega) (by decide), hQ⟩
theorem m_within {M : SR} {E : EA} {nS nR : Nat} {y : Int} {Q : Int64 → SR → Prop} (hR : RM M E) (h : IL E nS nR) (hy : y.natAbs < 100000000) (hQ : Q (lI (wn E nS y)) M) : w_R_within M (lI y) Q := by
  have hb := h.bg nS (by omega)
  have hn := h.2.1
  unfold w_R_within
  rw [show (0 : Int64) = lI 0 from rfl, lcv (by omega) (by omega)]
  unfold wn at hQ
  refine ⟨fun a => m_lineEnd hR h ?_, fun a => ?_⟩
  · have a1 := zi_ge.mp a
    rw [if_neg (by omega)] at hQ
    rw [lcv (by omega) (by omega)]
    refine ⟨fun b => ?_, fun b => m_lineEnd hR h ?_⟩
    · have b1 := zi_le.mp b
      rw [if_neg (by omega)] at hQ
      exact hQ
    · have b1 : ¬ y ≤ E.2 0 nS := fun q => b (zi_le.mpr q)
      rw [if_pos (by omega)] at hQ
      exact hQ
  · have a1 : ¬ 0 ≤ y := fun q => a (zi_ge.mpr q)
    rw [if_pos (by omega)] at hQ
    exact hQ
