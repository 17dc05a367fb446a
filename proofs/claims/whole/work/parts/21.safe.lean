def chg (E : EA) (nS i : Nat) : Int := if i < nS then E.2 0 i else E.2 2 (i - nS)
def okc (E : EA) (nS nR : Nat) (f v b : Int) (j : Nat) : Prop := f < chg E nS j → chg E nS j ≤ E.2 0 nS → sfF (chg E nS j) f v (lim E nS nR (chg E nS j)) b
def sfS (E : EA) (nS nR : Nat) (au m k v b len : Int) : Prop := sfF au (m + k) v 0 b ∧ v ≤ lim E nS nR (wn E nS (m + k)) ∧ v ≤ lim E nS nR (wn E nS (m - len)) ∧ ∀ j : Nat, j < nS + nR → okc E nS nR (m + k) v b j
theorem chg_facts {E : EA} {nS nR : Nat} (h : IL E nS nR) {i : Nat} (hi : i < nS + nR) : 0 ≤ chg E nS i ∧ chg E nS i ≤ 2560000 := by
  have hn := h.2.1
  unfold chg
  split
  · have := h.bg i (by omega)
    omega
  · have := h.2.2.2.2.2.2 (i - nS) (by omega)
    omega
theorem wn_facts {E : EA} {nS nR : Nat} (h : IL E nS nR) (y : Int) : 0 ≤ wn E nS y ∧ wn E nS y ≤ 2560000 := by
  have hn := h.2.1
  have := h.bg nS (by omega)
  unfold wn
  split
  · omega
  · split <;> omega
theorem s_changeAt {S : SC} {E : EA} {nS nR i : Nat} {Q : UInt64 → SC → Prop} (hR : RC S E) (h : IL E nS nR) (hi : i < nS + nR) (hQ : Q (zq 8 (chg E nS i)) S) : w_L_changeAt S (nI i) Q := by
  have hn := h.2.1
  have hn5 := h.2.2.2.1
  have e4 : S.1 4 0 = nI nS := (hR.1 4 0 (by omega)).trans h.1
  unfold w_L_changeAt
  rw [e4]
  unfold chg at hQ
  refine ⟨fun a a1 e1 => ?_, fun a => ?_⟩
  · have a0 : nS ≤ i := (nI_leI (by omega) (by omega)).mp a
    rw [if_neg (by omega)] at hQ
    rw [pk_sub a0] at e1
    subst e1
    refine ⟨vp_in_nI (by omega) (by decide), ?_⟩
    rw [nI_clamp (by omega), hR.2 2 _ (by omega)]
    exact hQ
  · have a0 : ¬ nS ≤ i := fun q => a (nI_le q (by omega))
    rw [if_pos (by omega)] at hQ
    refine ⟨vp_in_nI (by omega) (by decide), ?_⟩
    rw [nI_clamp (by omega), hR.2 0 _ (by omega)]
    exact hQ
theorem s_meets3 {t : Nat} {S : SC} {E : EA} {nS nR : Nat} {f v b : Int} {Q : Int32 → SC → Prop} (hR : RC S E) (h : IL E nS nR) (h0 : 0 < nS) (hb : E.2 6 t = b) (hbb : 128 ≤ b ∧ b ≤ 1000 ∧ b % 16 = 0) (hv : 0 ≤ v ∧ v ≤ 25000 ∧ v % 16 = 0) (hf : f.natAbs < 50000000) : ∀ (n i : Nat), i + n = nS + nR → ((∀ j : Nat, i ≤ j → j < nS + nR → okc E nS nR f v b j) → Q 1 S) → (¬ (∀ j : Nat, i ≤ j → j < nS + nR → okc E nS nR f v b j) → Q 0 S) → w_T_meetsLimitsAhead_3 t (n + 1) S (zq 8 f) (zq 8 v) (nI i) Q := by
  have hn := h.2.1
  have hn5 := h.2.2.2.1
  have e4 : S.1 4 0 = nI nS := (hR.1 4 0 (by omega)).trans h.1
  have e5 : S.1 5 0 = nI nR := (hR.1 5 0 (by omega)).trans h.2.2.1
  have hbS : S.2 6 t = zq 8 b := (hR.2 6 t (by omega)).trans (by rw [hb])
  have hbe := h.bg nS (by omega)
  intro n
  induction n with
  | zero =>
    intro i hi h1 h2 a1 ea
    rw [e4, e5, nI_add] at ea
    subst ea
    refine ⟨fun _ => h1 (fun j p q => by omega), fun hc => absurd (nI_le (by omega) (by omega)) hc⟩
  | succ n ih =>
    intro i hi h1 h2 a1 ea
    rw [e4, e5, nI_add] at ea
    subst ea
    have hno : ¬ nI (nS + nR) ≤ nI i := nI_ge (by omega) (by omega)
    refine ⟨fun hc => absurd hc hno, fun _ => s_changeAt hR h (by omega) ?_⟩
    have hc := chg_facts h (i := i) (by omega)
    have go : okc E nS nR f v b i → w_T_meetsLimitsAhead_3 t (n + 1) S (zq 8 f) (zq 8 v) (nI i + 1) Q := by
      intro hok
      rw [nI_1]
      refine ih (i + 1) (by omega) (fun ha => h1 (fun j p q => ?_)) (fun hne => h2 (fun ha => hne (fun j p q => ha j (by omega) q)))
      by_cases e : j = i
      · subst e; exact hok
      · exact ha j (by omega) q
    rw [zcv .l (by omega) (by omega) (by omega)]
    refine ⟨fun a => ?_, fun a => s_lineEnd hR h ?_⟩
    · have a1 := zi_le.mp a
      refine ⟨fun _ => go (fun p => by omega), fun hc => absurd rfl hc⟩
    · rw [zcv .g (by omega) (by omega) (by omega)]
      refine ⟨fun d => ?_, fun d => ⟨fun hc => absurd hc (by decide), fun _ => ?_⟩⟩
      · have d1 := zi_gt.mp d
        refine ⟨fun _ => go (fun p q => by omega), fun hc => absurd rfl hc⟩
      · have a1 : ¬ chg E nS i ≤ f := fun q => a (zi_le.mpr q)
        have d1 : ¬ E.2 0 nS < chg E nS i := fun q => d (zi_gt.mpr q)
        refine s_limitAt hR h h0 (by omega) ?_
        have hl := lim_facts h h0 (chg E nS i)
        refine s_isSafe hbS ⟨by omega, by omega, by omega⟩ hbb hv (by omega) (by omega) (fun hs => ?_) (fun hs => ?_)
        · exact ⟨fun _ => go (fun _ _ => hs), fun hc => absurd hc (by decide)⟩
        · exact ⟨fun hc => absurd rfl hc, fun _ => h2 (fun ha => hs (ha i (by omega) (by omega) (by omega) (by omega)))⟩
theorem s_isSafeState {t : Nat} {S : SC} {E : EA} {nS nR : Nat} {m k v b len : Int} {Q : Int32 → SC → Prop} (hR : RC S E) (h : IL E nS nR) (h0 : 0 < nS) (hb : E.2 6 t = b) (hlen : E.2 5 t = len) (hbb : 128 ≤ b ∧ b ≤ 1000 ∧ b % 16 = 0) (hll : 0 ≤ len ∧ len ≤ 20000) (hv : 0 ≤ v ∧ v ≤ 25000 ∧ v % 16 = 0) (hm : m.natAbs < 20000000) (hk : k.natAbs < 20000000) (hau : (E.2 11 t).natAbs < 100000000)
    (hno : E.1 7 t = 0 → Q 0 S) (h1 : ¬ E.1 7 t = 0 → sfS E nS nR (E.2 11 t) m k v b len → Q 1 S) (h2 : ¬ E.1 7 t = 0 → ¬ sfS E nS nR (E.2 11 t) m k v b len → Q 0 S) : w_T_isSafeState S t (zq 8 m) (zq 8 k) (zq 8 v) Q := by
  have hbS : S.2 6 t = zq 8 b := (hR.2 6 t (by omega)).trans (by rw [hb])
  have hlS : S.2 5 t = zq 8 len := (hR.2 5 t (by omega)).trans (by rw [hlen])
  have haS : S.2 11 t = zq 8 (E.2 11 t) := hR.2 11 t (by omega)
  have e7 : S.1 7 t = E.1 7 t := hR.1 7 t (by omega)
  unfold w_T_isSafeState
  rw [zq_add (by omega) (by omega) (by omega)]
  refine ⟨zq_fin (by omega) (by omega), fun f1 ef => ?_⟩
  subst ef
  rw [e7, haS, zk0]
  refine ⟨hno, fun ha => ?_⟩
  have h1 := h1 ha
  have h2 := h2 ha
  have w1 := wn_facts h (m + k)
  have w2 := wn_facts h (m - len)
  have l1 := lim_facts h h0 (wn E nS (m + k))
  have l2 := lim_facts h h0 (wn E nS (m - len))
  refine s_isSafe hbS ⟨by omega, by omega, by omega⟩ hbb hv (by omega) (by omega) (fun hs => ⟨fun hc => absurd hc (by decide), fun _ => ?_⟩) (fun hs => ⟨fun _ => h2 (fun q => hs q.1), fun hc => absurd rfl hc⟩)
  refine s_limitNear hR h h0 (by omega) ?_
  rw [zcv .g (by omega) (by omega) (by omega)]
  refine ⟨fun a => h2 (fun q => ?_), fun a => ?_⟩
  · have := zi_gt.mp a
    have := q.2.1
    omega
  have a1 : ¬ lim E nS nR (wn E nS (m + k)) < v := fun q => a (zi_gt.mpr q)
  rw [hlS, zq_sub (by omega) (by omega) (by omega)]
  refine ⟨zq_fin (by omega) (by omega), fun f6 e6 => ?_⟩
  subst e6
  refine s_limitNear hR h h0 (by omega) ?_
  rw [zcv .g (by omega) (by omega) (by omega)]
  refine ⟨fun d => h2 (fun q => ?_), fun d => ?_⟩
  · have := zi_gt.mp d
    have := q.2.2.1
    omega
  have d1 : ¬ lim E nS nR (wn E nS (m - len)) < v := fun q => d (zi_gt.mpr q)
  refine ⟨nS + nR + 1, ?_⟩
  rw [← nI_0]
  refine s_meets3 hR h h0 hb hbb hv (by omega) (nS + nR) 0 (by omega) (fun hall => ⟨fun hc => absurd hc (by decide), fun _ => h1 ⟨hs, by omega, by omega, fun j hj => hall j (by omega) hj⟩⟩) (fun hne => ⟨fun _ => h2 (fun q => hne (fun j _ hj => q.2.2.2 j hj)), fun hc => absurd rfl hc⟩)
-- the reference's
theorem m_safe70 {t i : Nat} {M : SR} {E : EA} {nS nR : Nat} {x m k v b : Int} {K : SR → Int32 → Int64 → Int64 → Int64 → Int32 → Prop} {Q : Int32 → SR → Prop} (hR : RM M E) (h : IL E nS nR) (h0 : 0 < nS) (ht : t < 3) (hb : E.2 6 t = b) (hbb : 128 ≤ b ∧ b ≤ 1000 ∧ b % 16 = 0) (hv : 0 ≤ v ∧ v ≤ 25000 ∧ v % 16 = 0) (hm : m.natAbs < 20000000) (hk : k.natAbs < 20000000) (hx : 0 ≤ x ∧ x ≤ 2560000)
    (hg : (m + k < x → x ≤ E.2 0 nS → sfF x (m + k) v (lim E nS nR x) b) → K M (nI t) (lI m) (lI k) (lI v) (nI i + 1)) (hf : ¬ (m + k < x → x ≤ E.2 0 nS → sfF x (m + k) v (lim E nS nR x) b) → Q 0 M) : w_R_safe_70 K M (nI t) (lI m) (lI k) (lI v) (nI i) (lI x) Q := by
  have hn := h.2.1
  have hbe := h.bg nS (by omega)
  have hbM : M.2 6 t = lI b := (hR.2 6 t (by omega)).trans (by show lI (E.2 6 t) = lI b; rw [hb])
  intro b15 e15
  rw [lI_add] at e15
  subst e15
  rw [lcv (by omega) (by omega)]
  refine ⟨fun a => hg (fun p => ?_), fun a => m_lineEnd hR h ?_⟩
  · have := zi_le.mp a
    omega
  have a1 : ¬ x ≤ m + k := fun q => a (zi_le.mpr q)
  rw [lcv (by omega) (by omega)]
  refine ⟨fun d => hg (fun p q => ?_), fun d => m_limitAt hR h h0 (by omega) ?_⟩
  · have := zi_gt.mp d
    omega
  have d1 : ¬ E.2 0 nS < x := fun q => d (zi_gt.mpr q)
  have hl := lim_facts h h0 x
  refine m_safeFor ht hbM ⟨by omega, by omega, by omega⟩ hbb hv (by omega) (by omega) (by omega) (fun hs => ?_) (fun hs => ?_)
  · exact ⟨fun _ => hg (fun _ _ => hs), fun hc => absurd hc (by decide)⟩
  · exact ⟨fun hc => absurd rfl hc, fun _ => hf (fun q => hs (q (by omega) (by omega)))⟩
theorem m_safe25 {t : Nat} {M : SR} {E : EA} {nS nR : Nat} {m k v b len : Int} {Q : Int32 → SR → Prop} (hR : RM M E) (h : IL E nS nR) (h0 : 0 < nS) (ht : t < 3) (hb : E.2 6 t = b) (hlen : E.2 5 t = len) (hbb : 128 ≤ b ∧ b ≤ 1000 ∧ b % 16 = 0) (hll : 0 ≤ len ∧ len ≤ 20000) (hv : 0 ≤ v ∧ v ≤ 25000 ∧ v % 16 = 0) (hm : m.natAbs < 20000000) (hk : k.natAbs < 20000000) : ∀ (n i : Nat), i + n = nS + nR →
    ((∀ j : Nat, i ≤ j → j < nS + nR → okc E nS nR (m + k) v b j) → v ≤ lim E nS nR (wn E nS (m + k)) → v ≤ lim E nS nR (wn E nS (m - len)) → Q 1 M) → (¬ ((∀ j : Nat, i ≤ j → j < nS + nR → okc E nS nR (m + k) v b j) ∧ v ≤ lim E nS nR (wn E nS (m + k)) ∧ v ≤ lim E nS nR (wn E nS (m - len))) → Q 0 M) → w_R_safe_25 (n + 1) M (nI t) (lI m) (lI k) (lI v) (nI i) Q := by
  have hn := h.2.1
  have hn5 := h.2.2.2.1
  have e4 : M.1 1 0 = nI nS := (hR.1 1 0 (by omega)).trans h.1
  have e5 : M.1 2 0 = nI nR := (hR.1 2 0 (by omega)).trans h.2.2.1
  have hlM : M.2 5 t = lI len := (hR.2 5 t (by omega)).trans (by show lI (E.2 5 t) = lI len; rw [hlen])
  intro n
  induction n with
  | zero =>
    intro i hi h1 h2 a3 ea
    rw [e4, e5, nI_add] at ea
    subst ea
    refine ⟨fun _ b4 e => ?_, fun hc => absurd (nI_le (by omega) (by omega)) hc⟩
    rw [lI_add] at e
    subst e
    have w1 := wn_facts h (m + k)
    have w2 := wn_facts h (m - len)
    have l1 := lim_facts h h0 (wn E nS (m + k))
    have l2 := lim_facts h h0 (wn E nS (m - len))
    refine m_within hR h (by omega) (m_limitAt hR h h0 (by omega) ?_)
    rw [lcv (by omega) (by omega)]
    refine ⟨fun a => h2 (fun q => ?_), fun a => ⟨vp_in_nI ht (by decide), fun b9 e9 => ?_⟩⟩
    · have := zi_gt.mp a
      have := q.2.1
      omega
    have a1 : ¬ lim E nS nR (wn E nS (m + k)) < v := fun q => a (zi_gt.mpr q)
    rw [nI_clamp (by omega), hlM, lI_sub] at e9
    subst e9
    refine m_within hR h (by omega) (m_limitAt hR h h0 (by omega) ?_)
    rw [lcv (by omega) (by omega)]
    refine ⟨fun d => h2 (fun q => ?_), fun d => h1 (fun j p q => by omega) (by omega) ?_⟩
    · have := zi_gt.mp d
      have := q.2.2
      omega
    · have d1 : ¬ lim E nS nR (wn E nS (m - len)) < v := fun q => d (zi_gt.mpr q)
      omega
  | succ n ih =>
    intro i hi h1 h2 a3 ea
    rw [e4, e5, nI_add] at ea
    subst ea
    have hno : ¬ nI (nS + nR) ≤ nI i := nI_ge (by omega) (by omega)
    have hc := chg_facts h (i := i) (by omega)
    have go : okc E nS nR (m + k) v b i → w_R_safe_25 (n + 1) M (nI t) (lI m) (lI k) (lI v) (nI i + 1) Q := by
      intro hok
      rw [nI_1]
      refine ih (i + 1) (by omega) (fun ha => h1 (fun j p q => ?_)) (fun hne => h2 (fun ha => hne ⟨fun j p q => ha.1 j (by omega) q, ha.2⟩))
      by_cases e : j = i
      · subst e; exact hok
      · exact ha j (by omega) q
    have no : ¬ okc E nS nR (m + k) v b i → Q 0 M := fun hn9 => h2 (fun q => hn9 (q.1 i (by omega) (by omega)))
    rw [e4]
    refine ⟨fun hc => absurd hc hno, fun _ => ⟨fun a a14 e14 => ?_, fun a => ?_⟩⟩
    · have a0 : nS ≤ i := (nI_leI (by omega) (by omega)).mp a
      rw [pk_sub a0] at e14
      subst e14
      refine ⟨vp_in_nI (by omega) (by decide), ?_⟩
      have c2 : M.2 2 (i - nS) = lI (E.2 2 (i - nS)) := hR.2 2 _ (by omega)
      have ec : chg E nS i = E.2 2 (i - nS) := by unfold chg; rw [if_neg (by omega)]
      rw [nI_clamp (by omega), c2, ← ec]
      exact m_safe70 hR h h0 ht hb hbb hv hm hk hc go no
    · have a0 : ¬ nS ≤ i := fun q => a (nI_le q (by omega))
      refine ⟨vp_in_nI (by omega) (by decide), ?_⟩
      have c0 : M.2 0 i = lI (E.2 0 i) := hR.2 0 _ (by omega)
      have ec : chg E nS i = E.2 0 i := by unfold chg; rw [if_pos (by omega)]
      rw [nI_clamp (by omega), c0, ← ec]
      exact m_safe70 hR h h0 ht hb hbb hv hm hk hc go no
theorem m_safe {t : Nat} {M : SR} {E : EA} {nS nR : Nat} {m k v b len : Int} {Q : Int32 → SR → Prop} (hR : RM M E) (h : IL E nS nR) (h0 : 0 < nS) (ht : t < 3) (hb : E.2 6 t = b) (hlen : E.2 5 t = len) (hbb : 128 ≤ b ∧ b ≤ 1000 ∧ b % 16 = 0) (hll : 0 ≤ len ∧ len ≤ 20000) (hv : 0 ≤ v ∧ v ≤ 25000 ∧ v % 16 = 0) (hm : m.natAbs < 20000000) (hk : k.natAbs < 20000000) (hau : (E.2 13 t).natAbs < 100000000)
    (h1 : sfS E nS nR (E.2 13 t) m k v b len → Q 1 M) (h2 : ¬ sfS E nS nR (E.2 13 t) m k v b len → Q 0 M) : w_R_safe M (nI t) (lI m) (lI k) (lI v) Q := by
  have hbM : M.2 6 t = lI b := (hR.2 6 t (by omega)).trans (by show lI (E.2 6 t) = lI b; rw [hb])
  have haM : M.2 11 t = lI (E.2 13 t) := hR.2 11 t (by omega)
  refine ⟨vp_in_nI ht (by decide), ?_⟩
  rw [nI_clamp (by omega), haM, show (0 : Int64) = lI 0 from rfl]
  refine m_safeFor ht hbM ⟨by omega, by omega, by omega⟩ hbb hv (by omega) (by omega) (by omega) (fun hs => ⟨fun _ => ⟨nS + nR + 1, ?_⟩, fun hc => absurd hc (by decide)⟩) (fun hs => ⟨fun hc => absurd rfl hc, fun _ => h2 (fun q => hs q.1)⟩)
  rw [← nI_0]
  exact m_safe25 hR h h0 ht hb hlen hbb hll hv hm hk (nS + nR) 0 (by omega) (fun ha l1 l2 => h1 ⟨hs, l1, l2, fun j hj => ha j (by omega) hj⟩) (fun hne => h2 (fun q => hne ⟨fun j _ hj => q.2.2.2 j hj, q.2.1, q.2.2.1⟩))
theorem m_ready {t : Nat} {M : SR} {E : EA} {nS nR : Nat} {b len : Int} {Q : Int32 → SR → Prop} (hR : RM M E) (h : IL E nS nR) (h0 : 0 < nS) (ht : t < 3) (hb : E.2 6 t = b) (hlen : E.2 5 t = len) (hbb : 128 ≤ b ∧ b ≤ 1000 ∧ b % 16 = 0) (hll : 0 ≤ len ∧ len ≤ 20000) (hv : 0 ≤ E.2 7 t ∧ E.2 7 t ≤ 25000 ∧ E.2 7 t % 16 = 0) (hm : (E.2 9 t).natAbs < 20000000) (hk : (E.2 10 t).natAbs < 20000000) (hau : (E.2 13 t).natAbs < 100000000)
    (h1 : 0 ≤ E.2 13 t → sfS E nS nR (E.2 13 t) (E.2 9 t) (E.2 10 t) (E.2 7 t) b len → Q 1 M) (h2 : ¬ (0 ≤ E.2 13 t ∧ sfS E nS nR (E.2 13 t) (E.2 9 t) (E.2 10 t) (E.2 7 t) b len) → Q 0 M) : w_R_ready M (nI t) Q := by
  have haM : M.2 11 t = lI (E.2 13 t) := hR.2 11 t (by omega)
  have c9 : M.2 9 t = lI (E.2 9 t) := hR.2 9 t (by omega)
  have c10 : M.2 10 t = lI (E.2 10 t) := hR.2 10 t (by omega)
  have c7 : M.2 7 t = lI (E.2 7 t) := hR.2 7 t (by omega)
  have hin : vp_in (nI t) 3 := vp_in_nI ht (by decide)
  refine ⟨hin, ?_⟩
  rw [nI_clamp (by omega), haM, c9, c10, c7, show (0 : Int64) = lI 0 from rfl, lcv (by omega) (by omega)]
  refine ⟨fun a => h2 (fun q => ?_), fun a => ⟨hin, hin, hin, ?_⟩⟩
  · have := zi_lt.mp a
    omega
  have a1 : ¬ E.2 13 t < 0 := fun q => a (zi_lt.mpr q)
  exact m_safe hR h h0 ht hb hlen hbb hll hv hm hk hau (fun hs => ⟨fun hc => absurd hc (by decide), fun _ => h1 (by omega) hs⟩) (fun hs => ⟨fun _ => h2 (fun q => hs q.2), fun hc => absurd rfl hc⟩)
