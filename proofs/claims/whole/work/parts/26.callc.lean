-- of, limit, holds
theorem m_in {M : SR} {x a b : Int32} {Q : Int32 → SR → Prop} (h1 : a ≤ x → x ≤ b → Q 1 M) (h0 : ¬ (a ≤ x ∧ x ≤ b) → Q 0 M) : w_R_in M x a b Q :=
  ⟨fun p => h0 (fun q => absurd p (Int32.not_lt.mpr q.1)), fun p => ⟨fun q => h0 (fun r => absurd q (Int32.not_lt.mpr r.2)), fun q => h1 (Int32.not_lt.mp p) (Int32.not_lt.mp q)⟩⟩
theorem j_of {S : SC} {M : SR} {x y : Int32} (h : J S M) : w_G_of S x y (fun r u => w_R_of M x y (fun b v => v.1 0 0 = 0 ∧ b = r ∧ vf_n64 r ∧ J u v)) (fun k u => (k = 1 ∨ k = 2 ∨ k = 3 ∨ k = 4) ∧ w_R_of M x y (fun _ v => v.1 0 0 = nI k ∧ J u v)) := by
  obtain ⟨E, nS, nR, nT, hR, hM, hI⟩ := h
  have h3 := hT3 hI
  have j0 := jf hR hM hI 0
  have j1 := jf hR hM hI 1
  refine s_tn (eT hR hI) h3 (fun t ht ex => ?_) (fun hn => ⟨Or.inl rfl, ?_⟩)
  · subst ex
    have hi := hI.2.2.2.1 t ht
    have hg := hi.1
    unfold IG at hg
    have ha := hi.2.2.1
    unfold AU at ha
    have hin : vp_in (nI t) 3 := vp_in_nI (by omega) (by decide)
    have c8 : M.2 8 t = lI (E.2 8 t) := hM.2 8 t (by omega)
    have c9 : M.2 9 t = lI (E.2 9 t) := hM.2 9 t (by omega)
    have c10 : M.2 10 t = lI (E.2 10 t) := hM.2 10 t (by omega)
    have c7 : M.2 7 t = lI (E.2 7 t) := hM.2 7 t (by omega)
    have c6 : M.2 6 t = lI (E.2 6 t) := hM.2 6 t (by omega)
    have c13 : M.2 11 t = lI (E.2 13 t) := hM.2 11 t (by omega)
    have bad : ¬ (0 ≤ y ∧ y ≤ 5) → w_G_of_19 S y t (fun r u => w_R_of M (nI t) y (fun b v => v.1 0 0 = 0 ∧ b = r ∧ vf_n64 r ∧ J u v)) (fun k u => (k = 1 ∨ k = 2 ∨ k = 3 ∨ k = 4) ∧ w_R_of M (nI t) y (fun _ v => v.1 0 0 = nI k ∧ J u v)) := by
      intro hy
      refine ⟨fun _ => ⟨Or.inl rfl, ?_⟩, fun hc => absurd rfl hc⟩
      refine m_noTrain (mT hM hI) h3 (ex_t ht h3 ⟨fun hc => absurd rfl hc, fun _ => ?_⟩) (fun hn => absurd ⟨t, ht, rfl⟩ hn)
      exact m_in (fun a b => absurd ⟨a, b⟩ hy) (fun _ => ⟨fun hc => absurd rfl hc, fun _ f19 _ => j1⟩)
    refine ⟨fun a => bad (fun q => absurd a (Int32.not_lt.mpr q.1)), fun a => ⟨fun b => bad (fun q => absurd b (Int32.not_lt.mpr q.2)), fun b => ⟨fun hc => absurd hc (by decide), fun _ => ?_⟩⟩⟩
    have hy : 0 ≤ y ∧ y ≤ 5 := ⟨Int32.not_lt.mp a, Int32.not_lt.mp b⟩
    have refs : ∀ R : UInt64 → SR → Prop, ((y = 0 → w_R_shown M (lI (E.2 8 t)) R) ∧ (y = 1 → w_R_shown M (lI (E.2 9 t)) R) ∧ (y = 2 → w_R_shown M (lI (E.2 10 t)) R) ∧ (y = 3 → w_R_shown M (lI (E.2 7 t)) R) ∧ (y = 4 → (0 ≤ E.2 13 t → w_R_shown M (lI (E.2 13 t)) R) ∧ (¬ 0 ≤ E.2 13 t → w_R_shown M (lI (-256)) R)) ∧ (¬ y = 0 ∧ ¬ y = 1 ∧ ¬ y = 2 ∧ ¬ y = 3 ∧ ¬ y = 4 → w_R_ways M (lI (E.2 7 t)) (lI 0) (lI (E.2 6 t)) (fun r v => w_R_shown v r R))) → w_R_of M (nI t) y R := by
      intro R hr
      refine m_noTrain (mT hM hI) h3 (ex_t ht h3 ⟨fun hc => absurd rfl hc, fun _ => ?_⟩) (fun hn => absurd ⟨t, ht, rfl⟩ hn)
      refine m_in (fun _ _ => ⟨fun _ => ?_, fun hc => absurd hc (by decide)⟩) (fun hn => absurd hy hn)
      rw [nI_clamp (by omega), c8, c9, c10, c7, c6, c13, show (0 : Int64) = lI 0 from rfl, lcv (by omega) (by omega)]
      refine ⟨fun e => ⟨hin, hr.1 e⟩, fun e => ⟨hin, hr.2.1 e⟩, fun e => ⟨hin, hr.2.2.1 e⟩, fun e => ⟨hin, hr.2.2.2.1 e⟩, fun e => ⟨hin, fun z => ⟨hin, (hr.2.2.2.2.1 e).1 (zi_ge.mp z)⟩, fun z => (hr.2.2.2.2.1 e).2 (fun q => z (zi_ge.mpr q))⟩, fun e => ⟨hin, hin, hr.2.2.2.2.2 e⟩⟩
    have sh : ∀ (R : UInt64 → SR → Prop) (v : Int), v.natAbs < 100000000 → R (zq 8 v) (pI M 0 0 0) → w_R_shown M (lI v) R := fun R v hv hr => m_shown (by omega) hr
    refine ⟨fun e => ?_, fun e => ?_, fun e => ?_, fun e => ?_, fun e => ⟨fun e7 => ?_, fun e7 => ?_⟩, fun e => ?_⟩
    · subst e
      rw [hR.2 8 t (by omega)]
      refine refs _ ⟨fun _ => sh _ _ (by omega) ⟨j0.1, rfl, zq_fin (by omega) (by omega), j0.2⟩, fun hc => absurd hc (by decide), fun hc => absurd hc (by decide), fun hc => absurd hc (by decide), fun hc => absurd hc (by decide), fun hc => absurd rfl hc.1⟩
    · subst e
      rw [hR.2 9 t (by omega)]
      refine refs _ ⟨fun hc => absurd hc (by decide), fun _ => sh _ _ (by omega) ⟨j0.1, rfl, zq_fin (by omega) (by omega), j0.2⟩, fun hc => absurd hc (by decide), fun hc => absurd hc (by decide), fun hc => absurd hc (by decide), fun hc => absurd rfl hc.2.1⟩
    · subst e
      rw [hR.2 10 t (by omega)]
      refine refs _ ⟨fun hc => absurd hc (by decide), fun hc => absurd hc (by decide), fun _ => sh _ _ (by omega) ⟨j0.1, rfl, zq_fin (by omega) (by omega), j0.2⟩, fun hc => absurd hc (by decide), fun hc => absurd hc (by decide), fun hc => absurd rfl hc.2.2.1⟩
    · subst e
      rw [hR.2 7 t (by omega)]
      refine refs _ ⟨fun hc => absurd hc (by decide), fun hc => absurd hc (by decide), fun hc => absurd hc (by decide), fun _ => sh _ _ (by omega) ⟨j0.1, rfl, zq_fin (by omega) (by omega), j0.2⟩, fun hc => absurd hc (by decide), fun hc => absurd rfl hc.2.2.2.1⟩
    · subst e
      rw [hR.1 7 t (by omega)] at e7
      rw [zk_m1]
      refine refs _ ⟨fun hc => absurd hc (by decide), fun hc => absurd hc (by decide), fun hc => absurd hc (by decide), fun hc => absurd hc (by decide), fun _ => ⟨fun q => ?_, fun _ => sh _ _ (by omega) ⟨j0.1, rfl, zq_fin (by omega) (by omega), j0.2⟩⟩, fun hc => absurd rfl hc.2.2.2.2⟩
      rcases ha.2 with z | z
      · omega
      · exact absurd (e7.symm.trans z.1) (by decide)
    · subst e
      rw [hR.1 7 t (by omega)] at e7
      rw [hR.2 11 t (by omega)]
      rcases ha.2 with z | z
      · exact absurd z.1 e7
      · refine refs _ ⟨fun hc => absurd hc (by decide), fun hc => absurd hc (by decide), fun hc => absurd hc (by decide), fun hc => absurd hc (by decide), fun _ => ⟨fun _ => sh _ _ (by omega) ⟨j0.1, by rw [z.2], zq_fin (by omega) (by omega), j0.2⟩, fun q => ?_⟩, fun hc => absurd rfl hc.2.2.2.2⟩
        omega
    · rw [hR.2 7 t (by omega), zk0]
      have hbw := bw_facts (v := E.2 7 t) (s := 0) (b := E.2 6 t) (by omega) (by omega) (by omega)
      refine s_brakingWay (hR.2 6 t (by omega)) (by omega) (by omega) (by omega) ?_
      refine refs _ ⟨fun hc => absurd hc e.1, fun hc => absurd hc e.2.1, fun hc => absurd hc e.2.2.1, fun hc => absurd hc e.2.2.2.1, fun hc => absurd hc e.2.2.2.2, fun _ => m_ways (by omega) (by omega) (by omega) (sh _ _ (by omega) ⟨j0.1, rfl, zq_fin (by omega) (by omega), j0.2⟩)⟩
  · exact m_noTrain (mT hM hI) h3 (fun t ht ex => absurd ⟨t, ht, ex⟩ hn) (fun _ => ⟨fun _ f19 _ => j1, fun hc => absurd hc (by decide)⟩)
theorem j_limit {S : SC} {M : SR} {n : Int} (h : J S M) (hn : n.natAbs < 4294967296) : w_G_limit S (zq 3 n) (fun r u => w_R_limit M (zq 3 n) (fun b v => v.1 0 0 = 0 ∧ b = r ∧ vf_n64 r ∧ J u v)) (fun k u => (k = 1 ∨ k = 2 ∨ k = 3 ∨ k = 4) ∧ w_R_limit M (zq 3 n) (fun _ v => v.1 0 0 = nI k ∧ J u v)) := by
  obtain ⟨E, nS, nR, nT, hR, hM, hI⟩ := h
  have hl := hI.1
  have hn10 := hl.2.1
  have hbe := hl.bg nS (by omega)
  have j0 := jf hR hM hI 0
  have j1 := jf hR hM hI 1
  have ok : ∀ R : UInt64 → SR → Prop, (0 < nS → 0 ≤ n → 32 * n ≤ E.2 0 nS → R (zq 8 (lim E nS nR (32 * n))) (pI M 0 0 0)) → (¬ (0 < nS ∧ 0 ≤ n ∧ 32 * n ≤ E.2 0 nS) → ∀ b : UInt64, R b (pI M 0 0 1)) → w_R_limit M (zq 3 n) R := by
    intro R h1 h2
    unfold w_R_limit
    rw [mS hM hI, zk_03, zcv .l (by omega) (by omega) (by omega)]
    refine ⟨fun e f _ => h2 (fun q => ?_) _, fun e => ⟨fun z f _ => h2 (fun q => ?_) _, fun z => ?_⟩⟩
    · exact nI_ne0 q.1 (by omega) e
    · have := zi_lt.mp z
      omega
    have hz : ¬ n < 0 := fun q => z (zi_lt.mpr q)
    have h0 : 0 < nS := by
      rcases Nat.eq_zero_or_pos nS with q | q
      · subst q; exact absurd rfl e
      · exact q
    refine m_whole hn (m_lineEnd hM hl ?_)
    rw [lcv (by omega) (by omega)]
    refine ⟨fun d => m_whole hn (m_limitAt hM hl h0 ?_ ?_), fun d f _ => h2 (fun q => d (zi_le.mpr q.2.2)) _⟩
    · have := zi_le.mp d
      omega
    · have := lim_facts hl h0 (32 * n)
      exact m_shown (by omega) (h1 h0 (by omega) (zi_le.mp d))
  have bad : ¬ (0 < nS ∧ 0 ≤ n ∧ 32 * n ≤ E.2 0 nS) → w_G_limit_29 S (zq 3 n) (fun r u => w_R_limit M (zq 3 n) (fun b v => v.1 0 0 = 0 ∧ b = r ∧ vf_n64 r ∧ J u v)) (fun k u => (k = 1 ∨ k = 2 ∨ k = 3 ∨ k = 4) ∧ w_R_limit M (zq 3 n) (fun _ v => v.1 0 0 = nI k ∧ J u v)) :=
    fun hb => ⟨fun _ => ⟨Or.inl rfl, ok _ (fun a b c => absurd ⟨a, b, c⟩ hb) (fun _ _ => j1)⟩, fun hc => absurd rfl hc⟩
  have e4 := eS hR hI
  refine ⟨fun a => bad (fun q => ?_), fun a => s_lineEnd hR hl ?_⟩
  · rw [e4] at a
    exact nI_nle q.1 (by omega) a
  have h0 : 0 < nS := by
    rcases Nat.eq_zero_or_pos nS with q | q
    · subst q; rw [e4] at a; exact absurd (by decide) a
    · exact q
  rw [zk0, z38 n]
  refine s_isWithin (by omega) (by omega) (by omega) (by omega) (fun p q => ⟨fun hc => absurd hc (by decide), fun _ => ⟨fun hc => absurd hc (by decide), fun _ => ?_⟩⟩) (fun p => ⟨fun _ => ?_, fun hc => absurd rfl hc⟩)
  · have hf := lim_facts hl h0 (32 * n)
    refine s_limitAt hR hl h0 (by omega) ?_
    rw [← z38 n]
    exact ok _ (fun _ _ _ => ⟨j0.1, rfl, zq_fin (by omega) (by omega), j0.2⟩) (fun hb => absurd ⟨h0, by omega, by omega⟩ hb)
  · rw [← z38 n]
    exact bad (fun q => p ⟨by omega, by omega⟩)
theorem j_holds {S : SC} {M : SR} {x y : Int32} (h : J S M) : w_G_holds S x y (fun r u => w_R_holds M x y (fun b v => v.1 0 0 = 0 ∧ b = r ∧ J u v)) (fun k u => (k = 1 ∨ k = 2 ∨ k = 3 ∨ k = 4) ∧ w_R_holds M x y (fun _ v => v.1 0 0 = nI k ∧ J u v)) := by
  obtain ⟨E, nS, nR, nT, hR, hM, hI⟩ := h
  have hl := hI.1
  have hn10 := hl.2.1
  have h3 := hT3 hI
  have j0 := jf hR hM hI 0
  have j1 := jf hR hM hI 1
  have hb : ∀ t, t < nT → bnd E t := fun t ht => ig_bnd (hI.2.2.2.1 t ht)
  refine s_hasSection (eS hR hI) hn10 (fun s hs ex => ⟨fun hc => absurd hc (by decide), fun _ => ?_⟩) (fun hn => ⟨fun _ => ⟨fun _ => ⟨Or.inl rfl, ?_⟩, fun hc => absurd rfl hc⟩, fun hc => absurd rfl hc⟩)
  · subst ex
    have c7 : M.1 7 s = E.1 6 s := hM.1 7 s (by omega)
    have loop : ∀ (R : Int32 → SR → Prop), (y = 0 → R (E.1 6 s) (pI M 0 0 0)) → (¬ y = 0 → (∀ i : Nat, i < nT → inn E i s → (∀ o : Nat, o < i → ¬ inn E o s) → R (nI i) (pI M 0 0 0)) ∧ ((∀ o : Nat, o < nT → ¬ inn E o s) → R (-1) (pI M 0 0 0))) → ∀ (n : Nat) (f : Int32), n ≤ nT → ((f = -1 ∧ ∀ o : Nat, n ≤ o → o < nT → ¬ inn E o s) ∨ (∃ i : Nat, f = nI i ∧ n ≤ i ∧ i < nT ∧ inn E i s ∧ ∀ o : Nat, n ≤ o → o < i → ¬ inn E o s)) → w_R_holds_33 (n + 1) M (nI s) y f (nI n - 1) R := by
      intro R r0 r1 n
      induction n with
      | zero =>
        intro f hn hf
        refine ⟨fun _ => ⟨fun hy => ?_, fun hy => ⟨vp_in_nI (by omega) (by decide), ?_⟩⟩, fun hc => absurd (by decide) hc⟩
        · show R f _
          rcases hf with q | ⟨i, e, _, hi, hin, q⟩
          · rw [q.1]
            exact (r1 hy).2 (fun o ho => q.2 o (by omega) ho)
          · rw [e]
            exact (r1 hy).1 i hi hin (fun o ho => q o (by omega) ho)
        · rw [nI_clamp (by omega), c7]
          exact r0 hy
      | succ n ih =>
        intro f hn hf
        rw [nI_pred]
        refine ⟨fun hc => absurd hc (nI_pos (by omega)), fun _ => m_isIn hM hl (hb n (by omega)) (by omega) hs (fun hin => ⟨fun hc => absurd hc (by decide), fun _ => ?_⟩) (fun hin => ⟨fun _ => ?_, fun hc => absurd rfl hc⟩)⟩
        · show w_R_holds_33 (n + 1) M (nI s) y (nI n) (nI n + (-1)) R
          rw [show nI n + (-1) = nI n - 1 from (Int32.sub_eq_add_neg (nI n) 1).symm]
          exact ih _ (by omega) (Or.inr ⟨n, rfl, by omega, by omega, hin, fun o h1 h2 => by omega⟩)
        · show w_R_holds_33 (n + 1) M (nI s) y f (nI n + (-1)) R
          rw [show nI n + (-1) = nI n - 1 from (Int32.sub_eq_add_neg (nI n) 1).symm]
          refine ih _ (by omega) ?_
          rcases hf with q | ⟨i, e, h1, hi, hq, q⟩
          · refine Or.inl ⟨q.1, fun o h1 h2 => ?_⟩
            by_cases eo : o = n
            · subst eo; exact hin
            · exact q.2 o (by omega) h2
          · refine Or.inr ⟨i, e, by omega, hi, hq, fun o h4 h5 => ?_⟩
            by_cases eo : o = n
            · subst eo; exact hin
            · exact q o (by omega) h5
    have ref : ∀ R : Int32 → SR → Prop, (y = 0 ∨ y = 1) → (y = 0 → R (E.1 6 s) (pI M 0 0 0)) → (¬ y = 0 → (∀ i : Nat, i < nT → inn E i s → (∀ o : Nat, o < i → ¬ inn E o s) → R (nI i) (pI M 0 0 0)) ∧ ((∀ o : Nat, o < nT → ¬ inn E o s) → R (-1) (pI M 0 0 0))) → w_R_holds M (nI s) y R := by
      intro R hy r0 r1
      refine m_noSection (mS hM hI) hn10 (fun s' hs' e => ⟨fun hc => absurd rfl hc, fun _ => ?_⟩) (fun hn => absurd ⟨s, hs, rfl⟩ hn)
      refine m_in (fun _ _ => ⟨fun _ a7 e7 => ⟨nT + 1, ?_⟩, fun hc => absurd hc (by decide)⟩) (fun hn => absurd ?_ hn)
      · rw [mT hM hI] at e7
        subst e7
        exact loop R r0 r1 nT (-1) (Nat.le_refl _) (Or.inl ⟨rfl, fun o h1 h2 => by omega⟩)
      · rcases hy with e | e <;> subst e <;> exact ⟨by decide, by decide⟩
    have refb : ∀ R : Int32 → SR → Prop, ¬ y = 0 → ¬ y = 1 → R 0 (pI M 0 0 1) → w_R_holds M (nI s) y R := by
      intro R hy hy1 r0
      refine m_noSection (mS hM hI) hn10 (fun s' hs' e => ⟨fun hc => absurd rfl hc, fun _ => ?_⟩) (fun hn => absurd ⟨s, hs, rfl⟩ hn)
      refine m_in (fun a b => ?_) (fun _ => ⟨fun hc => absurd rfl hc, fun _ => r0⟩)
      have := Int32.le_iff_toInt_le.mp a
      have := Int32.le_iff_toInt_le.mp b
      have e0 : (0 : Int32).toInt = 0 := by decide
      have e1 : (1 : Int32).toInt = 1 := by decide
      have n0 : ¬ y.toInt = 0 := fun q => hy (Int32.toInt_inj.mp (q.trans e0.symm))
      have n1 : ¬ y.toInt = 1 := fun q => hy1 (Int32.toInt_inj.mp (q.trans e1.symm))
      omega
    refine ⟨fun ey => ⟨fun hc => absurd hc (by decide), fun _ => ⟨fun hc => absurd ey hc, fun _ => ⟨vp_in_nI (by omega) (by decide), ?_⟩⟩⟩, fun ey => ⟨fun ey1 => ⟨fun _ => ⟨Or.inl rfl, refb _ ey ey1 j1⟩, fun hc => absurd rfl hc⟩, fun ey1 => ⟨fun hc => absurd hc (by decide), fun _ => ⟨fun _ => ?_, fun hc => absurd hc ey⟩⟩⟩⟩
    · rw [nI_clamp (by omega), hR.1 6 s (by omega)]
      exact ref _ (Or.inl ey) (fun _ => ⟨j0.1, rfl, j0.2⟩) (fun hc => absurd ey hc)
    · have nm : ∀ o : Nat, o < nT → ¬ nI o = -1 := by
        intro o ho hc
        have := congrArg Int32.toInt hc
        rw [nI_toInt (by omega)] at this
        have e1 : (-1 : Int32).toInt = -1 := by decide
        omega
      refine s_first hR hl hI.2.1.1 h3 hb hs (fun i hi he hin hp => ref _ (Or.inr ey1) (fun hc => absurd hc ey) (fun _ => ⟨fun i' hi' hin' hp' => ⟨j0.1, ?_, j0.2⟩, fun hall => absurd hin (hall i hi)⟩)) (fun hall => ref _ (Or.inr ey1) (fun hc => absurd hc ey) (fun _ => ⟨fun i' hi' hin' hp' => absurd hin' (hall i' hi' (nm i' hi')), fun _ => ⟨j0.1, rfl, j0.2⟩⟩))
      have : i' = i := by
        rcases Nat.lt_trichotomy i' i with q | q | q
        · exact absurd hin' (hp i' q (nm i' hi'))
        · exact q
        · exact absurd hin (hp' i q)
      rw [this]
  · exact m_noSection (mS hM hI) hn10 (fun t ht ex => absurd ⟨t, ht, ex⟩ hn) (fun _ => ⟨fun _ => j1, fun hc => absurd hc (by decide)⟩)
