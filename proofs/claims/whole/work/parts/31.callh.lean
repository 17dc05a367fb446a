-- train
def trE (E : EA) (nT s : Nat) (l b r : Int) : EA := pV (pI (pI (pV (pV (pV (pV E 5 nT l) 6 nT b) 8 nT r) 9 nT r) 0 0 (nI (nT + 1))) 6 s (nI nT)) 13 nT (-1)
theorem ie_tr {E : EA} {nS nR nT s : Nat} {l b r : Int} (hI : IE E nS nR nT) (hT : nT < 3) (hs : s < nS) (hll : 2560 ≤ l ∧ l ≤ 12800) (hb : 128 ≤ b ∧ b ≤ 512 ∧ b % 32 = 0) (hr : 0 ≤ r ∧ r ≤ 2560000) : IE (trE E nT s l b r) nS nR (nT + 1) := by
  have hl := hI.1
  have hu := hI.2.2.2.2 nT (Nat.le_refl _) hT
  have v : ∀ c j : Nat, ¬ (5 ≤ c ∧ j = nT) → (trE E nT s l b r).2 c j = E.2 c j := by
    intro c j h
    unfold trE
    rw [pV_o (by omega), pI_2, pI_2, pV_o (by omega), pV_o (by omega), pV_o (by omega), pV_o (by omega)]
  have i : ∀ c j : Nat, c ≠ 0 → c ≠ 6 → (trE E nT s l b r).1 c j = E.1 c j := by
    intro c j h1 h2
    unfold trE
    rw [pV_1, pI_o (Or.inl h2), pI_o (Or.inl h1), pV_1, pV_1, pV_1, pV_1]
  have i0 : (trE E nT s l b r).1 0 0 = nI (nT + 1) := by simp [trE, pV_1, pI_r]
  refine ⟨⟨(i 4 0 (by omega) (by omega)).trans hl.1, hl.2.1, (i 5 0 (by omega) (by omega)).trans hl.2.2.1, hl.2.2.2.1, (v 0 0 (by omega)).trans hl.2.2.2.2.1, fun s' hs' => ?_, fun q hq => ?_⟩, ⟨i0, by omega, fun _ => by omega⟩, fun s' hs' => ?_, fun t ht => ?_, fun t h0 h3 => ?_⟩
  · rw [v 0 s' (by omega), v 0 (s' + 1) (by omega), v 1 s' (by omega)]
    exact hl.2.2.2.2.2.1 s' hs'
  · rw [v 2 q (by omega), v 3 q (by omega), v 4 q (by omega)]
    exact hl.2.2.2.2.2.2 q hq
  · by_cases e : s' = s
    · subst e
      have : (trE E nT s' l b r).1 6 s' = nI nT := by simp [trE, pV_1, pI_r]
      rw [this]
      exact Or.inr (nI_ge0 (by omega))
    · have : (trE E nT s l b r).1 6 s' = E.1 6 s' := by simp [trE, pV_1, pI_r, e]
      rw [this]
      exact hI.2.2.1 s' hs'
  · by_cases e : t = nT
    · subst e
      have e5 : (trE E t s l b r).2 5 t = l := by simp [trE, pI_2, pV_r]
      have e6 : (trE E t s l b r).2 6 t = b := by simp [trE, pI_2, pV_r]
      have e7 : (trE E t s l b r).2 7 t = E.2 7 t := by simp [trE, pI_2, pV_r]
      have e8 : (trE E t s l b r).2 8 t = r := by simp [trE, pI_2, pV_r]
      have e9 : (trE E t s l b r).2 9 t = r := by simp [trE, pI_2, pV_r]
      have e10 : (trE E t s l b r).2 10 t = E.2 10 t := by simp [trE, pI_2, pV_r]
      have e11 : (trE E t s l b r).2 11 t = E.2 11 t := by simp [trE, pI_2, pV_r]
      have e12 : (trE E t s l b r).2 12 t = E.2 12 t := by simp [trE, pI_2, pV_r]
      have e13 : (trE E t s l b r).2 13 t = -1 := by simp [trE, pV_r]
      obtain ⟨u7, u10, u9, uh, uw, uk, u11, u12⟩ := hu
      refine ⟨?_, ⟨Or.inl ((i 9 t (by omega) (by omega)).trans u9), fun q => ?_⟩, ⟨by rw [e11]; exact u11, Or.inl ⟨(i 7 t (by omega) (by omega)).trans uh, e13⟩⟩, ⟨by rw [e12]; exact u12, Or.inl ⟨(i 10 t (by omega) (by omega)).trans uw, (i 14 t (by omega) (by omega)).trans uk⟩⟩⟩
      · unfold IG
        rw [e5, e6, e7, e8, e9, e10, u7, u10]
        omega
      · rw [i 9 t (by omega) (by omega), u9] at q
        exact absurd q (by decide)
    · exact it_ag (fun c a b => i c t (by omega) (by omega)) (fun c a => v c t (by omega)) (hI.2.2.2.1 t (by omega))
  · exact iu_ag (fun c a b => i c t (by omega) (by omega)) (fun c a => v c t (by omega)) (hI.2.2.2.2 t (by omega) h3)
theorem j_train {S : SC} {M : SR} {x : Int32} {n1 n2 : Int} (h : J S M) (h1 : n1.natAbs < 4294967296) (h2 : n2.natAbs < 4294967296) : w_G_train S x (zq 3 n1) (zq 3 n2) (fun r u => w_R_train M x (zq 3 n1) (zq 3 n2) (fun b v => v.1 0 0 = 0 ∧ b = r ∧ J u v)) (fun k u => (k = 1 ∨ k = 2 ∨ k = 3 ∨ k = 4) ∧ w_R_train M x (zq 3 n1) (zq 3 n2) (fun _ v => v.1 0 0 = nI k ∧ J u v)) := by
  obtain ⟨E, nS, nR, nT, hR, hM, hI⟩ := h
  have h3 := hT3 hI
  have hl := hI.1
  have hn10 := hl.2.1
  have j1 := jf hR hM hI 1
  have j3 := jf hR hM hI 3
  have mT0 : M.1 3 0 = nI nT := mT hM hI
  have eT0 : S.1 0 0 = nI nT := eT hR hI
  have hbn : ∀ t, t < nT → bnd E t := fun t ht => ig_bnd (hI.2.2.2.1 t ht)
  have bad : ∀ s : Nat, s < nS → x = nI s → ¬ (80 ≤ n1 ∧ n1 ≤ 400 ∧ 4 ≤ n2 ∧ n2 ≤ 16) → w_G_train_42 S x (zq 3 n1) (zq 3 n2) (fun r u => w_R_train M x (zq 3 n1) (zq 3 n2) (fun b v => v.1 0 0 = 0 ∧ b = r ∧ J u v)) (fun k u => (k = 1 ∨ k = 2 ∨ k = 3 ∨ k = 4) ∧ w_R_train M x (zq 3 n1) (zq 3 n2) (fun _ v => v.1 0 0 = nI k ∧ J u v)) := by
    intro s hs ex q
    subst ex
    refine ⟨fun _ => ⟨Or.inl rfl, ?_⟩, fun hc => absurd rfl hc⟩
    refine m_noSection (mS hM hI) hn10 (fun s' hs' e => ⟨fun hc => absurd rfl hc, fun _ => ?_⟩) (fun hn => absurd ⟨s, hs, rfl⟩ hn)
    rw [zk_10, zk_50, zk_h3, zk_2]
    exact m_between (by omega) (by omega) (by decide) (by decide) (fun a b => ⟨fun hc => absurd hc (by decide), fun _ => m_between (by omega) (by omega) (by decide) (by decide) (fun c d => absurd ⟨a, b, c, d⟩ q) (fun c => ⟨fun hc => absurd rfl hc, fun _ => j1⟩)⟩) (fun a => ⟨fun _ => j1, fun hc => absurd rfl hc⟩)
  refine s_hasSection (eS hR hI) hn10 (fun s hs ex => ⟨fun hc => absurd hc (by decide), fun _ => ?_⟩) (fun hn => ⟨fun _ => ⟨fun _ => ⟨Or.inl rfl, ?_⟩, fun hc => absurd rfl hc⟩, fun hc => absurd rfl hc⟩)
  · have bad := bad s hs ex
    subst ex
    rw [zk_10, zk_50, zk_h3, zk_2]
    refine s_isWithin (by omega) (by omega) (by decide) (by decide) (fun a b => ⟨fun hc => absurd hc (by decide), fun _ => s_isWithin (by omega) (by omega) (by decide) (by decide) (fun c d => ⟨fun hc => absurd hc (by decide), fun _ => ⟨fun hc => absurd hc (by decide), fun _ => ?_⟩⟩) (fun c => ⟨fun _ => bad (fun q => c ⟨q.2.2.1, q.2.2.2⟩), fun hc => absurd rfl hc⟩)⟩) (fun a => ⟨fun _ => bad (fun q => a ⟨q.1, q.2.1⟩), fun hc => absurd rfl hc⟩)
    have ref : ∀ R : Int32 → SR → Prop, (¬ (nT < 3 ∧ free E nT s (-1)) → R 0 (pI M 0 0 3)) → (nT < 3 → free E nT s (-1) → ∀ v : SR, RM v (trE E nT s (32 * n1) (32 * n2) (E.2 0 s + 32 * n1)) → R (nI nT) (pI v 0 0 0)) → w_R_train M (nI s) (zq 3 n1) (zq 3 n2) R := by
      intro R ra rb
      refine m_noSection (mS hM hI) hn10 (fun s' hs' e => ⟨fun hc => absurd rfl hc, fun _ => ?_⟩) (fun hn => absurd ⟨s, hs, rfl⟩ hn)
      rw [zk_10, zk_50, zk_h3, zk_2]
      refine m_between (by omega) (by omega) (by decide) (by decide) (fun _ _ => ⟨fun hc => absurd hc (by decide), fun _ => m_between (by omega) (by omega) (by decide) (by decide) (fun _ _ => ⟨fun _ => ?_, fun hc => absurd hc (by decide)⟩) (fun q => absurd ⟨c, d⟩ q)⟩) (fun q => absurd ⟨a, b⟩ q)
      rw [mT0]
      refine ⟨fun e => ra (fun q => ?_), fun e => m_taken hM hl hI.2.1.1 h3 hbn hs (hI.2.2.1 s hs) (fun hf => ⟨fun hc => absurd hc (by decide), fun _ => ra (fun q => hf q.2)⟩) (fun hf => ⟨fun _ => ?_, fun hc => absurd rfl hc⟩)⟩
      · have := nI_ne (b := 3) (by omega) (by omega) e
        omega
      have t3 : nT < 3 := by
        rcases Nat.lt_or_ge nT 3 with z | z
        · exact z
        · have : nT = 3 := by omega
          subst this
          exact absurd rfl e
      have hv3 : vp_in (nI nT) 3 := vp_in_nI t3 (by decide)
      refine m_whole h1 ?_
      rw [mT0, nI_clamp (by omega)]
      refine ⟨hv3, m_whole h2 ⟨hv3, vp_in_nI (by omega) (by decide), hv3, fun b19 e19 => ⟨hv3, hv3, hv3, hv3, vp_in_nI (by omega) (by decide), fun a20 e20 => ?_⟩⟩⟩
      rw [nI_clamp (by omega)] at e19 e20 ⊢
      have k0 : (pV (pV M 5 nT (lI (32 * n1))) 6 nT (lI (32 * n2))).2 0 s = lI (E.2 0 s) := hM.2 0 s (by omega)
      have k5 : (pV (pV M 5 nT (lI (32 * n1))) 6 nT (lI (32 * n2))).2 5 nT = lI (32 * n1) := by simp [pV_r]
      rw [k0, k5, lI_add] at e19
      subst e19
      rw [pV_s] at e20 ⊢
      have kT : (pI (pV (pV (pV (pV (pV M 5 nT (lI (32 * n1))) 6 nT (lI (32 * n2))) 8 nT (lI (E.2 0 s + 32 * n1))) 9 nT (lI (E.2 0 s + 32 * n1))) 11 nT (-1 : Int64)) 7 s (nI nT)).1 3 0 = nI nT := mT0
      rw [kT, nI_1] at e20
      subst e20
      refine rb t3 hf _ ?_
      unfold trE
      rw [pI_comm _ (by decide : (0 : Nat) ≠ 6)]
      exact ((RM.pV ((((hM.pV 5 nT (32 * n1) (by omega)).pV 6 nT (32 * n2) (by omega)).pV 8 nT (E.2 0 s + 32 * n1) (by omega)).pV 9 nT (E.2 0 s + 32 * n1) (by omega)) 11 nT (-1) (by omega)).pI 7 s (nI nT) (by omega)).pI 3 0 (nI (nT + 1)) (by omega)
    -- the length of the section is never too small
    have g1 := hl.bg s (by omega)
    have g2 := hl.bg (s + 1) (by omega)
    have g3 := hl.2.2.2.2.2.1 s hs
    refine s_endOf hR hs hn10 (s_beginOf hR hs hn10 ?_)
    rw [zq_sub (by omega) (by omega) (by omega)]
    refine ⟨zq_fin (by omega) (by omega), fun f5 e5 => ?_⟩
    subst e5
    have cmp : Op.cmpValue (Jvm.FP.dcmp (zq 3 n1) (zq 8 (E.2 0 (s + 1) - E.2 0 s))) .g = if 32 * n1 < E.2 0 (s + 1) - E.2 0 s then -1 else if 32 * n1 = E.2 0 (s + 1) - E.2 0 s then 0 else 1 := by
      rw [z38 n1, zcv .g (by omega) (by omega) (by omega)]
    rw [cmp]
    refine ⟨fun q => ?_, fun _ => ⟨fun hc => absurd hc (by decide), fun _ => ?_⟩⟩
    · have := zi_gt.mp q
      omega
    have bad3 : ¬ (nT < 3 ∧ free E nT s (-1)) → w_G_train_88 S (nI s) (zq 3 n1) (zq 3 n2) (fun r u => w_R_train M (nI s) (zq 3 n1) (zq 3 n2) (fun b v => v.1 0 0 = 0 ∧ b = r ∧ J u v)) (fun k u => (k = 1 ∨ k = 2 ∨ k = 3 ∨ k = 4) ∧ w_R_train M (nI s) (zq 3 n1) (zq 3 n2) (fun _ v => v.1 0 0 = nI k ∧ J u v)) :=
      fun q => ⟨fun _ => ⟨Or.inr (Or.inr (Or.inl rfl)), ref _ (fun _ => j3) (fun z w => absurd ⟨z, w⟩ q)⟩, fun hc => absurd rfl hc⟩
    show ((3 : Int32) ≤ S.1 0 0 → _) ∧ _
    rw [eT0]
    refine ⟨fun q => bad3 (fun z => ?_), fun q => s_isFreeFor hR hl hI.2.1.1 h3 hbn hs (fun hf => ⟨fun hc => absurd hc (by decide), fun _ => ⟨fun hc => absurd hc (by decide), fun _ => ?_⟩⟩) (fun hf => ⟨fun _ => bad3 (fun z => hf z.2), fun hc => absurd rfl hc⟩)⟩
    · exact nI_ge (a := nT) (b := 3) z.1 (by omega) q
    have t3 : nT < 3 := by
      rcases Nat.lt_or_ge nT 3 with w | w
      · exact w
      · exact absurd (nI_le (a := 3) w (by omega)) q
    show ∀ a14 : Int32, a14 = S.1 0 0 + 1 → _
    intro a14 e14
    rw [eT0] at e14 ⊢
    rw [nI_1] at e14
    subst e14
    refine ⟨vp_in_nI t3 (by decide), by rw [nI_clamp (by omega)]; exact t3, s_beginOf (hR.pI 0 0 (nI (nT + 1))) hs hn10 ?_⟩
    have hed : Jvm.FP.dadd (zq 8 ((pI E 0 0 (nI (nT + 1))).2 0 s)) (zq 3 n1) = zq 8 (E.2 0 s + 32 * n1) := by
      show Jvm.FP.dadd (zq 8 (E.2 0 s)) (zq 3 n1) = _
      rw [z38 n1, zq_add (by omega) (by omega) (by omega)]
    unfold w_T_putAt
    rw [hed, nI_clamp (by omega), nI_clamp (by omega)]
    refine ⟨zq_fin (by omega) (by omega), fun f1 e1 => ⟨vp_in_nI (by omega) (by decide), ?_⟩⟩
    subst e1
    rw [pV_s]
    have hu : RC (pI (pV (pV (pV (pV (pI S 0 0 (nI (nT + 1))) 5 nT (zq 3 n1)) 6 nT (zq 3 n2)) 8 nT (zq 8 (E.2 0 s + 32 * n1))) 9 nT (zq 8 (E.2 0 s + 32 * n1))) 6 s (nI nT)) (trE E nT s (32 * n1) (32 * n2) (E.2 0 s + 32 * n1)) := by
      rw [z38 n1, z38 n2]
      exact rc_xV ((((((hR.pV 5 nT (32 * n1)).pV 6 nT (32 * n2)).pV 8 nT (E.2 0 s + 32 * n1)).pV 9 nT (E.2 0 s + 32 * n1)).pI 0 0 (nI (nT + 1))).pI 6 s (nI nT)) 13 nT (-1) (by omega)
    refine ref _ (fun z => absurd ⟨t3, hf⟩ z) (fun _ _ v hv => ?_)
    have j := jf hu hv (ie_tr hI t3 hs (by omega) (by omega) (by omega)) 0
    exact ⟨j.1, rfl, j.2⟩
  · exact m_noSection (mS hM hI) hn10 (fun t ht ex => absurd ⟨t, ht, ex⟩ hn) (fun _ => ⟨fun _ => j1, fun hc => absurd hc (by decide)⟩)
