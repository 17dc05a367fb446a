-- section, restrict, release, train
def scE (E : EA) (nS : Nat) (a b : Int) : EA := pI (pV (pI (pV E 1 nS b) 6 nS (-1)) 0 (nS + 1) (E.2 0 nS + a)) 4 0 (nI (nS + 1))
theorem ie_sc {E : EA} {nS nR : Nat} {a b : Int} (hI : IE E nS nR 0) (hn : nS < 10) (ha : 12800 ≤ a ∧ a ≤ 256000 ∧ a % 32 = 0) (hb : 256 ≤ b ∧ b ≤ 15360 ∧ b % 32 = 0) : IE (scE E nS a b) (nS + 1) nR 0 := by
  have hl := hI.1
  have g := hl.bg nS (by omega)
  have r0 : ∀ s : Nat, s ≠ nS + 1 → (scE E nS a b).2 0 s = E.2 0 s := by
    intro s hs
    simp [scE, pI_2, pV_r, hs]
  have r0' : (scE E nS a b).2 0 (nS + 1) = E.2 0 nS + a := by simp [scE, pI_2, pV_r]
  have r1 : ∀ s : Nat, s ≠ nS → (scE E nS a b).2 1 s = E.2 1 s := by
    intro s hs
    simp [scE, pI_2, pV_r, hs]
  have r1' : (scE E nS a b).2 1 nS = b := by simp [scE, pI_2, pV_r]
  have r : ∀ c s : Nat, 2 ≤ c → (scE E nS a b).2 c s = E.2 c s := by
    intro c s hc
    unfold scE
    rw [pI_2, pV_o (Or.inl (by omega)), pI_2, pV_o (Or.inl (by omega))]
  have i : ∀ c s : Nat, c ≠ 4 → c ≠ 6 → (scE E nS a b).1 c s = E.1 c s := by
    intro c s h1 h2
    unfold scE
    rw [pI_o (Or.inl h1), pV_1, pI_o (Or.inl h2), pV_1]
  have i4 : (scE E nS a b).1 4 0 = nI (nS + 1) := pI_s
  refine ⟨⟨i4, by omega, (i 5 0 (by omega) (by omega)).trans hl.2.2.1, hl.2.2.2.1, (r0 0 (by omega)).trans hl.2.2.2.2.1, fun s hs => ?_, fun q hq => ?_⟩, ⟨(i 0 0 (by omega) (by omega)).trans hI.2.1.1, by omega, fun h => by omega⟩, fun s hs => ?_, fun t ht => by omega, fun t h0 h3 => ?_⟩
  · by_cases e : s = nS
    · subst e
      rw [r0 s (by omega), r0', r1']
      omega
    · rw [r0 s (by omega), r0 (s + 1) (by omega), r1 s e]
      exact hl.2.2.2.2.2.1 s (by omega)
  · rw [r 2 q (by omega), r 3 q (by omega), r 4 q (by omega)]
    exact hl.2.2.2.2.2.2 q hq
  · by_cases e : s = nS
    · subst e
      refine Or.inl ?_
      simp [scE, pI_r, pV_1]
    · have : (scE E nS a b).1 6 s = E.1 6 s := by simp [scE, pI_r, pV_1, e]
      rw [this]
      exact hI.2.2.1 s (by omega)
  · exact iu_ag (fun c h1 h2 => i c t (by omega) (by omega)) (fun c h1 => r c t (by omega)) (hI.2.2.2.2 t h0 h3)
theorem j_section {S : SC} {M : SR} {n1 n2 : Int} (h : J S M) (h1 : n1.natAbs < 4294967296) (h2 : n2.natAbs < 4294967296) : w_G_section S (zq 3 n1) (zq 3 n2) (fun r u => w_R_section M (zq 3 n1) (zq 3 n2) (fun b v => v.1 0 0 = 0 ∧ b = r ∧ J u v)) (fun k u => (k = 1 ∨ k = 2 ∨ k = 3 ∨ k = 4) ∧ w_R_section M (zq 3 n1) (zq 3 n2) (fun _ v => v.1 0 0 = nI k ∧ J u v)) := by
  obtain ⟨E, nS, nR, nT, hR, hM, hI⟩ := h
  have h3 := hT3 hI
  have hl := hI.1
  have hn10 := hl.2.1
  have j1 := jf hR hM hI 1
  have j3 := jf hR hM hI 3
  have ref : ∀ R : Int32 → SR → Prop, (¬ (400 ≤ n1 ∧ n1 ≤ 8000 ∧ 8 ≤ n2 ∧ n2 ≤ 480) → R 0 (pI M 0 0 1)) → ((400 ≤ n1 ∧ n1 ≤ 8000 ∧ 8 ≤ n2 ∧ n2 ≤ 480) → ¬ (nT = 0 ∧ nS < 10) → R 0 (pI M 0 0 3)) → ((400 ≤ n1 ∧ n1 ≤ 8000 ∧ 8 ≤ n2 ∧ n2 ≤ 480) → (nT = 0 ∧ nS < 10) → ∀ v : SR, RM v (scE E nS (32 * n1) (32 * n2)) → R (nI nS) (pI v 0 0 0)) → w_R_section M (zq 3 n1) (zq 3 n2) R := by
    intro R ra rb rc
    unfold w_R_section
    rw [zk_50, zk_1000, zk_1, zk_60]
    have mS0 : M.1 1 0 = nI nS := mS hM hI
    refine m_between (by omega) (by omega) (by decide) (by decide) (fun a b => ⟨fun hc => absurd hc (by decide), fun _ => m_between (by omega) (by omega) (by decide) (by decide) (fun c d => ⟨fun _ => ?_, fun hc => absurd hc (by decide)⟩) (fun c => ⟨fun hc => absurd rfl hc, fun _ => ra (fun q => c ⟨q.2.2.1, q.2.2.2⟩)⟩)⟩) (fun a => ⟨fun _ => ra (fun q => a ⟨q.1, q.2.1⟩), fun hc => absurd rfl hc⟩)
    have ok : 400 ≤ n1 ∧ n1 ≤ 8000 ∧ 8 ≤ n2 ∧ n2 ≤ 480 := ⟨a, b, c, d⟩
    rw [mT hM hI, mS hM hI]
    refine ⟨fun q => rb ok (fun z => ?_), fun q => ⟨fun e => ?_, fun e => rb ok (fun z => ?_)⟩⟩
    · rw [z.1] at q
      exact absurd q (by decide)
    · have t0 : nT = 0 := by
        rcases Nat.eq_zero_or_pos nT with z | z
        · exact z
        · exact absurd (nI_lt (a := 0) z (by omega)) q
      have n9 : nS < 10 := by
        rcases Nat.lt_or_ge nS 10 with z | z
        · exact z
        · have : nS = 10 := by omega
          subst this
          exact absurd rfl e
      refine m_whole h2 ⟨vp_in_nI n9 (by decide), ?_⟩
      rw [nI_clamp (by omega)]
      have m1 : (pV M 1 nS (lI (32 * n2))).1 1 0 = nI nS := mS0
      rw [m1]
      refine ⟨vp_in_nI n9 (by decide), fun a11 e11 => ?_⟩
      rw [nI_clamp (by omega)] at e11 ⊢
      have m2 : (pI (pV M 1 nS (lI (32 * n2))) 7 nS (-1)).1 1 0 = nI nS := mS0
      rw [m2] at e11 ⊢
      rw [nI_1] at e11
      subst e11
      refine ⟨vp_in_nI (by omega) (by decide), m_whole h1 (fun b14 e14 => ?_)⟩
      rw [nI_clamp (by omega)] at e14
      have m3 : (pI (pV M 1 nS (lI (32 * n2))) 7 nS (-1)).2 0 nS = lI (E.2 0 nS) := hM.2 0 nS (by omega)
      rw [m3, lI_add] at e14
      subst e14
      refine ⟨vp_in_nI (by omega) (by decide), fun a15 e15 a16 e16 => ?_⟩
      rw [nI_clamp (by omega)] at e15 e16 ⊢
      have m4 : (pV (pI (pV M 1 nS (lI (32 * n2))) 7 nS (-1)) 0 (nS + 1) (lI (E.2 0 nS + 32 * n1))).1 1 0 = nI nS := mS0
      rw [m4, nI_1] at e15
      subst e15
      rw [pI_s, nI_pred] at e16
      subst e16
      exact rc ok ⟨t0, n9⟩ _ ((((hM.pV 1 nS (32 * n2) (by omega)).pI 7 nS (-1) (by omega)).pV 0 (nS + 1) (E.2 0 nS + 32 * n1) (by omega)).pI 1 0 (nI (nS + 1)) (by omega))
    · have := nI_ne (b := 10) (by omega) (by omega) e
      omega
  have bad : ¬ (400 ≤ n1 ∧ n1 ≤ 8000 ∧ 8 ≤ n2 ∧ n2 ≤ 480) → w_G_section_24 S (zq 3 n1) (zq 3 n2) (fun r u => w_R_section M (zq 3 n1) (zq 3 n2) (fun b v => v.1 0 0 = 0 ∧ b = r ∧ J u v)) (fun k u => (k = 1 ∨ k = 2 ∨ k = 3 ∨ k = 4) ∧ w_R_section M (zq 3 n1) (zq 3 n2) (fun _ v => v.1 0 0 = nI k ∧ J u v)) :=
    fun q => ⟨fun _ => ⟨Or.inl rfl, ref _ (fun _ => j1) (fun z => absurd z q) (fun z => absurd z q)⟩, fun hc => absurd rfl hc⟩
  unfold w_G_section
  rw [zk_50, zk_1000]
  refine s_isWithin (by omega) (by omega) (by decide) (by decide) (fun a b => ⟨fun hc => absurd hc (by decide), fun _ => s_isSpeed (by omega) (fun c d => ⟨fun hc => absurd hc (by decide), fun _ => ⟨fun hc => absurd hc (by decide), fun _ => ?_⟩⟩) (fun c => ⟨fun _ => bad (fun q => c ⟨q.2.2.1, q.2.2.2⟩), fun hc => absurd rfl hc⟩)⟩) (fun a => ⟨fun _ => bad (fun q => a ⟨q.1, q.2.1⟩), fun hc => absurd rfl hc⟩)
  have ok : 400 ≤ n1 ∧ n1 ≤ 8000 ∧ 8 ≤ n2 ∧ n2 ≤ 480 := ⟨a, b, c, d⟩
  have bad3 : ¬ (nT = 0 ∧ nS < 10) → w_G_section_51 S (zq 3 n1) (zq 3 n2) (fun r u => w_R_section M (zq 3 n1) (zq 3 n2) (fun b v => v.1 0 0 = 0 ∧ b = r ∧ J u v)) (fun k u => (k = 1 ∨ k = 2 ∨ k = 3 ∨ k = 4) ∧ w_R_section M (zq 3 n1) (zq 3 n2) (fun _ v => v.1 0 0 = nI k ∧ J u v)) :=
    fun q => ⟨fun _ => ⟨Or.inr (Or.inr (Or.inl rfl)), ref _ (fun z => absurd ok z) (fun _ _ => j3) (fun _ z => absurd z q)⟩, fun hc => absurd rfl hc⟩
  show (¬ S.1 0 0 = 0 → _) ∧ _
  rw [eT hR hI, eS hR hI]
  refine ⟨fun q => bad3 (fun z => q (by rw [z.1]; rfl)), fun q => ⟨fun z => bad3 (fun w => ?_), fun z => ⟨fun hc => absurd hc (by decide), fun _ => ?_⟩⟩⟩
  · exact nI_ge (a := nS) (b := 10) w.2 (by omega) z
  have t0 : nT = 0 := nI_ne (b := 0) (by omega) (by omega) q
  have n9 : nS < 10 := by
    rcases Nat.lt_or_ge nS 10 with w | w
    · exact w
    · exact absurd (nI_le (a := 10) w (by omega)) z
  have g := hl.bg nS (by omega)
  show w_L_addSection S (zq 3 n1) (zq 3 n2) _
  unfold w_L_addSection
  rw [eS hR hI]
  refine ⟨vp_in_nI n9 (by decide), vp_in_nI n9 (by decide), fun a1 e1 => ⟨vp_in_nI (by omega) (by decide), ?_⟩⟩
  rw [nI_1] at e1
  subst e1
  rw [nI_clamp (by omega)]
  have m3 : (pI (pV S 1 nS (zq 3 n2)) 6 nS (-1)).2 0 nS = zq 8 (E.2 0 nS) := hR.2 0 nS (by omega)
  have ed : Jvm.FP.dadd (zq 8 (E.2 0 nS)) (zq 3 n1) = zq 8 (E.2 0 nS + 32 * n1) := by
    rw [z38 n1, zq_add (by omega) (by omega) (by omega)]
  rw [m3, ed]
  refine ⟨zq_fin (by omega) (by omega), fun f2 e2 => ?_⟩
  subst e2
  refine ⟨vp_in_nI (by omega) (by decide), fun a3 e3 => ?_⟩
  rw [nI_clamp (by omega)] at e3 ⊢
  have eS0 : S.1 4 0 = nI nS := eS hR hI
  have m4 : (pV (pI (pV S 1 nS (zq 3 n2)) 6 nS (-1)) 0 (nS + 1) (zq 8 (E.2 0 nS + 32 * n1))).1 4 0 = nI nS := eS0
  rw [m4, nI_1] at e3
  subst e3
  have hu : RC (pI (pV (pI (pV S 1 nS (zq 3 n2)) 6 nS (-1)) 0 (nS + 1) (zq 8 (E.2 0 nS + 32 * n1))) 4 0 (nI (nS + 1))) (scE E nS (32 * n1) (32 * n2)) := by
    rw [z38 n2]
    exact (((hR.pV 1 nS (32 * n2)).pI 6 nS (-1)).pV 0 (nS + 1) (E.2 0 nS + 32 * n1)).pI 4 0 (nI (nS + 1))
  refine ref _ (fun z => absurd ok z) (fun _ z => absurd ⟨t0, n9⟩ z) (fun _ _ v hv => ?_)
  subst t0
  have j := jf hu hv (ie_sc hI n9 (by omega) (by omega)) 0
  exact ⟨j.1, rfl, j.2⟩
