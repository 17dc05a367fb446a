-- restrict, release
/-- only the restrictions and their count may differ -/
def FrR (E E' : EA) : Prop := (∀ c j : Nat, c ≠ 5 → E'.1 c j = E.1 c j) ∧ (∀ c j : Nat, ¬ (2 ≤ c ∧ c ≤ 4) → E'.2 c j = E.2 c j)
theorem ie_r {E E' : EA} {nS nR nR' nT : Nat} (h : IE E nS nR nT) (hf : FrR E E') (h5 : E'.1 5 0 = nI nR') (hn : nR' ≤ 5) (hr : ∀ r : Nat, r < nR' → 0 ≤ E'.2 2 r ∧ E'.2 2 r < E'.2 3 r ∧ E'.2 3 r ≤ 2560000 ∧ 256 ≤ E'.2 4 r ∧ E'.2 4 r ≤ 15360 ∧ E'.2 4 r % 32 = 0) : IE E' nS nR' nT := by
  have hl := h.1
  refine ⟨⟨(hf.1 4 0 (by omega)).trans hl.1, hl.2.1, h5, hn, (hf.2 0 0 (by omega)).trans hl.2.2.2.2.1, fun s hs => ?_, hr⟩, ?_, fun s hs => ?_, fun t' ht' => ?_, fun t' ht' h3 => ?_⟩
  · rw [hf.2 0 s (by omega), hf.2 0 (s + 1) (by omega), hf.2 1 s (by omega)]
    exact hl.2.2.2.2.2.1 s hs
  · rw [hf.1 0 0 (by omega)]; exact h.2.1
  · rw [hf.1 6 s (by omega)]; exact h.2.2.1 s hs
  · exact it_ag (fun c a b => hf.1 c t' (by omega)) (fun c a => hf.2 c t' (by omega)) (h.2.2.2.1 t' ht')
  · exact iu_ag (fun c a b => hf.1 c t' (by omega)) (fun c a => hf.2 c t' (by omega)) (h.2.2.2.2 t' ht' h3)
def rsE (E : EA) (nR : Nat) (a b c : Int) : EA := pI (pV (pV (pV E 2 nR a) 3 nR b) 4 nR c) 5 0 (nI (nR + 1))
theorem ie_rs {E : EA} {nS nR nT : Nat} {a b c : Int} (hI : IE E nS nR nT) (hn : nR < 5) (hv : 0 ≤ a ∧ a < b ∧ b ≤ 2560000 ∧ 256 ≤ c ∧ c ≤ 15360 ∧ c % 32 = 0) : IE (rsE E nR a b c) nS (nR + 1) nT := by
  refine ie_r hI ⟨fun c' j hc => ?_, fun c' j hc => ?_⟩ pI_s (by omega) (fun r hr => ?_)
  · unfold rsE
    rw [pI_o (Or.inl hc), pV_1, pV_1, pV_1]
  · unfold rsE
    rw [pI_2, pV_o (Or.inl (by omega)), pV_o (Or.inl (by omega)), pV_o (Or.inl (by omega))]
  · by_cases e : r = nR
    · subst e
      have e2 : (rsE E r a b c).2 2 r = a := by simp [rsE, pI_2, pV_r]
      have e3 : (rsE E r a b c).2 3 r = b := by simp [rsE, pI_2, pV_r]
      have e4 : (rsE E r a b c).2 4 r = c := by simp [rsE, pI_2, pV_r]
      rw [e2, e3, e4]
      exact hv
    · have e2 : (rsE E nR a b c).2 2 r = E.2 2 r := by simp [rsE, pI_2, pV_r, e]
      have e3 : (rsE E nR a b c).2 3 r = E.2 3 r := by simp [rsE, pI_2, pV_r, e]
      have e4 : (rsE E nR a b c).2 4 r = E.2 4 r := by simp [rsE, pI_2, pV_r, e]
      rw [e2, e3, e4]
      exact hI.1.2.2.2.2.2.2 r (by omega)
theorem j_restrict {S : SC} {M : SR} {n1 n2 n3 : Int} (h : J S M) (h1 : n1.natAbs < 4294967296) (h2 : n2.natAbs < 4294967296) (h3 : n3.natAbs < 4294967296) : w_G_restrict S (zq 3 n1) (zq 3 n2) (zq 3 n3) (fun r u => w_R_restrict M (zq 3 n1) (zq 3 n2) (zq 3 n3) (fun b v => v.1 0 0 = 0 ∧ b = r ∧ J u v)) (fun k u => (k = 1 ∨ k = 2 ∨ k = 3 ∨ k = 4) ∧ w_R_restrict M (zq 3 n1) (zq 3 n2) (zq 3 n3) (fun _ v => v.1 0 0 = nI k ∧ J u v)) := by
  obtain ⟨E, nS, nR, nT, hR, hM, hI⟩ := h
  have hT := hT3 hI
  have hl := hI.1
  have hn5 := hl.2.2.2.1
  have j1 := jf hR hM hI 1
  have j3 := jf hR hM hI 3
  have j4 := jf hR hM hI 4
  have m5 : M.1 2 0 = nI nR := (hM.1 2 0 (by omega)).trans hl.2.2.1
  have s5 : S.1 5 0 = nI nR := (hR.1 5 0 (by omega)).trans hl.2.2.1
  have mT0 : M.1 3 0 = nI nT := mT hM hI
  have ref : ∀ R : Int32 → SR → Prop, (¬ (0 ≤ n1 ∧ n1 < n2 ∧ n2 ≤ 80000 ∧ 8 ≤ n3 ∧ n3 ≤ 480) → R 0 (pI M 0 0 1)) → (¬ nR < 5 → R 0 (pI M 0 0 3)) → (nR < 5 → ¬ stb E nT → R 0 (pI M 0 0 4)) → (nR < 5 → stb E nT → ∀ v : SR, RM v (rsE E nR (32 * n1) (32 * n2) (32 * n3)) → R (nI (nR + 1)) (pI v 0 0 0)) → w_R_restrict M (zq 3 n1) (zq 3 n2) (zq 3 n3) R := by
    intro R ra rb rc rd
    unfold w_R_restrict
    rw [zk_03, zk_10000, zk_1, zk_60, zcv .l (by omega) (by omega) (by omega), zcv .l (by omega) (by omega) (by omega), zcv .g (by omega) (by omega) (by omega)]
    refine ⟨fun a => ra (fun q => ?_), fun a => ⟨fun b => ra (fun q => ?_), fun b => ⟨fun c => ra (fun q => ?_), fun c => m_between (by omega) (by omega) (by decide) (by decide) (fun d e => ⟨fun _ => ?_, fun hc => absurd hc (by decide)⟩) (fun d => ⟨fun hc => absurd rfl hc, fun _ => ra (fun q => d ⟨q.2.2.2.1, q.2.2.2.2⟩)⟩)⟩⟩⟩
    · have := zi_lt.mp a
      omega
    · have := zi_le.mp b
      omega
    · have := zi_gt.mp c
      omega
    rw [m5]
    refine ⟨fun e5 => ?_, fun e5 => rb (fun q => ?_)⟩
    · have n5 : nR < 5 := by
        rcases Nat.lt_or_ge nR 5 with z | z
        · exact z
        · have : nR = 5 := by omega
          subst this
          exact absurd rfl e5
      have loop : ∀ (n i : Nat), i + n = nT → (∀ o : Nat, o < i → E.1 9 o = 0) → w_R_restrict_55 (n + 1) M (zq 3 n1) (zq 3 n2) (zq 3 n3) (nI i) R := by
        intro n
        induction n with
        | zero =>
          intro i hi hp
          refine ⟨fun _ => ?_, fun hc => absurd (by rw [mT0]; exact nI_le (by omega) (by omega)) hc⟩
          rw [m5]
          refine m_whole h1 ⟨vp_in_nI n5 (by decide), m_whole h2 ?_⟩
          rw [nI_clamp (by omega)]
          have k1 : (pV M 2 nR (lI (32 * n1))).1 2 0 = nI nR := m5
          rw [k1]
          refine ⟨vp_in_nI n5 (by decide), m_whole h3 ?_⟩
          rw [nI_clamp (by omega)]
          have k2 : (pV (pV M 2 nR (lI (32 * n1))) 3 nR (lI (32 * n2))).1 2 0 = nI nR := m5
          rw [k2]
          refine ⟨vp_in_nI n5 (by decide), fun a19 e19 => ?_⟩
          rw [nI_clamp (by omega)] at e19 ⊢
          have k3 : (pV (pV (pV M 2 nR (lI (32 * n1))) 3 nR (lI (32 * n2))) 4 nR (lI (32 * n3))).1 2 0 = nI nR := m5
          rw [k3, nI_1] at e19
          subst e19
          rw [pI_s]
          exact rd n5 (fun o ho => hp o (by omega)) _ ((((hM.pV 2 nR (32 * n1) (by omega)).pV 3 nR (32 * n2) (by omega)).pV 4 nR (32 * n3) (by omega)).pI 2 0 (nI (nR + 1)) (by omega))
        | succ n ih =>
          intro i hi hp
          refine ⟨fun hc => absurd hc (by rw [mT0]; exact nI_ge (by omega) (by omega)), fun _ => ⟨vp_in_nI (by omega) (by decide), ?_⟩⟩
          have k9 : M.1 8 i = E.1 9 i := hM.1 8 i (by omega)
          rw [nI_clamp (by omega), k9]
          refine ⟨fun he => ?_, fun he => rc n5 (fun q => he (q i (by omega)))⟩
          show w_R_restrict_55 (n + 1) M (zq 3 n1) (zq 3 n2) (zq 3 n3) (nI i + 1) R
          rw [nI_1]
          refine ih _ (by omega) (fun o ho => ?_)
          by_cases e : o = i
          · subst e; exact he
          · exact hp o (by omega)
      refine ⟨nT + 1, ?_⟩
      rw [← nI_0]
      exact loop nT 0 (by omega) (fun o ho => by omega)
    · have := nI_ne (b := 5) (by omega) (by omega) e5
      omega
  have bad : ¬ (0 ≤ n1 ∧ n1 < n2 ∧ n2 ≤ 80000 ∧ 8 ≤ n3 ∧ n3 ≤ 480) → w_G_restrict_32 S (zq 3 n1) (zq 3 n2) (zq 3 n3) (fun r u => w_R_restrict M (zq 3 n1) (zq 3 n2) (zq 3 n3) (fun b v => v.1 0 0 = 0 ∧ b = r ∧ J u v)) (fun k u => (k = 1 ∨ k = 2 ∨ k = 3 ∨ k = 4) ∧ w_R_restrict M (zq 3 n1) (zq 3 n2) (zq 3 n3) (fun _ v => v.1 0 0 = nI k ∧ J u v)) := by
    intro q
    refine ⟨fun _ => ⟨Or.inl rfl, ?_⟩, fun hc => absurd rfl hc⟩
    unfold w_R_restrict
    rw [zk_03, zk_10000, zk_1, zk_60, zcv .l (by omega) (by omega) (by omega), zcv .l (by omega) (by omega) (by omega), zcv .g (by omega) (by omega) (by omega)]
    refine ⟨fun a => j1, fun a => ⟨fun b => j1, fun b => ⟨fun c => j1, fun c => m_between (by omega) (by omega) (by decide) (by decide) (fun d e => absurd ⟨?_, ?_, ?_, d, e⟩ q) (fun d => ⟨fun hc => absurd rfl hc, fun _ => j1⟩)⟩⟩⟩
    · have : ¬ n1 < 0 := fun z => a (zi_lt.mpr z)
      omega
    · have : ¬ n2 ≤ n1 := fun z => b (zi_le.mpr z)
      omega
    · have : ¬ 80000 < n2 := fun z => c (zi_gt.mpr z)
      omega
  unfold w_G_restrict
  rw [zk_03, zk_10000, zcv .l (by omega) (by omega) (by omega), zcv .l (by omega) (by omega) (by omega), zcv .g (by omega) (by omega) (by omega)]
  refine ⟨fun a => bad (fun q => ?_), fun a => ⟨fun b => bad (fun q => ?_), fun b => ⟨fun c => bad (fun q => ?_), fun c => s_isSpeed (by omega) (fun d e => ⟨fun hc => absurd hc (by decide), fun _ => ⟨fun hc => absurd hc (by decide), fun _ => ?_⟩⟩) (fun d => ⟨fun _ => bad (fun q => d ⟨q.2.2.2.1, q.2.2.2.2⟩), fun hc => absurd rfl hc⟩)⟩⟩⟩
  · have := zi_lt.mp a
    omega
  · have := zi_le.mp b
    omega
  · have := zi_gt.mp c
    omega
  have a' : ¬ n1 < 0 := fun z => a (zi_lt.mpr z)
  have b' : ¬ n2 ≤ n1 := fun z => b (zi_le.mpr z)
  have c' : ¬ 80000 < n2 := fun z => c (zi_gt.mpr z)
  have ok : 0 ≤ n1 ∧ n1 < n2 ∧ n2 ≤ 80000 ∧ 8 ≤ n3 ∧ n3 ≤ 480 := by omega
  show ((5 : Int32) ≤ S.1 5 0 → _) ∧ _
  rw [s5]
  refine ⟨fun z => ⟨fun _ => ⟨Or.inr (Or.inr (Or.inl rfl)), ref _ (fun q => absurd ok q) (fun _ => j3) (fun q => ?_) (fun q => ?_)⟩, fun hc => absurd rfl hc⟩, fun z => ⟨fun hc => absurd hc (by decide), fun _ => ?_⟩⟩
  · exact absurd z (nI_ge (a := nR) (b := 5) q (by omega))
  · exact absurd z (nI_ge (a := nR) (b := 5) q (by omega))
  have n5 : nR < 5 := by
    rcases Nat.lt_or_ge nR 5 with w | w
    · exact w
    · exact absurd (nI_le (a := 5) w (by omega)) z
  refine s_allStandBy hR hI.2.1.1 hT (fun hs => ⟨fun hc => absurd hc (by decide), fun _ => ?_⟩) (fun hs => ⟨fun _ => ⟨Or.inr (Or.inr (Or.inr rfl)), ref _ (fun q => absurd ok q) (fun q => absurd n5 q) (fun _ _ => j4) (fun _ q => absurd q hs)⟩, fun hc => absurd rfl hc⟩)
  show w_L_addRestriction S (zq 3 n1) (zq 3 n2) (zq 3 n3) _
  unfold w_L_addRestriction
  rw [s5]
  rw [nI_clamp (by omega)]
  have k1 : (pV S 2 nR (zq 3 n1)).1 5 0 = nI nR := s5
  rw [k1, nI_clamp (by omega)]
  have k2 : (pV (pV S 2 nR (zq 3 n1)) 3 nR (zq 3 n2)).1 5 0 = nI nR := s5
  rw [k2, nI_clamp (by omega)]
  have k3 : (pV (pV (pV S 2 nR (zq 3 n1)) 3 nR (zq 3 n2)) 4 nR (zq 3 n3)).1 5 0 = nI nR := s5
  rw [k3]
  refine ⟨vp_in_nI n5 (by decide), vp_in_nI n5 (by decide), vp_in_nI n5 (by decide), fun a1 e1 => ?_⟩
  rw [nI_1] at e1
  subst e1
  have hu : RC (pI (pV (pV (pV S 2 nR (zq 3 n1)) 3 nR (zq 3 n2)) 4 nR (zq 3 n3)) 5 0 (nI (nR + 1))) (rsE E nR (32 * n1) (32 * n2) (32 * n3)) := by
    rw [z38 n1, z38 n2, z38 n3]
    exact (((hR.pV 2 nR (32 * n1)).pV 3 nR (32 * n2)).pV 4 nR (32 * n3)).pI 5 0 (nI (nR + 1))
  rw [pI_s]
  refine ref _ (fun q => absurd ok q) (fun q => absurd n5 q) (fun _ q => absurd hs q) (fun _ _ v hv => ?_)
  have j := jf hu hv (ie_rs hI n5 (by omega)) 0
  exact ⟨j.1, rfl, j.2⟩
def relL : Nat → Nat → EA → EA
  | 0, _, E => E
  | n + 1, i, E => relL n (i + 1) (pV (pV (pV E 2 i (E.2 2 (i + 1))) 3 i (E.2 3 (i + 1))) 4 i (E.2 4 (i + 1)))
def RV (E : EA) (n : Nat) : Prop := ∀ r : Nat, r < n → 0 ≤ E.2 2 r ∧ E.2 2 r < E.2 3 r ∧ E.2 3 r ≤ 2560000 ∧ 256 ≤ E.2 4 r ∧ E.2 4 r ≤ 15360 ∧ E.2 4 r % 32 = 0
theorem relL_fr {m : Nat} : ∀ (n i : Nat) (E : EA), i + n < m → RV E m → ((relL n i E).1 = E.1 ∧ (∀ c j : Nat, ¬ (2 ≤ c ∧ c ≤ 4) → (relL n i E).2 c j = E.2 c j)) ∧ RV (relL n i E) m := by
  intro n
  induction n with
  | zero => intro i E _ h; exact ⟨⟨rfl, fun _ _ _ => rfl⟩, h⟩
  | succ n ih =>
    intro i E hi h
    have := ih (i + 1) (pV (pV (pV E 2 i (E.2 2 (i + 1))) 3 i (E.2 3 (i + 1))) 4 i (E.2 4 (i + 1))) (by omega) (by
      intro r hr
      by_cases e : r = i
      · subst e
        have e2 : (pV (pV (pV E 2 r (E.2 2 (r + 1))) 3 r (E.2 3 (r + 1))) 4 r (E.2 4 (r + 1))).2 2 r = E.2 2 (r + 1) := by simp [pV_r]
        have e3 : (pV (pV (pV E 2 r (E.2 2 (r + 1))) 3 r (E.2 3 (r + 1))) 4 r (E.2 4 (r + 1))).2 3 r = E.2 3 (r + 1) := by simp [pV_r]
        have e4 : (pV (pV (pV E 2 r (E.2 2 (r + 1))) 3 r (E.2 3 (r + 1))) 4 r (E.2 4 (r + 1))).2 4 r = E.2 4 (r + 1) := by simp [pV_r]
        rw [e2, e3, e4]
        exact h (r + 1) (by omega)
      · have e2 : (pV (pV (pV E 2 i (E.2 2 (i + 1))) 3 i (E.2 3 (i + 1))) 4 i (E.2 4 (i + 1))).2 2 r = E.2 2 r := by simp [pV_r, e]
        have e3 : (pV (pV (pV E 2 i (E.2 2 (i + 1))) 3 i (E.2 3 (i + 1))) 4 i (E.2 4 (i + 1))).2 3 r = E.2 3 r := by simp [pV_r, e]
        have e4 : (pV (pV (pV E 2 i (E.2 2 (i + 1))) 3 i (E.2 3 (i + 1))) 4 i (E.2 4 (i + 1))).2 4 r = E.2 4 r := by simp [pV_r, e]
        rw [e2, e3, e4]
        exact h r hr)
    refine ⟨⟨this.1.1, fun c j hc => (this.1.2 c j hc).trans ?_⟩, this.2⟩
    rw [pV_o (Or.inl (by omega)), pV_o (Or.inl (by omega)), pV_o (Or.inl (by omega))]
theorem s_relL {m : Nat} {Q : Int32 → SC → Prop} (hm : m < 5) : ∀ (n i : Nat) (S : SC) (E : EA), RC S E → E.1 5 0 = nI m → i + n = m → (∀ u : SC, RC u (relL n i E) → Q (nI m) u) → w_L_removeRestriction_12 (n + 1) S (nI i) Q := by
  intro n
  induction n with
  | zero =>
    intro i S E hR h5 hi hQ
    have e5 : S.1 5 0 = nI m := (hR.1 5 0 (by omega)).trans h5
    refine ⟨fun _ => ?_, fun hc => absurd (by rw [e5]; exact nI_le (by omega) (by omega)) hc⟩
    rw [e5]
    exact hQ S hR
  | succ n ih =>
    intro i S E hR h5 hi hQ
    have e5 : S.1 5 0 = nI m := (hR.1 5 0 (by omega)).trans h5
    have v1 : vp_in (nI (i + 1)) 5 := vp_in_nI (by omega) (by decide)
    have v0 : vp_in (nI i) 5 := vp_in_nI (by omega) (by decide)
    refine ⟨fun hc => absurd hc (by rw [e5]; exact nI_ge (by omega) (by omega)), fun _ a2 e2 => ?_⟩
    rw [nI_1] at e2
    subst e2
    refine ⟨v1, v0, fun a3 e3 => ?_⟩
    rw [nI_1] at e3
    subst e3
    refine ⟨v1, v0, fun a4 e4 => ?_⟩
    rw [nI_1] at e4
    subst e4
    refine ⟨v1, v0, ?_⟩
    rw [nI_clamp (by omega), nI_clamp (by omega), nI_1]
    have d2 : S.2 2 (i + 1) = zq 8 (E.2 2 (i + 1)) := hR.2 2 _ (by omega)
    have d3 : (pV S 2 i (S.2 2 (i + 1))).2 3 (i + 1) = zq 8 (E.2 3 (i + 1)) := hR.2 3 _ (by omega)
    have d4 : (pV (pV S 2 i (S.2 2 (i + 1))) 3 i (zq 8 (E.2 3 (i + 1)))).2 4 (i + 1) = zq 8 (E.2 4 (i + 1)) := hR.2 4 _ (by omega)
    rw [d3, d4, d2]
    exact ih _ _ _ (((hR.pV 2 i _).pV 3 i _).pV 4 i _) h5 (by omega) hQ
theorem m_relL {m : Nat} {Q : Int32 → SR → Prop} (hm : m < 5) : ∀ (n i : Nat) (M : SR) (E : EA), RM M E → E.1 5 0 = nI m → i + n = m → (∀ v : SR, RM v (relL n i E) → Q (nI m) (pI v 0 0 0)) → w_R_release_32 (n + 1) M (nI i) Q := by
  intro n
  induction n with
  | zero =>
    intro i M E hM h5 hi hQ
    have e5 : M.1 2 0 = nI m := (hM.1 2 0 (by omega)).trans h5
    refine ⟨fun _ => ?_, fun hc => absurd (by rw [e5]; exact nI_le (by omega) (by omega)) hc⟩
    rw [e5]
    exact hQ M hM
  | succ n ih =>
    intro i M E hM h5 hi hQ
    have e5 : M.1 2 0 = nI m := (hM.1 2 0 (by omega)).trans h5
    have v1 : vp_in (nI (i + 1)) 5 := vp_in_nI (by omega) (by decide)
    have v0 : vp_in (nI i) 5 := vp_in_nI (by omega) (by decide)
    refine ⟨fun hc => absurd hc (by rw [e5]; exact nI_ge (by omega) (by omega)), fun _ a2 e2 => ?_⟩
    rw [nI_1] at e2
    subst e2
    refine ⟨v1, v0, fun a3 e3 => ?_⟩
    rw [nI_1] at e3
    subst e3
    refine ⟨v1, v0, fun a4 e4 => ?_⟩
    rw [nI_1] at e4
    subst e4
    refine ⟨v1, v0, ?_⟩
    rw [nI_clamp (by omega), nI_clamp (by omega), nI_1]
    have d2 : M.2 2 (i + 1) = lI (E.2 2 (i + 1)) := hM.2 2 _ (by omega)
    have d3 : (pV M 2 i (M.2 2 (i + 1))).2 3 (i + 1) = lI (E.2 3 (i + 1)) := hM.2 3 _ (by omega)
    have d4 : (pV (pV M 2 i (M.2 2 (i + 1))) 3 i (lI (E.2 3 (i + 1)))).2 4 (i + 1) = lI (E.2 4 (i + 1)) := hM.2 4 _ (by omega)
    rw [d3, d4, d2]
    exact ih _ _ _ (((hM.pV 2 i _ (by omega)).pV 3 i _ (by omega)).pV 4 i _ (by omega)) h5 (by omega) hQ
theorem j_release {S : SC} {M : SR} {x : Int32} (h : J S M) : w_G_release S x (fun r u => w_R_release M x (fun b v => v.1 0 0 = 0 ∧ b = r ∧ J u v)) (fun k u => (k = 1 ∨ k = 2 ∨ k = 3 ∨ k = 4) ∧ w_R_release M x (fun _ v => v.1 0 0 = nI k ∧ J u v)) := by
  obtain ⟨E, nS, nR, nT, hR, hM, hI⟩ := h
  have hl := hI.1
  have hn5 := hl.2.2.2.1
  have j1 := jf hR hM hI 1
  have m5 : M.1 2 0 = nI nR := (hM.1 2 0 (by omega)).trans hl.2.2.1
  have s5 : S.1 5 0 = nI nR := (hR.1 5 0 (by omega)).trans hl.2.2.1
  have refb : ∀ R : Int32 → SR → Prop, ¬ (∃ t : Nat, t < nR ∧ x = nI t) → R 0 (pI M 0 0 1) → w_R_release M x R := by
    intro R hn hr a1 e1
    rw [m5] at e1
    subst e1
    exact m_inN (by omega) (fun t ht ex => absurd ⟨t, ht, ex⟩ hn) (fun _ => ⟨fun hc => absurd rfl hc, fun _ => hr⟩)
  have bad : ¬ (∃ t : Nat, t < nR ∧ x = nI t) → w_G_release_19 S x (fun r u => w_R_release M x (fun b v => v.1 0 0 = 0 ∧ b = r ∧ J u v)) (fun k u => (k = 1 ∨ k = 2 ∨ k = 3 ∨ k = 4) ∧ w_R_release M x (fun _ v => v.1 0 0 = nI k ∧ J u v)) :=
    fun hn => ⟨fun _ => ⟨Or.inl rfl, refb _ hn j1⟩, fun hc => absurd rfl hc⟩
  unfold w_G_release
  rw [s5]
  refine ⟨fun a => bad ?_, fun a => ⟨fun b => bad ?_, fun b => ⟨fun hc => absurd hc (by decide), fun _ => ?_⟩⟩⟩
  · rintro ⟨t, ht, rfl⟩
    exact nI_pos (by omega) a
  · rintro ⟨t, ht, rfl⟩
    exact nI_ge ht (by omega) b
  obtain ⟨k, hk, rfl⟩ := nI_of a
  have hlt : k < nR := by
    rcases Nat.lt_or_ge k nR with w | w
    · exact w
    · exact absurd (nI_le w (by omega)) b
  obtain ⟨m, rfl⟩ : ∃ m : Nat, nR = m + 1 := ⟨nR - 1, by omega⟩
  show w_L_removeRestriction S (nI k) _
  intro a1 e1
  rw [s5, nI_pred] at e1
  subst e1
  have r1 := hR.pI 5 0 (nI m)
  have q1 := hM.pI 2 0 (nI m) (by omega)
  have v1 : RV (pI E 5 0 (nI m)) (m + 1) := fun r hr => hl.2.2.2.2.2.2 r hr
  have hfr := relL_fr (m := m + 1) (m - k) k (pI E 5 0 (nI m)) (by omega) v1
  refine ⟨m - k + 1, s_relL (by omega) (m - k) k _ _ r1 pI_s (by omega) (fun u hu => ?_)⟩
  intro a1 e1
  rw [m5] at e1
  subst e1
  refine m_inN (by omega) (fun t ht ex => ⟨fun _ a4 e4 => ⟨m - k + 1, ?_⟩, fun hc => absurd hc (by decide)⟩) (fun hn => absurd ⟨k, hlt, rfl⟩ hn)
  rw [m5, nI_pred] at e4
  subst e4
  refine m_relL (by omega) (m - k) k _ _ q1 pI_s (by omega) (fun v hv => ?_)
  have I2 : IE (relL (m - k) k (pI E 5 0 (nI m))) nS m nT := by
    refine ie_r hI ⟨fun c j hc => ?_, fun c j hc => hfr.1.2 c j hc⟩ ?_ (by omega) (fun r hr => hfr.2 r (by omega))
    · rw [hfr.1.1]
      exact pI_o (Or.inl hc)
    · rw [hfr.1.1]
      exact pI_s
  have j := jf hu hv I2 0
  exact ⟨j.1, rfl, j.2⟩
