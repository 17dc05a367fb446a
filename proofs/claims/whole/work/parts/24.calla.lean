theorem it_mode {E : EA} {t : Nat} (h : IT E t) (v : Int32) (hv : v = 0 ∨ v = 1 ∨ v = 3 ∨ v = 4 ∨ (v = 2 ∧ E.1 7 t = 1)) : IT (pI E 9 t v) t := by
  refine ⟨h.1, ⟨?_, fun e => ?_⟩, h.2.2.1, h.2.2.2⟩
  · rw [pI_s]
    rcases hv with e | e | e | e | e
    · exact Or.inl e
    · exact Or.inr (Or.inl e)
    · exact Or.inr (Or.inr (Or.inr (Or.inl e)))
    · exact Or.inr (Or.inr (Or.inr (Or.inr e)))
    · exact Or.inr (Or.inr (Or.inl e.1))
  · rw [pI_s] at e
    subst e
    rcases hv with e | e | e | e | e
    · exact absurd e (by decide)
    · exact absurd e (by decide)
    · exact absurd e (by decide)
    · exact absurd e (by decide)
    · exact e.2
theorem ho_i {E : EA} {nS c j : Nat} {v : Int32} (h : HO E nS) (hc : c ≠ 6) : HO (pI E c j v) nS := by
  intro s hs
  rw [pI_o (Or.inl (fun e => hc e.symm))]
  exact h s hs
theorem jm {S : SC} {M : SR} {E : EA} {nS nR nT t : Nat} (hR : RC S E) (hM : RM M E) (hI : IE E nS nR nT) (ht : t < nT) (v : Int32) (hv : v = 0 ∨ v = 1 ∨ v = 3 ∨ v = 4 ∨ (v = 2 ∧ E.1 7 t = 1)) : (pI (pI M 8 t v) 0 0 0).1 0 0 = 0 ∧ J (pI S 9 t v) (pI (pI M 8 t v) 0 0 0) :=
  jf (hR.pI 9 t v) (hM.pI 8 t v (by omega)) (ie_fr hI ht (Fr.rf.i 9 t v (by omega)) (ho_i hI.2.2.1 (by decide)) (it_mode (hI.2.2.2.1 t ht) v hv)) 0
theorem s_stands {S : SC} {E : EA} {t : Nat} {Q : Int32 → SC → Prop} (hR : RC S E) (hi : IG E t) (h1 : E.2 7 t = 0 → Q 1 S) (h0 : ¬ E.2 7 t = 0 → Q 0 S) : w_T_stands S t Q := by
  unfold IG at hi
  unfold w_T_stands
  rw [hR.2 7 t (by omega), zk0, zcv .l (by omega) (by omega) (by omega)]
  exact ⟨fun a => h0 (fun q => a (zi_eq.mpr q)), fun a => h1 (zi_eq.mp a)⟩
theorem j_wet {S : SC} {M : SR} {x y : Int32} (h : J S M) (hy : y = 0 ∨ y = 1) : w_G_wet S x y (fun r u => w_R_wet M x y (fun b v => v.1 0 0 = 0 ∧ b = r ∧ J u v)) (fun k u => (k = 1 ∨ k = 2 ∨ k = 3 ∨ k = 4) ∧ w_R_wet M x y (fun _ v => v.1 0 0 = nI k ∧ J u v)) := by
  obtain ⟨E, nS, nR, nT, hR, hM, hI⟩ := h
  have h3 := hT3 hI
  refine s_tn (eT hR hI) h3 (fun t ht ex => ⟨?_, ?_⟩) (fun hn => ⟨Or.inl rfl, ?_⟩)
  · rcases hy with e | e <;> subst e <;> exact ⟨rfl, rfl⟩
  · subst ex
    refine m_noTrain (mT hM hI) h3 (ex_t ht h3 ⟨fun _ => ⟨vp_in_nI (by omega) (by decide), ?_⟩, fun hc => absurd rfl hc⟩) (fun hn => absurd ⟨t, ht, rfl⟩ hn)
    rw [nI_clamp (by omega)]
    have e : vp_nar .boolean y = y := by rcases hy with e | e <;> subst e <;> rfl
    rw [e]
    have hi := hI.2.2.2.1 t ht
    have j := jf (hR.pI 8 t y) (hM.pI 9 t y (by omega)) (ie_fr hI ht (Fr.rf.i 8 t y (by omega)) (ho_i hI.2.2.1 (by decide)) ⟨hi.1, hi.2.1, hi.2.2.1, hi.2.2.2⟩) 0
    exact ⟨j.1, rfl, j.2⟩
  · exact m_noTrain (mT hM hI) h3 (fun t ht ex => absurd ⟨t, ht, ex⟩ hn) (fun _ => ⟨fun hc => absurd hc (by decide), fun _ => jf hR hM hI 1⟩)
theorem j_acknowledge {S : SC} {M : SR} {x : Int32} (h : J S M) : w_G_acknowledge S x (fun r u => w_R_acknowledge M x (fun b v => v.1 0 0 = 0 ∧ b = r ∧ J u v)) (fun k u => (k = 1 ∨ k = 2 ∨ k = 3 ∨ k = 4) ∧ w_R_acknowledge M x (fun _ v => v.1 0 0 = nI k ∧ J u v)) := by
  obtain ⟨E, nS, nR, nT, hR, hM, hI⟩ := h
  have h3 := hT3 hI
  refine s_tn (eT hR hI) h3 (fun t ht ex => ?_) (fun hn => ⟨Or.inl rfl, ?_⟩)
  · subst ex
    have hi := hI.2.2.2.1 t ht
    have hg := hi.1
    unfold IG at hg
    have c7 : M.2 7 t = lI (E.2 7 t) := hM.2 7 t (by omega)
    have e8 : M.1 8 t = E.1 9 t := hM.1 8 t (by omega)
    have e9 : S.1 9 t = E.1 9 t := hR.1 9 t (by omega)
    have hin : vp_in (nI t) 3 := vp_in_nI (by omega) (by decide)
    -- the reference's part, by the mode
    have ref4 : ∀ Q : Int32 → SR → Prop, E.1 9 t = 4 → Q 1 (pI (pI M 8 t 1) 0 0 0) → w_R_acknowledge M (nI t) Q := by
      intro Q em hQ
      refine m_noTrain (mT hM hI) h3 (ex_t ht h3 ⟨fun _ => ⟨hin, ?_⟩, fun hc => absurd rfl hc⟩) (fun hn => absurd ⟨t, ht, rfl⟩ hn)
      rw [nI_clamp (by omega), e8]
      refine ⟨fun _ => ⟨fun _ => ⟨hin, ?_⟩, fun hc => absurd hc (by decide)⟩, fun hc => absurd em hc⟩
      rw [nI_clamp (by omega), e8]
      refine ⟨fun hc => absurd em hc, fun _ => ⟨hin, hin, ?_⟩⟩
      rw [nI_clamp (by omega)]
      show Q ((pI M 8 t 1).1 8 t) _
      rw [pI_s]
      exact hQ
    have ref3 : ∀ Q : Int32 → SR → Prop, E.1 9 t = 3 → E.2 7 t = 0 → Q 4 (pI (pI M 8 t 4) 0 0 0) → w_R_acknowledge M (nI t) Q := by
      intro Q em e7 hQ
      refine m_noTrain (mT hM hI) h3 (ex_t ht h3 ⟨fun _ => ⟨hin, ?_⟩, fun hc => absurd rfl hc⟩) (fun hn => absurd ⟨t, ht, rfl⟩ hn)
      rw [nI_clamp (by omega), e8, c7, show (0 : Int64) = lI 0 from rfl, lcv (by omega) (by omega)]
      refine ⟨fun hc => absurd (em.symm.trans hc) (by decide), fun _ => ⟨hin, fun hc => absurd em hc, fun _ => ⟨hin, fun hc => absurd (zi_eq.mpr e7) hc, fun _ => ⟨fun _ => ⟨hin, ?_⟩, fun hc => absurd hc (by decide)⟩⟩⟩⟩
      rw [nI_clamp (by omega), e8]
      refine ⟨fun _ => ⟨hin, hin, ?_⟩, fun hc => absurd (em.symm.trans hc) (by decide)⟩
      rw [nI_clamp (by omega)]
      show Q ((pI M 8 t 4).1 8 t) _
      rw [pI_s]
      exact hQ
    have refn : ∀ Q : Int32 → SR → Prop, ¬ E.1 9 t = 4 → ¬ (E.1 9 t = 3 ∧ E.2 7 t = 0) → Q 0 (pI M 0 0 3) → w_R_acknowledge M (nI t) Q := by
      intro Q em e7 hQ
      refine m_noTrain (mT hM hI) h3 (ex_t ht h3 ⟨fun _ => ⟨hin, ?_⟩, fun hc => absurd rfl hc⟩) (fun hn => absurd ⟨t, ht, rfl⟩ hn)
      rw [nI_clamp (by omega), e8, c7, show (0 : Int64) = lI 0 from rfl, lcv (by omega) (by omega)]
      exact ⟨fun hc => absurd hc em, fun _ => ⟨hin, fun _ => ⟨fun hc => absurd rfl hc, fun _ => hQ⟩, fun e3 => ⟨hin, fun _ => ⟨fun hc => absurd rfl hc, fun _ => hQ⟩, fun hc => absurd ⟨e3, zi_eq.mp hc⟩ e7⟩⟩⟩
    rw [e9]
    have bad : ¬ E.1 9 t = 4 → ¬ (E.1 9 t = 3 ∧ E.2 7 t = 0) → w_G_acknowledge_33 S t (fun r u => w_R_acknowledge M (nI t) (fun b v => v.1 0 0 = 0 ∧ b = r ∧ J u v)) (fun k u => (k = 1 ∨ k = 2 ∨ k = 3 ∨ k = 4) ∧ w_R_acknowledge M (nI t) (fun _ v => v.1 0 0 = nI k ∧ J u v)) :=
      fun a b => ⟨fun _ => ⟨Or.inr (Or.inr (Or.inl rfl)), refn _ a b (jf hR hM hI 3)⟩, fun hc => absurd rfl hc⟩
    refine ⟨fun em => ⟨fun hc => absurd hc (by decide), fun _ => ⟨fun _ => ?_, fun hc => ?_⟩⟩, fun em => ⟨fun e3 => bad em (fun q => e3 q.1), fun e3 => s_stands hR hi.1 (fun e7 => ⟨fun hc => absurd hc (by decide), fun _ => ⟨fun hc => absurd hc (by decide), fun _ => ⟨fun hc => ?_, fun _ => ?_⟩⟩⟩) (fun e7 => ⟨fun _ => bad em (fun q => e7 q.2), fun hc => absurd rfl hc⟩)⟩⟩
    · show w_R_acknowledge M (nI t) _
      have j := jm hR hM hI ht 1 (Or.inr (Or.inl rfl))
      exact ref4 _ em ⟨j.1, pI_s.symm, j.2⟩
    · exact absurd (em.symm.trans (e9.symm.trans hc)) (by decide)
    · exact absurd (e9.trans e3) hc
    · have j := jm hR hM hI ht 4 (Or.inr (Or.inr (Or.inr (Or.inl rfl))))
      exact ref3 _ e3 e7 ⟨j.1, pI_s.symm, j.2⟩
  · exact m_noTrain (mT hM hI) h3 (fun t ht ex => absurd ⟨t, ht, ex⟩ hn) (fun _ => ⟨fun hc => absurd hc (by decide), fun _ => jf hR hM hI 1⟩)
