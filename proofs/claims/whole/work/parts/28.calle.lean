-- end, ask: the holders
def FrH (E E' : EA) : Prop := (∀ c j : Nat, c ≠ 6 → E'.1 c j = E.1 c j) ∧ E'.2 = E.2
theorem FrH.rf {E : EA} : FrH E E := ⟨fun _ _ _ => rfl, rfl⟩
theorem FrH.i {E E' : EA} (h : FrH E E') (j : Nat) (v : Int32) : FrH E (pI E' 6 j v) := ⟨fun c' j' hc => by rw [pI_o (Or.inl hc)]; exact h.1 c' j' hc, h.2⟩
theorem FrH.tr {E E' E2 : EA} (h : FrH E E') (h2 : FrH E' E2) : FrH E E2 := ⟨fun c j hc => (h2.1 c j hc).trans (h.1 c j hc), h2.2.trans h.2⟩
theorem FrH.fr {E E' : EA} (h : FrH E E') (t : Nat) : Fr E E' t := ⟨fun c j hc => h.1 c j (by omega), fun c j _ => by rw [h.2], fun c j _ h1 _ => h.1 c j (by omega), fun c j _ _ => by rw [h.2]⟩
theorem ie_h {E E' : EA} {nS nR nT : Nat} (h : IE E nS nR nT) (hf : FrH E E') (hh : HO E' nS) : IE E' nS nR nT := by
  refine ⟨(hf.fr 0).il h.1, ?_, hh, fun t' ht' => ?_, fun t' ht' h3 => ?_⟩
  · rw [hf.1 0 0 (by omega)]; exact h.2.1
  · exact it_ag (fun c a b => hf.1 c t' (by omega)) (fun c a => by rw [hf.2]) (h.2.2.2.1 t' ht')
  · exact iu_ag (fun c a b => hf.1 c t' (by omega)) (fun c a => by rw [hf.2]) (h.2.2.2.2 t' ht' h3)
theorem ho_6 {E : EA} {nS i : Nat} {v : Int32} (h : HO E nS) (hv : v = -1 ∨ 0 ≤ v) : HO (pI E 6 i v) nS := by
  intro s hs
  rw [pI_r]
  split
  · exact hv
  · exact h s hs
theorem nI_ge0 {t : Nat} (h : t < 1000) : (0 : Int32) ≤ nI t := nI_pos' (by omega)
def endL (t : Nat) : Nat → Nat → EA → EA
  | 0, _, E => E
  | n + 1, i, E => endL t n (i + 1) (if E.1 6 i = -1 ∨ E.1 6 i = nI t then pI E 6 i (if E.2 0 i < E.2 8 t ∧ E.2 8 t - E.2 5 t < E.2 0 (i + 1) then nI t else -1) else E)
theorem endL_fr {t : Nat} {nS : Nat} (ht : t < 3) : ∀ (n i : Nat) (E : EA), HO E nS → FrH E (endL t n i E) ∧ HO (endL t n i E) nS := by
  intro n
  induction n with
  | zero => intro i E h; exact ⟨FrH.rf, h⟩
  | succ n ih =>
    intro i E h
    unfold endL
    by_cases c : E.1 6 i = -1 ∨ E.1 6 i = nI t
    · rw [if_pos c]
      have hv : (if E.2 0 i < E.2 8 t ∧ E.2 8 t - E.2 5 t < E.2 0 (i + 1) then nI t else -1) = -1 ∨ (0 : Int32) ≤ (if E.2 0 i < E.2 8 t ∧ E.2 8 t - E.2 5 t < E.2 0 (i + 1) then nI t else -1) := by
        split
        · exact Or.inr (nI_ge0 (by omega))
        · exact Or.inl rfl
      have := ih (i + 1) _ (ho_6 (i := i) h hv)
      exact ⟨(FrH.rf.i i _).tr this.1, this.2⟩
    · rw [if_neg c]
      exact ih (i + 1) E h
theorem s_endL {nS nR t : Nat} {Q : SC → Prop} (ht : t < 3) : ∀ (n i : Nat) (S : SC) (E : EA), RC S E → IL E nS nR → bnd E t → i + n = nS → (∀ u : SC, RC u (endL t n i E) → Q u) → w_G_holdOwnPlacesOnly_2 (n + 1) S (nI t) (nI i) Q := by
  intro n
  induction n with
  | zero =>
    intro i S E hR hl hb hi hQ
    have hn := hl.2.1
    have e4 : S.1 4 0 = nI nS := (hR.1 4 0 (by omega)).trans hl.1
    refine ⟨fun _ => hQ S hR, fun hc => absurd ?_ hc⟩
    rw [e4]
    exact nI_le (by omega) (by omega)
  | succ n ih =>
    intro i S E hR hl hb hi hQ
    have hn := hl.2.1
    have e4 : S.1 4 0 = nI nS := (hR.1 4 0 (by omega)).trans hl.1
    unfold endL at hQ
    have hvi : vp_in (nI i) 10 := vp_in_nI (by omega) (by decide)
    have put : (E.1 6 i = -1 ∨ E.1 6 i = nI t) → w_G_holdOwnPlacesOnly_39 (fun S9 z0 z1 => w_G_holdOwnPlacesOnly_2 (n + 1) S9 z0 z1 Q) S (nI t) (nI i) Q := by
      intro c
      rw [if_pos c] at hQ
      refine ⟨vp_in_nI ht (by decide), by rw [nI_clamp (by omega)]; exact ht, ?_⟩
      rw [nI_clamp (by omega)]
      refine s_isIn hR hl hb (by omega) (fun hin => ⟨fun hc => absurd hc (by decide), fun _ => ⟨hvi, ?_⟩⟩) (fun hin => ⟨fun _ => ⟨hvi, ?_⟩, fun hc => absurd rfl hc⟩)
      · show w_G_holdOwnPlacesOnly_2 (n + 1) (pI S 6 (nI i).toNatClampNeg (nI t)) (nI t) (nI i + 1) Q
        rw [nI_clamp (by omega), nI_1]
        unfold inn at hin
        rw [if_pos hin] at hQ
        exact ih _ _ _ (hR.pI 6 i (nI t)) (((FrH.rf (E := E)).i i (nI t)).fr 0 |>.il hl) hb (by omega) hQ
      · show w_G_holdOwnPlacesOnly_2 (n + 1) (pI S 6 (nI i).toNatClampNeg (-1)) (nI t) (nI i + 1) Q
        rw [nI_clamp (by omega), nI_1]
        unfold inn at hin
        rw [if_neg hin] at hQ
        exact ih _ _ _ (hR.pI 6 i (-1)) (((FrH.rf (E := E)).i i (-1)).fr 0 |>.il hl) hb (by omega) hQ
    refine ⟨fun hc => absurd hc ?_, fun _ => ⟨hvi, ?_⟩⟩
    · rw [e4]
      exact nI_ge (by omega) (by omega)
    rw [nI_clamp (by omega), hR.1 6 i (by omega)]
    refine ⟨fun a => put (Or.inr a), fun a => ⟨hvi, fun b => ?_, fun b => put (Or.inl b)⟩⟩
    show w_G_holdOwnPlacesOnly_2 (n + 1) S (nI t) (nI i + 1) Q
    rw [nI_1]
    rw [if_neg (fun q => q.elim b a)] at hQ
    exact ih _ _ _ hR hl hb (by omega) hQ
theorem m_endL {nS nR t : Nat} {Q : Int32 → SR → Prop} (ht : t < 3) : ∀ (n i : Nat) (M : SR) (E : EA), RM M E → IL E nS nR → HO E nS → bnd E t → i + n = nS → (∀ v : SR, RM v (endL t n i E) → Q 0 (pI v 0 0 0)) → w_R_end_59 (n + 1) M (nI t) (nI i) Q := by
  intro n
  induction n with
  | zero =>
    intro i M E hM hl hh hb hi hQ
    have hn := hl.2.1
    have e4 : M.1 1 0 = nI nS := (hM.1 1 0 (by omega)).trans hl.1
    refine ⟨fun _ => hQ M hM, fun hc => absurd ?_ hc⟩
    rw [e4]
    exact nI_le (by omega) (by omega)
  | succ n ih =>
    intro i M E hM hl hh hb hi hQ
    have hn := hl.2.1
    have e4 : M.1 1 0 = nI nS := (hM.1 1 0 (by omega)).trans hl.1
    have e6 : M.1 7 i = E.1 6 i := hM.1 7 i (by omega)
    unfold endL at hQ
    have hvi : vp_in (nI i) 10 := vp_in_nI (by omega) (by decide)
    have put : (E.1 6 i = -1 ∨ E.1 6 i = nI t) → w_R_end_89 (fun S9 z0 z1 => w_R_end_59 (n + 1) S9 z0 z1 Q) M (nI t) (nI i) Q := by
      intro c
      rw [if_pos c] at hQ
      refine m_isIn hM hl hb ht (by omega) (fun hin => ⟨fun hc => absurd hc (by decide), fun _ => ⟨hvi, ?_⟩⟩) (fun hin => ⟨fun _ => ⟨hvi, ?_⟩, fun hc => absurd rfl hc⟩)
      · show w_R_end_59 (n + 1) (pI M 7 (nI i).toNatClampNeg (nI t)) (nI t) (nI i + 1) Q
        rw [nI_clamp (by omega), nI_1]
        unfold inn at hin
        rw [if_pos hin] at hQ
        exact ih _ _ _ (hM.pI 7 i (nI t) (by omega)) (((FrH.rf (E := E)).i i (nI t)).fr 0 |>.il hl) (ho_6 hh (Or.inr (nI_ge0 (by omega)))) hb (by omega) hQ
      · show w_R_end_59 (n + 1) (pI M 7 (nI i).toNatClampNeg (-1)) (nI t) (nI i + 1) Q
        rw [nI_clamp (by omega), nI_1]
        unfold inn at hin
        rw [if_neg hin] at hQ
        exact ih _ _ _ (hM.pI 7 i (-1) (by omega)) (((FrH.rf (E := E)).i i (-1)).fr 0 |>.il hl) (ho_6 hh (Or.inl rfl)) hb (by omega) hQ
    refine ⟨fun hc => absurd hc ?_, fun _ => ⟨hvi, ?_⟩⟩
    · rw [e4]
      exact nI_ge (by omega) (by omega)
    rw [nI_clamp (by omega), e6]
    have hhi := hh i (by omega)
    refine ⟨fun a => put (hhi.elim Or.inl (fun z => absurd a (Int32.not_lt.mpr z))), fun a => ⟨hvi, fun b => put (Or.inr b), fun b => ?_⟩⟩
    show w_R_end_59 (n + 1) M (nI t) (nI i + 1) Q
    rw [nI_1]
    rw [if_neg (fun q => q.elim (fun z => a (by rw [z]; decide)) b)] at hQ
    exact ih _ _ _ hM hl hh hb (by omega) hQ
theorem j_end {S : SC} {M : SR} {x : Int32} (h : J S M) : w_G_end S x (fun r u => w_R_end M x (fun b v => v.1 0 0 = 0 ∧ b = r ∧ J u v)) (fun k u => (k = 1 ∨ k = 2 ∨ k = 3 ∨ k = 4) ∧ w_R_end M x (fun _ v => v.1 0 0 = nI k ∧ J u v)) := by
  obtain ⟨E, nS, nR, nT, hR, hM, hI⟩ := h
  have h3 := hT3 hI
  have j1 := jf hR hM hI 1
  have j3 := jf hR hM hI 3
  refine s_tn (eT hR hI) h3 (fun t ht ex => ?_) (fun hn => ⟨Or.inl rfl, ?_⟩)
  · subst ex
    have hi := hI.2.2.2.1 t ht
    have hg := hi.1
    unfold IG at hg
    have c7 : M.2 7 t = lI (E.2 7 t) := hM.2 7 t (by omega)
    have e8 : M.1 8 t = E.1 9 t := hM.1 8 t (by omega)
    have s9 : S.1 9 t = E.1 9 t := hR.1 9 t (by omega)
    have hin : vp_in (nI t) 3 := vp_in_nI (by omega) (by decide)
    have ref : ∀ R : Int32 → SR → Prop, ((E.1 9 t = 3 ∨ ¬ E.2 7 t = 0) → R 0 (pI M 0 0 3)) → (¬ E.1 9 t = 3 → E.2 7 t = 0 → ∃ n : Nat, w_R_end_59 n (pV (pI M 8 t 0) 11 t (lI (-1))) (nI t) 0 R) → w_R_end M (nI t) R := by
      intro R ra rb
      refine m_noTrain (mT hM hI) h3 (ex_t ht h3 ⟨fun _ => ⟨hin, ?_⟩, fun hc => absurd rfl hc⟩) (fun hn => absurd ⟨t, ht, rfl⟩ hn)
      rw [nI_clamp (by omega), e8, c7, show (0 : Int64) = lI 0 from rfl, lcv (by omega) (by omega)]
      exact ⟨fun e => ra (Or.inl e), fun n3 => ⟨hin, fun e7 => ⟨hin, hin, rb n3 (zi_eq.mp e7)⟩, fun n7 => ra (Or.inr (fun q => n7 (zi_eq.mpr q)))⟩⟩
    rw [s9]
    have bad : (E.1 9 t = 3 ∨ ¬ E.2 7 t = 0) → w_G_end_25 S (nI t) t (fun r u => w_R_end M (nI t) (fun b v => v.1 0 0 = 0 ∧ b = r ∧ J u v)) (fun k u => (k = 1 ∨ k = 2 ∨ k = 3 ∨ k = 4) ∧ w_R_end M (nI t) (fun _ v => v.1 0 0 = nI k ∧ J u v)) :=
      fun hb => ⟨fun _ => ⟨Or.inr (Or.inr (Or.inl rfl)), ref _ (fun _ => j3) (fun a b => absurd hb (fun q => q.elim a (fun z => z b)))⟩, fun hc => absurd rfl hc⟩
    refine ⟨fun e => bad (Or.inl e), fun n3 => s_stands hR hi.1 (fun e7 => ⟨fun hc => absurd hc (by decide), fun _ => ⟨fun hc => absurd hc (by decide), fun _ => ?_⟩⟩) (fun n7 => ⟨fun _ => bad (Or.inr n7), fun hc => absurd rfl hc⟩)⟩
    have I3 := ie_st (v := 0) hI ht (Or.inl rfl)
    have st : stE E t 0 = pV (pI (pI E 9 t 0) 7 t 0) 13 t (-1) := by
      unfold stE
      show pV (pI (pI E 7 t 0) 9 t 0) 13 t (-1) = _
      rw [pI_comm E (by decide : (7 : Nat) ≠ 9)]
    have r3 : RC (pI (pI S 9 t 0) 7 t 0) (stE E t 0) := by
      rw [st]
      exact rc_xV ((hR.pI 9 t 0).pI 7 t 0) 13 t (-1) (by omega)
    have q3 : RM (pV (pI M 8 t 0) 11 t (lI (-1))) (stE E t 0) := by
      rw [st]
      exact RM.pV (rm_xI (hM.pI 8 t 0 (by omega)) 7 t 0 (by decide)) 11 t (-1) (by omega)
    have hb3 : bnd (stE E t 0) t := ig_bnd (I3.2.2.2.1 t ht)
    refine ⟨nS + 1, ?_⟩
    rw [← nI_0]
    refine s_endL (by omega) nS 0 _ _ r3 I3.1 hb3 (by omega) (fun u hu => ?_)
    refine ref _ (fun q => absurd q (fun z => z.elim n3 (fun w => w e7))) (fun _ _ => ⟨nS + 1, ?_⟩)
    rw [← nI_0]
    refine m_endL (by omega) nS 0 _ _ q3 I3.1 I3.2.2.1 hb3 (by omega) (fun v hv => ?_)
    have hfr := endL_fr (t := t) (nS := nS) (by omega) nS 0 (stE E t 0) I3.2.2.1
    have j := jf hu hv (ie_h I3 hfr.1 hfr.2) 0
    exact ⟨j.1, rfl, j.2⟩
  · exact m_noTrain (mT hM hI) h3 (fun t ht ex => absurd ⟨t, ht, ex⟩ hn) (fun _ => ⟨fun hc => absurd hc (by decide), fun _ => j1⟩)
def askL (t : Nat) : Nat → Nat → EA → EA
  | 0, _, E => E
  | n + 1, i, E => askL t n (i + 1) (pI E 6 i (nI t))
theorem askL_fr {t nS : Nat} (ht : t < 3) : ∀ (n i : Nat) (E : EA), HO E nS → FrH E (askL t n i E) ∧ HO (askL t n i E) nS := by
  intro n
  induction n with
  | zero => intro i E h; exact ⟨FrH.rf, h⟩
  | succ n ih =>
    intro i E h
    have := ih (i + 1) (pI E 6 i (nI t)) (ho_6 h (Or.inr (nI_ge0 (by omega))))
    exact ⟨(FrH.rf.i i _).tr this.1, this.2⟩
theorem s_askL {t b : Nat} {Q : Int32 → SC → Prop} {X : Nat → SC → Prop} (hb : b < 10) : ∀ (n i : Nat) (S : SC) (E : EA), RC S E → i + n = b + 1 → (∀ u : SC, RC u (askL t n i E) → w_L_endOf u (nI b) (fun r12 S13 => w_M_send S13 t 0 r12 (fun r14 S15 => Q r14 S15))) → w_G_ask_68 (n + 1) S (nI t) (nI b) t (nI i) Q X := by
  intro n
  induction n with
  | zero =>
    intro i S E hR hi hQ
    exact ⟨fun _ => hQ S hR, fun hc => absurd (nI_lt (by omega) (by omega)) hc⟩
  | succ n ih =>
    intro i S E hR hi hQ
    refine ⟨fun hc => absurd hc (nI_nlt (by omega) (by omega)), fun _ => ⟨vp_in_nI (by omega) (by decide), ?_⟩⟩
    show w_G_ask_68 (n + 1) (pI S 6 (nI i).toNatClampNeg (nI t)) (nI t) (nI b) t (nI i + 1) Q X
    rw [nI_clamp (by omega), nI_1]
    exact ih _ _ _ (hR.pI 6 i (nI t)) (by omega) hQ
theorem m_askL {t b : Nat} {Q : Int32 → SR → Prop} (hb : b < 10) : ∀ (n i : Nat) (M : SR) (E : EA), RM M E → i + n = b + 1 → (∀ v : SR, RM v (askL t n i E) → w_R_send v (nI t) 1 (v.2 0 (b + 1)) Q) → w_R_ask_69 (n + 1) M (nI t) (nI b) (nI i) Q := by
  intro n
  induction n with
  | zero =>
    intro i M E hM hi hQ
    refine ⟨fun _ a21 e21 => ?_, fun hc => absurd (nI_lt (by omega) (by omega)) hc⟩
    rw [nI_1] at e21
    subst e21
    refine ⟨vp_in_nI (by omega) (by decide), ?_⟩
    rw [nI_clamp (by omega)]
    exact hQ M hM
  | succ n ih =>
    intro i M E hM hi hQ
    refine ⟨fun hc => absurd hc (nI_nlt (by omega) (by omega)), fun _ => ⟨vp_in_nI (by omega) (by decide), ?_⟩⟩
    show w_R_ask_69 (n + 1) (pI M 7 (nI i).toNatClampNeg (nI t)) (nI t) (nI b) (nI i + 1) Q
    rw [nI_clamp (by omega), nI_1]
    exact ih _ _ _ (hM.pI 7 i (nI t) (by omega)) (by omega) hQ
theorem j_ask {S : SC} {M : SR} {x y : Int32} (h : J S M) : w_G_ask S x y (fun r u => w_R_ask M x y (fun b v => v.1 0 0 = 0 ∧ b = r ∧ J u v)) (fun k u => (k = 1 ∨ k = 2 ∨ k = 3 ∨ k = 4) ∧ w_R_ask M x y (fun _ v => v.1 0 0 = nI k ∧ J u v)) := by
  obtain ⟨E, nS, nR, nT, hR, hM, hI⟩ := h
  have h3 := hT3 hI
  have hl := hI.1
  have hn10 := hl.2.1
  have j1 := jf hR hM hI 1
  have j3 := jf hR hM hI 3
  have hbn : ∀ t, t < nT → bnd E t := fun t ht => ig_bnd (hI.2.2.2.1 t ht)
  refine s_tn (eT hR hI) h3 (fun t ht ex => ?_) (fun hn => ⟨Or.inl rfl, ?_⟩)
  · subst ex
    refine s_hasSection (eS hR hI) hn10 (fun s hs es => ⟨fun hc => absurd hc (by decide), fun _ => ?_⟩) (fun hn => ⟨fun _ => ⟨Or.inl rfl, ?_⟩, fun hc => absurd rfl hc⟩)
    · subst es
      have hh := hdF_lt (E := E) (t := t) (nS := nS) nS 0 0 (by omega) (by omega)
      refine s_headOf hR hl (hbn t ht) ?_
      generalize ehd : hdF E t nS 0 0 = hd at hh
      have ref : ∀ R : Int32 → SR → Prop, (s < hd → R 0 (pI M 0 0 1)) → (hd ≤ s → ∃ n : Nat, w_R_ask_37 n M (nI t) (nI s) (nI hd) R) → w_R_ask M (nI t) (nI s) R := by
        intro R ra rb
        refine m_noTrain (mT hM hI) h3 (ex_t ht h3 ⟨fun hc => absurd rfl hc, fun _ => ?_⟩) (fun hn => absurd ⟨t, ht, rfl⟩ hn)
        refine m_noSection (mS hM hI) hn10 (fun s' hs' e => ⟨fun hc => absurd rfl hc, fun _ => ?_⟩) (fun hn => absurd ⟨s, hs, rfl⟩ hn)
        refine m_head hM hl (hbn t ht) (by omega) ?_
        rw [ehd]
        refine ⟨fun q => m_head hM hl (hbn t ht) (by omega) ?_, fun q => ra ?_⟩
        · rw [ehd]
          exact rb ((nI_leI (by omega) (by omega)).mp q)
        · have : ¬ hd ≤ s := fun z => q (nI_le z (by omega))
          omega
      refine ⟨fun q => ⟨fun _ => ⟨Or.inl rfl, ref _ (fun _ => j1) (fun z => ?_)⟩, fun hc => absurd rfl hc⟩, fun q => ⟨fun hc => absurd hc (by decide), fun _ => ?_⟩⟩
      · exact absurd q (nI_nlt z (by omega))
      have hle : hd ≤ s := by
        rcases Nat.lt_or_ge s hd with z | z
        · exact absurd (nI_lt z (by omega)) q
        · exact z
      have bs := hl.bg (s + 1) (by omega)
      -- the first loops
      have s42 : ∀ (Q : Int32 → SC → Prop) (X : Nat → SC → Prop), ((∀ k : Nat, hd ≤ k → k ≤ s → free E nT k (nI t)) → ∃ n : Nat, w_G_ask_68 n S (nI t) (nI s) t (nI hd) Q X) → (¬ (∀ k : Nat, hd ≤ k → k ≤ s → free E nT k (nI t)) → X 3 S) → ∀ (n i : Nat), i + n = s + 1 → hd ≤ i → (∀ k : Nat, hd ≤ k → k < i → free E nT k (nI t)) → w_G_ask_42 (n + 1) S (nI t) (nI s) t (nI hd) (nI i) Q X := by
        intro Q X ha hb n
        induction n with
        | zero =>
          intro i hi _ hp
          exact ⟨fun _ => ha (fun k h1 h2 => hp k h1 (by omega)), fun hc => absurd (nI_lt (by omega) (by omega)) hc⟩
        | succ n ih =>
          intro i hi hdi hp
          refine ⟨fun hc => absurd hc (nI_nlt (by omega) (by omega)), fun _ => s_isFreeFor hR hl hI.2.1.1 h3 hbn (by omega) (fun hf => ⟨fun hc => absurd hc (by decide), fun _ => ?_⟩) (fun hf => ⟨fun _ => hb (fun q => hf (q i hdi (by omega))), fun hc => absurd rfl hc⟩)⟩
          show w_G_ask_42 (n + 1) S (nI t) (nI s) t (nI hd) (nI i + 1) Q X
          rw [nI_1]
          refine ih _ (by omega) (by omega) (fun k h1 h2 => ?_)
          by_cases e : k = i
          · subst e; exact hf
          · exact hp k h1 (by omega)
      have m37 : ∀ (R : Int32 → SR → Prop), ((∀ k : Nat, hd ≤ k → k ≤ s → free E nT k (nI t)) → ∃ n : Nat, w_R_ask_69 n M (nI t) (nI s) (nI hd) R) → (¬ (∀ k : Nat, hd ≤ k → k ≤ s → free E nT k (nI t)) → R 0 (pI M 0 0 3)) → ∀ (n i : Nat), i + n = s + 1 → hd ≤ i → (∀ k : Nat, hd ≤ k → k < i → free E nT k (nI t)) → w_R_ask_37 (n + 1) M (nI t) (nI s) (nI i) R := by
        intro R ha hb n
        induction n with
        | zero =>
          intro i hi _ hp
          refine ⟨fun _ => m_head hM hl (hbn t ht) (by omega) ?_, fun hc => absurd (nI_lt (by omega) (by omega)) hc⟩
          rw [ehd]
          exact ha (fun k h1 h2 => hp k h1 (by omega))
        | succ n ih =>
          intro i hi hdi hp
          refine ⟨fun hc => absurd hc (nI_nlt (by omega) (by omega)), fun _ => m_taken hM hl hI.2.1.1 h3 hbn (by omega) (hI.2.2.1 i (by omega)) (fun hf => ⟨fun hc => absurd hc (by decide), fun _ => hb (fun q => hf (q i hdi (by omega)))⟩) (fun hf => ⟨fun _ => ?_, fun hc => absurd rfl hc⟩)⟩
          show w_R_ask_37 (n + 1) M (nI t) (nI s) (nI i + 1) R
          rw [nI_1]
          refine ih _ (by omega) (by omega) (fun k h1 h2 => ?_)
          by_cases e : k = i
          · subst e; exact hf
          · exact hp k h1 (by omega)
      refine ⟨s + 1 - hd + 1, s42 _ _ (fun hall => ⟨s + 1 - hd + 1, ?_⟩) (fun hne => ⟨Or.inr (Or.inr (Or.inl rfl)), ref _ (fun z => by omega) (fun _ => ⟨s + 1 - hd + 1, m37 _ (fun q => absurd q hne) (fun _ => j3) (s + 1 - hd) hd (by omega) (Nat.le_refl _) (fun k h1 h2 => by omega)⟩)⟩) (s + 1 - hd) hd (by omega) (Nat.le_refl _) (fun k h1 h2 => by omega)⟩
      have hfr := askL_fr (t := t) (nS := nS) (by omega) (s + 1 - hd) hd E hI.2.2.1
      have I2 := ie_h hI hfr.1 hfr.2
      refine s_askL (by omega) (s + 1 - hd) hd S E hR (by omega) (fun u hu => s_endOf hu hs hn10 ?_)
      generalize eL : askL t (s + 1 - hd) hd E = L at hu hfr I2
      have e0 : L.2 0 (s + 1) = E.2 0 (s + 1) := by rw [hfr.1.2]
      rw [e0]
      refine s_send (kd := 1) hu (Or.inl rfl) (by omega) (fun u2 hu2 => ref _ (fun z => by omega) (fun _ => ⟨s + 1 - hd + 1, m37 _ (fun _ => ⟨s + 1 - hd + 1, m_askL (by omega) (s + 1 - hd) hd M E hM (by omega) (fun v hv => ?_)⟩) (fun q => absurd hall q) (s + 1 - hd) hd (by omega) (Nat.le_refl _) (fun k h1 h2 => by omega)⟩))
      rw [eL] at hv
      have v0 : v.2 0 (s + 1) = lI (L.2 0 (s + 1)) := hv.2 0 (s + 1) (by omega)
      rw [v0, e0]
      refine m_send (st := 0) hv (by omega) (fun v2 hv2 => ?_)
      have j := jf hu2 hv2 (ie_snd I2 ht (Or.inl ⟨rfl, rfl⟩) (by omega)) 0
      exact ⟨j.1, rfl, j.2⟩
    · refine m_noTrain (mT hM hI) h3 (ex_t ht h3 ⟨fun hc => absurd rfl hc, fun _ => ?_⟩) (fun hn => absurd ⟨t, ht, rfl⟩ hn)
      exact m_noSection (mS hM hI) hn10 (fun s hs ex => absurd ⟨s, hs, ex⟩ hn) (fun _ => ⟨fun _ => j1, fun hc => absurd hc (by decide)⟩)
  · exact m_noTrain (mT hM hI) h3 (fun t ht ex => absurd ⟨t, ht, ex⟩ hn) (fun _ => ⟨fun _ => j1, fun hc => absurd hc (by decide)⟩)
