-- what always holds
def due (n : Int32) (p : Int) : Int32 := (31 * n + Int32.ofInt (p / 32)) &&& 1023
def IG (E : EA) (t : Nat) : Prop := (2560 ≤ E.2 5 t ∧ E.2 5 t ≤ 12800) ∧ (128 ≤ E.2 6 t ∧ E.2 6 t ≤ 512 ∧ E.2 6 t % 32 = 0) ∧ (0 ≤ E.2 7 t ∧ E.2 7 t ≤ 15360 ∧ E.2 7 t % 16 = 0) ∧ (0 ≤ E.2 8 t ∧ E.2 8 t ≤ 2560000 ∧ 0 ≤ E.2 10 t ∧ 7 * E.2 10 t ≤ E.2 8 t ∧ E.2 9 t ≤ E.2 8 t + E.2 10 t ∧ E.2 8 t ≤ E.2 9 t + E.2 10 t)
def IO (E : EA) (t : Nat) : Prop := (E.1 9 t = 0 ∨ E.1 9 t = 1 ∨ E.1 9 t = 2 ∨ E.1 9 t = 3 ∨ E.1 9 t = 4) ∧ (E.1 9 t = 2 → E.1 7 t = 1)
def AU (E : EA) (t : Nat) : Prop := (0 ≤ E.2 11 t ∧ E.2 11 t ≤ 2560000) ∧ ((E.1 7 t = 0 ∧ E.2 13 t = -1) ∨ (E.1 7 t = 1 ∧ E.2 13 t = E.2 11 t))
def ME (E : EA) (t : Nat) : Prop := (0 ≤ E.2 12 t ∧ E.2 12 t ≤ 2560000 ∧ E.2 12 t % 32 = 0) ∧ ((E.1 10 t = 0 ∧ E.1 14 t = 0) ∨ (E.1 10 t = 1 ∧ ((E.1 11 t = 0 ∧ E.1 14 t = 1) ∨ (E.1 11 t = 1 ∧ E.1 14 t = 2)) ∧ E.1 13 t = due (E.1 12 t) (E.2 12 t)))
def IT (E : EA) (t : Nat) : Prop := IG E t ∧ IO E t ∧ AU E t ∧ ME E t
def IU (E : EA) (t : Nat) : Prop := E.2 7 t = 0 ∧ E.2 10 t = 0 ∧ E.1 9 t = 0 ∧ E.1 7 t = 0 ∧ E.1 10 t = 0 ∧ E.1 14 t = 0 ∧ (0 ≤ E.2 11 t ∧ E.2 11 t ≤ 2560000) ∧ (0 ≤ E.2 12 t ∧ E.2 12 t ≤ 2560000 ∧ E.2 12 t % 32 = 0)
def HO (E : EA) (nS : Nat) : Prop := ∀ s : Nat, s < nS → E.1 6 s = -1 ∨ 0 ≤ E.1 6 s
def IE (E : EA) (nS nR nT : Nat) : Prop := IL E nS nR ∧ (E.1 0 0 = nI nT ∧ nT ≤ 3 ∧ (0 < nT → 0 < nS)) ∧ HO E nS ∧ (∀ t : Nat, t < nT → IT E t) ∧ (∀ t : Nat, nT ≤ t → t < 3 → IU E t)
def J (S : SC) (M : SR) : Prop := ∃ (E : EA) (nS nR nT : Nat), RC S E ∧ RM M E ∧ IE E nS nR nT
/-- E' is E but for one train, the holders, the counters of events, the reference's thrown -/
def Fr (E E' : EA) (t : Nat) : Prop := (∀ c j : Nat, c = 0 ∨ c = 4 ∨ c = 5 → E'.1 c j = E.1 c j) ∧ (∀ c j : Nat, c < 5 → E'.2 c j = E.2 c j) ∧ (∀ c j : Nat, j ≠ t → 7 ≤ c → c ≤ 14 → E'.1 c j = E.1 c j) ∧ (∀ c j : Nat, j ≠ t → 5 ≤ c → E'.2 c j = E.2 c j)
theorem Fr.rf {E : EA} {t : Nat} : Fr E E t := ⟨fun _ _ _ => rfl, fun _ _ _ => rfl, fun _ _ _ _ _ => rfl, fun _ _ _ _ => rfl⟩
theorem Fr.i {E E' : EA} {t : Nat} (h : Fr E E' t) (c j : Nat) (v : Int32) (hc : (7 ≤ c ∧ c ≤ 14 ∧ j = t) ∨ c = 6 ∨ c = 1 ∨ c = 2 ∨ c = 3 ∨ c = 15) : Fr E (pI E' c j v) t := by
  refine ⟨fun c' j' e => ?_, h.2.1, fun c' j' e e1 e2 => ?_, h.2.2.2⟩
  · rw [pI_o (Or.inl (by omega))]; exact h.1 c' j' e
  · rw [pI_o (by omega)]; exact h.2.2.1 c' j' e e1 e2
theorem Fr.v {E E' : EA} {t : Nat} (h : Fr E E' t) (c : Nat) (v : Int) (hc : 5 ≤ c) : Fr E (pV E' c t v) t := by
  refine ⟨h.1, fun c' j' e => ?_, h.2.2.1, fun c' j' e e1 => ?_⟩
  · rw [pV_o (Or.inl (by omega))]; exact h.2.1 c' j' e
  · rw [pV_o (by omega)]; exact h.2.2.2 c' j' e e1
theorem Fr.il {E E' : EA} {t nS nR : Nat} (h : Fr E E' t) (hl : IL E nS nR) : IL E' nS nR := by
  unfold IL
  rw [h.1 4 0 (by omega), h.1 5 0 (by omega), h.2.1 0 0 (by omega)]
  refine ⟨hl.1, hl.2.1, hl.2.2.1, hl.2.2.2.1, hl.2.2.2.2.1, fun s hs => ?_, fun r hr => ?_⟩
  · rw [h.2.1 0 s (by omega), h.2.1 0 (s + 1) (by omega), h.2.1 1 s (by omega)]
    exact hl.2.2.2.2.2.1 s hs
  · rw [h.2.1 2 r (by omega), h.2.1 3 r (by omega), h.2.1 4 r (by omega)]
    exact hl.2.2.2.2.2.2 r hr
theorem it_ag {E E' : EA} {t : Nat} (h1 : ∀ c : Nat, 7 ≤ c → c ≤ 14 → E'.1 c t = E.1 c t) (h2 : ∀ c : Nat, 5 ≤ c → E'.2 c t = E.2 c t) (h : IT E t) : IT E' t := by
  unfold IT IG IO AU ME at h ⊢
  rw [h1 7 (by omega) (by omega), h1 9 (by omega) (by omega), h1 10 (by omega) (by omega), h1 11 (by omega) (by omega), h1 12 (by omega) (by omega), h1 13 (by omega) (by omega), h1 14 (by omega) (by omega), h2 5 (by omega), h2 6 (by omega), h2 7 (by omega), h2 8 (by omega), h2 9 (by omega), h2 10 (by omega), h2 11 (by omega), h2 12 (by omega), h2 13 (by omega)]
  exact h
theorem iu_ag {E E' : EA} {t : Nat} (h1 : ∀ c : Nat, 7 ≤ c → c ≤ 14 → E'.1 c t = E.1 c t) (h2 : ∀ c : Nat, 5 ≤ c → E'.2 c t = E.2 c t) (h : IU E t) : IU E' t := by
  unfold IU at h ⊢
  rw [h1 7 (by omega) (by omega), h1 9 (by omega) (by omega), h1 10 (by omega) (by omega), h1 14 (by omega) (by omega), h2 7 (by omega), h2 10 (by omega), h2 11 (by omega), h2 12 (by omega)]
  exact h
theorem ie_fr {E E' : EA} {nS nR nT t : Nat} (h : IE E nS nR nT) (ht : t < nT) (hf : Fr E E' t) (hh : HO E' nS) (hi : IT E' t) : IE E' nS nR nT := by
  refine ⟨hf.il h.1, ?_, hh, fun t' ht' => ?_, fun t' ht' h3 => ?_⟩
  · rw [hf.1 0 0 (by omega)]; exact h.2.1
  · by_cases e : t' = t
    · subst e; exact hi
    · exact it_ag (fun c a b => hf.2.2.1 c t' e a b) (fun c a => hf.2.2.2 c t' e a) (h.2.2.2.1 t' ht')
  · exact iu_ag (fun c a b => hf.2.2.1 c t' (by omega) a b) (fun c a => hf.2.2.2 c t' (by omega) a) (h.2.2.2.2 t' ht' h3)
theorem ie_thr {E : EA} {nS nR nT : Nat} (h : IE E nS nR nT) (k : Int32) : IE (pI E 15 0 k) nS nR nT := by
  have hf : ∀ t : Nat, Fr E (pI E 15 0 k) t := fun t => Fr.rf.i 15 0 k (by omega)
  refine ⟨(hf 0).il h.1, ?_, fun s hs => ?_, fun t' ht' => ?_, fun t' ht' h3 => ?_⟩
  · rw [(hf 0).1 0 0 (by omega)]; exact h.2.1
  · rw [pI_o (Or.inl (by omega))]; exact h.2.2.1 s hs
  · exact it_ag (fun c a b => (hf (t' + 1)).2.2.1 c t' (by omega) a b) (fun c a => rfl) (h.2.2.2.1 t' ht')
  · exact iu_ag (fun c a b => (hf (t' + 1)).2.2.1 c t' (by omega) a b) (fun c a => rfl) (h.2.2.2.2 t' ht' h3)
theorem ig_bnd {E : EA} {t : Nat} (h : IT E t) : bnd E t := by
  have := h.1
  unfold IG at this
  unfold bnd
  omega
theorem jf {S : SC} {M : SR} {E : EA} {nS nR nT : Nat} (hR : RC S E) (hM : RM M E) (hI : IE E nS nR nT) (k : Int32) : (pI M 0 0 k).1 0 0 = k ∧ J S (pI M 0 0 k) :=
  ⟨pI_s, pI E 15 0 k, nS, nR, nT, rc_xI hR 15 0 k (by omega), hM.pI 0 0 k (by omega), ie_thr hI k⟩
-- the calls: wet, mode, count, acknowledge
theorem hT3 {E : EA} {nS nR nT : Nat} (hI : IE E nS nR nT) : nT ≤ 3 := hI.2.1.2.1
theorem eT {S : SC} {E : EA} {nS nR nT : Nat} (hR : RC S E) (hI : IE E nS nR nT) : S.1 0 0 = nI nT := (hR.1 0 0 (by omega)).trans hI.2.1.1
theorem mT {M : SR} {E : EA} {nS nR nT : Nat} (hM : RM M E) (hI : IE E nS nR nT) : M.1 3 0 = nI nT := (hM.1 3 0 (by omega)).trans hI.2.1.1
theorem eS {S : SC} {E : EA} {nS nR nT : Nat} (hR : RC S E) (hI : IE E nS nR nT) : S.1 4 0 = nI nS := (hR.1 4 0 (by omega)).trans hI.1.1
theorem mS {M : SR} {E : EA} {nS nR nT : Nat} (hM : RM M E) (hI : IE E nS nR nT) : M.1 1 0 = nI nS := (hM.1 1 0 (by omega)).trans hI.1.1
theorem nI_ne {a b : Nat} (ha : a < 1000) (hb : b < 1000) (h : nI a = nI b) : a = b := (nI_eq (by omega) (by omega)).mp h
theorem ex_t {nT t : Nat} (ht : t < nT) (hn : nT ≤ 3) {P : Nat → Prop} (h : P t) : ∀ t' : Nat, t' < nT → nI t = nI t' → P t' := by
  intro t' h1 e
  have := nI_ne (by omega) (by omega) e
  subst this
  exact h
theorem j_mode {S : SC} {M : SR} {x : Int32} (h : J S M) : w_G_mode S x (fun r u => w_R_mode M x (fun b v => v.1 0 0 = 0 ∧ b = r ∧ J u v)) (fun k u => (k = 1 ∨ k = 2 ∨ k = 3 ∨ k = 4) ∧ w_R_mode M x (fun _ v => v.1 0 0 = nI k ∧ J u v)) := by
  obtain ⟨E, nS, nR, nT, hR, hM, hI⟩ := h
  have h3 := hT3 hI
  refine s_tn (eT hR hI) h3 (fun t ht ex => ?_) (fun hn => ⟨Or.inl rfl, ?_⟩)
  · subst ex
    refine m_noTrain (mT hM hI) h3 (ex_t ht h3 ⟨fun _ => ⟨vp_in_nI (by omega) (by decide), ?_⟩, fun hc => absurd rfl hc⟩) (fun hn => absurd ⟨t, ht, rfl⟩ hn)
    rw [nI_clamp (by omega)]
    have c8 : M.1 8 t = E.1 9 t := hM.1 8 t (by omega)
    have j := jf hR hM hI 0
    exact ⟨j.1, c8.trans (hR.1 9 t (by omega)).symm, j.2⟩
  · refine m_noTrain (mT hM hI) h3 (fun t ht ex => absurd ⟨t, ht, ex⟩ hn) (fun _ => ⟨fun hc => absurd hc (by decide), fun _ => jf hR hM hI 1⟩)
theorem j_count {S : SC} {M : SR} {x : Int32} (h : J S M) : w_G_count S x (fun r u => w_R_count M x (fun b v => b = r ∧ J u v)) := by
  obtain ⟨E, nS, nR, nT, hR, hM, hI⟩ := h
  have j := (jf hR hM hI 0).2
  have c0 : M.1 3 0 = S.1 0 0 := (hM.1 3 0 (by omega)).trans (hR.1 0 0 (by omega)).symm
  have c1 : M.1 4 0 = S.1 1 0 := (hM.1 4 0 (by omega)).trans (hR.1 1 0 (by omega)).symm
  have c2 : M.1 5 0 = S.1 2 0 := (hM.1 5 0 (by omega)).trans (hR.1 2 0 (by omega)).symm
  have c3 : M.1 6 0 = S.1 3 0 := (hM.1 6 0 (by omega)).trans (hR.1 3 0 (by omega)).symm
  have c4 : M.1 1 0 = S.1 4 0 := (hM.1 1 0 (by omega)).trans (hR.1 4 0 (by omega)).symm
  have c5 : M.1 2 0 = S.1 5 0 := (hM.1 2 0 (by omega)).trans (hR.1 5 0 (by omega)).symm
  unfold w_G_count
  have one : ∀ (k : Int32) (a : Int32), x = k → (∀ R : Int32 → SR → Prop, R a (pI M 0 0 0) → w_R_count M k R) → w_R_count M x (fun b v => b = a ∧ J S v) := by
    intro k a e hw
    subst e
    exact hw _ ⟨rfl, j⟩
  refine ⟨fun e => one 0 _ e (fun R hR => ?_), fun e => one 1 _ e (fun R hR => ?_), fun e => one 2 _ e (fun R hR => ?_), fun e => one 3 _ e (fun R hR => ?_), fun e => one 4 _ e (fun R hR => ?_), fun e => one 5 _ e (fun R hR => ?_), fun e => ?_⟩
  · exact ⟨fun _ => by rw [c4]; exact hR, fun hc => absurd hc (by decide), fun hc => absurd hc (by decide), fun hc => absurd hc (by decide), fun hc => absurd hc (by decide), fun hc => absurd hc (by decide), fun hc => absurd rfl hc.1⟩
  · exact ⟨fun hc => absurd hc (by decide), fun _ => by rw [c5]; exact hR, fun hc => absurd hc (by decide), fun hc => absurd hc (by decide), fun hc => absurd hc (by decide), fun hc => absurd hc (by decide), fun hc => absurd rfl hc.2.1⟩
  · exact ⟨fun hc => absurd hc (by decide), fun hc => absurd hc (by decide), fun _ => by rw [c0]; exact hR, fun hc => absurd hc (by decide), fun hc => absurd hc (by decide), fun hc => absurd hc (by decide), fun hc => absurd rfl hc.2.2.1⟩
  · exact ⟨fun hc => absurd hc (by decide), fun hc => absurd hc (by decide), fun hc => absurd hc (by decide), fun _ => by rw [c1]; exact hR, fun hc => absurd hc (by decide), fun hc => absurd hc (by decide), fun hc => absurd rfl hc.2.2.2.1⟩
  · exact ⟨fun hc => absurd hc (by decide), fun hc => absurd hc (by decide), fun hc => absurd hc (by decide), fun hc => absurd hc (by decide), fun _ => by rw [c2]; exact hR, fun hc => absurd hc (by decide), fun hc => absurd rfl hc.2.2.2.2.1⟩
  · exact ⟨fun hc => absurd hc (by decide), fun hc => absurd hc (by decide), fun hc => absurd hc (by decide), fun hc => absurd hc (by decide), fun hc => absurd hc (by decide), fun _ => by rw [c3]; exact hR, fun hc => absurd rfl hc.2.2.2.2.2⟩
  · exact ⟨fun hc => absurd hc e.1, fun hc => absurd hc e.2.1, fun hc => absurd hc e.2.2.1, fun hc => absurd hc e.2.2.2.1, fun hc => absurd hc e.2.2.2.2.1, fun hc => absurd hc e.2.2.2.2.2, fun _ => ⟨rfl, j⟩⟩
