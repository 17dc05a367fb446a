-- start, stop
theorem pI_r {α : Type} {S : (Nat → Nat → Int32) × α} {c j c' j' : Nat} {v : Int32} : (pI S c j v).1 c' j' = if c' = c ∧ j' = j then v else S.1 c' j' := by
  by_cases e : c' = c ∧ j' = j
  · rw [if_pos e, e.1, e.2, pI_s]
  · rw [if_neg e, pI_o (by omega)]
theorem pV_r {α : Type} {S : (Nat → Nat → Int32) × (Nat → Nat → α)} {c j c' j' : Nat} {v : α} : (pV S c j v).2 c' j' = if c' = c ∧ j' = j then v else S.2 c' j' := by
  by_cases e : c' = c ∧ j' = j
  · rw [if_pos e, e.1, e.2, pV_s]
  · rw [if_neg e, pV_o (by omega)]
theorem pV_1 {α : Type} {S : (Nat → Nat → Int32) × (Nat → Nat → α)} {c j : Nat} {v : α} : (pV S c j v).1 = S.1 := rfl
theorem pI_2 {α : Type} {S : (Nat → Nat → Int32) × α} {c j : Nat} {v : Int32} : (pI S c j v).2 = S.2 := rfl
def rdy (E : EA) (nS nR t : Nat) : Prop := E.1 7 t = 1 ∧ sfS E nS nR (E.2 11 t) (E.2 9 t) (E.2 10 t) (E.2 7 t) (E.2 6 t) (E.2 5 t)
theorem s_now {S : SC} {E : EA} {nS nR t : Nat} {Q : Int32 → SC → Prop} (hR : RC S E) (h : IL E nS nR) (h0 : 0 < nS) (hi : IT E t) (h1 : rdy E nS nR t → Q 1 S) (h2 : ¬ rdy E nS nR t → Q 0 S) : w_T_isSafeNow S t Q := by
  have hg := hi.1
  unfold IG at hg
  have ha := hi.2.2.1
  unfold AU at ha
  unfold w_T_isSafeNow
  rw [hR.2 9 t (by omega), hR.2 10 t (by omega), hR.2 7 t (by omega)]
  have one : ¬ E.1 7 t = 0 → E.1 7 t = 1 := by
    intro e
    rcases ha.2 with q | q
    · exact absurd q.1 e
    · exact q.1
  refine s_isSafeState hR h h0 rfl rfl (by omega) (by omega) (by omega) (by omega) (by omega) (by omega) (fun e => ⟨rfl, h2 (fun q => ?_)⟩) (fun e hs => ⟨rfl, h1 ⟨one e, hs⟩⟩) (fun e hs => ⟨rfl, h2 (fun q => hs q.2)⟩)
  exact absurd (e.symm.trans q.1) (by decide)
theorem m_rdy {M : SR} {E : EA} {nS nR t : Nat} {Q : Int32 → SR → Prop} (hM : RM M E) (h : IL E nS nR) (h0 : 0 < nS) (ht : t < 3) (hi : IT E t) (h1 : rdy E nS nR t → Q 1 M) (h2 : ¬ rdy E nS nR t → Q 0 M) : w_R_ready M (nI t) Q := by
  have hg := hi.1
  unfold IG at hg
  have ha := hi.2.2.1
  unfold AU at ha
  have hb : (E.2 13 t).natAbs < 100000000 := by omega
  refine m_ready hM h h0 ht rfl rfl (by omega) (by omega) (by omega) (by omega) (by omega) hb (fun e hs => ?_) (fun e => ?_)
  · rcases ha.2 with q | q
    · omega
    · rw [q.2] at hs
      exact h1 ⟨q.1, hs⟩
  · refine h2 (fun q => e ?_)
    rcases ha.2 with z | z
    · exact absurd (z.1.symm.trans q.1) (by decide)
    · rw [z.2]
      exact ⟨by omega, q.2⟩
theorem j_start {S : SC} {M : SR} {x : Int32} (h : J S M) : w_G_start S x (fun r u => w_R_start M x (fun b v => v.1 0 0 = 0 ∧ b = r ∧ J u v)) (fun k u => (k = 1 ∨ k = 2 ∨ k = 3 ∨ k = 4) ∧ w_R_start M x (fun _ v => v.1 0 0 = nI k ∧ J u v)) := by
  obtain ⟨E, nS, nR, nT, hR, hM, hI⟩ := h
  have h3 := hT3 hI
  refine s_tn (eT hR hI) h3 (fun t ht ex => ?_) (fun hn => ⟨Or.inl rfl, ?_⟩)
  · subst ex
    have hi := hI.2.2.2.1 t ht
    have h0 := hI.2.1.2.2 (by omega)
    have e8 : M.1 8 t = E.1 9 t := hM.1 8 t (by omega)
    have e9 : S.1 9 t = E.1 9 t := hR.1 9 t (by omega)
    have hin : vp_in (nI t) 3 := vp_in_nI (by omega) (by decide)
    rw [e9]
    refine ⟨fun em => ⟨fun _ => ⟨Or.inr (Or.inr (Or.inl rfl)), ?_⟩, fun hc => absurd rfl hc⟩, fun em => ⟨fun hc => absurd hc (by decide), fun _ => s_now hR hI.1 h0 hi (fun hr => ⟨fun hc => absurd hc (by decide), fun _ => ?_⟩) (fun hr => ⟨fun _ => ?_, fun hc => absurd rfl hc⟩)⟩⟩
    · refine m_noTrain (mT hM hI) h3 (ex_t ht h3 ⟨fun _ => ⟨hin, ?_⟩, fun hc => absurd rfl hc⟩) (fun hn => absurd ⟨t, ht, rfl⟩ hn)
      rw [nI_clamp (by omega), e8]
      exact ⟨fun hc => absurd hc em, fun _ => jf hR hM hI 3⟩
    · refine m_noTrain (mT hM hI) h3 (ex_t ht h3 ⟨fun _ => ⟨hin, ?_⟩, fun hc => absurd rfl hc⟩) (fun hn => absurd ⟨t, ht, rfl⟩ hn)
      rw [nI_clamp (by omega), e8]
      refine ⟨fun _ => m_rdy hM hI.1 h0 (by omega) hi (fun _ => ⟨fun hc => absurd hc (by decide), fun _ => ⟨hin, hin, ?_⟩⟩) (fun hn => absurd hr hn), fun hc => absurd em hc⟩
      rw [nI_clamp (by omega)]
      have j := jm hR hM hI ht 2 (Or.inr (Or.inr (Or.inr (Or.inr ⟨rfl, hr.1⟩))))
      exact ⟨j.1, pI_s.trans pI_s.symm, j.2⟩
    · refine m_noTrain (mT hM hI) h3 (ex_t ht h3 ⟨fun _ => ⟨hin, ?_⟩, fun hc => absurd rfl hc⟩) (fun hn => absurd ⟨t, ht, rfl⟩ hn)
      rw [nI_clamp (by omega), e8]
      refine ⟨fun _ => m_rdy hM hI.1 h0 (by omega) hi (fun hn => absurd hn hr) (fun _ => ⟨fun _ => ⟨hin, hin, ?_⟩, fun hc => absurd rfl hc⟩), fun hc => absurd em hc⟩
      rw [nI_clamp (by omega)]
      have j := jm hR hM hI ht 1 (Or.inr (Or.inl rfl))
      exact ⟨j.1, pI_s.trans pI_s.symm, j.2⟩
  · exact m_noTrain (mT hM hI) h3 (fun t ht ex => absurd ⟨t, ht, ex⟩ hn) (fun _ => ⟨fun hc => absurd hc (by decide), fun _ => jf hR hM hI 1⟩)
theorem s_dueMark {S : SC} {t : Nat} {n : Int32} {p : Int} {Q : Int32 → SC → Prop} (h12 : S.1 12 t = n) (hp : S.2 12 t = zq 8 p) (hb : 0 ≤ p ∧ p ≤ 2560000 ∧ p % 32 = 0) (hQ : Q (due n p) S) : w_M_dueMark S t Q := by
  intro a1 e1
  rw [hp, zk_8, zq_mul (k := 8) (j := 0) (by omega) (by omega) (by omega) (by decide) (Or.inr (Or.inl (by decide)))]
  refine ⟨zq_fin (by omega) (by omega), fun f2 e2 a3 e3 a4 e4 a5 e5 => ?_⟩
  have e : zq (8 + 0) (p * 8) = zq 0 (p / 32) := by
    rw [zq_up 0 8 (p / 32)]
    congr 1
    have : ((2 ^ 8 : Nat) : Int) = 256 := by decide
    omega
  rw [e] at e2
  subst e2
  rw [zq_d2i (by omega) (by omega)] at e3
  subst e3
  rw [h12] at e1
  subst e1
  subst e4
  subst e5
  exact hQ
/-- the state behind a message sent -/
def sndE (E : EA) (t : Nat) (st kd : Int32) (p : Int) : EA := pI (pI (pV (pI (pI (pI E 10 t 1) 11 t st) 12 t (E.1 12 t + 1)) 12 t p) 13 t (due (E.1 12 t + 1) p)) 14 t kd
theorem s_send {S : SC} {E : EA} {t : Nat} {st kd : Int32} {p : Int} {Q : Int32 → SC → Prop} (hR : RC S E) (hst : st = 0 ∨ st = 1) (hb : 0 ≤ p ∧ p ≤ 2560000 ∧ p % 32 = 0) (hQ : ∀ u : SC, RC u (sndE E t st kd p) → Q (E.1 12 t + 1) u) : w_M_send S t st (zq 8 p) Q := by
  refine ⟨by rcases hst with e | e <;> subst e <;> exact ⟨rfl, rfl⟩, fun a1 e1 => ?_⟩
  have e12 : (pI (pI S 10 t 1) 11 t st).1 12 t = E.1 12 t := hR.1 12 t (by omega)
  rw [e12] at e1
  subst e1
  have r1 := (((hR.pI 10 t 1).pI 11 t st).pI 12 t (E.1 12 t + 1)).pV 12 t p
  refine s_dueMark (n := E.1 12 t + 1) (p := p) (by simp [pI_r, pV_1]) (by simp [pV_r]) hb ?_
  have r2 := rc_xI (r1.pI 13 t (due (E.1 12 t + 1) p)) 14 t kd (by omega)
  have e : (pI (pV (pI (pI (pI S 10 t 1) 11 t st) 12 t (E.1 12 t + 1)) 12 t (zq 8 p)) 13 t (due (E.1 12 t + 1) p)).1 12 t = E.1 12 t + 1 := by simp [pI_r, pV_1]
  rw [e]
  exact hQ _ r2
theorem m_send {M : SR} {E : EA} {t : Nat} {st kd : Int32} {p : Int} {Q : Int32 → SR → Prop} (hM : RM M E) (ht : t < 3) (hQ : ∀ v : SR, RM v (sndE E t st kd p) → Q (E.1 12 t + 1) (pI v 0 0 0)) : w_R_send M (nI t) kd (lI p) Q := by
  have hin : vp_in (nI t) 3 := vp_in_nI ht (by decide)
  refine ⟨hin, fun a1 e1 => ⟨hin, hin, hin, hin, ?_⟩⟩
  rw [nI_clamp (by omega)] at e1 ⊢
  have e10 : M.1 10 t = E.1 12 t := hM.1 10 t (by omega)
  rw [e10] at e1
  subst e1
  have r1 : RM (pV (pI M 10 t (E.1 12 t + 1)) 12 t (lI p)) (pV (pI (pI (pI E 10 t 1) 11 t st) 12 t (E.1 12 t + 1)) 12 t p) := ((rm_xI (rm_xI hM 10 t 1 (by decide)) 11 t st (by decide)).pI 10 t (E.1 12 t + 1) (by omega)).pV 12 t p (by omega)
  have r2 := (rm_xI r1 13 t (due (E.1 12 t + 1) p) (by decide)).pI 11 t kd (by omega)
  have e : (pV (pI (pI M 10 t (E.1 12 t + 1)) 11 t kd) 12 t (lI p)).1 10 t = E.1 12 t + 1 := by simp [pI_r, pV_1]
  show Q _ (pI _ 0 0 0)
  rw [e]
  exact hQ _ r2
theorem ie_snd {E : EA} {nS nR nT t : Nat} {st kd : Int32} {p : Int} (hI : IE E nS nR nT) (ht : t < nT) (hk : (st = 0 ∧ kd = 1) ∨ (st = 1 ∧ kd = 2)) (hb : 0 ≤ p ∧ p ≤ 2560000 ∧ p % 32 = 0) : IE (sndE E t st kd p) nS nR nT := by
  have hi := hI.2.2.2.1 t ht
  have hf : Fr E (sndE E t st kd p) t := (((((Fr.rf.i 10 t 1 (by omega)).i 11 t st (by omega)).i 12 t _ (by omega)).v 12 p (by omega)).i 13 t _ (by omega)).i 14 t kd (by omega)
  have r5 : ∀ c : Nat, c ≠ 12 → (sndE E t st kd p).2 c t = E.2 c t := fun c hc => pV_o (Or.inl hc)
  have r12 : (sndE E t st kd p).2 12 t = p := by simp [sndE, pI_2, pV_r]
  have i7 : (sndE E t st kd p).1 7 t = E.1 7 t := rfl
  have i9 : (sndE E t st kd p).1 9 t = E.1 9 t := rfl
  have i10 : (sndE E t st kd p).1 10 t = 1 := by simp [sndE, pI_r, pV_1]
  have i11 : (sndE E t st kd p).1 11 t = st := by simp [sndE, pI_r, pV_1]
  have i12 : (sndE E t st kd p).1 12 t = E.1 12 t + 1 := by simp [sndE, pI_r, pV_1]
  have i13 : (sndE E t st kd p).1 13 t = due (E.1 12 t + 1) p := by simp [sndE, pI_r, pV_1]
  have i14 : (sndE E t st kd p).1 14 t = kd := by simp [sndE, pI_r, pV_1]
  refine ie_fr hI ht hf (ho_i (ho_i (c := 13) (show HO (pI (pI (pI E 10 t 1) 11 t st) 12 t (E.1 12 t + 1)) nS from ho_i (ho_i (ho_i hI.2.2.1 (by decide)) (by decide)) (by decide)) (by decide)) (by decide)) ⟨?_, ?_, ?_, ?_⟩
  · unfold IG
    rw [r5 5 (by omega), r5 6 (by omega), r5 7 (by omega), r5 8 (by omega), r5 9 (by omega), r5 10 (by omega)]
    exact hi.1
  · unfold IO
    rw [i7, i9]
    exact hi.2.1
  · unfold AU
    rw [i7, r5 11 (by omega), r5 13 (by omega)]
    exact hi.2.2.1
  · unfold ME
    rw [i10, i11, i12, i13, i14, r12]
    exact ⟨hb, Or.inr ⟨rfl, hk, rfl⟩⟩
theorem j_stop {S : SC} {M : SR} {x : Int32} (h : J S M) : w_G_stop S x (fun r u => w_R_stop M x (fun b v => v.1 0 0 = 0 ∧ b = r ∧ J u v)) (fun k u => (k = 1 ∨ k = 2 ∨ k = 3 ∨ k = 4) ∧ w_R_stop M x (fun _ v => v.1 0 0 = nI k ∧ J u v)) := by
  obtain ⟨E, nS, nR, nT, hR, hM, hI⟩ := h
  have h3 := hT3 hI
  refine s_tn (eT hR hI) h3 (fun t ht ex => ?_) (fun hn => ⟨Or.inl rfl, ?_⟩)
  · subst ex
    rw [zk0]
    refine s_send (kd := 2) hR (Or.inr rfl) (by omega) (fun u hu => ?_)
    refine m_noTrain (mT hM hI) h3 (ex_t ht h3 ⟨fun _ => ?_, fun hc => absurd rfl hc⟩) (fun hn => absurd ⟨t, ht, rfl⟩ hn)
    rw [show (0 : Int64) = lI 0 from rfl]
    refine m_send (st := 1) hM (by omega) (fun v hv => ?_)
    have j := jf hu hv (ie_snd hI ht (Or.inr ⟨rfl, rfl⟩) (by omega)) 0
    exact ⟨j.1, rfl, j.2⟩
  · exact m_noTrain (mT hM hI) h3 (fun t ht ex => absurd ⟨t, ht, ex⟩ hn) (fun _ => ⟨fun hc => absurd hc (by decide), fun _ => jf hR hM hI 1⟩)
