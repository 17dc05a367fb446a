-- take
theorem pI_id (E : EA) (c j : Nat) : pI E c j (E.1 c j) = E := by
  refine Prod.ext (funext fun d => funext fun i => ?_) rfl
  show (pI E c j (E.1 c j)).1 d i = E.1 d i
  rw [pI_r]
  split
  · rename_i h
    rw [h.1, h.2]
  · rfl
theorem xor_z {a b : Int32} : a ^^^ b = a ↔ b = 0 := by
  refine ⟨fun h => ?_, fun h => by subst h; exact Int32.xor_zero⟩
  have h1 : a ^^^ (a ^^^ b) = a ^^^ a := by rw [h]
  rw [← Int32.xor_assoc, Int32.xor_self, Int32.zero_xor] at h1
  exact h1
theorem s_gen {S : SC} {E : EA} {t : Nat} {y : Int32} {Q : Int32 → SC → Prop} (hR : RC S E) (hm : E.1 13 t = due (E.1 12 t) (E.2 12 t)) (hb : 0 ≤ E.2 12 t ∧ E.2 12 t ≤ 2560000 ∧ E.2 12 t % 32 = 0) (h1 : y = 0 → Q 1 S) (h0 : ¬ y = 0 → Q 0 S) : w_M_isGenuine S t y Q := by
  intro a1 e1
  rw [hR.1 13 t (by omega), hm] at e1
  subst e1
  exact s_dueMark (hR.1 12 t (by omega)) (hR.2 12 t (by omega)) hb ⟨fun a => h0 (fun q => a (xor_z.mpr q)), fun a => h1 (xor_z.mp a)⟩
/-- the state behind a message taken away -/
def tkE (E : EA) (t : Nat) : EA := pI (pI E 10 t 0) 14 t 0
theorem ie_tk {E : EA} {nS nR nT t : Nat} (hI : IE E nS nR nT) (ht : t < nT) : IE (tkE E t) nS nR nT := by
  have hi := hI.2.2.2.1 t ht
  refine ie_fr hI ht ((Fr.rf.i 10 t 0 (by omega)).i 14 t 0 (by omega)) (ho_i (ho_i hI.2.2.1 (by decide)) (by decide)) ⟨hi.1, hi.2.1, hi.2.2.1, ?_⟩
  have h10 : (tkE E t).1 10 t = 0 := by simp [tkE, pI_r]
  have h14 : (tkE E t).1 14 t = 0 := by simp [tkE, pI_r]
  exact ⟨hi.2.2.2.1, Or.inl ⟨h10, h14⟩⟩
theorem rc_tk {S : SC} {E : EA} {t : Nat} (hR : RC S E) : RC (pI S 10 t 0) (tkE E t) := rc_xI (hR.pI 10 t 0) 14 t 0 (by omega)
theorem rm_tk {M : SR} {E : EA} {t : Nat} (hM : RM M E) : RM (pI M 11 t 0) (tkE E t) := (rm_xI hM 10 t 0 (by decide)).pI 11 t 0 (by omega)
/-- the state behind an authority taken -/
def acE (E : EA) (t : Nat) : EA := pV (pI (pV E 11 t (E.2 12 t)) 7 t 1) 13 t (E.2 12 t)
theorem ie_ac {E : EA} {nS nR nT t : Nat} (hI : IE E nS nR nT) (ht : t < nT) : IE (acE E t) nS nR nT := by
  have hi := hI.2.2.2.1 t ht
  have hf : Fr E (acE E t) t := ((Fr.rf.v 11 _ (by omega)).i 7 t 1 (by omega)).v 13 _ (by omega)
  have r : ∀ c : Nat, c ≠ 11 → c ≠ 13 → (acE E t).2 c t = E.2 c t := fun c h1 h2 => (pV_o (Or.inl h2)).trans (pV_o (S := E) (Or.inl h1))
  have r11 : (acE E t).2 11 t = E.2 12 t := by simp [acE, pV_r, pI_2]
  have r13 : (acE E t).2 13 t = E.2 12 t := by simp [acE, pV_r, pI_2]
  have i7 : (acE E t).1 7 t = 1 := by simp [acE, pV_1, pI_r]
  have hb := hi.2.2.2.1
  refine ie_fr hI ht hf (show HO (pI E 7 t 1) nS from ho_i hI.2.2.1 (by decide)) ⟨?_, ⟨hi.2.1.1, fun _ => i7⟩, ?_, ?_⟩
  · unfold IG
    rw [r 5 (by omega) (by omega), r 6 (by omega) (by omega), r 7 (by omega) (by omega), r 8 (by omega) (by omega), r 9 (by omega) (by omega), r 10 (by omega) (by omega)]
    exact hi.1
  · unfold AU
    rw [r11, r13]
    exact ⟨by omega, Or.inr ⟨i7, rfl⟩⟩
  · have := hi.2.2.2
    unfold ME at this ⊢
    rw [r 12 (by omega) (by omega)]
    exact this
/-- the state behind a stop obeyed, but for the mode -/
def stE (E : EA) (t : Nat) (v : Int32) : EA := pI (pV (pI E 7 t 0) 13 t (-1)) 9 t v
theorem ie_st {E : EA} {nS nR nT t : Nat} {v : Int32} (hI : IE E nS nR nT) (ht : t < nT) (hv : v = 0 ∨ v = 1 ∨ v = 3 ∨ v = 4) : IE (stE E t v) nS nR nT := by
  have hi := hI.2.2.2.1 t ht
  have hf : Fr E (stE E t v) t := ((Fr.rf.i 7 t 0 (by omega)).v 13 _ (by omega)).i 9 t v (by omega)
  have r : ∀ c : Nat, c ≠ 13 → (stE E t v).2 c t = E.2 c t := fun c h1 => pV_o (Or.inl h1)
  have r13 : (stE E t v).2 13 t = -1 := by simp [stE, pV_r, pI_2]
  have i7 : (stE E t v).1 7 t = 0 := by simp [stE, pV_1, pI_r]
  have i9 : (stE E t v).1 9 t = v := by simp [stE, pI_r]
  refine ie_fr hI ht hf (ho_i (show HO (pI E 7 t 0) nS from ho_i hI.2.2.1 (by decide)) (by decide)) ⟨?_, ⟨?_, fun e => ?_⟩, ?_, ?_⟩
  · unfold IG
    rw [r 5 (by omega), r 6 (by omega), r 7 (by omega), r 8 (by omega), r 9 (by omega), r 10 (by omega)]
    exact hi.1
  · rw [i9]
    rcases hv with e | e | e | e
    · exact Or.inl e
    · exact Or.inr (Or.inl e)
    · exact Or.inr (Or.inr (Or.inr (Or.inl e)))
    · exact Or.inr (Or.inr (Or.inr (Or.inr e)))
  · rw [i9] at e
    subst e
    exact absurd hv (by decide)
  · have := hi.2.2.1
    unfold AU at this ⊢
    rw [r 11 (by omega)]
    exact ⟨this.1, Or.inl ⟨i7, r13⟩⟩
  · have := hi.2.2.2
    unfold ME at this ⊢
    rw [r 12 (by omega)]
    exact this
theorem s_canStop {S : SC} {E : EA} {t : Nat} {Q : Int32 → SC → Prop} (hR : RC S E) (hi : IT E t) (h1 : sfF (E.2 12 t) (E.2 9 t + E.2 10 t) (E.2 7 t) 0 (E.2 6 t) → Q 1 S) (h0 : ¬ sfF (E.2 12 t) (E.2 9 t + E.2 10 t) (E.2 7 t) 0 (E.2 6 t) → Q 0 S) : w_T_canStopAt S t (zq 8 (E.2 12 t)) Q := by
  have hg := hi.1
  unfold IG at hg
  have hb := hi.2.2.2.1
  unfold w_T_canStopAt
  rw [hR.2 9 t (by omega), hR.2 10 t (by omega), hR.2 7 t (by omega), zq_add (by omega) (by omega) (by omega), zk0]
  refine ⟨zq_fin (by omega) (by omega), fun f1 e1 => ?_⟩
  subst e1
  exact s_isSafe (hR.2 6 t (by omega)) (by omega) (by omega) (by omega) (by omega) (by omega) (fun q => ⟨rfl, h1 q⟩) (fun q => ⟨rfl, h0 q⟩)
theorem j_take {S : SC} {M : SR} {x y : Int32} (h : J S M) : w_G_take S x y (fun r u => w_R_take M x y (fun b v => v.1 0 0 = 0 ∧ b = r ∧ J u v)) (fun k u => (k = 1 ∨ k = 2 ∨ k = 3 ∨ k = 4) ∧ w_R_take M x y (fun _ v => v.1 0 0 = nI k ∧ J u v)) := by
  obtain ⟨E, nS, nR, nT, hR, hM, hI⟩ := h
  have h3 := hT3 hI
  have j1 := jf hR hM hI 1
  refine s_tn (eT hR hI) h3 (fun t ht ex => ?_) (fun hn => ⟨Or.inl rfl, ?_⟩)
  · subst ex
    have h0 := hI.2.1.2.2 (by omega)
    have hi := hI.2.2.2.1 t ht
    have hg := hi.1
    unfold IG at hg
    have hm := hi.2.2.2
    have hin : vp_in (nI t) 3 := vp_in_nI (by omega) (by decide)
    have e11 : M.1 11 t = E.1 14 t := hM.1 11 t (by omega)
    have e8 : M.1 8 t = E.1 9 t := hM.1 8 t (by omega)
    have s9 : S.1 9 t = E.1 9 t := hR.1 9 t (by omega)
    have s10 : S.1 10 t = E.1 10 t := hR.1 10 t (by omega)
    have s11 : S.1 11 t = E.1 11 t := hR.1 11 t (by omega)
    have ref1 : ∀ R : Int32 → SR → Prop, ¬ (0 ≤ y ∧ y ≤ 1023) → R 0 (pI M 0 0 1) → w_R_take M (nI t) y R := by
      intro R hy hr
      refine m_noTrain (mT hM hI) h3 (ex_t ht h3 ⟨fun hc => absurd rfl hc, fun _ => ?_⟩) (fun hn => absurd ⟨t, ht, rfl⟩ hn)
      exact m_in (fun a b => absurd ⟨a, b⟩ hy) (fun _ => ⟨fun hc => absurd rfl hc, fun _ => hr⟩)
    have bad : ¬ (0 ≤ y ∧ y ≤ 1023) → w_G_take_21 S y t (fun r u => w_R_take M (nI t) y (fun b v => v.1 0 0 = 0 ∧ b = r ∧ J u v)) (fun k u => (k = 1 ∨ k = 2 ∨ k = 3 ∨ k = 4) ∧ w_R_take M (nI t) y (fun _ v => v.1 0 0 = nI k ∧ J u v)) :=
      fun hy => ⟨fun _ => ⟨Or.inl rfl, ref1 _ hy j1⟩, fun hc => absurd rfl hc⟩
    refine ⟨fun a => bad (fun q => absurd a (Int32.not_lt.mpr q.1)), fun a => ⟨fun b => bad (fun q => absurd b (Int32.not_lt.mpr q.2)), fun b => ⟨fun hc => absurd hc (by decide), fun _ => ?_⟩⟩⟩
    have hy : 0 ≤ y ∧ y ≤ 1023 := ⟨Int32.not_lt.mp a, Int32.not_lt.mp b⟩
    have ref : ∀ R : Int32 → SR → Prop, ((E.1 14 t = 0 → R 0 (pI M 0 0 2)) ∧ (E.1 14 t = 1 → E.1 9 t = 3 → R 0 (pI M 0 0 3)) ∧ (¬ E.1 14 t = 0 → ¬ (E.1 14 t = 1 ∧ E.1 9 t = 3) → w_R_take_66 M (nI t) y R)) → w_R_take M (nI t) y R := by
      intro R hr
      refine m_noTrain (mT hM hI) h3 (ex_t ht h3 ⟨fun hc => absurd rfl hc, fun _ => ?_⟩) (fun hn => absurd ⟨t, ht, rfl⟩ hn)
      refine m_in (fun _ _ => ⟨fun _ => ⟨hin, ?_⟩, fun hc => absurd hc (by decide)⟩) (fun hn => absurd hy hn)
      rw [nI_clamp (by omega), e11, e8]
      exact ⟨fun n0 => ⟨hin, fun n1 => hr.2.2 n0 (fun q => n1 q.1), fun e1 => ⟨hin, fun n3 => hr.2.2 n0 (fun q => n3 q.2), fun e3 => hr.2.1 e1 e3⟩⟩, fun e0 => hr.1 e0⟩
    show ((S.1 10 t = 0) → _) ∧ _
    rw [s10]
    have wt : ¬ E.1 10 t = 0 → ((E.1 11 t = 0 ∧ E.1 14 t = 1) ∨ (E.1 11 t = 1 ∧ E.1 14 t = 2)) ∧ E.1 13 t = due (E.1 12 t) (E.2 12 t) := by
      intro e
      rcases hm.2 with q | q
      · exact absurd q.1 e
      · exact q.2
    have nw : E.1 10 t = 0 → E.1 14 t = 0 := by
      intro e
      rcases hm.2 with q | q
      · exact q.2
      · exact absurd (e.symm.trans q.1) (by decide)
    have j2 := jf hR hM hI 2
    have j3 := jf hR hM hI 3
    have r1 := rc_tk (t := t) hR
    have q1 := rm_tk (t := t) hM
    have I1 := ie_tk hI ht
    have hi1 := I1.2.2.2.1 t ht
    refine ⟨fun e => ⟨Or.inr (Or.inl rfl), ref _ ⟨fun _ => j2, fun e1 => absurd ((nw e).symm.trans e1) (by decide), fun e1 => absurd (nw e) e1⟩⟩, fun e => ?_⟩
    obtain ⟨hk, hdue⟩ := wt e
    -- behind the tests
    have go : ¬ (E.1 14 t = 1 ∧ E.1 9 t = 3) → w_G_take_55 S y t t (fun r u => w_R_take M (nI t) y (fun b v => v.1 0 0 = 0 ∧ b = r ∧ J u v)) (fun k u => (k = 1 ∨ k = 2 ∨ k = 3 ∨ k = 4) ∧ w_R_take M (nI t) y (fun _ v => v.1 0 0 = nI k ∧ J u v)) := by
      intro hne
      have n0 : ¬ E.1 14 t = 0 := by
        rcases hk with q | q
        · rw [q.2]; decide
        · rw [q.2]; decide
      have ref' : ∀ R : Int32 → SR → Prop, w_R_take_66 M (nI t) y R → w_R_take M (nI t) y R := fun R hr => ref R ⟨fun e => absurd e n0, fun a b => absurd ⟨a, b⟩ hne, fun _ _ => hr⟩
      refine ⟨fun hc => absurd hc (by decide), fun _ => s_gen r1 ?_ hi1.2.2.2.1 (fun ey => ⟨fun _ => ?_, fun hc => absurd hc (by decide)⟩) (fun ey => ⟨fun hc => absurd rfl hc, fun _ a13 e13 => ⟨Or.inr (Or.inr (Or.inr rfl)), ref' _ ⟨fun hc => absurd hc ey, fun _ => ⟨hin, fun a21 e21 => ?_⟩⟩⟩⟩)⟩
      · exact hdue
      · have t11 : (pI S 10 t 0).1 11 t = E.1 11 t := s11
        rw [t11]
        refine ⟨fun e0 => ?_, fun e0 => ?_⟩
        · -- an authority
          have k1 : E.1 14 t = 1 := by
            rcases hk with q | q
            · exact q.2
            · exact absurd (q.1.symm.trans e0) (by decide)
          have r12 : (pI S 10 t 0).2 12 t = zq 8 ((tkE E t).2 12 t) := r1.2 12 t (by omega)
          rw [r12]
          have d12 : (pI M 11 t 0).2 12 t = lI ((tkE E t).2 12 t) := q1.2 12 t (by omega)
          have d9 : (pI M 11 t 0).2 9 t = lI ((tkE E t).2 9 t) := q1.2 9 t (by omega)
          have d10 : (pI M 11 t 0).2 10 t = lI ((tkE E t).2 10 t) := q1.2 10 t (by omega)
          have d7 : (pI M 11 t 0).2 7 t = lI ((tkE E t).2 7 t) := q1.2 7 t (by omega)
          have d6 : (pI M 11 t 0).2 6 t = lI ((tkE E t).2 6 t) := q1.2 6 t (by omega)
          have hg1 := hi1.1
          unfold IG at hg1
          have hb1 := hi1.2.2.2.1
          have refA : ∀ R : Int32 → SR → Prop, (¬ sfF ((tkE E t).2 12 t) ((tkE E t).2 9 t + (tkE E t).2 10 t) ((tkE E t).2 7 t) 0 ((tkE E t).2 6 t) → R 0 (pI (pI M 11 t 0) 0 0 4)) → (sfF ((tkE E t).2 12 t) ((tkE E t).2 9 t + (tkE E t).2 10 t) ((tkE E t).2 7 t) 0 ((tkE E t).2 6 t) → ∀ v : SR, RM v (acE (tkE E t) t) → ((¬ (E.1 9 t = 1 ∧ E.2 7 t = 0 ∧ rdy (acE (tkE E t) t) nS nR t) → R 1 (pI v 0 0 0)) ∧ ((E.1 9 t = 1 ∧ E.2 7 t = 0 ∧ rdy (acE (tkE E t) t) nS nR t) → R 1 (pI (pI v 8 t 2) 0 0 0)))) → w_R_take_66 M (nI t) y R := by
            intro R ra rb
            refine ⟨fun _ => ⟨hin, ?_⟩, fun hc => absurd ey hc⟩
            rw [nI_clamp (by omega), e11]
            refine ⟨fun hc => absurd k1 hc, fun _ => ⟨hin, hin, hin, hin, hin, ?_⟩⟩
            rw [nI_clamp (by omega), d12, d9, d10, d7, show (0 : Int64) = lI 0 from rfl]
            refine m_safeFor (by omega) d6 (by omega) (by omega) (by omega) (by omega) (by omega) (by omega) (fun hs => ⟨fun _ => ⟨hin, hin, hin, ?_⟩, fun hc => absurd hc (by decide)⟩) (fun hs => ⟨fun hc => absurd rfl hc, fun _ => ra hs⟩)
            rw [d12]
            have qa : RM (pV (pI M 11 t 0) 11 t (lI ((tkE E t).2 12 t))) (acE (tkE E t) t) := RM.pV (rm_xI (rm_xV q1 t _) 7 t 1 (by decide)) 11 t _ (by omega)
            have hr := rb hs _ qa
            generalize pV (pI M 11 t 0) 11 t (lI ((tkE E t).2 12 t)) = v at qa hr
            have v8 : v.1 8 t = E.1 9 t := qa.1 8 t (by omega)
            have v7 : v.2 7 t = lI (E.2 7 t) := qa.2 7 t (by omega)
            rw [v8, v7, lcv (by omega) (by omega)]
            have Ia := ie_ac I1 ht
            refine ⟨fun nm => hr.1 (fun q => nm q.1), fun em => ⟨hin, fun n7 => hr.1 (fun q => n7 (zi_eq.mpr q.2.1)), fun e7 => m_rdy qa Ia.1 h0 (by omega) (Ia.2.2.2.1 t ht) (fun hq => ⟨fun hc => absurd hc (by decide), fun _ => ⟨hin, hr.2 ⟨em, zi_eq.mp e7, hq⟩⟩⟩) (fun hq => ⟨fun _ => hr.1 (fun q => hq q.2.2), fun hc => absurd rfl hc⟩)⟩⟩
          refine s_canStop r1 hi1 (fun hs => ⟨fun hc => absurd hc (by decide), fun _ => ?_⟩) (fun hs => ⟨fun _ => ⟨Or.inr (Or.inr (Or.inr rfl)), ref' _ (refA _ (fun _ => jf r1 q1 I1 4) (fun q => absurd q hs))⟩, fun hc => absurd rfl hc⟩)
          show w_T_accept (pI S 10 t 0) t ((pI S 10 t 0).2 12 t) _
          rw [r12]
          have ra : RC (pI (pV (pI S 10 t 0) 11 t (zq 8 ((tkE E t).2 12 t))) 7 t 1) (acE (tkE E t) t) := rc_xV ((RC.pV r1 11 t _).pI 7 t 1) 13 t _ (by omega)
          have Ia := ie_ac I1 ht
          unfold w_T_accept
          generalize pI (pV (pI S 10 t 0) 11 t (zq 8 ((tkE E t).2 12 t))) 7 t 1 = u at ra
          have u9 : u.1 9 t = E.1 9 t := ra.1 9 t (by omega)
          rw [u9]
          have okn : ¬ (E.1 9 t = 1 ∧ E.2 7 t = 0 ∧ rdy (acE (tkE E t) t) nS nR t) → w_R_take M (nI t) y (fun b v => v.1 0 0 = 0 ∧ b = 1 ∧ J u v) := by
            intro hq
            refine ref' _ (refA _ (fun q => absurd hs q) (fun _ v hv => ⟨fun _ => ?_, fun q => absurd q hq⟩))
            have j := jf ra hv Ia 0
            exact ⟨j.1, rfl, j.2⟩
          have hia := Ia.2.2.2.1 t ht
          refine ⟨fun nm => okn (fun q => nm q.1), fun em => s_stands ra hia.1 (fun e7 => ⟨fun hc => absurd hc (by decide), fun _ => s_now ra Ia.1 h0 hia (fun hq => ⟨fun hc => absurd hc (by decide), fun _ => ?_⟩) (fun hq => ⟨fun _ => okn (fun q => hq q.2.2), fun hc => absurd rfl hc⟩)⟩) (fun e7 => ⟨fun _ => okn (fun q => e7 q.2.1), fun hc => absurd rfl hc⟩)⟩
          refine ref' _ (refA _ (fun q => absurd hs q) (fun _ v hv => ⟨fun q => absurd ⟨em, e7, hq⟩ q, fun _ => ?_⟩))
          have j := jm ra hv Ia ht 2 (Or.inr (Or.inr (Or.inr (Or.inr ⟨rfl, hq.1⟩))))
          exact ⟨j.1, rfl, j.2⟩
        · -- a stop
          have k2 : E.1 14 t = 2 := by
            rcases hk with q | q
            · exact absurd q.1 e0
            · exact q.2
          have refS : ∀ R : Int32 → SR → Prop, (∀ v : SR, RM v (stE (tkE E t) t (E.1 9 t)) → ((¬ (E.1 9 t = 1 ∨ E.1 9 t = 2) → R 0 (pI v 0 0 0)) ∧ ((E.1 9 t = 1 ∨ E.1 9 t = 2) → R 0 (pI (pI v 8 t 3) 0 0 0)))) → w_R_take_66 M (nI t) y R := by
            intro R hr
            refine ⟨fun _ => ⟨hin, ?_⟩, fun hc => absurd ey hc⟩
            rw [nI_clamp (by omega), e11]
            refine ⟨fun _ => ⟨hin, hin, hin, ?_⟩, fun hc => absurd (k2.symm.trans hc) (by decide)⟩
            have qa : RM (pV (pI M 11 t 0) 11 t (lI (-1))) (stE (tkE E t) t (E.1 9 t)) := by
              unfold stE
              have e9 : (pV (pI (tkE E t) 7 t 0) 13 t (-1)).1 9 t = E.1 9 t := rfl
              rw [← e9, pI_id]
              exact RM.pV (rm_xI q1 7 t 0 (by decide)) 11 t (-1) (by omega)
            have hr := hr _ qa
            rw [show (-1 : Int64) = lI (-1) from rfl]
            generalize pV (pI M 11 t 0) 11 t (lI (-1)) = v at qa hr
            have v8 : v.1 8 t = E.1 9 t := by
              have := qa.1 8 t (by omega)
              rw [this]
              show (stE (tkE E t) t (E.1 9 t)).1 9 t = _
              simp [stE, pI_r]
            rw [v8]
            have hmo := hi.2.1.1
            refine m_in (fun p q => ⟨fun hc => absurd hc (by decide), fun _ => ⟨hin, hr.2 ?_⟩⟩) (fun p => ⟨fun _ => hr.1 (fun q => p ?_), fun hc => absurd rfl hc⟩)
            · rcases hmo with z | z | z | z | z <;> rw [z] at p q <;> first | exact Or.inl z | exact Or.inr z | exact absurd p (by decide) | exact absurd q (by decide)
            · rcases q with z | z <;> rw [z] <;> exact ⟨by decide, by decide⟩
          have ra : RC (pI (pI S 10 t 0) 7 t 0) (stE (tkE E t) t (E.1 9 t)) := by
            unfold stE
            have e9 : (pV (pI (tkE E t) 7 t 0) 13 t (-1)).1 9 t = E.1 9 t := rfl
            rw [← e9, pI_id]
            exact rc_xV (r1.pI 7 t 0) 13 t (-1) (by omega)
          have u9 : (pI (pI S 10 t 0) 7 t 0).1 9 t = E.1 9 t := s9
          have st3 : pI (stE (tkE E t) t (E.1 9 t)) 9 t 3 = stE (tkE E t) t 3 := by
            unfold stE
            refine Prod.ext (funext fun d => funext fun i => ?_) rfl
            show (pI (pI _ 9 t _) 9 t 3).1 d i = (pI _ 9 t 3).1 d i
            rw [pI_r, pI_r, pI_r]
            split <;> rfl
          have trip : (E.1 9 t = 1 ∨ E.1 9 t = 2) → w_R_take M (nI t) y (fun b v => v.1 0 0 = 0 ∧ b = 0 ∧ J (pI (pI (pI S 10 t 0) 7 t 0) 9 t 3) v) := by
            intro hq
            refine ref' _ (refS _ (fun v hv => ⟨fun q => absurd hq q, fun _ => ?_⟩))
            have I3 := ie_st (v := 3) I1 ht (by decide)
            rw [← st3] at I3
            have j := jf (RC.pI ra 9 t 3) (RM.pI hv 8 t 3 (by omega)) I3 0
            exact ⟨j.1, rfl, j.2⟩
          unfold w_T_obeyStop
          rw [u9]
          refine ⟨fun e2 => trip (Or.inr e2), fun n2 => ⟨fun n1 => ?_, fun e1 => trip (Or.inl e1)⟩⟩
          refine ref' _ (refS _ (fun v hv => ⟨fun q => ?_, fun q => (q.elim n1 n2).elim⟩))
          have hmo := hi.2.1.1
          have I3 := ie_st (v := E.1 9 t) I1 ht (by
            rcases hmo with z | z | z | z | z
            · exact Or.inl z
            · exact absurd z n1
            · exact absurd z n2
            · exact Or.inr (Or.inr (Or.inl z))
            · exact Or.inr (Or.inr (Or.inr z)))
          have j := jf ra hv I3 0
          exact ⟨j.1, rfl, j.2⟩
      · -- forged
        have f1 : (pI S 10 t 0).1 1 0 = (tkE E t).1 1 0 := r1.1 1 0 (by omega)
        rw [f1] at e13
        subst e13
        rw [nI_clamp (by omega)] at e21 ⊢
        have f4 : (pI M 11 t 0).1 4 0 = (tkE E t).1 1 0 := q1.1 4 0 (by omega)
        rw [f4] at e21
        subst e21
        exact jf (r1.pI 1 0 _) (q1.pI 4 0 _ (by omega)) (ie_fr I1 ht (Fr.rf.i 1 0 _ (by omega)) (ho_i I1.2.2.1 (by decide)) hi1) 4
    show (¬ S.1 11 t = 0 → _) ∧ _
    rw [s11, s9]
    refine ⟨fun n11 => go (fun q => ?_), fun e11' => ⟨fun e3 => ⟨fun _ => ⟨Or.inr (Or.inr (Or.inl rfl)), ref _ ⟨fun q => ?_, fun _ _ => j3, fun _ q => absurd ⟨?_, e3⟩ q⟩⟩, fun hc => absurd rfl hc⟩, fun n3 => go (fun q => n3 q.2)⟩⟩
    · rcases hk with z | z
      · exact n11 z.1
      · exact absurd (z.2.symm.trans q.1) (by decide)
    · rcases hk with z | z
      · exact absurd (z.2.symm.trans q) (by decide)
      · exact absurd (z.1.symm.trans e11') (by decide)
    · rcases hk with z | z
      · exact z.2
      · exact absurd (z.1.symm.trans e11') (by decide)
  · exact m_noTrain (mT hM hI) h3 (fun t ht ex => absurd ⟨t, ht, ex⟩ hn) (fun _ => ⟨fun _ => j1, fun hc => absurd hc (by decide)⟩)
