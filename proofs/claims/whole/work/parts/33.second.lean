-- one second: the wish, the brake, the holders behind
def w0 (E : EA) (t : Nat) (a : Int) : Int := if E.2 7 t + a < 0 then 0 else E.2 7 t + a
theorem w0_p {E : EA} {t : Nat} {a : Int} (h : 0 ≤ E.2 7 t + a) : w0 E t a = E.2 7 t + a := if_neg (by omega)
theorem w0_n {E : EA} {t : Nat} {a : Int} (h : E.2 7 t + a < 0) : w0 E t a = 0 := if_pos h
def wsh (E : EA) (t : Nat) (a : Int) : Int := if E.1 9 t = 1 ∧ 1280 < w0 E t a then 1280 else w0 E t a
def brk (E : EA) (t : Nat) : Int := if E.2 7 t - (if E.1 8 t = 0 then E.2 6 t else E.2 6 t / 2) ≤ 0 then 0 else E.2 7 t - (if E.1 8 t = 0 then E.2 6 t else E.2 6 t / 2)
def sbh (E : EA) (nS nR t : Nat) (w : Int) : Prop := sfS E nS nR (E.2 11 t) (E.2 9 t + wy E t w) (E.2 10 t + wy E t w / 8) w (E.2 6 t) (E.2 5 t)
def NX (E : EA) (nS nR t : Nat) (a nx : Int) (br : Int32) : Prop := (E.1 9 t = 1 ∧ nx = wsh E t a ∧ br = 0) ∨ (E.1 9 t = 3 ∧ nx = brk E t ∧ br = 0) ∨ (E.1 9 t = 2 ∧ sbh E nS nR t (wsh E t a) ∧ nx = wsh E t a ∧ br = 0) ∨ (E.1 9 t = 2 ∧ ¬ sbh E nS nR t (wsh E t a) ∧ nx = brk E t ∧ br = 1)
theorem wsh_facts {E : EA} {t : Nat} {a : Int} (hi : IG E t) (ha : -512 ≤ a ∧ a ≤ 256 ∧ a % 32 = 0) : 0 ≤ wsh E t a ∧ wsh E t a ≤ 15616 ∧ wsh E t a % 16 = 0 ∧ (E.1 9 t = 1 → wsh E t a ≤ 1280) := by
  unfold IG at hi
  have z : 0 ≤ w0 E t a ∧ w0 E t a ≤ 15616 ∧ w0 E t a % 16 = 0 := by
    rcases (show E.2 7 t + a < 0 ∨ 0 ≤ E.2 7 t + a by omega) with c | c
    · rw [w0_n c]; omega
    · rw [w0_p c]; omega
  unfold wsh
  by_cases d : E.1 9 t = 1 ∧ 1280 < w0 E t a
  · rw [if_pos d]; omega
  · rw [if_neg d]
    refine ⟨by omega, by omega, by omega, fun e => ?_⟩
    have : ¬ 1280 < w0 E t a := fun q => d ⟨e, q⟩
    omega
theorem brk_facts {E : EA} {t : Nat} (hi : IG E t) : 0 ≤ brk E t ∧ brk E t ≤ 15360 ∧ brk E t % 16 = 0 := by
  unfold IG at hi
  unfold brk
  by_cases c : E.1 8 t = 0
  · rw [if_pos c]
    split <;> omega
  · rw [if_neg c]
    split <;> omega
theorem sbh_le {E : EA} {nS nR t : Nat} {w : Int} (hl : IL E nS nR) (h0 : 0 < nS) (h : sbh E nS nR t w) : w ≤ 15360 := by
  have := h.2.1
  have := lim_facts hl h0 (wn E nS (E.2 9 t + wy E t w + (E.2 10 t + wy E t w / 8)))
  omega
theorem nx_facts {E : EA} {nS nR t : Nat} {a nx : Int} {br : Int32} (hl : IL E nS nR) (h0 : 0 < nS) (hi : IG E t) (ha : -512 ≤ a ∧ a ≤ 256 ∧ a % 32 = 0) (h : NX E nS nR t a nx br) : 0 ≤ nx ∧ nx ≤ 15360 ∧ nx % 16 = 0 := by
  have w := wsh_facts hi ha
  have b := brk_facts hi
  rcases h with q | q | q | q
  · have := w.2.2.2 q.1
    rw [q.2.1]; omega
  · rw [q.2.1]; omega
  · have := sbh_le hl h0 q.2.1
    rw [q.2.2.1]; omega
  · rw [q.2.2.1]; omega
theorem s_wished {S : SC} {E : EA} {t : Nat} {a : Int} {Q : UInt64 → SC → Prop} (hR : RC S E) (hi : IG E t) (ha : -512 ≤ a ∧ a ≤ 256 ∧ a % 32 = 0) (hQ : Q (zq 8 (wsh E t a)) S) : w_T_wishedSpeed S t (zq 8 a) Q := by
  unfold IG at hi
  unfold w_T_wishedSpeed
  rw [hR.2 7 t (by omega), hR.1 9 t (by omega), zq_add (by omega) (by omega) (by omega), zk_5, zk0]
  refine ⟨zq_fin (by omega) (by omega), fun f1 e1 => ?_⟩
  subst e1
  rw [zcv .g (by omega) (by omega) (by omega), zcv .l (by omega) (by omega) (by omega)]
  unfold wsh at hQ
  refine ⟨fun p => ?_, fun p => ?_⟩
  · have p' := zi_ge.mp p
    rw [w0_p p'] at hQ
    refine ⟨fun n1 => ?_, fun e1 => ⟨fun q => ?_, fun q => ?_⟩⟩
    · rw [if_neg (fun z => n1 z.1)] at hQ
      exact hQ
    · have := zi_le.mp q
      rw [if_neg (fun z => by omega)] at hQ
      exact hQ
    · have : ¬ E.2 7 t + a ≤ 1280 := fun z => q (zi_le.mpr z)
      rw [if_pos ⟨e1, by omega⟩] at hQ
      exact hQ
  · have p' : ¬ 0 ≤ E.2 7 t + a := fun z => p (zi_ge.mpr z)
    rw [w0_n (by omega), if_neg (fun z => absurd z.2 (by decide))] at hQ
    exact hQ
theorem s_braked {S : SC} {E : EA} {t : Nat} {Q : UInt64 → SC → Prop} (hR : RC S E) (hi : IG E t) (hQ : Q (zq 8 (brk E t)) S) : w_T_brakedSpeed S t Q := by
  unfold IG at hi
  have r6 := hR.2 6 t (by omega)
  have r7 := hR.2 7 t (by omega)
  have r8 := hR.1 8 t (by omega)
  have go : ∀ b : Int, 0 ≤ b ∧ b ≤ 600 → Q (zq 8 (if E.2 7 t - b ≤ 0 then 0 else E.2 7 t - b)) S → w_T_brakedSpeed_26 t S (zq 8 b) (zq 8 (E.2 7 t)) Q := by
    intro b hb hq
    unfold w_T_brakedSpeed_26
    rw [zq_sub (by omega) (by omega) (by omega), zk0]
    refine ⟨zq_fin (by omega) (by omega), fun f e => ?_⟩
    subst e
    rw [zcv .l (by omega) (by omega) (by omega)]
    refine ⟨fun p => ?_, fun p => ?_⟩
    · rw [if_pos (zi_le.mp p)] at hq
      exact hq
    · rw [if_neg (fun z => p (zi_le.mpr z))] at hq
      exact hq
  unfold brk at hQ
  unfold w_T_brakedSpeed
  rw [r6, r7, r8]
  refine ⟨fun p => ?_, fun p => ?_⟩
  · rw [if_pos p] at hQ
    exact go _ (by omega) hQ
  · rw [if_neg p] at hQ
    rw [zk_half, z_half (by omega) (by omega) (by omega)]
    refine ⟨zq_fin (by omega) (by omega), fun f1 e1 => ?_⟩
    subst e1
    exact go _ (by omega) hQ
theorem s_behind {S : SC} {E : EA} {nS nR t : Nat} {w : Int} {Q : Int32 → SC → Prop} (hR : RC S E) (hl : IL E nS nR) (h0 : 0 < nS) (hi : IT E t) (h7 : E.1 7 t = 1) (hw : 0 ≤ w ∧ w ≤ 16000 ∧ w % 16 = 0) (h1 : sbh E nS nR t w → Q 1 S) (h2 : ¬ sbh E nS nR t w → Q 0 S) : w_T_isSafeBehind S t (zq 8 w) Q := by
  have hg := hi.1
  have ha := hi.2.2.1
  unfold AU at ha
  have wf := wy_facts (k := 0) hg hw (by omega)
  refine s_wayTo hR hg hw ?_
  unfold IG at hg
  rw [hR.2 9 t (by omega), hR.2 10 t (by omega), z_8th (by omega), zq_add (by omega) (by omega) (by omega)]
  refine ⟨zq_fin (by omega) (by omega), fun f3 e3 => ⟨zq_fin (by omega) (by omega), fun f4 e4 => ?_⟩⟩
  subst e3
  subst e4
  rw [zq_add (by omega) (by omega) (by omega)]
  refine ⟨zq_fin (by omega) (by omega), fun f5 e5 => ?_⟩
  subst e5
  refine s_isSafeState hR hl h0 rfl rfl (by omega) (by omega) (by omega) (by omega) (by omega) (by omega) (fun e => absurd (e.symm.trans h7) (by decide)) (fun _ hs => ⟨rfl, h1 hs⟩) (fun _ hs => ⟨rfl, h2 hs⟩)
theorem s_run {S : SC} {E : EA} {nS nR t : Nat} {a k nx : Int} {x br : Int32} {Q : Int32 → SC → Prop} (hR : RC S E) (hl : IL E nS nR) (h0 : 0 < nS) (hi : IT E t) (ha : -512 ≤ a ∧ a ≤ 256 ∧ a % 32 = 0) (hx : x.toInt = k) (hk : k = -1 ∨ k = 0 ∨ k = 1) (hn : NX E nS nR t a nx br)
    (hQ : ∀ E' : EA, MV E nS t nx k E' → ∀ u : SC, RC u E' → ((¬ E.1 9 t = 2 → Q br u) ∧ (E.1 9 t = 2 → (E'.2 8 t ≤ E.2 11 t → Q br u) ∧ (¬ E'.2 8 t ≤ E.2 11 t → Q br (pI (pI u 9 t 3) 7 t 0))))) : w_T_runSecond S t (zq 8 a) x Q := by
  have hg := hi.1
  have hau := hi.2.2.1
  unfold AU at hau
  have nf := nx_facts hl h0 hg ha hn
  have wf := wsh_facts hg ha
  have s9 := hR.1 9 t (by omega)
  have hbr : br = 0 ∨ br = 1 := by
    rcases hn with q | q | q | q
    · exact Or.inl q.2.2
    · exact Or.inl q.2.2
    · exact Or.inl q.2.2.2
    · exact Or.inr q.2.2.2
  have nar : narrow .boolean (.int br) = .int br := by rcases hbr with e | e <;> rw [e] <;> rfl
  have mv : w_T_runSecond_56 t S x br (zq 8 nx) Q := by
    refine s_move hR hl hg (by omega) hx hk (fun E' hm u hu => ?_)
    have hq := hQ E' hm u hu
    have e9 : E'.1 9 t = E.1 9 t := by rcases hm with q | q | q <;> first | rw [q.2]; rfl | rw [q.2.2]; rfl
    have e11 : E'.2 11 t = E.2 11 t := by
      rcases hm with q | q | q
      · rw [q.2, u4_r]; simp
      · rw [q.2.2, u4_r]; simp
      · rw [q.2.2, u4_r]; simp
    have b8 : (E'.2 8 t).natAbs < 100000000 := by
      have wy1 := wy_facts (w := nx) hg (by omega) hk
      have hbe := hl.bg nS (by omega)
      have hn10 := hl.2.1
      unfold IG at hg
      rcases hm with q | q | q
      · rw [q.2, u4_r]; simp; omega
      · rw [q.2.2, u4_r]; simp; omega
      · rw [q.2.2, u4_r]; simp; omega
    rw [hu.1 9 t (by omega), hu.2 8 t (by omega), hu.2 11 t (by omega), e9, e11, zcv .l (by omega) (by omega) (by omega)]
    exact ⟨fun n2 => ⟨nar, hq.1 n2⟩, fun e2 => ⟨fun z => ⟨nar, (hq.2 e2).1 (zi_le.mp z)⟩, fun z => ⟨nar, (hq.2 e2).2 (fun w => z (zi_le.mpr w))⟩⟩⟩
  refine s_wished hR hg ha ?_
  rw [s9]
  refine ⟨fun n2 => ⟨fun hc => absurd rfl hc, fun _ => ⟨fun n3 => ?_, fun e3 => ?_⟩⟩, fun e2 => s_behind hR hl h0 hi (hi.2.1.2 e2) (by omega) (fun hs => ⟨fun _ => ⟨fun hc => absurd rfl hc, fun _ => ⟨fun _ => ?_, fun e3 => ?_⟩⟩, fun hc => absurd hc (by decide)⟩) (fun hs => ⟨fun hc => absurd rfl hc, fun _ => ⟨fun _ => s_braked hR hg ?_, fun hc => absurd hc (by decide)⟩⟩)⟩
  · rw [s9] at n3
    rcases hn with q | q | q | q
    · rw [q.2.1, q.2.2] at mv
      exact mv
    · exact absurd q.1 n3
    · exact absurd q.1 n2
    · exact absurd q.1 n2
  · rw [s9] at e3
    refine s_braked hR hg ?_
    rcases hn with q | q | q | q
    · exact absurd (e3.symm.trans q.1) (by decide)
    · rw [q.2.1, q.2.2] at mv
      exact mv
    · exact absurd q.1 n2
    · exact absurd q.1 n2
  · rcases hn with q | q | q | q
    · exact absurd (e2.symm.trans q.1) (by decide)
    · exact absurd (e2.symm.trans q.1) (by decide)
    · rw [q.2.2.1, q.2.2.2] at mv
      exact mv
    · exact absurd hs q.2.1
  · rw [s9] at e3
    exact absurd (e2.symm.trans e3) (by decide)
  · rcases hn with q | q | q | q
    · exact absurd (e2.symm.trans q.1) (by decide)
    · exact absurd (e2.symm.trans q.1) (by decide)
    · exact absurd q.2.1 hs
    · rw [q.2.2.1, q.2.2.2] at mv
      exact mv
theorem m_wish {M : SR} {E : EA} {nS nR t : Nat} {a nx : Int} {br : Int32} {R : Int64 → SR → Prop} (hM : RM M E) (hl : IL E nS nR) (h0 : 0 < nS) (ht : t < 3) (hi : IT E t) (ha : -512 ≤ a ∧ a ≤ 256 ∧ a % 32 = 0) (hn : NX E nS nR t a nx br) (r0 : br = 0 → R (lI nx) M) (r1 : br = 1 → R (lI nx) (pI M 5 0 (E.1 2 0 + 1))) : w_R_wish M (nI t) (lI a) R := by
  have hg := hi.1
  have wf := wsh_facts hg ha
  have bf := brk_facts hg
  have wyf := wy_facts (w := wsh E t a) (k := 0) hg (by omega) (by omega)
  have hau := hi.2.2.1
  unfold AU at hau
  have hin : vp_in (nI t) 3 := vp_in_nI ht (by decide)
  have c7 : M.2 7 t = lI (E.2 7 t) := hM.2 7 t (by omega)
  have c6 : M.2 6 t = lI (E.2 6 t) := hM.2 6 t (by omega)
  have c9 : M.2 9 t = lI (E.2 9 t) := hM.2 9 t (by omega)
  have c10 : M.2 10 t = lI (E.2 10 t) := hM.2 10 t (by omega)
  have e8 : M.1 8 t = E.1 9 t := hM.1 8 t (by omega)
  have e9 : M.1 9 t = E.1 8 t := hM.1 9 t (by omega)
  unfold IG at hg
  -- from both numbers on
  have s100 : w_R_wish_100 M (nI t) (lI (E.2 7 t)) (lI (wsh E t a)) (lI (brk E t)) R := by
    refine ⟨hin, ?_⟩
    rw [nI_clamp (by omega), e8]
    refine ⟨fun n3 b6 q6 b7 q7 => ⟨hin, fun e1 => ?_, fun n1 => ⟨hin, fun b8 q8 => ⟨hin, fun b9 q9 b10 q10 => ?_⟩⟩⟩, fun e3 => ?_⟩
    · rcases hn with q | q | q | q
      · rw [← q.2.1]; exact r0 q.2.2
      · exact absurd q.1 n3
      · exact absurd (e1.symm.trans q.1) (by decide)
      · exact absurd (e1.symm.trans q.1) (by decide)
    · rw [lI_add] at q6
      subst q6
      rw [show (2 : Int64) = lI 2 from rfl, lI_div (by omega) (by omega) (by omega) (by omega)] at q7
      have q7 : b7 = lI (wy E t (wsh E t a)) := q7
      subst q7
      rw [show (8 : Int64) = lI 8 from rfl, lI_div (by omega) (by omega) (by omega) (by omega)] at q9
      subst q9
      rw [c9, lI_add] at q8
      subst q8
      rw [c10, lI_add] at q10
      subst q10
      have m2 : E.1 9 t = 2 := by
        rcases hn with q | q | q | q
        · exact absurd q.1 n1
        · exact absurd q.1 n3
        · exact q.1
        · exact q.1
      have au : E.2 13 t = E.2 11 t := by
        rcases hau.2 with q | q
        · exact absurd (q.1.symm.trans (hi.2.1.2 m2)) (by decide)
        · exact q.2
      refine m_safe hM hl h0 ht rfl rfl (by omega) (by omega) (by omega) (by omega) (by omega) (by omega) (fun hs => ⟨fun hc => absurd hc (by decide), fun _ => ?_⟩) (fun hs => ⟨fun _ a13 e13 => ?_, fun hc => absurd rfl hc⟩)
      · rw [au] at hs
        rcases hn with q | q | q | q
        · exact absurd q.1 n1
        · exact absurd q.1 n3
        · rw [← q.2.2.1]; exact r0 q.2.2.2
        · exact absurd hs q.2.1
      · rw [au] at hs
        have m5 : M.1 5 0 = E.1 2 0 := hM.1 5 0 (by omega)
        rw [m5] at e13
        subst e13
        rcases hn with q | q | q | q
        · exact absurd q.1 n1
        · exact absurd q.1 n3
        · exact absurd q.2.1 hs
        · rw [← q.2.2.1]; exact r1 q.2.2.2
    · rcases hn with q | q | q | q
      · exact absurd (e3.symm.trans q.1) (by decide)
      · rw [← q.2.1]; exact r0 q.2.2
      · exact absurd (e3.symm.trans q.1) (by decide)
      · exact absurd (e3.symm.trans q.1) (by decide)
  have s79 : ∀ b : Int, 0 ≤ b ∧ b ≤ 600 → brk E t = (if E.2 7 t - b ≤ 0 then 0 else E.2 7 t - b) → w_R_wish_79 M (nI t) (lI (E.2 7 t)) (lI (wsh E t a)) (lI b) R := by
    intro b hb eb b4 e4
    rw [lI_sub] at e4
    subst e4
    rw [show (0 : Int64) = lI 0 from rfl, lcv (by omega) (by omega)]
    refine ⟨fun p => ?_, fun p b5 e5 => ?_⟩
    · rw [if_pos (zi_le.mp p)] at eb
      rw [eb] at s100
      exact s100
    · rw [lI_sub] at e5
      subst e5
      rw [if_neg (fun z => p (zi_le.mpr z))] at eb
      rw [eb] at s100
      exact s100
  have s51 : w_R_wish_51 M (nI t) (lI (E.2 7 t)) (lI (wsh E t a)) R := by
    refine ⟨hin, ?_⟩
    rw [nI_clamp (by omega), e9, c6]
    refine ⟨fun p => ⟨hin, s79 _ (by omega) ?_⟩, fun p => ⟨hin, fun b3 e3 => ?_⟩⟩
    · unfold brk
      rw [if_pos p]
    · rw [show (2 : Int64) = lI 2 from rfl, lI_div (by omega) (by omega) (by omega) (by omega)] at e3
      subst e3
      refine s79 _ (by omega) ?_
      unfold brk
      rw [if_neg p]
  have s25 : w_R_wish_25 M (nI t) (lI (E.2 7 t)) (lI (w0 E t a)) R := by
    have hb2 : (w0 E t a).natAbs < 100000000 := by unfold w0; split <;> omega
    refine ⟨hin, ?_⟩
    rw [nI_clamp (by omega), e8, show (1280 : Int64) = lI 1280 from rfl, lcv (by omega) (by omega)]
    unfold wsh at s51
    refine ⟨fun n1 => ?_, fun e1 => ⟨fun p => ?_, fun p => ?_⟩⟩
    · rw [if_neg (fun z => n1 z.1)] at s51
      exact s51
    · have := zi_le.mp p
      rw [if_neg (fun z => by omega)] at s51
      exact s51
    · have : ¬ w0 E t a ≤ 1280 := fun z => p (zi_le.mpr z)
      rw [if_pos ⟨e1, by omega⟩] at s51
      exact s51
  refine ⟨hin, fun b1 e1 => ?_⟩
  rw [nI_clamp (by omega)] at e1 ⊢
  rw [c7] at e1 ⊢
  rw [lI_add] at e1
  subst e1
  rw [show (0 : Int64) = lI 0 from rfl, lcv (by omega) (by omega)]
  refine ⟨fun p => ?_, fun p b2 e2 => ?_⟩
  · have := zi_le.mp p
    have ez : w0 E t a = 0 := by unfold w0; split <;> omega
    rw [ez] at s25
    exact s25
  · rw [lI_add] at e2
    subst e2
    have : ¬ E.2 7 t + a ≤ 0 := fun z => p (zi_le.mpr z)
    rw [w0_p (by omega)] at s25
    exact s25
def frL (t : Nat) : Nat → Nat → EA → EA
  | 0, _, E => E
  | n + 1, i, E => frL t n (i + 1) (if E.1 6 i = nI t ∧ E.2 0 (i + 1) ≤ E.2 8 t - E.2 5 t then pI E 6 i (-1) else E)
theorem frL_fr {t nS : Nat} : ∀ (n i : Nat) (E : EA), HO E nS → FrH E (frL t n i E) ∧ HO (frL t n i E) nS := by
  intro n
  induction n with
  | zero => intro i E h; exact ⟨FrH.rf, h⟩
  | succ n ih =>
    intro i E h
    unfold frL
    by_cases c : E.1 6 i = nI t ∧ E.2 0 (i + 1) ≤ E.2 8 t - E.2 5 t
    · rw [if_pos c]
      have := ih (i + 1) _ (ho_6 (i := i) h (Or.inl rfl))
      exact ⟨(FrH.rf.i i _).tr this.1, this.2⟩
    · rw [if_neg c]
      exact ih (i + 1) E h
theorem s_frL {nS nR t : Nat} {r : Int} {Q : SC → Prop} (hr : r.natAbs < 100000000) : ∀ (n i : Nat) (S : SC) (E : EA), RC S E → IL E nS nR → E.2 8 t - E.2 5 t = r → i + n = nS → (∀ u : SC, RC u (frL t n i E) → Q u) → w_L_freeBelow_3 (n + 1) S (zq 8 r) (nI t) (nI i) Q := by
  intro n
  induction n with
  | zero =>
    intro i S E hR hl hb hi hQ
    have hn := hl.2.1
    have e4 : S.1 4 0 = nI nS := (hR.1 4 0 (by omega)).trans hl.1
    exact ⟨fun _ => hQ S hR, fun hc => absurd (by rw [e4]; exact nI_le (by omega) (by omega)) hc⟩
  | succ n ih =>
    intro i S E hR hl hb hi hQ
    have hn := hl.2.1
    have g := hl.bg (i + 1) (by omega)
    have e4 : S.1 4 0 = nI nS := (hR.1 4 0 (by omega)).trans hl.1
    unfold frL at hQ
    have hvi : vp_in (nI i) 10 := vp_in_nI (by omega) (by decide)
    have go : ¬ (E.1 6 i = nI t ∧ E.2 0 (i + 1) ≤ E.2 8 t - E.2 5 t) → w_L_freeBelow_3 (n + 1) S (zq 8 r) (nI t) (nI i + 1) Q := by
      intro c
      rw [if_neg c] at hQ
      rw [nI_1]
      exact ih _ _ _ hR hl hb (by omega) hQ
    refine ⟨fun hc => absurd hc (by rw [e4]; exact nI_ge (by omega) (by omega)), fun _ => ⟨hvi, ?_⟩⟩
    rw [nI_clamp (by omega), hR.1 6 i (by omega)]
    refine ⟨fun a => go (fun q => a q.1), fun a => s_endOf hR (show i < nS by omega) hn ?_⟩
    rw [zcv .g (by omega) (by omega) (by omega)]
    refine ⟨fun b => go (fun q => ?_), fun b => ⟨hvi, ?_⟩⟩
    · have := zi_gt.mp b
      omega
    · show w_L_freeBelow_3 (n + 1) (pI S 6 i (-1)) (zq 8 r) (nI t) (nI i + 1) Q
      have b' : ¬ r < E.2 0 (i + 1) := fun q => b (zi_gt.mpr q)
      rw [if_pos ⟨a, by omega⟩] at hQ
      rw [nI_1]
      exact ih _ _ _ (hR.pI 6 i (-1)) (((FrH.rf (E := E)).i i (-1)).fr 0 |>.il hl) hb (by omega) hQ
theorem m_frL {nS nR t : Nat} {Q : SR → Prop} (ht : t < 3) : ∀ (n i : Nat) (M : SR) (E : EA), RM M E → IL E nS nR → bnd E t → i + n = nS → (∀ u : SR, RM u (frL t n i E) → Q u) → w_R_pass_80 (n + 1) M (nI t) (nI i) Q := by
  intro n
  induction n with
  | zero =>
    intro i M E hM hl hb hi hQ
    have hn := hl.2.1
    have e4 : M.1 1 0 = nI nS := (hM.1 1 0 (by omega)).trans hl.1
    exact ⟨fun _ => hQ M hM, fun hc => absurd (by rw [e4]; exact nI_le (by omega) (by omega)) hc⟩
  | succ n ih =>
    intro i M E hM hl hb hi hQ
    have hn := hl.2.1
    have g := hl.bg (i + 1) (by omega)
    have hb' := hb
    unfold bnd at hb'
    have e4 : M.1 1 0 = nI nS := (hM.1 1 0 (by omega)).trans hl.1
    have e6 : M.1 7 i = E.1 6 i := hM.1 7 i (by omega)
    have c0 : M.2 0 (i + 1) = lI (E.2 0 (i + 1)) := hM.2 0 (i + 1) (by omega)
    have c8 : M.2 8 t = lI (E.2 8 t) := hM.2 8 t (by omega)
    have c5 : M.2 5 t = lI (E.2 5 t) := hM.2 5 t (by omega)
    unfold frL at hQ
    have hvi : vp_in (nI i) 10 := vp_in_nI (by omega) (by decide)
    have hin : vp_in (nI t) 3 := vp_in_nI ht (by decide)
    have go : ¬ (E.1 6 i = nI t ∧ E.2 0 (i + 1) ≤ E.2 8 t - E.2 5 t) → w_R_pass_80 (n + 1) M (nI t) (nI i + 1) Q := by
      intro c
      rw [if_neg c] at hQ
      rw [nI_1]
      exact ih _ _ _ hM hl hb (by omega) hQ
    refine ⟨fun hc => absurd hc (by rw [e4]; exact nI_ge (by omega) (by omega)), fun _ => ⟨hvi, ?_⟩⟩
    rw [nI_clamp (by omega), e6]
    refine ⟨fun a => go (fun q => a q.1), fun a a5 ea => ?_⟩
    rw [nI_1] at ea
    subst ea
    refine ⟨vp_in_nI (by omega) (by decide), hin, hin, fun b6 e6' => ?_⟩
    rw [nI_clamp (by omega), c8, c5, lI_sub] at e6'
    subst e6'
    rw [nI_clamp (by omega), c0, lcv (by omega) (by omega)]
    refine ⟨fun b => go (fun q => ?_), fun b => ⟨hvi, ?_⟩⟩
    · have := zi_gt.mp b
      omega
    · show w_R_pass_80 (n + 1) (pI M 7 i (-1)) (nI t) (nI i + 1) Q
      have b' : ¬ E.2 8 t - E.2 5 t < E.2 0 (i + 1) := fun q => b (zi_gt.mpr q)
      rw [if_pos ⟨a, by omega⟩] at hQ
      rw [nI_1]
      exact ih _ _ _ (hM.pI 7 i (-1) (by omega)) (((FrH.rf (E := E)).i i (-1)).fr 0 |>.il hl) hb (by omega) hQ
