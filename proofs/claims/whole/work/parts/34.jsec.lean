-- second
theorem ie_cnt {E : EA} {nS nR nT : Nat} (h : IE E nS nR nT) (c : Nat) (k : Int32) (hc : c = 1 ∨ c = 2 ∨ c = 3) : IE (pI E c 0 k) nS nR nT := by
  have hf : ∀ t : Nat, Fr E (pI E c 0 k) t := fun t => Fr.rf.i c 0 k (by omega)
  refine ⟨(hf 0).il h.1, ?_, fun s hs => ?_, fun t' ht' => ?_, fun t' ht' h3 => ?_⟩
  · rw [(hf 0).1 0 0 (by omega)]; exact h.2.1
  · rw [pI_o (Or.inl (by omega))]; exact h.2.2.1 s hs
  · exact it_ag (fun c a b => (hf (t' + 1)).2.2.1 c t' (by omega) a b) (fun c a => rfl) (h.2.2.2.1 t' ht')
  · exact iu_ag (fun c a b => (hf (t' + 1)).2.2.1 c t' (by omega) a b) (fun c a => rfl) (h.2.2.2.2 t' ht' h3)
theorem st_eq (E : EA) (t : Nat) (v : Int32) : stE E t v = pV (pI (pI E 9 t v) 7 t 0) 13 t (-1) := by
  unfold stE
  show pV (pI (pI E 7 t 0) 9 t v) 13 t (-1) = _
  rw [pI_comm E (by decide : (7 : Nat) ≠ 9)]
theorem ie_mv {E E' : EA} {nS nR nT t : Nat} {w k : Int} (hI : IE E nS nR nT) (ht : t < nT) (hw : 0 ≤ w ∧ w ≤ 15360 ∧ w % 16 = 0) (hk : k = -1 ∨ k = 0 ∨ k = 1) (hm : MV E nS t w k E') : IE E' nS nR nT ∧ (E'.1 = E.1) ∧ (∀ c : Nat, 11 ≤ c → E'.2 c t = E.2 c t) := by
  have hi := hI.2.2.2.1 t ht
  have hg := hi.1
  have wf := wy_facts (w := w) hg (by omega) hk
  have hn10 := hI.1.2.1
  have hbe := hI.1.bg nS (by omega)
  have fr : ∀ a b c d : Int, Fr E (upd4 E t a b c d) t := fun a b c d => (((Fr.rf.v 9 _ (by omega)).v 10 _ (by omega)).v 8 _ (by omega)).v 7 _ (by omega)
  have key : ∀ sp re me ma : Int, (0 ≤ sp ∧ sp ≤ 15360 ∧ sp % 16 = 0) → (0 ≤ re ∧ re ≤ 2560000 ∧ 0 ≤ ma ∧ 7 * ma ≤ re ∧ me ≤ re + ma ∧ re ≤ me + ma) → IE (upd4 E t sp re me ma) nS nR nT ∧ ((upd4 E t sp re me ma).1 = E.1) ∧ (∀ c : Nat, 11 ≤ c → (upd4 E t sp re me ma).2 c t = E.2 c t) := by
    intro sp re me ma h1 h2
    have o : ∀ c : Nat, ¬ (7 ≤ c ∧ c ≤ 10) → (upd4 E t sp re me ma).2 c t = E.2 c t := by
      intro c hc
      rw [u4_r, if_neg (by omega), if_neg (by omega), if_neg (by omega), if_neg (by omega)]
    have o7 : (upd4 E t sp re me ma).2 7 t = sp := by rw [u4_r]; simp
    have o8 : (upd4 E t sp re me ma).2 8 t = re := by rw [u4_r]; simp
    have o9 : (upd4 E t sp re me ma).2 9 t = me := by rw [u4_r]; simp
    have o10 : (upd4 E t sp re me ma).2 10 t = ma := by rw [u4_r]; simp
    refine ⟨ie_fr hI ht (fr sp re me ma) hI.2.2.1 ⟨?_, hi.2.1, ?_, ?_⟩, rfl, fun c hc => o c (by omega)⟩
    · unfold IG at hg ⊢
      rw [o 5 (by omega), o 6 (by omega), o7, o8, o9, o10]
      exact ⟨hg.1, hg.2.1, h1, h2⟩
    · have := hi.2.2.1
      unfold AU at this ⊢
      rw [o 11 (by omega), o 13 (by omega)]
      exact this
    · have := hi.2.2.2
      unfold ME at this ⊢
      rw [o 12 (by omega)]
      exact this
  unfold IG at hg
  rcases hm with q | q | q
  · rw [q.2]
    exact key _ _ _ _ (by omega) (by omega)
  · rw [q.2.2]
    exact key _ _ _ _ hw (by omega)
  · rw [q.2.2]
    exact key _ _ _ _ hw (by omega)
theorem sl_m {x : Int32} (h : -1 ≤ x) (h2 : x ≤ 1) : x = -1 ∨ x = 0 ∨ x = 1 := by
  have a := Int32.le_iff_toInt_le.mp h
  have b := Int32.le_iff_toInt_le.mp h2
  have em : (-1 : Int32).toInt = -1 := by decide
  have e0 : (0 : Int32).toInt = 0 := by decide
  have e1 : (1 : Int32).toInt = 1 := by decide
  rcases (show x.toInt = -1 ∨ x.toInt = 0 ∨ x.toInt = 1 by omega) with q | q | q
  · exact Or.inl (Int32.toInt_inj.mp (q.trans em.symm))
  · exact Or.inr (Or.inl (Int32.toInt_inj.mp (q.trans e0.symm)))
  · exact Or.inr (Or.inr (Int32.toInt_inj.mp (q.trans e1.symm)))
theorem j_second {S : SC} {M : SR} {x y : Int32} {n : Int} (h : J S M) (hn : n.natAbs < 4294967296) : w_G_second S x (zq 3 n) y (fun r u => w_R_second M x (zq 3 n) y (fun b v => v.1 0 0 = 0 ∧ b = r ∧ J u v)) (fun k u => (k = 1 ∨ k = 2 ∨ k = 3 ∨ k = 4) ∧ w_R_second M x (zq 3 n) y (fun _ v => v.1 0 0 = nI k ∧ J u v)) := by
  obtain ⟨E, nS, nR, nT, hR, hM, hI⟩ := h
  have h3 := hT3 hI
  have hl := hI.1
  have hn10 := hl.2.1
  have j0 := jf hR hM hI 0
  have j1 := jf hR hM hI 1
  refine s_tn (eT hR hI) h3 (fun t ht ex => ?_) (fun hn => ⟨Or.inl rfl, ?_⟩)
  · subst ex
    have h0 := hI.2.1.2.2 (by omega)
    have hi := hI.2.2.2.1 t ht
    have hin : vp_in (nI t) 3 := vp_in_nI (by omega) (by decide)
    have e8 : M.1 8 t = E.1 9 t := hM.1 8 t (by omega)
    have s9 : S.1 9 t = E.1 9 t := hR.1 9 t (by omega)
    have bad : ¬ (-16 ≤ n ∧ n ≤ 8 ∧ -1 ≤ y ∧ y ≤ 1) → w_G_second_34 S (nI t) (zq 3 n) y t (fun r u => w_R_second M (nI t) (zq 3 n) y (fun b v => v.1 0 0 = 0 ∧ b = r ∧ J u v)) (fun k u => (k = 1 ∨ k = 2 ∨ k = 3 ∨ k = 4) ∧ w_R_second M (nI t) (zq 3 n) y (fun _ v => v.1 0 0 = nI k ∧ J u v)) := by
      intro q
      refine ⟨fun _ => ⟨Or.inl rfl, ?_⟩, fun hc => absurd rfl hc⟩
      refine m_noTrain (mT hM hI) h3 (ex_t ht h3 ⟨fun hc => absurd rfl hc, fun _ => ?_⟩) (fun hn => absurd ⟨t, ht, rfl⟩ hn)
      rw [zk_m2, zk_1]
      exact m_between (by omega) (by omega) (by decide) (by decide) (fun a b => ⟨fun hc => absurd hc (by decide), fun _ => m_in (fun c d => absurd ⟨a, b, c, d⟩ q) (fun _ => ⟨fun hc => absurd rfl hc, fun _ => j1⟩)⟩) (fun _ => ⟨fun _ => j1, fun hc => absurd rfl hc⟩)
    rw [zk_m2, zk_1]
    refine s_isWithin (by omega) (by omega) (by decide) (by decide) (fun a b => ⟨fun hc => absurd hc (by decide), fun _ => ⟨fun c => bad (fun q => absurd c (Int32.not_lt.mpr q.2.2.1)), fun c => ⟨fun d => bad (fun q => absurd d (Int32.not_lt.mpr q.2.2.2)), fun d => ⟨fun hc => absurd hc (by decide), fun _ => ?_⟩⟩⟩⟩) (fun a => ⟨fun _ => bad (fun q => a ⟨q.1, q.2.1⟩), fun hc => absurd rfl hc⟩)
    have hy : -1 ≤ y ∧ y ≤ 1 := ⟨Int32.not_lt.mp c, Int32.not_lt.mp d⟩
    -- the reference's, behind its tests
    have ref : ∀ R : Int32 → SR → Prop, ((¬ (1 ≤ E.1 9 t ∧ E.1 9 t ≤ 3) → R (E.1 9 t) (pI M 0 0 0)) ∧ ((1 ≤ E.1 9 t ∧ E.1 9 t ≤ 3) → w_R_pass M (nI t) (lI (32 * n)) y (fun v => R (v.1 8 t) (pI v 0 0 0)))) → w_R_second M (nI t) (zq 3 n) y R := by
      intro R hr
      refine m_noTrain (mT hM hI) h3 (ex_t ht h3 ⟨fun hc => absurd rfl hc, fun _ => ?_⟩) (fun hn => absurd ⟨t, ht, rfl⟩ hn)
      rw [zk_m2, zk_1]
      refine m_between (by omega) (by omega) (by decide) (by decide) (fun _ _ => ⟨fun hc => absurd hc (by decide), fun _ => m_in (fun _ _ => ⟨fun _ => ⟨hin, ?_⟩, fun hc => absurd hc (by decide)⟩) (fun q => absurd hy q)⟩) (fun q => absurd ⟨a, b⟩ q)
      rw [nI_clamp (by omega), e8]
      refine m_in (fun p q => ⟨fun hc => absurd hc (by decide), fun _ => m_whole (by omega) ?_⟩) (fun p => ⟨fun _ => ⟨hin, ?_⟩, fun hc => absurd rfl hc⟩)
      · have := hr.2 ⟨p, q⟩
        have ew : (fun S15 => w_R_second_60 S15 (nI t) R) = (fun v => vp_in (nI t) 3 ∧ R (v.1 8 t) (pI v 0 0 0)) := by
          funext v
          unfold w_R_second_60
          rw [nI_clamp (by omega)]
          rfl
        rw [ew]
        have ew2 : (fun v : SR => vp_in (nI t) 3 ∧ R (v.1 8 t) (pI v 0 0 0)) = (fun v => R (v.1 8 t) (pI v 0 0 0)) := by
          funext v
          exact propext ⟨fun z => z.2, fun z => ⟨hin, z⟩⟩
        rw [ew2]
        exact this
      · rw [nI_clamp (by omega), e8]
        exact hr.1 p
    show ((S.1 9 t = 0) → _) ∧ _
    rw [s9]
    have stay : ¬ (1 ≤ E.1 9 t ∧ E.1 9 t ≤ 3) → w_R_second M (nI t) (zq 3 n) y (fun b v => v.1 0 0 = 0 ∧ b = E.1 9 t ∧ J S v) :=
      fun q => ref _ ⟨fun _ => ⟨j0.1, rfl, j0.2⟩, fun z => absurd z q⟩
    have hmo := hi.2.1.1
    refine ⟨fun e => stay (by rw [e]; decide), fun n0 => ⟨fun n4 => ?_, fun e => stay (by rw [e]; decide)⟩⟩
    have m13 : 1 ≤ E.1 9 t ∧ E.1 9 t ≤ 3 := by
      rcases hmo with z | z | z | z | z
      · exact absurd z n0
      · rw [z]; decide
      · rw [z]; decide
      · rw [z]; decide
      · exact absurd z n4
    have hk := sl_m hy.1 hy.2
    obtain ⟨k, hk1, hk2, hk3⟩ : ∃ k : Int, y.toInt = k ∧ y.toInt64 = lI k ∧ (k = -1 ∨ k = 0 ∨ k = 1) := by
      rcases hk with e | e | e
      · subst e; exact ⟨-1, by decide, by decide, Or.inl rfl⟩
      · subst e; exact ⟨0, by decide, by decide, Or.inr (Or.inl rfl)⟩
      · subst e; exact ⟨1, by decide, by decide, Or.inr (Or.inr rfl)⟩
    obtain ⟨nx, br, hnx⟩ : ∃ (nx : Int) (br : Int32), NX E nS nR t (32 * n) nx br := by
      rcases hmo with z | z | z | z | z
      · exact absurd z n0
      · exact ⟨_, _, Or.inl ⟨z, rfl, rfl⟩⟩
      · by_cases hs : sbh E nS nR t (wsh E t (32 * n))
        · exact ⟨_, _, Or.inr (Or.inr (Or.inl ⟨z, hs, rfl, rfl⟩))⟩
        · exact ⟨_, _, Or.inr (Or.inr (Or.inr ⟨z, hs, rfl, rfl⟩))⟩
      · exact ⟨_, _, Or.inr (Or.inl ⟨z, rfl, rfl⟩)⟩
      · exact absurd z n4
    have nf := nx_facts hl h0 hi.1 (by omega) hnx
    have hbr : br = 0 ∨ br = 1 := by
      rcases hnx with q | q | q | q
      · exact Or.inl q.2.2
      · exact Or.inl q.2.2
      · exact Or.inl q.2.2.2
      · exact Or.inr q.2.2.2
    have br2 : br = 1 → E.1 9 t = 2 := by
      intro e
      rcases hnx with q | q | q | q
      · exact absurd (q.2.2.symm.trans e) (by decide)
      · exact absurd (q.2.2.symm.trans e) (by decide)
      · exact absurd (q.2.2.2.symm.trans e) (by decide)
      · exact q.1
    have au : E.1 9 t = 2 → E.2 13 t = E.2 11 t := by
      intro m2
      rcases hi.2.2.1.2 with q | q
      · exact absurd (q.1.symm.trans (hi.2.1.2 m2)) (by decide)
      · exact q.2
    have hau := hi.2.2.1.1
    -- what the reference's counter of brakings is behind the wish
    have ref2 : ∀ R : Int32 → SR → Prop, (∀ E' : EA, MV E nS t nx k E' → ∀ F : EA, (F = if br = 1 then pI E' 2 0 (E.1 2 0 + 1) else E') → ∀ v : SR, RM v F → ((¬ E.1 9 t = 2 ∨ E'.2 8 t ≤ E.2 11 t) → w_R_pass_77 v (nI t) (fun v => R (v.1 8 t) (pI v 0 0 0))) ∧ (E.1 9 t = 2 → ¬ E'.2 8 t ≤ E.2 11 t → w_R_pass_77 (pI (pV (pI v 8 t 3) 11 t (lI (-1))) 6 0 (E.1 3 0 + 1)) (nI t) (fun v => R (v.1 8 t) (pI v 0 0 0)))) → w_R_second M (nI t) (zq 3 n) y R := by
      intro R hr
      refine ref R ⟨fun q => absurd m13 q, fun _ => ⟨hin, ?_⟩⟩
      rw [nI_clamp (by omega), e8]
      have body : ∀ fl : Int32, ((¬ E.1 9 t = 2 ∧ fl = 0) ∨ (E.1 9 t = 2 ∧ fl = 1)) → w_R_pass_15 M (nI t) (lI (32 * n)) y fl (fun v => R (v.1 8 t) (pI v 0 0 0)) := by
        intro fl hfl
        have cont : ∀ (F0 : EA) (M0 : SR), RM M0 F0 → IE F0 nS nR nT → F0 = (if br = 1 then pI E 2 0 (E.1 2 0 + 1) else E) → w_R_move M0 (nI t) (lI nx) y (fun S3 => ((fl = 0) → (w_R_pass_77 S3 (nI t) (fun v => R (v.1 8 t) (pI v 0 0 0)))) ∧ ((¬ fl = 0) → (vp_in (nI t) 3 ∧ (vp_in (nI t) 3 ∧ ((((lg_cmp (S3.2 8 (nI t).toNatClampNeg) (S3.2 11 (nI t).toNatClampNeg)) ≤ 0) → (w_R_pass_77 S3 (nI t) (fun v => R (v.1 8 t) (pI v 0 0 0)))) ∧ ((¬ (lg_cmp (S3.2 8 (nI t).toNatClampNeg) (S3.2 11 (nI t).toNatClampNeg)) ≤ 0) → (vp_in (nI t) 3 ∧ (vp_in (nI t) 3 ∧ (∀ a4 : Int32, a4 = ((pV (pI S3 8 (nI t).toNatClampNeg 3) 11 (nI t).toNatClampNeg (-1 : Int64)).1 6 0) + 1 → (w_R_pass_77 (pI (pV (pI S3 8 (nI t).toNatClampNeg 3) 11 (nI t).toNatClampNeg (-1 : Int64)) 6 0 a4) (nI t) (fun v => R (v.1 8 t) (pI v 0 0 0)))))))))))) := by
          intro F0 M0 hM0 hI0 hF0
          refine m_move hM0 hI0.1 (by omega) (hI0.2.2.2.1 t ht).1 (by omega) hk2 hk3 (fun F hmv v hv => ?_)
          -- the state without the counter
          obtain ⟨E', hE', hF⟩ : ∃ E' : EA, MV E nS t nx k E' ∧ F = (if br = 1 then pI E' 2 0 (E.1 2 0 + 1) else E') := by
            rcases hbr with e | e
            · rw [e, if_neg (by decide)] at hF0
              subst hF0
              exact ⟨F, hmv, by rw [e, if_neg (by decide)]⟩
            · rw [e, if_pos rfl] at hF0
              subst hF0
              obtain ⟨E', hE'⟩ : ∃ E' : EA, MV E nS t nx k E' := by
                rcases hmv with q | q | q
                · exact ⟨_, Or.inl ⟨q.1, rfl⟩⟩
                · exact ⟨_, Or.inr (Or.inl ⟨q.1, q.2.1, rfl⟩)⟩
                · exact ⟨_, Or.inr (Or.inr ⟨q.1, q.2.1, rfl⟩)⟩
              exact ⟨E', hE', by rw [e, if_pos rfl]; exact MV.fn hmv (mv_i hE' 2 0 _)⟩
          have me := ie_mv hI ht nf hk3 hE'
          have hq := hr E' hE' F hF v hv
          have F1 : F.1 3 0 = E.1 3 0 := by
            rw [hF]
            split
            · rw [pI_o (Or.inl (by decide)), me.2.1]
            · rw [me.2.1]
          have F2 : F.2 = E'.2 := by
            rw [hF]
            split <;> rfl
          have hg' := (me.1.2.2.2.1 t ht).1
          unfold IG at hg'
          refine ⟨fun e => hq.1 ?_, fun e => ⟨hin, hin, ?_⟩⟩
          · rcases hfl with z | z
            · exact Or.inl z.1
            · exact absurd (z.2.symm.trans e) (by decide)
          have m2 : E.1 9 t = 2 := by
            rcases hfl with z | z
            · exact absurd z.2 e
            · exact z.1
          have v8 : v.2 8 t = lI (E'.2 8 t) := by
            have := hv.2 8 t (by omega)
            rw [F2] at this
            exact this
          have v11 : v.2 11 t = lI (E.2 11 t) := by
            have := hv.2 11 t (by omega)
            rw [F2] at this
            rw [this]
            show lI (E'.2 13 t) = _
            rw [me.2.2 13 (by omega), au m2]
          rw [nI_clamp (by omega), v8, v11, lcv (by omega) (by omega)]
          refine ⟨fun z => hq.1 (Or.inr (zi_le.mp z)), fun z => ⟨hin, hin, fun a4 e4 => ?_⟩⟩
          have v6 : (pV (pI v 8 t 3) 11 t (-1 : Int64)).1 6 0 = E.1 3 0 := by
            show (pI v 8 t 3).1 6 0 = _
            rw [pI_o (Or.inl (by decide))]
            have := hv.1 6 0 (by omega)
            rw [this]
            exact F1
          rw [v6] at e4
          subst e4
          exact hq.2 m2 (fun w => z (zi_le.mpr w))
        refine m_wish hM hl h0 (by omega) hi (by omega) hnx (fun e => cont E M hM hI (by rw [e, if_neg (by decide)])) (fun e => cont (pI E 2 0 (E.1 2 0 + 1)) (pI M 5 0 (E.1 2 0 + 1)) (hM.pI 5 0 _ (by omega)) (ie_cnt hI 2 _ (Or.inr (Or.inl rfl))) (by rw [e, if_pos rfl]))
      exact ⟨fun z => body 0 (Or.inl ⟨z, rfl⟩), fun z => body 1 (Or.inr ⟨z, rfl⟩)⟩
    -- both loops of the holders, and the end
    have fin : ∀ (F : EA) (u : SC) (v : SR) (R : Int32 → SR → Prop → Prop), True → True := fun _ _ _ _ _ => trivial
    have both : ∀ (F : EA) (u : SC), RC u F → IE F nS nR nT → (∀ Q : Int32 → SC → Prop, ∀ X : Nat → SC → Prop, (∀ u' : SC, RC u' (frL t nS 0 F) → Q (F.1 9 t) u') → w_G_second_126 u (nI t) t Q X) := by
      intro F u hu hF Q X hQ
      have hb := ig_bnd (hF.2.2.2.1 t ht)
      refine s_rear hu hb ⟨nS + 1, ?_⟩
      have hb' := hb
      unfold bnd at hb'
      rw [← nI_0]
      refine s_frL (by omega) nS 0 u F hu hF.1 rfl (by omega) (fun u' hu' => ?_)
      have f := frL_fr (t := t) (nS := nS) nS 0 F hF.2.2.1
      have e9 : u'.1 9 t = F.1 9 t := (hu'.1 9 t (by omega)).trans (f.1.1 9 t (by decide))
      rw [e9]
      exact hQ u' hu'
    have bothR : ∀ (F : EA) (u : SC) (v : SR) (m : Int32), RM v F → IE F nS nR nT → RC u (frL t nS 0 F) → m = F.1 9 t → w_R_pass_77 v (nI t) (fun v => (pI v 0 0 0).1 0 0 = 0 ∧ v.1 8 t = m ∧ J u (pI v 0 0 0)) := by
      intro F u v m hv hF hu em
      have hb := ig_bnd (hF.2.2.2.1 t ht)
      refine ⟨nS + 1, ?_⟩
      rw [← nI_0]
      refine m_frL (by omega) nS 0 v F hv hF.1 hb (by omega) (fun v' hv' => ?_)
      have f := frL_fr (t := t) (nS := nS) nS 0 F hF.2.2.1
      have j := jf hu hv' (ie_h hF f.1 f.2) 0
      have e9 : v'.1 8 t = F.1 9 t := (hv'.1 8 t (by omega)).trans (f.1.1 9 t (by decide))
      exact ⟨j.1, e9.trans em.symm, j.2⟩
    have body : ∀ fl : Int32, ((¬ E.1 9 t = 2 ∧ fl = 0) ∨ (E.1 9 t = 2 ∧ fl = 1)) → w_G_second_75 S (nI t) (zq 3 n) y t fl (fun r u => w_R_second M (nI t) (zq 3 n) y (fun b v => v.1 0 0 = 0 ∧ b = r ∧ J u v)) (fun k u => (k = 1 ∨ k = 2 ∨ k = 3 ∨ k = 4) ∧ w_R_second M (nI t) (zq 3 n) y (fun _ v => v.1 0 0 = nI k ∧ J u v)) := by
      intro fl hfl
      unfold w_G_second_75
      generalize hQX : (fun (k : Nat) (u : SC) => (k = 1 ∨ k = 2 ∨ k = 3 ∨ k = 4) ∧ w_R_second M (nI t) (zq 3 n) y (fun _ v => v.1 0 0 = nI k ∧ J u v)) = X
      rw [z38 n]
      refine s_run hR hl h0 hi (by omega) hk1 hk3 hnx (fun E' hmv u hu => ?_)
      rw [← z38 n]
      have me := ie_mv hI ht nf hk3 hmv
      have hg' := (me.1.2.2.2.1 t ht).1
      have E1 : ∀ c j : Nat, E'.1 c j = E.1 c j := fun c j => by rw [me.2.1]
      -- the state behind, with or without the counter of brakings
      have quiet : (¬ E.1 9 t = 2 ∨ E'.2 8 t ≤ E.2 11 t) → ((br = 0) → (w_G_second_102 u (nI t) t fl (fun r u => w_R_second M (nI t) (zq 3 n) y (fun b v => v.1 0 0 = 0 ∧ b = r ∧ J u v)) X)) ∧ ((¬ br = 0) → (∀ a8 : Int32, a8 = (u.1 2 0) + 1 → (w_G_second_102 (pI u 2 0 a8) (nI t) t fl (fun r u => w_R_second M (nI t) (zq 3 n) y (fun b v => v.1 0 0 = 0 ∧ b = r ∧ J u v)) X))) := by
        intro hq
        have gen : ∀ (F : EA) (u2 : SC), (F = if br = 1 then pI E' 2 0 (E.1 2 0 + 1) else E') → RC u2 F → w_G_second_102 u2 (nI t) t fl (fun r u => w_R_second M (nI t) (zq 3 n) y (fun b v => v.1 0 0 = 0 ∧ b = r ∧ J u v)) X := by
          intro F u2 hF hu2
          have IF : IE F nS nR nT := by
            rw [hF]
            split
            · exact ie_cnt me.1 2 _ (Or.inr (Or.inl rfl))
            · exact me.1
          have F9 : F.1 9 t = E.1 9 t := by
            rw [hF]
            split
            · rw [pI_o (Or.inl (by decide)), E1]
            · rw [E1]
          have go : w_G_second_126 u2 (nI t) t (fun r u => w_R_second M (nI t) (zq 3 n) y (fun b v => v.1 0 0 = 0 ∧ b = r ∧ J u v)) X := by
            refine both F u2 hu2 IF _ _ (fun u' hu' => ref2 _ (fun E2 hE2 F2 hF2 v hv => ⟨fun _ => ?_, fun m2 ng => ?_⟩))
            · have : E2 = E' := MV.fn hE2 hmv
              subst this
              have : F2 = F := hF2.trans hF.symm
              subst this
              exact bothR F2 u' v _ hv IF hu' rfl
            · have : E2 = E' := MV.fn hE2 hmv
              subst this
              exact absurd hq (fun z => z.elim (fun w => w m2) (fun w => ng w))
          have u9 : u2.1 9 t = E.1 9 t := (hu2.1 9 t (by omega)).trans F9
          refine ⟨fun _ => go, fun nf0 => ⟨fun _ => go, fun e3 => ?_⟩⟩
          rw [u9] at e3
          rcases hfl with z | z
          · exact absurd z.2 nf0
          · exact absurd (z.1.symm.trans e3) (by decide)
        refine ⟨fun e => gen E' u ?_ hu, fun e a8 ea => gen (pI E' 2 0 (E.1 2 0 + 1)) _ ?_ ?_⟩
        · rw [e, if_neg (by decide)]
        · rw [if_pos (hbr.elim (fun z => absurd z e) id)]
        · rw [hu.1 2 0 (by omega), E1] at ea
          subst ea
          exact hu.pI 2 0 _
      have trip : E.1 9 t = 2 → ¬ E'.2 8 t ≤ E.2 11 t → ((br = 0) → (w_G_second_102 (pI (pI u 9 t 3) 7 t 0) (nI t) t fl (fun r u => w_R_second M (nI t) (zq 3 n) y (fun b v => v.1 0 0 = 0 ∧ b = r ∧ J u v)) X)) ∧ ((¬ br = 0) → (∀ a8 : Int32, a8 = ((pI (pI u 9 t 3) 7 t 0).1 2 0) + 1 → (w_G_second_102 (pI (pI (pI u 9 t 3) 7 t 0) 2 0 a8) (nI t) t fl (fun r u => w_R_second M (nI t) (zq 3 n) y (fun b v => v.1 0 0 = 0 ∧ b = r ∧ J u v)) X))) := by
        intro m2 ng
        have I3 := ie_st (v := 3) me.1 ht (Or.inr (Or.inr (Or.inl rfl)))
        have r3 : RC (pI (pI u 9 t 3) 7 t 0) (stE E' t 3) := by
          rw [st_eq]
          exact rc_xV ((hu.pI 9 t 3).pI 7 t 0) 13 t (-1) (by omega)
        have fl1 : ¬ fl = 0 := by
          rcases hfl with z | z
          · exact absurd m2 z.1
          · rw [z.2]; decide
        have gen : ∀ (F : EA) (u2 : SC), (F = if br = 1 then pI (stE E' t 3) 2 0 (E.1 2 0 + 1) else stE E' t 3) → RC u2 F → w_G_second_102 u2 (nI t) t fl (fun r u => w_R_second M (nI t) (zq 3 n) y (fun b v => v.1 0 0 = 0 ∧ b = r ∧ J u v)) X := by
          intro F u2 hF hu2
          have IF : IE F nS nR nT := by
            rw [hF]
            split
            · exact ie_cnt I3 2 _ (Or.inr (Or.inl rfl))
            · exact I3
          have s93 : (stE E' t 3).1 9 t = 3 := pI_s
          have F9 : F.1 9 t = 3 := by
            rw [hF]
            split
            · rw [pI_o (Or.inl (by decide))]; exact s93
            · exact s93
          have s33 : (stE E' t 3).1 3 0 = E.1 3 0 := by
            show E'.1 3 0 = _
            rw [E1]
          have F3 : F.1 3 0 = E.1 3 0 := by
            rw [hF]
            split
            · rw [pI_o (Or.inl (by decide))]; exact s33
            · exact s33
          have u9 : u2.1 9 t = 3 := (hu2.1 9 t (by omega)).trans F9
          refine ⟨fun z => absurd z fl1, fun _ => ⟨fun z => absurd u9 z, fun _ a9 ea => ?_⟩⟩
          rw [hu2.1 3 0 (by omega), F3] at ea
          subst ea
          have hu3 := hu2.pI 3 0 (E.1 3 0 + 1)
          have IG2 := ie_cnt IF 3 (E.1 3 0 + 1) (Or.inr (Or.inr rfl))
          refine both (pI F 3 0 (E.1 3 0 + 1)) _ hu3 IG2 _ _ (fun u' hu' => ref2 _ (fun E2 hE2 F2 hF2 v hv => ⟨fun z => ?_, fun _ _ => ?_⟩))
          · have : E2 = E' := MV.fn hE2 hmv
            subst this
            exact absurd z (fun z => z.elim (fun w => w m2) (fun w => ng w))
          · have : E2 = E' := MV.fn hE2 hmv
            subst this
            refine bothR (pI F 3 0 (E.1 3 0 + 1)) u' _ _ ?_ IG2 hu' rfl
            have q1 : RM (pI (pV (pI v 8 t 3) 11 t (lI (-1))) 6 0 (E.1 3 0 + 1)) (pI (pV (pI (pI F2 9 t 3) 7 t 0) 13 t (-1)) 3 0 (E.1 3 0 + 1)) := (RM.pV (rm_xI (hv.pI 8 t 3 (by omega)) 7 t 0 (by decide)) 11 t (-1) (by omega)).pI 6 0 _ (by omega)
            have eF : pV (pI (pI F2 9 t 3) 7 t 0) 13 t (-1) = F := by
              rw [hF, hF2]
              split
              · rw [st_eq, pI_comm _ (by decide : (2 : Nat) ≠ 9), pI_comm _ (by decide : (2 : Nat) ≠ 7)]
                rfl
              · rw [st_eq]
            rw [eF] at q1
            exact q1
        refine ⟨fun e => gen (stE E' t 3) _ ?_ r3, fun e a8 ea => gen (pI (stE E' t 3) 2 0 (E.1 2 0 + 1)) _ ?_ ?_⟩
        · rw [e, if_neg (by decide)]
        · rw [if_pos (hbr.elim (fun z => absurd z e) id)]
        · have u2 : (pI (pI u 9 t 3) 7 t 0).1 2 0 = E.1 2 0 := by
            show u.1 2 0 = _
            rw [hu.1 2 0 (by omega), E1]
          rw [u2] at ea
          subst ea
          exact r3.pI 2 0 _
      exact ⟨fun z => quiet (Or.inl z), fun z => ⟨fun w => quiet (Or.inr w), fun w => trip z w⟩⟩
    exact ⟨fun z => body 0 (Or.inl ⟨z, rfl⟩), fun z => body 1 (Or.inr ⟨z, rfl⟩)⟩
  · exact m_noTrain (mT hM hI) h3 (fun t ht ex => absurd ⟨t, ht, ex⟩ hn) (fun _ => ⟨fun _ => j1, fun hc => absurd hc (by decide)⟩)
