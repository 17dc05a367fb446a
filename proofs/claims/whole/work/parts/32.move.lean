-- one second: the move
def upd4 (E : EA) (t : Nat) (sp re me ma : Int) : EA := pV (pV (pV (pV E 9 t me) 10 t ma) 8 t re) 7 t sp
theorem u4_r (E : EA) (t : Nat) (sp re me ma : Int) (c j : Nat) : (upd4 E t sp re me ma).2 c j = if c = 7 ∧ j = t then sp else if c = 8 ∧ j = t then re else if c = 10 ∧ j = t then ma else if c = 9 ∧ j = t then me else E.2 c j := by
  unfold upd4
  rw [pV_r, pV_r, pV_r, pV_r]
theorem u4_ext {E E' : EA} {t : Nat} {sp re me ma : Int} (h1 : E'.1 = E.1) (h7 : E'.2 7 t = sp) (h8 : E'.2 8 t = re) (h9 : E'.2 9 t = me) (h10 : E'.2 10 t = ma) (h : ∀ c j : Nat, ¬ (7 ≤ c ∧ c ≤ 10 ∧ j = t) → E'.2 c j = E.2 c j) : E' = upd4 E t sp re me ma := by
  refine Prod.ext h1 (funext fun c => funext fun j => ?_)
  show E'.2 c j = (upd4 E t sp re me ma).2 c j
  rw [u4_r]
  by_cases a : c = 7 ∧ j = t
  · rw [if_pos a, a.1, a.2]; exact h7
  rw [if_neg a]
  by_cases b : c = 8 ∧ j = t
  · rw [if_pos b, b.1, b.2]; exact h8
  rw [if_neg b]
  by_cases d : c = 10 ∧ j = t
  · rw [if_pos d, d.1, d.2]; exact h10
  rw [if_neg d]
  by_cases e : c = 9 ∧ j = t
  · rw [if_pos e, e.1, e.2]; exact h9
  rw [if_neg e]
  exact h c j (by omega)
theorem u4_910 (E : EA) (t : Nat) (sp re me ma x y : Int) : pV (pV (upd4 E t sp re me ma) 9 t x) 10 t y = upd4 E t sp re x y := by
  refine u4_ext rfl ?_ ?_ ?_ ?_ (fun c j h => ?_)
  · simp [pV_r, u4_r]
  · simp [pV_r, u4_r]
  · simp [pV_r, u4_r]
  · simp [pV_r, u4_r]
  · rw [pV_o (by omega), pV_o (by omega), u4_r, if_neg (by omega), if_neg (by omega), if_neg (by omega), if_neg (by omega)]
theorem u4_all (E : EA) (t : Nat) (sp re me ma x y z w : Int) : pV (pV (pV (pV (upd4 E t sp re me ma) 8 t x) 9 t y) 10 t z) 7 t w = upd4 E t w x y z := by
  refine u4_ext rfl ?_ ?_ ?_ ?_ (fun c j h => ?_)
  · simp [pV_r]
  · simp [pV_r]
  · simp [pV_r]
  · simp [pV_r]
  · rw [pV_o (by omega), pV_o (by omega), pV_o (by omega), pV_o (by omega), u4_r, if_neg (by omega), if_neg (by omega), if_neg (by omega), if_neg (by omega)]
theorem u4_ref (E : EA) (t : Nat) (sp re me ma : Int) : pV (pV (pV (pV E 7 t sp) 9 t me) 10 t ma) 8 t re = upd4 E t sp re me ma := by
  refine u4_ext rfl ?_ ?_ ?_ ?_ (fun c j h => ?_)
  · simp [pV_r]
  · simp [pV_r]
  · simp [pV_r]
  · simp [pV_r]
  · rw [pV_o (by omega), pV_o (by omega), pV_o (by omega), pV_o (by omega)]
def wy (E : EA) (t : Nat) (w : Int) : Int := (E.2 7 t + w) / 2
def crs (E : EA) (nS : Nat) (a b : Int) : Prop := ∃ s : Nat, s < nS ∧ a < E.2 0 s ∧ E.2 0 s ≤ b
def MV (E : EA) (nS t : Nat) (w k : Int) (E' : EA) : Prop :=
  (E.2 0 nS ≤ E.2 8 t + (wy E t w + wy E t w / 8 * k) ∧ E' = upd4 E t 0 (E.2 0 nS) (E.2 0 nS) 0) ∨
  (¬ E.2 0 nS ≤ E.2 8 t + (wy E t w + wy E t w / 8 * k) ∧ crs E nS (E.2 8 t) (E.2 8 t + (wy E t w + wy E t w / 8 * k)) ∧ E' = upd4 E t w (E.2 8 t + (wy E t w + wy E t w / 8 * k)) (E.2 8 t + (wy E t w + wy E t w / 8 * k)) 0) ∨
  (¬ E.2 0 nS ≤ E.2 8 t + (wy E t w + wy E t w / 8 * k) ∧ ¬ crs E nS (E.2 8 t) (E.2 8 t + (wy E t w + wy E t w / 8 * k)) ∧ E' = upd4 E t w (E.2 8 t + (wy E t w + wy E t w / 8 * k)) (E.2 9 t + wy E t w) (E.2 10 t + wy E t w / 8))
theorem MV.fn {E E1 E2 : EA} {nS t : Nat} {w k : Int} (h1 : MV E nS t w k E1) (h2 : MV E nS t w k E2) : E1 = E2 := by
  rcases h1 with a | a | a <;> rcases h2 with b | b | b
  · exact a.2.trans b.2.symm
  · exact absurd a.1 b.1
  · exact absurd a.1 b.1
  · exact absurd b.1 a.1
  · exact a.2.2.trans b.2.2.symm
  · exact absurd a.2.1 b.2.1
  · exact absurd b.1 a.1
  · exact absurd b.2.1 a.2.1
  · exact a.2.2.trans b.2.2.symm
theorem mv_i {E E1 : EA} {nS t : Nat} {w k : Int} (h : MV E nS t w k E1) (c j : Nat) (v : Int32) : MV (pI E c j v) nS t w k (pI E1 c j v) := by
  rcases h with a | a | a
  · exact Or.inl ⟨a.1, by rw [a.2]; rfl⟩
  · exact Or.inr (Or.inl ⟨a.1, a.2.1, by rw [a.2.2]; rfl⟩)
  · exact Or.inr (Or.inr ⟨a.1, a.2.1, by rw [a.2.2]; rfl⟩)
theorem s_hbb {S : SC} {E : EA} {nS nR : Nat} {a b : Int} {Q : Int32 → SC → Prop} (hR : RC S E) (h : IL E nS nR) (ha : a.natAbs < 100000000) (hb : b.natAbs < 100000000) (h1 : crs E nS a b → Q 1 S) (h0 : ¬ crs E nS a b → Q 0 S) : w_L_hasBeginBetween S (zq 8 a) (zq 8 b) Q := by
  have hn := h.2.1
  have e4 : S.1 4 0 = nI nS := (hR.1 4 0 (by omega)).trans h.1
  have key : ∀ (n i : Nat), i + n = nS → (∀ s : Nat, s < i → ¬ (a < E.2 0 s ∧ E.2 0 s ≤ b)) → w_L_hasBeginBetween_3 (n + 1) S (zq 8 a) (zq 8 b) (nI i) Q := by
    intro n
    induction n with
    | zero =>
      intro i hi hp
      refine ⟨fun _ => h0 (fun ⟨s, q, z⟩ => hp s (by omega) z), fun hc => absurd ?_ hc⟩
      rw [e4]
      exact nI_le (by omega) (by omega)
    | succ n ih =>
      intro i hi hp
      have g := h.bg i (by omega)
      have go : ¬ (a < E.2 0 i ∧ E.2 0 i ≤ b) → w_L_hasBeginBetween_3 (n + 1) S (zq 8 a) (zq 8 b) (nI i + 1) Q := by
        intro z
        rw [nI_1]
        refine ih _ (by omega) (fun s hs => ?_)
        by_cases e : s = i
        · subst e; exact z
        · exact hp s (by omega)
      refine ⟨fun hc => absurd hc ?_, fun _ => ⟨vp_in_nI (by omega) (by decide), ?_⟩⟩
      · rw [e4]
        exact nI_ge (by omega) (by omega)
      rw [nI_clamp (by omega), hR.2 0 i (by omega), zcv .l (by omega) (by omega) (by omega), zcv .g (by omega) (by omega) (by omega)]
      refine ⟨fun p => go (fun q => ?_), fun p => ⟨vp_in_nI (by omega) (by decide), fun q => go (fun r => ?_), fun q => h1 ⟨i, by omega, ?_, ?_⟩⟩⟩
      · have := zi_le.mp p
        omega
      · have := zi_gt.mp q
        omega
      · have : ¬ E.2 0 i ≤ a := fun z => p (zi_le.mpr z)
        omega
      · have : ¬ b < E.2 0 i := fun z => q (zi_gt.mpr z)
        omega
  refine ⟨nS + 1, ?_⟩
  rw [← nI_0]
  exact key nS 0 (by omega) (fun s hs => by omega)
theorem wy_facts {E : EA} {t : Nat} {w k : Int} (hi : IG E t) (hw : 0 ≤ w ∧ w ≤ 16000 ∧ w % 16 = 0) (hk : k = -1 ∨ k = 0 ∨ k = 1) : (E.2 7 t + w) % 2 = 0 ∧ 0 ≤ wy E t w ∧ wy E t w ≤ 16000 ∧ wy E t w % 8 = 0 ∧ 0 ≤ wy E t w + wy E t w / 8 * k ∧ wy E t w + wy E t w / 8 * k ≤ 20000 ∧ 7 * (wy E t w / 8) ≤ wy E t w + wy E t w / 8 * k ∧ - (wy E t w / 8) ≤ wy E t w / 8 * k ∧ wy E t w / 8 * k ≤ wy E t w / 8 := by
  unfold IG at hi
  unfold wy
  rcases hk with e | e | e <;> subst e <;> omega
theorem s_wayTo {S : SC} {E : EA} {t : Nat} {w : Int} {Q : UInt64 → SC → Prop} (hR : RC S E) (hi : IG E t) (hw : 0 ≤ w ∧ w ≤ 16000 ∧ w % 16 = 0) (hQ : Q (zq 8 (wy E t w)) S) : w_T_wayTo S t (zq 8 w) Q := by
  unfold IG at hi
  unfold w_T_wayTo
  rw [hR.2 7 t (by omega), zq_add (by omega) (by omega) (by omega)]
  refine ⟨zq_fin (by omega) (by omega), fun f1 e1 => ?_⟩
  subst e1
  rw [zk_half, z_half (by omega) (by omega) (by omega)]
  refine ⟨zq_fin (by omega) (by omega), fun f2 e2 => ?_⟩
  subst e2
  exact hQ
theorem z_8th {w : Int} (h : 0 ≤ w ∧ w ≤ 100000000 ∧ w % 8 = 0) : Jvm.FP.dmul (4593671619917905920 : UInt64) (zq 8 w) = zq 8 (w / 8) := by
  rw [zk_8th, zq_mul (k := 3) (j := 8) (by omega) (by omega) (by decide) (by omega) (Or.inl (by omega)), zq_up 8 3 (w / 8)]
  congr 1
  have : ((2 ^ 3 : Nat) : Int) = 8 := by decide
  omega
theorem z_slip {w : Int} {x : Int32} {k : Int} (hx : x.toInt = k) (hk : k = -1 ∨ k = 0 ∨ k = 1) (h : 0 ≤ w ∧ w ≤ 100000000 ∧ w % 8 = 0) : vf_n64 (Jvm.FP.dmul (4593671619917905920 : UInt64) (Jvm.FP.i2d x)) ∧ vf_n64 (Jvm.FP.dadd Jvm.FP.dconst1 (Jvm.FP.dmul (4593671619917905920 : UInt64) (Jvm.FP.i2d x))) ∧ Jvm.FP.dmul (zq 8 w) (Jvm.FP.dadd Jvm.FP.dconst1 (Jvm.FP.dmul (4593671619917905920 : UInt64) (Jvm.FP.i2d x))) = zq 8 (w + w / 8 * k) := by
  have e1 : Jvm.FP.dmul (4593671619917905920 : UInt64) (Jvm.FP.i2d x) = zq 3 k := by
    rw [zq_i2d, hx, zk_8th, zq_mul (k := 3) (j := 0) (by omega) (by omega) (by decide) (by omega) (Or.inl (by omega)), Int.one_mul]
  have e2 : Jvm.FP.dadd Jvm.FP.dconst1 (zq 3 k) = zq 3 (8 + k) := by
    rw [zk_1, zq_add (by omega) (by decide) (by omega)]
  rw [e1, e2]
  refine ⟨zq_fin (by omega) (by omega), zq_fin (by omega) (by omega), ?_⟩
  rw [zq_mul (k := 8) (j := 3) (by omega) (by omega) (by omega) (by omega) (Or.inr (Or.inl (by omega))), zq_up 8 3 (w + w / 8 * k)]
  congr 1
  have : ((2 ^ 3 : Nat) : Int) = 8 := by decide
  rw [this]
  rcases hk with e | e | e <;> subst e <;> omega
theorem s_move {S : SC} {E : EA} {nS nR t : Nat} {w k : Int} {x : Int32} {Q : SC → Prop} (hR : RC S E) (hl : IL E nS nR) (hi : IG E t) (hw : 0 ≤ w ∧ w ≤ 16000 ∧ w % 16 = 0) (hx : x.toInt = k) (hk : k = -1 ∨ k = 0 ∨ k = 1) (hQ : ∀ E' : EA, MV E nS t w k E' → ∀ u : SC, RC u E' → Q u) : w_T_move S t (zq 8 w) x Q := by
  have hn := hl.2.1
  have hbe := hl.bg nS (by omega)
  have wf := wy_facts hi hw hk
  have hg := hi
  unfold IG at hg
  refine s_wayTo hR hi hw ?_
  unfold MV at hQ
  generalize wy E t w = y at wf hQ
  rw [hR.2 9 t (by omega), zq_add (by omega) (by omega) (by omega), z_8th (by omega)]
  refine ⟨zq_fin (by omega) (by omega), fun f3 e3 => ⟨zq_fin (by omega) (by omega), fun f4 e4 => ?_⟩⟩
  subst e3
  subst e4
  have k10 : (pV S 9 t (zq 8 (E.2 9 t + y))).2 10 t = zq 8 (E.2 10 t) := hR.2 10 t (by omega)
  rw [k10, zq_add (by omega) (by omega) (by omega)]
  refine ⟨zq_fin (by omega) (by omega), fun f5 e5 f6 e6 => ?_⟩
  subst e5
  subst e6
  have zs := z_slip (w := y) hx hk (by omega)
  refine ⟨zs.1, fun f7 e7 => ?_⟩
  subst e7
  refine ⟨zs.2.1, fun f8 e8 => ?_⟩
  subst e8
  rw [zs.2.2]
  generalize y / 8 * k = z at wf hQ
  refine ⟨zq_fin (by omega) (by omega), fun f9 e9 => ?_⟩
  subst e9
  have k8 : (pV (pV S 9 t (zq 8 (E.2 9 t + y))) 10 t (zq 8 (E.2 10 t + y / 8))).2 8 t = zq 8 (E.2 8 t) := hR.2 8 t (by omega)
  rw [k8, zq_add (by omega) (by omega) (by omega)]
  refine ⟨zq_fin (by omega) (by omega), fun f10 e10 => ?_⟩
  subst e10
  have r1 : RC (pV (pV (pV (pV S 9 t (zq 8 (E.2 9 t + y))) 10 t (zq 8 (E.2 10 t + y / 8))) 8 t (zq 8 (E.2 8 t + (y + z)))) 7 t (zq 8 w)) (upd4 E t w (E.2 8 t + (y + z)) (E.2 9 t + y) (E.2 10 t + y / 8)) := (((hR.pV 9 t _).pV 10 t _).pV 8 t _).pV 7 t _
  have fr : ∀ a b c d : Int, Fr E (upd4 E t a b c d) t := fun a b c d => (((Fr.rf.v 9 _ (by omega)).v 10 _ (by omega)).v 8 _ (by omega)).v 7 _ (by omega)
  have l1 := (fr w (E.2 8 t + (y + z)) (E.2 9 t + y) (E.2 10 t + y / 8)).il hl
  rw [hR.2 8 t (by omega)]
  generalize pV (pV (pV (pV S 9 t (zq 8 (E.2 9 t + y))) 10 t (zq 8 (E.2 10 t + y / 8))) 8 t (zq 8 (E.2 8 t + (y + z)))) 7 t (zq 8 w) = u at r1
  have u8 : u.2 8 t = zq 8 (E.2 8 t + (y + z)) := by
    rw [r1.2 8 t (by omega), u4_r]
    simp
  rw [u8]
  -- behind the sections' begins
  have tail : ∀ (v : SC) (me ma : Int), RC v (upd4 E t w (E.2 8 t + (y + z)) me ma) → (¬ E.2 0 nS ≤ E.2 8 t + (y + z) → Q v) → w_T_move_91 t v Q := by
    intro v me ma hv hq
    have v8 : v.2 8 t = zq 8 (E.2 8 t + (y + z)) := by
      rw [hv.2 8 t (by omega), u4_r]
      simp
    have l2 := (fr w (E.2 8 t + (y + z)) me ma).il hl
    refine s_lineEnd hv l2 ?_
    have b0 : (upd4 E t w (E.2 8 t + (y + z)) me ma).2 0 nS = E.2 0 nS := (fr _ _ _ _).2.1 0 nS (by omega)
    rw [b0, v8, zcv .l (by omega) (by omega) (by omega)]
    refine ⟨fun a => hq (fun q => ?_), fun a => s_lineEnd hv l2 ?_⟩
    · have := zi_lt.mp a
      omega
    · rw [b0, pV_s, zk0]
      have ge : E.2 0 nS ≤ E.2 8 t + (y + z) := by
        have : ¬ E.2 8 t + (y + z) < E.2 0 nS := fun q => a (zi_lt.mpr q)
        omega
      have rr := (((hv.pV 8 t (E.2 0 nS)).pV 9 t (E.2 0 nS)).pV 10 t 0).pV 7 t 0
      rw [u4_all] at rr
      exact hQ _ (Or.inl ⟨ge, rfl⟩) _ rr
  have cr : crs (upd4 E t w (E.2 8 t + (y + z)) (E.2 9 t + y) (E.2 10 t + y / 8)) nS (E.2 8 t) (E.2 8 t + (y + z)) ↔ crs E nS (E.2 8 t) (E.2 8 t + (y + z)) := Iff.rfl
  refine s_hbb r1 l1 (by omega) (by omega) (fun hc => ⟨fun q => absurd q (by decide), fun _ => ?_⟩) (fun hc => ⟨fun _ => ?_, fun q => absurd rfl q⟩)
  · have r2 := (r1.pV 9 t (E.2 8 t + (y + z))).pV 10 t 0
    rw [u4_910] at r2
    rw [u8, zk0]
    exact tail _ _ _ r2 (fun ng => hQ _ (Or.inr (Or.inl ⟨ng, cr.mp hc, rfl⟩)) _ r2)
  · exact tail _ _ _ r1 (fun ng => hQ _ (Or.inr (Or.inr ⟨ng, fun q => hc (cr.mpr q), rfl⟩)) _ r1)
theorem m_move {M : SR} {E : EA} {nS nR t : Nat} {w k : Int} {x : Int32} {Q : SR → Prop} (hM : RM M E) (hl : IL E nS nR) (ht : t < 3) (hi : IG E t) (hw : 0 ≤ w ∧ w ≤ 16000 ∧ w % 16 = 0) (hx : x.toInt64 = lI k) (hk : k = -1 ∨ k = 0 ∨ k = 1) (hQ : ∀ E' : EA, MV E nS t w k E' → ∀ u : SR, RM u E' → Q u) : w_R_move M (nI t) (lI w) x Q := by
  have hn := hl.2.1
  have hbe := hl.bg nS (by omega)
  have wf := wy_facts hi hw hk
  have hg := hi
  unfold IG at hg
  have hin : vp_in (nI t) 3 := vp_in_nI ht (by decide)
  unfold MV at hQ
  refine ⟨hin, fun b1 e1 b2 e2 => ⟨hin, hin, hin, fun b3 e3 => ⟨hin, hin, fun b4 e4 b5 e5 => ⟨hin, hin, fun b6 e6 b7 e7 b8 e8 b9 e9 b10 e10 => ⟨hin, ?_⟩⟩⟩⟩⟩
  rw [nI_clamp (by omega)] at e1 e3 e5 e10 ⊢
  have c7 : M.2 7 t = lI (E.2 7 t) := hM.2 7 t (by omega)
  have c9 : (pV M 7 t (lI w)).2 9 t = lI (E.2 9 t) := hM.2 9 t (by omega)
  have c8 : M.2 8 t = lI (E.2 8 t) := hM.2 8 t (by omega)
  rw [c7, lI_add] at e1
  subst e1
  rw [show (2 : Int64) = lI 2 from rfl, lI_div (by omega) (by omega) (by omega) (by omega)] at e2
  have e2 : b2 = lI (wy E t w) := e2
  generalize wy E t w = y at wf hQ e2
  subst e2
  rw [c9, lI_add] at e3
  subst e3
  rw [show (8 : Int64) = lI 8 from rfl, lI_div (by omega) (by omega) (by omega) (by omega)] at e4 e6
  subst e4
  subst e6
  have c10 : (pV (pV M 7 t (lI w)) 9 t (lI (E.2 9 t + y))).2 10 t = lI (E.2 10 t) := hM.2 10 t (by omega)
  rw [c10, lI_add] at e5
  subst e5
  rw [hx] at e7
  subst e7
  rw [lI_mul] at e8
  subst e8
  rw [lI_add] at e9
  generalize y / 8 * k = z at wf hQ e9
  subst e9
  have c8' : (pV (pV (pV M 7 t (lI w)) 9 t (lI (E.2 9 t + y))) 10 t (lI (E.2 10 t + y / 8))).2 8 t = lI (E.2 8 t) := hM.2 8 t (by omega)
  rw [c8', lI_add] at e10
  subst e10
  rw [c8]
  have r1 := (((hM.pV 7 t w (by omega)).pV 9 t (E.2 9 t + y) (by omega)).pV 10 t (E.2 10 t + y / 8) (by omega)).pV 8 t (E.2 8 t + (y + z)) (by omega)
  have r1 : RM (pV (pV (pV (pV M 7 t (lI w)) 9 t (lI (E.2 9 t + y))) 10 t (lI (E.2 10 t + y / 8))) 8 t (lI (E.2 8 t + (y + z)))) (pV (pV (pV (pV E 7 t w) 9 t (E.2 9 t + y)) 10 t (E.2 10 t + y / 8)) 8 t (E.2 8 t + (y + z))) := r1
  rw [u4_ref] at r1
  generalize pV (pV (pV (pV M 7 t (lI w)) 9 t (lI (E.2 9 t + y))) 10 t (lI (E.2 10 t + y / 8))) 8 t (lI (E.2 8 t + (y + z))) = v at r1
  have fr : ∀ a b c d : Int, Fr E (upd4 E t a b c d) t := fun a b c d => (((Fr.rf.v 9 _ (by omega)).v 10 _ (by omega)).v 8 _ (by omega)).v 7 _ (by omega)
  have tail : ∀ (v : SR) (me ma : Int), RM v (upd4 E t w (E.2 8 t + (y + z)) me ma) → (¬ E.2 0 nS ≤ E.2 8 t + (y + z) → Q v) → w_R_lineEnd v (fun r11 S12 => ((0 ≤ (lg_cmp (v.2 8 t) r11)) → (w_R_lineEnd S12 (fun r13 S14 => vp_in (nI t) 3 ∧ (w_R_lineEnd (pV S14 8 t r13) (fun r15 S16 => vp_in (nI t) 3 ∧ (vp_in (nI t) 3 ∧ (vp_in (nI t) 3 ∧ (Q (pV (pV (pV S16 9 t r15) 10 t 0) 7 t 0))))))))) ∧ ((¬ 0 ≤ (lg_cmp (v.2 8 t) r11)) → (Q S12))) := by
    intro v me ma hv hq
    have v8 : v.2 8 t = lI (E.2 8 t + (y + z)) := by
      have := hv.2 8 t (by omega)
      rw [this]
      show lI ((upd4 E t w (E.2 8 t + (y + z)) me ma).2 8 t) = _
      rw [u4_r]
      simp
    have l2 := (fr w (E.2 8 t + (y + z)) me ma).il hl
    have b0 : (upd4 E t w (E.2 8 t + (y + z)) me ma).2 0 nS = E.2 0 nS := (fr _ _ _ _).2.1 0 nS (by omega)
    refine m_lineEnd hv l2 ?_
    rw [b0, v8, lcv (by omega) (by omega)]
    refine ⟨fun a => m_lineEnd hv l2 ⟨hin, ?_⟩, fun a => hq (fun q => a (zi_ge.mpr q))⟩
    rw [b0]
    have r3 : RM (pV v 8 t (lI (E.2 0 nS))) (pV (upd4 E t w (E.2 8 t + (y + z)) me ma) 8 t (E.2 0 nS)) := hv.pV 8 t (E.2 0 nS) (by omega)
    have l3 : IL (pV (upd4 E t w (E.2 8 t + (y + z)) me ma) 8 t (E.2 0 nS)) nS nR := (Fr.v (fr w (E.2 8 t + (y + z)) me ma) 8 _ (by omega)).il hl
    refine m_lineEnd r3 l3 ⟨hin, hin, hin, ?_⟩
    have b1 : (pV (upd4 E t w (E.2 8 t + (y + z)) me ma) 8 t (E.2 0 nS)).2 0 nS = E.2 0 nS := b0
    rw [b1]
    have rr : RM (pV (pV (pV (pV v 8 t (lI (E.2 0 nS))) 9 t (lI (E.2 0 nS))) 10 t (lI 0)) 7 t (lI 0)) (pV (pV (pV (pV (upd4 E t w (E.2 8 t + (y + z)) me ma) 8 t (E.2 0 nS)) 9 t (E.2 0 nS)) 10 t 0) 7 t 0) := ((r3.pV 9 t (E.2 0 nS) (by omega)).pV 10 t 0 (by omega)).pV 7 t 0 (by omega)
    rw [u4_all] at rr
    exact hQ _ (Or.inl ⟨zi_ge.mp a, rfl⟩) _ rr
  have key : ∀ (n i : Nat) (v : SR), i + n = nS → ((RM v (upd4 E t w (E.2 8 t + (y + z)) (E.2 9 t + y) (E.2 10 t + y / 8)) ∧ ∀ s : Nat, s < i → ¬ (E.2 8 t < E.2 0 s ∧ E.2 0 s ≤ E.2 8 t + (y + z))) ∨ (RM v (upd4 E t w (E.2 8 t + (y + z)) (E.2 8 t + (y + z)) 0) ∧ ∃ s : Nat, s < i ∧ E.2 8 t < E.2 0 s ∧ E.2 0 s ≤ E.2 8 t + (y + z))) → w_R_move_80 (n + 1) v (nI t) (lI (E.2 8 t)) (nI i) Q := by
    intro n
    induction n with
    | zero =>
      intro i v hi2 hv
      have m1 : v.1 1 0 = nI nS := by
        rcases hv with q | q
        · exact (q.1.1 1 0 (by omega)).trans hl.1
        · exact (q.1.1 1 0 (by omega)).trans hl.1
      refine ⟨fun _ => ⟨hin, ?_⟩, fun hc => absurd (by rw [m1]; exact nI_le (by omega) (by omega)) hc⟩
      rw [nI_clamp (by omega)]
      rcases hv with q | q
      · exact tail v _ _ q.1 (fun ng => hQ _ (Or.inr (Or.inr ⟨ng, fun ⟨s, h1, h2⟩ => q.2 s (by omega) h2, rfl⟩)) _ q.1)
      · obtain ⟨q1, s, h1, h2⟩ := q
        exact tail v _ _ q1 (fun ng => hQ _ (Or.inr (Or.inl ⟨ng, ⟨s, by omega, h2⟩, rfl⟩)) _ q1)
    | succ n ih =>
      intro i v hi2 hv
      have g := hl.bg i (by omega)
      have m1 : v.1 1 0 = nI nS := by
        rcases hv with q | q
        · exact (q.1.1 1 0 (by omega)).trans hl.1
        · exact (q.1.1 1 0 (by omega)).trans hl.1
      have m0 : v.2 0 i = lI (E.2 0 i) := by
        rcases hv with q | q
        · exact (q.1.2 0 i (by omega))
        · exact (q.1.2 0 i (by omega))
      have m8 : v.2 8 t = lI (E.2 8 t + (y + z)) := by
        rcases hv with q | q
        · have := q.1.2 8 t (by omega)
          rw [this]
          show lI ((upd4 E t w (E.2 8 t + (y + z)) (E.2 9 t + y) (E.2 10 t + y / 8)).2 8 t) = _
          rw [u4_r]
          simp
        · have := q.1.2 8 t (by omega)
          rw [this]
          show lI ((upd4 E t w (E.2 8 t + (y + z)) (E.2 8 t + (y + z)) 0).2 8 t) = _
          rw [u4_r]
          simp
      have go : ¬ (E.2 8 t < E.2 0 i ∧ E.2 0 i ≤ E.2 8 t + (y + z)) → w_R_move_80 (n + 1) v (nI t) (lI (E.2 8 t)) (nI i + 1) Q := by
        intro nz
        rw [nI_1]
        refine ih _ _ (by omega) ?_
        rcases hv with q | q
        · refine Or.inl ⟨q.1, fun s hs => ?_⟩
          by_cases e : s = i
          · subst e; exact nz
          · exact q.2 s (by omega)
        · obtain ⟨q1, s, h1, h2⟩ := q
          exact Or.inr ⟨q1, s, by omega, h2⟩
      refine ⟨fun hc => absurd hc (by rw [m1]; exact nI_ge (by omega) (by omega)), fun _ => ⟨vp_in_nI (by omega) (by decide), ?_⟩⟩
      rw [nI_clamp (by omega), nI_clamp (by omega), m0, m8, lcv (by omega) (by omega), lcv (by omega) (by omega)]
      refine ⟨fun p => go (fun q => ?_), fun p => ⟨hin, vp_in_nI (by omega) (by decide), fun q => ⟨hin, hin, hin, ?_⟩, fun q => go (fun r => q (zi_ge.mpr r.2))⟩⟩
      · have := zi_ge.mp p
        omega
      · have p' : ¬ E.2 0 i ≤ E.2 8 t := fun r => p (zi_ge.mpr r)
        have q' := zi_ge.mp q
        show w_R_move_80 (n + 1) (pV (pV v 9 t (lI (E.2 8 t + (y + z)))) 10 t (lI 0)) (nI t) (lI (E.2 8 t)) (nI i + 1) Q
        rw [nI_1]
        refine ih _ _ (by omega) (Or.inr ⟨?_, i, by omega, by omega, q'⟩)
        rcases hv with hq | hq
        · have := (hq.1.pV 9 t (E.2 8 t + (y + z)) (by omega)).pV 10 t 0 (by omega)
          have this : RM (pV (pV v 9 t (lI (E.2 8 t + (y + z)))) 10 t (lI 0)) (pV (pV (upd4 E t w (E.2 8 t + (y + z)) (E.2 9 t + y) (E.2 10 t + y / 8)) 9 t (E.2 8 t + (y + z))) 10 t 0) := this
          rw [u4_910] at this
          exact this
        · have := (hq.1.pV 9 t (E.2 8 t + (y + z)) (by omega)).pV 10 t 0 (by omega)
          have this : RM (pV (pV v 9 t (lI (E.2 8 t + (y + z)))) 10 t (lI 0)) (pV (pV (upd4 E t w (E.2 8 t + (y + z)) (E.2 8 t + (y + z)) 0) 9 t (E.2 8 t + (y + z))) 10 t 0) := this
          rw [u4_910] at this
          exact this
  refine ⟨nS + 1, ?_⟩
  rw [← nI_0]
  exact key nS 0 v (by omega) (Or.inl ⟨r1, fun s hs => by omega⟩)
