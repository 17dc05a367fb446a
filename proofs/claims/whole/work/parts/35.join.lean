-- the start, and both answers side by side
theorem J0 : J SC0 SR0 := by
  refine ⟨(fun _ _ => 0, fun _ _ => 0), 0, 0, 0, ⟨fun _ _ _ => rfl, fun _ _ _ => ?_⟩, ⟨fun _ _ _ => rfl, fun _ _ _ => rfl⟩, ⟨rfl, by omega, rfl, by omega, rfl, fun s hs => by omega, fun r hr => by omega⟩, ⟨rfl, by omega, fun h => by omega⟩, fun s hs => by omega, fun t ht => by omega, fun t _ _ => ⟨rfl, rfl, rfl, rfl, rfl, rfl, ⟨Int.le_refl 0, show (0 : Int) ≤ 2560000 by decide⟩, Int.le_refl 0, show (0 : Int) ≤ 2560000 by decide, rfl⟩⟩
  show (0 : UInt64) = zq 8 0
  decide +kernel
theorem nI_k {k k' : Nat} (h : k = 1 ∨ k = 2 ∨ k = 3 ∨ k = 4) (h' : k' = 1 ∨ k' = 2 ∨ k' = 3 ∨ k' = 4) (e : nI k = nI k') : k = k' := nI_ne (by omega) (by omega) e
theorem nI_k0 {k : Nat} (h : k = 1 ∨ k = 2 ∨ k = 3 ∨ k = 4) : ¬ nI k = 0 := nI_ne0 (by omega) (by omega)
theorem h_join {wG : (Int32 → SC → Prop) → (Nat → SC → Prop) → Prop} {wR : (Int32 → SR → Prop) → Prop} (f : Nat → Int64) (hj : wG (fun r u => wR (fun b v => v.1 0 0 = 0 ∧ b = r ∧ J u v)) (fun k u => (k = 1 ∨ k = 2 ∨ k = 3 ∨ k = 4) ∧ wR (fun _ v => v.1 0 0 = nI k ∧ J u v))) :
    ∃ Q : Int32 → SC × (Nat → Int64) → Prop, wG (fun r u => Q 0 (u, vp_updL f 0 r.toInt64)) (fun k u => (k = 1 ∨ k = 2 ∨ k = 3 ∨ k = 4) ∧ Q (nI k) (u, f)) ∧ ∀ (k : Int32) (T : SC × (Nat → Int64)), Q k T → ∃ R : Int32 → SR → Prop, wR R ∧ ∀ (b : Int32) (v : SR), R b v → v.1 0 0 = k ∧ J T.1 v ∧ (k = 0 → T.2 0 = b.toInt64) := by
  let Q : Int32 → SC × (Nat → Int64) → Prop := fun k T => (k = 0 ∧ ∃ r : Int32, T.2 = vp_updL f 0 r.toInt64 ∧ wR (fun b v => v.1 0 0 = 0 ∧ b = r ∧ J T.1 v)) ∨ (∃ k' : Nat, (k' = 1 ∨ k' = 2 ∨ k' = 3 ∨ k' = 4) ∧ k = nI k' ∧ wR (fun _ v => v.1 0 0 = nI k' ∧ J T.1 v))
  refine ⟨Q, ?_, ?_⟩
  · have e1 : (fun (r : Int32) (u : SC) => Q 0 (u, vp_updL f 0 r.toInt64)) = (fun r u => wR (fun b v => v.1 0 0 = 0 ∧ b = r ∧ J u v)) := by
      funext r u
      refine propext ⟨fun h => ?_, fun h => Or.inl ⟨rfl, r, rfl, h⟩⟩
      rcases h with ⟨-, r', e, h⟩ | ⟨k', hk, e, -⟩
      · have e0 := congrFun e 0
        have e0 : vp_updL f 0 r.toInt64 0 = vp_updL f 0 r'.toInt64 0 := e0
        rw [pk_uLs, pk_uLs] at e0
        have e9 := congrArg Int64.toInt e0
        rw [Int32.toInt_toInt64, Int32.toInt_toInt64] at e9
        have er : r = r' := Int32.toInt_inj.mp e9
        subst er
        exact h
      · exact absurd e.symm (nI_k0 hk)
    have e2 : (fun (k : Nat) (u : SC) => (k = 1 ∨ k = 2 ∨ k = 3 ∨ k = 4) ∧ Q (nI k) (u, f)) = (fun k u => (k = 1 ∨ k = 2 ∨ k = 3 ∨ k = 4) ∧ wR (fun _ v => v.1 0 0 = nI k ∧ J u v)) := by
      funext k u
      refine propext ⟨fun ⟨hk, h⟩ => ⟨hk, ?_⟩, fun ⟨hk, h⟩ => ⟨hk, Or.inr ⟨k, hk, rfl, h⟩⟩⟩
      rcases h with ⟨e, -⟩ | ⟨k', hk', e, h⟩
      · exact absurd e (nI_k0 hk)
      · have := nI_k hk hk' e
        subst this
        exact h
    rw [e1, e2]
    exact hj
  · intro k T h
    rcases h with ⟨e, r, et, h⟩ | ⟨k', hk', e, h⟩
    · refine ⟨_, h, fun b v hv => ⟨hv.1.trans e.symm, hv.2.2, fun _ => ?_⟩⟩
      rw [et, pk_uLs, hv.2.1]
    · exact ⟨_, h, fun b v hv => ⟨hv.1.trans e.symm, hv.2, fun e0 => absurd (e.symm.trans e0) (nI_k0 hk')⟩⟩
theorem h_joinD {wG : (UInt64 → SC → Prop) → (Nat → SC → Prop) → Prop} {wR : (UInt64 → SR → Prop) → Prop} (f : Nat → UInt64) (hj : wG (fun r u => wR (fun b v => v.1 0 0 = 0 ∧ b = r ∧ vf_n64 r ∧ J u v)) (fun k u => (k = 1 ∨ k = 2 ∨ k = 3 ∨ k = 4) ∧ wR (fun _ v => v.1 0 0 = nI k ∧ J u v))) :
    ∃ Q : Int32 → SC × (Nat → UInt64) → Prop, wG (fun r u => Q 0 (u, vf_upd f 0 r)) (fun k u => (k = 1 ∨ k = 2 ∨ k = 3 ∨ k = 4) ∧ Q (nI k) (u, f)) ∧ ∀ (k : Int32) (T : SC × (Nat → UInt64)), Q k T → ∃ R : UInt64 → SR → Prop, wR R ∧ ∀ (b : UInt64) (v : SR), R b v → v.1 0 0 = k ∧ J T.1 v ∧ (k = 0 → T.2 0 = b ∧ vf_n64 b) := by
  have us : ∀ (r : UInt64), vf_upd f 0 r 0 = r := fun r => by simp [vf_upd]
  let Q : Int32 → SC × (Nat → UInt64) → Prop := fun k T => (k = 0 ∧ ∃ r : UInt64, T.2 = vf_upd f 0 r ∧ wR (fun b v => v.1 0 0 = 0 ∧ b = r ∧ vf_n64 r ∧ J T.1 v)) ∨ (∃ k' : Nat, (k' = 1 ∨ k' = 2 ∨ k' = 3 ∨ k' = 4) ∧ k = nI k' ∧ wR (fun _ v => v.1 0 0 = nI k' ∧ J T.1 v))
  refine ⟨Q, ?_, ?_⟩
  · have e1 : (fun (r : UInt64) (u : SC) => Q 0 (u, vf_upd f 0 r)) = (fun r u => wR (fun b v => v.1 0 0 = 0 ∧ b = r ∧ vf_n64 r ∧ J u v)) := by
      funext r u
      refine propext ⟨fun h => ?_, fun h => Or.inl ⟨rfl, r, rfl, h⟩⟩
      rcases h with ⟨-, r', e, h⟩ | ⟨k', hk, e, -⟩
      · have e0 : vf_upd f 0 r 0 = vf_upd f 0 r' 0 := congrFun e 0
        rw [us, us] at e0
        subst e0
        exact h
      · exact absurd e.symm (nI_k0 hk)
    have e2 : (fun (k : Nat) (u : SC) => (k = 1 ∨ k = 2 ∨ k = 3 ∨ k = 4) ∧ Q (nI k) (u, f)) = (fun k u => (k = 1 ∨ k = 2 ∨ k = 3 ∨ k = 4) ∧ wR (fun _ v => v.1 0 0 = nI k ∧ J u v)) := by
      funext k u
      refine propext ⟨fun ⟨hk, h⟩ => ⟨hk, ?_⟩, fun ⟨hk, h⟩ => ⟨hk, Or.inr ⟨k, hk, rfl, h⟩⟩⟩
      rcases h with ⟨e, -⟩ | ⟨k', hk', e, h⟩
      · exact absurd e (nI_k0 hk)
      · have := nI_k hk hk' e
        subst this
        exact h
    rw [e1, e2]
    exact hj
  · intro k T h
    rcases h with ⟨e, r, et, h⟩ | ⟨k', hk', e, h⟩
    · refine ⟨_, h, fun b v hv => ⟨hv.1.trans e.symm, hv.2.2.2, fun _ => ⟨?_, ?_⟩⟩⟩
      · rw [et, us, hv.2.1]
      · rw [hv.2.1]
        exact hv.2.2.1
    · exact ⟨_, h, fun b v hv => ⟨hv.1.trans e.symm, hv.2, fun e0 => absurd (e.symm.trans e0) (nI_k0 hk')⟩⟩
theorem z_arg (y : Int32) : Jvm.FP.dmul (Jvm.FP.i2d y) (4593671619917905920 : UInt64) = zq 3 y.toInt := by
  have h1 := Int32.le_toInt y
  have h2 := Int32.toInt_lt y
  rw [zq_i2d, zk_8th, zq_mul (k := 0) (j := 3) (by omega) (by omega) (by omega) (by decide) (Or.inr (Or.inl (by decide))), Int.mul_one]
theorem z_abs (y : Int32) : y.toInt.natAbs < 4294967296 := by
  have h1 := Int32.le_toInt y
  have h2 := Int32.toInt_lt y
  omega
theorem z_argf (y : Int32) : vf_n64 (Jvm.FP.dmul (Jvm.FP.i2d y) (4593671619917905920 : UInt64)) := by
  rw [z_arg]
  have := z_abs y
  exact zq_fin (by omega) (by omega)
theorem d_same {v : UInt64} (h : vf_n64 v) (op : CmpOp) : Op.cmpValue (Jvm.FP.dcmp v v) op = 0 := by
  unfold vf_n64 at h
  rw [UInt64.le_iff_toNat_le, Jvm.FP.Core.mask_toNat] at h
  have hn : Jvm.FP.Core.val64 v ≠ .nan := (Jvm.FP.Core.ne_nan _).mpr h
  rw [show Jvm.FP.dcmp v v = some .eq from Jvm.FP.Core.dcmp_self hn]
  rfl
theorem l_same (v : Int64) : lg_cmp v v = 0 := by
  unfold lg_cmp
  simp
