theorem d_G_isWithin_0 : decode b_G_isWithin 0 = .ok (.dload_n 0, 1) := by decide +kernel
theorem d_G_isWithin_1 : decode b_G_isWithin 1 = .ok (.dload_n 2, 1) := by decide +kernel
theorem d_G_isWithin_2 : decode b_G_isWithin 2 = .ok (.dcmp .l, 1) := by decide +kernel
theorem d_G_isWithin_3 : decode b_G_isWithin 3 = .ok (.ifCond .lt 14, 3) := by decide +kernel
theorem d_G_isWithin_6 : decode b_G_isWithin 6 = .ok (.dload_n 0, 1) := by decide +kernel
theorem d_G_isWithin_7 : decode b_G_isWithin 7 = .ok (.dload 4, 2) := by decide +kernel
theorem d_G_isWithin_9 : decode b_G_isWithin 9 = .ok (.dcmp .g, 1) := by decide +kernel
theorem d_G_isWithin_10 : decode b_G_isWithin 10 = .ok (.ifCond .gt 7, 3) := by decide +kernel
theorem d_G_isWithin_13 : decode b_G_isWithin 13 = .ok (.iconst 1, 1) := by decide +kernel
theorem d_G_isWithin_14 : decode b_G_isWithin 14 = .ok (.goto 4, 3) := by decide +kernel
theorem d_G_isWithin_17 : decode b_G_isWithin 17 = .ok (.iconst 0, 1) := by decide +kernel
theorem d_G_isWithin_18 : decode b_G_isWithin 18 = .ok (.ireturn, 1) := by decide +kernel
def w_G_isWithin (S : SC) (x1 : UInt64) (x2 : UInt64) (x3 : UInt64) (Q : Int32 → SC → Prop) : Prop := (((Op.cmpValue (FP.dcmp x1 x2) .l) < 0) → (Q 0 S)) ∧ ((¬ (Op.cmpValue (FP.dcmp x1 x2) .l) < 0) → (((0 < (Op.cmpValue (FP.dcmp x1 x3) .g)) → (Q 0 S)) ∧ ((¬ 0 < (Op.cmpValue (FP.dcmp x1 x3) .g)) → (Q 1 S))))
set_option maxRecDepth 100000 in
set_option maxHeartbeats 4000000 in
theorem c_G_isWithin (l : Launch) (D : va_G) (ca : Nat → ClassId) (ad : Nat → Nat) (sz : Nat) (S : SC) (x1 : UInt64) (x2 : UInt64) (x3 : UInt64)  (Q : Int32 → SC → Prop) (h : w_G_isWithin S x1 x2 x3 Q) : Met l y_G_isWithin (Cond.code y_G_isWithin b_G_isWithin 6 (some Jvm.ClassFile.FieldType.boolean) :: tG) ({ frames := 0, cells := 0, slots := 0, locals := 0 } : Room) (xPc D ca (wC ca ad) S sz [.double x1, .double x2, .double x3]) (va_Qi Q (xAt D (wC ca ad) (va_A (wC ca ad S) sz)) (va_A (wC ca ad S) sz)) 0 0 (va_A (wC ca ad S) sz) := by
  refine xx_met (Qf := fun A => va_Qi Q (xAt D (wC ca ad) A) A) (by decide) (Nat.le_of_ble_eq_true rfl) ?_
  intro p e s m args below meth c A ls hx hb hr hw hown hlocks hml hK hN hA hP hD hS hl
  have hown : s.vm.findClass "TrainGuard" = some m.cls := hown
  have hl : lv_has ls 6 [(0, .double x1), (2, .double x2), (4, .double x3)] := hl
  unfold w_G_isWithin at h
  have hH9 : ∀ H : Heap, H = s.heap → va_P D cls (wC ca ad S) H → va_S A s.heap H [] → W p l e ({ frames := 0, cells := 0, slots := 0, locals := 0 } : Room) s m args below meth c H [] 0 0 (MQ below ((fun A => va_Qi Q (xAt D (wC ca ad) A) A) A) args s 0 0 A) (F0 m 0 ls []) := by
    clear hP hS
    intro H hH hP hS
    obtain ⟨locs, hlo⟩ : ∃ z : List Loc, z = [] := ⟨_, rfl⟩
    rw [← hlo] at hS ⊢
    refine lv_dload_n hx hb d_G_isWithin_0 rfl (lv_at hl 0 rfl) ?_
    refine lv_dload_n hx hb d_G_isWithin_1 rfl (lv_at hl 1 rfl) ?_
    refine lv_dcmp hx hb d_G_isWithin_2 ?_
    refine lv_if_lt (tgt := 17) hx hb d_G_isWithin_3 (by decide) (fun hc => ?_) (fun hc => ?_)
    · replace h := h.1 hc
      refine lv_iconst (v := 0) hx hb d_G_isWithin_17 (by decide) ?_
      exact W.zret (v := 0) hx hb hr rfl (fun t ht hW => ⟨⟨0, S, rfl, h, by rw [ht]; exact hP, hD⟩, hS.F ht⟩) hS.2.2 d_G_isWithin_18
    · replace h := h.2 hc
      refine lv_dload_n hx hb d_G_isWithin_6 rfl (lv_at hl 0 rfl) ?_
      refine lv_dload hx hb d_G_isWithin_7 (lv_at hl 2 rfl) ?_
      refine lv_dcmp hx hb d_G_isWithin_9 ?_
      refine lv_if_gt (tgt := 17) hx hb d_G_isWithin_10 (by decide) (fun hc => ?_) (fun hc => ?_)
      · replace h := h.1 hc
        refine lv_iconst (v := 0) hx hb d_G_isWithin_17 (by decide) ?_
        exact W.zret (v := 0) hx hb hr rfl (fun t ht hW => ⟨⟨0, S, rfl, h, by rw [ht]; exact hP, hD⟩, hS.F ht⟩) hS.2.2 d_G_isWithin_18
      · replace h := h.2 hc
        refine lv_iconst (v := 1) hx hb d_G_isWithin_13 (by decide) ?_
        refine lv_goto (tgt := 18) hx hb d_G_isWithin_14 (by decide) ?_
        exact W.zret (v := 1) hx hb hr rfl (fun t ht hW => ⟨⟨1, S, rfl, h, by rw [ht]; exact hP, hD⟩, hS.F ht⟩) hS.2.2 d_G_isWithin_18
  exact hH9 _ rfl hP hS
theorem d_G_isSpeed_0 : decode b_G_isSpeed 0 = .ok (.dload_n 0, 1) := by decide +kernel
theorem d_G_isSpeed_1 : decode b_G_isSpeed 1 = .ok (.dconst 1, 1) := by decide +kernel
theorem d_G_isSpeed_2 : decode b_G_isSpeed 2 = .ok (.ldc2_w 232, 3) := by decide +kernel
theorem d_G_isSpeed_5 : decode b_G_isSpeed 5 = .ok (.invokestatic 27, 3) := by decide +kernel
theorem d_G_isSpeed_8 : decode b_G_isSpeed 8 = .ok (.ireturn, 1) := by decide +kernel
theorem gl_G_27 : ∀ w ∈ wsS "TrainGuard" 27 y_G_isWithin (Cond.code y_G_isWithin b_G_isWithin 6 (some Jvm.ClassFile.FieldType.boolean) :: tG), w ∈ tG := by
  intro x hx
  simp only [wsS, List.cons_append, List.nil_append, List.mem_cons] at hx
  rcases hx with rfl | rfl | rfl | rfl | hx
  · exact wd_168
  · exact wd_169
  · exact wd_1
  · exact wd_170
  · exact hx
def w_G_isSpeed (S : SC) (x1 : UInt64) (Q : Int32 → SC → Prop) : Prop := w_G_isWithin S x1 FP.dconst1 (4633641066610819072 : UInt64) (fun r1 S2 => narrow .boolean (.int r1) = .int r1 ∧ Q r1 S2)
set_option maxRecDepth 100000 in
set_option maxHeartbeats 4000000 in
theorem c_G_isSpeed (l : Launch) (D : va_G) (ca : Nat → ClassId) (ad : Nat → Nat) (sz : Nat) (S : SC) (x1 : UInt64)  (Q : Int32 → SC → Prop) (h : w_G_isSpeed S x1 Q) : Met l y_G_isSpeed (Cond.code y_G_isSpeed b_G_isSpeed 2 (some Jvm.ClassFile.FieldType.boolean) :: tG) ({ frames := 1, cells := 0, slots := 0, locals := 25 } : Room) (xPc D ca (wC ca ad) S sz [.double x1]) (va_Qi Q (xAt D (wC ca ad) (va_A (wC ca ad S) sz)) (va_A (wC ca ad S) sz)) 0 0 (va_A (wC ca ad S) sz) := by
  refine xx_met (Qf := fun A => va_Qi Q (xAt D (wC ca ad) A) A) (by decide) (Nat.le_of_ble_eq_true rfl) ?_
  intro p e s m args below meth c A ls hx hb hr hw hown hlocks hml hK hN hA hP hD hS hl
  have hown : s.vm.findClass "TrainGuard" = some m.cls := hown
  have hl : lv_has ls 2 [(0, .double x1)] := hl
  unfold w_G_isSpeed at h
  have hH9 : ∀ H : Heap, H = s.heap → va_P D cls (wC ca ad S) H → va_S A s.heap H [] → W p l e ({ frames := 1, cells := 0, slots := 0, locals := 25 } : Room) s m args below meth c H [] 0 0 (MQ below ((fun A => va_Qi Q (xAt D (wC ca ad) A) A) A) args s 0 0 A) (F0 m 0 ls []) := by
    clear hP hS
    intro H hH hP hS
    obtain ⟨locs, hlo⟩ : ∃ z : List Loc, z = [] := ⟨_, rfl⟩
    rw [← hlo] at hS ⊢
    refine lv_dload_n hx hb d_G_isSpeed_0 rfl (lv_at hl 0 rfl) ?_
    refine lv_dconst1 hx hb d_G_isSpeed_1 ?_
    refine lv_ldc2d hx hb hown (hw _ wd_174) d_G_isSpeed_2 ?_
    refine xx_calli (va_runS (As := [.double x1, .double FP.dconst1, .double (4633641066610819072 : UInt64)]) (rest := []) ⟨hx, hb, hml, hown, hw⟩ (c_G_isWithin l D ca ad H.size S x1 FP.dconst1 (4633641066610819072 : UInt64) _ h) (cwS 3 hw (tG_g gl_G_27) rfl rfl rfl (by decide +kernel) ⟨Nat.le_of_ble_eq_true rfl, Nat.le_of_ble_eq_true rfl⟩) ⟨xPc.blind, xPc.pre hK hN hP hD⟩ rfl rfl hl.1 rfl (lv_room (Nat.le_of_ble_eq_true rfl)) d_G_isSpeed_5 ⟨Nat.le_of_ble_eq_true rfl, Nat.le_of_ble_eq_true rfl⟩) hD hS hA (fun r1 S2 H locs h hP hD hS => ?_)
    obtain ⟨hq, h⟩ := h
    exact W.zret (v := r1) hx hb hr hq (fun t ht hW => ⟨⟨r1, S2, rfl, h, by rw [ht]; exact hP, hD⟩, hS.F ht⟩) hS.2.2 d_G_isSpeed_8
  exact hH9 _ rfl hP hS
theorem d_G_allStandBy_0 : decode b_G_allStandBy 0 = .ok (.iconst 0, 1) := by decide +kernel
theorem d_G_allStandBy_1 : decode b_G_allStandBy 1 = .ok (.istore_n 1, 1) := by decide +kernel
theorem d_G_allStandBy_2 : decode b_G_allStandBy 2 = .ok (.iload_n 1, 1) := by decide +kernel
theorem d_G_allStandBy_3 : decode b_G_allStandBy 3 = .ok (.aload_n 0, 1) := by decide +kernel
theorem d_G_allStandBy_4 : decode b_G_allStandBy 4 = .ok (.getfield 39, 3) := by decide +kernel
theorem d_G_allStandBy_7 : decode b_G_allStandBy 7 = .ok (.if_icmp .ge 23, 3) := by decide +kernel
theorem d_G_allStandBy_10 : decode b_G_allStandBy 10 = .ok (.aload_n 0, 1) := by decide +kernel
theorem d_G_allStandBy_11 : decode b_G_allStandBy 11 = .ok (.getfield 18, 3) := by decide +kernel
theorem d_G_allStandBy_14 : decode b_G_allStandBy 14 = .ok (.iload_n 1, 1) := by decide +kernel
theorem d_G_allStandBy_15 : decode b_G_allStandBy 15 = .ok (.aaload, 1) := by decide +kernel
theorem d_G_allStandBy_16 : decode b_G_allStandBy 16 = .ok (.getfield 106, 3) := by decide +kernel
theorem d_G_allStandBy_19 : decode b_G_allStandBy 19 = .ok (.ifCond .eq 5, 3) := by decide +kernel
theorem d_G_allStandBy_22 : decode b_G_allStandBy 22 = .ok (.iconst 0, 1) := by decide +kernel
theorem d_G_allStandBy_23 : decode b_G_allStandBy 23 = .ok (.ireturn, 1) := by decide +kernel
theorem d_G_allStandBy_24 : decode b_G_allStandBy 24 = .ok (.iinc 1 1, 3) := by decide +kernel
theorem d_G_allStandBy_27 : decode b_G_allStandBy 27 = .ok (.goto (-25), 3) := by decide +kernel
theorem d_G_allStandBy_30 : decode b_G_allStandBy 30 = .ok (.iconst 1, 1) := by decide +kernel
theorem d_G_allStandBy_31 : decode b_G_allStandBy 31 = .ok (.ireturn, 1) := by decide +kernel
def w_G_allStandBy_2 : Nat → SC → Int32 → (Int32 → SC → Prop) → Prop
  | 0 => fun _ _ _ => False
  | n + 1 => fun S y1 Q => ((((S.1 0 0) ≤ y1) → (Q 1 S)) ∧ ((¬ (S.1 0 0) ≤ y1) → (vp_in y1 3 ∧ (y1.toNatClampNeg < 3) ∧ ((((S.1 9 y1.toNatClampNeg) = 0) → ((fun S9 z0 => w_G_allStandBy_2 n S9 z0 Q) S (y1 + 1))) ∧ ((¬ (S.1 9 y1.toNatClampNeg) = 0) → (Q 0 S))))))
def w_G_allStandBy (S : SC) (Q : Int32 → SC → Prop) : Prop := ∃ n : Nat, w_G_allStandBy_2 n S 0 Q
set_option maxRecDepth 100000 in
set_option maxHeartbeats 4000000 in
theorem c_G_allStandBy (l : Launch) (D : va_G) (ca : Nat → ClassId) (ad : Nat → Nat) (sz : Nat) (S : SC)   (Q : Int32 → SC → Prop) (h : w_G_allStandBy S  Q) : Met l y_G_allStandBy (Cond.code y_G_allStandBy b_G_allStandBy 2 (some Jvm.ClassFile.FieldType.boolean) :: tG) ({ frames := 0, cells := 0, slots := 0, locals := 0 } : Room) (xPc D ca (wC ca ad) S sz [.ref (ad 0)]) (va_Qi Q (xAt D (wC ca ad) (va_A (wC ca ad S) sz)) (va_A (wC ca ad S) sz)) 0 0 (va_A (wC ca ad S) sz) := by
  refine xx_met (Qf := fun A => va_Qi Q (xAt D (wC ca ad) A) A) (by decide) (Nat.le_of_ble_eq_true rfl) ?_
  intro p e s m args below meth c A ls hx hb hr hw hown hlocks hml hK hN hA hP hD hS hl
  have hown : s.vm.findClass "TrainGuard" = some m.cls := hown
  have hl : lv_has ls 2 [(0, .ref (ad 0))] := hl
  unfold w_G_allStandBy at h
  have bk_2 : ∀ (n9 : Nat) (S : SC) (y1 : Int32) (H : Heap) (locs : List Loc) , va_P D cls (wC ca ad S) H → va_D A (wC ca ad S) → va_S A s.heap H locs → ∀ (ls : Array Slot), lv_has ls 2 [(0, .ref (ad 0)), (1, .int y1)] → w_G_allStandBy_2 n9 S y1 Q → W p l e ({ frames := 0, cells := 0, slots := 0, locals := 0 } : Room) s m args below meth c H locs 0 0 (MQ below ((fun A => va_Qi Q (xAt D (wC ca ad) A) A) A) args s 0 0 A) (F0 m 2 ls []) := by
    intro n9
    induction n9 with
    | zero => intro S y1 H locs hP hD hS ls hl h; exact absurd h id
    | succ n9 hK2 =>
      intro S y1 H locs hP hD hS ls hl h
      replace h : (((S.1 0 0) ≤ y1) → (Q 1 S)) ∧ ((¬ (S.1 0 0) ≤ y1) → (vp_in y1 3 ∧ (y1.toNatClampNeg < 3) ∧ ((((S.1 9 y1.toNatClampNeg) = 0) → ((fun S9 z0 => w_G_allStandBy_2 n9 S9 z0 Q) S (y1 + 1))) ∧ ((¬ (S.1 9 y1.toNatClampNeg) = 0) → (Q 0 S))))) := h
      refine lv_iload_n hx hb d_G_allStandBy_2 rfl (lv_at hl 1 rfl) ?_
      refine lv_aload_n hx hb d_G_allStandBy_3 rfl (lv_at hl 0 rfl) ?_
      refine va_get (D := D) (ci := 3) (v := .int (S.1 0 0)) (C := Rc_G) (T := Fc_G) (N := 6) hx hb hw inc_G hown hK hP 0 rfl rfl 2 (by decide) (hw _ wd_134) (fun _ h9 => h9) rfl d_G_allStandBy_4 ?_
      refine lv_icmp_ge (tgt := 30) hx hb d_G_allStandBy_7 (by decide) (fun hc => ?_) (fun hc => ?_)
      · replace h := h.1 hc
        refine lv_iconst (v := 1) hx hb d_G_allStandBy_30 (by decide) ?_
        exact W.zret (v := 1) hx hb hr rfl (fun t ht hW => ⟨⟨1, S, rfl, h, by rw [ht]; exact hP, hD⟩, hS.F ht⟩) hS.2.2 d_G_allStandBy_31
      · replace h := h.2 hc
        refine lv_aload_n hx hb d_G_allStandBy_10 rfl (lv_at hl 0 rfl) ?_
        refine va_get (D := D) (ci := 3) (v := .ref (ad 8)) (C := Rc_G) (T := Fc_G) (N := 6) hx hb hw inc_G hown hK hP 0 rfl rfl 1 (by decide) (hw _ wd_133) (fun _ h9 => h9) rfl d_G_allStandBy_11 ?_
        refine lv_iload_n hx hb d_G_allStandBy_14 rfl (lv_at hl 1 rfl) ?_
        obtain ⟨hq, hj1, h⟩ := h
        refine va_aldq (D := D) hx hb hK hP 8 4 rfl rfl hq d_G_allStandBy_15 ?_
        refine W.eq (g2 := F0 m 16 ls (.ref (ad (9 + y1.toNatClampNeg)) :: [])) rfl ?_
        refine va_getN (D := D) (ci := 2) (v := .int (S.1 9 y1.toNatClampNeg)) (C := Rc_T) (T := Fc_T) (N := 11) hx hb hw inc_T hown hK hP (9 + y1.toNatClampNeg) (wC_T hj1) rfl 10 (by decide) (nw_108 hN) (fun _ h9 => h9) rfl d_G_allStandBy_16 ?_
        refine lv_if_eq (tgt := 24) hx hb d_G_allStandBy_19 (by decide) (fun hc => ?_) (fun hc => ?_)
        · replace h := h.1 hc
          refine lv_iinc (v := (y1 + 1)) (lv' := [(1, .int (y1 + 1)), (0, .ref (ad 0))]) hx hb d_G_allStandBy_24 hl (k := 1) rfl rfl (by decide) rfl (fun ls hl => ?_)
          refine lv_goto (tgt := 2) hx hb d_G_allStandBy_27 (by decide) ?_
          exact hK2 S (y1 + 1) H locs hP hD hS ls (lv_sub hl [1, 0] rfl) h
        · replace h := h.2 hc
          refine lv_iconst (v := 0) hx hb d_G_allStandBy_22 (by decide) ?_
          exact W.zret (v := 0) hx hb hr rfl (fun t ht hW => ⟨⟨0, S, rfl, h, by rw [ht]; exact hP, hD⟩, hS.F ht⟩) hS.2.2 d_G_allStandBy_23
  have hH9 : ∀ H : Heap, H = s.heap → va_P D cls (wC ca ad S) H → va_S A s.heap H [] → W p l e ({ frames := 0, cells := 0, slots := 0, locals := 0 } : Room) s m args below meth c H [] 0 0 (MQ below ((fun A => va_Qi Q (xAt D (wC ca ad) A) A) A) args s 0 0 A) (F0 m 0 ls []) := by
    clear hP hS
    intro H hH hP hS
    obtain ⟨locs, hlo⟩ : ∃ z : List Loc, z = [] := ⟨_, rfl⟩
    rw [← hlo] at hS ⊢
    refine lv_iconst (v := 0) hx hb d_G_allStandBy_0 (by decide) ?_
    refine lv_istore_n (lv' := [(1, .int 0), (0, .ref (ad 0))]) hx hb d_G_allStandBy_1 rfl hl (by decide) rfl (fun ls hl => ?_)
    obtain ⟨n9, h⟩ := h
    exact bk_2 n9 S 0 H locs hP hD hS ls (lv_sub hl [1, 0] rfl) h
  exact hH9 _ rfl hP hS
theorem d_G_isIn_0 : decode b_G_isIn 0 = .ok (.aload_n 0, 1) := by decide +kernel
theorem d_G_isIn_1 : decode b_G_isIn 1 = .ok (.getfield 10, 3) := by decide +kernel
theorem d_G_isIn_4 : decode b_G_isIn 4 = .ok (.iload_n 2, 1) := by decide +kernel
theorem d_G_isIn_5 : decode b_G_isIn 5 = .ok (.invokevirtual 91, 3) := by decide +kernel
theorem d_G_isIn_8 : decode b_G_isIn 8 = .ok (.aload_n 1, 1) := by decide +kernel
theorem d_G_isIn_9 : decode b_G_isIn 9 = .ok (.getfield 196, 3) := by decide +kernel
theorem d_G_isIn_12 : decode b_G_isIn 12 = .ok (.dcmp .g, 1) := by decide +kernel
theorem d_G_isIn_13 : decode b_G_isIn 13 = .ok (.ifCond .ge 23, 3) := by decide +kernel
theorem d_G_isIn_16 : decode b_G_isIn 16 = .ok (.aload_n 0, 1) := by decide +kernel
theorem d_G_isIn_17 : decode b_G_isIn 17 = .ok (.getfield 10, 3) := by decide +kernel
theorem d_G_isIn_20 : decode b_G_isIn 20 = .ok (.iload_n 2, 1) := by decide +kernel
theorem d_G_isIn_21 : decode b_G_isIn 21 = .ok (.invokevirtual 121, 3) := by decide +kernel
theorem d_G_isIn_24 : decode b_G_isIn 24 = .ok (.aload_n 1, 1) := by decide +kernel
theorem d_G_isIn_25 : decode b_G_isIn 25 = .ok (.invokevirtual 175, 3) := by decide +kernel
theorem d_G_isIn_28 : decode b_G_isIn 28 = .ok (.dcmp .l, 1) := by decide +kernel
theorem d_G_isIn_29 : decode b_G_isIn 29 = .ok (.ifCond .le 7, 3) := by decide +kernel
theorem d_G_isIn_32 : decode b_G_isIn 32 = .ok (.iconst 1, 1) := by decide +kernel
theorem d_G_isIn_33 : decode b_G_isIn 33 = .ok (.goto 4, 3) := by decide +kernel
theorem d_G_isIn_36 : decode b_G_isIn 36 = .ok (.iconst 0, 1) := by decide +kernel
theorem d_G_isIn_37 : decode b_G_isIn 37 = .ok (.ireturn, 1) := by decide +kernel
theorem gl_G_91 : ∀ w ∈ wsV "TrainGuard" 91 "TrainGuard$Line" y_L_beginOf (Cond.code y_L_beginOf b_L_beginOf 2 (some Jvm.ClassFile.FieldType.double) :: tG), w ∈ tG := by
  intro x hx
  simp only [wsV, List.cons_append, List.nil_append, List.mem_cons] at hx
  rcases hx with rfl | rfl | rfl | rfl | rfl | hx
  · exact wd_347
  · exact wd_332
  · exact wd_333
  · exact wd_2
  · exact wd_334
  · exact hx
theorem gl_G_121 : ∀ w ∈ wsV "TrainGuard" 121 "TrainGuard$Line" y_L_endOf (Cond.code y_L_endOf b_L_endOf 2 (some Jvm.ClassFile.FieldType.double) :: tG), w ∈ tG := by
  intro x hx
  simp only [wsV, List.cons_append, List.nil_append, List.mem_cons] at hx
  rcases hx with rfl | rfl | rfl | rfl | rfl | hx
  · exact wd_348
  · exact wd_328
  · exact wd_329
  · exact wd_2
  · exact wd_330
  · exact hx
theorem gl_G_175 : ∀ w ∈ wsV "TrainGuard" 175 "TrainGuard$Train" y_T_rear (Cond.code y_T_rear b_T_rear 1 (some Jvm.ClassFile.FieldType.double) :: tG), w ∈ tG := by
  intro x hx
  simp only [wsV, List.cons_append, List.nil_append, List.mem_cons] at hx
  rcases hx with rfl | rfl | rfl | rfl | rfl | hx
  · exact wd_349
  · exact wd_350
  · exact wd_351
  · exact wd_3
  · exact wd_352
  · exact hx
def w_G_isIn (S : SC) (i : Nat) (x2 : Int32) (Q : Int32 → SC → Prop) : Prop := w_L_beginOf S x2 (fun r1 S2 => ((0 ≤ (Op.cmpValue (FP.dcmp r1 (S2.2 8 i)) .g)) → (Q 0 S2)) ∧ ((¬ 0 ≤ (Op.cmpValue (FP.dcmp r1 (S2.2 8 i)) .g)) → (w_L_endOf S2 x2 (fun r3 S4 => w_T_rear S4 i (fun r5 S6 => (((Op.cmpValue (FP.dcmp r3 r5) .l) ≤ 0) → (Q 0 S6)) ∧ ((¬ (Op.cmpValue (FP.dcmp r3 r5) .l) ≤ 0) → (Q 1 S6)))))))
set_option maxRecDepth 100000 in
set_option maxHeartbeats 4000000 in
theorem c_G_isIn (l : Launch) (D : va_G) (ca : Nat → ClassId) (ad : Nat → Nat) (sz : Nat) (S : SC) (i : Nat) (x2 : Int32) (hi : i < 3) (Q : Int32 → SC → Prop) (h : w_G_isIn S i x2 Q) : Met l y_G_isIn (Cond.code y_G_isIn b_G_isIn 3 (some Jvm.ClassFile.FieldType.boolean) :: tG) ({ frames := 1, cells := 0, slots := 0, locals := 21 } : Room) (xPc D ca (wC ca ad) S sz [.ref (ad 0), .ref (ad (9 + i)), .int x2]) (va_Qi Q (xAt D (wC ca ad) (va_A (wC ca ad S) sz)) (va_A (wC ca ad S) sz)) 0 0 (va_A (wC ca ad S) sz) := by
  refine xx_met (Qf := fun A => va_Qi Q (xAt D (wC ca ad) A) A) (by decide) (Nat.le_of_ble_eq_true rfl) ?_
  intro p e s m args below meth c A ls hx hb hr hw hown hlocks hml hK hN hA hP hD hS hl
  have hown : s.vm.findClass "TrainGuard" = some m.cls := hown
  have hl : lv_has ls 3 [(0, .ref (ad 0)), (1, .ref (ad (9 + i))), (2, .int x2)] := hl
  unfold w_G_isIn at h
  have hH9 : ∀ H : Heap, H = s.heap → va_P D cls (wC ca ad S) H → va_S A s.heap H [] → W p l e ({ frames := 1, cells := 0, slots := 0, locals := 21 } : Room) s m args below meth c H [] 0 0 (MQ below ((fun A => va_Qi Q (xAt D (wC ca ad) A) A) A) args s 0 0 A) (F0 m 0 ls []) := by
    clear hP hS
    intro H hH hP hS
    obtain ⟨locs, hlo⟩ : ∃ z : List Loc, z = [] := ⟨_, rfl⟩
    rw [← hlo] at hS ⊢
    refine lv_aload_n hx hb d_G_isIn_0 rfl (lv_at hl 0 rfl) ?_
    refine va_get (D := D) (ci := 3) (v := .ref (ad 1)) (C := Rc_G) (T := Fc_G) (N := 6) hx hb hw inc_G hown hK hP 0 rfl rfl 0 (by decide) (hw _ wd_132) (fun _ h9 => h9) rfl d_G_isIn_1 ?_
    refine lv_iload_n hx hb d_G_isIn_4 rfl (lv_at hl 2 rfl) ?_
    refine xx_calld (va_runV (As := [.int x2]) (rest := []) ⟨hx, hb, hml, hown, hw⟩ (c_L_beginOf l D ca ad H.size S x2 _ h) (cwV 1 hw (tG_g gl_G_91) rfl rfl rfl (by decide +kernel) ⟨Nat.le_of_ble_eq_true rfl, Nat.le_of_ble_eq_true rfl⟩) ⟨xPc.blind, va_recv hK hP rfl (q0 := 1) rfl, xPc.pre hK hN hP hD⟩ rfl rfl hl.1 rfl (lv_room (Nat.le_of_ble_eq_true rfl)) d_G_isIn_5 ⟨Nat.le_of_ble_eq_true rfl, Nat.le_of_ble_eq_true rfl⟩) hD hS hA (fun r1 S2 H locs h hP hD hS => ?_)
    refine lv_aload_n hx hb d_G_isIn_8 rfl (lv_at hl 1 rfl) ?_
    refine va_getN (D := D) (ci := 2) (v := .double (S2.2 8 i)) (C := Rc_T) (T := Fc_T) (N := 11) hx hb hw inc_T hown hK hP (9 + i) (wC_T hi) rfl 4 (by decide) (nw_96 hN) (fun _ h9 => h9) rfl d_G_isIn_9 ?_
    refine lv_dcmp hx hb d_G_isIn_12 ?_
    refine lv_if_ge (tgt := 36) hx hb d_G_isIn_13 (by decide) (fun hc => ?_) (fun hc => ?_)
    · replace h := h.1 hc
      refine lv_iconst (v := 0) hx hb d_G_isIn_36 (by decide) ?_
      exact W.zret (v := 0) hx hb hr rfl (fun t ht hW => ⟨⟨0, S2, rfl, h, by rw [ht]; exact hP, hD⟩, hS.F ht⟩) hS.2.2 d_G_isIn_37
    · replace h := h.2 hc
      refine lv_aload_n hx hb d_G_isIn_16 rfl (lv_at hl 0 rfl) ?_
      refine va_get (D := D) (ci := 3) (v := .ref (ad 1)) (C := Rc_G) (T := Fc_G) (N := 6) hx hb hw inc_G hown hK hP 0 rfl rfl 0 (by decide) (hw _ wd_132) (fun _ h9 => h9) rfl d_G_isIn_17 ?_
      refine lv_iload_n hx hb d_G_isIn_20 rfl (lv_at hl 2 rfl) ?_
      refine xx_calld (va_runV (As := [.int x2]) (rest := []) ⟨hx, hb, hml, hown, hw⟩ (c_L_endOf l D ca ad H.size S2 x2 _ h) (cwV 1 hw (tG_g gl_G_121) rfl rfl rfl (by decide +kernel) ⟨Nat.le_of_ble_eq_true rfl, Nat.le_of_ble_eq_true rfl⟩) ⟨xPc.blind, va_recv hK hP rfl (q0 := 1) rfl, xPc.pre hK hN hP hD⟩ rfl rfl hl.1 rfl (lv_room (Nat.le_of_ble_eq_true rfl)) d_G_isIn_21 ⟨Nat.le_of_ble_eq_true rfl, Nat.le_of_ble_eq_true rfl⟩) hD hS hA (fun r3 S4 H locs h hP hD hS => ?_)
      refine lv_aload_n hx hb d_G_isIn_24 rfl (lv_at hl 1 rfl) ?_
      refine xx_calld (va_runV (As := []) (rest := [.double r3]) ⟨hx, hb, hml, hown, hw⟩ (c_T_rear l D ca ad H.size S4 i hi _ h) (cwV 0 hw (tG_g gl_G_175) rfl rfl rfl (by decide +kernel) ⟨Nat.le_of_ble_eq_true rfl, Nat.le_of_ble_eq_true rfl⟩) ⟨xPc.blind, va_recv hK hP rfl (wC_T hi), xPc.pre hK hN hP hD⟩ rfl rfl hl.1 rfl (lv_room (Nat.le_of_ble_eq_true rfl)) d_G_isIn_25 ⟨Nat.le_of_ble_eq_true rfl, Nat.le_of_ble_eq_true rfl⟩) hD hS hA (fun r5 S6 H locs h hP hD hS => ?_)
      refine lv_dcmp hx hb d_G_isIn_28 ?_
      refine lv_if_le (tgt := 36) hx hb d_G_isIn_29 (by decide) (fun hc => ?_) (fun hc => ?_)
      · replace h := h.1 hc
        refine lv_iconst (v := 0) hx hb d_G_isIn_36 (by decide) ?_
        exact W.zret (v := 0) hx hb hr rfl (fun t ht hW => ⟨⟨0, S6, rfl, h, by rw [ht]; exact hP, hD⟩, hS.F ht⟩) hS.2.2 d_G_isIn_37
      · replace h := h.2 hc
        refine lv_iconst (v := 1) hx hb d_G_isIn_32 (by decide) ?_
        refine lv_goto (tgt := 37) hx hb d_G_isIn_33 (by decide) ?_
        exact W.zret (v := 1) hx hb hr rfl (fun t ht hW => ⟨⟨1, S6, rfl, h, by rw [ht]; exact hP, hD⟩, hS.F ht⟩) hS.2.2 d_G_isIn_37
  exact hH9 _ rfl hP hS
theorem d_G_headOf_0 : decode b_G_headOf 0 = .ok (.iconst 0, 1) := by decide +kernel
theorem d_G_headOf_1 : decode b_G_headOf 1 = .ok (.istore_n 2, 1) := by decide +kernel
theorem d_G_headOf_2 : decode b_G_headOf 2 = .ok (.iconst 0, 1) := by decide +kernel
theorem d_G_headOf_3 : decode b_G_headOf 3 = .ok (.istore_n 3, 1) := by decide +kernel
theorem d_G_headOf_4 : decode b_G_headOf 4 = .ok (.iload_n 3, 1) := by decide +kernel
theorem d_G_headOf_5 : decode b_G_headOf 5 = .ok (.aload_n 0, 1) := by decide +kernel
theorem d_G_headOf_6 : decode b_G_headOf 6 = .ok (.getfield 10, 3) := by decide +kernel
theorem d_G_headOf_9 : decode b_G_headOf 9 = .ok (.getfield 43, 3) := by decide +kernel
theorem d_G_headOf_12 : decode b_G_headOf 12 = .ok (.if_icmp .ge 20, 3) := by decide +kernel
theorem d_G_headOf_15 : decode b_G_headOf 15 = .ok (.aload_n 0, 1) := by decide +kernel
theorem d_G_headOf_16 : decode b_G_headOf 16 = .ok (.aload_n 1, 1) := by decide +kernel
theorem d_G_headOf_17 : decode b_G_headOf 17 = .ok (.iload_n 3, 1) := by decide +kernel
theorem d_G_headOf_18 : decode b_G_headOf 18 = .ok (.invokevirtual 228, 3) := by decide +kernel
theorem d_G_headOf_21 : decode b_G_headOf 21 = .ok (.ifCond .eq 5, 3) := by decide +kernel
theorem d_G_headOf_24 : decode b_G_headOf 24 = .ok (.iload_n 3, 1) := by decide +kernel
theorem d_G_headOf_25 : decode b_G_headOf 25 = .ok (.istore_n 2, 1) := by decide +kernel
theorem d_G_headOf_26 : decode b_G_headOf 26 = .ok (.iinc 3 1, 3) := by decide +kernel
theorem d_G_headOf_29 : decode b_G_headOf 29 = .ok (.goto (-25), 3) := by decide +kernel
theorem d_G_headOf_32 : decode b_G_headOf 32 = .ok (.iload_n 2, 1) := by decide +kernel
theorem d_G_headOf_33 : decode b_G_headOf 33 = .ok (.ireturn, 1) := by decide +kernel
theorem gl_G_228 : ∀ w ∈ wsV "TrainGuard" 228 "TrainGuard" y_G_isIn (Cond.code y_G_isIn b_G_isIn 3 (some Jvm.ClassFile.FieldType.boolean) :: tG), w ∈ tG := by
  intro x hx
  simp only [wsV, List.cons_append, List.nil_append, List.mem_cons] at hx
  rcases hx with rfl | rfl | rfl | rfl | rfl | hx
  · exact wd_343
  · exact wd_345
  · exact ws_4
  · exact wd_1
  · exact wd_346
  · exact hx
def w_G_headOf_26 (K4 : SC → Int32 → Int32 → Prop) (i : Nat) (S : SC) (y2 : Int32) (y3 : Int32) (Q : Int32 → SC → Prop) : Prop := K4 S y2 (y3 + 1)
def w_G_headOf_4 (i : Nat) : Nat → SC → Int32 → Int32 → (Int32 → SC → Prop) → Prop
  | 0 => fun _ _ _ _ => False
  | n + 1 => fun S y2 y3 Q => ((((S.1 4 0) ≤ y3) → (Q y2 S)) ∧ ((¬ (S.1 4 0) ≤ y3) → (w_G_isIn S i y3 (fun r1 S2 => ((r1 = 0) → (w_G_headOf_26 (fun S9 z0 z1 => w_G_headOf_4 i n S9 z0 z1 Q) i S2 y2 y3 Q)) ∧ ((¬ r1 = 0) → (w_G_headOf_26 (fun S9 z0 z1 => w_G_headOf_4 i n S9 z0 z1 Q) i S2 y3 y3 Q))))))
def w_G_headOf (S : SC) (i : Nat) (Q : Int32 → SC → Prop) : Prop := ∃ n : Nat, w_G_headOf_4 i n S 0 0 Q
set_option maxRecDepth 100000 in
set_option maxHeartbeats 4000000 in
theorem c_G_headOf (l : Launch) (D : va_G) (ca : Nat → ClassId) (ad : Nat → Nat) (sz : Nat) (S : SC) (i : Nat) (hi : i < 3) (Q : Int32 → SC → Prop) (h : w_G_headOf S i Q) : Met l y_G_headOf (Cond.code y_G_headOf b_G_headOf 4 (some Jvm.ClassFile.FieldType.int) :: tG) ({ frames := 2, cells := 0, slots := 0, locals := 43 } : Room) (xPc D ca (wC ca ad) S sz [.ref (ad 0), .ref (ad (9 + i))]) (va_Qi Q (xAt D (wC ca ad) (va_A (wC ca ad S) sz)) (va_A (wC ca ad S) sz)) 0 0 (va_A (wC ca ad S) sz) := by
  refine xx_met (Qf := fun A => va_Qi Q (xAt D (wC ca ad) A) A) (by decide) (Nat.le_of_ble_eq_true rfl) ?_
  intro p e s m args below meth c A ls hx hb hr hw hown hlocks hml hK hN hA hP hD hS hl
  have hown : s.vm.findClass "TrainGuard" = some m.cls := hown
  have hl : lv_has ls 4 [(0, .ref (ad 0)), (1, .ref (ad (9 + i)))] := hl
  unfold w_G_headOf at h
  have bk_26 : ∀ (K4 : SC → Int32 → Int32 → Prop) (hK4 : ∀ (S : SC) (y2 : Int32) (y3 : Int32) (H : Heap) (locs : List Loc) , va_P D cls (wC ca ad S) H → va_D A (wC ca ad S) → va_S A s.heap H locs → ∀ (ls : Array Slot), lv_has ls 4 [(0, .ref (ad 0)), (1, .ref (ad (9 + i))), (2, .int y2), (3, .int y3)] → K4 S y2 y3 → W p l e ({ frames := 2, cells := 0, slots := 0, locals := 43 } : Room) s m args below meth c H locs 0 0 (MQ below ((fun A => va_Qi Q (xAt D (wC ca ad) A) A) A) args s 0 0 A) (F0 m 4 ls [])) (S : SC) (y2 : Int32) (y3 : Int32) (H : Heap) (locs : List Loc) , va_P D cls (wC ca ad S) H → va_D A (wC ca ad S) → va_S A s.heap H locs → ∀ (ls : Array Slot), lv_has ls 4 [(0, .ref (ad 0)), (1, .ref (ad (9 + i))), (2, .int y2), (3, .int y3)] → w_G_headOf_26 K4 i S y2 y3 Q → W p l e ({ frames := 2, cells := 0, slots := 0, locals := 43 } : Room) s m args below meth c H locs 0 0 (MQ below ((fun A => va_Qi Q (xAt D (wC ca ad) A) A) A) args s 0 0 A) (F0 m 26 ls []) := by
    intro K4 hK4 S y2 y3 H locs hP hD hS ls hl h
    unfold w_G_headOf_26 at h
    refine lv_iinc (v := (y3 + 1)) (lv' := [(3, .int (y3 + 1)), (0, .ref (ad 0)), (1, .ref (ad (9 + i))), (2, .int y2)]) hx hb d_G_headOf_26 hl (k := 3) rfl rfl (by decide) rfl (fun ls hl => ?_)
    refine lv_goto (tgt := 4) hx hb d_G_headOf_29 (by decide) ?_
    exact hK4 S y2 (y3 + 1) H locs hP hD hS ls (lv_sub hl [1, 2, 3, 0] rfl) h
  have bk_4 : ∀ (n9 : Nat) (S : SC) (y2 : Int32) (y3 : Int32) (H : Heap) (locs : List Loc) , va_P D cls (wC ca ad S) H → va_D A (wC ca ad S) → va_S A s.heap H locs → ∀ (ls : Array Slot), lv_has ls 4 [(0, .ref (ad 0)), (1, .ref (ad (9 + i))), (2, .int y2), (3, .int y3)] → w_G_headOf_4 i n9 S y2 y3 Q → W p l e ({ frames := 2, cells := 0, slots := 0, locals := 43 } : Room) s m args below meth c H locs 0 0 (MQ below ((fun A => va_Qi Q (xAt D (wC ca ad) A) A) A) args s 0 0 A) (F0 m 4 ls []) := by
    intro n9
    induction n9 with
    | zero => intro S y2 y3 H locs hP hD hS ls hl h; exact absurd h id
    | succ n9 hK4 =>
      intro S y2 y3 H locs hP hD hS ls hl h
      replace h : (((S.1 4 0) ≤ y3) → (Q y2 S)) ∧ ((¬ (S.1 4 0) ≤ y3) → (w_G_isIn S i y3 (fun r1 S2 => ((r1 = 0) → (w_G_headOf_26 (fun S9 z0 z1 => w_G_headOf_4 i n9 S9 z0 z1 Q) i S2 y2 y3 Q)) ∧ ((¬ r1 = 0) → (w_G_headOf_26 (fun S9 z0 z1 => w_G_headOf_4 i n9 S9 z0 z1 Q) i S2 y3 y3 Q))))) := h
      refine lv_iload_n hx hb d_G_headOf_4 rfl (lv_at hl 3 rfl) ?_
      refine lv_aload_n hx hb d_G_headOf_5 rfl (lv_at hl 0 rfl) ?_
      refine va_get (D := D) (ci := 3) (v := .ref (ad 1)) (C := Rc_G) (T := Fc_G) (N := 6) hx hb hw inc_G hown hK hP 0 rfl rfl 0 (by decide) (hw _ wd_132) (fun _ h9 => h9) rfl d_G_headOf_6 ?_
      refine va_getN (D := D) (ci := 0) (v := .int (S.1 4 0)) (C := Rc_L) (T := Fc_L) (N := 8) hx hb hw inc_L hown hK hP 1 rfl rfl 6 (by decide) (nw_35 hN) (fun _ h9 => h9) rfl d_G_headOf_9 ?_
      refine lv_icmp_ge (tgt := 32) hx hb d_G_headOf_12 (by decide) (fun hc => ?_) (fun hc => ?_)
      · replace h := h.1 hc
        refine lv_iload_n hx hb d_G_headOf_32 rfl (lv_at hl 2 rfl) ?_
        exact W.iret (v := y2) hx hb hr (fun t ht hW => ⟨⟨y2, S, rfl, h, by rw [ht]; exact hP, hD⟩, hS.F ht⟩) hS.2.2 d_G_headOf_33
      · replace h := h.2 hc
        refine lv_aload_n hx hb d_G_headOf_15 rfl (lv_at hl 0 rfl) ?_
        refine lv_aload_n hx hb d_G_headOf_16 rfl (lv_at hl 1 rfl) ?_
        refine lv_iload_n hx hb d_G_headOf_17 rfl (lv_at hl 3 rfl) ?_
        refine xx_calli (va_runV (As := [.ref (ad (9 + i)), .int y3]) (rest := []) ⟨hx, hb, hml, hown, hw⟩ (c_G_isIn l D ca ad H.size S i y3 hi _ h) (cwV 2 hw (tG_g gl_G_228) rfl rfl rfl (by decide +kernel) ⟨Nat.le_of_ble_eq_true rfl, Nat.le_of_ble_eq_true rfl⟩) ⟨xPc.blind, va_recv hK hP rfl (q0 := 0) rfl, xPc.pre hK hN hP hD⟩ rfl rfl hl.1 rfl (lv_room (Nat.le_of_ble_eq_true rfl)) d_G_headOf_18 ⟨Nat.le_of_ble_eq_true rfl, Nat.le_of_ble_eq_true rfl⟩) hD hS hA (fun r1 S2 H locs h hP hD hS => ?_)
        refine lv_if_eq (tgt := 26) hx hb d_G_headOf_21 (by decide) (fun hc => ?_) (fun hc => ?_)
        · replace h := h.1 hc
          exact bk_26 (fun S9 z0 z1 => w_G_headOf_4 i n9 S9 z0 z1 Q) hK4 S2 y2 y3 H locs hP hD hS ls (lv_sub hl [0, 1, 2, 3] rfl) h
        · replace h := h.2 hc
          refine lv_iload_n hx hb d_G_headOf_24 rfl (lv_at hl 3 rfl) ?_
          refine lv_istore_n (lv' := [(2, .int y3), (0, .ref (ad 0)), (1, .ref (ad (9 + i))), (3, .int y3)]) hx hb d_G_headOf_25 rfl hl (by decide) rfl (fun ls hl => ?_)
          exact bk_26 (fun S9 z0 z1 => w_G_headOf_4 i n9 S9 z0 z1 Q) hK4 S2 y3 y3 H locs hP hD hS ls (lv_sub hl [1, 2, 0, 3] rfl) h
  have hH9 : ∀ H : Heap, H = s.heap → va_P D cls (wC ca ad S) H → va_S A s.heap H [] → W p l e ({ frames := 2, cells := 0, slots := 0, locals := 43 } : Room) s m args below meth c H [] 0 0 (MQ below ((fun A => va_Qi Q (xAt D (wC ca ad) A) A) A) args s 0 0 A) (F0 m 0 ls []) := by
    clear hP hS
    intro H hH hP hS
    obtain ⟨locs, hlo⟩ : ∃ z : List Loc, z = [] := ⟨_, rfl⟩
    rw [← hlo] at hS ⊢
    refine lv_iconst (v := 0) hx hb d_G_headOf_0 (by decide) ?_
    refine lv_istore_n (lv' := [(2, .int 0), (0, .ref (ad 0)), (1, .ref (ad (9 + i)))]) hx hb d_G_headOf_1 rfl hl (by decide) rfl (fun ls hl => ?_)
    refine lv_iconst (v := 0) hx hb d_G_headOf_2 (by decide) ?_
    refine lv_istore_n (lv' := [(3, .int 0), (2, .int 0), (0, .ref (ad 0)), (1, .ref (ad (9 + i)))]) hx hb d_G_headOf_3 rfl hl (by decide) rfl (fun ls hl => ?_)
    obtain ⟨n9, h⟩ := h
    exact bk_4 n9 S 0 0 H locs hP hD hS ls (lv_sub hl [2, 3, 1, 0] rfl) h
  exact hH9 _ rfl hP hS
theorem d_G_firstTrainIn_0 : decode b_G_firstTrainIn 0 = .ok (.iconst 0, 1) := by decide +kernel
theorem d_G_firstTrainIn_1 : decode b_G_firstTrainIn 1 = .ok (.istore_n 3, 1) := by decide +kernel
theorem d_G_firstTrainIn_2 : decode b_G_firstTrainIn 2 = .ok (.iload_n 3, 1) := by decide +kernel
theorem d_G_firstTrainIn_3 : decode b_G_firstTrainIn 3 = .ok (.aload_n 0, 1) := by decide +kernel
theorem d_G_firstTrainIn_4 : decode b_G_firstTrainIn 4 = .ok (.getfield 39, 3) := by decide +kernel
theorem d_G_firstTrainIn_7 : decode b_G_firstTrainIn 7 = .ok (.if_icmp .ge 30, 3) := by decide +kernel
theorem d_G_firstTrainIn_10 : decode b_G_firstTrainIn 10 = .ok (.iload_n 3, 1) := by decide +kernel
theorem d_G_firstTrainIn_11 : decode b_G_firstTrainIn 11 = .ok (.iload_n 2, 1) := by decide +kernel
theorem d_G_firstTrainIn_12 : decode b_G_firstTrainIn 12 = .ok (.if_icmp .eq 19, 3) := by decide +kernel
theorem d_G_firstTrainIn_15 : decode b_G_firstTrainIn 15 = .ok (.aload_n 0, 1) := by decide +kernel
theorem d_G_firstTrainIn_16 : decode b_G_firstTrainIn 16 = .ok (.aload_n 0, 1) := by decide +kernel
theorem d_G_firstTrainIn_17 : decode b_G_firstTrainIn 17 = .ok (.getfield 18, 3) := by decide +kernel
theorem d_G_firstTrainIn_20 : decode b_G_firstTrainIn 20 = .ok (.iload_n 3, 1) := by decide +kernel
theorem d_G_firstTrainIn_21 : decode b_G_firstTrainIn 21 = .ok (.aaload, 1) := by decide +kernel
theorem d_G_firstTrainIn_22 : decode b_G_firstTrainIn 22 = .ok (.iload_n 1, 1) := by decide +kernel
theorem d_G_firstTrainIn_23 : decode b_G_firstTrainIn 23 = .ok (.invokevirtual 228, 3) := by decide +kernel
theorem d_G_firstTrainIn_26 : decode b_G_firstTrainIn 26 = .ok (.ifCond .eq 5, 3) := by decide +kernel
theorem d_G_firstTrainIn_29 : decode b_G_firstTrainIn 29 = .ok (.iload_n 3, 1) := by decide +kernel
theorem d_G_firstTrainIn_30 : decode b_G_firstTrainIn 30 = .ok (.ireturn, 1) := by decide +kernel
theorem d_G_firstTrainIn_31 : decode b_G_firstTrainIn 31 = .ok (.iinc 3 1, 3) := by decide +kernel
theorem d_G_firstTrainIn_34 : decode b_G_firstTrainIn 34 = .ok (.goto (-32), 3) := by decide +kernel
theorem d_G_firstTrainIn_37 : decode b_G_firstTrainIn 37 = .ok (.iconst (-1), 1) := by decide +kernel
theorem d_G_firstTrainIn_38 : decode b_G_firstTrainIn 38 = .ok (.ireturn, 1) := by decide +kernel
def w_G_firstTrainIn_31 (K2 : SC → Int32 → Int32 → Int32 → Prop) (S : SC) (y1 : Int32) (y2 : Int32) (y3 : Int32) (Q : Int32 → SC → Prop) : Prop := K2 S y1 y2 (y3 + 1)
def w_G_firstTrainIn_2 : Nat → SC → Int32 → Int32 → Int32 → (Int32 → SC → Prop) → Prop
  | 0 => fun _ _ _ _ _ => False
  | n + 1 => fun S y1 y2 y3 Q => ((((S.1 0 0) ≤ y3) → (Q (-1) S)) ∧ ((¬ (S.1 0 0) ≤ y3) → (((y3 = y2) → (w_G_firstTrainIn_31 (fun S9 z0 z1 z2 => w_G_firstTrainIn_2 n S9 z0 z1 z2 Q) S y1 y2 y3 Q)) ∧ ((¬ y3 = y2) → (vp_in y3 3 ∧ (y3.toNatClampNeg < 3) ∧ (w_G_isIn S y3.toNatClampNeg y1 (fun r2 S3 => ((r2 = 0) → (w_G_firstTrainIn_31 (fun S9 z0 z1 z2 => w_G_firstTrainIn_2 n S9 z0 z1 z2 Q) S3 y1 y2 y3 Q)) ∧ ((¬ r2 = 0) → (Q y3 S3)))))))))
def w_G_firstTrainIn (S : SC) (x1 : Int32) (x2 : Int32) (Q : Int32 → SC → Prop) : Prop := ∃ n : Nat, w_G_firstTrainIn_2 n S x1 x2 0 Q
set_option maxRecDepth 100000 in
set_option maxHeartbeats 4000000 in
theorem c_G_firstTrainIn (l : Launch) (D : va_G) (ca : Nat → ClassId) (ad : Nat → Nat) (sz : Nat) (S : SC) (x1 : Int32) (x2 : Int32)  (Q : Int32 → SC → Prop) (h : w_G_firstTrainIn S x1 x2 Q) : Met l y_G_firstTrainIn (Cond.code y_G_firstTrainIn b_G_firstTrainIn 4 (some Jvm.ClassFile.FieldType.int) :: tG) ({ frames := 2, cells := 0, slots := 0, locals := 43 } : Room) (xPc D ca (wC ca ad) S sz [.ref (ad 0), .int x1, .int x2]) (va_Qi Q (xAt D (wC ca ad) (va_A (wC ca ad S) sz)) (va_A (wC ca ad S) sz)) 0 0 (va_A (wC ca ad S) sz) := by
  refine xx_met (Qf := fun A => va_Qi Q (xAt D (wC ca ad) A) A) (by decide) (Nat.le_of_ble_eq_true rfl) ?_
  intro p e s m args below meth c A ls hx hb hr hw hown hlocks hml hK hN hA hP hD hS hl
  have hown : s.vm.findClass "TrainGuard" = some m.cls := hown
  have hl : lv_has ls 4 [(0, .ref (ad 0)), (1, .int x1), (2, .int x2)] := hl
  unfold w_G_firstTrainIn at h
  have bk_31 : ∀ (K2 : SC → Int32 → Int32 → Int32 → Prop) (hK2 : ∀ (S : SC) (y1 : Int32) (y2 : Int32) (y3 : Int32) (H : Heap) (locs : List Loc) , va_P D cls (wC ca ad S) H → va_D A (wC ca ad S) → va_S A s.heap H locs → ∀ (ls : Array Slot), lv_has ls 4 [(0, .ref (ad 0)), (1, .int y1), (2, .int y2), (3, .int y3)] → K2 S y1 y2 y3 → W p l e ({ frames := 2, cells := 0, slots := 0, locals := 43 } : Room) s m args below meth c H locs 0 0 (MQ below ((fun A => va_Qi Q (xAt D (wC ca ad) A) A) A) args s 0 0 A) (F0 m 2 ls [])) (S : SC) (y1 : Int32) (y2 : Int32) (y3 : Int32) (H : Heap) (locs : List Loc) , va_P D cls (wC ca ad S) H → va_D A (wC ca ad S) → va_S A s.heap H locs → ∀ (ls : Array Slot), lv_has ls 4 [(0, .ref (ad 0)), (1, .int y1), (2, .int y2), (3, .int y3)] → w_G_firstTrainIn_31 K2 S y1 y2 y3 Q → W p l e ({ frames := 2, cells := 0, slots := 0, locals := 43 } : Room) s m args below meth c H locs 0 0 (MQ below ((fun A => va_Qi Q (xAt D (wC ca ad) A) A) A) args s 0 0 A) (F0 m 31 ls []) := by
    intro K2 hK2 S y1 y2 y3 H locs hP hD hS ls hl h
    unfold w_G_firstTrainIn_31 at h
    refine lv_iinc (v := (y3 + 1)) (lv' := [(3, .int (y3 + 1)), (0, .ref (ad 0)), (1, .int y1), (2, .int y2)]) hx hb d_G_firstTrainIn_31 hl (k := 3) rfl rfl (by decide) rfl (fun ls hl => ?_)
    refine lv_goto (tgt := 2) hx hb d_G_firstTrainIn_34 (by decide) ?_
    exact hK2 S y1 y2 (y3 + 1) H locs hP hD hS ls (lv_sub hl [1, 2, 3, 0] rfl) h
  have bk_2 : ∀ (n9 : Nat) (S : SC) (y1 : Int32) (y2 : Int32) (y3 : Int32) (H : Heap) (locs : List Loc) , va_P D cls (wC ca ad S) H → va_D A (wC ca ad S) → va_S A s.heap H locs → ∀ (ls : Array Slot), lv_has ls 4 [(0, .ref (ad 0)), (1, .int y1), (2, .int y2), (3, .int y3)] → w_G_firstTrainIn_2 n9 S y1 y2 y3 Q → W p l e ({ frames := 2, cells := 0, slots := 0, locals := 43 } : Room) s m args below meth c H locs 0 0 (MQ below ((fun A => va_Qi Q (xAt D (wC ca ad) A) A) A) args s 0 0 A) (F0 m 2 ls []) := by
    intro n9
    induction n9 with
    | zero => intro S y1 y2 y3 H locs hP hD hS ls hl h; exact absurd h id
    | succ n9 hK2 =>
      intro S y1 y2 y3 H locs hP hD hS ls hl h
      replace h : (((S.1 0 0) ≤ y3) → (Q (-1) S)) ∧ ((¬ (S.1 0 0) ≤ y3) → (((y3 = y2) → (w_G_firstTrainIn_31 (fun S9 z0 z1 z2 => w_G_firstTrainIn_2 n9 S9 z0 z1 z2 Q) S y1 y2 y3 Q)) ∧ ((¬ y3 = y2) → (vp_in y3 3 ∧ (y3.toNatClampNeg < 3) ∧ (w_G_isIn S y3.toNatClampNeg y1 (fun r2 S3 => ((r2 = 0) → (w_G_firstTrainIn_31 (fun S9 z0 z1 z2 => w_G_firstTrainIn_2 n9 S9 z0 z1 z2 Q) S3 y1 y2 y3 Q)) ∧ ((¬ r2 = 0) → (Q y3 S3)))))))) := h
      refine lv_iload_n hx hb d_G_firstTrainIn_2 rfl (lv_at hl 3 rfl) ?_
      refine lv_aload_n hx hb d_G_firstTrainIn_3 rfl (lv_at hl 0 rfl) ?_
      refine va_get (D := D) (ci := 3) (v := .int (S.1 0 0)) (C := Rc_G) (T := Fc_G) (N := 6) hx hb hw inc_G hown hK hP 0 rfl rfl 2 (by decide) (hw _ wd_134) (fun _ h9 => h9) rfl d_G_firstTrainIn_4 ?_
      refine lv_icmp_ge (tgt := 37) hx hb d_G_firstTrainIn_7 (by decide) (fun hc => ?_) (fun hc => ?_)
      · replace h := h.1 hc
        refine lv_iconst (v := (-1)) hx hb d_G_firstTrainIn_37 (by decide) ?_
        exact W.iret (v := (-1)) hx hb hr (fun t ht hW => ⟨⟨(-1), S, rfl, h, by rw [ht]; exact hP, hD⟩, hS.F ht⟩) hS.2.2 d_G_firstTrainIn_38
      · replace h := h.2 hc
        refine lv_iload_n hx hb d_G_firstTrainIn_10 rfl (lv_at hl 3 rfl) ?_
        refine lv_iload_n hx hb d_G_firstTrainIn_11 rfl (lv_at hl 2 rfl) ?_
        refine lv_icmp_eq (tgt := 31) hx hb d_G_firstTrainIn_12 (by decide) (fun hc => ?_) (fun hc => ?_)
        · replace h := h.1 hc
          exact bk_31 (fun S9 z0 z1 z2 => w_G_firstTrainIn_2 n9 S9 z0 z1 z2 Q) hK2 S y1 y2 y3 H locs hP hD hS ls (lv_sub hl [0, 1, 2, 3] rfl) h
        · replace h := h.2 hc
          refine lv_aload_n hx hb d_G_firstTrainIn_15 rfl (lv_at hl 0 rfl) ?_
          refine lv_aload_n hx hb d_G_firstTrainIn_16 rfl (lv_at hl 0 rfl) ?_
          refine va_get (D := D) (ci := 3) (v := .ref (ad 8)) (C := Rc_G) (T := Fc_G) (N := 6) hx hb hw inc_G hown hK hP 0 rfl rfl 1 (by decide) (hw _ wd_133) (fun _ h9 => h9) rfl d_G_firstTrainIn_17 ?_
          refine lv_iload_n hx hb d_G_firstTrainIn_20 rfl (lv_at hl 3 rfl) ?_
          obtain ⟨hq, hj1, h⟩ := h
          refine va_aldq (D := D) hx hb hK hP 8 4 rfl rfl hq d_G_firstTrainIn_21 ?_
          refine W.eq (g2 := F0 m 22 ls (.ref (ad (9 + y3.toNatClampNeg)) :: .ref (ad 0) :: [])) rfl ?_
          refine lv_iload_n hx hb d_G_firstTrainIn_22 rfl (lv_at hl 1 rfl) ?_
          refine xx_calli (va_runV (As := [.ref (ad (9 + y3.toNatClampNeg)), .int y1]) (rest := []) ⟨hx, hb, hml, hown, hw⟩ (c_G_isIn l D ca ad H.size S y3.toNatClampNeg y1 hj1 _ h) (cwV 2 hw (tG_g gl_G_228) rfl rfl rfl (by decide +kernel) ⟨Nat.le_of_ble_eq_true rfl, Nat.le_of_ble_eq_true rfl⟩) ⟨xPc.blind, va_recv hK hP rfl (q0 := 0) rfl, xPc.pre hK hN hP hD⟩ rfl rfl hl.1 rfl (lv_room (Nat.le_of_ble_eq_true rfl)) d_G_firstTrainIn_23 ⟨Nat.le_of_ble_eq_true rfl, Nat.le_of_ble_eq_true rfl⟩) hD hS hA (fun r2 S3 H locs h hP hD hS => ?_)
          refine lv_if_eq (tgt := 31) hx hb d_G_firstTrainIn_26 (by decide) (fun hc => ?_) (fun hc => ?_)
          · replace h := h.1 hc
            exact bk_31 (fun S9 z0 z1 z2 => w_G_firstTrainIn_2 n9 S9 z0 z1 z2 Q) hK2 S3 y1 y2 y3 H locs hP hD hS ls (lv_sub hl [0, 1, 2, 3] rfl) h
          · replace h := h.2 hc
            refine lv_iload_n hx hb d_G_firstTrainIn_29 rfl (lv_at hl 3 rfl) ?_
            exact W.iret (v := y3) hx hb hr (fun t ht hW => ⟨⟨y3, S3, rfl, h, by rw [ht]; exact hP, hD⟩, hS.F ht⟩) hS.2.2 d_G_firstTrainIn_30
  have hH9 : ∀ H : Heap, H = s.heap → va_P D cls (wC ca ad S) H → va_S A s.heap H [] → W p l e ({ frames := 2, cells := 0, slots := 0, locals := 43 } : Room) s m args below meth c H [] 0 0 (MQ below ((fun A => va_Qi Q (xAt D (wC ca ad) A) A) A) args s 0 0 A) (F0 m 0 ls []) := by
    clear hP hS
    intro H hH hP hS
    obtain ⟨locs, hlo⟩ : ∃ z : List Loc, z = [] := ⟨_, rfl⟩
    rw [← hlo] at hS ⊢
    refine lv_iconst (v := 0) hx hb d_G_firstTrainIn_0 (by decide) ?_
    refine lv_istore_n (lv' := [(3, .int 0), (0, .ref (ad 0)), (1, .int x1), (2, .int x2)]) hx hb d_G_firstTrainIn_1 rfl hl (by decide) rfl (fun ls hl => ?_)
    obtain ⟨n9, h⟩ := h
    exact bk_2 n9 S x1 x2 0 H locs hP hD hS ls (lv_sub hl [1, 2, 3, 0] rfl) h
  exact hH9 _ rfl hP hS
theorem d_G_isFreeFor_0 : decode b_G_isFreeFor 0 = .ok (.aload_n 0, 1) := by decide +kernel
theorem d_G_isFreeFor_1 : decode b_G_isFreeFor 1 = .ok (.getfield 10, 3) := by decide +kernel
theorem d_G_isFreeFor_4 : decode b_G_isFreeFor 4 = .ok (.getfield 98, 3) := by decide +kernel
theorem d_G_isFreeFor_7 : decode b_G_isFreeFor 7 = .ok (.iload_n 2, 1) := by decide +kernel
theorem d_G_isFreeFor_8 : decode b_G_isFreeFor 8 = .ok (.iaload, 1) := by decide +kernel
theorem d_G_isFreeFor_9 : decode b_G_isFreeFor 9 = .ok (.istore_n 3, 1) := by decide +kernel
theorem d_G_isFreeFor_10 : decode b_G_isFreeFor 10 = .ok (.iload_n 3, 1) := by decide +kernel
theorem d_G_isFreeFor_11 : decode b_G_isFreeFor 11 = .ok (.iconst (-1), 1) := by decide +kernel
theorem d_G_isFreeFor_12 : decode b_G_isFreeFor 12 = .ok (.if_icmp .eq 8, 3) := by decide +kernel
theorem d_G_isFreeFor_15 : decode b_G_isFreeFor 15 = .ok (.iload_n 3, 1) := by decide +kernel
theorem d_G_isFreeFor_16 : decode b_G_isFreeFor 16 = .ok (.iload_n 1, 1) := by decide +kernel
theorem d_G_isFreeFor_17 : decode b_G_isFreeFor 17 = .ok (.if_icmp .ne 17, 3) := by decide +kernel
theorem d_G_isFreeFor_20 : decode b_G_isFreeFor 20 = .ok (.aload_n 0, 1) := by decide +kernel
theorem d_G_isFreeFor_21 : decode b_G_isFreeFor 21 = .ok (.iload_n 2, 1) := by decide +kernel
theorem d_G_isFreeFor_22 : decode b_G_isFreeFor 22 = .ok (.iload_n 1, 1) := by decide +kernel
theorem d_G_isFreeFor_23 : decode b_G_isFreeFor 23 = .ok (.invokevirtual 224, 3) := by decide +kernel
theorem d_G_isFreeFor_26 : decode b_G_isFreeFor 26 = .ok (.iconst (-1), 1) := by decide +kernel
theorem d_G_isFreeFor_27 : decode b_G_isFreeFor 27 = .ok (.if_icmp .ne 7, 3) := by decide +kernel
theorem d_G_isFreeFor_30 : decode b_G_isFreeFor 30 = .ok (.iconst 1, 1) := by decide +kernel
theorem d_G_isFreeFor_31 : decode b_G_isFreeFor 31 = .ok (.goto 4, 3) := by decide +kernel
theorem d_G_isFreeFor_34 : decode b_G_isFreeFor 34 = .ok (.iconst 0, 1) := by decide +kernel
theorem d_G_isFreeFor_35 : decode b_G_isFreeFor 35 = .ok (.ireturn, 1) := by decide +kernel
theorem gl_G_224 : ∀ w ∈ wsV "TrainGuard" 224 "TrainGuard" y_G_firstTrainIn (Cond.code y_G_firstTrainIn b_G_firstTrainIn 4 (some Jvm.ClassFile.FieldType.int) :: tG), w ∈ tG := by
  intro x hx
  simp only [wsV, List.cons_append, List.nil_append, List.mem_cons] at hx
  rcases hx with rfl | rfl | rfl | rfl | rfl | hx
  · exact wd_339
  · exact wd_341
  · exact ws_3
  · exact wd_1
  · exact wd_342
  · exact hx
def w_G_isFreeFor_20 (S : SC) (y1 : Int32) (y2 : Int32) (Q : Int32 → SC → Prop) : Prop := w_G_firstTrainIn S y2 y1 (fun r1 S2 => ((¬ r1 = (-1)) → (Q 0 S2)) ∧ ((r1 = (-1)) → (Q 1 S2)))
def w_G_isFreeFor (S : SC) (x1 : Int32) (x2 : Int32) (Q : Int32 → SC → Prop) : Prop := vp_in x2 10 ∧ ((((S.1 6 x2.toNatClampNeg) = (-1)) → (w_G_isFreeFor_20 S x1 x2 Q)) ∧ ((¬ (S.1 6 x2.toNatClampNeg) = (-1)) → (((¬ (S.1 6 x2.toNatClampNeg) = x1) → (Q 0 S)) ∧ (((S.1 6 x2.toNatClampNeg) = x1) → (w_G_isFreeFor_20 S x1 x2 Q)))))
set_option maxRecDepth 100000 in
set_option maxHeartbeats 4000000 in
theorem c_G_isFreeFor (l : Launch) (D : va_G) (ca : Nat → ClassId) (ad : Nat → Nat) (sz : Nat) (S : SC) (x1 : Int32) (x2 : Int32)  (Q : Int32 → SC → Prop) (h : w_G_isFreeFor S x1 x2 Q) : Met l y_G_isFreeFor (Cond.code y_G_isFreeFor b_G_isFreeFor 4 (some Jvm.ClassFile.FieldType.boolean) :: tG) ({ frames := 3, cells := 0, slots := 0, locals := 66 } : Room) (xPc D ca (wC ca ad) S sz [.ref (ad 0), .int x1, .int x2]) (va_Qi Q (xAt D (wC ca ad) (va_A (wC ca ad S) sz)) (va_A (wC ca ad S) sz)) 0 0 (va_A (wC ca ad S) sz) := by
  refine xx_met (Qf := fun A => va_Qi Q (xAt D (wC ca ad) A) A) (by decide) (Nat.le_of_ble_eq_true rfl) ?_
  intro p e s m args below meth c A ls hx hb hr hw hown hlocks hml hK hN hA hP hD hS hl
  have hown : s.vm.findClass "TrainGuard" = some m.cls := hown
  have hl : lv_has ls 4 [(0, .ref (ad 0)), (1, .int x1), (2, .int x2)] := hl
  unfold w_G_isFreeFor at h
  have bk_20 : ∀ (S : SC) (y1 : Int32) (y2 : Int32) (H : Heap) (locs : List Loc) , va_P D cls (wC ca ad S) H → va_D A (wC ca ad S) → va_S A s.heap H locs → ∀ (ls : Array Slot), lv_has ls 4 [(0, .ref (ad 0)), (1, .int y1), (2, .int y2)] → w_G_isFreeFor_20 S y1 y2 Q → W p l e ({ frames := 3, cells := 0, slots := 0, locals := 66 } : Room) s m args below meth c H locs 0 0 (MQ below ((fun A => va_Qi Q (xAt D (wC ca ad) A) A) A) args s 0 0 A) (F0 m 20 ls []) := by
    intro S y1 y2 H locs hP hD hS ls hl h
    unfold w_G_isFreeFor_20 at h
    refine lv_aload_n hx hb d_G_isFreeFor_20 rfl (lv_at hl 0 rfl) ?_
    refine lv_iload_n hx hb d_G_isFreeFor_21 rfl (lv_at hl 2 rfl) ?_
    refine lv_iload_n hx hb d_G_isFreeFor_22 rfl (lv_at hl 1 rfl) ?_
    refine xx_calli (va_runV (As := [.int y2, .int y1]) (rest := []) ⟨hx, hb, hml, hown, hw⟩ (c_G_firstTrainIn l D ca ad H.size S y2 y1 _ h) (cwV 2 hw (tG_g gl_G_224) rfl rfl rfl (by decide +kernel) ⟨Nat.le_of_ble_eq_true rfl, Nat.le_of_ble_eq_true rfl⟩) ⟨xPc.blind, va_recv hK hP rfl (q0 := 0) rfl, xPc.pre hK hN hP hD⟩ rfl rfl hl.1 rfl (lv_room (Nat.le_of_ble_eq_true rfl)) d_G_isFreeFor_23 ⟨Nat.le_of_ble_eq_true rfl, Nat.le_of_ble_eq_true rfl⟩) hD hS hA (fun r1 S2 H locs h hP hD hS => ?_)
    refine lv_iconst (v := (-1)) hx hb d_G_isFreeFor_26 (by decide) ?_
    refine lv_icmp_ne (tgt := 34) hx hb d_G_isFreeFor_27 (by decide) (fun hc => ?_) (fun hc => ?_)
    · replace h := h.1 hc
      refine lv_iconst (v := 0) hx hb d_G_isFreeFor_34 (by decide) ?_
      exact W.zret (v := 0) hx hb hr rfl (fun t ht hW => ⟨⟨0, S2, rfl, h, by rw [ht]; exact hP, hD⟩, hS.F ht⟩) hS.2.2 d_G_isFreeFor_35
    · replace h := h.2 hc
      refine lv_iconst (v := 1) hx hb d_G_isFreeFor_30 (by decide) ?_
      refine lv_goto (tgt := 35) hx hb d_G_isFreeFor_31 (by decide) ?_
      exact W.zret (v := 1) hx hb hr rfl (fun t ht hW => ⟨⟨1, S2, rfl, h, by rw [ht]; exact hP, hD⟩, hS.F ht⟩) hS.2.2 d_G_isFreeFor_35
  have hH9 : ∀ H : Heap, H = s.heap → va_P D cls (wC ca ad S) H → va_S A s.heap H [] → W p l e ({ frames := 3, cells := 0, slots := 0, locals := 66 } : Room) s m args below meth c H [] 0 0 (MQ below ((fun A => va_Qi Q (xAt D (wC ca ad) A) A) A) args s 0 0 A) (F0 m 0 ls []) := by
    clear hP hS
    intro H hH hP hS
    obtain ⟨locs, hlo⟩ : ∃ z : List Loc, z = [] := ⟨_, rfl⟩
    rw [← hlo] at hS ⊢
    refine lv_aload_n hx hb d_G_isFreeFor_0 rfl (lv_at hl 0 rfl) ?_
    refine va_get (D := D) (ci := 3) (v := .ref (ad 1)) (C := Rc_G) (T := Fc_G) (N := 6) hx hb hw inc_G hown hK hP 0 rfl rfl 0 (by decide) (hw _ wd_132) (fun _ h9 => h9) rfl d_G_isFreeFor_1 ?_
    refine va_getN (D := D) (ci := 0) (v := .ref (ad 4)) (C := Rc_L) (T := Fc_L) (N := 8) hx hb hw inc_L hown hK hP 1 rfl rfl 2 (by decide) (nw_30 hN) (fun _ h9 => h9) rfl d_G_isFreeFor_4 ?_
    refine lv_iload_n hx hb d_G_isFreeFor_7 rfl (lv_at hl 2 rfl) ?_
    obtain ⟨hq, h⟩ := h
    refine va_iald (D := D) hx hb hK hP 4 0 rfl rfl hq d_G_isFreeFor_8 ?_
    refine lv_istore_n (lv' := [(3, .int (S.1 6 x2.toNatClampNeg)), (0, .ref (ad 0)), (1, .int x1), (2, .int x2)]) hx hb d_G_isFreeFor_9 rfl hl (by decide) rfl (fun ls hl => ?_)
    refine lv_iload_n hx hb d_G_isFreeFor_10 rfl (lv_at hl 0 rfl) ?_
    refine lv_iconst (v := (-1)) hx hb d_G_isFreeFor_11 (by decide) ?_
    refine lv_icmp_eq (tgt := 20) hx hb d_G_isFreeFor_12 (by decide) (fun hc => ?_) (fun hc => ?_)
    · replace h := h.1 hc
      exact bk_20 S x1 x2 H locs hP hD hS ls (lv_sub hl [1, 2, 3] rfl) h
    · replace h := h.2 hc
      refine lv_iload_n hx hb d_G_isFreeFor_15 rfl (lv_at hl 0 rfl) ?_
      refine lv_iload_n hx hb d_G_isFreeFor_16 rfl (lv_at hl 2 rfl) ?_
      refine lv_icmp_ne (tgt := 34) hx hb d_G_isFreeFor_17 (by decide) (fun hc => ?_) (fun hc => ?_)
      · replace h := h.1 hc
        refine lv_iconst (v := 0) hx hb d_G_isFreeFor_34 (by decide) ?_
        exact W.zret (v := 0) hx hb hr rfl (fun t ht hW => ⟨⟨0, S, rfl, h, by rw [ht]; exact hP, hD⟩, hS.F ht⟩) hS.2.2 d_G_isFreeFor_35
      · replace h := h.2 hc
        exact bk_20 S x1 x2 H locs hP hD hS ls (lv_sub hl [1, 2, 3] rfl) h
  exact hH9 _ rfl hP hS
theorem d_G_holdOwnPlacesOnly_0 : decode b_G_holdOwnPlacesOnly 0 = .ok (.iconst 0, 1) := by decide +kernel
theorem d_G_holdOwnPlacesOnly_1 : decode b_G_holdOwnPlacesOnly 1 = .ok (.istore_n 2, 1) := by decide +kernel
theorem d_G_holdOwnPlacesOnly_2 : decode b_G_holdOwnPlacesOnly 2 = .ok (.iload_n 2, 1) := by decide +kernel
theorem d_G_holdOwnPlacesOnly_3 : decode b_G_holdOwnPlacesOnly 3 = .ok (.aload_n 0, 1) := by decide +kernel
theorem d_G_holdOwnPlacesOnly_4 : decode b_G_holdOwnPlacesOnly 4 = .ok (.getfield 10, 3) := by decide +kernel
theorem d_G_holdOwnPlacesOnly_7 : decode b_G_holdOwnPlacesOnly 7 = .ok (.getfield 43, 3) := by decide +kernel
theorem d_G_holdOwnPlacesOnly_10 : decode b_G_holdOwnPlacesOnly 10 = .ok (.if_icmp .ge 63, 3) := by decide +kernel
theorem d_G_holdOwnPlacesOnly_13 : decode b_G_holdOwnPlacesOnly 13 = .ok (.aload_n 0, 1) := by decide +kernel
theorem d_G_holdOwnPlacesOnly_14 : decode b_G_holdOwnPlacesOnly 14 = .ok (.getfield 10, 3) := by decide +kernel
theorem d_G_holdOwnPlacesOnly_17 : decode b_G_holdOwnPlacesOnly 17 = .ok (.getfield 98, 3) := by decide +kernel
theorem d_G_holdOwnPlacesOnly_20 : decode b_G_holdOwnPlacesOnly 20 = .ok (.iload_n 2, 1) := by decide +kernel
theorem d_G_holdOwnPlacesOnly_21 : decode b_G_holdOwnPlacesOnly 21 = .ok (.iaload, 1) := by decide +kernel
theorem d_G_holdOwnPlacesOnly_22 : decode b_G_holdOwnPlacesOnly 22 = .ok (.iload_n 1, 1) := by decide +kernel
theorem d_G_holdOwnPlacesOnly_23 : decode b_G_holdOwnPlacesOnly 23 = .ok (.if_icmp .eq 16, 3) := by decide +kernel
theorem d_G_holdOwnPlacesOnly_26 : decode b_G_holdOwnPlacesOnly 26 = .ok (.aload_n 0, 1) := by decide +kernel
theorem d_G_holdOwnPlacesOnly_27 : decode b_G_holdOwnPlacesOnly 27 = .ok (.getfield 10, 3) := by decide +kernel
theorem d_G_holdOwnPlacesOnly_30 : decode b_G_holdOwnPlacesOnly 30 = .ok (.getfield 98, 3) := by decide +kernel
theorem d_G_holdOwnPlacesOnly_33 : decode b_G_holdOwnPlacesOnly 33 = .ok (.iload_n 2, 1) := by decide +kernel
theorem d_G_holdOwnPlacesOnly_34 : decode b_G_holdOwnPlacesOnly 34 = .ok (.iaload, 1) := by decide +kernel
theorem d_G_holdOwnPlacesOnly_35 : decode b_G_holdOwnPlacesOnly 35 = .ok (.iconst (-1), 1) := by decide +kernel
theorem d_G_holdOwnPlacesOnly_36 : decode b_G_holdOwnPlacesOnly 36 = .ok (.if_icmp .ne 31, 3) := by decide +kernel
theorem d_G_holdOwnPlacesOnly_39 : decode b_G_holdOwnPlacesOnly 39 = .ok (.aload_n 0, 1) := by decide +kernel
theorem d_G_holdOwnPlacesOnly_40 : decode b_G_holdOwnPlacesOnly 40 = .ok (.getfield 10, 3) := by decide +kernel
theorem d_G_holdOwnPlacesOnly_43 : decode b_G_holdOwnPlacesOnly 43 = .ok (.getfield 98, 3) := by decide +kernel
theorem d_G_holdOwnPlacesOnly_46 : decode b_G_holdOwnPlacesOnly 46 = .ok (.iload_n 2, 1) := by decide +kernel
theorem d_G_holdOwnPlacesOnly_47 : decode b_G_holdOwnPlacesOnly 47 = .ok (.aload_n 0, 1) := by decide +kernel
theorem d_G_holdOwnPlacesOnly_48 : decode b_G_holdOwnPlacesOnly 48 = .ok (.aload_n 0, 1) := by decide +kernel
theorem d_G_holdOwnPlacesOnly_49 : decode b_G_holdOwnPlacesOnly 49 = .ok (.getfield 18, 3) := by decide +kernel
theorem d_G_holdOwnPlacesOnly_52 : decode b_G_holdOwnPlacesOnly 52 = .ok (.iload_n 1, 1) := by decide +kernel
theorem d_G_holdOwnPlacesOnly_53 : decode b_G_holdOwnPlacesOnly 53 = .ok (.aaload, 1) := by decide +kernel
theorem d_G_holdOwnPlacesOnly_54 : decode b_G_holdOwnPlacesOnly 54 = .ok (.iload_n 2, 1) := by decide +kernel
theorem d_G_holdOwnPlacesOnly_55 : decode b_G_holdOwnPlacesOnly 55 = .ok (.invokevirtual 228, 3) := by decide +kernel
theorem d_G_holdOwnPlacesOnly_58 : decode b_G_holdOwnPlacesOnly 58 = .ok (.ifCond .eq 7, 3) := by decide +kernel
theorem d_G_holdOwnPlacesOnly_61 : decode b_G_holdOwnPlacesOnly 61 = .ok (.iload_n 1, 1) := by decide +kernel
theorem d_G_holdOwnPlacesOnly_62 : decode b_G_holdOwnPlacesOnly 62 = .ok (.goto 4, 3) := by decide +kernel
theorem d_G_holdOwnPlacesOnly_65 : decode b_G_holdOwnPlacesOnly 65 = .ok (.iconst (-1), 1) := by decide +kernel
theorem d_G_holdOwnPlacesOnly_66 : decode b_G_holdOwnPlacesOnly 66 = .ok (.iastore, 1) := by decide +kernel
theorem d_G_holdOwnPlacesOnly_67 : decode b_G_holdOwnPlacesOnly 67 = .ok (.iinc 2 1, 3) := by decide +kernel
theorem d_G_holdOwnPlacesOnly_70 : decode b_G_holdOwnPlacesOnly 70 = .ok (.goto (-68), 3) := by decide +kernel
theorem d_G_holdOwnPlacesOnly_73 : decode b_G_holdOwnPlacesOnly 73 = .ok (.return_, 1) := by decide +kernel
def w_G_holdOwnPlacesOnly_67 (K2 : SC → Int32 → Int32 → Prop) (S : SC) (y1 : Int32) (y2 : Int32) (Q : SC → Prop) : Prop := K2 S y1 (y2 + 1)
def w_G_holdOwnPlacesOnly_66 (K2 : SC → Int32 → Int32 → Prop) (S : SC) (y1 : Int32) (y2 : Int32) (ys0 : Int32) (ys1 : Int32) (Q : SC → Prop) : Prop := vp_in ys1 10 ∧ (w_G_holdOwnPlacesOnly_67 K2 (pI S 6 ys1.toNatClampNeg ys0) y1 y2 Q)
def w_G_holdOwnPlacesOnly_39 (K2 : SC → Int32 → Int32 → Prop) (S : SC) (y1 : Int32) (y2 : Int32) (Q : SC → Prop) : Prop := vp_in y1 3 ∧ (y1.toNatClampNeg < 3) ∧ (w_G_isIn S y1.toNatClampNeg y2 (fun r2 S3 => ((r2 = 0) → (w_G_holdOwnPlacesOnly_66 K2 S3 y1 y2 (-1) y2 Q)) ∧ ((¬ r2 = 0) → (w_G_holdOwnPlacesOnly_66 K2 S3 y1 y2 y1 y2 Q))))
def w_G_holdOwnPlacesOnly_2 : Nat → SC → Int32 → Int32 → (SC → Prop) → Prop
  | 0 => fun _ _ _ _ => False
  | n + 1 => fun S y1 y2 Q => ((((S.1 4 0) ≤ y2) → (Q S)) ∧ ((¬ (S.1 4 0) ≤ y2) → (vp_in y2 10 ∧ ((((S.1 6 y2.toNatClampNeg) = y1) → (w_G_holdOwnPlacesOnly_39 (fun S9 z0 z1 => w_G_holdOwnPlacesOnly_2 n S9 z0 z1 Q) S y1 y2 Q)) ∧ ((¬ (S.1 6 y2.toNatClampNeg) = y1) → (vp_in y2 10 ∧ (((¬ (S.1 6 y2.toNatClampNeg) = (-1)) → (w_G_holdOwnPlacesOnly_67 (fun S9 z0 z1 => w_G_holdOwnPlacesOnly_2 n S9 z0 z1 Q) S y1 y2 Q)) ∧ (((S.1 6 y2.toNatClampNeg) = (-1)) → (w_G_holdOwnPlacesOnly_39 (fun S9 z0 z1 => w_G_holdOwnPlacesOnly_2 n S9 z0 z1 Q) S y1 y2 Q)))))))))
def w_G_holdOwnPlacesOnly (S : SC) (x1 : Int32) (Q : SC → Prop) : Prop := ∃ n : Nat, w_G_holdOwnPlacesOnly_2 n S x1 0 Q
set_option maxRecDepth 100000 in
set_option maxHeartbeats 4000000 in
theorem c_G_holdOwnPlacesOnly (l : Launch) (D : va_G) (ca : Nat → ClassId) (ad : Nat → Nat) (sz : Nat) (S : SC) (x1 : Int32)  (Q : SC → Prop) (h : w_G_holdOwnPlacesOnly S x1 Q) : Met l y_G_holdOwnPlacesOnly (Cond.code y_G_holdOwnPlacesOnly b_G_holdOwnPlacesOnly 3 none :: tG) ({ frames := 2, cells := 0, slots := 0, locals := 43 } : Room) (xPc D ca (wC ca ad) S sz [.ref (ad 0), .int x1]) (va_Qv Q (xAt D (wC ca ad) (va_A (wC ca ad S) sz)) (va_A (wC ca ad S) sz)) 0 0 (va_A (wC ca ad S) sz) := by
  refine xx_met (Qf := fun A => va_Qv Q (xAt D (wC ca ad) A) A) (by decide) (Nat.le_of_ble_eq_true rfl) ?_
  intro p e s m args below meth c A ls hx hb hr hw hown hlocks hml hK hN hA hP hD hS hl
  have hown : s.vm.findClass "TrainGuard" = some m.cls := hown
  have hl : lv_has ls 3 [(0, .ref (ad 0)), (1, .int x1)] := hl
  unfold w_G_holdOwnPlacesOnly at h
  have bk_67 : ∀ (K2 : SC → Int32 → Int32 → Prop) (hK2 : ∀ (S : SC) (y1 : Int32) (y2 : Int32) (H : Heap) (locs : List Loc) , va_P D cls (wC ca ad S) H → va_D A (wC ca ad S) → va_S A s.heap H locs → ∀ (ls : Array Slot), lv_has ls 3 [(0, .ref (ad 0)), (1, .int y1), (2, .int y2)] → K2 S y1 y2 → W p l e ({ frames := 2, cells := 0, slots := 0, locals := 43 } : Room) s m args below meth c H locs 0 0 (MQ below ((fun A => va_Qv Q (xAt D (wC ca ad) A) A) A) args s 0 0 A) (F0 m 2 ls [])) (S : SC) (y1 : Int32) (y2 : Int32) (H : Heap) (locs : List Loc) , va_P D cls (wC ca ad S) H → va_D A (wC ca ad S) → va_S A s.heap H locs → ∀ (ls : Array Slot), lv_has ls 3 [(0, .ref (ad 0)), (1, .int y1), (2, .int y2)] → w_G_holdOwnPlacesOnly_67 K2 S y1 y2 Q → W p l e ({ frames := 2, cells := 0, slots := 0, locals := 43 } : Room) s m args below meth c H locs 0 0 (MQ below ((fun A => va_Qv Q (xAt D (wC ca ad) A) A) A) args s 0 0 A) (F0 m 67 ls []) := by
    intro K2 hK2 S y1 y2 H locs hP hD hS ls hl h
    unfold w_G_holdOwnPlacesOnly_67 at h
    refine lv_iinc (v := (y2 + 1)) (lv' := [(2, .int (y2 + 1)), (0, .ref (ad 0)), (1, .int y1)]) hx hb d_G_holdOwnPlacesOnly_67 hl (k := 2) rfl rfl (by decide) rfl (fun ls hl => ?_)
    refine lv_goto (tgt := 2) hx hb d_G_holdOwnPlacesOnly_70 (by decide) ?_
    exact hK2 S y1 (y2 + 1) H locs hP hD hS ls (lv_sub hl [1, 2, 0] rfl) h
  have bk_66 : ∀ (K2 : SC → Int32 → Int32 → Prop) (hK2 : ∀ (S : SC) (y1 : Int32) (y2 : Int32) (H : Heap) (locs : List Loc) , va_P D cls (wC ca ad S) H → va_D A (wC ca ad S) → va_S A s.heap H locs → ∀ (ls : Array Slot), lv_has ls 3 [(0, .ref (ad 0)), (1, .int y1), (2, .int y2)] → K2 S y1 y2 → W p l e ({ frames := 2, cells := 0, slots := 0, locals := 43 } : Room) s m args below meth c H locs 0 0 (MQ below ((fun A => va_Qv Q (xAt D (wC ca ad) A) A) A) args s 0 0 A) (F0 m 2 ls [])) (S : SC) (y1 : Int32) (y2 : Int32) (ys0 : Int32) (ys1 : Int32) (H : Heap) (locs : List Loc) , va_P D cls (wC ca ad S) H → va_D A (wC ca ad S) → va_S A s.heap H locs → ∀ (ls : Array Slot), lv_has ls 3 [(0, .ref (ad 0)), (1, .int y1), (2, .int y2)] → w_G_holdOwnPlacesOnly_66 K2 S y1 y2 ys0 ys1 Q → W p l e ({ frames := 2, cells := 0, slots := 0, locals := 43 } : Room) s m args below meth c H locs 0 0 (MQ below ((fun A => va_Qv Q (xAt D (wC ca ad) A) A) A) args s 0 0 A) (F0 m 66 ls [.int ys0, .int ys1, .ref (ad 4)]) := by
    intro K2 hK2 S y1 y2 ys0 ys1 H locs hP hD hS ls hl h
    unfold w_G_holdOwnPlacesOnly_66 at h
    obtain ⟨hq, h⟩ := h
    refine va_iast (D := D) hx hb hK hP hD hS 4 0 rfl rfl hq d_G_holdOwnPlacesOnly_66 (fun H locs hP hD hS => ?_)
    rw [pt_A_holders] at hP hD
    exact bk_67 K2 hK2 (pI S 6 ys1.toNatClampNeg ys0) y1 y2 H locs hP hD hS ls (lv_sub hl [0, 1, 2] rfl) h
  have bk_39 : ∀ (K2 : SC → Int32 → Int32 → Prop) (hK2 : ∀ (S : SC) (y1 : Int32) (y2 : Int32) (H : Heap) (locs : List Loc) , va_P D cls (wC ca ad S) H → va_D A (wC ca ad S) → va_S A s.heap H locs → ∀ (ls : Array Slot), lv_has ls 3 [(0, .ref (ad 0)), (1, .int y1), (2, .int y2)] → K2 S y1 y2 → W p l e ({ frames := 2, cells := 0, slots := 0, locals := 43 } : Room) s m args below meth c H locs 0 0 (MQ below ((fun A => va_Qv Q (xAt D (wC ca ad) A) A) A) args s 0 0 A) (F0 m 2 ls [])) (S : SC) (y1 : Int32) (y2 : Int32) (H : Heap) (locs : List Loc) , va_P D cls (wC ca ad S) H → va_D A (wC ca ad S) → va_S A s.heap H locs → ∀ (ls : Array Slot), lv_has ls 3 [(0, .ref (ad 0)), (1, .int y1), (2, .int y2)] → w_G_holdOwnPlacesOnly_39 K2 S y1 y2 Q → W p l e ({ frames := 2, cells := 0, slots := 0, locals := 43 } : Room) s m args below meth c H locs 0 0 (MQ below ((fun A => va_Qv Q (xAt D (wC ca ad) A) A) A) args s 0 0 A) (F0 m 39 ls []) := by
    intro K2 hK2 S y1 y2 H locs hP hD hS ls hl h
    unfold w_G_holdOwnPlacesOnly_39 at h
    refine lv_aload_n hx hb d_G_holdOwnPlacesOnly_39 rfl (lv_at hl 0 rfl) ?_
    refine va_get (D := D) (ci := 3) (v := .ref (ad 1)) (C := Rc_G) (T := Fc_G) (N := 6) hx hb hw inc_G hown hK hP 0 rfl rfl 0 (by decide) (hw _ wd_132) (fun _ h9 => h9) rfl d_G_holdOwnPlacesOnly_40 ?_
    refine va_getN (D := D) (ci := 0) (v := .ref (ad 4)) (C := Rc_L) (T := Fc_L) (N := 8) hx hb hw inc_L hown hK hP 1 rfl rfl 2 (by decide) (nw_30 hN) (fun _ h9 => h9) rfl d_G_holdOwnPlacesOnly_43 ?_
    refine lv_iload_n hx hb d_G_holdOwnPlacesOnly_46 rfl (lv_at hl 2 rfl) ?_
    refine lv_aload_n hx hb d_G_holdOwnPlacesOnly_47 rfl (lv_at hl 0 rfl) ?_
    refine lv_aload_n hx hb d_G_holdOwnPlacesOnly_48 rfl (lv_at hl 0 rfl) ?_
    refine va_get (D := D) (ci := 3) (v := .ref (ad 8)) (C := Rc_G) (T := Fc_G) (N := 6) hx hb hw inc_G hown hK hP 0 rfl rfl 1 (by decide) (hw _ wd_133) (fun _ h9 => h9) rfl d_G_holdOwnPlacesOnly_49 ?_
    refine lv_iload_n hx hb d_G_holdOwnPlacesOnly_52 rfl (lv_at hl 1 rfl) ?_
    obtain ⟨hq, hj1, h⟩ := h
    refine va_aldq (D := D) hx hb hK hP 8 4 rfl rfl hq d_G_holdOwnPlacesOnly_53 ?_
    refine W.eq (g2 := F0 m 54 ls (.ref (ad (9 + y1.toNatClampNeg)) :: .ref (ad 0) :: .int y2 :: .ref (ad 4) :: [])) rfl ?_
    refine lv_iload_n hx hb d_G_holdOwnPlacesOnly_54 rfl (lv_at hl 2 rfl) ?_
    refine xx_calli (va_runV (As := [.ref (ad (9 + y1.toNatClampNeg)), .int y2]) (rest := [.int y2, .ref (ad 4)]) ⟨hx, hb, hml, hown, hw⟩ (c_G_isIn l D ca ad H.size S y1.toNatClampNeg y2 hj1 _ h) (cwV 2 hw (tG_g gl_G_228) rfl rfl rfl (by decide +kernel) ⟨Nat.le_of_ble_eq_true rfl, Nat.le_of_ble_eq_true rfl⟩) ⟨xPc.blind, va_recv hK hP rfl (q0 := 0) rfl, xPc.pre hK hN hP hD⟩ rfl rfl hl.1 rfl (lv_room (Nat.le_of_ble_eq_true rfl)) d_G_holdOwnPlacesOnly_55 ⟨Nat.le_of_ble_eq_true rfl, Nat.le_of_ble_eq_true rfl⟩) hD hS hA (fun r2 S3 H locs h hP hD hS => ?_)
    refine lv_if_eq (tgt := 65) hx hb d_G_holdOwnPlacesOnly_58 (by decide) (fun hc => ?_) (fun hc => ?_)
    · replace h := h.1 hc
      refine lv_iconst (v := (-1)) hx hb d_G_holdOwnPlacesOnly_65 (by decide) ?_
      exact bk_66 K2 hK2 S3 y1 y2 (-1) y2 H locs hP hD hS ls (lv_sub hl [0, 1, 2] rfl) h
    · replace h := h.2 hc
      refine lv_iload_n hx hb d_G_holdOwnPlacesOnly_61 rfl (lv_at hl 1 rfl) ?_
      refine lv_goto (tgt := 66) hx hb d_G_holdOwnPlacesOnly_62 (by decide) ?_
      exact bk_66 K2 hK2 S3 y1 y2 y1 y2 H locs hP hD hS ls (lv_sub hl [0, 1, 2] rfl) h
  have bk_2 : ∀ (n9 : Nat) (S : SC) (y1 : Int32) (y2 : Int32) (H : Heap) (locs : List Loc) , va_P D cls (wC ca ad S) H → va_D A (wC ca ad S) → va_S A s.heap H locs → ∀ (ls : Array Slot), lv_has ls 3 [(0, .ref (ad 0)), (1, .int y1), (2, .int y2)] → w_G_holdOwnPlacesOnly_2 n9 S y1 y2 Q → W p l e ({ frames := 2, cells := 0, slots := 0, locals := 43 } : Room) s m args below meth c H locs 0 0 (MQ below ((fun A => va_Qv Q (xAt D (wC ca ad) A) A) A) args s 0 0 A) (F0 m 2 ls []) := by
    intro n9
    induction n9 with
    | zero => intro S y1 y2 H locs hP hD hS ls hl h; exact absurd h id
    | succ n9 hK2 =>
      intro S y1 y2 H locs hP hD hS ls hl h
      replace h : (((S.1 4 0) ≤ y2) → (Q S)) ∧ ((¬ (S.1 4 0) ≤ y2) → (vp_in y2 10 ∧ ((((S.1 6 y2.toNatClampNeg) = y1) → (w_G_holdOwnPlacesOnly_39 (fun S9 z0 z1 => w_G_holdOwnPlacesOnly_2 n9 S9 z0 z1 Q) S y1 y2 Q)) ∧ ((¬ (S.1 6 y2.toNatClampNeg) = y1) → (vp_in y2 10 ∧ (((¬ (S.1 6 y2.toNatClampNeg) = (-1)) → (w_G_holdOwnPlacesOnly_67 (fun S9 z0 z1 => w_G_holdOwnPlacesOnly_2 n9 S9 z0 z1 Q) S y1 y2 Q)) ∧ (((S.1 6 y2.toNatClampNeg) = (-1)) → (w_G_holdOwnPlacesOnly_39 (fun S9 z0 z1 => w_G_holdOwnPlacesOnly_2 n9 S9 z0 z1 Q) S y1 y2 Q)))))))) := h
      refine lv_iload_n hx hb d_G_holdOwnPlacesOnly_2 rfl (lv_at hl 2 rfl) ?_
      refine lv_aload_n hx hb d_G_holdOwnPlacesOnly_3 rfl (lv_at hl 0 rfl) ?_
      refine va_get (D := D) (ci := 3) (v := .ref (ad 1)) (C := Rc_G) (T := Fc_G) (N := 6) hx hb hw inc_G hown hK hP 0 rfl rfl 0 (by decide) (hw _ wd_132) (fun _ h9 => h9) rfl d_G_holdOwnPlacesOnly_4 ?_
      refine va_getN (D := D) (ci := 0) (v := .int (S.1 4 0)) (C := Rc_L) (T := Fc_L) (N := 8) hx hb hw inc_L hown hK hP 1 rfl rfl 6 (by decide) (nw_35 hN) (fun _ h9 => h9) rfl d_G_holdOwnPlacesOnly_7 ?_
      refine lv_icmp_ge (tgt := 73) hx hb d_G_holdOwnPlacesOnly_10 (by decide) (fun hc => ?_) (fun hc => ?_)
      · replace h := h.1 hc
        exact W.vret hx hb hr (fun t ht hW => ⟨⟨S, rfl, h, by rw [ht]; exact hP, hD⟩, hS.F ht⟩) hS.2.2 d_G_holdOwnPlacesOnly_73
      · replace h := h.2 hc
        refine lv_aload_n hx hb d_G_holdOwnPlacesOnly_13 rfl (lv_at hl 0 rfl) ?_
        refine va_get (D := D) (ci := 3) (v := .ref (ad 1)) (C := Rc_G) (T := Fc_G) (N := 6) hx hb hw inc_G hown hK hP 0 rfl rfl 0 (by decide) (hw _ wd_132) (fun _ h9 => h9) rfl d_G_holdOwnPlacesOnly_14 ?_
        refine va_getN (D := D) (ci := 0) (v := .ref (ad 4)) (C := Rc_L) (T := Fc_L) (N := 8) hx hb hw inc_L hown hK hP 1 rfl rfl 2 (by decide) (nw_30 hN) (fun _ h9 => h9) rfl d_G_holdOwnPlacesOnly_17 ?_
        refine lv_iload_n hx hb d_G_holdOwnPlacesOnly_20 rfl (lv_at hl 2 rfl) ?_
        obtain ⟨hq, h⟩ := h
        refine va_iald (D := D) hx hb hK hP 4 0 rfl rfl hq d_G_holdOwnPlacesOnly_21 ?_
        refine lv_iload_n hx hb d_G_holdOwnPlacesOnly_22 rfl (lv_at hl 1 rfl) ?_
        refine lv_icmp_eq (tgt := 39) hx hb d_G_holdOwnPlacesOnly_23 (by decide) (fun hc => ?_) (fun hc => ?_)
        · replace h := h.1 hc
          exact bk_39 (fun S9 z0 z1 => w_G_holdOwnPlacesOnly_2 n9 S9 z0 z1 Q) hK2 S y1 y2 H locs hP hD hS ls (lv_sub hl [0, 1, 2] rfl) h
        · replace h := h.2 hc
          refine lv_aload_n hx hb d_G_holdOwnPlacesOnly_26 rfl (lv_at hl 0 rfl) ?_
          refine va_get (D := D) (ci := 3) (v := .ref (ad 1)) (C := Rc_G) (T := Fc_G) (N := 6) hx hb hw inc_G hown hK hP 0 rfl rfl 0 (by decide) (hw _ wd_132) (fun _ h9 => h9) rfl d_G_holdOwnPlacesOnly_27 ?_
          refine va_getN (D := D) (ci := 0) (v := .ref (ad 4)) (C := Rc_L) (T := Fc_L) (N := 8) hx hb hw inc_L hown hK hP 1 rfl rfl 2 (by decide) (nw_30 hN) (fun _ h9 => h9) rfl d_G_holdOwnPlacesOnly_30 ?_
          refine lv_iload_n hx hb d_G_holdOwnPlacesOnly_33 rfl (lv_at hl 2 rfl) ?_
          obtain ⟨hq, h⟩ := h
          refine va_iald (D := D) hx hb hK hP 4 0 rfl rfl hq d_G_holdOwnPlacesOnly_34 ?_
          refine lv_iconst (v := (-1)) hx hb d_G_holdOwnPlacesOnly_35 (by decide) ?_
          refine lv_icmp_ne (tgt := 67) hx hb d_G_holdOwnPlacesOnly_36 (by decide) (fun hc => ?_) (fun hc => ?_)
          · replace h := h.1 hc
            exact bk_67 (fun S9 z0 z1 => w_G_holdOwnPlacesOnly_2 n9 S9 z0 z1 Q) hK2 S y1 y2 H locs hP hD hS ls (lv_sub hl [0, 1, 2] rfl) h
          · replace h := h.2 hc
            exact bk_39 (fun S9 z0 z1 => w_G_holdOwnPlacesOnly_2 n9 S9 z0 z1 Q) hK2 S y1 y2 H locs hP hD hS ls (lv_sub hl [0, 1, 2] rfl) h
  have hH9 : ∀ H : Heap, H = s.heap → va_P D cls (wC ca ad S) H → va_S A s.heap H [] → W p l e ({ frames := 2, cells := 0, slots := 0, locals := 43 } : Room) s m args below meth c H [] 0 0 (MQ below ((fun A => va_Qv Q (xAt D (wC ca ad) A) A) A) args s 0 0 A) (F0 m 0 ls []) := by
    clear hP hS
    intro H hH hP hS
    obtain ⟨locs, hlo⟩ : ∃ z : List Loc, z = [] := ⟨_, rfl⟩
    rw [← hlo] at hS ⊢
    refine lv_iconst (v := 0) hx hb d_G_holdOwnPlacesOnly_0 (by decide) ?_
    refine lv_istore_n (lv' := [(2, .int 0), (0, .ref (ad 0)), (1, .int x1)]) hx hb d_G_holdOwnPlacesOnly_1 rfl hl (by decide) rfl (fun ls hl => ?_)
    obtain ⟨n9, h⟩ := h
    exact bk_2 n9 S x1 0 H locs hP hD hS ls (lv_sub hl [1, 2, 0] rfl) h
  exact hH9 _ rfl hP hS
theorem d_G_count_0 : decode b_G_count 0 = .ok (.iload_n 1, 1) := by decide +kernel
theorem d_G_count_1 : decode b_G_count 1 = .ok (.tableswitch 75 0 5 #[39, 47, 55, 60, 65, 70], 39) := by decide +kernel
theorem d_G_count_40 : decode b_G_count 40 = .ok (.aload_n 0, 1) := by decide +kernel
theorem d_G_count_41 : decode b_G_count 41 = .ok (.getfield 10, 3) := by decide +kernel
theorem d_G_count_44 : decode b_G_count 44 = .ok (.getfield 43, 3) := by decide +kernel
theorem d_G_count_47 : decode b_G_count 47 = .ok (.ireturn, 1) := by decide +kernel
theorem d_G_count_48 : decode b_G_count 48 = .ok (.aload_n 0, 1) := by decide +kernel
theorem d_G_count_49 : decode b_G_count 49 = .ok (.getfield 10, 3) := by decide +kernel
theorem d_G_count_52 : decode b_G_count 52 = .ok (.getfield 55, 3) := by decide +kernel
theorem d_G_count_55 : decode b_G_count 55 = .ok (.ireturn, 1) := by decide +kernel
theorem d_G_count_56 : decode b_G_count 56 = .ok (.aload_n 0, 1) := by decide +kernel
theorem d_G_count_57 : decode b_G_count 57 = .ok (.getfield 39, 3) := by decide +kernel
theorem d_G_count_60 : decode b_G_count 60 = .ok (.ireturn, 1) := by decide +kernel
theorem d_G_count_61 : decode b_G_count 61 = .ok (.aload_n 0, 1) := by decide +kernel
theorem d_G_count_62 : decode b_G_count 62 = .ok (.getfield 143, 3) := by decide +kernel
theorem d_G_count_65 : decode b_G_count 65 = .ok (.ireturn, 1) := by decide +kernel
theorem d_G_count_66 : decode b_G_count 66 = .ok (.aload_n 0, 1) := by decide +kernel
theorem d_G_count_67 : decode b_G_count 67 = .ok (.getfield 169, 3) := by decide +kernel
theorem d_G_count_70 : decode b_G_count 70 = .ok (.ireturn, 1) := by decide +kernel
theorem d_G_count_71 : decode b_G_count 71 = .ok (.aload_n 0, 1) := by decide +kernel
theorem d_G_count_72 : decode b_G_count 72 = .ok (.getfield 172, 3) := by decide +kernel
theorem d_G_count_75 : decode b_G_count 75 = .ok (.ireturn, 1) := by decide +kernel
theorem d_G_count_76 : decode b_G_count 76 = .ok (.iconst (-1), 1) := by decide +kernel
theorem d_G_count_77 : decode b_G_count 77 = .ok (.ireturn, 1) := by decide +kernel
def w_G_count (S : SC) (x1 : Int32) (Q : Int32 → SC → Prop) : Prop := ((x1 = 0) → (Q (S.1 4 0) S)) ∧ ((x1 = 1) → (Q (S.1 5 0) S)) ∧ ((x1 = 2) → (Q (S.1 0 0) S)) ∧ ((x1 = 3) → (Q (S.1 1 0) S)) ∧ ((x1 = 4) → (Q (S.1 2 0) S)) ∧ ((x1 = 5) → (Q (S.1 3 0) S)) ∧ ((¬ x1 = 0 ∧ ¬ x1 = 1 ∧ ¬ x1 = 2 ∧ ¬ x1 = 3 ∧ ¬ x1 = 4 ∧ ¬ x1 = 5) → (Q (-1) S))
set_option maxRecDepth 100000 in
set_option maxHeartbeats 4000000 in
theorem c_G_count (l : Launch) (D : va_G) (ca : Nat → ClassId) (ad : Nat → Nat) (sz : Nat) (S : SC) (x1 : Int32)  (Q : Int32 → SC → Prop) (h : w_G_count S x1 Q) : Met l y_G_count (Cond.code y_G_count b_G_count 2 (some Jvm.ClassFile.FieldType.int) :: tG) ({ frames := 0, cells := 0, slots := 0, locals := 0 } : Room) (xPc D ca (wC ca ad) S sz [.ref (ad 0), .int x1]) (va_Qi Q (xAt D (wC ca ad) (va_A (wC ca ad S) sz)) (va_A (wC ca ad S) sz)) 0 0 (va_A (wC ca ad S) sz) := by
  refine xx_met (Qf := fun A => va_Qi Q (xAt D (wC ca ad) A) A) (by decide) (Nat.le_of_ble_eq_true rfl) ?_
  intro p e s m args below meth c A ls hx hb hr hw hown hlocks hml hK hN hA hP hD hS hl
  have hown : s.vm.findClass "TrainGuard" = some m.cls := hown
  have hl : lv_has ls 2 [(0, .ref (ad 0)), (1, .int x1)] := hl
  unfold w_G_count at h
  have hH9 : ∀ H : Heap, H = s.heap → va_P D cls (wC ca ad S) H → va_S A s.heap H [] → W p l e ({ frames := 0, cells := 0, slots := 0, locals := 0 } : Room) s m args below meth c H [] 0 0 (MQ below ((fun A => va_Qi Q (xAt D (wC ca ad) A) A) A) args s 0 0 A) (F0 m 0 ls []) := by
    clear hP hS
    intro H hH hP hS
    obtain ⟨locs, hlo⟩ : ∃ z : List Loc, z = [] := ⟨_, rfl⟩
    rw [← hlo] at hS ⊢
    refine lv_iload_n hx hb d_G_count_0 rfl (lv_at hl 1 rfl) ?_
    by_cases hc0 : x1 = 0
    · replace h := h.1 hc0
      refine lv_tableIn (off := 39) (tgt := 40) hx hb d_G_count_1 (by rw [hc0]; decide) (by rw [hc0]; decide) (by rw [hc0]; rfl) (by decide) ?_
      refine lv_aload_n hx hb d_G_count_40 rfl (lv_at hl 0 rfl) ?_
      refine va_get (D := D) (ci := 3) (v := .ref (ad 1)) (C := Rc_G) (T := Fc_G) (N := 6) hx hb hw inc_G hown hK hP 0 rfl rfl 0 (by decide) (hw _ wd_132) (fun _ h9 => h9) rfl d_G_count_41 ?_
      refine va_getN (D := D) (ci := 0) (v := .int (S.1 4 0)) (C := Rc_L) (T := Fc_L) (N := 8) hx hb hw inc_L hown hK hP 1 rfl rfl 6 (by decide) (nw_35 hN) (fun _ h9 => h9) rfl d_G_count_44 ?_
      exact W.iret (v := (S.1 4 0)) hx hb hr (fun t ht hW => ⟨⟨S.1 4 0, S, rfl, h, by rw [ht]; exact hP, hD⟩, hS.F ht⟩) hS.2.2 d_G_count_47
    by_cases hc1 : x1 = 1
    · replace h := h.2.1 hc1
      refine lv_tableIn (off := 47) (tgt := 48) hx hb d_G_count_1 (by rw [hc1]; decide) (by rw [hc1]; decide) (by rw [hc1]; rfl) (by decide) ?_
      refine lv_aload_n hx hb d_G_count_48 rfl (lv_at hl 0 rfl) ?_
      refine va_get (D := D) (ci := 3) (v := .ref (ad 1)) (C := Rc_G) (T := Fc_G) (N := 6) hx hb hw inc_G hown hK hP 0 rfl rfl 0 (by decide) (hw _ wd_132) (fun _ h9 => h9) rfl d_G_count_49 ?_
      refine va_getN (D := D) (ci := 0) (v := .int (S.1 5 0)) (C := Rc_L) (T := Fc_L) (N := 8) hx hb hw inc_L hown hK hP 1 rfl rfl 7 (by decide) (nw_37 hN) (fun _ h9 => h9) rfl d_G_count_52 ?_
      exact W.iret (v := (S.1 5 0)) hx hb hr (fun t ht hW => ⟨⟨S.1 5 0, S, rfl, h, by rw [ht]; exact hP, hD⟩, hS.F ht⟩) hS.2.2 d_G_count_55
    by_cases hc2 : x1 = 2
    · replace h := h.2.2.1 hc2
      refine lv_tableIn (off := 55) (tgt := 56) hx hb d_G_count_1 (by rw [hc2]; decide) (by rw [hc2]; decide) (by rw [hc2]; rfl) (by decide) ?_
      refine lv_aload_n hx hb d_G_count_56 rfl (lv_at hl 0 rfl) ?_
      refine va_get (D := D) (ci := 3) (v := .int (S.1 0 0)) (C := Rc_G) (T := Fc_G) (N := 6) hx hb hw inc_G hown hK hP 0 rfl rfl 2 (by decide) (hw _ wd_134) (fun _ h9 => h9) rfl d_G_count_57 ?_
      exact W.iret (v := (S.1 0 0)) hx hb hr (fun t ht hW => ⟨⟨S.1 0 0, S, rfl, h, by rw [ht]; exact hP, hD⟩, hS.F ht⟩) hS.2.2 d_G_count_60
    by_cases hc3 : x1 = 3
    · replace h := h.2.2.2.1 hc3
      refine lv_tableIn (off := 60) (tgt := 61) hx hb d_G_count_1 (by rw [hc3]; decide) (by rw [hc3]; decide) (by rw [hc3]; rfl) (by decide) ?_
      refine lv_aload_n hx hb d_G_count_61 rfl (lv_at hl 0 rfl) ?_
      refine va_get (D := D) (ci := 3) (v := .int (S.1 1 0)) (C := Rc_G) (T := Fc_G) (N := 6) hx hb hw inc_G hown hK hP 0 rfl rfl 3 (by decide) (hw _ wd_135) (fun _ h9 => h9) rfl d_G_count_62 ?_
      exact W.iret (v := (S.1 1 0)) hx hb hr (fun t ht hW => ⟨⟨S.1 1 0, S, rfl, h, by rw [ht]; exact hP, hD⟩, hS.F ht⟩) hS.2.2 d_G_count_65
    by_cases hc4 : x1 = 4
    · replace h := h.2.2.2.2.1 hc4
      refine lv_tableIn (off := 65) (tgt := 66) hx hb d_G_count_1 (by rw [hc4]; decide) (by rw [hc4]; decide) (by rw [hc4]; rfl) (by decide) ?_
      refine lv_aload_n hx hb d_G_count_66 rfl (lv_at hl 0 rfl) ?_
      refine va_get (D := D) (ci := 3) (v := .int (S.1 2 0)) (C := Rc_G) (T := Fc_G) (N := 6) hx hb hw inc_G hown hK hP 0 rfl rfl 4 (by decide) (hw _ wd_136) (fun _ h9 => h9) rfl d_G_count_67 ?_
      exact W.iret (v := (S.1 2 0)) hx hb hr (fun t ht hW => ⟨⟨S.1 2 0, S, rfl, h, by rw [ht]; exact hP, hD⟩, hS.F ht⟩) hS.2.2 d_G_count_70
    by_cases hc5 : x1 = 5
    · replace h := h.2.2.2.2.2.1 hc5
      refine lv_tableIn (off := 70) (tgt := 71) hx hb d_G_count_1 (by rw [hc5]; decide) (by rw [hc5]; decide) (by rw [hc5]; rfl) (by decide) ?_
      refine lv_aload_n hx hb d_G_count_71 rfl (lv_at hl 0 rfl) ?_
      refine va_get (D := D) (ci := 3) (v := .int (S.1 3 0)) (C := Rc_G) (T := Fc_G) (N := 6) hx hb hw inc_G hown hK hP 0 rfl rfl 5 (by decide) (hw _ wd_137) (fun _ h9 => h9) rfl d_G_count_72 ?_
      exact W.iret (v := (S.1 3 0)) hx hb hr (fun t ht hW => ⟨⟨S.1 3 0, S, rfl, h, by rw [ht]; exact hP, hD⟩, hS.F ht⟩) hS.2.2 d_G_count_75
    replace h := h.2.2.2.2.2.2 ⟨hc0, hc1, hc2, hc3, hc4, hc5⟩
    have hz0 := lv_neT (a := 0) hc0 rfl
    have hz1 := lv_neT (a := 1) hc1 rfl
    have hz2 := lv_neT (a := 2) hc2 rfl
    have hz3 := lv_neT (a := 3) hc3 rfl
    have hz4 := lv_neT (a := 4) hc4 rfl
    have hz5 := lv_neT (a := 5) hc5 rfl
    refine lv_tableOut (tgt := 76) hx hb d_G_count_1 (by omega) (by decide) ?_
    refine lv_iconst (v := (-1)) hx hb d_G_count_76 (by decide) ?_
    exact W.iret (v := (-1)) hx hb hr (fun t ht hW => ⟨⟨(-1), S, rfl, h, by rw [ht]; exact hP, hD⟩, hS.F ht⟩) hS.2.2 d_G_count_77
  exact hH9 _ rfl hP hS
