theorem d_T_rear_0 : decode b_T_rear 0 = .ok (.aload_n 0, 1) := by decide +kernel
theorem d_T_rear_1 : decode b_T_rear 1 = .ok (.getfield 25, 3) := by decide +kernel
theorem d_T_rear_4 : decode b_T_rear 4 = .ok (.aload_n 0, 1) := by decide +kernel
theorem d_T_rear_5 : decode b_T_rear 5 = .ok (.getfield 18, 3) := by decide +kernel
theorem d_T_rear_8 : decode b_T_rear 8 = .ok (.dsub, 1) := by decide +kernel
theorem d_T_rear_9 : decode b_T_rear 9 = .ok (.dreturn, 1) := by decide +kernel
def w_T_rear (S : SC) (i : Nat) (Q : UInt64 → SC → Prop) : Prop := vf_n64 (FP.dsub (S.2 8 i) (S.2 5 i)) ∧ (∀ f1 : UInt64, f1 = FP.dsub (S.2 8 i) (S.2 5 i) → (Q f1 S))
set_option maxRecDepth 100000 in
set_option maxHeartbeats 4000000 in
theorem c_T_rear (l : Launch) (D : va_G) (ca : Nat → ClassId) (ad : Nat → Nat) (sz : Nat) (S : SC) (i : Nat) (hi : i < 3) (Q : UInt64 → SC → Prop) (h : w_T_rear S i Q) : Met l y_T_rear (Cond.code y_T_rear b_T_rear 1 (some Jvm.ClassFile.FieldType.double) :: tG) ({ frames := 0, cells := 0, slots := 0, locals := 0 } : Room) (xPc D ca (wC ca ad) S sz [.ref (ad (9 + i))]) (va_Qd Q (xAt D (wC ca ad) (va_A (wC ca ad S) sz)) (va_A (wC ca ad S) sz)) 0 0 (va_A (wC ca ad S) sz) := by
  refine xx_met (Qf := fun A => va_Qd Q (xAt D (wC ca ad) A) A) (by decide) (Nat.le_of_ble_eq_true rfl) ?_
  intro p e s m args below meth c A ls hx hb hr hw hown hlocks hml hK hN hA hP hD hS hl
  have hown : s.vm.findClass "TrainGuard$Train" = some m.cls := hown
  have hl : lv_has ls 1 [(0, .ref (ad (9 + i)))] := hl
  have hH9 : ∀ H : Heap, H = s.heap → va_P D cls (wC ca ad S) H → va_S A s.heap H [] → W p l e ({ frames := 0, cells := 0, slots := 0, locals := 0 } : Room) s m args below meth c H [] 0 0 (MQ below ((fun A => va_Qd Q (xAt D (wC ca ad) A) A) A) args s 0 0 A) (F0 m 0 ls []) := by
    clear hP hS
    intro H hH hP hS
    obtain ⟨locs, hlo⟩ : ∃ z : List Loc, z = [] := ⟨_, rfl⟩
    rw [← hlo] at hS ⊢
    refine lv_aload_n hx hb d_T_rear_0 rfl (lv_at hl 0 rfl) ?_
    refine va_get (D := D) (ci := 2) (v := .double (S.2 8 i)) (C := Rc_T) (T := Fc_T) (N := 11) hx hb hw inc_T hown hK hP (9 + i) (wC_T hi) rfl 4 (by decide) (hw _ wd_95) (fun _ h9 => h9) rfl d_T_rear_1 ?_
    refine lv_aload_n hx hb d_T_rear_4 rfl (lv_at hl 0 rfl) ?_
    refine va_get (D := D) (ci := 2) (v := .double (S.2 5 i)) (C := Rc_T) (T := Fc_T) (N := 11) hx hb hw inc_T hown hK hP (9 + i) (wC_T hi) rfl 1 (by decide) (hw _ wd_91) (fun _ h9 => h9) rfl d_T_rear_5 ?_
    obtain ⟨hq, h⟩ := h
    refine lv_dsub hx hb d_T_rear_8 hq ?_
    refine lv_topd (fun f1 e_f1 => ?_)
    replace h := h f1 e_f1
    exact W.dret (v := f1) hx hb hr (fun t ht hW => ⟨⟨f1, S, rfl, h, by rw [ht]; exact hP, hD⟩, hS.F ht⟩) hS.2.2 d_T_rear_9
  exact hH9 _ rfl hP hS
theorem d_T_stands_0 : decode b_T_stands 0 = .ok (.aload_n 0, 1) := by decide +kernel
theorem d_T_stands_1 : decode b_T_stands 1 = .ok (.getfield 31, 3) := by decide +kernel
theorem d_T_stands_4 : decode b_T_stands 4 = .ok (.dconst 0, 1) := by decide +kernel
theorem d_T_stands_5 : decode b_T_stands 5 = .ok (.dcmp .l, 1) := by decide +kernel
theorem d_T_stands_6 : decode b_T_stands 6 = .ok (.ifCond .ne 7, 3) := by decide +kernel
theorem d_T_stands_9 : decode b_T_stands 9 = .ok (.iconst 1, 1) := by decide +kernel
theorem d_T_stands_10 : decode b_T_stands 10 = .ok (.goto 4, 3) := by decide +kernel
theorem d_T_stands_13 : decode b_T_stands 13 = .ok (.iconst 0, 1) := by decide +kernel
theorem d_T_stands_14 : decode b_T_stands 14 = .ok (.ireturn, 1) := by decide +kernel
def w_T_stands (S : SC) (i : Nat) (Q : Int32 → SC → Prop) : Prop := ((¬ (Op.cmpValue (FP.dcmp (S.2 7 i) FP.dconst0) .l) = 0) → (Q 0 S)) ∧ (((Op.cmpValue (FP.dcmp (S.2 7 i) FP.dconst0) .l) = 0) → (Q 1 S))
set_option maxRecDepth 100000 in
set_option maxHeartbeats 4000000 in
theorem c_T_stands (l : Launch) (D : va_G) (ca : Nat → ClassId) (ad : Nat → Nat) (sz : Nat) (S : SC) (i : Nat) (hi : i < 3) (Q : Int32 → SC → Prop) (h : w_T_stands S i Q) : Met l y_T_stands (Cond.code y_T_stands b_T_stands 1 (some Jvm.ClassFile.FieldType.boolean) :: tG) ({ frames := 0, cells := 0, slots := 0, locals := 0 } : Room) (xPc D ca (wC ca ad) S sz [.ref (ad (9 + i))]) (va_Qi Q (xAt D (wC ca ad) (va_A (wC ca ad S) sz)) (va_A (wC ca ad S) sz)) 0 0 (va_A (wC ca ad S) sz) := by
  refine xx_met (Qf := fun A => va_Qi Q (xAt D (wC ca ad) A) A) (by decide) (Nat.le_of_ble_eq_true rfl) ?_
  intro p e s m args below meth c A ls hx hb hr hw hown hlocks hml hK hN hA hP hD hS hl
  have hown : s.vm.findClass "TrainGuard$Train" = some m.cls := hown
  have hl : lv_has ls 1 [(0, .ref (ad (9 + i)))] := hl
  have hH9 : ∀ H : Heap, H = s.heap → va_P D cls (wC ca ad S) H → va_S A s.heap H [] → W p l e ({ frames := 0, cells := 0, slots := 0, locals := 0 } : Room) s m args below meth c H [] 0 0 (MQ below ((fun A => va_Qi Q (xAt D (wC ca ad) A) A) A) args s 0 0 A) (F0 m 0 ls []) := by
    clear hP hS
    intro H hH hP hS
    obtain ⟨locs, hlo⟩ : ∃ z : List Loc, z = [] := ⟨_, rfl⟩
    rw [← hlo] at hS ⊢
    refine lv_aload_n hx hb d_T_stands_0 rfl (lv_at hl 0 rfl) ?_
    refine va_get (D := D) (ci := 2) (v := .double (S.2 7 i)) (C := Rc_T) (T := Fc_T) (N := 11) hx hb hw inc_T hown hK hP (9 + i) (wC_T hi) rfl 3 (by decide) (hw _ wd_93) (fun _ h9 => h9) rfl d_T_stands_1 ?_
    refine lv_dconst0 hx hb d_T_stands_4 ?_
    refine lv_dcmp hx hb d_T_stands_5 ?_
    refine lv_if_ne (tgt := 13) hx hb d_T_stands_6 (by decide) (fun hc => ?_) (fun hc => ?_)
    · replace h := h.1 hc
      refine lv_iconst (v := 0) hx hb d_T_stands_13 (by decide) ?_
      exact W.zret (v := 0) hx hb hr rfl (fun t ht hW => ⟨⟨0, S, rfl, h, by rw [ht]; exact hP, hD⟩, hS.F ht⟩) hS.2.2 d_T_stands_14
    · replace h := h.2 hc
      refine lv_iconst (v := 1) hx hb d_T_stands_9 (by decide) ?_
      refine lv_goto (tgt := 14) hx hb d_T_stands_10 (by decide) ?_
      exact W.zret (v := 1) hx hb hr rfl (fun t ht hW => ⟨⟨1, S, rfl, h, by rw [ht]; exact hP, hD⟩, hS.F ht⟩) hS.2.2 d_T_stands_14
  exact hH9 _ rfl hP hS
theorem d_T_wayTo_0 : decode b_T_wayTo 0 = .ok (.aload_n 0, 1) := by decide +kernel
theorem d_T_wayTo_1 : decode b_T_wayTo 1 = .ok (.getfield 31, 3) := by decide +kernel
theorem d_T_wayTo_4 : decode b_T_wayTo 4 = .ok (.dload_n 1, 1) := by decide +kernel
theorem d_T_wayTo_5 : decode b_T_wayTo 5 = .ok (.dadd, 1) := by decide +kernel
theorem d_T_wayTo_6 : decode b_T_wayTo 6 = .ok (.ldc2_w 64, 3) := by decide +kernel
theorem d_T_wayTo_9 : decode b_T_wayTo 9 = .ok (.dmul, 1) := by decide +kernel
theorem d_T_wayTo_10 : decode b_T_wayTo 10 = .ok (.dreturn, 1) := by decide +kernel
def w_T_wayTo (S : SC) (i : Nat) (x1 : UInt64) (Q : UInt64 → SC → Prop) : Prop := vf_n64 (FP.dadd (S.2 7 i) x1) ∧ (∀ f1 : UInt64, f1 = FP.dadd (S.2 7 i) x1 → (vf_n64 (FP.dmul f1 (4602678819172646912 : UInt64)) ∧ (∀ f2 : UInt64, f2 = FP.dmul f1 (4602678819172646912 : UInt64) → (Q f2 S))))
set_option maxRecDepth 100000 in
set_option maxHeartbeats 4000000 in
theorem c_T_wayTo (l : Launch) (D : va_G) (ca : Nat → ClassId) (ad : Nat → Nat) (sz : Nat) (S : SC) (i : Nat) (x1 : UInt64) (hi : i < 3) (Q : UInt64 → SC → Prop) (h : w_T_wayTo S i x1 Q) : Met l y_T_wayTo (Cond.code y_T_wayTo b_T_wayTo 3 (some Jvm.ClassFile.FieldType.double) :: tG) ({ frames := 0, cells := 0, slots := 0, locals := 0 } : Room) (xPc D ca (wC ca ad) S sz [.ref (ad (9 + i)), .double x1]) (va_Qd Q (xAt D (wC ca ad) (va_A (wC ca ad S) sz)) (va_A (wC ca ad S) sz)) 0 0 (va_A (wC ca ad S) sz) := by
  refine xx_met (Qf := fun A => va_Qd Q (xAt D (wC ca ad) A) A) (by decide) (Nat.le_of_ble_eq_true rfl) ?_
  intro p e s m args below meth c A ls hx hb hr hw hown hlocks hml hK hN hA hP hD hS hl
  have hown : s.vm.findClass "TrainGuard$Train" = some m.cls := hown
  have hl : lv_has ls 3 [(0, .ref (ad (9 + i))), (1, .double x1)] := hl
  have hH9 : ∀ H : Heap, H = s.heap → va_P D cls (wC ca ad S) H → va_S A s.heap H [] → W p l e ({ frames := 0, cells := 0, slots := 0, locals := 0 } : Room) s m args below meth c H [] 0 0 (MQ below ((fun A => va_Qd Q (xAt D (wC ca ad) A) A) A) args s 0 0 A) (F0 m 0 ls []) := by
    clear hP hS
    intro H hH hP hS
    obtain ⟨locs, hlo⟩ : ∃ z : List Loc, z = [] := ⟨_, rfl⟩
    rw [← hlo] at hS ⊢
    refine lv_aload_n hx hb d_T_wayTo_0 rfl (lv_at hl 0 rfl) ?_
    refine va_get (D := D) (ci := 2) (v := .double (S.2 7 i)) (C := Rc_T) (T := Fc_T) (N := 11) hx hb hw inc_T hown hK hP (9 + i) (wC_T hi) rfl 3 (by decide) (hw _ wd_93) (fun _ h9 => h9) rfl d_T_wayTo_1 ?_
    refine lv_dload_n hx hb d_T_wayTo_4 rfl (lv_at hl 1 rfl) ?_
    obtain ⟨hq, h⟩ := h
    refine lv_dadd hx hb d_T_wayTo_5 hq ?_
    refine lv_topd (fun f1 e_f1 => ?_)
    replace h := h f1 e_f1
    refine lv_ldc2d hx hb hown (hw _ wd_385) d_T_wayTo_6 ?_
    obtain ⟨hq, h⟩ := h
    refine lv_dmul hx hb d_T_wayTo_9 hq ?_
    refine lv_topd (fun f2 e_f2 => ?_)
    replace h := h f2 e_f2
    exact W.dret (v := f2) hx hb hr (fun t ht hW => ⟨⟨f2, S, rfl, h, by rw [ht]; exact hP, hD⟩, hS.F ht⟩) hS.2.2 d_T_wayTo_10
  exact hH9 _ rfl hP hS
theorem d_L_beginOf_0 : decode b_L_beginOf 0 = .ok (.aload_n 0, 1) := by decide +kernel
theorem d_L_beginOf_1 : decode b_L_beginOf 1 = .ok (.getfield 9, 3) := by decide +kernel
theorem d_L_beginOf_4 : decode b_L_beginOf 4 = .ok (.iload_n 1, 1) := by decide +kernel
theorem d_L_beginOf_5 : decode b_L_beginOf 5 = .ok (.daload, 1) := by decide +kernel
theorem d_L_beginOf_6 : decode b_L_beginOf 6 = .ok (.dreturn, 1) := by decide +kernel
def w_L_beginOf (S : SC) (x1 : Int32) (Q : UInt64 → SC → Prop) : Prop := vp_in x1 11 ∧ (Q (S.2 0 x1.toNatClampNeg) S)
set_option maxRecDepth 100000 in
set_option maxHeartbeats 4000000 in
theorem c_L_beginOf (l : Launch) (D : va_G) (ca : Nat → ClassId) (ad : Nat → Nat) (sz : Nat) (S : SC) (x1 : Int32)  (Q : UInt64 → SC → Prop) (h : w_L_beginOf S x1 Q) : Met l y_L_beginOf (Cond.code y_L_beginOf b_L_beginOf 2 (some Jvm.ClassFile.FieldType.double) :: tG) ({ frames := 0, cells := 0, slots := 0, locals := 0 } : Room) (xPc D ca (wC ca ad) S sz [.ref (ad 1), .int x1]) (va_Qd Q (xAt D (wC ca ad) (va_A (wC ca ad S) sz)) (va_A (wC ca ad S) sz)) 0 0 (va_A (wC ca ad S) sz) := by
  refine xx_met (Qf := fun A => va_Qd Q (xAt D (wC ca ad) A) A) (by decide) (Nat.le_of_ble_eq_true rfl) ?_
  intro p e s m args below meth c A ls hx hb hr hw hown hlocks hml hK hN hA hP hD hS hl
  have hown : s.vm.findClass "TrainGuard$Line" = some m.cls := hown
  have hl : lv_has ls 2 [(0, .ref (ad 1)), (1, .int x1)] := hl
  have hH9 : ∀ H : Heap, H = s.heap → va_P D cls (wC ca ad S) H → va_S A s.heap H [] → W p l e ({ frames := 0, cells := 0, slots := 0, locals := 0 } : Room) s m args below meth c H [] 0 0 (MQ below ((fun A => va_Qd Q (xAt D (wC ca ad) A) A) A) args s 0 0 A) (F0 m 0 ls []) := by
    clear hP hS
    intro H hH hP hS
    obtain ⟨locs, hlo⟩ : ∃ z : List Loc, z = [] := ⟨_, rfl⟩
    rw [← hlo] at hS ⊢
    refine lv_aload_n hx hb d_L_beginOf_0 rfl (lv_at hl 0 rfl) ?_
    refine va_get (D := D) (ci := 0) (v := .ref (ad 2)) (C := Rc_L) (T := Fc_L) (N := 8) hx hb hw inc_L hown hK hP 1 rfl rfl 0 (by decide) (hw _ wd_27) (fun _ h9 => h9) rfl d_L_beginOf_1 ?_
    refine lv_iload_n hx hb d_L_beginOf_4 rfl (lv_at hl 1 rfl) ?_
    obtain ⟨hq, h⟩ := h
    refine va_dald (D := D) hx hb hK hP 2 2 rfl rfl hq d_L_beginOf_5 ?_
    exact W.dret (v := (S.2 0 x1.toNatClampNeg)) hx hb hr (fun t ht hW => ⟨⟨S.2 0 x1.toNatClampNeg, S, rfl, h, by rw [ht]; exact hP, hD⟩, hS.F ht⟩) hS.2.2 d_L_beginOf_6
  exact hH9 _ rfl hP hS
theorem d_L_endOf_0 : decode b_L_endOf 0 = .ok (.aload_n 0, 1) := by decide +kernel
theorem d_L_endOf_1 : decode b_L_endOf 1 = .ok (.getfield 9, 3) := by decide +kernel
theorem d_L_endOf_4 : decode b_L_endOf 4 = .ok (.iload_n 1, 1) := by decide +kernel
theorem d_L_endOf_5 : decode b_L_endOf 5 = .ok (.iconst 1, 1) := by decide +kernel
theorem d_L_endOf_6 : decode b_L_endOf 6 = .ok (.iadd, 1) := by decide +kernel
theorem d_L_endOf_7 : decode b_L_endOf 7 = .ok (.daload, 1) := by decide +kernel
theorem d_L_endOf_8 : decode b_L_endOf 8 = .ok (.dreturn, 1) := by decide +kernel
def w_L_endOf (S : SC) (x1 : Int32) (Q : UInt64 → SC → Prop) : Prop := ∀ a1 : Int32, a1 = x1 + 1 → (vp_in a1 11 ∧ (Q (S.2 0 a1.toNatClampNeg) S))
set_option maxRecDepth 100000 in
set_option maxHeartbeats 4000000 in
theorem c_L_endOf (l : Launch) (D : va_G) (ca : Nat → ClassId) (ad : Nat → Nat) (sz : Nat) (S : SC) (x1 : Int32)  (Q : UInt64 → SC → Prop) (h : w_L_endOf S x1 Q) : Met l y_L_endOf (Cond.code y_L_endOf b_L_endOf 2 (some Jvm.ClassFile.FieldType.double) :: tG) ({ frames := 0, cells := 0, slots := 0, locals := 0 } : Room) (xPc D ca (wC ca ad) S sz [.ref (ad 1), .int x1]) (va_Qd Q (xAt D (wC ca ad) (va_A (wC ca ad S) sz)) (va_A (wC ca ad S) sz)) 0 0 (va_A (wC ca ad S) sz) := by
  refine xx_met (Qf := fun A => va_Qd Q (xAt D (wC ca ad) A) A) (by decide) (Nat.le_of_ble_eq_true rfl) ?_
  intro p e s m args below meth c A ls hx hb hr hw hown hlocks hml hK hN hA hP hD hS hl
  have hown : s.vm.findClass "TrainGuard$Line" = some m.cls := hown
  have hl : lv_has ls 2 [(0, .ref (ad 1)), (1, .int x1)] := hl
  have hH9 : ∀ H : Heap, H = s.heap → va_P D cls (wC ca ad S) H → va_S A s.heap H [] → W p l e ({ frames := 0, cells := 0, slots := 0, locals := 0 } : Room) s m args below meth c H [] 0 0 (MQ below ((fun A => va_Qd Q (xAt D (wC ca ad) A) A) A) args s 0 0 A) (F0 m 0 ls []) := by
    clear hP hS
    intro H hH hP hS
    obtain ⟨locs, hlo⟩ : ∃ z : List Loc, z = [] := ⟨_, rfl⟩
    rw [← hlo] at hS ⊢
    refine lv_aload_n hx hb d_L_endOf_0 rfl (lv_at hl 0 rfl) ?_
    refine va_get (D := D) (ci := 0) (v := .ref (ad 2)) (C := Rc_L) (T := Fc_L) (N := 8) hx hb hw inc_L hown hK hP 1 rfl rfl 0 (by decide) (hw _ wd_27) (fun _ h9 => h9) rfl d_L_endOf_1 ?_
    refine lv_iload_n hx hb d_L_endOf_4 rfl (lv_at hl 1 rfl) ?_
    refine lv_iconst (v := 1) hx hb d_L_endOf_5 (by decide) ?_
    refine lv_iadd hx hb d_L_endOf_6 ?_
    refine lv_topi (fun a1 e_a1 => ?_)
    replace h := h a1 e_a1
    obtain ⟨hq, h⟩ := h
    refine va_dald (D := D) hx hb hK hP 2 2 rfl rfl hq d_L_endOf_7 ?_
    exact W.dret (v := (S.2 0 a1.toNatClampNeg)) hx hb hr (fun t ht hW => ⟨⟨S.2 0 a1.toNatClampNeg, S, rfl, h, by rw [ht]; exact hP, hD⟩, hS.F ht⟩) hS.2.2 d_L_endOf_8
  exact hH9 _ rfl hP hS
theorem d_L_lengthOf_0 : decode b_L_lengthOf 0 = .ok (.aload_n 0, 1) := by decide +kernel
theorem d_L_lengthOf_1 : decode b_L_lengthOf 1 = .ok (.iload_n 1, 1) := by decide +kernel
theorem d_L_lengthOf_2 : decode b_L_lengthOf 2 = .ok (.invokevirtual 38, 3) := by decide +kernel
theorem d_L_lengthOf_5 : decode b_L_lengthOf 5 = .ok (.aload_n 0, 1) := by decide +kernel
theorem d_L_lengthOf_6 : decode b_L_lengthOf 6 = .ok (.iload_n 1, 1) := by decide +kernel
theorem d_L_lengthOf_7 : decode b_L_lengthOf 7 = .ok (.invokevirtual 42, 3) := by decide +kernel
theorem d_L_lengthOf_10 : decode b_L_lengthOf 10 = .ok (.dsub, 1) := by decide +kernel
theorem d_L_lengthOf_11 : decode b_L_lengthOf 11 = .ok (.dreturn, 1) := by decide +kernel
theorem gl_L_38 : ∀ w ∈ wsV "TrainGuard$Line" 38 "TrainGuard$Line" y_L_endOf (Cond.code y_L_endOf b_L_endOf 2 (some Jvm.ClassFile.FieldType.double) :: tG), w ∈ tG := by
  intro x hx
  simp only [wsV, List.cons_append, List.nil_append, List.mem_cons] at hx
  rcases hx with rfl | rfl | rfl | rfl | rfl | hx
  · exact wd_327
  · exact wd_328
  · exact wd_329
  · exact wd_2
  · exact wd_330
  · exact hx
theorem gl_L_42 : ∀ w ∈ wsV "TrainGuard$Line" 42 "TrainGuard$Line" y_L_beginOf (Cond.code y_L_beginOf b_L_beginOf 2 (some Jvm.ClassFile.FieldType.double) :: tG), w ∈ tG := by
  intro x hx
  simp only [wsV, List.cons_append, List.nil_append, List.mem_cons] at hx
  rcases hx with rfl | rfl | rfl | rfl | rfl | hx
  · exact wd_331
  · exact wd_332
  · exact wd_333
  · exact wd_2
  · exact wd_334
  · exact hx
def w_L_lengthOf (S : SC) (x1 : Int32) (Q : UInt64 → SC → Prop) : Prop := w_L_endOf S x1 (fun r1 S2 => w_L_beginOf S2 x1 (fun r3 S4 => vf_n64 (FP.dsub r1 r3) ∧ (∀ f5 : UInt64, f5 = FP.dsub r1 r3 → (Q f5 S4))))
set_option maxRecDepth 100000 in
set_option maxHeartbeats 4000000 in
theorem c_L_lengthOf (l : Launch) (D : va_G) (ca : Nat → ClassId) (ad : Nat → Nat) (sz : Nat) (S : SC) (x1 : Int32)  (Q : UInt64 → SC → Prop) (h : w_L_lengthOf S x1 Q) : Met l y_L_lengthOf (Cond.code y_L_lengthOf b_L_lengthOf 2 (some Jvm.ClassFile.FieldType.double) :: tG) ({ frames := 1, cells := 0, slots := 0, locals := 21 } : Room) (xPc D ca (wC ca ad) S sz [.ref (ad 1), .int x1]) (va_Qd Q (xAt D (wC ca ad) (va_A (wC ca ad S) sz)) (va_A (wC ca ad S) sz)) 0 0 (va_A (wC ca ad S) sz) := by
  refine xx_met (Qf := fun A => va_Qd Q (xAt D (wC ca ad) A) A) (by decide) (Nat.le_of_ble_eq_true rfl) ?_
  intro p e s m args below meth c A ls hx hb hr hw hown hlocks hml hK hN hA hP hD hS hl
  have hown : s.vm.findClass "TrainGuard$Line" = some m.cls := hown
  have hl : lv_has ls 2 [(0, .ref (ad 1)), (1, .int x1)] := hl
  have hH9 : ∀ H : Heap, H = s.heap → va_P D cls (wC ca ad S) H → va_S A s.heap H [] → W p l e ({ frames := 1, cells := 0, slots := 0, locals := 21 } : Room) s m args below meth c H [] 0 0 (MQ below ((fun A => va_Qd Q (xAt D (wC ca ad) A) A) A) args s 0 0 A) (F0 m 0 ls []) := by
    clear hP hS
    intro H hH hP hS
    obtain ⟨locs, hlo⟩ : ∃ z : List Loc, z = [] := ⟨_, rfl⟩
    rw [← hlo] at hS ⊢
    refine lv_aload_n hx hb d_L_lengthOf_0 rfl (lv_at hl 0 rfl) ?_
    refine lv_iload_n hx hb d_L_lengthOf_1 rfl (lv_at hl 1 rfl) ?_
    refine xx_calld (va_runV (As := [.int x1]) (rest := []) ⟨hx, hb, hml, hown, hw⟩ (c_L_endOf l D ca ad H.size S x1 _ h) (cwV 1 hw (tG_g gl_L_38) rfl rfl rfl (by decide +kernel) ⟨Nat.le_of_ble_eq_true rfl, Nat.le_of_ble_eq_true rfl⟩) ⟨xPc.blind, va_recv hK hP rfl (q0 := 1) rfl, xPc.pre hK hN hP hD⟩ rfl rfl hl.1 rfl (lv_room (Nat.le_of_ble_eq_true rfl)) d_L_lengthOf_2 ⟨Nat.le_of_ble_eq_true rfl, Nat.le_of_ble_eq_true rfl⟩) hD hS hA (fun r1 S2 H locs h hP hD hS => ?_)
    refine lv_aload_n hx hb d_L_lengthOf_5 rfl (lv_at hl 0 rfl) ?_
    refine lv_iload_n hx hb d_L_lengthOf_6 rfl (lv_at hl 1 rfl) ?_
    refine xx_calld (va_runV (As := [.int x1]) (rest := [.double r1]) ⟨hx, hb, hml, hown, hw⟩ (c_L_beginOf l D ca ad H.size S2 x1 _ h) (cwV 1 hw (tG_g gl_L_42) rfl rfl rfl (by decide +kernel) ⟨Nat.le_of_ble_eq_true rfl, Nat.le_of_ble_eq_true rfl⟩) ⟨xPc.blind, va_recv hK hP rfl (q0 := 1) rfl, xPc.pre hK hN hP hD⟩ rfl rfl hl.1 rfl (lv_room (Nat.le_of_ble_eq_true rfl)) d_L_lengthOf_7 ⟨Nat.le_of_ble_eq_true rfl, Nat.le_of_ble_eq_true rfl⟩) hD hS hA (fun r3 S4 H locs h hP hD hS => ?_)
    obtain ⟨hq, h⟩ := h
    refine lv_dsub hx hb d_L_lengthOf_10 hq ?_
    refine lv_topd (fun f5 e_f5 => ?_)
    replace h := h f5 e_f5
    exact W.dret (v := f5) hx hb hr (fun t ht hW => ⟨⟨f5, S4, rfl, h, by rw [ht]; exact hP, hD⟩, hS.F ht⟩) hS.2.2 d_L_lengthOf_11
  exact hH9 _ rfl hP hS
theorem d_L_hasSection_0 : decode b_L_hasSection 0 = .ok (.iload_n 1, 1) := by decide +kernel
theorem d_L_hasSection_1 : decode b_L_hasSection 1 = .ok (.ifCond .lt 15, 3) := by decide +kernel
theorem d_L_hasSection_4 : decode b_L_hasSection 4 = .ok (.iload_n 1, 1) := by decide +kernel
theorem d_L_hasSection_5 : decode b_L_hasSection 5 = .ok (.aload_n 0, 1) := by decide +kernel
theorem d_L_hasSection_6 : decode b_L_hasSection 6 = .ok (.getfield 31, 3) := by decide +kernel
theorem d_L_hasSection_9 : decode b_L_hasSection 9 = .ok (.if_icmp .ge 7, 3) := by decide +kernel
theorem d_L_hasSection_12 : decode b_L_hasSection 12 = .ok (.iconst 1, 1) := by decide +kernel
theorem d_L_hasSection_13 : decode b_L_hasSection 13 = .ok (.goto 4, 3) := by decide +kernel
theorem d_L_hasSection_16 : decode b_L_hasSection 16 = .ok (.iconst 0, 1) := by decide +kernel
theorem d_L_hasSection_17 : decode b_L_hasSection 17 = .ok (.ireturn, 1) := by decide +kernel
def w_L_hasSection (S : SC) (x1 : Int32) (Q : Int32 → SC → Prop) : Prop := ((x1 < 0) → (Q 0 S)) ∧ ((¬ x1 < 0) → ((((S.1 4 0) ≤ x1) → (Q 0 S)) ∧ ((¬ (S.1 4 0) ≤ x1) → (Q 1 S))))
set_option maxRecDepth 100000 in
set_option maxHeartbeats 4000000 in
theorem c_L_hasSection (l : Launch) (D : va_G) (ca : Nat → ClassId) (ad : Nat → Nat) (sz : Nat) (S : SC) (x1 : Int32)  (Q : Int32 → SC → Prop) (h : w_L_hasSection S x1 Q) : Met l y_L_hasSection (Cond.code y_L_hasSection b_L_hasSection 2 (some Jvm.ClassFile.FieldType.boolean) :: tG) ({ frames := 0, cells := 0, slots := 0, locals := 0 } : Room) (xPc D ca (wC ca ad) S sz [.ref (ad 1), .int x1]) (va_Qi Q (xAt D (wC ca ad) (va_A (wC ca ad S) sz)) (va_A (wC ca ad S) sz)) 0 0 (va_A (wC ca ad S) sz) := by
  refine xx_met (Qf := fun A => va_Qi Q (xAt D (wC ca ad) A) A) (by decide) (Nat.le_of_ble_eq_true rfl) ?_
  intro p e s m args below meth c A ls hx hb hr hw hown hlocks hml hK hN hA hP hD hS hl
  have hown : s.vm.findClass "TrainGuard$Line" = some m.cls := hown
  have hl : lv_has ls 2 [(0, .ref (ad 1)), (1, .int x1)] := hl
  have hH9 : ∀ H : Heap, H = s.heap → va_P D cls (wC ca ad S) H → va_S A s.heap H [] → W p l e ({ frames := 0, cells := 0, slots := 0, locals := 0 } : Room) s m args below meth c H [] 0 0 (MQ below ((fun A => va_Qi Q (xAt D (wC ca ad) A) A) A) args s 0 0 A) (F0 m 0 ls []) := by
    clear hP hS
    intro H hH hP hS
    obtain ⟨locs, hlo⟩ : ∃ z : List Loc, z = [] := ⟨_, rfl⟩
    rw [← hlo] at hS ⊢
    refine lv_iload_n hx hb d_L_hasSection_0 rfl (lv_at hl 1 rfl) ?_
    refine lv_if_lt (tgt := 16) hx hb d_L_hasSection_1 (by decide) (fun hc => ?_) (fun hc => ?_)
    · replace h := h.1 hc
      refine lv_iconst (v := 0) hx hb d_L_hasSection_16 (by decide) ?_
      exact W.zret (v := 0) hx hb hr rfl (fun t ht hW => ⟨⟨0, S, rfl, h, by rw [ht]; exact hP, hD⟩, hS.F ht⟩) hS.2.2 d_L_hasSection_17
    · replace h := h.2 hc
      refine lv_iload_n hx hb d_L_hasSection_4 rfl (lv_at hl 1 rfl) ?_
      refine lv_aload_n hx hb d_L_hasSection_5 rfl (lv_at hl 0 rfl) ?_
      refine va_get (D := D) (ci := 0) (v := .int (S.1 4 0)) (C := Rc_L) (T := Fc_L) (N := 8) hx hb hw inc_L hown hK hP 1 rfl rfl 6 (by decide) (hw _ wd_34) (fun _ h9 => h9) rfl d_L_hasSection_6 ?_
      refine lv_icmp_ge (tgt := 16) hx hb d_L_hasSection_9 (by decide) (fun hc => ?_) (fun hc => ?_)
      · replace h := h.1 hc
        refine lv_iconst (v := 0) hx hb d_L_hasSection_16 (by decide) ?_
        exact W.zret (v := 0) hx hb hr rfl (fun t ht hW => ⟨⟨0, S, rfl, h, by rw [ht]; exact hP, hD⟩, hS.F ht⟩) hS.2.2 d_L_hasSection_17
      · replace h := h.2 hc
        refine lv_iconst (v := 1) hx hb d_L_hasSection_12 (by decide) ?_
        refine lv_goto (tgt := 17) hx hb d_L_hasSection_13 (by decide) ?_
        exact W.zret (v := 1) hx hb hr rfl (fun t ht hW => ⟨⟨1, S, rfl, h, by rw [ht]; exact hP, hD⟩, hS.F ht⟩) hS.2.2 d_L_hasSection_17
  exact hH9 _ rfl hP hS
theorem d_L_lineEnd_0 : decode b_L_lineEnd 0 = .ok (.aload_n 0, 1) := by decide +kernel
theorem d_L_lineEnd_1 : decode b_L_lineEnd 1 = .ok (.getfield 9, 3) := by decide +kernel
theorem d_L_lineEnd_4 : decode b_L_lineEnd 4 = .ok (.aload_n 0, 1) := by decide +kernel
theorem d_L_lineEnd_5 : decode b_L_lineEnd 5 = .ok (.getfield 31, 3) := by decide +kernel
theorem d_L_lineEnd_8 : decode b_L_lineEnd 8 = .ok (.daload, 1) := by decide +kernel
theorem d_L_lineEnd_9 : decode b_L_lineEnd 9 = .ok (.dreturn, 1) := by decide +kernel
def w_L_lineEnd (S : SC) (Q : UInt64 → SC → Prop) : Prop := vp_in (S.1 4 0) 11 ∧ (Q (S.2 0 (S.1 4 0).toNatClampNeg) S)
set_option maxRecDepth 100000 in
set_option maxHeartbeats 4000000 in
theorem c_L_lineEnd (l : Launch) (D : va_G) (ca : Nat → ClassId) (ad : Nat → Nat) (sz : Nat) (S : SC)   (Q : UInt64 → SC → Prop) (h : w_L_lineEnd S  Q) : Met l y_L_lineEnd (Cond.code y_L_lineEnd b_L_lineEnd 1 (some Jvm.ClassFile.FieldType.double) :: tG) ({ frames := 0, cells := 0, slots := 0, locals := 0 } : Room) (xPc D ca (wC ca ad) S sz [.ref (ad 1)]) (va_Qd Q (xAt D (wC ca ad) (va_A (wC ca ad S) sz)) (va_A (wC ca ad S) sz)) 0 0 (va_A (wC ca ad S) sz) := by
  refine xx_met (Qf := fun A => va_Qd Q (xAt D (wC ca ad) A) A) (by decide) (Nat.le_of_ble_eq_true rfl) ?_
  intro p e s m args below meth c A ls hx hb hr hw hown hlocks hml hK hN hA hP hD hS hl
  have hown : s.vm.findClass "TrainGuard$Line" = some m.cls := hown
  have hl : lv_has ls 1 [(0, .ref (ad 1))] := hl
  have hH9 : ∀ H : Heap, H = s.heap → va_P D cls (wC ca ad S) H → va_S A s.heap H [] → W p l e ({ frames := 0, cells := 0, slots := 0, locals := 0 } : Room) s m args below meth c H [] 0 0 (MQ below ((fun A => va_Qd Q (xAt D (wC ca ad) A) A) A) args s 0 0 A) (F0 m 0 ls []) := by
    clear hP hS
    intro H hH hP hS
    obtain ⟨locs, hlo⟩ : ∃ z : List Loc, z = [] := ⟨_, rfl⟩
    rw [← hlo] at hS ⊢
    refine lv_aload_n hx hb d_L_lineEnd_0 rfl (lv_at hl 0 rfl) ?_
    refine va_get (D := D) (ci := 0) (v := .ref (ad 2)) (C := Rc_L) (T := Fc_L) (N := 8) hx hb hw inc_L hown hK hP 1 rfl rfl 0 (by decide) (hw _ wd_27) (fun _ h9 => h9) rfl d_L_lineEnd_1 ?_
    refine lv_aload_n hx hb d_L_lineEnd_4 rfl (lv_at hl 0 rfl) ?_
    refine va_get (D := D) (ci := 0) (v := .int (S.1 4 0)) (C := Rc_L) (T := Fc_L) (N := 8) hx hb hw inc_L hown hK hP 1 rfl rfl 6 (by decide) (hw _ wd_34) (fun _ h9 => h9) rfl d_L_lineEnd_5 ?_
    obtain ⟨hq, h⟩ := h
    refine va_dald (D := D) hx hb hK hP 2 2 rfl rfl hq d_L_lineEnd_8 ?_
    exact W.dret (v := (S.2 0 (S.1 4 0).toNatClampNeg)) hx hb hr (fun t ht hW => ⟨⟨S.2 0 (S.1 4 0).toNatClampNeg, S, rfl, h, by rw [ht]; exact hP, hD⟩, hS.F ht⟩) hS.2.2 d_L_lineEnd_9
  exact hH9 _ rfl hP hS
