theorem d_R_thrown_0 : decode b_R_thrown 0 = .ok (.aload_n 0, 1) := by decide +kernel
theorem d_R_thrown_1 : decode b_R_thrown 1 = .ok (.getfield 66, 3) := by decide +kernel
theorem d_R_thrown_4 : decode b_R_thrown 4 = .ok (.ireturn, 1) := by decide +kernel
def w_R_thrown (S : SR) (Q : Int32 → SR → Prop) : Prop := Q (S.1 0 0) S
set_option maxRecDepth 100000 in
set_option maxHeartbeats 4000000 in
theorem c_R_thrown (l : Launch) (D : va_G) (ca : Nat → ClassId) (ad : Nat → Nat) (sz : Nat) (S : SR)   (Q : Int32 → SR → Prop) (h : w_R_thrown S  Q) : Met l y_R_thrown (Cond.code y_R_thrown b_R_thrown 1 (some Jvm.ClassFile.FieldType.int) :: tG) ({ frames := 0, cells := 0, slots := 0, locals := 0 } : Room) (xPc D ca (wR ca ad) S sz [.ref (ad 0)]) (va_Qi Q (xAt D (wR ca ad) (va_A (wR ca ad S) sz)) (va_A (wR ca ad S) sz)) 0 0 (va_A (wR ca ad S) sz) := by
  refine xx_met (Qf := fun A => va_Qi Q (xAt D (wR ca ad) A) A) (by decide) (Nat.le_of_ble_eq_true rfl) ?_
  intro p e s m args below meth c A ls hx hb hr hw hown hlocks hml hK hN hA hP hD hS hl
  have hown : s.vm.findClass "TrainGuardModel" = some m.cls := hown
  have hl : lv_has ls 1 [(0, .ref (ad 0))] := hl
  unfold w_R_thrown at h
  have hH9 : ∀ H : Heap, H = s.heap → va_P D cls (wR ca ad S) H → va_S A s.heap H [] → W p l e ({ frames := 0, cells := 0, slots := 0, locals := 0 } : Room) s m args below meth c H [] 0 0 (MQ below ((fun A => va_Qi Q (xAt D (wR ca ad) A) A) A) args s 0 0 A) (F0 m 0 ls []) := by
    clear hP hS
    intro H hH hP hS
    obtain ⟨locs, hlo⟩ : ∃ z : List Loc, z = [] := ⟨_, rfl⟩
    rw [← hlo] at hS ⊢
    refine lv_aload_n hx hb d_R_thrown_0 rfl (lv_at hl 0 rfl) ?_
    refine va_get (D := D) (ci := 4) (v := .int (S.1 0 0)) (C := Rc_R) (T := Fc_R) (N := 25) hx hb hw inc_R hown hK hP 0 rfl rfl 0 (by decide) (hw _ wd_591) (fun _ h9 => h9) rfl d_R_thrown_1 ?_
    exact W.iret (v := (S.1 0 0)) hx hb hr (fun t ht hW => ⟨⟨S.1 0 0, S, rfl, h, by rw [ht]; exact hP, hD⟩, hS.F ht⟩) hS.2.2 d_R_thrown_4
  exact hH9 _ rfl hP hS
theorem d_R_fail_0 : decode b_R_fail 0 = .ok (.aload_n 0, 1) := by decide +kernel
theorem d_R_fail_1 : decode b_R_fail 1 = .ok (.iload_n 1, 1) := by decide +kernel
theorem d_R_fail_2 : decode b_R_fail 2 = .ok (.putfield 66, 3) := by decide +kernel
theorem d_R_fail_5 : decode b_R_fail 5 = .ok (.iconst 0, 1) := by decide +kernel
theorem d_R_fail_6 : decode b_R_fail 6 = .ok (.ireturn, 1) := by decide +kernel
def w_R_fail (S : SR) (x1 : Int32) (Q : Int32 → SR → Prop) : Prop := Q 0 (pI S 0 0 x1)
set_option maxRecDepth 100000 in
set_option maxHeartbeats 4000000 in
theorem c_R_fail (l : Launch) (D : va_G) (ca : Nat → ClassId) (ad : Nat → Nat) (sz : Nat) (S : SR) (x1 : Int32)  (Q : Int32 → SR → Prop) (h : w_R_fail S x1 Q) : Met l y_R_fail (Cond.code y_R_fail b_R_fail 2 (some Jvm.ClassFile.FieldType.int) :: tG) ({ frames := 0, cells := 0, slots := 0, locals := 0 } : Room) (xPc D ca (wR ca ad) S sz [.ref (ad 0), .int x1]) (va_Qi Q (xAt D (wR ca ad) (va_A (wR ca ad S) sz)) (va_A (wR ca ad S) sz)) 0 0 (va_A (wR ca ad S) sz) := by
  refine xx_met (Qf := fun A => va_Qi Q (xAt D (wR ca ad) A) A) (by decide) (Nat.le_of_ble_eq_true rfl) ?_
  intro p e s m args below meth c A ls hx hb hr hw hown hlocks hml hK hN hA hP hD hS hl
  have hown : s.vm.findClass "TrainGuardModel" = some m.cls := hown
  have hl : lv_has ls 2 [(0, .ref (ad 0)), (1, .int x1)] := hl
  unfold w_R_fail at h
  have hH9 : ∀ H : Heap, H = s.heap → va_P D cls (wR ca ad S) H → va_S A s.heap H [] → W p l e ({ frames := 0, cells := 0, slots := 0, locals := 0 } : Room) s m args below meth c H [] 0 0 (MQ below ((fun A => va_Qi Q (xAt D (wR ca ad) A) A) A) args s 0 0 A) (F0 m 0 ls []) := by
    clear hP hS
    intro H hH hP hS
    obtain ⟨locs, hlo⟩ : ∃ z : List Loc, z = [] := ⟨_, rfl⟩
    rw [← hlo] at hS ⊢
    refine lv_aload_n hx hb d_R_fail_0 rfl (lv_at hl 0 rfl) ?_
    refine lv_iload_n hx hb d_R_fail_1 rfl (lv_at hl 1 rfl) ?_
    refine va_put (D := D) (ci := 4) (v := .int x1) (ty := .int) (C := Rc_R) (T := Fc_R) (N := 25) hx hb hw inc_R tc_R tc_R_ok nc_R hown hK hP hD hS 0 rfl rfl 0 (by decide) (hw _ wd_591) (fun _ h9 => h9) rfl (by decide +kernel) rfl rfl (Nat.le_of_ble_eq_true rfl) d_R_fail_2 (fun H locs hP hD hS => ?_)
    rw [pt_R_thrown] at hP hD
    refine lv_iconst (v := 0) hx hb d_R_fail_5 (by decide) ?_
    exact W.iret (v := 0) hx hb hr (fun t ht hW => ⟨⟨0, pI S 0 0 x1, rfl, h, by rw [ht]; exact hP, hD⟩, hS.F ht⟩) hS.2.2 d_R_fail_6
  exact hH9 _ rfl hP hS
theorem d_R_answer_0 : decode b_R_answer 0 = .ok (.aload_n 0, 1) := by decide +kernel
theorem d_R_answer_1 : decode b_R_answer 1 = .ok (.iconst 0, 1) := by decide +kernel
theorem d_R_answer_2 : decode b_R_answer 2 = .ok (.putfield 66, 3) := by decide +kernel
theorem d_R_answer_5 : decode b_R_answer 5 = .ok (.iload_n 1, 1) := by decide +kernel
theorem d_R_answer_6 : decode b_R_answer 6 = .ok (.ireturn, 1) := by decide +kernel
def w_R_answer (S : SR) (x1 : Int32) (Q : Int32 → SR → Prop) : Prop := Q x1 (pI S 0 0 0)
set_option maxRecDepth 100000 in
set_option maxHeartbeats 4000000 in
theorem c_R_answer (l : Launch) (D : va_G) (ca : Nat → ClassId) (ad : Nat → Nat) (sz : Nat) (S : SR) (x1 : Int32)  (Q : Int32 → SR → Prop) (h : w_R_answer S x1 Q) : Met l y_R_answer (Cond.code y_R_answer b_R_answer 2 (some Jvm.ClassFile.FieldType.int) :: tG) ({ frames := 0, cells := 0, slots := 0, locals := 0 } : Room) (xPc D ca (wR ca ad) S sz [.ref (ad 0), .int x1]) (va_Qi Q (xAt D (wR ca ad) (va_A (wR ca ad S) sz)) (va_A (wR ca ad S) sz)) 0 0 (va_A (wR ca ad S) sz) := by
  refine xx_met (Qf := fun A => va_Qi Q (xAt D (wR ca ad) A) A) (by decide) (Nat.le_of_ble_eq_true rfl) ?_
  intro p e s m args below meth c A ls hx hb hr hw hown hlocks hml hK hN hA hP hD hS hl
  have hown : s.vm.findClass "TrainGuardModel" = some m.cls := hown
  have hl : lv_has ls 2 [(0, .ref (ad 0)), (1, .int x1)] := hl
  unfold w_R_answer at h
  have hH9 : ∀ H : Heap, H = s.heap → va_P D cls (wR ca ad S) H → va_S A s.heap H [] → W p l e ({ frames := 0, cells := 0, slots := 0, locals := 0 } : Room) s m args below meth c H [] 0 0 (MQ below ((fun A => va_Qi Q (xAt D (wR ca ad) A) A) A) args s 0 0 A) (F0 m 0 ls []) := by
    clear hP hS
    intro H hH hP hS
    obtain ⟨locs, hlo⟩ : ∃ z : List Loc, z = [] := ⟨_, rfl⟩
    rw [← hlo] at hS ⊢
    refine lv_aload_n hx hb d_R_answer_0 rfl (lv_at hl 0 rfl) ?_
    refine lv_iconst (v := 0) hx hb d_R_answer_1 (by decide) ?_
    refine va_put (D := D) (ci := 4) (v := .int 0) (ty := .int) (C := Rc_R) (T := Fc_R) (N := 25) hx hb hw inc_R tc_R tc_R_ok nc_R hown hK hP hD hS 0 rfl rfl 0 (by decide) (hw _ wd_591) (fun _ h9 => h9) rfl (by decide +kernel) rfl rfl (Nat.le_of_ble_eq_true rfl) d_R_answer_2 (fun H locs hP hD hS => ?_)
    rw [pt_R_thrown] at hP hD
    refine lv_iload_n hx hb d_R_answer_5 rfl (lv_at hl 1 rfl) ?_
    exact W.iret (v := x1) hx hb hr (fun t ht hW => ⟨⟨x1, pI S 0 0 0, rfl, h, by rw [ht]; exact hP, hD⟩, hS.F ht⟩) hS.2.2 d_R_answer_6
  exact hH9 _ rfl hP hS
theorem d_R_shown_0 : decode b_R_shown 0 = .ok (.aload_n 0, 1) := by decide +kernel
theorem d_R_shown_1 : decode b_R_shown 1 = .ok (.iconst 0, 1) := by decide +kernel
theorem d_R_shown_2 : decode b_R_shown 2 = .ok (.putfield 66, 3) := by decide +kernel
theorem d_R_shown_5 : decode b_R_shown 5 = .ok (.lload_n 1, 1) := by decide +kernel
theorem d_R_shown_6 : decode b_R_shown 6 = .ok (.l2d, 1) := by decide +kernel
theorem d_R_shown_7 : decode b_R_shown 7 = .ok (.ldc2_w 70, 3) := by decide +kernel
theorem d_R_shown_10 : decode b_R_shown 10 = .ok (.ddiv, 1) := by decide +kernel
theorem d_R_shown_11 : decode b_R_shown 11 = .ok (.dreturn, 1) := by decide +kernel
def w_R_shown (S : SR) (x1 : Int64) (Q : UInt64 → SR → Prop) : Prop := ∀ f1 : UInt64, f1 = FP.l2d x1 → (vf_n64 (FP.ddiv f1 (4643211215818981376 : UInt64)) ∧ (∀ f2 : UInt64, f2 = FP.ddiv f1 (4643211215818981376 : UInt64) → (Q f2 (pI S 0 0 0))))
set_option maxRecDepth 100000 in
set_option maxHeartbeats 4000000 in
theorem c_R_shown (l : Launch) (D : va_G) (ca : Nat → ClassId) (ad : Nat → Nat) (sz : Nat) (S : SR) (x1 : Int64)  (Q : UInt64 → SR → Prop) (h : w_R_shown S x1 Q) : Met l y_R_shown (Cond.code y_R_shown b_R_shown 3 (some Jvm.ClassFile.FieldType.double) :: tG) ({ frames := 0, cells := 0, slots := 0, locals := 0 } : Room) (xPc D ca (wR ca ad) S sz [.ref (ad 0), .long x1]) (va_Qd Q (xAt D (wR ca ad) (va_A (wR ca ad S) sz)) (va_A (wR ca ad S) sz)) 0 0 (va_A (wR ca ad S) sz) := by
  refine xx_met (Qf := fun A => va_Qd Q (xAt D (wR ca ad) A) A) (by decide) (Nat.le_of_ble_eq_true rfl) ?_
  intro p e s m args below meth c A ls hx hb hr hw hown hlocks hml hK hN hA hP hD hS hl
  have hown : s.vm.findClass "TrainGuardModel" = some m.cls := hown
  have hl : lv_has ls 3 [(0, .ref (ad 0)), (1, .long x1)] := hl
  unfold w_R_shown at h
  have hH9 : ∀ H : Heap, H = s.heap → va_P D cls (wR ca ad S) H → va_S A s.heap H [] → W p l e ({ frames := 0, cells := 0, slots := 0, locals := 0 } : Room) s m args below meth c H [] 0 0 (MQ below ((fun A => va_Qd Q (xAt D (wR ca ad) A) A) A) args s 0 0 A) (F0 m 0 ls []) := by
    clear hP hS
    intro H hH hP hS
    obtain ⟨locs, hlo⟩ : ∃ z : List Loc, z = [] := ⟨_, rfl⟩
    rw [← hlo] at hS ⊢
    refine lv_aload_n hx hb d_R_shown_0 rfl (lv_at hl 0 rfl) ?_
    refine lv_iconst (v := 0) hx hb d_R_shown_1 (by decide) ?_
    refine va_put (D := D) (ci := 4) (v := .int 0) (ty := .int) (C := Rc_R) (T := Fc_R) (N := 25) hx hb hw inc_R tc_R tc_R_ok nc_R hown hK hP hD hS 0 rfl rfl 0 (by decide) (hw _ wd_591) (fun _ h9 => h9) rfl (by decide +kernel) rfl rfl (Nat.le_of_ble_eq_true rfl) d_R_shown_2 (fun H locs hP hD hS => ?_)
    rw [pt_R_thrown] at hP hD
    refine lv_lload_n hx hb d_R_shown_5 rfl (lv_at hl 1 rfl) ?_
    refine lv_l2d hx hb d_R_shown_6 ?_
    refine lv_topd (fun f1 e_f1 => ?_)
    replace h := h f1 e_f1
    refine lv_ldc2d hx hb hown (hw _ wd_690) d_R_shown_7 ?_
    obtain ⟨hq, h⟩ := h
    refine lv_ddiv hx hb d_R_shown_10 hq ?_
    refine lv_topd (fun f2 e_f2 => ?_)
    replace h := h f2 e_f2
    exact W.dret (v := f2) hx hb hr (fun t ht hW => ⟨⟨f2, pI S 0 0 0, rfl, h, by rw [ht]; exact hP, hD⟩, hS.F ht⟩) hS.2.2 d_R_shown_11
  exact hH9 _ rfl hP hS
theorem d_R_whole_0 : decode b_R_whole 0 = .ok (.dload_n 0, 1) := by decide +kernel
theorem d_R_whole_1 : decode b_R_whole 1 = .ok (.ldc2_w 70, 3) := by decide +kernel
theorem d_R_whole_4 : decode b_R_whole 4 = .ok (.dmul, 1) := by decide +kernel
theorem d_R_whole_5 : decode b_R_whole 5 = .ok (.d2l, 1) := by decide +kernel
theorem d_R_whole_6 : decode b_R_whole 6 = .ok (.lreturn, 1) := by decide +kernel
def w_R_whole (S : SR) (x1 : UInt64) (Q : Int64 → SR → Prop) : Prop := vf_n64 (FP.dmul x1 (4643211215818981376 : UInt64)) ∧ (∀ f1 : UInt64, f1 = FP.dmul x1 (4643211215818981376 : UInt64) → (∀ b2 : Int64, b2 = FP.d2l f1 → (Q b2 S)))
set_option maxRecDepth 100000 in
set_option maxHeartbeats 4000000 in
theorem c_R_whole (l : Launch) (D : va_G) (ca : Nat → ClassId) (ad : Nat → Nat) (sz : Nat) (S : SR) (x1 : UInt64)  (Q : Int64 → SR → Prop) (h : w_R_whole S x1 Q) : Met l y_R_whole (Cond.code y_R_whole b_R_whole 2 (some Jvm.ClassFile.FieldType.long) :: tG) ({ frames := 0, cells := 0, slots := 0, locals := 0 } : Room) (xPc D ca (wR ca ad) S sz [.double x1]) (va_Ql Q (xAt D (wR ca ad) (va_A (wR ca ad S) sz)) (va_A (wR ca ad S) sz)) 0 0 (va_A (wR ca ad S) sz) := by
  refine xx_met (Qf := fun A => va_Ql Q (xAt D (wR ca ad) A) A) (by decide) (Nat.le_of_ble_eq_true rfl) ?_
  intro p e s m args below meth c A ls hx hb hr hw hown hlocks hml hK hN hA hP hD hS hl
  have hown : s.vm.findClass "TrainGuardModel" = some m.cls := hown
  have hl : lv_has ls 2 [(0, .double x1)] := hl
  unfold w_R_whole at h
  have hH9 : ∀ H : Heap, H = s.heap → va_P D cls (wR ca ad S) H → va_S A s.heap H [] → W p l e ({ frames := 0, cells := 0, slots := 0, locals := 0 } : Room) s m args below meth c H [] 0 0 (MQ below ((fun A => va_Ql Q (xAt D (wR ca ad) A) A) A) args s 0 0 A) (F0 m 0 ls []) := by
    clear hP hS
    intro H hH hP hS
    obtain ⟨locs, hlo⟩ : ∃ z : List Loc, z = [] := ⟨_, rfl⟩
    rw [← hlo] at hS ⊢
    refine lv_dload_n hx hb d_R_whole_0 rfl (lv_at hl 0 rfl) ?_
    refine lv_ldc2d hx hb hown (hw _ wd_690) d_R_whole_1 ?_
    obtain ⟨hq, h⟩ := h
    refine lv_dmul hx hb d_R_whole_4 hq ?_
    refine lv_topd (fun f1 e_f1 => ?_)
    replace h := h f1 e_f1
    refine lv_d2l hx hb d_R_whole_5 ?_
    refine lv_topl (fun b2 e_b2 => ?_)
    replace h := h b2 e_b2
    exact W.lret (v := b2) hx hb hr (fun t ht hW => ⟨⟨b2, S, rfl, h, by rw [ht]; exact hP, hD⟩, hS.F ht⟩) hS.2.2 d_R_whole_6
  exact hH9 _ rfl hP hS
theorem d_R_in_0 : decode b_R_in 0 = .ok (.iload_n 0, 1) := by decide +kernel
theorem d_R_in_1 : decode b_R_in 1 = .ok (.iload_n 1, 1) := by decide +kernel
theorem d_R_in_2 : decode b_R_in 2 = .ok (.if_icmp .lt 12, 3) := by decide +kernel
theorem d_R_in_5 : decode b_R_in 5 = .ok (.iload_n 0, 1) := by decide +kernel
theorem d_R_in_6 : decode b_R_in 6 = .ok (.iload_n 2, 1) := by decide +kernel
theorem d_R_in_7 : decode b_R_in 7 = .ok (.if_icmp .gt 7, 3) := by decide +kernel
theorem d_R_in_10 : decode b_R_in 10 = .ok (.iconst 1, 1) := by decide +kernel
theorem d_R_in_11 : decode b_R_in 11 = .ok (.goto 4, 3) := by decide +kernel
theorem d_R_in_14 : decode b_R_in 14 = .ok (.iconst 0, 1) := by decide +kernel
theorem d_R_in_15 : decode b_R_in 15 = .ok (.ireturn, 1) := by decide +kernel
def w_R_in (S : SR) (x1 : Int32) (x2 : Int32) (x3 : Int32) (Q : Int32 → SR → Prop) : Prop := ((x1 < x2) → (Q 0 S)) ∧ ((¬ x1 < x2) → (((x3 < x1) → (Q 0 S)) ∧ ((¬ x3 < x1) → (Q 1 S))))
set_option maxRecDepth 100000 in
set_option maxHeartbeats 4000000 in
theorem c_R_in (l : Launch) (D : va_G) (ca : Nat → ClassId) (ad : Nat → Nat) (sz : Nat) (S : SR) (x1 : Int32) (x2 : Int32) (x3 : Int32)  (Q : Int32 → SR → Prop) (h : w_R_in S x1 x2 x3 Q) : Met l y_R_in (Cond.code y_R_in b_R_in 3 (some Jvm.ClassFile.FieldType.boolean) :: tG) ({ frames := 0, cells := 0, slots := 0, locals := 0 } : Room) (xPc D ca (wR ca ad) S sz [.int x1, .int x2, .int x3]) (va_Qi Q (xAt D (wR ca ad) (va_A (wR ca ad S) sz)) (va_A (wR ca ad S) sz)) 0 0 (va_A (wR ca ad S) sz) := by
  refine xx_met (Qf := fun A => va_Qi Q (xAt D (wR ca ad) A) A) (by decide) (Nat.le_of_ble_eq_true rfl) ?_
  intro p e s m args below meth c A ls hx hb hr hw hown hlocks hml hK hN hA hP hD hS hl
  have hown : s.vm.findClass "TrainGuardModel" = some m.cls := hown
  have hl : lv_has ls 3 [(0, .int x1), (1, .int x2), (2, .int x3)] := hl
  unfold w_R_in at h
  have hH9 : ∀ H : Heap, H = s.heap → va_P D cls (wR ca ad S) H → va_S A s.heap H [] → W p l e ({ frames := 0, cells := 0, slots := 0, locals := 0 } : Room) s m args below meth c H [] 0 0 (MQ below ((fun A => va_Qi Q (xAt D (wR ca ad) A) A) A) args s 0 0 A) (F0 m 0 ls []) := by
    clear hP hS
    intro H hH hP hS
    obtain ⟨locs, hlo⟩ : ∃ z : List Loc, z = [] := ⟨_, rfl⟩
    rw [← hlo] at hS ⊢
    refine lv_iload_n hx hb d_R_in_0 rfl (lv_at hl 0 rfl) ?_
    refine lv_iload_n hx hb d_R_in_1 rfl (lv_at hl 1 rfl) ?_
    refine lv_icmp_lt (tgt := 14) hx hb d_R_in_2 (by decide) (fun hc => ?_) (fun hc => ?_)
    · replace h := h.1 hc
      refine lv_iconst (v := 0) hx hb d_R_in_14 (by decide) ?_
      exact W.zret (v := 0) hx hb hr rfl (fun t ht hW => ⟨⟨0, S, rfl, h, by rw [ht]; exact hP, hD⟩, hS.F ht⟩) hS.2.2 d_R_in_15
    · replace h := h.2 hc
      refine lv_iload_n hx hb d_R_in_5 rfl (lv_at hl 0 rfl) ?_
      refine lv_iload_n hx hb d_R_in_6 rfl (lv_at hl 2 rfl) ?_
      refine lv_icmp_gt (tgt := 14) hx hb d_R_in_7 (by decide) (fun hc => ?_) (fun hc => ?_)
      · replace h := h.1 hc
        refine lv_iconst (v := 0) hx hb d_R_in_14 (by decide) ?_
        exact W.zret (v := 0) hx hb hr rfl (fun t ht hW => ⟨⟨0, S, rfl, h, by rw [ht]; exact hP, hD⟩, hS.F ht⟩) hS.2.2 d_R_in_15
      · replace h := h.2 hc
        refine lv_iconst (v := 1) hx hb d_R_in_10 (by decide) ?_
        refine lv_goto (tgt := 15) hx hb d_R_in_11 (by decide) ?_
        exact W.zret (v := 1) hx hb hr rfl (fun t ht hW => ⟨⟨1, S, rfl, h, by rw [ht]; exact hP, hD⟩, hS.F ht⟩) hS.2.2 d_R_in_15
  exact hH9 _ rfl hP hS
theorem d_R_between_0 : decode b_R_between 0 = .ok (.dload_n 0, 1) := by decide +kernel
theorem d_R_between_1 : decode b_R_between 1 = .ok (.dload_n 2, 1) := by decide +kernel
theorem d_R_between_2 : decode b_R_between 2 = .ok (.dcmp .l, 1) := by decide +kernel
theorem d_R_between_3 : decode b_R_between 3 = .ok (.ifCond .lt 14, 3) := by decide +kernel
theorem d_R_between_6 : decode b_R_between 6 = .ok (.dload_n 0, 1) := by decide +kernel
theorem d_R_between_7 : decode b_R_between 7 = .ok (.dload 4, 2) := by decide +kernel
theorem d_R_between_9 : decode b_R_between 9 = .ok (.dcmp .g, 1) := by decide +kernel
theorem d_R_between_10 : decode b_R_between 10 = .ok (.ifCond .gt 7, 3) := by decide +kernel
theorem d_R_between_13 : decode b_R_between 13 = .ok (.iconst 1, 1) := by decide +kernel
theorem d_R_between_14 : decode b_R_between 14 = .ok (.goto 4, 3) := by decide +kernel
theorem d_R_between_17 : decode b_R_between 17 = .ok (.iconst 0, 1) := by decide +kernel
theorem d_R_between_18 : decode b_R_between 18 = .ok (.ireturn, 1) := by decide +kernel
def w_R_between (S : SR) (x1 : UInt64) (x2 : UInt64) (x3 : UInt64) (Q : Int32 → SR → Prop) : Prop := (((Op.cmpValue (FP.dcmp x1 x2) .l) < 0) → (Q 0 S)) ∧ ((¬ (Op.cmpValue (FP.dcmp x1 x2) .l) < 0) → (((0 < (Op.cmpValue (FP.dcmp x1 x3) .g)) → (Q 0 S)) ∧ ((¬ 0 < (Op.cmpValue (FP.dcmp x1 x3) .g)) → (Q 1 S))))
set_option maxRecDepth 100000 in
set_option maxHeartbeats 4000000 in
theorem c_R_between (l : Launch) (D : va_G) (ca : Nat → ClassId) (ad : Nat → Nat) (sz : Nat) (S : SR) (x1 : UInt64) (x2 : UInt64) (x3 : UInt64)  (Q : Int32 → SR → Prop) (h : w_R_between S x1 x2 x3 Q) : Met l y_R_between (Cond.code y_R_between b_R_between 6 (some Jvm.ClassFile.FieldType.boolean) :: tG) ({ frames := 0, cells := 0, slots := 0, locals := 0 } : Room) (xPc D ca (wR ca ad) S sz [.double x1, .double x2, .double x3]) (va_Qi Q (xAt D (wR ca ad) (va_A (wR ca ad S) sz)) (va_A (wR ca ad S) sz)) 0 0 (va_A (wR ca ad S) sz) := by
  refine xx_met (Qf := fun A => va_Qi Q (xAt D (wR ca ad) A) A) (by decide) (Nat.le_of_ble_eq_true rfl) ?_
  intro p e s m args below meth c A ls hx hb hr hw hown hlocks hml hK hN hA hP hD hS hl
  have hown : s.vm.findClass "TrainGuardModel" = some m.cls := hown
  have hl : lv_has ls 6 [(0, .double x1), (2, .double x2), (4, .double x3)] := hl
  unfold w_R_between at h
  have hH9 : ∀ H : Heap, H = s.heap → va_P D cls (wR ca ad S) H → va_S A s.heap H [] → W p l e ({ frames := 0, cells := 0, slots := 0, locals := 0 } : Room) s m args below meth c H [] 0 0 (MQ below ((fun A => va_Qi Q (xAt D (wR ca ad) A) A) A) args s 0 0 A) (F0 m 0 ls []) := by
    clear hP hS
    intro H hH hP hS
    obtain ⟨locs, hlo⟩ : ∃ z : List Loc, z = [] := ⟨_, rfl⟩
    rw [← hlo] at hS ⊢
    refine lv_dload_n hx hb d_R_between_0 rfl (lv_at hl 0 rfl) ?_
    refine lv_dload_n hx hb d_R_between_1 rfl (lv_at hl 1 rfl) ?_
    refine lv_dcmp hx hb d_R_between_2 ?_
    refine lv_if_lt (tgt := 17) hx hb d_R_between_3 (by decide) (fun hc => ?_) (fun hc => ?_)
    · replace h := h.1 hc
      refine lv_iconst (v := 0) hx hb d_R_between_17 (by decide) ?_
      exact W.zret (v := 0) hx hb hr rfl (fun t ht hW => ⟨⟨0, S, rfl, h, by rw [ht]; exact hP, hD⟩, hS.F ht⟩) hS.2.2 d_R_between_18
    · replace h := h.2 hc
      refine lv_dload_n hx hb d_R_between_6 rfl (lv_at hl 0 rfl) ?_
      refine lv_dload hx hb d_R_between_7 (lv_at hl 2 rfl) ?_
      refine lv_dcmp hx hb d_R_between_9 ?_
      refine lv_if_gt (tgt := 17) hx hb d_R_between_10 (by decide) (fun hc => ?_) (fun hc => ?_)
      · replace h := h.1 hc
        refine lv_iconst (v := 0) hx hb d_R_between_17 (by decide) ?_
        exact W.zret (v := 0) hx hb hr rfl (fun t ht hW => ⟨⟨0, S, rfl, h, by rw [ht]; exact hP, hD⟩, hS.F ht⟩) hS.2.2 d_R_between_18
      · replace h := h.2 hc
        refine lv_iconst (v := 1) hx hb d_R_between_13 (by decide) ?_
        refine lv_goto (tgt := 18) hx hb d_R_between_14 (by decide) ?_
        exact W.zret (v := 1) hx hb hr rfl (fun t ht hW => ⟨⟨1, S, rfl, h, by rw [ht]; exact hP, hD⟩, hS.F ht⟩) hS.2.2 d_R_between_18
  exact hH9 _ rfl hP hS
theorem d_R_noTrain_0 : decode b_R_noTrain 0 = .ok (.iload_n 1, 1) := by decide +kernel
theorem d_R_noTrain_1 : decode b_R_noTrain 1 = .ok (.iconst 0, 1) := by decide +kernel
theorem d_R_noTrain_2 : decode b_R_noTrain 2 = .ok (.aload_n 0, 1) := by decide +kernel
theorem d_R_noTrain_3 : decode b_R_noTrain 3 = .ok (.getfield 72, 3) := by decide +kernel
theorem d_R_noTrain_6 : decode b_R_noTrain 6 = .ok (.iconst 1, 1) := by decide +kernel
theorem d_R_noTrain_7 : decode b_R_noTrain 7 = .ok (.isub, 1) := by decide +kernel
theorem d_R_noTrain_8 : decode b_R_noTrain 8 = .ok (.invokestatic 75, 3) := by decide +kernel
theorem d_R_noTrain_11 : decode b_R_noTrain 11 = .ok (.ifCond .ne 7, 3) := by decide +kernel
theorem d_R_noTrain_14 : decode b_R_noTrain 14 = .ok (.iconst 1, 1) := by decide +kernel
theorem d_R_noTrain_15 : decode b_R_noTrain 15 = .ok (.goto 4, 3) := by decide +kernel
theorem d_R_noTrain_18 : decode b_R_noTrain 18 = .ok (.iconst 0, 1) := by decide +kernel
theorem d_R_noTrain_19 : decode b_R_noTrain 19 = .ok (.ireturn, 1) := by decide +kernel
theorem gl_R_75 : ∀ w ∈ wsS "TrainGuardModel" 75 y_R_in (Cond.code y_R_in b_R_in 3 (some Jvm.ClassFile.FieldType.boolean) :: tG), w ∈ tG := by
  intro x hx
  simp only [wsS, List.cons_append, List.nil_append, List.mem_cons] at hx
  rcases hx with rfl | rfl | rfl | rfl | hx
  · exact wd_704
  · exact wd_705
  · exact wd_5
  · exact wd_706
  · exact hx
def w_R_noTrain (S : SR) (x1 : Int32) (Q : Int32 → SR → Prop) : Prop := ∀ a1 : Int32, a1 = (S.1 3 0) - 1 → (w_R_in S x1 0 a1 (fun r2 S3 => ((¬ r2 = 0) → (Q 0 S3)) ∧ ((r2 = 0) → (Q 1 S3))))
set_option maxRecDepth 100000 in
set_option maxHeartbeats 4000000 in
theorem c_R_noTrain (l : Launch) (D : va_G) (ca : Nat → ClassId) (ad : Nat → Nat) (sz : Nat) (S : SR) (x1 : Int32)  (Q : Int32 → SR → Prop) (h : w_R_noTrain S x1 Q) : Met l y_R_noTrain (Cond.code y_R_noTrain b_R_noTrain 2 (some Jvm.ClassFile.FieldType.boolean) :: tG) ({ frames := 1, cells := 0, slots := 0, locals := 22 } : Room) (xPc D ca (wR ca ad) S sz [.ref (ad 0), .int x1]) (va_Qi Q (xAt D (wR ca ad) (va_A (wR ca ad S) sz)) (va_A (wR ca ad S) sz)) 0 0 (va_A (wR ca ad S) sz) := by
  refine xx_met (Qf := fun A => va_Qi Q (xAt D (wR ca ad) A) A) (by decide) (Nat.le_of_ble_eq_true rfl) ?_
  intro p e s m args below meth c A ls hx hb hr hw hown hlocks hml hK hN hA hP hD hS hl
  have hown : s.vm.findClass "TrainGuardModel" = some m.cls := hown
  have hl : lv_has ls 2 [(0, .ref (ad 0)), (1, .int x1)] := hl
  unfold w_R_noTrain at h
  have hH9 : ∀ H : Heap, H = s.heap → va_P D cls (wR ca ad S) H → va_S A s.heap H [] → W p l e ({ frames := 1, cells := 0, slots := 0, locals := 22 } : Room) s m args below meth c H [] 0 0 (MQ below ((fun A => va_Qi Q (xAt D (wR ca ad) A) A) A) args s 0 0 A) (F0 m 0 ls []) := by
    clear hP hS
    intro H hH hP hS
    obtain ⟨locs, hlo⟩ : ∃ z : List Loc, z = [] := ⟨_, rfl⟩
    rw [← hlo] at hS ⊢
    refine lv_iload_n hx hb d_R_noTrain_0 rfl (lv_at hl 1 rfl) ?_
    refine lv_iconst (v := 0) hx hb d_R_noTrain_1 (by decide) ?_
    refine lv_aload_n hx hb d_R_noTrain_2 rfl (lv_at hl 0 rfl) ?_
    refine va_get (D := D) (ci := 4) (v := .int (S.1 3 0)) (C := Rc_R) (T := Fc_R) (N := 25) hx hb hw inc_R hown hK hP 0 rfl rfl 9 (by decide) (hw _ wd_600) (fun _ h9 => h9) rfl d_R_noTrain_3 ?_
    refine lv_iconst (v := 1) hx hb d_R_noTrain_6 (by decide) ?_
    refine lv_isub hx hb d_R_noTrain_7 ?_
    refine lv_topi (fun a1 e_a1 => ?_)
    replace h := h a1 e_a1
    refine xx_calli (va_runS (As := [.int x1, .int 0, .int a1]) (rest := []) ⟨hx, hb, hml, hown, hw⟩ (c_R_in l D ca ad H.size S x1 0 a1 _ h) (cwS 3 hw (tG_g gl_R_75) rfl rfl rfl (by decide +kernel) ⟨Nat.le_of_ble_eq_true rfl, Nat.le_of_ble_eq_true rfl⟩) ⟨xPc.blind, xPc.pre hK hN hP hD⟩ rfl rfl hl.1 rfl (lv_room (Nat.le_of_ble_eq_true rfl)) d_R_noTrain_8 ⟨Nat.le_of_ble_eq_true rfl, Nat.le_of_ble_eq_true rfl⟩) hD hS hA (fun r2 S3 H locs h hP hD hS => ?_)
    refine lv_if_ne (tgt := 18) hx hb d_R_noTrain_11 (by decide) (fun hc => ?_) (fun hc => ?_)
    · replace h := h.1 hc
      refine lv_iconst (v := 0) hx hb d_R_noTrain_18 (by decide) ?_
      exact W.zret (v := 0) hx hb hr rfl (fun t ht hW => ⟨⟨0, S3, rfl, h, by rw [ht]; exact hP, hD⟩, hS.F ht⟩) hS.2.2 d_R_noTrain_19
    · replace h := h.2 hc
      refine lv_iconst (v := 1) hx hb d_R_noTrain_14 (by decide) ?_
      refine lv_goto (tgt := 19) hx hb d_R_noTrain_15 (by decide) ?_
      exact W.zret (v := 1) hx hb hr rfl (fun t ht hW => ⟨⟨1, S3, rfl, h, by rw [ht]; exact hP, hD⟩, hS.F ht⟩) hS.2.2 d_R_noTrain_19
  exact hH9 _ rfl hP hS
theorem d_R_noSection_0 : decode b_R_noSection 0 = .ok (.iload_n 1, 1) := by decide +kernel
theorem d_R_noSection_1 : decode b_R_noSection 1 = .ok (.iconst 0, 1) := by decide +kernel
theorem d_R_noSection_2 : decode b_R_noSection 2 = .ok (.aload_n 0, 1) := by decide +kernel
theorem d_R_noSection_3 : decode b_R_noSection 3 = .ok (.getfield 79, 3) := by decide +kernel
theorem d_R_noSection_6 : decode b_R_noSection 6 = .ok (.iconst 1, 1) := by decide +kernel
theorem d_R_noSection_7 : decode b_R_noSection 7 = .ok (.isub, 1) := by decide +kernel
theorem d_R_noSection_8 : decode b_R_noSection 8 = .ok (.invokestatic 75, 3) := by decide +kernel
theorem d_R_noSection_11 : decode b_R_noSection 11 = .ok (.ifCond .ne 7, 3) := by decide +kernel
theorem d_R_noSection_14 : decode b_R_noSection 14 = .ok (.iconst 1, 1) := by decide +kernel
theorem d_R_noSection_15 : decode b_R_noSection 15 = .ok (.goto 4, 3) := by decide +kernel
theorem d_R_noSection_18 : decode b_R_noSection 18 = .ok (.iconst 0, 1) := by decide +kernel
theorem d_R_noSection_19 : decode b_R_noSection 19 = .ok (.ireturn, 1) := by decide +kernel
def w_R_noSection (S : SR) (x1 : Int32) (Q : Int32 → SR → Prop) : Prop := ∀ a1 : Int32, a1 = (S.1 1 0) - 1 → (w_R_in S x1 0 a1 (fun r2 S3 => ((¬ r2 = 0) → (Q 0 S3)) ∧ ((r2 = 0) → (Q 1 S3))))
set_option maxRecDepth 100000 in
set_option maxHeartbeats 4000000 in
theorem c_R_noSection (l : Launch) (D : va_G) (ca : Nat → ClassId) (ad : Nat → Nat) (sz : Nat) (S : SR) (x1 : Int32)  (Q : Int32 → SR → Prop) (h : w_R_noSection S x1 Q) : Met l y_R_noSection (Cond.code y_R_noSection b_R_noSection 2 (some Jvm.ClassFile.FieldType.boolean) :: tG) ({ frames := 1, cells := 0, slots := 0, locals := 22 } : Room) (xPc D ca (wR ca ad) S sz [.ref (ad 0), .int x1]) (va_Qi Q (xAt D (wR ca ad) (va_A (wR ca ad S) sz)) (va_A (wR ca ad S) sz)) 0 0 (va_A (wR ca ad S) sz) := by
  refine xx_met (Qf := fun A => va_Qi Q (xAt D (wR ca ad) A) A) (by decide) (Nat.le_of_ble_eq_true rfl) ?_
  intro p e s m args below meth c A ls hx hb hr hw hown hlocks hml hK hN hA hP hD hS hl
  have hown : s.vm.findClass "TrainGuardModel" = some m.cls := hown
  have hl : lv_has ls 2 [(0, .ref (ad 0)), (1, .int x1)] := hl
  unfold w_R_noSection at h
  have hH9 : ∀ H : Heap, H = s.heap → va_P D cls (wR ca ad S) H → va_S A s.heap H [] → W p l e ({ frames := 1, cells := 0, slots := 0, locals := 22 } : Room) s m args below meth c H [] 0 0 (MQ below ((fun A => va_Qi Q (xAt D (wR ca ad) A) A) A) args s 0 0 A) (F0 m 0 ls []) := by
    clear hP hS
    intro H hH hP hS
    obtain ⟨locs, hlo⟩ : ∃ z : List Loc, z = [] := ⟨_, rfl⟩
    rw [← hlo] at hS ⊢
    refine lv_iload_n hx hb d_R_noSection_0 rfl (lv_at hl 1 rfl) ?_
    refine lv_iconst (v := 0) hx hb d_R_noSection_1 (by decide) ?_
    refine lv_aload_n hx hb d_R_noSection_2 rfl (lv_at hl 0 rfl) ?_
    refine va_get (D := D) (ci := 4) (v := .int (S.1 1 0)) (C := Rc_R) (T := Fc_R) (N := 25) hx hb hw inc_R hown hK hP 0 rfl rfl 1 (by decide) (hw _ wd_592) (fun _ h9 => h9) rfl d_R_noSection_3 ?_
    refine lv_iconst (v := 1) hx hb d_R_noSection_6 (by decide) ?_
    refine lv_isub hx hb d_R_noSection_7 ?_
    refine lv_topi (fun a1 e_a1 => ?_)
    replace h := h a1 e_a1
    refine xx_calli (va_runS (As := [.int x1, .int 0, .int a1]) (rest := []) ⟨hx, hb, hml, hown, hw⟩ (c_R_in l D ca ad H.size S x1 0 a1 _ h) (cwS 3 hw (tG_g gl_R_75) rfl rfl rfl (by decide +kernel) ⟨Nat.le_of_ble_eq_true rfl, Nat.le_of_ble_eq_true rfl⟩) ⟨xPc.blind, xPc.pre hK hN hP hD⟩ rfl rfl hl.1 rfl (lv_room (Nat.le_of_ble_eq_true rfl)) d_R_noSection_8 ⟨Nat.le_of_ble_eq_true rfl, Nat.le_of_ble_eq_true rfl⟩) hD hS hA (fun r2 S3 H locs h hP hD hS => ?_)
    refine lv_if_ne (tgt := 18) hx hb d_R_noSection_11 (by decide) (fun hc => ?_) (fun hc => ?_)
    · replace h := h.1 hc
      refine lv_iconst (v := 0) hx hb d_R_noSection_18 (by decide) ?_
      exact W.zret (v := 0) hx hb hr rfl (fun t ht hW => ⟨⟨0, S3, rfl, h, by rw [ht]; exact hP, hD⟩, hS.F ht⟩) hS.2.2 d_R_noSection_19
    · replace h := h.2 hc
      refine lv_iconst (v := 1) hx hb d_R_noSection_14 (by decide) ?_
      refine lv_goto (tgt := 19) hx hb d_R_noSection_15 (by decide) ?_
      exact W.zret (v := 1) hx hb hr rfl (fun t ht hW => ⟨⟨1, S3, rfl, h, by rw [ht]; exact hP, hD⟩, hS.F ht⟩) hS.2.2 d_R_noSection_19
  exact hH9 _ rfl hP hS
theorem d_R_lineEnd_0 : decode b_R_lineEnd 0 = .ok (.aload_n 0, 1) := by decide +kernel
theorem d_R_lineEnd_1 : decode b_R_lineEnd 1 = .ok (.getfield 7, 3) := by decide +kernel
theorem d_R_lineEnd_4 : decode b_R_lineEnd 4 = .ok (.aload_n 0, 1) := by decide +kernel
theorem d_R_lineEnd_5 : decode b_R_lineEnd 5 = .ok (.getfield 79, 3) := by decide +kernel
theorem d_R_lineEnd_8 : decode b_R_lineEnd 8 = .ok (.laload, 1) := by decide +kernel
theorem d_R_lineEnd_9 : decode b_R_lineEnd 9 = .ok (.lreturn, 1) := by decide +kernel
def w_R_lineEnd (S : SR) (Q : Int64 → SR → Prop) : Prop := vp_in (S.1 1 0) 11 ∧ (Q (S.2 0 (S.1 1 0).toNatClampNeg) S)
set_option maxRecDepth 100000 in
set_option maxHeartbeats 4000000 in
theorem c_R_lineEnd (l : Launch) (D : va_G) (ca : Nat → ClassId) (ad : Nat → Nat) (sz : Nat) (S : SR)   (Q : Int64 → SR → Prop) (h : w_R_lineEnd S  Q) : Met l y_R_lineEnd (Cond.code y_R_lineEnd b_R_lineEnd 1 (some Jvm.ClassFile.FieldType.long) :: tG) ({ frames := 0, cells := 0, slots := 0, locals := 0 } : Room) (xPc D ca (wR ca ad) S sz [.ref (ad 0)]) (va_Ql Q (xAt D (wR ca ad) (va_A (wR ca ad S) sz)) (va_A (wR ca ad S) sz)) 0 0 (va_A (wR ca ad S) sz) := by
  refine xx_met (Qf := fun A => va_Ql Q (xAt D (wR ca ad) A) A) (by decide) (Nat.le_of_ble_eq_true rfl) ?_
  intro p e s m args below meth c A ls hx hb hr hw hown hlocks hml hK hN hA hP hD hS hl
  have hown : s.vm.findClass "TrainGuardModel" = some m.cls := hown
  have hl : lv_has ls 1 [(0, .ref (ad 0))] := hl
  unfold w_R_lineEnd at h
  have hH9 : ∀ H : Heap, H = s.heap → va_P D cls (wR ca ad S) H → va_S A s.heap H [] → W p l e ({ frames := 0, cells := 0, slots := 0, locals := 0 } : Room) s m args below meth c H [] 0 0 (MQ below ((fun A => va_Ql Q (xAt D (wR ca ad) A) A) A) args s 0 0 A) (F0 m 0 ls []) := by
    clear hP hS
    intro H hH hP hS
    obtain ⟨locs, hlo⟩ : ∃ z : List Loc, z = [] := ⟨_, rfl⟩
    rw [← hlo] at hS ⊢
    refine lv_aload_n hx hb d_R_lineEnd_0 rfl (lv_at hl 0 rfl) ?_
    refine va_get (D := D) (ci := 4) (v := .ref (ad 1)) (C := Rc_R) (T := Fc_R) (N := 25) hx hb hw inc_R hown hK hP 0 rfl rfl 2 (by decide) (hw _ wd_593) (fun _ h9 => h9) rfl d_R_lineEnd_1 ?_
    refine lv_aload_n hx hb d_R_lineEnd_4 rfl (lv_at hl 0 rfl) ?_
    refine va_get (D := D) (ci := 4) (v := .int (S.1 1 0)) (C := Rc_R) (T := Fc_R) (N := 25) hx hb hw inc_R hown hK hP 0 rfl rfl 1 (by decide) (hw _ wd_592) (fun _ h9 => h9) rfl d_R_lineEnd_5 ?_
    obtain ⟨hq, h⟩ := h
    refine va_lald (D := D) hx hb hK hP 1 1 rfl rfl hq d_R_lineEnd_8 ?_
    exact W.lret (v := (S.2 0 (S.1 1 0).toNatClampNeg)) hx hb hr (fun t ht hW => ⟨⟨S.2 0 (S.1 1 0).toNatClampNeg, S, rfl, h, by rw [ht]; exact hP, hD⟩, hS.F ht⟩) hS.2.2 d_R_lineEnd_9
  exact hH9 _ rfl hP hS
theorem d_R_sectionAt_0 : decode b_R_sectionAt 0 = .ok (.iconst 0, 1) := by decide +kernel
theorem d_R_sectionAt_1 : decode b_R_sectionAt 1 = .ok (.istore_n 3, 1) := by decide +kernel
theorem d_R_sectionAt_2 : decode b_R_sectionAt 2 = .ok (.iload_n 3, 1) := by decide +kernel
theorem d_R_sectionAt_3 : decode b_R_sectionAt 3 = .ok (.aload_n 0, 1) := by decide +kernel
theorem d_R_sectionAt_4 : decode b_R_sectionAt 4 = .ok (.getfield 79, 3) := by decide +kernel
theorem d_R_sectionAt_7 : decode b_R_sectionAt 7 = .ok (.if_icmp .ge 35, 3) := by decide +kernel
theorem d_R_sectionAt_10 : decode b_R_sectionAt 10 = .ok (.aload_n 0, 1) := by decide +kernel
theorem d_R_sectionAt_11 : decode b_R_sectionAt 11 = .ok (.getfield 7, 3) := by decide +kernel
theorem d_R_sectionAt_14 : decode b_R_sectionAt 14 = .ok (.iload_n 3, 1) := by decide +kernel
theorem d_R_sectionAt_15 : decode b_R_sectionAt 15 = .ok (.laload, 1) := by decide +kernel
theorem d_R_sectionAt_16 : decode b_R_sectionAt 16 = .ok (.lload_n 1, 1) := by decide +kernel
theorem d_R_sectionAt_17 : decode b_R_sectionAt 17 = .ok (.lcmp, 1) := by decide +kernel
theorem d_R_sectionAt_18 : decode b_R_sectionAt 18 = .ok (.ifCond .gt 18, 3) := by decide +kernel
theorem d_R_sectionAt_21 : decode b_R_sectionAt 21 = .ok (.lload_n 1, 1) := by decide +kernel
theorem d_R_sectionAt_22 : decode b_R_sectionAt 22 = .ok (.aload_n 0, 1) := by decide +kernel
theorem d_R_sectionAt_23 : decode b_R_sectionAt 23 = .ok (.getfield 7, 3) := by decide +kernel
theorem d_R_sectionAt_26 : decode b_R_sectionAt 26 = .ok (.iload_n 3, 1) := by decide +kernel
theorem d_R_sectionAt_27 : decode b_R_sectionAt 27 = .ok (.iconst 1, 1) := by decide +kernel
theorem d_R_sectionAt_28 : decode b_R_sectionAt 28 = .ok (.iadd, 1) := by decide +kernel
theorem d_R_sectionAt_29 : decode b_R_sectionAt 29 = .ok (.laload, 1) := by decide +kernel
theorem d_R_sectionAt_30 : decode b_R_sectionAt 30 = .ok (.lcmp, 1) := by decide +kernel
theorem d_R_sectionAt_31 : decode b_R_sectionAt 31 = .ok (.ifCond .ge 5, 3) := by decide +kernel
theorem d_R_sectionAt_34 : decode b_R_sectionAt 34 = .ok (.iload_n 3, 1) := by decide +kernel
theorem d_R_sectionAt_35 : decode b_R_sectionAt 35 = .ok (.ireturn, 1) := by decide +kernel
theorem d_R_sectionAt_36 : decode b_R_sectionAt 36 = .ok (.iinc 3 1, 3) := by decide +kernel
theorem d_R_sectionAt_39 : decode b_R_sectionAt 39 = .ok (.goto (-37), 3) := by decide +kernel
theorem d_R_sectionAt_42 : decode b_R_sectionAt 42 = .ok (.aload_n 0, 1) := by decide +kernel
theorem d_R_sectionAt_43 : decode b_R_sectionAt 43 = .ok (.getfield 79, 3) := by decide +kernel
theorem d_R_sectionAt_46 : decode b_R_sectionAt 46 = .ok (.iconst 1, 1) := by decide +kernel
theorem d_R_sectionAt_47 : decode b_R_sectionAt 47 = .ok (.isub, 1) := by decide +kernel
theorem d_R_sectionAt_48 : decode b_R_sectionAt 48 = .ok (.ireturn, 1) := by decide +kernel
def w_R_sectionAt_36 (K2 : SR → Int64 → Int32 → Prop) (S : SR) (y1 : Int64) (y3 : Int32) (Q : Int32 → SR → Prop) : Prop := K2 S y1 (y3 + 1)
def w_R_sectionAt_2 : Nat → SR → Int64 → Int32 → (Int32 → SR → Prop) → Prop
  | 0 => fun _ _ _ _ => False
  | n + 1 => fun S y1 y3 Q => ((((S.1 1 0) ≤ y3) → (∀ a1 : Int32, a1 = (S.1 1 0) - 1 → (Q a1 S))) ∧ ((¬ (S.1 1 0) ≤ y3) → (vp_in y3 11 ∧ (((0 < (lg_cmp (S.2 0 y3.toNatClampNeg) y1)) → (w_R_sectionAt_36 (fun S9 z0 z1 => w_R_sectionAt_2 n S9 z0 z1 Q) S y1 y3 Q)) ∧ ((¬ 0 < (lg_cmp (S.2 0 y3.toNatClampNeg) y1)) → (∀ a2 : Int32, a2 = y3 + 1 → (vp_in a2 11 ∧ (((0 ≤ (lg_cmp y1 (S.2 0 a2.toNatClampNeg))) → (w_R_sectionAt_36 (fun S9 z0 z1 => w_R_sectionAt_2 n S9 z0 z1 Q) S y1 y3 Q)) ∧ ((¬ 0 ≤ (lg_cmp y1 (S.2 0 a2.toNatClampNeg))) → (Q y3 S))))))))))
def w_R_sectionAt (S : SR) (x1 : Int64) (Q : Int32 → SR → Prop) : Prop := ∃ n : Nat, w_R_sectionAt_2 n S x1 0 Q
set_option maxRecDepth 100000 in
set_option maxHeartbeats 4000000 in
theorem c_R_sectionAt (l : Launch) (D : va_G) (ca : Nat → ClassId) (ad : Nat → Nat) (sz : Nat) (S : SR) (x1 : Int64)  (Q : Int32 → SR → Prop) (h : w_R_sectionAt S x1 Q) : Met l y_R_sectionAt (Cond.code y_R_sectionAt b_R_sectionAt 4 (some Jvm.ClassFile.FieldType.int) :: tG) ({ frames := 0, cells := 0, slots := 0, locals := 0 } : Room) (xPc D ca (wR ca ad) S sz [.ref (ad 0), .long x1]) (va_Qi Q (xAt D (wR ca ad) (va_A (wR ca ad S) sz)) (va_A (wR ca ad S) sz)) 0 0 (va_A (wR ca ad S) sz) := by
  refine xx_met (Qf := fun A => va_Qi Q (xAt D (wR ca ad) A) A) (by decide) (Nat.le_of_ble_eq_true rfl) ?_
  intro p e s m args below meth c A ls hx hb hr hw hown hlocks hml hK hN hA hP hD hS hl
  have hown : s.vm.findClass "TrainGuardModel" = some m.cls := hown
  have hl : lv_has ls 4 [(0, .ref (ad 0)), (1, .long x1)] := hl
  unfold w_R_sectionAt at h
  have bk_36 : ∀ (K2 : SR → Int64 → Int32 → Prop) (hK2 : ∀ (S : SR) (y1 : Int64) (y3 : Int32) (H : Heap) (locs : List Loc) , va_P D cls (wR ca ad S) H → va_D A (wR ca ad S) → va_S A s.heap H locs → ∀ (ls : Array Slot), lv_has ls 4 [(0, .ref (ad 0)), (1, .long y1), (3, .int y3)] → K2 S y1 y3 → W p l e ({ frames := 0, cells := 0, slots := 0, locals := 0 } : Room) s m args below meth c H locs 0 0 (MQ below ((fun A => va_Qi Q (xAt D (wR ca ad) A) A) A) args s 0 0 A) (F0 m 2 ls [])) (S : SR) (y1 : Int64) (y3 : Int32) (H : Heap) (locs : List Loc) , va_P D cls (wR ca ad S) H → va_D A (wR ca ad S) → va_S A s.heap H locs → ∀ (ls : Array Slot), lv_has ls 4 [(0, .ref (ad 0)), (1, .long y1), (3, .int y3)] → w_R_sectionAt_36 K2 S y1 y3 Q → W p l e ({ frames := 0, cells := 0, slots := 0, locals := 0 } : Room) s m args below meth c H locs 0 0 (MQ below ((fun A => va_Qi Q (xAt D (wR ca ad) A) A) A) args s 0 0 A) (F0 m 36 ls []) := by
    intro K2 hK2 S y1 y3 H locs hP hD hS ls hl h
    unfold w_R_sectionAt_36 at h
    refine lv_iinc (v := (y3 + 1)) (lv' := [(3, .int (y3 + 1)), (0, .ref (ad 0)), (1, .long y1)]) hx hb d_R_sectionAt_36 hl (k := 2) rfl rfl (by decide) rfl (fun ls hl => ?_)
    refine lv_goto (tgt := 2) hx hb d_R_sectionAt_39 (by decide) ?_
    exact hK2 S y1 (y3 + 1) H locs hP hD hS ls (lv_sub hl [1, 2, 0] rfl) h
  have bk_2 : ∀ (n9 : Nat) (S : SR) (y1 : Int64) (y3 : Int32) (H : Heap) (locs : List Loc) , va_P D cls (wR ca ad S) H → va_D A (wR ca ad S) → va_S A s.heap H locs → ∀ (ls : Array Slot), lv_has ls 4 [(0, .ref (ad 0)), (1, .long y1), (3, .int y3)] → w_R_sectionAt_2 n9 S y1 y3 Q → W p l e ({ frames := 0, cells := 0, slots := 0, locals := 0 } : Room) s m args below meth c H locs 0 0 (MQ below ((fun A => va_Qi Q (xAt D (wR ca ad) A) A) A) args s 0 0 A) (F0 m 2 ls []) := by
    intro n9
    induction n9 with
    | zero => intro S y1 y3 H locs hP hD hS ls hl h; exact absurd h id
    | succ n9 hK2 =>
      intro S y1 y3 H locs hP hD hS ls hl h
      replace h : (((S.1 1 0) ≤ y3) → (∀ a1 : Int32, a1 = (S.1 1 0) - 1 → (Q a1 S))) ∧ ((¬ (S.1 1 0) ≤ y3) → (vp_in y3 11 ∧ (((0 < (lg_cmp (S.2 0 y3.toNatClampNeg) y1)) → (w_R_sectionAt_36 (fun S9 z0 z1 => w_R_sectionAt_2 n9 S9 z0 z1 Q) S y1 y3 Q)) ∧ ((¬ 0 < (lg_cmp (S.2 0 y3.toNatClampNeg) y1)) → (∀ a2 : Int32, a2 = y3 + 1 → (vp_in a2 11 ∧ (((0 ≤ (lg_cmp y1 (S.2 0 a2.toNatClampNeg))) → (w_R_sectionAt_36 (fun S9 z0 z1 => w_R_sectionAt_2 n9 S9 z0 z1 Q) S y1 y3 Q)) ∧ ((¬ 0 ≤ (lg_cmp y1 (S.2 0 a2.toNatClampNeg))) → (Q y3 S))))))))) := h
      refine lv_iload_n hx hb d_R_sectionAt_2 rfl (lv_at hl 2 rfl) ?_
      refine lv_aload_n hx hb d_R_sectionAt_3 rfl (lv_at hl 0 rfl) ?_
      refine va_get (D := D) (ci := 4) (v := .int (S.1 1 0)) (C := Rc_R) (T := Fc_R) (N := 25) hx hb hw inc_R hown hK hP 0 rfl rfl 1 (by decide) (hw _ wd_592) (fun _ h9 => h9) rfl d_R_sectionAt_4 ?_
      refine lv_icmp_ge (tgt := 42) hx hb d_R_sectionAt_7 (by decide) (fun hc => ?_) (fun hc => ?_)
      · replace h := h.1 hc
        refine lv_aload_n hx hb d_R_sectionAt_42 rfl (lv_at hl 0 rfl) ?_
        refine va_get (D := D) (ci := 4) (v := .int (S.1 1 0)) (C := Rc_R) (T := Fc_R) (N := 25) hx hb hw inc_R hown hK hP 0 rfl rfl 1 (by decide) (hw _ wd_592) (fun _ h9 => h9) rfl d_R_sectionAt_43 ?_
        refine lv_iconst (v := 1) hx hb d_R_sectionAt_46 (by decide) ?_
        refine lv_isub hx hb d_R_sectionAt_47 ?_
        refine lv_topi (fun a1 e_a1 => ?_)
        replace h := h a1 e_a1
        exact W.iret (v := a1) hx hb hr (fun t ht hW => ⟨⟨a1, S, rfl, h, by rw [ht]; exact hP, hD⟩, hS.F ht⟩) hS.2.2 d_R_sectionAt_48
      · replace h := h.2 hc
        refine lv_aload_n hx hb d_R_sectionAt_10 rfl (lv_at hl 0 rfl) ?_
        refine va_get (D := D) (ci := 4) (v := .ref (ad 1)) (C := Rc_R) (T := Fc_R) (N := 25) hx hb hw inc_R hown hK hP 0 rfl rfl 2 (by decide) (hw _ wd_593) (fun _ h9 => h9) rfl d_R_sectionAt_11 ?_
        refine lv_iload_n hx hb d_R_sectionAt_14 rfl (lv_at hl 2 rfl) ?_
        obtain ⟨hq, h⟩ := h
        refine va_lald (D := D) hx hb hK hP 1 1 rfl rfl hq d_R_sectionAt_15 ?_
        refine lv_lload_n hx hb d_R_sectionAt_16 rfl (lv_at hl 1 rfl) ?_
        refine W.lcmp hx hb d_R_sectionAt_17 ?_
        refine lv_if_gt (tgt := 36) hx hb d_R_sectionAt_18 (by decide) (fun hc => ?_) (fun hc => ?_)
        · replace h := h.1 hc
          exact bk_36 (fun S9 z0 z1 => w_R_sectionAt_2 n9 S9 z0 z1 Q) hK2 S y1 y3 H locs hP hD hS ls (lv_sub hl [0, 1, 2] rfl) h
        · replace h := h.2 hc
          refine lv_lload_n hx hb d_R_sectionAt_21 rfl (lv_at hl 1 rfl) ?_
          refine lv_aload_n hx hb d_R_sectionAt_22 rfl (lv_at hl 0 rfl) ?_
          refine va_get (D := D) (ci := 4) (v := .ref (ad 1)) (C := Rc_R) (T := Fc_R) (N := 25) hx hb hw inc_R hown hK hP 0 rfl rfl 2 (by decide) (hw _ wd_593) (fun _ h9 => h9) rfl d_R_sectionAt_23 ?_
          refine lv_iload_n hx hb d_R_sectionAt_26 rfl (lv_at hl 2 rfl) ?_
          refine lv_iconst (v := 1) hx hb d_R_sectionAt_27 (by decide) ?_
          refine lv_iadd hx hb d_R_sectionAt_28 ?_
          refine lv_topi (fun a2 e_a2 => ?_)
          replace h := h a2 e_a2
          obtain ⟨hq, h⟩ := h
          refine va_lald (D := D) hx hb hK hP 1 1 rfl rfl hq d_R_sectionAt_29 ?_
          refine W.lcmp hx hb d_R_sectionAt_30 ?_
          refine lv_if_ge (tgt := 36) hx hb d_R_sectionAt_31 (by decide) (fun hc => ?_) (fun hc => ?_)
          · replace h := h.1 hc
            exact bk_36 (fun S9 z0 z1 => w_R_sectionAt_2 n9 S9 z0 z1 Q) hK2 S y1 y3 H locs hP hD hS ls (lv_sub hl [0, 1, 2] rfl) h
          · replace h := h.2 hc
            refine lv_iload_n hx hb d_R_sectionAt_34 rfl (lv_at hl 2 rfl) ?_
            exact W.iret (v := y3) hx hb hr (fun t ht hW => ⟨⟨y3, S, rfl, h, by rw [ht]; exact hP, hD⟩, hS.F ht⟩) hS.2.2 d_R_sectionAt_35
  have hH9 : ∀ H : Heap, H = s.heap → va_P D cls (wR ca ad S) H → va_S A s.heap H [] → W p l e ({ frames := 0, cells := 0, slots := 0, locals := 0 } : Room) s m args below meth c H [] 0 0 (MQ below ((fun A => va_Qi Q (xAt D (wR ca ad) A) A) A) args s 0 0 A) (F0 m 0 ls []) := by
    clear hP hS
    intro H hH hP hS
    obtain ⟨locs, hlo⟩ : ∃ z : List Loc, z = [] := ⟨_, rfl⟩
    rw [← hlo] at hS ⊢
    refine lv_iconst (v := 0) hx hb d_R_sectionAt_0 (by decide) ?_
    refine lv_istore_n (lv' := [(3, .int 0), (0, .ref (ad 0)), (1, .long x1)]) hx hb d_R_sectionAt_1 rfl hl (by decide) rfl (fun ls hl => ?_)
    obtain ⟨n9, h⟩ := h
    exact bk_2 n9 S x1 0 H locs hP hD hS ls (lv_sub hl [1, 2, 0] rfl) h
  exact hH9 _ rfl hP hS
theorem d_R_limitAt_0 : decode b_R_limitAt 0 = .ok (.aload_n 0, 1) := by decide +kernel
theorem d_R_limitAt_1 : decode b_R_limitAt 1 = .ok (.getfield 13, 3) := by decide +kernel
theorem d_R_limitAt_4 : decode b_R_limitAt 4 = .ok (.aload_n 0, 1) := by decide +kernel
theorem d_R_limitAt_5 : decode b_R_limitAt 5 = .ok (.lload_n 1, 1) := by decide +kernel
theorem d_R_limitAt_6 : decode b_R_limitAt 6 = .ok (.invokevirtual 82, 3) := by decide +kernel
theorem d_R_limitAt_9 : decode b_R_limitAt 9 = .ok (.laload, 1) := by decide +kernel
theorem d_R_limitAt_10 : decode b_R_limitAt 10 = .ok (.lstore_n 3, 1) := by decide +kernel
theorem d_R_limitAt_11 : decode b_R_limitAt 11 = .ok (.iconst 0, 1) := by decide +kernel
theorem d_R_limitAt_12 : decode b_R_limitAt 12 = .ok (.istore 5, 2) := by decide +kernel
theorem d_R_limitAt_14 : decode b_R_limitAt 14 = .ok (.iload 5, 2) := by decide +kernel
theorem d_R_limitAt_16 : decode b_R_limitAt 16 = .ok (.aload_n 0, 1) := by decide +kernel
theorem d_R_limitAt_17 : decode b_R_limitAt 17 = .ok (.getfield 86, 3) := by decide +kernel
theorem d_R_limitAt_20 : decode b_R_limitAt 20 = .ok (.if_icmp .ge 53, 3) := by decide +kernel
theorem d_R_limitAt_23 : decode b_R_limitAt 23 = .ok (.aload_n 0, 1) := by decide +kernel
theorem d_R_limitAt_24 : decode b_R_limitAt 24 = .ok (.getfield 20, 3) := by decide +kernel
theorem d_R_limitAt_27 : decode b_R_limitAt 27 = .ok (.iload 5, 2) := by decide +kernel
theorem d_R_limitAt_29 : decode b_R_limitAt 29 = .ok (.laload, 1) := by decide +kernel
theorem d_R_limitAt_30 : decode b_R_limitAt 30 = .ok (.lload_n 1, 1) := by decide +kernel
theorem d_R_limitAt_31 : decode b_R_limitAt 31 = .ok (.lcmp, 1) := by decide +kernel
theorem d_R_limitAt_32 : decode b_R_limitAt 32 = .ok (.ifCond .gt 35, 3) := by decide +kernel
theorem d_R_limitAt_35 : decode b_R_limitAt 35 = .ok (.lload_n 1, 1) := by decide +kernel
theorem d_R_limitAt_36 : decode b_R_limitAt 36 = .ok (.aload_n 0, 1) := by decide +kernel
theorem d_R_limitAt_37 : decode b_R_limitAt 37 = .ok (.getfield 23, 3) := by decide +kernel
theorem d_R_limitAt_40 : decode b_R_limitAt 40 = .ok (.iload 5, 2) := by decide +kernel
theorem d_R_limitAt_42 : decode b_R_limitAt 42 = .ok (.laload, 1) := by decide +kernel
theorem d_R_limitAt_43 : decode b_R_limitAt 43 = .ok (.lcmp, 1) := by decide +kernel
theorem d_R_limitAt_44 : decode b_R_limitAt 44 = .ok (.ifCond .ge 23, 3) := by decide +kernel
theorem d_R_limitAt_47 : decode b_R_limitAt 47 = .ok (.aload_n 0, 1) := by decide +kernel
theorem d_R_limitAt_48 : decode b_R_limitAt 48 = .ok (.getfield 26, 3) := by decide +kernel
theorem d_R_limitAt_51 : decode b_R_limitAt 51 = .ok (.iload 5, 2) := by decide +kernel
theorem d_R_limitAt_53 : decode b_R_limitAt 53 = .ok (.laload, 1) := by decide +kernel
theorem d_R_limitAt_54 : decode b_R_limitAt 54 = .ok (.lload_n 3, 1) := by decide +kernel
theorem d_R_limitAt_55 : decode b_R_limitAt 55 = .ok (.lcmp, 1) := by decide +kernel
theorem d_R_limitAt_56 : decode b_R_limitAt 56 = .ok (.ifCond .ge 11, 3) := by decide +kernel
theorem d_R_limitAt_59 : decode b_R_limitAt 59 = .ok (.aload_n 0, 1) := by decide +kernel
theorem d_R_limitAt_60 : decode b_R_limitAt 60 = .ok (.getfield 26, 3) := by decide +kernel
theorem d_R_limitAt_63 : decode b_R_limitAt 63 = .ok (.iload 5, 2) := by decide +kernel
theorem d_R_limitAt_65 : decode b_R_limitAt 65 = .ok (.laload, 1) := by decide +kernel
theorem d_R_limitAt_66 : decode b_R_limitAt 66 = .ok (.lstore_n 3, 1) := by decide +kernel
theorem d_R_limitAt_67 : decode b_R_limitAt 67 = .ok (.iinc 5 1, 3) := by decide +kernel
theorem d_R_limitAt_70 : decode b_R_limitAt 70 = .ok (.goto (-56), 3) := by decide +kernel
theorem d_R_limitAt_73 : decode b_R_limitAt 73 = .ok (.lload_n 3, 1) := by decide +kernel
theorem d_R_limitAt_74 : decode b_R_limitAt 74 = .ok (.lreturn, 1) := by decide +kernel
theorem gl_R_82 : ∀ w ∈ wsV "TrainGuardModel" 82 "TrainGuardModel" y_R_sectionAt (Cond.code y_R_sectionAt b_R_sectionAt 4 (some Jvm.ClassFile.FieldType.int) :: tG), w ∈ tG := by
  intro x hx
  simp only [wsV, List.cons_append, List.nil_append, List.mem_cons] at hx
  rcases hx with rfl | rfl | rfl | rfl | rfl | hx
  · exact wd_760
  · exact wd_762
  · exact ws_28
  · exact wd_5
  · exact wd_763
  · exact hx
def w_R_limitAt_67 (K14 : SR → Int64 → Int64 → Int32 → Prop) (S : SR) (y1 : Int64) (y3 : Int64) (y5 : Int32) (Q : Int64 → SR → Prop) : Prop := K14 S y1 y3 (y5 + 1)
def w_R_limitAt_14 : Nat → SR → Int64 → Int64 → Int32 → (Int64 → SR → Prop) → Prop
  | 0 => fun _ _ _ _ _ => False
  | n + 1 => fun S y1 y3 y5 Q => ((((S.1 2 0) ≤ y5) → (Q y3 S)) ∧ ((¬ (S.1 2 0) ≤ y5) → (vp_in y5 5 ∧ (((0 < (lg_cmp (S.2 2 y5.toNatClampNeg) y1)) → (w_R_limitAt_67 (fun S9 z0 z1 z2 => w_R_limitAt_14 n S9 z0 z1 z2 Q) S y1 y3 y5 Q)) ∧ ((¬ 0 < (lg_cmp (S.2 2 y5.toNatClampNeg) y1)) → (vp_in y5 5 ∧ (((0 ≤ (lg_cmp y1 (S.2 3 y5.toNatClampNeg))) → (w_R_limitAt_67 (fun S9 z0 z1 z2 => w_R_limitAt_14 n S9 z0 z1 z2 Q) S y1 y3 y5 Q)) ∧ ((¬ 0 ≤ (lg_cmp y1 (S.2 3 y5.toNatClampNeg))) → (vp_in y5 5 ∧ (((0 ≤ (lg_cmp (S.2 4 y5.toNatClampNeg) y3)) → (w_R_limitAt_67 (fun S9 z0 z1 z2 => w_R_limitAt_14 n S9 z0 z1 z2 Q) S y1 y3 y5 Q)) ∧ ((¬ 0 ≤ (lg_cmp (S.2 4 y5.toNatClampNeg) y3)) → (vp_in y5 5 ∧ (w_R_limitAt_67 (fun S9 z0 z1 z2 => w_R_limitAt_14 n S9 z0 z1 z2 Q) S y1 (S.2 4 y5.toNatClampNeg) y5 Q)))))))))))))
def w_R_limitAt (S : SR) (x1 : Int64) (Q : Int64 → SR → Prop) : Prop := w_R_sectionAt S x1 (fun r1 S2 => vp_in r1 10 ∧ (∃ n : Nat, w_R_limitAt_14 n S2 x1 (S2.2 1 r1.toNatClampNeg) 0 Q))
set_option maxRecDepth 100000 in
set_option maxHeartbeats 4000000 in
theorem c_R_limitAt (l : Launch) (D : va_G) (ca : Nat → ClassId) (ad : Nat → Nat) (sz : Nat) (S : SR) (x1 : Int64)  (Q : Int64 → SR → Prop) (h : w_R_limitAt S x1 Q) : Met l y_R_limitAt (Cond.code y_R_limitAt b_R_limitAt 6 (some Jvm.ClassFile.FieldType.long) :: tG) ({ frames := 1, cells := 0, slots := 0, locals := 23 } : Room) (xPc D ca (wR ca ad) S sz [.ref (ad 0), .long x1]) (va_Ql Q (xAt D (wR ca ad) (va_A (wR ca ad S) sz)) (va_A (wR ca ad S) sz)) 0 0 (va_A (wR ca ad S) sz) := by
  refine xx_met (Qf := fun A => va_Ql Q (xAt D (wR ca ad) A) A) (by decide) (Nat.le_of_ble_eq_true rfl) ?_
  intro p e s m args below meth c A ls hx hb hr hw hown hlocks hml hK hN hA hP hD hS hl
  have hown : s.vm.findClass "TrainGuardModel" = some m.cls := hown
  have hl : lv_has ls 6 [(0, .ref (ad 0)), (1, .long x1)] := hl
  unfold w_R_limitAt at h
  have bk_67 : ∀ (K14 : SR → Int64 → Int64 → Int32 → Prop) (hK14 : ∀ (S : SR) (y1 : Int64) (y3 : Int64) (y5 : Int32) (H : Heap) (locs : List Loc) , va_P D cls (wR ca ad S) H → va_D A (wR ca ad S) → va_S A s.heap H locs → ∀ (ls : Array Slot), lv_has ls 6 [(0, .ref (ad 0)), (1, .long y1), (3, .long y3), (5, .int y5)] → K14 S y1 y3 y5 → W p l e ({ frames := 1, cells := 0, slots := 0, locals := 23 } : Room) s m args below meth c H locs 0 0 (MQ below ((fun A => va_Ql Q (xAt D (wR ca ad) A) A) A) args s 0 0 A) (F0 m 14 ls [])) (S : SR) (y1 : Int64) (y3 : Int64) (y5 : Int32) (H : Heap) (locs : List Loc) , va_P D cls (wR ca ad S) H → va_D A (wR ca ad S) → va_S A s.heap H locs → ∀ (ls : Array Slot), lv_has ls 6 [(0, .ref (ad 0)), (1, .long y1), (3, .long y3), (5, .int y5)] → w_R_limitAt_67 K14 S y1 y3 y5 Q → W p l e ({ frames := 1, cells := 0, slots := 0, locals := 23 } : Room) s m args below meth c H locs 0 0 (MQ below ((fun A => va_Ql Q (xAt D (wR ca ad) A) A) A) args s 0 0 A) (F0 m 67 ls []) := by
    intro K14 hK14 S y1 y3 y5 H locs hP hD hS ls hl h
    unfold w_R_limitAt_67 at h
    refine lv_iinc (v := (y5 + 1)) (lv' := [(5, .int (y5 + 1)), (0, .ref (ad 0)), (1, .long y1), (3, .long y3)]) hx hb d_R_limitAt_67 hl (k := 3) rfl rfl (by decide) rfl (fun ls hl => ?_)
    refine lv_goto (tgt := 14) hx hb d_R_limitAt_70 (by decide) ?_
    exact hK14 S y1 y3 (y5 + 1) H locs hP hD hS ls (lv_sub hl [1, 2, 3, 0] rfl) h
  have bk_14 : ∀ (n9 : Nat) (S : SR) (y1 : Int64) (y3 : Int64) (y5 : Int32) (H : Heap) (locs : List Loc) , va_P D cls (wR ca ad S) H → va_D A (wR ca ad S) → va_S A s.heap H locs → ∀ (ls : Array Slot), lv_has ls 6 [(0, .ref (ad 0)), (1, .long y1), (3, .long y3), (5, .int y5)] → w_R_limitAt_14 n9 S y1 y3 y5 Q → W p l e ({ frames := 1, cells := 0, slots := 0, locals := 23 } : Room) s m args below meth c H locs 0 0 (MQ below ((fun A => va_Ql Q (xAt D (wR ca ad) A) A) A) args s 0 0 A) (F0 m 14 ls []) := by
    intro n9
    induction n9 with
    | zero => intro S y1 y3 y5 H locs hP hD hS ls hl h; exact absurd h id
    | succ n9 hK14 =>
      intro S y1 y3 y5 H locs hP hD hS ls hl h
      replace h : (((S.1 2 0) ≤ y5) → (Q y3 S)) ∧ ((¬ (S.1 2 0) ≤ y5) → (vp_in y5 5 ∧ (((0 < (lg_cmp (S.2 2 y5.toNatClampNeg) y1)) → (w_R_limitAt_67 (fun S9 z0 z1 z2 => w_R_limitAt_14 n9 S9 z0 z1 z2 Q) S y1 y3 y5 Q)) ∧ ((¬ 0 < (lg_cmp (S.2 2 y5.toNatClampNeg) y1)) → (vp_in y5 5 ∧ (((0 ≤ (lg_cmp y1 (S.2 3 y5.toNatClampNeg))) → (w_R_limitAt_67 (fun S9 z0 z1 z2 => w_R_limitAt_14 n9 S9 z0 z1 z2 Q) S y1 y3 y5 Q)) ∧ ((¬ 0 ≤ (lg_cmp y1 (S.2 3 y5.toNatClampNeg))) → (vp_in y5 5 ∧ (((0 ≤ (lg_cmp (S.2 4 y5.toNatClampNeg) y3)) → (w_R_limitAt_67 (fun S9 z0 z1 z2 => w_R_limitAt_14 n9 S9 z0 z1 z2 Q) S y1 y3 y5 Q)) ∧ ((¬ 0 ≤ (lg_cmp (S.2 4 y5.toNatClampNeg) y3)) → (vp_in y5 5 ∧ (w_R_limitAt_67 (fun S9 z0 z1 z2 => w_R_limitAt_14 n9 S9 z0 z1 z2 Q) S y1 (S.2 4 y5.toNatClampNeg) y5 Q)))))))))))) := h
      refine lv_iload hx hb d_R_limitAt_14 (lv_at hl 3 rfl) ?_
      refine lv_aload_n hx hb d_R_limitAt_16 rfl (lv_at hl 0 rfl) ?_
      refine va_get (D := D) (ci := 4) (v := .int (S.1 2 0)) (C := Rc_R) (T := Fc_R) (N := 25) hx hb hw inc_R hown hK hP 0 rfl rfl 5 (by decide) (hw _ wd_596) (fun _ h9 => h9) rfl d_R_limitAt_17 ?_
      refine lv_icmp_ge (tgt := 73) hx hb d_R_limitAt_20 (by decide) (fun hc => ?_) (fun hc => ?_)
      · replace h := h.1 hc
        refine lv_lload_n hx hb d_R_limitAt_73 rfl (lv_at hl 2 rfl) ?_
        exact W.lret (v := y3) hx hb hr (fun t ht hW => ⟨⟨y3, S, rfl, h, by rw [ht]; exact hP, hD⟩, hS.F ht⟩) hS.2.2 d_R_limitAt_74
      · replace h := h.2 hc
        refine lv_aload_n hx hb d_R_limitAt_23 rfl (lv_at hl 0 rfl) ?_
        refine va_get (D := D) (ci := 4) (v := .ref (ad 4)) (C := Rc_R) (T := Fc_R) (N := 25) hx hb hw inc_R hown hK hP 0 rfl rfl 6 (by decide) (hw _ wd_597) (fun _ h9 => h9) rfl d_R_limitAt_24 ?_
        refine lv_iload hx hb d_R_limitAt_27 (lv_at hl 3 rfl) ?_
        obtain ⟨hq, h⟩ := h
        refine va_lald (D := D) hx hb hK hP 4 1 rfl rfl hq d_R_limitAt_29 ?_
        refine lv_lload_n hx hb d_R_limitAt_30 rfl (lv_at hl 1 rfl) ?_
        refine W.lcmp hx hb d_R_limitAt_31 ?_
        refine lv_if_gt (tgt := 67) hx hb d_R_limitAt_32 (by decide) (fun hc => ?_) (fun hc => ?_)
        · replace h := h.1 hc
          exact bk_67 (fun S9 z0 z1 z2 => w_R_limitAt_14 n9 S9 z0 z1 z2 Q) hK14 S y1 y3 y5 H locs hP hD hS ls (lv_sub hl [0, 1, 2, 3] rfl) h
        · replace h := h.2 hc
          refine lv_lload_n hx hb d_R_limitAt_35 rfl (lv_at hl 1 rfl) ?_
          refine lv_aload_n hx hb d_R_limitAt_36 rfl (lv_at hl 0 rfl) ?_
          refine va_get (D := D) (ci := 4) (v := .ref (ad 5)) (C := Rc_R) (T := Fc_R) (N := 25) hx hb hw inc_R hown hK hP 0 rfl rfl 7 (by decide) (hw _ wd_598) (fun _ h9 => h9) rfl d_R_limitAt_37 ?_
          refine lv_iload hx hb d_R_limitAt_40 (lv_at hl 3 rfl) ?_
          obtain ⟨hq, h⟩ := h
          refine va_lald (D := D) hx hb hK hP 5 1 rfl rfl hq d_R_limitAt_42 ?_
          refine W.lcmp hx hb d_R_limitAt_43 ?_
          refine lv_if_ge (tgt := 67) hx hb d_R_limitAt_44 (by decide) (fun hc => ?_) (fun hc => ?_)
          · replace h := h.1 hc
            exact bk_67 (fun S9 z0 z1 z2 => w_R_limitAt_14 n9 S9 z0 z1 z2 Q) hK14 S y1 y3 y5 H locs hP hD hS ls (lv_sub hl [0, 1, 2, 3] rfl) h
          · replace h := h.2 hc
            refine lv_aload_n hx hb d_R_limitAt_47 rfl (lv_at hl 0 rfl) ?_
            refine va_get (D := D) (ci := 4) (v := .ref (ad 6)) (C := Rc_R) (T := Fc_R) (N := 25) hx hb hw inc_R hown hK hP 0 rfl rfl 8 (by decide) (hw _ wd_599) (fun _ h9 => h9) rfl d_R_limitAt_48 ?_
            refine lv_iload hx hb d_R_limitAt_51 (lv_at hl 3 rfl) ?_
            obtain ⟨hq, h⟩ := h
            refine va_lald (D := D) hx hb hK hP 6 1 rfl rfl hq d_R_limitAt_53 ?_
            refine lv_lload_n hx hb d_R_limitAt_54 rfl (lv_at hl 2 rfl) ?_
            refine W.lcmp hx hb d_R_limitAt_55 ?_
            refine lv_if_ge (tgt := 67) hx hb d_R_limitAt_56 (by decide) (fun hc => ?_) (fun hc => ?_)
            · replace h := h.1 hc
              exact bk_67 (fun S9 z0 z1 z2 => w_R_limitAt_14 n9 S9 z0 z1 z2 Q) hK14 S y1 y3 y5 H locs hP hD hS ls (lv_sub hl [0, 1, 2, 3] rfl) h
            · replace h := h.2 hc
              refine lv_aload_n hx hb d_R_limitAt_59 rfl (lv_at hl 0 rfl) ?_
              refine va_get (D := D) (ci := 4) (v := .ref (ad 6)) (C := Rc_R) (T := Fc_R) (N := 25) hx hb hw inc_R hown hK hP 0 rfl rfl 8 (by decide) (hw _ wd_599) (fun _ h9 => h9) rfl d_R_limitAt_60 ?_
              refine lv_iload hx hb d_R_limitAt_63 (lv_at hl 3 rfl) ?_
              obtain ⟨hq, h⟩ := h
              refine va_lald (D := D) hx hb hK hP 6 1 rfl rfl hq d_R_limitAt_65 ?_
              refine lv_lstore_n (lv' := [(3, .long (S.2 4 y5.toNatClampNeg)), (0, .ref (ad 0)), (1, .long y1), (5, .int y5)]) hx hb d_R_limitAt_66 rfl hl (by decide) rfl (fun ls hl => ?_)
              exact bk_67 (fun S9 z0 z1 z2 => w_R_limitAt_14 n9 S9 z0 z1 z2 Q) hK14 S y1 (S.2 4 y5.toNatClampNeg) y5 H locs hP hD hS ls (lv_sub hl [1, 2, 0, 3] rfl) h
  have hH9 : ∀ H : Heap, H = s.heap → va_P D cls (wR ca ad S) H → va_S A s.heap H [] → W p l e ({ frames := 1, cells := 0, slots := 0, locals := 23 } : Room) s m args below meth c H [] 0 0 (MQ below ((fun A => va_Ql Q (xAt D (wR ca ad) A) A) A) args s 0 0 A) (F0 m 0 ls []) := by
    clear hP hS
    intro H hH hP hS
    obtain ⟨locs, hlo⟩ : ∃ z : List Loc, z = [] := ⟨_, rfl⟩
    rw [← hlo] at hS ⊢
    refine lv_aload_n hx hb d_R_limitAt_0 rfl (lv_at hl 0 rfl) ?_
    refine va_get (D := D) (ci := 4) (v := .ref (ad 2)) (C := Rc_R) (T := Fc_R) (N := 25) hx hb hw inc_R hown hK hP 0 rfl rfl 3 (by decide) (hw _ wd_594) (fun _ h9 => h9) rfl d_R_limitAt_1 ?_
    refine lv_aload_n hx hb d_R_limitAt_4 rfl (lv_at hl 0 rfl) ?_
    refine lv_lload_n hx hb d_R_limitAt_5 rfl (lv_at hl 1 rfl) ?_
    refine xx_calli (va_runV (As := [.long x1]) (rest := [.ref (ad 2)]) ⟨hx, hb, hml, hown, hw⟩ (c_R_sectionAt l D ca ad H.size S x1 _ h) (cwV 1 hw (tG_g gl_R_82) rfl rfl rfl (by decide +kernel) ⟨Nat.le_of_ble_eq_true rfl, Nat.le_of_ble_eq_true rfl⟩) ⟨xPc.blind, va_recv hK hP rfl (q0 := 0) rfl, xPc.pre hK hN hP hD⟩ rfl rfl hl.1 rfl (lv_room (Nat.le_of_ble_eq_true rfl)) d_R_limitAt_6 ⟨Nat.le_of_ble_eq_true rfl, Nat.le_of_ble_eq_true rfl⟩) hD hS hA (fun r1 S2 H locs h hP hD hS => ?_)
    obtain ⟨hq, h⟩ := h
    refine va_lald (D := D) hx hb hK hP 2 1 rfl rfl hq d_R_limitAt_9 ?_
    refine lv_lstore_n (lv' := [(3, .long (S2.2 1 r1.toNatClampNeg)), (0, .ref (ad 0)), (1, .long x1)]) hx hb d_R_limitAt_10 rfl hl (by decide) rfl (fun ls hl => ?_)
    refine lv_iconst (v := 0) hx hb d_R_limitAt_11 (by decide) ?_
    refine lv_istore (lv' := [(5, .int 0), (3, .long (S2.2 1 r1.toNatClampNeg)), (0, .ref (ad 0)), (1, .long x1)]) hx hb d_R_limitAt_12 hl (by decide) rfl (fun ls hl => ?_)
    obtain ⟨n9, h⟩ := h
    exact bk_14 n9 S2 x1 (S2.2 1 r1.toNatClampNeg) 0 H locs hP hD hS ls (lv_sub hl [2, 3, 1, 0] rfl) h
  exact hH9 _ rfl hP hS
theorem d_R_isIn_0 : decode b_R_isIn 0 = .ok (.aload_n 0, 1) := by decide +kernel
theorem d_R_isIn_1 : decode b_R_isIn 1 = .ok (.getfield 7, 3) := by decide +kernel
theorem d_R_isIn_4 : decode b_R_isIn 4 = .ok (.iload_n 2, 1) := by decide +kernel
theorem d_R_isIn_5 : decode b_R_isIn 5 = .ok (.laload, 1) := by decide +kernel
theorem d_R_isIn_6 : decode b_R_isIn 6 = .ok (.aload_n 0, 1) := by decide +kernel
theorem d_R_isIn_7 : decode b_R_isIn 7 = .ok (.getfield 38, 3) := by decide +kernel
theorem d_R_isIn_10 : decode b_R_isIn 10 = .ok (.iload_n 1, 1) := by decide +kernel
theorem d_R_isIn_11 : decode b_R_isIn 11 = .ok (.laload, 1) := by decide +kernel
theorem d_R_isIn_12 : decode b_R_isIn 12 = .ok (.lcmp, 1) := by decide +kernel
theorem d_R_isIn_13 : decode b_R_isIn 13 = .ok (.ifCond .ge 32, 3) := by decide +kernel
theorem d_R_isIn_16 : decode b_R_isIn 16 = .ok (.aload_n 0, 1) := by decide +kernel
theorem d_R_isIn_17 : decode b_R_isIn 17 = .ok (.getfield 7, 3) := by decide +kernel
theorem d_R_isIn_20 : decode b_R_isIn 20 = .ok (.iload_n 2, 1) := by decide +kernel
theorem d_R_isIn_21 : decode b_R_isIn 21 = .ok (.iconst 1, 1) := by decide +kernel
theorem d_R_isIn_22 : decode b_R_isIn 22 = .ok (.iadd, 1) := by decide +kernel
theorem d_R_isIn_23 : decode b_R_isIn 23 = .ok (.laload, 1) := by decide +kernel
theorem d_R_isIn_24 : decode b_R_isIn 24 = .ok (.aload_n 0, 1) := by decide +kernel
theorem d_R_isIn_25 : decode b_R_isIn 25 = .ok (.getfield 38, 3) := by decide +kernel
theorem d_R_isIn_28 : decode b_R_isIn 28 = .ok (.iload_n 1, 1) := by decide +kernel
theorem d_R_isIn_29 : decode b_R_isIn 29 = .ok (.laload, 1) := by decide +kernel
theorem d_R_isIn_30 : decode b_R_isIn 30 = .ok (.aload_n 0, 1) := by decide +kernel
theorem d_R_isIn_31 : decode b_R_isIn 31 = .ok (.getfield 29, 3) := by decide +kernel
theorem d_R_isIn_34 : decode b_R_isIn 34 = .ok (.iload_n 1, 1) := by decide +kernel
theorem d_R_isIn_35 : decode b_R_isIn 35 = .ok (.laload, 1) := by decide +kernel
theorem d_R_isIn_36 : decode b_R_isIn 36 = .ok (.lsub, 1) := by decide +kernel
theorem d_R_isIn_37 : decode b_R_isIn 37 = .ok (.lcmp, 1) := by decide +kernel
theorem d_R_isIn_38 : decode b_R_isIn 38 = .ok (.ifCond .le 7, 3) := by decide +kernel
theorem d_R_isIn_41 : decode b_R_isIn 41 = .ok (.iconst 1, 1) := by decide +kernel
theorem d_R_isIn_42 : decode b_R_isIn 42 = .ok (.goto 4, 3) := by decide +kernel
theorem d_R_isIn_45 : decode b_R_isIn 45 = .ok (.iconst 0, 1) := by decide +kernel
theorem d_R_isIn_46 : decode b_R_isIn 46 = .ok (.ireturn, 1) := by decide +kernel
def w_R_isIn (S : SR) (x1 : Int32) (x2 : Int32) (Q : Int32 → SR → Prop) : Prop := vp_in x2 11 ∧ (vp_in x1 3 ∧ (((0 ≤ (lg_cmp (S.2 0 x2.toNatClampNeg) (S.2 8 x1.toNatClampNeg))) → (Q 0 S)) ∧ ((¬ 0 ≤ (lg_cmp (S.2 0 x2.toNatClampNeg) (S.2 8 x1.toNatClampNeg))) → (∀ a1 : Int32, a1 = x2 + 1 → (vp_in a1 11 ∧ (vp_in x1 3 ∧ (vp_in x1 3 ∧ (∀ b2 : Int64, b2 = (S.2 8 x1.toNatClampNeg) - (S.2 5 x1.toNatClampNeg) → ((((lg_cmp (S.2 0 a1.toNatClampNeg) b2) ≤ 0) → (Q 0 S)) ∧ ((¬ (lg_cmp (S.2 0 a1.toNatClampNeg) b2) ≤ 0) → (Q 1 S)))))))))))
set_option maxRecDepth 100000 in
set_option maxHeartbeats 4000000 in
theorem c_R_isIn (l : Launch) (D : va_G) (ca : Nat → ClassId) (ad : Nat → Nat) (sz : Nat) (S : SR) (x1 : Int32) (x2 : Int32)  (Q : Int32 → SR → Prop) (h : w_R_isIn S x1 x2 Q) : Met l y_R_isIn (Cond.code y_R_isIn b_R_isIn 3 (some Jvm.ClassFile.FieldType.boolean) :: tG) ({ frames := 0, cells := 0, slots := 0, locals := 0 } : Room) (xPc D ca (wR ca ad) S sz [.ref (ad 0), .int x1, .int x2]) (va_Qi Q (xAt D (wR ca ad) (va_A (wR ca ad S) sz)) (va_A (wR ca ad S) sz)) 0 0 (va_A (wR ca ad S) sz) := by
  refine xx_met (Qf := fun A => va_Qi Q (xAt D (wR ca ad) A) A) (by decide) (Nat.le_of_ble_eq_true rfl) ?_
  intro p e s m args below meth c A ls hx hb hr hw hown hlocks hml hK hN hA hP hD hS hl
  have hown : s.vm.findClass "TrainGuardModel" = some m.cls := hown
  have hl : lv_has ls 3 [(0, .ref (ad 0)), (1, .int x1), (2, .int x2)] := hl
  unfold w_R_isIn at h
  have hH9 : ∀ H : Heap, H = s.heap → va_P D cls (wR ca ad S) H → va_S A s.heap H [] → W p l e ({ frames := 0, cells := 0, slots := 0, locals := 0 } : Room) s m args below meth c H [] 0 0 (MQ below ((fun A => va_Qi Q (xAt D (wR ca ad) A) A) A) args s 0 0 A) (F0 m 0 ls []) := by
    clear hP hS
    intro H hH hP hS
    obtain ⟨locs, hlo⟩ : ∃ z : List Loc, z = [] := ⟨_, rfl⟩
    rw [← hlo] at hS ⊢
    refine lv_aload_n hx hb d_R_isIn_0 rfl (lv_at hl 0 rfl) ?_
    refine va_get (D := D) (ci := 4) (v := .ref (ad 1)) (C := Rc_R) (T := Fc_R) (N := 25) hx hb hw inc_R hown hK hP 0 rfl rfl 2 (by decide) (hw _ wd_593) (fun _ h9 => h9) rfl d_R_isIn_1 ?_
    refine lv_iload_n hx hb d_R_isIn_4 rfl (lv_at hl 2 rfl) ?_
    obtain ⟨hq, h⟩ := h
    refine va_lald (D := D) hx hb hK hP 1 1 rfl rfl hq d_R_isIn_5 ?_
    refine lv_aload_n hx hb d_R_isIn_6 rfl (lv_at hl 0 rfl) ?_
    refine va_get (D := D) (ci := 4) (v := .ref (ad 10)) (C := Rc_R) (T := Fc_R) (N := 25) hx hb hw inc_R hown hK hP 0 rfl rfl 13 (by decide) (hw _ wd_604) (fun _ h9 => h9) rfl d_R_isIn_7 ?_
    refine lv_iload_n hx hb d_R_isIn_10 rfl (lv_at hl 1 rfl) ?_
    obtain ⟨hq, h⟩ := h
    refine va_lald (D := D) hx hb hK hP 10 1 rfl rfl hq d_R_isIn_11 ?_
    refine W.lcmp hx hb d_R_isIn_12 ?_
    refine lv_if_ge (tgt := 45) hx hb d_R_isIn_13 (by decide) (fun hc => ?_) (fun hc => ?_)
    · replace h := h.1 hc
      refine lv_iconst (v := 0) hx hb d_R_isIn_45 (by decide) ?_
      exact W.zret (v := 0) hx hb hr rfl (fun t ht hW => ⟨⟨0, S, rfl, h, by rw [ht]; exact hP, hD⟩, hS.F ht⟩) hS.2.2 d_R_isIn_46
    · replace h := h.2 hc
      refine lv_aload_n hx hb d_R_isIn_16 rfl (lv_at hl 0 rfl) ?_
      refine va_get (D := D) (ci := 4) (v := .ref (ad 1)) (C := Rc_R) (T := Fc_R) (N := 25) hx hb hw inc_R hown hK hP 0 rfl rfl 2 (by decide) (hw _ wd_593) (fun _ h9 => h9) rfl d_R_isIn_17 ?_
      refine lv_iload_n hx hb d_R_isIn_20 rfl (lv_at hl 2 rfl) ?_
      refine lv_iconst (v := 1) hx hb d_R_isIn_21 (by decide) ?_
      refine lv_iadd hx hb d_R_isIn_22 ?_
      refine lv_topi (fun a1 e_a1 => ?_)
      replace h := h a1 e_a1
      obtain ⟨hq, h⟩ := h
      refine va_lald (D := D) hx hb hK hP 1 1 rfl rfl hq d_R_isIn_23 ?_
      refine lv_aload_n hx hb d_R_isIn_24 rfl (lv_at hl 0 rfl) ?_
      refine va_get (D := D) (ci := 4) (v := .ref (ad 10)) (C := Rc_R) (T := Fc_R) (N := 25) hx hb hw inc_R hown hK hP 0 rfl rfl 13 (by decide) (hw _ wd_604) (fun _ h9 => h9) rfl d_R_isIn_25 ?_
      refine lv_iload_n hx hb d_R_isIn_28 rfl (lv_at hl 1 rfl) ?_
      obtain ⟨hq, h⟩ := h
      refine va_lald (D := D) hx hb hK hP 10 1 rfl rfl hq d_R_isIn_29 ?_
      refine lv_aload_n hx hb d_R_isIn_30 rfl (lv_at hl 0 rfl) ?_
      refine va_get (D := D) (ci := 4) (v := .ref (ad 7)) (C := Rc_R) (T := Fc_R) (N := 25) hx hb hw inc_R hown hK hP 0 rfl rfl 10 (by decide) (hw _ wd_601) (fun _ h9 => h9) rfl d_R_isIn_31 ?_
      refine lv_iload_n hx hb d_R_isIn_34 rfl (lv_at hl 1 rfl) ?_
      obtain ⟨hq, h⟩ := h
      refine va_lald (D := D) hx hb hK hP 7 1 rfl rfl hq d_R_isIn_35 ?_
      refine lv_lsub hx hb d_R_isIn_36 ?_
      refine lv_topl (fun b2 e_b2 => ?_)
      replace h := h b2 e_b2
      refine W.lcmp hx hb d_R_isIn_37 ?_
      refine lv_if_le (tgt := 45) hx hb d_R_isIn_38 (by decide) (fun hc => ?_) (fun hc => ?_)
      · replace h := h.1 hc
        refine lv_iconst (v := 0) hx hb d_R_isIn_45 (by decide) ?_
        exact W.zret (v := 0) hx hb hr rfl (fun t ht hW => ⟨⟨0, S, rfl, h, by rw [ht]; exact hP, hD⟩, hS.F ht⟩) hS.2.2 d_R_isIn_46
      · replace h := h.2 hc
        refine lv_iconst (v := 1) hx hb d_R_isIn_41 (by decide) ?_
        refine lv_goto (tgt := 46) hx hb d_R_isIn_42 (by decide) ?_
        exact W.zret (v := 1) hx hb hr rfl (fun t ht hW => ⟨⟨1, S, rfl, h, by rw [ht]; exact hP, hD⟩, hS.F ht⟩) hS.2.2 d_R_isIn_46
  exact hH9 _ rfl hP hS
theorem d_R_head_0 : decode b_R_head 0 = .ok (.iconst 0, 1) := by decide +kernel
theorem d_R_head_1 : decode b_R_head 1 = .ok (.istore_n 2, 1) := by decide +kernel
theorem d_R_head_2 : decode b_R_head 2 = .ok (.iconst 0, 1) := by decide +kernel
theorem d_R_head_3 : decode b_R_head 3 = .ok (.istore_n 3, 1) := by decide +kernel
theorem d_R_head_4 : decode b_R_head 4 = .ok (.iload_n 3, 1) := by decide +kernel
theorem d_R_head_5 : decode b_R_head 5 = .ok (.aload_n 0, 1) := by decide +kernel
theorem d_R_head_6 : decode b_R_head 6 = .ok (.getfield 79, 3) := by decide +kernel
theorem d_R_head_9 : decode b_R_head 9 = .ok (.if_icmp .ge 20, 3) := by decide +kernel
theorem d_R_head_12 : decode b_R_head 12 = .ok (.aload_n 0, 1) := by decide +kernel
theorem d_R_head_13 : decode b_R_head 13 = .ok (.iload_n 1, 1) := by decide +kernel
theorem d_R_head_14 : decode b_R_head 14 = .ok (.iload_n 3, 1) := by decide +kernel
theorem d_R_head_15 : decode b_R_head 15 = .ok (.invokevirtual 89, 3) := by decide +kernel
theorem d_R_head_18 : decode b_R_head 18 = .ok (.ifCond .eq 5, 3) := by decide +kernel
theorem d_R_head_21 : decode b_R_head 21 = .ok (.iload_n 3, 1) := by decide +kernel
theorem d_R_head_22 : decode b_R_head 22 = .ok (.istore_n 2, 1) := by decide +kernel
theorem d_R_head_23 : decode b_R_head 23 = .ok (.iinc 3 1, 3) := by decide +kernel
theorem d_R_head_26 : decode b_R_head 26 = .ok (.goto (-22), 3) := by decide +kernel
theorem d_R_head_29 : decode b_R_head 29 = .ok (.iload_n 2, 1) := by decide +kernel
theorem d_R_head_30 : decode b_R_head 30 = .ok (.ireturn, 1) := by decide +kernel
theorem gl_R_89 : ∀ w ∈ wsV "TrainGuardModel" 89 "TrainGuardModel" y_R_isIn (Cond.code y_R_isIn b_R_isIn 3 (some Jvm.ClassFile.FieldType.boolean) :: tG), w ∈ tG := by
  intro x hx
  simp only [wsV, List.cons_append, List.nil_append, List.mem_cons] at hx
  rcases hx with rfl | rfl | rfl | rfl | rfl | hx
  · exact wd_722
  · exact wd_724
  · exact ws_21
  · exact wd_5
  · exact wd_725
  · exact hx
def w_R_head_23 (K4 : SR → Int32 → Int32 → Int32 → Prop) (S : SR) (y1 : Int32) (y2 : Int32) (y3 : Int32) (Q : Int32 → SR → Prop) : Prop := K4 S y1 y2 (y3 + 1)
def w_R_head_4 : Nat → SR → Int32 → Int32 → Int32 → (Int32 → SR → Prop) → Prop
  | 0 => fun _ _ _ _ _ => False
  | n + 1 => fun S y1 y2 y3 Q => ((((S.1 1 0) ≤ y3) → (Q y2 S)) ∧ ((¬ (S.1 1 0) ≤ y3) → (w_R_isIn S y1 y3 (fun r1 S2 => ((r1 = 0) → (w_R_head_23 (fun S9 z0 z1 z2 => w_R_head_4 n S9 z0 z1 z2 Q) S2 y1 y2 y3 Q)) ∧ ((¬ r1 = 0) → (w_R_head_23 (fun S9 z0 z1 z2 => w_R_head_4 n S9 z0 z1 z2 Q) S2 y1 y3 y3 Q))))))
def w_R_head (S : SR) (x1 : Int32) (Q : Int32 → SR → Prop) : Prop := ∃ n : Nat, w_R_head_4 n S x1 0 0 Q
set_option maxRecDepth 100000 in
set_option maxHeartbeats 4000000 in
theorem c_R_head (l : Launch) (D : va_G) (ca : Nat → ClassId) (ad : Nat → Nat) (sz : Nat) (S : SR) (x1 : Int32)  (Q : Int32 → SR → Prop) (h : w_R_head S x1 Q) : Met l y_R_head (Cond.code y_R_head b_R_head 4 (some Jvm.ClassFile.FieldType.int) :: tG) ({ frames := 1, cells := 0, slots := 0, locals := 22 } : Room) (xPc D ca (wR ca ad) S sz [.ref (ad 0), .int x1]) (va_Qi Q (xAt D (wR ca ad) (va_A (wR ca ad S) sz)) (va_A (wR ca ad S) sz)) 0 0 (va_A (wR ca ad S) sz) := by
  refine xx_met (Qf := fun A => va_Qi Q (xAt D (wR ca ad) A) A) (by decide) (Nat.le_of_ble_eq_true rfl) ?_
  intro p e s m args below meth c A ls hx hb hr hw hown hlocks hml hK hN hA hP hD hS hl
  have hown : s.vm.findClass "TrainGuardModel" = some m.cls := hown
  have hl : lv_has ls 4 [(0, .ref (ad 0)), (1, .int x1)] := hl
  unfold w_R_head at h
  have bk_23 : ∀ (K4 : SR → Int32 → Int32 → Int32 → Prop) (hK4 : ∀ (S : SR) (y1 : Int32) (y2 : Int32) (y3 : Int32) (H : Heap) (locs : List Loc) , va_P D cls (wR ca ad S) H → va_D A (wR ca ad S) → va_S A s.heap H locs → ∀ (ls : Array Slot), lv_has ls 4 [(0, .ref (ad 0)), (1, .int y1), (2, .int y2), (3, .int y3)] → K4 S y1 y2 y3 → W p l e ({ frames := 1, cells := 0, slots := 0, locals := 22 } : Room) s m args below meth c H locs 0 0 (MQ below ((fun A => va_Qi Q (xAt D (wR ca ad) A) A) A) args s 0 0 A) (F0 m 4 ls [])) (S : SR) (y1 : Int32) (y2 : Int32) (y3 : Int32) (H : Heap) (locs : List Loc) , va_P D cls (wR ca ad S) H → va_D A (wR ca ad S) → va_S A s.heap H locs → ∀ (ls : Array Slot), lv_has ls 4 [(0, .ref (ad 0)), (1, .int y1), (2, .int y2), (3, .int y3)] → w_R_head_23 K4 S y1 y2 y3 Q → W p l e ({ frames := 1, cells := 0, slots := 0, locals := 22 } : Room) s m args below meth c H locs 0 0 (MQ below ((fun A => va_Qi Q (xAt D (wR ca ad) A) A) A) args s 0 0 A) (F0 m 23 ls []) := by
    intro K4 hK4 S y1 y2 y3 H locs hP hD hS ls hl h
    unfold w_R_head_23 at h
    refine lv_iinc (v := (y3 + 1)) (lv' := [(3, .int (y3 + 1)), (0, .ref (ad 0)), (1, .int y1), (2, .int y2)]) hx hb d_R_head_23 hl (k := 3) rfl rfl (by decide) rfl (fun ls hl => ?_)
    refine lv_goto (tgt := 4) hx hb d_R_head_26 (by decide) ?_
    exact hK4 S y1 y2 (y3 + 1) H locs hP hD hS ls (lv_sub hl [1, 2, 3, 0] rfl) h
  have bk_4 : ∀ (n9 : Nat) (S : SR) (y1 : Int32) (y2 : Int32) (y3 : Int32) (H : Heap) (locs : List Loc) , va_P D cls (wR ca ad S) H → va_D A (wR ca ad S) → va_S A s.heap H locs → ∀ (ls : Array Slot), lv_has ls 4 [(0, .ref (ad 0)), (1, .int y1), (2, .int y2), (3, .int y3)] → w_R_head_4 n9 S y1 y2 y3 Q → W p l e ({ frames := 1, cells := 0, slots := 0, locals := 22 } : Room) s m args below meth c H locs 0 0 (MQ below ((fun A => va_Qi Q (xAt D (wR ca ad) A) A) A) args s 0 0 A) (F0 m 4 ls []) := by
    intro n9
    induction n9 with
    | zero => intro S y1 y2 y3 H locs hP hD hS ls hl h; exact absurd h id
    | succ n9 hK4 =>
      intro S y1 y2 y3 H locs hP hD hS ls hl h
      replace h : (((S.1 1 0) ≤ y3) → (Q y2 S)) ∧ ((¬ (S.1 1 0) ≤ y3) → (w_R_isIn S y1 y3 (fun r1 S2 => ((r1 = 0) → (w_R_head_23 (fun S9 z0 z1 z2 => w_R_head_4 n9 S9 z0 z1 z2 Q) S2 y1 y2 y3 Q)) ∧ ((¬ r1 = 0) → (w_R_head_23 (fun S9 z0 z1 z2 => w_R_head_4 n9 S9 z0 z1 z2 Q) S2 y1 y3 y3 Q))))) := h
      refine lv_iload_n hx hb d_R_head_4 rfl (lv_at hl 3 rfl) ?_
      refine lv_aload_n hx hb d_R_head_5 rfl (lv_at hl 0 rfl) ?_
      refine va_get (D := D) (ci := 4) (v := .int (S.1 1 0)) (C := Rc_R) (T := Fc_R) (N := 25) hx hb hw inc_R hown hK hP 0 rfl rfl 1 (by decide) (hw _ wd_592) (fun _ h9 => h9) rfl d_R_head_6 ?_
      refine lv_icmp_ge (tgt := 29) hx hb d_R_head_9 (by decide) (fun hc => ?_) (fun hc => ?_)
      · replace h := h.1 hc
        refine lv_iload_n hx hb d_R_head_29 rfl (lv_at hl 2 rfl) ?_
        exact W.iret (v := y2) hx hb hr (fun t ht hW => ⟨⟨y2, S, rfl, h, by rw [ht]; exact hP, hD⟩, hS.F ht⟩) hS.2.2 d_R_head_30
      · replace h := h.2 hc
        refine lv_aload_n hx hb d_R_head_12 rfl (lv_at hl 0 rfl) ?_
        refine lv_iload_n hx hb d_R_head_13 rfl (lv_at hl 1 rfl) ?_
        refine lv_iload_n hx hb d_R_head_14 rfl (lv_at hl 3 rfl) ?_
        refine xx_calli (va_runV (As := [.int y1, .int y3]) (rest := []) ⟨hx, hb, hml, hown, hw⟩ (c_R_isIn l D ca ad H.size S y1 y3 _ h) (cwV 2 hw (tG_g gl_R_89) rfl rfl rfl (by decide +kernel) ⟨Nat.le_of_ble_eq_true rfl, Nat.le_of_ble_eq_true rfl⟩) ⟨xPc.blind, va_recv hK hP rfl (q0 := 0) rfl, xPc.pre hK hN hP hD⟩ rfl rfl hl.1 rfl (lv_room (Nat.le_of_ble_eq_true rfl)) d_R_head_15 ⟨Nat.le_of_ble_eq_true rfl, Nat.le_of_ble_eq_true rfl⟩) hD hS hA (fun r1 S2 H locs h hP hD hS => ?_)
        refine lv_if_eq (tgt := 23) hx hb d_R_head_18 (by decide) (fun hc => ?_) (fun hc => ?_)
        · replace h := h.1 hc
          exact bk_23 (fun S9 z0 z1 z2 => w_R_head_4 n9 S9 z0 z1 z2 Q) hK4 S2 y1 y2 y3 H locs hP hD hS ls (lv_sub hl [0, 1, 2, 3] rfl) h
        · replace h := h.2 hc
          refine lv_iload_n hx hb d_R_head_21 rfl (lv_at hl 3 rfl) ?_
          refine lv_istore_n (lv' := [(2, .int y3), (0, .ref (ad 0)), (1, .int y1), (3, .int y3)]) hx hb d_R_head_22 rfl hl (by decide) rfl (fun ls hl => ?_)
          exact bk_23 (fun S9 z0 z1 z2 => w_R_head_4 n9 S9 z0 z1 z2 Q) hK4 S2 y1 y3 y3 H locs hP hD hS ls (lv_sub hl [1, 2, 0, 3] rfl) h
  have hH9 : ∀ H : Heap, H = s.heap → va_P D cls (wR ca ad S) H → va_S A s.heap H [] → W p l e ({ frames := 1, cells := 0, slots := 0, locals := 22 } : Room) s m args below meth c H [] 0 0 (MQ below ((fun A => va_Qi Q (xAt D (wR ca ad) A) A) A) args s 0 0 A) (F0 m 0 ls []) := by
    clear hP hS
    intro H hH hP hS
    obtain ⟨locs, hlo⟩ : ∃ z : List Loc, z = [] := ⟨_, rfl⟩
    rw [← hlo] at hS ⊢
    refine lv_iconst (v := 0) hx hb d_R_head_0 (by decide) ?_
    refine lv_istore_n (lv' := [(2, .int 0), (0, .ref (ad 0)), (1, .int x1)]) hx hb d_R_head_1 rfl hl (by decide) rfl (fun ls hl => ?_)
    refine lv_iconst (v := 0) hx hb d_R_head_2 (by decide) ?_
    refine lv_istore_n (lv' := [(3, .int 0), (2, .int 0), (0, .ref (ad 0)), (1, .int x1)]) hx hb d_R_head_3 rfl hl (by decide) rfl (fun ls hl => ?_)
    obtain ⟨n9, h⟩ := h
    exact bk_4 n9 S x1 0 0 H locs hP hD hS ls (lv_sub hl [2, 3, 1, 0] rfl) h
  exact hH9 _ rfl hP hS
theorem d_R_taken_0 : decode b_R_taken 0 = .ok (.aload_n 0, 1) := by decide +kernel
theorem d_R_taken_1 : decode b_R_taken 1 = .ok (.getfield 16, 3) := by decide +kernel
theorem d_R_taken_4 : decode b_R_taken 4 = .ok (.iload_n 1, 1) := by decide +kernel
theorem d_R_taken_5 : decode b_R_taken 5 = .ok (.iaload, 1) := by decide +kernel
theorem d_R_taken_6 : decode b_R_taken 6 = .ok (.ifCond .lt 15, 3) := by decide +kernel
theorem d_R_taken_9 : decode b_R_taken 9 = .ok (.aload_n 0, 1) := by decide +kernel
theorem d_R_taken_10 : decode b_R_taken 10 = .ok (.getfield 16, 3) := by decide +kernel
theorem d_R_taken_13 : decode b_R_taken 13 = .ok (.iload_n 1, 1) := by decide +kernel
theorem d_R_taken_14 : decode b_R_taken 14 = .ok (.iaload, 1) := by decide +kernel
theorem d_R_taken_15 : decode b_R_taken 15 = .ok (.iload_n 2, 1) := by decide +kernel
theorem d_R_taken_16 : decode b_R_taken 16 = .ok (.if_icmp .eq 5, 3) := by decide +kernel
theorem d_R_taken_19 : decode b_R_taken 19 = .ok (.iconst 1, 1) := by decide +kernel
theorem d_R_taken_20 : decode b_R_taken 20 = .ok (.ireturn, 1) := by decide +kernel
theorem d_R_taken_21 : decode b_R_taken 21 = .ok (.iconst 0, 1) := by decide +kernel
theorem d_R_taken_22 : decode b_R_taken 22 = .ok (.istore_n 3, 1) := by decide +kernel
theorem d_R_taken_23 : decode b_R_taken 23 = .ok (.iload_n 3, 1) := by decide +kernel
theorem d_R_taken_24 : decode b_R_taken 24 = .ok (.aload_n 0, 1) := by decide +kernel
theorem d_R_taken_25 : decode b_R_taken 25 = .ok (.getfield 72, 3) := by decide +kernel
theorem d_R_taken_28 : decode b_R_taken 28 = .ok (.if_icmp .ge 25, 3) := by decide +kernel
theorem d_R_taken_31 : decode b_R_taken 31 = .ok (.iload_n 3, 1) := by decide +kernel
theorem d_R_taken_32 : decode b_R_taken 32 = .ok (.iload_n 2, 1) := by decide +kernel
theorem d_R_taken_33 : decode b_R_taken 33 = .ok (.if_icmp .eq 14, 3) := by decide +kernel
theorem d_R_taken_36 : decode b_R_taken 36 = .ok (.aload_n 0, 1) := by decide +kernel
theorem d_R_taken_37 : decode b_R_taken 37 = .ok (.iload_n 3, 1) := by decide +kernel
theorem d_R_taken_38 : decode b_R_taken 38 = .ok (.iload_n 1, 1) := by decide +kernel
theorem d_R_taken_39 : decode b_R_taken 39 = .ok (.invokevirtual 89, 3) := by decide +kernel
theorem d_R_taken_42 : decode b_R_taken 42 = .ok (.ifCond .eq 5, 3) := by decide +kernel
theorem d_R_taken_45 : decode b_R_taken 45 = .ok (.iconst 1, 1) := by decide +kernel
theorem d_R_taken_46 : decode b_R_taken 46 = .ok (.ireturn, 1) := by decide +kernel
theorem d_R_taken_47 : decode b_R_taken 47 = .ok (.iinc 3 1, 3) := by decide +kernel
theorem d_R_taken_50 : decode b_R_taken 50 = .ok (.goto (-27), 3) := by decide +kernel
theorem d_R_taken_53 : decode b_R_taken 53 = .ok (.iconst 0, 1) := by decide +kernel
theorem d_R_taken_54 : decode b_R_taken 54 = .ok (.ireturn, 1) := by decide +kernel
def w_R_taken_47 (K23 : SR → Int32 → Int32 → Int32 → Prop) (S : SR) (y1 : Int32) (y2 : Int32) (y3 : Int32) (Q : Int32 → SR → Prop) : Prop := K23 S y1 y2 (y3 + 1)
def w_R_taken_23 : Nat → SR → Int32 → Int32 → Int32 → (Int32 → SR → Prop) → Prop
  | 0 => fun _ _ _ _ _ => False
  | n + 1 => fun S y1 y2 y3 Q => ((((S.1 3 0) ≤ y3) → (Q 0 S)) ∧ ((¬ (S.1 3 0) ≤ y3) → (((y3 = y2) → (w_R_taken_47 (fun S9 z0 z1 z2 => w_R_taken_23 n S9 z0 z1 z2 Q) S y1 y2 y3 Q)) ∧ ((¬ y3 = y2) → (w_R_isIn S y3 y1 (fun r1 S2 => ((r1 = 0) → (w_R_taken_47 (fun S9 z0 z1 z2 => w_R_taken_23 n S9 z0 z1 z2 Q) S2 y1 y2 y3 Q)) ∧ ((¬ r1 = 0) → (Q 1 S2))))))))
def w_R_taken_21 (S : SR) (y1 : Int32) (y2 : Int32) (Q : Int32 → SR → Prop) : Prop := ∃ n : Nat, w_R_taken_23 n S y1 y2 0 Q
def w_R_taken (S : SR) (x1 : Int32) (x2 : Int32) (Q : Int32 → SR → Prop) : Prop := vp_in x1 10 ∧ ((((S.1 7 x1.toNatClampNeg) < 0) → (w_R_taken_21 S x1 x2 Q)) ∧ ((¬ (S.1 7 x1.toNatClampNeg) < 0) → (vp_in x1 10 ∧ ((((S.1 7 x1.toNatClampNeg) = x2) → (w_R_taken_21 S x1 x2 Q)) ∧ ((¬ (S.1 7 x1.toNatClampNeg) = x2) → (Q 1 S))))))
set_option maxRecDepth 100000 in
set_option maxHeartbeats 4000000 in
theorem c_R_taken (l : Launch) (D : va_G) (ca : Nat → ClassId) (ad : Nat → Nat) (sz : Nat) (S : SR) (x1 : Int32) (x2 : Int32)  (Q : Int32 → SR → Prop) (h : w_R_taken S x1 x2 Q) : Met l y_R_taken (Cond.code y_R_taken b_R_taken 4 (some Jvm.ClassFile.FieldType.boolean) :: tG) ({ frames := 1, cells := 0, slots := 0, locals := 22 } : Room) (xPc D ca (wR ca ad) S sz [.ref (ad 0), .int x1, .int x2]) (va_Qi Q (xAt D (wR ca ad) (va_A (wR ca ad S) sz)) (va_A (wR ca ad S) sz)) 0 0 (va_A (wR ca ad S) sz) := by
  refine xx_met (Qf := fun A => va_Qi Q (xAt D (wR ca ad) A) A) (by decide) (Nat.le_of_ble_eq_true rfl) ?_
  intro p e s m args below meth c A ls hx hb hr hw hown hlocks hml hK hN hA hP hD hS hl
  have hown : s.vm.findClass "TrainGuardModel" = some m.cls := hown
  have hl : lv_has ls 4 [(0, .ref (ad 0)), (1, .int x1), (2, .int x2)] := hl
  unfold w_R_taken at h
  have bk_47 : ∀ (K23 : SR → Int32 → Int32 → Int32 → Prop) (hK23 : ∀ (S : SR) (y1 : Int32) (y2 : Int32) (y3 : Int32) (H : Heap) (locs : List Loc) , va_P D cls (wR ca ad S) H → va_D A (wR ca ad S) → va_S A s.heap H locs → ∀ (ls : Array Slot), lv_has ls 4 [(0, .ref (ad 0)), (1, .int y1), (2, .int y2), (3, .int y3)] → K23 S y1 y2 y3 → W p l e ({ frames := 1, cells := 0, slots := 0, locals := 22 } : Room) s m args below meth c H locs 0 0 (MQ below ((fun A => va_Qi Q (xAt D (wR ca ad) A) A) A) args s 0 0 A) (F0 m 23 ls [])) (S : SR) (y1 : Int32) (y2 : Int32) (y3 : Int32) (H : Heap) (locs : List Loc) , va_P D cls (wR ca ad S) H → va_D A (wR ca ad S) → va_S A s.heap H locs → ∀ (ls : Array Slot), lv_has ls 4 [(0, .ref (ad 0)), (1, .int y1), (2, .int y2), (3, .int y3)] → w_R_taken_47 K23 S y1 y2 y3 Q → W p l e ({ frames := 1, cells := 0, slots := 0, locals := 22 } : Room) s m args below meth c H locs 0 0 (MQ below ((fun A => va_Qi Q (xAt D (wR ca ad) A) A) A) args s 0 0 A) (F0 m 47 ls []) := by
    intro K23 hK23 S y1 y2 y3 H locs hP hD hS ls hl h
    unfold w_R_taken_47 at h
    refine lv_iinc (v := (y3 + 1)) (lv' := [(3, .int (y3 + 1)), (0, .ref (ad 0)), (1, .int y1), (2, .int y2)]) hx hb d_R_taken_47 hl (k := 3) rfl rfl (by decide) rfl (fun ls hl => ?_)
    refine lv_goto (tgt := 23) hx hb d_R_taken_50 (by decide) ?_
    exact hK23 S y1 y2 (y3 + 1) H locs hP hD hS ls (lv_sub hl [1, 2, 3, 0] rfl) h
  have bk_23 : ∀ (n9 : Nat) (S : SR) (y1 : Int32) (y2 : Int32) (y3 : Int32) (H : Heap) (locs : List Loc) , va_P D cls (wR ca ad S) H → va_D A (wR ca ad S) → va_S A s.heap H locs → ∀ (ls : Array Slot), lv_has ls 4 [(0, .ref (ad 0)), (1, .int y1), (2, .int y2), (3, .int y3)] → w_R_taken_23 n9 S y1 y2 y3 Q → W p l e ({ frames := 1, cells := 0, slots := 0, locals := 22 } : Room) s m args below meth c H locs 0 0 (MQ below ((fun A => va_Qi Q (xAt D (wR ca ad) A) A) A) args s 0 0 A) (F0 m 23 ls []) := by
    intro n9
    induction n9 with
    | zero => intro S y1 y2 y3 H locs hP hD hS ls hl h; exact absurd h id
    | succ n9 hK23 =>
      intro S y1 y2 y3 H locs hP hD hS ls hl h
      replace h : (((S.1 3 0) ≤ y3) → (Q 0 S)) ∧ ((¬ (S.1 3 0) ≤ y3) → (((y3 = y2) → (w_R_taken_47 (fun S9 z0 z1 z2 => w_R_taken_23 n9 S9 z0 z1 z2 Q) S y1 y2 y3 Q)) ∧ ((¬ y3 = y2) → (w_R_isIn S y3 y1 (fun r1 S2 => ((r1 = 0) → (w_R_taken_47 (fun S9 z0 z1 z2 => w_R_taken_23 n9 S9 z0 z1 z2 Q) S2 y1 y2 y3 Q)) ∧ ((¬ r1 = 0) → (Q 1 S2))))))) := h
      refine lv_iload_n hx hb d_R_taken_23 rfl (lv_at hl 3 rfl) ?_
      refine lv_aload_n hx hb d_R_taken_24 rfl (lv_at hl 0 rfl) ?_
      refine va_get (D := D) (ci := 4) (v := .int (S.1 3 0)) (C := Rc_R) (T := Fc_R) (N := 25) hx hb hw inc_R hown hK hP 0 rfl rfl 9 (by decide) (hw _ wd_600) (fun _ h9 => h9) rfl d_R_taken_25 ?_
      refine lv_icmp_ge (tgt := 53) hx hb d_R_taken_28 (by decide) (fun hc => ?_) (fun hc => ?_)
      · replace h := h.1 hc
        refine lv_iconst (v := 0) hx hb d_R_taken_53 (by decide) ?_
        exact W.zret (v := 0) hx hb hr rfl (fun t ht hW => ⟨⟨0, S, rfl, h, by rw [ht]; exact hP, hD⟩, hS.F ht⟩) hS.2.2 d_R_taken_54
      · replace h := h.2 hc
        refine lv_iload_n hx hb d_R_taken_31 rfl (lv_at hl 3 rfl) ?_
        refine lv_iload_n hx hb d_R_taken_32 rfl (lv_at hl 2 rfl) ?_
        refine lv_icmp_eq (tgt := 47) hx hb d_R_taken_33 (by decide) (fun hc => ?_) (fun hc => ?_)
        · replace h := h.1 hc
          exact bk_47 (fun S9 z0 z1 z2 => w_R_taken_23 n9 S9 z0 z1 z2 Q) hK23 S y1 y2 y3 H locs hP hD hS ls (lv_sub hl [0, 1, 2, 3] rfl) h
        · replace h := h.2 hc
          refine lv_aload_n hx hb d_R_taken_36 rfl (lv_at hl 0 rfl) ?_
          refine lv_iload_n hx hb d_R_taken_37 rfl (lv_at hl 3 rfl) ?_
          refine lv_iload_n hx hb d_R_taken_38 rfl (lv_at hl 1 rfl) ?_
          refine xx_calli (va_runV (As := [.int y3, .int y1]) (rest := []) ⟨hx, hb, hml, hown, hw⟩ (c_R_isIn l D ca ad H.size S y3 y1 _ h) (cwV 2 hw (tG_g gl_R_89) rfl rfl rfl (by decide +kernel) ⟨Nat.le_of_ble_eq_true rfl, Nat.le_of_ble_eq_true rfl⟩) ⟨xPc.blind, va_recv hK hP rfl (q0 := 0) rfl, xPc.pre hK hN hP hD⟩ rfl rfl hl.1 rfl (lv_room (Nat.le_of_ble_eq_true rfl)) d_R_taken_39 ⟨Nat.le_of_ble_eq_true rfl, Nat.le_of_ble_eq_true rfl⟩) hD hS hA (fun r1 S2 H locs h hP hD hS => ?_)
          refine lv_if_eq (tgt := 47) hx hb d_R_taken_42 (by decide) (fun hc => ?_) (fun hc => ?_)
          · replace h := h.1 hc
            exact bk_47 (fun S9 z0 z1 z2 => w_R_taken_23 n9 S9 z0 z1 z2 Q) hK23 S2 y1 y2 y3 H locs hP hD hS ls (lv_sub hl [0, 1, 2, 3] rfl) h
          · replace h := h.2 hc
            refine lv_iconst (v := 1) hx hb d_R_taken_45 (by decide) ?_
            exact W.zret (v := 1) hx hb hr rfl (fun t ht hW => ⟨⟨1, S2, rfl, h, by rw [ht]; exact hP, hD⟩, hS.F ht⟩) hS.2.2 d_R_taken_46
  have bk_21 : ∀ (S : SR) (y1 : Int32) (y2 : Int32) (H : Heap) (locs : List Loc) , va_P D cls (wR ca ad S) H → va_D A (wR ca ad S) → va_S A s.heap H locs → ∀ (ls : Array Slot), lv_has ls 4 [(0, .ref (ad 0)), (1, .int y1), (2, .int y2)] → w_R_taken_21 S y1 y2 Q → W p l e ({ frames := 1, cells := 0, slots := 0, locals := 22 } : Room) s m args below meth c H locs 0 0 (MQ below ((fun A => va_Qi Q (xAt D (wR ca ad) A) A) A) args s 0 0 A) (F0 m 21 ls []) := by
    intro S y1 y2 H locs hP hD hS ls hl h
    unfold w_R_taken_21 at h
    refine lv_iconst (v := 0) hx hb d_R_taken_21 (by decide) ?_
    refine lv_istore_n (lv' := [(3, .int 0), (0, .ref (ad 0)), (1, .int y1), (2, .int y2)]) hx hb d_R_taken_22 rfl hl (by decide) rfl (fun ls hl => ?_)
    obtain ⟨n9, h⟩ := h
    exact bk_23 n9 S y1 y2 0 H locs hP hD hS ls (lv_sub hl [1, 2, 3, 0] rfl) h
  have hH9 : ∀ H : Heap, H = s.heap → va_P D cls (wR ca ad S) H → va_S A s.heap H [] → W p l e ({ frames := 1, cells := 0, slots := 0, locals := 22 } : Room) s m args below meth c H [] 0 0 (MQ below ((fun A => va_Qi Q (xAt D (wR ca ad) A) A) A) args s 0 0 A) (F0 m 0 ls []) := by
    clear hP hS
    intro H hH hP hS
    obtain ⟨locs, hlo⟩ : ∃ z : List Loc, z = [] := ⟨_, rfl⟩
    rw [← hlo] at hS ⊢
    refine lv_aload_n hx hb d_R_taken_0 rfl (lv_at hl 0 rfl) ?_
    refine va_get (D := D) (ci := 4) (v := .ref (ad 3)) (C := Rc_R) (T := Fc_R) (N := 25) hx hb hw inc_R hown hK hP 0 rfl rfl 4 (by decide) (hw _ wd_595) (fun _ h9 => h9) rfl d_R_taken_1 ?_
    refine lv_iload_n hx hb d_R_taken_4 rfl (lv_at hl 1 rfl) ?_
    obtain ⟨hq, h⟩ := h
    refine va_iald (D := D) hx hb hK hP 3 0 rfl rfl hq d_R_taken_5 ?_
    refine lv_if_lt (tgt := 21) hx hb d_R_taken_6 (by decide) (fun hc => ?_) (fun hc => ?_)
    · replace h := h.1 hc
      exact bk_21 S x1 x2 H locs hP hD hS ls (lv_sub hl [0, 1, 2] rfl) h
    · replace h := h.2 hc
      refine lv_aload_n hx hb d_R_taken_9 rfl (lv_at hl 0 rfl) ?_
      refine va_get (D := D) (ci := 4) (v := .ref (ad 3)) (C := Rc_R) (T := Fc_R) (N := 25) hx hb hw inc_R hown hK hP 0 rfl rfl 4 (by decide) (hw _ wd_595) (fun _ h9 => h9) rfl d_R_taken_10 ?_
      refine lv_iload_n hx hb d_R_taken_13 rfl (lv_at hl 1 rfl) ?_
      obtain ⟨hq, h⟩ := h
      refine va_iald (D := D) hx hb hK hP 3 0 rfl rfl hq d_R_taken_14 ?_
      refine lv_iload_n hx hb d_R_taken_15 rfl (lv_at hl 2 rfl) ?_
      refine lv_icmp_eq (tgt := 21) hx hb d_R_taken_16 (by decide) (fun hc => ?_) (fun hc => ?_)
      · replace h := h.1 hc
        exact bk_21 S x1 x2 H locs hP hD hS ls (lv_sub hl [0, 1, 2] rfl) h
      · replace h := h.2 hc
        refine lv_iconst (v := 1) hx hb d_R_taken_19 (by decide) ?_
        exact W.zret (v := 1) hx hb hr rfl (fun t ht hW => ⟨⟨1, S, rfl, h, by rw [ht]; exact hP, hD⟩, hS.F ht⟩) hS.2.2 d_R_taken_20
  exact hH9 _ rfl hP hS
theorem d_R_section_0 : decode b_R_section 0 = .ok (.dload_n 1, 1) := by decide +kernel
theorem d_R_section_1 : decode b_R_section 1 = .ok (.ldc2_w 93, 3) := by decide +kernel
theorem d_R_section_4 : decode b_R_section 4 = .ok (.ldc2_w 95, 3) := by decide +kernel
theorem d_R_section_7 : decode b_R_section 7 = .ok (.invokestatic 97, 3) := by decide +kernel
theorem d_R_section_10 : decode b_R_section 10 = .ok (.ifCond .eq 14, 3) := by decide +kernel
theorem d_R_section_13 : decode b_R_section 13 = .ok (.dload_n 3, 1) := by decide +kernel
theorem d_R_section_14 : decode b_R_section 14 = .ok (.dconst 1, 1) := by decide +kernel
theorem d_R_section_15 : decode b_R_section 15 = .ok (.ldc2_w 101, 3) := by decide +kernel
theorem d_R_section_18 : decode b_R_section 18 = .ok (.invokestatic 97, 3) := by decide +kernel
theorem d_R_section_21 : decode b_R_section 21 = .ok (.ifCond .ne 9, 3) := by decide +kernel
theorem d_R_section_24 : decode b_R_section 24 = .ok (.aload_n 0, 1) := by decide +kernel
theorem d_R_section_25 : decode b_R_section 25 = .ok (.iconst 1, 1) := by decide +kernel
theorem d_R_section_26 : decode b_R_section 26 = .ok (.invokevirtual 103, 3) := by decide +kernel
theorem d_R_section_29 : decode b_R_section 29 = .ok (.ireturn, 1) := by decide +kernel
theorem d_R_section_30 : decode b_R_section 30 = .ok (.aload_n 0, 1) := by decide +kernel
theorem d_R_section_31 : decode b_R_section 31 = .ok (.getfield 72, 3) := by decide +kernel
theorem d_R_section_34 : decode b_R_section 34 = .ok (.ifCond .gt 12, 3) := by decide +kernel
theorem d_R_section_37 : decode b_R_section 37 = .ok (.aload_n 0, 1) := by decide +kernel
theorem d_R_section_38 : decode b_R_section 38 = .ok (.getfield 79, 3) := by decide +kernel
theorem d_R_section_41 : decode b_R_section 41 = .ok (.bipush 10, 2) := by decide +kernel
theorem d_R_section_43 : decode b_R_section 43 = .ok (.if_icmp .ne 9, 3) := by decide +kernel
theorem d_R_section_46 : decode b_R_section 46 = .ok (.aload_n 0, 1) := by decide +kernel
theorem d_R_section_47 : decode b_R_section 47 = .ok (.iconst 3, 1) := by decide +kernel
theorem d_R_section_48 : decode b_R_section 48 = .ok (.invokevirtual 103, 3) := by decide +kernel
theorem d_R_section_51 : decode b_R_section 51 = .ok (.ireturn, 1) := by decide +kernel
theorem d_R_section_52 : decode b_R_section 52 = .ok (.aload_n 0, 1) := by decide +kernel
theorem d_R_section_53 : decode b_R_section 53 = .ok (.getfield 13, 3) := by decide +kernel
theorem d_R_section_56 : decode b_R_section 56 = .ok (.aload_n 0, 1) := by decide +kernel
theorem d_R_section_57 : decode b_R_section 57 = .ok (.getfield 79, 3) := by decide +kernel
theorem d_R_section_60 : decode b_R_section 60 = .ok (.dload_n 3, 1) := by decide +kernel
theorem d_R_section_61 : decode b_R_section 61 = .ok (.invokestatic 107, 3) := by decide +kernel
theorem d_R_section_64 : decode b_R_section 64 = .ok (.lastore, 1) := by decide +kernel
theorem d_R_section_65 : decode b_R_section 65 = .ok (.aload_n 0, 1) := by decide +kernel
theorem d_R_section_66 : decode b_R_section 66 = .ok (.getfield 16, 3) := by decide +kernel
theorem d_R_section_69 : decode b_R_section 69 = .ok (.aload_n 0, 1) := by decide +kernel
theorem d_R_section_70 : decode b_R_section 70 = .ok (.getfield 79, 3) := by decide +kernel
theorem d_R_section_73 : decode b_R_section 73 = .ok (.iconst (-1), 1) := by decide +kernel
theorem d_R_section_74 : decode b_R_section 74 = .ok (.iastore, 1) := by decide +kernel
theorem d_R_section_75 : decode b_R_section 75 = .ok (.aload_n 0, 1) := by decide +kernel
theorem d_R_section_76 : decode b_R_section 76 = .ok (.getfield 7, 3) := by decide +kernel
theorem d_R_section_79 : decode b_R_section 79 = .ok (.aload_n 0, 1) := by decide +kernel
theorem d_R_section_80 : decode b_R_section 80 = .ok (.getfield 79, 3) := by decide +kernel
theorem d_R_section_83 : decode b_R_section 83 = .ok (.iconst 1, 1) := by decide +kernel
theorem d_R_section_84 : decode b_R_section 84 = .ok (.iadd, 1) := by decide +kernel
theorem d_R_section_85 : decode b_R_section 85 = .ok (.aload_n 0, 1) := by decide +kernel
theorem d_R_section_86 : decode b_R_section 86 = .ok (.getfield 7, 3) := by decide +kernel
theorem d_R_section_89 : decode b_R_section 89 = .ok (.aload_n 0, 1) := by decide +kernel
theorem d_R_section_90 : decode b_R_section 90 = .ok (.getfield 79, 3) := by decide +kernel
theorem d_R_section_93 : decode b_R_section 93 = .ok (.laload, 1) := by decide +kernel
theorem d_R_section_94 : decode b_R_section 94 = .ok (.dload_n 1, 1) := by decide +kernel
theorem d_R_section_95 : decode b_R_section 95 = .ok (.invokestatic 107, 3) := by decide +kernel
theorem d_R_section_98 : decode b_R_section 98 = .ok (.ladd, 1) := by decide +kernel
theorem d_R_section_99 : decode b_R_section 99 = .ok (.lastore, 1) := by decide +kernel
theorem d_R_section_100 : decode b_R_section 100 = .ok (.aload_n 0, 1) := by decide +kernel
theorem d_R_section_101 : decode b_R_section 101 = .ok (.dup, 1) := by decide +kernel
theorem d_R_section_102 : decode b_R_section 102 = .ok (.getfield 79, 3) := by decide +kernel
theorem d_R_section_105 : decode b_R_section 105 = .ok (.iconst 1, 1) := by decide +kernel
theorem d_R_section_106 : decode b_R_section 106 = .ok (.iadd, 1) := by decide +kernel
theorem d_R_section_107 : decode b_R_section 107 = .ok (.putfield 79, 3) := by decide +kernel
theorem d_R_section_110 : decode b_R_section 110 = .ok (.aload_n 0, 1) := by decide +kernel
theorem d_R_section_111 : decode b_R_section 111 = .ok (.aload_n 0, 1) := by decide +kernel
theorem d_R_section_112 : decode b_R_section 112 = .ok (.getfield 79, 3) := by decide +kernel
theorem d_R_section_115 : decode b_R_section 115 = .ok (.iconst 1, 1) := by decide +kernel
theorem d_R_section_116 : decode b_R_section 116 = .ok (.isub, 1) := by decide +kernel
theorem d_R_section_117 : decode b_R_section 117 = .ok (.invokevirtual 111, 3) := by decide +kernel
theorem d_R_section_120 : decode b_R_section 120 = .ok (.ireturn, 1) := by decide +kernel
theorem gl_R_97 : ∀ w ∈ wsS "TrainGuardModel" 97 y_R_between (Cond.code y_R_between b_R_between 6 (some Jvm.ClassFile.FieldType.boolean) :: tG), w ∈ tG := by
  intro x hx
  simp only [wsS, List.cons_append, List.nil_append, List.mem_cons] at hx
  rcases hx with rfl | rfl | rfl | rfl | hx
  · exact wd_679
  · exact wd_680
  · exact wd_5
  · exact wd_681
  · exact hx
theorem gl_R_103 : ∀ w ∈ wsV "TrainGuardModel" 103 "TrainGuardModel" y_R_fail (Cond.code y_R_fail b_R_fail 2 (some Jvm.ClassFile.FieldType.int) :: tG), w ∈ tG := by
  intro x hx
  simp only [wsV, List.cons_append, List.nil_append, List.mem_cons] at hx
  rcases hx with rfl | rfl | rfl | rfl | rfl | hx
  · exact wd_683
  · exact wd_685
  · exact ws_17
  · exact wd_5
  · exact wd_686
  · exact hx
theorem gl_R_107 : ∀ w ∈ wsS "TrainGuardModel" 107 y_R_whole (Cond.code y_R_whole b_R_whole 2 (some Jvm.ClassFile.FieldType.long) :: tG), w ∈ tG := by
  intro x hx
  simp only [wsS, List.cons_append, List.nil_append, List.mem_cons] at hx
  rcases hx with rfl | rfl | rfl | rfl | hx
  · exact wd_687
  · exact wd_688
  · exact wd_5
  · exact wd_689
  · exact hx
theorem gl_R_111 : ∀ w ∈ wsV "TrainGuardModel" 111 "TrainGuardModel" y_R_answer (Cond.code y_R_answer b_R_answer 2 (some Jvm.ClassFile.FieldType.int) :: tG), w ∈ tG := by
  intro x hx
  simp only [wsV, List.cons_append, List.nil_append, List.mem_cons] at hx
  rcases hx with rfl | rfl | rfl | rfl | rfl | hx
  · exact wd_691
  · exact wd_693
  · exact ws_18
  · exact wd_5
  · exact wd_694
  · exact hx
def w_R_section (S : SR) (x1 : UInt64) (x2 : UInt64) (Q : Int32 → SR → Prop) : Prop := w_R_between S x1 (4632233691727265792 : UInt64) (4652007308841189376 : UInt64) (fun r1 S2 => ((r1 = 0) → (w_R_fail S2 1 (fun r3 S4 => Q r3 S4))) ∧ ((¬ r1 = 0) → (w_R_between S2 x2 FP.dconst1 (4633641066610819072 : UInt64) (fun r5 S6 => ((¬ r5 = 0) → (((0 < (S6.1 3 0)) → (w_R_fail S6 3 (fun r7 S8 => Q r7 S8))) ∧ ((¬ 0 < (S6.1 3 0)) → (((¬ (S6.1 1 0) = 10) → (w_R_whole S6 x2 (fun r9 S10 => vp_in (S6.1 1 0) 10 ∧ (vp_in ((pV S10 1 (S6.1 1 0).toNatClampNeg r9).1 1 0) 10 ∧ (∀ a11 : Int32, a11 = ((pI (pV S10 1 (S6.1 1 0).toNatClampNeg r9) 7 ((pV S10 1 (S6.1 1 0).toNatClampNeg r9).1 1 0).toNatClampNeg (-1)).1 1 0) + 1 → (vp_in ((pI (pV S10 1 (S6.1 1 0).toNatClampNeg r9) 7 ((pV S10 1 (S6.1 1 0).toNatClampNeg r9).1 1 0).toNatClampNeg (-1)).1 1 0) 11 ∧ (w_R_whole (pI (pV S10 1 (S6.1 1 0).toNatClampNeg r9) 7 ((pV S10 1 (S6.1 1 0).toNatClampNeg r9).1 1 0).toNatClampNeg (-1)) x1 (fun r12 S13 => ∀ b14 : Int64, b14 = ((pI (pV S10 1 (S6.1 1 0).toNatClampNeg r9) 7 ((pV S10 1 (S6.1 1 0).toNatClampNeg r9).1 1 0).toNatClampNeg (-1)).2 0 ((pI (pV S10 1 (S6.1 1 0).toNatClampNeg r9) 7 ((pV S10 1 (S6.1 1 0).toNatClampNeg r9).1 1 0).toNatClampNeg (-1)).1 1 0).toNatClampNeg) + r12 → (vp_in a11 11 ∧ (∀ a15 : Int32, a15 = ((pV S13 0 a11.toNatClampNeg b14).1 1 0) + 1 → (∀ a16 : Int32, a16 = ((pI (pV S13 0 a11.toNatClampNeg b14) 1 0 a15).1 1 0) - 1 → (w_R_answer (pI (pV S13 0 a11.toNatClampNeg b14) 1 0 a15) a16 (fun r17 S18 => Q r17 S18))))))))))))) ∧ (((S6.1 1 0) = 10) → (w_R_fail S6 3 (fun r19 S20 => Q r19 S20))))))) ∧ ((r5 = 0) → (w_R_fail S6 1 (fun r21 S22 => Q r21 S22)))))))
set_option maxRecDepth 100000 in
set_option maxHeartbeats 4000000 in
theorem c_R_section (l : Launch) (D : va_G) (ca : Nat → ClassId) (ad : Nat → Nat) (sz : Nat) (S : SR) (x1 : UInt64) (x2 : UInt64)  (Q : Int32 → SR → Prop) (h : w_R_section S x1 x2 Q) : Met l y_R_section (Cond.code y_R_section b_R_section 5 (some Jvm.ClassFile.FieldType.int) :: tG) ({ frames := 1, cells := 0, slots := 0, locals := 25 } : Room) (xPc D ca (wR ca ad) S sz [.ref (ad 0), .double x1, .double x2]) (va_Qi Q (xAt D (wR ca ad) (va_A (wR ca ad S) sz)) (va_A (wR ca ad S) sz)) 0 0 (va_A (wR ca ad S) sz) := by
  refine xx_met (Qf := fun A => va_Qi Q (xAt D (wR ca ad) A) A) (by decide) (Nat.le_of_ble_eq_true rfl) ?_
  intro p e s m args below meth c A ls hx hb hr hw hown hlocks hml hK hN hA hP hD hS hl
  have hown : s.vm.findClass "TrainGuardModel" = some m.cls := hown
  have hl : lv_has ls 5 [(0, .ref (ad 0)), (1, .double x1), (3, .double x2)] := hl
  unfold w_R_section at h
  have hH9 : ∀ H : Heap, H = s.heap → va_P D cls (wR ca ad S) H → va_S A s.heap H [] → W p l e ({ frames := 1, cells := 0, slots := 0, locals := 25 } : Room) s m args below meth c H [] 0 0 (MQ below ((fun A => va_Qi Q (xAt D (wR ca ad) A) A) A) args s 0 0 A) (F0 m 0 ls []) := by
    clear hP hS
    intro H hH hP hS
    obtain ⟨locs, hlo⟩ : ∃ z : List Loc, z = [] := ⟨_, rfl⟩
    rw [← hlo] at hS ⊢
    refine lv_dload_n hx hb d_R_section_0 rfl (lv_at hl 1 rfl) ?_
    refine lv_ldc2d hx hb hown (hw _ wd_677) d_R_section_1 ?_
    refine lv_ldc2d hx hb hown (hw _ wd_678) d_R_section_4 ?_
    refine xx_calli (va_runS (As := [.double x1, .double (4632233691727265792 : UInt64), .double (4652007308841189376 : UInt64)]) (rest := []) ⟨hx, hb, hml, hown, hw⟩ (c_R_between l D ca ad H.size S x1 (4632233691727265792 : UInt64) (4652007308841189376 : UInt64) _ h) (cwS 3 hw (tG_g gl_R_97) rfl rfl rfl (by decide +kernel) ⟨Nat.le_of_ble_eq_true rfl, Nat.le_of_ble_eq_true rfl⟩) ⟨xPc.blind, xPc.pre hK hN hP hD⟩ rfl rfl hl.1 rfl (lv_room (Nat.le_of_ble_eq_true rfl)) d_R_section_7 ⟨Nat.le_of_ble_eq_true rfl, Nat.le_of_ble_eq_true rfl⟩) hD hS hA (fun r1 S2 H locs h hP hD hS => ?_)
    refine lv_if_eq (tgt := 24) hx hb d_R_section_10 (by decide) (fun hc => ?_) (fun hc => ?_)
    · replace h := h.1 hc
      refine lv_aload_n hx hb d_R_section_24 rfl (lv_at hl 0 rfl) ?_
      refine lv_iconst (v := 1) hx hb d_R_section_25 (by decide) ?_
      refine xx_calli (va_runV (As := [.int 1]) (rest := []) ⟨hx, hb, hml, hown, hw⟩ (c_R_fail l D ca ad H.size S2 1 _ h) (cwV 1 hw (tG_g gl_R_103) rfl rfl rfl (by decide +kernel) ⟨Nat.le_of_ble_eq_true rfl, Nat.le_of_ble_eq_true rfl⟩) ⟨xPc.blind, va_recv hK hP rfl (q0 := 0) rfl, xPc.pre hK hN hP hD⟩ rfl rfl hl.1 rfl (lv_room (Nat.le_of_ble_eq_true rfl)) d_R_section_26 ⟨Nat.le_of_ble_eq_true rfl, Nat.le_of_ble_eq_true rfl⟩) hD hS hA (fun r3 S4 H locs h hP hD hS => ?_)
      exact W.iret (v := r3) hx hb hr (fun t ht hW => ⟨⟨r3, S4, rfl, h, by rw [ht]; exact hP, hD⟩, hS.F ht⟩) hS.2.2 d_R_section_29
    · replace h := h.2 hc
      refine lv_dload_n hx hb d_R_section_13 rfl (lv_at hl 2 rfl) ?_
      refine lv_dconst1 hx hb d_R_section_14 ?_
      refine lv_ldc2d hx hb hown (hw _ wd_682) d_R_section_15 ?_
      refine xx_calli (va_runS (As := [.double x2, .double FP.dconst1, .double (4633641066610819072 : UInt64)]) (rest := []) ⟨hx, hb, hml, hown, hw⟩ (c_R_between l D ca ad H.size S2 x2 FP.dconst1 (4633641066610819072 : UInt64) _ h) (cwS 3 hw (tG_g gl_R_97) rfl rfl rfl (by decide +kernel) ⟨Nat.le_of_ble_eq_true rfl, Nat.le_of_ble_eq_true rfl⟩) ⟨xPc.blind, xPc.pre hK hN hP hD⟩ rfl rfl hl.1 rfl (lv_room (Nat.le_of_ble_eq_true rfl)) d_R_section_18 ⟨Nat.le_of_ble_eq_true rfl, Nat.le_of_ble_eq_true rfl⟩) hD hS hA (fun r5 S6 H locs h hP hD hS => ?_)
      refine lv_if_ne (tgt := 30) hx hb d_R_section_21 (by decide) (fun hc => ?_) (fun hc => ?_)
      · replace h := h.1 hc
        refine lv_aload_n hx hb d_R_section_30 rfl (lv_at hl 0 rfl) ?_
        refine va_get (D := D) (ci := 4) (v := .int (S6.1 3 0)) (C := Rc_R) (T := Fc_R) (N := 25) hx hb hw inc_R hown hK hP 0 rfl rfl 9 (by decide) (hw _ wd_600) (fun _ h9 => h9) rfl d_R_section_31 ?_
        refine lv_if_gt (tgt := 46) hx hb d_R_section_34 (by decide) (fun hc => ?_) (fun hc => ?_)
        · replace h := h.1 hc
          refine lv_aload_n hx hb d_R_section_46 rfl (lv_at hl 0 rfl) ?_
          refine lv_iconst (v := 3) hx hb d_R_section_47 (by decide) ?_
          refine xx_calli (va_runV (As := [.int 3]) (rest := []) ⟨hx, hb, hml, hown, hw⟩ (c_R_fail l D ca ad H.size S6 3 _ h) (cwV 1 hw (tG_g gl_R_103) rfl rfl rfl (by decide +kernel) ⟨Nat.le_of_ble_eq_true rfl, Nat.le_of_ble_eq_true rfl⟩) ⟨xPc.blind, va_recv hK hP rfl (q0 := 0) rfl, xPc.pre hK hN hP hD⟩ rfl rfl hl.1 rfl (lv_room (Nat.le_of_ble_eq_true rfl)) d_R_section_48 ⟨Nat.le_of_ble_eq_true rfl, Nat.le_of_ble_eq_true rfl⟩) hD hS hA (fun r7 S8 H locs h hP hD hS => ?_)
          exact W.iret (v := r7) hx hb hr (fun t ht hW => ⟨⟨r7, S8, rfl, h, by rw [ht]; exact hP, hD⟩, hS.F ht⟩) hS.2.2 d_R_section_51
        · replace h := h.2 hc
          refine lv_aload_n hx hb d_R_section_37 rfl (lv_at hl 0 rfl) ?_
          refine va_get (D := D) (ci := 4) (v := .int (S6.1 1 0)) (C := Rc_R) (T := Fc_R) (N := 25) hx hb hw inc_R hown hK hP 0 rfl rfl 1 (by decide) (hw _ wd_592) (fun _ h9 => h9) rfl d_R_section_38 ?_
          refine lv_bipush (v := 10) hx hb d_R_section_41 (by decide) ?_
          refine lv_icmp_ne (tgt := 52) hx hb d_R_section_43 (by decide) (fun hc => ?_) (fun hc => ?_)
          · replace h := h.1 hc
            refine lv_aload_n hx hb d_R_section_52 rfl (lv_at hl 0 rfl) ?_
            refine va_get (D := D) (ci := 4) (v := .ref (ad 2)) (C := Rc_R) (T := Fc_R) (N := 25) hx hb hw inc_R hown hK hP 0 rfl rfl 3 (by decide) (hw _ wd_594) (fun _ h9 => h9) rfl d_R_section_53 ?_
            refine lv_aload_n hx hb d_R_section_56 rfl (lv_at hl 0 rfl) ?_
            refine va_get (D := D) (ci := 4) (v := .int (S6.1 1 0)) (C := Rc_R) (T := Fc_R) (N := 25) hx hb hw inc_R hown hK hP 0 rfl rfl 1 (by decide) (hw _ wd_592) (fun _ h9 => h9) rfl d_R_section_57 ?_
            refine lv_dload_n hx hb d_R_section_60 rfl (lv_at hl 2 rfl) ?_
            refine xx_calll (va_runS (As := [.double x2]) (rest := [.int (S6.1 1 0), .ref (ad 2)]) ⟨hx, hb, hml, hown, hw⟩ (c_R_whole l D ca ad H.size S6 x2 _ h) (cwS 1 hw (tG_g gl_R_107) rfl rfl rfl (by decide +kernel) ⟨Nat.le_of_ble_eq_true rfl, Nat.le_of_ble_eq_true rfl⟩) ⟨xPc.blind, xPc.pre hK hN hP hD⟩ rfl rfl hl.1 rfl (lv_room (Nat.le_of_ble_eq_true rfl)) d_R_section_61 ⟨Nat.le_of_ble_eq_true rfl, Nat.le_of_ble_eq_true rfl⟩) hD hS hA (fun r9 S10 H locs h hP hD hS => ?_)
            obtain ⟨hq, h⟩ := h
            refine va_last (D := D) hx hb hK hP hD hS 2 1 rfl rfl hq d_R_section_64 (fun H locs hP hD hS => ?_)
            rw [pt_R_speedOf] at hP hD
            refine lv_aload_n hx hb d_R_section_65 rfl (lv_at hl 0 rfl) ?_
            refine va_get (D := D) (ci := 4) (v := .ref (ad 3)) (C := Rc_R) (T := Fc_R) (N := 25) hx hb hw inc_R hown hK hP 0 rfl rfl 4 (by decide) (hw _ wd_595) (fun _ h9 => h9) rfl d_R_section_66 ?_
            refine lv_aload_n hx hb d_R_section_69 rfl (lv_at hl 0 rfl) ?_
            refine va_get (D := D) (ci := 4) (v := .int ((pV S10 1 (S6.1 1 0).toNatClampNeg r9).1 1 0)) (C := Rc_R) (T := Fc_R) (N := 25) hx hb hw inc_R hown hK hP 0 rfl rfl 1 (by decide) (hw _ wd_592) (fun _ h9 => h9) rfl d_R_section_70 ?_
            refine lv_iconst (v := (-1)) hx hb d_R_section_73 (by decide) ?_
            obtain ⟨hq, h⟩ := h
            refine va_iast (D := D) hx hb hK hP hD hS 3 0 rfl rfl hq d_R_section_74 (fun H locs hP hD hS => ?_)
            rw [pt_R_held] at hP hD
            refine lv_aload_n hx hb d_R_section_75 rfl (lv_at hl 0 rfl) ?_
            refine va_get (D := D) (ci := 4) (v := .ref (ad 1)) (C := Rc_R) (T := Fc_R) (N := 25) hx hb hw inc_R hown hK hP 0 rfl rfl 2 (by decide) (hw _ wd_593) (fun _ h9 => h9) rfl d_R_section_76 ?_
            refine lv_aload_n hx hb d_R_section_79 rfl (lv_at hl 0 rfl) ?_
            refine va_get (D := D) (ci := 4) (v := .int ((pI (pV S10 1 (S6.1 1 0).toNatClampNeg r9) 7 ((pV S10 1 (S6.1 1 0).toNatClampNeg r9).1 1 0).toNatClampNeg (-1)).1 1 0)) (C := Rc_R) (T := Fc_R) (N := 25) hx hb hw inc_R hown hK hP 0 rfl rfl 1 (by decide) (hw _ wd_592) (fun _ h9 => h9) rfl d_R_section_80 ?_
            refine lv_iconst (v := 1) hx hb d_R_section_83 (by decide) ?_
            refine lv_iadd hx hb d_R_section_84 ?_
            refine lv_topi (fun a11 e_a11 => ?_)
            replace h := h a11 e_a11
            refine lv_aload_n hx hb d_R_section_85 rfl (lv_at hl 0 rfl) ?_
            refine va_get (D := D) (ci := 4) (v := .ref (ad 1)) (C := Rc_R) (T := Fc_R) (N := 25) hx hb hw inc_R hown hK hP 0 rfl rfl 2 (by decide) (hw _ wd_593) (fun _ h9 => h9) rfl d_R_section_86 ?_
            refine lv_aload_n hx hb d_R_section_89 rfl (lv_at hl 0 rfl) ?_
            refine va_get (D := D) (ci := 4) (v := .int ((pI (pV S10 1 (S6.1 1 0).toNatClampNeg r9) 7 ((pV S10 1 (S6.1 1 0).toNatClampNeg r9).1 1 0).toNatClampNeg (-1)).1 1 0)) (C := Rc_R) (T := Fc_R) (N := 25) hx hb hw inc_R hown hK hP 0 rfl rfl 1 (by decide) (hw _ wd_592) (fun _ h9 => h9) rfl d_R_section_90 ?_
            obtain ⟨hq, h⟩ := h
            refine va_lald (D := D) hx hb hK hP 1 1 rfl rfl hq d_R_section_93 ?_
            refine lv_dload_n hx hb d_R_section_94 rfl (lv_at hl 1 rfl) ?_
            refine xx_calll (va_runS (As := [.double x1]) (rest := [.long ((pI (pV S10 1 (S6.1 1 0).toNatClampNeg r9) 7 ((pV S10 1 (S6.1 1 0).toNatClampNeg r9).1 1 0).toNatClampNeg (-1)).2 0 ((pI (pV S10 1 (S6.1 1 0).toNatClampNeg r9) 7 ((pV S10 1 (S6.1 1 0).toNatClampNeg r9).1 1 0).toNatClampNeg (-1)).1 1 0).toNatClampNeg), .int a11, .ref (ad 1)]) ⟨hx, hb, hml, hown, hw⟩ (c_R_whole l D ca ad H.size (pI (pV S10 1 (S6.1 1 0).toNatClampNeg r9) 7 ((pV S10 1 (S6.1 1 0).toNatClampNeg r9).1 1 0).toNatClampNeg (-1)) x1 _ h) (cwS 1 hw (tG_g gl_R_107) rfl rfl rfl (by decide +kernel) ⟨Nat.le_of_ble_eq_true rfl, Nat.le_of_ble_eq_true rfl⟩) ⟨xPc.blind, xPc.pre hK hN hP hD⟩ rfl rfl hl.1 rfl (lv_room (Nat.le_of_ble_eq_true rfl)) d_R_section_95 ⟨Nat.le_of_ble_eq_true rfl, Nat.le_of_ble_eq_true rfl⟩) hD hS hA (fun r12 S13 H locs h hP hD hS => ?_)
            refine lv_ladd hx hb d_R_section_98 ?_
            refine lv_topl (fun b14 e_b14 => ?_)
            replace h := h b14 e_b14
            obtain ⟨hq, h⟩ := h
            refine va_last (D := D) hx hb hK hP hD hS 1 1 rfl rfl hq d_R_section_99 (fun H locs hP hD hS => ?_)
            rw [pt_R_begin] at hP hD
            refine lv_aload_n hx hb d_R_section_100 rfl (lv_at hl 0 rfl) ?_
            refine lv_dup hx hb d_R_section_101 rfl ?_
            refine va_get (D := D) (ci := 4) (v := .int ((pV S13 0 a11.toNatClampNeg b14).1 1 0)) (C := Rc_R) (T := Fc_R) (N := 25) hx hb hw inc_R hown hK hP 0 rfl rfl 1 (by decide) (hw _ wd_592) (fun _ h9 => h9) rfl d_R_section_102 ?_
            refine lv_iconst (v := 1) hx hb d_R_section_105 (by decide) ?_
            refine lv_iadd hx hb d_R_section_106 ?_
            refine lv_topi (fun a15 e_a15 => ?_)
            replace h := h a15 e_a15
            refine va_put (D := D) (ci := 4) (v := .int a15) (ty := .int) (C := Rc_R) (T := Fc_R) (N := 25) hx hb hw inc_R tc_R tc_R_ok nc_R hown hK hP hD hS 0 rfl rfl 1 (by decide) (hw _ wd_592) (fun _ h9 => h9) rfl (by decide +kernel) rfl rfl (Nat.le_of_ble_eq_true rfl) d_R_section_107 (fun H locs hP hD hS => ?_)
            rw [pt_R_sections] at hP hD
            refine lv_aload_n hx hb d_R_section_110 rfl (lv_at hl 0 rfl) ?_
            refine lv_aload_n hx hb d_R_section_111 rfl (lv_at hl 0 rfl) ?_
            refine va_get (D := D) (ci := 4) (v := .int ((pI (pV S13 0 a11.toNatClampNeg b14) 1 0 a15).1 1 0)) (C := Rc_R) (T := Fc_R) (N := 25) hx hb hw inc_R hown hK hP 0 rfl rfl 1 (by decide) (hw _ wd_592) (fun _ h9 => h9) rfl d_R_section_112 ?_
            refine lv_iconst (v := 1) hx hb d_R_section_115 (by decide) ?_
            refine lv_isub hx hb d_R_section_116 ?_
            refine lv_topi (fun a16 e_a16 => ?_)
            replace h := h a16 e_a16
            refine xx_calli (va_runV (As := [.int a16]) (rest := []) ⟨hx, hb, hml, hown, hw⟩ (c_R_answer l D ca ad H.size (pI (pV S13 0 a11.toNatClampNeg b14) 1 0 a15) a16 _ h) (cwV 1 hw (tG_g gl_R_111) rfl rfl rfl (by decide +kernel) ⟨Nat.le_of_ble_eq_true rfl, Nat.le_of_ble_eq_true rfl⟩) ⟨xPc.blind, va_recv hK hP rfl (q0 := 0) rfl, xPc.pre hK hN hP hD⟩ rfl rfl hl.1 rfl (lv_room (Nat.le_of_ble_eq_true rfl)) d_R_section_117 ⟨Nat.le_of_ble_eq_true rfl, Nat.le_of_ble_eq_true rfl⟩) hD hS hA (fun r17 S18 H locs h hP hD hS => ?_)
            exact W.iret (v := r17) hx hb hr (fun t ht hW => ⟨⟨r17, S18, rfl, h, by rw [ht]; exact hP, hD⟩, hS.F ht⟩) hS.2.2 d_R_section_120
          · replace h := h.2 hc
            refine lv_aload_n hx hb d_R_section_46 rfl (lv_at hl 0 rfl) ?_
            refine lv_iconst (v := 3) hx hb d_R_section_47 (by decide) ?_
            refine xx_calli (va_runV (As := [.int 3]) (rest := []) ⟨hx, hb, hml, hown, hw⟩ (c_R_fail l D ca ad H.size S6 3 _ h) (cwV 1 hw (tG_g gl_R_103) rfl rfl rfl (by decide +kernel) ⟨Nat.le_of_ble_eq_true rfl, Nat.le_of_ble_eq_true rfl⟩) ⟨xPc.blind, va_recv hK hP rfl (q0 := 0) rfl, xPc.pre hK hN hP hD⟩ rfl rfl hl.1 rfl (lv_room (Nat.le_of_ble_eq_true rfl)) d_R_section_48 ⟨Nat.le_of_ble_eq_true rfl, Nat.le_of_ble_eq_true rfl⟩) hD hS hA (fun r19 S20 H locs h hP hD hS => ?_)
            exact W.iret (v := r19) hx hb hr (fun t ht hW => ⟨⟨r19, S20, rfl, h, by rw [ht]; exact hP, hD⟩, hS.F ht⟩) hS.2.2 d_R_section_51
      · replace h := h.2 hc
        refine lv_aload_n hx hb d_R_section_24 rfl (lv_at hl 0 rfl) ?_
        refine lv_iconst (v := 1) hx hb d_R_section_25 (by decide) ?_
        refine xx_calli (va_runV (As := [.int 1]) (rest := []) ⟨hx, hb, hml, hown, hw⟩ (c_R_fail l D ca ad H.size S6 1 _ h) (cwV 1 hw (tG_g gl_R_103) rfl rfl rfl (by decide +kernel) ⟨Nat.le_of_ble_eq_true rfl, Nat.le_of_ble_eq_true rfl⟩) ⟨xPc.blind, va_recv hK hP rfl (q0 := 0) rfl, xPc.pre hK hN hP hD⟩ rfl rfl hl.1 rfl (lv_room (Nat.le_of_ble_eq_true rfl)) d_R_section_26 ⟨Nat.le_of_ble_eq_true rfl, Nat.le_of_ble_eq_true rfl⟩) hD hS hA (fun r21 S22 H locs h hP hD hS => ?_)
        exact W.iret (v := r21) hx hb hr (fun t ht hW => ⟨⟨r21, S22, rfl, h, by rw [ht]; exact hP, hD⟩, hS.F ht⟩) hS.2.2 d_R_section_29
  exact hH9 _ rfl hP hS
theorem d_R_restrict_0 : decode b_R_restrict 0 = .ok (.dload_n 1, 1) := by decide +kernel
theorem d_R_restrict_1 : decode b_R_restrict 1 = .ok (.dconst 0, 1) := by decide +kernel
theorem d_R_restrict_2 : decode b_R_restrict 2 = .ok (.dcmp .l, 1) := by decide +kernel
theorem d_R_restrict_3 : decode b_R_restrict 3 = .ok (.ifCond .lt 29, 3) := by decide +kernel
theorem d_R_restrict_6 : decode b_R_restrict 6 = .ok (.dload_n 3, 1) := by decide +kernel
theorem d_R_restrict_7 : decode b_R_restrict 7 = .ok (.dload_n 1, 1) := by decide +kernel
theorem d_R_restrict_8 : decode b_R_restrict 8 = .ok (.dcmp .l, 1) := by decide +kernel
theorem d_R_restrict_9 : decode b_R_restrict 9 = .ok (.ifCond .le 23, 3) := by decide +kernel
theorem d_R_restrict_12 : decode b_R_restrict 12 = .ok (.dload_n 3, 1) := by decide +kernel
theorem d_R_restrict_13 : decode b_R_restrict 13 = .ok (.ldc2_w 114, 3) := by decide +kernel
theorem d_R_restrict_16 : decode b_R_restrict 16 = .ok (.dcmp .g, 1) := by decide +kernel
theorem d_R_restrict_17 : decode b_R_restrict 17 = .ok (.ifCond .gt 15, 3) := by decide +kernel
theorem d_R_restrict_20 : decode b_R_restrict 20 = .ok (.dload 5, 2) := by decide +kernel
theorem d_R_restrict_22 : decode b_R_restrict 22 = .ok (.dconst 1, 1) := by decide +kernel
theorem d_R_restrict_23 : decode b_R_restrict 23 = .ok (.ldc2_w 101, 3) := by decide +kernel
theorem d_R_restrict_26 : decode b_R_restrict 26 = .ok (.invokestatic 97, 3) := by decide +kernel
theorem d_R_restrict_29 : decode b_R_restrict 29 = .ok (.ifCond .ne 9, 3) := by decide +kernel
theorem d_R_restrict_32 : decode b_R_restrict 32 = .ok (.aload_n 0, 1) := by decide +kernel
theorem d_R_restrict_33 : decode b_R_restrict 33 = .ok (.iconst 1, 1) := by decide +kernel
theorem d_R_restrict_34 : decode b_R_restrict 34 = .ok (.invokevirtual 103, 3) := by decide +kernel
theorem d_R_restrict_37 : decode b_R_restrict 37 = .ok (.ireturn, 1) := by decide +kernel
theorem d_R_restrict_38 : decode b_R_restrict 38 = .ok (.aload_n 0, 1) := by decide +kernel
theorem d_R_restrict_39 : decode b_R_restrict 39 = .ok (.getfield 86, 3) := by decide +kernel
theorem d_R_restrict_42 : decode b_R_restrict 42 = .ok (.iconst 5, 1) := by decide +kernel
theorem d_R_restrict_43 : decode b_R_restrict 43 = .ok (.if_icmp .ne 9, 3) := by decide +kernel
theorem d_R_restrict_46 : decode b_R_restrict 46 = .ok (.aload_n 0, 1) := by decide +kernel
theorem d_R_restrict_47 : decode b_R_restrict 47 = .ok (.iconst 3, 1) := by decide +kernel
theorem d_R_restrict_48 : decode b_R_restrict 48 = .ok (.invokevirtual 103, 3) := by decide +kernel
theorem d_R_restrict_51 : decode b_R_restrict 51 = .ok (.ireturn, 1) := by decide +kernel
theorem d_R_restrict_52 : decode b_R_restrict 52 = .ok (.iconst 0, 1) := by decide +kernel
theorem d_R_restrict_53 : decode b_R_restrict 53 = .ok (.istore 7, 2) := by decide +kernel
theorem d_R_restrict_55 : decode b_R_restrict 55 = .ok (.iload 7, 2) := by decide +kernel
theorem d_R_restrict_57 : decode b_R_restrict 57 = .ok (.aload_n 0, 1) := by decide +kernel
theorem d_R_restrict_58 : decode b_R_restrict 58 = .ok (.getfield 72, 3) := by decide +kernel
theorem d_R_restrict_61 : decode b_R_restrict 61 = .ok (.if_icmp .ge 25, 3) := by decide +kernel
theorem d_R_restrict_64 : decode b_R_restrict 64 = .ok (.aload_n 0, 1) := by decide +kernel
theorem d_R_restrict_65 : decode b_R_restrict 65 = .ok (.getfield 50, 3) := by decide +kernel
theorem d_R_restrict_68 : decode b_R_restrict 68 = .ok (.iload 7, 2) := by decide +kernel
theorem d_R_restrict_70 : decode b_R_restrict 70 = .ok (.iaload, 1) := by decide +kernel
theorem d_R_restrict_71 : decode b_R_restrict 71 = .ok (.ifCond .eq 9, 3) := by decide +kernel
theorem d_R_restrict_74 : decode b_R_restrict 74 = .ok (.aload_n 0, 1) := by decide +kernel
theorem d_R_restrict_75 : decode b_R_restrict 75 = .ok (.iconst 4, 1) := by decide +kernel
theorem d_R_restrict_76 : decode b_R_restrict 76 = .ok (.invokevirtual 103, 3) := by decide +kernel
theorem d_R_restrict_79 : decode b_R_restrict 79 = .ok (.ireturn, 1) := by decide +kernel
theorem d_R_restrict_80 : decode b_R_restrict 80 = .ok (.iinc 7 1, 3) := by decide +kernel
theorem d_R_restrict_83 : decode b_R_restrict 83 = .ok (.goto (-28), 3) := by decide +kernel
theorem d_R_restrict_86 : decode b_R_restrict 86 = .ok (.aload_n 0, 1) := by decide +kernel
theorem d_R_restrict_87 : decode b_R_restrict 87 = .ok (.getfield 20, 3) := by decide +kernel
theorem d_R_restrict_90 : decode b_R_restrict 90 = .ok (.aload_n 0, 1) := by decide +kernel
theorem d_R_restrict_91 : decode b_R_restrict 91 = .ok (.getfield 86, 3) := by decide +kernel
theorem d_R_restrict_94 : decode b_R_restrict 94 = .ok (.dload_n 1, 1) := by decide +kernel
theorem d_R_restrict_95 : decode b_R_restrict 95 = .ok (.invokestatic 107, 3) := by decide +kernel
theorem d_R_restrict_98 : decode b_R_restrict 98 = .ok (.lastore, 1) := by decide +kernel
theorem d_R_restrict_99 : decode b_R_restrict 99 = .ok (.aload_n 0, 1) := by decide +kernel
theorem d_R_restrict_100 : decode b_R_restrict 100 = .ok (.getfield 23, 3) := by decide +kernel
theorem d_R_restrict_103 : decode b_R_restrict 103 = .ok (.aload_n 0, 1) := by decide +kernel
theorem d_R_restrict_104 : decode b_R_restrict 104 = .ok (.getfield 86, 3) := by decide +kernel
theorem d_R_restrict_107 : decode b_R_restrict 107 = .ok (.dload_n 3, 1) := by decide +kernel
theorem d_R_restrict_108 : decode b_R_restrict 108 = .ok (.invokestatic 107, 3) := by decide +kernel
theorem d_R_restrict_111 : decode b_R_restrict 111 = .ok (.lastore, 1) := by decide +kernel
theorem d_R_restrict_112 : decode b_R_restrict 112 = .ok (.aload_n 0, 1) := by decide +kernel
theorem d_R_restrict_113 : decode b_R_restrict 113 = .ok (.getfield 26, 3) := by decide +kernel
theorem d_R_restrict_116 : decode b_R_restrict 116 = .ok (.aload_n 0, 1) := by decide +kernel
theorem d_R_restrict_117 : decode b_R_restrict 117 = .ok (.getfield 86, 3) := by decide +kernel
theorem d_R_restrict_120 : decode b_R_restrict 120 = .ok (.dload 5, 2) := by decide +kernel
theorem d_R_restrict_122 : decode b_R_restrict 122 = .ok (.invokestatic 107, 3) := by decide +kernel
theorem d_R_restrict_125 : decode b_R_restrict 125 = .ok (.lastore, 1) := by decide +kernel
theorem d_R_restrict_126 : decode b_R_restrict 126 = .ok (.aload_n 0, 1) := by decide +kernel
theorem d_R_restrict_127 : decode b_R_restrict 127 = .ok (.dup, 1) := by decide +kernel
theorem d_R_restrict_128 : decode b_R_restrict 128 = .ok (.getfield 86, 3) := by decide +kernel
theorem d_R_restrict_131 : decode b_R_restrict 131 = .ok (.iconst 1, 1) := by decide +kernel
theorem d_R_restrict_132 : decode b_R_restrict 132 = .ok (.iadd, 1) := by decide +kernel
theorem d_R_restrict_133 : decode b_R_restrict 133 = .ok (.putfield 86, 3) := by decide +kernel
theorem d_R_restrict_136 : decode b_R_restrict 136 = .ok (.aload_n 0, 1) := by decide +kernel
theorem d_R_restrict_137 : decode b_R_restrict 137 = .ok (.aload_n 0, 1) := by decide +kernel
theorem d_R_restrict_138 : decode b_R_restrict 138 = .ok (.getfield 86, 3) := by decide +kernel
theorem d_R_restrict_141 : decode b_R_restrict 141 = .ok (.invokevirtual 111, 3) := by decide +kernel
theorem d_R_restrict_144 : decode b_R_restrict 144 = .ok (.ireturn, 1) := by decide +kernel
def w_R_restrict_55 : Nat → SR → UInt64 → UInt64 → UInt64 → Int32 → (Int32 → SR → Prop) → Prop
  | 0 => fun _ _ _ _ _ _ => False
  | n + 1 => fun S y1 y3 y5 y7 Q => ((((S.1 3 0) ≤ y7) → (w_R_whole S y1 (fun r13 S14 => vp_in (S.1 2 0) 5 ∧ (w_R_whole (pV S14 2 (S.1 2 0).toNatClampNeg r13) y3 (fun r15 S16 => vp_in ((pV S14 2 (S.1 2 0).toNatClampNeg r13).1 2 0) 5 ∧ (w_R_whole (pV S16 3 ((pV S14 2 (S.1 2 0).toNatClampNeg r13).1 2 0).toNatClampNeg r15) y5 (fun r17 S18 => vp_in ((pV S16 3 ((pV S14 2 (S.1 2 0).toNatClampNeg r13).1 2 0).toNatClampNeg r15).1 2 0) 5 ∧ (∀ a19 : Int32, a19 = ((pV S18 4 ((pV S16 3 ((pV S14 2 (S.1 2 0).toNatClampNeg r13).1 2 0).toNatClampNeg r15).1 2 0).toNatClampNeg r17).1 2 0) + 1 → (w_R_answer (pI (pV S18 4 ((pV S16 3 ((pV S14 2 (S.1 2 0).toNatClampNeg r13).1 2 0).toNatClampNeg r15).1 2 0).toNatClampNeg r17) 2 0 a19) ((pI (pV S18 4 ((pV S16 3 ((pV S14 2 (S.1 2 0).toNatClampNeg r13).1 2 0).toNatClampNeg r15).1 2 0).toNatClampNeg r17) 2 0 a19).1 2 0) (fun r20 S21 => Q r20 S21)))))))))) ∧ ((¬ (S.1 3 0) ≤ y7) → (vp_in y7 3 ∧ ((((S.1 8 y7.toNatClampNeg) = 0) → ((fun S9 z0 z1 z2 z3 => w_R_restrict_55 n S9 z0 z1 z2 z3 Q) S y1 y3 y5 (y7 + 1))) ∧ ((¬ (S.1 8 y7.toNatClampNeg) = 0) → (w_R_fail S 4 (fun r22 S23 => Q r22 S23)))))))
def w_R_restrict (S : SR) (x1 : UInt64) (x2 : UInt64) (x3 : UInt64) (Q : Int32 → SR → Prop) : Prop := (((Op.cmpValue (FP.dcmp x1 FP.dconst0) .l) < 0) → (w_R_fail S 1 (fun r1 S2 => Q r1 S2))) ∧ ((¬ (Op.cmpValue (FP.dcmp x1 FP.dconst0) .l) < 0) → ((((Op.cmpValue (FP.dcmp x2 x1) .l) ≤ 0) → (w_R_fail S 1 (fun r3 S4 => Q r3 S4))) ∧ ((¬ (Op.cmpValue (FP.dcmp x2 x1) .l) ≤ 0) → (((0 < (Op.cmpValue (FP.dcmp x2 (4666723172467343360 : UInt64)) .g)) → (w_R_fail S 1 (fun r5 S6 => Q r5 S6))) ∧ ((¬ 0 < (Op.cmpValue (FP.dcmp x2 (4666723172467343360 : UInt64)) .g)) → (w_R_between S x3 FP.dconst1 (4633641066610819072 : UInt64) (fun r7 S8 => ((¬ r7 = 0) → (((¬ (S8.1 2 0) = 5) → (∃ n : Nat, w_R_restrict_55 n S8 x1 x2 x3 0 Q)) ∧ (((S8.1 2 0) = 5) → (w_R_fail S8 3 (fun r9 S10 => Q r9 S10))))) ∧ ((r7 = 0) → (w_R_fail S8 1 (fun r11 S12 => Q r11 S12))))))))))
set_option maxRecDepth 100000 in
set_option maxHeartbeats 4000000 in
theorem c_R_restrict (l : Launch) (D : va_G) (ca : Nat → ClassId) (ad : Nat → Nat) (sz : Nat) (S : SR) (x1 : UInt64) (x2 : UInt64) (x3 : UInt64)  (Q : Int32 → SR → Prop) (h : w_R_restrict S x1 x2 x3 Q) : Met l y_R_restrict (Cond.code y_R_restrict b_R_restrict 8 (some Jvm.ClassFile.FieldType.int) :: tG) ({ frames := 1, cells := 0, slots := 0, locals := 25 } : Room) (xPc D ca (wR ca ad) S sz [.ref (ad 0), .double x1, .double x2, .double x3]) (va_Qi Q (xAt D (wR ca ad) (va_A (wR ca ad S) sz)) (va_A (wR ca ad S) sz)) 0 0 (va_A (wR ca ad S) sz) := by
  refine xx_met (Qf := fun A => va_Qi Q (xAt D (wR ca ad) A) A) (by decide) (Nat.le_of_ble_eq_true rfl) ?_
  intro p e s m args below meth c A ls hx hb hr hw hown hlocks hml hK hN hA hP hD hS hl
  have hown : s.vm.findClass "TrainGuardModel" = some m.cls := hown
  have hl : lv_has ls 8 [(0, .ref (ad 0)), (1, .double x1), (3, .double x2), (5, .double x3)] := hl
  unfold w_R_restrict at h
  have bk_55 : ∀ (n9 : Nat) (S : SR) (y1 : UInt64) (y3 : UInt64) (y5 : UInt64) (y7 : Int32) (H : Heap) (locs : List Loc) , va_P D cls (wR ca ad S) H → va_D A (wR ca ad S) → va_S A s.heap H locs → ∀ (ls : Array Slot), lv_has ls 8 [(0, .ref (ad 0)), (1, .double y1), (3, .double y3), (5, .double y5), (7, .int y7)] → w_R_restrict_55 n9 S y1 y3 y5 y7 Q → W p l e ({ frames := 1, cells := 0, slots := 0, locals := 25 } : Room) s m args below meth c H locs 0 0 (MQ below ((fun A => va_Qi Q (xAt D (wR ca ad) A) A) A) args s 0 0 A) (F0 m 55 ls []) := by
    intro n9
    induction n9 with
    | zero => intro S y1 y3 y5 y7 H locs hP hD hS ls hl h; exact absurd h id
    | succ n9 hK55 =>
      intro S y1 y3 y5 y7 H locs hP hD hS ls hl h
      replace h : (((S.1 3 0) ≤ y7) → (w_R_whole S y1 (fun r13 S14 => vp_in (S.1 2 0) 5 ∧ (w_R_whole (pV S14 2 (S.1 2 0).toNatClampNeg r13) y3 (fun r15 S16 => vp_in ((pV S14 2 (S.1 2 0).toNatClampNeg r13).1 2 0) 5 ∧ (w_R_whole (pV S16 3 ((pV S14 2 (S.1 2 0).toNatClampNeg r13).1 2 0).toNatClampNeg r15) y5 (fun r17 S18 => vp_in ((pV S16 3 ((pV S14 2 (S.1 2 0).toNatClampNeg r13).1 2 0).toNatClampNeg r15).1 2 0) 5 ∧ (∀ a19 : Int32, a19 = ((pV S18 4 ((pV S16 3 ((pV S14 2 (S.1 2 0).toNatClampNeg r13).1 2 0).toNatClampNeg r15).1 2 0).toNatClampNeg r17).1 2 0) + 1 → (w_R_answer (pI (pV S18 4 ((pV S16 3 ((pV S14 2 (S.1 2 0).toNatClampNeg r13).1 2 0).toNatClampNeg r15).1 2 0).toNatClampNeg r17) 2 0 a19) ((pI (pV S18 4 ((pV S16 3 ((pV S14 2 (S.1 2 0).toNatClampNeg r13).1 2 0).toNatClampNeg r15).1 2 0).toNatClampNeg r17) 2 0 a19).1 2 0) (fun r20 S21 => Q r20 S21)))))))))) ∧ ((¬ (S.1 3 0) ≤ y7) → (vp_in y7 3 ∧ ((((S.1 8 y7.toNatClampNeg) = 0) → ((fun S9 z0 z1 z2 z3 => w_R_restrict_55 n9 S9 z0 z1 z2 z3 Q) S y1 y3 y5 (y7 + 1))) ∧ ((¬ (S.1 8 y7.toNatClampNeg) = 0) → (w_R_fail S 4 (fun r22 S23 => Q r22 S23)))))) := h
      refine lv_iload hx hb d_R_restrict_55 (lv_at hl 4 rfl) ?_
      refine lv_aload_n hx hb d_R_restrict_57 rfl (lv_at hl 0 rfl) ?_
      refine va_get (D := D) (ci := 4) (v := .int (S.1 3 0)) (C := Rc_R) (T := Fc_R) (N := 25) hx hb hw inc_R hown hK hP 0 rfl rfl 9 (by decide) (hw _ wd_600) (fun _ h9 => h9) rfl d_R_restrict_58 ?_
      refine lv_icmp_ge (tgt := 86) hx hb d_R_restrict_61 (by decide) (fun hc => ?_) (fun hc => ?_)
      · replace h := h.1 hc
        refine lv_aload_n hx hb d_R_restrict_86 rfl (lv_at hl 0 rfl) ?_
        refine va_get (D := D) (ci := 4) (v := .ref (ad 4)) (C := Rc_R) (T := Fc_R) (N := 25) hx hb hw inc_R hown hK hP 0 rfl rfl 6 (by decide) (hw _ wd_597) (fun _ h9 => h9) rfl d_R_restrict_87 ?_
        refine lv_aload_n hx hb d_R_restrict_90 rfl (lv_at hl 0 rfl) ?_
        refine va_get (D := D) (ci := 4) (v := .int (S.1 2 0)) (C := Rc_R) (T := Fc_R) (N := 25) hx hb hw inc_R hown hK hP 0 rfl rfl 5 (by decide) (hw _ wd_596) (fun _ h9 => h9) rfl d_R_restrict_91 ?_
        refine lv_dload_n hx hb d_R_restrict_94 rfl (lv_at hl 1 rfl) ?_
        refine xx_calll (va_runS (As := [.double y1]) (rest := [.int (S.1 2 0), .ref (ad 4)]) ⟨hx, hb, hml, hown, hw⟩ (c_R_whole l D ca ad H.size S y1 _ h) (cwS 1 hw (tG_g gl_R_107) rfl rfl rfl (by decide +kernel) ⟨Nat.le_of_ble_eq_true rfl, Nat.le_of_ble_eq_true rfl⟩) ⟨xPc.blind, xPc.pre hK hN hP hD⟩ rfl rfl hl.1 rfl (lv_room (Nat.le_of_ble_eq_true rfl)) d_R_restrict_95 ⟨Nat.le_of_ble_eq_true rfl, Nat.le_of_ble_eq_true rfl⟩) hD hS hA (fun r13 S14 H locs h hP hD hS => ?_)
        obtain ⟨hq, h⟩ := h
        refine va_last (D := D) hx hb hK hP hD hS 4 1 rfl rfl hq d_R_restrict_98 (fun H locs hP hD hS => ?_)
        rw [pt_R_from] at hP hD
        refine lv_aload_n hx hb d_R_restrict_99 rfl (lv_at hl 0 rfl) ?_
        refine va_get (D := D) (ci := 4) (v := .ref (ad 5)) (C := Rc_R) (T := Fc_R) (N := 25) hx hb hw inc_R hown hK hP 0 rfl rfl 7 (by decide) (hw _ wd_598) (fun _ h9 => h9) rfl d_R_restrict_100 ?_
        refine lv_aload_n hx hb d_R_restrict_103 rfl (lv_at hl 0 rfl) ?_
        refine va_get (D := D) (ci := 4) (v := .int ((pV S14 2 (S.1 2 0).toNatClampNeg r13).1 2 0)) (C := Rc_R) (T := Fc_R) (N := 25) hx hb hw inc_R hown hK hP 0 rfl rfl 5 (by decide) (hw _ wd_596) (fun _ h9 => h9) rfl d_R_restrict_104 ?_
        refine lv_dload_n hx hb d_R_restrict_107 rfl (lv_at hl 2 rfl) ?_
        refine xx_calll (va_runS (As := [.double y3]) (rest := [.int ((pV S14 2 (S.1 2 0).toNatClampNeg r13).1 2 0), .ref (ad 5)]) ⟨hx, hb, hml, hown, hw⟩ (c_R_whole l D ca ad H.size (pV S14 2 (S.1 2 0).toNatClampNeg r13) y3 _ h) (cwS 1 hw (tG_g gl_R_107) rfl rfl rfl (by decide +kernel) ⟨Nat.le_of_ble_eq_true rfl, Nat.le_of_ble_eq_true rfl⟩) ⟨xPc.blind, xPc.pre hK hN hP hD⟩ rfl rfl hl.1 rfl (lv_room (Nat.le_of_ble_eq_true rfl)) d_R_restrict_108 ⟨Nat.le_of_ble_eq_true rfl, Nat.le_of_ble_eq_true rfl⟩) hD hS hA (fun r15 S16 H locs h hP hD hS => ?_)
        obtain ⟨hq, h⟩ := h
        refine va_last (D := D) hx hb hK hP hD hS 5 1 rfl rfl hq d_R_restrict_111 (fun H locs hP hD hS => ?_)
        rw [pt_R_to] at hP hD
        refine lv_aload_n hx hb d_R_restrict_112 rfl (lv_at hl 0 rfl) ?_
        refine va_get (D := D) (ci := 4) (v := .ref (ad 6)) (C := Rc_R) (T := Fc_R) (N := 25) hx hb hw inc_R hown hK hP 0 rfl rfl 8 (by decide) (hw _ wd_599) (fun _ h9 => h9) rfl d_R_restrict_113 ?_
        refine lv_aload_n hx hb d_R_restrict_116 rfl (lv_at hl 0 rfl) ?_
        refine va_get (D := D) (ci := 4) (v := .int ((pV S16 3 ((pV S14 2 (S.1 2 0).toNatClampNeg r13).1 2 0).toNatClampNeg r15).1 2 0)) (C := Rc_R) (T := Fc_R) (N := 25) hx hb hw inc_R hown hK hP 0 rfl rfl 5 (by decide) (hw _ wd_596) (fun _ h9 => h9) rfl d_R_restrict_117 ?_
        refine lv_dload hx hb d_R_restrict_120 (lv_at hl 3 rfl) ?_
        refine xx_calll (va_runS (As := [.double y5]) (rest := [.int ((pV S16 3 ((pV S14 2 (S.1 2 0).toNatClampNeg r13).1 2 0).toNatClampNeg r15).1 2 0), .ref (ad 6)]) ⟨hx, hb, hml, hown, hw⟩ (c_R_whole l D ca ad H.size (pV S16 3 ((pV S14 2 (S.1 2 0).toNatClampNeg r13).1 2 0).toNatClampNeg r15) y5 _ h) (cwS 1 hw (tG_g gl_R_107) rfl rfl rfl (by decide +kernel) ⟨Nat.le_of_ble_eq_true rfl, Nat.le_of_ble_eq_true rfl⟩) ⟨xPc.blind, xPc.pre hK hN hP hD⟩ rfl rfl hl.1 rfl (lv_room (Nat.le_of_ble_eq_true rfl)) d_R_restrict_122 ⟨Nat.le_of_ble_eq_true rfl, Nat.le_of_ble_eq_true rfl⟩) hD hS hA (fun r17 S18 H locs h hP hD hS => ?_)
        obtain ⟨hq, h⟩ := h
        refine va_last (D := D) hx hb hK hP hD hS 6 1 rfl rfl hq d_R_restrict_125 (fun H locs hP hD hS => ?_)
        rw [pt_R_least] at hP hD
        refine lv_aload_n hx hb d_R_restrict_126 rfl (lv_at hl 0 rfl) ?_
        refine lv_dup hx hb d_R_restrict_127 rfl ?_
        refine va_get (D := D) (ci := 4) (v := .int ((pV S18 4 ((pV S16 3 ((pV S14 2 (S.1 2 0).toNatClampNeg r13).1 2 0).toNatClampNeg r15).1 2 0).toNatClampNeg r17).1 2 0)) (C := Rc_R) (T := Fc_R) (N := 25) hx hb hw inc_R hown hK hP 0 rfl rfl 5 (by decide) (hw _ wd_596) (fun _ h9 => h9) rfl d_R_restrict_128 ?_
        refine lv_iconst (v := 1) hx hb d_R_restrict_131 (by decide) ?_
        refine lv_iadd hx hb d_R_restrict_132 ?_
        refine lv_topi (fun a19 e_a19 => ?_)
        replace h := h a19 e_a19
        refine va_put (D := D) (ci := 4) (v := .int a19) (ty := .int) (C := Rc_R) (T := Fc_R) (N := 25) hx hb hw inc_R tc_R tc_R_ok nc_R hown hK hP hD hS 0 rfl rfl 5 (by decide) (hw _ wd_596) (fun _ h9 => h9) rfl (by decide +kernel) rfl rfl (Nat.le_of_ble_eq_true rfl) d_R_restrict_133 (fun H locs hP hD hS => ?_)
        rw [pt_R_restrictions] at hP hD
        refine lv_aload_n hx hb d_R_restrict_136 rfl (lv_at hl 0 rfl) ?_
        refine lv_aload_n hx hb d_R_restrict_137 rfl (lv_at hl 0 rfl) ?_
        refine va_get (D := D) (ci := 4) (v := .int ((pI (pV S18 4 ((pV S16 3 ((pV S14 2 (S.1 2 0).toNatClampNeg r13).1 2 0).toNatClampNeg r15).1 2 0).toNatClampNeg r17) 2 0 a19).1 2 0)) (C := Rc_R) (T := Fc_R) (N := 25) hx hb hw inc_R hown hK hP 0 rfl rfl 5 (by decide) (hw _ wd_596) (fun _ h9 => h9) rfl d_R_restrict_138 ?_
        refine xx_calli (va_runV (As := [.int ((pI (pV S18 4 ((pV S16 3 ((pV S14 2 (S.1 2 0).toNatClampNeg r13).1 2 0).toNatClampNeg r15).1 2 0).toNatClampNeg r17) 2 0 a19).1 2 0)]) (rest := []) ⟨hx, hb, hml, hown, hw⟩ (c_R_answer l D ca ad H.size (pI (pV S18 4 ((pV S16 3 ((pV S14 2 (S.1 2 0).toNatClampNeg r13).1 2 0).toNatClampNeg r15).1 2 0).toNatClampNeg r17) 2 0 a19) ((pI (pV S18 4 ((pV S16 3 ((pV S14 2 (S.1 2 0).toNatClampNeg r13).1 2 0).toNatClampNeg r15).1 2 0).toNatClampNeg r17) 2 0 a19).1 2 0) _ h) (cwV 1 hw (tG_g gl_R_111) rfl rfl rfl (by decide +kernel) ⟨Nat.le_of_ble_eq_true rfl, Nat.le_of_ble_eq_true rfl⟩) ⟨xPc.blind, va_recv hK hP rfl (q0 := 0) rfl, xPc.pre hK hN hP hD⟩ rfl rfl hl.1 rfl (lv_room (Nat.le_of_ble_eq_true rfl)) d_R_restrict_141 ⟨Nat.le_of_ble_eq_true rfl, Nat.le_of_ble_eq_true rfl⟩) hD hS hA (fun r20 S21 H locs h hP hD hS => ?_)
        exact W.iret (v := r20) hx hb hr (fun t ht hW => ⟨⟨r20, S21, rfl, h, by rw [ht]; exact hP, hD⟩, hS.F ht⟩) hS.2.2 d_R_restrict_144
      · replace h := h.2 hc
        refine lv_aload_n hx hb d_R_restrict_64 rfl (lv_at hl 0 rfl) ?_
        refine va_get (D := D) (ci := 4) (v := .ref (ad 14)) (C := Rc_R) (T := Fc_R) (N := 25) hx hb hw inc_R hown hK hP 0 rfl rfl 17 (by decide) (hw _ wd_608) (fun _ h9 => h9) rfl d_R_restrict_65 ?_
        refine lv_iload hx hb d_R_restrict_68 (lv_at hl 4 rfl) ?_
        obtain ⟨hq, h⟩ := h
        refine va_iald (D := D) hx hb hK hP 14 0 rfl rfl hq d_R_restrict_70 ?_
        refine lv_if_eq (tgt := 80) hx hb d_R_restrict_71 (by decide) (fun hc => ?_) (fun hc => ?_)
        · replace h := h.1 hc
          refine lv_iinc (v := (y7 + 1)) (lv' := [(7, .int (y7 + 1)), (0, .ref (ad 0)), (1, .double y1), (3, .double y3), (5, .double y5)]) hx hb d_R_restrict_80 hl (k := 4) rfl rfl (by decide) rfl (fun ls hl => ?_)
          refine lv_goto (tgt := 55) hx hb d_R_restrict_83 (by decide) ?_
          exact hK55 S y1 y3 y5 (y7 + 1) H locs hP hD hS ls (lv_sub hl [1, 2, 3, 4, 0] rfl) h
        · replace h := h.2 hc
          refine lv_aload_n hx hb d_R_restrict_74 rfl (lv_at hl 0 rfl) ?_
          refine lv_iconst (v := 4) hx hb d_R_restrict_75 (by decide) ?_
          refine xx_calli (va_runV (As := [.int 4]) (rest := []) ⟨hx, hb, hml, hown, hw⟩ (c_R_fail l D ca ad H.size S 4 _ h) (cwV 1 hw (tG_g gl_R_103) rfl rfl rfl (by decide +kernel) ⟨Nat.le_of_ble_eq_true rfl, Nat.le_of_ble_eq_true rfl⟩) ⟨xPc.blind, va_recv hK hP rfl (q0 := 0) rfl, xPc.pre hK hN hP hD⟩ rfl rfl hl.1 rfl (lv_room (Nat.le_of_ble_eq_true rfl)) d_R_restrict_76 ⟨Nat.le_of_ble_eq_true rfl, Nat.le_of_ble_eq_true rfl⟩) hD hS hA (fun r22 S23 H locs h hP hD hS => ?_)
          exact W.iret (v := r22) hx hb hr (fun t ht hW => ⟨⟨r22, S23, rfl, h, by rw [ht]; exact hP, hD⟩, hS.F ht⟩) hS.2.2 d_R_restrict_79
  have hH9 : ∀ H : Heap, H = s.heap → va_P D cls (wR ca ad S) H → va_S A s.heap H [] → W p l e ({ frames := 1, cells := 0, slots := 0, locals := 25 } : Room) s m args below meth c H [] 0 0 (MQ below ((fun A => va_Qi Q (xAt D (wR ca ad) A) A) A) args s 0 0 A) (F0 m 0 ls []) := by
    clear hP hS
    intro H hH hP hS
    obtain ⟨locs, hlo⟩ : ∃ z : List Loc, z = [] := ⟨_, rfl⟩
    rw [← hlo] at hS ⊢
    refine lv_dload_n hx hb d_R_restrict_0 rfl (lv_at hl 1 rfl) ?_
    refine lv_dconst0 hx hb d_R_restrict_1 ?_
    refine lv_dcmp hx hb d_R_restrict_2 ?_
    refine lv_if_lt (tgt := 32) hx hb d_R_restrict_3 (by decide) (fun hc => ?_) (fun hc => ?_)
    · replace h := h.1 hc
      refine lv_aload_n hx hb d_R_restrict_32 rfl (lv_at hl 0 rfl) ?_
      refine lv_iconst (v := 1) hx hb d_R_restrict_33 (by decide) ?_
      refine xx_calli (va_runV (As := [.int 1]) (rest := []) ⟨hx, hb, hml, hown, hw⟩ (c_R_fail l D ca ad H.size S 1 _ h) (cwV 1 hw (tG_g gl_R_103) rfl rfl rfl (by decide +kernel) ⟨Nat.le_of_ble_eq_true rfl, Nat.le_of_ble_eq_true rfl⟩) ⟨xPc.blind, va_recv hK hP rfl (q0 := 0) rfl, xPc.pre hK hN hP hD⟩ rfl rfl hl.1 rfl (lv_room (Nat.le_of_ble_eq_true rfl)) d_R_restrict_34 ⟨Nat.le_of_ble_eq_true rfl, Nat.le_of_ble_eq_true rfl⟩) hD hS hA (fun r1 S2 H locs h hP hD hS => ?_)
      exact W.iret (v := r1) hx hb hr (fun t ht hW => ⟨⟨r1, S2, rfl, h, by rw [ht]; exact hP, hD⟩, hS.F ht⟩) hS.2.2 d_R_restrict_37
    · replace h := h.2 hc
      refine lv_dload_n hx hb d_R_restrict_6 rfl (lv_at hl 2 rfl) ?_
      refine lv_dload_n hx hb d_R_restrict_7 rfl (lv_at hl 1 rfl) ?_
      refine lv_dcmp hx hb d_R_restrict_8 ?_
      refine lv_if_le (tgt := 32) hx hb d_R_restrict_9 (by decide) (fun hc => ?_) (fun hc => ?_)
      · replace h := h.1 hc
        refine lv_aload_n hx hb d_R_restrict_32 rfl (lv_at hl 0 rfl) ?_
        refine lv_iconst (v := 1) hx hb d_R_restrict_33 (by decide) ?_
        refine xx_calli (va_runV (As := [.int 1]) (rest := []) ⟨hx, hb, hml, hown, hw⟩ (c_R_fail l D ca ad H.size S 1 _ h) (cwV 1 hw (tG_g gl_R_103) rfl rfl rfl (by decide +kernel) ⟨Nat.le_of_ble_eq_true rfl, Nat.le_of_ble_eq_true rfl⟩) ⟨xPc.blind, va_recv hK hP rfl (q0 := 0) rfl, xPc.pre hK hN hP hD⟩ rfl rfl hl.1 rfl (lv_room (Nat.le_of_ble_eq_true rfl)) d_R_restrict_34 ⟨Nat.le_of_ble_eq_true rfl, Nat.le_of_ble_eq_true rfl⟩) hD hS hA (fun r3 S4 H locs h hP hD hS => ?_)
        exact W.iret (v := r3) hx hb hr (fun t ht hW => ⟨⟨r3, S4, rfl, h, by rw [ht]; exact hP, hD⟩, hS.F ht⟩) hS.2.2 d_R_restrict_37
      · replace h := h.2 hc
        refine lv_dload_n hx hb d_R_restrict_12 rfl (lv_at hl 2 rfl) ?_
        refine lv_ldc2d hx hb hown (hw _ wd_699) d_R_restrict_13 ?_
        refine lv_dcmp hx hb d_R_restrict_16 ?_
        refine lv_if_gt (tgt := 32) hx hb d_R_restrict_17 (by decide) (fun hc => ?_) (fun hc => ?_)
        · replace h := h.1 hc
          refine lv_aload_n hx hb d_R_restrict_32 rfl (lv_at hl 0 rfl) ?_
          refine lv_iconst (v := 1) hx hb d_R_restrict_33 (by decide) ?_
          refine xx_calli (va_runV (As := [.int 1]) (rest := []) ⟨hx, hb, hml, hown, hw⟩ (c_R_fail l D ca ad H.size S 1 _ h) (cwV 1 hw (tG_g gl_R_103) rfl rfl rfl (by decide +kernel) ⟨Nat.le_of_ble_eq_true rfl, Nat.le_of_ble_eq_true rfl⟩) ⟨xPc.blind, va_recv hK hP rfl (q0 := 0) rfl, xPc.pre hK hN hP hD⟩ rfl rfl hl.1 rfl (lv_room (Nat.le_of_ble_eq_true rfl)) d_R_restrict_34 ⟨Nat.le_of_ble_eq_true rfl, Nat.le_of_ble_eq_true rfl⟩) hD hS hA (fun r5 S6 H locs h hP hD hS => ?_)
          exact W.iret (v := r5) hx hb hr (fun t ht hW => ⟨⟨r5, S6, rfl, h, by rw [ht]; exact hP, hD⟩, hS.F ht⟩) hS.2.2 d_R_restrict_37
        · replace h := h.2 hc
          refine lv_dload hx hb d_R_restrict_20 (lv_at hl 3 rfl) ?_
          refine lv_dconst1 hx hb d_R_restrict_22 ?_
          refine lv_ldc2d hx hb hown (hw _ wd_682) d_R_restrict_23 ?_
          refine xx_calli (va_runS (As := [.double x3, .double FP.dconst1, .double (4633641066610819072 : UInt64)]) (rest := []) ⟨hx, hb, hml, hown, hw⟩ (c_R_between l D ca ad H.size S x3 FP.dconst1 (4633641066610819072 : UInt64) _ h) (cwS 3 hw (tG_g gl_R_97) rfl rfl rfl (by decide +kernel) ⟨Nat.le_of_ble_eq_true rfl, Nat.le_of_ble_eq_true rfl⟩) ⟨xPc.blind, xPc.pre hK hN hP hD⟩ rfl rfl hl.1 rfl (lv_room (Nat.le_of_ble_eq_true rfl)) d_R_restrict_26 ⟨Nat.le_of_ble_eq_true rfl, Nat.le_of_ble_eq_true rfl⟩) hD hS hA (fun r7 S8 H locs h hP hD hS => ?_)
          refine lv_if_ne (tgt := 38) hx hb d_R_restrict_29 (by decide) (fun hc => ?_) (fun hc => ?_)
          · replace h := h.1 hc
            refine lv_aload_n hx hb d_R_restrict_38 rfl (lv_at hl 0 rfl) ?_
            refine va_get (D := D) (ci := 4) (v := .int (S8.1 2 0)) (C := Rc_R) (T := Fc_R) (N := 25) hx hb hw inc_R hown hK hP 0 rfl rfl 5 (by decide) (hw _ wd_596) (fun _ h9 => h9) rfl d_R_restrict_39 ?_
            refine lv_iconst (v := 5) hx hb d_R_restrict_42 (by decide) ?_
            refine lv_icmp_ne (tgt := 52) hx hb d_R_restrict_43 (by decide) (fun hc => ?_) (fun hc => ?_)
            · replace h := h.1 hc
              refine lv_iconst (v := 0) hx hb d_R_restrict_52 (by decide) ?_
              refine lv_istore (lv' := [(7, .int 0), (0, .ref (ad 0)), (1, .double x1), (3, .double x2), (5, .double x3)]) hx hb d_R_restrict_53 hl (by decide) rfl (fun ls hl => ?_)
              obtain ⟨n9, h⟩ := h
              exact bk_55 n9 S8 x1 x2 x3 0 H locs hP hD hS ls (lv_sub hl [1, 2, 3, 4, 0] rfl) h
            · replace h := h.2 hc
              refine lv_aload_n hx hb d_R_restrict_46 rfl (lv_at hl 0 rfl) ?_
              refine lv_iconst (v := 3) hx hb d_R_restrict_47 (by decide) ?_
              refine xx_calli (va_runV (As := [.int 3]) (rest := []) ⟨hx, hb, hml, hown, hw⟩ (c_R_fail l D ca ad H.size S8 3 _ h) (cwV 1 hw (tG_g gl_R_103) rfl rfl rfl (by decide +kernel) ⟨Nat.le_of_ble_eq_true rfl, Nat.le_of_ble_eq_true rfl⟩) ⟨xPc.blind, va_recv hK hP rfl (q0 := 0) rfl, xPc.pre hK hN hP hD⟩ rfl rfl hl.1 rfl (lv_room (Nat.le_of_ble_eq_true rfl)) d_R_restrict_48 ⟨Nat.le_of_ble_eq_true rfl, Nat.le_of_ble_eq_true rfl⟩) hD hS hA (fun r9 S10 H locs h hP hD hS => ?_)
              exact W.iret (v := r9) hx hb hr (fun t ht hW => ⟨⟨r9, S10, rfl, h, by rw [ht]; exact hP, hD⟩, hS.F ht⟩) hS.2.2 d_R_restrict_51
          · replace h := h.2 hc
            refine lv_aload_n hx hb d_R_restrict_32 rfl (lv_at hl 0 rfl) ?_
            refine lv_iconst (v := 1) hx hb d_R_restrict_33 (by decide) ?_
            refine xx_calli (va_runV (As := [.int 1]) (rest := []) ⟨hx, hb, hml, hown, hw⟩ (c_R_fail l D ca ad H.size S8 1 _ h) (cwV 1 hw (tG_g gl_R_103) rfl rfl rfl (by decide +kernel) ⟨Nat.le_of_ble_eq_true rfl, Nat.le_of_ble_eq_true rfl⟩) ⟨xPc.blind, va_recv hK hP rfl (q0 := 0) rfl, xPc.pre hK hN hP hD⟩ rfl rfl hl.1 rfl (lv_room (Nat.le_of_ble_eq_true rfl)) d_R_restrict_34 ⟨Nat.le_of_ble_eq_true rfl, Nat.le_of_ble_eq_true rfl⟩) hD hS hA (fun r11 S12 H locs h hP hD hS => ?_)
            exact W.iret (v := r11) hx hb hr (fun t ht hW => ⟨⟨r11, S12, rfl, h, by rw [ht]; exact hP, hD⟩, hS.F ht⟩) hS.2.2 d_R_restrict_37
  exact hH9 _ rfl hP hS
theorem d_R_release_0 : decode b_R_release 0 = .ok (.iload_n 1, 1) := by decide +kernel
theorem d_R_release_1 : decode b_R_release 1 = .ok (.iconst 0, 1) := by decide +kernel
theorem d_R_release_2 : decode b_R_release 2 = .ok (.aload_n 0, 1) := by decide +kernel
theorem d_R_release_3 : decode b_R_release 3 = .ok (.getfield 86, 3) := by decide +kernel
theorem d_R_release_6 : decode b_R_release 6 = .ok (.iconst 1, 1) := by decide +kernel
theorem d_R_release_7 : decode b_R_release 7 = .ok (.isub, 1) := by decide +kernel
theorem d_R_release_8 : decode b_R_release 8 = .ok (.invokestatic 75, 3) := by decide +kernel
theorem d_R_release_11 : decode b_R_release 11 = .ok (.ifCond .ne 9, 3) := by decide +kernel
theorem d_R_release_14 : decode b_R_release 14 = .ok (.aload_n 0, 1) := by decide +kernel
theorem d_R_release_15 : decode b_R_release 15 = .ok (.iconst 1, 1) := by decide +kernel
theorem d_R_release_16 : decode b_R_release 16 = .ok (.invokevirtual 103, 3) := by decide +kernel
theorem d_R_release_19 : decode b_R_release 19 = .ok (.ireturn, 1) := by decide +kernel
theorem d_R_release_20 : decode b_R_release 20 = .ok (.aload_n 0, 1) := by decide +kernel
theorem d_R_release_21 : decode b_R_release 21 = .ok (.dup, 1) := by decide +kernel
theorem d_R_release_22 : decode b_R_release 22 = .ok (.getfield 86, 3) := by decide +kernel
theorem d_R_release_25 : decode b_R_release 25 = .ok (.iconst 1, 1) := by decide +kernel
theorem d_R_release_26 : decode b_R_release 26 = .ok (.isub, 1) := by decide +kernel
theorem d_R_release_27 : decode b_R_release 27 = .ok (.putfield 86, 3) := by decide +kernel
theorem d_R_release_30 : decode b_R_release 30 = .ok (.iload_n 1, 1) := by decide +kernel
theorem d_R_release_31 : decode b_R_release 31 = .ok (.istore_n 2, 1) := by decide +kernel
theorem d_R_release_32 : decode b_R_release 32 = .ok (.iload_n 2, 1) := by decide +kernel
theorem d_R_release_33 : decode b_R_release 33 = .ok (.aload_n 0, 1) := by decide +kernel
theorem d_R_release_34 : decode b_R_release 34 = .ok (.getfield 86, 3) := by decide +kernel
theorem d_R_release_37 : decode b_R_release 37 = .ok (.if_icmp .ge 51, 3) := by decide +kernel
theorem d_R_release_40 : decode b_R_release 40 = .ok (.aload_n 0, 1) := by decide +kernel
theorem d_R_release_41 : decode b_R_release 41 = .ok (.getfield 20, 3) := by decide +kernel
theorem d_R_release_44 : decode b_R_release 44 = .ok (.iload_n 2, 1) := by decide +kernel
theorem d_R_release_45 : decode b_R_release 45 = .ok (.aload_n 0, 1) := by decide +kernel
theorem d_R_release_46 : decode b_R_release 46 = .ok (.getfield 20, 3) := by decide +kernel
theorem d_R_release_49 : decode b_R_release 49 = .ok (.iload_n 2, 1) := by decide +kernel
theorem d_R_release_50 : decode b_R_release 50 = .ok (.iconst 1, 1) := by decide +kernel
theorem d_R_release_51 : decode b_R_release 51 = .ok (.iadd, 1) := by decide +kernel
theorem d_R_release_52 : decode b_R_release 52 = .ok (.laload, 1) := by decide +kernel
theorem d_R_release_53 : decode b_R_release 53 = .ok (.lastore, 1) := by decide +kernel
theorem d_R_release_54 : decode b_R_release 54 = .ok (.aload_n 0, 1) := by decide +kernel
theorem d_R_release_55 : decode b_R_release 55 = .ok (.getfield 23, 3) := by decide +kernel
theorem d_R_release_58 : decode b_R_release 58 = .ok (.iload_n 2, 1) := by decide +kernel
theorem d_R_release_59 : decode b_R_release 59 = .ok (.aload_n 0, 1) := by decide +kernel
theorem d_R_release_60 : decode b_R_release 60 = .ok (.getfield 23, 3) := by decide +kernel
theorem d_R_release_63 : decode b_R_release 63 = .ok (.iload_n 2, 1) := by decide +kernel
theorem d_R_release_64 : decode b_R_release 64 = .ok (.iconst 1, 1) := by decide +kernel
theorem d_R_release_65 : decode b_R_release 65 = .ok (.iadd, 1) := by decide +kernel
theorem d_R_release_66 : decode b_R_release 66 = .ok (.laload, 1) := by decide +kernel
theorem d_R_release_67 : decode b_R_release 67 = .ok (.lastore, 1) := by decide +kernel
theorem d_R_release_68 : decode b_R_release 68 = .ok (.aload_n 0, 1) := by decide +kernel
theorem d_R_release_69 : decode b_R_release 69 = .ok (.getfield 26, 3) := by decide +kernel
theorem d_R_release_72 : decode b_R_release 72 = .ok (.iload_n 2, 1) := by decide +kernel
theorem d_R_release_73 : decode b_R_release 73 = .ok (.aload_n 0, 1) := by decide +kernel
theorem d_R_release_74 : decode b_R_release 74 = .ok (.getfield 26, 3) := by decide +kernel
theorem d_R_release_77 : decode b_R_release 77 = .ok (.iload_n 2, 1) := by decide +kernel
theorem d_R_release_78 : decode b_R_release 78 = .ok (.iconst 1, 1) := by decide +kernel
theorem d_R_release_79 : decode b_R_release 79 = .ok (.iadd, 1) := by decide +kernel
theorem d_R_release_80 : decode b_R_release 80 = .ok (.laload, 1) := by decide +kernel
theorem d_R_release_81 : decode b_R_release 81 = .ok (.lastore, 1) := by decide +kernel
theorem d_R_release_82 : decode b_R_release 82 = .ok (.iinc 2 1, 3) := by decide +kernel
theorem d_R_release_85 : decode b_R_release 85 = .ok (.goto (-53), 3) := by decide +kernel
theorem d_R_release_88 : decode b_R_release 88 = .ok (.aload_n 0, 1) := by decide +kernel
theorem d_R_release_89 : decode b_R_release 89 = .ok (.aload_n 0, 1) := by decide +kernel
theorem d_R_release_90 : decode b_R_release 90 = .ok (.getfield 86, 3) := by decide +kernel
theorem d_R_release_93 : decode b_R_release 93 = .ok (.invokevirtual 111, 3) := by decide +kernel
theorem d_R_release_96 : decode b_R_release 96 = .ok (.ireturn, 1) := by decide +kernel
def w_R_release_32 : Nat → SR → Int32 → (Int32 → SR → Prop) → Prop
  | 0 => fun _ _ _ => False
  | n + 1 => fun S y2 Q => ((((S.1 2 0) ≤ y2) → (w_R_answer S (S.1 2 0) (fun r7 S8 => Q r7 S8))) ∧ ((¬ (S.1 2 0) ≤ y2) → (∀ a9 : Int32, a9 = y2 + 1 → (vp_in a9 5 ∧ (vp_in y2 5 ∧ (∀ a10 : Int32, a10 = y2 + 1 → (vp_in a10 5 ∧ (vp_in y2 5 ∧ (∀ a11 : Int32, a11 = y2 + 1 → (vp_in a11 5 ∧ (vp_in y2 5 ∧ ((fun S9 z0 => w_R_release_32 n S9 z0 Q) (pV (pV (pV S 2 y2.toNatClampNeg (S.2 2 a9.toNatClampNeg)) 3 y2.toNatClampNeg ((pV S 2 y2.toNatClampNeg (S.2 2 a9.toNatClampNeg)).2 3 a10.toNatClampNeg)) 4 y2.toNatClampNeg ((pV (pV S 2 y2.toNatClampNeg (S.2 2 a9.toNatClampNeg)) 3 y2.toNatClampNeg ((pV S 2 y2.toNatClampNeg (S.2 2 a9.toNatClampNeg)).2 3 a10.toNatClampNeg)).2 4 a11.toNatClampNeg)) (y2 + 1)))))))))))))
def w_R_release (S : SR) (x1 : Int32) (Q : Int32 → SR → Prop) : Prop := ∀ a1 : Int32, a1 = (S.1 2 0) - 1 → (w_R_in S x1 0 a1 (fun r2 S3 => ((¬ r2 = 0) → (∀ a4 : Int32, a4 = (S3.1 2 0) - 1 → (∃ n : Nat, w_R_release_32 n (pI S3 2 0 a4) x1 Q))) ∧ ((r2 = 0) → (w_R_fail S3 1 (fun r5 S6 => Q r5 S6)))))
set_option maxRecDepth 100000 in
set_option maxHeartbeats 4000000 in
theorem c_R_release (l : Launch) (D : va_G) (ca : Nat → ClassId) (ad : Nat → Nat) (sz : Nat) (S : SR) (x1 : Int32)  (Q : Int32 → SR → Prop) (h : w_R_release S x1 Q) : Met l y_R_release (Cond.code y_R_release b_R_release 3 (some Jvm.ClassFile.FieldType.int) :: tG) ({ frames := 1, cells := 0, slots := 0, locals := 22 } : Room) (xPc D ca (wR ca ad) S sz [.ref (ad 0), .int x1]) (va_Qi Q (xAt D (wR ca ad) (va_A (wR ca ad S) sz)) (va_A (wR ca ad S) sz)) 0 0 (va_A (wR ca ad S) sz) := by
  refine xx_met (Qf := fun A => va_Qi Q (xAt D (wR ca ad) A) A) (by decide) (Nat.le_of_ble_eq_true rfl) ?_
  intro p e s m args below meth c A ls hx hb hr hw hown hlocks hml hK hN hA hP hD hS hl
  have hown : s.vm.findClass "TrainGuardModel" = some m.cls := hown
  have hl : lv_has ls 3 [(0, .ref (ad 0)), (1, .int x1)] := hl
  unfold w_R_release at h
  have bk_32 : ∀ (n9 : Nat) (S : SR) (y2 : Int32) (H : Heap) (locs : List Loc) , va_P D cls (wR ca ad S) H → va_D A (wR ca ad S) → va_S A s.heap H locs → ∀ (ls : Array Slot), lv_has ls 3 [(0, .ref (ad 0)), (2, .int y2)] → w_R_release_32 n9 S y2 Q → W p l e ({ frames := 1, cells := 0, slots := 0, locals := 22 } : Room) s m args below meth c H locs 0 0 (MQ below ((fun A => va_Qi Q (xAt D (wR ca ad) A) A) A) args s 0 0 A) (F0 m 32 ls []) := by
    intro n9
    induction n9 with
    | zero => intro S y2 H locs hP hD hS ls hl h; exact absurd h id
    | succ n9 hK32 =>
      intro S y2 H locs hP hD hS ls hl h
      replace h : (((S.1 2 0) ≤ y2) → (w_R_answer S (S.1 2 0) (fun r7 S8 => Q r7 S8))) ∧ ((¬ (S.1 2 0) ≤ y2) → (∀ a9 : Int32, a9 = y2 + 1 → (vp_in a9 5 ∧ (vp_in y2 5 ∧ (∀ a10 : Int32, a10 = y2 + 1 → (vp_in a10 5 ∧ (vp_in y2 5 ∧ (∀ a11 : Int32, a11 = y2 + 1 → (vp_in a11 5 ∧ (vp_in y2 5 ∧ ((fun S9 z0 => w_R_release_32 n9 S9 z0 Q) (pV (pV (pV S 2 y2.toNatClampNeg (S.2 2 a9.toNatClampNeg)) 3 y2.toNatClampNeg ((pV S 2 y2.toNatClampNeg (S.2 2 a9.toNatClampNeg)).2 3 a10.toNatClampNeg)) 4 y2.toNatClampNeg ((pV (pV S 2 y2.toNatClampNeg (S.2 2 a9.toNatClampNeg)) 3 y2.toNatClampNeg ((pV S 2 y2.toNatClampNeg (S.2 2 a9.toNatClampNeg)).2 3 a10.toNatClampNeg)).2 4 a11.toNatClampNeg)) (y2 + 1)))))))))))) := h
      refine lv_iload_n hx hb d_R_release_32 rfl (lv_at hl 1 rfl) ?_
      refine lv_aload_n hx hb d_R_release_33 rfl (lv_at hl 0 rfl) ?_
      refine va_get (D := D) (ci := 4) (v := .int (S.1 2 0)) (C := Rc_R) (T := Fc_R) (N := 25) hx hb hw inc_R hown hK hP 0 rfl rfl 5 (by decide) (hw _ wd_596) (fun _ h9 => h9) rfl d_R_release_34 ?_
      refine lv_icmp_ge (tgt := 88) hx hb d_R_release_37 (by decide) (fun hc => ?_) (fun hc => ?_)
      · replace h := h.1 hc
        refine lv_aload_n hx hb d_R_release_88 rfl (lv_at hl 0 rfl) ?_
        refine lv_aload_n hx hb d_R_release_89 rfl (lv_at hl 0 rfl) ?_
        refine va_get (D := D) (ci := 4) (v := .int (S.1 2 0)) (C := Rc_R) (T := Fc_R) (N := 25) hx hb hw inc_R hown hK hP 0 rfl rfl 5 (by decide) (hw _ wd_596) (fun _ h9 => h9) rfl d_R_release_90 ?_
        refine xx_calli (va_runV (As := [.int (S.1 2 0)]) (rest := []) ⟨hx, hb, hml, hown, hw⟩ (c_R_answer l D ca ad H.size S (S.1 2 0) _ h) (cwV 1 hw (tG_g gl_R_111) rfl rfl rfl (by decide +kernel) ⟨Nat.le_of_ble_eq_true rfl, Nat.le_of_ble_eq_true rfl⟩) ⟨xPc.blind, va_recv hK hP rfl (q0 := 0) rfl, xPc.pre hK hN hP hD⟩ rfl rfl hl.1 rfl (lv_room (Nat.le_of_ble_eq_true rfl)) d_R_release_93 ⟨Nat.le_of_ble_eq_true rfl, Nat.le_of_ble_eq_true rfl⟩) hD hS hA (fun r7 S8 H locs h hP hD hS => ?_)
        exact W.iret (v := r7) hx hb hr (fun t ht hW => ⟨⟨r7, S8, rfl, h, by rw [ht]; exact hP, hD⟩, hS.F ht⟩) hS.2.2 d_R_release_96
      · replace h := h.2 hc
        refine lv_aload_n hx hb d_R_release_40 rfl (lv_at hl 0 rfl) ?_
        refine va_get (D := D) (ci := 4) (v := .ref (ad 4)) (C := Rc_R) (T := Fc_R) (N := 25) hx hb hw inc_R hown hK hP 0 rfl rfl 6 (by decide) (hw _ wd_597) (fun _ h9 => h9) rfl d_R_release_41 ?_
        refine lv_iload_n hx hb d_R_release_44 rfl (lv_at hl 1 rfl) ?_
        refine lv_aload_n hx hb d_R_release_45 rfl (lv_at hl 0 rfl) ?_
        refine va_get (D := D) (ci := 4) (v := .ref (ad 4)) (C := Rc_R) (T := Fc_R) (N := 25) hx hb hw inc_R hown hK hP 0 rfl rfl 6 (by decide) (hw _ wd_597) (fun _ h9 => h9) rfl d_R_release_46 ?_
        refine lv_iload_n hx hb d_R_release_49 rfl (lv_at hl 1 rfl) ?_
        refine lv_iconst (v := 1) hx hb d_R_release_50 (by decide) ?_
        refine lv_iadd hx hb d_R_release_51 ?_
        refine lv_topi (fun a9 e_a9 => ?_)
        replace h := h a9 e_a9
        obtain ⟨hq, h⟩ := h
        refine va_lald (D := D) hx hb hK hP 4 1 rfl rfl hq d_R_release_52 ?_
        obtain ⟨hq, h⟩ := h
        refine va_last (D := D) hx hb hK hP hD hS 4 1 rfl rfl hq d_R_release_53 (fun H locs hP hD hS => ?_)
        rw [pt_R_from] at hP hD
        refine lv_aload_n hx hb d_R_release_54 rfl (lv_at hl 0 rfl) ?_
        refine va_get (D := D) (ci := 4) (v := .ref (ad 5)) (C := Rc_R) (T := Fc_R) (N := 25) hx hb hw inc_R hown hK hP 0 rfl rfl 7 (by decide) (hw _ wd_598) (fun _ h9 => h9) rfl d_R_release_55 ?_
        refine lv_iload_n hx hb d_R_release_58 rfl (lv_at hl 1 rfl) ?_
        refine lv_aload_n hx hb d_R_release_59 rfl (lv_at hl 0 rfl) ?_
        refine va_get (D := D) (ci := 4) (v := .ref (ad 5)) (C := Rc_R) (T := Fc_R) (N := 25) hx hb hw inc_R hown hK hP 0 rfl rfl 7 (by decide) (hw _ wd_598) (fun _ h9 => h9) rfl d_R_release_60 ?_
        refine lv_iload_n hx hb d_R_release_63 rfl (lv_at hl 1 rfl) ?_
        refine lv_iconst (v := 1) hx hb d_R_release_64 (by decide) ?_
        refine lv_iadd hx hb d_R_release_65 ?_
        refine lv_topi (fun a10 e_a10 => ?_)
        replace h := h a10 e_a10
        obtain ⟨hq, h⟩ := h
        refine va_lald (D := D) hx hb hK hP 5 1 rfl rfl hq d_R_release_66 ?_
        obtain ⟨hq, h⟩ := h
        refine va_last (D := D) hx hb hK hP hD hS 5 1 rfl rfl hq d_R_release_67 (fun H locs hP hD hS => ?_)
        rw [pt_R_to] at hP hD
        refine lv_aload_n hx hb d_R_release_68 rfl (lv_at hl 0 rfl) ?_
        refine va_get (D := D) (ci := 4) (v := .ref (ad 6)) (C := Rc_R) (T := Fc_R) (N := 25) hx hb hw inc_R hown hK hP 0 rfl rfl 8 (by decide) (hw _ wd_599) (fun _ h9 => h9) rfl d_R_release_69 ?_
        refine lv_iload_n hx hb d_R_release_72 rfl (lv_at hl 1 rfl) ?_
        refine lv_aload_n hx hb d_R_release_73 rfl (lv_at hl 0 rfl) ?_
        refine va_get (D := D) (ci := 4) (v := .ref (ad 6)) (C := Rc_R) (T := Fc_R) (N := 25) hx hb hw inc_R hown hK hP 0 rfl rfl 8 (by decide) (hw _ wd_599) (fun _ h9 => h9) rfl d_R_release_74 ?_
        refine lv_iload_n hx hb d_R_release_77 rfl (lv_at hl 1 rfl) ?_
        refine lv_iconst (v := 1) hx hb d_R_release_78 (by decide) ?_
        refine lv_iadd hx hb d_R_release_79 ?_
        refine lv_topi (fun a11 e_a11 => ?_)
        replace h := h a11 e_a11
        obtain ⟨hq, h⟩ := h
        refine va_lald (D := D) hx hb hK hP 6 1 rfl rfl hq d_R_release_80 ?_
        obtain ⟨hq, h⟩ := h
        refine va_last (D := D) hx hb hK hP hD hS 6 1 rfl rfl hq d_R_release_81 (fun H locs hP hD hS => ?_)
        rw [pt_R_least] at hP hD
        refine lv_iinc (v := (y2 + 1)) (lv' := [(2, .int (y2 + 1)), (0, .ref (ad 0))]) hx hb d_R_release_82 hl (k := 1) rfl rfl (by decide) rfl (fun ls hl => ?_)
        refine lv_goto (tgt := 32) hx hb d_R_release_85 (by decide) ?_
        exact hK32 (pV (pV (pV S 2 y2.toNatClampNeg (S.2 2 a9.toNatClampNeg)) 3 y2.toNatClampNeg ((pV S 2 y2.toNatClampNeg (S.2 2 a9.toNatClampNeg)).2 3 a10.toNatClampNeg)) 4 y2.toNatClampNeg ((pV (pV S 2 y2.toNatClampNeg (S.2 2 a9.toNatClampNeg)) 3 y2.toNatClampNeg ((pV S 2 y2.toNatClampNeg (S.2 2 a9.toNatClampNeg)).2 3 a10.toNatClampNeg)).2 4 a11.toNatClampNeg)) (y2 + 1) H locs hP hD hS ls (lv_sub hl [1, 0] rfl) h
  have hH9 : ∀ H : Heap, H = s.heap → va_P D cls (wR ca ad S) H → va_S A s.heap H [] → W p l e ({ frames := 1, cells := 0, slots := 0, locals := 22 } : Room) s m args below meth c H [] 0 0 (MQ below ((fun A => va_Qi Q (xAt D (wR ca ad) A) A) A) args s 0 0 A) (F0 m 0 ls []) := by
    clear hP hS
    intro H hH hP hS
    obtain ⟨locs, hlo⟩ : ∃ z : List Loc, z = [] := ⟨_, rfl⟩
    rw [← hlo] at hS ⊢
    refine lv_iload_n hx hb d_R_release_0 rfl (lv_at hl 1 rfl) ?_
    refine lv_iconst (v := 0) hx hb d_R_release_1 (by decide) ?_
    refine lv_aload_n hx hb d_R_release_2 rfl (lv_at hl 0 rfl) ?_
    refine va_get (D := D) (ci := 4) (v := .int (S.1 2 0)) (C := Rc_R) (T := Fc_R) (N := 25) hx hb hw inc_R hown hK hP 0 rfl rfl 5 (by decide) (hw _ wd_596) (fun _ h9 => h9) rfl d_R_release_3 ?_
    refine lv_iconst (v := 1) hx hb d_R_release_6 (by decide) ?_
    refine lv_isub hx hb d_R_release_7 ?_
    refine lv_topi (fun a1 e_a1 => ?_)
    replace h := h a1 e_a1
    refine xx_calli (va_runS (As := [.int x1, .int 0, .int a1]) (rest := []) ⟨hx, hb, hml, hown, hw⟩ (c_R_in l D ca ad H.size S x1 0 a1 _ h) (cwS 3 hw (tG_g gl_R_75) rfl rfl rfl (by decide +kernel) ⟨Nat.le_of_ble_eq_true rfl, Nat.le_of_ble_eq_true rfl⟩) ⟨xPc.blind, xPc.pre hK hN hP hD⟩ rfl rfl hl.1 rfl (lv_room (Nat.le_of_ble_eq_true rfl)) d_R_release_8 ⟨Nat.le_of_ble_eq_true rfl, Nat.le_of_ble_eq_true rfl⟩) hD hS hA (fun r2 S3 H locs h hP hD hS => ?_)
    refine lv_if_ne (tgt := 20) hx hb d_R_release_11 (by decide) (fun hc => ?_) (fun hc => ?_)
    · replace h := h.1 hc
      refine lv_aload_n hx hb d_R_release_20 rfl (lv_at hl 0 rfl) ?_
      refine lv_dup hx hb d_R_release_21 rfl ?_
      refine va_get (D := D) (ci := 4) (v := .int (S3.1 2 0)) (C := Rc_R) (T := Fc_R) (N := 25) hx hb hw inc_R hown hK hP 0 rfl rfl 5 (by decide) (hw _ wd_596) (fun _ h9 => h9) rfl d_R_release_22 ?_
      refine lv_iconst (v := 1) hx hb d_R_release_25 (by decide) ?_
      refine lv_isub hx hb d_R_release_26 ?_
      refine lv_topi (fun a4 e_a4 => ?_)
      replace h := h a4 e_a4
      refine va_put (D := D) (ci := 4) (v := .int a4) (ty := .int) (C := Rc_R) (T := Fc_R) (N := 25) hx hb hw inc_R tc_R tc_R_ok nc_R hown hK hP hD hS 0 rfl rfl 5 (by decide) (hw _ wd_596) (fun _ h9 => h9) rfl (by decide +kernel) rfl rfl (Nat.le_of_ble_eq_true rfl) d_R_release_27 (fun H locs hP hD hS => ?_)
      rw [pt_R_restrictions] at hP hD
      refine lv_iload_n hx hb d_R_release_30 rfl (lv_at hl 1 rfl) ?_
      refine lv_istore_n (lv' := [(2, .int x1), (0, .ref (ad 0)), (1, .int x1)]) hx hb d_R_release_31 rfl hl (by decide) rfl (fun ls hl => ?_)
      obtain ⟨n9, h⟩ := h
      exact bk_32 n9 (pI S3 2 0 a4) x1 H locs hP hD hS ls (lv_sub hl [1, 0] rfl) h
    · replace h := h.2 hc
      refine lv_aload_n hx hb d_R_release_14 rfl (lv_at hl 0 rfl) ?_
      refine lv_iconst (v := 1) hx hb d_R_release_15 (by decide) ?_
      refine xx_calli (va_runV (As := [.int 1]) (rest := []) ⟨hx, hb, hml, hown, hw⟩ (c_R_fail l D ca ad H.size S3 1 _ h) (cwV 1 hw (tG_g gl_R_103) rfl rfl rfl (by decide +kernel) ⟨Nat.le_of_ble_eq_true rfl, Nat.le_of_ble_eq_true rfl⟩) ⟨xPc.blind, va_recv hK hP rfl (q0 := 0) rfl, xPc.pre hK hN hP hD⟩ rfl rfl hl.1 rfl (lv_room (Nat.le_of_ble_eq_true rfl)) d_R_release_16 ⟨Nat.le_of_ble_eq_true rfl, Nat.le_of_ble_eq_true rfl⟩) hD hS hA (fun r5 S6 H locs h hP hD hS => ?_)
      exact W.iret (v := r5) hx hb hr (fun t ht hW => ⟨⟨r5, S6, rfl, h, by rw [ht]; exact hP, hD⟩, hS.F ht⟩) hS.2.2 d_R_release_19
  exact hH9 _ rfl hP hS
theorem d_R_train_0 : decode b_R_train 0 = .ok (.aload_n 0, 1) := by decide +kernel
theorem d_R_train_1 : decode b_R_train 1 = .ok (.iload_n 1, 1) := by decide +kernel
theorem d_R_train_2 : decode b_R_train 2 = .ok (.invokevirtual 116, 3) := by decide +kernel
theorem d_R_train_5 : decode b_R_train 5 = .ok (.ifCond .ne 30, 3) := by decide +kernel
theorem d_R_train_8 : decode b_R_train 8 = .ok (.dload_n 2, 1) := by decide +kernel
theorem d_R_train_9 : decode b_R_train 9 = .ok (.ldc2_w 120, 3) := by decide +kernel
theorem d_R_train_12 : decode b_R_train 12 = .ok (.ldc2_w 93, 3) := by decide +kernel
theorem d_R_train_15 : decode b_R_train 15 = .ok (.invokestatic 97, 3) := by decide +kernel
theorem d_R_train_18 : decode b_R_train 18 = .ok (.ifCond .eq 17, 3) := by decide +kernel
theorem d_R_train_21 : decode b_R_train 21 = .ok (.dload 4, 2) := by decide +kernel
theorem d_R_train_23 : decode b_R_train 23 = .ok (.ldc2_w 122, 3) := by decide +kernel
theorem d_R_train_26 : decode b_R_train 26 = .ok (.ldc2_w 124, 3) := by decide +kernel
theorem d_R_train_29 : decode b_R_train 29 = .ok (.invokestatic 97, 3) := by decide +kernel
theorem d_R_train_32 : decode b_R_train 32 = .ok (.ifCond .ne 9, 3) := by decide +kernel
theorem d_R_train_35 : decode b_R_train 35 = .ok (.aload_n 0, 1) := by decide +kernel
theorem d_R_train_36 : decode b_R_train 36 = .ok (.iconst 1, 1) := by decide +kernel
theorem d_R_train_37 : decode b_R_train 37 = .ok (.invokevirtual 103, 3) := by decide +kernel
theorem d_R_train_40 : decode b_R_train 40 = .ok (.ireturn, 1) := by decide +kernel
theorem d_R_train_41 : decode b_R_train 41 = .ok (.aload_n 0, 1) := by decide +kernel
theorem d_R_train_42 : decode b_R_train 42 = .ok (.getfield 72, 3) := by decide +kernel
theorem d_R_train_45 : decode b_R_train 45 = .ok (.iconst 3, 1) := by decide +kernel
theorem d_R_train_46 : decode b_R_train 46 = .ok (.if_icmp .eq 12, 3) := by decide +kernel
theorem d_R_train_49 : decode b_R_train 49 = .ok (.aload_n 0, 1) := by decide +kernel
theorem d_R_train_50 : decode b_R_train 50 = .ok (.iload_n 1, 1) := by decide +kernel
theorem d_R_train_51 : decode b_R_train 51 = .ok (.iconst (-1), 1) := by decide +kernel
theorem d_R_train_52 : decode b_R_train 52 = .ok (.invokevirtual 126, 3) := by decide +kernel
theorem d_R_train_55 : decode b_R_train 55 = .ok (.ifCond .eq 9, 3) := by decide +kernel
theorem d_R_train_58 : decode b_R_train 58 = .ok (.aload_n 0, 1) := by decide +kernel
theorem d_R_train_59 : decode b_R_train 59 = .ok (.iconst 3, 1) := by decide +kernel
theorem d_R_train_60 : decode b_R_train 60 = .ok (.invokevirtual 103, 3) := by decide +kernel
theorem d_R_train_63 : decode b_R_train 63 = .ok (.ireturn, 1) := by decide +kernel
theorem d_R_train_64 : decode b_R_train 64 = .ok (.aload_n 0, 1) := by decide +kernel
theorem d_R_train_65 : decode b_R_train 65 = .ok (.getfield 72, 3) := by decide +kernel
theorem d_R_train_68 : decode b_R_train 68 = .ok (.istore 6, 2) := by decide +kernel
theorem d_R_train_70 : decode b_R_train 70 = .ok (.aload_n 0, 1) := by decide +kernel
theorem d_R_train_71 : decode b_R_train 71 = .ok (.getfield 29, 3) := by decide +kernel
theorem d_R_train_74 : decode b_R_train 74 = .ok (.iload 6, 2) := by decide +kernel
theorem d_R_train_76 : decode b_R_train 76 = .ok (.dload_n 2, 1) := by decide +kernel
theorem d_R_train_77 : decode b_R_train 77 = .ok (.invokestatic 107, 3) := by decide +kernel
theorem d_R_train_80 : decode b_R_train 80 = .ok (.lastore, 1) := by decide +kernel
theorem d_R_train_81 : decode b_R_train 81 = .ok (.aload_n 0, 1) := by decide +kernel
theorem d_R_train_82 : decode b_R_train 82 = .ok (.getfield 32, 3) := by decide +kernel
theorem d_R_train_85 : decode b_R_train 85 = .ok (.iload 6, 2) := by decide +kernel
theorem d_R_train_87 : decode b_R_train 87 = .ok (.dload 4, 2) := by decide +kernel
theorem d_R_train_89 : decode b_R_train 89 = .ok (.invokestatic 107, 3) := by decide +kernel
theorem d_R_train_92 : decode b_R_train 92 = .ok (.lastore, 1) := by decide +kernel
theorem d_R_train_93 : decode b_R_train 93 = .ok (.aload_n 0, 1) := by decide +kernel
theorem d_R_train_94 : decode b_R_train 94 = .ok (.getfield 38, 3) := by decide +kernel
theorem d_R_train_97 : decode b_R_train 97 = .ok (.iload 6, 2) := by decide +kernel
theorem d_R_train_99 : decode b_R_train 99 = .ok (.aload_n 0, 1) := by decide +kernel
theorem d_R_train_100 : decode b_R_train 100 = .ok (.getfield 7, 3) := by decide +kernel
theorem d_R_train_103 : decode b_R_train 103 = .ok (.iload_n 1, 1) := by decide +kernel
theorem d_R_train_104 : decode b_R_train 104 = .ok (.laload, 1) := by decide +kernel
theorem d_R_train_105 : decode b_R_train 105 = .ok (.aload_n 0, 1) := by decide +kernel
theorem d_R_train_106 : decode b_R_train 106 = .ok (.getfield 29, 3) := by decide +kernel
theorem d_R_train_109 : decode b_R_train 109 = .ok (.iload 6, 2) := by decide +kernel
theorem d_R_train_111 : decode b_R_train 111 = .ok (.laload, 1) := by decide +kernel
theorem d_R_train_112 : decode b_R_train 112 = .ok (.ladd, 1) := by decide +kernel
theorem d_R_train_113 : decode b_R_train 113 = .ok (.lastore, 1) := by decide +kernel
theorem d_R_train_114 : decode b_R_train 114 = .ok (.aload_n 0, 1) := by decide +kernel
theorem d_R_train_115 : decode b_R_train 115 = .ok (.getfield 41, 3) := by decide +kernel
theorem d_R_train_118 : decode b_R_train 118 = .ok (.iload 6, 2) := by decide +kernel
theorem d_R_train_120 : decode b_R_train 120 = .ok (.aload_n 0, 1) := by decide +kernel
theorem d_R_train_121 : decode b_R_train 121 = .ok (.getfield 38, 3) := by decide +kernel
theorem d_R_train_124 : decode b_R_train 124 = .ok (.iload 6, 2) := by decide +kernel
theorem d_R_train_126 : decode b_R_train 126 = .ok (.laload, 1) := by decide +kernel
theorem d_R_train_127 : decode b_R_train 127 = .ok (.lastore, 1) := by decide +kernel
theorem d_R_train_128 : decode b_R_train 128 = .ok (.aload_n 0, 1) := by decide +kernel
theorem d_R_train_129 : decode b_R_train 129 = .ok (.getfield 47, 3) := by decide +kernel
theorem d_R_train_132 : decode b_R_train 132 = .ok (.iload 6, 2) := by decide +kernel
theorem d_R_train_134 : decode b_R_train 134 = .ok (.ldc2_w 129, 3) := by decide +kernel
theorem d_R_train_137 : decode b_R_train 137 = .ok (.lastore, 1) := by decide +kernel
theorem d_R_train_138 : decode b_R_train 138 = .ok (.aload_n 0, 1) := by decide +kernel
theorem d_R_train_139 : decode b_R_train 139 = .ok (.getfield 16, 3) := by decide +kernel
theorem d_R_train_142 : decode b_R_train 142 = .ok (.iload_n 1, 1) := by decide +kernel
theorem d_R_train_143 : decode b_R_train 143 = .ok (.iload 6, 2) := by decide +kernel
theorem d_R_train_145 : decode b_R_train 145 = .ok (.iastore, 1) := by decide +kernel
theorem d_R_train_146 : decode b_R_train 146 = .ok (.aload_n 0, 1) := by decide +kernel
theorem d_R_train_147 : decode b_R_train 147 = .ok (.dup, 1) := by decide +kernel
theorem d_R_train_148 : decode b_R_train 148 = .ok (.getfield 72, 3) := by decide +kernel
theorem d_R_train_151 : decode b_R_train 151 = .ok (.iconst 1, 1) := by decide +kernel
theorem d_R_train_152 : decode b_R_train 152 = .ok (.iadd, 1) := by decide +kernel
theorem d_R_train_153 : decode b_R_train 153 = .ok (.putfield 72, 3) := by decide +kernel
theorem d_R_train_156 : decode b_R_train 156 = .ok (.aload_n 0, 1) := by decide +kernel
theorem d_R_train_157 : decode b_R_train 157 = .ok (.iload 6, 2) := by decide +kernel
theorem d_R_train_159 : decode b_R_train 159 = .ok (.invokevirtual 111, 3) := by decide +kernel
theorem d_R_train_162 : decode b_R_train 162 = .ok (.ireturn, 1) := by decide +kernel
theorem gl_R_116 : ∀ w ∈ wsV "TrainGuardModel" 116 "TrainGuardModel" y_R_noSection (Cond.code y_R_noSection b_R_noSection 2 (some Jvm.ClassFile.FieldType.boolean) :: tG), w ∈ tG := by
  intro x hx
  simp only [wsV, List.cons_append, List.nil_append, List.mem_cons] at hx
  rcases hx with rfl | rfl | rfl | rfl | rfl | hx
  · exact wd_711
  · exact wd_713
  · exact ws_19
  · exact wd_5
  · exact wd_714
  · exact hx
theorem gl_R_126 : ∀ w ∈ wsV "TrainGuardModel" 126 "TrainGuardModel" y_R_taken (Cond.code y_R_taken b_R_taken 4 (some Jvm.ClassFile.FieldType.boolean) :: tG), w ∈ tG := by
  intro x hx
  simp only [wsV, List.cons_append, List.nil_append, List.mem_cons] at hx
  rcases hx with rfl | rfl | rfl | rfl | rfl | hx
  · exact wd_718
  · exact wd_720
  · exact ws_20
  · exact wd_5
  · exact wd_721
  · exact hx
def w_R_train (S : SR) (x1 : Int32) (x2 : UInt64) (x3 : UInt64) (Q : Int32 → SR → Prop) : Prop := w_R_noSection S x1 (fun r1 S2 => ((¬ r1 = 0) → (w_R_fail S2 1 (fun r3 S4 => Q r3 S4))) ∧ ((r1 = 0) → (w_R_between S2 x2 (4621819117588971520 : UInt64) (4632233691727265792 : UInt64) (fun r5 S6 => ((r5 = 0) → (w_R_fail S6 1 (fun r7 S8 => Q r7 S8))) ∧ ((¬ r5 = 0) → (w_R_between S6 x3 (4602678819172646912 : UInt64) (4611686018427387904 : UInt64) (fun r9 S10 => ((¬ r9 = 0) → ((((S10.1 3 0) = 3) → (w_R_fail S10 3 (fun r11 S12 => Q r11 S12))) ∧ ((¬ (S10.1 3 0) = 3) → (w_R_taken S10 x1 (-1) (fun r13 S14 => ((r13 = 0) → (w_R_whole S14 x2 (fun r15 S16 => vp_in (S14.1 3 0) 3 ∧ (w_R_whole (pV S16 5 (S14.1 3 0).toNatClampNeg r15) x3 (fun r17 S18 => vp_in (S14.1 3 0) 3 ∧ (vp_in x1 11 ∧ (vp_in (S14.1 3 0) 3 ∧ (∀ b19 : Int64, b19 = ((pV S18 6 (S14.1 3 0).toNatClampNeg r17).2 0 x1.toNatClampNeg) + ((pV S18 6 (S14.1 3 0).toNatClampNeg r17).2 5 (S14.1 3 0).toNatClampNeg) → (vp_in (S14.1 3 0) 3 ∧ (vp_in (S14.1 3 0) 3 ∧ (vp_in (S14.1 3 0) 3 ∧ (vp_in (S14.1 3 0) 3 ∧ (vp_in x1 10 ∧ (∀ a20 : Int32, a20 = ((pI (pV (pV (pV (pV S18 6 (S14.1 3 0).toNatClampNeg r17) 8 (S14.1 3 0).toNatClampNeg b19) 9 (S14.1 3 0).toNatClampNeg ((pV (pV S18 6 (S14.1 3 0).toNatClampNeg r17) 8 (S14.1 3 0).toNatClampNeg b19).2 8 (S14.1 3 0).toNatClampNeg)) 11 (S14.1 3 0).toNatClampNeg (-1 : Int64)) 7 x1.toNatClampNeg (S14.1 3 0)).1 3 0) + 1 → (w_R_answer (pI (pI (pV (pV (pV (pV S18 6 (S14.1 3 0).toNatClampNeg r17) 8 (S14.1 3 0).toNatClampNeg b19) 9 (S14.1 3 0).toNatClampNeg ((pV (pV S18 6 (S14.1 3 0).toNatClampNeg r17) 8 (S14.1 3 0).toNatClampNeg b19).2 8 (S14.1 3 0).toNatClampNeg)) 11 (S14.1 3 0).toNatClampNeg (-1 : Int64)) 7 x1.toNatClampNeg (S14.1 3 0)) 3 0 a20) (S14.1 3 0) (fun r21 S22 => Q r21 S22)))))))))))))))) ∧ ((¬ r13 = 0) → (w_R_fail S14 3 (fun r23 S24 => Q r23 S24)))))))) ∧ ((r9 = 0) → (w_R_fail S10 1 (fun r25 S26 => Q r25 S26))))))))))
set_option maxRecDepth 100000 in
set_option maxHeartbeats 4000000 in
theorem c_R_train (l : Launch) (D : va_G) (ca : Nat → ClassId) (ad : Nat → Nat) (sz : Nat) (S : SR) (x1 : Int32) (x2 : UInt64) (x3 : UInt64)  (Q : Int32 → SR → Prop) (h : w_R_train S x1 x2 x3 Q) : Met l y_R_train (Cond.code y_R_train b_R_train 7 (some Jvm.ClassFile.FieldType.int) :: tG) ({ frames := 2, cells := 0, slots := 0, locals := 45 } : Room) (xPc D ca (wR ca ad) S sz [.ref (ad 0), .int x1, .double x2, .double x3]) (va_Qi Q (xAt D (wR ca ad) (va_A (wR ca ad S) sz)) (va_A (wR ca ad S) sz)) 0 0 (va_A (wR ca ad S) sz) := by
  refine xx_met (Qf := fun A => va_Qi Q (xAt D (wR ca ad) A) A) (by decide) (Nat.le_of_ble_eq_true rfl) ?_
  intro p e s m args below meth c A ls hx hb hr hw hown hlocks hml hK hN hA hP hD hS hl
  have hown : s.vm.findClass "TrainGuardModel" = some m.cls := hown
  have hl : lv_has ls 7 [(0, .ref (ad 0)), (1, .int x1), (2, .double x2), (4, .double x3)] := hl
  unfold w_R_train at h
  have hH9 : ∀ H : Heap, H = s.heap → va_P D cls (wR ca ad S) H → va_S A s.heap H [] → W p l e ({ frames := 2, cells := 0, slots := 0, locals := 45 } : Room) s m args below meth c H [] 0 0 (MQ below ((fun A => va_Qi Q (xAt D (wR ca ad) A) A) A) args s 0 0 A) (F0 m 0 ls []) := by
    clear hP hS
    intro H hH hP hS
    obtain ⟨locs, hlo⟩ : ∃ z : List Loc, z = [] := ⟨_, rfl⟩
    rw [← hlo] at hS ⊢
    refine lv_aload_n hx hb d_R_train_0 rfl (lv_at hl 0 rfl) ?_
    refine lv_iload_n hx hb d_R_train_1 rfl (lv_at hl 1 rfl) ?_
    refine xx_calli (va_runV (As := [.int x1]) (rest := []) ⟨hx, hb, hml, hown, hw⟩ (c_R_noSection l D ca ad H.size S x1 _ h) (cwV 1 hw (tG_g gl_R_116) rfl rfl rfl (by decide +kernel) ⟨Nat.le_of_ble_eq_true rfl, Nat.le_of_ble_eq_true rfl⟩) ⟨xPc.blind, va_recv hK hP rfl (q0 := 0) rfl, xPc.pre hK hN hP hD⟩ rfl rfl hl.1 rfl (lv_room (Nat.le_of_ble_eq_true rfl)) d_R_train_2 ⟨Nat.le_of_ble_eq_true rfl, Nat.le_of_ble_eq_true rfl⟩) hD hS hA (fun r1 S2 H locs h hP hD hS => ?_)
    refine lv_if_ne (tgt := 35) hx hb d_R_train_5 (by decide) (fun hc => ?_) (fun hc => ?_)
    · replace h := h.1 hc
      refine lv_aload_n hx hb d_R_train_35 rfl (lv_at hl 0 rfl) ?_
      refine lv_iconst (v := 1) hx hb d_R_train_36 (by decide) ?_
      refine xx_calli (va_runV (As := [.int 1]) (rest := []) ⟨hx, hb, hml, hown, hw⟩ (c_R_fail l D ca ad H.size S2 1 _ h) (cwV 1 hw (tG_g gl_R_103) rfl rfl rfl (by decide +kernel) ⟨Nat.le_of_ble_eq_true rfl, Nat.le_of_ble_eq_true rfl⟩) ⟨xPc.blind, va_recv hK hP rfl (q0 := 0) rfl, xPc.pre hK hN hP hD⟩ rfl rfl hl.1 rfl (lv_room (Nat.le_of_ble_eq_true rfl)) d_R_train_37 ⟨Nat.le_of_ble_eq_true rfl, Nat.le_of_ble_eq_true rfl⟩) hD hS hA (fun r3 S4 H locs h hP hD hS => ?_)
      exact W.iret (v := r3) hx hb hr (fun t ht hW => ⟨⟨r3, S4, rfl, h, by rw [ht]; exact hP, hD⟩, hS.F ht⟩) hS.2.2 d_R_train_40
    · replace h := h.2 hc
      refine lv_dload_n hx hb d_R_train_8 rfl (lv_at hl 2 rfl) ?_
      refine lv_ldc2d hx hb hown (hw _ wd_715) d_R_train_9 ?_
      refine lv_ldc2d hx hb hown (hw _ wd_677) d_R_train_12 ?_
      refine xx_calli (va_runS (As := [.double x2, .double (4621819117588971520 : UInt64), .double (4632233691727265792 : UInt64)]) (rest := []) ⟨hx, hb, hml, hown, hw⟩ (c_R_between l D ca ad H.size S2 x2 (4621819117588971520 : UInt64) (4632233691727265792 : UInt64) _ h) (cwS 3 hw (tG_g gl_R_97) rfl rfl rfl (by decide +kernel) ⟨Nat.le_of_ble_eq_true rfl, Nat.le_of_ble_eq_true rfl⟩) ⟨xPc.blind, xPc.pre hK hN hP hD⟩ rfl rfl hl.1 rfl (lv_room (Nat.le_of_ble_eq_true rfl)) d_R_train_15 ⟨Nat.le_of_ble_eq_true rfl, Nat.le_of_ble_eq_true rfl⟩) hD hS hA (fun r5 S6 H locs h hP hD hS => ?_)
      refine lv_if_eq (tgt := 35) hx hb d_R_train_18 (by decide) (fun hc => ?_) (fun hc => ?_)
      · replace h := h.1 hc
        refine lv_aload_n hx hb d_R_train_35 rfl (lv_at hl 0 rfl) ?_
        refine lv_iconst (v := 1) hx hb d_R_train_36 (by decide) ?_
        refine xx_calli (va_runV (As := [.int 1]) (rest := []) ⟨hx, hb, hml, hown, hw⟩ (c_R_fail l D ca ad H.size S6 1 _ h) (cwV 1 hw (tG_g gl_R_103) rfl rfl rfl (by decide +kernel) ⟨Nat.le_of_ble_eq_true rfl, Nat.le_of_ble_eq_true rfl⟩) ⟨xPc.blind, va_recv hK hP rfl (q0 := 0) rfl, xPc.pre hK hN hP hD⟩ rfl rfl hl.1 rfl (lv_room (Nat.le_of_ble_eq_true rfl)) d_R_train_37 ⟨Nat.le_of_ble_eq_true rfl, Nat.le_of_ble_eq_true rfl⟩) hD hS hA (fun r7 S8 H locs h hP hD hS => ?_)
        exact W.iret (v := r7) hx hb hr (fun t ht hW => ⟨⟨r7, S8, rfl, h, by rw [ht]; exact hP, hD⟩, hS.F ht⟩) hS.2.2 d_R_train_40
      · replace h := h.2 hc
        refine lv_dload hx hb d_R_train_21 (lv_at hl 3 rfl) ?_
        refine lv_ldc2d hx hb hown (hw _ wd_716) d_R_train_23 ?_
        refine lv_ldc2d hx hb hown (hw _ wd_717) d_R_train_26 ?_
        refine xx_calli (va_runS (As := [.double x3, .double (4602678819172646912 : UInt64), .double (4611686018427387904 : UInt64)]) (rest := []) ⟨hx, hb, hml, hown, hw⟩ (c_R_between l D ca ad H.size S6 x3 (4602678819172646912 : UInt64) (4611686018427387904 : UInt64) _ h) (cwS 3 hw (tG_g gl_R_97) rfl rfl rfl (by decide +kernel) ⟨Nat.le_of_ble_eq_true rfl, Nat.le_of_ble_eq_true rfl⟩) ⟨xPc.blind, xPc.pre hK hN hP hD⟩ rfl rfl hl.1 rfl (lv_room (Nat.le_of_ble_eq_true rfl)) d_R_train_29 ⟨Nat.le_of_ble_eq_true rfl, Nat.le_of_ble_eq_true rfl⟩) hD hS hA (fun r9 S10 H locs h hP hD hS => ?_)
        refine lv_if_ne (tgt := 41) hx hb d_R_train_32 (by decide) (fun hc => ?_) (fun hc => ?_)
        · replace h := h.1 hc
          refine lv_aload_n hx hb d_R_train_41 rfl (lv_at hl 0 rfl) ?_
          refine va_get (D := D) (ci := 4) (v := .int (S10.1 3 0)) (C := Rc_R) (T := Fc_R) (N := 25) hx hb hw inc_R hown hK hP 0 rfl rfl 9 (by decide) (hw _ wd_600) (fun _ h9 => h9) rfl d_R_train_42 ?_
          refine lv_iconst (v := 3) hx hb d_R_train_45 (by decide) ?_
          refine lv_icmp_eq (tgt := 58) hx hb d_R_train_46 (by decide) (fun hc => ?_) (fun hc => ?_)
          · replace h := h.1 hc
            refine lv_aload_n hx hb d_R_train_58 rfl (lv_at hl 0 rfl) ?_
            refine lv_iconst (v := 3) hx hb d_R_train_59 (by decide) ?_
            refine xx_calli (va_runV (As := [.int 3]) (rest := []) ⟨hx, hb, hml, hown, hw⟩ (c_R_fail l D ca ad H.size S10 3 _ h) (cwV 1 hw (tG_g gl_R_103) rfl rfl rfl (by decide +kernel) ⟨Nat.le_of_ble_eq_true rfl, Nat.le_of_ble_eq_true rfl⟩) ⟨xPc.blind, va_recv hK hP rfl (q0 := 0) rfl, xPc.pre hK hN hP hD⟩ rfl rfl hl.1 rfl (lv_room (Nat.le_of_ble_eq_true rfl)) d_R_train_60 ⟨Nat.le_of_ble_eq_true rfl, Nat.le_of_ble_eq_true rfl⟩) hD hS hA (fun r11 S12 H locs h hP hD hS => ?_)
            exact W.iret (v := r11) hx hb hr (fun t ht hW => ⟨⟨r11, S12, rfl, h, by rw [ht]; exact hP, hD⟩, hS.F ht⟩) hS.2.2 d_R_train_63
          · replace h := h.2 hc
            refine lv_aload_n hx hb d_R_train_49 rfl (lv_at hl 0 rfl) ?_
            refine lv_iload_n hx hb d_R_train_50 rfl (lv_at hl 1 rfl) ?_
            refine lv_iconst (v := (-1)) hx hb d_R_train_51 (by decide) ?_
            refine xx_calli (va_runV (As := [.int x1, .int (-1)]) (rest := []) ⟨hx, hb, hml, hown, hw⟩ (c_R_taken l D ca ad H.size S10 x1 (-1) _ h) (cwV 2 hw (tG_g gl_R_126) rfl rfl rfl (by decide +kernel) ⟨Nat.le_of_ble_eq_true rfl, Nat.le_of_ble_eq_true rfl⟩) ⟨xPc.blind, va_recv hK hP rfl (q0 := 0) rfl, xPc.pre hK hN hP hD⟩ rfl rfl hl.1 rfl (lv_room (Nat.le_of_ble_eq_true rfl)) d_R_train_52 ⟨Nat.le_of_ble_eq_true rfl, Nat.le_of_ble_eq_true rfl⟩) hD hS hA (fun r13 S14 H locs h hP hD hS => ?_)
            refine lv_if_eq (tgt := 64) hx hb d_R_train_55 (by decide) (fun hc => ?_) (fun hc => ?_)
            · replace h := h.1 hc
              refine lv_aload_n hx hb d_R_train_64 rfl (lv_at hl 0 rfl) ?_
              refine va_get (D := D) (ci := 4) (v := .int (S14.1 3 0)) (C := Rc_R) (T := Fc_R) (N := 25) hx hb hw inc_R hown hK hP 0 rfl rfl 9 (by decide) (hw _ wd_600) (fun _ h9 => h9) rfl d_R_train_65 ?_
              refine lv_istore (lv' := [(6, .int (S14.1 3 0)), (0, .ref (ad 0)), (1, .int x1), (2, .double x2), (4, .double x3)]) hx hb d_R_train_68 hl (by decide) rfl (fun ls hl => ?_)
              refine lv_aload_n hx hb d_R_train_70 rfl (lv_at hl 1 rfl) ?_
              refine va_get (D := D) (ci := 4) (v := .ref (ad 7)) (C := Rc_R) (T := Fc_R) (N := 25) hx hb hw inc_R hown hK hP 0 rfl rfl 10 (by decide) (hw _ wd_601) (fun _ h9 => h9) rfl d_R_train_71 ?_
              refine lv_iload hx hb d_R_train_74 (lv_at hl 0 rfl) ?_
              refine lv_dload_n hx hb d_R_train_76 rfl (lv_at hl 3 rfl) ?_
              refine xx_calll (va_runS (As := [.double x2]) (rest := [.int (S14.1 3 0), .ref (ad 7)]) ⟨hx, hb, hml, hown, hw⟩ (c_R_whole l D ca ad H.size S14 x2 _ h) (cwS 1 hw (tG_g gl_R_107) rfl rfl rfl (by decide +kernel) ⟨Nat.le_of_ble_eq_true rfl, Nat.le_of_ble_eq_true rfl⟩) ⟨xPc.blind, xPc.pre hK hN hP hD⟩ rfl rfl hl.1 rfl (lv_room (Nat.le_of_ble_eq_true rfl)) d_R_train_77 ⟨Nat.le_of_ble_eq_true rfl, Nat.le_of_ble_eq_true rfl⟩) hD hS hA (fun r15 S16 H locs h hP hD hS => ?_)
              obtain ⟨hq, h⟩ := h
              refine va_last (D := D) hx hb hK hP hD hS 7 1 rfl rfl hq d_R_train_80 (fun H locs hP hD hS => ?_)
              rw [pt_R_length] at hP hD
              refine lv_aload_n hx hb d_R_train_81 rfl (lv_at hl 1 rfl) ?_
              refine va_get (D := D) (ci := 4) (v := .ref (ad 8)) (C := Rc_R) (T := Fc_R) (N := 25) hx hb hw inc_R hown hK hP 0 rfl rfl 11 (by decide) (hw _ wd_602) (fun _ h9 => h9) rfl d_R_train_82 ?_
              refine lv_iload hx hb d_R_train_85 (lv_at hl 0 rfl) ?_
              refine lv_dload hx hb d_R_train_87 (lv_at hl 4 rfl) ?_
              refine xx_calll (va_runS (As := [.double x3]) (rest := [.int (S14.1 3 0), .ref (ad 8)]) ⟨hx, hb, hml, hown, hw⟩ (c_R_whole l D ca ad H.size (pV S16 5 (S14.1 3 0).toNatClampNeg r15) x3 _ h) (cwS 1 hw (tG_g gl_R_107) rfl rfl rfl (by decide +kernel) ⟨Nat.le_of_ble_eq_true rfl, Nat.le_of_ble_eq_true rfl⟩) ⟨xPc.blind, xPc.pre hK hN hP hD⟩ rfl rfl hl.1 rfl (lv_room (Nat.le_of_ble_eq_true rfl)) d_R_train_89 ⟨Nat.le_of_ble_eq_true rfl, Nat.le_of_ble_eq_true rfl⟩) hD hS hA (fun r17 S18 H locs h hP hD hS => ?_)
              obtain ⟨hq, h⟩ := h
              refine va_last (D := D) hx hb hK hP hD hS 8 1 rfl rfl hq d_R_train_92 (fun H locs hP hD hS => ?_)
              rw [pt_R_brake] at hP hD
              refine lv_aload_n hx hb d_R_train_93 rfl (lv_at hl 1 rfl) ?_
              refine va_get (D := D) (ci := 4) (v := .ref (ad 10)) (C := Rc_R) (T := Fc_R) (N := 25) hx hb hw inc_R hown hK hP 0 rfl rfl 13 (by decide) (hw _ wd_604) (fun _ h9 => h9) rfl d_R_train_94 ?_
              refine lv_iload hx hb d_R_train_97 (lv_at hl 0 rfl) ?_
              refine lv_aload_n hx hb d_R_train_99 rfl (lv_at hl 1 rfl) ?_
              refine va_get (D := D) (ci := 4) (v := .ref (ad 1)) (C := Rc_R) (T := Fc_R) (N := 25) hx hb hw inc_R hown hK hP 0 rfl rfl 2 (by decide) (hw _ wd_593) (fun _ h9 => h9) rfl d_R_train_100 ?_
              refine lv_iload_n hx hb d_R_train_103 rfl (lv_at hl 2 rfl) ?_
              obtain ⟨hq, h⟩ := h
              refine va_lald (D := D) hx hb hK hP 1 1 rfl rfl hq d_R_train_104 ?_
              refine lv_aload_n hx hb d_R_train_105 rfl (lv_at hl 1 rfl) ?_
              refine va_get (D := D) (ci := 4) (v := .ref (ad 7)) (C := Rc_R) (T := Fc_R) (N := 25) hx hb hw inc_R hown hK hP 0 rfl rfl 10 (by decide) (hw _ wd_601) (fun _ h9 => h9) rfl d_R_train_106 ?_
              refine lv_iload hx hb d_R_train_109 (lv_at hl 0 rfl) ?_
              obtain ⟨hq, h⟩ := h
              refine va_lald (D := D) hx hb hK hP 7 1 rfl rfl hq d_R_train_111 ?_
              refine lv_ladd hx hb d_R_train_112 ?_
              refine lv_topl (fun b19 e_b19 => ?_)
              replace h := h b19 e_b19
              obtain ⟨hq, h⟩ := h
              refine va_last (D := D) hx hb hK hP hD hS 10 1 rfl rfl hq d_R_train_113 (fun H locs hP hD hS => ?_)
              rw [pt_R_real] at hP hD
              refine lv_aload_n hx hb d_R_train_114 rfl (lv_at hl 1 rfl) ?_
              refine va_get (D := D) (ci := 4) (v := .ref (ad 11)) (C := Rc_R) (T := Fc_R) (N := 25) hx hb hw inc_R hown hK hP 0 rfl rfl 14 (by decide) (hw _ wd_605) (fun _ h9 => h9) rfl d_R_train_115 ?_
              refine lv_iload hx hb d_R_train_118 (lv_at hl 0 rfl) ?_
              refine lv_aload_n hx hb d_R_train_120 rfl (lv_at hl 1 rfl) ?_
              refine va_get (D := D) (ci := 4) (v := .ref (ad 10)) (C := Rc_R) (T := Fc_R) (N := 25) hx hb hw inc_R hown hK hP 0 rfl rfl 13 (by decide) (hw _ wd_604) (fun _ h9 => h9) rfl d_R_train_121 ?_
              refine lv_iload hx hb d_R_train_124 (lv_at hl 0 rfl) ?_
              obtain ⟨hq, h⟩ := h
              refine va_lald (D := D) hx hb hK hP 10 1 rfl rfl hq d_R_train_126 ?_
              obtain ⟨hq, h⟩ := h
              refine va_last (D := D) hx hb hK hP hD hS 11 1 rfl rfl hq d_R_train_127 (fun H locs hP hD hS => ?_)
              rw [pt_R_measured] at hP hD
              refine lv_aload_n hx hb d_R_train_128 rfl (lv_at hl 1 rfl) ?_
              refine va_get (D := D) (ci := 4) (v := .ref (ad 13)) (C := Rc_R) (T := Fc_R) (N := 25) hx hb hw inc_R hown hK hP 0 rfl rfl 16 (by decide) (hw _ wd_607) (fun _ h9 => h9) rfl d_R_train_129 ?_
              refine lv_iload hx hb d_R_train_132 (lv_at hl 0 rfl) ?_
              refine lv_ldc2 hx hb hown (hw _ wd_726) d_R_train_134 ?_
              obtain ⟨hq, h⟩ := h
              refine va_last (D := D) hx hb hK hP hD hS 13 1 rfl rfl hq d_R_train_137 (fun H locs hP hD hS => ?_)
              rw [pt_R_authority] at hP hD
              refine lv_aload_n hx hb d_R_train_138 rfl (lv_at hl 1 rfl) ?_
              refine va_get (D := D) (ci := 4) (v := .ref (ad 3)) (C := Rc_R) (T := Fc_R) (N := 25) hx hb hw inc_R hown hK hP 0 rfl rfl 4 (by decide) (hw _ wd_595) (fun _ h9 => h9) rfl d_R_train_139 ?_
              refine lv_iload_n hx hb d_R_train_142 rfl (lv_at hl 2 rfl) ?_
              refine lv_iload hx hb d_R_train_143 (lv_at hl 0 rfl) ?_
              obtain ⟨hq, h⟩ := h
              refine va_iast (D := D) hx hb hK hP hD hS 3 0 rfl rfl hq d_R_train_145 (fun H locs hP hD hS => ?_)
              rw [pt_R_held] at hP hD
              refine lv_aload_n hx hb d_R_train_146 rfl (lv_at hl 1 rfl) ?_
              refine lv_dup hx hb d_R_train_147 rfl ?_
              refine va_get (D := D) (ci := 4) (v := .int ((pI (pV (pV (pV (pV S18 6 (S14.1 3 0).toNatClampNeg r17) 8 (S14.1 3 0).toNatClampNeg b19) 9 (S14.1 3 0).toNatClampNeg ((pV (pV S18 6 (S14.1 3 0).toNatClampNeg r17) 8 (S14.1 3 0).toNatClampNeg b19).2 8 (S14.1 3 0).toNatClampNeg)) 11 (S14.1 3 0).toNatClampNeg (-1 : Int64)) 7 x1.toNatClampNeg (S14.1 3 0)).1 3 0)) (C := Rc_R) (T := Fc_R) (N := 25) hx hb hw inc_R hown hK hP 0 rfl rfl 9 (by decide) (hw _ wd_600) (fun _ h9 => h9) rfl d_R_train_148 ?_
              refine lv_iconst (v := 1) hx hb d_R_train_151 (by decide) ?_
              refine lv_iadd hx hb d_R_train_152 ?_
              refine lv_topi (fun a20 e_a20 => ?_)
              replace h := h a20 e_a20
              refine va_put (D := D) (ci := 4) (v := .int a20) (ty := .int) (C := Rc_R) (T := Fc_R) (N := 25) hx hb hw inc_R tc_R tc_R_ok nc_R hown hK hP hD hS 0 rfl rfl 9 (by decide) (hw _ wd_600) (fun _ h9 => h9) rfl (by decide +kernel) rfl rfl (Nat.le_of_ble_eq_true rfl) d_R_train_153 (fun H locs hP hD hS => ?_)
              rw [pt_R_trains] at hP hD
              refine lv_aload_n hx hb d_R_train_156 rfl (lv_at hl 1 rfl) ?_
              refine lv_iload hx hb d_R_train_157 (lv_at hl 0 rfl) ?_
              refine xx_calli (va_runV (As := [.int (S14.1 3 0)]) (rest := []) ⟨hx, hb, hml, hown, hw⟩ (c_R_answer l D ca ad H.size (pI (pI (pV (pV (pV (pV S18 6 (S14.1 3 0).toNatClampNeg r17) 8 (S14.1 3 0).toNatClampNeg b19) 9 (S14.1 3 0).toNatClampNeg ((pV (pV S18 6 (S14.1 3 0).toNatClampNeg r17) 8 (S14.1 3 0).toNatClampNeg b19).2 8 (S14.1 3 0).toNatClampNeg)) 11 (S14.1 3 0).toNatClampNeg (-1 : Int64)) 7 x1.toNatClampNeg (S14.1 3 0)) 3 0 a20) (S14.1 3 0) _ h) (cwV 1 hw (tG_g gl_R_111) rfl rfl rfl (by decide +kernel) ⟨Nat.le_of_ble_eq_true rfl, Nat.le_of_ble_eq_true rfl⟩) ⟨xPc.blind, va_recv hK hP rfl (q0 := 0) rfl, xPc.pre hK hN hP hD⟩ rfl rfl hl.1 rfl (lv_room (Nat.le_of_ble_eq_true rfl)) d_R_train_159 ⟨Nat.le_of_ble_eq_true rfl, Nat.le_of_ble_eq_true rfl⟩) hD hS hA (fun r21 S22 H locs h hP hD hS => ?_)
              exact W.iret (v := r21) hx hb hr (fun t ht hW => ⟨⟨r21, S22, rfl, h, by rw [ht]; exact hP, hD⟩, hS.F ht⟩) hS.2.2 d_R_train_162
            · replace h := h.2 hc
              refine lv_aload_n hx hb d_R_train_58 rfl (lv_at hl 0 rfl) ?_
              refine lv_iconst (v := 3) hx hb d_R_train_59 (by decide) ?_
              refine xx_calli (va_runV (As := [.int 3]) (rest := []) ⟨hx, hb, hml, hown, hw⟩ (c_R_fail l D ca ad H.size S14 3 _ h) (cwV 1 hw (tG_g gl_R_103) rfl rfl rfl (by decide +kernel) ⟨Nat.le_of_ble_eq_true rfl, Nat.le_of_ble_eq_true rfl⟩) ⟨xPc.blind, va_recv hK hP rfl (q0 := 0) rfl, xPc.pre hK hN hP hD⟩ rfl rfl hl.1 rfl (lv_room (Nat.le_of_ble_eq_true rfl)) d_R_train_60 ⟨Nat.le_of_ble_eq_true rfl, Nat.le_of_ble_eq_true rfl⟩) hD hS hA (fun r23 S24 H locs h hP hD hS => ?_)
              exact W.iret (v := r23) hx hb hr (fun t ht hW => ⟨⟨r23, S24, rfl, h, by rw [ht]; exact hP, hD⟩, hS.F ht⟩) hS.2.2 d_R_train_63
        · replace h := h.2 hc
          refine lv_aload_n hx hb d_R_train_35 rfl (lv_at hl 0 rfl) ?_
          refine lv_iconst (v := 1) hx hb d_R_train_36 (by decide) ?_
          refine xx_calli (va_runV (As := [.int 1]) (rest := []) ⟨hx, hb, hml, hown, hw⟩ (c_R_fail l D ca ad H.size S10 1 _ h) (cwV 1 hw (tG_g gl_R_103) rfl rfl rfl (by decide +kernel) ⟨Nat.le_of_ble_eq_true rfl, Nat.le_of_ble_eq_true rfl⟩) ⟨xPc.blind, va_recv hK hP rfl (q0 := 0) rfl, xPc.pre hK hN hP hD⟩ rfl rfl hl.1 rfl (lv_room (Nat.le_of_ble_eq_true rfl)) d_R_train_37 ⟨Nat.le_of_ble_eq_true rfl, Nat.le_of_ble_eq_true rfl⟩) hD hS hA (fun r25 S26 H locs h hP hD hS => ?_)
          exact W.iret (v := r25) hx hb hr (fun t ht hW => ⟨⟨r25, S26, rfl, h, by rw [ht]; exact hP, hD⟩, hS.F ht⟩) hS.2.2 d_R_train_40
  exact hH9 _ rfl hP hS
