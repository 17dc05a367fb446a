theorem d_L_beginOf_0 : decode b_L_beginOf 0 = .ok (.aload_n 0, 1) := by decide +kernel
theorem d_L_beginOf_1 : decode b_L_beginOf 1 = .ok (.getfield 9, 3) := by decide +kernel
theorem d_L_beginOf_4 : decode b_L_beginOf 4 = .ok (.iload_n 1, 1) := by decide +kernel
theorem d_L_beginOf_5 : decode b_L_beginOf 5 = .ok (.daload, 1) := by decide +kernel
theorem d_L_beginOf_6 : decode b_L_beginOf 6 = .ok (.dreturn, 1) := by decide +kernel
def w_L_beginOf (S : SC) (x1 : Int32) (Q : UInt64 → SC → Prop) : Prop := vp_in x1 11 ∧ (Q (S.2 0 x1.toNatClampNeg) S)
set_option maxRecDepth 100000 in
set_option maxHeartbeats 4000000 in
theorem c_L_beginOf (l : Launch) (D : va_G) (ca : Nat → ClassId) (ad : Nat → Nat) (sz : Nat) (S : SC) (x1 : Int32)  (Q : UInt64 → SC → Prop) (h : w_L_beginOf S x1 Q) : Met l y_L_beginOf (Cond.code y_L_beginOf b_L_beginOf 2 (some Jvm.ClassFile.FieldType.double) :: tG) ({ frames := 0, cells := 0, slots := 0, locals := 0 } : Room) (xPc D ca (wC ca ad) S sz [.ref (ad 1), .int x1]) (va_Qd Q (xAt D (wC ca ad) (va_A (wC ca ad S) sz)) (va_A (wC ca ad S) sz)) 0 0 (va_A (wC ca ad S) sz) := by
  refine xx_met (Qf := fun A => va_Qd Q (xAt D (wC ca ad) A) A) (by decide) (Nat.le_of_ble_eq_true rfl) ?_
  intro p e s m args below meth c A ls hx hb hr hw hown hlocks hml hK hN hA hP hD hS hl
  have hown : s.vm.findClass "TrainGuard$Line" = some m.cls := hown
  have hl : lv_has ls 2 [(0, .ref (ad 1)), (1, .int x1)] := hl
  unfold w_L_beginOf at h
  have hH9 : ∀ H : Heap, H = s.heap → va_P D cls (wC ca ad S) H → va_S A s.heap H [] → W p l e ({ frames := 0, cells := 0, slots := 0, locals := 0 } : Room) s m args below meth c H [] 0 0 (MQ below ((fun A => va_Qd Q (xAt D (wC ca ad) A) A) A) args s 0 0 A) (F0 m 0 ls []) := by
    clear hP hS
    intro H hH hP hS
    obtain ⟨locs, hlo⟩ : ∃ z : List Loc, z = [] := ⟨_, rfl⟩
    rw [← hlo] at hS ⊢
    refine lv_aload_n hx hb d_L_beginOf_0 rfl (lv_at hl 0 rfl) ?_
    refine va_get (D := D) (ci := 0) (v := .ref (ad 2)) (C := Rc_L) (T := Fc_L) (N := 8) hx hb hw inc_L hown hK hP 1 rfl rfl 0 (by decide) (hw _ wd_27) (fun _ h9 => h9) rfl d_L_beginOf_1 ?_
    refine lv_iload_n hx hb d_L_beginOf_4 rfl (lv_at hl 1 rfl) ?_
    obtain ⟨hq, h⟩ := h
    refine va_dald (D := D) hx hb hK hP 2 2 rfl rfl hq d_L_beginOf_5 ?_
    exact W.dret (v := (S.2 0 x1.toNatClampNeg)) hx hb hr (fun t ht hW => ⟨⟨S.2 0 x1.toNatClampNeg, S, rfl, h, by rw [ht]; exact hP, hD⟩, hS.F ht⟩) hS.2.2 d_L_beginOf_6
  exact hH9 _ rfl hP hS
theorem d_L_endOf_0 : decode b_L_endOf 0 = .ok (.aload_n 0, 1) := by decide +kernel
theorem d_L_endOf_1 : decode b_L_endOf 1 = .ok (.getfield 9, 3) := by decide +kernel
theorem d_L_endOf_4 : decode b_L_endOf 4 = .ok (.iload_n 1, 1) := by decide +kernel
theorem d_L_endOf_5 : decode b_L_endOf 5 = .ok (.iconst 1, 1) := by decide +kernel
theorem d_L_endOf_6 : decode b_L_endOf 6 = .ok (.iadd, 1) := by decide +kernel
theorem d_L_endOf_7 : decode b_L_endOf 7 = .ok (.daload, 1) := by decide +kernel
theorem d_L_endOf_8 : decode b_L_endOf 8 = .ok (.dreturn, 1) := by decide +kernel
def w_L_endOf (S : SC) (x1 : Int32) (Q : UInt64 → SC → Prop) : Prop := ∀ a1 : Int32, a1 = x1 + 1 → (vp_in a1 11 ∧ (Q (S.2 0 a1.toNatClampNeg) S))
set_option maxRecDepth 100000 in
set_option maxHeartbeats 4000000 in
theorem c_L_endOf (l : Launch) (D : va_G) (ca : Nat → ClassId) (ad : Nat → Nat) (sz : Nat) (S : SC) (x1 : Int32)  (Q : UInt64 → SC → Prop) (h : w_L_endOf S x1 Q) : Met l y_L_endOf (Cond.code y_L_endOf b_L_endOf 2 (some Jvm.ClassFile.FieldType.double) :: tG) ({ frames := 0, cells := 0, slots := 0, locals := 0 } : Room) (xPc D ca (wC ca ad) S sz [.ref (ad 1), .int x1]) (va_Qd Q (xAt D (wC ca ad) (va_A (wC ca ad S) sz)) (va_A (wC ca ad S) sz)) 0 0 (va_A (wC ca ad S) sz) := by
  refine xx_met (Qf := fun A => va_Qd Q (xAt D (wC ca ad) A) A) (by decide) (Nat.le_of_ble_eq_true rfl) ?_
  intro p e s m args below meth c A ls hx hb hr hw hown hlocks hml hK hN hA hP hD hS hl
  have hown : s.vm.findClass "TrainGuard$Line" = some m.cls := hown
  have hl : lv_has ls 2 [(0, .ref (ad 1)), (1, .int x1)] := hl
  unfold w_L_endOf at h
  have hH9 : ∀ H : Heap, H = s.heap → va_P D cls (wC ca ad S) H → va_S A s.heap H [] → W p l e ({ frames := 0, cells := 0, slots := 0, locals := 0 } : Room) s m args below meth c H [] 0 0 (MQ below ((fun A => va_Qd Q (xAt D (wC ca ad) A) A) A) args s 0 0 A) (F0 m 0 ls []) := by
    clear hP hS
    intro H hH hP hS
    obtain ⟨locs, hlo⟩ : ∃ z : List Loc, z = [] := ⟨_, rfl⟩
    rw [← hlo] at hS ⊢
    refine lv_aload_n hx hb d_L_endOf_0 rfl (lv_at hl 0 rfl) ?_
    refine va_get (D := D) (ci := 0) (v := .ref (ad 2)) (C := Rc_L) (T := Fc_L) (N := 8) hx hb hw inc_L hown hK hP 1 rfl rfl 0 (by decide) (hw _ wd_27) (fun _ h9 => h9) rfl d_L_endOf_1 ?_
    refine lv_iload_n hx hb d_L_endOf_4 rfl (lv_at hl 1 rfl) ?_
    refine lv_iconst (v := 1) hx hb d_L_endOf_5 (by decide) ?_
    refine lv_iadd hx hb d_L_endOf_6 ?_
    refine lv_topi (fun a1 e_a1 => ?_)
    replace h := h a1 e_a1
    obtain ⟨hq, h⟩ := h
    refine va_dald (D := D) hx hb hK hP 2 2 rfl rfl hq d_L_endOf_7 ?_
    exact W.dret (v := (S.2 0 a1.toNatClampNeg)) hx hb hr (fun t ht hW => ⟨⟨S.2 0 a1.toNatClampNeg, S, rfl, h, by rw [ht]; exact hP, hD⟩, hS.F ht⟩) hS.2.2 d_L_endOf_8
  exact hH9 _ rfl hP hS
theorem d_L_lengthOf_0 : decode b_L_lengthOf 0 = .ok (.aload_n 0, 1) := by decide +kernel
theorem d_L_lengthOf_1 : decode b_L_lengthOf 1 = .ok (.iload_n 1, 1) := by decide +kernel
theorem d_L_lengthOf_2 : decode b_L_lengthOf 2 = .ok (.invokevirtual 38, 3) := by decide +kernel
theorem d_L_lengthOf_5 : decode b_L_lengthOf 5 = .ok (.aload_n 0, 1) := by decide +kernel
theorem d_L_lengthOf_6 : decode b_L_lengthOf 6 = .ok (.iload_n 1, 1) := by decide +kernel
theorem d_L_lengthOf_7 : decode b_L_lengthOf 7 = .ok (.invokevirtual 42, 3) := by decide +kernel
theorem d_L_lengthOf_10 : decode b_L_lengthOf 10 = .ok (.dsub, 1) := by decide +kernel
theorem d_L_lengthOf_11 : decode b_L_lengthOf 11 = .ok (.dreturn, 1) := by decide +kernel
theorem gl_L_38 : ∀ w ∈ wsV "TrainGuard$Line" 38 "TrainGuard$Line" y_L_endOf (Cond.code y_L_endOf b_L_endOf 2 (some Jvm.ClassFile.FieldType.double) :: tG), w ∈ tG := by
  intro x hx
  simp only [wsV, List.cons_append, List.nil_append, List.mem_cons] at hx
  rcases hx with rfl | rfl | rfl | rfl | rfl | hx
  · exact wd_327
  · exact wd_328
  · exact wd_329
  · exact wd_2
  · exact wd_330
  · exact hx
theorem gl_L_42 : ∀ w ∈ wsV "TrainGuard$Line" 42 "TrainGuard$Line" y_L_beginOf (Cond.code y_L_beginOf b_L_beginOf 2 (some Jvm.ClassFile.FieldType.double) :: tG), w ∈ tG := by
  intro x hx
  simp only [wsV, List.cons_append, List.nil_append, List.mem_cons] at hx
  rcases hx with rfl | rfl | rfl | rfl | rfl | hx
  · exact wd_331
  · exact wd_332
  · exact wd_333
  · exact wd_2
  · exact wd_334
  · exact hx
def w_L_lengthOf (S : SC) (x1 : Int32) (Q : UInt64 → SC → Prop) : Prop := w_L_endOf S x1 (fun r1 S2 => w_L_beginOf S2 x1 (fun r3 S4 => vf_n64 (FP.dsub r1 r3) ∧ (∀ f5 : UInt64, f5 = FP.dsub r1 r3 → (Q f5 S4))))
set_option maxRecDepth 100000 in
set_option maxHeartbeats 4000000 in
theorem c_L_lengthOf (l : Launch) (D : va_G) (ca : Nat → ClassId) (ad : Nat → Nat) (sz : Nat) (S : SC) (x1 : Int32)  (Q : UInt64 → SC → Prop) (h : w_L_lengthOf S x1 Q) : Met l y_L_lengthOf (Cond.code y_L_lengthOf b_L_lengthOf 2 (some Jvm.ClassFile.FieldType.double) :: tG) ({ frames := 1, cells := 0, slots := 0, locals := 21 } : Room) (xPc D ca (wC ca ad) S sz [.ref (ad 1), .int x1]) (va_Qd Q (xAt D (wC ca ad) (va_A (wC ca ad S) sz)) (va_A (wC ca ad S) sz)) 0 0 (va_A (wC ca ad S) sz) := by
  refine xx_met (Qf := fun A => va_Qd Q (xAt D (wC ca ad) A) A) (by decide) (Nat.le_of_ble_eq_true rfl) ?_
  intro p e s m args below meth c A ls hx hb hr hw hown hlocks hml hK hN hA hP hD hS hl
  have hown : s.vm.findClass "TrainGuard$Line" = some m.cls := hown
  have hl : lv_has ls 2 [(0, .ref (ad 1)), (1, .int x1)] := hl
  unfold w_L_lengthOf at h
  have hH9 : ∀ H : Heap, H = s.heap → va_P D cls (wC ca ad S) H → va_S A s.heap H [] → W p l e ({ frames := 1, cells := 0, slots := 0, locals := 21 } : Room) s m args below meth c H [] 0 0 (MQ below ((fun A => va_Qd Q (xAt D (wC ca ad) A) A) A) args s 0 0 A) (F0 m 0 ls []) := by
    clear hP hS
    intro H hH hP hS
    obtain ⟨locs, hlo⟩ : ∃ z : List Loc, z = [] := ⟨_, rfl⟩
    rw [← hlo] at hS ⊢
    refine lv_aload_n hx hb d_L_lengthOf_0 rfl (lv_at hl 0 rfl) ?_
    refine lv_iload_n hx hb d_L_lengthOf_1 rfl (lv_at hl 1 rfl) ?_
    refine xx_calld (va_runV (As := [.int x1]) (rest := []) ⟨hx, hb, hml, hown, hw⟩ (c_L_endOf l D ca ad H.size S x1 _ h) (cwV 1 hw (tG_g gl_L_38) rfl rfl rfl (by decide +kernel) ⟨Nat.le_of_ble_eq_true rfl, Nat.le_of_ble_eq_true rfl⟩) ⟨xPc.blind, va_recv hK hP rfl (q0 := 1) rfl, xPc.pre hK hN hP hD⟩ rfl rfl hl.1 rfl (lv_room (Nat.le_of_ble_eq_true rfl)) d_L_lengthOf_2 ⟨Nat.le_of_ble_eq_true rfl, Nat.le_of_ble_eq_true rfl⟩) hD hS hA (fun r1 S2 H locs h hP hD hS => ?_)
    refine lv_aload_n hx hb d_L_lengthOf_5 rfl (lv_at hl 0 rfl) ?_
    refine lv_iload_n hx hb d_L_lengthOf_6 rfl (lv_at hl 1 rfl) ?_
    refine xx_calld (va_runV (As := [.int x1]) (rest := [.double r1]) ⟨hx, hb, hml, hown, hw⟩ (c_L_beginOf l D ca ad H.size S2 x1 _ h) (cwV 1 hw (tG_g gl_L_42) rfl rfl rfl (by decide +kernel) ⟨Nat.le_of_ble_eq_true rfl, Nat.le_of_ble_eq_true rfl⟩) ⟨xPc.blind, va_recv hK hP rfl (q0 := 1) rfl, xPc.pre hK hN hP hD⟩ rfl rfl hl.1 rfl (lv_room (Nat.le_of_ble_eq_true rfl)) d_L_lengthOf_7 ⟨Nat.le_of_ble_eq_true rfl, Nat.le_of_ble_eq_true rfl⟩) hD hS hA (fun r3 S4 H locs h hP hD hS => ?_)
    obtain ⟨hq, h⟩ := h
    refine lv_dsub hx hb d_L_lengthOf_10 hq ?_
    refine lv_topd (fun f5 e_f5 => ?_)
    replace h := h f5 e_f5
    exact W.dret (v := f5) hx hb hr (fun t ht hW => ⟨⟨f5, S4, rfl, h, by rw [ht]; exact hP, hD⟩, hS.F ht⟩) hS.2.2 d_L_lengthOf_11
  exact hH9 _ rfl hP hS
theorem d_L_hasSection_0 : decode b_L_hasSection 0 = .ok (.iload_n 1, 1) := by decide +kernel
theorem d_L_hasSection_1 : decode b_L_hasSection 1 = .ok (.ifCond .lt 15, 3) := by decide +kernel
theorem d_L_hasSection_4 : decode b_L_hasSection 4 = .ok (.iload_n 1, 1) := by decide +kernel
theorem d_L_hasSection_5 : decode b_L_hasSection 5 = .ok (.aload_n 0, 1) := by decide +kernel
theorem d_L_hasSection_6 : decode b_L_hasSection 6 = .ok (.getfield 31, 3) := by decide +kernel
theorem d_L_hasSection_9 : decode b_L_hasSection 9 = .ok (.if_icmp .ge 7, 3) := by decide +kernel
theorem d_L_hasSection_12 : decode b_L_hasSection 12 = .ok (.iconst 1, 1) := by decide +kernel
theorem d_L_hasSection_13 : decode b_L_hasSection 13 = .ok (.goto 4, 3) := by decide +kernel
theorem d_L_hasSection_16 : decode b_L_hasSection 16 = .ok (.iconst 0, 1) := by decide +kernel
theorem d_L_hasSection_17 : decode b_L_hasSection 17 = .ok (.ireturn, 1) := by decide +kernel
def w_L_hasSection (S : SC) (x1 : Int32) (Q : Int32 → SC → Prop) : Prop := ((x1 < 0) → (Q 0 S)) ∧ ((¬ x1 < 0) → ((((S.1 4 0) ≤ x1) → (Q 0 S)) ∧ ((¬ (S.1 4 0) ≤ x1) → (Q 1 S))))
set_option maxRecDepth 100000 in
set_option maxHeartbeats 4000000 in
theorem c_L_hasSection (l : Launch) (D : va_G) (ca : Nat → ClassId) (ad : Nat → Nat) (sz : Nat) (S : SC) (x1 : Int32)  (Q : Int32 → SC → Prop) (h : w_L_hasSection S x1 Q) : Met l y_L_hasSection (Cond.code y_L_hasSection b_L_hasSection 2 (some Jvm.ClassFile.FieldType.boolean) :: tG) ({ frames := 0, cells := 0, slots := 0, locals := 0 } : Room) (xPc D ca (wC ca ad) S sz [.ref (ad 1), .int x1]) (va_Qi Q (xAt D (wC ca ad) (va_A (wC ca ad S) sz)) (va_A (wC ca ad S) sz)) 0 0 (va_A (wC ca ad S) sz) := by
  refine xx_met (Qf := fun A => va_Qi Q (xAt D (wC ca ad) A) A) (by decide) (Nat.le_of_ble_eq_true rfl) ?_
  intro p e s m args below meth c A ls hx hb hr hw hown hlocks hml hK hN hA hP hD hS hl
  have hown : s.vm.findClass "TrainGuard$Line" = some m.cls := hown
  have hl : lv_has ls 2 [(0, .ref (ad 1)), (1, .int x1)] := hl
  unfold w_L_hasSection at h
  have hH9 : ∀ H : Heap, H = s.heap → va_P D cls (wC ca ad S) H → va_S A s.heap H [] → W p l e ({ frames := 0, cells := 0, slots := 0, locals := 0 } : Room) s m args below meth c H [] 0 0 (MQ below ((fun A => va_Qi Q (xAt D (wC ca ad) A) A) A) args s 0 0 A) (F0 m 0 ls []) := by
    clear hP hS
    intro H hH hP hS
    obtain ⟨locs, hlo⟩ : ∃ z : List Loc, z = [] := ⟨_, rfl⟩
    rw [← hlo] at hS ⊢
    refine lv_iload_n hx hb d_L_hasSection_0 rfl (lv_at hl 1 rfl) ?_
    refine lv_if_lt (tgt := 16) hx hb d_L_hasSection_1 (by decide) (fun hc => ?_) (fun hc => ?_)
    · replace h := h.1 hc
      refine lv_iconst (v := 0) hx hb d_L_hasSection_16 (by decide) ?_
      exact W.zret (v := 0) hx hb hr rfl (fun t ht hW => ⟨⟨0, S, rfl, h, by rw [ht]; exact hP, hD⟩, hS.F ht⟩) hS.2.2 d_L_hasSection_17
    · replace h := h.2 hc
      refine lv_iload_n hx hb d_L_hasSection_4 rfl (lv_at hl 1 rfl) ?_
      refine lv_aload_n hx hb d_L_hasSection_5 rfl (lv_at hl 0 rfl) ?_
      refine va_get (D := D) (ci := 0) (v := .int (S.1 4 0)) (C := Rc_L) (T := Fc_L) (N := 8) hx hb hw inc_L hown hK hP 1 rfl rfl 6 (by decide) (hw _ wd_34) (fun _ h9 => h9) rfl d_L_hasSection_6 ?_
      refine lv_icmp_ge (tgt := 16) hx hb d_L_hasSection_9 (by decide) (fun hc => ?_) (fun hc => ?_)
      · replace h := h.1 hc
        refine lv_iconst (v := 0) hx hb d_L_hasSection_16 (by decide) ?_
        exact W.zret (v := 0) hx hb hr rfl (fun t ht hW => ⟨⟨0, S, rfl, h, by rw [ht]; exact hP, hD⟩, hS.F ht⟩) hS.2.2 d_L_hasSection_17
      · replace h := h.2 hc
        refine lv_iconst (v := 1) hx hb d_L_hasSection_12 (by decide) ?_
        refine lv_goto (tgt := 17) hx hb d_L_hasSection_13 (by decide) ?_
        exact W.zret (v := 1) hx hb hr rfl (fun t ht hW => ⟨⟨1, S, rfl, h, by rw [ht]; exact hP, hD⟩, hS.F ht⟩) hS.2.2 d_L_hasSection_17
  exact hH9 _ rfl hP hS
theorem d_L_lineEnd_0 : decode b_L_lineEnd 0 = .ok (.aload_n 0, 1) := by decide +kernel
theorem d_L_lineEnd_1 : decode b_L_lineEnd 1 = .ok (.getfield 9, 3) := by decide +kernel
theorem d_L_lineEnd_4 : decode b_L_lineEnd 4 = .ok (.aload_n 0, 1) := by decide +kernel
theorem d_L_lineEnd_5 : decode b_L_lineEnd 5 = .ok (.getfield 31, 3) := by decide +kernel
theorem d_L_lineEnd_8 : decode b_L_lineEnd 8 = .ok (.daload, 1) := by decide +kernel
theorem d_L_lineEnd_9 : decode b_L_lineEnd 9 = .ok (.dreturn, 1) := by decide +kernel
def w_L_lineEnd (S : SC) (Q : UInt64 → SC → Prop) : Prop := vp_in (S.1 4 0) 11 ∧ (Q (S.2 0 (S.1 4 0).toNatClampNeg) S)
set_option maxRecDepth 100000 in
set_option maxHeartbeats 4000000 in
theorem c_L_lineEnd (l : Launch) (D : va_G) (ca : Nat → ClassId) (ad : Nat → Nat) (sz : Nat) (S : SC)   (Q : UInt64 → SC → Prop) (h : w_L_lineEnd S  Q) : Met l y_L_lineEnd (Cond.code y_L_lineEnd b_L_lineEnd 1 (some Jvm.ClassFile.FieldType.double) :: tG) ({ frames := 0, cells := 0, slots := 0, locals := 0 } : Room) (xPc D ca (wC ca ad) S sz [.ref (ad 1)]) (va_Qd Q (xAt D (wC ca ad) (va_A (wC ca ad S) sz)) (va_A (wC ca ad S) sz)) 0 0 (va_A (wC ca ad S) sz) := by
  refine xx_met (Qf := fun A => va_Qd Q (xAt D (wC ca ad) A) A) (by decide) (Nat.le_of_ble_eq_true rfl) ?_
  intro p e s m args below meth c A ls hx hb hr hw hown hlocks hml hK hN hA hP hD hS hl
  have hown : s.vm.findClass "TrainGuard$Line" = some m.cls := hown
  have hl : lv_has ls 1 [(0, .ref (ad 1))] := hl
  unfold w_L_lineEnd at h
  have hH9 : ∀ H : Heap, H = s.heap → va_P D cls (wC ca ad S) H → va_S A s.heap H [] → W p l e ({ frames := 0, cells := 0, slots := 0, locals := 0 } : Room) s m args below meth c H [] 0 0 (MQ below ((fun A => va_Qd Q (xAt D (wC ca ad) A) A) A) args s 0 0 A) (F0 m 0 ls []) := by
    clear hP hS
    intro H hH hP hS
    obtain ⟨locs, hlo⟩ : ∃ z : List Loc, z = [] := ⟨_, rfl⟩
    rw [← hlo] at hS ⊢
    refine lv_aload_n hx hb d_L_lineEnd_0 rfl (lv_at hl 0 rfl) ?_
    refine va_get (D := D) (ci := 0) (v := .ref (ad 2)) (C := Rc_L) (T := Fc_L) (N := 8) hx hb hw inc_L hown hK hP 1 rfl rfl 0 (by decide) (hw _ wd_27) (fun _ h9 => h9) rfl d_L_lineEnd_1 ?_
    refine lv_aload_n hx hb d_L_lineEnd_4 rfl (lv_at hl 0 rfl) ?_
    refine va_get (D := D) (ci := 0) (v := .int (S.1 4 0)) (C := Rc_L) (T := Fc_L) (N := 8) hx hb hw inc_L hown hK hP 1 rfl rfl 6 (by decide) (hw _ wd_34) (fun _ h9 => h9) rfl d_L_lineEnd_5 ?_
    obtain ⟨hq, h⟩ := h
    refine va_dald (D := D) hx hb hK hP 2 2 rfl rfl hq d_L_lineEnd_8 ?_
    exact W.dret (v := (S.2 0 (S.1 4 0).toNatClampNeg)) hx hb hr (fun t ht hW => ⟨⟨S.2 0 (S.1 4 0).toNatClampNeg, S, rfl, h, by rw [ht]; exact hP, hD⟩, hS.F ht⟩) hS.2.2 d_L_lineEnd_9
  exact hH9 _ rfl hP hS
theorem d_L_addSection_0 : decode b_L_addSection 0 = .ok (.aload_n 0, 1) := by decide +kernel
theorem d_L_addSection_1 : decode b_L_addSection 1 = .ok (.getfield 31, 3) := by decide +kernel
theorem d_L_addSection_4 : decode b_L_addSection 4 = .ok (.istore 5, 2) := by decide +kernel
theorem d_L_addSection_6 : decode b_L_addSection 6 = .ok (.aload_n 0, 1) := by decide +kernel
theorem d_L_addSection_7 : decode b_L_addSection 7 = .ok (.getfield 15, 3) := by decide +kernel
theorem d_L_addSection_10 : decode b_L_addSection 10 = .ok (.iload 5, 2) := by decide +kernel
theorem d_L_addSection_12 : decode b_L_addSection 12 = .ok (.dload_n 3, 1) := by decide +kernel
theorem d_L_addSection_13 : decode b_L_addSection 13 = .ok (.dastore, 1) := by decide +kernel
theorem d_L_addSection_14 : decode b_L_addSection 14 = .ok (.aload_n 0, 1) := by decide +kernel
theorem d_L_addSection_15 : decode b_L_addSection 15 = .ok (.getfield 18, 3) := by decide +kernel
theorem d_L_addSection_18 : decode b_L_addSection 18 = .ok (.iload 5, 2) := by decide +kernel
theorem d_L_addSection_20 : decode b_L_addSection 20 = .ok (.iconst (-1), 1) := by decide +kernel
theorem d_L_addSection_21 : decode b_L_addSection 21 = .ok (.iastore, 1) := by decide +kernel
theorem d_L_addSection_22 : decode b_L_addSection 22 = .ok (.aload_n 0, 1) := by decide +kernel
theorem d_L_addSection_23 : decode b_L_addSection 23 = .ok (.getfield 9, 3) := by decide +kernel
theorem d_L_addSection_26 : decode b_L_addSection 26 = .ok (.iload 5, 2) := by decide +kernel
theorem d_L_addSection_28 : decode b_L_addSection 28 = .ok (.iconst 1, 1) := by decide +kernel
theorem d_L_addSection_29 : decode b_L_addSection 29 = .ok (.iadd, 1) := by decide +kernel
theorem d_L_addSection_30 : decode b_L_addSection 30 = .ok (.aload_n 0, 1) := by decide +kernel
theorem d_L_addSection_31 : decode b_L_addSection 31 = .ok (.getfield 9, 3) := by decide +kernel
theorem d_L_addSection_34 : decode b_L_addSection 34 = .ok (.iload 5, 2) := by decide +kernel
theorem d_L_addSection_36 : decode b_L_addSection 36 = .ok (.daload, 1) := by decide +kernel
theorem d_L_addSection_37 : decode b_L_addSection 37 = .ok (.dload_n 1, 1) := by decide +kernel
theorem d_L_addSection_38 : decode b_L_addSection 38 = .ok (.dadd, 1) := by decide +kernel
theorem d_L_addSection_39 : decode b_L_addSection 39 = .ok (.dastore, 1) := by decide +kernel
theorem d_L_addSection_40 : decode b_L_addSection 40 = .ok (.aload_n 0, 1) := by decide +kernel
theorem d_L_addSection_41 : decode b_L_addSection 41 = .ok (.dup, 1) := by decide +kernel
theorem d_L_addSection_42 : decode b_L_addSection 42 = .ok (.getfield 31, 3) := by decide +kernel
theorem d_L_addSection_45 : decode b_L_addSection 45 = .ok (.iconst 1, 1) := by decide +kernel
theorem d_L_addSection_46 : decode b_L_addSection 46 = .ok (.iadd, 1) := by decide +kernel
theorem d_L_addSection_47 : decode b_L_addSection 47 = .ok (.putfield 31, 3) := by decide +kernel
theorem d_L_addSection_50 : decode b_L_addSection 50 = .ok (.iload 5, 2) := by decide +kernel
theorem d_L_addSection_52 : decode b_L_addSection 52 = .ok (.ireturn, 1) := by decide +kernel
def w_L_addSection (S : SC) (x1 : UInt64) (x2 : UInt64) (Q : Int32 → SC → Prop) : Prop := vp_in (S.1 4 0) 10 ∧ (vp_in (S.1 4 0) 10 ∧ (∀ a1 : Int32, a1 = (S.1 4 0) + 1 → (vp_in (S.1 4 0) 11 ∧ (vf_n64 (FP.dadd ((pI (pV S 1 (S.1 4 0).toNatClampNeg x2) 6 (S.1 4 0).toNatClampNeg (-1)).2 0 (S.1 4 0).toNatClampNeg) x1) ∧ (∀ f2 : UInt64, f2 = FP.dadd ((pI (pV S 1 (S.1 4 0).toNatClampNeg x2) 6 (S.1 4 0).toNatClampNeg (-1)).2 0 (S.1 4 0).toNatClampNeg) x1 → (vp_in a1 11 ∧ (∀ a3 : Int32, a3 = ((pV (pI (pV S 1 (S.1 4 0).toNatClampNeg x2) 6 (S.1 4 0).toNatClampNeg (-1)) 0 a1.toNatClampNeg f2).1 4 0) + 1 → (Q (S.1 4 0) (pI (pV (pI (pV S 1 (S.1 4 0).toNatClampNeg x2) 6 (S.1 4 0).toNatClampNeg (-1)) 0 a1.toNatClampNeg f2) 4 0 a3)))))))))
set_option maxRecDepth 100000 in
set_option maxHeartbeats 4000000 in
theorem c_L_addSection (l : Launch) (D : va_G) (ca : Nat → ClassId) (ad : Nat → Nat) (sz : Nat) (S : SC) (x1 : UInt64) (x2 : UInt64)  (Q : Int32 → SC → Prop) (h : w_L_addSection S x1 x2 Q) : Met l y_L_addSection (Cond.code y_L_addSection b_L_addSection 6 (some Jvm.ClassFile.FieldType.int) :: tG) ({ frames := 0, cells := 0, slots := 0, locals := 0 } : Room) (xPc D ca (wC ca ad) S sz [.ref (ad 1), .double x1, .double x2]) (va_Qi Q (xAt D (wC ca ad) (va_A (wC ca ad S) sz)) (va_A (wC ca ad S) sz)) 0 0 (va_A (wC ca ad S) sz) := by
  refine xx_met (Qf := fun A => va_Qi Q (xAt D (wC ca ad) A) A) (by decide) (Nat.le_of_ble_eq_true rfl) ?_
  intro p e s m args below meth c A ls hx hb hr hw hown hlocks hml hK hN hA hP hD hS hl
  have hown : s.vm.findClass "TrainGuard$Line" = some m.cls := hown
  have hl : lv_has ls 6 [(0, .ref (ad 1)), (1, .double x1), (3, .double x2)] := hl
  unfold w_L_addSection at h
  have hH9 : ∀ H : Heap, H = s.heap → va_P D cls (wC ca ad S) H → va_S A s.heap H [] → W p l e ({ frames := 0, cells := 0, slots := 0, locals := 0 } : Room) s m args below meth c H [] 0 0 (MQ below ((fun A => va_Qi Q (xAt D (wC ca ad) A) A) A) args s 0 0 A) (F0 m 0 ls []) := by
    clear hP hS
    intro H hH hP hS
    obtain ⟨locs, hlo⟩ : ∃ z : List Loc, z = [] := ⟨_, rfl⟩
    rw [← hlo] at hS ⊢
    refine lv_aload_n hx hb d_L_addSection_0 rfl (lv_at hl 0 rfl) ?_
    refine va_get (D := D) (ci := 0) (v := .int (S.1 4 0)) (C := Rc_L) (T := Fc_L) (N := 8) hx hb hw inc_L hown hK hP 1 rfl rfl 6 (by decide) (hw _ wd_34) (fun _ h9 => h9) rfl d_L_addSection_1 ?_
    refine lv_istore (lv' := [(5, .int (S.1 4 0)), (0, .ref (ad 1)), (1, .double x1), (3, .double x2)]) hx hb d_L_addSection_4 hl (by decide) rfl (fun ls hl => ?_)
    refine lv_aload_n hx hb d_L_addSection_6 rfl (lv_at hl 1 rfl) ?_
    refine va_get (D := D) (ci := 0) (v := .ref (ad 3)) (C := Rc_L) (T := Fc_L) (N := 8) hx hb hw inc_L hown hK hP 1 rfl rfl 1 (by decide) (hw _ wd_28) (fun _ h9 => h9) rfl d_L_addSection_7 ?_
    refine lv_iload hx hb d_L_addSection_10 (lv_at hl 0 rfl) ?_
    refine lv_dload_n hx hb d_L_addSection_12 rfl (lv_at hl 3 rfl) ?_
    obtain ⟨hq, h⟩ := h
    refine va_dast (D := D) hx hb hK hP hD hS 3 2 rfl rfl hq d_L_addSection_13 (fun H locs hP hD hS => ?_)
    rw [pt_A_speeds] at hP hD
    refine lv_aload_n hx hb d_L_addSection_14 rfl (lv_at hl 1 rfl) ?_
    refine va_get (D := D) (ci := 0) (v := .ref (ad 4)) (C := Rc_L) (T := Fc_L) (N := 8) hx hb hw inc_L hown hK hP 1 rfl rfl 2 (by decide) (hw _ wd_29) (fun _ h9 => h9) rfl d_L_addSection_15 ?_
    refine lv_iload hx hb d_L_addSection_18 (lv_at hl 0 rfl) ?_
    refine lv_iconst (v := (-1)) hx hb d_L_addSection_20 (by decide) ?_
    obtain ⟨hq, h⟩ := h
    refine va_iast (D := D) hx hb hK hP hD hS 4 0 rfl rfl hq d_L_addSection_21 (fun H locs hP hD hS => ?_)
    rw [pt_A_holders] at hP hD
    refine lv_aload_n hx hb d_L_addSection_22 rfl (lv_at hl 1 rfl) ?_
    refine va_get (D := D) (ci := 0) (v := .ref (ad 2)) (C := Rc_L) (T := Fc_L) (N := 8) hx hb hw inc_L hown hK hP 1 rfl rfl 0 (by decide) (hw _ wd_27) (fun _ h9 => h9) rfl d_L_addSection_23 ?_
    refine lv_iload hx hb d_L_addSection_26 (lv_at hl 0 rfl) ?_
    refine lv_iconst (v := 1) hx hb d_L_addSection_28 (by decide) ?_
    refine lv_iadd hx hb d_L_addSection_29 ?_
    refine lv_topi (fun a1 e_a1 => ?_)
    replace h := h a1 e_a1
    refine lv_aload_n hx hb d_L_addSection_30 rfl (lv_at hl 1 rfl) ?_
    refine va_get (D := D) (ci := 0) (v := .ref (ad 2)) (C := Rc_L) (T := Fc_L) (N := 8) hx hb hw inc_L hown hK hP 1 rfl rfl 0 (by decide) (hw _ wd_27) (fun _ h9 => h9) rfl d_L_addSection_31 ?_
    refine lv_iload hx hb d_L_addSection_34 (lv_at hl 0 rfl) ?_
    obtain ⟨hq, h⟩ := h
    refine va_dald (D := D) hx hb hK hP 2 2 rfl rfl hq d_L_addSection_36 ?_
    refine lv_dload_n hx hb d_L_addSection_37 rfl (lv_at hl 2 rfl) ?_
    obtain ⟨hq, h⟩ := h
    refine lv_dadd hx hb d_L_addSection_38 hq ?_
    refine lv_topd (fun f2 e_f2 => ?_)
    replace h := h f2 e_f2
    obtain ⟨hq, h⟩ := h
    refine va_dast (D := D) hx hb hK hP hD hS 2 2 rfl rfl hq d_L_addSection_39 (fun H locs hP hD hS => ?_)
    rw [pt_A_begins] at hP hD
    refine lv_aload_n hx hb d_L_addSection_40 rfl (lv_at hl 1 rfl) ?_
    refine lv_dup hx hb d_L_addSection_41 rfl ?_
    refine va_get (D := D) (ci := 0) (v := .int ((pV (pI (pV S 1 (S.1 4 0).toNatClampNeg x2) 6 (S.1 4 0).toNatClampNeg (-1)) 0 a1.toNatClampNeg f2).1 4 0)) (C := Rc_L) (T := Fc_L) (N := 8) hx hb hw inc_L hown hK hP 1 rfl rfl 6 (by decide) (hw _ wd_34) (fun _ h9 => h9) rfl d_L_addSection_42 ?_
    refine lv_iconst (v := 1) hx hb d_L_addSection_45 (by decide) ?_
    refine lv_iadd hx hb d_L_addSection_46 ?_
    refine lv_topi (fun a3 e_a3 => ?_)
    replace h := h a3 e_a3
    refine va_put (D := D) (ci := 0) (v := .int a3) (ty := .int) (C := Rc_L) (T := Fc_L) (N := 8) hx hb hw inc_L tc_L tc_L_ok nc_L hown hK hP hD hS 1 rfl rfl 6 (by decide) (hw _ wd_34) (fun _ h9 => h9) rfl (by decide +kernel) rfl rfl (Nat.le_of_ble_eq_true rfl) d_L_addSection_47 (fun H locs hP hD hS => ?_)
    rw [pt_L_sectionCount] at hP hD
    refine lv_iload hx hb d_L_addSection_50 (lv_at hl 0 rfl) ?_
    exact W.iret (v := (S.1 4 0)) hx hb hr (fun t ht hW => ⟨⟨S.1 4 0, pI (pV (pI (pV S 1 (S.1 4 0).toNatClampNeg x2) 6 (S.1 4 0).toNatClampNeg (-1)) 0 a1.toNatClampNeg f2) 4 0 a3, rfl, h, by rw [ht]; exact hP, hD⟩, hS.F ht⟩) hS.2.2 d_L_addSection_52
  exact hH9 _ rfl hP hS
theorem d_L_addRestriction_0 : decode b_L_addRestriction 0 = .ok (.aload_n 0, 1) := by decide +kernel
theorem d_L_addRestriction_1 : decode b_L_addRestriction 1 = .ok (.getfield 22, 3) := by decide +kernel
theorem d_L_addRestriction_4 : decode b_L_addRestriction 4 = .ok (.aload_n 0, 1) := by decide +kernel
theorem d_L_addRestriction_5 : decode b_L_addRestriction 5 = .ok (.getfield 35, 3) := by decide +kernel
theorem d_L_addRestriction_8 : decode b_L_addRestriction 8 = .ok (.dload_n 1, 1) := by decide +kernel
theorem d_L_addRestriction_9 : decode b_L_addRestriction 9 = .ok (.dastore, 1) := by decide +kernel
theorem d_L_addRestriction_10 : decode b_L_addRestriction 10 = .ok (.aload_n 0, 1) := by decide +kernel
theorem d_L_addRestriction_11 : decode b_L_addRestriction 11 = .ok (.getfield 25, 3) := by decide +kernel
theorem d_L_addRestriction_14 : decode b_L_addRestriction 14 = .ok (.aload_n 0, 1) := by decide +kernel
theorem d_L_addRestriction_15 : decode b_L_addRestriction 15 = .ok (.getfield 35, 3) := by decide +kernel
theorem d_L_addRestriction_18 : decode b_L_addRestriction 18 = .ok (.dload_n 3, 1) := by decide +kernel
theorem d_L_addRestriction_19 : decode b_L_addRestriction 19 = .ok (.dastore, 1) := by decide +kernel
theorem d_L_addRestriction_20 : decode b_L_addRestriction 20 = .ok (.aload_n 0, 1) := by decide +kernel
theorem d_L_addRestriction_21 : decode b_L_addRestriction 21 = .ok (.getfield 28, 3) := by decide +kernel
theorem d_L_addRestriction_24 : decode b_L_addRestriction 24 = .ok (.aload_n 0, 1) := by decide +kernel
theorem d_L_addRestriction_25 : decode b_L_addRestriction 25 = .ok (.getfield 35, 3) := by decide +kernel
theorem d_L_addRestriction_28 : decode b_L_addRestriction 28 = .ok (.dload 5, 2) := by decide +kernel
theorem d_L_addRestriction_30 : decode b_L_addRestriction 30 = .ok (.dastore, 1) := by decide +kernel
theorem d_L_addRestriction_31 : decode b_L_addRestriction 31 = .ok (.aload_n 0, 1) := by decide +kernel
theorem d_L_addRestriction_32 : decode b_L_addRestriction 32 = .ok (.dup, 1) := by decide +kernel
theorem d_L_addRestriction_33 : decode b_L_addRestriction 33 = .ok (.getfield 35, 3) := by decide +kernel
theorem d_L_addRestriction_36 : decode b_L_addRestriction 36 = .ok (.iconst 1, 1) := by decide +kernel
theorem d_L_addRestriction_37 : decode b_L_addRestriction 37 = .ok (.iadd, 1) := by decide +kernel
theorem d_L_addRestriction_38 : decode b_L_addRestriction 38 = .ok (.putfield 35, 3) := by decide +kernel
theorem d_L_addRestriction_41 : decode b_L_addRestriction 41 = .ok (.aload_n 0, 1) := by decide +kernel
theorem d_L_addRestriction_42 : decode b_L_addRestriction 42 = .ok (.getfield 35, 3) := by decide +kernel
theorem d_L_addRestriction_45 : decode b_L_addRestriction 45 = .ok (.ireturn, 1) := by decide +kernel
def w_L_addRestriction (S : SC) (x1 : UInt64) (x2 : UInt64) (x3 : UInt64) (Q : Int32 → SC → Prop) : Prop := vp_in (S.1 5 0) 5 ∧ (vp_in ((pV S 2 (S.1 5 0).toNatClampNeg x1).1 5 0) 5 ∧ (vp_in ((pV (pV S 2 (S.1 5 0).toNatClampNeg x1) 3 ((pV S 2 (S.1 5 0).toNatClampNeg x1).1 5 0).toNatClampNeg x2).1 5 0) 5 ∧ (∀ a1 : Int32, a1 = ((pV (pV (pV S 2 (S.1 5 0).toNatClampNeg x1) 3 ((pV S 2 (S.1 5 0).toNatClampNeg x1).1 5 0).toNatClampNeg x2) 4 ((pV (pV S 2 (S.1 5 0).toNatClampNeg x1) 3 ((pV S 2 (S.1 5 0).toNatClampNeg x1).1 5 0).toNatClampNeg x2).1 5 0).toNatClampNeg x3).1 5 0) + 1 → (Q ((pI (pV (pV (pV S 2 (S.1 5 0).toNatClampNeg x1) 3 ((pV S 2 (S.1 5 0).toNatClampNeg x1).1 5 0).toNatClampNeg x2) 4 ((pV (pV S 2 (S.1 5 0).toNatClampNeg x1) 3 ((pV S 2 (S.1 5 0).toNatClampNeg x1).1 5 0).toNatClampNeg x2).1 5 0).toNatClampNeg x3) 5 0 a1).1 5 0) (pI (pV (pV (pV S 2 (S.1 5 0).toNatClampNeg x1) 3 ((pV S 2 (S.1 5 0).toNatClampNeg x1).1 5 0).toNatClampNeg x2) 4 ((pV (pV S 2 (S.1 5 0).toNatClampNeg x1) 3 ((pV S 2 (S.1 5 0).toNatClampNeg x1).1 5 0).toNatClampNeg x2).1 5 0).toNatClampNeg x3) 5 0 a1)))))
set_option maxRecDepth 100000 in
set_option maxHeartbeats 4000000 in
theorem c_L_addRestriction (l : Launch) (D : va_G) (ca : Nat → ClassId) (ad : Nat → Nat) (sz : Nat) (S : SC) (x1 : UInt64) (x2 : UInt64) (x3 : UInt64)  (Q : Int32 → SC → Prop) (h : w_L_addRestriction S x1 x2 x3 Q) : Met l y_L_addRestriction (Cond.code y_L_addRestriction b_L_addRestriction 7 (some Jvm.ClassFile.FieldType.int) :: tG) ({ frames := 0, cells := 0, slots := 0, locals := 0 } : Room) (xPc D ca (wC ca ad) S sz [.ref (ad 1), .double x1, .double x2, .double x3]) (va_Qi Q (xAt D (wC ca ad) (va_A (wC ca ad S) sz)) (va_A (wC ca ad S) sz)) 0 0 (va_A (wC ca ad S) sz) := by
  refine xx_met (Qf := fun A => va_Qi Q (xAt D (wC ca ad) A) A) (by decide) (Nat.le_of_ble_eq_true rfl) ?_
  intro p e s m args below meth c A ls hx hb hr hw hown hlocks hml hK hN hA hP hD hS hl
  have hown : s.vm.findClass "TrainGuard$Line" = some m.cls := hown
  have hl : lv_has ls 7 [(0, .ref (ad 1)), (1, .double x1), (3, .double x2), (5, .double x3)] := hl
  unfold w_L_addRestriction at h
  have hH9 : ∀ H : Heap, H = s.heap → va_P D cls (wC ca ad S) H → va_S A s.heap H [] → W p l e ({ frames := 0, cells := 0, slots := 0, locals := 0 } : Room) s m args below meth c H [] 0 0 (MQ below ((fun A => va_Qi Q (xAt D (wC ca ad) A) A) A) args s 0 0 A) (F0 m 0 ls []) := by
    clear hP hS
    intro H hH hP hS
    obtain ⟨locs, hlo⟩ : ∃ z : List Loc, z = [] := ⟨_, rfl⟩
    rw [← hlo] at hS ⊢
    refine lv_aload_n hx hb d_L_addRestriction_0 rfl (lv_at hl 0 rfl) ?_
    refine va_get (D := D) (ci := 0) (v := .ref (ad 5)) (C := Rc_L) (T := Fc_L) (N := 8) hx hb hw inc_L hown hK hP 1 rfl rfl 3 (by decide) (hw _ wd_31) (fun _ h9 => h9) rfl d_L_addRestriction_1 ?_
    refine lv_aload_n hx hb d_L_addRestriction_4 rfl (lv_at hl 0 rfl) ?_
    refine va_get (D := D) (ci := 0) (v := .int (S.1 5 0)) (C := Rc_L) (T := Fc_L) (N := 8) hx hb hw inc_L hown hK hP 1 rfl rfl 7 (by decide) (hw _ wd_36) (fun _ h9 => h9) rfl d_L_addRestriction_5 ?_
    refine lv_dload_n hx hb d_L_addRestriction_8 rfl (lv_at hl 1 rfl) ?_
    obtain ⟨hq, h⟩ := h
    refine va_dast (D := D) hx hb hK hP hD hS 5 2 rfl rfl hq d_L_addRestriction_9 (fun H locs hP hD hS => ?_)
    rw [pt_A_froms] at hP hD
    refine lv_aload_n hx hb d_L_addRestriction_10 rfl (lv_at hl 0 rfl) ?_
    refine va_get (D := D) (ci := 0) (v := .ref (ad 6)) (C := Rc_L) (T := Fc_L) (N := 8) hx hb hw inc_L hown hK hP 1 rfl rfl 4 (by decide) (hw _ wd_32) (fun _ h9 => h9) rfl d_L_addRestriction_11 ?_
    refine lv_aload_n hx hb d_L_addRestriction_14 rfl (lv_at hl 0 rfl) ?_
    refine va_get (D := D) (ci := 0) (v := .int ((pV S 2 (S.1 5 0).toNatClampNeg x1).1 5 0)) (C := Rc_L) (T := Fc_L) (N := 8) hx hb hw inc_L hown hK hP 1 rfl rfl 7 (by decide) (hw _ wd_36) (fun _ h9 => h9) rfl d_L_addRestriction_15 ?_
    refine lv_dload_n hx hb d_L_addRestriction_18 rfl (lv_at hl 2 rfl) ?_
    obtain ⟨hq, h⟩ := h
    refine va_dast (D := D) hx hb hK hP hD hS 6 2 rfl rfl hq d_L_addRestriction_19 (fun H locs hP hD hS => ?_)
    rw [pt_A_tos] at hP hD
    refine lv_aload_n hx hb d_L_addRestriction_20 rfl (lv_at hl 0 rfl) ?_
    refine va_get (D := D) (ci := 0) (v := .ref (ad 7)) (C := Rc_L) (T := Fc_L) (N := 8) hx hb hw inc_L hown hK hP 1 rfl rfl 5 (by decide) (hw _ wd_33) (fun _ h9 => h9) rfl d_L_addRestriction_21 ?_
    refine lv_aload_n hx hb d_L_addRestriction_24 rfl (lv_at hl 0 rfl) ?_
    refine va_get (D := D) (ci := 0) (v := .int ((pV (pV S 2 (S.1 5 0).toNatClampNeg x1) 3 ((pV S 2 (S.1 5 0).toNatClampNeg x1).1 5 0).toNatClampNeg x2).1 5 0)) (C := Rc_L) (T := Fc_L) (N := 8) hx hb hw inc_L hown hK hP 1 rfl rfl 7 (by decide) (hw _ wd_36) (fun _ h9 => h9) rfl d_L_addRestriction_25 ?_
    refine lv_dload hx hb d_L_addRestriction_28 (lv_at hl 3 rfl) ?_
    obtain ⟨hq, h⟩ := h
    refine va_dast (D := D) hx hb hK hP hD hS 7 2 rfl rfl hq d_L_addRestriction_30 (fun H locs hP hD hS => ?_)
    rw [pt_A_caps] at hP hD
    refine lv_aload_n hx hb d_L_addRestriction_31 rfl (lv_at hl 0 rfl) ?_
    refine lv_dup hx hb d_L_addRestriction_32 rfl ?_
    refine va_get (D := D) (ci := 0) (v := .int ((pV (pV (pV S 2 (S.1 5 0).toNatClampNeg x1) 3 ((pV S 2 (S.1 5 0).toNatClampNeg x1).1 5 0).toNatClampNeg x2) 4 ((pV (pV S 2 (S.1 5 0).toNatClampNeg x1) 3 ((pV S 2 (S.1 5 0).toNatClampNeg x1).1 5 0).toNatClampNeg x2).1 5 0).toNatClampNeg x3).1 5 0)) (C := Rc_L) (T := Fc_L) (N := 8) hx hb hw inc_L hown hK hP 1 rfl rfl 7 (by decide) (hw _ wd_36) (fun _ h9 => h9) rfl d_L_addRestriction_33 ?_
    refine lv_iconst (v := 1) hx hb d_L_addRestriction_36 (by decide) ?_
    refine lv_iadd hx hb d_L_addRestriction_37 ?_
    refine lv_topi (fun a1 e_a1 => ?_)
    replace h := h a1 e_a1
    refine va_put (D := D) (ci := 0) (v := .int a1) (ty := .int) (C := Rc_L) (T := Fc_L) (N := 8) hx hb hw inc_L tc_L tc_L_ok nc_L hown hK hP hD hS 1 rfl rfl 7 (by decide) (hw _ wd_36) (fun _ h9 => h9) rfl (by decide +kernel) rfl rfl (Nat.le_of_ble_eq_true rfl) d_L_addRestriction_38 (fun H locs hP hD hS => ?_)
    rw [pt_L_restrictionCount] at hP hD
    refine lv_aload_n hx hb d_L_addRestriction_41 rfl (lv_at hl 0 rfl) ?_
    refine va_get (D := D) (ci := 0) (v := .int ((pI (pV (pV (pV S 2 (S.1 5 0).toNatClampNeg x1) 3 ((pV S 2 (S.1 5 0).toNatClampNeg x1).1 5 0).toNatClampNeg x2) 4 ((pV (pV S 2 (S.1 5 0).toNatClampNeg x1) 3 ((pV S 2 (S.1 5 0).toNatClampNeg x1).1 5 0).toNatClampNeg x2).1 5 0).toNatClampNeg x3) 5 0 a1).1 5 0)) (C := Rc_L) (T := Fc_L) (N := 8) hx hb hw inc_L hown hK hP 1 rfl rfl 7 (by decide) (hw _ wd_36) (fun _ h9 => h9) rfl d_L_addRestriction_42 ?_
    exact W.iret (v := ((pI (pV (pV (pV S 2 (S.1 5 0).toNatClampNeg x1) 3 ((pV S 2 (S.1 5 0).toNatClampNeg x1).1 5 0).toNatClampNeg x2) 4 ((pV (pV S 2 (S.1 5 0).toNatClampNeg x1) 3 ((pV S 2 (S.1 5 0).toNatClampNeg x1).1 5 0).toNatClampNeg x2).1 5 0).toNatClampNeg x3) 5 0 a1).1 5 0)) hx hb hr (fun t ht hW => ⟨⟨(pI (pV (pV (pV S 2 (S.1 5 0).toNatClampNeg x1) 3 ((pV S 2 (S.1 5 0).toNatClampNeg x1).1 5 0).toNatClampNeg x2) 4 ((pV (pV S 2 (S.1 5 0).toNatClampNeg x1) 3 ((pV S 2 (S.1 5 0).toNatClampNeg x1).1 5 0).toNatClampNeg x2).1 5 0).toNatClampNeg x3) 5 0 a1).1 5 0, pI (pV (pV (pV S 2 (S.1 5 0).toNatClampNeg x1) 3 ((pV S 2 (S.1 5 0).toNatClampNeg x1).1 5 0).toNatClampNeg x2) 4 ((pV (pV S 2 (S.1 5 0).toNatClampNeg x1) 3 ((pV S 2 (S.1 5 0).toNatClampNeg x1).1 5 0).toNatClampNeg x2).1 5 0).toNatClampNeg x3) 5 0 a1, rfl, h, by rw [ht]; exact hP, hD⟩, hS.F ht⟩) hS.2.2 d_L_addRestriction_45
  exact hH9 _ rfl hP hS
theorem d_L_removeRestriction_0 : decode b_L_removeRestriction 0 = .ok (.aload_n 0, 1) := by decide +kernel
theorem d_L_removeRestriction_1 : decode b_L_removeRestriction 1 = .ok (.dup, 1) := by decide +kernel
theorem d_L_removeRestriction_2 : decode b_L_removeRestriction 2 = .ok (.getfield 35, 3) := by decide +kernel
theorem d_L_removeRestriction_5 : decode b_L_removeRestriction 5 = .ok (.iconst 1, 1) := by decide +kernel
theorem d_L_removeRestriction_6 : decode b_L_removeRestriction 6 = .ok (.isub, 1) := by decide +kernel
theorem d_L_removeRestriction_7 : decode b_L_removeRestriction 7 = .ok (.putfield 35, 3) := by decide +kernel
theorem d_L_removeRestriction_10 : decode b_L_removeRestriction 10 = .ok (.iload_n 1, 1) := by decide +kernel
theorem d_L_removeRestriction_11 : decode b_L_removeRestriction 11 = .ok (.istore_n 2, 1) := by decide +kernel
theorem d_L_removeRestriction_12 : decode b_L_removeRestriction 12 = .ok (.iload_n 2, 1) := by decide +kernel
theorem d_L_removeRestriction_13 : decode b_L_removeRestriction 13 = .ok (.aload_n 0, 1) := by decide +kernel
theorem d_L_removeRestriction_14 : decode b_L_removeRestriction 14 = .ok (.getfield 35, 3) := by decide +kernel
theorem d_L_removeRestriction_17 : decode b_L_removeRestriction 17 = .ok (.if_icmp .ge 51, 3) := by decide +kernel
theorem d_L_removeRestriction_20 : decode b_L_removeRestriction 20 = .ok (.aload_n 0, 1) := by decide +kernel
theorem d_L_removeRestriction_21 : decode b_L_removeRestriction 21 = .ok (.getfield 22, 3) := by decide +kernel
theorem d_L_removeRestriction_24 : decode b_L_removeRestriction 24 = .ok (.iload_n 2, 1) := by decide +kernel
theorem d_L_removeRestriction_25 : decode b_L_removeRestriction 25 = .ok (.aload_n 0, 1) := by decide +kernel
theorem d_L_removeRestriction_26 : decode b_L_removeRestriction 26 = .ok (.getfield 22, 3) := by decide +kernel
theorem d_L_removeRestriction_29 : decode b_L_removeRestriction 29 = .ok (.iload_n 2, 1) := by decide +kernel
theorem d_L_removeRestriction_30 : decode b_L_removeRestriction 30 = .ok (.iconst 1, 1) := by decide +kernel
theorem d_L_removeRestriction_31 : decode b_L_removeRestriction 31 = .ok (.iadd, 1) := by decide +kernel
theorem d_L_removeRestriction_32 : decode b_L_removeRestriction 32 = .ok (.daload, 1) := by decide +kernel
theorem d_L_removeRestriction_33 : decode b_L_removeRestriction 33 = .ok (.dastore, 1) := by decide +kernel
theorem d_L_removeRestriction_34 : decode b_L_removeRestriction 34 = .ok (.aload_n 0, 1) := by decide +kernel
theorem d_L_removeRestriction_35 : decode b_L_removeRestriction 35 = .ok (.getfield 25, 3) := by decide +kernel
theorem d_L_removeRestriction_38 : decode b_L_removeRestriction 38 = .ok (.iload_n 2, 1) := by decide +kernel
theorem d_L_removeRestriction_39 : decode b_L_removeRestriction 39 = .ok (.aload_n 0, 1) := by decide +kernel
theorem d_L_removeRestriction_40 : decode b_L_removeRestriction 40 = .ok (.getfield 25, 3) := by decide +kernel
theorem d_L_removeRestriction_43 : decode b_L_removeRestriction 43 = .ok (.iload_n 2, 1) := by decide +kernel
theorem d_L_removeRestriction_44 : decode b_L_removeRestriction 44 = .ok (.iconst 1, 1) := by decide +kernel
theorem d_L_removeRestriction_45 : decode b_L_removeRestriction 45 = .ok (.iadd, 1) := by decide +kernel
theorem d_L_removeRestriction_46 : decode b_L_removeRestriction 46 = .ok (.daload, 1) := by decide +kernel
theorem d_L_removeRestriction_47 : decode b_L_removeRestriction 47 = .ok (.dastore, 1) := by decide +kernel
theorem d_L_removeRestriction_48 : decode b_L_removeRestriction 48 = .ok (.aload_n 0, 1) := by decide +kernel
theorem d_L_removeRestriction_49 : decode b_L_removeRestriction 49 = .ok (.getfield 28, 3) := by decide +kernel
theorem d_L_removeRestriction_52 : decode b_L_removeRestriction 52 = .ok (.iload_n 2, 1) := by decide +kernel
theorem d_L_removeRestriction_53 : decode b_L_removeRestriction 53 = .ok (.aload_n 0, 1) := by decide +kernel
theorem d_L_removeRestriction_54 : decode b_L_removeRestriction 54 = .ok (.getfield 28, 3) := by decide +kernel
theorem d_L_removeRestriction_57 : decode b_L_removeRestriction 57 = .ok (.iload_n 2, 1) := by decide +kernel
theorem d_L_removeRestriction_58 : decode b_L_removeRestriction 58 = .ok (.iconst 1, 1) := by decide +kernel
theorem d_L_removeRestriction_59 : decode b_L_removeRestriction 59 = .ok (.iadd, 1) := by decide +kernel
theorem d_L_removeRestriction_60 : decode b_L_removeRestriction 60 = .ok (.daload, 1) := by decide +kernel
theorem d_L_removeRestriction_61 : decode b_L_removeRestriction 61 = .ok (.dastore, 1) := by decide +kernel
theorem d_L_removeRestriction_62 : decode b_L_removeRestriction 62 = .ok (.iinc 2 1, 3) := by decide +kernel
theorem d_L_removeRestriction_65 : decode b_L_removeRestriction 65 = .ok (.goto (-53), 3) := by decide +kernel
theorem d_L_removeRestriction_68 : decode b_L_removeRestriction 68 = .ok (.aload_n 0, 1) := by decide +kernel
theorem d_L_removeRestriction_69 : decode b_L_removeRestriction 69 = .ok (.getfield 35, 3) := by decide +kernel
theorem d_L_removeRestriction_72 : decode b_L_removeRestriction 72 = .ok (.ireturn, 1) := by decide +kernel
def w_L_removeRestriction_12 : Nat → SC → Int32 → (Int32 → SC → Prop) → Prop
  | 0 => fun _ _ _ => False
  | n + 1 => fun S y2 Q => ((((S.1 5 0) ≤ y2) → (Q (S.1 5 0) S)) ∧ ((¬ (S.1 5 0) ≤ y2) → (∀ a2 : Int32, a2 = y2 + 1 → (vp_in a2 5 ∧ (vp_in y2 5 ∧ (∀ a3 : Int32, a3 = y2 + 1 → (vp_in a3 5 ∧ (vp_in y2 5 ∧ (∀ a4 : Int32, a4 = y2 + 1 → (vp_in a4 5 ∧ (vp_in y2 5 ∧ ((fun S9 z0 => w_L_removeRestriction_12 n S9 z0 Q) (pV (pV (pV S 2 y2.toNatClampNeg (S.2 2 a2.toNatClampNeg)) 3 y2.toNatClampNeg ((pV S 2 y2.toNatClampNeg (S.2 2 a2.toNatClampNeg)).2 3 a3.toNatClampNeg)) 4 y2.toNatClampNeg ((pV (pV S 2 y2.toNatClampNeg (S.2 2 a2.toNatClampNeg)) 3 y2.toNatClampNeg ((pV S 2 y2.toNatClampNeg (S.2 2 a2.toNatClampNeg)).2 3 a3.toNatClampNeg)).2 4 a4.toNatClampNeg)) (y2 + 1)))))))))))))
def w_L_removeRestriction (S : SC) (x1 : Int32) (Q : Int32 → SC → Prop) : Prop := ∀ a1 : Int32, a1 = (S.1 5 0) - 1 → (∃ n : Nat, w_L_removeRestriction_12 n (pI S 5 0 a1) x1 Q)
set_option maxRecDepth 100000 in
set_option maxHeartbeats 4000000 in
theorem c_L_removeRestriction (l : Launch) (D : va_G) (ca : Nat → ClassId) (ad : Nat → Nat) (sz : Nat) (S : SC) (x1 : Int32)  (Q : Int32 → SC → Prop) (h : w_L_removeRestriction S x1 Q) : Met l y_L_removeRestriction (Cond.code y_L_removeRestriction b_L_removeRestriction 3 (some Jvm.ClassFile.FieldType.int) :: tG) ({ frames := 0, cells := 0, slots := 0, locals := 0 } : Room) (xPc D ca (wC ca ad) S sz [.ref (ad 1), .int x1]) (va_Qi Q (xAt D (wC ca ad) (va_A (wC ca ad S) sz)) (va_A (wC ca ad S) sz)) 0 0 (va_A (wC ca ad S) sz) := by
  refine xx_met (Qf := fun A => va_Qi Q (xAt D (wC ca ad) A) A) (by decide) (Nat.le_of_ble_eq_true rfl) ?_
  intro p e s m args below meth c A ls hx hb hr hw hown hlocks hml hK hN hA hP hD hS hl
  have hown : s.vm.findClass "TrainGuard$Line" = some m.cls := hown
  have hl : lv_has ls 3 [(0, .ref (ad 1)), (1, .int x1)] := hl
  unfold w_L_removeRestriction at h
  have bk_12 : ∀ (n9 : Nat) (S : SC) (y2 : Int32) (H : Heap) (locs : List Loc) , va_P D cls (wC ca ad S) H → va_D A (wC ca ad S) → va_S A s.heap H locs → ∀ (ls : Array Slot), lv_has ls 3 [(0, .ref (ad 1)), (2, .int y2)] → w_L_removeRestriction_12 n9 S y2 Q → W p l e ({ frames := 0, cells := 0, slots := 0, locals := 0 } : Room) s m args below meth c H locs 0 0 (MQ below ((fun A => va_Qi Q (xAt D (wC ca ad) A) A) A) args s 0 0 A) (F0 m 12 ls []) := by
    intro n9
    induction n9 with
    | zero => intro S y2 H locs hP hD hS ls hl h; exact absurd h id
    | succ n9 hK12 =>
      intro S y2 H locs hP hD hS ls hl h
      replace h : (((S.1 5 0) ≤ y2) → (Q (S.1 5 0) S)) ∧ ((¬ (S.1 5 0) ≤ y2) → (∀ a2 : Int32, a2 = y2 + 1 → (vp_in a2 5 ∧ (vp_in y2 5 ∧ (∀ a3 : Int32, a3 = y2 + 1 → (vp_in a3 5 ∧ (vp_in y2 5 ∧ (∀ a4 : Int32, a4 = y2 + 1 → (vp_in a4 5 ∧ (vp_in y2 5 ∧ ((fun S9 z0 => w_L_removeRestriction_12 n9 S9 z0 Q) (pV (pV (pV S 2 y2.toNatClampNeg (S.2 2 a2.toNatClampNeg)) 3 y2.toNatClampNeg ((pV S 2 y2.toNatClampNeg (S.2 2 a2.toNatClampNeg)).2 3 a3.toNatClampNeg)) 4 y2.toNatClampNeg ((pV (pV S 2 y2.toNatClampNeg (S.2 2 a2.toNatClampNeg)) 3 y2.toNatClampNeg ((pV S 2 y2.toNatClampNeg (S.2 2 a2.toNatClampNeg)).2 3 a3.toNatClampNeg)).2 4 a4.toNatClampNeg)) (y2 + 1)))))))))))) := h
      refine lv_iload_n hx hb d_L_removeRestriction_12 rfl (lv_at hl 1 rfl) ?_
      refine lv_aload_n hx hb d_L_removeRestriction_13 rfl (lv_at hl 0 rfl) ?_
      refine va_get (D := D) (ci := 0) (v := .int (S.1 5 0)) (C := Rc_L) (T := Fc_L) (N := 8) hx hb hw inc_L hown hK hP 1 rfl rfl 7 (by decide) (hw _ wd_36) (fun _ h9 => h9) rfl d_L_removeRestriction_14 ?_
      refine lv_icmp_ge (tgt := 68) hx hb d_L_removeRestriction_17 (by decide) (fun hc => ?_) (fun hc => ?_)
      · replace h := h.1 hc
        refine lv_aload_n hx hb d_L_removeRestriction_68 rfl (lv_at hl 0 rfl) ?_
        refine va_get (D := D) (ci := 0) (v := .int (S.1 5 0)) (C := Rc_L) (T := Fc_L) (N := 8) hx hb hw inc_L hown hK hP 1 rfl rfl 7 (by decide) (hw _ wd_36) (fun _ h9 => h9) rfl d_L_removeRestriction_69 ?_
        exact W.iret (v := (S.1 5 0)) hx hb hr (fun t ht hW => ⟨⟨S.1 5 0, S, rfl, h, by rw [ht]; exact hP, hD⟩, hS.F ht⟩) hS.2.2 d_L_removeRestriction_72
      · replace h := h.2 hc
        refine lv_aload_n hx hb d_L_removeRestriction_20 rfl (lv_at hl 0 rfl) ?_
        refine va_get (D := D) (ci := 0) (v := .ref (ad 5)) (C := Rc_L) (T := Fc_L) (N := 8) hx hb hw inc_L hown hK hP 1 rfl rfl 3 (by decide) (hw _ wd_31) (fun _ h9 => h9) rfl d_L_removeRestriction_21 ?_
        refine lv_iload_n hx hb d_L_removeRestriction_24 rfl (lv_at hl 1 rfl) ?_
        refine lv_aload_n hx hb d_L_removeRestriction_25 rfl (lv_at hl 0 rfl) ?_
        refine va_get (D := D) (ci := 0) (v := .ref (ad 5)) (C := Rc_L) (T := Fc_L) (N := 8) hx hb hw inc_L hown hK hP 1 rfl rfl 3 (by decide) (hw _ wd_31) (fun _ h9 => h9) rfl d_L_removeRestriction_26 ?_
        refine lv_iload_n hx hb d_L_removeRestriction_29 rfl (lv_at hl 1 rfl) ?_
        refine lv_iconst (v := 1) hx hb d_L_removeRestriction_30 (by decide) ?_
        refine lv_iadd hx hb d_L_removeRestriction_31 ?_
        refine lv_topi (fun a2 e_a2 => ?_)
        replace h := h a2 e_a2
        obtain ⟨hq, h⟩ := h
        refine va_dald (D := D) hx hb hK hP 5 2 rfl rfl hq d_L_removeRestriction_32 ?_
        obtain ⟨hq, h⟩ := h
        refine va_dast (D := D) hx hb hK hP hD hS 5 2 rfl rfl hq d_L_removeRestriction_33 (fun H locs hP hD hS => ?_)
        rw [pt_A_froms] at hP hD
        refine lv_aload_n hx hb d_L_removeRestriction_34 rfl (lv_at hl 0 rfl) ?_
        refine va_get (D := D) (ci := 0) (v := .ref (ad 6)) (C := Rc_L) (T := Fc_L) (N := 8) hx hb hw inc_L hown hK hP 1 rfl rfl 4 (by decide) (hw _ wd_32) (fun _ h9 => h9) rfl d_L_removeRestriction_35 ?_
        refine lv_iload_n hx hb d_L_removeRestriction_38 rfl (lv_at hl 1 rfl) ?_
        refine lv_aload_n hx hb d_L_removeRestriction_39 rfl (lv_at hl 0 rfl) ?_
        refine va_get (D := D) (ci := 0) (v := .ref (ad 6)) (C := Rc_L) (T := Fc_L) (N := 8) hx hb hw inc_L hown hK hP 1 rfl rfl 4 (by decide) (hw _ wd_32) (fun _ h9 => h9) rfl d_L_removeRestriction_40 ?_
        refine lv_iload_n hx hb d_L_removeRestriction_43 rfl (lv_at hl 1 rfl) ?_
        refine lv_iconst (v := 1) hx hb d_L_removeRestriction_44 (by decide) ?_
        refine lv_iadd hx hb d_L_removeRestriction_45 ?_
        refine lv_topi (fun a3 e_a3 => ?_)
        replace h := h a3 e_a3
        obtain ⟨hq, h⟩ := h
        refine va_dald (D := D) hx hb hK hP 6 2 rfl rfl hq d_L_removeRestriction_46 ?_
        obtain ⟨hq, h⟩ := h
        refine va_dast (D := D) hx hb hK hP hD hS 6 2 rfl rfl hq d_L_removeRestriction_47 (fun H locs hP hD hS => ?_)
        rw [pt_A_tos] at hP hD
        refine lv_aload_n hx hb d_L_removeRestriction_48 rfl (lv_at hl 0 rfl) ?_
        refine va_get (D := D) (ci := 0) (v := .ref (ad 7)) (C := Rc_L) (T := Fc_L) (N := 8) hx hb hw inc_L hown hK hP 1 rfl rfl 5 (by decide) (hw _ wd_33) (fun _ h9 => h9) rfl d_L_removeRestriction_49 ?_
        refine lv_iload_n hx hb d_L_removeRestriction_52 rfl (lv_at hl 1 rfl) ?_
        refine lv_aload_n hx hb d_L_removeRestriction_53 rfl (lv_at hl 0 rfl) ?_
        refine va_get (D := D) (ci := 0) (v := .ref (ad 7)) (C := Rc_L) (T := Fc_L) (N := 8) hx hb hw inc_L hown hK hP 1 rfl rfl 5 (by decide) (hw _ wd_33) (fun _ h9 => h9) rfl d_L_removeRestriction_54 ?_
        refine lv_iload_n hx hb d_L_removeRestriction_57 rfl (lv_at hl 1 rfl) ?_
        refine lv_iconst (v := 1) hx hb d_L_removeRestriction_58 (by decide) ?_
        refine lv_iadd hx hb d_L_removeRestriction_59 ?_
        refine lv_topi (fun a4 e_a4 => ?_)
        replace h := h a4 e_a4
        obtain ⟨hq, h⟩ := h
        refine va_dald (D := D) hx hb hK hP 7 2 rfl rfl hq d_L_removeRestriction_60 ?_
        obtain ⟨hq, h⟩ := h
        refine va_dast (D := D) hx hb hK hP hD hS 7 2 rfl rfl hq d_L_removeRestriction_61 (fun H locs hP hD hS => ?_)
        rw [pt_A_caps] at hP hD
        refine lv_iinc (v := (y2 + 1)) (lv' := [(2, .int (y2 + 1)), (0, .ref (ad 1))]) hx hb d_L_removeRestriction_62 hl (k := 1) rfl rfl (by decide) rfl (fun ls hl => ?_)
        refine lv_goto (tgt := 12) hx hb d_L_removeRestriction_65 (by decide) ?_
        exact hK12 (pV (pV (pV S 2 y2.toNatClampNeg (S.2 2 a2.toNatClampNeg)) 3 y2.toNatClampNeg ((pV S 2 y2.toNatClampNeg (S.2 2 a2.toNatClampNeg)).2 3 a3.toNatClampNeg)) 4 y2.toNatClampNeg ((pV (pV S 2 y2.toNatClampNeg (S.2 2 a2.toNatClampNeg)) 3 y2.toNatClampNeg ((pV S 2 y2.toNatClampNeg (S.2 2 a2.toNatClampNeg)).2 3 a3.toNatClampNeg)).2 4 a4.toNatClampNeg)) (y2 + 1) H locs hP hD hS ls (lv_sub hl [1, 0] rfl) h
  have hH9 : ∀ H : Heap, H = s.heap → va_P D cls (wC ca ad S) H → va_S A s.heap H [] → W p l e ({ frames := 0, cells := 0, slots := 0, locals := 0 } : Room) s m args below meth c H [] 0 0 (MQ below ((fun A => va_Qi Q (xAt D (wC ca ad) A) A) A) args s 0 0 A) (F0 m 0 ls []) := by
    clear hP hS
    intro H hH hP hS
    obtain ⟨locs, hlo⟩ : ∃ z : List Loc, z = [] := ⟨_, rfl⟩
    rw [← hlo] at hS ⊢
    refine lv_aload_n hx hb d_L_removeRestriction_0 rfl (lv_at hl 0 rfl) ?_
    refine lv_dup hx hb d_L_removeRestriction_1 rfl ?_
    refine va_get (D := D) (ci := 0) (v := .int (S.1 5 0)) (C := Rc_L) (T := Fc_L) (N := 8) hx hb hw inc_L hown hK hP 1 rfl rfl 7 (by decide) (hw _ wd_36) (fun _ h9 => h9) rfl d_L_removeRestriction_2 ?_
    refine lv_iconst (v := 1) hx hb d_L_removeRestriction_5 (by decide) ?_
    refine lv_isub hx hb d_L_removeRestriction_6 ?_
    refine lv_topi (fun a1 e_a1 => ?_)
    replace h := h a1 e_a1
    refine va_put (D := D) (ci := 0) (v := .int a1) (ty := .int) (C := Rc_L) (T := Fc_L) (N := 8) hx hb hw inc_L tc_L tc_L_ok nc_L hown hK hP hD hS 1 rfl rfl 7 (by decide) (hw _ wd_36) (fun _ h9 => h9) rfl (by decide +kernel) rfl rfl (Nat.le_of_ble_eq_true rfl) d_L_removeRestriction_7 (fun H locs hP hD hS => ?_)
    rw [pt_L_restrictionCount] at hP hD
    refine lv_iload_n hx hb d_L_removeRestriction_10 rfl (lv_at hl 1 rfl) ?_
    refine lv_istore_n (lv' := [(2, .int x1), (0, .ref (ad 1)), (1, .int x1)]) hx hb d_L_removeRestriction_11 rfl hl (by decide) rfl (fun ls hl => ?_)
    obtain ⟨n9, h⟩ := h
    exact bk_12 n9 (pI S 5 0 a1) x1 H locs hP hD hS ls (lv_sub hl [1, 0] rfl) h
  exact hH9 _ rfl hP hS
theorem d_L_limitAt_0 : decode b_L_limitAt 0 = .ok (.aload_n 0, 1) := by decide +kernel
theorem d_L_limitAt_1 : decode b_L_limitAt 1 = .ok (.getfield 15, 3) := by decide +kernel
theorem d_L_limitAt_4 : decode b_L_limitAt 4 = .ok (.iconst 0, 1) := by decide +kernel
theorem d_L_limitAt_5 : decode b_L_limitAt 5 = .ok (.daload, 1) := by decide +kernel
theorem d_L_limitAt_6 : decode b_L_limitAt 6 = .ok (.dstore_n 3, 1) := by decide +kernel
theorem d_L_limitAt_7 : decode b_L_limitAt 7 = .ok (.iconst 1, 1) := by decide +kernel
theorem d_L_limitAt_8 : decode b_L_limitAt 8 = .ok (.istore 5, 2) := by decide +kernel
theorem d_L_limitAt_10 : decode b_L_limitAt 10 = .ok (.iload 5, 2) := by decide +kernel
theorem d_L_limitAt_12 : decode b_L_limitAt 12 = .ok (.aload_n 0, 1) := by decide +kernel
theorem d_L_limitAt_13 : decode b_L_limitAt 13 = .ok (.getfield 31, 3) := by decide +kernel
theorem d_L_limitAt_16 : decode b_L_limitAt 16 = .ok (.if_icmp .ge 29, 3) := by decide +kernel
theorem d_L_limitAt_19 : decode b_L_limitAt 19 = .ok (.aload_n 0, 1) := by decide +kernel
theorem d_L_limitAt_20 : decode b_L_limitAt 20 = .ok (.getfield 9, 3) := by decide +kernel
theorem d_L_limitAt_23 : decode b_L_limitAt 23 = .ok (.iload 5, 2) := by decide +kernel
theorem d_L_limitAt_25 : decode b_L_limitAt 25 = .ok (.daload, 1) := by decide +kernel
theorem d_L_limitAt_26 : decode b_L_limitAt 26 = .ok (.dload_n 1, 1) := by decide +kernel
theorem d_L_limitAt_27 : decode b_L_limitAt 27 = .ok (.dcmp .g, 1) := by decide +kernel
theorem d_L_limitAt_28 : decode b_L_limitAt 28 = .ok (.ifCond .gt 11, 3) := by decide +kernel
theorem d_L_limitAt_31 : decode b_L_limitAt 31 = .ok (.aload_n 0, 1) := by decide +kernel
theorem d_L_limitAt_32 : decode b_L_limitAt 32 = .ok (.getfield 15, 3) := by decide +kernel
theorem d_L_limitAt_35 : decode b_L_limitAt 35 = .ok (.iload 5, 2) := by decide +kernel
theorem d_L_limitAt_37 : decode b_L_limitAt 37 = .ok (.daload, 1) := by decide +kernel
theorem d_L_limitAt_38 : decode b_L_limitAt 38 = .ok (.dstore_n 3, 1) := by decide +kernel
theorem d_L_limitAt_39 : decode b_L_limitAt 39 = .ok (.iinc 5 1, 3) := by decide +kernel
theorem d_L_limitAt_42 : decode b_L_limitAt 42 = .ok (.goto (-32), 3) := by decide +kernel
theorem d_L_limitAt_45 : decode b_L_limitAt 45 = .ok (.iconst 0, 1) := by decide +kernel
theorem d_L_limitAt_46 : decode b_L_limitAt 46 = .ok (.istore 5, 2) := by decide +kernel
theorem d_L_limitAt_48 : decode b_L_limitAt 48 = .ok (.iload 5, 2) := by decide +kernel
theorem d_L_limitAt_50 : decode b_L_limitAt 50 = .ok (.aload_n 0, 1) := by decide +kernel
theorem d_L_limitAt_51 : decode b_L_limitAt 51 = .ok (.getfield 35, 3) := by decide +kernel
theorem d_L_limitAt_54 : decode b_L_limitAt 54 = .ok (.if_icmp .ge 53, 3) := by decide +kernel
theorem d_L_limitAt_57 : decode b_L_limitAt 57 = .ok (.aload_n 0, 1) := by decide +kernel
theorem d_L_limitAt_58 : decode b_L_limitAt 58 = .ok (.getfield 22, 3) := by decide +kernel
theorem d_L_limitAt_61 : decode b_L_limitAt 61 = .ok (.iload 5, 2) := by decide +kernel
theorem d_L_limitAt_63 : decode b_L_limitAt 63 = .ok (.daload, 1) := by decide +kernel
theorem d_L_limitAt_64 : decode b_L_limitAt 64 = .ok (.dload_n 1, 1) := by decide +kernel
theorem d_L_limitAt_65 : decode b_L_limitAt 65 = .ok (.dcmp .g, 1) := by decide +kernel
theorem d_L_limitAt_66 : decode b_L_limitAt 66 = .ok (.ifCond .gt 35, 3) := by decide +kernel
theorem d_L_limitAt_69 : decode b_L_limitAt 69 = .ok (.aload_n 0, 1) := by decide +kernel
theorem d_L_limitAt_70 : decode b_L_limitAt 70 = .ok (.getfield 25, 3) := by decide +kernel
theorem d_L_limitAt_73 : decode b_L_limitAt 73 = .ok (.iload 5, 2) := by decide +kernel
theorem d_L_limitAt_75 : decode b_L_limitAt 75 = .ok (.daload, 1) := by decide +kernel
theorem d_L_limitAt_76 : decode b_L_limitAt 76 = .ok (.dload_n 1, 1) := by decide +kernel
theorem d_L_limitAt_77 : decode b_L_limitAt 77 = .ok (.dcmp .l, 1) := by decide +kernel
theorem d_L_limitAt_78 : decode b_L_limitAt 78 = .ok (.ifCond .le 23, 3) := by decide +kernel
theorem d_L_limitAt_81 : decode b_L_limitAt 81 = .ok (.aload_n 0, 1) := by decide +kernel
theorem d_L_limitAt_82 : decode b_L_limitAt 82 = .ok (.getfield 28, 3) := by decide +kernel
theorem d_L_limitAt_85 : decode b_L_limitAt 85 = .ok (.iload 5, 2) := by decide +kernel
theorem d_L_limitAt_87 : decode b_L_limitAt 87 = .ok (.daload, 1) := by decide +kernel
theorem d_L_limitAt_88 : decode b_L_limitAt 88 = .ok (.dload_n 3, 1) := by decide +kernel
theorem d_L_limitAt_89 : decode b_L_limitAt 89 = .ok (.dcmp .g, 1) := by decide +kernel
theorem d_L_limitAt_90 : decode b_L_limitAt 90 = .ok (.ifCond .ge 11, 3) := by decide +kernel
theorem d_L_limitAt_93 : decode b_L_limitAt 93 = .ok (.aload_n 0, 1) := by decide +kernel
theorem d_L_limitAt_94 : decode b_L_limitAt 94 = .ok (.getfield 28, 3) := by decide +kernel
theorem d_L_limitAt_97 : decode b_L_limitAt 97 = .ok (.iload 5, 2) := by decide +kernel
theorem d_L_limitAt_99 : decode b_L_limitAt 99 = .ok (.daload, 1) := by decide +kernel
theorem d_L_limitAt_100 : decode b_L_limitAt 100 = .ok (.dstore_n 3, 1) := by decide +kernel
theorem d_L_limitAt_101 : decode b_L_limitAt 101 = .ok (.iinc 5 1, 3) := by decide +kernel
theorem d_L_limitAt_104 : decode b_L_limitAt 104 = .ok (.goto (-56), 3) := by decide +kernel
theorem d_L_limitAt_107 : decode b_L_limitAt 107 = .ok (.dload_n 3, 1) := by decide +kernel
theorem d_L_limitAt_108 : decode b_L_limitAt 108 = .ok (.dreturn, 1) := by decide +kernel
def w_L_limitAt_101 (K48 : SC → UInt64 → UInt64 → Int32 → Prop) (S : SC) (y1 : UInt64) (y3 : UInt64) (y5 : Int32) (Q : UInt64 → SC → Prop) : Prop := K48 S y1 y3 (y5 + 1)
def w_L_limitAt_48 : Nat → SC → UInt64 → UInt64 → Int32 → (UInt64 → SC → Prop) → Prop
  | 0 => fun _ _ _ _ _ => False
  | n + 1 => fun S y1 y3 y5 Q => ((((S.1 5 0) ≤ y5) → (Q y3 S)) ∧ ((¬ (S.1 5 0) ≤ y5) → (vp_in y5 5 ∧ (((0 < (Op.cmpValue (FP.dcmp (S.2 2 y5.toNatClampNeg) y1) .g)) → (w_L_limitAt_101 (fun S9 z0 z1 z2 => w_L_limitAt_48 n S9 z0 z1 z2 Q) S y1 y3 y5 Q)) ∧ ((¬ 0 < (Op.cmpValue (FP.dcmp (S.2 2 y5.toNatClampNeg) y1) .g)) → (vp_in y5 5 ∧ ((((Op.cmpValue (FP.dcmp (S.2 3 y5.toNatClampNeg) y1) .l) ≤ 0) → (w_L_limitAt_101 (fun S9 z0 z1 z2 => w_L_limitAt_48 n S9 z0 z1 z2 Q) S y1 y3 y5 Q)) ∧ ((¬ (Op.cmpValue (FP.dcmp (S.2 3 y5.toNatClampNeg) y1) .l) ≤ 0) → (vp_in y5 5 ∧ (((0 ≤ (Op.cmpValue (FP.dcmp (S.2 4 y5.toNatClampNeg) y3) .g)) → (w_L_limitAt_101 (fun S9 z0 z1 z2 => w_L_limitAt_48 n S9 z0 z1 z2 Q) S y1 y3 y5 Q)) ∧ ((¬ 0 ≤ (Op.cmpValue (FP.dcmp (S.2 4 y5.toNatClampNeg) y3) .g)) → (vp_in y5 5 ∧ (w_L_limitAt_101 (fun S9 z0 z1 z2 => w_L_limitAt_48 n S9 z0 z1 z2 Q) S y1 (S.2 4 y5.toNatClampNeg) y5 Q)))))))))))))
def w_L_limitAt_39 (K10 : SC → UInt64 → UInt64 → Int32 → Prop) (S : SC) (y1 : UInt64) (y3 : UInt64) (y5 : Int32) (Q : UInt64 → SC → Prop) : Prop := K10 S y1 y3 (y5 + 1)
def w_L_limitAt_10 : Nat → SC → UInt64 → UInt64 → Int32 → (UInt64 → SC → Prop) → Prop
  | 0 => fun _ _ _ _ _ => False
  | n + 1 => fun S y1 y3 y5 Q => ((((S.1 4 0) ≤ y5) → (∃ n : Nat, w_L_limitAt_48 n S y1 y3 0 Q)) ∧ ((¬ (S.1 4 0) ≤ y5) → (vp_in y5 11 ∧ (((0 < (Op.cmpValue (FP.dcmp (S.2 0 y5.toNatClampNeg) y1) .g)) → (w_L_limitAt_39 (fun S9 z0 z1 z2 => w_L_limitAt_10 n S9 z0 z1 z2 Q) S y1 y3 y5 Q)) ∧ ((¬ 0 < (Op.cmpValue (FP.dcmp (S.2 0 y5.toNatClampNeg) y1) .g)) → (vp_in y5 10 ∧ (w_L_limitAt_39 (fun S9 z0 z1 z2 => w_L_limitAt_10 n S9 z0 z1 z2 Q) S y1 (S.2 1 y5.toNatClampNeg) y5 Q)))))))
def w_L_limitAt (S : SC) (x1 : UInt64) (Q : UInt64 → SC → Prop) : Prop := vp_in 0 10 ∧ (∃ n : Nat, w_L_limitAt_10 n S x1 (S.2 1 (0 : Int32).toNatClampNeg) 1 Q)
set_option maxRecDepth 100000 in
set_option maxHeartbeats 4000000 in
theorem c_L_limitAt (l : Launch) (D : va_G) (ca : Nat → ClassId) (ad : Nat → Nat) (sz : Nat) (S : SC) (x1 : UInt64)  (Q : UInt64 → SC → Prop) (h : w_L_limitAt S x1 Q) : Met l y_L_limitAt (Cond.code y_L_limitAt b_L_limitAt 6 (some Jvm.ClassFile.FieldType.double) :: tG) ({ frames := 0, cells := 0, slots := 0, locals := 0 } : Room) (xPc D ca (wC ca ad) S sz [.ref (ad 1), .double x1]) (va_Qd Q (xAt D (wC ca ad) (va_A (wC ca ad S) sz)) (va_A (wC ca ad S) sz)) 0 0 (va_A (wC ca ad S) sz) := by
  refine xx_met (Qf := fun A => va_Qd Q (xAt D (wC ca ad) A) A) (by decide) (Nat.le_of_ble_eq_true rfl) ?_
  intro p e s m args below meth c A ls hx hb hr hw hown hlocks hml hK hN hA hP hD hS hl
  have hown : s.vm.findClass "TrainGuard$Line" = some m.cls := hown
  have hl : lv_has ls 6 [(0, .ref (ad 1)), (1, .double x1)] := hl
  unfold w_L_limitAt at h
  have bk_101 : ∀ (K48 : SC → UInt64 → UInt64 → Int32 → Prop) (hK48 : ∀ (S : SC) (y1 : UInt64) (y3 : UInt64) (y5 : Int32) (H : Heap) (locs : List Loc) , va_P D cls (wC ca ad S) H → va_D A (wC ca ad S) → va_S A s.heap H locs → ∀ (ls : Array Slot), lv_has ls 6 [(0, .ref (ad 1)), (1, .double y1), (3, .double y3), (5, .int y5)] → K48 S y1 y3 y5 → W p l e ({ frames := 0, cells := 0, slots := 0, locals := 0 } : Room) s m args below meth c H locs 0 0 (MQ below ((fun A => va_Qd Q (xAt D (wC ca ad) A) A) A) args s 0 0 A) (F0 m 48 ls [])) (S : SC) (y1 : UInt64) (y3 : UInt64) (y5 : Int32) (H : Heap) (locs : List Loc) , va_P D cls (wC ca ad S) H → va_D A (wC ca ad S) → va_S A s.heap H locs → ∀ (ls : Array Slot), lv_has ls 6 [(0, .ref (ad 1)), (1, .double y1), (3, .double y3), (5, .int y5)] → w_L_limitAt_101 K48 S y1 y3 y5 Q → W p l e ({ frames := 0, cells := 0, slots := 0, locals := 0 } : Room) s m args below meth c H locs 0 0 (MQ below ((fun A => va_Qd Q (xAt D (wC ca ad) A) A) A) args s 0 0 A) (F0 m 101 ls []) := by
    intro K48 hK48 S y1 y3 y5 H locs hP hD hS ls hl h
    unfold w_L_limitAt_101 at h
    refine lv_iinc (v := (y5 + 1)) (lv' := [(5, .int (y5 + 1)), (0, .ref (ad 1)), (1, .double y1), (3, .double y3)]) hx hb d_L_limitAt_101 hl (k := 3) rfl rfl (by decide) rfl (fun ls hl => ?_)
    refine lv_goto (tgt := 48) hx hb d_L_limitAt_104 (by decide) ?_
    exact hK48 S y1 y3 (y5 + 1) H locs hP hD hS ls (lv_sub hl [1, 2, 3, 0] rfl) h
  have bk_48 : ∀ (n9 : Nat) (S : SC) (y1 : UInt64) (y3 : UInt64) (y5 : Int32) (H : Heap) (locs : List Loc) , va_P D cls (wC ca ad S) H → va_D A (wC ca ad S) → va_S A s.heap H locs → ∀ (ls : Array Slot), lv_has ls 6 [(0, .ref (ad 1)), (1, .double y1), (3, .double y3), (5, .int y5)] → w_L_limitAt_48 n9 S y1 y3 y5 Q → W p l e ({ frames := 0, cells := 0, slots := 0, locals := 0 } : Room) s m args below meth c H locs 0 0 (MQ below ((fun A => va_Qd Q (xAt D (wC ca ad) A) A) A) args s 0 0 A) (F0 m 48 ls []) := by
    intro n9
    induction n9 with
    | zero => intro S y1 y3 y5 H locs hP hD hS ls hl h; exact absurd h id
    | succ n9 hK48 =>
      intro S y1 y3 y5 H locs hP hD hS ls hl h
      replace h : (((S.1 5 0) ≤ y5) → (Q y3 S)) ∧ ((¬ (S.1 5 0) ≤ y5) → (vp_in y5 5 ∧ (((0 < (Op.cmpValue (FP.dcmp (S.2 2 y5.toNatClampNeg) y1) .g)) → (w_L_limitAt_101 (fun S9 z0 z1 z2 => w_L_limitAt_48 n9 S9 z0 z1 z2 Q) S y1 y3 y5 Q)) ∧ ((¬ 0 < (Op.cmpValue (FP.dcmp (S.2 2 y5.toNatClampNeg) y1) .g)) → (vp_in y5 5 ∧ ((((Op.cmpValue (FP.dcmp (S.2 3 y5.toNatClampNeg) y1) .l) ≤ 0) → (w_L_limitAt_101 (fun S9 z0 z1 z2 => w_L_limitAt_48 n9 S9 z0 z1 z2 Q) S y1 y3 y5 Q)) ∧ ((¬ (Op.cmpValue (FP.dcmp (S.2 3 y5.toNatClampNeg) y1) .l) ≤ 0) → (vp_in y5 5 ∧ (((0 ≤ (Op.cmpValue (FP.dcmp (S.2 4 y5.toNatClampNeg) y3) .g)) → (w_L_limitAt_101 (fun S9 z0 z1 z2 => w_L_limitAt_48 n9 S9 z0 z1 z2 Q) S y1 y3 y5 Q)) ∧ ((¬ 0 ≤ (Op.cmpValue (FP.dcmp (S.2 4 y5.toNatClampNeg) y3) .g)) → (vp_in y5 5 ∧ (w_L_limitAt_101 (fun S9 z0 z1 z2 => w_L_limitAt_48 n9 S9 z0 z1 z2 Q) S y1 (S.2 4 y5.toNatClampNeg) y5 Q)))))))))))) := h
      refine lv_iload hx hb d_L_limitAt_48 (lv_at hl 3 rfl) ?_
      refine lv_aload_n hx hb d_L_limitAt_50 rfl (lv_at hl 0 rfl) ?_
      refine va_get (D := D) (ci := 0) (v := .int (S.1 5 0)) (C := Rc_L) (T := Fc_L) (N := 8) hx hb hw inc_L hown hK hP 1 rfl rfl 7 (by decide) (hw _ wd_36) (fun _ h9 => h9) rfl d_L_limitAt_51 ?_
      refine lv_icmp_ge (tgt := 107) hx hb d_L_limitAt_54 (by decide) (fun hc => ?_) (fun hc => ?_)
      · replace h := h.1 hc
        refine lv_dload_n hx hb d_L_limitAt_107 rfl (lv_at hl 2 rfl) ?_
        exact W.dret (v := y3) hx hb hr (fun t ht hW => ⟨⟨y3, S, rfl, h, by rw [ht]; exact hP, hD⟩, hS.F ht⟩) hS.2.2 d_L_limitAt_108
      · replace h := h.2 hc
        refine lv_aload_n hx hb d_L_limitAt_57 rfl (lv_at hl 0 rfl) ?_
        refine va_get (D := D) (ci := 0) (v := .ref (ad 5)) (C := Rc_L) (T := Fc_L) (N := 8) hx hb hw inc_L hown hK hP 1 rfl rfl 3 (by decide) (hw _ wd_31) (fun _ h9 => h9) rfl d_L_limitAt_58 ?_
        refine lv_iload hx hb d_L_limitAt_61 (lv_at hl 3 rfl) ?_
        obtain ⟨hq, h⟩ := h
        refine va_dald (D := D) hx hb hK hP 5 2 rfl rfl hq d_L_limitAt_63 ?_
        refine lv_dload_n hx hb d_L_limitAt_64 rfl (lv_at hl 1 rfl) ?_
        refine lv_dcmp hx hb d_L_limitAt_65 ?_
        refine lv_if_gt (tgt := 101) hx hb d_L_limitAt_66 (by decide) (fun hc => ?_) (fun hc => ?_)
        · replace h := h.1 hc
          exact bk_101 (fun S9 z0 z1 z2 => w_L_limitAt_48 n9 S9 z0 z1 z2 Q) hK48 S y1 y3 y5 H locs hP hD hS ls (lv_sub hl [0, 1, 2, 3] rfl) h
        · replace h := h.2 hc
          refine lv_aload_n hx hb d_L_limitAt_69 rfl (lv_at hl 0 rfl) ?_
          refine va_get (D := D) (ci := 0) (v := .ref (ad 6)) (C := Rc_L) (T := Fc_L) (N := 8) hx hb hw inc_L hown hK hP 1 rfl rfl 4 (by decide) (hw _ wd_32) (fun _ h9 => h9) rfl d_L_limitAt_70 ?_
          refine lv_iload hx hb d_L_limitAt_73 (lv_at hl 3 rfl) ?_
          obtain ⟨hq, h⟩ := h
          refine va_dald (D := D) hx hb hK hP 6 2 rfl rfl hq d_L_limitAt_75 ?_
          refine lv_dload_n hx hb d_L_limitAt_76 rfl (lv_at hl 1 rfl) ?_
          refine lv_dcmp hx hb d_L_limitAt_77 ?_
          refine lv_if_le (tgt := 101) hx hb d_L_limitAt_78 (by decide) (fun hc => ?_) (fun hc => ?_)
          · replace h := h.1 hc
            exact bk_101 (fun S9 z0 z1 z2 => w_L_limitAt_48 n9 S9 z0 z1 z2 Q) hK48 S y1 y3 y5 H locs hP hD hS ls (lv_sub hl [0, 1, 2, 3] rfl) h
          · replace h := h.2 hc
            refine lv_aload_n hx hb d_L_limitAt_81 rfl (lv_at hl 0 rfl) ?_
            refine va_get (D := D) (ci := 0) (v := .ref (ad 7)) (C := Rc_L) (T := Fc_L) (N := 8) hx hb hw inc_L hown hK hP 1 rfl rfl 5 (by decide) (hw _ wd_33) (fun _ h9 => h9) rfl d_L_limitAt_82 ?_
            refine lv_iload hx hb d_L_limitAt_85 (lv_at hl 3 rfl) ?_
            obtain ⟨hq, h⟩ := h
            refine va_dald (D := D) hx hb hK hP 7 2 rfl rfl hq d_L_limitAt_87 ?_
            refine lv_dload_n hx hb d_L_limitAt_88 rfl (lv_at hl 2 rfl) ?_
            refine lv_dcmp hx hb d_L_limitAt_89 ?_
            refine lv_if_ge (tgt := 101) hx hb d_L_limitAt_90 (by decide) (fun hc => ?_) (fun hc => ?_)
            · replace h := h.1 hc
              exact bk_101 (fun S9 z0 z1 z2 => w_L_limitAt_48 n9 S9 z0 z1 z2 Q) hK48 S y1 y3 y5 H locs hP hD hS ls (lv_sub hl [0, 1, 2, 3] rfl) h
            · replace h := h.2 hc
              refine lv_aload_n hx hb d_L_limitAt_93 rfl (lv_at hl 0 rfl) ?_
              refine va_get (D := D) (ci := 0) (v := .ref (ad 7)) (C := Rc_L) (T := Fc_L) (N := 8) hx hb hw inc_L hown hK hP 1 rfl rfl 5 (by decide) (hw _ wd_33) (fun _ h9 => h9) rfl d_L_limitAt_94 ?_
              refine lv_iload hx hb d_L_limitAt_97 (lv_at hl 3 rfl) ?_
              obtain ⟨hq, h⟩ := h
              refine va_dald (D := D) hx hb hK hP 7 2 rfl rfl hq d_L_limitAt_99 ?_
              refine lv_dstore_n (lv' := [(3, .double (S.2 4 y5.toNatClampNeg)), (0, .ref (ad 1)), (1, .double y1), (5, .int y5)]) hx hb d_L_limitAt_100 rfl hl (by decide) rfl (fun ls hl => ?_)
              exact bk_101 (fun S9 z0 z1 z2 => w_L_limitAt_48 n9 S9 z0 z1 z2 Q) hK48 S y1 (S.2 4 y5.toNatClampNeg) y5 H locs hP hD hS ls (lv_sub hl [1, 2, 0, 3] rfl) h
  have bk_39 : ∀ (K10 : SC → UInt64 → UInt64 → Int32 → Prop) (hK10 : ∀ (S : SC) (y1 : UInt64) (y3 : UInt64) (y5 : Int32) (H : Heap) (locs : List Loc) , va_P D cls (wC ca ad S) H → va_D A (wC ca ad S) → va_S A s.heap H locs → ∀ (ls : Array Slot), lv_has ls 6 [(0, .ref (ad 1)), (1, .double y1), (3, .double y3), (5, .int y5)] → K10 S y1 y3 y5 → W p l e ({ frames := 0, cells := 0, slots := 0, locals := 0 } : Room) s m args below meth c H locs 0 0 (MQ below ((fun A => va_Qd Q (xAt D (wC ca ad) A) A) A) args s 0 0 A) (F0 m 10 ls [])) (S : SC) (y1 : UInt64) (y3 : UInt64) (y5 : Int32) (H : Heap) (locs : List Loc) , va_P D cls (wC ca ad S) H → va_D A (wC ca ad S) → va_S A s.heap H locs → ∀ (ls : Array Slot), lv_has ls 6 [(0, .ref (ad 1)), (1, .double y1), (3, .double y3), (5, .int y5)] → w_L_limitAt_39 K10 S y1 y3 y5 Q → W p l e ({ frames := 0, cells := 0, slots := 0, locals := 0 } : Room) s m args below meth c H locs 0 0 (MQ below ((fun A => va_Qd Q (xAt D (wC ca ad) A) A) A) args s 0 0 A) (F0 m 39 ls []) := by
    intro K10 hK10 S y1 y3 y5 H locs hP hD hS ls hl h
    unfold w_L_limitAt_39 at h
    refine lv_iinc (v := (y5 + 1)) (lv' := [(5, .int (y5 + 1)), (0, .ref (ad 1)), (1, .double y1), (3, .double y3)]) hx hb d_L_limitAt_39 hl (k := 3) rfl rfl (by decide) rfl (fun ls hl => ?_)
    refine lv_goto (tgt := 10) hx hb d_L_limitAt_42 (by decide) ?_
    exact hK10 S y1 y3 (y5 + 1) H locs hP hD hS ls (lv_sub hl [1, 2, 3, 0] rfl) h
  have bk_10 : ∀ (n9 : Nat) (S : SC) (y1 : UInt64) (y3 : UInt64) (y5 : Int32) (H : Heap) (locs : List Loc) , va_P D cls (wC ca ad S) H → va_D A (wC ca ad S) → va_S A s.heap H locs → ∀ (ls : Array Slot), lv_has ls 6 [(0, .ref (ad 1)), (1, .double y1), (3, .double y3), (5, .int y5)] → w_L_limitAt_10 n9 S y1 y3 y5 Q → W p l e ({ frames := 0, cells := 0, slots := 0, locals := 0 } : Room) s m args below meth c H locs 0 0 (MQ below ((fun A => va_Qd Q (xAt D (wC ca ad) A) A) A) args s 0 0 A) (F0 m 10 ls []) := by
    intro n9
    induction n9 with
    | zero => intro S y1 y3 y5 H locs hP hD hS ls hl h; exact absurd h id
    | succ n9 hK10 =>
      intro S y1 y3 y5 H locs hP hD hS ls hl h
      replace h : (((S.1 4 0) ≤ y5) → (∃ n : Nat, w_L_limitAt_48 n S y1 y3 0 Q)) ∧ ((¬ (S.1 4 0) ≤ y5) → (vp_in y5 11 ∧ (((0 < (Op.cmpValue (FP.dcmp (S.2 0 y5.toNatClampNeg) y1) .g)) → (w_L_limitAt_39 (fun S9 z0 z1 z2 => w_L_limitAt_10 n9 S9 z0 z1 z2 Q) S y1 y3 y5 Q)) ∧ ((¬ 0 < (Op.cmpValue (FP.dcmp (S.2 0 y5.toNatClampNeg) y1) .g)) → (vp_in y5 10 ∧ (w_L_limitAt_39 (fun S9 z0 z1 z2 => w_L_limitAt_10 n9 S9 z0 z1 z2 Q) S y1 (S.2 1 y5.toNatClampNeg) y5 Q)))))) := h
      refine lv_iload hx hb d_L_limitAt_10 (lv_at hl 3 rfl) ?_
      refine lv_aload_n hx hb d_L_limitAt_12 rfl (lv_at hl 0 rfl) ?_
      refine va_get (D := D) (ci := 0) (v := .int (S.1 4 0)) (C := Rc_L) (T := Fc_L) (N := 8) hx hb hw inc_L hown hK hP 1 rfl rfl 6 (by decide) (hw _ wd_34) (fun _ h9 => h9) rfl d_L_limitAt_13 ?_
      refine lv_icmp_ge (tgt := 45) hx hb d_L_limitAt_16 (by decide) (fun hc => ?_) (fun hc => ?_)
      · replace h := h.1 hc
        refine lv_iconst (v := 0) hx hb d_L_limitAt_45 (by decide) ?_
        refine lv_istore (lv' := [(5, .int 0), (0, .ref (ad 1)), (1, .double y1), (3, .double y3)]) hx hb d_L_limitAt_46 hl (by decide) rfl (fun ls hl => ?_)
        obtain ⟨n9, h⟩ := h
        exact bk_48 n9 S y1 y3 0 H locs hP hD hS ls (lv_sub hl [1, 2, 3, 0] rfl) h
      · replace h := h.2 hc
        refine lv_aload_n hx hb d_L_limitAt_19 rfl (lv_at hl 0 rfl) ?_
        refine va_get (D := D) (ci := 0) (v := .ref (ad 2)) (C := Rc_L) (T := Fc_L) (N := 8) hx hb hw inc_L hown hK hP 1 rfl rfl 0 (by decide) (hw _ wd_27) (fun _ h9 => h9) rfl d_L_limitAt_20 ?_
        refine lv_iload hx hb d_L_limitAt_23 (lv_at hl 3 rfl) ?_
        obtain ⟨hq, h⟩ := h
        refine va_dald (D := D) hx hb hK hP 2 2 rfl rfl hq d_L_limitAt_25 ?_
        refine lv_dload_n hx hb d_L_limitAt_26 rfl (lv_at hl 1 rfl) ?_
        refine lv_dcmp hx hb d_L_limitAt_27 ?_
        refine lv_if_gt (tgt := 39) hx hb d_L_limitAt_28 (by decide) (fun hc => ?_) (fun hc => ?_)
        · replace h := h.1 hc
          exact bk_39 (fun S9 z0 z1 z2 => w_L_limitAt_10 n9 S9 z0 z1 z2 Q) hK10 S y1 y3 y5 H locs hP hD hS ls (lv_sub hl [0, 1, 2, 3] rfl) h
        · replace h := h.2 hc
          refine lv_aload_n hx hb d_L_limitAt_31 rfl (lv_at hl 0 rfl) ?_
          refine va_get (D := D) (ci := 0) (v := .ref (ad 3)) (C := Rc_L) (T := Fc_L) (N := 8) hx hb hw inc_L hown hK hP 1 rfl rfl 1 (by decide) (hw _ wd_28) (fun _ h9 => h9) rfl d_L_limitAt_32 ?_
          refine lv_iload hx hb d_L_limitAt_35 (lv_at hl 3 rfl) ?_
          obtain ⟨hq, h⟩ := h
          refine va_dald (D := D) hx hb hK hP 3 2 rfl rfl hq d_L_limitAt_37 ?_
          refine lv_dstore_n (lv' := [(3, .double (S.2 1 y5.toNatClampNeg)), (0, .ref (ad 1)), (1, .double y1), (5, .int y5)]) hx hb d_L_limitAt_38 rfl hl (by decide) rfl (fun ls hl => ?_)
          exact bk_39 (fun S9 z0 z1 z2 => w_L_limitAt_10 n9 S9 z0 z1 z2 Q) hK10 S y1 (S.2 1 y5.toNatClampNeg) y5 H locs hP hD hS ls (lv_sub hl [1, 2, 0, 3] rfl) h
  have hH9 : ∀ H : Heap, H = s.heap → va_P D cls (wC ca ad S) H → va_S A s.heap H [] → W p l e ({ frames := 0, cells := 0, slots := 0, locals := 0 } : Room) s m args below meth c H [] 0 0 (MQ below ((fun A => va_Qd Q (xAt D (wC ca ad) A) A) A) args s 0 0 A) (F0 m 0 ls []) := by
    clear hP hS
    intro H hH hP hS
    obtain ⟨locs, hlo⟩ : ∃ z : List Loc, z = [] := ⟨_, rfl⟩
    rw [← hlo] at hS ⊢
    refine lv_aload_n hx hb d_L_limitAt_0 rfl (lv_at hl 0 rfl) ?_
    refine va_get (D := D) (ci := 0) (v := .ref (ad 3)) (C := Rc_L) (T := Fc_L) (N := 8) hx hb hw inc_L hown hK hP 1 rfl rfl 1 (by decide) (hw _ wd_28) (fun _ h9 => h9) rfl d_L_limitAt_1 ?_
    refine lv_iconst (v := 0) hx hb d_L_limitAt_4 (by decide) ?_
    obtain ⟨hq, h⟩ := h
    refine va_dald (D := D) hx hb hK hP 3 2 rfl rfl hq d_L_limitAt_5 ?_
    refine lv_dstore_n (lv' := [(3, .double (S.2 1 (0 : Int32).toNatClampNeg)), (0, .ref (ad 1)), (1, .double x1)]) hx hb d_L_limitAt_6 rfl hl (by decide) rfl (fun ls hl => ?_)
    refine lv_iconst (v := 1) hx hb d_L_limitAt_7 (by decide) ?_
    refine lv_istore (lv' := [(5, .int 1), (3, .double (S.2 1 (0 : Int32).toNatClampNeg)), (0, .ref (ad 1)), (1, .double x1)]) hx hb d_L_limitAt_8 hl (by decide) rfl (fun ls hl => ?_)
    obtain ⟨n9, h⟩ := h
    exact bk_10 n9 S x1 (S.2 1 (0 : Int32).toNatClampNeg) 1 H locs hP hD hS ls (lv_sub hl [2, 3, 1, 0] rfl) h
  exact hH9 _ rfl hP hS
theorem d_L_limitNear_0 : decode b_L_limitNear 0 = .ok (.dload_n 1, 1) := by decide +kernel
theorem d_L_limitNear_1 : decode b_L_limitNear 1 = .ok (.dconst 0, 1) := by decide +kernel
theorem d_L_limitNear_2 : decode b_L_limitNear 2 = .ok (.dcmp .g, 1) := by decide +kernel
theorem d_L_limitNear_3 : decode b_L_limitNear 3 = .ok (.ifCond .ge 9, 3) := by decide +kernel
theorem d_L_limitNear_6 : decode b_L_limitNear 6 = .ok (.aload_n 0, 1) := by decide +kernel
theorem d_L_limitNear_7 : decode b_L_limitNear 7 = .ok (.dconst 0, 1) := by decide +kernel
theorem d_L_limitNear_8 : decode b_L_limitNear 8 = .ok (.invokevirtual 45, 3) := by decide +kernel
theorem d_L_limitNear_11 : decode b_L_limitNear 11 = .ok (.dreturn, 1) := by decide +kernel
theorem d_L_limitNear_12 : decode b_L_limitNear 12 = .ok (.aload_n 0, 1) := by decide +kernel
theorem d_L_limitNear_13 : decode b_L_limitNear 13 = .ok (.dload_n 1, 1) := by decide +kernel
theorem d_L_limitNear_14 : decode b_L_limitNear 14 = .ok (.aload_n 0, 1) := by decide +kernel
theorem d_L_limitNear_15 : decode b_L_limitNear 15 = .ok (.invokevirtual 49, 3) := by decide +kernel
theorem d_L_limitNear_18 : decode b_L_limitNear 18 = .ok (.dcmp .l, 1) := by decide +kernel
theorem d_L_limitNear_19 : decode b_L_limitNear 19 = .ok (.ifCond .le 10, 3) := by decide +kernel
theorem d_L_limitNear_22 : decode b_L_limitNear 22 = .ok (.aload_n 0, 1) := by decide +kernel
theorem d_L_limitNear_23 : decode b_L_limitNear 23 = .ok (.invokevirtual 49, 3) := by decide +kernel
theorem d_L_limitNear_26 : decode b_L_limitNear 26 = .ok (.goto 4, 3) := by decide +kernel
theorem d_L_limitNear_29 : decode b_L_limitNear 29 = .ok (.dload_n 1, 1) := by decide +kernel
theorem d_L_limitNear_30 : decode b_L_limitNear 30 = .ok (.invokevirtual 45, 3) := by decide +kernel
theorem d_L_limitNear_33 : decode b_L_limitNear 33 = .ok (.dreturn, 1) := by decide +kernel
theorem gl_L_49 : ∀ w ∈ wsV "TrainGuard$Line" 49 "TrainGuard$Line" y_L_lineEnd (Cond.code y_L_lineEnd b_L_lineEnd 1 (some Jvm.ClassFile.FieldType.double) :: tG), w ∈ tG := by
  intro x hx
  simp only [wsV, List.cons_append, List.nil_append, List.mem_cons] at hx
  rcases hx with rfl | rfl | rfl | rfl | rfl | hx
  · exact wd_394
  · exact wd_395
  · exact wd_396
  · exact wd_2
  · exact wd_397
  · exact hx
theorem gl_L_45 : ∀ w ∈ wsV "TrainGuard$Line" 45 "TrainGuard$Line" y_L_limitAt (Cond.code y_L_limitAt b_L_limitAt 6 (some Jvm.ClassFile.FieldType.double) :: tG), w ∈ tG := by
  intro x hx
  simp only [wsV, List.cons_append, List.nil_append, List.mem_cons] at hx
  rcases hx with rfl | rfl | rfl | rfl | rfl | hx
  · exact wd_390
  · exact wd_391
  · exact wd_392
  · exact wd_2
  · exact wd_393
  · exact hx
def w_L_limitNear_30 (S : SC) (ys0 : UInt64) (Q : UInt64 → SC → Prop) : Prop := w_L_limitAt S ys0 (fun r7 S8 => Q r7 S8)
def w_L_limitNear (S : SC) (x1 : UInt64) (Q : UInt64 → SC → Prop) : Prop := ((0 ≤ (Op.cmpValue (FP.dcmp x1 FP.dconst0) .g)) → (w_L_lineEnd S (fun r1 S2 => (((Op.cmpValue (FP.dcmp x1 r1) .l) ≤ 0) → (w_L_limitNear_30 S2 x1 Q)) ∧ ((¬ (Op.cmpValue (FP.dcmp x1 r1) .l) ≤ 0) → (w_L_lineEnd S2 (fun r3 S4 => w_L_limitNear_30 S4 r3 Q)))))) ∧ ((¬ 0 ≤ (Op.cmpValue (FP.dcmp x1 FP.dconst0) .g)) → (w_L_limitAt S FP.dconst0 (fun r5 S6 => Q r5 S6)))
set_option maxRecDepth 100000 in
set_option maxHeartbeats 4000000 in
theorem c_L_limitNear (l : Launch) (D : va_G) (ca : Nat → ClassId) (ad : Nat → Nat) (sz : Nat) (S : SC) (x1 : UInt64)  (Q : UInt64 → SC → Prop) (h : w_L_limitNear S x1 Q) : Met l y_L_limitNear (Cond.code y_L_limitNear b_L_limitNear 3 (some Jvm.ClassFile.FieldType.double) :: tG) ({ frames := 1, cells := 0, slots := 0, locals := 25 } : Room) (xPc D ca (wC ca ad) S sz [.ref (ad 1), .double x1]) (va_Qd Q (xAt D (wC ca ad) (va_A (wC ca ad S) sz)) (va_A (wC ca ad S) sz)) 0 0 (va_A (wC ca ad S) sz) := by
  refine xx_met (Qf := fun A => va_Qd Q (xAt D (wC ca ad) A) A) (by decide) (Nat.le_of_ble_eq_true rfl) ?_
  intro p e s m args below meth c A ls hx hb hr hw hown hlocks hml hK hN hA hP hD hS hl
  have hown : s.vm.findClass "TrainGuard$Line" = some m.cls := hown
  have hl : lv_has ls 3 [(0, .ref (ad 1)), (1, .double x1)] := hl
  unfold w_L_limitNear at h
  have bk_30 : ∀ (S : SC) (ys0 : UInt64) (H : Heap) (locs : List Loc) , va_P D cls (wC ca ad S) H → va_D A (wC ca ad S) → va_S A s.heap H locs → ∀ (ls : Array Slot), lv_has ls 3 [] → w_L_limitNear_30 S ys0 Q → W p l e ({ frames := 1, cells := 0, slots := 0, locals := 25 } : Room) s m args below meth c H locs 0 0 (MQ below ((fun A => va_Qd Q (xAt D (wC ca ad) A) A) A) args s 0 0 A) (F0 m 30 ls [.double ys0, .ref (ad 1)]) := by
    intro S ys0 H locs hP hD hS ls hl h
    unfold w_L_limitNear_30 at h
    refine xx_calld (va_runV (As := [.double ys0]) (rest := []) ⟨hx, hb, hml, hown, hw⟩ (c_L_limitAt l D ca ad H.size S ys0 _ h) (cwV 1 hw (tG_g gl_L_45) rfl rfl rfl (by decide +kernel) ⟨Nat.le_of_ble_eq_true rfl, Nat.le_of_ble_eq_true rfl⟩) ⟨xPc.blind, va_recv hK hP rfl (q0 := 1) rfl, xPc.pre hK hN hP hD⟩ rfl rfl hl.1 rfl (lv_room (Nat.le_of_ble_eq_true rfl)) d_L_limitNear_30 ⟨Nat.le_of_ble_eq_true rfl, Nat.le_of_ble_eq_true rfl⟩) hD hS hA (fun r7 S8 H locs h hP hD hS => ?_)
    exact W.dret (v := r7) hx hb hr (fun t ht hW => ⟨⟨r7, S8, rfl, h, by rw [ht]; exact hP, hD⟩, hS.F ht⟩) hS.2.2 d_L_limitNear_33
  have hH9 : ∀ H : Heap, H = s.heap → va_P D cls (wC ca ad S) H → va_S A s.heap H [] → W p l e ({ frames := 1, cells := 0, slots := 0, locals := 25 } : Room) s m args below meth c H [] 0 0 (MQ below ((fun A => va_Qd Q (xAt D (wC ca ad) A) A) A) args s 0 0 A) (F0 m 0 ls []) := by
    clear hP hS
    intro H hH hP hS
    obtain ⟨locs, hlo⟩ : ∃ z : List Loc, z = [] := ⟨_, rfl⟩
    rw [← hlo] at hS ⊢
    refine lv_dload_n hx hb d_L_limitNear_0 rfl (lv_at hl 1 rfl) ?_
    refine lv_dconst0 hx hb d_L_limitNear_1 ?_
    refine lv_dcmp hx hb d_L_limitNear_2 ?_
    refine lv_if_ge (tgt := 12) hx hb d_L_limitNear_3 (by decide) (fun hc => ?_) (fun hc => ?_)
    · replace h := h.1 hc
      refine lv_aload_n hx hb d_L_limitNear_12 rfl (lv_at hl 0 rfl) ?_
      refine lv_dload_n hx hb d_L_limitNear_13 rfl (lv_at hl 1 rfl) ?_
      refine lv_aload_n hx hb d_L_limitNear_14 rfl (lv_at hl 0 rfl) ?_
      refine xx_calld (va_runV (As := []) (rest := [.double x1, .ref (ad 1)]) ⟨hx, hb, hml, hown, hw⟩ (c_L_lineEnd l D ca ad H.size S _ h) (cwV 0 hw (tG_g gl_L_49) rfl rfl rfl (by decide +kernel) ⟨Nat.le_of_ble_eq_true rfl, Nat.le_of_ble_eq_true rfl⟩) ⟨xPc.blind, va_recv hK hP rfl (q0 := 1) rfl, xPc.pre hK hN hP hD⟩ rfl rfl hl.1 rfl (lv_room (Nat.le_of_ble_eq_true rfl)) d_L_limitNear_15 ⟨Nat.le_of_ble_eq_true rfl, Nat.le_of_ble_eq_true rfl⟩) hD hS hA (fun r1 S2 H locs h hP hD hS => ?_)
      refine lv_dcmp hx hb d_L_limitNear_18 ?_
      refine lv_if_le (tgt := 29) hx hb d_L_limitNear_19 (by decide) (fun hc => ?_) (fun hc => ?_)
      · replace h := h.1 hc
        refine lv_dload_n hx hb d_L_limitNear_29 rfl (lv_at hl 1 rfl) ?_
        exact bk_30 S2 x1 H locs hP hD hS ls (lv_sub hl [] rfl) h
      · replace h := h.2 hc
        refine lv_aload_n hx hb d_L_limitNear_22 rfl (lv_at hl 0 rfl) ?_
        refine xx_calld (va_runV (As := []) (rest := [.ref (ad 1)]) ⟨hx, hb, hml, hown, hw⟩ (c_L_lineEnd l D ca ad H.size S2 _ h) (cwV 0 hw (tG_g gl_L_49) rfl rfl rfl (by decide +kernel) ⟨Nat.le_of_ble_eq_true rfl, Nat.le_of_ble_eq_true rfl⟩) ⟨xPc.blind, va_recv hK hP rfl (q0 := 1) rfl, xPc.pre hK hN hP hD⟩ rfl rfl hl.1 rfl (lv_room (Nat.le_of_ble_eq_true rfl)) d_L_limitNear_23 ⟨Nat.le_of_ble_eq_true rfl, Nat.le_of_ble_eq_true rfl⟩) hD hS hA (fun r3 S4 H locs h hP hD hS => ?_)
        refine lv_goto (tgt := 30) hx hb d_L_limitNear_26 (by decide) ?_
        exact bk_30 S4 r3 H locs hP hD hS ls (lv_sub hl [] rfl) h
    · replace h := h.2 hc
      refine lv_aload_n hx hb d_L_limitNear_6 rfl (lv_at hl 0 rfl) ?_
      refine lv_dconst0 hx hb d_L_limitNear_7 ?_
      refine xx_calld (va_runV (As := [.double FP.dconst0]) (rest := []) ⟨hx, hb, hml, hown, hw⟩ (c_L_limitAt l D ca ad H.size S FP.dconst0 _ h) (cwV 1 hw (tG_g gl_L_45) rfl rfl rfl (by decide +kernel) ⟨Nat.le_of_ble_eq_true rfl, Nat.le_of_ble_eq_true rfl⟩) ⟨xPc.blind, va_recv hK hP rfl (q0 := 1) rfl, xPc.pre hK hN hP hD⟩ rfl rfl hl.1 rfl (lv_room (Nat.le_of_ble_eq_true rfl)) d_L_limitNear_8 ⟨Nat.le_of_ble_eq_true rfl, Nat.le_of_ble_eq_true rfl⟩) hD hS hA (fun r5 S6 H locs h hP hD hS => ?_)
      exact W.dret (v := r5) hx hb hr (fun t ht hW => ⟨⟨r5, S6, rfl, h, by rw [ht]; exact hP, hD⟩, hS.F ht⟩) hS.2.2 d_L_limitNear_11
  exact hH9 _ rfl hP hS
theorem d_L_changeCount_0 : decode b_L_changeCount 0 = .ok (.aload_n 0, 1) := by decide +kernel
theorem d_L_changeCount_1 : decode b_L_changeCount 1 = .ok (.getfield 31, 3) := by decide +kernel
theorem d_L_changeCount_4 : decode b_L_changeCount 4 = .ok (.aload_n 0, 1) := by decide +kernel
theorem d_L_changeCount_5 : decode b_L_changeCount 5 = .ok (.getfield 35, 3) := by decide +kernel
theorem d_L_changeCount_8 : decode b_L_changeCount 8 = .ok (.iadd, 1) := by decide +kernel
theorem d_L_changeCount_9 : decode b_L_changeCount 9 = .ok (.ireturn, 1) := by decide +kernel
def w_L_changeCount (S : SC) (Q : Int32 → SC → Prop) : Prop := ∀ a1 : Int32, a1 = (S.1 4 0) + (S.1 5 0) → (Q a1 S)
set_option maxRecDepth 100000 in
set_option maxHeartbeats 4000000 in
theorem c_L_changeCount (l : Launch) (D : va_G) (ca : Nat → ClassId) (ad : Nat → Nat) (sz : Nat) (S : SC)   (Q : Int32 → SC → Prop) (h : w_L_changeCount S  Q) : Met l y_L_changeCount (Cond.code y_L_changeCount b_L_changeCount 1 (some Jvm.ClassFile.FieldType.int) :: tG) ({ frames := 0, cells := 0, slots := 0, locals := 0 } : Room) (xPc D ca (wC ca ad) S sz [.ref (ad 1)]) (va_Qi Q (xAt D (wC ca ad) (va_A (wC ca ad S) sz)) (va_A (wC ca ad S) sz)) 0 0 (va_A (wC ca ad S) sz) := by
  refine xx_met (Qf := fun A => va_Qi Q (xAt D (wC ca ad) A) A) (by decide) (Nat.le_of_ble_eq_true rfl) ?_
  intro p e s m args below meth c A ls hx hb hr hw hown hlocks hml hK hN hA hP hD hS hl
  have hown : s.vm.findClass "TrainGuard$Line" = some m.cls := hown
  have hl : lv_has ls 1 [(0, .ref (ad 1))] := hl
  unfold w_L_changeCount at h
  have hH9 : ∀ H : Heap, H = s.heap → va_P D cls (wC ca ad S) H → va_S A s.heap H [] → W p l e ({ frames := 0, cells := 0, slots := 0, locals := 0 } : Room) s m args below meth c H [] 0 0 (MQ below ((fun A => va_Qi Q (xAt D (wC ca ad) A) A) A) args s 0 0 A) (F0 m 0 ls []) := by
    clear hP hS
    intro H hH hP hS
    obtain ⟨locs, hlo⟩ : ∃ z : List Loc, z = [] := ⟨_, rfl⟩
    rw [← hlo] at hS ⊢
    refine lv_aload_n hx hb d_L_changeCount_0 rfl (lv_at hl 0 rfl) ?_
    refine va_get (D := D) (ci := 0) (v := .int (S.1 4 0)) (C := Rc_L) (T := Fc_L) (N := 8) hx hb hw inc_L hown hK hP 1 rfl rfl 6 (by decide) (hw _ wd_34) (fun _ h9 => h9) rfl d_L_changeCount_1 ?_
    refine lv_aload_n hx hb d_L_changeCount_4 rfl (lv_at hl 0 rfl) ?_
    refine va_get (D := D) (ci := 0) (v := .int (S.1 5 0)) (C := Rc_L) (T := Fc_L) (N := 8) hx hb hw inc_L hown hK hP 1 rfl rfl 7 (by decide) (hw _ wd_36) (fun _ h9 => h9) rfl d_L_changeCount_5 ?_
    refine lv_iadd hx hb d_L_changeCount_8 ?_
    refine lv_topi (fun a1 e_a1 => ?_)
    replace h := h a1 e_a1
    exact W.iret (v := a1) hx hb hr (fun t ht hW => ⟨⟨a1, S, rfl, h, by rw [ht]; exact hP, hD⟩, hS.F ht⟩) hS.2.2 d_L_changeCount_9
  exact hH9 _ rfl hP hS
theorem d_L_changeAt_0 : decode b_L_changeAt 0 = .ok (.iload_n 1, 1) := by decide +kernel
theorem d_L_changeAt_1 : decode b_L_changeAt 1 = .ok (.aload_n 0, 1) := by decide +kernel
theorem d_L_changeAt_2 : decode b_L_changeAt 2 = .ok (.getfield 31, 3) := by decide +kernel
theorem d_L_changeAt_5 : decode b_L_changeAt 5 = .ok (.if_icmp .ge 12, 3) := by decide +kernel
theorem d_L_changeAt_8 : decode b_L_changeAt 8 = .ok (.aload_n 0, 1) := by decide +kernel
theorem d_L_changeAt_9 : decode b_L_changeAt 9 = .ok (.getfield 9, 3) := by decide +kernel
theorem d_L_changeAt_12 : decode b_L_changeAt 12 = .ok (.iload_n 1, 1) := by decide +kernel
theorem d_L_changeAt_13 : decode b_L_changeAt 13 = .ok (.daload, 1) := by decide +kernel
theorem d_L_changeAt_14 : decode b_L_changeAt 14 = .ok (.goto 14, 3) := by decide +kernel
theorem d_L_changeAt_17 : decode b_L_changeAt 17 = .ok (.aload_n 0, 1) := by decide +kernel
theorem d_L_changeAt_18 : decode b_L_changeAt 18 = .ok (.getfield 22, 3) := by decide +kernel
theorem d_L_changeAt_21 : decode b_L_changeAt 21 = .ok (.iload_n 1, 1) := by decide +kernel
theorem d_L_changeAt_22 : decode b_L_changeAt 22 = .ok (.aload_n 0, 1) := by decide +kernel
theorem d_L_changeAt_23 : decode b_L_changeAt 23 = .ok (.getfield 31, 3) := by decide +kernel
theorem d_L_changeAt_26 : decode b_L_changeAt 26 = .ok (.isub, 1) := by decide +kernel
theorem d_L_changeAt_27 : decode b_L_changeAt 27 = .ok (.daload, 1) := by decide +kernel
theorem d_L_changeAt_28 : decode b_L_changeAt 28 = .ok (.dreturn, 1) := by decide +kernel
def w_L_changeAt (S : SC) (x1 : Int32) (Q : UInt64 → SC → Prop) : Prop := (((S.1 4 0) ≤ x1) → (∀ a1 : Int32, a1 = x1 - (S.1 4 0) → (vp_in a1 5 ∧ (Q (S.2 2 a1.toNatClampNeg) S)))) ∧ ((¬ (S.1 4 0) ≤ x1) → (vp_in x1 11 ∧ (Q (S.2 0 x1.toNatClampNeg) S)))
set_option maxRecDepth 100000 in
set_option maxHeartbeats 4000000 in
theorem c_L_changeAt (l : Launch) (D : va_G) (ca : Nat → ClassId) (ad : Nat → Nat) (sz : Nat) (S : SC) (x1 : Int32)  (Q : UInt64 → SC → Prop) (h : w_L_changeAt S x1 Q) : Met l y_L_changeAt (Cond.code y_L_changeAt b_L_changeAt 2 (some Jvm.ClassFile.FieldType.double) :: tG) ({ frames := 0, cells := 0, slots := 0, locals := 0 } : Room) (xPc D ca (wC ca ad) S sz [.ref (ad 1), .int x1]) (va_Qd Q (xAt D (wC ca ad) (va_A (wC ca ad S) sz)) (va_A (wC ca ad S) sz)) 0 0 (va_A (wC ca ad S) sz) := by
  refine xx_met (Qf := fun A => va_Qd Q (xAt D (wC ca ad) A) A) (by decide) (Nat.le_of_ble_eq_true rfl) ?_
  intro p e s m args below meth c A ls hx hb hr hw hown hlocks hml hK hN hA hP hD hS hl
  have hown : s.vm.findClass "TrainGuard$Line" = some m.cls := hown
  have hl : lv_has ls 2 [(0, .ref (ad 1)), (1, .int x1)] := hl
  unfold w_L_changeAt at h
  have hH9 : ∀ H : Heap, H = s.heap → va_P D cls (wC ca ad S) H → va_S A s.heap H [] → W p l e ({ frames := 0, cells := 0, slots := 0, locals := 0 } : Room) s m args below meth c H [] 0 0 (MQ below ((fun A => va_Qd Q (xAt D (wC ca ad) A) A) A) args s 0 0 A) (F0 m 0 ls []) := by
    clear hP hS
    intro H hH hP hS
    obtain ⟨locs, hlo⟩ : ∃ z : List Loc, z = [] := ⟨_, rfl⟩
    rw [← hlo] at hS ⊢
    refine lv_iload_n hx hb d_L_changeAt_0 rfl (lv_at hl 1 rfl) ?_
    refine lv_aload_n hx hb d_L_changeAt_1 rfl (lv_at hl 0 rfl) ?_
    refine va_get (D := D) (ci := 0) (v := .int (S.1 4 0)) (C := Rc_L) (T := Fc_L) (N := 8) hx hb hw inc_L hown hK hP 1 rfl rfl 6 (by decide) (hw _ wd_34) (fun _ h9 => h9) rfl d_L_changeAt_2 ?_
    refine lv_icmp_ge (tgt := 17) hx hb d_L_changeAt_5 (by decide) (fun hc => ?_) (fun hc => ?_)
    · replace h := h.1 hc
      refine lv_aload_n hx hb d_L_changeAt_17 rfl (lv_at hl 0 rfl) ?_
      refine va_get (D := D) (ci := 0) (v := .ref (ad 5)) (C := Rc_L) (T := Fc_L) (N := 8) hx hb hw inc_L hown hK hP 1 rfl rfl 3 (by decide) (hw _ wd_31) (fun _ h9 => h9) rfl d_L_changeAt_18 ?_
      refine lv_iload_n hx hb d_L_changeAt_21 rfl (lv_at hl 1 rfl) ?_
      refine lv_aload_n hx hb d_L_changeAt_22 rfl (lv_at hl 0 rfl) ?_
      refine va_get (D := D) (ci := 0) (v := .int (S.1 4 0)) (C := Rc_L) (T := Fc_L) (N := 8) hx hb hw inc_L hown hK hP 1 rfl rfl 6 (by decide) (hw _ wd_34) (fun _ h9 => h9) rfl d_L_changeAt_23 ?_
      refine lv_isub hx hb d_L_changeAt_26 ?_
      refine lv_topi (fun a1 e_a1 => ?_)
      replace h := h a1 e_a1
      obtain ⟨hq, h⟩ := h
      refine va_dald (D := D) hx hb hK hP 5 2 rfl rfl hq d_L_changeAt_27 ?_
      exact W.dret (v := (S.2 2 a1.toNatClampNeg)) hx hb hr (fun t ht hW => ⟨⟨S.2 2 a1.toNatClampNeg, S, rfl, h, by rw [ht]; exact hP, hD⟩, hS.F ht⟩) hS.2.2 d_L_changeAt_28
    · replace h := h.2 hc
      refine lv_aload_n hx hb d_L_changeAt_8 rfl (lv_at hl 0 rfl) ?_
      refine va_get (D := D) (ci := 0) (v := .ref (ad 2)) (C := Rc_L) (T := Fc_L) (N := 8) hx hb hw inc_L hown hK hP 1 rfl rfl 0 (by decide) (hw _ wd_27) (fun _ h9 => h9) rfl d_L_changeAt_9 ?_
      refine lv_iload_n hx hb d_L_changeAt_12 rfl (lv_at hl 1 rfl) ?_
      obtain ⟨hq, h⟩ := h
      refine va_dald (D := D) hx hb hK hP 2 2 rfl rfl hq d_L_changeAt_13 ?_
      refine lv_goto (tgt := 28) hx hb d_L_changeAt_14 (by decide) ?_
      exact W.dret (v := (S.2 0 x1.toNatClampNeg)) hx hb hr (fun t ht hW => ⟨⟨S.2 0 x1.toNatClampNeg, S, rfl, h, by rw [ht]; exact hP, hD⟩, hS.F ht⟩) hS.2.2 d_L_changeAt_28
  exact hH9 _ rfl hP hS
theorem d_L_hasBeginBetween_0 : decode b_L_hasBeginBetween 0 = .ok (.iconst 0, 1) := by decide +kernel
theorem d_L_hasBeginBetween_1 : decode b_L_hasBeginBetween 1 = .ok (.istore 5, 2) := by decide +kernel
theorem d_L_hasBeginBetween_3 : decode b_L_hasBeginBetween 3 = .ok (.iload 5, 2) := by decide +kernel
theorem d_L_hasBeginBetween_5 : decode b_L_hasBeginBetween 5 = .ok (.aload_n 0, 1) := by decide +kernel
theorem d_L_hasBeginBetween_6 : decode b_L_hasBeginBetween 6 = .ok (.getfield 31, 3) := by decide +kernel
theorem d_L_hasBeginBetween_9 : decode b_L_hasBeginBetween 9 = .ok (.if_icmp .ge 35, 3) := by decide +kernel
theorem d_L_hasBeginBetween_12 : decode b_L_hasBeginBetween 12 = .ok (.aload_n 0, 1) := by decide +kernel
theorem d_L_hasBeginBetween_13 : decode b_L_hasBeginBetween 13 = .ok (.getfield 9, 3) := by decide +kernel
theorem d_L_hasBeginBetween_16 : decode b_L_hasBeginBetween 16 = .ok (.iload 5, 2) := by decide +kernel
theorem d_L_hasBeginBetween_18 : decode b_L_hasBeginBetween 18 = .ok (.daload, 1) := by decide +kernel
theorem d_L_hasBeginBetween_19 : decode b_L_hasBeginBetween 19 = .ok (.dload_n 1, 1) := by decide +kernel
theorem d_L_hasBeginBetween_20 : decode b_L_hasBeginBetween 20 = .ok (.dcmp .l, 1) := by decide +kernel
theorem d_L_hasBeginBetween_21 : decode b_L_hasBeginBetween 21 = .ok (.ifCond .le 17, 3) := by decide +kernel
theorem d_L_hasBeginBetween_24 : decode b_L_hasBeginBetween 24 = .ok (.aload_n 0, 1) := by decide +kernel
theorem d_L_hasBeginBetween_25 : decode b_L_hasBeginBetween 25 = .ok (.getfield 9, 3) := by decide +kernel
theorem d_L_hasBeginBetween_28 : decode b_L_hasBeginBetween 28 = .ok (.iload 5, 2) := by decide +kernel
theorem d_L_hasBeginBetween_30 : decode b_L_hasBeginBetween 30 = .ok (.daload, 1) := by decide +kernel
theorem d_L_hasBeginBetween_31 : decode b_L_hasBeginBetween 31 = .ok (.dload_n 3, 1) := by decide +kernel
theorem d_L_hasBeginBetween_32 : decode b_L_hasBeginBetween 32 = .ok (.dcmp .g, 1) := by decide +kernel
theorem d_L_hasBeginBetween_33 : decode b_L_hasBeginBetween 33 = .ok (.ifCond .gt 5, 3) := by decide +kernel
theorem d_L_hasBeginBetween_36 : decode b_L_hasBeginBetween 36 = .ok (.iconst 1, 1) := by decide +kernel
theorem d_L_hasBeginBetween_37 : decode b_L_hasBeginBetween 37 = .ok (.ireturn, 1) := by decide +kernel
theorem d_L_hasBeginBetween_38 : decode b_L_hasBeginBetween 38 = .ok (.iinc 5 1, 3) := by decide +kernel
theorem d_L_hasBeginBetween_41 : decode b_L_hasBeginBetween 41 = .ok (.goto (-38), 3) := by decide +kernel
theorem d_L_hasBeginBetween_44 : decode b_L_hasBeginBetween 44 = .ok (.iconst 0, 1) := by decide +kernel
theorem d_L_hasBeginBetween_45 : decode b_L_hasBeginBetween 45 = .ok (.ireturn, 1) := by decide +kernel
def w_L_hasBeginBetween_38 (K3 : SC → UInt64 → UInt64 → Int32 → Prop) (S : SC) (y1 : UInt64) (y3 : UInt64) (y5 : Int32) (Q : Int32 → SC → Prop) : Prop := K3 S y1 y3 (y5 + 1)
def w_L_hasBeginBetween_3 : Nat → SC → UInt64 → UInt64 → Int32 → (Int32 → SC → Prop) → Prop
  | 0 => fun _ _ _ _ _ => False
  | n + 1 => fun S y1 y3 y5 Q => ((((S.1 4 0) ≤ y5) → (Q 0 S)) ∧ ((¬ (S.1 4 0) ≤ y5) → (vp_in y5 11 ∧ ((((Op.cmpValue (FP.dcmp (S.2 0 y5.toNatClampNeg) y1) .l) ≤ 0) → (w_L_hasBeginBetween_38 (fun S9 z0 z1 z2 => w_L_hasBeginBetween_3 n S9 z0 z1 z2 Q) S y1 y3 y5 Q)) ∧ ((¬ (Op.cmpValue (FP.dcmp (S.2 0 y5.toNatClampNeg) y1) .l) ≤ 0) → (vp_in y5 11 ∧ (((0 < (Op.cmpValue (FP.dcmp (S.2 0 y5.toNatClampNeg) y3) .g)) → (w_L_hasBeginBetween_38 (fun S9 z0 z1 z2 => w_L_hasBeginBetween_3 n S9 z0 z1 z2 Q) S y1 y3 y5 Q)) ∧ ((¬ 0 < (Op.cmpValue (FP.dcmp (S.2 0 y5.toNatClampNeg) y3) .g)) → (Q 1 S)))))))))
def w_L_hasBeginBetween (S : SC) (x1 : UInt64) (x2 : UInt64) (Q : Int32 → SC → Prop) : Prop := ∃ n : Nat, w_L_hasBeginBetween_3 n S x1 x2 0 Q
set_option maxRecDepth 100000 in
set_option maxHeartbeats 4000000 in
theorem c_L_hasBeginBetween (l : Launch) (D : va_G) (ca : Nat → ClassId) (ad : Nat → Nat) (sz : Nat) (S : SC) (x1 : UInt64) (x2 : UInt64)  (Q : Int32 → SC → Prop) (h : w_L_hasBeginBetween S x1 x2 Q) : Met l y_L_hasBeginBetween (Cond.code y_L_hasBeginBetween b_L_hasBeginBetween 6 (some Jvm.ClassFile.FieldType.boolean) :: tG) ({ frames := 0, cells := 0, slots := 0, locals := 0 } : Room) (xPc D ca (wC ca ad) S sz [.ref (ad 1), .double x1, .double x2]) (va_Qi Q (xAt D (wC ca ad) (va_A (wC ca ad S) sz)) (va_A (wC ca ad S) sz)) 0 0 (va_A (wC ca ad S) sz) := by
  refine xx_met (Qf := fun A => va_Qi Q (xAt D (wC ca ad) A) A) (by decide) (Nat.le_of_ble_eq_true rfl) ?_
  intro p e s m args below meth c A ls hx hb hr hw hown hlocks hml hK hN hA hP hD hS hl
  have hown : s.vm.findClass "TrainGuard$Line" = some m.cls := hown
  have hl : lv_has ls 6 [(0, .ref (ad 1)), (1, .double x1), (3, .double x2)] := hl
  unfold w_L_hasBeginBetween at h
  have bk_38 : ∀ (K3 : SC → UInt64 → UInt64 → Int32 → Prop) (hK3 : ∀ (S : SC) (y1 : UInt64) (y3 : UInt64) (y5 : Int32) (H : Heap) (locs : List Loc) , va_P D cls (wC ca ad S) H → va_D A (wC ca ad S) → va_S A s.heap H locs → ∀ (ls : Array Slot), lv_has ls 6 [(0, .ref (ad 1)), (1, .double y1), (3, .double y3), (5, .int y5)] → K3 S y1 y3 y5 → W p l e ({ frames := 0, cells := 0, slots := 0, locals := 0 } : Room) s m args below meth c H locs 0 0 (MQ below ((fun A => va_Qi Q (xAt D (wC ca ad) A) A) A) args s 0 0 A) (F0 m 3 ls [])) (S : SC) (y1 : UInt64) (y3 : UInt64) (y5 : Int32) (H : Heap) (locs : List Loc) , va_P D cls (wC ca ad S) H → va_D A (wC ca ad S) → va_S A s.heap H locs → ∀ (ls : Array Slot), lv_has ls 6 [(0, .ref (ad 1)), (1, .double y1), (3, .double y3), (5, .int y5)] → w_L_hasBeginBetween_38 K3 S y1 y3 y5 Q → W p l e ({ frames := 0, cells := 0, slots := 0, locals := 0 } : Room) s m args below meth c H locs 0 0 (MQ below ((fun A => va_Qi Q (xAt D (wC ca ad) A) A) A) args s 0 0 A) (F0 m 38 ls []) := by
    intro K3 hK3 S y1 y3 y5 H locs hP hD hS ls hl h
    unfold w_L_hasBeginBetween_38 at h
    refine lv_iinc (v := (y5 + 1)) (lv' := [(5, .int (y5 + 1)), (0, .ref (ad 1)), (1, .double y1), (3, .double y3)]) hx hb d_L_hasBeginBetween_38 hl (k := 3) rfl rfl (by decide) rfl (fun ls hl => ?_)
    refine lv_goto (tgt := 3) hx hb d_L_hasBeginBetween_41 (by decide) ?_
    exact hK3 S y1 y3 (y5 + 1) H locs hP hD hS ls (lv_sub hl [1, 2, 3, 0] rfl) h
  have bk_3 : ∀ (n9 : Nat) (S : SC) (y1 : UInt64) (y3 : UInt64) (y5 : Int32) (H : Heap) (locs : List Loc) , va_P D cls (wC ca ad S) H → va_D A (wC ca ad S) → va_S A s.heap H locs → ∀ (ls : Array Slot), lv_has ls 6 [(0, .ref (ad 1)), (1, .double y1), (3, .double y3), (5, .int y5)] → w_L_hasBeginBetween_3 n9 S y1 y3 y5 Q → W p l e ({ frames := 0, cells := 0, slots := 0, locals := 0 } : Room) s m args below meth c H locs 0 0 (MQ below ((fun A => va_Qi Q (xAt D (wC ca ad) A) A) A) args s 0 0 A) (F0 m 3 ls []) := by
    intro n9
    induction n9 with
    | zero => intro S y1 y3 y5 H locs hP hD hS ls hl h; exact absurd h id
    | succ n9 hK3 =>
      intro S y1 y3 y5 H locs hP hD hS ls hl h
      replace h : (((S.1 4 0) ≤ y5) → (Q 0 S)) ∧ ((¬ (S.1 4 0) ≤ y5) → (vp_in y5 11 ∧ ((((Op.cmpValue (FP.dcmp (S.2 0 y5.toNatClampNeg) y1) .l) ≤ 0) → (w_L_hasBeginBetween_38 (fun S9 z0 z1 z2 => w_L_hasBeginBetween_3 n9 S9 z0 z1 z2 Q) S y1 y3 y5 Q)) ∧ ((¬ (Op.cmpValue (FP.dcmp (S.2 0 y5.toNatClampNeg) y1) .l) ≤ 0) → (vp_in y5 11 ∧ (((0 < (Op.cmpValue (FP.dcmp (S.2 0 y5.toNatClampNeg) y3) .g)) → (w_L_hasBeginBetween_38 (fun S9 z0 z1 z2 => w_L_hasBeginBetween_3 n9 S9 z0 z1 z2 Q) S y1 y3 y5 Q)) ∧ ((¬ 0 < (Op.cmpValue (FP.dcmp (S.2 0 y5.toNatClampNeg) y3) .g)) → (Q 1 S)))))))) := h
      refine lv_iload hx hb d_L_hasBeginBetween_3 (lv_at hl 3 rfl) ?_
      refine lv_aload_n hx hb d_L_hasBeginBetween_5 rfl (lv_at hl 0 rfl) ?_
      refine va_get (D := D) (ci := 0) (v := .int (S.1 4 0)) (C := Rc_L) (T := Fc_L) (N := 8) hx hb hw inc_L hown hK hP 1 rfl rfl 6 (by decide) (hw _ wd_34) (fun _ h9 => h9) rfl d_L_hasBeginBetween_6 ?_
      refine lv_icmp_ge (tgt := 44) hx hb d_L_hasBeginBetween_9 (by decide) (fun hc => ?_) (fun hc => ?_)
      · replace h := h.1 hc
        refine lv_iconst (v := 0) hx hb d_L_hasBeginBetween_44 (by decide) ?_
        exact W.zret (v := 0) hx hb hr rfl (fun t ht hW => ⟨⟨0, S, rfl, h, by rw [ht]; exact hP, hD⟩, hS.F ht⟩) hS.2.2 d_L_hasBeginBetween_45
      · replace h := h.2 hc
        refine lv_aload_n hx hb d_L_hasBeginBetween_12 rfl (lv_at hl 0 rfl) ?_
        refine va_get (D := D) (ci := 0) (v := .ref (ad 2)) (C := Rc_L) (T := Fc_L) (N := 8) hx hb hw inc_L hown hK hP 1 rfl rfl 0 (by decide) (hw _ wd_27) (fun _ h9 => h9) rfl d_L_hasBeginBetween_13 ?_
        refine lv_iload hx hb d_L_hasBeginBetween_16 (lv_at hl 3 rfl) ?_
        obtain ⟨hq, h⟩ := h
        refine va_dald (D := D) hx hb hK hP 2 2 rfl rfl hq d_L_hasBeginBetween_18 ?_
        refine lv_dload_n hx hb d_L_hasBeginBetween_19 rfl (lv_at hl 1 rfl) ?_
        refine lv_dcmp hx hb d_L_hasBeginBetween_20 ?_
        refine lv_if_le (tgt := 38) hx hb d_L_hasBeginBetween_21 (by decide) (fun hc => ?_) (fun hc => ?_)
        · replace h := h.1 hc
          exact bk_38 (fun S9 z0 z1 z2 => w_L_hasBeginBetween_3 n9 S9 z0 z1 z2 Q) hK3 S y1 y3 y5 H locs hP hD hS ls (lv_sub hl [0, 1, 2, 3] rfl) h
        · replace h := h.2 hc
          refine lv_aload_n hx hb d_L_hasBeginBetween_24 rfl (lv_at hl 0 rfl) ?_
          refine va_get (D := D) (ci := 0) (v := .ref (ad 2)) (C := Rc_L) (T := Fc_L) (N := 8) hx hb hw inc_L hown hK hP 1 rfl rfl 0 (by decide) (hw _ wd_27) (fun _ h9 => h9) rfl d_L_hasBeginBetween_25 ?_
          refine lv_iload hx hb d_L_hasBeginBetween_28 (lv_at hl 3 rfl) ?_
          obtain ⟨hq, h⟩ := h
          refine va_dald (D := D) hx hb hK hP 2 2 rfl rfl hq d_L_hasBeginBetween_30 ?_
          refine lv_dload_n hx hb d_L_hasBeginBetween_31 rfl (lv_at hl 2 rfl) ?_
          refine lv_dcmp hx hb d_L_hasBeginBetween_32 ?_
          refine lv_if_gt (tgt := 38) hx hb d_L_hasBeginBetween_33 (by decide) (fun hc => ?_) (fun hc => ?_)
          · replace h := h.1 hc
            exact bk_38 (fun S9 z0 z1 z2 => w_L_hasBeginBetween_3 n9 S9 z0 z1 z2 Q) hK3 S y1 y3 y5 H locs hP hD hS ls (lv_sub hl [0, 1, 2, 3] rfl) h
          · replace h := h.2 hc
            refine lv_iconst (v := 1) hx hb d_L_hasBeginBetween_36 (by decide) ?_
            exact W.zret (v := 1) hx hb hr rfl (fun t ht hW => ⟨⟨1, S, rfl, h, by rw [ht]; exact hP, hD⟩, hS.F ht⟩) hS.2.2 d_L_hasBeginBetween_37
  have hH9 : ∀ H : Heap, H = s.heap → va_P D cls (wC ca ad S) H → va_S A s.heap H [] → W p l e ({ frames := 0, cells := 0, slots := 0, locals := 0 } : Room) s m args below meth c H [] 0 0 (MQ below ((fun A => va_Qi Q (xAt D (wC ca ad) A) A) A) args s 0 0 A) (F0 m 0 ls []) := by
    clear hP hS
    intro H hH hP hS
    obtain ⟨locs, hlo⟩ : ∃ z : List Loc, z = [] := ⟨_, rfl⟩
    rw [← hlo] at hS ⊢
    refine lv_iconst (v := 0) hx hb d_L_hasBeginBetween_0 (by decide) ?_
    refine lv_istore (lv' := [(5, .int 0), (0, .ref (ad 1)), (1, .double x1), (3, .double x2)]) hx hb d_L_hasBeginBetween_1 hl (by decide) rfl (fun ls hl => ?_)
    obtain ⟨n9, h⟩ := h
    exact bk_3 n9 S x1 x2 0 H locs hP hD hS ls (lv_sub hl [1, 2, 3, 0] rfl) h
  exact hH9 _ rfl hP hS
theorem d_L_freeBelow_0 : decode b_L_freeBelow 0 = .ok (.iconst 0, 1) := by decide +kernel
theorem d_L_freeBelow_1 : decode b_L_freeBelow 1 = .ok (.istore 4, 2) := by decide +kernel
theorem d_L_freeBelow_3 : decode b_L_freeBelow 3 = .ok (.iload 4, 2) := by decide +kernel
theorem d_L_freeBelow_5 : decode b_L_freeBelow 5 = .ok (.aload_n 0, 1) := by decide +kernel
theorem d_L_freeBelow_6 : decode b_L_freeBelow 6 = .ok (.getfield 31, 3) := by decide +kernel
theorem d_L_freeBelow_9 : decode b_L_freeBelow 9 = .ok (.if_icmp .ge 39, 3) := by decide +kernel
theorem d_L_freeBelow_12 : decode b_L_freeBelow 12 = .ok (.aload_n 0, 1) := by decide +kernel
theorem d_L_freeBelow_13 : decode b_L_freeBelow 13 = .ok (.getfield 18, 3) := by decide +kernel
theorem d_L_freeBelow_16 : decode b_L_freeBelow 16 = .ok (.iload 4, 2) := by decide +kernel
theorem d_L_freeBelow_18 : decode b_L_freeBelow 18 = .ok (.iaload, 1) := by decide +kernel
theorem d_L_freeBelow_19 : decode b_L_freeBelow 19 = .ok (.iload_n 3, 1) := by decide +kernel
theorem d_L_freeBelow_20 : decode b_L_freeBelow 20 = .ok (.if_icmp .ne 22, 3) := by decide +kernel
theorem d_L_freeBelow_23 : decode b_L_freeBelow 23 = .ok (.aload_n 0, 1) := by decide +kernel
theorem d_L_freeBelow_24 : decode b_L_freeBelow 24 = .ok (.iload 4, 2) := by decide +kernel
theorem d_L_freeBelow_26 : decode b_L_freeBelow 26 = .ok (.invokevirtual 38, 3) := by decide +kernel
theorem d_L_freeBelow_29 : decode b_L_freeBelow 29 = .ok (.dload_n 1, 1) := by decide +kernel
theorem d_L_freeBelow_30 : decode b_L_freeBelow 30 = .ok (.dcmp .g, 1) := by decide +kernel
theorem d_L_freeBelow_31 : decode b_L_freeBelow 31 = .ok (.ifCond .gt 11, 3) := by decide +kernel
theorem d_L_freeBelow_34 : decode b_L_freeBelow 34 = .ok (.aload_n 0, 1) := by decide +kernel
theorem d_L_freeBelow_35 : decode b_L_freeBelow 35 = .ok (.getfield 18, 3) := by decide +kernel
theorem d_L_freeBelow_38 : decode b_L_freeBelow 38 = .ok (.iload 4, 2) := by decide +kernel
theorem d_L_freeBelow_40 : decode b_L_freeBelow 40 = .ok (.iconst (-1), 1) := by decide +kernel
theorem d_L_freeBelow_41 : decode b_L_freeBelow 41 = .ok (.iastore, 1) := by decide +kernel
theorem d_L_freeBelow_42 : decode b_L_freeBelow 42 = .ok (.iinc 4 1, 3) := by decide +kernel
theorem d_L_freeBelow_45 : decode b_L_freeBelow 45 = .ok (.goto (-42), 3) := by decide +kernel
theorem d_L_freeBelow_48 : decode b_L_freeBelow 48 = .ok (.return_, 1) := by decide +kernel
def w_L_freeBelow_42 (K3 : SC → UInt64 → Int32 → Int32 → Prop) (S : SC) (y1 : UInt64) (y3 : Int32) (y4 : Int32) (Q : SC → Prop) : Prop := K3 S y1 y3 (y4 + 1)
def w_L_freeBelow_3 : Nat → SC → UInt64 → Int32 → Int32 → (SC → Prop) → Prop
  | 0 => fun _ _ _ _ _ => False
  | n + 1 => fun S y1 y3 y4 Q => ((((S.1 4 0) ≤ y4) → (Q S)) ∧ ((¬ (S.1 4 0) ≤ y4) → (vp_in y4 10 ∧ (((¬ (S.1 6 y4.toNatClampNeg) = y3) → (w_L_freeBelow_42 (fun S9 z0 z1 z2 => w_L_freeBelow_3 n S9 z0 z1 z2 Q) S y1 y3 y4 Q)) ∧ (((S.1 6 y4.toNatClampNeg) = y3) → (w_L_endOf S y4 (fun r1 S2 => ((0 < (Op.cmpValue (FP.dcmp r1 y1) .g)) → (w_L_freeBelow_42 (fun S9 z0 z1 z2 => w_L_freeBelow_3 n S9 z0 z1 z2 Q) S2 y1 y3 y4 Q)) ∧ ((¬ 0 < (Op.cmpValue (FP.dcmp r1 y1) .g)) → (vp_in y4 10 ∧ (w_L_freeBelow_42 (fun S9 z0 z1 z2 => w_L_freeBelow_3 n S9 z0 z1 z2 Q) (pI S2 6 y4.toNatClampNeg (-1)) y1 y3 y4 Q))))))))))
def w_L_freeBelow (S : SC) (x1 : UInt64) (x2 : Int32) (Q : SC → Prop) : Prop := ∃ n : Nat, w_L_freeBelow_3 n S x1 x2 0 Q
set_option maxRecDepth 100000 in
set_option maxHeartbeats 4000000 in
theorem c_L_freeBelow (l : Launch) (D : va_G) (ca : Nat → ClassId) (ad : Nat → Nat) (sz : Nat) (S : SC) (x1 : UInt64) (x2 : Int32)  (Q : SC → Prop) (h : w_L_freeBelow S x1 x2 Q) : Met l y_L_freeBelow (Cond.code y_L_freeBelow b_L_freeBelow 5 none :: tG) ({ frames := 1, cells := 0, slots := 0, locals := 21 } : Room) (xPc D ca (wC ca ad) S sz [.ref (ad 1), .double x1, .int x2]) (va_Qv Q (xAt D (wC ca ad) (va_A (wC ca ad S) sz)) (va_A (wC ca ad S) sz)) 0 0 (va_A (wC ca ad S) sz) := by
  refine xx_met (Qf := fun A => va_Qv Q (xAt D (wC ca ad) A) A) (by decide) (Nat.le_of_ble_eq_true rfl) ?_
  intro p e s m args below meth c A ls hx hb hr hw hown hlocks hml hK hN hA hP hD hS hl
  have hown : s.vm.findClass "TrainGuard$Line" = some m.cls := hown
  have hl : lv_has ls 5 [(0, .ref (ad 1)), (1, .double x1), (3, .int x2)] := hl
  unfold w_L_freeBelow at h
  have bk_42 : ∀ (K3 : SC → UInt64 → Int32 → Int32 → Prop) (hK3 : ∀ (S : SC) (y1 : UInt64) (y3 : Int32) (y4 : Int32) (H : Heap) (locs : List Loc) , va_P D cls (wC ca ad S) H → va_D A (wC ca ad S) → va_S A s.heap H locs → ∀ (ls : Array Slot), lv_has ls 5 [(0, .ref (ad 1)), (1, .double y1), (3, .int y3), (4, .int y4)] → K3 S y1 y3 y4 → W p l e ({ frames := 1, cells := 0, slots := 0, locals := 21 } : Room) s m args below meth c H locs 0 0 (MQ below ((fun A => va_Qv Q (xAt D (wC ca ad) A) A) A) args s 0 0 A) (F0 m 3 ls [])) (S : SC) (y1 : UInt64) (y3 : Int32) (y4 : Int32) (H : Heap) (locs : List Loc) , va_P D cls (wC ca ad S) H → va_D A (wC ca ad S) → va_S A s.heap H locs → ∀ (ls : Array Slot), lv_has ls 5 [(0, .ref (ad 1)), (1, .double y1), (3, .int y3), (4, .int y4)] → w_L_freeBelow_42 K3 S y1 y3 y4 Q → W p l e ({ frames := 1, cells := 0, slots := 0, locals := 21 } : Room) s m args below meth c H locs 0 0 (MQ below ((fun A => va_Qv Q (xAt D (wC ca ad) A) A) A) args s 0 0 A) (F0 m 42 ls []) := by
    intro K3 hK3 S y1 y3 y4 H locs hP hD hS ls hl h
    unfold w_L_freeBelow_42 at h
    refine lv_iinc (v := (y4 + 1)) (lv' := [(4, .int (y4 + 1)), (0, .ref (ad 1)), (1, .double y1), (3, .int y3)]) hx hb d_L_freeBelow_42 hl (k := 3) rfl rfl (by decide) rfl (fun ls hl => ?_)
    refine lv_goto (tgt := 3) hx hb d_L_freeBelow_45 (by decide) ?_
    exact hK3 S y1 y3 (y4 + 1) H locs hP hD hS ls (lv_sub hl [1, 2, 3, 0] rfl) h
  have bk_3 : ∀ (n9 : Nat) (S : SC) (y1 : UInt64) (y3 : Int32) (y4 : Int32) (H : Heap) (locs : List Loc) , va_P D cls (wC ca ad S) H → va_D A (wC ca ad S) → va_S A s.heap H locs → ∀ (ls : Array Slot), lv_has ls 5 [(0, .ref (ad 1)), (1, .double y1), (3, .int y3), (4, .int y4)] → w_L_freeBelow_3 n9 S y1 y3 y4 Q → W p l e ({ frames := 1, cells := 0, slots := 0, locals := 21 } : Room) s m args below meth c H locs 0 0 (MQ below ((fun A => va_Qv Q (xAt D (wC ca ad) A) A) A) args s 0 0 A) (F0 m 3 ls []) := by
    intro n9
    induction n9 with
    | zero => intro S y1 y3 y4 H locs hP hD hS ls hl h; exact absurd h id
    | succ n9 hK3 =>
      intro S y1 y3 y4 H locs hP hD hS ls hl h
      replace h : (((S.1 4 0) ≤ y4) → (Q S)) ∧ ((¬ (S.1 4 0) ≤ y4) → (vp_in y4 10 ∧ (((¬ (S.1 6 y4.toNatClampNeg) = y3) → (w_L_freeBelow_42 (fun S9 z0 z1 z2 => w_L_freeBelow_3 n9 S9 z0 z1 z2 Q) S y1 y3 y4 Q)) ∧ (((S.1 6 y4.toNatClampNeg) = y3) → (w_L_endOf S y4 (fun r1 S2 => ((0 < (Op.cmpValue (FP.dcmp r1 y1) .g)) → (w_L_freeBelow_42 (fun S9 z0 z1 z2 => w_L_freeBelow_3 n9 S9 z0 z1 z2 Q) S2 y1 y3 y4 Q)) ∧ ((¬ 0 < (Op.cmpValue (FP.dcmp r1 y1) .g)) → (vp_in y4 10 ∧ (w_L_freeBelow_42 (fun S9 z0 z1 z2 => w_L_freeBelow_3 n9 S9 z0 z1 z2 Q) (pI S2 6 y4.toNatClampNeg (-1)) y1 y3 y4 Q))))))))) := h
      refine lv_iload hx hb d_L_freeBelow_3 (lv_at hl 3 rfl) ?_
      refine lv_aload_n hx hb d_L_freeBelow_5 rfl (lv_at hl 0 rfl) ?_
      refine va_get (D := D) (ci := 0) (v := .int (S.1 4 0)) (C := Rc_L) (T := Fc_L) (N := 8) hx hb hw inc_L hown hK hP 1 rfl rfl 6 (by decide) (hw _ wd_34) (fun _ h9 => h9) rfl d_L_freeBelow_6 ?_
      refine lv_icmp_ge (tgt := 48) hx hb d_L_freeBelow_9 (by decide) (fun hc => ?_) (fun hc => ?_)
      · replace h := h.1 hc
        exact W.vret hx hb hr (fun t ht hW => ⟨⟨S, rfl, h, by rw [ht]; exact hP, hD⟩, hS.F ht⟩) hS.2.2 d_L_freeBelow_48
      · replace h := h.2 hc
        refine lv_aload_n hx hb d_L_freeBelow_12 rfl (lv_at hl 0 rfl) ?_
        refine va_get (D := D) (ci := 0) (v := .ref (ad 4)) (C := Rc_L) (T := Fc_L) (N := 8) hx hb hw inc_L hown hK hP 1 rfl rfl 2 (by decide) (hw _ wd_29) (fun _ h9 => h9) rfl d_L_freeBelow_13 ?_
        refine lv_iload hx hb d_L_freeBelow_16 (lv_at hl 3 rfl) ?_
        obtain ⟨hq, h⟩ := h
        refine va_iald (D := D) hx hb hK hP 4 0 rfl rfl hq d_L_freeBelow_18 ?_
        refine lv_iload_n hx hb d_L_freeBelow_19 rfl (lv_at hl 2 rfl) ?_
        refine lv_icmp_ne (tgt := 42) hx hb d_L_freeBelow_20 (by decide) (fun hc => ?_) (fun hc => ?_)
        · replace h := h.1 hc
          exact bk_42 (fun S9 z0 z1 z2 => w_L_freeBelow_3 n9 S9 z0 z1 z2 Q) hK3 S y1 y3 y4 H locs hP hD hS ls (lv_sub hl [0, 1, 2, 3] rfl) h
        · replace h := h.2 hc
          refine lv_aload_n hx hb d_L_freeBelow_23 rfl (lv_at hl 0 rfl) ?_
          refine lv_iload hx hb d_L_freeBelow_24 (lv_at hl 3 rfl) ?_
          refine xx_calld (va_runV (As := [.int y4]) (rest := []) ⟨hx, hb, hml, hown, hw⟩ (c_L_endOf l D ca ad H.size S y4 _ h) (cwV 1 hw (tG_g gl_L_38) rfl rfl rfl (by decide +kernel) ⟨Nat.le_of_ble_eq_true rfl, Nat.le_of_ble_eq_true rfl⟩) ⟨xPc.blind, va_recv hK hP rfl (q0 := 1) rfl, xPc.pre hK hN hP hD⟩ rfl rfl hl.1 rfl (lv_room (Nat.le_of_ble_eq_true rfl)) d_L_freeBelow_26 ⟨Nat.le_of_ble_eq_true rfl, Nat.le_of_ble_eq_true rfl⟩) hD hS hA (fun r1 S2 H locs h hP hD hS => ?_)
          refine lv_dload_n hx hb d_L_freeBelow_29 rfl (lv_at hl 1 rfl) ?_
          refine lv_dcmp hx hb d_L_freeBelow_30 ?_
          refine lv_if_gt (tgt := 42) hx hb d_L_freeBelow_31 (by decide) (fun hc => ?_) (fun hc => ?_)
          · replace h := h.1 hc
            exact bk_42 (fun S9 z0 z1 z2 => w_L_freeBelow_3 n9 S9 z0 z1 z2 Q) hK3 S2 y1 y3 y4 H locs hP hD hS ls (lv_sub hl [0, 1, 2, 3] rfl) h
          · replace h := h.2 hc
            refine lv_aload_n hx hb d_L_freeBelow_34 rfl (lv_at hl 0 rfl) ?_
            refine va_get (D := D) (ci := 0) (v := .ref (ad 4)) (C := Rc_L) (T := Fc_L) (N := 8) hx hb hw inc_L hown hK hP 1 rfl rfl 2 (by decide) (hw _ wd_29) (fun _ h9 => h9) rfl d_L_freeBelow_35 ?_
            refine lv_iload hx hb d_L_freeBelow_38 (lv_at hl 3 rfl) ?_
            refine lv_iconst (v := (-1)) hx hb d_L_freeBelow_40 (by decide) ?_
            obtain ⟨hq, h⟩ := h
            refine va_iast (D := D) hx hb hK hP hD hS 4 0 rfl rfl hq d_L_freeBelow_41 (fun H locs hP hD hS => ?_)
            rw [pt_A_holders] at hP hD
            exact bk_42 (fun S9 z0 z1 z2 => w_L_freeBelow_3 n9 S9 z0 z1 z2 Q) hK3 (pI S2 6 y4.toNatClampNeg (-1)) y1 y3 y4 H locs hP hD hS ls (lv_sub hl [0, 1, 2, 3] rfl) h
  have hH9 : ∀ H : Heap, H = s.heap → va_P D cls (wC ca ad S) H → va_S A s.heap H [] → W p l e ({ frames := 1, cells := 0, slots := 0, locals := 21 } : Room) s m args below meth c H [] 0 0 (MQ below ((fun A => va_Qv Q (xAt D (wC ca ad) A) A) A) args s 0 0 A) (F0 m 0 ls []) := by
    clear hP hS
    intro H hH hP hS
    obtain ⟨locs, hlo⟩ : ∃ z : List Loc, z = [] := ⟨_, rfl⟩
    rw [← hlo] at hS ⊢
    refine lv_iconst (v := 0) hx hb d_L_freeBelow_0 (by decide) ?_
    refine lv_istore (lv' := [(4, .int 0), (0, .ref (ad 1)), (1, .double x1), (3, .int x2)]) hx hb d_L_freeBelow_1 hl (by decide) rfl (fun ls hl => ?_)
    obtain ⟨n9, h⟩ := h
    exact bk_3 n9 S x1 x2 0 H locs hP hD hS ls (lv_sub hl [1, 2, 3, 0] rfl) h
  exact hH9 _ rfl hP hS
