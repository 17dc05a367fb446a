theorem d_M_dueMark_0 : decode b_M_dueMark 0 = .ok (.bipush 31, 2) := by decide +kernel
theorem d_M_dueMark_2 : decode b_M_dueMark 2 = .ok (.aload_n 0, 1) := by decide +kernel
theorem d_M_dueMark_3 : decode b_M_dueMark 3 = .ok (.getfield 18, 3) := by decide +kernel
theorem d_M_dueMark_6 : decode b_M_dueMark 6 = .ok (.imul, 1) := by decide +kernel
theorem d_M_dueMark_7 : decode b_M_dueMark 7 = .ok (.aload_n 0, 1) := by decide +kernel
theorem d_M_dueMark_8 : decode b_M_dueMark 8 = .ok (.getfield 22, 3) := by decide +kernel
theorem d_M_dueMark_11 : decode b_M_dueMark 11 = .ok (.ldc2_w 33, 3) := by decide +kernel
theorem d_M_dueMark_14 : decode b_M_dueMark 14 = .ok (.dmul, 1) := by decide +kernel
theorem d_M_dueMark_15 : decode b_M_dueMark 15 = .ok (.d2i, 1) := by decide +kernel
theorem d_M_dueMark_16 : decode b_M_dueMark 16 = .ok (.iadd, 1) := by decide +kernel
theorem d_M_dueMark_17 : decode b_M_dueMark 17 = .ok (.sipush 1023, 3) := by decide +kernel
theorem d_M_dueMark_20 : decode b_M_dueMark 20 = .ok (.iand, 1) := by decide +kernel
theorem d_M_dueMark_21 : decode b_M_dueMark 21 = .ok (.ireturn, 1) := by decide +kernel
def w_M_dueMark (S : SC) (i : Nat) (Q : Int32 → SC → Prop) : Prop := ∀ a1 : Int32, a1 = 31 * (S.1 12 i) → (vf_n64 (FP.dmul (S.2 12 i) (4620693217682128896 : UInt64)) ∧ (∀ f2 : UInt64, f2 = FP.dmul (S.2 12 i) (4620693217682128896 : UInt64) → (∀ a3 : Int32, a3 = FP.d2i f2 → (∀ a4 : Int32, a4 = a1 + a3 → (∀ a5 : Int32, a5 = a4 &&& 1023 → (Q a5 S))))))
set_option maxRecDepth 100000 in
set_option maxHeartbeats 4000000 in
theorem c_M_dueMark (l : Launch) (D : va_G) (ca : Nat → ClassId) (ad : Nat → Nat) (sz : Nat) (S : SC) (i : Nat) (hi : i < 3) (Q : Int32 → SC → Prop) (h : w_M_dueMark S i Q) : Met l y_M_dueMark (Cond.code y_M_dueMark b_M_dueMark 1 (some Jvm.ClassFile.FieldType.int) :: tG) ({ frames := 0, cells := 0, slots := 0, locals := 0 } : Room) (xPc D ca (wC ca ad) S sz [.ref (ad (12 + i))]) (va_Qi Q (xAt D (wC ca ad) (va_A (wC ca ad S) sz)) (va_A (wC ca ad S) sz)) 0 0 (va_A (wC ca ad S) sz) := by
  refine xx_met (Qf := fun A => va_Qi Q (xAt D (wC ca ad) A) A) (by decide) (Nat.le_of_ble_eq_true rfl) ?_
  intro p e s m args below meth c A ls hx hb hr hw hown hlocks hml hK hN hA hP hD hS hl
  have hown : s.vm.findClass "TrainGuard$Message" = some m.cls := hown
  have hl : lv_has ls 1 [(0, .ref (ad (12 + i)))] := hl
  unfold w_M_dueMark at h
  have hH9 : ∀ H : Heap, H = s.heap → va_P D cls (wC ca ad S) H → va_S A s.heap H [] → W p l e ({ frames := 0, cells := 0, slots := 0, locals := 0 } : Room) s m args below meth c H [] 0 0 (MQ below ((fun A => va_Qi Q (xAt D (wC ca ad) A) A) A) args s 0 0 A) (F0 m 0 ls []) := by
    clear hP hS
    intro H hH hP hS
    obtain ⟨locs, hlo⟩ : ∃ z : List Loc, z = [] := ⟨_, rfl⟩
    rw [← hlo] at hS ⊢
    refine lv_bipush (v := 31) hx hb d_M_dueMark_0 (by decide) ?_
    refine lv_aload_n hx hb d_M_dueMark_2 rfl (lv_at hl 0 rfl) ?_
    refine va_get (D := D) (ci := 1) (v := .int (S.1 12 i)) (C := Rc_M) (T := Fc_M) (N := 5) hx hb hw inc_M hown hK hP (12 + i) (wC_M hi) rfl 2 (by decide) (hw _ wd_74) (fun _ h9 => h9) rfl d_M_dueMark_3 ?_
    refine lv_imul hx hb d_M_dueMark_6 ?_
    refine lv_topi (fun a1 e_a1 => ?_)
    replace h := h a1 e_a1
    refine lv_aload_n hx hb d_M_dueMark_7 rfl (lv_at hl 0 rfl) ?_
    refine va_get (D := D) (ci := 1) (v := .double (S.2 12 i)) (C := Rc_M) (T := Fc_M) (N := 5) hx hb hw inc_M hown hK hP (12 + i) (wC_M hi) rfl 3 (by decide) (hw _ wd_75) (fun _ h9 => h9) rfl d_M_dueMark_8 ?_
    refine lv_ldc2d hx hb hown (hw _ wd_431) d_M_dueMark_11 ?_
    obtain ⟨hq, h⟩ := h
    refine lv_dmul hx hb d_M_dueMark_14 hq ?_
    refine lv_topd (fun f2 e_f2 => ?_)
    replace h := h f2 e_f2
    refine lv_d2i hx hb d_M_dueMark_15 ?_
    refine lv_topi (fun a3 e_a3 => ?_)
    replace h := h a3 e_a3
    refine lv_iadd hx hb d_M_dueMark_16 ?_
    refine lv_topi (fun a4 e_a4 => ?_)
    replace h := h a4 e_a4
    refine lv_sipush (v := 1023) hx hb d_M_dueMark_17 (by decide) ?_
    refine lv_iand hx hb d_M_dueMark_20 ?_
    refine lv_topi (fun a5 e_a5 => ?_)
    replace h := h a5 e_a5
    exact W.iret (v := a5) hx hb hr (fun t ht hW => ⟨⟨a5, S, rfl, h, by rw [ht]; exact hP, hD⟩, hS.F ht⟩) hS.2.2 d_M_dueMark_21
  exact hH9 _ rfl hP hS
theorem d_M_send_0 : decode b_M_send 0 = .ok (.aload_n 0, 1) := by decide +kernel
theorem d_M_send_1 : decode b_M_send 1 = .ok (.iconst 1, 1) := by decide +kernel
theorem d_M_send_2 : decode b_M_send 2 = .ok (.putfield 9, 3) := by decide +kernel
theorem d_M_send_5 : decode b_M_send 5 = .ok (.aload_n 0, 1) := by decide +kernel
theorem d_M_send_6 : decode b_M_send 6 = .ok (.iload_n 1, 1) := by decide +kernel
theorem d_M_send_7 : decode b_M_send 7 = .ok (.putfield 15, 3) := by decide +kernel
theorem d_M_send_10 : decode b_M_send 10 = .ok (.aload_n 0, 1) := by decide +kernel
theorem d_M_send_11 : decode b_M_send 11 = .ok (.dup, 1) := by decide +kernel
theorem d_M_send_12 : decode b_M_send 12 = .ok (.getfield 18, 3) := by decide +kernel
theorem d_M_send_15 : decode b_M_send 15 = .ok (.iconst 1, 1) := by decide +kernel
theorem d_M_send_16 : decode b_M_send 16 = .ok (.iadd, 1) := by decide +kernel
theorem d_M_send_17 : decode b_M_send 17 = .ok (.putfield 18, 3) := by decide +kernel
theorem d_M_send_20 : decode b_M_send 20 = .ok (.aload_n 0, 1) := by decide +kernel
theorem d_M_send_21 : decode b_M_send 21 = .ok (.dload_n 2, 1) := by decide +kernel
theorem d_M_send_22 : decode b_M_send 22 = .ok (.putfield 22, 3) := by decide +kernel
theorem d_M_send_25 : decode b_M_send 25 = .ok (.aload_n 0, 1) := by decide +kernel
theorem d_M_send_26 : decode b_M_send 26 = .ok (.aload_n 0, 1) := by decide +kernel
theorem d_M_send_27 : decode b_M_send 27 = .ok (.invokevirtual 26, 3) := by decide +kernel
theorem d_M_send_30 : decode b_M_send 30 = .ok (.putfield 30, 3) := by decide +kernel
theorem d_M_send_33 : decode b_M_send 33 = .ok (.aload_n 0, 1) := by decide +kernel
theorem d_M_send_34 : decode b_M_send 34 = .ok (.getfield 18, 3) := by decide +kernel
theorem d_M_send_37 : decode b_M_send 37 = .ok (.ireturn, 1) := by decide +kernel
theorem gl_M_26 : ∀ w ∈ wsV "TrainGuard$Message" 26 "TrainGuard$Message" y_M_dueMark (Cond.code y_M_dueMark b_M_dueMark 1 (some Jvm.ClassFile.FieldType.int) :: tG), w ∈ tG := by
  intro x hx
  simp only [wsV, List.cons_append, List.nil_append, List.mem_cons] at hx
  rcases hx with rfl | rfl | rfl | rfl | rfl | hx
  · exact wd_427
  · exact wd_429
  · exact ws_10
  · exact wd_4
  · exact wd_430
  · exact hx
def w_M_send (S : SC) (i : Nat) (x1 : Int32) (x2 : UInt64) (Q : Int32 → SC → Prop) : Prop := (narrow .boolean (.int x1) = .int x1 ∧ fits .boolean (.int x1) = true) ∧ (∀ a1 : Int32, a1 = ((pI (pI S 10 i 1) 11 i x1).1 12 i) + 1 → (w_M_dueMark (pV (pI (pI (pI S 10 i 1) 11 i x1) 12 i a1) 12 i x2) i (fun r2 S3 => Q ((pI S3 13 i r2).1 12 i) (pI S3 13 i r2))))
set_option maxRecDepth 100000 in
set_option maxHeartbeats 4000000 in
theorem c_M_send (l : Launch) (D : va_G) (ca : Nat → ClassId) (ad : Nat → Nat) (sz : Nat) (S : SC) (i : Nat) (x1 : Int32) (x2 : UInt64) (hi : i < 3) (Q : Int32 → SC → Prop) (h : w_M_send S i x1 x2 Q) : Met l y_M_send (Cond.code y_M_send b_M_send 4 (some Jvm.ClassFile.FieldType.int) :: tG) ({ frames := 1, cells := 0, slots := 0, locals := 20 } : Room) (xPc D ca (wC ca ad) S sz [.ref (ad (12 + i)), .int x1, .double x2]) (va_Qi Q (xAt D (wC ca ad) (va_A (wC ca ad S) sz)) (va_A (wC ca ad S) sz)) 0 0 (va_A (wC ca ad S) sz) := by
  refine xx_met (Qf := fun A => va_Qi Q (xAt D (wC ca ad) A) A) (by decide) (Nat.le_of_ble_eq_true rfl) ?_
  intro p e s m args below meth c A ls hx hb hr hw hown hlocks hml hK hN hA hP hD hS hl
  have hown : s.vm.findClass "TrainGuard$Message" = some m.cls := hown
  have hl : lv_has ls 4 [(0, .ref (ad (12 + i))), (1, .int x1), (2, .double x2)] := hl
  unfold w_M_send at h
  have hH9 : ∀ H : Heap, H = s.heap → va_P D cls (wC ca ad S) H → va_S A s.heap H [] → W p l e ({ frames := 1, cells := 0, slots := 0, locals := 20 } : Room) s m args below meth c H [] 0 0 (MQ below ((fun A => va_Qi Q (xAt D (wC ca ad) A) A) A) args s 0 0 A) (F0 m 0 ls []) := by
    clear hP hS
    intro H hH hP hS
    obtain ⟨locs, hlo⟩ : ∃ z : List Loc, z = [] := ⟨_, rfl⟩
    rw [← hlo] at hS ⊢
    refine lv_aload_n hx hb d_M_send_0 rfl (lv_at hl 0 rfl) ?_
    refine lv_iconst (v := 1) hx hb d_M_send_1 (by decide) ?_
    refine va_put (D := D) (ci := 1) (v := .int 1) (ty := .boolean) (C := Rc_M) (T := Fc_M) (N := 5) hx hb hw inc_M tc_M tc_M_ok nc_M hown hK hP hD hS (12 + i) (wC_M hi) rfl 0 (by decide) (hw _ wd_70) (fun _ h9 => h9) rfl (by decide +kernel) rfl rfl (Nat.le_of_ble_eq_true rfl) d_M_send_2 (fun H locs hP hD hS => ?_)
    rw [pt_M_isWaiting hi] at hP hD
    refine lv_aload_n hx hb d_M_send_5 rfl (lv_at hl 0 rfl) ?_
    refine lv_iload_n hx hb d_M_send_6 rfl (lv_at hl 1 rfl) ?_
    obtain ⟨hq, h⟩ := h
    refine va_put (D := D) (ci := 1) (v := .int x1) (ty := .boolean) (C := Rc_M) (T := Fc_M) (N := 5) hx hb hw inc_M tc_M tc_M_ok nc_M hown hK hP hD hS (12 + i) (wC_M hi) rfl 1 (by decide) (hw _ wd_72) (fun _ h9 => h9) rfl (by decide +kernel) hq.1 hq.2 (Nat.le_of_ble_eq_true rfl) d_M_send_7 (fun H locs hP hD hS => ?_)
    rw [pt_M_isStop hi] at hP hD
    refine lv_aload_n hx hb d_M_send_10 rfl (lv_at hl 0 rfl) ?_
    refine lv_dup hx hb d_M_send_11 rfl ?_
    refine va_get (D := D) (ci := 1) (v := .int ((pI (pI S 10 i 1) 11 i x1).1 12 i)) (C := Rc_M) (T := Fc_M) (N := 5) hx hb hw inc_M hown hK hP (12 + i) (wC_M hi) rfl 2 (by decide) (hw _ wd_74) (fun _ h9 => h9) rfl d_M_send_12 ?_
    refine lv_iconst (v := 1) hx hb d_M_send_15 (by decide) ?_
    refine lv_iadd hx hb d_M_send_16 ?_
    refine lv_topi (fun a1 e_a1 => ?_)
    replace h := h a1 e_a1
    refine va_put (D := D) (ci := 1) (v := .int a1) (ty := .int) (C := Rc_M) (T := Fc_M) (N := 5) hx hb hw inc_M tc_M tc_M_ok nc_M hown hK hP hD hS (12 + i) (wC_M hi) rfl 2 (by decide) (hw _ wd_74) (fun _ h9 => h9) rfl (by decide +kernel) rfl rfl (Nat.le_of_ble_eq_true rfl) d_M_send_17 (fun H locs hP hD hS => ?_)
    rw [pt_M_number hi] at hP hD
    refine lv_aload_n hx hb d_M_send_20 rfl (lv_at hl 0 rfl) ?_
    refine lv_dload_n hx hb d_M_send_21 rfl (lv_at hl 2 rfl) ?_
    refine va_put (D := D) (ci := 1) (v := .double x2) (ty := .double) (C := Rc_M) (T := Fc_M) (N := 5) hx hb hw inc_M tc_M tc_M_ok nc_M hown hK hP hD hS (12 + i) (wC_M hi) rfl 3 (by decide) (hw _ wd_75) (fun _ h9 => h9) rfl (by decide +kernel) rfl rfl (Nat.le_of_ble_eq_true rfl) d_M_send_22 (fun H locs hP hD hS => ?_)
    rw [pt_M_place hi] at hP hD
    refine lv_aload_n hx hb d_M_send_25 rfl (lv_at hl 0 rfl) ?_
    refine lv_aload_n hx hb d_M_send_26 rfl (lv_at hl 0 rfl) ?_
    refine xx_calli (va_runV (As := []) (rest := [.ref (ad (12 + i))]) ⟨hx, hb, hml, hown, hw⟩ (c_M_dueMark l D ca ad H.size (pV (pI (pI (pI S 10 i 1) 11 i x1) 12 i a1) 12 i x2) i hi _ h) (cwV 0 hw (tG_g gl_M_26) rfl rfl rfl (by decide +kernel) ⟨Nat.le_of_ble_eq_true rfl, Nat.le_of_ble_eq_true rfl⟩) ⟨xPc.blind, va_recv hK hP rfl (wC_M hi), xPc.pre hK hN hP hD⟩ rfl rfl hl.1 rfl (lv_room (Nat.le_of_ble_eq_true rfl)) d_M_send_27 ⟨Nat.le_of_ble_eq_true rfl, Nat.le_of_ble_eq_true rfl⟩) hD hS hA (fun r2 S3 H locs h hP hD hS => ?_)
    refine va_put (D := D) (ci := 1) (v := .int r2) (ty := .int) (C := Rc_M) (T := Fc_M) (N := 5) hx hb hw inc_M tc_M tc_M_ok nc_M hown hK hP hD hS (12 + i) (wC_M hi) rfl 4 (by decide) (hw _ wd_77) (fun _ h9 => h9) rfl (by decide +kernel) rfl rfl (Nat.le_of_ble_eq_true rfl) d_M_send_30 (fun H locs hP hD hS => ?_)
    rw [pt_M_mark hi] at hP hD
    refine lv_aload_n hx hb d_M_send_33 rfl (lv_at hl 0 rfl) ?_
    refine va_get (D := D) (ci := 1) (v := .int ((pI S3 13 i r2).1 12 i)) (C := Rc_M) (T := Fc_M) (N := 5) hx hb hw inc_M hown hK hP (12 + i) (wC_M hi) rfl 2 (by decide) (hw _ wd_74) (fun _ h9 => h9) rfl d_M_send_34 ?_
    exact W.iret (v := ((pI S3 13 i r2).1 12 i)) hx hb hr (fun t ht hW => ⟨⟨(pI S3 13 i r2).1 12 i, pI S3 13 i r2, rfl, h, by rw [ht]; exact hP, hD⟩, hS.F ht⟩) hS.2.2 d_M_send_37
  exact hH9 _ rfl hP hS
theorem d_M_isGenuine_0 : decode b_M_isGenuine 0 = .ok (.aload_n 0, 1) := by decide +kernel
theorem d_M_isGenuine_1 : decode b_M_isGenuine 1 = .ok (.getfield 30, 3) := by decide +kernel
theorem d_M_isGenuine_4 : decode b_M_isGenuine 4 = .ok (.iload_n 1, 1) := by decide +kernel
theorem d_M_isGenuine_5 : decode b_M_isGenuine 5 = .ok (.ixor, 1) := by decide +kernel
theorem d_M_isGenuine_6 : decode b_M_isGenuine 6 = .ok (.aload_n 0, 1) := by decide +kernel
theorem d_M_isGenuine_7 : decode b_M_isGenuine 7 = .ok (.invokevirtual 26, 3) := by decide +kernel
theorem d_M_isGenuine_10 : decode b_M_isGenuine 10 = .ok (.if_icmp .ne 7, 3) := by decide +kernel
theorem d_M_isGenuine_13 : decode b_M_isGenuine 13 = .ok (.iconst 1, 1) := by decide +kernel
theorem d_M_isGenuine_14 : decode b_M_isGenuine 14 = .ok (.goto 4, 3) := by decide +kernel
theorem d_M_isGenuine_17 : decode b_M_isGenuine 17 = .ok (.iconst 0, 1) := by decide +kernel
theorem d_M_isGenuine_18 : decode b_M_isGenuine 18 = .ok (.ireturn, 1) := by decide +kernel
def w_M_isGenuine (S : SC) (i : Nat) (x1 : Int32) (Q : Int32 → SC → Prop) : Prop := ∀ a1 : Int32, a1 = (S.1 13 i) ^^^ x1 → (w_M_dueMark S i (fun r2 S3 => ((¬ a1 = r2) → (Q 0 S3)) ∧ ((a1 = r2) → (Q 1 S3))))
set_option maxRecDepth 100000 in
set_option maxHeartbeats 4000000 in
theorem c_M_isGenuine (l : Launch) (D : va_G) (ca : Nat → ClassId) (ad : Nat → Nat) (sz : Nat) (S : SC) (i : Nat) (x1 : Int32) (hi : i < 3) (Q : Int32 → SC → Prop) (h : w_M_isGenuine S i x1 Q) : Met l y_M_isGenuine (Cond.code y_M_isGenuine b_M_isGenuine 2 (some Jvm.ClassFile.FieldType.boolean) :: tG) ({ frames := 1, cells := 0, slots := 0, locals := 20 } : Room) (xPc D ca (wC ca ad) S sz [.ref (ad (12 + i)), .int x1]) (va_Qi Q (xAt D (wC ca ad) (va_A (wC ca ad S) sz)) (va_A (wC ca ad S) sz)) 0 0 (va_A (wC ca ad S) sz) := by
  refine xx_met (Qf := fun A => va_Qi Q (xAt D (wC ca ad) A) A) (by decide) (Nat.le_of_ble_eq_true rfl) ?_
  intro p e s m args below meth c A ls hx hb hr hw hown hlocks hml hK hN hA hP hD hS hl
  have hown : s.vm.findClass "TrainGuard$Message" = some m.cls := hown
  have hl : lv_has ls 2 [(0, .ref (ad (12 + i))), (1, .int x1)] := hl
  unfold w_M_isGenuine at h
  have hH9 : ∀ H : Heap, H = s.heap → va_P D cls (wC ca ad S) H → va_S A s.heap H [] → W p l e ({ frames := 1, cells := 0, slots := 0, locals := 20 } : Room) s m args below meth c H [] 0 0 (MQ below ((fun A => va_Qi Q (xAt D (wC ca ad) A) A) A) args s 0 0 A) (F0 m 0 ls []) := by
    clear hP hS
    intro H hH hP hS
    obtain ⟨locs, hlo⟩ : ∃ z : List Loc, z = [] := ⟨_, rfl⟩
    rw [← hlo] at hS ⊢
    refine lv_aload_n hx hb d_M_isGenuine_0 rfl (lv_at hl 0 rfl) ?_
    refine va_get (D := D) (ci := 1) (v := .int (S.1 13 i)) (C := Rc_M) (T := Fc_M) (N := 5) hx hb hw inc_M hown hK hP (12 + i) (wC_M hi) rfl 4 (by decide) (hw _ wd_77) (fun _ h9 => h9) rfl d_M_isGenuine_1 ?_
    refine lv_iload_n hx hb d_M_isGenuine_4 rfl (lv_at hl 1 rfl) ?_
    refine lv_ixor hx hb d_M_isGenuine_5 ?_
    refine lv_topi (fun a1 e_a1 => ?_)
    replace h := h a1 e_a1
    refine lv_aload_n hx hb d_M_isGenuine_6 rfl (lv_at hl 0 rfl) ?_
    refine xx_calli (va_runV (As := []) (rest := [.int a1]) ⟨hx, hb, hml, hown, hw⟩ (c_M_dueMark l D ca ad H.size S i hi _ h) (cwV 0 hw (tG_g gl_M_26) rfl rfl rfl (by decide +kernel) ⟨Nat.le_of_ble_eq_true rfl, Nat.le_of_ble_eq_true rfl⟩) ⟨xPc.blind, va_recv hK hP rfl (wC_M hi), xPc.pre hK hN hP hD⟩ rfl rfl hl.1 rfl (lv_room (Nat.le_of_ble_eq_true rfl)) d_M_isGenuine_7 ⟨Nat.le_of_ble_eq_true rfl, Nat.le_of_ble_eq_true rfl⟩) hD hS hA (fun r2 S3 H locs h hP hD hS => ?_)
    refine lv_icmp_ne (tgt := 17) hx hb d_M_isGenuine_10 (by decide) (fun hc => ?_) (fun hc => ?_)
    · replace h := h.1 hc
      refine lv_iconst (v := 0) hx hb d_M_isGenuine_17 (by decide) ?_
      exact W.zret (v := 0) hx hb hr rfl (fun t ht hW => ⟨⟨0, S3, rfl, h, by rw [ht]; exact hP, hD⟩, hS.F ht⟩) hS.2.2 d_M_isGenuine_18
    · replace h := h.2 hc
      refine lv_iconst (v := 1) hx hb d_M_isGenuine_13 (by decide) ?_
      refine lv_goto (tgt := 18) hx hb d_M_isGenuine_14 (by decide) ?_
      exact W.zret (v := 1) hx hb hr rfl (fun t ht hW => ⟨⟨1, S3, rfl, h, by rw [ht]; exact hP, hD⟩, hS.F ht⟩) hS.2.2 d_M_isGenuine_18
  exact hH9 _ rfl hP hS
theorem d_T_rear_0 : decode b_T_rear 0 = .ok (.aload_n 0, 1) := by decide +kernel
theorem d_T_rear_1 : decode b_T_rear 1 = .ok (.getfield 25, 3) := by decide +kernel
theorem d_T_rear_4 : decode b_T_rear 4 = .ok (.aload_n 0, 1) := by decide +kernel
theorem d_T_rear_5 : decode b_T_rear 5 = .ok (.getfield 18, 3) := by decide +kernel
theorem d_T_rear_8 : decode b_T_rear 8 = .ok (.dsub, 1) := by decide +kernel
theorem d_T_rear_9 : decode b_T_rear 9 = .ok (.dreturn, 1) := by decide +kernel
def w_T_rear (S : SC) (i : Nat) (Q : UInt64 → SC → Prop) : Prop := vf_n64 (FP.dsub (S.2 8 i) (S.2 5 i)) ∧ (∀ f1 : UInt64, f1 = FP.dsub (S.2 8 i) (S.2 5 i) → (Q f1 S))
set_option maxRecDepth 100000 in
set_option maxHeartbeats 4000000 in
theorem c_T_rear (l : Launch) (D : va_G) (ca : Nat → ClassId) (ad : Nat → Nat) (sz : Nat) (S : SC) (i : Nat) (hi : i < 3) (Q : UInt64 → SC → Prop) (h : w_T_rear S i Q) : Met l y_T_rear (Cond.code y_T_rear b_T_rear 1 (some Jvm.ClassFile.FieldType.double) :: tG) ({ frames := 0, cells := 0, slots := 0, locals := 0 } : Room) (xPc D ca (wC ca ad) S sz [.ref (ad (9 + i))]) (va_Qd Q (xAt D (wC ca ad) (va_A (wC ca ad S) sz)) (va_A (wC ca ad S) sz)) 0 0 (va_A (wC ca ad S) sz) := by
  refine xx_met (Qf := fun A => va_Qd Q (xAt D (wC ca ad) A) A) (by decide) (Nat.le_of_ble_eq_true rfl) ?_
  intro p e s m args below meth c A ls hx hb hr hw hown hlocks hml hK hN hA hP hD hS hl
  have hown : s.vm.findClass "TrainGuard$Train" = some m.cls := hown
  have hl : lv_has ls 1 [(0, .ref (ad (9 + i)))] := hl
  unfold w_T_rear at h
  have hH9 : ∀ H : Heap, H = s.heap → va_P D cls (wC ca ad S) H → va_S A s.heap H [] → W p l e ({ frames := 0, cells := 0, slots := 0, locals := 0 } : Room) s m args below meth c H [] 0 0 (MQ below ((fun A => va_Qd Q (xAt D (wC ca ad) A) A) A) args s 0 0 A) (F0 m 0 ls []) := by
    clear hP hS
    intro H hH hP hS
    obtain ⟨locs, hlo⟩ : ∃ z : List Loc, z = [] := ⟨_, rfl⟩
    rw [← hlo] at hS ⊢
    refine lv_aload_n hx hb d_T_rear_0 rfl (lv_at hl 0 rfl) ?_
    refine va_get (D := D) (ci := 2) (v := .double (S.2 8 i)) (C := Rc_T) (T := Fc_T) (N := 11) hx hb hw inc_T hown hK hP (9 + i) (wC_T hi) rfl 4 (by decide) (hw _ wd_95) (fun _ h9 => h9) rfl d_T_rear_1 ?_
    refine lv_aload_n hx hb d_T_rear_4 rfl (lv_at hl 0 rfl) ?_
    refine va_get (D := D) (ci := 2) (v := .double (S.2 5 i)) (C := Rc_T) (T := Fc_T) (N := 11) hx hb hw inc_T hown hK hP (9 + i) (wC_T hi) rfl 1 (by decide) (hw _ wd_91) (fun _ h9 => h9) rfl d_T_rear_5 ?_
    obtain ⟨hq, h⟩ := h
    refine lv_dsub hx hb d_T_rear_8 hq ?_
    refine lv_topd (fun f1 e_f1 => ?_)
    replace h := h f1 e_f1
    exact W.dret (v := f1) hx hb hr (fun t ht hW => ⟨⟨f1, S, rfl, h, by rw [ht]; exact hP, hD⟩, hS.F ht⟩) hS.2.2 d_T_rear_9
  exact hH9 _ rfl hP hS
theorem d_T_stands_0 : decode b_T_stands 0 = .ok (.aload_n 0, 1) := by decide +kernel
theorem d_T_stands_1 : decode b_T_stands 1 = .ok (.getfield 31, 3) := by decide +kernel
theorem d_T_stands_4 : decode b_T_stands 4 = .ok (.dconst 0, 1) := by decide +kernel
theorem d_T_stands_5 : decode b_T_stands 5 = .ok (.dcmp .l, 1) := by decide +kernel
theorem d_T_stands_6 : decode b_T_stands 6 = .ok (.ifCond .ne 7, 3) := by decide +kernel
theorem d_T_stands_9 : decode b_T_stands 9 = .ok (.iconst 1, 1) := by decide +kernel
theorem d_T_stands_10 : decode b_T_stands 10 = .ok (.goto 4, 3) := by decide +kernel
theorem d_T_stands_13 : decode b_T_stands 13 = .ok (.iconst 0, 1) := by decide +kernel
theorem d_T_stands_14 : decode b_T_stands 14 = .ok (.ireturn, 1) := by decide +kernel
def w_T_stands (S : SC) (i : Nat) (Q : Int32 → SC → Prop) : Prop := ((¬ (Op.cmpValue (FP.dcmp (S.2 7 i) FP.dconst0) .l) = 0) → (Q 0 S)) ∧ (((Op.cmpValue (FP.dcmp (S.2 7 i) FP.dconst0) .l) = 0) → (Q 1 S))
set_option maxRecDepth 100000 in
set_option maxHeartbeats 4000000 in
theorem c_T_stands (l : Launch) (D : va_G) (ca : Nat → ClassId) (ad : Nat → Nat) (sz : Nat) (S : SC) (i : Nat) (hi : i < 3) (Q : Int32 → SC → Prop) (h : w_T_stands S i Q) : Met l y_T_stands (Cond.code y_T_stands b_T_stands 1 (some Jvm.ClassFile.FieldType.boolean) :: tG) ({ frames := 0, cells := 0, slots := 0, locals := 0 } : Room) (xPc D ca (wC ca ad) S sz [.ref (ad (9 + i))]) (va_Qi Q (xAt D (wC ca ad) (va_A (wC ca ad S) sz)) (va_A (wC ca ad S) sz)) 0 0 (va_A (wC ca ad S) sz) := by
  refine xx_met (Qf := fun A => va_Qi Q (xAt D (wC ca ad) A) A) (by decide) (Nat.le_of_ble_eq_true rfl) ?_
  intro p e s m args below meth c A ls hx hb hr hw hown hlocks hml hK hN hA hP hD hS hl
  have hown : s.vm.findClass "TrainGuard$Train" = some m.cls := hown
  have hl : lv_has ls 1 [(0, .ref (ad (9 + i)))] := hl
  unfold w_T_stands at h
  have hH9 : ∀ H : Heap, H = s.heap → va_P D cls (wC ca ad S) H → va_S A s.heap H [] → W p l e ({ frames := 0, cells := 0, slots := 0, locals := 0 } : Room) s m args below meth c H [] 0 0 (MQ below ((fun A => va_Qi Q (xAt D (wC ca ad) A) A) A) args s 0 0 A) (F0 m 0 ls []) := by
    clear hP hS
    intro H hH hP hS
    obtain ⟨locs, hlo⟩ : ∃ z : List Loc, z = [] := ⟨_, rfl⟩
    rw [← hlo] at hS ⊢
    refine lv_aload_n hx hb d_T_stands_0 rfl (lv_at hl 0 rfl) ?_
    refine va_get (D := D) (ci := 2) (v := .double (S.2 7 i)) (C := Rc_T) (T := Fc_T) (N := 11) hx hb hw inc_T hown hK hP (9 + i) (wC_T hi) rfl 3 (by decide) (hw _ wd_93) (fun _ h9 => h9) rfl d_T_stands_1 ?_
    refine lv_dconst0 hx hb d_T_stands_4 ?_
    refine lv_dcmp hx hb d_T_stands_5 ?_
    refine lv_if_ne (tgt := 13) hx hb d_T_stands_6 (by decide) (fun hc => ?_) (fun hc => ?_)
    · replace h := h.1 hc
      refine lv_iconst (v := 0) hx hb d_T_stands_13 (by decide) ?_
      exact W.zret (v := 0) hx hb hr rfl (fun t ht hW => ⟨⟨0, S, rfl, h, by rw [ht]; exact hP, hD⟩, hS.F ht⟩) hS.2.2 d_T_stands_14
    · replace h := h.2 hc
      refine lv_iconst (v := 1) hx hb d_T_stands_9 (by decide) ?_
      refine lv_goto (tgt := 14) hx hb d_T_stands_10 (by decide) ?_
      exact W.zret (v := 1) hx hb hr rfl (fun t ht hW => ⟨⟨1, S, rfl, h, by rw [ht]; exact hP, hD⟩, hS.F ht⟩) hS.2.2 d_T_stands_14
  exact hH9 _ rfl hP hS
theorem d_T_putAt_0 : decode b_T_putAt 0 = .ok (.aload_n 0, 1) := by decide +kernel
theorem d_T_putAt_1 : decode b_T_putAt 1 = .ok (.dload_n 3, 1) := by decide +kernel
theorem d_T_putAt_2 : decode b_T_putAt 2 = .ok (.putfield 18, 3) := by decide +kernel
theorem d_T_putAt_5 : decode b_T_putAt 5 = .ok (.aload_n 0, 1) := by decide +kernel
theorem d_T_putAt_6 : decode b_T_putAt 6 = .ok (.dload 5, 2) := by decide +kernel
theorem d_T_putAt_8 : decode b_T_putAt 8 = .ok (.putfield 22, 3) := by decide +kernel
theorem d_T_putAt_11 : decode b_T_putAt 11 = .ok (.aload_n 0, 1) := by decide +kernel
theorem d_T_putAt_12 : decode b_T_putAt 12 = .ok (.dload_n 1, 1) := by decide +kernel
theorem d_T_putAt_13 : decode b_T_putAt 13 = .ok (.dload_n 3, 1) := by decide +kernel
theorem d_T_putAt_14 : decode b_T_putAt 14 = .ok (.dadd, 1) := by decide +kernel
theorem d_T_putAt_15 : decode b_T_putAt 15 = .ok (.putfield 25, 3) := by decide +kernel
theorem d_T_putAt_18 : decode b_T_putAt 18 = .ok (.aload_n 0, 1) := by decide +kernel
theorem d_T_putAt_19 : decode b_T_putAt 19 = .ok (.aload_n 0, 1) := by decide +kernel
theorem d_T_putAt_20 : decode b_T_putAt 20 = .ok (.getfield 25, 3) := by decide +kernel
theorem d_T_putAt_23 : decode b_T_putAt 23 = .ok (.putfield 28, 3) := by decide +kernel
theorem d_T_putAt_26 : decode b_T_putAt 26 = .ok (.return_, 1) := by decide +kernel
def w_T_putAt (S : SC) (i : Nat) (x1 : UInt64) (x2 : UInt64) (x3 : UInt64) (Q : SC → Prop) : Prop := vf_n64 (FP.dadd x1 x2) ∧ (∀ f1 : UInt64, f1 = FP.dadd x1 x2 → (Q (pV (pV (pV (pV S 5 i x2) 6 i x3) 8 i f1) 9 i ((pV (pV (pV S 5 i x2) 6 i x3) 8 i f1).2 8 i))))
set_option maxRecDepth 100000 in
set_option maxHeartbeats 4000000 in
theorem c_T_putAt (l : Launch) (D : va_G) (ca : Nat → ClassId) (ad : Nat → Nat) (sz : Nat) (S : SC) (i : Nat) (x1 : UInt64) (x2 : UInt64) (x3 : UInt64) (hi : i < 3) (Q : SC → Prop) (h : w_T_putAt S i x1 x2 x3 Q) : Met l y_T_putAt (Cond.code y_T_putAt b_T_putAt 7 none :: tG) ({ frames := 0, cells := 0, slots := 0, locals := 0 } : Room) (xPc D ca (wC ca ad) S sz [.ref (ad (9 + i)), .double x1, .double x2, .double x3]) (va_Qv Q (xAt D (wC ca ad) (va_A (wC ca ad S) sz)) (va_A (wC ca ad S) sz)) 0 0 (va_A (wC ca ad S) sz) := by
  refine xx_met (Qf := fun A => va_Qv Q (xAt D (wC ca ad) A) A) (by decide) (Nat.le_of_ble_eq_true rfl) ?_
  intro p e s m args below meth c A ls hx hb hr hw hown hlocks hml hK hN hA hP hD hS hl
  have hown : s.vm.findClass "TrainGuard$Train" = some m.cls := hown
  have hl : lv_has ls 7 [(0, .ref (ad (9 + i))), (1, .double x1), (3, .double x2), (5, .double x3)] := hl
  unfold w_T_putAt at h
  have hH9 : ∀ H : Heap, H = s.heap → va_P D cls (wC ca ad S) H → va_S A s.heap H [] → W p l e ({ frames := 0, cells := 0, slots := 0, locals := 0 } : Room) s m args below meth c H [] 0 0 (MQ below ((fun A => va_Qv Q (xAt D (wC ca ad) A) A) A) args s 0 0 A) (F0 m 0 ls []) := by
    clear hP hS
    intro H hH hP hS
    obtain ⟨locs, hlo⟩ : ∃ z : List Loc, z = [] := ⟨_, rfl⟩
    rw [← hlo] at hS ⊢
    refine lv_aload_n hx hb d_T_putAt_0 rfl (lv_at hl 0 rfl) ?_
    refine lv_dload_n hx hb d_T_putAt_1 rfl (lv_at hl 2 rfl) ?_
    refine va_put (D := D) (ci := 2) (v := .double x2) (ty := .double) (C := Rc_T) (T := Fc_T) (N := 11) hx hb hw inc_T tc_T tc_T_ok nc_T hown hK hP hD hS (9 + i) (wC_T hi) rfl 1 (by decide) (hw _ wd_91) (fun _ h9 => h9) rfl (by decide +kernel) rfl rfl (Nat.le_of_ble_eq_true rfl) d_T_putAt_2 (fun H locs hP hD hS => ?_)
    rw [pt_T_length hi] at hP hD
    refine lv_aload_n hx hb d_T_putAt_5 rfl (lv_at hl 0 rfl) ?_
    refine lv_dload hx hb d_T_putAt_6 (lv_at hl 3 rfl) ?_
    refine va_put (D := D) (ci := 2) (v := .double x3) (ty := .double) (C := Rc_T) (T := Fc_T) (N := 11) hx hb hw inc_T tc_T tc_T_ok nc_T hown hK hP hD hS (9 + i) (wC_T hi) rfl 2 (by decide) (hw _ wd_92) (fun _ h9 => h9) rfl (by decide +kernel) rfl rfl (Nat.le_of_ble_eq_true rfl) d_T_putAt_8 (fun H locs hP hD hS => ?_)
    rw [pt_T_brake hi] at hP hD
    refine lv_aload_n hx hb d_T_putAt_11 rfl (lv_at hl 0 rfl) ?_
    refine lv_dload_n hx hb d_T_putAt_12 rfl (lv_at hl 1 rfl) ?_
    refine lv_dload_n hx hb d_T_putAt_13 rfl (lv_at hl 2 rfl) ?_
    obtain ⟨hq, h⟩ := h
    refine lv_dadd hx hb d_T_putAt_14 hq ?_
    refine lv_topd (fun f1 e_f1 => ?_)
    replace h := h f1 e_f1
    refine va_put (D := D) (ci := 2) (v := .double f1) (ty := .double) (C := Rc_T) (T := Fc_T) (N := 11) hx hb hw inc_T tc_T tc_T_ok nc_T hown hK hP hD hS (9 + i) (wC_T hi) rfl 4 (by decide) (hw _ wd_95) (fun _ h9 => h9) rfl (by decide +kernel) rfl rfl (Nat.le_of_ble_eq_true rfl) d_T_putAt_15 (fun H locs hP hD hS => ?_)
    rw [pt_T_real hi] at hP hD
    refine lv_aload_n hx hb d_T_putAt_18 rfl (lv_at hl 0 rfl) ?_
    refine lv_aload_n hx hb d_T_putAt_19 rfl (lv_at hl 0 rfl) ?_
    refine va_get (D := D) (ci := 2) (v := .double ((pV (pV (pV S 5 i x2) 6 i x3) 8 i f1).2 8 i)) (C := Rc_T) (T := Fc_T) (N := 11) hx hb hw inc_T hown hK hP (9 + i) (wC_T hi) rfl 4 (by decide) (hw _ wd_95) (fun _ h9 => h9) rfl d_T_putAt_20 ?_
    refine va_put (D := D) (ci := 2) (v := .double ((pV (pV (pV S 5 i x2) 6 i x3) 8 i f1).2 8 i)) (ty := .double) (C := Rc_T) (T := Fc_T) (N := 11) hx hb hw inc_T tc_T tc_T_ok nc_T hown hK hP hD hS (9 + i) (wC_T hi) rfl 5 (by decide) (hw _ wd_97) (fun _ h9 => h9) rfl (by decide +kernel) rfl rfl (Nat.le_of_ble_eq_true rfl) d_T_putAt_23 (fun H locs hP hD hS => ?_)
    rw [pt_T_measured hi] at hP hD
    exact W.vret hx hb hr (fun t ht hW => ⟨⟨pV (pV (pV (pV S 5 i x2) 6 i x3) 8 i f1) 9 i ((pV (pV (pV S 5 i x2) 6 i x3) 8 i f1).2 8 i), rfl, h, by rw [ht]; exact hP, hD⟩, hS.F ht⟩) hS.2.2 d_T_putAt_26
  exact hH9 _ rfl hP hS
theorem d_T_obeyStop_0 : decode b_T_obeyStop 0 = .ok (.aload_n 0, 1) := by decide +kernel
theorem d_T_obeyStop_1 : decode b_T_obeyStop 1 = .ok (.iconst 0, 1) := by decide +kernel
theorem d_T_obeyStop_2 : decode b_T_obeyStop 2 = .ok (.putfield 34, 3) := by decide +kernel
theorem d_T_obeyStop_5 : decode b_T_obeyStop 5 = .ok (.aload_n 0, 1) := by decide +kernel
theorem d_T_obeyStop_6 : decode b_T_obeyStop 6 = .ok (.getfield 38, 3) := by decide +kernel
theorem d_T_obeyStop_9 : decode b_T_obeyStop 9 = .ok (.iconst 2, 1) := by decide +kernel
theorem d_T_obeyStop_10 : decode b_T_obeyStop 10 = .ok (.if_icmp .eq 11, 3) := by decide +kernel
theorem d_T_obeyStop_13 : decode b_T_obeyStop 13 = .ok (.aload_n 0, 1) := by decide +kernel
theorem d_T_obeyStop_14 : decode b_T_obeyStop 14 = .ok (.getfield 38, 3) := by decide +kernel
theorem d_T_obeyStop_17 : decode b_T_obeyStop 17 = .ok (.iconst 1, 1) := by decide +kernel
theorem d_T_obeyStop_18 : decode b_T_obeyStop 18 = .ok (.if_icmp .ne 8, 3) := by decide +kernel
theorem d_T_obeyStop_21 : decode b_T_obeyStop 21 = .ok (.aload_n 0, 1) := by decide +kernel
theorem d_T_obeyStop_22 : decode b_T_obeyStop 22 = .ok (.iconst 3, 1) := by decide +kernel
theorem d_T_obeyStop_23 : decode b_T_obeyStop 23 = .ok (.putfield 38, 3) := by decide +kernel
theorem d_T_obeyStop_26 : decode b_T_obeyStop 26 = .ok (.return_, 1) := by decide +kernel
def w_T_obeyStop (S : SC) (i : Nat) (Q : SC → Prop) : Prop := ((((pI S 7 i 0).1 9 i) = 2) → (Q (pI (pI S 7 i 0) 9 i 3))) ∧ ((¬ ((pI S 7 i 0).1 9 i) = 2) → (((¬ ((pI S 7 i 0).1 9 i) = 1) → (Q (pI S 7 i 0))) ∧ ((((pI S 7 i 0).1 9 i) = 1) → (Q (pI (pI S 7 i 0) 9 i 3)))))
set_option maxRecDepth 100000 in
set_option maxHeartbeats 4000000 in
theorem c_T_obeyStop (l : Launch) (D : va_G) (ca : Nat → ClassId) (ad : Nat → Nat) (sz : Nat) (S : SC) (i : Nat) (hi : i < 3) (Q : SC → Prop) (h : w_T_obeyStop S i Q) : Met l y_T_obeyStop (Cond.code y_T_obeyStop b_T_obeyStop 1 none :: tG) ({ frames := 0, cells := 0, slots := 0, locals := 0 } : Room) (xPc D ca (wC ca ad) S sz [.ref (ad (9 + i))]) (va_Qv Q (xAt D (wC ca ad) (va_A (wC ca ad S) sz)) (va_A (wC ca ad S) sz)) 0 0 (va_A (wC ca ad S) sz) := by
  refine xx_met (Qf := fun A => va_Qv Q (xAt D (wC ca ad) A) A) (by decide) (Nat.le_of_ble_eq_true rfl) ?_
  intro p e s m args below meth c A ls hx hb hr hw hown hlocks hml hK hN hA hP hD hS hl
  have hown : s.vm.findClass "TrainGuard$Train" = some m.cls := hown
  have hl : lv_has ls 1 [(0, .ref (ad (9 + i)))] := hl
  unfold w_T_obeyStop at h
  have hH9 : ∀ H : Heap, H = s.heap → va_P D cls (wC ca ad S) H → va_S A s.heap H [] → W p l e ({ frames := 0, cells := 0, slots := 0, locals := 0 } : Room) s m args below meth c H [] 0 0 (MQ below ((fun A => va_Qv Q (xAt D (wC ca ad) A) A) A) args s 0 0 A) (F0 m 0 ls []) := by
    clear hP hS
    intro H hH hP hS
    obtain ⟨locs, hlo⟩ : ∃ z : List Loc, z = [] := ⟨_, rfl⟩
    rw [← hlo] at hS ⊢
    refine lv_aload_n hx hb d_T_obeyStop_0 rfl (lv_at hl 0 rfl) ?_
    refine lv_iconst (v := 0) hx hb d_T_obeyStop_1 (by decide) ?_
    refine va_put (D := D) (ci := 2) (v := .int 0) (ty := .boolean) (C := Rc_T) (T := Fc_T) (N := 11) hx hb hw inc_T tc_T tc_T_ok nc_T hown hK hP hD hS (9 + i) (wC_T hi) rfl 8 (by decide) (hw _ wd_103) (fun _ h9 => h9) rfl (by decide +kernel) rfl rfl (Nat.le_of_ble_eq_true rfl) d_T_obeyStop_2 (fun H locs hP hD hS => ?_)
    rw [pt_T_hasAuthority hi] at hP hD
    refine lv_aload_n hx hb d_T_obeyStop_5 rfl (lv_at hl 0 rfl) ?_
    refine va_get (D := D) (ci := 2) (v := .int ((pI S 7 i 0).1 9 i)) (C := Rc_T) (T := Fc_T) (N := 11) hx hb hw inc_T hown hK hP (9 + i) (wC_T hi) rfl 10 (by decide) (hw _ wd_107) (fun _ h9 => h9) rfl d_T_obeyStop_6 ?_
    refine lv_iconst (v := 2) hx hb d_T_obeyStop_9 (by decide) ?_
    refine lv_icmp_eq (tgt := 21) hx hb d_T_obeyStop_10 (by decide) (fun hc => ?_) (fun hc => ?_)
    · replace h := h.1 hc
      refine lv_aload_n hx hb d_T_obeyStop_21 rfl (lv_at hl 0 rfl) ?_
      refine lv_iconst (v := 3) hx hb d_T_obeyStop_22 (by decide) ?_
      refine va_put (D := D) (ci := 2) (v := .int 3) (ty := .int) (C := Rc_T) (T := Fc_T) (N := 11) hx hb hw inc_T tc_T tc_T_ok nc_T hown hK hP hD hS (9 + i) (wC_T hi) rfl 10 (by decide) (hw _ wd_107) (fun _ h9 => h9) rfl (by decide +kernel) rfl rfl (Nat.le_of_ble_eq_true rfl) d_T_obeyStop_23 (fun H locs hP hD hS => ?_)
      rw [pt_T_mode hi] at hP hD
      exact W.vret hx hb hr (fun t ht hW => ⟨⟨pI (pI S 7 i 0) 9 i 3, rfl, h, by rw [ht]; exact hP, hD⟩, hS.F ht⟩) hS.2.2 d_T_obeyStop_26
    · replace h := h.2 hc
      refine lv_aload_n hx hb d_T_obeyStop_13 rfl (lv_at hl 0 rfl) ?_
      refine va_get (D := D) (ci := 2) (v := .int ((pI S 7 i 0).1 9 i)) (C := Rc_T) (T := Fc_T) (N := 11) hx hb hw inc_T hown hK hP (9 + i) (wC_T hi) rfl 10 (by decide) (hw _ wd_107) (fun _ h9 => h9) rfl d_T_obeyStop_14 ?_
      refine lv_iconst (v := 1) hx hb d_T_obeyStop_17 (by decide) ?_
      refine lv_icmp_ne (tgt := 26) hx hb d_T_obeyStop_18 (by decide) (fun hc => ?_) (fun hc => ?_)
      · replace h := h.1 hc
        exact W.vret hx hb hr (fun t ht hW => ⟨⟨pI S 7 i 0, rfl, h, by rw [ht]; exact hP, hD⟩, hS.F ht⟩) hS.2.2 d_T_obeyStop_26
      · replace h := h.2 hc
        refine lv_aload_n hx hb d_T_obeyStop_21 rfl (lv_at hl 0 rfl) ?_
        refine lv_iconst (v := 3) hx hb d_T_obeyStop_22 (by decide) ?_
        refine va_put (D := D) (ci := 2) (v := .int 3) (ty := .int) (C := Rc_T) (T := Fc_T) (N := 11) hx hb hw inc_T tc_T tc_T_ok nc_T hown hK hP hD hS (9 + i) (wC_T hi) rfl 10 (by decide) (hw _ wd_107) (fun _ h9 => h9) rfl (by decide +kernel) rfl rfl (Nat.le_of_ble_eq_true rfl) d_T_obeyStop_23 (fun H locs hP hD hS => ?_)
        rw [pt_T_mode hi] at hP hD
        exact W.vret hx hb hr (fun t ht hW => ⟨⟨pI (pI S 7 i 0) 9 i 3, rfl, h, by rw [ht]; exact hP, hD⟩, hS.F ht⟩) hS.2.2 d_T_obeyStop_26
  exact hH9 _ rfl hP hS
theorem d_T_brakingWay_0 : decode b_T_brakingWay 0 = .ok (.dconst 0, 1) := by decide +kernel
theorem d_T_brakingWay_1 : decode b_T_brakingWay 1 = .ok (.dstore 5, 2) := by decide +kernel
theorem d_T_brakingWay_3 : decode b_T_brakingWay 3 = .ok (.dload_n 1, 1) := by decide +kernel
theorem d_T_brakingWay_4 : decode b_T_brakingWay 4 = .ok (.dstore 7, 2) := by decide +kernel
theorem d_T_brakingWay_6 : decode b_T_brakingWay 6 = .ok (.iconst 0, 1) := by decide +kernel
theorem d_T_brakingWay_7 : decode b_T_brakingWay 7 = .ok (.istore 9, 2) := by decide +kernel
theorem d_T_brakingWay_9 : decode b_T_brakingWay 9 = .ok (.iload 9, 2) := by decide +kernel
theorem d_T_brakingWay_11 : decode b_T_brakingWay 11 = .ok (.sipush 1000, 3) := by decide +kernel
theorem d_T_brakingWay_14 : decode b_T_brakingWay 14 = .ok (.if_icmp .ge 59, 3) := by decide +kernel
theorem d_T_brakingWay_17 : decode b_T_brakingWay 17 = .ok (.dload 7, 2) := by decide +kernel
theorem d_T_brakingWay_19 : decode b_T_brakingWay 19 = .ok (.dload_n 3, 1) := by decide +kernel
theorem d_T_brakingWay_20 : decode b_T_brakingWay 20 = .ok (.dcmp .l, 1) := by decide +kernel
theorem d_T_brakingWay_21 : decode b_T_brakingWay 21 = .ok (.ifCond .le 52, 3) := by decide +kernel
theorem d_T_brakingWay_24 : decode b_T_brakingWay 24 = .ok (.dload 7, 2) := by decide +kernel
theorem d_T_brakingWay_26 : decode b_T_brakingWay 26 = .ok (.aload_n 0, 1) := by decide +kernel
theorem d_T_brakingWay_27 : decode b_T_brakingWay 27 = .ok (.getfield 22, 3) := by decide +kernel
theorem d_T_brakingWay_30 : decode b_T_brakingWay 30 = .ok (.dsub, 1) := by decide +kernel
theorem d_T_brakingWay_31 : decode b_T_brakingWay 31 = .ok (.dload_n 3, 1) := by decide +kernel
theorem d_T_brakingWay_32 : decode b_T_brakingWay 32 = .ok (.dcmp .l, 1) := by decide +kernel
theorem d_T_brakingWay_33 : decode b_T_brakingWay 33 = .ok (.ifCond .le 13, 3) := by decide +kernel
theorem d_T_brakingWay_36 : decode b_T_brakingWay 36 = .ok (.dload 7, 2) := by decide +kernel
theorem d_T_brakingWay_38 : decode b_T_brakingWay 38 = .ok (.aload_n 0, 1) := by decide +kernel
theorem d_T_brakingWay_39 : decode b_T_brakingWay 39 = .ok (.getfield 22, 3) := by decide +kernel
theorem d_T_brakingWay_42 : decode b_T_brakingWay 42 = .ok (.dsub, 1) := by decide +kernel
theorem d_T_brakingWay_43 : decode b_T_brakingWay 43 = .ok (.goto 4, 3) := by decide +kernel
theorem d_T_brakingWay_46 : decode b_T_brakingWay 46 = .ok (.dload_n 3, 1) := by decide +kernel
theorem d_T_brakingWay_47 : decode b_T_brakingWay 47 = .ok (.dstore 10, 2) := by decide +kernel
theorem d_T_brakingWay_49 : decode b_T_brakingWay 49 = .ok (.dload 5, 2) := by decide +kernel
theorem d_T_brakingWay_51 : decode b_T_brakingWay 51 = .ok (.dload 7, 2) := by decide +kernel
theorem d_T_brakingWay_53 : decode b_T_brakingWay 53 = .ok (.dload 10, 2) := by decide +kernel
theorem d_T_brakingWay_55 : decode b_T_brakingWay 55 = .ok (.dadd, 1) := by decide +kernel
theorem d_T_brakingWay_56 : decode b_T_brakingWay 56 = .ok (.ldc2_w 64, 3) := by decide +kernel
theorem d_T_brakingWay_59 : decode b_T_brakingWay 59 = .ok (.dmul, 1) := by decide +kernel
theorem d_T_brakingWay_60 : decode b_T_brakingWay 60 = .ok (.dadd, 1) := by decide +kernel
theorem d_T_brakingWay_61 : decode b_T_brakingWay 61 = .ok (.dstore 5, 2) := by decide +kernel
theorem d_T_brakingWay_63 : decode b_T_brakingWay 63 = .ok (.dload 10, 2) := by decide +kernel
theorem d_T_brakingWay_65 : decode b_T_brakingWay 65 = .ok (.dstore 7, 2) := by decide +kernel
theorem d_T_brakingWay_67 : decode b_T_brakingWay 67 = .ok (.iinc 9 1, 3) := by decide +kernel
theorem d_T_brakingWay_70 : decode b_T_brakingWay 70 = .ok (.goto (-61), 3) := by decide +kernel
theorem d_T_brakingWay_73 : decode b_T_brakingWay 73 = .ok (.dload 5, 2) := by decide +kernel
theorem d_T_brakingWay_75 : decode b_T_brakingWay 75 = .ok (.dreturn, 1) := by decide +kernel
def w_T_brakingWay_47 (K9 : SC → UInt64 → UInt64 → UInt64 → Int32 → Prop) (i : Nat) (S : SC) (y3 : UInt64) (y5 : UInt64) (y7 : UInt64) (y9 : Int32) (ys0 : UInt64) (Q : UInt64 → SC → Prop) : Prop := vf_n64 (FP.dadd y7 ys0) ∧ (∀ f3 : UInt64, f3 = FP.dadd y7 ys0 → (vf_n64 (FP.dmul f3 (4602678819172646912 : UInt64)) ∧ (∀ f4 : UInt64, f4 = FP.dmul f3 (4602678819172646912 : UInt64) → (vf_n64 (FP.dadd y5 f4) ∧ (∀ f5 : UInt64, f5 = FP.dadd y5 f4 → (K9 S y3 f5 ys0 (y9 + 1)))))))
def w_T_brakingWay_9 (i : Nat) : Nat → SC → UInt64 → UInt64 → UInt64 → Int32 → (UInt64 → SC → Prop) → Prop
  | 0 => fun _ _ _ _ _ _ => False
  | n + 1 => fun S y3 y5 y7 y9 Q => (((1000 ≤ y9) → (Q y5 S)) ∧ ((¬ 1000 ≤ y9) → ((((Op.cmpValue (FP.dcmp y7 y3) .l) ≤ 0) → (Q y5 S)) ∧ ((¬ (Op.cmpValue (FP.dcmp y7 y3) .l) ≤ 0) → (vf_n64 (FP.dsub y7 (S.2 6 i)) ∧ (∀ f1 : UInt64, f1 = FP.dsub y7 (S.2 6 i) → ((((Op.cmpValue (FP.dcmp f1 y3) .l) ≤ 0) → (w_T_brakingWay_47 (fun S9 z0 z1 z2 z3 => w_T_brakingWay_9 i n S9 z0 z1 z2 z3 Q) i S y3 y5 y7 y9 y3 Q)) ∧ ((¬ (Op.cmpValue (FP.dcmp f1 y3) .l) ≤ 0) → (vf_n64 (FP.dsub y7 (S.2 6 i)) ∧ (∀ f2 : UInt64, f2 = FP.dsub y7 (S.2 6 i) → (w_T_brakingWay_47 (fun S9 z0 z1 z2 z3 => w_T_brakingWay_9 i n S9 z0 z1 z2 z3 Q) i S y3 y5 y7 y9 f2 Q)))))))))))
def w_T_brakingWay (S : SC) (i : Nat) (x1 : UInt64) (x2 : UInt64) (Q : UInt64 → SC → Prop) : Prop := ∃ n : Nat, w_T_brakingWay_9 i n S x2 FP.dconst0 x1 0 Q
set_option maxRecDepth 100000 in
set_option maxHeartbeats 4000000 in
theorem c_T_brakingWay (l : Launch) (D : va_G) (ca : Nat → ClassId) (ad : Nat → Nat) (sz : Nat) (S : SC) (i : Nat) (x1 : UInt64) (x2 : UInt64) (hi : i < 3) (Q : UInt64 → SC → Prop) (h : w_T_brakingWay S i x1 x2 Q) : Met l y_T_brakingWay (Cond.code y_T_brakingWay b_T_brakingWay 12 (some Jvm.ClassFile.FieldType.double) :: tG) ({ frames := 0, cells := 0, slots := 0, locals := 0 } : Room) (xPc D ca (wC ca ad) S sz [.ref (ad (9 + i)), .double x1, .double x2]) (va_Qd Q (xAt D (wC ca ad) (va_A (wC ca ad S) sz)) (va_A (wC ca ad S) sz)) 0 0 (va_A (wC ca ad S) sz) := by
  refine xx_met (Qf := fun A => va_Qd Q (xAt D (wC ca ad) A) A) (by decide) (Nat.le_of_ble_eq_true rfl) ?_
  intro p e s m args below meth c A ls hx hb hr hw hown hlocks hml hK hN hA hP hD hS hl
  have hown : s.vm.findClass "TrainGuard$Train" = some m.cls := hown
  have hl : lv_has ls 12 [(0, .ref (ad (9 + i))), (1, .double x1), (3, .double x2)] := hl
  unfold w_T_brakingWay at h
  have bk_47 : ∀ (K9 : SC → UInt64 → UInt64 → UInt64 → Int32 → Prop) (hK9 : ∀ (S : SC) (y3 : UInt64) (y5 : UInt64) (y7 : UInt64) (y9 : Int32) (H : Heap) (locs : List Loc) , va_P D cls (wC ca ad S) H → va_D A (wC ca ad S) → va_S A s.heap H locs → ∀ (ls : Array Slot), lv_has ls 12 [(0, .ref (ad (9 + i))), (3, .double y3), (5, .double y5), (7, .double y7), (9, .int y9)] → K9 S y3 y5 y7 y9 → W p l e ({ frames := 0, cells := 0, slots := 0, locals := 0 } : Room) s m args below meth c H locs 0 0 (MQ below ((fun A => va_Qd Q (xAt D (wC ca ad) A) A) A) args s 0 0 A) (F0 m 9 ls [])) (S : SC) (y3 : UInt64) (y5 : UInt64) (y7 : UInt64) (y9 : Int32) (ys0 : UInt64) (H : Heap) (locs : List Loc) , va_P D cls (wC ca ad S) H → va_D A (wC ca ad S) → va_S A s.heap H locs → ∀ (ls : Array Slot), lv_has ls 12 [(0, .ref (ad (9 + i))), (3, .double y3), (5, .double y5), (7, .double y7), (9, .int y9)] → w_T_brakingWay_47 K9 i S y3 y5 y7 y9 ys0 Q → W p l e ({ frames := 0, cells := 0, slots := 0, locals := 0 } : Room) s m args below meth c H locs 0 0 (MQ below ((fun A => va_Qd Q (xAt D (wC ca ad) A) A) A) args s 0 0 A) (F0 m 47 ls [.double ys0]) := by
    intro K9 hK9 S y3 y5 y7 y9 ys0 H locs hP hD hS ls hl h
    unfold w_T_brakingWay_47 at h
    refine lv_dstore (lv' := [(10, .double ys0), (0, .ref (ad (9 + i))), (3, .double y3), (5, .double y5), (7, .double y7), (9, .int y9)]) hx hb d_T_brakingWay_47 hl (by decide) rfl (fun ls hl => ?_)
    refine lv_dload hx hb d_T_brakingWay_49 (lv_at hl 3 rfl) ?_
    refine lv_dload hx hb d_T_brakingWay_51 (lv_at hl 4 rfl) ?_
    refine lv_dload hx hb d_T_brakingWay_53 (lv_at hl 0 rfl) ?_
    obtain ⟨hq, h⟩ := h
    refine lv_dadd hx hb d_T_brakingWay_55 hq ?_
    refine lv_topd (fun f3 e_f3 => ?_)
    replace h := h f3 e_f3
    refine lv_ldc2d hx hb hown (hw _ wd_385) d_T_brakingWay_56 ?_
    obtain ⟨hq, h⟩ := h
    refine lv_dmul hx hb d_T_brakingWay_59 hq ?_
    refine lv_topd (fun f4 e_f4 => ?_)
    replace h := h f4 e_f4
    obtain ⟨hq, h⟩ := h
    refine lv_dadd hx hb d_T_brakingWay_60 hq ?_
    refine lv_topd (fun f5 e_f5 => ?_)
    replace h := h f5 e_f5
    refine lv_dstore (lv' := [(5, .double f5), (10, .double ys0), (0, .ref (ad (9 + i))), (3, .double y3), (7, .double y7), (9, .int y9)]) hx hb d_T_brakingWay_61 hl (by decide) rfl (fun ls hl => ?_)
    refine lv_dload hx hb d_T_brakingWay_63 (lv_at hl 1 rfl) ?_
    refine lv_dstore (lv' := [(7, .double ys0), (5, .double f5), (10, .double ys0), (0, .ref (ad (9 + i))), (3, .double y3), (9, .int y9)]) hx hb d_T_brakingWay_65 hl (by decide) rfl (fun ls hl => ?_)
    refine lv_iinc (v := (y9 + 1)) (lv' := [(9, .int (y9 + 1)), (7, .double ys0), (5, .double f5), (10, .double ys0), (0, .ref (ad (9 + i))), (3, .double y3)]) hx hb d_T_brakingWay_67 hl (k := 5) rfl rfl (by decide) rfl (fun ls hl => ?_)
    refine lv_goto (tgt := 9) hx hb d_T_brakingWay_70 (by decide) ?_
    exact hK9 S y3 f5 ys0 (y9 + 1) H locs hP hD hS ls (lv_sub hl [4, 5, 2, 1, 0] rfl) h
  have bk_9 : ∀ (n9 : Nat) (S : SC) (y3 : UInt64) (y5 : UInt64) (y7 : UInt64) (y9 : Int32) (H : Heap) (locs : List Loc) , va_P D cls (wC ca ad S) H → va_D A (wC ca ad S) → va_S A s.heap H locs → ∀ (ls : Array Slot), lv_has ls 12 [(0, .ref (ad (9 + i))), (3, .double y3), (5, .double y5), (7, .double y7), (9, .int y9)] → w_T_brakingWay_9 i n9 S y3 y5 y7 y9 Q → W p l e ({ frames := 0, cells := 0, slots := 0, locals := 0 } : Room) s m args below meth c H locs 0 0 (MQ below ((fun A => va_Qd Q (xAt D (wC ca ad) A) A) A) args s 0 0 A) (F0 m 9 ls []) := by
    intro n9
    induction n9 with
    | zero => intro S y3 y5 y7 y9 H locs hP hD hS ls hl h; exact absurd h id
    | succ n9 hK9 =>
      intro S y3 y5 y7 y9 H locs hP hD hS ls hl h
      replace h : ((1000 ≤ y9) → (Q y5 S)) ∧ ((¬ 1000 ≤ y9) → ((((Op.cmpValue (FP.dcmp y7 y3) .l) ≤ 0) → (Q y5 S)) ∧ ((¬ (Op.cmpValue (FP.dcmp y7 y3) .l) ≤ 0) → (vf_n64 (FP.dsub y7 (S.2 6 i)) ∧ (∀ f1 : UInt64, f1 = FP.dsub y7 (S.2 6 i) → ((((Op.cmpValue (FP.dcmp f1 y3) .l) ≤ 0) → (w_T_brakingWay_47 (fun S9 z0 z1 z2 z3 => w_T_brakingWay_9 i n9 S9 z0 z1 z2 z3 Q) i S y3 y5 y7 y9 y3 Q)) ∧ ((¬ (Op.cmpValue (FP.dcmp f1 y3) .l) ≤ 0) → (vf_n64 (FP.dsub y7 (S.2 6 i)) ∧ (∀ f2 : UInt64, f2 = FP.dsub y7 (S.2 6 i) → (w_T_brakingWay_47 (fun S9 z0 z1 z2 z3 => w_T_brakingWay_9 i n9 S9 z0 z1 z2 z3 Q) i S y3 y5 y7 y9 f2 Q)))))))))) := h
      refine lv_iload hx hb d_T_brakingWay_9 (lv_at hl 4 rfl) ?_
      refine lv_sipush (v := 1000) hx hb d_T_brakingWay_11 (by decide) ?_
      refine lv_icmp_ge (tgt := 73) hx hb d_T_brakingWay_14 (by decide) (fun hc => ?_) (fun hc => ?_)
      · replace h := h.1 hc
        refine lv_dload hx hb d_T_brakingWay_73 (lv_at hl 2 rfl) ?_
        exact W.dret (v := y5) hx hb hr (fun t ht hW => ⟨⟨y5, S, rfl, h, by rw [ht]; exact hP, hD⟩, hS.F ht⟩) hS.2.2 d_T_brakingWay_75
      · replace h := h.2 hc
        refine lv_dload hx hb d_T_brakingWay_17 (lv_at hl 3 rfl) ?_
        refine lv_dload_n hx hb d_T_brakingWay_19 rfl (lv_at hl 1 rfl) ?_
        refine lv_dcmp hx hb d_T_brakingWay_20 ?_
        refine lv_if_le (tgt := 73) hx hb d_T_brakingWay_21 (by decide) (fun hc => ?_) (fun hc => ?_)
        · replace h := h.1 hc
          refine lv_dload hx hb d_T_brakingWay_73 (lv_at hl 2 rfl) ?_
          exact W.dret (v := y5) hx hb hr (fun t ht hW => ⟨⟨y5, S, rfl, h, by rw [ht]; exact hP, hD⟩, hS.F ht⟩) hS.2.2 d_T_brakingWay_75
        · replace h := h.2 hc
          refine lv_dload hx hb d_T_brakingWay_24 (lv_at hl 3 rfl) ?_
          refine lv_aload_n hx hb d_T_brakingWay_26 rfl (lv_at hl 0 rfl) ?_
          refine va_get (D := D) (ci := 2) (v := .double (S.2 6 i)) (C := Rc_T) (T := Fc_T) (N := 11) hx hb hw inc_T hown hK hP (9 + i) (wC_T hi) rfl 2 (by decide) (hw _ wd_92) (fun _ h9 => h9) rfl d_T_brakingWay_27 ?_
          obtain ⟨hq, h⟩ := h
          refine lv_dsub hx hb d_T_brakingWay_30 hq ?_
          refine lv_topd (fun f1 e_f1 => ?_)
          replace h := h f1 e_f1
          refine lv_dload_n hx hb d_T_brakingWay_31 rfl (lv_at hl 1 rfl) ?_
          refine lv_dcmp hx hb d_T_brakingWay_32 ?_
          refine lv_if_le (tgt := 46) hx hb d_T_brakingWay_33 (by decide) (fun hc => ?_) (fun hc => ?_)
          · replace h := h.1 hc
            refine lv_dload_n hx hb d_T_brakingWay_46 rfl (lv_at hl 1 rfl) ?_
            exact bk_47 (fun S9 z0 z1 z2 z3 => w_T_brakingWay_9 i n9 S9 z0 z1 z2 z3 Q) hK9 S y3 y5 y7 y9 y3 H locs hP hD hS ls (lv_sub hl [0, 1, 2, 3, 4] rfl) h
          · replace h := h.2 hc
            refine lv_dload hx hb d_T_brakingWay_36 (lv_at hl 3 rfl) ?_
            refine lv_aload_n hx hb d_T_brakingWay_38 rfl (lv_at hl 0 rfl) ?_
            refine va_get (D := D) (ci := 2) (v := .double (S.2 6 i)) (C := Rc_T) (T := Fc_T) (N := 11) hx hb hw inc_T hown hK hP (9 + i) (wC_T hi) rfl 2 (by decide) (hw _ wd_92) (fun _ h9 => h9) rfl d_T_brakingWay_39 ?_
            obtain ⟨hq, h⟩ := h
            refine lv_dsub hx hb d_T_brakingWay_42 hq ?_
            refine lv_topd (fun f2 e_f2 => ?_)
            replace h := h f2 e_f2
            refine lv_goto (tgt := 47) hx hb d_T_brakingWay_43 (by decide) ?_
            exact bk_47 (fun S9 z0 z1 z2 z3 => w_T_brakingWay_9 i n9 S9 z0 z1 z2 z3 Q) hK9 S y3 y5 y7 y9 f2 H locs hP hD hS ls (lv_sub hl [0, 1, 2, 3, 4] rfl) h
  have hH9 : ∀ H : Heap, H = s.heap → va_P D cls (wC ca ad S) H → va_S A s.heap H [] → W p l e ({ frames := 0, cells := 0, slots := 0, locals := 0 } : Room) s m args below meth c H [] 0 0 (MQ below ((fun A => va_Qd Q (xAt D (wC ca ad) A) A) A) args s 0 0 A) (F0 m 0 ls []) := by
    clear hP hS
    intro H hH hP hS
    obtain ⟨locs, hlo⟩ : ∃ z : List Loc, z = [] := ⟨_, rfl⟩
    rw [← hlo] at hS ⊢
    refine lv_dconst0 hx hb d_T_brakingWay_0 ?_
    refine lv_dstore (lv' := [(5, .double FP.dconst0), (0, .ref (ad (9 + i))), (1, .double x1), (3, .double x2)]) hx hb d_T_brakingWay_1 hl (by decide) rfl (fun ls hl => ?_)
    refine lv_dload_n hx hb d_T_brakingWay_3 rfl (lv_at hl 2 rfl) ?_
    refine lv_dstore (lv' := [(7, .double x1), (5, .double FP.dconst0), (0, .ref (ad (9 + i))), (1, .double x1), (3, .double x2)]) hx hb d_T_brakingWay_4 hl (by decide) rfl (fun ls hl => ?_)
    refine lv_iconst (v := 0) hx hb d_T_brakingWay_6 (by decide) ?_
    refine lv_istore (lv' := [(9, .int 0), (7, .double x1), (5, .double FP.dconst0), (0, .ref (ad (9 + i))), (1, .double x1), (3, .double x2)]) hx hb d_T_brakingWay_7 hl (by decide) rfl (fun ls hl => ?_)
    obtain ⟨n9, h⟩ := h
    exact bk_9 n9 S x2 FP.dconst0 x1 0 H locs hP hD hS ls (lv_sub hl [3, 5, 2, 1, 0] rfl) h
  exact hH9 _ rfl hP hS
theorem d_T_isSafe_0 : decode b_T_isSafe 0 = .ok (.dload_n 3, 1) := by decide +kernel
theorem d_T_isSafe_1 : decode b_T_isSafe 1 = .ok (.ldc2_w 101, 3) := by decide +kernel
theorem d_T_isSafe_4 : decode b_T_isSafe 4 = .ok (.aload_n 0, 1) := by decide +kernel
theorem d_T_isSafe_5 : decode b_T_isSafe 5 = .ok (.dload 5, 2) := by decide +kernel
theorem d_T_isSafe_7 : decode b_T_isSafe 7 = .ok (.dload 7, 2) := by decide +kernel
theorem d_T_isSafe_9 : decode b_T_isSafe 9 = .ok (.invokevirtual 103, 3) := by decide +kernel
theorem d_T_isSafe_12 : decode b_T_isSafe 12 = .ok (.dmul, 1) := by decide +kernel
theorem d_T_isSafe_13 : decode b_T_isSafe 13 = .ok (.dadd, 1) := by decide +kernel
theorem d_T_isSafe_14 : decode b_T_isSafe 14 = .ok (.dload_n 1, 1) := by decide +kernel
theorem d_T_isSafe_15 : decode b_T_isSafe 15 = .ok (.dcmp .g, 1) := by decide +kernel
theorem d_T_isSafe_16 : decode b_T_isSafe 16 = .ok (.ifCond .gt 7, 3) := by decide +kernel
theorem d_T_isSafe_19 : decode b_T_isSafe 19 = .ok (.iconst 1, 1) := by decide +kernel
theorem d_T_isSafe_20 : decode b_T_isSafe 20 = .ok (.goto 4, 3) := by decide +kernel
theorem d_T_isSafe_23 : decode b_T_isSafe 23 = .ok (.iconst 0, 1) := by decide +kernel
theorem d_T_isSafe_24 : decode b_T_isSafe 24 = .ok (.ireturn, 1) := by decide +kernel
theorem gl_T_103 : ∀ w ∈ wsV "TrainGuard$Train" 103 "TrainGuard$Train" y_T_brakingWay (Cond.code y_T_brakingWay b_T_brakingWay 12 (some Jvm.ClassFile.FieldType.double) :: tG), w ∈ tG := by
  intro x hx
  simp only [wsV, List.cons_append, List.nil_append, List.mem_cons] at hx
  rcases hx with rfl | rfl | rfl | rfl | rfl | hx
  · exact wd_381
  · exact wd_382
  · exact wd_383
  · exact wd_3
  · exact wd_384
  · exact hx
def w_T_isSafe (S : SC) (i : Nat) (x1 : UInt64) (x2 : UInt64) (x3 : UInt64) (x4 : UInt64) (Q : Int32 → SC → Prop) : Prop := w_T_brakingWay S i x3 x4 (fun r1 S2 => vf_n64 (FP.dmul (4607745368753438720 : UInt64) r1) ∧ (∀ f3 : UInt64, f3 = FP.dmul (4607745368753438720 : UInt64) r1 → (vf_n64 (FP.dadd x2 f3) ∧ (∀ f4 : UInt64, f4 = FP.dadd x2 f3 → (((0 < (Op.cmpValue (FP.dcmp f4 x1) .g)) → (Q 0 S2)) ∧ ((¬ 0 < (Op.cmpValue (FP.dcmp f4 x1) .g)) → (Q 1 S2)))))))
set_option maxRecDepth 100000 in
set_option maxHeartbeats 4000000 in
theorem c_T_isSafe (l : Launch) (D : va_G) (ca : Nat → ClassId) (ad : Nat → Nat) (sz : Nat) (S : SC) (i : Nat) (x1 : UInt64) (x2 : UInt64) (x3 : UInt64) (x4 : UInt64) (hi : i < 3) (Q : Int32 → SC → Prop) (h : w_T_isSafe S i x1 x2 x3 x4 Q) : Met l y_T_isSafe (Cond.code y_T_isSafe b_T_isSafe 9 (some Jvm.ClassFile.FieldType.boolean) :: tG) ({ frames := 1, cells := 0, slots := 0, locals := 31 } : Room) (xPc D ca (wC ca ad) S sz [.ref (ad (9 + i)), .double x1, .double x2, .double x3, .double x4]) (va_Qi Q (xAt D (wC ca ad) (va_A (wC ca ad S) sz)) (va_A (wC ca ad S) sz)) 0 0 (va_A (wC ca ad S) sz) := by
  refine xx_met (Qf := fun A => va_Qi Q (xAt D (wC ca ad) A) A) (by decide) (Nat.le_of_ble_eq_true rfl) ?_
  intro p e s m args below meth c A ls hx hb hr hw hown hlocks hml hK hN hA hP hD hS hl
  have hown : s.vm.findClass "TrainGuard$Train" = some m.cls := hown
  have hl : lv_has ls 9 [(0, .ref (ad (9 + i))), (1, .double x1), (3, .double x2), (5, .double x3), (7, .double x4)] := hl
  unfold w_T_isSafe at h
  have hH9 : ∀ H : Heap, H = s.heap → va_P D cls (wC ca ad S) H → va_S A s.heap H [] → W p l e ({ frames := 1, cells := 0, slots := 0, locals := 31 } : Room) s m args below meth c H [] 0 0 (MQ below ((fun A => va_Qi Q (xAt D (wC ca ad) A) A) A) args s 0 0 A) (F0 m 0 ls []) := by
    clear hP hS
    intro H hH hP hS
    obtain ⟨locs, hlo⟩ : ∃ z : List Loc, z = [] := ⟨_, rfl⟩
    rw [← hlo] at hS ⊢
    refine lv_dload_n hx hb d_T_isSafe_0 rfl (lv_at hl 2 rfl) ?_
    refine lv_ldc2d hx hb hown (hw _ wd_380) d_T_isSafe_1 ?_
    refine lv_aload_n hx hb d_T_isSafe_4 rfl (lv_at hl 0 rfl) ?_
    refine lv_dload hx hb d_T_isSafe_5 (lv_at hl 3 rfl) ?_
    refine lv_dload hx hb d_T_isSafe_7 (lv_at hl 4 rfl) ?_
    refine xx_calld (va_runV (As := [.double x3, .double x4]) (rest := [.double (4607745368753438720 : UInt64), .double x2]) ⟨hx, hb, hml, hown, hw⟩ (c_T_brakingWay l D ca ad H.size S i x3 x4 hi _ h) (cwV 2 hw (tG_g gl_T_103) rfl rfl rfl (by decide +kernel) ⟨Nat.le_of_ble_eq_true rfl, Nat.le_of_ble_eq_true rfl⟩) ⟨xPc.blind, va_recv hK hP rfl (wC_T hi), xPc.pre hK hN hP hD⟩ rfl rfl hl.1 rfl (lv_room (Nat.le_of_ble_eq_true rfl)) d_T_isSafe_9 ⟨Nat.le_of_ble_eq_true rfl, Nat.le_of_ble_eq_true rfl⟩) hD hS hA (fun r1 S2 H locs h hP hD hS => ?_)
    obtain ⟨hq, h⟩ := h
    refine lv_dmul hx hb d_T_isSafe_12 hq ?_
    refine lv_topd (fun f3 e_f3 => ?_)
    replace h := h f3 e_f3
    obtain ⟨hq, h⟩ := h
    refine lv_dadd hx hb d_T_isSafe_13 hq ?_
    refine lv_topd (fun f4 e_f4 => ?_)
    replace h := h f4 e_f4
    refine lv_dload_n hx hb d_T_isSafe_14 rfl (lv_at hl 1 rfl) ?_
    refine lv_dcmp hx hb d_T_isSafe_15 ?_
    refine lv_if_gt (tgt := 23) hx hb d_T_isSafe_16 (by decide) (fun hc => ?_) (fun hc => ?_)
    · replace h := h.1 hc
      refine lv_iconst (v := 0) hx hb d_T_isSafe_23 (by decide) ?_
      exact W.zret (v := 0) hx hb hr rfl (fun t ht hW => ⟨⟨0, S2, rfl, h, by rw [ht]; exact hP, hD⟩, hS.F ht⟩) hS.2.2 d_T_isSafe_24
    · replace h := h.2 hc
      refine lv_iconst (v := 1) hx hb d_T_isSafe_19 (by decide) ?_
      refine lv_goto (tgt := 24) hx hb d_T_isSafe_20 (by decide) ?_
      exact W.zret (v := 1) hx hb hr rfl (fun t ht hW => ⟨⟨1, S2, rfl, h, by rw [ht]; exact hP, hD⟩, hS.F ht⟩) hS.2.2 d_T_isSafe_24
  exact hH9 _ rfl hP hS
theorem d_T_canStopAt_0 : decode b_T_canStopAt 0 = .ok (.aload_n 0, 1) := by decide +kernel
theorem d_T_canStopAt_1 : decode b_T_canStopAt 1 = .ok (.dload_n 1, 1) := by decide +kernel
theorem d_T_canStopAt_2 : decode b_T_canStopAt 2 = .ok (.aload_n 0, 1) := by decide +kernel
theorem d_T_canStopAt_3 : decode b_T_canStopAt 3 = .ok (.getfield 28, 3) := by decide +kernel
theorem d_T_canStopAt_6 : decode b_T_canStopAt 6 = .ok (.aload_n 0, 1) := by decide +kernel
theorem d_T_canStopAt_7 : decode b_T_canStopAt 7 = .ok (.getfield 53, 3) := by decide +kernel
theorem d_T_canStopAt_10 : decode b_T_canStopAt 10 = .ok (.dadd, 1) := by decide +kernel
theorem d_T_canStopAt_11 : decode b_T_canStopAt 11 = .ok (.aload_n 0, 1) := by decide +kernel
theorem d_T_canStopAt_12 : decode b_T_canStopAt 12 = .ok (.getfield 31, 3) := by decide +kernel
theorem d_T_canStopAt_15 : decode b_T_canStopAt 15 = .ok (.dconst 0, 1) := by decide +kernel
theorem d_T_canStopAt_16 : decode b_T_canStopAt 16 = .ok (.invokevirtual 56, 3) := by decide +kernel
theorem d_T_canStopAt_19 : decode b_T_canStopAt 19 = .ok (.ireturn, 1) := by decide +kernel
theorem gl_T_56 : ∀ w ∈ wsV "TrainGuard$Train" 56 "TrainGuard$Train" y_T_isSafe (Cond.code y_T_isSafe b_T_isSafe 9 (some Jvm.ClassFile.FieldType.boolean) :: tG), w ∈ tG := by
  intro x hx
  simp only [wsV, List.cons_append, List.nil_append, List.mem_cons] at hx
  rcases hx with rfl | rfl | rfl | rfl | rfl | hx
  · exact wd_376
  · exact wd_378
  · exact ws_7
  · exact wd_3
  · exact wd_379
  · exact hx
def w_T_canStopAt (S : SC) (i : Nat) (x1 : UInt64) (Q : Int32 → SC → Prop) : Prop := vf_n64 (FP.dadd (S.2 9 i) (S.2 10 i)) ∧ (∀ f1 : UInt64, f1 = FP.dadd (S.2 9 i) (S.2 10 i) → (w_T_isSafe S i x1 f1 (S.2 7 i) FP.dconst0 (fun r2 S3 => narrow .boolean (.int r2) = .int r2 ∧ Q r2 S3)))
set_option maxRecDepth 100000 in
set_option maxHeartbeats 4000000 in
theorem c_T_canStopAt (l : Launch) (D : va_G) (ca : Nat → ClassId) (ad : Nat → Nat) (sz : Nat) (S : SC) (i : Nat) (x1 : UInt64) (hi : i < 3) (Q : Int32 → SC → Prop) (h : w_T_canStopAt S i x1 Q) : Met l y_T_canStopAt (Cond.code y_T_canStopAt b_T_canStopAt 3 (some Jvm.ClassFile.FieldType.boolean) :: tG) ({ frames := 2, cells := 0, slots := 0, locals := 59 } : Room) (xPc D ca (wC ca ad) S sz [.ref (ad (9 + i)), .double x1]) (va_Qi Q (xAt D (wC ca ad) (va_A (wC ca ad S) sz)) (va_A (wC ca ad S) sz)) 0 0 (va_A (wC ca ad S) sz) := by
  refine xx_met (Qf := fun A => va_Qi Q (xAt D (wC ca ad) A) A) (by decide) (Nat.le_of_ble_eq_true rfl) ?_
  intro p e s m args below meth c A ls hx hb hr hw hown hlocks hml hK hN hA hP hD hS hl
  have hown : s.vm.findClass "TrainGuard$Train" = some m.cls := hown
  have hl : lv_has ls 3 [(0, .ref (ad (9 + i))), (1, .double x1)] := hl
  unfold w_T_canStopAt at h
  have hH9 : ∀ H : Heap, H = s.heap → va_P D cls (wC ca ad S) H → va_S A s.heap H [] → W p l e ({ frames := 2, cells := 0, slots := 0, locals := 59 } : Room) s m args below meth c H [] 0 0 (MQ below ((fun A => va_Qi Q (xAt D (wC ca ad) A) A) A) args s 0 0 A) (F0 m 0 ls []) := by
    clear hP hS
    intro H hH hP hS
    obtain ⟨locs, hlo⟩ : ∃ z : List Loc, z = [] := ⟨_, rfl⟩
    rw [← hlo] at hS ⊢
    refine lv_aload_n hx hb d_T_canStopAt_0 rfl (lv_at hl 0 rfl) ?_
    refine lv_dload_n hx hb d_T_canStopAt_1 rfl (lv_at hl 1 rfl) ?_
    refine lv_aload_n hx hb d_T_canStopAt_2 rfl (lv_at hl 0 rfl) ?_
    refine va_get (D := D) (ci := 2) (v := .double (S.2 9 i)) (C := Rc_T) (T := Fc_T) (N := 11) hx hb hw inc_T hown hK hP (9 + i) (wC_T hi) rfl 5 (by decide) (hw _ wd_97) (fun _ h9 => h9) rfl d_T_canStopAt_3 ?_
    refine lv_aload_n hx hb d_T_canStopAt_6 rfl (lv_at hl 0 rfl) ?_
    refine va_get (D := D) (ci := 2) (v := .double (S.2 10 i)) (C := Rc_T) (T := Fc_T) (N := 11) hx hb hw inc_T hown hK hP (9 + i) (wC_T hi) rfl 6 (by decide) (hw _ wd_99) (fun _ h9 => h9) rfl d_T_canStopAt_7 ?_
    obtain ⟨hq, h⟩ := h
    refine lv_dadd hx hb d_T_canStopAt_10 hq ?_
    refine lv_topd (fun f1 e_f1 => ?_)
    replace h := h f1 e_f1
    refine lv_aload_n hx hb d_T_canStopAt_11 rfl (lv_at hl 0 rfl) ?_
    refine va_get (D := D) (ci := 2) (v := .double (S.2 7 i)) (C := Rc_T) (T := Fc_T) (N := 11) hx hb hw inc_T hown hK hP (9 + i) (wC_T hi) rfl 3 (by decide) (hw _ wd_93) (fun _ h9 => h9) rfl d_T_canStopAt_12 ?_
    refine lv_dconst0 hx hb d_T_canStopAt_15 ?_
    refine xx_calli (va_runV (As := [.double x1, .double f1, .double (S.2 7 i), .double FP.dconst0]) (rest := []) ⟨hx, hb, hml, hown, hw⟩ (c_T_isSafe l D ca ad H.size S i x1 f1 (S.2 7 i) FP.dconst0 hi _ h) (cwV 4 hw (tG_g gl_T_56) rfl rfl rfl (by decide +kernel) ⟨Nat.le_of_ble_eq_true rfl, Nat.le_of_ble_eq_true rfl⟩) ⟨xPc.blind, va_recv hK hP rfl (wC_T hi), xPc.pre hK hN hP hD⟩ rfl rfl hl.1 rfl (lv_room (Nat.le_of_ble_eq_true rfl)) d_T_canStopAt_16 ⟨Nat.le_of_ble_eq_true rfl, Nat.le_of_ble_eq_true rfl⟩) hD hS hA (fun r2 S3 H locs h hP hD hS => ?_)
    obtain ⟨hq, h⟩ := h
    exact W.zret (v := r2) hx hb hr hq (fun t ht hW => ⟨⟨r2, S3, rfl, h, by rw [ht]; exact hP, hD⟩, hS.F ht⟩) hS.2.2 d_T_canStopAt_19
  exact hH9 _ rfl hP hS
theorem d_T_meetsLimitsAhead_0 : decode b_T_meetsLimitsAhead 0 = .ok (.iconst 0, 1) := by decide +kernel
theorem d_T_meetsLimitsAhead_1 : decode b_T_meetsLimitsAhead 1 = .ok (.istore 6, 2) := by decide +kernel
theorem d_T_meetsLimitsAhead_3 : decode b_T_meetsLimitsAhead 3 = .ok (.iload 6, 2) := by decide +kernel
theorem d_T_meetsLimitsAhead_5 : decode b_T_meetsLimitsAhead 5 = .ok (.aload_n 1, 1) := by decide +kernel
theorem d_T_meetsLimitsAhead_6 : decode b_T_meetsLimitsAhead 6 = .ok (.invokevirtual 114, 3) := by decide +kernel
theorem d_T_meetsLimitsAhead_9 : decode b_T_meetsLimitsAhead 9 = .ok (.if_icmp .ge 66, 3) := by decide +kernel
theorem d_T_meetsLimitsAhead_12 : decode b_T_meetsLimitsAhead 12 = .ok (.aload_n 1, 1) := by decide +kernel
theorem d_T_meetsLimitsAhead_13 : decode b_T_meetsLimitsAhead 13 = .ok (.iload 6, 2) := by decide +kernel
theorem d_T_meetsLimitsAhead_15 : decode b_T_meetsLimitsAhead 15 = .ok (.invokevirtual 118, 3) := by decide +kernel
theorem d_T_meetsLimitsAhead_18 : decode b_T_meetsLimitsAhead 18 = .ok (.dstore 7, 2) := by decide +kernel
theorem d_T_meetsLimitsAhead_20 : decode b_T_meetsLimitsAhead 20 = .ok (.dload 7, 2) := by decide +kernel
theorem d_T_meetsLimitsAhead_22 : decode b_T_meetsLimitsAhead 22 = .ok (.dload_n 2, 1) := by decide +kernel
theorem d_T_meetsLimitsAhead_23 : decode b_T_meetsLimitsAhead 23 = .ok (.dcmp .l, 1) := by decide +kernel
theorem d_T_meetsLimitsAhead_24 : decode b_T_meetsLimitsAhead 24 = .ok (.ifCond .le 17, 3) := by decide +kernel
theorem d_T_meetsLimitsAhead_27 : decode b_T_meetsLimitsAhead 27 = .ok (.dload 7, 2) := by decide +kernel
theorem d_T_meetsLimitsAhead_29 : decode b_T_meetsLimitsAhead 29 = .ok (.aload_n 1, 1) := by decide +kernel
theorem d_T_meetsLimitsAhead_30 : decode b_T_meetsLimitsAhead 30 = .ok (.invokevirtual 98, 3) := by decide +kernel
theorem d_T_meetsLimitsAhead_33 : decode b_T_meetsLimitsAhead 33 = .ok (.dcmp .g, 1) := by decide +kernel
theorem d_T_meetsLimitsAhead_34 : decode b_T_meetsLimitsAhead 34 = .ok (.ifCond .gt 7, 3) := by decide +kernel
theorem d_T_meetsLimitsAhead_37 : decode b_T_meetsLimitsAhead 37 = .ok (.iconst 1, 1) := by decide +kernel
theorem d_T_meetsLimitsAhead_38 : decode b_T_meetsLimitsAhead 38 = .ok (.goto 4, 3) := by decide +kernel
theorem d_T_meetsLimitsAhead_41 : decode b_T_meetsLimitsAhead 41 = .ok (.iconst 0, 1) := by decide +kernel
theorem d_T_meetsLimitsAhead_42 : decode b_T_meetsLimitsAhead 42 = .ok (.istore 9, 2) := by decide +kernel
theorem d_T_meetsLimitsAhead_44 : decode b_T_meetsLimitsAhead 44 = .ok (.iload 9, 2) := by decide +kernel
theorem d_T_meetsLimitsAhead_46 : decode b_T_meetsLimitsAhead 46 = .ok (.ifCond .eq 23, 3) := by decide +kernel
theorem d_T_meetsLimitsAhead_49 : decode b_T_meetsLimitsAhead 49 = .ok (.aload_n 0, 1) := by decide +kernel
theorem d_T_meetsLimitsAhead_50 : decode b_T_meetsLimitsAhead 50 = .ok (.dload 7, 2) := by decide +kernel
theorem d_T_meetsLimitsAhead_52 : decode b_T_meetsLimitsAhead 52 = .ok (.dload_n 2, 1) := by decide +kernel
theorem d_T_meetsLimitsAhead_53 : decode b_T_meetsLimitsAhead 53 = .ok (.dload 4, 2) := by decide +kernel
theorem d_T_meetsLimitsAhead_55 : decode b_T_meetsLimitsAhead 55 = .ok (.aload_n 1, 1) := by decide +kernel
theorem d_T_meetsLimitsAhead_56 : decode b_T_meetsLimitsAhead 56 = .ok (.dload 7, 2) := by decide +kernel
theorem d_T_meetsLimitsAhead_58 : decode b_T_meetsLimitsAhead 58 = .ok (.invokevirtual 122, 3) := by decide +kernel
theorem d_T_meetsLimitsAhead_61 : decode b_T_meetsLimitsAhead 61 = .ok (.invokevirtual 56, 3) := by decide +kernel
theorem d_T_meetsLimitsAhead_64 : decode b_T_meetsLimitsAhead 64 = .ok (.ifCond .ne 5, 3) := by decide +kernel
theorem d_T_meetsLimitsAhead_67 : decode b_T_meetsLimitsAhead 67 = .ok (.iconst 0, 1) := by decide +kernel
theorem d_T_meetsLimitsAhead_68 : decode b_T_meetsLimitsAhead 68 = .ok (.ireturn, 1) := by decide +kernel
theorem d_T_meetsLimitsAhead_69 : decode b_T_meetsLimitsAhead 69 = .ok (.iinc 6 1, 3) := by decide +kernel
theorem d_T_meetsLimitsAhead_72 : decode b_T_meetsLimitsAhead 72 = .ok (.goto (-69), 3) := by decide +kernel
theorem d_T_meetsLimitsAhead_75 : decode b_T_meetsLimitsAhead 75 = .ok (.iconst 1, 1) := by decide +kernel
theorem d_T_meetsLimitsAhead_76 : decode b_T_meetsLimitsAhead 76 = .ok (.ireturn, 1) := by decide +kernel
theorem gl_T_114 : ∀ w ∈ wsV "TrainGuard$Train" 114 "TrainGuard$Line" y_L_changeCount (Cond.code y_L_changeCount b_L_changeCount 1 (some Jvm.ClassFile.FieldType.int) :: tG), w ∈ tG := by
  intro x hx
  simp only [wsV, List.cons_append, List.nil_append, List.mem_cons] at hx
  rcases hx with rfl | rfl | rfl | rfl | rfl | hx
  · exact wd_402
  · exact wd_403
  · exact wd_404
  · exact wd_2
  · exact wd_405
  · exact hx
theorem gl_T_118 : ∀ w ∈ wsV "TrainGuard$Train" 118 "TrainGuard$Line" y_L_changeAt (Cond.code y_L_changeAt b_L_changeAt 2 (some Jvm.ClassFile.FieldType.double) :: tG), w ∈ tG := by
  intro x hx
  simp only [wsV, List.cons_append, List.nil_append, List.mem_cons] at hx
  rcases hx with rfl | rfl | rfl | rfl | rfl | hx
  · exact wd_406
  · exact wd_407
  · exact wd_408
  · exact wd_2
  · exact wd_409
  · exact hx
theorem gl_T_98 : ∀ w ∈ wsV "TrainGuard$Train" 98 "TrainGuard$Line" y_L_lineEnd (Cond.code y_L_lineEnd b_L_lineEnd 1 (some Jvm.ClassFile.FieldType.double) :: tG), w ∈ tG := by
  intro x hx
  simp only [wsV, List.cons_append, List.nil_append, List.mem_cons] at hx
  rcases hx with rfl | rfl | rfl | rfl | rfl | hx
  · exact wd_410
  · exact wd_395
  · exact wd_396
  · exact wd_2
  · exact wd_397
  · exact hx
theorem gl_T_122 : ∀ w ∈ wsV "TrainGuard$Train" 122 "TrainGuard$Line" y_L_limitAt (Cond.code y_L_limitAt b_L_limitAt 6 (some Jvm.ClassFile.FieldType.double) :: tG), w ∈ tG := by
  intro x hx
  simp only [wsV, List.cons_append, List.nil_append, List.mem_cons] at hx
  rcases hx with rfl | rfl | rfl | rfl | rfl | hx
  · exact wd_411
  · exact wd_391
  · exact wd_392
  · exact wd_2
  · exact wd_393
  · exact hx
def w_T_meetsLimitsAhead_69 (K3 : SC → UInt64 → UInt64 → Int32 → Prop) (i : Nat) (S : SC) (y2 : UInt64) (y4 : UInt64) (y6 : Int32) (Q : Int32 → SC → Prop) : Prop := K3 S y2 y4 (y6 + 1)
def w_T_meetsLimitsAhead_42 (K3 : SC → UInt64 → UInt64 → Int32 → Prop) (i : Nat) (S : SC) (y2 : UInt64) (y4 : UInt64) (y6 : Int32) (y7 : UInt64) (ys0 : Int32) (Q : Int32 → SC → Prop) : Prop := ((ys0 = 0) → (w_T_meetsLimitsAhead_69 K3 i S y2 y4 y6 Q)) ∧ ((¬ ys0 = 0) → (w_L_limitAt S y7 (fun r7 S8 => w_T_isSafe S8 i y7 y2 y4 r7 (fun r9 S10 => ((¬ r9 = 0) → (w_T_meetsLimitsAhead_69 K3 i S10 y2 y4 y6 Q)) ∧ ((r9 = 0) → (Q 0 S10))))))
def w_T_meetsLimitsAhead_41 (K3 : SC → UInt64 → UInt64 → Int32 → Prop) (i : Nat) (S : SC) (y2 : UInt64) (y4 : UInt64) (y6 : Int32) (y7 : UInt64) (Q : Int32 → SC → Prop) : Prop := w_T_meetsLimitsAhead_42 K3 i S y2 y4 y6 y7 0 Q
def w_T_meetsLimitsAhead_3 (i : Nat) : Nat → SC → UInt64 → UInt64 → Int32 → (Int32 → SC → Prop) → Prop
  | 0 => fun _ _ _ _ _ => False
  | n + 1 => fun S y2 y4 y6 Q => (w_L_changeCount S (fun r1 S2 => ((r1 ≤ y6) → (Q 1 S2)) ∧ ((¬ r1 ≤ y6) → (w_L_changeAt S2 y6 (fun r3 S4 => (((Op.cmpValue (FP.dcmp r3 y2) .l) ≤ 0) → (w_T_meetsLimitsAhead_41 (fun S9 z0 z1 z2 => w_T_meetsLimitsAhead_3 i n S9 z0 z1 z2 Q) i S4 y2 y4 y6 r3 Q)) ∧ ((¬ (Op.cmpValue (FP.dcmp r3 y2) .l) ≤ 0) → (w_L_lineEnd S4 (fun r5 S6 => ((0 < (Op.cmpValue (FP.dcmp r3 r5) .g)) → (w_T_meetsLimitsAhead_41 (fun S9 z0 z1 z2 => w_T_meetsLimitsAhead_3 i n S9 z0 z1 z2 Q) i S6 y2 y4 y6 r3 Q)) ∧ ((¬ 0 < (Op.cmpValue (FP.dcmp r3 r5) .g)) → (w_T_meetsLimitsAhead_42 (fun S9 z0 z1 z2 => w_T_meetsLimitsAhead_3 i n S9 z0 z1 z2 Q) i S6 y2 y4 y6 r3 1 Q))))))))))
def w_T_meetsLimitsAhead (S : SC) (i : Nat) (x2 : UInt64) (x3 : UInt64) (Q : Int32 → SC → Prop) : Prop := ∃ n : Nat, w_T_meetsLimitsAhead_3 i n S x2 x3 0 Q
set_option maxRecDepth 100000 in
set_option maxHeartbeats 4000000 in
theorem c_T_meetsLimitsAhead (l : Launch) (D : va_G) (ca : Nat → ClassId) (ad : Nat → Nat) (sz : Nat) (S : SC) (i : Nat) (x2 : UInt64) (x3 : UInt64) (hi : i < 3) (Q : Int32 → SC → Prop) (h : w_T_meetsLimitsAhead S i x2 x3 Q) : Met l y_T_meetsLimitsAhead (Cond.code y_T_meetsLimitsAhead b_T_meetsLimitsAhead 10 (some Jvm.ClassFile.FieldType.boolean) :: tG) ({ frames := 2, cells := 0, slots := 0, locals := 59 } : Room) (xPc D ca (wC ca ad) S sz [.ref (ad (9 + i)), .ref (ad 1), .double x2, .double x3]) (va_Qi Q (xAt D (wC ca ad) (va_A (wC ca ad S) sz)) (va_A (wC ca ad S) sz)) 0 0 (va_A (wC ca ad S) sz) := by
  refine xx_met (Qf := fun A => va_Qi Q (xAt D (wC ca ad) A) A) (by decide) (Nat.le_of_ble_eq_true rfl) ?_
  intro p e s m args below meth c A ls hx hb hr hw hown hlocks hml hK hN hA hP hD hS hl
  have hown : s.vm.findClass "TrainGuard$Train" = some m.cls := hown
  have hl : lv_has ls 10 [(0, .ref (ad (9 + i))), (1, .ref (ad 1)), (2, .double x2), (4, .double x3)] := hl
  unfold w_T_meetsLimitsAhead at h
  have bk_69 : ∀ (K3 : SC → UInt64 → UInt64 → Int32 → Prop) (hK3 : ∀ (S : SC) (y2 : UInt64) (y4 : UInt64) (y6 : Int32) (H : Heap) (locs : List Loc) , va_P D cls (wC ca ad S) H → va_D A (wC ca ad S) → va_S A s.heap H locs → ∀ (ls : Array Slot), lv_has ls 10 [(0, .ref (ad (9 + i))), (1, .ref (ad 1)), (2, .double y2), (4, .double y4), (6, .int y6)] → K3 S y2 y4 y6 → W p l e ({ frames := 2, cells := 0, slots := 0, locals := 59 } : Room) s m args below meth c H locs 0 0 (MQ below ((fun A => va_Qi Q (xAt D (wC ca ad) A) A) A) args s 0 0 A) (F0 m 3 ls [])) (S : SC) (y2 : UInt64) (y4 : UInt64) (y6 : Int32) (H : Heap) (locs : List Loc) , va_P D cls (wC ca ad S) H → va_D A (wC ca ad S) → va_S A s.heap H locs → ∀ (ls : Array Slot), lv_has ls 10 [(0, .ref (ad (9 + i))), (1, .ref (ad 1)), (2, .double y2), (4, .double y4), (6, .int y6)] → w_T_meetsLimitsAhead_69 K3 i S y2 y4 y6 Q → W p l e ({ frames := 2, cells := 0, slots := 0, locals := 59 } : Room) s m args below meth c H locs 0 0 (MQ below ((fun A => va_Qi Q (xAt D (wC ca ad) A) A) A) args s 0 0 A) (F0 m 69 ls []) := by
    intro K3 hK3 S y2 y4 y6 H locs hP hD hS ls hl h
    unfold w_T_meetsLimitsAhead_69 at h
    refine lv_iinc (v := (y6 + 1)) (lv' := [(6, .int (y6 + 1)), (0, .ref (ad (9 + i))), (1, .ref (ad 1)), (2, .double y2), (4, .double y4)]) hx hb d_T_meetsLimitsAhead_69 hl (k := 4) rfl rfl (by decide) rfl (fun ls hl => ?_)
    refine lv_goto (tgt := 3) hx hb d_T_meetsLimitsAhead_72 (by decide) ?_
    exact hK3 S y2 y4 (y6 + 1) H locs hP hD hS ls (lv_sub hl [1, 2, 3, 4, 0] rfl) h
  have bk_42 : ∀ (K3 : SC → UInt64 → UInt64 → Int32 → Prop) (hK3 : ∀ (S : SC) (y2 : UInt64) (y4 : UInt64) (y6 : Int32) (H : Heap) (locs : List Loc) , va_P D cls (wC ca ad S) H → va_D A (wC ca ad S) → va_S A s.heap H locs → ∀ (ls : Array Slot), lv_has ls 10 [(0, .ref (ad (9 + i))), (1, .ref (ad 1)), (2, .double y2), (4, .double y4), (6, .int y6)] → K3 S y2 y4 y6 → W p l e ({ frames := 2, cells := 0, slots := 0, locals := 59 } : Room) s m args below meth c H locs 0 0 (MQ below ((fun A => va_Qi Q (xAt D (wC ca ad) A) A) A) args s 0 0 A) (F0 m 3 ls [])) (S : SC) (y2 : UInt64) (y4 : UInt64) (y6 : Int32) (y7 : UInt64) (ys0 : Int32) (H : Heap) (locs : List Loc) , va_P D cls (wC ca ad S) H → va_D A (wC ca ad S) → va_S A s.heap H locs → ∀ (ls : Array Slot), lv_has ls 10 [(0, .ref (ad (9 + i))), (1, .ref (ad 1)), (2, .double y2), (4, .double y4), (6, .int y6), (7, .double y7)] → w_T_meetsLimitsAhead_42 K3 i S y2 y4 y6 y7 ys0 Q → W p l e ({ frames := 2, cells := 0, slots := 0, locals := 59 } : Room) s m args below meth c H locs 0 0 (MQ below ((fun A => va_Qi Q (xAt D (wC ca ad) A) A) A) args s 0 0 A) (F0 m 42 ls [.int ys0]) := by
    intro K3 hK3 S y2 y4 y6 y7 ys0 H locs hP hD hS ls hl h
    unfold w_T_meetsLimitsAhead_42 at h
    refine lv_istore (lv' := [(9, .int ys0), (0, .ref (ad (9 + i))), (1, .ref (ad 1)), (2, .double y2), (4, .double y4), (6, .int y6), (7, .double y7)]) hx hb d_T_meetsLimitsAhead_42 hl (by decide) rfl (fun ls hl => ?_)
    refine lv_iload hx hb d_T_meetsLimitsAhead_44 (lv_at hl 0 rfl) ?_
    refine lv_if_eq (tgt := 69) hx hb d_T_meetsLimitsAhead_46 (by decide) (fun hc => ?_) (fun hc => ?_)
    · replace h := h.1 hc
      exact bk_69 K3 hK3 S y2 y4 y6 H locs hP hD hS ls (lv_sub hl [1, 2, 3, 4, 5] rfl) h
    · replace h := h.2 hc
      refine lv_aload_n hx hb d_T_meetsLimitsAhead_49 rfl (lv_at hl 1 rfl) ?_
      refine lv_dload hx hb d_T_meetsLimitsAhead_50 (lv_at hl 6 rfl) ?_
      refine lv_dload_n hx hb d_T_meetsLimitsAhead_52 rfl (lv_at hl 3 rfl) ?_
      refine lv_dload hx hb d_T_meetsLimitsAhead_53 (lv_at hl 4 rfl) ?_
      refine lv_aload_n hx hb d_T_meetsLimitsAhead_55 rfl (lv_at hl 2 rfl) ?_
      refine lv_dload hx hb d_T_meetsLimitsAhead_56 (lv_at hl 6 rfl) ?_
      refine xx_calld (va_runV (As := [.double y7]) (rest := [.double y4, .double y2, .double y7, .ref (ad (9 + i))]) ⟨hx, hb, hml, hown, hw⟩ (c_L_limitAt l D ca ad H.size S y7 _ h) (cwV 1 hw (tG_g gl_T_122) rfl rfl rfl (by decide +kernel) ⟨Nat.le_of_ble_eq_true rfl, Nat.le_of_ble_eq_true rfl⟩) ⟨xPc.blind, va_recv hK hP rfl (q0 := 1) rfl, xPc.pre hK hN hP hD⟩ rfl rfl hl.1 rfl (lv_room (Nat.le_of_ble_eq_true rfl)) d_T_meetsLimitsAhead_58 ⟨Nat.le_of_ble_eq_true rfl, Nat.le_of_ble_eq_true rfl⟩) hD hS hA (fun r7 S8 H locs h hP hD hS => ?_)
      refine xx_calli (va_runV (As := [.double y7, .double y2, .double y4, .double r7]) (rest := []) ⟨hx, hb, hml, hown, hw⟩ (c_T_isSafe l D ca ad H.size S8 i y7 y2 y4 r7 hi _ h) (cwV 4 hw (tG_g gl_T_56) rfl rfl rfl (by decide +kernel) ⟨Nat.le_of_ble_eq_true rfl, Nat.le_of_ble_eq_true rfl⟩) ⟨xPc.blind, va_recv hK hP rfl (wC_T hi), xPc.pre hK hN hP hD⟩ rfl rfl hl.1 rfl (lv_room (Nat.le_of_ble_eq_true rfl)) d_T_meetsLimitsAhead_61 ⟨Nat.le_of_ble_eq_true rfl, Nat.le_of_ble_eq_true rfl⟩) hD hS hA (fun r9 S10 H locs h hP hD hS => ?_)
      refine lv_if_ne (tgt := 69) hx hb d_T_meetsLimitsAhead_64 (by decide) (fun hc => ?_) (fun hc => ?_)
      · replace h := h.1 hc
        exact bk_69 K3 hK3 S10 y2 y4 y6 H locs hP hD hS ls (lv_sub hl [1, 2, 3, 4, 5] rfl) h
      · replace h := h.2 hc
        refine lv_iconst (v := 0) hx hb d_T_meetsLimitsAhead_67 (by decide) ?_
        exact W.zret (v := 0) hx hb hr rfl (fun t ht hW => ⟨⟨0, S10, rfl, h, by rw [ht]; exact hP, hD⟩, hS.F ht⟩) hS.2.2 d_T_meetsLimitsAhead_68
  have bk_41 : ∀ (K3 : SC → UInt64 → UInt64 → Int32 → Prop) (hK3 : ∀ (S : SC) (y2 : UInt64) (y4 : UInt64) (y6 : Int32) (H : Heap) (locs : List Loc) , va_P D cls (wC ca ad S) H → va_D A (wC ca ad S) → va_S A s.heap H locs → ∀ (ls : Array Slot), lv_has ls 10 [(0, .ref (ad (9 + i))), (1, .ref (ad 1)), (2, .double y2), (4, .double y4), (6, .int y6)] → K3 S y2 y4 y6 → W p l e ({ frames := 2, cells := 0, slots := 0, locals := 59 } : Room) s m args below meth c H locs 0 0 (MQ below ((fun A => va_Qi Q (xAt D (wC ca ad) A) A) A) args s 0 0 A) (F0 m 3 ls [])) (S : SC) (y2 : UInt64) (y4 : UInt64) (y6 : Int32) (y7 : UInt64) (H : Heap) (locs : List Loc) , va_P D cls (wC ca ad S) H → va_D A (wC ca ad S) → va_S A s.heap H locs → ∀ (ls : Array Slot), lv_has ls 10 [(0, .ref (ad (9 + i))), (1, .ref (ad 1)), (2, .double y2), (4, .double y4), (6, .int y6), (7, .double y7)] → w_T_meetsLimitsAhead_41 K3 i S y2 y4 y6 y7 Q → W p l e ({ frames := 2, cells := 0, slots := 0, locals := 59 } : Room) s m args below meth c H locs 0 0 (MQ below ((fun A => va_Qi Q (xAt D (wC ca ad) A) A) A) args s 0 0 A) (F0 m 41 ls []) := by
    intro K3 hK3 S y2 y4 y6 y7 H locs hP hD hS ls hl h
    unfold w_T_meetsLimitsAhead_41 at h
    refine lv_iconst (v := 0) hx hb d_T_meetsLimitsAhead_41 (by decide) ?_
    exact bk_42 K3 hK3 S y2 y4 y6 y7 0 H locs hP hD hS ls (lv_sub hl [0, 1, 2, 3, 4, 5] rfl) h
  have bk_3 : ∀ (n9 : Nat) (S : SC) (y2 : UInt64) (y4 : UInt64) (y6 : Int32) (H : Heap) (locs : List Loc) , va_P D cls (wC ca ad S) H → va_D A (wC ca ad S) → va_S A s.heap H locs → ∀ (ls : Array Slot), lv_has ls 10 [(0, .ref (ad (9 + i))), (1, .ref (ad 1)), (2, .double y2), (4, .double y4), (6, .int y6)] → w_T_meetsLimitsAhead_3 i n9 S y2 y4 y6 Q → W p l e ({ frames := 2, cells := 0, slots := 0, locals := 59 } : Room) s m args below meth c H locs 0 0 (MQ below ((fun A => va_Qi Q (xAt D (wC ca ad) A) A) A) args s 0 0 A) (F0 m 3 ls []) := by
    intro n9
    induction n9 with
    | zero => intro S y2 y4 y6 H locs hP hD hS ls hl h; exact absurd h id
    | succ n9 hK3 =>
      intro S y2 y4 y6 H locs hP hD hS ls hl h
      replace h : w_L_changeCount S (fun r1 S2 => ((r1 ≤ y6) → (Q 1 S2)) ∧ ((¬ r1 ≤ y6) → (w_L_changeAt S2 y6 (fun r3 S4 => (((Op.cmpValue (FP.dcmp r3 y2) .l) ≤ 0) → (w_T_meetsLimitsAhead_41 (fun S9 z0 z1 z2 => w_T_meetsLimitsAhead_3 i n9 S9 z0 z1 z2 Q) i S4 y2 y4 y6 r3 Q)) ∧ ((¬ (Op.cmpValue (FP.dcmp r3 y2) .l) ≤ 0) → (w_L_lineEnd S4 (fun r5 S6 => ((0 < (Op.cmpValue (FP.dcmp r3 r5) .g)) → (w_T_meetsLimitsAhead_41 (fun S9 z0 z1 z2 => w_T_meetsLimitsAhead_3 i n9 S9 z0 z1 z2 Q) i S6 y2 y4 y6 r3 Q)) ∧ ((¬ 0 < (Op.cmpValue (FP.dcmp r3 r5) .g)) → (w_T_meetsLimitsAhead_42 (fun S9 z0 z1 z2 => w_T_meetsLimitsAhead_3 i n9 S9 z0 z1 z2 Q) i S6 y2 y4 y6 r3 1 Q))))))))) := h
      refine lv_iload hx hb d_T_meetsLimitsAhead_3 (lv_at hl 4 rfl) ?_
      refine lv_aload_n hx hb d_T_meetsLimitsAhead_5 rfl (lv_at hl 1 rfl) ?_
      refine xx_calli (va_runV (As := []) (rest := [.int y6]) ⟨hx, hb, hml, hown, hw⟩ (c_L_changeCount l D ca ad H.size S _ h) (cwV 0 hw (tG_g gl_T_114) rfl rfl rfl (by decide +kernel) ⟨Nat.le_of_ble_eq_true rfl, Nat.le_of_ble_eq_true rfl⟩) ⟨xPc.blind, va_recv hK hP rfl (q0 := 1) rfl, xPc.pre hK hN hP hD⟩ rfl rfl hl.1 rfl (lv_room (Nat.le_of_ble_eq_true rfl)) d_T_meetsLimitsAhead_6 ⟨Nat.le_of_ble_eq_true rfl, Nat.le_of_ble_eq_true rfl⟩) hD hS hA (fun r1 S2 H locs h hP hD hS => ?_)
      refine lv_icmp_ge (tgt := 75) hx hb d_T_meetsLimitsAhead_9 (by decide) (fun hc => ?_) (fun hc => ?_)
      · replace h := h.1 hc
        refine lv_iconst (v := 1) hx hb d_T_meetsLimitsAhead_75 (by decide) ?_
        exact W.zret (v := 1) hx hb hr rfl (fun t ht hW => ⟨⟨1, S2, rfl, h, by rw [ht]; exact hP, hD⟩, hS.F ht⟩) hS.2.2 d_T_meetsLimitsAhead_76
      · replace h := h.2 hc
        refine lv_aload_n hx hb d_T_meetsLimitsAhead_12 rfl (lv_at hl 1 rfl) ?_
        refine lv_iload hx hb d_T_meetsLimitsAhead_13 (lv_at hl 4 rfl) ?_
        refine xx_calld (va_runV (As := [.int y6]) (rest := []) ⟨hx, hb, hml, hown, hw⟩ (c_L_changeAt l D ca ad H.size S2 y6 _ h) (cwV 1 hw (tG_g gl_T_118) rfl rfl rfl (by decide +kernel) ⟨Nat.le_of_ble_eq_true rfl, Nat.le_of_ble_eq_true rfl⟩) ⟨xPc.blind, va_recv hK hP rfl (q0 := 1) rfl, xPc.pre hK hN hP hD⟩ rfl rfl hl.1 rfl (lv_room (Nat.le_of_ble_eq_true rfl)) d_T_meetsLimitsAhead_15 ⟨Nat.le_of_ble_eq_true rfl, Nat.le_of_ble_eq_true rfl⟩) hD hS hA (fun r3 S4 H locs h hP hD hS => ?_)
        refine lv_dstore (lv' := [(7, .double r3), (0, .ref (ad (9 + i))), (1, .ref (ad 1)), (2, .double y2), (4, .double y4), (6, .int y6)]) hx hb d_T_meetsLimitsAhead_18 hl (by decide) rfl (fun ls hl => ?_)
        refine lv_dload hx hb d_T_meetsLimitsAhead_20 (lv_at hl 0 rfl) ?_
        refine lv_dload_n hx hb d_T_meetsLimitsAhead_22 rfl (lv_at hl 3 rfl) ?_
        refine lv_dcmp hx hb d_T_meetsLimitsAhead_23 ?_
        refine lv_if_le (tgt := 41) hx hb d_T_meetsLimitsAhead_24 (by decide) (fun hc => ?_) (fun hc => ?_)
        · replace h := h.1 hc
          exact bk_41 (fun S9 z0 z1 z2 => w_T_meetsLimitsAhead_3 i n9 S9 z0 z1 z2 Q) hK3 S4 y2 y4 y6 r3 H locs hP hD hS ls (lv_sub hl [1, 2, 3, 4, 5, 0] rfl) h
        · replace h := h.2 hc
          refine lv_dload hx hb d_T_meetsLimitsAhead_27 (lv_at hl 0 rfl) ?_
          refine lv_aload_n hx hb d_T_meetsLimitsAhead_29 rfl (lv_at hl 2 rfl) ?_
          refine xx_calld (va_runV (As := []) (rest := [.double r3]) ⟨hx, hb, hml, hown, hw⟩ (c_L_lineEnd l D ca ad H.size S4 _ h) (cwV 0 hw (tG_g gl_T_98) rfl rfl rfl (by decide +kernel) ⟨Nat.le_of_ble_eq_true rfl, Nat.le_of_ble_eq_true rfl⟩) ⟨xPc.blind, va_recv hK hP rfl (q0 := 1) rfl, xPc.pre hK hN hP hD⟩ rfl rfl hl.1 rfl (lv_room (Nat.le_of_ble_eq_true rfl)) d_T_meetsLimitsAhead_30 ⟨Nat.le_of_ble_eq_true rfl, Nat.le_of_ble_eq_true rfl⟩) hD hS hA (fun r5 S6 H locs h hP hD hS => ?_)
          refine lv_dcmp hx hb d_T_meetsLimitsAhead_33 ?_
          refine lv_if_gt (tgt := 41) hx hb d_T_meetsLimitsAhead_34 (by decide) (fun hc => ?_) (fun hc => ?_)
          · replace h := h.1 hc
            exact bk_41 (fun S9 z0 z1 z2 => w_T_meetsLimitsAhead_3 i n9 S9 z0 z1 z2 Q) hK3 S6 y2 y4 y6 r3 H locs hP hD hS ls (lv_sub hl [1, 2, 3, 4, 5, 0] rfl) h
          · replace h := h.2 hc
            refine lv_iconst (v := 1) hx hb d_T_meetsLimitsAhead_37 (by decide) ?_
            refine lv_goto (tgt := 42) hx hb d_T_meetsLimitsAhead_38 (by decide) ?_
            exact bk_42 (fun S9 z0 z1 z2 => w_T_meetsLimitsAhead_3 i n9 S9 z0 z1 z2 Q) hK3 S6 y2 y4 y6 r3 1 H locs hP hD hS ls (lv_sub hl [1, 2, 3, 4, 5, 0] rfl) h
  have hH9 : ∀ H : Heap, H = s.heap → va_P D cls (wC ca ad S) H → va_S A s.heap H [] → W p l e ({ frames := 2, cells := 0, slots := 0, locals := 59 } : Room) s m args below meth c H [] 0 0 (MQ below ((fun A => va_Qi Q (xAt D (wC ca ad) A) A) A) args s 0 0 A) (F0 m 0 ls []) := by
    clear hP hS
    intro H hH hP hS
    obtain ⟨locs, hlo⟩ : ∃ z : List Loc, z = [] := ⟨_, rfl⟩
    rw [← hlo] at hS ⊢
    refine lv_iconst (v := 0) hx hb d_T_meetsLimitsAhead_0 (by decide) ?_
    refine lv_istore (lv' := [(6, .int 0), (0, .ref (ad (9 + i))), (1, .ref (ad 1)), (2, .double x2), (4, .double x3)]) hx hb d_T_meetsLimitsAhead_1 hl (by decide) rfl (fun ls hl => ?_)
    obtain ⟨n9, h⟩ := h
    exact bk_3 n9 S x2 x3 0 H locs hP hD hS ls (lv_sub hl [1, 2, 3, 4, 0] rfl) h
  exact hH9 _ rfl hP hS
theorem d_T_isSafeState_0 : decode b_T_isSafeState 0 = .ok (.dload_n 2, 1) := by decide +kernel
theorem d_T_isSafeState_1 : decode b_T_isSafeState 1 = .ok (.dload 4, 2) := by decide +kernel
theorem d_T_isSafeState_3 : decode b_T_isSafeState 3 = .ok (.dadd, 1) := by decide +kernel
theorem d_T_isSafeState_4 : decode b_T_isSafeState 4 = .ok (.dstore 8, 2) := by decide +kernel
theorem d_T_isSafeState_6 : decode b_T_isSafeState 6 = .ok (.aload_n 0, 1) := by decide +kernel
theorem d_T_isSafeState_7 : decode b_T_isSafeState 7 = .ok (.getfield 34, 3) := by decide +kernel
theorem d_T_isSafeState_10 : decode b_T_isSafeState 10 = .ok (.ifCond .eq 63, 3) := by decide +kernel
theorem d_T_isSafeState_13 : decode b_T_isSafeState 13 = .ok (.aload_n 0, 1) := by decide +kernel
theorem d_T_isSafeState_14 : decode b_T_isSafeState 14 = .ok (.aload_n 0, 1) := by decide +kernel
theorem d_T_isSafeState_15 : decode b_T_isSafeState 15 = .ok (.getfield 42, 3) := by decide +kernel
theorem d_T_isSafeState_18 : decode b_T_isSafeState 18 = .ok (.dload 8, 2) := by decide +kernel
theorem d_T_isSafeState_20 : decode b_T_isSafeState 20 = .ok (.dload 6, 2) := by decide +kernel
theorem d_T_isSafeState_22 : decode b_T_isSafeState 22 = .ok (.dconst 0, 1) := by decide +kernel
theorem d_T_isSafeState_23 : decode b_T_isSafeState 23 = .ok (.invokevirtual 56, 3) := by decide +kernel
theorem d_T_isSafeState_26 : decode b_T_isSafeState 26 = .ok (.ifCond .eq 47, 3) := by decide +kernel
theorem d_T_isSafeState_29 : decode b_T_isSafeState 29 = .ok (.dload 6, 2) := by decide +kernel
theorem d_T_isSafeState_31 : decode b_T_isSafeState 31 = .ok (.aload_n 1, 1) := by decide +kernel
theorem d_T_isSafeState_32 : decode b_T_isSafeState 32 = .ok (.dload 8, 2) := by decide +kernel
theorem d_T_isSafeState_34 : decode b_T_isSafeState 34 = .ok (.invokevirtual 107, 3) := by decide +kernel
theorem d_T_isSafeState_37 : decode b_T_isSafeState 37 = .ok (.dcmp .g, 1) := by decide +kernel
theorem d_T_isSafeState_38 : decode b_T_isSafeState 38 = .ok (.ifCond .gt 35, 3) := by decide +kernel
theorem d_T_isSafeState_41 : decode b_T_isSafeState 41 = .ok (.dload 6, 2) := by decide +kernel
theorem d_T_isSafeState_43 : decode b_T_isSafeState 43 = .ok (.aload_n 1, 1) := by decide +kernel
theorem d_T_isSafeState_44 : decode b_T_isSafeState 44 = .ok (.dload_n 2, 1) := by decide +kernel
theorem d_T_isSafeState_45 : decode b_T_isSafeState 45 = .ok (.aload_n 0, 1) := by decide +kernel
theorem d_T_isSafeState_46 : decode b_T_isSafeState 46 = .ok (.getfield 18, 3) := by decide +kernel
theorem d_T_isSafeState_49 : decode b_T_isSafeState 49 = .ok (.dsub, 1) := by decide +kernel
theorem d_T_isSafeState_50 : decode b_T_isSafeState 50 = .ok (.invokevirtual 107, 3) := by decide +kernel
theorem d_T_isSafeState_53 : decode b_T_isSafeState 53 = .ok (.dcmp .g, 1) := by decide +kernel
theorem d_T_isSafeState_54 : decode b_T_isSafeState 54 = .ok (.ifCond .gt 19, 3) := by decide +kernel
theorem d_T_isSafeState_57 : decode b_T_isSafeState 57 = .ok (.aload_n 0, 1) := by decide +kernel
theorem d_T_isSafeState_58 : decode b_T_isSafeState 58 = .ok (.aload_n 1, 1) := by decide +kernel
theorem d_T_isSafeState_59 : decode b_T_isSafeState 59 = .ok (.dload 8, 2) := by decide +kernel
theorem d_T_isSafeState_61 : decode b_T_isSafeState 61 = .ok (.dload 6, 2) := by decide +kernel
theorem d_T_isSafeState_63 : decode b_T_isSafeState 63 = .ok (.invokevirtual 110, 3) := by decide +kernel
theorem d_T_isSafeState_66 : decode b_T_isSafeState 66 = .ok (.ifCond .eq 7, 3) := by decide +kernel
theorem d_T_isSafeState_69 : decode b_T_isSafeState 69 = .ok (.iconst 1, 1) := by decide +kernel
theorem d_T_isSafeState_70 : decode b_T_isSafeState 70 = .ok (.goto 4, 3) := by decide +kernel
theorem d_T_isSafeState_73 : decode b_T_isSafeState 73 = .ok (.iconst 0, 1) := by decide +kernel
theorem d_T_isSafeState_74 : decode b_T_isSafeState 74 = .ok (.ireturn, 1) := by decide +kernel
theorem gl_T_107 : ∀ w ∈ wsV "TrainGuard$Train" 107 "TrainGuard$Line" y_L_limitNear (Cond.code y_L_limitNear b_L_limitNear 3 (some Jvm.ClassFile.FieldType.double) :: tG), w ∈ tG := by
  intro x hx
  simp only [wsV, List.cons_append, List.nil_append, List.mem_cons] at hx
  rcases hx with rfl | rfl | rfl | rfl | rfl | hx
  · exact wd_386
  · exact wd_387
  · exact wd_388
  · exact wd_2
  · exact wd_389
  · exact hx
theorem gl_T_110 : ∀ w ∈ wsV "TrainGuard$Train" 110 "TrainGuard$Train" y_T_meetsLimitsAhead (Cond.code y_T_meetsLimitsAhead b_T_meetsLimitsAhead 10 (some Jvm.ClassFile.FieldType.boolean) :: tG), w ∈ tG := by
  intro x hx
  simp only [wsV, List.cons_append, List.nil_append, List.mem_cons] at hx
  rcases hx with rfl | rfl | rfl | rfl | rfl | hx
  · exact wd_398
  · exact wd_400
  · exact ws_8
  · exact wd_3
  · exact wd_401
  · exact hx
def w_T_isSafeState (S : SC) (i : Nat) (x2 : UInt64) (x3 : UInt64) (x4 : UInt64) (Q : Int32 → SC → Prop) : Prop := vf_n64 (FP.dadd x2 x3) ∧ (∀ f1 : UInt64, f1 = FP.dadd x2 x3 → ((((S.1 7 i) = 0) → (Q 0 S)) ∧ ((¬ (S.1 7 i) = 0) → (w_T_isSafe S i (S.2 11 i) f1 x4 FP.dconst0 (fun r2 S3 => ((r2 = 0) → (Q 0 S3)) ∧ ((¬ r2 = 0) → (w_L_limitNear S3 f1 (fun r4 S5 => ((0 < (Op.cmpValue (FP.dcmp x4 r4) .g)) → (Q 0 S5)) ∧ ((¬ 0 < (Op.cmpValue (FP.dcmp x4 r4) .g)) → (vf_n64 (FP.dsub x2 (S5.2 5 i)) ∧ (∀ f6 : UInt64, f6 = FP.dsub x2 (S5.2 5 i) → (w_L_limitNear S5 f6 (fun r7 S8 => ((0 < (Op.cmpValue (FP.dcmp x4 r7) .g)) → (Q 0 S8)) ∧ ((¬ 0 < (Op.cmpValue (FP.dcmp x4 r7) .g)) → (w_T_meetsLimitsAhead S8 i f1 x4 (fun r9 S10 => ((r9 = 0) → (Q 0 S10)) ∧ ((¬ r9 = 0) → (Q 1 S10))))))))))))))))))
set_option maxRecDepth 100000 in
set_option maxHeartbeats 4000000 in
theorem c_T_isSafeState (l : Launch) (D : va_G) (ca : Nat → ClassId) (ad : Nat → Nat) (sz : Nat) (S : SC) (i : Nat) (x2 : UInt64) (x3 : UInt64) (x4 : UInt64) (hi : i < 3) (Q : Int32 → SC → Prop) (h : w_T_isSafeState S i x2 x3 x4 Q) : Met l y_T_isSafeState (Cond.code y_T_isSafeState b_T_isSafeState 10 (some Jvm.ClassFile.FieldType.boolean) :: tG) ({ frames := 3, cells := 0, slots := 0, locals := 88 } : Room) (xPc D ca (wC ca ad) S sz [.ref (ad (9 + i)), .ref (ad 1), .double x2, .double x3, .double x4]) (va_Qi Q (xAt D (wC ca ad) (va_A (wC ca ad S) sz)) (va_A (wC ca ad S) sz)) 0 0 (va_A (wC ca ad S) sz) := by
  refine xx_met (Qf := fun A => va_Qi Q (xAt D (wC ca ad) A) A) (by decide) (Nat.le_of_ble_eq_true rfl) ?_
  intro p e s m args below meth c A ls hx hb hr hw hown hlocks hml hK hN hA hP hD hS hl
  have hown : s.vm.findClass "TrainGuard$Train" = some m.cls := hown
  have hl : lv_has ls 10 [(0, .ref (ad (9 + i))), (1, .ref (ad 1)), (2, .double x2), (4, .double x3), (6, .double x4)] := hl
  unfold w_T_isSafeState at h
  have hH9 : ∀ H : Heap, H = s.heap → va_P D cls (wC ca ad S) H → va_S A s.heap H [] → W p l e ({ frames := 3, cells := 0, slots := 0, locals := 88 } : Room) s m args below meth c H [] 0 0 (MQ below ((fun A => va_Qi Q (xAt D (wC ca ad) A) A) A) args s 0 0 A) (F0 m 0 ls []) := by
    clear hP hS
    intro H hH hP hS
    obtain ⟨locs, hlo⟩ : ∃ z : List Loc, z = [] := ⟨_, rfl⟩
    rw [← hlo] at hS ⊢
    refine lv_dload_n hx hb d_T_isSafeState_0 rfl (lv_at hl 2 rfl) ?_
    refine lv_dload hx hb d_T_isSafeState_1 (lv_at hl 3 rfl) ?_
    obtain ⟨hq, h⟩ := h
    refine lv_dadd hx hb d_T_isSafeState_3 hq ?_
    refine lv_topd (fun f1 e_f1 => ?_)
    replace h := h f1 e_f1
    refine lv_dstore (lv' := [(8, .double f1), (0, .ref (ad (9 + i))), (1, .ref (ad 1)), (2, .double x2), (4, .double x3), (6, .double x4)]) hx hb d_T_isSafeState_4 hl (by decide) rfl (fun ls hl => ?_)
    refine lv_aload_n hx hb d_T_isSafeState_6 rfl (lv_at hl 1 rfl) ?_
    refine va_get (D := D) (ci := 2) (v := .int (S.1 7 i)) (C := Rc_T) (T := Fc_T) (N := 11) hx hb hw inc_T hown hK hP (9 + i) (wC_T hi) rfl 8 (by decide) (hw _ wd_103) (fun _ h9 => h9) rfl d_T_isSafeState_7 ?_
    refine lv_if_eq (tgt := 73) hx hb d_T_isSafeState_10 (by decide) (fun hc => ?_) (fun hc => ?_)
    · replace h := h.1 hc
      refine lv_iconst (v := 0) hx hb d_T_isSafeState_73 (by decide) ?_
      exact W.zret (v := 0) hx hb hr rfl (fun t ht hW => ⟨⟨0, S, rfl, h, by rw [ht]; exact hP, hD⟩, hS.F ht⟩) hS.2.2 d_T_isSafeState_74
    · replace h := h.2 hc
      refine lv_aload_n hx hb d_T_isSafeState_13 rfl (lv_at hl 1 rfl) ?_
      refine lv_aload_n hx hb d_T_isSafeState_14 rfl (lv_at hl 1 rfl) ?_
      refine va_get (D := D) (ci := 2) (v := .double (S.2 11 i)) (C := Rc_T) (T := Fc_T) (N := 11) hx hb hw inc_T hown hK hP (9 + i) (wC_T hi) rfl 7 (by decide) (hw _ wd_101) (fun _ h9 => h9) rfl d_T_isSafeState_15 ?_
      refine lv_dload hx hb d_T_isSafeState_18 (lv_at hl 0 rfl) ?_
      refine lv_dload hx hb d_T_isSafeState_20 (lv_at hl 5 rfl) ?_
      refine lv_dconst0 hx hb d_T_isSafeState_22 ?_
      refine xx_calli (va_runV (As := [.double (S.2 11 i), .double f1, .double x4, .double FP.dconst0]) (rest := []) ⟨hx, hb, hml, hown, hw⟩ (c_T_isSafe l D ca ad H.size S i (S.2 11 i) f1 x4 FP.dconst0 hi _ h) (cwV 4 hw (tG_g gl_T_56) rfl rfl rfl (by decide +kernel) ⟨Nat.le_of_ble_eq_true rfl, Nat.le_of_ble_eq_true rfl⟩) ⟨xPc.blind, va_recv hK hP rfl (wC_T hi), xPc.pre hK hN hP hD⟩ rfl rfl hl.1 rfl (lv_room (Nat.le_of_ble_eq_true rfl)) d_T_isSafeState_23 ⟨Nat.le_of_ble_eq_true rfl, Nat.le_of_ble_eq_true rfl⟩) hD hS hA (fun r2 S3 H locs h hP hD hS => ?_)
      refine lv_if_eq (tgt := 73) hx hb d_T_isSafeState_26 (by decide) (fun hc => ?_) (fun hc => ?_)
      · replace h := h.1 hc
        refine lv_iconst (v := 0) hx hb d_T_isSafeState_73 (by decide) ?_
        exact W.zret (v := 0) hx hb hr rfl (fun t ht hW => ⟨⟨0, S3, rfl, h, by rw [ht]; exact hP, hD⟩, hS.F ht⟩) hS.2.2 d_T_isSafeState_74
      · replace h := h.2 hc
        refine lv_dload hx hb d_T_isSafeState_29 (lv_at hl 5 rfl) ?_
        refine lv_aload_n hx hb d_T_isSafeState_31 rfl (lv_at hl 2 rfl) ?_
        refine lv_dload hx hb d_T_isSafeState_32 (lv_at hl 0 rfl) ?_
        refine xx_calld (va_runV (As := [.double f1]) (rest := [.double x4]) ⟨hx, hb, hml, hown, hw⟩ (c_L_limitNear l D ca ad H.size S3 f1 _ h) (cwV 1 hw (tG_g gl_T_107) rfl rfl rfl (by decide +kernel) ⟨Nat.le_of_ble_eq_true rfl, Nat.le_of_ble_eq_true rfl⟩) ⟨xPc.blind, va_recv hK hP rfl (q0 := 1) rfl, xPc.pre hK hN hP hD⟩ rfl rfl hl.1 rfl (lv_room (Nat.le_of_ble_eq_true rfl)) d_T_isSafeState_34 ⟨Nat.le_of_ble_eq_true rfl, Nat.le_of_ble_eq_true rfl⟩) hD hS hA (fun r4 S5 H locs h hP hD hS => ?_)
        refine lv_dcmp hx hb d_T_isSafeState_37 ?_
        refine lv_if_gt (tgt := 73) hx hb d_T_isSafeState_38 (by decide) (fun hc => ?_) (fun hc => ?_)
        · replace h := h.1 hc
          refine lv_iconst (v := 0) hx hb d_T_isSafeState_73 (by decide) ?_
          exact W.zret (v := 0) hx hb hr rfl (fun t ht hW => ⟨⟨0, S5, rfl, h, by rw [ht]; exact hP, hD⟩, hS.F ht⟩) hS.2.2 d_T_isSafeState_74
        · replace h := h.2 hc
          refine lv_dload hx hb d_T_isSafeState_41 (lv_at hl 5 rfl) ?_
          refine lv_aload_n hx hb d_T_isSafeState_43 rfl (lv_at hl 2 rfl) ?_
          refine lv_dload_n hx hb d_T_isSafeState_44 rfl (lv_at hl 3 rfl) ?_
          refine lv_aload_n hx hb d_T_isSafeState_45 rfl (lv_at hl 1 rfl) ?_
          refine va_get (D := D) (ci := 2) (v := .double (S5.2 5 i)) (C := Rc_T) (T := Fc_T) (N := 11) hx hb hw inc_T hown hK hP (9 + i) (wC_T hi) rfl 1 (by decide) (hw _ wd_91) (fun _ h9 => h9) rfl d_T_isSafeState_46 ?_
          obtain ⟨hq, h⟩ := h
          refine lv_dsub hx hb d_T_isSafeState_49 hq ?_
          refine lv_topd (fun f6 e_f6 => ?_)
          replace h := h f6 e_f6
          refine xx_calld (va_runV (As := [.double f6]) (rest := [.double x4]) ⟨hx, hb, hml, hown, hw⟩ (c_L_limitNear l D ca ad H.size S5 f6 _ h) (cwV 1 hw (tG_g gl_T_107) rfl rfl rfl (by decide +kernel) ⟨Nat.le_of_ble_eq_true rfl, Nat.le_of_ble_eq_true rfl⟩) ⟨xPc.blind, va_recv hK hP rfl (q0 := 1) rfl, xPc.pre hK hN hP hD⟩ rfl rfl hl.1 rfl (lv_room (Nat.le_of_ble_eq_true rfl)) d_T_isSafeState_50 ⟨Nat.le_of_ble_eq_true rfl, Nat.le_of_ble_eq_true rfl⟩) hD hS hA (fun r7 S8 H locs h hP hD hS => ?_)
          refine lv_dcmp hx hb d_T_isSafeState_53 ?_
          refine lv_if_gt (tgt := 73) hx hb d_T_isSafeState_54 (by decide) (fun hc => ?_) (fun hc => ?_)
          · replace h := h.1 hc
            refine lv_iconst (v := 0) hx hb d_T_isSafeState_73 (by decide) ?_
            exact W.zret (v := 0) hx hb hr rfl (fun t ht hW => ⟨⟨0, S8, rfl, h, by rw [ht]; exact hP, hD⟩, hS.F ht⟩) hS.2.2 d_T_isSafeState_74
          · replace h := h.2 hc
            refine lv_aload_n hx hb d_T_isSafeState_57 rfl (lv_at hl 1 rfl) ?_
            refine lv_aload_n hx hb d_T_isSafeState_58 rfl (lv_at hl 2 rfl) ?_
            refine lv_dload hx hb d_T_isSafeState_59 (lv_at hl 0 rfl) ?_
            refine lv_dload hx hb d_T_isSafeState_61 (lv_at hl 5 rfl) ?_
            refine xx_calli (va_runV (As := [.ref (ad 1), .double f1, .double x4]) (rest := []) ⟨hx, hb, hml, hown, hw⟩ (c_T_meetsLimitsAhead l D ca ad H.size S8 i f1 x4 hi _ h) (cwV 3 hw (tG_g gl_T_110) rfl rfl rfl (by decide +kernel) ⟨Nat.le_of_ble_eq_true rfl, Nat.le_of_ble_eq_true rfl⟩) ⟨xPc.blind, va_recv hK hP rfl (wC_T hi), xPc.pre hK hN hP hD⟩ rfl rfl hl.1 rfl (lv_room (Nat.le_of_ble_eq_true rfl)) d_T_isSafeState_63 ⟨Nat.le_of_ble_eq_true rfl, Nat.le_of_ble_eq_true rfl⟩) hD hS hA (fun r9 S10 H locs h hP hD hS => ?_)
            refine lv_if_eq (tgt := 73) hx hb d_T_isSafeState_66 (by decide) (fun hc => ?_) (fun hc => ?_)
            · replace h := h.1 hc
              refine lv_iconst (v := 0) hx hb d_T_isSafeState_73 (by decide) ?_
              exact W.zret (v := 0) hx hb hr rfl (fun t ht hW => ⟨⟨0, S10, rfl, h, by rw [ht]; exact hP, hD⟩, hS.F ht⟩) hS.2.2 d_T_isSafeState_74
            · replace h := h.2 hc
              refine lv_iconst (v := 1) hx hb d_T_isSafeState_69 (by decide) ?_
              refine lv_goto (tgt := 74) hx hb d_T_isSafeState_70 (by decide) ?_
              exact W.zret (v := 1) hx hb hr rfl (fun t ht hW => ⟨⟨1, S10, rfl, h, by rw [ht]; exact hP, hD⟩, hS.F ht⟩) hS.2.2 d_T_isSafeState_74
  exact hH9 _ rfl hP hS
theorem d_T_isSafeNow_0 : decode b_T_isSafeNow 0 = .ok (.aload_n 0, 1) := by decide +kernel
theorem d_T_isSafeNow_1 : decode b_T_isSafeNow 1 = .ok (.aload_n 1, 1) := by decide +kernel
theorem d_T_isSafeNow_2 : decode b_T_isSafeNow 2 = .ok (.aload_n 0, 1) := by decide +kernel
theorem d_T_isSafeNow_3 : decode b_T_isSafeNow 3 = .ok (.getfield 28, 3) := by decide +kernel
theorem d_T_isSafeNow_6 : decode b_T_isSafeNow 6 = .ok (.aload_n 0, 1) := by decide +kernel
theorem d_T_isSafeNow_7 : decode b_T_isSafeNow 7 = .ok (.getfield 53, 3) := by decide +kernel
theorem d_T_isSafeNow_10 : decode b_T_isSafeNow 10 = .ok (.aload_n 0, 1) := by decide +kernel
theorem d_T_isSafeNow_11 : decode b_T_isSafeNow 11 = .ok (.getfield 31, 3) := by decide +kernel
theorem d_T_isSafeNow_14 : decode b_T_isSafeNow 14 = .ok (.invokevirtual 60, 3) := by decide +kernel
theorem d_T_isSafeNow_17 : decode b_T_isSafeNow 17 = .ok (.ireturn, 1) := by decide +kernel
theorem gl_T_60 : ∀ w ∈ wsV "TrainGuard$Train" 60 "TrainGuard$Train" y_T_isSafeState (Cond.code y_T_isSafeState b_T_isSafeState 10 (some Jvm.ClassFile.FieldType.boolean) :: tG), w ∈ tG := by
  intro x hx
  simp only [wsV, List.cons_append, List.nil_append, List.mem_cons] at hx
  rcases hx with rfl | rfl | rfl | rfl | rfl | hx
  · exact wd_372
  · exact wd_374
  · exact ws_6
  · exact wd_3
  · exact wd_375
  · exact hx
def w_T_isSafeNow (S : SC) (i : Nat) (Q : Int32 → SC → Prop) : Prop := w_T_isSafeState S i (S.2 9 i) (S.2 10 i) (S.2 7 i) (fun r1 S2 => narrow .boolean (.int r1) = .int r1 ∧ Q r1 S2)
set_option maxRecDepth 100000 in
set_option maxHeartbeats 4000000 in
theorem c_T_isSafeNow (l : Launch) (D : va_G) (ca : Nat → ClassId) (ad : Nat → Nat) (sz : Nat) (S : SC) (i : Nat) (hi : i < 3) (Q : Int32 → SC → Prop) (h : w_T_isSafeNow S i Q) : Met l y_T_isSafeNow (Cond.code y_T_isSafeNow b_T_isSafeNow 2 (some Jvm.ClassFile.FieldType.boolean) :: tG) ({ frames := 4, cells := 0, slots := 0, locals := 117 } : Room) (xPc D ca (wC ca ad) S sz [.ref (ad (9 + i)), .ref (ad 1)]) (va_Qi Q (xAt D (wC ca ad) (va_A (wC ca ad S) sz)) (va_A (wC ca ad S) sz)) 0 0 (va_A (wC ca ad S) sz) := by
  refine xx_met (Qf := fun A => va_Qi Q (xAt D (wC ca ad) A) A) (by decide) (Nat.le_of_ble_eq_true rfl) ?_
  intro p e s m args below meth c A ls hx hb hr hw hown hlocks hml hK hN hA hP hD hS hl
  have hown : s.vm.findClass "TrainGuard$Train" = some m.cls := hown
  have hl : lv_has ls 2 [(0, .ref (ad (9 + i))), (1, .ref (ad 1))] := hl
  unfold w_T_isSafeNow at h
  have hH9 : ∀ H : Heap, H = s.heap → va_P D cls (wC ca ad S) H → va_S A s.heap H [] → W p l e ({ frames := 4, cells := 0, slots := 0, locals := 117 } : Room) s m args below meth c H [] 0 0 (MQ below ((fun A => va_Qi Q (xAt D (wC ca ad) A) A) A) args s 0 0 A) (F0 m 0 ls []) := by
    clear hP hS
    intro H hH hP hS
    obtain ⟨locs, hlo⟩ : ∃ z : List Loc, z = [] := ⟨_, rfl⟩
    rw [← hlo] at hS ⊢
    refine lv_aload_n hx hb d_T_isSafeNow_0 rfl (lv_at hl 0 rfl) ?_
    refine lv_aload_n hx hb d_T_isSafeNow_1 rfl (lv_at hl 1 rfl) ?_
    refine lv_aload_n hx hb d_T_isSafeNow_2 rfl (lv_at hl 0 rfl) ?_
    refine va_get (D := D) (ci := 2) (v := .double (S.2 9 i)) (C := Rc_T) (T := Fc_T) (N := 11) hx hb hw inc_T hown hK hP (9 + i) (wC_T hi) rfl 5 (by decide) (hw _ wd_97) (fun _ h9 => h9) rfl d_T_isSafeNow_3 ?_
    refine lv_aload_n hx hb d_T_isSafeNow_6 rfl (lv_at hl 0 rfl) ?_
    refine va_get (D := D) (ci := 2) (v := .double (S.2 10 i)) (C := Rc_T) (T := Fc_T) (N := 11) hx hb hw inc_T hown hK hP (9 + i) (wC_T hi) rfl 6 (by decide) (hw _ wd_99) (fun _ h9 => h9) rfl d_T_isSafeNow_7 ?_
    refine lv_aload_n hx hb d_T_isSafeNow_10 rfl (lv_at hl 0 rfl) ?_
    refine va_get (D := D) (ci := 2) (v := .double (S.2 7 i)) (C := Rc_T) (T := Fc_T) (N := 11) hx hb hw inc_T hown hK hP (9 + i) (wC_T hi) rfl 3 (by decide) (hw _ wd_93) (fun _ h9 => h9) rfl d_T_isSafeNow_11 ?_
    refine xx_calli (va_runV (As := [.ref (ad 1), .double (S.2 9 i), .double (S.2 10 i), .double (S.2 7 i)]) (rest := []) ⟨hx, hb, hml, hown, hw⟩ (c_T_isSafeState l D ca ad H.size S i (S.2 9 i) (S.2 10 i) (S.2 7 i) hi _ h) (cwV 4 hw (tG_g gl_T_60) rfl rfl rfl (by decide +kernel) ⟨Nat.le_of_ble_eq_true rfl, Nat.le_of_ble_eq_true rfl⟩) ⟨xPc.blind, va_recv hK hP rfl (wC_T hi), xPc.pre hK hN hP hD⟩ rfl rfl hl.1 rfl (lv_room (Nat.le_of_ble_eq_true rfl)) d_T_isSafeNow_14 ⟨Nat.le_of_ble_eq_true rfl, Nat.le_of_ble_eq_true rfl⟩) hD hS hA (fun r1 S2 H locs h hP hD hS => ?_)
    obtain ⟨hq, h⟩ := h
    exact W.zret (v := r1) hx hb hr hq (fun t ht hW => ⟨⟨r1, S2, rfl, h, by rw [ht]; exact hP, hD⟩, hS.F ht⟩) hS.2.2 d_T_isSafeNow_17
  exact hH9 _ rfl hP hS
theorem d_T_accept_0 : decode b_T_accept 0 = .ok (.aload_n 0, 1) := by decide +kernel
theorem d_T_accept_1 : decode b_T_accept 1 = .ok (.dload_n 1, 1) := by decide +kernel
theorem d_T_accept_2 : decode b_T_accept 2 = .ok (.putfield 42, 3) := by decide +kernel
theorem d_T_accept_5 : decode b_T_accept 5 = .ok (.aload_n 0, 1) := by decide +kernel
theorem d_T_accept_6 : decode b_T_accept 6 = .ok (.iconst 1, 1) := by decide +kernel
theorem d_T_accept_7 : decode b_T_accept 7 = .ok (.putfield 34, 3) := by decide +kernel
theorem d_T_accept_10 : decode b_T_accept 10 = .ok (.aload_n 0, 1) := by decide +kernel
theorem d_T_accept_11 : decode b_T_accept 11 = .ok (.getfield 38, 3) := by decide +kernel
theorem d_T_accept_14 : decode b_T_accept 14 = .ok (.iconst 1, 1) := by decide +kernel
theorem d_T_accept_15 : decode b_T_accept 15 = .ok (.if_icmp .ne 23, 3) := by decide +kernel
theorem d_T_accept_18 : decode b_T_accept 18 = .ok (.aload_n 0, 1) := by decide +kernel
theorem d_T_accept_19 : decode b_T_accept 19 = .ok (.invokevirtual 45, 3) := by decide +kernel
theorem d_T_accept_22 : decode b_T_accept 22 = .ok (.ifCond .eq 16, 3) := by decide +kernel
theorem d_T_accept_25 : decode b_T_accept 25 = .ok (.aload_n 0, 1) := by decide +kernel
theorem d_T_accept_26 : decode b_T_accept 26 = .ok (.aload_n 3, 1) := by decide +kernel
theorem d_T_accept_27 : decode b_T_accept 27 = .ok (.invokevirtual 49, 3) := by decide +kernel
theorem d_T_accept_30 : decode b_T_accept 30 = .ok (.ifCond .eq 8, 3) := by decide +kernel
theorem d_T_accept_33 : decode b_T_accept 33 = .ok (.aload_n 0, 1) := by decide +kernel
theorem d_T_accept_34 : decode b_T_accept 34 = .ok (.iconst 2, 1) := by decide +kernel
theorem d_T_accept_35 : decode b_T_accept 35 = .ok (.putfield 38, 3) := by decide +kernel
theorem d_T_accept_38 : decode b_T_accept 38 = .ok (.return_, 1) := by decide +kernel
theorem gl_T_45 : ∀ w ∈ wsV "TrainGuard$Train" 45 "TrainGuard$Train" y_T_stands (Cond.code y_T_stands b_T_stands 1 (some Jvm.ClassFile.FieldType.boolean) :: tG), w ∈ tG := by
  intro x hx
  simp only [wsV, List.cons_append, List.nil_append, List.mem_cons] at hx
  rcases hx with rfl | rfl | rfl | rfl | rfl | hx
  · exact wd_480
  · exact wd_481
  · exact wd_482
  · exact wd_3
  · exact wd_483
  · exact hx
theorem gl_T_49 : ∀ w ∈ wsV "TrainGuard$Train" 49 "TrainGuard$Train" y_T_isSafeNow (Cond.code y_T_isSafeNow b_T_isSafeNow 2 (some Jvm.ClassFile.FieldType.boolean) :: tG), w ∈ tG := by
  intro x hx
  simp only [wsV, List.cons_append, List.nil_append, List.mem_cons] at hx
  rcases hx with rfl | rfl | rfl | rfl | rfl | hx
  · exact wd_484
  · exact wd_369
  · exact wd_370
  · exact wd_3
  · exact wd_371
  · exact hx
def w_T_accept (S : SC) (i : Nat) (x1 : UInt64) (Q : SC → Prop) : Prop := ((¬ ((pI (pV S 11 i x1) 7 i 1).1 9 i) = 1) → (Q (pI (pV S 11 i x1) 7 i 1))) ∧ ((((pI (pV S 11 i x1) 7 i 1).1 9 i) = 1) → (w_T_stands (pI (pV S 11 i x1) 7 i 1) i (fun r1 S2 => ((r1 = 0) → (Q S2)) ∧ ((¬ r1 = 0) → (w_T_isSafeNow S2 i (fun r3 S4 => ((r3 = 0) → (Q S4)) ∧ ((¬ r3 = 0) → (Q (pI S4 9 i 2)))))))))
set_option maxRecDepth 100000 in
set_option maxHeartbeats 4000000 in
theorem c_T_accept (l : Launch) (D : va_G) (ca : Nat → ClassId) (ad : Nat → Nat) (sz : Nat) (S : SC) (i : Nat) (x1 : UInt64) (hi : i < 3) (Q : SC → Prop) (h : w_T_accept S i x1 Q) : Met l y_T_accept (Cond.code y_T_accept b_T_accept 4 none :: tG) ({ frames := 5, cells := 0, slots := 0, locals := 138 } : Room) (xPc D ca (wC ca ad) S sz [.ref (ad (9 + i)), .double x1, .ref (ad 1)]) (va_Qv Q (xAt D (wC ca ad) (va_A (wC ca ad S) sz)) (va_A (wC ca ad S) sz)) 0 0 (va_A (wC ca ad S) sz) := by
  refine xx_met (Qf := fun A => va_Qv Q (xAt D (wC ca ad) A) A) (by decide) (Nat.le_of_ble_eq_true rfl) ?_
  intro p e s m args below meth c A ls hx hb hr hw hown hlocks hml hK hN hA hP hD hS hl
  have hown : s.vm.findClass "TrainGuard$Train" = some m.cls := hown
  have hl : lv_has ls 4 [(0, .ref (ad (9 + i))), (1, .double x1), (3, .ref (ad 1))] := hl
  unfold w_T_accept at h
  have hH9 : ∀ H : Heap, H = s.heap → va_P D cls (wC ca ad S) H → va_S A s.heap H [] → W p l e ({ frames := 5, cells := 0, slots := 0, locals := 138 } : Room) s m args below meth c H [] 0 0 (MQ below ((fun A => va_Qv Q (xAt D (wC ca ad) A) A) A) args s 0 0 A) (F0 m 0 ls []) := by
    clear hP hS
    intro H hH hP hS
    obtain ⟨locs, hlo⟩ : ∃ z : List Loc, z = [] := ⟨_, rfl⟩
    rw [← hlo] at hS ⊢
    refine lv_aload_n hx hb d_T_accept_0 rfl (lv_at hl 0 rfl) ?_
    refine lv_dload_n hx hb d_T_accept_1 rfl (lv_at hl 1 rfl) ?_
    refine va_put (D := D) (ci := 2) (v := .double x1) (ty := .double) (C := Rc_T) (T := Fc_T) (N := 11) hx hb hw inc_T tc_T tc_T_ok nc_T hown hK hP hD hS (9 + i) (wC_T hi) rfl 7 (by decide) (hw _ wd_101) (fun _ h9 => h9) rfl (by decide +kernel) rfl rfl (Nat.le_of_ble_eq_true rfl) d_T_accept_2 (fun H locs hP hD hS => ?_)
    rw [pt_T_authority hi] at hP hD
    refine lv_aload_n hx hb d_T_accept_5 rfl (lv_at hl 0 rfl) ?_
    refine lv_iconst (v := 1) hx hb d_T_accept_6 (by decide) ?_
    refine va_put (D := D) (ci := 2) (v := .int 1) (ty := .boolean) (C := Rc_T) (T := Fc_T) (N := 11) hx hb hw inc_T tc_T tc_T_ok nc_T hown hK hP hD hS (9 + i) (wC_T hi) rfl 8 (by decide) (hw _ wd_103) (fun _ h9 => h9) rfl (by decide +kernel) rfl rfl (Nat.le_of_ble_eq_true rfl) d_T_accept_7 (fun H locs hP hD hS => ?_)
    rw [pt_T_hasAuthority hi] at hP hD
    refine lv_aload_n hx hb d_T_accept_10 rfl (lv_at hl 0 rfl) ?_
    refine va_get (D := D) (ci := 2) (v := .int ((pI (pV S 11 i x1) 7 i 1).1 9 i)) (C := Rc_T) (T := Fc_T) (N := 11) hx hb hw inc_T hown hK hP (9 + i) (wC_T hi) rfl 10 (by decide) (hw _ wd_107) (fun _ h9 => h9) rfl d_T_accept_11 ?_
    refine lv_iconst (v := 1) hx hb d_T_accept_14 (by decide) ?_
    refine lv_icmp_ne (tgt := 38) hx hb d_T_accept_15 (by decide) (fun hc => ?_) (fun hc => ?_)
    · replace h := h.1 hc
      exact W.vret hx hb hr (fun t ht hW => ⟨⟨pI (pV S 11 i x1) 7 i 1, rfl, h, by rw [ht]; exact hP, hD⟩, hS.F ht⟩) hS.2.2 d_T_accept_38
    · replace h := h.2 hc
      refine lv_aload_n hx hb d_T_accept_18 rfl (lv_at hl 0 rfl) ?_
      refine xx_calli (va_runV (As := []) (rest := []) ⟨hx, hb, hml, hown, hw⟩ (c_T_stands l D ca ad H.size (pI (pV S 11 i x1) 7 i 1) i hi _ h) (cwV 0 hw (tG_g gl_T_45) rfl rfl rfl (by decide +kernel) ⟨Nat.le_of_ble_eq_true rfl, Nat.le_of_ble_eq_true rfl⟩) ⟨xPc.blind, va_recv hK hP rfl (wC_T hi), xPc.pre hK hN hP hD⟩ rfl rfl hl.1 rfl (lv_room (Nat.le_of_ble_eq_true rfl)) d_T_accept_19 ⟨Nat.le_of_ble_eq_true rfl, Nat.le_of_ble_eq_true rfl⟩) hD hS hA (fun r1 S2 H locs h hP hD hS => ?_)
      refine lv_if_eq (tgt := 38) hx hb d_T_accept_22 (by decide) (fun hc => ?_) (fun hc => ?_)
      · replace h := h.1 hc
        exact W.vret hx hb hr (fun t ht hW => ⟨⟨S2, rfl, h, by rw [ht]; exact hP, hD⟩, hS.F ht⟩) hS.2.2 d_T_accept_38
      · replace h := h.2 hc
        refine lv_aload_n hx hb d_T_accept_25 rfl (lv_at hl 0 rfl) ?_
        refine lv_aload_n hx hb d_T_accept_26 rfl (lv_at hl 2 rfl) ?_
        refine xx_calli (va_runV (As := [.ref (ad 1)]) (rest := []) ⟨hx, hb, hml, hown, hw⟩ (c_T_isSafeNow l D ca ad H.size S2 i hi _ h) (cwV 1 hw (tG_g gl_T_49) rfl rfl rfl (by decide +kernel) ⟨Nat.le_of_ble_eq_true rfl, Nat.le_of_ble_eq_true rfl⟩) ⟨xPc.blind, va_recv hK hP rfl (wC_T hi), xPc.pre hK hN hP hD⟩ rfl rfl hl.1 rfl (lv_room (Nat.le_of_ble_eq_true rfl)) d_T_accept_27 ⟨Nat.le_of_ble_eq_true rfl, Nat.le_of_ble_eq_true rfl⟩) hD hS hA (fun r3 S4 H locs h hP hD hS => ?_)
        refine lv_if_eq (tgt := 38) hx hb d_T_accept_30 (by decide) (fun hc => ?_) (fun hc => ?_)
        · replace h := h.1 hc
          exact W.vret hx hb hr (fun t ht hW => ⟨⟨S4, rfl, h, by rw [ht]; exact hP, hD⟩, hS.F ht⟩) hS.2.2 d_T_accept_38
        · replace h := h.2 hc
          refine lv_aload_n hx hb d_T_accept_33 rfl (lv_at hl 0 rfl) ?_
          refine lv_iconst (v := 2) hx hb d_T_accept_34 (by decide) ?_
          refine va_put (D := D) (ci := 2) (v := .int 2) (ty := .int) (C := Rc_T) (T := Fc_T) (N := 11) hx hb hw inc_T tc_T tc_T_ok nc_T hown hK hP hD hS (9 + i) (wC_T hi) rfl 10 (by decide) (hw _ wd_107) (fun _ h9 => h9) rfl (by decide +kernel) rfl rfl (Nat.le_of_ble_eq_true rfl) d_T_accept_35 (fun H locs hP hD hS => ?_)
          rw [pt_T_mode hi] at hP hD
          exact W.vret hx hb hr (fun t ht hW => ⟨⟨pI S4 9 i 2, rfl, h, by rw [ht]; exact hP, hD⟩, hS.F ht⟩) hS.2.2 d_T_accept_38
  exact hH9 _ rfl hP hS
theorem d_T_wishedSpeed_0 : decode b_T_wishedSpeed 0 = .ok (.aload_n 0, 1) := by decide +kernel
theorem d_T_wishedSpeed_1 : decode b_T_wishedSpeed 1 = .ok (.getfield 31, 3) := by decide +kernel
theorem d_T_wishedSpeed_4 : decode b_T_wishedSpeed 4 = .ok (.dload_n 1, 1) := by decide +kernel
theorem d_T_wishedSpeed_5 : decode b_T_wishedSpeed 5 = .ok (.dadd, 1) := by decide +kernel
theorem d_T_wishedSpeed_6 : decode b_T_wishedSpeed 6 = .ok (.dstore_n 3, 1) := by decide +kernel
theorem d_T_wishedSpeed_7 : decode b_T_wishedSpeed 7 = .ok (.dload_n 3, 1) := by decide +kernel
theorem d_T_wishedSpeed_8 : decode b_T_wishedSpeed 8 = .ok (.dconst 0, 1) := by decide +kernel
theorem d_T_wishedSpeed_9 : decode b_T_wishedSpeed 9 = .ok (.dcmp .g, 1) := by decide +kernel
theorem d_T_wishedSpeed_10 : decode b_T_wishedSpeed 10 = .ok (.ifCond .ge 5, 3) := by decide +kernel
theorem d_T_wishedSpeed_13 : decode b_T_wishedSpeed 13 = .ok (.dconst 0, 1) := by decide +kernel
theorem d_T_wishedSpeed_14 : decode b_T_wishedSpeed 14 = .ok (.dreturn, 1) := by decide +kernel
theorem d_T_wishedSpeed_15 : decode b_T_wishedSpeed 15 = .ok (.aload_n 0, 1) := by decide +kernel
theorem d_T_wishedSpeed_16 : decode b_T_wishedSpeed 16 = .ok (.getfield 38, 3) := by decide +kernel
theorem d_T_wishedSpeed_19 : decode b_T_wishedSpeed 19 = .ok (.iconst 1, 1) := by decide +kernel
theorem d_T_wishedSpeed_20 : decode b_T_wishedSpeed 20 = .ok (.if_icmp .ne 17, 3) := by decide +kernel
theorem d_T_wishedSpeed_23 : decode b_T_wishedSpeed 23 = .ok (.dload_n 3, 1) := by decide +kernel
theorem d_T_wishedSpeed_24 : decode b_T_wishedSpeed 24 = .ok (.ldc2_w 82, 3) := by decide +kernel
theorem d_T_wishedSpeed_27 : decode b_T_wishedSpeed 27 = .ok (.dcmp .l, 1) := by decide +kernel
theorem d_T_wishedSpeed_28 : decode b_T_wishedSpeed 28 = .ok (.ifCond .le 9, 3) := by decide +kernel
theorem d_T_wishedSpeed_31 : decode b_T_wishedSpeed 31 = .ok (.ldc2_w 82, 3) := by decide +kernel
theorem d_T_wishedSpeed_34 : decode b_T_wishedSpeed 34 = .ok (.goto 4, 3) := by decide +kernel
theorem d_T_wishedSpeed_37 : decode b_T_wishedSpeed 37 = .ok (.dload_n 3, 1) := by decide +kernel
theorem d_T_wishedSpeed_38 : decode b_T_wishedSpeed 38 = .ok (.dreturn, 1) := by decide +kernel
def w_T_wishedSpeed (S : SC) (i : Nat) (x1 : UInt64) (Q : UInt64 → SC → Prop) : Prop := vf_n64 (FP.dadd (S.2 7 i) x1) ∧ (∀ f1 : UInt64, f1 = FP.dadd (S.2 7 i) x1 → (((0 ≤ (Op.cmpValue (FP.dcmp f1 FP.dconst0) .g)) → (((¬ (S.1 9 i) = 1) → (Q f1 S)) ∧ (((S.1 9 i) = 1) → ((((Op.cmpValue (FP.dcmp f1 (4617315517961601024 : UInt64)) .l) ≤ 0) → (Q f1 S)) ∧ ((¬ (Op.cmpValue (FP.dcmp f1 (4617315517961601024 : UInt64)) .l) ≤ 0) → (Q (4617315517961601024 : UInt64) S)))))) ∧ ((¬ 0 ≤ (Op.cmpValue (FP.dcmp f1 FP.dconst0) .g)) → (Q FP.dconst0 S))))
set_option maxRecDepth 100000 in
set_option maxHeartbeats 4000000 in
theorem c_T_wishedSpeed (l : Launch) (D : va_G) (ca : Nat → ClassId) (ad : Nat → Nat) (sz : Nat) (S : SC) (i : Nat) (x1 : UInt64) (hi : i < 3) (Q : UInt64 → SC → Prop) (h : w_T_wishedSpeed S i x1 Q) : Met l y_T_wishedSpeed (Cond.code y_T_wishedSpeed b_T_wishedSpeed 5 (some Jvm.ClassFile.FieldType.double) :: tG) ({ frames := 0, cells := 0, slots := 0, locals := 0 } : Room) (xPc D ca (wC ca ad) S sz [.ref (ad (9 + i)), .double x1]) (va_Qd Q (xAt D (wC ca ad) (va_A (wC ca ad S) sz)) (va_A (wC ca ad S) sz)) 0 0 (va_A (wC ca ad S) sz) := by
  refine xx_met (Qf := fun A => va_Qd Q (xAt D (wC ca ad) A) A) (by decide) (Nat.le_of_ble_eq_true rfl) ?_
  intro p e s m args below meth c A ls hx hb hr hw hown hlocks hml hK hN hA hP hD hS hl
  have hown : s.vm.findClass "TrainGuard$Train" = some m.cls := hown
  have hl : lv_has ls 5 [(0, .ref (ad (9 + i))), (1, .double x1)] := hl
  unfold w_T_wishedSpeed at h
  have hH9 : ∀ H : Heap, H = s.heap → va_P D cls (wC ca ad S) H → va_S A s.heap H [] → W p l e ({ frames := 0, cells := 0, slots := 0, locals := 0 } : Room) s m args below meth c H [] 0 0 (MQ below ((fun A => va_Qd Q (xAt D (wC ca ad) A) A) A) args s 0 0 A) (F0 m 0 ls []) := by
    clear hP hS
    intro H hH hP hS
    obtain ⟨locs, hlo⟩ : ∃ z : List Loc, z = [] := ⟨_, rfl⟩
    rw [← hlo] at hS ⊢
    refine lv_aload_n hx hb d_T_wishedSpeed_0 rfl (lv_at hl 0 rfl) ?_
    refine va_get (D := D) (ci := 2) (v := .double (S.2 7 i)) (C := Rc_T) (T := Fc_T) (N := 11) hx hb hw inc_T hown hK hP (9 + i) (wC_T hi) rfl 3 (by decide) (hw _ wd_93) (fun _ h9 => h9) rfl d_T_wishedSpeed_1 ?_
    refine lv_dload_n hx hb d_T_wishedSpeed_4 rfl (lv_at hl 1 rfl) ?_
    obtain ⟨hq, h⟩ := h
    refine lv_dadd hx hb d_T_wishedSpeed_5 hq ?_
    refine lv_topd (fun f1 e_f1 => ?_)
    replace h := h f1 e_f1
    refine lv_dstore_n (lv' := [(3, .double f1), (0, .ref (ad (9 + i))), (1, .double x1)]) hx hb d_T_wishedSpeed_6 rfl hl (by decide) rfl (fun ls hl => ?_)
    refine lv_dload_n hx hb d_T_wishedSpeed_7 rfl (lv_at hl 0 rfl) ?_
    refine lv_dconst0 hx hb d_T_wishedSpeed_8 ?_
    refine lv_dcmp hx hb d_T_wishedSpeed_9 ?_
    refine lv_if_ge (tgt := 15) hx hb d_T_wishedSpeed_10 (by decide) (fun hc => ?_) (fun hc => ?_)
    · replace h := h.1 hc
      refine lv_aload_n hx hb d_T_wishedSpeed_15 rfl (lv_at hl 1 rfl) ?_
      refine va_get (D := D) (ci := 2) (v := .int (S.1 9 i)) (C := Rc_T) (T := Fc_T) (N := 11) hx hb hw inc_T hown hK hP (9 + i) (wC_T hi) rfl 10 (by decide) (hw _ wd_107) (fun _ h9 => h9) rfl d_T_wishedSpeed_16 ?_
      refine lv_iconst (v := 1) hx hb d_T_wishedSpeed_19 (by decide) ?_
      refine lv_icmp_ne (tgt := 37) hx hb d_T_wishedSpeed_20 (by decide) (fun hc => ?_) (fun hc => ?_)
      · replace h := h.1 hc
        refine lv_dload_n hx hb d_T_wishedSpeed_37 rfl (lv_at hl 0 rfl) ?_
        exact W.dret (v := f1) hx hb hr (fun t ht hW => ⟨⟨f1, S, rfl, h, by rw [ht]; exact hP, hD⟩, hS.F ht⟩) hS.2.2 d_T_wishedSpeed_38
      · replace h := h.2 hc
        refine lv_dload_n hx hb d_T_wishedSpeed_23 rfl (lv_at hl 0 rfl) ?_
        refine lv_ldc2d hx hb hown (hw _ wd_501) d_T_wishedSpeed_24 ?_
        refine lv_dcmp hx hb d_T_wishedSpeed_27 ?_
        refine lv_if_le (tgt := 37) hx hb d_T_wishedSpeed_28 (by decide) (fun hc => ?_) (fun hc => ?_)
        · replace h := h.1 hc
          refine lv_dload_n hx hb d_T_wishedSpeed_37 rfl (lv_at hl 0 rfl) ?_
          exact W.dret (v := f1) hx hb hr (fun t ht hW => ⟨⟨f1, S, rfl, h, by rw [ht]; exact hP, hD⟩, hS.F ht⟩) hS.2.2 d_T_wishedSpeed_38
        · replace h := h.2 hc
          refine lv_ldc2d hx hb hown (hw _ wd_501) d_T_wishedSpeed_31 ?_
          refine lv_goto (tgt := 38) hx hb d_T_wishedSpeed_34 (by decide) ?_
          exact W.dret (v := (4617315517961601024 : UInt64)) hx hb hr (fun t ht hW => ⟨⟨(4617315517961601024 : UInt64), S, rfl, h, by rw [ht]; exact hP, hD⟩, hS.F ht⟩) hS.2.2 d_T_wishedSpeed_38
    · replace h := h.2 hc
      refine lv_dconst0 hx hb d_T_wishedSpeed_13 ?_
      exact W.dret (v := FP.dconst0) hx hb hr (fun t ht hW => ⟨⟨FP.dconst0, S, rfl, h, by rw [ht]; exact hP, hD⟩, hS.F ht⟩) hS.2.2 d_T_wishedSpeed_14
  exact hH9 _ rfl hP hS
theorem d_T_brakedSpeed_0 : decode b_T_brakedSpeed 0 = .ok (.aload_n 0, 1) := by decide +kernel
theorem d_T_brakedSpeed_1 : decode b_T_brakedSpeed 1 = .ok (.getfield 31, 3) := by decide +kernel
theorem d_T_brakedSpeed_4 : decode b_T_brakedSpeed 4 = .ok (.aload_n 0, 1) := by decide +kernel
theorem d_T_brakedSpeed_5 : decode b_T_brakedSpeed 5 = .ok (.getfield 84, 3) := by decide +kernel
theorem d_T_brakedSpeed_8 : decode b_T_brakedSpeed 8 = .ok (.ifCond .eq 14, 3) := by decide +kernel
theorem d_T_brakedSpeed_11 : decode b_T_brakedSpeed 11 = .ok (.aload_n 0, 1) := by decide +kernel
theorem d_T_brakedSpeed_12 : decode b_T_brakedSpeed 12 = .ok (.getfield 22, 3) := by decide +kernel
theorem d_T_brakedSpeed_15 : decode b_T_brakedSpeed 15 = .ok (.ldc2_w 64, 3) := by decide +kernel
theorem d_T_brakedSpeed_18 : decode b_T_brakedSpeed 18 = .ok (.dmul, 1) := by decide +kernel
theorem d_T_brakedSpeed_19 : decode b_T_brakedSpeed 19 = .ok (.goto 7, 3) := by decide +kernel
theorem d_T_brakedSpeed_22 : decode b_T_brakedSpeed 22 = .ok (.aload_n 0, 1) := by decide +kernel
theorem d_T_brakedSpeed_23 : decode b_T_brakedSpeed 23 = .ok (.getfield 22, 3) := by decide +kernel
theorem d_T_brakedSpeed_26 : decode b_T_brakedSpeed 26 = .ok (.dsub, 1) := by decide +kernel
theorem d_T_brakedSpeed_27 : decode b_T_brakedSpeed 27 = .ok (.dstore_n 1, 1) := by decide +kernel
theorem d_T_brakedSpeed_28 : decode b_T_brakedSpeed 28 = .ok (.dload_n 1, 1) := by decide +kernel
theorem d_T_brakedSpeed_29 : decode b_T_brakedSpeed 29 = .ok (.dconst 0, 1) := by decide +kernel
theorem d_T_brakedSpeed_30 : decode b_T_brakedSpeed 30 = .ok (.dcmp .l, 1) := by decide +kernel
theorem d_T_brakedSpeed_31 : decode b_T_brakedSpeed 31 = .ok (.ifCond .le 7, 3) := by decide +kernel
theorem d_T_brakedSpeed_34 : decode b_T_brakedSpeed 34 = .ok (.dload_n 1, 1) := by decide +kernel
theorem d_T_brakedSpeed_35 : decode b_T_brakedSpeed 35 = .ok (.goto 4, 3) := by decide +kernel
theorem d_T_brakedSpeed_38 : decode b_T_brakedSpeed 38 = .ok (.dconst 0, 1) := by decide +kernel
theorem d_T_brakedSpeed_39 : decode b_T_brakedSpeed 39 = .ok (.dreturn, 1) := by decide +kernel
def w_T_brakedSpeed_26 (i : Nat) (S : SC) (ys0 : UInt64) (ys1 : UInt64) (Q : UInt64 → SC → Prop) : Prop := vf_n64 (FP.dsub ys1 ys0) ∧ (∀ f2 : UInt64, f2 = FP.dsub ys1 ys0 → ((((Op.cmpValue (FP.dcmp f2 FP.dconst0) .l) ≤ 0) → (Q FP.dconst0 S)) ∧ ((¬ (Op.cmpValue (FP.dcmp f2 FP.dconst0) .l) ≤ 0) → (Q f2 S))))
def w_T_brakedSpeed (S : SC) (i : Nat) (Q : UInt64 → SC → Prop) : Prop := (((S.1 8 i) = 0) → (w_T_brakedSpeed_26 i S (S.2 6 i) (S.2 7 i) Q)) ∧ ((¬ (S.1 8 i) = 0) → (vf_n64 (FP.dmul (S.2 6 i) (4602678819172646912 : UInt64)) ∧ (∀ f1 : UInt64, f1 = FP.dmul (S.2 6 i) (4602678819172646912 : UInt64) → (w_T_brakedSpeed_26 i S f1 (S.2 7 i) Q))))
set_option maxRecDepth 100000 in
set_option maxHeartbeats 4000000 in
theorem c_T_brakedSpeed (l : Launch) (D : va_G) (ca : Nat → ClassId) (ad : Nat → Nat) (sz : Nat) (S : SC) (i : Nat) (hi : i < 3) (Q : UInt64 → SC → Prop) (h : w_T_brakedSpeed S i Q) : Met l y_T_brakedSpeed (Cond.code y_T_brakedSpeed b_T_brakedSpeed 3 (some Jvm.ClassFile.FieldType.double) :: tG) ({ frames := 0, cells := 0, slots := 0, locals := 0 } : Room) (xPc D ca (wC ca ad) S sz [.ref (ad (9 + i))]) (va_Qd Q (xAt D (wC ca ad) (va_A (wC ca ad S) sz)) (va_A (wC ca ad S) sz)) 0 0 (va_A (wC ca ad S) sz) := by
  refine xx_met (Qf := fun A => va_Qd Q (xAt D (wC ca ad) A) A) (by decide) (Nat.le_of_ble_eq_true rfl) ?_
  intro p e s m args below meth c A ls hx hb hr hw hown hlocks hml hK hN hA hP hD hS hl
  have hown : s.vm.findClass "TrainGuard$Train" = some m.cls := hown
  have hl : lv_has ls 3 [(0, .ref (ad (9 + i)))] := hl
  unfold w_T_brakedSpeed at h
  have bk_26 : ∀ (S : SC) (ys0 : UInt64) (ys1 : UInt64) (H : Heap) (locs : List Loc) , va_P D cls (wC ca ad S) H → va_D A (wC ca ad S) → va_S A s.heap H locs → ∀ (ls : Array Slot), lv_has ls 3 [] → w_T_brakedSpeed_26 i S ys0 ys1 Q → W p l e ({ frames := 0, cells := 0, slots := 0, locals := 0 } : Room) s m args below meth c H locs 0 0 (MQ below ((fun A => va_Qd Q (xAt D (wC ca ad) A) A) A) args s 0 0 A) (F0 m 26 ls [.double ys0, .double ys1]) := by
    intro S ys0 ys1 H locs hP hD hS ls hl h
    unfold w_T_brakedSpeed_26 at h
    obtain ⟨hq, h⟩ := h
    refine lv_dsub hx hb d_T_brakedSpeed_26 hq ?_
    refine lv_topd (fun f2 e_f2 => ?_)
    replace h := h f2 e_f2
    refine lv_dstore_n (lv' := [(1, .double f2)]) hx hb d_T_brakedSpeed_27 rfl hl (by decide) rfl (fun ls hl => ?_)
    refine lv_dload_n hx hb d_T_brakedSpeed_28 rfl (lv_at hl 0 rfl) ?_
    refine lv_dconst0 hx hb d_T_brakedSpeed_29 ?_
    refine lv_dcmp hx hb d_T_brakedSpeed_30 ?_
    refine lv_if_le (tgt := 38) hx hb d_T_brakedSpeed_31 (by decide) (fun hc => ?_) (fun hc => ?_)
    · replace h := h.1 hc
      refine lv_dconst0 hx hb d_T_brakedSpeed_38 ?_
      exact W.dret (v := FP.dconst0) hx hb hr (fun t ht hW => ⟨⟨FP.dconst0, S, rfl, h, by rw [ht]; exact hP, hD⟩, hS.F ht⟩) hS.2.2 d_T_brakedSpeed_39
    · replace h := h.2 hc
      refine lv_dload_n hx hb d_T_brakedSpeed_34 rfl (lv_at hl 0 rfl) ?_
      refine lv_goto (tgt := 39) hx hb d_T_brakedSpeed_35 (by decide) ?_
      exact W.dret (v := f2) hx hb hr (fun t ht hW => ⟨⟨f2, S, rfl, h, by rw [ht]; exact hP, hD⟩, hS.F ht⟩) hS.2.2 d_T_brakedSpeed_39
  have hH9 : ∀ H : Heap, H = s.heap → va_P D cls (wC ca ad S) H → va_S A s.heap H [] → W p l e ({ frames := 0, cells := 0, slots := 0, locals := 0 } : Room) s m args below meth c H [] 0 0 (MQ below ((fun A => va_Qd Q (xAt D (wC ca ad) A) A) A) args s 0 0 A) (F0 m 0 ls []) := by
    clear hP hS
    intro H hH hP hS
    obtain ⟨locs, hlo⟩ : ∃ z : List Loc, z = [] := ⟨_, rfl⟩
    rw [← hlo] at hS ⊢
    refine lv_aload_n hx hb d_T_brakedSpeed_0 rfl (lv_at hl 0 rfl) ?_
    refine va_get (D := D) (ci := 2) (v := .double (S.2 7 i)) (C := Rc_T) (T := Fc_T) (N := 11) hx hb hw inc_T hown hK hP (9 + i) (wC_T hi) rfl 3 (by decide) (hw _ wd_93) (fun _ h9 => h9) rfl d_T_brakedSpeed_1 ?_
    refine lv_aload_n hx hb d_T_brakedSpeed_4 rfl (lv_at hl 0 rfl) ?_
    refine va_get (D := D) (ci := 2) (v := .int (S.1 8 i)) (C := Rc_T) (T := Fc_T) (N := 11) hx hb hw inc_T hown hK hP (9 + i) (wC_T hi) rfl 9 (by decide) (hw _ wd_106) (fun _ h9 => h9) rfl d_T_brakedSpeed_5 ?_
    refine lv_if_eq (tgt := 22) hx hb d_T_brakedSpeed_8 (by decide) (fun hc => ?_) (fun hc => ?_)
    · replace h := h.1 hc
      refine lv_aload_n hx hb d_T_brakedSpeed_22 rfl (lv_at hl 0 rfl) ?_
      refine va_get (D := D) (ci := 2) (v := .double (S.2 6 i)) (C := Rc_T) (T := Fc_T) (N := 11) hx hb hw inc_T hown hK hP (9 + i) (wC_T hi) rfl 2 (by decide) (hw _ wd_92) (fun _ h9 => h9) rfl d_T_brakedSpeed_23 ?_
      exact bk_26 S (S.2 6 i) (S.2 7 i) H locs hP hD hS ls (lv_sub hl [] rfl) h
    · replace h := h.2 hc
      refine lv_aload_n hx hb d_T_brakedSpeed_11 rfl (lv_at hl 0 rfl) ?_
      refine va_get (D := D) (ci := 2) (v := .double (S.2 6 i)) (C := Rc_T) (T := Fc_T) (N := 11) hx hb hw inc_T hown hK hP (9 + i) (wC_T hi) rfl 2 (by decide) (hw _ wd_92) (fun _ h9 => h9) rfl d_T_brakedSpeed_12 ?_
      refine lv_ldc2d hx hb hown (hw _ wd_385) d_T_brakedSpeed_15 ?_
      obtain ⟨hq, h⟩ := h
      refine lv_dmul hx hb d_T_brakedSpeed_18 hq ?_
      refine lv_topd (fun f1 e_f1 => ?_)
      replace h := h f1 e_f1
      refine lv_goto (tgt := 26) hx hb d_T_brakedSpeed_19 (by decide) ?_
      exact bk_26 S f1 (S.2 7 i) H locs hP hD hS ls (lv_sub hl [] rfl) h
  exact hH9 _ rfl hP hS
theorem d_T_wayTo_0 : decode b_T_wayTo 0 = .ok (.aload_n 0, 1) := by decide +kernel
theorem d_T_wayTo_1 : decode b_T_wayTo 1 = .ok (.getfield 31, 3) := by decide +kernel
theorem d_T_wayTo_4 : decode b_T_wayTo 4 = .ok (.dload_n 1, 1) := by decide +kernel
theorem d_T_wayTo_5 : decode b_T_wayTo 5 = .ok (.dadd, 1) := by decide +kernel
theorem d_T_wayTo_6 : decode b_T_wayTo 6 = .ok (.ldc2_w 64, 3) := by decide +kernel
theorem d_T_wayTo_9 : decode b_T_wayTo 9 = .ok (.dmul, 1) := by decide +kernel
theorem d_T_wayTo_10 : decode b_T_wayTo 10 = .ok (.dreturn, 1) := by decide +kernel
def w_T_wayTo (S : SC) (i : Nat) (x1 : UInt64) (Q : UInt64 → SC → Prop) : Prop := vf_n64 (FP.dadd (S.2 7 i) x1) ∧ (∀ f1 : UInt64, f1 = FP.dadd (S.2 7 i) x1 → (vf_n64 (FP.dmul f1 (4602678819172646912 : UInt64)) ∧ (∀ f2 : UInt64, f2 = FP.dmul f1 (4602678819172646912 : UInt64) → (Q f2 S))))
set_option maxRecDepth 100000 in
set_option maxHeartbeats 4000000 in
theorem c_T_wayTo (l : Launch) (D : va_G) (ca : Nat → ClassId) (ad : Nat → Nat) (sz : Nat) (S : SC) (i : Nat) (x1 : UInt64) (hi : i < 3) (Q : UInt64 → SC → Prop) (h : w_T_wayTo S i x1 Q) : Met l y_T_wayTo (Cond.code y_T_wayTo b_T_wayTo 3 (some Jvm.ClassFile.FieldType.double) :: tG) ({ frames := 0, cells := 0, slots := 0, locals := 0 } : Room) (xPc D ca (wC ca ad) S sz [.ref (ad (9 + i)), .double x1]) (va_Qd Q (xAt D (wC ca ad) (va_A (wC ca ad S) sz)) (va_A (wC ca ad S) sz)) 0 0 (va_A (wC ca ad S) sz) := by
  refine xx_met (Qf := fun A => va_Qd Q (xAt D (wC ca ad) A) A) (by decide) (Nat.le_of_ble_eq_true rfl) ?_
  intro p e s m args below meth c A ls hx hb hr hw hown hlocks hml hK hN hA hP hD hS hl
  have hown : s.vm.findClass "TrainGuard$Train" = some m.cls := hown
  have hl : lv_has ls 3 [(0, .ref (ad (9 + i))), (1, .double x1)] := hl
  unfold w_T_wayTo at h
  have hH9 : ∀ H : Heap, H = s.heap → va_P D cls (wC ca ad S) H → va_S A s.heap H [] → W p l e ({ frames := 0, cells := 0, slots := 0, locals := 0 } : Room) s m args below meth c H [] 0 0 (MQ below ((fun A => va_Qd Q (xAt D (wC ca ad) A) A) A) args s 0 0 A) (F0 m 0 ls []) := by
    clear hP hS
    intro H hH hP hS
    obtain ⟨locs, hlo⟩ : ∃ z : List Loc, z = [] := ⟨_, rfl⟩
    rw [← hlo] at hS ⊢
    refine lv_aload_n hx hb d_T_wayTo_0 rfl (lv_at hl 0 rfl) ?_
    refine va_get (D := D) (ci := 2) (v := .double (S.2 7 i)) (C := Rc_T) (T := Fc_T) (N := 11) hx hb hw inc_T hown hK hP (9 + i) (wC_T hi) rfl 3 (by decide) (hw _ wd_93) (fun _ h9 => h9) rfl d_T_wayTo_1 ?_
    refine lv_dload_n hx hb d_T_wayTo_4 rfl (lv_at hl 1 rfl) ?_
    obtain ⟨hq, h⟩ := h
    refine lv_dadd hx hb d_T_wayTo_5 hq ?_
    refine lv_topd (fun f1 e_f1 => ?_)
    replace h := h f1 e_f1
    refine lv_ldc2d hx hb hown (hw _ wd_385) d_T_wayTo_6 ?_
    obtain ⟨hq, h⟩ := h
    refine lv_dmul hx hb d_T_wayTo_9 hq ?_
    refine lv_topd (fun f2 e_f2 => ?_)
    replace h := h f2 e_f2
    exact W.dret (v := f2) hx hb hr (fun t ht hW => ⟨⟨f2, S, rfl, h, by rw [ht]; exact hP, hD⟩, hS.F ht⟩) hS.2.2 d_T_wayTo_10
  exact hH9 _ rfl hP hS
theorem d_T_isSafeBehind_0 : decode b_T_isSafeBehind 0 = .ok (.aload_n 0, 1) := by decide +kernel
theorem d_T_isSafeBehind_1 : decode b_T_isSafeBehind 1 = .ok (.dload_n 2, 1) := by decide +kernel
theorem d_T_isSafeBehind_2 : decode b_T_isSafeBehind 2 = .ok (.invokevirtual 87, 3) := by decide +kernel
theorem d_T_isSafeBehind_5 : decode b_T_isSafeBehind 5 = .ok (.dstore 4, 2) := by decide +kernel
theorem d_T_isSafeBehind_7 : decode b_T_isSafeBehind 7 = .ok (.aload_n 0, 1) := by decide +kernel
theorem d_T_isSafeBehind_8 : decode b_T_isSafeBehind 8 = .ok (.aload_n 1, 1) := by decide +kernel
theorem d_T_isSafeBehind_9 : decode b_T_isSafeBehind 9 = .ok (.aload_n 0, 1) := by decide +kernel
theorem d_T_isSafeBehind_10 : decode b_T_isSafeBehind 10 = .ok (.getfield 28, 3) := by decide +kernel
theorem d_T_isSafeBehind_13 : decode b_T_isSafeBehind 13 = .ok (.dload 4, 2) := by decide +kernel
theorem d_T_isSafeBehind_15 : decode b_T_isSafeBehind 15 = .ok (.dadd, 1) := by decide +kernel
theorem d_T_isSafeBehind_16 : decode b_T_isSafeBehind 16 = .ok (.aload_n 0, 1) := by decide +kernel
theorem d_T_isSafeBehind_17 : decode b_T_isSafeBehind 17 = .ok (.getfield 53, 3) := by decide +kernel
theorem d_T_isSafeBehind_20 : decode b_T_isSafeBehind 20 = .ok (.ldc2_w 90, 3) := by decide +kernel
theorem d_T_isSafeBehind_23 : decode b_T_isSafeBehind 23 = .ok (.dload 4, 2) := by decide +kernel
theorem d_T_isSafeBehind_25 : decode b_T_isSafeBehind 25 = .ok (.dmul, 1) := by decide +kernel
theorem d_T_isSafeBehind_26 : decode b_T_isSafeBehind 26 = .ok (.dadd, 1) := by decide +kernel
theorem d_T_isSafeBehind_27 : decode b_T_isSafeBehind 27 = .ok (.dload_n 2, 1) := by decide +kernel
theorem d_T_isSafeBehind_28 : decode b_T_isSafeBehind 28 = .ok (.invokevirtual 60, 3) := by decide +kernel
theorem d_T_isSafeBehind_31 : decode b_T_isSafeBehind 31 = .ok (.ireturn, 1) := by decide +kernel
theorem gl_T_87 : ∀ w ∈ wsV "TrainGuard$Train" 87 "TrainGuard$Train" y_T_wayTo (Cond.code y_T_wayTo b_T_wayTo 3 (some Jvm.ClassFile.FieldType.double) :: tG), w ∈ tG := by
  intro x hx
  simp only [wsV, List.cons_append, List.nil_append, List.mem_cons] at hx
  rcases hx with rfl | rfl | rfl | rfl | rfl | hx
  · exact wd_506
  · exact wd_508
  · exact ws_13
  · exact wd_3
  · exact wd_509
  · exact hx
def w_T_isSafeBehind (S : SC) (i : Nat) (x2 : UInt64) (Q : Int32 → SC → Prop) : Prop := w_T_wayTo S i x2 (fun r1 S2 => vf_n64 (FP.dadd (S2.2 9 i) r1) ∧ (∀ f3 : UInt64, f3 = FP.dadd (S2.2 9 i) r1 → (vf_n64 (FP.dmul (4593671619917905920 : UInt64) r1) ∧ (∀ f4 : UInt64, f4 = FP.dmul (4593671619917905920 : UInt64) r1 → (vf_n64 (FP.dadd (S2.2 10 i) f4) ∧ (∀ f5 : UInt64, f5 = FP.dadd (S2.2 10 i) f4 → (w_T_isSafeState S2 i f3 f5 x2 (fun r6 S7 => narrow .boolean (.int r6) = .int r6 ∧ Q r6 S7))))))))
set_option maxRecDepth 100000 in
set_option maxHeartbeats 4000000 in
theorem c_T_isSafeBehind (l : Launch) (D : va_G) (ca : Nat → ClassId) (ad : Nat → Nat) (sz : Nat) (S : SC) (i : Nat) (x2 : UInt64) (hi : i < 3) (Q : Int32 → SC → Prop) (h : w_T_isSafeBehind S i x2 Q) : Met l y_T_isSafeBehind (Cond.code y_T_isSafeBehind b_T_isSafeBehind 6 (some Jvm.ClassFile.FieldType.boolean) :: tG) ({ frames := 4, cells := 0, slots := 0, locals := 117 } : Room) (xPc D ca (wC ca ad) S sz [.ref (ad (9 + i)), .ref (ad 1), .double x2]) (va_Qi Q (xAt D (wC ca ad) (va_A (wC ca ad S) sz)) (va_A (wC ca ad S) sz)) 0 0 (va_A (wC ca ad S) sz) := by
  refine xx_met (Qf := fun A => va_Qi Q (xAt D (wC ca ad) A) A) (by decide) (Nat.le_of_ble_eq_true rfl) ?_
  intro p e s m args below meth c A ls hx hb hr hw hown hlocks hml hK hN hA hP hD hS hl
  have hown : s.vm.findClass "TrainGuard$Train" = some m.cls := hown
  have hl : lv_has ls 6 [(0, .ref (ad (9 + i))), (1, .ref (ad 1)), (2, .double x2)] := hl
  unfold w_T_isSafeBehind at h
  have hH9 : ∀ H : Heap, H = s.heap → va_P D cls (wC ca ad S) H → va_S A s.heap H [] → W p l e ({ frames := 4, cells := 0, slots := 0, locals := 117 } : Room) s m args below meth c H [] 0 0 (MQ below ((fun A => va_Qi Q (xAt D (wC ca ad) A) A) A) args s 0 0 A) (F0 m 0 ls []) := by
    clear hP hS
    intro H hH hP hS
    obtain ⟨locs, hlo⟩ : ∃ z : List Loc, z = [] := ⟨_, rfl⟩
    rw [← hlo] at hS ⊢
    refine lv_aload_n hx hb d_T_isSafeBehind_0 rfl (lv_at hl 0 rfl) ?_
    refine lv_dload_n hx hb d_T_isSafeBehind_1 rfl (lv_at hl 2 rfl) ?_
    refine xx_calld (va_runV (As := [.double x2]) (rest := []) ⟨hx, hb, hml, hown, hw⟩ (c_T_wayTo l D ca ad H.size S i x2 hi _ h) (cwV 1 hw (tG_g gl_T_87) rfl rfl rfl (by decide +kernel) ⟨Nat.le_of_ble_eq_true rfl, Nat.le_of_ble_eq_true rfl⟩) ⟨xPc.blind, va_recv hK hP rfl (wC_T hi), xPc.pre hK hN hP hD⟩ rfl rfl hl.1 rfl (lv_room (Nat.le_of_ble_eq_true rfl)) d_T_isSafeBehind_2 ⟨Nat.le_of_ble_eq_true rfl, Nat.le_of_ble_eq_true rfl⟩) hD hS hA (fun r1 S2 H locs h hP hD hS => ?_)
    refine lv_dstore (lv' := [(4, .double r1), (0, .ref (ad (9 + i))), (1, .ref (ad 1)), (2, .double x2)]) hx hb d_T_isSafeBehind_5 hl (by decide) rfl (fun ls hl => ?_)
    refine lv_aload_n hx hb d_T_isSafeBehind_7 rfl (lv_at hl 1 rfl) ?_
    refine lv_aload_n hx hb d_T_isSafeBehind_8 rfl (lv_at hl 2 rfl) ?_
    refine lv_aload_n hx hb d_T_isSafeBehind_9 rfl (lv_at hl 1 rfl) ?_
    refine va_get (D := D) (ci := 2) (v := .double (S2.2 9 i)) (C := Rc_T) (T := Fc_T) (N := 11) hx hb hw inc_T hown hK hP (9 + i) (wC_T hi) rfl 5 (by decide) (hw _ wd_97) (fun _ h9 => h9) rfl d_T_isSafeBehind_10 ?_
    refine lv_dload hx hb d_T_isSafeBehind_13 (lv_at hl 0 rfl) ?_
    obtain ⟨hq, h⟩ := h
    refine lv_dadd hx hb d_T_isSafeBehind_15 hq ?_
    refine lv_topd (fun f3 e_f3 => ?_)
    replace h := h f3 e_f3
    refine lv_aload_n hx hb d_T_isSafeBehind_16 rfl (lv_at hl 1 rfl) ?_
    refine va_get (D := D) (ci := 2) (v := .double (S2.2 10 i)) (C := Rc_T) (T := Fc_T) (N := 11) hx hb hw inc_T hown hK hP (9 + i) (wC_T hi) rfl 6 (by decide) (hw _ wd_99) (fun _ h9 => h9) rfl d_T_isSafeBehind_17 ?_
    refine lv_ldc2d hx hb hown (hw _ wd_510) d_T_isSafeBehind_20 ?_
    refine lv_dload hx hb d_T_isSafeBehind_23 (lv_at hl 0 rfl) ?_
    obtain ⟨hq, h⟩ := h
    refine lv_dmul hx hb d_T_isSafeBehind_25 hq ?_
    refine lv_topd (fun f4 e_f4 => ?_)
    replace h := h f4 e_f4
    obtain ⟨hq, h⟩ := h
    refine lv_dadd hx hb d_T_isSafeBehind_26 hq ?_
    refine lv_topd (fun f5 e_f5 => ?_)
    replace h := h f5 e_f5
    refine lv_dload_n hx hb d_T_isSafeBehind_27 rfl (lv_at hl 3 rfl) ?_
    refine xx_calli (va_runV (As := [.ref (ad 1), .double f3, .double f5, .double x2]) (rest := []) ⟨hx, hb, hml, hown, hw⟩ (c_T_isSafeState l D ca ad H.size S2 i f3 f5 x2 hi _ h) (cwV 4 hw (tG_g gl_T_60) rfl rfl rfl (by decide +kernel) ⟨Nat.le_of_ble_eq_true rfl, Nat.le_of_ble_eq_true rfl⟩) ⟨xPc.blind, va_recv hK hP rfl (wC_T hi), xPc.pre hK hN hP hD⟩ rfl rfl hl.1 rfl (lv_room (Nat.le_of_ble_eq_true rfl)) d_T_isSafeBehind_28 ⟨Nat.le_of_ble_eq_true rfl, Nat.le_of_ble_eq_true rfl⟩) hD hS hA (fun r6 S7 H locs h hP hD hS => ?_)
    obtain ⟨hq, h⟩ := h
    exact W.zret (v := r6) hx hb hr hq (fun t ht hW => ⟨⟨r6, S7, rfl, h, by rw [ht]; exact hP, hD⟩, hS.F ht⟩) hS.2.2 d_T_isSafeBehind_31
  exact hH9 _ rfl hP hS
theorem d_T_move_0 : decode b_T_move 0 = .ok (.aload_n 0, 1) := by decide +kernel
theorem d_T_move_1 : decode b_T_move 1 = .ok (.dload_n 2, 1) := by decide +kernel
theorem d_T_move_2 : decode b_T_move 2 = .ok (.invokevirtual 87, 3) := by decide +kernel
theorem d_T_move_5 : decode b_T_move 5 = .ok (.dstore 5, 2) := by decide +kernel
theorem d_T_move_7 : decode b_T_move 7 = .ok (.aload_n 0, 1) := by decide +kernel
theorem d_T_move_8 : decode b_T_move 8 = .ok (.getfield 25, 3) := by decide +kernel
theorem d_T_move_11 : decode b_T_move 11 = .ok (.dstore 7, 2) := by decide +kernel
theorem d_T_move_13 : decode b_T_move 13 = .ok (.aload_n 0, 1) := by decide +kernel
theorem d_T_move_14 : decode b_T_move 14 = .ok (.dup, 1) := by decide +kernel
theorem d_T_move_15 : decode b_T_move 15 = .ok (.getfield 28, 3) := by decide +kernel
theorem d_T_move_18 : decode b_T_move 18 = .ok (.dload 5, 2) := by decide +kernel
theorem d_T_move_20 : decode b_T_move 20 = .ok (.dadd, 1) := by decide +kernel
theorem d_T_move_21 : decode b_T_move 21 = .ok (.putfield 28, 3) := by decide +kernel
theorem d_T_move_24 : decode b_T_move 24 = .ok (.aload_n 0, 1) := by decide +kernel
theorem d_T_move_25 : decode b_T_move 25 = .ok (.dup, 1) := by decide +kernel
theorem d_T_move_26 : decode b_T_move 26 = .ok (.getfield 53, 3) := by decide +kernel
theorem d_T_move_29 : decode b_T_move 29 = .ok (.ldc2_w 90, 3) := by decide +kernel
theorem d_T_move_32 : decode b_T_move 32 = .ok (.dload 5, 2) := by decide +kernel
theorem d_T_move_34 : decode b_T_move 34 = .ok (.dmul, 1) := by decide +kernel
theorem d_T_move_35 : decode b_T_move 35 = .ok (.dadd, 1) := by decide +kernel
theorem d_T_move_36 : decode b_T_move 36 = .ok (.putfield 53, 3) := by decide +kernel
theorem d_T_move_39 : decode b_T_move 39 = .ok (.aload_n 0, 1) := by decide +kernel
theorem d_T_move_40 : decode b_T_move 40 = .ok (.dup, 1) := by decide +kernel
theorem d_T_move_41 : decode b_T_move 41 = .ok (.getfield 25, 3) := by decide +kernel
theorem d_T_move_44 : decode b_T_move 44 = .ok (.dload 5, 2) := by decide +kernel
theorem d_T_move_46 : decode b_T_move 46 = .ok (.dconst 1, 1) := by decide +kernel
theorem d_T_move_47 : decode b_T_move 47 = .ok (.ldc2_w 90, 3) := by decide +kernel
theorem d_T_move_50 : decode b_T_move 50 = .ok (.iload 4, 2) := by decide +kernel
theorem d_T_move_52 : decode b_T_move 52 = .ok (.i2d, 1) := by decide +kernel
theorem d_T_move_53 : decode b_T_move 53 = .ok (.dmul, 1) := by decide +kernel
theorem d_T_move_54 : decode b_T_move 54 = .ok (.dadd, 1) := by decide +kernel
theorem d_T_move_55 : decode b_T_move 55 = .ok (.dmul, 1) := by decide +kernel
theorem d_T_move_56 : decode b_T_move 56 = .ok (.dadd, 1) := by decide +kernel
theorem d_T_move_57 : decode b_T_move 57 = .ok (.putfield 25, 3) := by decide +kernel
theorem d_T_move_60 : decode b_T_move 60 = .ok (.aload_n 0, 1) := by decide +kernel
theorem d_T_move_61 : decode b_T_move 61 = .ok (.dload_n 2, 1) := by decide +kernel
theorem d_T_move_62 : decode b_T_move 62 = .ok (.putfield 31, 3) := by decide +kernel
theorem d_T_move_65 : decode b_T_move 65 = .ok (.aload_n 1, 1) := by decide +kernel
theorem d_T_move_66 : decode b_T_move 66 = .ok (.dload 7, 2) := by decide +kernel
theorem d_T_move_68 : decode b_T_move 68 = .ok (.aload_n 0, 1) := by decide +kernel
theorem d_T_move_69 : decode b_T_move 69 = .ok (.getfield 25, 3) := by decide +kernel
theorem d_T_move_72 : decode b_T_move 72 = .ok (.invokevirtual 92, 3) := by decide +kernel
theorem d_T_move_75 : decode b_T_move 75 = .ok (.ifCond .eq 16, 3) := by decide +kernel
theorem d_T_move_78 : decode b_T_move 78 = .ok (.aload_n 0, 1) := by decide +kernel
theorem d_T_move_79 : decode b_T_move 79 = .ok (.aload_n 0, 1) := by decide +kernel
theorem d_T_move_80 : decode b_T_move 80 = .ok (.getfield 25, 3) := by decide +kernel
theorem d_T_move_83 : decode b_T_move 83 = .ok (.putfield 28, 3) := by decide +kernel
theorem d_T_move_86 : decode b_T_move 86 = .ok (.aload_n 0, 1) := by decide +kernel
theorem d_T_move_87 : decode b_T_move 87 = .ok (.dconst 0, 1) := by decide +kernel
theorem d_T_move_88 : decode b_T_move 88 = .ok (.putfield 53, 3) := by decide +kernel
theorem d_T_move_91 : decode b_T_move 91 = .ok (.aload_n 0, 1) := by decide +kernel
theorem d_T_move_92 : decode b_T_move 92 = .ok (.getfield 25, 3) := by decide +kernel
theorem d_T_move_95 : decode b_T_move 95 = .ok (.aload_n 1, 1) := by decide +kernel
theorem d_T_move_96 : decode b_T_move 96 = .ok (.invokevirtual 98, 3) := by decide +kernel
theorem d_T_move_99 : decode b_T_move 99 = .ok (.dcmp .l, 1) := by decide +kernel
theorem d_T_move_100 : decode b_T_move 100 = .ok (.ifCond .lt 29, 3) := by decide +kernel
theorem d_T_move_103 : decode b_T_move 103 = .ok (.aload_n 0, 1) := by decide +kernel
theorem d_T_move_104 : decode b_T_move 104 = .ok (.aload_n 1, 1) := by decide +kernel
theorem d_T_move_105 : decode b_T_move 105 = .ok (.invokevirtual 98, 3) := by decide +kernel
theorem d_T_move_108 : decode b_T_move 108 = .ok (.putfield 25, 3) := by decide +kernel
theorem d_T_move_111 : decode b_T_move 111 = .ok (.aload_n 0, 1) := by decide +kernel
theorem d_T_move_112 : decode b_T_move 112 = .ok (.aload_n 0, 1) := by decide +kernel
theorem d_T_move_113 : decode b_T_move 113 = .ok (.getfield 25, 3) := by decide +kernel
theorem d_T_move_116 : decode b_T_move 116 = .ok (.putfield 28, 3) := by decide +kernel
theorem d_T_move_119 : decode b_T_move 119 = .ok (.aload_n 0, 1) := by decide +kernel
theorem d_T_move_120 : decode b_T_move 120 = .ok (.dconst 0, 1) := by decide +kernel
theorem d_T_move_121 : decode b_T_move 121 = .ok (.putfield 53, 3) := by decide +kernel
theorem d_T_move_124 : decode b_T_move 124 = .ok (.aload_n 0, 1) := by decide +kernel
theorem d_T_move_125 : decode b_T_move 125 = .ok (.dconst 0, 1) := by decide +kernel
theorem d_T_move_126 : decode b_T_move 126 = .ok (.putfield 31, 3) := by decide +kernel
theorem d_T_move_129 : decode b_T_move 129 = .ok (.return_, 1) := by decide +kernel
theorem gl_T_92 : ∀ w ∈ wsV "TrainGuard$Train" 92 "TrainGuard$Line" y_L_hasBeginBetween (Cond.code y_L_hasBeginBetween b_L_hasBeginBetween 6 (some Jvm.ClassFile.FieldType.boolean) :: tG), w ∈ tG := by
  intro x hx
  simp only [wsV, List.cons_append, List.nil_append, List.mem_cons] at hx
  rcases hx with rfl | rfl | rfl | rfl | rfl | hx
  · exact wd_519
  · exact wd_520
  · exact wd_521
  · exact wd_2
  · exact wd_522
  · exact hx
def w_T_move_91 (i : Nat) (S : SC) (Q : SC → Prop) : Prop := w_L_lineEnd S (fun r13 S14 => (((Op.cmpValue (FP.dcmp (S.2 8 i) r13) .l) < 0) → (Q S14)) ∧ ((¬ (Op.cmpValue (FP.dcmp (S.2 8 i) r13) .l) < 0) → (w_L_lineEnd S14 (fun r15 S16 => Q (pV (pV (pV (pV S16 8 i r15) 9 i ((pV S16 8 i r15).2 8 i)) 10 i FP.dconst0) 7 i FP.dconst0)))))
def w_T_move (S : SC) (i : Nat) (x2 : UInt64) (x3 : Int32) (Q : SC → Prop) : Prop := w_T_wayTo S i x2 (fun r1 S2 => vf_n64 (FP.dadd (S2.2 9 i) r1) ∧ (∀ f3 : UInt64, f3 = FP.dadd (S2.2 9 i) r1 → (vf_n64 (FP.dmul (4593671619917905920 : UInt64) r1) ∧ (∀ f4 : UInt64, f4 = FP.dmul (4593671619917905920 : UInt64) r1 → (vf_n64 (FP.dadd ((pV S2 9 i f3).2 10 i) f4) ∧ (∀ f5 : UInt64, f5 = FP.dadd ((pV S2 9 i f3).2 10 i) f4 → (∀ f6 : UInt64, f6 = FP.i2d x3 → (vf_n64 (FP.dmul (4593671619917905920 : UInt64) f6) ∧ (∀ f7 : UInt64, f7 = FP.dmul (4593671619917905920 : UInt64) f6 → (vf_n64 (FP.dadd FP.dconst1 f7) ∧ (∀ f8 : UInt64, f8 = FP.dadd FP.dconst1 f7 → (vf_n64 (FP.dmul r1 f8) ∧ (∀ f9 : UInt64, f9 = FP.dmul r1 f8 → (vf_n64 (FP.dadd ((pV (pV S2 9 i f3) 10 i f5).2 8 i) f9) ∧ (∀ f10 : UInt64, f10 = FP.dadd ((pV (pV S2 9 i f3) 10 i f5).2 8 i) f9 → (w_L_hasBeginBetween (pV (pV (pV (pV S2 9 i f3) 10 i f5) 8 i f10) 7 i x2) (S2.2 8 i) ((pV (pV (pV (pV S2 9 i f3) 10 i f5) 8 i f10) 7 i x2).2 8 i) (fun r11 S12 => ((r11 = 0) → (w_T_move_91 i S12 Q)) ∧ ((¬ r11 = 0) → (w_T_move_91 i (pV (pV S12 9 i (S12.2 8 i)) 10 i FP.dconst0) Q)))))))))))))))))))
set_option maxRecDepth 100000 in
set_option maxHeartbeats 4000000 in
theorem c_T_move (l : Launch) (D : va_G) (ca : Nat → ClassId) (ad : Nat → Nat) (sz : Nat) (S : SC) (i : Nat) (x2 : UInt64) (x3 : Int32) (hi : i < 3) (Q : SC → Prop) (h : w_T_move S i x2 x3 Q) : Met l y_T_move (Cond.code y_T_move b_T_move 9 none :: tG) ({ frames := 1, cells := 0, slots := 0, locals := 25 } : Room) (xPc D ca (wC ca ad) S sz [.ref (ad (9 + i)), .ref (ad 1), .double x2, .int x3]) (va_Qv Q (xAt D (wC ca ad) (va_A (wC ca ad S) sz)) (va_A (wC ca ad S) sz)) 0 0 (va_A (wC ca ad S) sz) := by
  refine xx_met (Qf := fun A => va_Qv Q (xAt D (wC ca ad) A) A) (by decide) (Nat.le_of_ble_eq_true rfl) ?_
  intro p e s m args below meth c A ls hx hb hr hw hown hlocks hml hK hN hA hP hD hS hl
  have hown : s.vm.findClass "TrainGuard$Train" = some m.cls := hown
  have hl : lv_has ls 9 [(0, .ref (ad (9 + i))), (1, .ref (ad 1)), (2, .double x2), (4, .int x3)] := hl
  unfold w_T_move at h
  have bk_91 : ∀ (S : SC) (H : Heap) (locs : List Loc) , va_P D cls (wC ca ad S) H → va_D A (wC ca ad S) → va_S A s.heap H locs → ∀ (ls : Array Slot), lv_has ls 9 [(0, .ref (ad (9 + i))), (1, .ref (ad 1))] → w_T_move_91 i S Q → W p l e ({ frames := 1, cells := 0, slots := 0, locals := 25 } : Room) s m args below meth c H locs 0 0 (MQ below ((fun A => va_Qv Q (xAt D (wC ca ad) A) A) A) args s 0 0 A) (F0 m 91 ls []) := by
    intro S H locs hP hD hS ls hl h
    unfold w_T_move_91 at h
    refine lv_aload_n hx hb d_T_move_91 rfl (lv_at hl 0 rfl) ?_
    refine va_get (D := D) (ci := 2) (v := .double (S.2 8 i)) (C := Rc_T) (T := Fc_T) (N := 11) hx hb hw inc_T hown hK hP (9 + i) (wC_T hi) rfl 4 (by decide) (hw _ wd_95) (fun _ h9 => h9) rfl d_T_move_92 ?_
    refine lv_aload_n hx hb d_T_move_95 rfl (lv_at hl 1 rfl) ?_
    refine xx_calld (va_runV (As := []) (rest := [.double (S.2 8 i)]) ⟨hx, hb, hml, hown, hw⟩ (c_L_lineEnd l D ca ad H.size S _ h) (cwV 0 hw (tG_g gl_T_98) rfl rfl rfl (by decide +kernel) ⟨Nat.le_of_ble_eq_true rfl, Nat.le_of_ble_eq_true rfl⟩) ⟨xPc.blind, va_recv hK hP rfl (q0 := 1) rfl, xPc.pre hK hN hP hD⟩ rfl rfl hl.1 rfl (lv_room (Nat.le_of_ble_eq_true rfl)) d_T_move_96 ⟨Nat.le_of_ble_eq_true rfl, Nat.le_of_ble_eq_true rfl⟩) hD hS hA (fun r13 S14 H locs h hP hD hS => ?_)
    refine lv_dcmp hx hb d_T_move_99 ?_
    refine lv_if_lt (tgt := 129) hx hb d_T_move_100 (by decide) (fun hc => ?_) (fun hc => ?_)
    · replace h := h.1 hc
      exact W.vret hx hb hr (fun t ht hW => ⟨⟨S14, rfl, h, by rw [ht]; exact hP, hD⟩, hS.F ht⟩) hS.2.2 d_T_move_129
    · replace h := h.2 hc
      refine lv_aload_n hx hb d_T_move_103 rfl (lv_at hl 0 rfl) ?_
      refine lv_aload_n hx hb d_T_move_104 rfl (lv_at hl 1 rfl) ?_
      refine xx_calld (va_runV (As := []) (rest := [.ref (ad (9 + i))]) ⟨hx, hb, hml, hown, hw⟩ (c_L_lineEnd l D ca ad H.size S14 _ h) (cwV 0 hw (tG_g gl_T_98) rfl rfl rfl (by decide +kernel) ⟨Nat.le_of_ble_eq_true rfl, Nat.le_of_ble_eq_true rfl⟩) ⟨xPc.blind, va_recv hK hP rfl (q0 := 1) rfl, xPc.pre hK hN hP hD⟩ rfl rfl hl.1 rfl (lv_room (Nat.le_of_ble_eq_true rfl)) d_T_move_105 ⟨Nat.le_of_ble_eq_true rfl, Nat.le_of_ble_eq_true rfl⟩) hD hS hA (fun r15 S16 H locs h hP hD hS => ?_)
      refine va_put (D := D) (ci := 2) (v := .double r15) (ty := .double) (C := Rc_T) (T := Fc_T) (N := 11) hx hb hw inc_T tc_T tc_T_ok nc_T hown hK hP hD hS (9 + i) (wC_T hi) rfl 4 (by decide) (hw _ wd_95) (fun _ h9 => h9) rfl (by decide +kernel) rfl rfl (Nat.le_of_ble_eq_true rfl) d_T_move_108 (fun H locs hP hD hS => ?_)
      rw [pt_T_real hi] at hP hD
      refine lv_aload_n hx hb d_T_move_111 rfl (lv_at hl 0 rfl) ?_
      refine lv_aload_n hx hb d_T_move_112 rfl (lv_at hl 0 rfl) ?_
      refine va_get (D := D) (ci := 2) (v := .double ((pV S16 8 i r15).2 8 i)) (C := Rc_T) (T := Fc_T) (N := 11) hx hb hw inc_T hown hK hP (9 + i) (wC_T hi) rfl 4 (by decide) (hw _ wd_95) (fun _ h9 => h9) rfl d_T_move_113 ?_
      refine va_put (D := D) (ci := 2) (v := .double ((pV S16 8 i r15).2 8 i)) (ty := .double) (C := Rc_T) (T := Fc_T) (N := 11) hx hb hw inc_T tc_T tc_T_ok nc_T hown hK hP hD hS (9 + i) (wC_T hi) rfl 5 (by decide) (hw _ wd_97) (fun _ h9 => h9) rfl (by decide +kernel) rfl rfl (Nat.le_of_ble_eq_true rfl) d_T_move_116 (fun H locs hP hD hS => ?_)
      rw [pt_T_measured hi] at hP hD
      refine lv_aload_n hx hb d_T_move_119 rfl (lv_at hl 0 rfl) ?_
      refine lv_dconst0 hx hb d_T_move_120 ?_
      refine va_put (D := D) (ci := 2) (v := .double FP.dconst0) (ty := .double) (C := Rc_T) (T := Fc_T) (N := 11) hx hb hw inc_T tc_T tc_T_ok nc_T hown hK hP hD hS (9 + i) (wC_T hi) rfl 6 (by decide) (hw _ wd_99) (fun _ h9 => h9) rfl (by decide +kernel) rfl rfl (Nat.le_of_ble_eq_true rfl) d_T_move_121 (fun H locs hP hD hS => ?_)
      rw [pt_T_margin hi] at hP hD
      refine lv_aload_n hx hb d_T_move_124 rfl (lv_at hl 0 rfl) ?_
      refine lv_dconst0 hx hb d_T_move_125 ?_
      refine va_put (D := D) (ci := 2) (v := .double FP.dconst0) (ty := .double) (C := Rc_T) (T := Fc_T) (N := 11) hx hb hw inc_T tc_T tc_T_ok nc_T hown hK hP hD hS (9 + i) (wC_T hi) rfl 3 (by decide) (hw _ wd_93) (fun _ h9 => h9) rfl (by decide +kernel) rfl rfl (Nat.le_of_ble_eq_true rfl) d_T_move_126 (fun H locs hP hD hS => ?_)
      rw [pt_T_speed hi] at hP hD
      exact W.vret hx hb hr (fun t ht hW => ⟨⟨pV (pV (pV (pV S16 8 i r15) 9 i ((pV S16 8 i r15).2 8 i)) 10 i FP.dconst0) 7 i FP.dconst0, rfl, h, by rw [ht]; exact hP, hD⟩, hS.F ht⟩) hS.2.2 d_T_move_129
  have hH9 : ∀ H : Heap, H = s.heap → va_P D cls (wC ca ad S) H → va_S A s.heap H [] → W p l e ({ frames := 1, cells := 0, slots := 0, locals := 25 } : Room) s m args below meth c H [] 0 0 (MQ below ((fun A => va_Qv Q (xAt D (wC ca ad) A) A) A) args s 0 0 A) (F0 m 0 ls []) := by
    clear hP hS
    intro H hH hP hS
    obtain ⟨locs, hlo⟩ : ∃ z : List Loc, z = [] := ⟨_, rfl⟩
    rw [← hlo] at hS ⊢
    refine lv_aload_n hx hb d_T_move_0 rfl (lv_at hl 0 rfl) ?_
    refine lv_dload_n hx hb d_T_move_1 rfl (lv_at hl 2 rfl) ?_
    refine xx_calld (va_runV (As := [.double x2]) (rest := []) ⟨hx, hb, hml, hown, hw⟩ (c_T_wayTo l D ca ad H.size S i x2 hi _ h) (cwV 1 hw (tG_g gl_T_87) rfl rfl rfl (by decide +kernel) ⟨Nat.le_of_ble_eq_true rfl, Nat.le_of_ble_eq_true rfl⟩) ⟨xPc.blind, va_recv hK hP rfl (wC_T hi), xPc.pre hK hN hP hD⟩ rfl rfl hl.1 rfl (lv_room (Nat.le_of_ble_eq_true rfl)) d_T_move_2 ⟨Nat.le_of_ble_eq_true rfl, Nat.le_of_ble_eq_true rfl⟩) hD hS hA (fun r1 S2 H locs h hP hD hS => ?_)
    refine lv_dstore (lv' := [(5, .double r1), (0, .ref (ad (9 + i))), (1, .ref (ad 1)), (2, .double x2), (4, .int x3)]) hx hb d_T_move_5 hl (by decide) rfl (fun ls hl => ?_)
    refine lv_aload_n hx hb d_T_move_7 rfl (lv_at hl 1 rfl) ?_
    refine va_get (D := D) (ci := 2) (v := .double (S2.2 8 i)) (C := Rc_T) (T := Fc_T) (N := 11) hx hb hw inc_T hown hK hP (9 + i) (wC_T hi) rfl 4 (by decide) (hw _ wd_95) (fun _ h9 => h9) rfl d_T_move_8 ?_
    refine lv_dstore (lv' := [(7, .double (S2.2 8 i)), (5, .double r1), (0, .ref (ad (9 + i))), (1, .ref (ad 1)), (2, .double x2), (4, .int x3)]) hx hb d_T_move_11 hl (by decide) rfl (fun ls hl => ?_)
    refine lv_aload_n hx hb d_T_move_13 rfl (lv_at hl 2 rfl) ?_
    refine lv_dup hx hb d_T_move_14 rfl ?_
    refine va_get (D := D) (ci := 2) (v := .double (S2.2 9 i)) (C := Rc_T) (T := Fc_T) (N := 11) hx hb hw inc_T hown hK hP (9 + i) (wC_T hi) rfl 5 (by decide) (hw _ wd_97) (fun _ h9 => h9) rfl d_T_move_15 ?_
    refine lv_dload hx hb d_T_move_18 (lv_at hl 1 rfl) ?_
    obtain ⟨hq, h⟩ := h
    refine lv_dadd hx hb d_T_move_20 hq ?_
    refine lv_topd (fun f3 e_f3 => ?_)
    replace h := h f3 e_f3
    refine va_put (D := D) (ci := 2) (v := .double f3) (ty := .double) (C := Rc_T) (T := Fc_T) (N := 11) hx hb hw inc_T tc_T tc_T_ok nc_T hown hK hP hD hS (9 + i) (wC_T hi) rfl 5 (by decide) (hw _ wd_97) (fun _ h9 => h9) rfl (by decide +kernel) rfl rfl (Nat.le_of_ble_eq_true rfl) d_T_move_21 (fun H locs hP hD hS => ?_)
    rw [pt_T_measured hi] at hP hD
    refine lv_aload_n hx hb d_T_move_24 rfl (lv_at hl 2 rfl) ?_
    refine lv_dup hx hb d_T_move_25 rfl ?_
    refine va_get (D := D) (ci := 2) (v := .double ((pV S2 9 i f3).2 10 i)) (C := Rc_T) (T := Fc_T) (N := 11) hx hb hw inc_T hown hK hP (9 + i) (wC_T hi) rfl 6 (by decide) (hw _ wd_99) (fun _ h9 => h9) rfl d_T_move_26 ?_
    refine lv_ldc2d hx hb hown (hw _ wd_510) d_T_move_29 ?_
    refine lv_dload hx hb d_T_move_32 (lv_at hl 1 rfl) ?_
    obtain ⟨hq, h⟩ := h
    refine lv_dmul hx hb d_T_move_34 hq ?_
    refine lv_topd (fun f4 e_f4 => ?_)
    replace h := h f4 e_f4
    obtain ⟨hq, h⟩ := h
    refine lv_dadd hx hb d_T_move_35 hq ?_
    refine lv_topd (fun f5 e_f5 => ?_)
    replace h := h f5 e_f5
    refine va_put (D := D) (ci := 2) (v := .double f5) (ty := .double) (C := Rc_T) (T := Fc_T) (N := 11) hx hb hw inc_T tc_T tc_T_ok nc_T hown hK hP hD hS (9 + i) (wC_T hi) rfl 6 (by decide) (hw _ wd_99) (fun _ h9 => h9) rfl (by decide +kernel) rfl rfl (Nat.le_of_ble_eq_true rfl) d_T_move_36 (fun H locs hP hD hS => ?_)
    rw [pt_T_margin hi] at hP hD
    refine lv_aload_n hx hb d_T_move_39 rfl (lv_at hl 2 rfl) ?_
    refine lv_dup hx hb d_T_move_40 rfl ?_
    refine va_get (D := D) (ci := 2) (v := .double ((pV (pV S2 9 i f3) 10 i f5).2 8 i)) (C := Rc_T) (T := Fc_T) (N := 11) hx hb hw inc_T hown hK hP (9 + i) (wC_T hi) rfl 4 (by decide) (hw _ wd_95) (fun _ h9 => h9) rfl d_T_move_41 ?_
    refine lv_dload hx hb d_T_move_44 (lv_at hl 1 rfl) ?_
    refine lv_dconst1 hx hb d_T_move_46 ?_
    refine lv_ldc2d hx hb hown (hw _ wd_510) d_T_move_47 ?_
    refine lv_iload hx hb d_T_move_50 (lv_at hl 5 rfl) ?_
    refine lv_i2d hx hb d_T_move_52 ?_
    refine lv_topd (fun f6 e_f6 => ?_)
    replace h := h f6 e_f6
    obtain ⟨hq, h⟩ := h
    refine lv_dmul hx hb d_T_move_53 hq ?_
    refine lv_topd (fun f7 e_f7 => ?_)
    replace h := h f7 e_f7
    obtain ⟨hq, h⟩ := h
    refine lv_dadd hx hb d_T_move_54 hq ?_
    refine lv_topd (fun f8 e_f8 => ?_)
    replace h := h f8 e_f8
    obtain ⟨hq, h⟩ := h
    refine lv_dmul hx hb d_T_move_55 hq ?_
    refine lv_topd (fun f9 e_f9 => ?_)
    replace h := h f9 e_f9
    obtain ⟨hq, h⟩ := h
    refine lv_dadd hx hb d_T_move_56 hq ?_
    refine lv_topd (fun f10 e_f10 => ?_)
    replace h := h f10 e_f10
    refine va_put (D := D) (ci := 2) (v := .double f10) (ty := .double) (C := Rc_T) (T := Fc_T) (N := 11) hx hb hw inc_T tc_T tc_T_ok nc_T hown hK hP hD hS (9 + i) (wC_T hi) rfl 4 (by decide) (hw _ wd_95) (fun _ h9 => h9) rfl (by decide +kernel) rfl rfl (Nat.le_of_ble_eq_true rfl) d_T_move_57 (fun H locs hP hD hS => ?_)
    rw [pt_T_real hi] at hP hD
    refine lv_aload_n hx hb d_T_move_60 rfl (lv_at hl 2 rfl) ?_
    refine lv_dload_n hx hb d_T_move_61 rfl (lv_at hl 4 rfl) ?_
    refine va_put (D := D) (ci := 2) (v := .double x2) (ty := .double) (C := Rc_T) (T := Fc_T) (N := 11) hx hb hw inc_T tc_T tc_T_ok nc_T hown hK hP hD hS (9 + i) (wC_T hi) rfl 3 (by decide) (hw _ wd_93) (fun _ h9 => h9) rfl (by decide +kernel) rfl rfl (Nat.le_of_ble_eq_true rfl) d_T_move_62 (fun H locs hP hD hS => ?_)
    rw [pt_T_speed hi] at hP hD
    refine lv_aload_n hx hb d_T_move_65 rfl (lv_at hl 3 rfl) ?_
    refine lv_dload hx hb d_T_move_66 (lv_at hl 0 rfl) ?_
    refine lv_aload_n hx hb d_T_move_68 rfl (lv_at hl 2 rfl) ?_
    refine va_get (D := D) (ci := 2) (v := .double ((pV (pV (pV (pV S2 9 i f3) 10 i f5) 8 i f10) 7 i x2).2 8 i)) (C := Rc_T) (T := Fc_T) (N := 11) hx hb hw inc_T hown hK hP (9 + i) (wC_T hi) rfl 4 (by decide) (hw _ wd_95) (fun _ h9 => h9) rfl d_T_move_69 ?_
    refine xx_calli (va_runV (As := [.double (S2.2 8 i), .double ((pV (pV (pV (pV S2 9 i f3) 10 i f5) 8 i f10) 7 i x2).2 8 i)]) (rest := []) ⟨hx, hb, hml, hown, hw⟩ (c_L_hasBeginBetween l D ca ad H.size (pV (pV (pV (pV S2 9 i f3) 10 i f5) 8 i f10) 7 i x2) (S2.2 8 i) ((pV (pV (pV (pV S2 9 i f3) 10 i f5) 8 i f10) 7 i x2).2 8 i) _ h) (cwV 2 hw (tG_g gl_T_92) rfl rfl rfl (by decide +kernel) ⟨Nat.le_of_ble_eq_true rfl, Nat.le_of_ble_eq_true rfl⟩) ⟨xPc.blind, va_recv hK hP rfl (q0 := 1) rfl, xPc.pre hK hN hP hD⟩ rfl rfl hl.1 rfl (lv_room (Nat.le_of_ble_eq_true rfl)) d_T_move_72 ⟨Nat.le_of_ble_eq_true rfl, Nat.le_of_ble_eq_true rfl⟩) hD hS hA (fun r11 S12 H locs h hP hD hS => ?_)
    refine lv_if_eq (tgt := 91) hx hb d_T_move_75 (by decide) (fun hc => ?_) (fun hc => ?_)
    · replace h := h.1 hc
      exact bk_91 S12 H locs hP hD hS ls (lv_sub hl [2, 3] rfl) h
    · replace h := h.2 hc
      refine lv_aload_n hx hb d_T_move_78 rfl (lv_at hl 2 rfl) ?_
      refine lv_aload_n hx hb d_T_move_79 rfl (lv_at hl 2 rfl) ?_
      refine va_get (D := D) (ci := 2) (v := .double (S12.2 8 i)) (C := Rc_T) (T := Fc_T) (N := 11) hx hb hw inc_T hown hK hP (9 + i) (wC_T hi) rfl 4 (by decide) (hw _ wd_95) (fun _ h9 => h9) rfl d_T_move_80 ?_
      refine va_put (D := D) (ci := 2) (v := .double (S12.2 8 i)) (ty := .double) (C := Rc_T) (T := Fc_T) (N := 11) hx hb hw inc_T tc_T tc_T_ok nc_T hown hK hP hD hS (9 + i) (wC_T hi) rfl 5 (by decide) (hw _ wd_97) (fun _ h9 => h9) rfl (by decide +kernel) rfl rfl (Nat.le_of_ble_eq_true rfl) d_T_move_83 (fun H locs hP hD hS => ?_)
      rw [pt_T_measured hi] at hP hD
      refine lv_aload_n hx hb d_T_move_86 rfl (lv_at hl 2 rfl) ?_
      refine lv_dconst0 hx hb d_T_move_87 ?_
      refine va_put (D := D) (ci := 2) (v := .double FP.dconst0) (ty := .double) (C := Rc_T) (T := Fc_T) (N := 11) hx hb hw inc_T tc_T tc_T_ok nc_T hown hK hP hD hS (9 + i) (wC_T hi) rfl 6 (by decide) (hw _ wd_99) (fun _ h9 => h9) rfl (by decide +kernel) rfl rfl (Nat.le_of_ble_eq_true rfl) d_T_move_88 (fun H locs hP hD hS => ?_)
      rw [pt_T_margin hi] at hP hD
      exact bk_91 (pV (pV S12 9 i (S12.2 8 i)) 10 i FP.dconst0) H locs hP hD hS ls (lv_sub hl [2, 3] rfl) h
  exact hH9 _ rfl hP hS
theorem d_T_runSecond_0 : decode b_T_runSecond 0 = .ok (.aload_n 0, 1) := by decide +kernel
theorem d_T_runSecond_1 : decode b_T_runSecond 1 = .ok (.dload_n 2, 1) := by decide +kernel
theorem d_T_runSecond_2 : decode b_T_runSecond 2 = .ok (.invokevirtual 66, 3) := by decide +kernel
theorem d_T_runSecond_5 : decode b_T_runSecond 5 = .ok (.dstore 5, 2) := by decide +kernel
theorem d_T_runSecond_7 : decode b_T_runSecond 7 = .ok (.aload_n 0, 1) := by decide +kernel
theorem d_T_runSecond_8 : decode b_T_runSecond 8 = .ok (.getfield 38, 3) := by decide +kernel
theorem d_T_runSecond_11 : decode b_T_runSecond 11 = .ok (.iconst 2, 1) := by decide +kernel
theorem d_T_runSecond_12 : decode b_T_runSecond 12 = .ok (.if_icmp .ne 17, 3) := by decide +kernel
theorem d_T_runSecond_15 : decode b_T_runSecond 15 = .ok (.aload_n 0, 1) := by decide +kernel
theorem d_T_runSecond_16 : decode b_T_runSecond 16 = .ok (.aload_n 1, 1) := by decide +kernel
theorem d_T_runSecond_17 : decode b_T_runSecond 17 = .ok (.dload 5, 2) := by decide +kernel
theorem d_T_runSecond_19 : decode b_T_runSecond 19 = .ok (.invokevirtual 70, 3) := by decide +kernel
theorem d_T_runSecond_22 : decode b_T_runSecond 22 = .ok (.ifCond .ne 7, 3) := by decide +kernel
theorem d_T_runSecond_25 : decode b_T_runSecond 25 = .ok (.iconst 1, 1) := by decide +kernel
theorem d_T_runSecond_26 : decode b_T_runSecond 26 = .ok (.goto 4, 3) := by decide +kernel
theorem d_T_runSecond_29 : decode b_T_runSecond 29 = .ok (.iconst 0, 1) := by decide +kernel
theorem d_T_runSecond_30 : decode b_T_runSecond 30 = .ok (.istore 7, 2) := by decide +kernel
theorem d_T_runSecond_32 : decode b_T_runSecond 32 = .ok (.aload_n 0, 1) := by decide +kernel
theorem d_T_runSecond_33 : decode b_T_runSecond 33 = .ok (.aload_n 1, 1) := by decide +kernel
theorem d_T_runSecond_34 : decode b_T_runSecond 34 = .ok (.iload 7, 2) := by decide +kernel
theorem d_T_runSecond_36 : decode b_T_runSecond 36 = .ok (.ifCond .ne 11, 3) := by decide +kernel
theorem d_T_runSecond_39 : decode b_T_runSecond 39 = .ok (.aload_n 0, 1) := by decide +kernel
theorem d_T_runSecond_40 : decode b_T_runSecond 40 = .ok (.getfield 38, 3) := by decide +kernel
theorem d_T_runSecond_43 : decode b_T_runSecond 43 = .ok (.iconst 3, 1) := by decide +kernel
theorem d_T_runSecond_44 : decode b_T_runSecond 44 = .ok (.if_icmp .ne 10, 3) := by decide +kernel
theorem d_T_runSecond_47 : decode b_T_runSecond 47 = .ok (.aload_n 0, 1) := by decide +kernel
theorem d_T_runSecond_48 : decode b_T_runSecond 48 = .ok (.invokevirtual 74, 3) := by decide +kernel
theorem d_T_runSecond_51 : decode b_T_runSecond 51 = .ok (.goto 5, 3) := by decide +kernel
theorem d_T_runSecond_54 : decode b_T_runSecond 54 = .ok (.dload 5, 2) := by decide +kernel
theorem d_T_runSecond_56 : decode b_T_runSecond 56 = .ok (.iload 4, 2) := by decide +kernel
theorem d_T_runSecond_58 : decode b_T_runSecond 58 = .ok (.invokevirtual 78, 3) := by decide +kernel
theorem d_T_runSecond_61 : decode b_T_runSecond 61 = .ok (.aload_n 0, 1) := by decide +kernel
theorem d_T_runSecond_62 : decode b_T_runSecond 62 = .ok (.getfield 38, 3) := by decide +kernel
theorem d_T_runSecond_65 : decode b_T_runSecond 65 = .ok (.iconst 2, 1) := by decide +kernel
theorem d_T_runSecond_66 : decode b_T_runSecond 66 = .ok (.if_icmp .ne 25, 3) := by decide +kernel
theorem d_T_runSecond_69 : decode b_T_runSecond 69 = .ok (.aload_n 0, 1) := by decide +kernel
theorem d_T_runSecond_70 : decode b_T_runSecond 70 = .ok (.getfield 25, 3) := by decide +kernel
theorem d_T_runSecond_73 : decode b_T_runSecond 73 = .ok (.aload_n 0, 1) := by decide +kernel
theorem d_T_runSecond_74 : decode b_T_runSecond 74 = .ok (.getfield 42, 3) := by decide +kernel
theorem d_T_runSecond_77 : decode b_T_runSecond 77 = .ok (.dcmp .l, 1) := by decide +kernel
theorem d_T_runSecond_78 : decode b_T_runSecond 78 = .ok (.ifCond .le 13, 3) := by decide +kernel
theorem d_T_runSecond_81 : decode b_T_runSecond 81 = .ok (.aload_n 0, 1) := by decide +kernel
theorem d_T_runSecond_82 : decode b_T_runSecond 82 = .ok (.iconst 3, 1) := by decide +kernel
theorem d_T_runSecond_83 : decode b_T_runSecond 83 = .ok (.putfield 38, 3) := by decide +kernel
theorem d_T_runSecond_86 : decode b_T_runSecond 86 = .ok (.aload_n 0, 1) := by decide +kernel
theorem d_T_runSecond_87 : decode b_T_runSecond 87 = .ok (.iconst 0, 1) := by decide +kernel
theorem d_T_runSecond_88 : decode b_T_runSecond 88 = .ok (.putfield 34, 3) := by decide +kernel
theorem d_T_runSecond_91 : decode b_T_runSecond 91 = .ok (.iload 7, 2) := by decide +kernel
theorem d_T_runSecond_93 : decode b_T_runSecond 93 = .ok (.ireturn, 1) := by decide +kernel
theorem gl_T_66 : ∀ w ∈ wsV "TrainGuard$Train" 66 "TrainGuard$Train" y_T_wishedSpeed (Cond.code y_T_wishedSpeed b_T_wishedSpeed 5 (some Jvm.ClassFile.FieldType.double) :: tG), w ∈ tG := by
  intro x hx
  simp only [wsV, List.cons_append, List.nil_append, List.mem_cons] at hx
  rcases hx with rfl | rfl | rfl | rfl | rfl | hx
  · exact wd_497
  · exact wd_499
  · exact ws_11
  · exact wd_3
  · exact wd_500
  · exact hx
theorem gl_T_70 : ∀ w ∈ wsV "TrainGuard$Train" 70 "TrainGuard$Train" y_T_isSafeBehind (Cond.code y_T_isSafeBehind b_T_isSafeBehind 6 (some Jvm.ClassFile.FieldType.boolean) :: tG), w ∈ tG := by
  intro x hx
  simp only [wsV, List.cons_append, List.nil_append, List.mem_cons] at hx
  rcases hx with rfl | rfl | rfl | rfl | rfl | hx
  · exact wd_502
  · exact wd_504
  · exact ws_12
  · exact wd_3
  · exact wd_505
  · exact hx
theorem gl_T_74 : ∀ w ∈ wsV "TrainGuard$Train" 74 "TrainGuard$Train" y_T_brakedSpeed (Cond.code y_T_brakedSpeed b_T_brakedSpeed 3 (some Jvm.ClassFile.FieldType.double) :: tG), w ∈ tG := by
  intro x hx
  simp only [wsV, List.cons_append, List.nil_append, List.mem_cons] at hx
  rcases hx with rfl | rfl | rfl | rfl | rfl | hx
  · exact wd_511
  · exact wd_513
  · exact ws_14
  · exact wd_3
  · exact wd_514
  · exact hx
theorem gl_T_78 : ∀ w ∈ wsV "TrainGuard$Train" 78 "TrainGuard$Train" y_T_move (Cond.code y_T_move b_T_move 9 none :: tG), w ∈ tG := by
  intro x hx
  simp only [wsV, List.cons_append, List.nil_append, List.mem_cons] at hx
  rcases hx with rfl | rfl | rfl | rfl | rfl | hx
  · exact wd_515
  · exact wd_517
  · exact ws_15
  · exact wd_3
  · exact wd_518
  · exact hx
def w_T_runSecond_56 (i : Nat) (S : SC) (y4 : Int32) (y7 : Int32) (ys0 : UInt64) (Q : Int32 → SC → Prop) : Prop := w_T_move S i ys0 y4 (fun S7 => ((¬ (S7.1 9 i) = 2) → (narrow .boolean (.int y7) = .int y7 ∧ Q y7 S7)) ∧ (((S7.1 9 i) = 2) → ((((Op.cmpValue (FP.dcmp (S7.2 8 i) (S7.2 11 i)) .l) ≤ 0) → (narrow .boolean (.int y7) = .int y7 ∧ Q y7 S7)) ∧ ((¬ (Op.cmpValue (FP.dcmp (S7.2 8 i) (S7.2 11 i)) .l) ≤ 0) → (narrow .boolean (.int y7) = .int y7 ∧ Q y7 (pI (pI S7 9 i 3) 7 i 0))))))
def w_T_runSecond_47 (i : Nat) (S : SC) (y4 : Int32) (y7 : Int32) (Q : Int32 → SC → Prop) : Prop := w_T_brakedSpeed S i (fun r5 S6 => w_T_runSecond_56 i S6 y4 y7 r5 Q)
def w_T_runSecond_30 (i : Nat) (S : SC) (y4 : Int32) (y5 : UInt64) (ys0 : Int32) (Q : Int32 → SC → Prop) : Prop := ((¬ ys0 = 0) → (w_T_runSecond_47 i S y4 ys0 Q)) ∧ ((ys0 = 0) → (((¬ (S.1 9 i) = 3) → (w_T_runSecond_56 i S y4 ys0 y5 Q)) ∧ (((S.1 9 i) = 3) → (w_T_runSecond_47 i S y4 ys0 Q))))
def w_T_runSecond_29 (i : Nat) (S : SC) (y4 : Int32) (y5 : UInt64) (Q : Int32 → SC → Prop) : Prop := w_T_runSecond_30 i S y4 y5 0 Q
def w_T_runSecond (S : SC) (i : Nat) (x2 : UInt64) (x3 : Int32) (Q : Int32 → SC → Prop) : Prop := w_T_wishedSpeed S i x2 (fun r1 S2 => ((¬ (S2.1 9 i) = 2) → (w_T_runSecond_29 i S2 x3 r1 Q)) ∧ (((S2.1 9 i) = 2) → (w_T_isSafeBehind S2 i r1 (fun r3 S4 => ((¬ r3 = 0) → (w_T_runSecond_29 i S4 x3 r1 Q)) ∧ ((r3 = 0) → (w_T_runSecond_30 i S4 x3 r1 1 Q))))))
set_option maxRecDepth 100000 in
set_option maxHeartbeats 4000000 in
theorem c_T_runSecond (l : Launch) (D : va_G) (ca : Nat → ClassId) (ad : Nat → Nat) (sz : Nat) (S : SC) (i : Nat) (x2 : UInt64) (x3 : Int32) (hi : i < 3) (Q : Int32 → SC → Prop) (h : w_T_runSecond S i x2 x3 Q) : Met l y_T_runSecond (Cond.code y_T_runSecond b_T_runSecond 8 (some Jvm.ClassFile.FieldType.boolean) :: tG) ({ frames := 5, cells := 0, slots := 0, locals := 142 } : Room) (xPc D ca (wC ca ad) S sz [.ref (ad (9 + i)), .ref (ad 1), .double x2, .int x3]) (va_Qi Q (xAt D (wC ca ad) (va_A (wC ca ad S) sz)) (va_A (wC ca ad S) sz)) 0 0 (va_A (wC ca ad S) sz) := by
  refine xx_met (Qf := fun A => va_Qi Q (xAt D (wC ca ad) A) A) (by decide) (Nat.le_of_ble_eq_true rfl) ?_
  intro p e s m args below meth c A ls hx hb hr hw hown hlocks hml hK hN hA hP hD hS hl
  have hown : s.vm.findClass "TrainGuard$Train" = some m.cls := hown
  have hl : lv_has ls 8 [(0, .ref (ad (9 + i))), (1, .ref (ad 1)), (2, .double x2), (4, .int x3)] := hl
  unfold w_T_runSecond at h
  have bk_56 : ∀ (S : SC) (y4 : Int32) (y7 : Int32) (ys0 : UInt64) (H : Heap) (locs : List Loc) , va_P D cls (wC ca ad S) H → va_D A (wC ca ad S) → va_S A s.heap H locs → ∀ (ls : Array Slot), lv_has ls 8 [(0, .ref (ad (9 + i))), (4, .int y4), (7, .int y7)] → w_T_runSecond_56 i S y4 y7 ys0 Q → W p l e ({ frames := 5, cells := 0, slots := 0, locals := 142 } : Room) s m args below meth c H locs 0 0 (MQ below ((fun A => va_Qi Q (xAt D (wC ca ad) A) A) A) args s 0 0 A) (F0 m 56 ls [.double ys0, .ref (ad 1), .ref (ad (9 + i))]) := by
    intro S y4 y7 ys0 H locs hP hD hS ls hl h
    unfold w_T_runSecond_56 at h
    refine lv_iload hx hb d_T_runSecond_56 (lv_at hl 1 rfl) ?_
    refine xx_callv (va_runV (As := [.ref (ad 1), .double ys0, .int y4]) (rest := []) ⟨hx, hb, hml, hown, hw⟩ (c_T_move l D ca ad H.size S i ys0 y4 hi _ h) (cwV 3 hw (tG_g gl_T_78) rfl rfl rfl (by decide +kernel) ⟨Nat.le_of_ble_eq_true rfl, Nat.le_of_ble_eq_true rfl⟩) ⟨xPc.blind, va_recv hK hP rfl (wC_T hi), xPc.pre hK hN hP hD⟩ rfl rfl hl.1 rfl (lv_room (Nat.le_of_ble_eq_true rfl)) d_T_runSecond_58 ⟨Nat.le_of_ble_eq_true rfl, Nat.le_of_ble_eq_true rfl⟩) hD hS hA (fun S7 H locs h hP hD hS => ?_)
    refine lv_aload_n hx hb d_T_runSecond_61 rfl (lv_at hl 0 rfl) ?_
    refine va_get (D := D) (ci := 2) (v := .int (S7.1 9 i)) (C := Rc_T) (T := Fc_T) (N := 11) hx hb hw inc_T hown hK hP (9 + i) (wC_T hi) rfl 10 (by decide) (hw _ wd_107) (fun _ h9 => h9) rfl d_T_runSecond_62 ?_
    refine lv_iconst (v := 2) hx hb d_T_runSecond_65 (by decide) ?_
    refine lv_icmp_ne (tgt := 91) hx hb d_T_runSecond_66 (by decide) (fun hc => ?_) (fun hc => ?_)
    · replace h := h.1 hc
      refine lv_iload hx hb d_T_runSecond_91 (lv_at hl 2 rfl) ?_
      obtain ⟨hq, h⟩ := h
      exact W.zret (v := y7) hx hb hr hq (fun t ht hW => ⟨⟨y7, S7, rfl, h, by rw [ht]; exact hP, hD⟩, hS.F ht⟩) hS.2.2 d_T_runSecond_93
    · replace h := h.2 hc
      refine lv_aload_n hx hb d_T_runSecond_69 rfl (lv_at hl 0 rfl) ?_
      refine va_get (D := D) (ci := 2) (v := .double (S7.2 8 i)) (C := Rc_T) (T := Fc_T) (N := 11) hx hb hw inc_T hown hK hP (9 + i) (wC_T hi) rfl 4 (by decide) (hw _ wd_95) (fun _ h9 => h9) rfl d_T_runSecond_70 ?_
      refine lv_aload_n hx hb d_T_runSecond_73 rfl (lv_at hl 0 rfl) ?_
      refine va_get (D := D) (ci := 2) (v := .double (S7.2 11 i)) (C := Rc_T) (T := Fc_T) (N := 11) hx hb hw inc_T hown hK hP (9 + i) (wC_T hi) rfl 7 (by decide) (hw _ wd_101) (fun _ h9 => h9) rfl d_T_runSecond_74 ?_
      refine lv_dcmp hx hb d_T_runSecond_77 ?_
      refine lv_if_le (tgt := 91) hx hb d_T_runSecond_78 (by decide) (fun hc => ?_) (fun hc => ?_)
      · replace h := h.1 hc
        refine lv_iload hx hb d_T_runSecond_91 (lv_at hl 2 rfl) ?_
        obtain ⟨hq, h⟩ := h
        exact W.zret (v := y7) hx hb hr hq (fun t ht hW => ⟨⟨y7, S7, rfl, h, by rw [ht]; exact hP, hD⟩, hS.F ht⟩) hS.2.2 d_T_runSecond_93
      · replace h := h.2 hc
        refine lv_aload_n hx hb d_T_runSecond_81 rfl (lv_at hl 0 rfl) ?_
        refine lv_iconst (v := 3) hx hb d_T_runSecond_82 (by decide) ?_
        refine va_put (D := D) (ci := 2) (v := .int 3) (ty := .int) (C := Rc_T) (T := Fc_T) (N := 11) hx hb hw inc_T tc_T tc_T_ok nc_T hown hK hP hD hS (9 + i) (wC_T hi) rfl 10 (by decide) (hw _ wd_107) (fun _ h9 => h9) rfl (by decide +kernel) rfl rfl (Nat.le_of_ble_eq_true rfl) d_T_runSecond_83 (fun H locs hP hD hS => ?_)
        rw [pt_T_mode hi] at hP hD
        refine lv_aload_n hx hb d_T_runSecond_86 rfl (lv_at hl 0 rfl) ?_
        refine lv_iconst (v := 0) hx hb d_T_runSecond_87 (by decide) ?_
        refine va_put (D := D) (ci := 2) (v := .int 0) (ty := .boolean) (C := Rc_T) (T := Fc_T) (N := 11) hx hb hw inc_T tc_T tc_T_ok nc_T hown hK hP hD hS (9 + i) (wC_T hi) rfl 8 (by decide) (hw _ wd_103) (fun _ h9 => h9) rfl (by decide +kernel) rfl rfl (Nat.le_of_ble_eq_true rfl) d_T_runSecond_88 (fun H locs hP hD hS => ?_)
        rw [pt_T_hasAuthority hi] at hP hD
        refine lv_iload hx hb d_T_runSecond_91 (lv_at hl 2 rfl) ?_
        obtain ⟨hq, h⟩ := h
        exact W.zret (v := y7) hx hb hr hq (fun t ht hW => ⟨⟨y7, pI (pI S7 9 i 3) 7 i 0, rfl, h, by rw [ht]; exact hP, hD⟩, hS.F ht⟩) hS.2.2 d_T_runSecond_93
  have bk_47 : ∀ (S : SC) (y4 : Int32) (y7 : Int32) (H : Heap) (locs : List Loc) , va_P D cls (wC ca ad S) H → va_D A (wC ca ad S) → va_S A s.heap H locs → ∀ (ls : Array Slot), lv_has ls 8 [(0, .ref (ad (9 + i))), (4, .int y4), (7, .int y7)] → w_T_runSecond_47 i S y4 y7 Q → W p l e ({ frames := 5, cells := 0, slots := 0, locals := 142 } : Room) s m args below meth c H locs 0 0 (MQ below ((fun A => va_Qi Q (xAt D (wC ca ad) A) A) A) args s 0 0 A) (F0 m 47 ls [.ref (ad 1), .ref (ad (9 + i))]) := by
    intro S y4 y7 H locs hP hD hS ls hl h
    unfold w_T_runSecond_47 at h
    refine lv_aload_n hx hb d_T_runSecond_47 rfl (lv_at hl 0 rfl) ?_
    refine xx_calld (va_runV (As := []) (rest := [.ref (ad 1), .ref (ad (9 + i))]) ⟨hx, hb, hml, hown, hw⟩ (c_T_brakedSpeed l D ca ad H.size S i hi _ h) (cwV 0 hw (tG_g gl_T_74) rfl rfl rfl (by decide +kernel) ⟨Nat.le_of_ble_eq_true rfl, Nat.le_of_ble_eq_true rfl⟩) ⟨xPc.blind, va_recv hK hP rfl (wC_T hi), xPc.pre hK hN hP hD⟩ rfl rfl hl.1 rfl (lv_room (Nat.le_of_ble_eq_true rfl)) d_T_runSecond_48 ⟨Nat.le_of_ble_eq_true rfl, Nat.le_of_ble_eq_true rfl⟩) hD hS hA (fun r5 S6 H locs h hP hD hS => ?_)
    refine lv_goto (tgt := 56) hx hb d_T_runSecond_51 (by decide) ?_
    exact bk_56 S6 y4 y7 r5 H locs hP hD hS ls (lv_sub hl [0, 1, 2] rfl) h
  have bk_30 : ∀ (S : SC) (y4 : Int32) (y5 : UInt64) (ys0 : Int32) (H : Heap) (locs : List Loc) , va_P D cls (wC ca ad S) H → va_D A (wC ca ad S) → va_S A s.heap H locs → ∀ (ls : Array Slot), lv_has ls 8 [(0, .ref (ad (9 + i))), (1, .ref (ad 1)), (4, .int y4), (5, .double y5)] → w_T_runSecond_30 i S y4 y5 ys0 Q → W p l e ({ frames := 5, cells := 0, slots := 0, locals := 142 } : Room) s m args below meth c H locs 0 0 (MQ below ((fun A => va_Qi Q (xAt D (wC ca ad) A) A) A) args s 0 0 A) (F0 m 30 ls [.int ys0]) := by
    intro S y4 y5 ys0 H locs hP hD hS ls hl h
    unfold w_T_runSecond_30 at h
    refine lv_istore (lv' := [(7, .int ys0), (0, .ref (ad (9 + i))), (1, .ref (ad 1)), (4, .int y4), (5, .double y5)]) hx hb d_T_runSecond_30 hl (by decide) rfl (fun ls hl => ?_)
    refine lv_aload_n hx hb d_T_runSecond_32 rfl (lv_at hl 1 rfl) ?_
    refine lv_aload_n hx hb d_T_runSecond_33 rfl (lv_at hl 2 rfl) ?_
    refine lv_iload hx hb d_T_runSecond_34 (lv_at hl 0 rfl) ?_
    refine lv_if_ne (tgt := 47) hx hb d_T_runSecond_36 (by decide) (fun hc => ?_) (fun hc => ?_)
    · replace h := h.1 hc
      exact bk_47 S y4 ys0 H locs hP hD hS ls (lv_sub hl [1, 3, 0] rfl) h
    · replace h := h.2 hc
      refine lv_aload_n hx hb d_T_runSecond_39 rfl (lv_at hl 1 rfl) ?_
      refine va_get (D := D) (ci := 2) (v := .int (S.1 9 i)) (C := Rc_T) (T := Fc_T) (N := 11) hx hb hw inc_T hown hK hP (9 + i) (wC_T hi) rfl 10 (by decide) (hw _ wd_107) (fun _ h9 => h9) rfl d_T_runSecond_40 ?_
      refine lv_iconst (v := 3) hx hb d_T_runSecond_43 (by decide) ?_
      refine lv_icmp_ne (tgt := 54) hx hb d_T_runSecond_44 (by decide) (fun hc => ?_) (fun hc => ?_)
      · replace h := h.1 hc
        refine lv_dload hx hb d_T_runSecond_54 (lv_at hl 4 rfl) ?_
        exact bk_56 S y4 ys0 y5 H locs hP hD hS ls (lv_sub hl [1, 3, 0] rfl) h
      · replace h := h.2 hc
        exact bk_47 S y4 ys0 H locs hP hD hS ls (lv_sub hl [1, 3, 0] rfl) h
  have bk_29 : ∀ (S : SC) (y4 : Int32) (y5 : UInt64) (H : Heap) (locs : List Loc) , va_P D cls (wC ca ad S) H → va_D A (wC ca ad S) → va_S A s.heap H locs → ∀ (ls : Array Slot), lv_has ls 8 [(0, .ref (ad (9 + i))), (1, .ref (ad 1)), (4, .int y4), (5, .double y5)] → w_T_runSecond_29 i S y4 y5 Q → W p l e ({ frames := 5, cells := 0, slots := 0, locals := 142 } : Room) s m args below meth c H locs 0 0 (MQ below ((fun A => va_Qi Q (xAt D (wC ca ad) A) A) A) args s 0 0 A) (F0 m 29 ls []) := by
    intro S y4 y5 H locs hP hD hS ls hl h
    unfold w_T_runSecond_29 at h
    refine lv_iconst (v := 0) hx hb d_T_runSecond_29 (by decide) ?_
    exact bk_30 S y4 y5 0 H locs hP hD hS ls (lv_sub hl [0, 1, 2, 3] rfl) h
  have hH9 : ∀ H : Heap, H = s.heap → va_P D cls (wC ca ad S) H → va_S A s.heap H [] → W p l e ({ frames := 5, cells := 0, slots := 0, locals := 142 } : Room) s m args below meth c H [] 0 0 (MQ below ((fun A => va_Qi Q (xAt D (wC ca ad) A) A) A) args s 0 0 A) (F0 m 0 ls []) := by
    clear hP hS
    intro H hH hP hS
    obtain ⟨locs, hlo⟩ : ∃ z : List Loc, z = [] := ⟨_, rfl⟩
    rw [← hlo] at hS ⊢
    refine lv_aload_n hx hb d_T_runSecond_0 rfl (lv_at hl 0 rfl) ?_
    refine lv_dload_n hx hb d_T_runSecond_1 rfl (lv_at hl 2 rfl) ?_
    refine xx_calld (va_runV (As := [.double x2]) (rest := []) ⟨hx, hb, hml, hown, hw⟩ (c_T_wishedSpeed l D ca ad H.size S i x2 hi _ h) (cwV 1 hw (tG_g gl_T_66) rfl rfl rfl (by decide +kernel) ⟨Nat.le_of_ble_eq_true rfl, Nat.le_of_ble_eq_true rfl⟩) ⟨xPc.blind, va_recv hK hP rfl (wC_T hi), xPc.pre hK hN hP hD⟩ rfl rfl hl.1 rfl (lv_room (Nat.le_of_ble_eq_true rfl)) d_T_runSecond_2 ⟨Nat.le_of_ble_eq_true rfl, Nat.le_of_ble_eq_true rfl⟩) hD hS hA (fun r1 S2 H locs h hP hD hS => ?_)
    refine lv_dstore (lv' := [(5, .double r1), (0, .ref (ad (9 + i))), (1, .ref (ad 1)), (2, .double x2), (4, .int x3)]) hx hb d_T_runSecond_5 hl (by decide) rfl (fun ls hl => ?_)
    refine lv_aload_n hx hb d_T_runSecond_7 rfl (lv_at hl 1 rfl) ?_
    refine va_get (D := D) (ci := 2) (v := .int (S2.1 9 i)) (C := Rc_T) (T := Fc_T) (N := 11) hx hb hw inc_T hown hK hP (9 + i) (wC_T hi) rfl 10 (by decide) (hw _ wd_107) (fun _ h9 => h9) rfl d_T_runSecond_8 ?_
    refine lv_iconst (v := 2) hx hb d_T_runSecond_11 (by decide) ?_
    refine lv_icmp_ne (tgt := 29) hx hb d_T_runSecond_12 (by decide) (fun hc => ?_) (fun hc => ?_)
    · replace h := h.1 hc
      exact bk_29 S2 x3 r1 H locs hP hD hS ls (lv_sub hl [1, 2, 4, 0] rfl) h
    · replace h := h.2 hc
      refine lv_aload_n hx hb d_T_runSecond_15 rfl (lv_at hl 1 rfl) ?_
      refine lv_aload_n hx hb d_T_runSecond_16 rfl (lv_at hl 2 rfl) ?_
      refine lv_dload hx hb d_T_runSecond_17 (lv_at hl 0 rfl) ?_
      refine xx_calli (va_runV (As := [.ref (ad 1), .double r1]) (rest := []) ⟨hx, hb, hml, hown, hw⟩ (c_T_isSafeBehind l D ca ad H.size S2 i r1 hi _ h) (cwV 2 hw (tG_g gl_T_70) rfl rfl rfl (by decide +kernel) ⟨Nat.le_of_ble_eq_true rfl, Nat.le_of_ble_eq_true rfl⟩) ⟨xPc.blind, va_recv hK hP rfl (wC_T hi), xPc.pre hK hN hP hD⟩ rfl rfl hl.1 rfl (lv_room (Nat.le_of_ble_eq_true rfl)) d_T_runSecond_19 ⟨Nat.le_of_ble_eq_true rfl, Nat.le_of_ble_eq_true rfl⟩) hD hS hA (fun r3 S4 H locs h hP hD hS => ?_)
      refine lv_if_ne (tgt := 29) hx hb d_T_runSecond_22 (by decide) (fun hc => ?_) (fun hc => ?_)
      · replace h := h.1 hc
        exact bk_29 S4 x3 r1 H locs hP hD hS ls (lv_sub hl [1, 2, 4, 0] rfl) h
      · replace h := h.2 hc
        refine lv_iconst (v := 1) hx hb d_T_runSecond_25 (by decide) ?_
        refine lv_goto (tgt := 30) hx hb d_T_runSecond_26 (by decide) ?_
        exact bk_30 S4 x3 r1 1 H locs hP hD hS ls (lv_sub hl [1, 2, 4, 0] rfl) h
  exact hH9 _ rfl hP hS
