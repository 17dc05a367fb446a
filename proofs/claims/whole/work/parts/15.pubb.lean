theorem d_G_start_0 : decode b_G_start 0 = .ok (.aload_n 0, 1) := by decide +kernel
theorem d_G_start_1 : decode b_G_start 1 = .ok (.iload_n 1, 1) := by decide +kernel
theorem d_G_start_2 : decode b_G_start 2 = .ok (.invokevirtual 102, 3) := by decide +kernel
theorem d_G_start_5 : decode b_G_start 5 = .ok (.astore_n 2, 1) := by decide +kernel
theorem d_G_start_6 : decode b_G_start 6 = .ok (.aload_n 2, 1) := by decide +kernel
theorem d_G_start_7 : decode b_G_start 7 = .ok (.getfield 106, 3) := by decide +kernel
theorem d_G_start_10 : decode b_G_start 10 = .ok (.ifCond .ne 7, 3) := by decide +kernel
theorem d_G_start_13 : decode b_G_start 13 = .ok (.iconst 1, 1) := by decide +kernel
theorem d_G_start_14 : decode b_G_start 14 = .ok (.goto 4, 3) := by decide +kernel
theorem d_G_start_17 : decode b_G_start 17 = .ok (.iconst 0, 1) := by decide +kernel
theorem d_G_start_18 : decode b_G_start 18 = .ok (.invokestatic 46, 3) := by decide +kernel
theorem d_G_start_21 : decode b_G_start 21 = .ok (.aload_n 2, 1) := by decide +kernel
theorem d_G_start_22 : decode b_G_start 22 = .ok (.aload_n 2, 1) := by decide +kernel
theorem d_G_start_23 : decode b_G_start 23 = .ok (.aload_n 0, 1) := by decide +kernel
theorem d_G_start_24 : decode b_G_start 24 = .ok (.getfield 10, 3) := by decide +kernel
theorem d_G_start_27 : decode b_G_start 27 = .ok (.invokevirtual 109, 3) := by decide +kernel
theorem d_G_start_30 : decode b_G_start 30 = .ok (.ifCond .eq 7, 3) := by decide +kernel
theorem d_G_start_33 : decode b_G_start 33 = .ok (.iconst 2, 1) := by decide +kernel
theorem d_G_start_34 : decode b_G_start 34 = .ok (.goto 4, 3) := by decide +kernel
theorem d_G_start_37 : decode b_G_start 37 = .ok (.iconst 1, 1) := by decide +kernel
theorem d_G_start_38 : decode b_G_start 38 = .ok (.putfield 106, 3) := by decide +kernel
theorem d_G_start_41 : decode b_G_start 41 = .ok (.aload_n 2, 1) := by decide +kernel
theorem d_G_start_42 : decode b_G_start 42 = .ok (.getfield 106, 3) := by decide +kernel
theorem d_G_start_45 : decode b_G_start 45 = .ok (.ireturn, 1) := by decide +kernel
theorem gl_G_102 : ∀ w ∈ wsV "TrainGuard" 102 "TrainGuard" y_G_trainNumbered (Cond.code y_G_trainNumbered b_G_trainNumbered 2 (some (Jvm.ClassFile.FieldType.object "TrainGuard$Train")) :: tG), w ∈ tG := by
  intro x hx
  simp only [wsV, List.cons_append, List.nil_append, List.mem_cons] at hx
  rcases hx with rfl | rfl | rfl | rfl | rfl | hx
  · exact wd_364
  · exact wd_366
  · exact ws_5
  · exact wd_1
  · exact wd_367
  · exact hx
theorem gl_G_109 : ∀ w ∈ wsV "TrainGuard" 109 "TrainGuard$Train" y_T_isSafeNow (Cond.code y_T_isSafeNow b_T_isSafeNow 2 (some Jvm.ClassFile.FieldType.boolean) :: tG), w ∈ tG := by
  intro x hx
  simp only [wsV, List.cons_append, List.nil_append, List.mem_cons] at hx
  rcases hx with rfl | rfl | rfl | rfl | rfl | hx
  · exact wd_368
  · exact wd_369
  · exact wd_370
  · exact wd_3
  · exact wd_371
  · exact hx
def w_G_start_18 (S : SC) (i2 : Nat) (ys0 : Int32) (Q : Int32 → SC → Prop) (X : Nat → SC → Prop) : Prop := ((ys0 = 0) → X 3 S) ∧ ((¬ ys0 = 0) → ((fun S3 => w_T_isSafeNow S3 i2 (fun r4 S5 => ((r4 = 0) → (Q ((pI S5 9 i2 1).1 9 i2) (pI S5 9 i2 1))) ∧ ((¬ r4 = 0) → (Q ((pI S5 9 i2 2).1 9 i2) (pI S5 9 i2 2))))) S))
def w_G_start (S : SC) (x1 : Int32) (Q : Int32 → SC → Prop) (X : Nat → SC → Prop) : Prop := w_G_trainNumbered S x1 (fun j1 S2 => ((¬ (S2.1 9 j1) = 0) → (w_G_start_18 S2 j1 0 Q X)) ∧ (((S2.1 9 j1) = 0) → (w_G_start_18 S2 j1 1 Q X))) X
set_option maxRecDepth 100000 in
set_option maxHeartbeats 4000000 in
theorem c_G_start (l : Launch) (hl0 : l.stackTraces = false) (D : va_G) (ca : Nat → ClassId) (ad : Nat → Nat) (sz : Nat) (S : SC) (x1 : Int32)  (Q : Int32 → SC → Prop) (X : Nat → SC → Prop) (h : w_G_start S x1 Q X) : vx_Met l y_G_start (Cond.code y_G_start b_G_start 3 (some Jvm.ClassFile.FieldType.int) :: tG) ({ frames := 8, cells := 2, slots := 12, locals := 138 } : Room) (xPx D ca (wC ca ad) S sz [.ref (ad 0), .int x1]) (va_Qi Q (xAt D (wC ca ad) (va_A (wC ca ad S) sz)) (va_A (wC ca ad S) sz)) (xXf X D (wC ca ad) (va_A (wC ca ad S) sz)) 2 12 (va_A (wC ca ad S) sz) := by
  refine xx_mex (Qf := fun A => va_Qi Q (xAt D (wC ca ad) A) A) (Xf := fun A => xXf X D (wC ca ad) A) (by decide) (Nat.le_of_ble_eq_true rfl) ?_
  intro p e s m args below meth c A ls hx hb hr hw hown hlocks hml hK hN hA hP hD hS hl hZ hout hX
  have hown : s.vm.findClass "TrainGuard" = some m.cls := hown
  have hl : lv_has ls 3 [(0, .ref (ad 0)), (1, .int x1)] := hl
  unfold w_G_start at h
  have bk_18 : ∀ (S : SC) (i2 : Nat) (ys0 : Int32) (H : Heap) (locs : List Loc) (hi2 : i2 < 3), va_P D cls (wC ca ad S) H → va_D A (wC ca ad S) → va_S A s.heap H locs → ∀ (ls : Array Slot), lv_has ls 3 [(0, .ref (ad 0)), (2, .ref (ad (9 + i2)))] → w_G_start_18 S i2 ys0 Q X → W p l e ({ frames := 8, cells := 2, slots := 12, locals := 138 } : Room) s m args below meth c H locs 1 6 (vx_MQ below ((fun A => va_Qi Q (xAt D (wC ca ad) A) A) A) ((fun A => xXf X D (wC ca ad) A) A) args s 2 12 A) (F0 m 18 ls [.int ys0]) := by
    intro S i2 ys0 H locs hi2 hP hD hS ls hl h
    unfold w_G_start_18 at h
    by_cases hz : ys0 = 0
    · replace h := h.1 hz
      exact xx_thr (vx_runS (As := [.int ys0]) (rest := []) ⟨hx, hb, hml, hown, hw⟩ (c_G_demandState_no l hl0 D ca ad H.size S ys0 hz X h) (cwS 1 hw (tG_g gl_G_46) rfl rfl rfl (by decide +kernel) ⟨Nat.le_of_ble_eq_true rfl, Nat.le_of_ble_eq_true rfl⟩) ⟨xPx.blind, xPx.pre hK hN hP hD hX (hZ.now hS hA hD)⟩ rfl rfl hl.1 rfl (lv_room (Nat.le_of_ble_eq_true rfl)) d_G_start_18 ⟨Nat.le_of_ble_eq_true rfl, Nat.le_of_ble_eq_true rfl⟩) hD hS hA hout hlocks (Nat.le_of_ble_eq_true rfl) (Nat.le_of_ble_eq_true rfl)
    replace h := h.2 hz
    refine xx_callv (va_runS (As := [.int ys0]) (rest := []) ⟨hx, hb, hml, hown, hw⟩ (c_G_demandState_ok l D ca ad H.size S ys0 hz (fun S3 => w_T_isSafeNow S3 i2 (fun r4 S5 => ((r4 = 0) → (Q ((pI S5 9 i2 1).1 9 i2) (pI S5 9 i2 1))) ∧ ((¬ r4 = 0) → (Q ((pI S5 9 i2 2).1 9 i2) (pI S5 9 i2 2))))) h) (cwS 1 hw (tG_g gl_G_46) rfl rfl rfl (by decide +kernel) ⟨Nat.le_of_ble_eq_true rfl, Nat.le_of_ble_eq_true rfl⟩) ⟨xPc.blind, xPc.pre hK hN hP hD⟩ rfl rfl hl.1 rfl (lv_room (Nat.le_of_ble_eq_true rfl)) d_G_start_18 ⟨Nat.le_of_ble_eq_true rfl, Nat.le_of_ble_eq_true rfl⟩) hD hS hA (fun S3 H locs h hP hD hS => ?_)
    refine lv_aload_n hx hb d_G_start_21 rfl (lv_at hl 1 rfl) ?_
    refine lv_aload_n hx hb d_G_start_22 rfl (lv_at hl 1 rfl) ?_
    refine lv_aload_n hx hb d_G_start_23 rfl (lv_at hl 0 rfl) ?_
    refine va_get (D := D) (ci := 3) (v := .ref (ad 1)) (C := Rc_G) (T := Fc_G) (N := 6) hx hb hw inc_G hown hK hP 0 rfl rfl 0 (by decide) (hw _ wd_132) (fun _ h9 => h9) rfl d_G_start_24 ?_
    refine xx_calli (va_runV (As := [.ref (ad 1)]) (rest := [.ref (ad (9 + i2))]) ⟨hx, hb, hml, hown, hw⟩ (c_T_isSafeNow l D ca ad H.size S3 i2 hi2 _ h) (cwV 1 hw (tG_g gl_G_109) rfl rfl rfl (by decide +kernel) ⟨Nat.le_of_ble_eq_true rfl, Nat.le_of_ble_eq_true rfl⟩) ⟨xPc.blind, va_recv hK hP rfl (wC_T hi2), xPc.pre hK hN hP hD⟩ rfl rfl hl.1 rfl (lv_room (Nat.le_of_ble_eq_true rfl)) d_G_start_27 ⟨Nat.le_of_ble_eq_true rfl, Nat.le_of_ble_eq_true rfl⟩) hD hS hA (fun r4 S5 H locs h hP hD hS => ?_)
    refine lv_if_eq (tgt := 37) hx hb d_G_start_30 (by decide) (fun hc => ?_) (fun hc => ?_)
    · replace h := h.1 hc
      refine lv_iconst (v := 1) hx hb d_G_start_37 (by decide) ?_
      refine va_putN (D := D) (ci := 2) (v := .int 1) (ty := .int) (C := Rc_T) (T := Fc_T) (N := 11) hx hb hw inc_T tc_T tc_T_ok nc_T hown hK hP hD hS (9 + i2) (wC_T hi2) rfl 10 (by decide) (nw_108 hN) (fun _ h9 => h9) rfl (by decide +kernel) rfl rfl (Nat.le_of_ble_eq_true rfl) d_G_start_38 (fun H locs hP hD hS => ?_)
      rw [pt_T_mode hi2] at hP hD
      refine lv_aload_n hx hb d_G_start_41 rfl (lv_at hl 1 rfl) ?_
      refine va_getN (D := D) (ci := 2) (v := .int ((pI S5 9 i2 1).1 9 i2)) (C := Rc_T) (T := Fc_T) (N := 11) hx hb hw inc_T hown hK hP (9 + i2) (wC_T hi2) rfl 10 (by decide) (nw_108 hN) (fun _ h9 => h9) rfl d_G_start_42 ?_
      refine vx_ret ?_
      refine W.widen (k := 2) (n := 12) (by omega) (by omega) ?_
      exact W.iret (v := ((pI S5 9 i2 1).1 9 i2)) hx hb hr (fun t ht hW => ⟨⟨(pI S5 9 i2 1).1 9 i2, pI S5 9 i2 1, rfl, h, by rw [ht]; exact hP, hD⟩, hS.F ht⟩) hS.2.2 d_G_start_45
    · replace h := h.2 hc
      refine lv_iconst (v := 2) hx hb d_G_start_33 (by decide) ?_
      refine lv_goto (tgt := 38) hx hb d_G_start_34 (by decide) ?_
      refine va_putN (D := D) (ci := 2) (v := .int 2) (ty := .int) (C := Rc_T) (T := Fc_T) (N := 11) hx hb hw inc_T tc_T tc_T_ok nc_T hown hK hP hD hS (9 + i2) (wC_T hi2) rfl 10 (by decide) (nw_108 hN) (fun _ h9 => h9) rfl (by decide +kernel) rfl rfl (Nat.le_of_ble_eq_true rfl) d_G_start_38 (fun H locs hP hD hS => ?_)
      rw [pt_T_mode hi2] at hP hD
      refine lv_aload_n hx hb d_G_start_41 rfl (lv_at hl 1 rfl) ?_
      refine va_getN (D := D) (ci := 2) (v := .int ((pI S5 9 i2 2).1 9 i2)) (C := Rc_T) (T := Fc_T) (N := 11) hx hb hw inc_T hown hK hP (9 + i2) (wC_T hi2) rfl 10 (by decide) (nw_108 hN) (fun _ h9 => h9) rfl d_G_start_42 ?_
      refine vx_ret ?_
      refine W.widen (k := 2) (n := 12) (by omega) (by omega) ?_
      exact W.iret (v := ((pI S5 9 i2 2).1 9 i2)) hx hb hr (fun t ht hW => ⟨⟨(pI S5 9 i2 2).1 9 i2, pI S5 9 i2 2, rfl, h, by rw [ht]; exact hP, hD⟩, hS.F ht⟩) hS.2.2 d_G_start_45
  have hH9 : ∀ H : Heap, H = s.heap → va_P D cls (wC ca ad S) H → va_S A s.heap H [] → W p l e ({ frames := 8, cells := 2, slots := 12, locals := 138 } : Room) s m args below meth c H [] 0 0 (vx_MQ below ((fun A => va_Qi Q (xAt D (wC ca ad) A) A) A) ((fun A => xXf X D (wC ca ad) A) A) args s 2 12 A) (F0 m 0 ls []) := by
    clear hP hS
    intro H hH hP hS
    obtain ⟨locs, hlo⟩ : ∃ z : List Loc, z = [] := ⟨_, rfl⟩
    rw [← hlo] at hS ⊢
    refine lv_aload_n hx hb d_G_start_0 rfl (lv_at hl 0 rfl) ?_
    refine lv_iload_n hx hb d_G_start_1 rfl (lv_at hl 1 rfl) ?_
    refine xx_calr (vx_runV (As := [.int x1]) (rest := []) ⟨hx, hb, hml, hown, hw⟩ (c_G_trainNumbered l hl0 D ca ad H.size S x1 _ _ h) (cwV 1 hw (tG_g gl_G_102) rfl rfl rfl (by decide +kernel) ⟨Nat.le_of_ble_eq_true rfl, Nat.le_of_ble_eq_true rfl⟩) ⟨xPx.blind, va_recv hK hP rfl (q0 := 0) rfl, xPx.pre hK hN hP hD hX (hZ.now hS hA hD)⟩ rfl rfl hl.1 rfl (lv_room (Nat.le_of_ble_eq_true rfl)) d_G_start_2 ⟨Nat.le_of_ble_eq_true rfl, Nat.le_of_ble_eq_true rfl⟩) hD hS hA hout hlocks (Nat.le_of_ble_eq_true rfl) (Nat.le_of_ble_eq_true rfl) (fun j1 S2 H locs hj1 h hP hD hS => ?_)
    refine lv_astore_n (lv' := [(2, .ref (ad (9 + j1))), (0, .ref (ad 0)), (1, .int x1)]) hx hb d_G_start_5 rfl hl (by decide) rfl (fun ls hl => ?_)
    refine lv_aload_n hx hb d_G_start_6 rfl (lv_at hl 0 rfl) ?_
    refine va_getN (D := D) (ci := 2) (v := .int (S2.1 9 j1)) (C := Rc_T) (T := Fc_T) (N := 11) hx hb hw inc_T hown hK hP (9 + j1) (wC_T hj1) rfl 10 (by decide) (nw_108 hN) (fun _ h9 => h9) rfl d_G_start_7 ?_
    refine lv_if_ne (tgt := 17) hx hb d_G_start_10 (by decide) (fun hc => ?_) (fun hc => ?_)
    · replace h := h.1 hc
      refine lv_iconst (v := 0) hx hb d_G_start_17 (by decide) ?_
      exact bk_18 S2 j1 0 H locs hj1 hP hD hS ls (lv_sub hl [1, 0] rfl) h
    · replace h := h.2 hc
      refine lv_iconst (v := 1) hx hb d_G_start_13 (by decide) ?_
      refine lv_goto (tgt := 18) hx hb d_G_start_14 (by decide) ?_
      exact bk_18 S2 j1 1 H locs hj1 hP hD hS ls (lv_sub hl [1, 0] rfl) h
  exact hH9 _ rfl hP hS
theorem d_G_ask_0 : decode b_G_ask 0 = .ok (.aload_n 0, 1) := by decide +kernel
theorem d_G_ask_1 : decode b_G_ask 1 = .ok (.iload_n 1, 1) := by decide +kernel
theorem d_G_ask_2 : decode b_G_ask 2 = .ok (.invokevirtual 102, 3) := by decide +kernel
theorem d_G_ask_5 : decode b_G_ask 5 = .ok (.astore_n 3, 1) := by decide +kernel
theorem d_G_ask_6 : decode b_G_ask 6 = .ok (.aload_n 0, 1) := by decide +kernel
theorem d_G_ask_7 : decode b_G_ask 7 = .ok (.getfield 10, 3) := by decide +kernel
theorem d_G_ask_10 : decode b_G_ask 10 = .ok (.iload_n 2, 1) := by decide +kernel
theorem d_G_ask_11 : decode b_G_ask 11 = .ok (.invokevirtual 73, 3) := by decide +kernel
theorem d_G_ask_14 : decode b_G_ask 14 = .ok (.invokestatic 35, 3) := by decide +kernel
theorem d_G_ask_17 : decode b_G_ask 17 = .ok (.aload_n 0, 1) := by decide +kernel
theorem d_G_ask_18 : decode b_G_ask 18 = .ok (.aload_n 3, 1) := by decide +kernel
theorem d_G_ask_19 : decode b_G_ask 19 = .ok (.invokevirtual 113, 3) := by decide +kernel
theorem d_G_ask_22 : decode b_G_ask 22 = .ok (.istore 4, 2) := by decide +kernel
theorem d_G_ask_24 : decode b_G_ask 24 = .ok (.iload_n 2, 1) := by decide +kernel
theorem d_G_ask_25 : decode b_G_ask 25 = .ok (.iload 4, 2) := by decide +kernel
theorem d_G_ask_27 : decode b_G_ask 27 = .ok (.if_icmp .lt 7, 3) := by decide +kernel
theorem d_G_ask_30 : decode b_G_ask 30 = .ok (.iconst 1, 1) := by decide +kernel
theorem d_G_ask_31 : decode b_G_ask 31 = .ok (.goto 4, 3) := by decide +kernel
theorem d_G_ask_34 : decode b_G_ask 34 = .ok (.iconst 0, 1) := by decide +kernel
theorem d_G_ask_35 : decode b_G_ask 35 = .ok (.invokestatic 35, 3) := by decide +kernel
theorem d_G_ask_38 : decode b_G_ask 38 = .ok (.iload 4, 2) := by decide +kernel
theorem d_G_ask_40 : decode b_G_ask 40 = .ok (.istore 5, 2) := by decide +kernel
theorem d_G_ask_42 : decode b_G_ask 42 = .ok (.iload 5, 2) := by decide +kernel
theorem d_G_ask_44 : decode b_G_ask 44 = .ok (.iload_n 2, 1) := by decide +kernel
theorem d_G_ask_45 : decode b_G_ask 45 = .ok (.if_icmp .gt 19, 3) := by decide +kernel
theorem d_G_ask_48 : decode b_G_ask 48 = .ok (.aload_n 0, 1) := by decide +kernel
theorem d_G_ask_49 : decode b_G_ask 49 = .ok (.iload_n 1, 1) := by decide +kernel
theorem d_G_ask_50 : decode b_G_ask 50 = .ok (.iload 5, 2) := by decide +kernel
theorem d_G_ask_52 : decode b_G_ask 52 = .ok (.invokevirtual 87, 3) := by decide +kernel
theorem d_G_ask_55 : decode b_G_ask 55 = .ok (.invokestatic 46, 3) := by decide +kernel
theorem d_G_ask_58 : decode b_G_ask 58 = .ok (.iinc 5 1, 3) := by decide +kernel
theorem d_G_ask_61 : decode b_G_ask 61 = .ok (.goto (-19), 3) := by decide +kernel
theorem d_G_ask_64 : decode b_G_ask 64 = .ok (.iload 4, 2) := by decide +kernel
theorem d_G_ask_66 : decode b_G_ask 66 = .ok (.istore 5, 2) := by decide +kernel
theorem d_G_ask_68 : decode b_G_ask 68 = .ok (.iload 5, 2) := by decide +kernel
theorem d_G_ask_70 : decode b_G_ask 70 = .ok (.iload_n 2, 1) := by decide +kernel
theorem d_G_ask_71 : decode b_G_ask 71 = .ok (.if_icmp .gt 20, 3) := by decide +kernel
theorem d_G_ask_74 : decode b_G_ask 74 = .ok (.aload_n 0, 1) := by decide +kernel
theorem d_G_ask_75 : decode b_G_ask 75 = .ok (.getfield 10, 3) := by decide +kernel
theorem d_G_ask_78 : decode b_G_ask 78 = .ok (.getfield 98, 3) := by decide +kernel
theorem d_G_ask_81 : decode b_G_ask 81 = .ok (.iload 5, 2) := by decide +kernel
theorem d_G_ask_83 : decode b_G_ask 83 = .ok (.iload_n 1, 1) := by decide +kernel
theorem d_G_ask_84 : decode b_G_ask 84 = .ok (.iastore, 1) := by decide +kernel
theorem d_G_ask_85 : decode b_G_ask 85 = .ok (.iinc 5 1, 3) := by decide +kernel
theorem d_G_ask_88 : decode b_G_ask 88 = .ok (.goto (-20), 3) := by decide +kernel
theorem d_G_ask_91 : decode b_G_ask 91 = .ok (.aload_n 3, 1) := by decide +kernel
theorem d_G_ask_92 : decode b_G_ask 92 = .ok (.getfield 117, 3) := by decide +kernel
theorem d_G_ask_95 : decode b_G_ask 95 = .ok (.iconst 0, 1) := by decide +kernel
theorem d_G_ask_96 : decode b_G_ask 96 = .ok (.aload_n 0, 1) := by decide +kernel
theorem d_G_ask_97 : decode b_G_ask 97 = .ok (.getfield 10, 3) := by decide +kernel
theorem d_G_ask_100 : decode b_G_ask 100 = .ok (.iload_n 2, 1) := by decide +kernel
theorem d_G_ask_101 : decode b_G_ask 101 = .ok (.invokevirtual 121, 3) := by decide +kernel
theorem d_G_ask_104 : decode b_G_ask 104 = .ok (.invokevirtual 124, 3) := by decide +kernel
theorem d_G_ask_107 : decode b_G_ask 107 = .ok (.ireturn, 1) := by decide +kernel
theorem gl_G_113 : ∀ w ∈ wsV "TrainGuard" 113 "TrainGuard" y_G_headOf (Cond.code y_G_headOf b_G_headOf 4 (some Jvm.ClassFile.FieldType.int) :: tG), w ∈ tG := by
  intro x hx
  simp only [wsV, List.cons_append, List.nil_append, List.mem_cons] at hx
  rcases hx with rfl | rfl | rfl | rfl | rfl | hx
  · exact wd_419
  · exact wd_421
  · exact ws_9
  · exact wd_1
  · exact wd_422
  · exact hx
theorem gl_G_124 : ∀ w ∈ wsV "TrainGuard" 124 "TrainGuard$Message" y_M_send (Cond.code y_M_send b_M_send 4 (some Jvm.ClassFile.FieldType.int) :: tG), w ∈ tG := by
  intro x hx
  simp only [wsV, List.cons_append, List.nil_append, List.mem_cons] at hx
  rcases hx with rfl | rfl | rfl | rfl | rfl | hx
  · exact wd_423
  · exact wd_424
  · exact wd_425
  · exact wd_4
  · exact wd_426
  · exact hx
def w_G_ask_68 : Nat → SC → Int32 → Int32 → Nat → Int32 → (Int32 → SC → Prop) → (Nat → SC → Prop) → Prop
  | 0 => fun _ _ _ _ _ _ _ => False
  | n + 1 => fun S y1 y2 i3 y5 Q X => (((y2 < y5) → (w_L_endOf S y2 (fun r12 S13 => w_M_send S13 i3 0 r12 (fun r14 S15 => Q r14 S15)))) ∧ ((¬ y2 < y5) → (vp_in y5 10 ∧ ((fun S9 z0 z1 z2 z3 => w_G_ask_68 n S9 z0 z1 z2 z3 Q X) (pI S 6 y5.toNatClampNeg y1) y1 y2 i3 (y5 + 1)))))
def w_G_ask_42 : Nat → SC → Int32 → Int32 → Nat → Int32 → Int32 → (Int32 → SC → Prop) → (Nat → SC → Prop) → Prop
  | 0 => fun _ _ _ _ _ _ _ _ => False
  | n + 1 => fun S y1 y2 i3 y4 y5 Q X => (((y2 < y5) → (∃ n : Nat, w_G_ask_68 n S y1 y2 i3 y4 Q X)) ∧ ((¬ y2 < y5) → (w_G_isFreeFor S y1 y5 (fun r9 S10 => ((r9 = 0) → X 3 S10) ∧ ((¬ r9 = 0) → ((fun S11 => (fun S9 z0 z1 z2 z3 z4 => w_G_ask_42 n S9 z0 z1 z2 z3 z4 Q X) S11 y1 y2 i3 y4 (y5 + 1)) S10))))))
def w_G_ask_35 (S : SC) (y1 : Int32) (y2 : Int32) (i3 : Nat) (y4 : Int32) (ys0 : Int32) (Q : Int32 → SC → Prop) (X : Nat → SC → Prop) : Prop := ((ys0 = 0) → X 1 S) ∧ ((¬ ys0 = 0) → ((fun S8 => ∃ n : Nat, w_G_ask_42 n S8 y1 y2 i3 y4 y4 Q X) S))
def w_G_ask (S : SC) (x1 : Int32) (x2 : Int32) (Q : Int32 → SC → Prop) (X : Nat → SC → Prop) : Prop := w_G_trainNumbered S x1 (fun j1 S2 => w_L_hasSection S2 x2 (fun r3 S4 => ((r3 = 0) → X 1 S4) ∧ ((¬ r3 = 0) → ((fun S5 => w_G_headOf S5 j1 (fun r6 S7 => ((x2 < r6) → (w_G_ask_35 S7 x1 x2 j1 r6 0 Q X)) ∧ ((¬ x2 < r6) → (w_G_ask_35 S7 x1 x2 j1 r6 1 Q X)))) S4)))) X
set_option maxRecDepth 100000 in
set_option maxHeartbeats 4000000 in
theorem c_G_ask (l : Launch) (hl0 : l.stackTraces = false) (D : va_G) (ca : Nat → ClassId) (ad : Nat → Nat) (sz : Nat) (S : SC) (x1 : Int32) (x2 : Int32)  (Q : Int32 → SC → Prop) (X : Nat → SC → Prop) (h : w_G_ask S x1 x2 Q X) : vx_Met l y_G_ask (Cond.code y_G_ask b_G_ask 6 (some Jvm.ClassFile.FieldType.int) :: tG) ({ frames := 8, cells := 2, slots := 12, locals := 122 } : Room) (xPx D ca (wC ca ad) S sz [.ref (ad 0), .int x1, .int x2]) (va_Qi Q (xAt D (wC ca ad) (va_A (wC ca ad S) sz)) (va_A (wC ca ad S) sz)) (xXf X D (wC ca ad) (va_A (wC ca ad S) sz)) 2 12 (va_A (wC ca ad S) sz) := by
  refine xx_mex (Qf := fun A => va_Qi Q (xAt D (wC ca ad) A) A) (Xf := fun A => xXf X D (wC ca ad) A) (by decide) (Nat.le_of_ble_eq_true rfl) ?_
  intro p e s m args below meth c A ls hx hb hr hw hown hlocks hml hK hN hA hP hD hS hl hZ hout hX
  have hown : s.vm.findClass "TrainGuard" = some m.cls := hown
  have hl : lv_has ls 6 [(0, .ref (ad 0)), (1, .int x1), (2, .int x2)] := hl
  unfold w_G_ask at h
  have bk_68 : ∀ (n9 : Nat) (S : SC) (y1 : Int32) (y2 : Int32) (i3 : Nat) (y5 : Int32) (H : Heap) (locs : List Loc) (hi3 : i3 < 3), va_P D cls (wC ca ad S) H → va_D A (wC ca ad S) → va_S A s.heap H locs → ∀ (ls : Array Slot), lv_has ls 6 [(0, .ref (ad 0)), (1, .int y1), (2, .int y2), (3, .ref (ad (9 + i3))), (5, .int y5)] → w_G_ask_68 n9 S y1 y2 i3 y5 Q X → W p l e ({ frames := 8, cells := 2, slots := 12, locals := 122 } : Room) s m args below meth c H locs 1 6 (vx_MQ below ((fun A => va_Qi Q (xAt D (wC ca ad) A) A) A) ((fun A => xXf X D (wC ca ad) A) A) args s 2 12 A) (F0 m 68 ls []) := by
    intro n9
    induction n9 with
    | zero => intro S y1 y2 i3 y5 H locs hi3 hP hD hS ls hl h; exact absurd h id
    | succ n9 hK68 =>
      intro S y1 y2 i3 y5 H locs hi3 hP hD hS ls hl h
      replace h : ((y2 < y5) → (w_L_endOf S y2 (fun r12 S13 => w_M_send S13 i3 0 r12 (fun r14 S15 => Q r14 S15)))) ∧ ((¬ y2 < y5) → (vp_in y5 10 ∧ ((fun S9 z0 z1 z2 z3 => w_G_ask_68 n9 S9 z0 z1 z2 z3 Q X) (pI S 6 y5.toNatClampNeg y1) y1 y2 i3 (y5 + 1)))) := h
      refine lv_iload hx hb d_G_ask_68 (lv_at hl 4 rfl) ?_
      refine lv_iload_n hx hb d_G_ask_70 rfl (lv_at hl 2 rfl) ?_
      refine lv_icmp_gt (tgt := 91) hx hb d_G_ask_71 (by decide) (fun hc => ?_) (fun hc => ?_)
      · replace h := h.1 hc
        refine lv_aload_n hx hb d_G_ask_91 rfl (lv_at hl 3 rfl) ?_
        refine va_getN (D := D) (ci := 2) (v := .ref (ad (12 + i3))) (C := Rc_T) (T := Fc_T) (N := 11) hx hb hw inc_T hown hK hP (9 + i3) (wC_T hi3) rfl 0 (by decide) (nw_90 hN) (fun _ h9 => h9) rfl d_G_ask_92 ?_
        refine lv_iconst (v := 0) hx hb d_G_ask_95 (by decide) ?_
        refine lv_aload_n hx hb d_G_ask_96 rfl (lv_at hl 0 rfl) ?_
        refine va_get (D := D) (ci := 3) (v := .ref (ad 1)) (C := Rc_G) (T := Fc_G) (N := 6) hx hb hw inc_G hown hK hP 0 rfl rfl 0 (by decide) (hw _ wd_132) (fun _ h9 => h9) rfl d_G_ask_97 ?_
        refine lv_iload_n hx hb d_G_ask_100 rfl (lv_at hl 2 rfl) ?_
        refine xx_calld (va_runV (As := [.int y2]) (rest := [.int 0, .ref (ad (12 + i3))]) ⟨hx, hb, hml, hown, hw⟩ (c_L_endOf l D ca ad H.size S y2 _ h) (cwV 1 hw (tG_g gl_G_121) rfl rfl rfl (by decide +kernel) ⟨Nat.le_of_ble_eq_true rfl, Nat.le_of_ble_eq_true rfl⟩) ⟨xPc.blind, va_recv hK hP rfl (q0 := 1) rfl, xPc.pre hK hN hP hD⟩ rfl rfl hl.1 rfl (lv_room (Nat.le_of_ble_eq_true rfl)) d_G_ask_101 ⟨Nat.le_of_ble_eq_true rfl, Nat.le_of_ble_eq_true rfl⟩) hD hS hA (fun r12 S13 H locs h hP hD hS => ?_)
        refine xx_calli (va_runV (As := [.int 0, .double r12]) (rest := []) ⟨hx, hb, hml, hown, hw⟩ (c_M_send l D ca ad H.size S13 i3 0 r12 hi3 _ h) (cwV 2 hw (tG_g gl_G_124) rfl rfl rfl (by decide +kernel) ⟨Nat.le_of_ble_eq_true rfl, Nat.le_of_ble_eq_true rfl⟩) ⟨xPc.blind, va_recv hK hP rfl (wC_M hi3), xPc.pre hK hN hP hD⟩ rfl rfl hl.1 rfl (lv_room (Nat.le_of_ble_eq_true rfl)) d_G_ask_104 ⟨Nat.le_of_ble_eq_true rfl, Nat.le_of_ble_eq_true rfl⟩) hD hS hA (fun r14 S15 H locs h hP hD hS => ?_)
        refine vx_ret ?_
        refine W.widen (k := 2) (n := 12) (by omega) (by omega) ?_
        exact W.iret (v := r14) hx hb hr (fun t ht hW => ⟨⟨r14, S15, rfl, h, by rw [ht]; exact hP, hD⟩, hS.F ht⟩) hS.2.2 d_G_ask_107
      · replace h := h.2 hc
        refine lv_aload_n hx hb d_G_ask_74 rfl (lv_at hl 0 rfl) ?_
        refine va_get (D := D) (ci := 3) (v := .ref (ad 1)) (C := Rc_G) (T := Fc_G) (N := 6) hx hb hw inc_G hown hK hP 0 rfl rfl 0 (by decide) (hw _ wd_132) (fun _ h9 => h9) rfl d_G_ask_75 ?_
        refine va_getN (D := D) (ci := 0) (v := .ref (ad 4)) (C := Rc_L) (T := Fc_L) (N := 8) hx hb hw inc_L hown hK hP 1 rfl rfl 2 (by decide) (nw_30 hN) (fun _ h9 => h9) rfl d_G_ask_78 ?_
        refine lv_iload hx hb d_G_ask_81 (lv_at hl 4 rfl) ?_
        refine lv_iload_n hx hb d_G_ask_83 rfl (lv_at hl 1 rfl) ?_
        obtain ⟨hq, h⟩ := h
        refine va_iast (D := D) hx hb hK hP hD hS 4 0 rfl rfl hq d_G_ask_84 (fun H locs hP hD hS => ?_)
        rw [pt_A_holders] at hP hD
        refine lv_iinc (v := (y5 + 1)) (lv' := [(5, .int (y5 + 1)), (0, .ref (ad 0)), (1, .int y1), (2, .int y2), (3, .ref (ad (9 + i3)))]) hx hb d_G_ask_85 hl (k := 4) rfl rfl (by decide) rfl (fun ls hl => ?_)
        refine lv_goto (tgt := 68) hx hb d_G_ask_88 (by decide) ?_
        exact hK68 (pI S 6 y5.toNatClampNeg y1) y1 y2 i3 (y5 + 1) H locs hi3 hP hD hS ls (lv_sub hl [1, 2, 3, 4, 0] rfl) h
  have bk_42 : ∀ (n9 : Nat) (S : SC) (y1 : Int32) (y2 : Int32) (i3 : Nat) (y4 : Int32) (y5 : Int32) (H : Heap) (locs : List Loc) (hi3 : i3 < 3), va_P D cls (wC ca ad S) H → va_D A (wC ca ad S) → va_S A s.heap H locs → ∀ (ls : Array Slot), lv_has ls 6 [(0, .ref (ad 0)), (1, .int y1), (2, .int y2), (3, .ref (ad (9 + i3))), (4, .int y4), (5, .int y5)] → w_G_ask_42 n9 S y1 y2 i3 y4 y5 Q X → W p l e ({ frames := 8, cells := 2, slots := 12, locals := 122 } : Room) s m args below meth c H locs 1 6 (vx_MQ below ((fun A => va_Qi Q (xAt D (wC ca ad) A) A) A) ((fun A => xXf X D (wC ca ad) A) A) args s 2 12 A) (F0 m 42 ls []) := by
    intro n9
    induction n9 with
    | zero => intro S y1 y2 i3 y4 y5 H locs hi3 hP hD hS ls hl h; exact absurd h id
    | succ n9 hK42 =>
      intro S y1 y2 i3 y4 y5 H locs hi3 hP hD hS ls hl h
      replace h : ((y2 < y5) → (∃ n : Nat, w_G_ask_68 n S y1 y2 i3 y4 Q X)) ∧ ((¬ y2 < y5) → (w_G_isFreeFor S y1 y5 (fun r9 S10 => ((r9 = 0) → X 3 S10) ∧ ((¬ r9 = 0) → ((fun S11 => (fun S9 z0 z1 z2 z3 z4 => w_G_ask_42 n9 S9 z0 z1 z2 z3 z4 Q X) S11 y1 y2 i3 y4 (y5 + 1)) S10))))) := h
      refine lv_iload hx hb d_G_ask_42 (lv_at hl 5 rfl) ?_
      refine lv_iload_n hx hb d_G_ask_44 rfl (lv_at hl 2 rfl) ?_
      refine lv_icmp_gt (tgt := 64) hx hb d_G_ask_45 (by decide) (fun hc => ?_) (fun hc => ?_)
      · replace h := h.1 hc
        refine lv_iload hx hb d_G_ask_64 (lv_at hl 4 rfl) ?_
        refine lv_istore (lv' := [(5, .int y4), (0, .ref (ad 0)), (1, .int y1), (2, .int y2), (3, .ref (ad (9 + i3))), (4, .int y4)]) hx hb d_G_ask_66 hl (by decide) rfl (fun ls hl => ?_)
        obtain ⟨n9, h⟩ := h
        exact bk_68 n9 S y1 y2 i3 y4 H locs hi3 hP hD hS ls (lv_sub hl [1, 2, 3, 4, 0] rfl) h
      · replace h := h.2 hc
        refine lv_aload_n hx hb d_G_ask_48 rfl (lv_at hl 0 rfl) ?_
        refine lv_iload_n hx hb d_G_ask_49 rfl (lv_at hl 1 rfl) ?_
        refine lv_iload hx hb d_G_ask_50 (lv_at hl 5 rfl) ?_
        refine xx_calli (va_runV (As := [.int y1, .int y5]) (rest := []) ⟨hx, hb, hml, hown, hw⟩ (c_G_isFreeFor l D ca ad H.size S y1 y5 _ h) (cwV 2 hw (tG_g gl_G_87) rfl rfl rfl (by decide +kernel) ⟨Nat.le_of_ble_eq_true rfl, Nat.le_of_ble_eq_true rfl⟩) ⟨xPc.blind, va_recv hK hP rfl (q0 := 0) rfl, xPc.pre hK hN hP hD⟩ rfl rfl hl.1 rfl (lv_room (Nat.le_of_ble_eq_true rfl)) d_G_ask_52 ⟨Nat.le_of_ble_eq_true rfl, Nat.le_of_ble_eq_true rfl⟩) hD hS hA (fun r9 S10 H locs h hP hD hS => ?_)
        by_cases hz : r9 = 0
        · replace h := h.1 hz
          exact xx_thr (vx_runS (As := [.int r9]) (rest := []) ⟨hx, hb, hml, hown, hw⟩ (c_G_demandState_no l hl0 D ca ad H.size S10 r9 hz X h) (cwS 1 hw (tG_g gl_G_46) rfl rfl rfl (by decide +kernel) ⟨Nat.le_of_ble_eq_true rfl, Nat.le_of_ble_eq_true rfl⟩) ⟨xPx.blind, xPx.pre hK hN hP hD hX (hZ.now hS hA hD)⟩ rfl rfl hl.1 rfl (lv_room (Nat.le_of_ble_eq_true rfl)) d_G_ask_55 ⟨Nat.le_of_ble_eq_true rfl, Nat.le_of_ble_eq_true rfl⟩) hD hS hA hout hlocks (Nat.le_of_ble_eq_true rfl) (Nat.le_of_ble_eq_true rfl)
        replace h := h.2 hz
        refine xx_callv (va_runS (As := [.int r9]) (rest := []) ⟨hx, hb, hml, hown, hw⟩ (c_G_demandState_ok l D ca ad H.size S10 r9 hz (fun S11 => (fun S9 z0 z1 z2 z3 z4 => w_G_ask_42 n9 S9 z0 z1 z2 z3 z4 Q X) S11 y1 y2 i3 y4 (y5 + 1)) h) (cwS 1 hw (tG_g gl_G_46) rfl rfl rfl (by decide +kernel) ⟨Nat.le_of_ble_eq_true rfl, Nat.le_of_ble_eq_true rfl⟩) ⟨xPc.blind, xPc.pre hK hN hP hD⟩ rfl rfl hl.1 rfl (lv_room (Nat.le_of_ble_eq_true rfl)) d_G_ask_55 ⟨Nat.le_of_ble_eq_true rfl, Nat.le_of_ble_eq_true rfl⟩) hD hS hA (fun S11 H locs h hP hD hS => ?_)
        refine lv_iinc (v := (y5 + 1)) (lv' := [(5, .int (y5 + 1)), (0, .ref (ad 0)), (1, .int y1), (2, .int y2), (3, .ref (ad (9 + i3))), (4, .int y4)]) hx hb d_G_ask_58 hl (k := 5) rfl rfl (by decide) rfl (fun ls hl => ?_)
        refine lv_goto (tgt := 42) hx hb d_G_ask_61 (by decide) ?_
        exact hK42 S11 y1 y2 i3 y4 (y5 + 1) H locs hi3 hP hD hS ls (lv_sub hl [1, 2, 3, 4, 5, 0] rfl) h
  have bk_35 : ∀ (S : SC) (y1 : Int32) (y2 : Int32) (i3 : Nat) (y4 : Int32) (ys0 : Int32) (H : Heap) (locs : List Loc) (hi3 : i3 < 3), va_P D cls (wC ca ad S) H → va_D A (wC ca ad S) → va_S A s.heap H locs → ∀ (ls : Array Slot), lv_has ls 6 [(0, .ref (ad 0)), (1, .int y1), (2, .int y2), (3, .ref (ad (9 + i3))), (4, .int y4)] → w_G_ask_35 S y1 y2 i3 y4 ys0 Q X → W p l e ({ frames := 8, cells := 2, slots := 12, locals := 122 } : Room) s m args below meth c H locs 1 6 (vx_MQ below ((fun A => va_Qi Q (xAt D (wC ca ad) A) A) A) ((fun A => xXf X D (wC ca ad) A) A) args s 2 12 A) (F0 m 35 ls [.int ys0]) := by
    intro S y1 y2 i3 y4 ys0 H locs hi3 hP hD hS ls hl h
    unfold w_G_ask_35 at h
    by_cases hz : ys0 = 0
    · replace h := h.1 hz
      exact xx_thr (vx_runS (As := [.int ys0]) (rest := []) ⟨hx, hb, hml, hown, hw⟩ (c_G_demandArgument_no l hl0 D ca ad H.size S ys0 hz X h) (cwS 1 hw (tG_g gl_G_35) rfl rfl rfl (by decide +kernel) ⟨Nat.le_of_ble_eq_true rfl, Nat.le_of_ble_eq_true rfl⟩) ⟨xPx.blind, xPx.pre hK hN hP hD hX (hZ.now hS hA hD)⟩ rfl rfl hl.1 rfl (lv_room (Nat.le_of_ble_eq_true rfl)) d_G_ask_35 ⟨Nat.le_of_ble_eq_true rfl, Nat.le_of_ble_eq_true rfl⟩) hD hS hA hout hlocks (Nat.le_of_ble_eq_true rfl) (Nat.le_of_ble_eq_true rfl)
    replace h := h.2 hz
    refine xx_callv (va_runS (As := [.int ys0]) (rest := []) ⟨hx, hb, hml, hown, hw⟩ (c_G_demandArgument_ok l D ca ad H.size S ys0 hz (fun S8 => ∃ n : Nat, w_G_ask_42 n S8 y1 y2 i3 y4 y4 Q X) h) (cwS 1 hw (tG_g gl_G_35) rfl rfl rfl (by decide +kernel) ⟨Nat.le_of_ble_eq_true rfl, Nat.le_of_ble_eq_true rfl⟩) ⟨xPc.blind, xPc.pre hK hN hP hD⟩ rfl rfl hl.1 rfl (lv_room (Nat.le_of_ble_eq_true rfl)) d_G_ask_35 ⟨Nat.le_of_ble_eq_true rfl, Nat.le_of_ble_eq_true rfl⟩) hD hS hA (fun S8 H locs h hP hD hS => ?_)
    refine lv_iload hx hb d_G_ask_38 (lv_at hl 4 rfl) ?_
    refine lv_istore (lv' := [(5, .int y4), (0, .ref (ad 0)), (1, .int y1), (2, .int y2), (3, .ref (ad (9 + i3))), (4, .int y4)]) hx hb d_G_ask_40 hl (by decide) rfl (fun ls hl => ?_)
    obtain ⟨n9, h⟩ := h
    exact bk_42 n9 S8 y1 y2 i3 y4 y4 H locs hi3 hP hD hS ls (lv_sub hl [1, 2, 3, 4, 5, 0] rfl) h
  have hH9 : ∀ H : Heap, H = s.heap → va_P D cls (wC ca ad S) H → va_S A s.heap H [] → W p l e ({ frames := 8, cells := 2, slots := 12, locals := 122 } : Room) s m args below meth c H [] 0 0 (vx_MQ below ((fun A => va_Qi Q (xAt D (wC ca ad) A) A) A) ((fun A => xXf X D (wC ca ad) A) A) args s 2 12 A) (F0 m 0 ls []) := by
    clear hP hS
    intro H hH hP hS
    obtain ⟨locs, hlo⟩ : ∃ z : List Loc, z = [] := ⟨_, rfl⟩
    rw [← hlo] at hS ⊢
    refine lv_aload_n hx hb d_G_ask_0 rfl (lv_at hl 0 rfl) ?_
    refine lv_iload_n hx hb d_G_ask_1 rfl (lv_at hl 1 rfl) ?_
    refine xx_calr (vx_runV (As := [.int x1]) (rest := []) ⟨hx, hb, hml, hown, hw⟩ (c_G_trainNumbered l hl0 D ca ad H.size S x1 _ _ h) (cwV 1 hw (tG_g gl_G_102) rfl rfl rfl (by decide +kernel) ⟨Nat.le_of_ble_eq_true rfl, Nat.le_of_ble_eq_true rfl⟩) ⟨xPx.blind, va_recv hK hP rfl (q0 := 0) rfl, xPx.pre hK hN hP hD hX (hZ.now hS hA hD)⟩ rfl rfl hl.1 rfl (lv_room (Nat.le_of_ble_eq_true rfl)) d_G_ask_2 ⟨Nat.le_of_ble_eq_true rfl, Nat.le_of_ble_eq_true rfl⟩) hD hS hA hout hlocks (Nat.le_of_ble_eq_true rfl) (Nat.le_of_ble_eq_true rfl) (fun j1 S2 H locs hj1 h hP hD hS => ?_)
    refine lv_astore_n (lv' := [(3, .ref (ad (9 + j1))), (0, .ref (ad 0)), (1, .int x1), (2, .int x2)]) hx hb d_G_ask_5 rfl hl (by decide) rfl (fun ls hl => ?_)
    refine lv_aload_n hx hb d_G_ask_6 rfl (lv_at hl 1 rfl) ?_
    refine va_get (D := D) (ci := 3) (v := .ref (ad 1)) (C := Rc_G) (T := Fc_G) (N := 6) hx hb hw inc_G hown hK hP 0 rfl rfl 0 (by decide) (hw _ wd_132) (fun _ h9 => h9) rfl d_G_ask_7 ?_
    refine lv_iload_n hx hb d_G_ask_10 rfl (lv_at hl 3 rfl) ?_
    refine xx_calli (va_runV (As := [.int x2]) (rest := []) ⟨hx, hb, hml, hown, hw⟩ (c_L_hasSection l D ca ad H.size S2 x2 _ h) (cwV 1 hw (tG_g gl_G_73) rfl rfl rfl (by decide +kernel) ⟨Nat.le_of_ble_eq_true rfl, Nat.le_of_ble_eq_true rfl⟩) ⟨xPc.blind, va_recv hK hP rfl (q0 := 1) rfl, xPc.pre hK hN hP hD⟩ rfl rfl hl.1 rfl (lv_room (Nat.le_of_ble_eq_true rfl)) d_G_ask_11 ⟨Nat.le_of_ble_eq_true rfl, Nat.le_of_ble_eq_true rfl⟩) hD hS hA (fun r3 S4 H locs h hP hD hS => ?_)
    by_cases hz : r3 = 0
    · replace h := h.1 hz
      exact xx_thr (vx_runS (As := [.int r3]) (rest := []) ⟨hx, hb, hml, hown, hw⟩ (c_G_demandArgument_no l hl0 D ca ad H.size S4 r3 hz X h) (cwS 1 hw (tG_g gl_G_35) rfl rfl rfl (by decide +kernel) ⟨Nat.le_of_ble_eq_true rfl, Nat.le_of_ble_eq_true rfl⟩) ⟨xPx.blind, xPx.pre hK hN hP hD hX (hZ.now hS hA hD)⟩ rfl rfl hl.1 rfl (lv_room (Nat.le_of_ble_eq_true rfl)) d_G_ask_14 ⟨Nat.le_of_ble_eq_true rfl, Nat.le_of_ble_eq_true rfl⟩) hD hS hA hout hlocks (Nat.le_of_ble_eq_true rfl) (Nat.le_of_ble_eq_true rfl)
    replace h := h.2 hz
    refine xx_callv (va_runS (As := [.int r3]) (rest := []) ⟨hx, hb, hml, hown, hw⟩ (c_G_demandArgument_ok l D ca ad H.size S4 r3 hz (fun S5 => w_G_headOf S5 j1 (fun r6 S7 => ((x2 < r6) → (w_G_ask_35 S7 x1 x2 j1 r6 0 Q X)) ∧ ((¬ x2 < r6) → (w_G_ask_35 S7 x1 x2 j1 r6 1 Q X)))) h) (cwS 1 hw (tG_g gl_G_35) rfl rfl rfl (by decide +kernel) ⟨Nat.le_of_ble_eq_true rfl, Nat.le_of_ble_eq_true rfl⟩) ⟨xPc.blind, xPc.pre hK hN hP hD⟩ rfl rfl hl.1 rfl (lv_room (Nat.le_of_ble_eq_true rfl)) d_G_ask_14 ⟨Nat.le_of_ble_eq_true rfl, Nat.le_of_ble_eq_true rfl⟩) hD hS hA (fun S5 H locs h hP hD hS => ?_)
    refine lv_aload_n hx hb d_G_ask_17 rfl (lv_at hl 1 rfl) ?_
    refine lv_aload_n hx hb d_G_ask_18 rfl (lv_at hl 0 rfl) ?_
    refine xx_calli (va_runV (As := [.ref (ad (9 + j1))]) (rest := []) ⟨hx, hb, hml, hown, hw⟩ (c_G_headOf l D ca ad H.size S5 j1 hj1 _ h) (cwV 1 hw (tG_g gl_G_113) rfl rfl rfl (by decide +kernel) ⟨Nat.le_of_ble_eq_true rfl, Nat.le_of_ble_eq_true rfl⟩) ⟨xPc.blind, va_recv hK hP rfl (q0 := 0) rfl, xPc.pre hK hN hP hD⟩ rfl rfl hl.1 rfl (lv_room (Nat.le_of_ble_eq_true rfl)) d_G_ask_19 ⟨Nat.le_of_ble_eq_true rfl, Nat.le_of_ble_eq_true rfl⟩) hD hS hA (fun r6 S7 H locs h hP hD hS => ?_)
    refine lv_istore (lv' := [(4, .int r6), (3, .ref (ad (9 + j1))), (0, .ref (ad 0)), (1, .int x1), (2, .int x2)]) hx hb d_G_ask_22 hl (by decide) rfl (fun ls hl => ?_)
    refine lv_iload_n hx hb d_G_ask_24 rfl (lv_at hl 4 rfl) ?_
    refine lv_iload hx hb d_G_ask_25 (lv_at hl 0 rfl) ?_
    refine lv_icmp_lt (tgt := 34) hx hb d_G_ask_27 (by decide) (fun hc => ?_) (fun hc => ?_)
    · replace h := h.1 hc
      refine lv_iconst (v := 0) hx hb d_G_ask_34 (by decide) ?_
      exact bk_35 S7 x1 x2 j1 r6 0 H locs hj1 hP hD hS ls (lv_sub hl [2, 3, 4, 1, 0] rfl) h
    · replace h := h.2 hc
      refine lv_iconst (v := 1) hx hb d_G_ask_30 (by decide) ?_
      refine lv_goto (tgt := 35) hx hb d_G_ask_31 (by decide) ?_
      exact bk_35 S7 x1 x2 j1 r6 1 H locs hj1 hP hD hS ls (lv_sub hl [2, 3, 4, 1, 0] rfl) h
  exact hH9 _ rfl hP hS
theorem d_G_stop_0 : decode b_G_stop 0 = .ok (.aload_n 0, 1) := by decide +kernel
theorem d_G_stop_1 : decode b_G_stop 1 = .ok (.iload_n 1, 1) := by decide +kernel
theorem d_G_stop_2 : decode b_G_stop 2 = .ok (.invokevirtual 102, 3) := by decide +kernel
theorem d_G_stop_5 : decode b_G_stop 5 = .ok (.getfield 117, 3) := by decide +kernel
theorem d_G_stop_8 : decode b_G_stop 8 = .ok (.iconst 1, 1) := by decide +kernel
theorem d_G_stop_9 : decode b_G_stop 9 = .ok (.dconst 0, 1) := by decide +kernel
theorem d_G_stop_10 : decode b_G_stop 10 = .ok (.invokevirtual 124, 3) := by decide +kernel
theorem d_G_stop_13 : decode b_G_stop 13 = .ok (.ireturn, 1) := by decide +kernel
def w_G_stop (S : SC) (x1 : Int32) (Q : Int32 → SC → Prop) (X : Nat → SC → Prop) : Prop := w_G_trainNumbered S x1 (fun j1 S2 => w_M_send S2 j1 1 FP.dconst0 (fun r3 S4 => Q r3 S4)) X
set_option maxRecDepth 100000 in
set_option maxHeartbeats 4000000 in
theorem c_G_stop (l : Launch) (hl0 : l.stackTraces = false) (D : va_G) (ca : Nat → ClassId) (ad : Nat → Nat) (sz : Nat) (S : SC) (x1 : Int32)  (Q : Int32 → SC → Prop) (X : Nat → SC → Prop) (h : w_G_stop S x1 Q X) : vx_Met l y_G_stop (Cond.code y_G_stop b_G_stop 2 (some Jvm.ClassFile.FieldType.int) :: tG) ({ frames := 8, cells := 2, slots := 12, locals := 122 } : Room) (xPx D ca (wC ca ad) S sz [.ref (ad 0), .int x1]) (va_Qi Q (xAt D (wC ca ad) (va_A (wC ca ad S) sz)) (va_A (wC ca ad S) sz)) (xXf X D (wC ca ad) (va_A (wC ca ad S) sz)) 2 12 (va_A (wC ca ad S) sz) := by
  refine xx_mex (Qf := fun A => va_Qi Q (xAt D (wC ca ad) A) A) (Xf := fun A => xXf X D (wC ca ad) A) (by decide) (Nat.le_of_ble_eq_true rfl) ?_
  intro p e s m args below meth c A ls hx hb hr hw hown hlocks hml hK hN hA hP hD hS hl hZ hout hX
  have hown : s.vm.findClass "TrainGuard" = some m.cls := hown
  have hl : lv_has ls 2 [(0, .ref (ad 0)), (1, .int x1)] := hl
  unfold w_G_stop at h
  have hH9 : ∀ H : Heap, H = s.heap → va_P D cls (wC ca ad S) H → va_S A s.heap H [] → W p l e ({ frames := 8, cells := 2, slots := 12, locals := 122 } : Room) s m args below meth c H [] 0 0 (vx_MQ below ((fun A => va_Qi Q (xAt D (wC ca ad) A) A) A) ((fun A => xXf X D (wC ca ad) A) A) args s 2 12 A) (F0 m 0 ls []) := by
    clear hP hS
    intro H hH hP hS
    obtain ⟨locs, hlo⟩ : ∃ z : List Loc, z = [] := ⟨_, rfl⟩
    rw [← hlo] at hS ⊢
    refine lv_aload_n hx hb d_G_stop_0 rfl (lv_at hl 0 rfl) ?_
    refine lv_iload_n hx hb d_G_stop_1 rfl (lv_at hl 1 rfl) ?_
    refine xx_calr (vx_runV (As := [.int x1]) (rest := []) ⟨hx, hb, hml, hown, hw⟩ (c_G_trainNumbered l hl0 D ca ad H.size S x1 _ _ h) (cwV 1 hw (tG_g gl_G_102) rfl rfl rfl (by decide +kernel) ⟨Nat.le_of_ble_eq_true rfl, Nat.le_of_ble_eq_true rfl⟩) ⟨xPx.blind, va_recv hK hP rfl (q0 := 0) rfl, xPx.pre hK hN hP hD hX (hZ.now hS hA hD)⟩ rfl rfl hl.1 rfl (lv_room (Nat.le_of_ble_eq_true rfl)) d_G_stop_2 ⟨Nat.le_of_ble_eq_true rfl, Nat.le_of_ble_eq_true rfl⟩) hD hS hA hout hlocks (Nat.le_of_ble_eq_true rfl) (Nat.le_of_ble_eq_true rfl) (fun j1 S2 H locs hj1 h hP hD hS => ?_)
    refine va_getN (D := D) (ci := 2) (v := .ref (ad (12 + j1))) (C := Rc_T) (T := Fc_T) (N := 11) hx hb hw inc_T hown hK hP (9 + j1) (wC_T hj1) rfl 0 (by decide) (nw_90 hN) (fun _ h9 => h9) rfl d_G_stop_5 ?_
    refine lv_iconst (v := 1) hx hb d_G_stop_8 (by decide) ?_
    refine lv_dconst0 hx hb d_G_stop_9 ?_
    refine xx_calli (va_runV (As := [.int 1, .double FP.dconst0]) (rest := []) ⟨hx, hb, hml, hown, hw⟩ (c_M_send l D ca ad H.size S2 j1 1 FP.dconst0 hj1 _ h) (cwV 2 hw (tG_g gl_G_124) rfl rfl rfl (by decide +kernel) ⟨Nat.le_of_ble_eq_true rfl, Nat.le_of_ble_eq_true rfl⟩) ⟨xPc.blind, va_recv hK hP rfl (wC_M hj1), xPc.pre hK hN hP hD⟩ rfl rfl hl.1 rfl (lv_room (Nat.le_of_ble_eq_true rfl)) d_G_stop_10 ⟨Nat.le_of_ble_eq_true rfl, Nat.le_of_ble_eq_true rfl⟩) hD hS hA (fun r3 S4 H locs h hP hD hS => ?_)
    refine vx_ret ?_
    refine W.widen (k := 2) (n := 12) (by omega) (by omega) ?_
    exact W.iret (v := r3) hx hb hr (fun t ht hW => ⟨⟨r3, S4, rfl, h, by rw [ht]; exact hP, hD⟩, hS.F ht⟩) hS.2.2 d_G_stop_13
  exact hH9 _ rfl hP hS
theorem d_G_take_0 : decode b_G_take 0 = .ok (.aload_n 0, 1) := by decide +kernel
theorem d_G_take_1 : decode b_G_take 1 = .ok (.iload_n 1, 1) := by decide +kernel
theorem d_G_take_2 : decode b_G_take 2 = .ok (.invokevirtual 102, 3) := by decide +kernel
theorem d_G_take_5 : decode b_G_take 5 = .ok (.astore_n 3, 1) := by decide +kernel
theorem d_G_take_6 : decode b_G_take 6 = .ok (.iload_n 2, 1) := by decide +kernel
theorem d_G_take_7 : decode b_G_take 7 = .ok (.ifCond .lt 14, 3) := by decide +kernel
theorem d_G_take_10 : decode b_G_take 10 = .ok (.iload_n 2, 1) := by decide +kernel
theorem d_G_take_11 : decode b_G_take 11 = .ok (.sipush 1023, 3) := by decide +kernel
theorem d_G_take_14 : decode b_G_take 14 = .ok (.if_icmp .gt 7, 3) := by decide +kernel
theorem d_G_take_17 : decode b_G_take 17 = .ok (.iconst 1, 1) := by decide +kernel
theorem d_G_take_18 : decode b_G_take 18 = .ok (.goto 4, 3) := by decide +kernel
theorem d_G_take_21 : decode b_G_take 21 = .ok (.iconst 0, 1) := by decide +kernel
theorem d_G_take_22 : decode b_G_take 22 = .ok (.invokestatic 35, 3) := by decide +kernel
theorem d_G_take_25 : decode b_G_take 25 = .ok (.aload_n 3, 1) := by decide +kernel
theorem d_G_take_26 : decode b_G_take 26 = .ok (.getfield 117, 3) := by decide +kernel
theorem d_G_take_29 : decode b_G_take 29 = .ok (.astore 4, 2) := by decide +kernel
theorem d_G_take_31 : decode b_G_take 31 = .ok (.aload 4, 2) := by decide +kernel
theorem d_G_take_33 : decode b_G_take 33 = .ok (.getfield 130, 3) := by decide +kernel
theorem d_G_take_36 : decode b_G_take 36 = .ok (.invokestatic 134, 3) := by decide +kernel
theorem d_G_take_39 : decode b_G_take 39 = .ok (.aload 4, 2) := by decide +kernel
theorem d_G_take_41 : decode b_G_take 41 = .ok (.getfield 137, 3) := by decide +kernel
theorem d_G_take_44 : decode b_G_take 44 = .ok (.ifCond .ne 11, 3) := by decide +kernel
theorem d_G_take_47 : decode b_G_take 47 = .ok (.aload_n 3, 1) := by decide +kernel
theorem d_G_take_48 : decode b_G_take 48 = .ok (.getfield 106, 3) := by decide +kernel
theorem d_G_take_51 : decode b_G_take 51 = .ok (.iconst 3, 1) := by decide +kernel
theorem d_G_take_52 : decode b_G_take 52 = .ok (.if_icmp .eq 7, 3) := by decide +kernel
theorem d_G_take_55 : decode b_G_take 55 = .ok (.iconst 1, 1) := by decide +kernel
theorem d_G_take_56 : decode b_G_take 56 = .ok (.goto 4, 3) := by decide +kernel
theorem d_G_take_59 : decode b_G_take 59 = .ok (.iconst 0, 1) := by decide +kernel
theorem d_G_take_60 : decode b_G_take 60 = .ok (.invokestatic 46, 3) := by decide +kernel
theorem d_G_take_63 : decode b_G_take 63 = .ok (.aload 4, 2) := by decide +kernel
theorem d_G_take_65 : decode b_G_take 65 = .ok (.iconst 0, 1) := by decide +kernel
theorem d_G_take_66 : decode b_G_take 66 = .ok (.putfield 130, 3) := by decide +kernel
theorem d_G_take_69 : decode b_G_take 69 = .ok (.aload 4, 2) := by decide +kernel
theorem d_G_take_71 : decode b_G_take 71 = .ok (.iload_n 2, 1) := by decide +kernel
theorem d_G_take_72 : decode b_G_take 72 = .ok (.invokevirtual 140, 3) := by decide +kernel
theorem d_G_take_75 : decode b_G_take 75 = .ok (.ifCond .ne 21, 3) := by decide +kernel
theorem d_G_take_78 : decode b_G_take 78 = .ok (.aload_n 0, 1) := by decide +kernel
theorem d_G_take_79 : decode b_G_take 79 = .ok (.dup, 1) := by decide +kernel
theorem d_G_take_80 : decode b_G_take 80 = .ok (.getfield 143, 3) := by decide +kernel
theorem d_G_take_83 : decode b_G_take 83 = .ok (.iconst 1, 1) := by decide +kernel
theorem d_G_take_84 : decode b_G_take 84 = .ok (.iadd, 1) := by decide +kernel
theorem d_G_take_85 : decode b_G_take 85 = .ok (.putfield 143, 3) := by decide +kernel
theorem d_G_take_88 : decode b_G_take 88 = .ok (.new 146, 3) := by decide +kernel
theorem d_G_take_91 : decode b_G_take 91 = .ok (.dup, 1) := by decide +kernel
theorem d_G_take_92 : decode b_G_take 92 = .ok (.invokespecial 148, 3) := by decide +kernel
theorem d_G_take_95 : decode b_G_take 95 = .ok (.athrow, 1) := by decide +kernel
theorem d_G_take_96 : decode b_G_take 96 = .ok (.aload 4, 2) := by decide +kernel
theorem d_G_take_98 : decode b_G_take 98 = .ok (.getfield 137, 3) := by decide +kernel
theorem d_G_take_101 : decode b_G_take 101 = .ok (.ifCond .eq 9, 3) := by decide +kernel
theorem d_G_take_104 : decode b_G_take 104 = .ok (.aload_n 3, 1) := by decide +kernel
theorem d_G_take_105 : decode b_G_take 105 = .ok (.invokevirtual 149, 3) := by decide +kernel
theorem d_G_take_108 : decode b_G_take 108 = .ok (.iconst 0, 1) := by decide +kernel
theorem d_G_take_109 : decode b_G_take 109 = .ok (.ireturn, 1) := by decide +kernel
theorem d_G_take_110 : decode b_G_take 110 = .ok (.aload_n 3, 1) := by decide +kernel
theorem d_G_take_111 : decode b_G_take 111 = .ok (.aload 4, 2) := by decide +kernel
theorem d_G_take_113 : decode b_G_take 113 = .ok (.getfield 152, 3) := by decide +kernel
theorem d_G_take_116 : decode b_G_take 116 = .ok (.invokevirtual 156, 3) := by decide +kernel
theorem d_G_take_119 : decode b_G_take 119 = .ok (.invokestatic 62, 3) := by decide +kernel
theorem d_G_take_122 : decode b_G_take 122 = .ok (.aload_n 3, 1) := by decide +kernel
theorem d_G_take_123 : decode b_G_take 123 = .ok (.aload 4, 2) := by decide +kernel
theorem d_G_take_125 : decode b_G_take 125 = .ok (.getfield 152, 3) := by decide +kernel
theorem d_G_take_128 : decode b_G_take 128 = .ok (.aload_n 0, 1) := by decide +kernel
theorem d_G_take_129 : decode b_G_take 129 = .ok (.getfield 10, 3) := by decide +kernel
theorem d_G_take_132 : decode b_G_take 132 = .ok (.invokevirtual 159, 3) := by decide +kernel
theorem d_G_take_135 : decode b_G_take 135 = .ok (.iconst 1, 1) := by decide +kernel
theorem d_G_take_136 : decode b_G_take 136 = .ok (.ireturn, 1) := by decide +kernel
theorem gl_G_134 : ∀ w ∈ wsS "TrainGuard" 134 y_G_demandMessage (Cond.code y_G_demandMessage b_G_demandMessage 1 none :: tG), w ∈ tG := by
  intro x hx
  simp only [wsS, List.cons_append, List.nil_append, List.mem_cons] at hx
  rcases hx with rfl | rfl | rfl | rfl | hx
  · exact wd_446
  · exact wd_447
  · exact wd_1
  · exact wd_448
  · exact hx
theorem gl_G_140 : ∀ w ∈ wsV "TrainGuard" 140 "TrainGuard$Message" y_M_isGenuine (Cond.code y_M_isGenuine b_M_isGenuine 2 (some Jvm.ClassFile.FieldType.boolean) :: tG), w ∈ tG := by
  intro x hx
  simp only [wsV, List.cons_append, List.nil_append, List.mem_cons] at hx
  rcases hx with rfl | rfl | rfl | rfl | rfl | hx
  · exact wd_464
  · exact wd_465
  · exact wd_466
  · exact wd_4
  · exact wd_467
  · exact hx
theorem gl_G_156 : ∀ w ∈ wsV "TrainGuard" 156 "TrainGuard$Train" y_T_canStopAt (Cond.code y_T_canStopAt b_T_canStopAt 3 (some Jvm.ClassFile.FieldType.boolean) :: tG), w ∈ tG := by
  intro x hx
  simp only [wsV, List.cons_append, List.nil_append, List.mem_cons] at hx
  rcases hx with rfl | rfl | rfl | rfl | rfl | hx
  · exact wd_472
  · exact wd_473
  · exact wd_474
  · exact wd_3
  · exact wd_475
  · exact hx
theorem gl_G_159 : ∀ w ∈ wsV "TrainGuard" 159 "TrainGuard$Train" y_T_accept (Cond.code y_T_accept b_T_accept 4 none :: tG), w ∈ tG := by
  intro x hx
  simp only [wsV, List.cons_append, List.nil_append, List.mem_cons] at hx
  rcases hx with rfl | rfl | rfl | rfl | rfl | hx
  · exact wd_476
  · exact wd_477
  · exact wd_478
  · exact wd_3
  · exact wd_479
  · exact hx
theorem gl_G_149 : ∀ w ∈ wsV "TrainGuard" 149 "TrainGuard$Train" y_T_obeyStop (Cond.code y_T_obeyStop b_T_obeyStop 1 none :: tG), w ∈ tG := by
  intro x hx
  simp only [wsV, List.cons_append, List.nil_append, List.mem_cons] at hx
  rcases hx with rfl | rfl | rfl | rfl | rfl | hx
  · exact wd_468
  · exact wd_469
  · exact wd_470
  · exact wd_3
  · exact wd_471
  · exact hx
def w_G_take_60 (S : SC) (y2 : Int32) (i3 : Nat) (i4 : Nat) (ys0 : Int32) (Q : Int32 → SC → Prop) (X : Nat → SC → Prop) : Prop := ((ys0 = 0) → X 3 S) ∧ ((¬ ys0 = 0) → ((fun S5 => w_M_isGenuine (pI S5 10 i4 0) i4 y2 (fun r6 S7 => ((¬ r6 = 0) → ((((S7.1 11 i4) = 0) → (w_T_canStopAt S7 i3 (S7.2 12 i4) (fun r8 S9 => ((r8 = 0) → X 4 S9) ∧ ((¬ r8 = 0) → ((fun S10 => w_T_accept S10 i3 (S10.2 12 i4) (fun S11 => Q 1 S11)) S9))))) ∧ ((¬ (S7.1 11 i4) = 0) → (w_T_obeyStop S7 i3 (fun S12 => Q 0 S12))))) ∧ ((r6 = 0) → (∀ a13 : Int32, a13 = (S7.1 1 0) + 1 → (X 4 (pI S7 1 0 a13)))))) S))
def w_G_take_55 (S : SC) (y2 : Int32) (i3 : Nat) (i4 : Nat) (Q : Int32 → SC → Prop) (X : Nat → SC → Prop) : Prop := w_G_take_60 S y2 i3 i4 1 Q X
def w_G_take_22 (S : SC) (y2 : Int32) (i3 : Nat) (ys0 : Int32) (Q : Int32 → SC → Prop) (X : Nat → SC → Prop) : Prop := ((ys0 = 0) → X 1 S) ∧ ((¬ ys0 = 0) → ((fun S3 => (((S3.1 10 i3) = 0) → X 2 S3) ∧ ((¬ (S3.1 10 i3) = 0) → ((fun S4 => ((¬ (S4.1 11 i3) = 0) → (w_G_take_55 S4 y2 i3 i3 Q X)) ∧ (((S4.1 11 i3) = 0) → ((((S4.1 9 i3) = 3) → (w_G_take_60 S4 y2 i3 i3 0 Q X)) ∧ ((¬ (S4.1 9 i3) = 3) → (w_G_take_55 S4 y2 i3 i3 Q X))))) S3))) S))
def w_G_take_21 (S : SC) (y2 : Int32) (i3 : Nat) (Q : Int32 → SC → Prop) (X : Nat → SC → Prop) : Prop := w_G_take_22 S y2 i3 0 Q X
def w_G_take (S : SC) (x1 : Int32) (x2 : Int32) (Q : Int32 → SC → Prop) (X : Nat → SC → Prop) : Prop := w_G_trainNumbered S x1 (fun j1 S2 => ((x2 < 0) → (w_G_take_21 S2 x2 j1 Q X)) ∧ ((¬ x2 < 0) → (((1023 < x2) → (w_G_take_21 S2 x2 j1 Q X)) ∧ ((¬ 1023 < x2) → (w_G_take_22 S2 x2 j1 1 Q X))))) X
set_option maxRecDepth 100000 in
set_option maxHeartbeats 4000000 in
theorem c_G_take (l : Launch) (hl0 : l.stackTraces = false) (D : va_G) (ca : Nat → ClassId) (ad : Nat → Nat) (sz : Nat) (S : SC) (x1 : Int32) (x2 : Int32)  (Q : Int32 → SC → Prop) (X : Nat → SC → Prop) (h : w_G_take S x1 x2 Q X) : vx_Met l y_G_take (Cond.code y_G_take b_G_take 5 (some Jvm.ClassFile.FieldType.int) :: tG) ({ frames := 8, cells := 2, slots := 12, locals := 161 } : Room) (xPx D ca (wC ca ad) S sz [.ref (ad 0), .int x1, .int x2]) (va_Qi Q (xAt D (wC ca ad) (va_A (wC ca ad S) sz)) (va_A (wC ca ad S) sz)) (xXf X D (wC ca ad) (va_A (wC ca ad S) sz)) 2 12 (va_A (wC ca ad S) sz) := by
  refine xx_mex (Qf := fun A => va_Qi Q (xAt D (wC ca ad) A) A) (Xf := fun A => xXf X D (wC ca ad) A) (by decide) (Nat.le_of_ble_eq_true rfl) ?_
  intro p e s m args below meth c A ls hx hb hr hw hown hlocks hml hK hN hA hP hD hS hl hZ hout hX
  have hown : s.vm.findClass "TrainGuard" = some m.cls := hown
  have hl : lv_has ls 5 [(0, .ref (ad 0)), (1, .int x1), (2, .int x2)] := hl
  unfold w_G_take at h
  have bk_60 : ∀ (S : SC) (y2 : Int32) (i3 : Nat) (i4 : Nat) (ys0 : Int32) (H : Heap) (locs : List Loc) (hi3 : i3 < 3) (hi4 : i4 < 3), va_P D cls (wC ca ad S) H → va_D A (wC ca ad S) → va_S A s.heap H locs → ∀ (ls : Array Slot), lv_has ls 5 [(0, .ref (ad 0)), (2, .int y2), (3, .ref (ad (9 + i3))), (4, .ref (ad (12 + i4)))] → w_G_take_60 S y2 i3 i4 ys0 Q X → W p l e ({ frames := 8, cells := 2, slots := 12, locals := 161 } : Room) s m args below meth c H locs 1 6 (vx_MQ below ((fun A => va_Qi Q (xAt D (wC ca ad) A) A) A) ((fun A => xXf X D (wC ca ad) A) A) args s 2 12 A) (F0 m 60 ls [.int ys0]) := by
    intro S y2 i3 i4 ys0 H locs hi3 hi4 hP hD hS ls hl h
    unfold w_G_take_60 at h
    by_cases hz : ys0 = 0
    · replace h := h.1 hz
      exact xx_thr (vx_runS (As := [.int ys0]) (rest := []) ⟨hx, hb, hml, hown, hw⟩ (c_G_demandState_no l hl0 D ca ad H.size S ys0 hz X h) (cwS 1 hw (tG_g gl_G_46) rfl rfl rfl (by decide +kernel) ⟨Nat.le_of_ble_eq_true rfl, Nat.le_of_ble_eq_true rfl⟩) ⟨xPx.blind, xPx.pre hK hN hP hD hX (hZ.now hS hA hD)⟩ rfl rfl hl.1 rfl (lv_room (Nat.le_of_ble_eq_true rfl)) d_G_take_60 ⟨Nat.le_of_ble_eq_true rfl, Nat.le_of_ble_eq_true rfl⟩) hD hS hA hout hlocks (Nat.le_of_ble_eq_true rfl) (Nat.le_of_ble_eq_true rfl)
    replace h := h.2 hz
    refine xx_callv (va_runS (As := [.int ys0]) (rest := []) ⟨hx, hb, hml, hown, hw⟩ (c_G_demandState_ok l D ca ad H.size S ys0 hz (fun S5 => w_M_isGenuine (pI S5 10 i4 0) i4 y2 (fun r6 S7 => ((¬ r6 = 0) → ((((S7.1 11 i4) = 0) → (w_T_canStopAt S7 i3 (S7.2 12 i4) (fun r8 S9 => ((r8 = 0) → X 4 S9) ∧ ((¬ r8 = 0) → ((fun S10 => w_T_accept S10 i3 (S10.2 12 i4) (fun S11 => Q 1 S11)) S9))))) ∧ ((¬ (S7.1 11 i4) = 0) → (w_T_obeyStop S7 i3 (fun S12 => Q 0 S12))))) ∧ ((r6 = 0) → (∀ a13 : Int32, a13 = (S7.1 1 0) + 1 → (X 4 (pI S7 1 0 a13)))))) h) (cwS 1 hw (tG_g gl_G_46) rfl rfl rfl (by decide +kernel) ⟨Nat.le_of_ble_eq_true rfl, Nat.le_of_ble_eq_true rfl⟩) ⟨xPc.blind, xPc.pre hK hN hP hD⟩ rfl rfl hl.1 rfl (lv_room (Nat.le_of_ble_eq_true rfl)) d_G_take_60 ⟨Nat.le_of_ble_eq_true rfl, Nat.le_of_ble_eq_true rfl⟩) hD hS hA (fun S5 H locs h hP hD hS => ?_)
    refine lv_aload hx hb d_G_take_63 (lv_at hl 3 rfl) ?_
    refine lv_iconst (v := 0) hx hb d_G_take_65 (by decide) ?_
    refine va_putN (D := D) (ci := 1) (v := .int 0) (ty := .boolean) (C := Rc_M) (T := Fc_M) (N := 5) hx hb hw inc_M tc_M tc_M_ok nc_M hown hK hP hD hS (12 + i4) (wC_M hi4) rfl 0 (by decide) (nw_71 hN) (fun _ h9 => h9) rfl (by decide +kernel) rfl rfl (Nat.le_of_ble_eq_true rfl) d_G_take_66 (fun H locs hP hD hS => ?_)
    rw [pt_M_isWaiting hi4] at hP hD
    refine lv_aload hx hb d_G_take_69 (lv_at hl 3 rfl) ?_
    refine lv_iload_n hx hb d_G_take_71 rfl (lv_at hl 1 rfl) ?_
    refine xx_calli (va_runV (As := [.int y2]) (rest := []) ⟨hx, hb, hml, hown, hw⟩ (c_M_isGenuine l D ca ad H.size (pI S5 10 i4 0) i4 y2 hi4 _ h) (cwV 1 hw (tG_g gl_G_140) rfl rfl rfl (by decide +kernel) ⟨Nat.le_of_ble_eq_true rfl, Nat.le_of_ble_eq_true rfl⟩) ⟨xPc.blind, va_recv hK hP rfl (wC_M hi4), xPc.pre hK hN hP hD⟩ rfl rfl hl.1 rfl (lv_room (Nat.le_of_ble_eq_true rfl)) d_G_take_72 ⟨Nat.le_of_ble_eq_true rfl, Nat.le_of_ble_eq_true rfl⟩) hD hS hA (fun r6 S7 H locs h hP hD hS => ?_)
    refine lv_if_ne (tgt := 96) hx hb d_G_take_75 (by decide) (fun hc => ?_) (fun hc => ?_)
    · replace h := h.1 hc
      refine lv_aload hx hb d_G_take_96 (lv_at hl 3 rfl) ?_
      refine va_getN (D := D) (ci := 1) (v := .int (S7.1 11 i4)) (C := Rc_M) (T := Fc_M) (N := 5) hx hb hw inc_M hown hK hP (12 + i4) (wC_M hi4) rfl 1 (by decide) (nw_73 hN) (fun _ h9 => h9) rfl d_G_take_98 ?_
      refine lv_if_eq (tgt := 110) hx hb d_G_take_101 (by decide) (fun hc => ?_) (fun hc => ?_)
      · replace h := h.1 hc
        refine lv_aload_n hx hb d_G_take_110 rfl (lv_at hl 2 rfl) ?_
        refine lv_aload hx hb d_G_take_111 (lv_at hl 3 rfl) ?_
        refine va_getN (D := D) (ci := 1) (v := .double (S7.2 12 i4)) (C := Rc_M) (T := Fc_M) (N := 5) hx hb hw inc_M hown hK hP (12 + i4) (wC_M hi4) rfl 3 (by decide) (nw_76 hN) (fun _ h9 => h9) rfl d_G_take_113 ?_
        refine xx_calli (va_runV (As := [.double (S7.2 12 i4)]) (rest := []) ⟨hx, hb, hml, hown, hw⟩ (c_T_canStopAt l D ca ad H.size S7 i3 (S7.2 12 i4) hi3 _ h) (cwV 1 hw (tG_g gl_G_156) rfl rfl rfl (by decide +kernel) ⟨Nat.le_of_ble_eq_true rfl, Nat.le_of_ble_eq_true rfl⟩) ⟨xPc.blind, va_recv hK hP rfl (wC_T hi3), xPc.pre hK hN hP hD⟩ rfl rfl hl.1 rfl (lv_room (Nat.le_of_ble_eq_true rfl)) d_G_take_116 ⟨Nat.le_of_ble_eq_true rfl, Nat.le_of_ble_eq_true rfl⟩) hD hS hA (fun r8 S9 H locs h hP hD hS => ?_)
        by_cases hz : r8 = 0
        · replace h := h.1 hz
          exact xx_thr (vx_runS (As := [.int r8]) (rest := []) ⟨hx, hb, hml, hown, hw⟩ (c_G_demandSafety_no l hl0 D ca ad H.size S9 r8 hz X h) (cwS 1 hw (tG_g gl_G_62) rfl rfl rfl (by decide +kernel) ⟨Nat.le_of_ble_eq_true rfl, Nat.le_of_ble_eq_true rfl⟩) ⟨xPx.blind, xPx.pre hK hN hP hD hX (hZ.now hS hA hD)⟩ rfl rfl hl.1 rfl (lv_room (Nat.le_of_ble_eq_true rfl)) d_G_take_119 ⟨Nat.le_of_ble_eq_true rfl, Nat.le_of_ble_eq_true rfl⟩) hD hS hA hout hlocks (Nat.le_of_ble_eq_true rfl) (Nat.le_of_ble_eq_true rfl)
        replace h := h.2 hz
        refine xx_callv (va_runS (As := [.int r8]) (rest := []) ⟨hx, hb, hml, hown, hw⟩ (c_G_demandSafety_ok l D ca ad H.size S9 r8 hz (fun S10 => w_T_accept S10 i3 (S10.2 12 i4) (fun S11 => Q 1 S11)) h) (cwS 1 hw (tG_g gl_G_62) rfl rfl rfl (by decide +kernel) ⟨Nat.le_of_ble_eq_true rfl, Nat.le_of_ble_eq_true rfl⟩) ⟨xPc.blind, xPc.pre hK hN hP hD⟩ rfl rfl hl.1 rfl (lv_room (Nat.le_of_ble_eq_true rfl)) d_G_take_119 ⟨Nat.le_of_ble_eq_true rfl, Nat.le_of_ble_eq_true rfl⟩) hD hS hA (fun S10 H locs h hP hD hS => ?_)
        refine lv_aload_n hx hb d_G_take_122 rfl (lv_at hl 2 rfl) ?_
        refine lv_aload hx hb d_G_take_123 (lv_at hl 3 rfl) ?_
        refine va_getN (D := D) (ci := 1) (v := .double (S10.2 12 i4)) (C := Rc_M) (T := Fc_M) (N := 5) hx hb hw inc_M hown hK hP (12 + i4) (wC_M hi4) rfl 3 (by decide) (nw_76 hN) (fun _ h9 => h9) rfl d_G_take_125 ?_
        refine lv_aload_n hx hb d_G_take_128 rfl (lv_at hl 0 rfl) ?_
        refine va_get (D := D) (ci := 3) (v := .ref (ad 1)) (C := Rc_G) (T := Fc_G) (N := 6) hx hb hw inc_G hown hK hP 0 rfl rfl 0 (by decide) (hw _ wd_132) (fun _ h9 => h9) rfl d_G_take_129 ?_
        refine xx_callv (va_runV (As := [.double (S10.2 12 i4), .ref (ad 1)]) (rest := []) ⟨hx, hb, hml, hown, hw⟩ (c_T_accept l D ca ad H.size S10 i3 (S10.2 12 i4) hi3 _ h) (cwV 2 hw (tG_g gl_G_159) rfl rfl rfl (by decide +kernel) ⟨Nat.le_of_ble_eq_true rfl, Nat.le_of_ble_eq_true rfl⟩) ⟨xPc.blind, va_recv hK hP rfl (wC_T hi3), xPc.pre hK hN hP hD⟩ rfl rfl hl.1 rfl (lv_room (Nat.le_of_ble_eq_true rfl)) d_G_take_132 ⟨Nat.le_of_ble_eq_true rfl, Nat.le_of_ble_eq_true rfl⟩) hD hS hA (fun S11 H locs h hP hD hS => ?_)
        refine lv_iconst (v := 1) hx hb d_G_take_135 (by decide) ?_
        refine vx_ret ?_
        refine W.widen (k := 2) (n := 12) (by omega) (by omega) ?_
        exact W.iret (v := 1) hx hb hr (fun t ht hW => ⟨⟨1, S11, rfl, h, by rw [ht]; exact hP, hD⟩, hS.F ht⟩) hS.2.2 d_G_take_136
      · replace h := h.2 hc
        refine lv_aload_n hx hb d_G_take_104 rfl (lv_at hl 2 rfl) ?_
        refine xx_callv (va_runV (As := []) (rest := []) ⟨hx, hb, hml, hown, hw⟩ (c_T_obeyStop l D ca ad H.size S7 i3 hi3 _ h) (cwV 0 hw (tG_g gl_G_149) rfl rfl rfl (by decide +kernel) ⟨Nat.le_of_ble_eq_true rfl, Nat.le_of_ble_eq_true rfl⟩) ⟨xPc.blind, va_recv hK hP rfl (wC_T hi3), xPc.pre hK hN hP hD⟩ rfl rfl hl.1 rfl (lv_room (Nat.le_of_ble_eq_true rfl)) d_G_take_105 ⟨Nat.le_of_ble_eq_true rfl, Nat.le_of_ble_eq_true rfl⟩) hD hS hA (fun S12 H locs h hP hD hS => ?_)
        refine lv_iconst (v := 0) hx hb d_G_take_108 (by decide) ?_
        refine vx_ret ?_
        refine W.widen (k := 2) (n := 12) (by omega) (by omega) ?_
        exact W.iret (v := 0) hx hb hr (fun t ht hW => ⟨⟨0, S12, rfl, h, by rw [ht]; exact hP, hD⟩, hS.F ht⟩) hS.2.2 d_G_take_109
    · replace h := h.2 hc
      refine lv_aload_n hx hb d_G_take_78 rfl (lv_at hl 0 rfl) ?_
      refine lv_dup hx hb d_G_take_79 rfl ?_
      refine va_get (D := D) (ci := 3) (v := .int (S7.1 1 0)) (C := Rc_G) (T := Fc_G) (N := 6) hx hb hw inc_G hown hK hP 0 rfl rfl 3 (by decide) (hw _ wd_135) (fun _ h9 => h9) rfl d_G_take_80 ?_
      refine lv_iconst (v := 1) hx hb d_G_take_83 (by decide) ?_
      refine lv_iadd hx hb d_G_take_84 ?_
      refine lv_topi (fun a13 e_a13 => ?_)
      replace h := h a13 e_a13
      refine va_put (D := D) (ci := 3) (v := .int a13) (ty := .int) (C := Rc_G) (T := Fc_G) (N := 6) hx hb hw inc_G tc_G tc_G_ok nc_G hown hK hP hD hS 0 rfl rfl 3 (by decide) (hw _ wd_135) (fun _ h9 => h9) rfl (by decide +kernel) rfl rfl (Nat.le_of_ble_eq_true rfl) d_G_take_85 (fun H locs hP hD hS => ?_)
      rw [pt_G_forgedCount] at hP hD
      exact vx_throw0 (names := ["java/lang/RuntimeException", "java/lang/Exception"]) hx hb hl0 hown (by decide +kernel) (by decide +kernel) (hw _ wd_279) (hw _ wd_11) (ax_h4 hw hX) ax_o4 hZ.1 hZ.2 hS (by rw [hml]; exact hl.1) d_G_take_88 d_G_take_91 d_G_take_92 d_G_take_95 (fun x hx => (hout x hx).elim) (by decide) (by decide) (by decide) (by decide) hlocks (fun t _ hz1 hk => ⟨(4, pI S7 1 0 a13), h, ⟨rfl, xx_keepP hP hk, hD⟩, Nat.le_trans hS.1 hz1, fun q h1 h2 => (hk q (Nat.lt_of_lt_of_le h1 hS.1)).trans (hS.2.1 q h1 h2)⟩) hS.2.2 (by decide) (by decide)
  have bk_55 : ∀ (S : SC) (y2 : Int32) (i3 : Nat) (i4 : Nat) (H : Heap) (locs : List Loc) (hi3 : i3 < 3) (hi4 : i4 < 3), va_P D cls (wC ca ad S) H → va_D A (wC ca ad S) → va_S A s.heap H locs → ∀ (ls : Array Slot), lv_has ls 5 [(0, .ref (ad 0)), (2, .int y2), (3, .ref (ad (9 + i3))), (4, .ref (ad (12 + i4)))] → w_G_take_55 S y2 i3 i4 Q X → W p l e ({ frames := 8, cells := 2, slots := 12, locals := 161 } : Room) s m args below meth c H locs 1 6 (vx_MQ below ((fun A => va_Qi Q (xAt D (wC ca ad) A) A) A) ((fun A => xXf X D (wC ca ad) A) A) args s 2 12 A) (F0 m 55 ls []) := by
    intro S y2 i3 i4 H locs hi3 hi4 hP hD hS ls hl h
    unfold w_G_take_55 at h
    refine lv_iconst (v := 1) hx hb d_G_take_55 (by decide) ?_
    refine lv_goto (tgt := 60) hx hb d_G_take_56 (by decide) ?_
    exact bk_60 S y2 i3 i4 1 H locs hi3 hi4 hP hD hS ls (lv_sub hl [0, 1, 2, 3] rfl) h
  have bk_22 : ∀ (S : SC) (y2 : Int32) (i3 : Nat) (ys0 : Int32) (H : Heap) (locs : List Loc) (hi3 : i3 < 3), va_P D cls (wC ca ad S) H → va_D A (wC ca ad S) → va_S A s.heap H locs → ∀ (ls : Array Slot), lv_has ls 5 [(0, .ref (ad 0)), (2, .int y2), (3, .ref (ad (9 + i3)))] → w_G_take_22 S y2 i3 ys0 Q X → W p l e ({ frames := 8, cells := 2, slots := 12, locals := 161 } : Room) s m args below meth c H locs 1 6 (vx_MQ below ((fun A => va_Qi Q (xAt D (wC ca ad) A) A) A) ((fun A => xXf X D (wC ca ad) A) A) args s 2 12 A) (F0 m 22 ls [.int ys0]) := by
    intro S y2 i3 ys0 H locs hi3 hP hD hS ls hl h
    unfold w_G_take_22 at h
    by_cases hz : ys0 = 0
    · replace h := h.1 hz
      exact xx_thr (vx_runS (As := [.int ys0]) (rest := []) ⟨hx, hb, hml, hown, hw⟩ (c_G_demandArgument_no l hl0 D ca ad H.size S ys0 hz X h) (cwS 1 hw (tG_g gl_G_35) rfl rfl rfl (by decide +kernel) ⟨Nat.le_of_ble_eq_true rfl, Nat.le_of_ble_eq_true rfl⟩) ⟨xPx.blind, xPx.pre hK hN hP hD hX (hZ.now hS hA hD)⟩ rfl rfl hl.1 rfl (lv_room (Nat.le_of_ble_eq_true rfl)) d_G_take_22 ⟨Nat.le_of_ble_eq_true rfl, Nat.le_of_ble_eq_true rfl⟩) hD hS hA hout hlocks (Nat.le_of_ble_eq_true rfl) (Nat.le_of_ble_eq_true rfl)
    replace h := h.2 hz
    refine xx_callv (va_runS (As := [.int ys0]) (rest := []) ⟨hx, hb, hml, hown, hw⟩ (c_G_demandArgument_ok l D ca ad H.size S ys0 hz (fun S3 => (((S3.1 10 i3) = 0) → X 2 S3) ∧ ((¬ (S3.1 10 i3) = 0) → ((fun S4 => ((¬ (S4.1 11 i3) = 0) → (w_G_take_55 S4 y2 i3 i3 Q X)) ∧ (((S4.1 11 i3) = 0) → ((((S4.1 9 i3) = 3) → (w_G_take_60 S4 y2 i3 i3 0 Q X)) ∧ ((¬ (S4.1 9 i3) = 3) → (w_G_take_55 S4 y2 i3 i3 Q X))))) S3))) h) (cwS 1 hw (tG_g gl_G_35) rfl rfl rfl (by decide +kernel) ⟨Nat.le_of_ble_eq_true rfl, Nat.le_of_ble_eq_true rfl⟩) ⟨xPc.blind, xPc.pre hK hN hP hD⟩ rfl rfl hl.1 rfl (lv_room (Nat.le_of_ble_eq_true rfl)) d_G_take_22 ⟨Nat.le_of_ble_eq_true rfl, Nat.le_of_ble_eq_true rfl⟩) hD hS hA (fun S3 H locs h hP hD hS => ?_)
    refine lv_aload_n hx hb d_G_take_25 rfl (lv_at hl 2 rfl) ?_
    refine va_getN (D := D) (ci := 2) (v := .ref (ad (12 + i3))) (C := Rc_T) (T := Fc_T) (N := 11) hx hb hw inc_T hown hK hP (9 + i3) (wC_T hi3) rfl 0 (by decide) (nw_90 hN) (fun _ h9 => h9) rfl d_G_take_26 ?_
    refine lv_astore (lv' := [(4, .ref (ad (12 + i3))), (0, .ref (ad 0)), (2, .int y2), (3, .ref (ad (9 + i3)))]) hx hb d_G_take_29 hl (by decide) rfl (fun ls hl => ?_)
    refine lv_aload hx hb d_G_take_31 (lv_at hl 0 rfl) ?_
    refine va_getN (D := D) (ci := 1) (v := .int (S3.1 10 i3)) (C := Rc_M) (T := Fc_M) (N := 5) hx hb hw inc_M hown hK hP (12 + i3) (wC_M hi3) rfl 0 (by decide) (nw_71 hN) (fun _ h9 => h9) rfl d_G_take_33 ?_
    by_cases hz : (S3.1 10 i3) = 0
    · replace h := h.1 hz
      exact xx_thr (vx_runS (As := [.int (S3.1 10 i3)]) (rest := []) ⟨hx, hb, hml, hown, hw⟩ (c_G_demandMessage_no l hl0 D ca ad H.size S3 (S3.1 10 i3) hz X h) (cwS 1 hw (tG_g gl_G_134) rfl rfl rfl (by decide +kernel) ⟨Nat.le_of_ble_eq_true rfl, Nat.le_of_ble_eq_true rfl⟩) ⟨xPx.blind, xPx.pre hK hN hP hD hX (hZ.now hS hA hD)⟩ rfl rfl hl.1 rfl (lv_room (Nat.le_of_ble_eq_true rfl)) d_G_take_36 ⟨Nat.le_of_ble_eq_true rfl, Nat.le_of_ble_eq_true rfl⟩) hD hS hA hout hlocks (Nat.le_of_ble_eq_true rfl) (Nat.le_of_ble_eq_true rfl)
    replace h := h.2 hz
    refine xx_callv (va_runS (As := [.int (S3.1 10 i3)]) (rest := []) ⟨hx, hb, hml, hown, hw⟩ (c_G_demandMessage_ok l D ca ad H.size S3 (S3.1 10 i3) hz (fun S4 => ((¬ (S4.1 11 i3) = 0) → (w_G_take_55 S4 y2 i3 i3 Q X)) ∧ (((S4.1 11 i3) = 0) → ((((S4.1 9 i3) = 3) → (w_G_take_60 S4 y2 i3 i3 0 Q X)) ∧ ((¬ (S4.1 9 i3) = 3) → (w_G_take_55 S4 y2 i3 i3 Q X))))) h) (cwS 1 hw (tG_g gl_G_134) rfl rfl rfl (by decide +kernel) ⟨Nat.le_of_ble_eq_true rfl, Nat.le_of_ble_eq_true rfl⟩) ⟨xPc.blind, xPc.pre hK hN hP hD⟩ rfl rfl hl.1 rfl (lv_room (Nat.le_of_ble_eq_true rfl)) d_G_take_36 ⟨Nat.le_of_ble_eq_true rfl, Nat.le_of_ble_eq_true rfl⟩) hD hS hA (fun S4 H locs h hP hD hS => ?_)
    refine lv_aload hx hb d_G_take_39 (lv_at hl 0 rfl) ?_
    refine va_getN (D := D) (ci := 1) (v := .int (S4.1 11 i3)) (C := Rc_M) (T := Fc_M) (N := 5) hx hb hw inc_M hown hK hP (12 + i3) (wC_M hi3) rfl 1 (by decide) (nw_73 hN) (fun _ h9 => h9) rfl d_G_take_41 ?_
    refine lv_if_ne (tgt := 55) hx hb d_G_take_44 (by decide) (fun hc => ?_) (fun hc => ?_)
    · replace h := h.1 hc
      exact bk_55 S4 y2 i3 i3 H locs hi3 hi3 hP hD hS ls (lv_sub hl [1, 2, 3, 0] rfl) h
    · replace h := h.2 hc
      refine lv_aload_n hx hb d_G_take_47 rfl (lv_at hl 3 rfl) ?_
      refine va_getN (D := D) (ci := 2) (v := .int (S4.1 9 i3)) (C := Rc_T) (T := Fc_T) (N := 11) hx hb hw inc_T hown hK hP (9 + i3) (wC_T hi3) rfl 10 (by decide) (nw_108 hN) (fun _ h9 => h9) rfl d_G_take_48 ?_
      refine lv_iconst (v := 3) hx hb d_G_take_51 (by decide) ?_
      refine lv_icmp_eq (tgt := 59) hx hb d_G_take_52 (by decide) (fun hc => ?_) (fun hc => ?_)
      · replace h := h.1 hc
        refine lv_iconst (v := 0) hx hb d_G_take_59 (by decide) ?_
        exact bk_60 S4 y2 i3 i3 0 H locs hi3 hi3 hP hD hS ls (lv_sub hl [1, 2, 3, 0] rfl) h
      · replace h := h.2 hc
        exact bk_55 S4 y2 i3 i3 H locs hi3 hi3 hP hD hS ls (lv_sub hl [1, 2, 3, 0] rfl) h
  have bk_21 : ∀ (S : SC) (y2 : Int32) (i3 : Nat) (H : Heap) (locs : List Loc) (hi3 : i3 < 3), va_P D cls (wC ca ad S) H → va_D A (wC ca ad S) → va_S A s.heap H locs → ∀ (ls : Array Slot), lv_has ls 5 [(0, .ref (ad 0)), (2, .int y2), (3, .ref (ad (9 + i3)))] → w_G_take_21 S y2 i3 Q X → W p l e ({ frames := 8, cells := 2, slots := 12, locals := 161 } : Room) s m args below meth c H locs 1 6 (vx_MQ below ((fun A => va_Qi Q (xAt D (wC ca ad) A) A) A) ((fun A => xXf X D (wC ca ad) A) A) args s 2 12 A) (F0 m 21 ls []) := by
    intro S y2 i3 H locs hi3 hP hD hS ls hl h
    unfold w_G_take_21 at h
    refine lv_iconst (v := 0) hx hb d_G_take_21 (by decide) ?_
    exact bk_22 S y2 i3 0 H locs hi3 hP hD hS ls (lv_sub hl [0, 1, 2] rfl) h
  have hH9 : ∀ H : Heap, H = s.heap → va_P D cls (wC ca ad S) H → va_S A s.heap H [] → W p l e ({ frames := 8, cells := 2, slots := 12, locals := 161 } : Room) s m args below meth c H [] 0 0 (vx_MQ below ((fun A => va_Qi Q (xAt D (wC ca ad) A) A) A) ((fun A => xXf X D (wC ca ad) A) A) args s 2 12 A) (F0 m 0 ls []) := by
    clear hP hS
    intro H hH hP hS
    obtain ⟨locs, hlo⟩ : ∃ z : List Loc, z = [] := ⟨_, rfl⟩
    rw [← hlo] at hS ⊢
    refine lv_aload_n hx hb d_G_take_0 rfl (lv_at hl 0 rfl) ?_
    refine lv_iload_n hx hb d_G_take_1 rfl (lv_at hl 1 rfl) ?_
    refine xx_calr (vx_runV (As := [.int x1]) (rest := []) ⟨hx, hb, hml, hown, hw⟩ (c_G_trainNumbered l hl0 D ca ad H.size S x1 _ _ h) (cwV 1 hw (tG_g gl_G_102) rfl rfl rfl (by decide +kernel) ⟨Nat.le_of_ble_eq_true rfl, Nat.le_of_ble_eq_true rfl⟩) ⟨xPx.blind, va_recv hK hP rfl (q0 := 0) rfl, xPx.pre hK hN hP hD hX (hZ.now hS hA hD)⟩ rfl rfl hl.1 rfl (lv_room (Nat.le_of_ble_eq_true rfl)) d_G_take_2 ⟨Nat.le_of_ble_eq_true rfl, Nat.le_of_ble_eq_true rfl⟩) hD hS hA hout hlocks (Nat.le_of_ble_eq_true rfl) (Nat.le_of_ble_eq_true rfl) (fun j1 S2 H locs hj1 h hP hD hS => ?_)
    refine lv_astore_n (lv' := [(3, .ref (ad (9 + j1))), (0, .ref (ad 0)), (1, .int x1), (2, .int x2)]) hx hb d_G_take_5 rfl hl (by decide) rfl (fun ls hl => ?_)
    refine lv_iload_n hx hb d_G_take_6 rfl (lv_at hl 3 rfl) ?_
    refine lv_if_lt (tgt := 21) hx hb d_G_take_7 (by decide) (fun hc => ?_) (fun hc => ?_)
    · replace h := h.1 hc
      exact bk_21 S2 x2 j1 H locs hj1 hP hD hS ls (lv_sub hl [1, 3, 0] rfl) h
    · replace h := h.2 hc
      refine lv_iload_n hx hb d_G_take_10 rfl (lv_at hl 3 rfl) ?_
      refine lv_sipush (v := 1023) hx hb d_G_take_11 (by decide) ?_
      refine lv_icmp_gt (tgt := 21) hx hb d_G_take_14 (by decide) (fun hc => ?_) (fun hc => ?_)
      · replace h := h.1 hc
        exact bk_21 S2 x2 j1 H locs hj1 hP hD hS ls (lv_sub hl [1, 3, 0] rfl) h
      · replace h := h.2 hc
        refine lv_iconst (v := 1) hx hb d_G_take_17 (by decide) ?_
        refine lv_goto (tgt := 22) hx hb d_G_take_18 (by decide) ?_
        exact bk_22 S2 x2 j1 1 H locs hj1 hP hD hS ls (lv_sub hl [1, 3, 0] rfl) h
  exact hH9 _ rfl hP hS
theorem d_G_second_0 : decode b_G_second 0 = .ok (.aload_n 0, 1) := by decide +kernel
theorem d_G_second_1 : decode b_G_second 1 = .ok (.iload_n 1, 1) := by decide +kernel
theorem d_G_second_2 : decode b_G_second 2 = .ok (.invokevirtual 102, 3) := by decide +kernel
theorem d_G_second_5 : decode b_G_second 5 = .ok (.astore 5, 2) := by decide +kernel
theorem d_G_second_7 : decode b_G_second 7 = .ok (.dload_n 2, 1) := by decide +kernel
theorem d_G_second_8 : decode b_G_second 8 = .ok (.ldc2_w 163, 3) := by decide +kernel
theorem d_G_second_11 : decode b_G_second 11 = .ok (.dconst 1, 1) := by decide +kernel
theorem d_G_second_12 : decode b_G_second 12 = .ok (.invokestatic 27, 3) := by decide +kernel
theorem d_G_second_15 : decode b_G_second 15 = .ok (.ifCond .eq 19, 3) := by decide +kernel
theorem d_G_second_18 : decode b_G_second 18 = .ok (.iload 4, 2) := by decide +kernel
theorem d_G_second_20 : decode b_G_second 20 = .ok (.iconst (-1), 1) := by decide +kernel
theorem d_G_second_21 : decode b_G_second 21 = .ok (.if_icmp .lt 13, 3) := by decide +kernel
theorem d_G_second_24 : decode b_G_second 24 = .ok (.iload 4, 2) := by decide +kernel
theorem d_G_second_26 : decode b_G_second 26 = .ok (.iconst 1, 1) := by decide +kernel
theorem d_G_second_27 : decode b_G_second 27 = .ok (.if_icmp .gt 7, 3) := by decide +kernel
theorem d_G_second_30 : decode b_G_second 30 = .ok (.iconst 1, 1) := by decide +kernel
theorem d_G_second_31 : decode b_G_second 31 = .ok (.goto 4, 3) := by decide +kernel
theorem d_G_second_34 : decode b_G_second 34 = .ok (.iconst 0, 1) := by decide +kernel
theorem d_G_second_35 : decode b_G_second 35 = .ok (.invokestatic 35, 3) := by decide +kernel
theorem d_G_second_38 : decode b_G_second 38 = .ok (.aload 5, 2) := by decide +kernel
theorem d_G_second_40 : decode b_G_second 40 = .ok (.getfield 106, 3) := by decide +kernel
theorem d_G_second_43 : decode b_G_second 43 = .ok (.ifCond .eq 12, 3) := by decide +kernel
theorem d_G_second_46 : decode b_G_second 46 = .ok (.aload 5, 2) := by decide +kernel
theorem d_G_second_48 : decode b_G_second 48 = .ok (.getfield 106, 3) := by decide +kernel
theorem d_G_second_51 : decode b_G_second 51 = .ok (.iconst 4, 1) := by decide +kernel
theorem d_G_second_52 : decode b_G_second 52 = .ok (.if_icmp .ne 9, 3) := by decide +kernel
theorem d_G_second_55 : decode b_G_second 55 = .ok (.aload 5, 2) := by decide +kernel
theorem d_G_second_57 : decode b_G_second 57 = .ok (.getfield 106, 3) := by decide +kernel
theorem d_G_second_60 : decode b_G_second 60 = .ok (.ireturn, 1) := by decide +kernel
theorem d_G_second_61 : decode b_G_second 61 = .ok (.aload 5, 2) := by decide +kernel
theorem d_G_second_63 : decode b_G_second 63 = .ok (.getfield 106, 3) := by decide +kernel
theorem d_G_second_66 : decode b_G_second 66 = .ok (.iconst 2, 1) := by decide +kernel
theorem d_G_second_67 : decode b_G_second 67 = .ok (.if_icmp .ne 7, 3) := by decide +kernel
theorem d_G_second_70 : decode b_G_second 70 = .ok (.iconst 1, 1) := by decide +kernel
theorem d_G_second_71 : decode b_G_second 71 = .ok (.goto 4, 3) := by decide +kernel
theorem d_G_second_74 : decode b_G_second 74 = .ok (.iconst 0, 1) := by decide +kernel
theorem d_G_second_75 : decode b_G_second 75 = .ok (.istore 6, 2) := by decide +kernel
theorem d_G_second_77 : decode b_G_second 77 = .ok (.aload 5, 2) := by decide +kernel
theorem d_G_second_79 : decode b_G_second 79 = .ok (.aload_n 0, 1) := by decide +kernel
theorem d_G_second_80 : decode b_G_second 80 = .ok (.getfield 10, 3) := by decide +kernel
theorem d_G_second_83 : decode b_G_second 83 = .ok (.dload_n 2, 1) := by decide +kernel
theorem d_G_second_84 : decode b_G_second 84 = .ok (.iload 4, 2) := by decide +kernel
theorem d_G_second_86 : decode b_G_second 86 = .ok (.invokevirtual 165, 3) := by decide +kernel
theorem d_G_second_89 : decode b_G_second 89 = .ok (.ifCond .eq 13, 3) := by decide +kernel
theorem d_G_second_92 : decode b_G_second 92 = .ok (.aload_n 0, 1) := by decide +kernel
theorem d_G_second_93 : decode b_G_second 93 = .ok (.dup, 1) := by decide +kernel
theorem d_G_second_94 : decode b_G_second 94 = .ok (.getfield 169, 3) := by decide +kernel
theorem d_G_second_97 : decode b_G_second 97 = .ok (.iconst 1, 1) := by decide +kernel
theorem d_G_second_98 : decode b_G_second 98 = .ok (.iadd, 1) := by decide +kernel
theorem d_G_second_99 : decode b_G_second 99 = .ok (.putfield 169, 3) := by decide +kernel
theorem d_G_second_102 : decode b_G_second 102 = .ok (.iload 6, 2) := by decide +kernel
theorem d_G_second_104 : decode b_G_second 104 = .ok (.ifCond .eq 22, 3) := by decide +kernel
theorem d_G_second_107 : decode b_G_second 107 = .ok (.aload 5, 2) := by decide +kernel
theorem d_G_second_109 : decode b_G_second 109 = .ok (.getfield 106, 3) := by decide +kernel
theorem d_G_second_112 : decode b_G_second 112 = .ok (.iconst 3, 1) := by decide +kernel
theorem d_G_second_113 : decode b_G_second 113 = .ok (.if_icmp .ne 13, 3) := by decide +kernel
theorem d_G_second_116 : decode b_G_second 116 = .ok (.aload_n 0, 1) := by decide +kernel
theorem d_G_second_117 : decode b_G_second 117 = .ok (.dup, 1) := by decide +kernel
theorem d_G_second_118 : decode b_G_second 118 = .ok (.getfield 172, 3) := by decide +kernel
theorem d_G_second_121 : decode b_G_second 121 = .ok (.iconst 1, 1) := by decide +kernel
theorem d_G_second_122 : decode b_G_second 122 = .ok (.iadd, 1) := by decide +kernel
theorem d_G_second_123 : decode b_G_second 123 = .ok (.putfield 172, 3) := by decide +kernel
theorem d_G_second_126 : decode b_G_second 126 = .ok (.aload_n 0, 1) := by decide +kernel
theorem d_G_second_127 : decode b_G_second 127 = .ok (.getfield 10, 3) := by decide +kernel
theorem d_G_second_130 : decode b_G_second 130 = .ok (.aload 5, 2) := by decide +kernel
theorem d_G_second_132 : decode b_G_second 132 = .ok (.invokevirtual 175, 3) := by decide +kernel
theorem d_G_second_135 : decode b_G_second 135 = .ok (.iload_n 1, 1) := by decide +kernel
theorem d_G_second_136 : decode b_G_second 136 = .ok (.invokevirtual 179, 3) := by decide +kernel
theorem d_G_second_139 : decode b_G_second 139 = .ok (.aload 5, 2) := by decide +kernel
theorem d_G_second_141 : decode b_G_second 141 = .ok (.getfield 106, 3) := by decide +kernel
theorem d_G_second_144 : decode b_G_second 144 = .ok (.ireturn, 1) := by decide +kernel
theorem gl_G_165 : ∀ w ∈ wsV "TrainGuard" 165 "TrainGuard$Train" y_T_runSecond (Cond.code y_T_runSecond b_T_runSecond 8 (some Jvm.ClassFile.FieldType.boolean) :: tG), w ∈ tG := by
  intro x hx
  simp only [wsV, List.cons_append, List.nil_append, List.mem_cons] at hx
  rcases hx with rfl | rfl | rfl | rfl | rfl | hx
  · exact wd_493
  · exact wd_494
  · exact wd_495
  · exact wd_3
  · exact wd_496
  · exact hx
theorem gl_G_179 : ∀ w ∈ wsV "TrainGuard" 179 "TrainGuard$Line" y_L_freeBelow (Cond.code y_L_freeBelow b_L_freeBelow 5 none :: tG), w ∈ tG := by
  intro x hx
  simp only [wsV, List.cons_append, List.nil_append, List.mem_cons] at hx
  rcases hx with rfl | rfl | rfl | rfl | rfl | hx
  · exact wd_523
  · exact wd_524
  · exact wd_525
  · exact wd_2
  · exact wd_526
  · exact hx
def w_G_second_126 (S : SC) (y1 : Int32) (i5 : Nat) (Q : Int32 → SC → Prop) (X : Nat → SC → Prop) : Prop := w_T_rear S i5 (fun r10 S11 => w_L_freeBelow S11 r10 y1 (fun S12 => Q (S12.1 9 i5) S12))
def w_G_second_102 (S : SC) (y1 : Int32) (i5 : Nat) (y6 : Int32) (Q : Int32 → SC → Prop) (X : Nat → SC → Prop) : Prop := ((y6 = 0) → (w_G_second_126 S y1 i5 Q X)) ∧ ((¬ y6 = 0) → (((¬ (S.1 9 i5) = 3) → (w_G_second_126 S y1 i5 Q X)) ∧ (((S.1 9 i5) = 3) → (∀ a9 : Int32, a9 = (S.1 3 0) + 1 → (w_G_second_126 (pI S 3 0 a9) y1 i5 Q X)))))
def w_G_second_75 (S : SC) (y1 : Int32) (y2 : UInt64) (y4 : Int32) (i5 : Nat) (ys0 : Int32) (Q : Int32 → SC → Prop) (X : Nat → SC → Prop) : Prop := w_T_runSecond S i5 y2 y4 (fun r6 S7 => ((r6 = 0) → (w_G_second_102 S7 y1 i5 ys0 Q X)) ∧ ((¬ r6 = 0) → (∀ a8 : Int32, a8 = (S7.1 2 0) + 1 → (w_G_second_102 (pI S7 2 0 a8) y1 i5 ys0 Q X))))
def w_G_second_35 (S : SC) (y1 : Int32) (y2 : UInt64) (y4 : Int32) (i5 : Nat) (ys0 : Int32) (Q : Int32 → SC → Prop) (X : Nat → SC → Prop) : Prop := ((ys0 = 0) → X 1 S) ∧ ((¬ ys0 = 0) → ((fun S5 => (((S5.1 9 i5) = 0) → (Q (S5.1 9 i5) S5)) ∧ ((¬ (S5.1 9 i5) = 0) → (((¬ (S5.1 9 i5) = 4) → (((¬ (S5.1 9 i5) = 2) → (w_G_second_75 S5 y1 y2 y4 i5 0 Q X)) ∧ (((S5.1 9 i5) = 2) → (w_G_second_75 S5 y1 y2 y4 i5 1 Q X)))) ∧ (((S5.1 9 i5) = 4) → (Q (S5.1 9 i5) S5))))) S))
def w_G_second_34 (S : SC) (y1 : Int32) (y2 : UInt64) (y4 : Int32) (i5 : Nat) (Q : Int32 → SC → Prop) (X : Nat → SC → Prop) : Prop := w_G_second_35 S y1 y2 y4 i5 0 Q X
def w_G_second (S : SC) (x1 : Int32) (x2 : UInt64) (x3 : Int32) (Q : Int32 → SC → Prop) (X : Nat → SC → Prop) : Prop := w_G_trainNumbered S x1 (fun j1 S2 => w_G_isWithin S2 x2 (13835058055282163712 : UInt64) FP.dconst1 (fun r3 S4 => ((r3 = 0) → (w_G_second_34 S4 x1 x2 x3 j1 Q X)) ∧ ((¬ r3 = 0) → (((x3 < (-1)) → (w_G_second_34 S4 x1 x2 x3 j1 Q X)) ∧ ((¬ x3 < (-1)) → (((1 < x3) → (w_G_second_34 S4 x1 x2 x3 j1 Q X)) ∧ ((¬ 1 < x3) → (w_G_second_35 S4 x1 x2 x3 j1 1 Q X)))))))) X
set_option maxRecDepth 100000 in
set_option maxHeartbeats 4000000 in
theorem c_G_second (l : Launch) (hl0 : l.stackTraces = false) (D : va_G) (ca : Nat → ClassId) (ad : Nat → Nat) (sz : Nat) (S : SC) (x1 : Int32) (x2 : UInt64) (x3 : Int32)  (Q : Int32 → SC → Prop) (X : Nat → SC → Prop) (h : w_G_second S x1 x2 x3 Q X) : vx_Met l y_G_second (Cond.code y_G_second b_G_second 7 (some Jvm.ClassFile.FieldType.int) :: tG) ({ frames := 8, cells := 2, slots := 12, locals := 169 } : Room) (xPx D ca (wC ca ad) S sz [.ref (ad 0), .int x1, .double x2, .int x3]) (va_Qi Q (xAt D (wC ca ad) (va_A (wC ca ad S) sz)) (va_A (wC ca ad S) sz)) (xXf X D (wC ca ad) (va_A (wC ca ad S) sz)) 2 12 (va_A (wC ca ad S) sz) := by
  refine xx_mex (Qf := fun A => va_Qi Q (xAt D (wC ca ad) A) A) (Xf := fun A => xXf X D (wC ca ad) A) (by decide) (Nat.le_of_ble_eq_true rfl) ?_
  intro p e s m args below meth c A ls hx hb hr hw hown hlocks hml hK hN hA hP hD hS hl hZ hout hX
  have hown : s.vm.findClass "TrainGuard" = some m.cls := hown
  have hl : lv_has ls 7 [(0, .ref (ad 0)), (1, .int x1), (2, .double x2), (4, .int x3)] := hl
  unfold w_G_second at h
  have bk_126 : ∀ (S : SC) (y1 : Int32) (i5 : Nat) (H : Heap) (locs : List Loc) (hi5 : i5 < 3), va_P D cls (wC ca ad S) H → va_D A (wC ca ad S) → va_S A s.heap H locs → ∀ (ls : Array Slot), lv_has ls 7 [(0, .ref (ad 0)), (1, .int y1), (5, .ref (ad (9 + i5)))] → w_G_second_126 S y1 i5 Q X → W p l e ({ frames := 8, cells := 2, slots := 12, locals := 169 } : Room) s m args below meth c H locs 1 6 (vx_MQ below ((fun A => va_Qi Q (xAt D (wC ca ad) A) A) A) ((fun A => xXf X D (wC ca ad) A) A) args s 2 12 A) (F0 m 126 ls []) := by
    intro S y1 i5 H locs hi5 hP hD hS ls hl h
    unfold w_G_second_126 at h
    refine lv_aload_n hx hb d_G_second_126 rfl (lv_at hl 0 rfl) ?_
    refine va_get (D := D) (ci := 3) (v := .ref (ad 1)) (C := Rc_G) (T := Fc_G) (N := 6) hx hb hw inc_G hown hK hP 0 rfl rfl 0 (by decide) (hw _ wd_132) (fun _ h9 => h9) rfl d_G_second_127 ?_
    refine lv_aload hx hb d_G_second_130 (lv_at hl 2 rfl) ?_
    refine xx_calld (va_runV (As := []) (rest := [.ref (ad 1)]) ⟨hx, hb, hml, hown, hw⟩ (c_T_rear l D ca ad H.size S i5 hi5 _ h) (cwV 0 hw (tG_g gl_G_175) rfl rfl rfl (by decide +kernel) ⟨Nat.le_of_ble_eq_true rfl, Nat.le_of_ble_eq_true rfl⟩) ⟨xPc.blind, va_recv hK hP rfl (wC_T hi5), xPc.pre hK hN hP hD⟩ rfl rfl hl.1 rfl (lv_room (Nat.le_of_ble_eq_true rfl)) d_G_second_132 ⟨Nat.le_of_ble_eq_true rfl, Nat.le_of_ble_eq_true rfl⟩) hD hS hA (fun r10 S11 H locs h hP hD hS => ?_)
    refine lv_iload_n hx hb d_G_second_135 rfl (lv_at hl 1 rfl) ?_
    refine xx_callv (va_runV (As := [.double r10, .int y1]) (rest := []) ⟨hx, hb, hml, hown, hw⟩ (c_L_freeBelow l D ca ad H.size S11 r10 y1 _ h) (cwV 2 hw (tG_g gl_G_179) rfl rfl rfl (by decide +kernel) ⟨Nat.le_of_ble_eq_true rfl, Nat.le_of_ble_eq_true rfl⟩) ⟨xPc.blind, va_recv hK hP rfl (q0 := 1) rfl, xPc.pre hK hN hP hD⟩ rfl rfl hl.1 rfl (lv_room (Nat.le_of_ble_eq_true rfl)) d_G_second_136 ⟨Nat.le_of_ble_eq_true rfl, Nat.le_of_ble_eq_true rfl⟩) hD hS hA (fun S12 H locs h hP hD hS => ?_)
    refine lv_aload hx hb d_G_second_139 (lv_at hl 2 rfl) ?_
    refine va_getN (D := D) (ci := 2) (v := .int (S12.1 9 i5)) (C := Rc_T) (T := Fc_T) (N := 11) hx hb hw inc_T hown hK hP (9 + i5) (wC_T hi5) rfl 10 (by decide) (nw_108 hN) (fun _ h9 => h9) rfl d_G_second_141 ?_
    refine vx_ret ?_
    refine W.widen (k := 2) (n := 12) (by omega) (by omega) ?_
    exact W.iret (v := (S12.1 9 i5)) hx hb hr (fun t ht hW => ⟨⟨S12.1 9 i5, S12, rfl, h, by rw [ht]; exact hP, hD⟩, hS.F ht⟩) hS.2.2 d_G_second_144
  have bk_102 : ∀ (S : SC) (y1 : Int32) (i5 : Nat) (y6 : Int32) (H : Heap) (locs : List Loc) (hi5 : i5 < 3), va_P D cls (wC ca ad S) H → va_D A (wC ca ad S) → va_S A s.heap H locs → ∀ (ls : Array Slot), lv_has ls 7 [(0, .ref (ad 0)), (1, .int y1), (5, .ref (ad (9 + i5))), (6, .int y6)] → w_G_second_102 S y1 i5 y6 Q X → W p l e ({ frames := 8, cells := 2, slots := 12, locals := 169 } : Room) s m args below meth c H locs 1 6 (vx_MQ below ((fun A => va_Qi Q (xAt D (wC ca ad) A) A) A) ((fun A => xXf X D (wC ca ad) A) A) args s 2 12 A) (F0 m 102 ls []) := by
    intro S y1 i5 y6 H locs hi5 hP hD hS ls hl h
    unfold w_G_second_102 at h
    refine lv_iload hx hb d_G_second_102 (lv_at hl 3 rfl) ?_
    refine lv_if_eq (tgt := 126) hx hb d_G_second_104 (by decide) (fun hc => ?_) (fun hc => ?_)
    · replace h := h.1 hc
      exact bk_126 S y1 i5 H locs hi5 hP hD hS ls (lv_sub hl [0, 1, 2] rfl) h
    · replace h := h.2 hc
      refine lv_aload hx hb d_G_second_107 (lv_at hl 2 rfl) ?_
      refine va_getN (D := D) (ci := 2) (v := .int (S.1 9 i5)) (C := Rc_T) (T := Fc_T) (N := 11) hx hb hw inc_T hown hK hP (9 + i5) (wC_T hi5) rfl 10 (by decide) (nw_108 hN) (fun _ h9 => h9) rfl d_G_second_109 ?_
      refine lv_iconst (v := 3) hx hb d_G_second_112 (by decide) ?_
      refine lv_icmp_ne (tgt := 126) hx hb d_G_second_113 (by decide) (fun hc => ?_) (fun hc => ?_)
      · replace h := h.1 hc
        exact bk_126 S y1 i5 H locs hi5 hP hD hS ls (lv_sub hl [0, 1, 2] rfl) h
      · replace h := h.2 hc
        refine lv_aload_n hx hb d_G_second_116 rfl (lv_at hl 0 rfl) ?_
        refine lv_dup hx hb d_G_second_117 rfl ?_
        refine va_get (D := D) (ci := 3) (v := .int (S.1 3 0)) (C := Rc_G) (T := Fc_G) (N := 6) hx hb hw inc_G hown hK hP 0 rfl rfl 5 (by decide) (hw _ wd_137) (fun _ h9 => h9) rfl d_G_second_118 ?_
        refine lv_iconst (v := 1) hx hb d_G_second_121 (by decide) ?_
        refine lv_iadd hx hb d_G_second_122 ?_
        refine lv_topi (fun a9 e_a9 => ?_)
        replace h := h a9 e_a9
        refine va_put (D := D) (ci := 3) (v := .int a9) (ty := .int) (C := Rc_G) (T := Fc_G) (N := 6) hx hb hw inc_G tc_G tc_G_ok nc_G hown hK hP hD hS 0 rfl rfl 5 (by decide) (hw _ wd_137) (fun _ h9 => h9) rfl (by decide +kernel) rfl rfl (Nat.le_of_ble_eq_true rfl) d_G_second_123 (fun H locs hP hD hS => ?_)
        rw [pt_G_overruns] at hP hD
        exact bk_126 (pI S 3 0 a9) y1 i5 H locs hi5 hP hD hS ls (lv_sub hl [0, 1, 2] rfl) h
  have bk_75 : ∀ (S : SC) (y1 : Int32) (y2 : UInt64) (y4 : Int32) (i5 : Nat) (ys0 : Int32) (H : Heap) (locs : List Loc) (hi5 : i5 < 3), va_P D cls (wC ca ad S) H → va_D A (wC ca ad S) → va_S A s.heap H locs → ∀ (ls : Array Slot), lv_has ls 7 [(0, .ref (ad 0)), (1, .int y1), (2, .double y2), (4, .int y4), (5, .ref (ad (9 + i5)))] → w_G_second_75 S y1 y2 y4 i5 ys0 Q X → W p l e ({ frames := 8, cells := 2, slots := 12, locals := 169 } : Room) s m args below meth c H locs 1 6 (vx_MQ below ((fun A => va_Qi Q (xAt D (wC ca ad) A) A) A) ((fun A => xXf X D (wC ca ad) A) A) args s 2 12 A) (F0 m 75 ls [.int ys0]) := by
    intro S y1 y2 y4 i5 ys0 H locs hi5 hP hD hS ls hl h
    unfold w_G_second_75 at h
    refine lv_istore (lv' := [(6, .int ys0), (0, .ref (ad 0)), (1, .int y1), (2, .double y2), (4, .int y4), (5, .ref (ad (9 + i5)))]) hx hb d_G_second_75 hl (by decide) rfl (fun ls hl => ?_)
    refine lv_aload hx hb d_G_second_77 (lv_at hl 5 rfl) ?_
    refine lv_aload_n hx hb d_G_second_79 rfl (lv_at hl 1 rfl) ?_
    refine va_get (D := D) (ci := 3) (v := .ref (ad 1)) (C := Rc_G) (T := Fc_G) (N := 6) hx hb hw inc_G hown hK hP 0 rfl rfl 0 (by decide) (hw _ wd_132) (fun _ h9 => h9) rfl d_G_second_80 ?_
    refine lv_dload_n hx hb d_G_second_83 rfl (lv_at hl 3 rfl) ?_
    refine lv_iload hx hb d_G_second_84 (lv_at hl 4 rfl) ?_
    refine xx_calli (va_runV (As := [.ref (ad 1), .double y2, .int y4]) (rest := []) ⟨hx, hb, hml, hown, hw⟩ (c_T_runSecond l D ca ad H.size S i5 y2 y4 hi5 _ h) (cwV 3 hw (tG_g gl_G_165) rfl rfl rfl (by decide +kernel) ⟨Nat.le_of_ble_eq_true rfl, Nat.le_of_ble_eq_true rfl⟩) ⟨xPc.blind, va_recv hK hP rfl (wC_T hi5), xPc.pre hK hN hP hD⟩ rfl rfl hl.1 rfl (lv_room (Nat.le_of_ble_eq_true rfl)) d_G_second_86 ⟨Nat.le_of_ble_eq_true rfl, Nat.le_of_ble_eq_true rfl⟩) hD hS hA (fun r6 S7 H locs h hP hD hS => ?_)
    refine lv_if_eq (tgt := 102) hx hb d_G_second_89 (by decide) (fun hc => ?_) (fun hc => ?_)
    · replace h := h.1 hc
      exact bk_102 S7 y1 i5 ys0 H locs hi5 hP hD hS ls (lv_sub hl [1, 2, 5, 0] rfl) h
    · replace h := h.2 hc
      refine lv_aload_n hx hb d_G_second_92 rfl (lv_at hl 1 rfl) ?_
      refine lv_dup hx hb d_G_second_93 rfl ?_
      refine va_get (D := D) (ci := 3) (v := .int (S7.1 2 0)) (C := Rc_G) (T := Fc_G) (N := 6) hx hb hw inc_G hown hK hP 0 rfl rfl 4 (by decide) (hw _ wd_136) (fun _ h9 => h9) rfl d_G_second_94 ?_
      refine lv_iconst (v := 1) hx hb d_G_second_97 (by decide) ?_
      refine lv_iadd hx hb d_G_second_98 ?_
      refine lv_topi (fun a8 e_a8 => ?_)
      replace h := h a8 e_a8
      refine va_put (D := D) (ci := 3) (v := .int a8) (ty := .int) (C := Rc_G) (T := Fc_G) (N := 6) hx hb hw inc_G tc_G tc_G_ok nc_G hown hK hP hD hS 0 rfl rfl 4 (by decide) (hw _ wd_136) (fun _ h9 => h9) rfl (by decide +kernel) rfl rfl (Nat.le_of_ble_eq_true rfl) d_G_second_99 (fun H locs hP hD hS => ?_)
      rw [pt_G_guardBrakings] at hP hD
      exact bk_102 (pI S7 2 0 a8) y1 i5 ys0 H locs hi5 hP hD hS ls (lv_sub hl [1, 2, 5, 0] rfl) h
  have bk_35 : ∀ (S : SC) (y1 : Int32) (y2 : UInt64) (y4 : Int32) (i5 : Nat) (ys0 : Int32) (H : Heap) (locs : List Loc) (hi5 : i5 < 3), va_P D cls (wC ca ad S) H → va_D A (wC ca ad S) → va_S A s.heap H locs → ∀ (ls : Array Slot), lv_has ls 7 [(0, .ref (ad 0)), (1, .int y1), (2, .double y2), (4, .int y4), (5, .ref (ad (9 + i5)))] → w_G_second_35 S y1 y2 y4 i5 ys0 Q X → W p l e ({ frames := 8, cells := 2, slots := 12, locals := 169 } : Room) s m args below meth c H locs 1 6 (vx_MQ below ((fun A => va_Qi Q (xAt D (wC ca ad) A) A) A) ((fun A => xXf X D (wC ca ad) A) A) args s 2 12 A) (F0 m 35 ls [.int ys0]) := by
    intro S y1 y2 y4 i5 ys0 H locs hi5 hP hD hS ls hl h
    unfold w_G_second_35 at h
    by_cases hz : ys0 = 0
    · replace h := h.1 hz
      exact xx_thr (vx_runS (As := [.int ys0]) (rest := []) ⟨hx, hb, hml, hown, hw⟩ (c_G_demandArgument_no l hl0 D ca ad H.size S ys0 hz X h) (cwS 1 hw (tG_g gl_G_35) rfl rfl rfl (by decide +kernel) ⟨Nat.le_of_ble_eq_true rfl, Nat.le_of_ble_eq_true rfl⟩) ⟨xPx.blind, xPx.pre hK hN hP hD hX (hZ.now hS hA hD)⟩ rfl rfl hl.1 rfl (lv_room (Nat.le_of_ble_eq_true rfl)) d_G_second_35 ⟨Nat.le_of_ble_eq_true rfl, Nat.le_of_ble_eq_true rfl⟩) hD hS hA hout hlocks (Nat.le_of_ble_eq_true rfl) (Nat.le_of_ble_eq_true rfl)
    replace h := h.2 hz
    refine xx_callv (va_runS (As := [.int ys0]) (rest := []) ⟨hx, hb, hml, hown, hw⟩ (c_G_demandArgument_ok l D ca ad H.size S ys0 hz (fun S5 => (((S5.1 9 i5) = 0) → (Q (S5.1 9 i5) S5)) ∧ ((¬ (S5.1 9 i5) = 0) → (((¬ (S5.1 9 i5) = 4) → (((¬ (S5.1 9 i5) = 2) → (w_G_second_75 S5 y1 y2 y4 i5 0 Q X)) ∧ (((S5.1 9 i5) = 2) → (w_G_second_75 S5 y1 y2 y4 i5 1 Q X)))) ∧ (((S5.1 9 i5) = 4) → (Q (S5.1 9 i5) S5))))) h) (cwS 1 hw (tG_g gl_G_35) rfl rfl rfl (by decide +kernel) ⟨Nat.le_of_ble_eq_true rfl, Nat.le_of_ble_eq_true rfl⟩) ⟨xPc.blind, xPc.pre hK hN hP hD⟩ rfl rfl hl.1 rfl (lv_room (Nat.le_of_ble_eq_true rfl)) d_G_second_35 ⟨Nat.le_of_ble_eq_true rfl, Nat.le_of_ble_eq_true rfl⟩) hD hS hA (fun S5 H locs h hP hD hS => ?_)
    refine lv_aload hx hb d_G_second_38 (lv_at hl 4 rfl) ?_
    refine va_getN (D := D) (ci := 2) (v := .int (S5.1 9 i5)) (C := Rc_T) (T := Fc_T) (N := 11) hx hb hw inc_T hown hK hP (9 + i5) (wC_T hi5) rfl 10 (by decide) (nw_108 hN) (fun _ h9 => h9) rfl d_G_second_40 ?_
    refine lv_if_eq (tgt := 55) hx hb d_G_second_43 (by decide) (fun hc => ?_) (fun hc => ?_)
    · replace h := h.1 hc
      refine lv_aload hx hb d_G_second_55 (lv_at hl 4 rfl) ?_
      refine va_getN (D := D) (ci := 2) (v := .int (S5.1 9 i5)) (C := Rc_T) (T := Fc_T) (N := 11) hx hb hw inc_T hown hK hP (9 + i5) (wC_T hi5) rfl 10 (by decide) (nw_108 hN) (fun _ h9 => h9) rfl d_G_second_57 ?_
      refine vx_ret ?_
      refine W.widen (k := 2) (n := 12) (by omega) (by omega) ?_
      exact W.iret (v := (S5.1 9 i5)) hx hb hr (fun t ht hW => ⟨⟨S5.1 9 i5, S5, rfl, h, by rw [ht]; exact hP, hD⟩, hS.F ht⟩) hS.2.2 d_G_second_60
    · replace h := h.2 hc
      refine lv_aload hx hb d_G_second_46 (lv_at hl 4 rfl) ?_
      refine va_getN (D := D) (ci := 2) (v := .int (S5.1 9 i5)) (C := Rc_T) (T := Fc_T) (N := 11) hx hb hw inc_T hown hK hP (9 + i5) (wC_T hi5) rfl 10 (by decide) (nw_108 hN) (fun _ h9 => h9) rfl d_G_second_48 ?_
      refine lv_iconst (v := 4) hx hb d_G_second_51 (by decide) ?_
      refine lv_icmp_ne (tgt := 61) hx hb d_G_second_52 (by decide) (fun hc => ?_) (fun hc => ?_)
      · replace h := h.1 hc
        refine lv_aload hx hb d_G_second_61 (lv_at hl 4 rfl) ?_
        refine va_getN (D := D) (ci := 2) (v := .int (S5.1 9 i5)) (C := Rc_T) (T := Fc_T) (N := 11) hx hb hw inc_T hown hK hP (9 + i5) (wC_T hi5) rfl 10 (by decide) (nw_108 hN) (fun _ h9 => h9) rfl d_G_second_63 ?_
        refine lv_iconst (v := 2) hx hb d_G_second_66 (by decide) ?_
        refine lv_icmp_ne (tgt := 74) hx hb d_G_second_67 (by decide) (fun hc => ?_) (fun hc => ?_)
        · replace h := h.1 hc
          refine lv_iconst (v := 0) hx hb d_G_second_74 (by decide) ?_
          exact bk_75 S5 y1 y2 y4 i5 0 H locs hi5 hP hD hS ls (lv_sub hl [0, 1, 2, 3, 4] rfl) h
        · replace h := h.2 hc
          refine lv_iconst (v := 1) hx hb d_G_second_70 (by decide) ?_
          refine lv_goto (tgt := 75) hx hb d_G_second_71 (by decide) ?_
          exact bk_75 S5 y1 y2 y4 i5 1 H locs hi5 hP hD hS ls (lv_sub hl [0, 1, 2, 3, 4] rfl) h
      · replace h := h.2 hc
        refine lv_aload hx hb d_G_second_55 (lv_at hl 4 rfl) ?_
        refine va_getN (D := D) (ci := 2) (v := .int (S5.1 9 i5)) (C := Rc_T) (T := Fc_T) (N := 11) hx hb hw inc_T hown hK hP (9 + i5) (wC_T hi5) rfl 10 (by decide) (nw_108 hN) (fun _ h9 => h9) rfl d_G_second_57 ?_
        refine vx_ret ?_
        refine W.widen (k := 2) (n := 12) (by omega) (by omega) ?_
        exact W.iret (v := (S5.1 9 i5)) hx hb hr (fun t ht hW => ⟨⟨S5.1 9 i5, S5, rfl, h, by rw [ht]; exact hP, hD⟩, hS.F ht⟩) hS.2.2 d_G_second_60
  have bk_34 : ∀ (S : SC) (y1 : Int32) (y2 : UInt64) (y4 : Int32) (i5 : Nat) (H : Heap) (locs : List Loc) (hi5 : i5 < 3), va_P D cls (wC ca ad S) H → va_D A (wC ca ad S) → va_S A s.heap H locs → ∀ (ls : Array Slot), lv_has ls 7 [(0, .ref (ad 0)), (1, .int y1), (2, .double y2), (4, .int y4), (5, .ref (ad (9 + i5)))] → w_G_second_34 S y1 y2 y4 i5 Q X → W p l e ({ frames := 8, cells := 2, slots := 12, locals := 169 } : Room) s m args below meth c H locs 1 6 (vx_MQ below ((fun A => va_Qi Q (xAt D (wC ca ad) A) A) A) ((fun A => xXf X D (wC ca ad) A) A) args s 2 12 A) (F0 m 34 ls []) := by
    intro S y1 y2 y4 i5 H locs hi5 hP hD hS ls hl h
    unfold w_G_second_34 at h
    refine lv_iconst (v := 0) hx hb d_G_second_34 (by decide) ?_
    exact bk_35 S y1 y2 y4 i5 0 H locs hi5 hP hD hS ls (lv_sub hl [0, 1, 2, 3, 4] rfl) h
  have hH9 : ∀ H : Heap, H = s.heap → va_P D cls (wC ca ad S) H → va_S A s.heap H [] → W p l e ({ frames := 8, cells := 2, slots := 12, locals := 169 } : Room) s m args below meth c H [] 0 0 (vx_MQ below ((fun A => va_Qi Q (xAt D (wC ca ad) A) A) A) ((fun A => xXf X D (wC ca ad) A) A) args s 2 12 A) (F0 m 0 ls []) := by
    clear hP hS
    intro H hH hP hS
    obtain ⟨locs, hlo⟩ : ∃ z : List Loc, z = [] := ⟨_, rfl⟩
    rw [← hlo] at hS ⊢
    refine lv_aload_n hx hb d_G_second_0 rfl (lv_at hl 0 rfl) ?_
    refine lv_iload_n hx hb d_G_second_1 rfl (lv_at hl 1 rfl) ?_
    refine xx_calr (vx_runV (As := [.int x1]) (rest := []) ⟨hx, hb, hml, hown, hw⟩ (c_G_trainNumbered l hl0 D ca ad H.size S x1 _ _ h) (cwV 1 hw (tG_g gl_G_102) rfl rfl rfl (by decide +kernel) ⟨Nat.le_of_ble_eq_true rfl, Nat.le_of_ble_eq_true rfl⟩) ⟨xPx.blind, va_recv hK hP rfl (q0 := 0) rfl, xPx.pre hK hN hP hD hX (hZ.now hS hA hD)⟩ rfl rfl hl.1 rfl (lv_room (Nat.le_of_ble_eq_true rfl)) d_G_second_2 ⟨Nat.le_of_ble_eq_true rfl, Nat.le_of_ble_eq_true rfl⟩) hD hS hA hout hlocks (Nat.le_of_ble_eq_true rfl) (Nat.le_of_ble_eq_true rfl) (fun j1 S2 H locs hj1 h hP hD hS => ?_)
    refine lv_astore (lv' := [(5, .ref (ad (9 + j1))), (0, .ref (ad 0)), (1, .int x1), (2, .double x2), (4, .int x3)]) hx hb d_G_second_5 hl (by decide) rfl (fun ls hl => ?_)
    refine lv_dload_n hx hb d_G_second_7 rfl (lv_at hl 3 rfl) ?_
    refine lv_ldc2d hx hb hown (hw _ wd_492) d_G_second_8 ?_
    refine lv_dconst1 hx hb d_G_second_11 ?_
    refine xx_calli (va_runS (As := [.double x2, .double (13835058055282163712 : UInt64), .double FP.dconst1]) (rest := []) ⟨hx, hb, hml, hown, hw⟩ (c_G_isWithin l D ca ad H.size S2 x2 (13835058055282163712 : UInt64) FP.dconst1 _ h) (cwS 3 hw (tG_g gl_G_27) rfl rfl rfl (by decide +kernel) ⟨Nat.le_of_ble_eq_true rfl, Nat.le_of_ble_eq_true rfl⟩) ⟨xPc.blind, xPc.pre hK hN hP hD⟩ rfl rfl hl.1 rfl (lv_room (Nat.le_of_ble_eq_true rfl)) d_G_second_12 ⟨Nat.le_of_ble_eq_true rfl, Nat.le_of_ble_eq_true rfl⟩) hD hS hA (fun r3 S4 H locs h hP hD hS => ?_)
    refine lv_if_eq (tgt := 34) hx hb d_G_second_15 (by decide) (fun hc => ?_) (fun hc => ?_)
    · replace h := h.1 hc
      exact bk_34 S4 x1 x2 x3 j1 H locs hj1 hP hD hS ls (lv_sub hl [1, 2, 3, 4, 0] rfl) h
    · replace h := h.2 hc
      refine lv_iload hx hb d_G_second_18 (lv_at hl 4 rfl) ?_
      refine lv_iconst (v := (-1)) hx hb d_G_second_20 (by decide) ?_
      refine lv_icmp_lt (tgt := 34) hx hb d_G_second_21 (by decide) (fun hc => ?_) (fun hc => ?_)
      · replace h := h.1 hc
        exact bk_34 S4 x1 x2 x3 j1 H locs hj1 hP hD hS ls (lv_sub hl [1, 2, 3, 4, 0] rfl) h
      · replace h := h.2 hc
        refine lv_iload hx hb d_G_second_24 (lv_at hl 4 rfl) ?_
        refine lv_iconst (v := 1) hx hb d_G_second_26 (by decide) ?_
        refine lv_icmp_gt (tgt := 34) hx hb d_G_second_27 (by decide) (fun hc => ?_) (fun hc => ?_)
        · replace h := h.1 hc
          exact bk_34 S4 x1 x2 x3 j1 H locs hj1 hP hD hS ls (lv_sub hl [1, 2, 3, 4, 0] rfl) h
        · replace h := h.2 hc
          refine lv_iconst (v := 1) hx hb d_G_second_30 (by decide) ?_
          refine lv_goto (tgt := 35) hx hb d_G_second_31 (by decide) ?_
          exact bk_35 S4 x1 x2 x3 j1 1 H locs hj1 hP hD hS ls (lv_sub hl [1, 2, 3, 4, 0] rfl) h
  exact hH9 _ rfl hP hS
theorem d_G_wet_0 : decode b_G_wet 0 = .ok (.aload_n 0, 1) := by decide +kernel
theorem d_G_wet_1 : decode b_G_wet 1 = .ok (.iload_n 1, 1) := by decide +kernel
theorem d_G_wet_2 : decode b_G_wet 2 = .ok (.invokevirtual 102, 3) := by decide +kernel
theorem d_G_wet_5 : decode b_G_wet 5 = .ok (.iload_n 2, 1) := by decide +kernel
theorem d_G_wet_6 : decode b_G_wet 6 = .ok (.putfield 183, 3) := by decide +kernel
theorem d_G_wet_9 : decode b_G_wet 9 = .ok (.iconst 0, 1) := by decide +kernel
theorem d_G_wet_10 : decode b_G_wet 10 = .ok (.ireturn, 1) := by decide +kernel
def w_G_wet (S : SC) (x1 : Int32) (x2 : Int32) (Q : Int32 → SC → Prop) (X : Nat → SC → Prop) : Prop := w_G_trainNumbered S x1 (fun j1 S2 => (narrow .boolean (.int x2) = .int x2 ∧ fits .boolean (.int x2) = true) ∧ (Q 0 (pI S2 8 j1 x2))) X
set_option maxRecDepth 100000 in
set_option maxHeartbeats 4000000 in
theorem c_G_wet (l : Launch) (hl0 : l.stackTraces = false) (D : va_G) (ca : Nat → ClassId) (ad : Nat → Nat) (sz : Nat) (S : SC) (x1 : Int32) (x2 : Int32)  (Q : Int32 → SC → Prop) (X : Nat → SC → Prop) (h : w_G_wet S x1 x2 Q X) : vx_Met l y_G_wet (Cond.code y_G_wet b_G_wet 3 (some Jvm.ClassFile.FieldType.int) :: tG) ({ frames := 8, cells := 2, slots := 12, locals := 122 } : Room) (xPx D ca (wC ca ad) S sz [.ref (ad 0), .int x1, .int x2]) (va_Qi Q (xAt D (wC ca ad) (va_A (wC ca ad S) sz)) (va_A (wC ca ad S) sz)) (xXf X D (wC ca ad) (va_A (wC ca ad S) sz)) 2 12 (va_A (wC ca ad S) sz) := by
  refine xx_mex (Qf := fun A => va_Qi Q (xAt D (wC ca ad) A) A) (Xf := fun A => xXf X D (wC ca ad) A) (by decide) (Nat.le_of_ble_eq_true rfl) ?_
  intro p e s m args below meth c A ls hx hb hr hw hown hlocks hml hK hN hA hP hD hS hl hZ hout hX
  have hown : s.vm.findClass "TrainGuard" = some m.cls := hown
  have hl : lv_has ls 3 [(0, .ref (ad 0)), (1, .int x1), (2, .int x2)] := hl
  unfold w_G_wet at h
  have hH9 : ∀ H : Heap, H = s.heap → va_P D cls (wC ca ad S) H → va_S A s.heap H [] → W p l e ({ frames := 8, cells := 2, slots := 12, locals := 122 } : Room) s m args below meth c H [] 0 0 (vx_MQ below ((fun A => va_Qi Q (xAt D (wC ca ad) A) A) A) ((fun A => xXf X D (wC ca ad) A) A) args s 2 12 A) (F0 m 0 ls []) := by
    clear hP hS
    intro H hH hP hS
    obtain ⟨locs, hlo⟩ : ∃ z : List Loc, z = [] := ⟨_, rfl⟩
    rw [← hlo] at hS ⊢
    refine lv_aload_n hx hb d_G_wet_0 rfl (lv_at hl 0 rfl) ?_
    refine lv_iload_n hx hb d_G_wet_1 rfl (lv_at hl 1 rfl) ?_
    refine xx_calr (vx_runV (As := [.int x1]) (rest := []) ⟨hx, hb, hml, hown, hw⟩ (c_G_trainNumbered l hl0 D ca ad H.size S x1 _ _ h) (cwV 1 hw (tG_g gl_G_102) rfl rfl rfl (by decide +kernel) ⟨Nat.le_of_ble_eq_true rfl, Nat.le_of_ble_eq_true rfl⟩) ⟨xPx.blind, va_recv hK hP rfl (q0 := 0) rfl, xPx.pre hK hN hP hD hX (hZ.now hS hA hD)⟩ rfl rfl hl.1 rfl (lv_room (Nat.le_of_ble_eq_true rfl)) d_G_wet_2 ⟨Nat.le_of_ble_eq_true rfl, Nat.le_of_ble_eq_true rfl⟩) hD hS hA hout hlocks (Nat.le_of_ble_eq_true rfl) (Nat.le_of_ble_eq_true rfl) (fun j1 S2 H locs hj1 h hP hD hS => ?_)
    refine lv_iload_n hx hb d_G_wet_5 rfl (lv_at hl 2 rfl) ?_
    obtain ⟨hq, h⟩ := h
    refine va_putN (D := D) (ci := 2) (v := .int x2) (ty := .boolean) (C := Rc_T) (T := Fc_T) (N := 11) hx hb hw inc_T tc_T tc_T_ok nc_T hown hK hP hD hS (9 + j1) (wC_T hj1) rfl 9 (by decide) (nw_105 hN) (fun _ h9 => h9) rfl (by decide +kernel) hq.1 hq.2 (Nat.le_of_ble_eq_true rfl) d_G_wet_6 (fun H locs hP hD hS => ?_)
    rw [pt_T_isWet hj1] at hP hD
    refine lv_iconst (v := 0) hx hb d_G_wet_9 (by decide) ?_
    refine vx_ret ?_
    refine W.widen (k := 2) (n := 12) (by omega) (by omega) ?_
    exact W.iret (v := 0) hx hb hr (fun t ht hW => ⟨⟨0, pI S2 8 j1 x2, rfl, h, by rw [ht]; exact hP, hD⟩, hS.F ht⟩) hS.2.2 d_G_wet_10
  exact hH9 _ rfl hP hS
theorem d_G_acknowledge_0 : decode b_G_acknowledge 0 = .ok (.aload_n 0, 1) := by decide +kernel
theorem d_G_acknowledge_1 : decode b_G_acknowledge 1 = .ok (.iload_n 1, 1) := by decide +kernel
theorem d_G_acknowledge_2 : decode b_G_acknowledge 2 = .ok (.invokevirtual 102, 3) := by decide +kernel
theorem d_G_acknowledge_5 : decode b_G_acknowledge 5 = .ok (.astore_n 2, 1) := by decide +kernel
theorem d_G_acknowledge_6 : decode b_G_acknowledge 6 = .ok (.aload_n 2, 1) := by decide +kernel
theorem d_G_acknowledge_7 : decode b_G_acknowledge 7 = .ok (.getfield 106, 3) := by decide +kernel
theorem d_G_acknowledge_10 : decode b_G_acknowledge 10 = .ok (.iconst 4, 1) := by decide +kernel
theorem d_G_acknowledge_11 : decode b_G_acknowledge 11 = .ok (.if_icmp .eq 18, 3) := by decide +kernel
theorem d_G_acknowledge_14 : decode b_G_acknowledge 14 = .ok (.aload_n 2, 1) := by decide +kernel
theorem d_G_acknowledge_15 : decode b_G_acknowledge 15 = .ok (.getfield 106, 3) := by decide +kernel
theorem d_G_acknowledge_18 : decode b_G_acknowledge 18 = .ok (.iconst 3, 1) := by decide +kernel
theorem d_G_acknowledge_19 : decode b_G_acknowledge 19 = .ok (.if_icmp .ne 14, 3) := by decide +kernel
theorem d_G_acknowledge_22 : decode b_G_acknowledge 22 = .ok (.aload_n 2, 1) := by decide +kernel
theorem d_G_acknowledge_23 : decode b_G_acknowledge 23 = .ok (.invokevirtual 186, 3) := by decide +kernel
theorem d_G_acknowledge_26 : decode b_G_acknowledge 26 = .ok (.ifCond .eq 7, 3) := by decide +kernel
theorem d_G_acknowledge_29 : decode b_G_acknowledge 29 = .ok (.iconst 1, 1) := by decide +kernel
theorem d_G_acknowledge_30 : decode b_G_acknowledge 30 = .ok (.goto 4, 3) := by decide +kernel
theorem d_G_acknowledge_33 : decode b_G_acknowledge 33 = .ok (.iconst 0, 1) := by decide +kernel
theorem d_G_acknowledge_34 : decode b_G_acknowledge 34 = .ok (.invokestatic 46, 3) := by decide +kernel
theorem d_G_acknowledge_37 : decode b_G_acknowledge 37 = .ok (.aload_n 2, 1) := by decide +kernel
theorem d_G_acknowledge_38 : decode b_G_acknowledge 38 = .ok (.aload_n 2, 1) := by decide +kernel
theorem d_G_acknowledge_39 : decode b_G_acknowledge 39 = .ok (.getfield 106, 3) := by decide +kernel
theorem d_G_acknowledge_42 : decode b_G_acknowledge 42 = .ok (.iconst 3, 1) := by decide +kernel
theorem d_G_acknowledge_43 : decode b_G_acknowledge 43 = .ok (.if_icmp .ne 7, 3) := by decide +kernel
theorem d_G_acknowledge_46 : decode b_G_acknowledge 46 = .ok (.iconst 4, 1) := by decide +kernel
theorem d_G_acknowledge_47 : decode b_G_acknowledge 47 = .ok (.goto 4, 3) := by decide +kernel
theorem d_G_acknowledge_50 : decode b_G_acknowledge 50 = .ok (.iconst 1, 1) := by decide +kernel
theorem d_G_acknowledge_51 : decode b_G_acknowledge 51 = .ok (.putfield 106, 3) := by decide +kernel
theorem d_G_acknowledge_54 : decode b_G_acknowledge 54 = .ok (.aload_n 2, 1) := by decide +kernel
theorem d_G_acknowledge_55 : decode b_G_acknowledge 55 = .ok (.getfield 106, 3) := by decide +kernel
theorem d_G_acknowledge_58 : decode b_G_acknowledge 58 = .ok (.ireturn, 1) := by decide +kernel
theorem gl_G_186 : ∀ w ∈ wsV "TrainGuard" 186 "TrainGuard$Train" y_T_stands (Cond.code y_T_stands b_T_stands 1 (some Jvm.ClassFile.FieldType.boolean) :: tG), w ∈ tG := by
  intro x hx
  simp only [wsV, List.cons_append, List.nil_append, List.mem_cons] at hx
  rcases hx with rfl | rfl | rfl | rfl | rfl | hx
  · exact wd_541
  · exact wd_481
  · exact wd_482
  · exact wd_3
  · exact wd_483
  · exact hx
def w_G_acknowledge_34 (S : SC) (i2 : Nat) (ys0 : Int32) (Q : Int32 → SC → Prop) (X : Nat → SC → Prop) : Prop := ((ys0 = 0) → X 3 S) ∧ ((¬ ys0 = 0) → ((fun S5 => ((¬ (S5.1 9 i2) = 3) → (Q ((pI S5 9 i2 1).1 9 i2) (pI S5 9 i2 1))) ∧ (((S5.1 9 i2) = 3) → (Q ((pI S5 9 i2 4).1 9 i2) (pI S5 9 i2 4)))) S))
def w_G_acknowledge_33 (S : SC) (i2 : Nat) (Q : Int32 → SC → Prop) (X : Nat → SC → Prop) : Prop := w_G_acknowledge_34 S i2 0 Q X
def w_G_acknowledge_29 (S : SC) (i2 : Nat) (Q : Int32 → SC → Prop) (X : Nat → SC → Prop) : Prop := w_G_acknowledge_34 S i2 1 Q X
def w_G_acknowledge (S : SC) (x1 : Int32) (Q : Int32 → SC → Prop) (X : Nat → SC → Prop) : Prop := w_G_trainNumbered S x1 (fun j1 S2 => (((S2.1 9 j1) = 4) → (w_G_acknowledge_29 S2 j1 Q X)) ∧ ((¬ (S2.1 9 j1) = 4) → (((¬ (S2.1 9 j1) = 3) → (w_G_acknowledge_33 S2 j1 Q X)) ∧ (((S2.1 9 j1) = 3) → (w_T_stands S2 j1 (fun r3 S4 => ((r3 = 0) → (w_G_acknowledge_33 S4 j1 Q X)) ∧ ((¬ r3 = 0) → (w_G_acknowledge_29 S4 j1 Q X)))))))) X
set_option maxRecDepth 100000 in
set_option maxHeartbeats 4000000 in
theorem c_G_acknowledge (l : Launch) (hl0 : l.stackTraces = false) (D : va_G) (ca : Nat → ClassId) (ad : Nat → Nat) (sz : Nat) (S : SC) (x1 : Int32)  (Q : Int32 → SC → Prop) (X : Nat → SC → Prop) (h : w_G_acknowledge S x1 Q X) : vx_Met l y_G_acknowledge (Cond.code y_G_acknowledge b_G_acknowledge 3 (some Jvm.ClassFile.FieldType.int) :: tG) ({ frames := 8, cells := 2, slots := 12, locals := 122 } : Room) (xPx D ca (wC ca ad) S sz [.ref (ad 0), .int x1]) (va_Qi Q (xAt D (wC ca ad) (va_A (wC ca ad S) sz)) (va_A (wC ca ad S) sz)) (xXf X D (wC ca ad) (va_A (wC ca ad S) sz)) 2 12 (va_A (wC ca ad S) sz) := by
  refine xx_mex (Qf := fun A => va_Qi Q (xAt D (wC ca ad) A) A) (Xf := fun A => xXf X D (wC ca ad) A) (by decide) (Nat.le_of_ble_eq_true rfl) ?_
  intro p e s m args below meth c A ls hx hb hr hw hown hlocks hml hK hN hA hP hD hS hl hZ hout hX
  have hown : s.vm.findClass "TrainGuard" = some m.cls := hown
  have hl : lv_has ls 3 [(0, .ref (ad 0)), (1, .int x1)] := hl
  unfold w_G_acknowledge at h
  have bk_34 : ∀ (S : SC) (i2 : Nat) (ys0 : Int32) (H : Heap) (locs : List Loc) (hi2 : i2 < 3), va_P D cls (wC ca ad S) H → va_D A (wC ca ad S) → va_S A s.heap H locs → ∀ (ls : Array Slot), lv_has ls 3 [(2, .ref (ad (9 + i2)))] → w_G_acknowledge_34 S i2 ys0 Q X → W p l e ({ frames := 8, cells := 2, slots := 12, locals := 122 } : Room) s m args below meth c H locs 1 6 (vx_MQ below ((fun A => va_Qi Q (xAt D (wC ca ad) A) A) A) ((fun A => xXf X D (wC ca ad) A) A) args s 2 12 A) (F0 m 34 ls [.int ys0]) := by
    intro S i2 ys0 H locs hi2 hP hD hS ls hl h
    unfold w_G_acknowledge_34 at h
    by_cases hz : ys0 = 0
    · replace h := h.1 hz
      exact xx_thr (vx_runS (As := [.int ys0]) (rest := []) ⟨hx, hb, hml, hown, hw⟩ (c_G_demandState_no l hl0 D ca ad H.size S ys0 hz X h) (cwS 1 hw (tG_g gl_G_46) rfl rfl rfl (by decide +kernel) ⟨Nat.le_of_ble_eq_true rfl, Nat.le_of_ble_eq_true rfl⟩) ⟨xPx.blind, xPx.pre hK hN hP hD hX (hZ.now hS hA hD)⟩ rfl rfl hl.1 rfl (lv_room (Nat.le_of_ble_eq_true rfl)) d_G_acknowledge_34 ⟨Nat.le_of_ble_eq_true rfl, Nat.le_of_ble_eq_true rfl⟩) hD hS hA hout hlocks (Nat.le_of_ble_eq_true rfl) (Nat.le_of_ble_eq_true rfl)
    replace h := h.2 hz
    refine xx_callv (va_runS (As := [.int ys0]) (rest := []) ⟨hx, hb, hml, hown, hw⟩ (c_G_demandState_ok l D ca ad H.size S ys0 hz (fun S5 => ((¬ (S5.1 9 i2) = 3) → (Q ((pI S5 9 i2 1).1 9 i2) (pI S5 9 i2 1))) ∧ (((S5.1 9 i2) = 3) → (Q ((pI S5 9 i2 4).1 9 i2) (pI S5 9 i2 4)))) h) (cwS 1 hw (tG_g gl_G_46) rfl rfl rfl (by decide +kernel) ⟨Nat.le_of_ble_eq_true rfl, Nat.le_of_ble_eq_true rfl⟩) ⟨xPc.blind, xPc.pre hK hN hP hD⟩ rfl rfl hl.1 rfl (lv_room (Nat.le_of_ble_eq_true rfl)) d_G_acknowledge_34 ⟨Nat.le_of_ble_eq_true rfl, Nat.le_of_ble_eq_true rfl⟩) hD hS hA (fun S5 H locs h hP hD hS => ?_)
    refine lv_aload_n hx hb d_G_acknowledge_37 rfl (lv_at hl 0 rfl) ?_
    refine lv_aload_n hx hb d_G_acknowledge_38 rfl (lv_at hl 0 rfl) ?_
    refine va_getN (D := D) (ci := 2) (v := .int (S5.1 9 i2)) (C := Rc_T) (T := Fc_T) (N := 11) hx hb hw inc_T hown hK hP (9 + i2) (wC_T hi2) rfl 10 (by decide) (nw_108 hN) (fun _ h9 => h9) rfl d_G_acknowledge_39 ?_
    refine lv_iconst (v := 3) hx hb d_G_acknowledge_42 (by decide) ?_
    refine lv_icmp_ne (tgt := 50) hx hb d_G_acknowledge_43 (by decide) (fun hc => ?_) (fun hc => ?_)
    · replace h := h.1 hc
      refine lv_iconst (v := 1) hx hb d_G_acknowledge_50 (by decide) ?_
      refine va_putN (D := D) (ci := 2) (v := .int 1) (ty := .int) (C := Rc_T) (T := Fc_T) (N := 11) hx hb hw inc_T tc_T tc_T_ok nc_T hown hK hP hD hS (9 + i2) (wC_T hi2) rfl 10 (by decide) (nw_108 hN) (fun _ h9 => h9) rfl (by decide +kernel) rfl rfl (Nat.le_of_ble_eq_true rfl) d_G_acknowledge_51 (fun H locs hP hD hS => ?_)
      rw [pt_T_mode hi2] at hP hD
      refine lv_aload_n hx hb d_G_acknowledge_54 rfl (lv_at hl 0 rfl) ?_
      refine va_getN (D := D) (ci := 2) (v := .int ((pI S5 9 i2 1).1 9 i2)) (C := Rc_T) (T := Fc_T) (N := 11) hx hb hw inc_T hown hK hP (9 + i2) (wC_T hi2) rfl 10 (by decide) (nw_108 hN) (fun _ h9 => h9) rfl d_G_acknowledge_55 ?_
      refine vx_ret ?_
      refine W.widen (k := 2) (n := 12) (by omega) (by omega) ?_
      exact W.iret (v := ((pI S5 9 i2 1).1 9 i2)) hx hb hr (fun t ht hW => ⟨⟨(pI S5 9 i2 1).1 9 i2, pI S5 9 i2 1, rfl, h, by rw [ht]; exact hP, hD⟩, hS.F ht⟩) hS.2.2 d_G_acknowledge_58
    · replace h := h.2 hc
      refine lv_iconst (v := 4) hx hb d_G_acknowledge_46 (by decide) ?_
      refine lv_goto (tgt := 51) hx hb d_G_acknowledge_47 (by decide) ?_
      refine va_putN (D := D) (ci := 2) (v := .int 4) (ty := .int) (C := Rc_T) (T := Fc_T) (N := 11) hx hb hw inc_T tc_T tc_T_ok nc_T hown hK hP hD hS (9 + i2) (wC_T hi2) rfl 10 (by decide) (nw_108 hN) (fun _ h9 => h9) rfl (by decide +kernel) rfl rfl (Nat.le_of_ble_eq_true rfl) d_G_acknowledge_51 (fun H locs hP hD hS => ?_)
      rw [pt_T_mode hi2] at hP hD
      refine lv_aload_n hx hb d_G_acknowledge_54 rfl (lv_at hl 0 rfl) ?_
      refine va_getN (D := D) (ci := 2) (v := .int ((pI S5 9 i2 4).1 9 i2)) (C := Rc_T) (T := Fc_T) (N := 11) hx hb hw inc_T hown hK hP (9 + i2) (wC_T hi2) rfl 10 (by decide) (nw_108 hN) (fun _ h9 => h9) rfl d_G_acknowledge_55 ?_
      refine vx_ret ?_
      refine W.widen (k := 2) (n := 12) (by omega) (by omega) ?_
      exact W.iret (v := ((pI S5 9 i2 4).1 9 i2)) hx hb hr (fun t ht hW => ⟨⟨(pI S5 9 i2 4).1 9 i2, pI S5 9 i2 4, rfl, h, by rw [ht]; exact hP, hD⟩, hS.F ht⟩) hS.2.2 d_G_acknowledge_58
  have bk_33 : ∀ (S : SC) (i2 : Nat) (H : Heap) (locs : List Loc) (hi2 : i2 < 3), va_P D cls (wC ca ad S) H → va_D A (wC ca ad S) → va_S A s.heap H locs → ∀ (ls : Array Slot), lv_has ls 3 [(2, .ref (ad (9 + i2)))] → w_G_acknowledge_33 S i2 Q X → W p l e ({ frames := 8, cells := 2, slots := 12, locals := 122 } : Room) s m args below meth c H locs 1 6 (vx_MQ below ((fun A => va_Qi Q (xAt D (wC ca ad) A) A) A) ((fun A => xXf X D (wC ca ad) A) A) args s 2 12 A) (F0 m 33 ls []) := by
    intro S i2 H locs hi2 hP hD hS ls hl h
    unfold w_G_acknowledge_33 at h
    refine lv_iconst (v := 0) hx hb d_G_acknowledge_33 (by decide) ?_
    exact bk_34 S i2 0 H locs hi2 hP hD hS ls (lv_sub hl [0] rfl) h
  have bk_29 : ∀ (S : SC) (i2 : Nat) (H : Heap) (locs : List Loc) (hi2 : i2 < 3), va_P D cls (wC ca ad S) H → va_D A (wC ca ad S) → va_S A s.heap H locs → ∀ (ls : Array Slot), lv_has ls 3 [(2, .ref (ad (9 + i2)))] → w_G_acknowledge_29 S i2 Q X → W p l e ({ frames := 8, cells := 2, slots := 12, locals := 122 } : Room) s m args below meth c H locs 1 6 (vx_MQ below ((fun A => va_Qi Q (xAt D (wC ca ad) A) A) A) ((fun A => xXf X D (wC ca ad) A) A) args s 2 12 A) (F0 m 29 ls []) := by
    intro S i2 H locs hi2 hP hD hS ls hl h
    unfold w_G_acknowledge_29 at h
    refine lv_iconst (v := 1) hx hb d_G_acknowledge_29 (by decide) ?_
    refine lv_goto (tgt := 34) hx hb d_G_acknowledge_30 (by decide) ?_
    exact bk_34 S i2 1 H locs hi2 hP hD hS ls (lv_sub hl [0] rfl) h
  have hH9 : ∀ H : Heap, H = s.heap → va_P D cls (wC ca ad S) H → va_S A s.heap H [] → W p l e ({ frames := 8, cells := 2, slots := 12, locals := 122 } : Room) s m args below meth c H [] 0 0 (vx_MQ below ((fun A => va_Qi Q (xAt D (wC ca ad) A) A) A) ((fun A => xXf X D (wC ca ad) A) A) args s 2 12 A) (F0 m 0 ls []) := by
    clear hP hS
    intro H hH hP hS
    obtain ⟨locs, hlo⟩ : ∃ z : List Loc, z = [] := ⟨_, rfl⟩
    rw [← hlo] at hS ⊢
    refine lv_aload_n hx hb d_G_acknowledge_0 rfl (lv_at hl 0 rfl) ?_
    refine lv_iload_n hx hb d_G_acknowledge_1 rfl (lv_at hl 1 rfl) ?_
    refine xx_calr (vx_runV (As := [.int x1]) (rest := []) ⟨hx, hb, hml, hown, hw⟩ (c_G_trainNumbered l hl0 D ca ad H.size S x1 _ _ h) (cwV 1 hw (tG_g gl_G_102) rfl rfl rfl (by decide +kernel) ⟨Nat.le_of_ble_eq_true rfl, Nat.le_of_ble_eq_true rfl⟩) ⟨xPx.blind, va_recv hK hP rfl (q0 := 0) rfl, xPx.pre hK hN hP hD hX (hZ.now hS hA hD)⟩ rfl rfl hl.1 rfl (lv_room (Nat.le_of_ble_eq_true rfl)) d_G_acknowledge_2 ⟨Nat.le_of_ble_eq_true rfl, Nat.le_of_ble_eq_true rfl⟩) hD hS hA hout hlocks (Nat.le_of_ble_eq_true rfl) (Nat.le_of_ble_eq_true rfl) (fun j1 S2 H locs hj1 h hP hD hS => ?_)
    refine lv_astore_n (lv' := [(2, .ref (ad (9 + j1))), (0, .ref (ad 0)), (1, .int x1)]) hx hb d_G_acknowledge_5 rfl hl (by decide) rfl (fun ls hl => ?_)
    refine lv_aload_n hx hb d_G_acknowledge_6 rfl (lv_at hl 0 rfl) ?_
    refine va_getN (D := D) (ci := 2) (v := .int (S2.1 9 j1)) (C := Rc_T) (T := Fc_T) (N := 11) hx hb hw inc_T hown hK hP (9 + j1) (wC_T hj1) rfl 10 (by decide) (nw_108 hN) (fun _ h9 => h9) rfl d_G_acknowledge_7 ?_
    refine lv_iconst (v := 4) hx hb d_G_acknowledge_10 (by decide) ?_
    refine lv_icmp_eq (tgt := 29) hx hb d_G_acknowledge_11 (by decide) (fun hc => ?_) (fun hc => ?_)
    · replace h := h.1 hc
      exact bk_29 S2 j1 H locs hj1 hP hD hS ls (lv_sub hl [0] rfl) h
    · replace h := h.2 hc
      refine lv_aload_n hx hb d_G_acknowledge_14 rfl (lv_at hl 0 rfl) ?_
      refine va_getN (D := D) (ci := 2) (v := .int (S2.1 9 j1)) (C := Rc_T) (T := Fc_T) (N := 11) hx hb hw inc_T hown hK hP (9 + j1) (wC_T hj1) rfl 10 (by decide) (nw_108 hN) (fun _ h9 => h9) rfl d_G_acknowledge_15 ?_
      refine lv_iconst (v := 3) hx hb d_G_acknowledge_18 (by decide) ?_
      refine lv_icmp_ne (tgt := 33) hx hb d_G_acknowledge_19 (by decide) (fun hc => ?_) (fun hc => ?_)
      · replace h := h.1 hc
        exact bk_33 S2 j1 H locs hj1 hP hD hS ls (lv_sub hl [0] rfl) h
      · replace h := h.2 hc
        refine lv_aload_n hx hb d_G_acknowledge_22 rfl (lv_at hl 0 rfl) ?_
        refine xx_calli (va_runV (As := []) (rest := []) ⟨hx, hb, hml, hown, hw⟩ (c_T_stands l D ca ad H.size S2 j1 hj1 _ h) (cwV 0 hw (tG_g gl_G_186) rfl rfl rfl (by decide +kernel) ⟨Nat.le_of_ble_eq_true rfl, Nat.le_of_ble_eq_true rfl⟩) ⟨xPc.blind, va_recv hK hP rfl (wC_T hj1), xPc.pre hK hN hP hD⟩ rfl rfl hl.1 rfl (lv_room (Nat.le_of_ble_eq_true rfl)) d_G_acknowledge_23 ⟨Nat.le_of_ble_eq_true rfl, Nat.le_of_ble_eq_true rfl⟩) hD hS hA (fun r3 S4 H locs h hP hD hS => ?_)
        refine lv_if_eq (tgt := 33) hx hb d_G_acknowledge_26 (by decide) (fun hc => ?_) (fun hc => ?_)
        · replace h := h.1 hc
          exact bk_33 S4 j1 H locs hj1 hP hD hS ls (lv_sub hl [0] rfl) h
        · replace h := h.2 hc
          exact bk_29 S4 j1 H locs hj1 hP hD hS ls (lv_sub hl [0] rfl) h
  exact hH9 _ rfl hP hS
theorem d_G_end_0 : decode b_G_end 0 = .ok (.aload_n 0, 1) := by decide +kernel
theorem d_G_end_1 : decode b_G_end 1 = .ok (.iload_n 1, 1) := by decide +kernel
theorem d_G_end_2 : decode b_G_end 2 = .ok (.invokevirtual 102, 3) := by decide +kernel
theorem d_G_end_5 : decode b_G_end 5 = .ok (.astore_n 2, 1) := by decide +kernel
theorem d_G_end_6 : decode b_G_end 6 = .ok (.aload_n 2, 1) := by decide +kernel
theorem d_G_end_7 : decode b_G_end 7 = .ok (.getfield 106, 3) := by decide +kernel
theorem d_G_end_10 : decode b_G_end 10 = .ok (.iconst 3, 1) := by decide +kernel
theorem d_G_end_11 : decode b_G_end 11 = .ok (.if_icmp .eq 14, 3) := by decide +kernel
theorem d_G_end_14 : decode b_G_end 14 = .ok (.aload_n 2, 1) := by decide +kernel
theorem d_G_end_15 : decode b_G_end 15 = .ok (.invokevirtual 186, 3) := by decide +kernel
theorem d_G_end_18 : decode b_G_end 18 = .ok (.ifCond .eq 7, 3) := by decide +kernel
theorem d_G_end_21 : decode b_G_end 21 = .ok (.iconst 1, 1) := by decide +kernel
theorem d_G_end_22 : decode b_G_end 22 = .ok (.goto 4, 3) := by decide +kernel
theorem d_G_end_25 : decode b_G_end 25 = .ok (.iconst 0, 1) := by decide +kernel
theorem d_G_end_26 : decode b_G_end 26 = .ok (.invokestatic 46, 3) := by decide +kernel
theorem d_G_end_29 : decode b_G_end 29 = .ok (.aload_n 2, 1) := by decide +kernel
theorem d_G_end_30 : decode b_G_end 30 = .ok (.iconst 0, 1) := by decide +kernel
theorem d_G_end_31 : decode b_G_end 31 = .ok (.putfield 106, 3) := by decide +kernel
theorem d_G_end_34 : decode b_G_end 34 = .ok (.aload_n 2, 1) := by decide +kernel
theorem d_G_end_35 : decode b_G_end 35 = .ok (.iconst 0, 1) := by decide +kernel
theorem d_G_end_36 : decode b_G_end 36 = .ok (.putfield 189, 3) := by decide +kernel
theorem d_G_end_39 : decode b_G_end 39 = .ok (.aload_n 0, 1) := by decide +kernel
theorem d_G_end_40 : decode b_G_end 40 = .ok (.iload_n 1, 1) := by decide +kernel
theorem d_G_end_41 : decode b_G_end 41 = .ok (.invokevirtual 192, 3) := by decide +kernel
theorem d_G_end_44 : decode b_G_end 44 = .ok (.iconst 0, 1) := by decide +kernel
theorem d_G_end_45 : decode b_G_end 45 = .ok (.ireturn, 1) := by decide +kernel
theorem gl_G_192 : ∀ w ∈ wsV "TrainGuard" 192 "TrainGuard" y_G_holdOwnPlacesOnly (Cond.code y_G_holdOwnPlacesOnly b_G_holdOwnPlacesOnly 3 none :: tG), w ∈ tG := by
  intro x hx
  simp only [wsV, List.cons_append, List.nil_append, List.mem_cons] at hx
  rcases hx with rfl | rfl | rfl | rfl | rfl | hx
  · exact wd_549
  · exact wd_551
  · exact ws_16
  · exact wd_1
  · exact wd_552
  · exact hx
def w_G_end_26 (S : SC) (y1 : Int32) (i2 : Nat) (ys0 : Int32) (Q : Int32 → SC → Prop) (X : Nat → SC → Prop) : Prop := ((ys0 = 0) → X 3 S) ∧ ((¬ ys0 = 0) → ((fun S5 => w_G_holdOwnPlacesOnly (pI (pI S5 9 i2 0) 7 i2 0) y1 (fun S6 => Q 0 S6)) S))
def w_G_end_25 (S : SC) (y1 : Int32) (i2 : Nat) (Q : Int32 → SC → Prop) (X : Nat → SC → Prop) : Prop := w_G_end_26 S y1 i2 0 Q X
def w_G_end (S : SC) (x1 : Int32) (Q : Int32 → SC → Prop) (X : Nat → SC → Prop) : Prop := w_G_trainNumbered S x1 (fun j1 S2 => (((S2.1 9 j1) = 3) → (w_G_end_25 S2 x1 j1 Q X)) ∧ ((¬ (S2.1 9 j1) = 3) → (w_T_stands S2 j1 (fun r3 S4 => ((r3 = 0) → (w_G_end_25 S4 x1 j1 Q X)) ∧ ((¬ r3 = 0) → (w_G_end_26 S4 x1 j1 1 Q X)))))) X
set_option maxRecDepth 100000 in
set_option maxHeartbeats 4000000 in
theorem c_G_end (l : Launch) (hl0 : l.stackTraces = false) (D : va_G) (ca : Nat → ClassId) (ad : Nat → Nat) (sz : Nat) (S : SC) (x1 : Int32)  (Q : Int32 → SC → Prop) (X : Nat → SC → Prop) (h : w_G_end S x1 Q X) : vx_Met l y_G_end (Cond.code y_G_end b_G_end 3 (some Jvm.ClassFile.FieldType.int) :: tG) ({ frames := 8, cells := 2, slots := 12, locals := 122 } : Room) (xPx D ca (wC ca ad) S sz [.ref (ad 0), .int x1]) (va_Qi Q (xAt D (wC ca ad) (va_A (wC ca ad S) sz)) (va_A (wC ca ad S) sz)) (xXf X D (wC ca ad) (va_A (wC ca ad S) sz)) 2 12 (va_A (wC ca ad S) sz) := by
  refine xx_mex (Qf := fun A => va_Qi Q (xAt D (wC ca ad) A) A) (Xf := fun A => xXf X D (wC ca ad) A) (by decide) (Nat.le_of_ble_eq_true rfl) ?_
  intro p e s m args below meth c A ls hx hb hr hw hown hlocks hml hK hN hA hP hD hS hl hZ hout hX
  have hown : s.vm.findClass "TrainGuard" = some m.cls := hown
  have hl : lv_has ls 3 [(0, .ref (ad 0)), (1, .int x1)] := hl
  unfold w_G_end at h
  have bk_26 : ∀ (S : SC) (y1 : Int32) (i2 : Nat) (ys0 : Int32) (H : Heap) (locs : List Loc) (hi2 : i2 < 3), va_P D cls (wC ca ad S) H → va_D A (wC ca ad S) → va_S A s.heap H locs → ∀ (ls : Array Slot), lv_has ls 3 [(0, .ref (ad 0)), (1, .int y1), (2, .ref (ad (9 + i2)))] → w_G_end_26 S y1 i2 ys0 Q X → W p l e ({ frames := 8, cells := 2, slots := 12, locals := 122 } : Room) s m args below meth c H locs 1 6 (vx_MQ below ((fun A => va_Qi Q (xAt D (wC ca ad) A) A) A) ((fun A => xXf X D (wC ca ad) A) A) args s 2 12 A) (F0 m 26 ls [.int ys0]) := by
    intro S y1 i2 ys0 H locs hi2 hP hD hS ls hl h
    unfold w_G_end_26 at h
    by_cases hz : ys0 = 0
    · replace h := h.1 hz
      exact xx_thr (vx_runS (As := [.int ys0]) (rest := []) ⟨hx, hb, hml, hown, hw⟩ (c_G_demandState_no l hl0 D ca ad H.size S ys0 hz X h) (cwS 1 hw (tG_g gl_G_46) rfl rfl rfl (by decide +kernel) ⟨Nat.le_of_ble_eq_true rfl, Nat.le_of_ble_eq_true rfl⟩) ⟨xPx.blind, xPx.pre hK hN hP hD hX (hZ.now hS hA hD)⟩ rfl rfl hl.1 rfl (lv_room (Nat.le_of_ble_eq_true rfl)) d_G_end_26 ⟨Nat.le_of_ble_eq_true rfl, Nat.le_of_ble_eq_true rfl⟩) hD hS hA hout hlocks (Nat.le_of_ble_eq_true rfl) (Nat.le_of_ble_eq_true rfl)
    replace h := h.2 hz
    refine xx_callv (va_runS (As := [.int ys0]) (rest := []) ⟨hx, hb, hml, hown, hw⟩ (c_G_demandState_ok l D ca ad H.size S ys0 hz (fun S5 => w_G_holdOwnPlacesOnly (pI (pI S5 9 i2 0) 7 i2 0) y1 (fun S6 => Q 0 S6)) h) (cwS 1 hw (tG_g gl_G_46) rfl rfl rfl (by decide +kernel) ⟨Nat.le_of_ble_eq_true rfl, Nat.le_of_ble_eq_true rfl⟩) ⟨xPc.blind, xPc.pre hK hN hP hD⟩ rfl rfl hl.1 rfl (lv_room (Nat.le_of_ble_eq_true rfl)) d_G_end_26 ⟨Nat.le_of_ble_eq_true rfl, Nat.le_of_ble_eq_true rfl⟩) hD hS hA (fun S5 H locs h hP hD hS => ?_)
    refine lv_aload_n hx hb d_G_end_29 rfl (lv_at hl 2 rfl) ?_
    refine lv_iconst (v := 0) hx hb d_G_end_30 (by decide) ?_
    refine va_putN (D := D) (ci := 2) (v := .int 0) (ty := .int) (C := Rc_T) (T := Fc_T) (N := 11) hx hb hw inc_T tc_T tc_T_ok nc_T hown hK hP hD hS (9 + i2) (wC_T hi2) rfl 10 (by decide) (nw_108 hN) (fun _ h9 => h9) rfl (by decide +kernel) rfl rfl (Nat.le_of_ble_eq_true rfl) d_G_end_31 (fun H locs hP hD hS => ?_)
    rw [pt_T_mode hi2] at hP hD
    refine lv_aload_n hx hb d_G_end_34 rfl (lv_at hl 2 rfl) ?_
    refine lv_iconst (v := 0) hx hb d_G_end_35 (by decide) ?_
    refine va_putN (D := D) (ci := 2) (v := .int 0) (ty := .boolean) (C := Rc_T) (T := Fc_T) (N := 11) hx hb hw inc_T tc_T tc_T_ok nc_T hown hK hP hD hS (9 + i2) (wC_T hi2) rfl 8 (by decide) (nw_104 hN) (fun _ h9 => h9) rfl (by decide +kernel) rfl rfl (Nat.le_of_ble_eq_true rfl) d_G_end_36 (fun H locs hP hD hS => ?_)
    rw [pt_T_hasAuthority hi2] at hP hD
    refine lv_aload_n hx hb d_G_end_39 rfl (lv_at hl 0 rfl) ?_
    refine lv_iload_n hx hb d_G_end_40 rfl (lv_at hl 1 rfl) ?_
    refine xx_callv (va_runV (As := [.int y1]) (rest := []) ⟨hx, hb, hml, hown, hw⟩ (c_G_holdOwnPlacesOnly l D ca ad H.size (pI (pI S5 9 i2 0) 7 i2 0) y1 _ h) (cwV 1 hw (tG_g gl_G_192) rfl rfl rfl (by decide +kernel) ⟨Nat.le_of_ble_eq_true rfl, Nat.le_of_ble_eq_true rfl⟩) ⟨xPc.blind, va_recv hK hP rfl (q0 := 0) rfl, xPc.pre hK hN hP hD⟩ rfl rfl hl.1 rfl (lv_room (Nat.le_of_ble_eq_true rfl)) d_G_end_41 ⟨Nat.le_of_ble_eq_true rfl, Nat.le_of_ble_eq_true rfl⟩) hD hS hA (fun S6 H locs h hP hD hS => ?_)
    refine lv_iconst (v := 0) hx hb d_G_end_44 (by decide) ?_
    refine vx_ret ?_
    refine W.widen (k := 2) (n := 12) (by omega) (by omega) ?_
    exact W.iret (v := 0) hx hb hr (fun t ht hW => ⟨⟨0, S6, rfl, h, by rw [ht]; exact hP, hD⟩, hS.F ht⟩) hS.2.2 d_G_end_45
  have bk_25 : ∀ (S : SC) (y1 : Int32) (i2 : Nat) (H : Heap) (locs : List Loc) (hi2 : i2 < 3), va_P D cls (wC ca ad S) H → va_D A (wC ca ad S) → va_S A s.heap H locs → ∀ (ls : Array Slot), lv_has ls 3 [(0, .ref (ad 0)), (1, .int y1), (2, .ref (ad (9 + i2)))] → w_G_end_25 S y1 i2 Q X → W p l e ({ frames := 8, cells := 2, slots := 12, locals := 122 } : Room) s m args below meth c H locs 1 6 (vx_MQ below ((fun A => va_Qi Q (xAt D (wC ca ad) A) A) A) ((fun A => xXf X D (wC ca ad) A) A) args s 2 12 A) (F0 m 25 ls []) := by
    intro S y1 i2 H locs hi2 hP hD hS ls hl h
    unfold w_G_end_25 at h
    refine lv_iconst (v := 0) hx hb d_G_end_25 (by decide) ?_
    exact bk_26 S y1 i2 0 H locs hi2 hP hD hS ls (lv_sub hl [0, 1, 2] rfl) h
  have hH9 : ∀ H : Heap, H = s.heap → va_P D cls (wC ca ad S) H → va_S A s.heap H [] → W p l e ({ frames := 8, cells := 2, slots := 12, locals := 122 } : Room) s m args below meth c H [] 0 0 (vx_MQ below ((fun A => va_Qi Q (xAt D (wC ca ad) A) A) A) ((fun A => xXf X D (wC ca ad) A) A) args s 2 12 A) (F0 m 0 ls []) := by
    clear hP hS
    intro H hH hP hS
    obtain ⟨locs, hlo⟩ : ∃ z : List Loc, z = [] := ⟨_, rfl⟩
    rw [← hlo] at hS ⊢
    refine lv_aload_n hx hb d_G_end_0 rfl (lv_at hl 0 rfl) ?_
    refine lv_iload_n hx hb d_G_end_1 rfl (lv_at hl 1 rfl) ?_
    refine xx_calr (vx_runV (As := [.int x1]) (rest := []) ⟨hx, hb, hml, hown, hw⟩ (c_G_trainNumbered l hl0 D ca ad H.size S x1 _ _ h) (cwV 1 hw (tG_g gl_G_102) rfl rfl rfl (by decide +kernel) ⟨Nat.le_of_ble_eq_true rfl, Nat.le_of_ble_eq_true rfl⟩) ⟨xPx.blind, va_recv hK hP rfl (q0 := 0) rfl, xPx.pre hK hN hP hD hX (hZ.now hS hA hD)⟩ rfl rfl hl.1 rfl (lv_room (Nat.le_of_ble_eq_true rfl)) d_G_end_2 ⟨Nat.le_of_ble_eq_true rfl, Nat.le_of_ble_eq_true rfl⟩) hD hS hA hout hlocks (Nat.le_of_ble_eq_true rfl) (Nat.le_of_ble_eq_true rfl) (fun j1 S2 H locs hj1 h hP hD hS => ?_)
    refine lv_astore_n (lv' := [(2, .ref (ad (9 + j1))), (0, .ref (ad 0)), (1, .int x1)]) hx hb d_G_end_5 rfl hl (by decide) rfl (fun ls hl => ?_)
    refine lv_aload_n hx hb d_G_end_6 rfl (lv_at hl 0 rfl) ?_
    refine va_getN (D := D) (ci := 2) (v := .int (S2.1 9 j1)) (C := Rc_T) (T := Fc_T) (N := 11) hx hb hw inc_T hown hK hP (9 + j1) (wC_T hj1) rfl 10 (by decide) (nw_108 hN) (fun _ h9 => h9) rfl d_G_end_7 ?_
    refine lv_iconst (v := 3) hx hb d_G_end_10 (by decide) ?_
    refine lv_icmp_eq (tgt := 25) hx hb d_G_end_11 (by decide) (fun hc => ?_) (fun hc => ?_)
    · replace h := h.1 hc
      exact bk_25 S2 x1 j1 H locs hj1 hP hD hS ls (lv_sub hl [1, 2, 0] rfl) h
    · replace h := h.2 hc
      refine lv_aload_n hx hb d_G_end_14 rfl (lv_at hl 0 rfl) ?_
      refine xx_calli (va_runV (As := []) (rest := []) ⟨hx, hb, hml, hown, hw⟩ (c_T_stands l D ca ad H.size S2 j1 hj1 _ h) (cwV 0 hw (tG_g gl_G_186) rfl rfl rfl (by decide +kernel) ⟨Nat.le_of_ble_eq_true rfl, Nat.le_of_ble_eq_true rfl⟩) ⟨xPc.blind, va_recv hK hP rfl (wC_T hj1), xPc.pre hK hN hP hD⟩ rfl rfl hl.1 rfl (lv_room (Nat.le_of_ble_eq_true rfl)) d_G_end_15 ⟨Nat.le_of_ble_eq_true rfl, Nat.le_of_ble_eq_true rfl⟩) hD hS hA (fun r3 S4 H locs h hP hD hS => ?_)
      refine lv_if_eq (tgt := 25) hx hb d_G_end_18 (by decide) (fun hc => ?_) (fun hc => ?_)
      · replace h := h.1 hc
        exact bk_25 S4 x1 j1 H locs hj1 hP hD hS ls (lv_sub hl [1, 2, 0] rfl) h
      · replace h := h.2 hc
        refine lv_iconst (v := 1) hx hb d_G_end_21 (by decide) ?_
        refine lv_goto (tgt := 26) hx hb d_G_end_22 (by decide) ?_
        exact bk_26 S4 x1 j1 1 H locs hj1 hP hD hS ls (lv_sub hl [1, 2, 0] rfl) h
  exact hH9 _ rfl hP hS
theorem d_G_of_0 : decode b_G_of 0 = .ok (.aload_n 0, 1) := by decide +kernel
theorem d_G_of_1 : decode b_G_of 1 = .ok (.iload_n 1, 1) := by decide +kernel
theorem d_G_of_2 : decode b_G_of 2 = .ok (.invokevirtual 102, 3) := by decide +kernel
theorem d_G_of_5 : decode b_G_of 5 = .ok (.astore_n 3, 1) := by decide +kernel
theorem d_G_of_6 : decode b_G_of 6 = .ok (.iload_n 2, 1) := by decide +kernel
theorem d_G_of_7 : decode b_G_of 7 = .ok (.ifCond .lt 12, 3) := by decide +kernel
theorem d_G_of_10 : decode b_G_of 10 = .ok (.iload_n 2, 1) := by decide +kernel
theorem d_G_of_11 : decode b_G_of 11 = .ok (.iconst 5, 1) := by decide +kernel
theorem d_G_of_12 : decode b_G_of 12 = .ok (.if_icmp .gt 7, 3) := by decide +kernel
theorem d_G_of_15 : decode b_G_of 15 = .ok (.iconst 1, 1) := by decide +kernel
theorem d_G_of_16 : decode b_G_of 16 = .ok (.goto 4, 3) := by decide +kernel
theorem d_G_of_19 : decode b_G_of 19 = .ok (.iconst 0, 1) := by decide +kernel
theorem d_G_of_20 : decode b_G_of 20 = .ok (.invokestatic 35, 3) := by decide +kernel
theorem d_G_of_23 : decode b_G_of 23 = .ok (.iload_n 2, 1) := by decide +kernel
theorem d_G_of_24 : decode b_G_of 24 = .ok (.tableswitch 74 0 4 #[36, 41, 46, 51, 56], 36) := by decide +kernel
theorem d_G_of_60 : decode b_G_of 60 = .ok (.aload_n 3, 1) := by decide +kernel
theorem d_G_of_61 : decode b_G_of 61 = .ok (.getfield 196, 3) := by decide +kernel
theorem d_G_of_64 : decode b_G_of 64 = .ok (.dreturn, 1) := by decide +kernel
theorem d_G_of_65 : decode b_G_of 65 = .ok (.aload_n 3, 1) := by decide +kernel
theorem d_G_of_66 : decode b_G_of 66 = .ok (.getfield 199, 3) := by decide +kernel
theorem d_G_of_69 : decode b_G_of 69 = .ok (.dreturn, 1) := by decide +kernel
theorem d_G_of_70 : decode b_G_of 70 = .ok (.aload_n 3, 1) := by decide +kernel
theorem d_G_of_71 : decode b_G_of 71 = .ok (.getfield 202, 3) := by decide +kernel
theorem d_G_of_74 : decode b_G_of 74 = .ok (.dreturn, 1) := by decide +kernel
theorem d_G_of_75 : decode b_G_of 75 = .ok (.aload_n 3, 1) := by decide +kernel
theorem d_G_of_76 : decode b_G_of 76 = .ok (.getfield 205, 3) := by decide +kernel
theorem d_G_of_79 : decode b_G_of 79 = .ok (.dreturn, 1) := by decide +kernel
theorem d_G_of_80 : decode b_G_of 80 = .ok (.aload_n 3, 1) := by decide +kernel
theorem d_G_of_81 : decode b_G_of 81 = .ok (.getfield 189, 3) := by decide +kernel
theorem d_G_of_84 : decode b_G_of 84 = .ok (.ifCond .eq 10, 3) := by decide +kernel
theorem d_G_of_87 : decode b_G_of 87 = .ok (.aload_n 3, 1) := by decide +kernel
theorem d_G_of_88 : decode b_G_of 88 = .ok (.getfield 208, 3) := by decide +kernel
theorem d_G_of_91 : decode b_G_of 91 = .ok (.goto 6, 3) := by decide +kernel
theorem d_G_of_94 : decode b_G_of 94 = .ok (.ldc2_w 211, 3) := by decide +kernel
theorem d_G_of_97 : decode b_G_of 97 = .ok (.dreturn, 1) := by decide +kernel
theorem d_G_of_98 : decode b_G_of 98 = .ok (.aload_n 3, 1) := by decide +kernel
theorem d_G_of_99 : decode b_G_of 99 = .ok (.aload_n 3, 1) := by decide +kernel
theorem d_G_of_100 : decode b_G_of 100 = .ok (.getfield 205, 3) := by decide +kernel
theorem d_G_of_103 : decode b_G_of 103 = .ok (.dconst 0, 1) := by decide +kernel
theorem d_G_of_104 : decode b_G_of 104 = .ok (.invokevirtual 213, 3) := by decide +kernel
theorem d_G_of_107 : decode b_G_of 107 = .ok (.dreturn, 1) := by decide +kernel
theorem gl_G_213 : ∀ w ∈ wsV "TrainGuard" 213 "TrainGuard$Train" y_T_brakingWay (Cond.code y_T_brakingWay b_T_brakingWay 12 (some Jvm.ClassFile.FieldType.double) :: tG), w ∈ tG := by
  intro x hx
  simp only [wsV, List.cons_append, List.nil_append, List.mem_cons] at hx
  rcases hx with rfl | rfl | rfl | rfl | rfl | hx
  · exact wd_561
  · exact wd_382
  · exact wd_383
  · exact wd_3
  · exact wd_384
  · exact hx
def w_G_of_20 (S : SC) (y2 : Int32) (i3 : Nat) (ys0 : Int32) (Q : UInt64 → SC → Prop) (X : Nat → SC → Prop) : Prop := ((ys0 = 0) → X 1 S) ∧ ((¬ ys0 = 0) → ((fun S3 => ((y2 = 0) → (Q (S3.2 8 i3) S3)) ∧ ((y2 = 1) → (Q (S3.2 9 i3) S3)) ∧ ((y2 = 2) → (Q (S3.2 10 i3) S3)) ∧ ((y2 = 3) → (Q (S3.2 7 i3) S3)) ∧ ((y2 = 4) → ((((S3.1 7 i3) = 0) → (Q (13830554455654793216 : UInt64) S3)) ∧ ((¬ (S3.1 7 i3) = 0) → (Q (S3.2 11 i3) S3)))) ∧ ((¬ y2 = 0 ∧ ¬ y2 = 1 ∧ ¬ y2 = 2 ∧ ¬ y2 = 3 ∧ ¬ y2 = 4) → (w_T_brakingWay S3 i3 (S3.2 7 i3) FP.dconst0 (fun r4 S5 => Q r4 S5)))) S))
def w_G_of_19 (S : SC) (y2 : Int32) (i3 : Nat) (Q : UInt64 → SC → Prop) (X : Nat → SC → Prop) : Prop := w_G_of_20 S y2 i3 0 Q X
def w_G_of (S : SC) (x1 : Int32) (x2 : Int32) (Q : UInt64 → SC → Prop) (X : Nat → SC → Prop) : Prop := w_G_trainNumbered S x1 (fun j1 S2 => ((x2 < 0) → (w_G_of_19 S2 x2 j1 Q X)) ∧ ((¬ x2 < 0) → (((5 < x2) → (w_G_of_19 S2 x2 j1 Q X)) ∧ ((¬ 5 < x2) → (w_G_of_20 S2 x2 j1 1 Q X))))) X
set_option maxRecDepth 100000 in
set_option maxHeartbeats 4000000 in
theorem c_G_of (l : Launch) (hl0 : l.stackTraces = false) (D : va_G) (ca : Nat → ClassId) (ad : Nat → Nat) (sz : Nat) (S : SC) (x1 : Int32) (x2 : Int32)  (Q : UInt64 → SC → Prop) (X : Nat → SC → Prop) (h : w_G_of S x1 x2 Q X) : vx_Met l y_G_of (Cond.code y_G_of b_G_of 4 (some Jvm.ClassFile.FieldType.double) :: tG) ({ frames := 8, cells := 2, slots := 12, locals := 122 } : Room) (xPx D ca (wC ca ad) S sz [.ref (ad 0), .int x1, .int x2]) (va_Qd Q (xAt D (wC ca ad) (va_A (wC ca ad S) sz)) (va_A (wC ca ad S) sz)) (xXf X D (wC ca ad) (va_A (wC ca ad S) sz)) 2 12 (va_A (wC ca ad S) sz) := by
  refine xx_mex (Qf := fun A => va_Qd Q (xAt D (wC ca ad) A) A) (Xf := fun A => xXf X D (wC ca ad) A) (by decide) (Nat.le_of_ble_eq_true rfl) ?_
  intro p e s m args below meth c A ls hx hb hr hw hown hlocks hml hK hN hA hP hD hS hl hZ hout hX
  have hown : s.vm.findClass "TrainGuard" = some m.cls := hown
  have hl : lv_has ls 4 [(0, .ref (ad 0)), (1, .int x1), (2, .int x2)] := hl
  unfold w_G_of at h
  have bk_20 : ∀ (S : SC) (y2 : Int32) (i3 : Nat) (ys0 : Int32) (H : Heap) (locs : List Loc) (hi3 : i3 < 3), va_P D cls (wC ca ad S) H → va_D A (wC ca ad S) → va_S A s.heap H locs → ∀ (ls : Array Slot), lv_has ls 4 [(2, .int y2), (3, .ref (ad (9 + i3)))] → w_G_of_20 S y2 i3 ys0 Q X → W p l e ({ frames := 8, cells := 2, slots := 12, locals := 122 } : Room) s m args below meth c H locs 1 6 (vx_MQ below ((fun A => va_Qd Q (xAt D (wC ca ad) A) A) A) ((fun A => xXf X D (wC ca ad) A) A) args s 2 12 A) (F0 m 20 ls [.int ys0]) := by
    intro S y2 i3 ys0 H locs hi3 hP hD hS ls hl h
    unfold w_G_of_20 at h
    by_cases hz : ys0 = 0
    · replace h := h.1 hz
      exact xx_thr (vx_runS (As := [.int ys0]) (rest := []) ⟨hx, hb, hml, hown, hw⟩ (c_G_demandArgument_no l hl0 D ca ad H.size S ys0 hz X h) (cwS 1 hw (tG_g gl_G_35) rfl rfl rfl (by decide +kernel) ⟨Nat.le_of_ble_eq_true rfl, Nat.le_of_ble_eq_true rfl⟩) ⟨xPx.blind, xPx.pre hK hN hP hD hX (hZ.now hS hA hD)⟩ rfl rfl hl.1 rfl (lv_room (Nat.le_of_ble_eq_true rfl)) d_G_of_20 ⟨Nat.le_of_ble_eq_true rfl, Nat.le_of_ble_eq_true rfl⟩) hD hS hA hout hlocks (Nat.le_of_ble_eq_true rfl) (Nat.le_of_ble_eq_true rfl)
    replace h := h.2 hz
    refine xx_callv (va_runS (As := [.int ys0]) (rest := []) ⟨hx, hb, hml, hown, hw⟩ (c_G_demandArgument_ok l D ca ad H.size S ys0 hz (fun S3 => ((y2 = 0) → (Q (S3.2 8 i3) S3)) ∧ ((y2 = 1) → (Q (S3.2 9 i3) S3)) ∧ ((y2 = 2) → (Q (S3.2 10 i3) S3)) ∧ ((y2 = 3) → (Q (S3.2 7 i3) S3)) ∧ ((y2 = 4) → ((((S3.1 7 i3) = 0) → (Q (13830554455654793216 : UInt64) S3)) ∧ ((¬ (S3.1 7 i3) = 0) → (Q (S3.2 11 i3) S3)))) ∧ ((¬ y2 = 0 ∧ ¬ y2 = 1 ∧ ¬ y2 = 2 ∧ ¬ y2 = 3 ∧ ¬ y2 = 4) → (w_T_brakingWay S3 i3 (S3.2 7 i3) FP.dconst0 (fun r4 S5 => Q r4 S5)))) h) (cwS 1 hw (tG_g gl_G_35) rfl rfl rfl (by decide +kernel) ⟨Nat.le_of_ble_eq_true rfl, Nat.le_of_ble_eq_true rfl⟩) ⟨xPc.blind, xPc.pre hK hN hP hD⟩ rfl rfl hl.1 rfl (lv_room (Nat.le_of_ble_eq_true rfl)) d_G_of_20 ⟨Nat.le_of_ble_eq_true rfl, Nat.le_of_ble_eq_true rfl⟩) hD hS hA (fun S3 H locs h hP hD hS => ?_)
    refine lv_iload_n hx hb d_G_of_23 rfl (lv_at hl 0 rfl) ?_
    by_cases hc0 : y2 = 0
    · replace h := h.1 hc0
      refine lv_tableIn (off := 36) (tgt := 60) hx hb d_G_of_24 (by rw [hc0]; decide) (by rw [hc0]; decide) (by rw [hc0]; rfl) (by decide) ?_
      refine lv_aload_n hx hb d_G_of_60 rfl (lv_at hl 1 rfl) ?_
      refine va_getN (D := D) (ci := 2) (v := .double (S3.2 8 i3)) (C := Rc_T) (T := Fc_T) (N := 11) hx hb hw inc_T hown hK hP (9 + i3) (wC_T hi3) rfl 4 (by decide) (nw_96 hN) (fun _ h9 => h9) rfl d_G_of_61 ?_
      refine vx_ret ?_
      refine W.widen (k := 2) (n := 12) (by omega) (by omega) ?_
      exact W.dret (v := (S3.2 8 i3)) hx hb hr (fun t ht hW => ⟨⟨S3.2 8 i3, S3, rfl, h, by rw [ht]; exact hP, hD⟩, hS.F ht⟩) hS.2.2 d_G_of_64
    by_cases hc1 : y2 = 1
    · replace h := h.2.1 hc1
      refine lv_tableIn (off := 41) (tgt := 65) hx hb d_G_of_24 (by rw [hc1]; decide) (by rw [hc1]; decide) (by rw [hc1]; rfl) (by decide) ?_
      refine lv_aload_n hx hb d_G_of_65 rfl (lv_at hl 1 rfl) ?_
      refine va_getN (D := D) (ci := 2) (v := .double (S3.2 9 i3)) (C := Rc_T) (T := Fc_T) (N := 11) hx hb hw inc_T hown hK hP (9 + i3) (wC_T hi3) rfl 5 (by decide) (nw_98 hN) (fun _ h9 => h9) rfl d_G_of_66 ?_
      refine vx_ret ?_
      refine W.widen (k := 2) (n := 12) (by omega) (by omega) ?_
      exact W.dret (v := (S3.2 9 i3)) hx hb hr (fun t ht hW => ⟨⟨S3.2 9 i3, S3, rfl, h, by rw [ht]; exact hP, hD⟩, hS.F ht⟩) hS.2.2 d_G_of_69
    by_cases hc2 : y2 = 2
    · replace h := h.2.2.1 hc2
      refine lv_tableIn (off := 46) (tgt := 70) hx hb d_G_of_24 (by rw [hc2]; decide) (by rw [hc2]; decide) (by rw [hc2]; rfl) (by decide) ?_
      refine lv_aload_n hx hb d_G_of_70 rfl (lv_at hl 1 rfl) ?_
      refine va_getN (D := D) (ci := 2) (v := .double (S3.2 10 i3)) (C := Rc_T) (T := Fc_T) (N := 11) hx hb hw inc_T hown hK hP (9 + i3) (wC_T hi3) rfl 6 (by decide) (nw_100 hN) (fun _ h9 => h9) rfl d_G_of_71 ?_
      refine vx_ret ?_
      refine W.widen (k := 2) (n := 12) (by omega) (by omega) ?_
      exact W.dret (v := (S3.2 10 i3)) hx hb hr (fun t ht hW => ⟨⟨S3.2 10 i3, S3, rfl, h, by rw [ht]; exact hP, hD⟩, hS.F ht⟩) hS.2.2 d_G_of_74
    by_cases hc3 : y2 = 3
    · replace h := h.2.2.2.1 hc3
      refine lv_tableIn (off := 51) (tgt := 75) hx hb d_G_of_24 (by rw [hc3]; decide) (by rw [hc3]; decide) (by rw [hc3]; rfl) (by decide) ?_
      refine lv_aload_n hx hb d_G_of_75 rfl (lv_at hl 1 rfl) ?_
      refine va_getN (D := D) (ci := 2) (v := .double (S3.2 7 i3)) (C := Rc_T) (T := Fc_T) (N := 11) hx hb hw inc_T hown hK hP (9 + i3) (wC_T hi3) rfl 3 (by decide) (nw_94 hN) (fun _ h9 => h9) rfl d_G_of_76 ?_
      refine vx_ret ?_
      refine W.widen (k := 2) (n := 12) (by omega) (by omega) ?_
      exact W.dret (v := (S3.2 7 i3)) hx hb hr (fun t ht hW => ⟨⟨S3.2 7 i3, S3, rfl, h, by rw [ht]; exact hP, hD⟩, hS.F ht⟩) hS.2.2 d_G_of_79
    by_cases hc4 : y2 = 4
    · replace h := h.2.2.2.2.1 hc4
      refine lv_tableIn (off := 56) (tgt := 80) hx hb d_G_of_24 (by rw [hc4]; decide) (by rw [hc4]; decide) (by rw [hc4]; rfl) (by decide) ?_
      refine lv_aload_n hx hb d_G_of_80 rfl (lv_at hl 1 rfl) ?_
      refine va_getN (D := D) (ci := 2) (v := .int (S3.1 7 i3)) (C := Rc_T) (T := Fc_T) (N := 11) hx hb hw inc_T hown hK hP (9 + i3) (wC_T hi3) rfl 8 (by decide) (nw_104 hN) (fun _ h9 => h9) rfl d_G_of_81 ?_
      refine lv_if_eq (tgt := 94) hx hb d_G_of_84 (by decide) (fun hc => ?_) (fun hc => ?_)
      · replace h := h.1 hc
        refine lv_ldc2d hx hb hown (hw _ wd_560) d_G_of_94 ?_
        refine vx_ret ?_
        refine W.widen (k := 2) (n := 12) (by omega) (by omega) ?_
        exact W.dret (v := (13830554455654793216 : UInt64)) hx hb hr (fun t ht hW => ⟨⟨(13830554455654793216 : UInt64), S3, rfl, h, by rw [ht]; exact hP, hD⟩, hS.F ht⟩) hS.2.2 d_G_of_97
      · replace h := h.2 hc
        refine lv_aload_n hx hb d_G_of_87 rfl (lv_at hl 1 rfl) ?_
        refine va_getN (D := D) (ci := 2) (v := .double (S3.2 11 i3)) (C := Rc_T) (T := Fc_T) (N := 11) hx hb hw inc_T hown hK hP (9 + i3) (wC_T hi3) rfl 7 (by decide) (nw_102 hN) (fun _ h9 => h9) rfl d_G_of_88 ?_
        refine lv_goto (tgt := 97) hx hb d_G_of_91 (by decide) ?_
        refine vx_ret ?_
        refine W.widen (k := 2) (n := 12) (by omega) (by omega) ?_
        exact W.dret (v := (S3.2 11 i3)) hx hb hr (fun t ht hW => ⟨⟨S3.2 11 i3, S3, rfl, h, by rw [ht]; exact hP, hD⟩, hS.F ht⟩) hS.2.2 d_G_of_97
    replace h := h.2.2.2.2.2 ⟨hc0, hc1, hc2, hc3, hc4⟩
    have hz0 := lv_neT (a := 0) hc0 rfl
    have hz1 := lv_neT (a := 1) hc1 rfl
    have hz2 := lv_neT (a := 2) hc2 rfl
    have hz3 := lv_neT (a := 3) hc3 rfl
    have hz4 := lv_neT (a := 4) hc4 rfl
    refine lv_tableOut (tgt := 98) hx hb d_G_of_24 (by omega) (by decide) ?_
    refine lv_aload_n hx hb d_G_of_98 rfl (lv_at hl 1 rfl) ?_
    refine lv_aload_n hx hb d_G_of_99 rfl (lv_at hl 1 rfl) ?_
    refine va_getN (D := D) (ci := 2) (v := .double (S3.2 7 i3)) (C := Rc_T) (T := Fc_T) (N := 11) hx hb hw inc_T hown hK hP (9 + i3) (wC_T hi3) rfl 3 (by decide) (nw_94 hN) (fun _ h9 => h9) rfl d_G_of_100 ?_
    refine lv_dconst0 hx hb d_G_of_103 ?_
    refine xx_calld (va_runV (As := [.double (S3.2 7 i3), .double FP.dconst0]) (rest := []) ⟨hx, hb, hml, hown, hw⟩ (c_T_brakingWay l D ca ad H.size S3 i3 (S3.2 7 i3) FP.dconst0 hi3 _ h) (cwV 2 hw (tG_g gl_G_213) rfl rfl rfl (by decide +kernel) ⟨Nat.le_of_ble_eq_true rfl, Nat.le_of_ble_eq_true rfl⟩) ⟨xPc.blind, va_recv hK hP rfl (wC_T hi3), xPc.pre hK hN hP hD⟩ rfl rfl hl.1 rfl (lv_room (Nat.le_of_ble_eq_true rfl)) d_G_of_104 ⟨Nat.le_of_ble_eq_true rfl, Nat.le_of_ble_eq_true rfl⟩) hD hS hA (fun r4 S5 H locs h hP hD hS => ?_)
    refine vx_ret ?_
    refine W.widen (k := 2) (n := 12) (by omega) (by omega) ?_
    exact W.dret (v := r4) hx hb hr (fun t ht hW => ⟨⟨r4, S5, rfl, h, by rw [ht]; exact hP, hD⟩, hS.F ht⟩) hS.2.2 d_G_of_107
  have bk_19 : ∀ (S : SC) (y2 : Int32) (i3 : Nat) (H : Heap) (locs : List Loc) (hi3 : i3 < 3), va_P D cls (wC ca ad S) H → va_D A (wC ca ad S) → va_S A s.heap H locs → ∀ (ls : Array Slot), lv_has ls 4 [(2, .int y2), (3, .ref (ad (9 + i3)))] → w_G_of_19 S y2 i3 Q X → W p l e ({ frames := 8, cells := 2, slots := 12, locals := 122 } : Room) s m args below meth c H locs 1 6 (vx_MQ below ((fun A => va_Qd Q (xAt D (wC ca ad) A) A) A) ((fun A => xXf X D (wC ca ad) A) A) args s 2 12 A) (F0 m 19 ls []) := by
    intro S y2 i3 H locs hi3 hP hD hS ls hl h
    unfold w_G_of_19 at h
    refine lv_iconst (v := 0) hx hb d_G_of_19 (by decide) ?_
    exact bk_20 S y2 i3 0 H locs hi3 hP hD hS ls (lv_sub hl [0, 1] rfl) h
  have hH9 : ∀ H : Heap, H = s.heap → va_P D cls (wC ca ad S) H → va_S A s.heap H [] → W p l e ({ frames := 8, cells := 2, slots := 12, locals := 122 } : Room) s m args below meth c H [] 0 0 (vx_MQ below ((fun A => va_Qd Q (xAt D (wC ca ad) A) A) A) ((fun A => xXf X D (wC ca ad) A) A) args s 2 12 A) (F0 m 0 ls []) := by
    clear hP hS
    intro H hH hP hS
    obtain ⟨locs, hlo⟩ : ∃ z : List Loc, z = [] := ⟨_, rfl⟩
    rw [← hlo] at hS ⊢
    refine lv_aload_n hx hb d_G_of_0 rfl (lv_at hl 0 rfl) ?_
    refine lv_iload_n hx hb d_G_of_1 rfl (lv_at hl 1 rfl) ?_
    refine xx_calr (vx_runV (As := [.int x1]) (rest := []) ⟨hx, hb, hml, hown, hw⟩ (c_G_trainNumbered l hl0 D ca ad H.size S x1 _ _ h) (cwV 1 hw (tG_g gl_G_102) rfl rfl rfl (by decide +kernel) ⟨Nat.le_of_ble_eq_true rfl, Nat.le_of_ble_eq_true rfl⟩) ⟨xPx.blind, va_recv hK hP rfl (q0 := 0) rfl, xPx.pre hK hN hP hD hX (hZ.now hS hA hD)⟩ rfl rfl hl.1 rfl (lv_room (Nat.le_of_ble_eq_true rfl)) d_G_of_2 ⟨Nat.le_of_ble_eq_true rfl, Nat.le_of_ble_eq_true rfl⟩) hD hS hA hout hlocks (Nat.le_of_ble_eq_true rfl) (Nat.le_of_ble_eq_true rfl) (fun j1 S2 H locs hj1 h hP hD hS => ?_)
    refine lv_astore_n (lv' := [(3, .ref (ad (9 + j1))), (0, .ref (ad 0)), (1, .int x1), (2, .int x2)]) hx hb d_G_of_5 rfl hl (by decide) rfl (fun ls hl => ?_)
    refine lv_iload_n hx hb d_G_of_6 rfl (lv_at hl 3 rfl) ?_
    refine lv_if_lt (tgt := 19) hx hb d_G_of_7 (by decide) (fun hc => ?_) (fun hc => ?_)
    · replace h := h.1 hc
      exact bk_19 S2 x2 j1 H locs hj1 hP hD hS ls (lv_sub hl [3, 0] rfl) h
    · replace h := h.2 hc
      refine lv_iload_n hx hb d_G_of_10 rfl (lv_at hl 3 rfl) ?_
      refine lv_iconst (v := 5) hx hb d_G_of_11 (by decide) ?_
      refine lv_icmp_gt (tgt := 19) hx hb d_G_of_12 (by decide) (fun hc => ?_) (fun hc => ?_)
      · replace h := h.1 hc
        exact bk_19 S2 x2 j1 H locs hj1 hP hD hS ls (lv_sub hl [3, 0] rfl) h
      · replace h := h.2 hc
        refine lv_iconst (v := 1) hx hb d_G_of_15 (by decide) ?_
        refine lv_goto (tgt := 20) hx hb d_G_of_16 (by decide) ?_
        exact bk_20 S2 x2 j1 1 H locs hj1 hP hD hS ls (lv_sub hl [3, 0] rfl) h
  exact hH9 _ rfl hP hS
theorem d_G_mode_0 : decode b_G_mode 0 = .ok (.aload_n 0, 1) := by decide +kernel
theorem d_G_mode_1 : decode b_G_mode 1 = .ok (.iload_n 1, 1) := by decide +kernel
theorem d_G_mode_2 : decode b_G_mode 2 = .ok (.invokevirtual 102, 3) := by decide +kernel
theorem d_G_mode_5 : decode b_G_mode 5 = .ok (.getfield 106, 3) := by decide +kernel
theorem d_G_mode_8 : decode b_G_mode 8 = .ok (.ireturn, 1) := by decide +kernel
def w_G_mode (S : SC) (x1 : Int32) (Q : Int32 → SC → Prop) (X : Nat → SC → Prop) : Prop := w_G_trainNumbered S x1 (fun j1 S2 => Q (S2.1 9 j1) S2) X
set_option maxRecDepth 100000 in
set_option maxHeartbeats 4000000 in
theorem c_G_mode (l : Launch) (hl0 : l.stackTraces = false) (D : va_G) (ca : Nat → ClassId) (ad : Nat → Nat) (sz : Nat) (S : SC) (x1 : Int32)  (Q : Int32 → SC → Prop) (X : Nat → SC → Prop) (h : w_G_mode S x1 Q X) : vx_Met l y_G_mode (Cond.code y_G_mode b_G_mode 2 (some Jvm.ClassFile.FieldType.int) :: tG) ({ frames := 8, cells := 2, slots := 12, locals := 122 } : Room) (xPx D ca (wC ca ad) S sz [.ref (ad 0), .int x1]) (va_Qi Q (xAt D (wC ca ad) (va_A (wC ca ad S) sz)) (va_A (wC ca ad S) sz)) (xXf X D (wC ca ad) (va_A (wC ca ad S) sz)) 2 12 (va_A (wC ca ad S) sz) := by
  refine xx_mex (Qf := fun A => va_Qi Q (xAt D (wC ca ad) A) A) (Xf := fun A => xXf X D (wC ca ad) A) (by decide) (Nat.le_of_ble_eq_true rfl) ?_
  intro p e s m args below meth c A ls hx hb hr hw hown hlocks hml hK hN hA hP hD hS hl hZ hout hX
  have hown : s.vm.findClass "TrainGuard" = some m.cls := hown
  have hl : lv_has ls 2 [(0, .ref (ad 0)), (1, .int x1)] := hl
  unfold w_G_mode at h
  have hH9 : ∀ H : Heap, H = s.heap → va_P D cls (wC ca ad S) H → va_S A s.heap H [] → W p l e ({ frames := 8, cells := 2, slots := 12, locals := 122 } : Room) s m args below meth c H [] 0 0 (vx_MQ below ((fun A => va_Qi Q (xAt D (wC ca ad) A) A) A) ((fun A => xXf X D (wC ca ad) A) A) args s 2 12 A) (F0 m 0 ls []) := by
    clear hP hS
    intro H hH hP hS
    obtain ⟨locs, hlo⟩ : ∃ z : List Loc, z = [] := ⟨_, rfl⟩
    rw [← hlo] at hS ⊢
    refine lv_aload_n hx hb d_G_mode_0 rfl (lv_at hl 0 rfl) ?_
    refine lv_iload_n hx hb d_G_mode_1 rfl (lv_at hl 1 rfl) ?_
    refine xx_calr (vx_runV (As := [.int x1]) (rest := []) ⟨hx, hb, hml, hown, hw⟩ (c_G_trainNumbered l hl0 D ca ad H.size S x1 _ _ h) (cwV 1 hw (tG_g gl_G_102) rfl rfl rfl (by decide +kernel) ⟨Nat.le_of_ble_eq_true rfl, Nat.le_of_ble_eq_true rfl⟩) ⟨xPx.blind, va_recv hK hP rfl (q0 := 0) rfl, xPx.pre hK hN hP hD hX (hZ.now hS hA hD)⟩ rfl rfl hl.1 rfl (lv_room (Nat.le_of_ble_eq_true rfl)) d_G_mode_2 ⟨Nat.le_of_ble_eq_true rfl, Nat.le_of_ble_eq_true rfl⟩) hD hS hA hout hlocks (Nat.le_of_ble_eq_true rfl) (Nat.le_of_ble_eq_true rfl) (fun j1 S2 H locs hj1 h hP hD hS => ?_)
    refine va_getN (D := D) (ci := 2) (v := .int (S2.1 9 j1)) (C := Rc_T) (T := Fc_T) (N := 11) hx hb hw inc_T hown hK hP (9 + j1) (wC_T hj1) rfl 10 (by decide) (nw_108 hN) (fun _ h9 => h9) rfl d_G_mode_5 ?_
    refine vx_ret ?_
    refine W.widen (k := 2) (n := 12) (by omega) (by omega) ?_
    exact W.iret (v := (S2.1 9 j1)) hx hb hr (fun t ht hW => ⟨⟨S2.1 9 j1, S2, rfl, h, by rw [ht]; exact hP, hD⟩, hS.F ht⟩) hS.2.2 d_G_mode_8
  exact hH9 _ rfl hP hS
