theorem d_G_trainNumbered_0 : decode b_G_trainNumbered 0 = .ok (.iload_n 1, 1) := by decide +kernel
theorem d_G_trainNumbered_1 : decode b_G_trainNumbered 1 = .ok (.ifCond .lt 15, 3) := by decide +kernel
theorem d_G_trainNumbered_4 : decode b_G_trainNumbered 4 = .ok (.iload_n 1, 1) := by decide +kernel
theorem d_G_trainNumbered_5 : decode b_G_trainNumbered 5 = .ok (.aload_n 0, 1) := by decide +kernel
theorem d_G_trainNumbered_6 : decode b_G_trainNumbered 6 = .ok (.getfield 39, 3) := by decide +kernel
theorem d_G_trainNumbered_9 : decode b_G_trainNumbered 9 = .ok (.if_icmp .ge 7, 3) := by decide +kernel
theorem d_G_trainNumbered_12 : decode b_G_trainNumbered 12 = .ok (.iconst 1, 1) := by decide +kernel
theorem d_G_trainNumbered_13 : decode b_G_trainNumbered 13 = .ok (.goto 4, 3) := by decide +kernel
theorem d_G_trainNumbered_16 : decode b_G_trainNumbered 16 = .ok (.iconst 0, 1) := by decide +kernel
theorem d_G_trainNumbered_17 : decode b_G_trainNumbered 17 = .ok (.invokestatic 35, 3) := by decide +kernel
theorem d_G_trainNumbered_20 : decode b_G_trainNumbered 20 = .ok (.aload_n 0, 1) := by decide +kernel
theorem d_G_trainNumbered_21 : decode b_G_trainNumbered 21 = .ok (.getfield 18, 3) := by decide +kernel
theorem d_G_trainNumbered_24 : decode b_G_trainNumbered 24 = .ok (.iload_n 1, 1) := by decide +kernel
theorem d_G_trainNumbered_25 : decode b_G_trainNumbered 25 = .ok (.aaload, 1) := by decide +kernel
theorem d_G_trainNumbered_26 : decode b_G_trainNumbered 26 = .ok (.areturn, 1) := by decide +kernel
theorem gl_G_35 : ∀ w ∈ wsS "TrainGuard" 35 y_G_demandArgument (Cond.code y_G_demandArgument b_G_demandArgument 1 none :: tG), w ∈ tG := by
  intro x hx
  simp only [wsS, List.cons_append, List.nil_append, List.mem_cons] at hx
  rcases hx with rfl | rfl | rfl | rfl | hx
  · exact wd_175
  · exact wd_176
  · exact wd_1
  · exact wd_177
  · exact hx
def w_G_trainNumbered_17 (S : SC) (y1 : Int32) (ys0 : Int32) (Q : Nat → SC → Prop) (X : Nat → SC → Prop) : Prop := ((ys0 = 0) → X 1 S) ∧ ((¬ ys0 = 0) → ((fun S1 => vp_in y1 3 ∧ (y1.toNatClampNeg < 3) ∧ (Q y1.toNatClampNeg S1)) S))
def w_G_trainNumbered_16 (S : SC) (y1 : Int32) (Q : Nat → SC → Prop) (X : Nat → SC → Prop) : Prop := w_G_trainNumbered_17 S y1 0 Q X
def w_G_trainNumbered (S : SC) (x1 : Int32) (Q : Nat → SC → Prop) (X : Nat → SC → Prop) : Prop := ((x1 < 0) → (w_G_trainNumbered_16 S x1 Q X)) ∧ ((¬ x1 < 0) → ((((S.1 0 0) ≤ x1) → (w_G_trainNumbered_16 S x1 Q X)) ∧ ((¬ (S.1 0 0) ≤ x1) → (w_G_trainNumbered_17 S x1 1 Q X))))
set_option maxRecDepth 100000 in
set_option maxHeartbeats 4000000 in
theorem c_G_trainNumbered (l : Launch) (hl0 : l.stackTraces = false) (D : va_G) (ca : Nat → ClassId) (ad : Nat → Nat) (sz : Nat) (S : SC) (x1 : Int32)  (Q : Nat → SC → Prop) (X : Nat → SC → Prop) (h : w_G_trainNumbered S x1 Q X) : vx_Met l y_G_trainNumbered (Cond.code y_G_trainNumbered b_G_trainNumbered 2 (some (Jvm.ClassFile.FieldType.object "TrainGuard$Train")) :: tG) ({ frames := 7, cells := 1, slots := 6, locals := 101 } : Room) (xPx D ca (wC ca ad) S sz [.ref (ad 0), .int x1]) (va_Qr (fun u : Nat × SC => Q u.1 u.2) (xAr D (wC ca ad) ad (va_A (wC ca ad S) sz)) (va_A (wC ca ad S) sz)) (xXf X D (wC ca ad) (va_A (wC ca ad S) sz)) 1 6 (va_A (wC ca ad S) sz) := by
  refine xx_mex (Qf := fun A => va_Qr (fun u : Nat × SC => Q u.1 u.2) (xAr D (wC ca ad) ad A) A) (Xf := fun A => xXf X D (wC ca ad) A) (by decide) (Nat.le_of_ble_eq_true rfl) ?_
  intro p e s m args below meth c A ls hx hb hr hw hown hlocks hml hK hN hA hP hD hS hl hZ hout hX
  have hown : s.vm.findClass "TrainGuard" = some m.cls := hown
  have hl : lv_has ls 2 [(0, .ref (ad 0)), (1, .int x1)] := hl
  unfold w_G_trainNumbered at h
  have bk_17 : ∀ (S : SC) (y1 : Int32) (ys0 : Int32) (H : Heap) (locs : List Loc) , va_P D cls (wC ca ad S) H → va_D A (wC ca ad S) → va_S A s.heap H locs → ∀ (ls : Array Slot), lv_has ls 2 [(0, .ref (ad 0)), (1, .int y1)] → w_G_trainNumbered_17 S y1 ys0 Q X → W p l e ({ frames := 7, cells := 1, slots := 6, locals := 101 } : Room) s m args below meth c H locs 0 0 (vx_MQ below ((fun A => va_Qr (fun u : Nat × SC => Q u.1 u.2) (xAr D (wC ca ad) ad A) A) A) ((fun A => xXf X D (wC ca ad) A) A) args s 1 6 A) (F0 m 17 ls [.int ys0]) := by
    intro S y1 ys0 H locs hP hD hS ls hl h
    unfold w_G_trainNumbered_17 at h
    by_cases hz : ys0 = 0
    · replace h := h.1 hz
      exact xx_thr (vx_runS (As := [.int ys0]) (rest := []) ⟨hx, hb, hml, hown, hw⟩ (c_G_demandArgument_no l hl0 D ca ad H.size S ys0 hz X h) (cwS 1 hw (tG_g gl_G_35) rfl rfl rfl (by decide +kernel) ⟨Nat.le_of_ble_eq_true rfl, Nat.le_of_ble_eq_true rfl⟩) ⟨xPx.blind, xPx.pre hK hN hP hD hX (hZ.now hS hA hD)⟩ rfl rfl hl.1 rfl (lv_room (Nat.le_of_ble_eq_true rfl)) d_G_trainNumbered_17 ⟨Nat.le_of_ble_eq_true rfl, Nat.le_of_ble_eq_true rfl⟩) hD hS hA hout hlocks (Nat.le_of_ble_eq_true rfl) (Nat.le_of_ble_eq_true rfl)
    replace h := h.2 hz
    refine xx_callv (va_runS (As := [.int ys0]) (rest := []) ⟨hx, hb, hml, hown, hw⟩ (c_G_demandArgument_ok l D ca ad H.size S ys0 hz (fun S1 => vp_in y1 3 ∧ (y1.toNatClampNeg < 3) ∧ (Q y1.toNatClampNeg S1)) h) (cwS 1 hw (tG_g gl_G_35) rfl rfl rfl (by decide +kernel) ⟨Nat.le_of_ble_eq_true rfl, Nat.le_of_ble_eq_true rfl⟩) ⟨xPc.blind, xPc.pre hK hN hP hD⟩ rfl rfl hl.1 rfl (lv_room (Nat.le_of_ble_eq_true rfl)) d_G_trainNumbered_17 ⟨Nat.le_of_ble_eq_true rfl, Nat.le_of_ble_eq_true rfl⟩) hD hS hA (fun S1 H locs h hP hD hS => ?_)
    refine lv_aload_n hx hb d_G_trainNumbered_20 rfl (lv_at hl 0 rfl) ?_
    refine va_get (D := D) (ci := 3) (v := .ref (ad 8)) (C := Rc_G) (T := Fc_G) (N := 6) hx hb hw inc_G hown hK hP 0 rfl rfl 1 (by decide) (hw _ wd_133) (fun _ h9 => h9) rfl d_G_trainNumbered_21 ?_
    refine lv_iload_n hx hb d_G_trainNumbered_24 rfl (lv_at hl 1 rfl) ?_
    obtain ⟨hq, hj2, h⟩ := h
    refine va_aldq (D := D) hx hb hK hP 8 4 rfl rfl hq d_G_trainNumbered_25 ?_
    refine W.eq (g2 := F0 m 26 ls (.ref (ad (9 + y1.toNatClampNeg)) :: [])) rfl ?_
    refine vx_ret ?_
    refine W.widen (k := 1) (n := 6) (by omega) (by omega) ?_
    exact W.aret hx hb hr (Or.inl ⟨_, rfl⟩) (Or.inr ⟨_, rfl⟩) (fun t ht hW => ⟨⟨(y1.toNatClampNeg, S1), _, rfl, h, rfl, hj2, by rw [ht]; exact hP, hD⟩, hS.F ht⟩) hS.2.2 d_G_trainNumbered_26
  have bk_16 : ∀ (S : SC) (y1 : Int32) (H : Heap) (locs : List Loc) , va_P D cls (wC ca ad S) H → va_D A (wC ca ad S) → va_S A s.heap H locs → ∀ (ls : Array Slot), lv_has ls 2 [(0, .ref (ad 0)), (1, .int y1)] → w_G_trainNumbered_16 S y1 Q X → W p l e ({ frames := 7, cells := 1, slots := 6, locals := 101 } : Room) s m args below meth c H locs 0 0 (vx_MQ below ((fun A => va_Qr (fun u : Nat × SC => Q u.1 u.2) (xAr D (wC ca ad) ad A) A) A) ((fun A => xXf X D (wC ca ad) A) A) args s 1 6 A) (F0 m 16 ls []) := by
    intro S y1 H locs hP hD hS ls hl h
    unfold w_G_trainNumbered_16 at h
    refine lv_iconst (v := 0) hx hb d_G_trainNumbered_16 (by decide) ?_
    exact bk_17 S y1 0 H locs hP hD hS ls (lv_sub hl [0, 1] rfl) h
  have hH9 : ∀ H : Heap, H = s.heap → va_P D cls (wC ca ad S) H → va_S A s.heap H [] → W p l e ({ frames := 7, cells := 1, slots := 6, locals := 101 } : Room) s m args below meth c H [] 0 0 (vx_MQ below ((fun A => va_Qr (fun u : Nat × SC => Q u.1 u.2) (xAr D (wC ca ad) ad A) A) A) ((fun A => xXf X D (wC ca ad) A) A) args s 1 6 A) (F0 m 0 ls []) := by
    clear hP hS
    intro H hH hP hS
    obtain ⟨locs, hlo⟩ : ∃ z : List Loc, z = [] := ⟨_, rfl⟩
    rw [← hlo] at hS ⊢
    refine lv_iload_n hx hb d_G_trainNumbered_0 rfl (lv_at hl 1 rfl) ?_
    refine lv_if_lt (tgt := 16) hx hb d_G_trainNumbered_1 (by decide) (fun hc => ?_) (fun hc => ?_)
    · replace h := h.1 hc
      exact bk_16 S x1 H locs hP hD hS ls (lv_sub hl [0, 1] rfl) h
    · replace h := h.2 hc
      refine lv_iload_n hx hb d_G_trainNumbered_4 rfl (lv_at hl 1 rfl) ?_
      refine lv_aload_n hx hb d_G_trainNumbered_5 rfl (lv_at hl 0 rfl) ?_
      refine va_get (D := D) (ci := 3) (v := .int (S.1 0 0)) (C := Rc_G) (T := Fc_G) (N := 6) hx hb hw inc_G hown hK hP 0 rfl rfl 2 (by decide) (hw _ wd_134) (fun _ h9 => h9) rfl d_G_trainNumbered_6 ?_
      refine lv_icmp_ge (tgt := 16) hx hb d_G_trainNumbered_9 (by decide) (fun hc => ?_) (fun hc => ?_)
      · replace h := h.1 hc
        exact bk_16 S x1 H locs hP hD hS ls (lv_sub hl [0, 1] rfl) h
      · replace h := h.2 hc
        refine lv_iconst (v := 1) hx hb d_G_trainNumbered_12 (by decide) ?_
        refine lv_goto (tgt := 17) hx hb d_G_trainNumbered_13 (by decide) ?_
        exact bk_17 S x1 1 H locs hP hD hS ls (lv_sub hl [0, 1] rfl) h
  exact hH9 _ rfl hP hS
theorem d_G_section_0 : decode b_G_section 0 = .ok (.dload_n 1, 1) := by decide +kernel
theorem d_G_section_1 : decode b_G_section 1 = .ok (.ldc2_w 23, 3) := by decide +kernel
theorem d_G_section_4 : decode b_G_section 4 = .ok (.ldc2_w 25, 3) := by decide +kernel
theorem d_G_section_7 : decode b_G_section 7 = .ok (.invokestatic 27, 3) := by decide +kernel
theorem d_G_section_10 : decode b_G_section 10 = .ok (.ifCond .eq 14, 3) := by decide +kernel
theorem d_G_section_13 : decode b_G_section 13 = .ok (.dload_n 3, 1) := by decide +kernel
theorem d_G_section_14 : decode b_G_section 14 = .ok (.invokestatic 31, 3) := by decide +kernel
theorem d_G_section_17 : decode b_G_section 17 = .ok (.ifCond .eq 7, 3) := by decide +kernel
theorem d_G_section_20 : decode b_G_section 20 = .ok (.iconst 1, 1) := by decide +kernel
theorem d_G_section_21 : decode b_G_section 21 = .ok (.goto 4, 3) := by decide +kernel
theorem d_G_section_24 : decode b_G_section 24 = .ok (.iconst 0, 1) := by decide +kernel
theorem d_G_section_25 : decode b_G_section 25 = .ok (.invokestatic 35, 3) := by decide +kernel
theorem d_G_section_28 : decode b_G_section 28 = .ok (.aload_n 0, 1) := by decide +kernel
theorem d_G_section_29 : decode b_G_section 29 = .ok (.getfield 39, 3) := by decide +kernel
theorem d_G_section_32 : decode b_G_section 32 = .ok (.ifCond .ne 19, 3) := by decide +kernel
theorem d_G_section_35 : decode b_G_section 35 = .ok (.aload_n 0, 1) := by decide +kernel
theorem d_G_section_36 : decode b_G_section 36 = .ok (.getfield 10, 3) := by decide +kernel
theorem d_G_section_39 : decode b_G_section 39 = .ok (.getfield 43, 3) := by decide +kernel
theorem d_G_section_42 : decode b_G_section 42 = .ok (.bipush 10, 2) := by decide +kernel
theorem d_G_section_44 : decode b_G_section 44 = .ok (.if_icmp .ge 7, 3) := by decide +kernel
theorem d_G_section_47 : decode b_G_section 47 = .ok (.iconst 1, 1) := by decide +kernel
theorem d_G_section_48 : decode b_G_section 48 = .ok (.goto 4, 3) := by decide +kernel
theorem d_G_section_51 : decode b_G_section 51 = .ok (.iconst 0, 1) := by decide +kernel
theorem d_G_section_52 : decode b_G_section 52 = .ok (.invokestatic 46, 3) := by decide +kernel
theorem d_G_section_55 : decode b_G_section 55 = .ok (.aload_n 0, 1) := by decide +kernel
theorem d_G_section_56 : decode b_G_section 56 = .ok (.getfield 10, 3) := by decide +kernel
theorem d_G_section_59 : decode b_G_section 59 = .ok (.dload_n 1, 1) := by decide +kernel
theorem d_G_section_60 : decode b_G_section 60 = .ok (.dload_n 3, 1) := by decide +kernel
theorem d_G_section_61 : decode b_G_section 61 = .ok (.invokevirtual 49, 3) := by decide +kernel
theorem d_G_section_64 : decode b_G_section 64 = .ok (.ireturn, 1) := by decide +kernel
theorem gl_G_31 : ∀ w ∈ wsS "TrainGuard" 31 y_G_isSpeed (Cond.code y_G_isSpeed b_G_isSpeed 2 (some Jvm.ClassFile.FieldType.boolean) :: tG), w ∈ tG := by
  intro x hx
  simp only [wsS, List.cons_append, List.nil_append, List.mem_cons] at hx
  rcases hx with rfl | rfl | rfl | rfl | hx
  · exact wd_171
  · exact wd_172
  · exact wd_1
  · exact wd_173
  · exact hx
theorem gl_G_46 : ∀ w ∈ wsS "TrainGuard" 46 y_G_demandState (Cond.code y_G_demandState b_G_demandState 1 none :: tG), w ∈ tG := by
  intro x hx
  simp only [wsS, List.cons_append, List.nil_append, List.mem_cons] at hx
  rcases hx with rfl | rfl | rfl | rfl | hx
  · exact wd_242
  · exact wd_243
  · exact wd_1
  · exact wd_244
  · exact hx
theorem gl_G_49 : ∀ w ∈ wsV "TrainGuard" 49 "TrainGuard$Line" y_L_addSection (Cond.code y_L_addSection b_L_addSection 6 (some Jvm.ClassFile.FieldType.int) :: tG), w ∈ tG := by
  intro x hx
  simp only [wsV, List.cons_append, List.nil_append, List.mem_cons] at hx
  rcases hx with rfl | rfl | rfl | rfl | rfl | hx
  · exact wd_260
  · exact wd_261
  · exact wd_262
  · exact wd_2
  · exact wd_263
  · exact hx
def w_G_section_52 (S : SC) (y1 : UInt64) (y3 : UInt64) (ys0 : Int32) (Q : Int32 → SC → Prop) (X : Nat → SC → Prop) : Prop := ((ys0 = 0) → X 3 S) ∧ ((¬ ys0 = 0) → ((fun S6 => w_L_addSection S6 y1 y3 (fun r7 S8 => Q r7 S8)) S))
def w_G_section_51 (S : SC) (y1 : UInt64) (y3 : UInt64) (Q : Int32 → SC → Prop) (X : Nat → SC → Prop) : Prop := w_G_section_52 S y1 y3 0 Q X
def w_G_section_25 (S : SC) (y1 : UInt64) (y3 : UInt64) (ys0 : Int32) (Q : Int32 → SC → Prop) (X : Nat → SC → Prop) : Prop := ((ys0 = 0) → X 1 S) ∧ ((¬ ys0 = 0) → ((fun S5 => ((¬ (S5.1 0 0) = 0) → (w_G_section_51 S5 y1 y3 Q X)) ∧ (((S5.1 0 0) = 0) → (((10 ≤ (S5.1 4 0)) → (w_G_section_51 S5 y1 y3 Q X)) ∧ ((¬ 10 ≤ (S5.1 4 0)) → (w_G_section_52 S5 y1 y3 1 Q X))))) S))
def w_G_section_24 (S : SC) (y1 : UInt64) (y3 : UInt64) (Q : Int32 → SC → Prop) (X : Nat → SC → Prop) : Prop := w_G_section_25 S y1 y3 0 Q X
def w_G_section (S : SC) (x1 : UInt64) (x2 : UInt64) (Q : Int32 → SC → Prop) (X : Nat → SC → Prop) : Prop := w_G_isWithin S x1 (4632233691727265792 : UInt64) (4652007308841189376 : UInt64) (fun r1 S2 => ((r1 = 0) → (w_G_section_24 S2 x1 x2 Q X)) ∧ ((¬ r1 = 0) → (w_G_isSpeed S2 x2 (fun r3 S4 => ((r3 = 0) → (w_G_section_24 S4 x1 x2 Q X)) ∧ ((¬ r3 = 0) → (w_G_section_25 S4 x1 x2 1 Q X))))))
set_option maxRecDepth 100000 in
set_option maxHeartbeats 4000000 in
theorem c_G_section (l : Launch) (hl0 : l.stackTraces = false) (D : va_G) (ca : Nat → ClassId) (ad : Nat → Nat) (sz : Nat) (S : SC) (x1 : UInt64) (x2 : UInt64)  (Q : Int32 → SC → Prop) (X : Nat → SC → Prop) (h : w_G_section S x1 x2 Q X) : vx_Met l y_G_section (Cond.code y_G_section b_G_section 5 (some Jvm.ClassFile.FieldType.int) :: tG) ({ frames := 7, cells := 1, slots := 6, locals := 101 } : Room) (xPx D ca (wC ca ad) S sz [.ref (ad 0), .double x1, .double x2]) (va_Qi Q (xAt D (wC ca ad) (va_A (wC ca ad S) sz)) (va_A (wC ca ad S) sz)) (xXf X D (wC ca ad) (va_A (wC ca ad S) sz)) 1 6 (va_A (wC ca ad S) sz) := by
  refine xx_mex (Qf := fun A => va_Qi Q (xAt D (wC ca ad) A) A) (Xf := fun A => xXf X D (wC ca ad) A) (by decide) (Nat.le_of_ble_eq_true rfl) ?_
  intro p e s m args below meth c A ls hx hb hr hw hown hlocks hml hK hN hA hP hD hS hl hZ hout hX
  have hown : s.vm.findClass "TrainGuard" = some m.cls := hown
  have hl : lv_has ls 5 [(0, .ref (ad 0)), (1, .double x1), (3, .double x2)] := hl
  unfold w_G_section at h
  have bk_52 : ∀ (S : SC) (y1 : UInt64) (y3 : UInt64) (ys0 : Int32) (H : Heap) (locs : List Loc) , va_P D cls (wC ca ad S) H → va_D A (wC ca ad S) → va_S A s.heap H locs → ∀ (ls : Array Slot), lv_has ls 5 [(0, .ref (ad 0)), (1, .double y1), (3, .double y3)] → w_G_section_52 S y1 y3 ys0 Q X → W p l e ({ frames := 7, cells := 1, slots := 6, locals := 101 } : Room) s m args below meth c H locs 0 0 (vx_MQ below ((fun A => va_Qi Q (xAt D (wC ca ad) A) A) A) ((fun A => xXf X D (wC ca ad) A) A) args s 1 6 A) (F0 m 52 ls [.int ys0]) := by
    intro S y1 y3 ys0 H locs hP hD hS ls hl h
    unfold w_G_section_52 at h
    by_cases hz : ys0 = 0
    · replace h := h.1 hz
      exact xx_thr (vx_runS (As := [.int ys0]) (rest := []) ⟨hx, hb, hml, hown, hw⟩ (c_G_demandState_no l hl0 D ca ad H.size S ys0 hz X h) (cwS 1 hw (tG_g gl_G_46) rfl rfl rfl (by decide +kernel) ⟨Nat.le_of_ble_eq_true rfl, Nat.le_of_ble_eq_true rfl⟩) ⟨xPx.blind, xPx.pre hK hN hP hD hX (hZ.now hS hA hD)⟩ rfl rfl hl.1 rfl (lv_room (Nat.le_of_ble_eq_true rfl)) d_G_section_52 ⟨Nat.le_of_ble_eq_true rfl, Nat.le_of_ble_eq_true rfl⟩) hD hS hA hout hlocks (Nat.le_of_ble_eq_true rfl) (Nat.le_of_ble_eq_true rfl)
    replace h := h.2 hz
    refine xx_callv (va_runS (As := [.int ys0]) (rest := []) ⟨hx, hb, hml, hown, hw⟩ (c_G_demandState_ok l D ca ad H.size S ys0 hz (fun S6 => w_L_addSection S6 y1 y3 (fun r7 S8 => Q r7 S8)) h) (cwS 1 hw (tG_g gl_G_46) rfl rfl rfl (by decide +kernel) ⟨Nat.le_of_ble_eq_true rfl, Nat.le_of_ble_eq_true rfl⟩) ⟨xPc.blind, xPc.pre hK hN hP hD⟩ rfl rfl hl.1 rfl (lv_room (Nat.le_of_ble_eq_true rfl)) d_G_section_52 ⟨Nat.le_of_ble_eq_true rfl, Nat.le_of_ble_eq_true rfl⟩) hD hS hA (fun S6 H locs h hP hD hS => ?_)
    refine lv_aload_n hx hb d_G_section_55 rfl (lv_at hl 0 rfl) ?_
    refine va_get (D := D) (ci := 3) (v := .ref (ad 1)) (C := Rc_G) (T := Fc_G) (N := 6) hx hb hw inc_G hown hK hP 0 rfl rfl 0 (by decide) (hw _ wd_132) (fun _ h9 => h9) rfl d_G_section_56 ?_
    refine lv_dload_n hx hb d_G_section_59 rfl (lv_at hl 1 rfl) ?_
    refine lv_dload_n hx hb d_G_section_60 rfl (lv_at hl 2 rfl) ?_
    refine xx_calli (va_runV (As := [.double y1, .double y3]) (rest := []) ⟨hx, hb, hml, hown, hw⟩ (c_L_addSection l D ca ad H.size S6 y1 y3 _ h) (cwV 2 hw (tG_g gl_G_49) rfl rfl rfl (by decide +kernel) ⟨Nat.le_of_ble_eq_true rfl, Nat.le_of_ble_eq_true rfl⟩) ⟨xPc.blind, va_recv hK hP rfl (q0 := 1) rfl, xPc.pre hK hN hP hD⟩ rfl rfl hl.1 rfl (lv_room (Nat.le_of_ble_eq_true rfl)) d_G_section_61 ⟨Nat.le_of_ble_eq_true rfl, Nat.le_of_ble_eq_true rfl⟩) hD hS hA (fun r7 S8 H locs h hP hD hS => ?_)
    refine vx_ret ?_
    refine W.widen (k := 1) (n := 6) (by omega) (by omega) ?_
    exact W.iret (v := r7) hx hb hr (fun t ht hW => ⟨⟨r7, S8, rfl, h, by rw [ht]; exact hP, hD⟩, hS.F ht⟩) hS.2.2 d_G_section_64
  have bk_51 : ∀ (S : SC) (y1 : UInt64) (y3 : UInt64) (H : Heap) (locs : List Loc) , va_P D cls (wC ca ad S) H → va_D A (wC ca ad S) → va_S A s.heap H locs → ∀ (ls : Array Slot), lv_has ls 5 [(0, .ref (ad 0)), (1, .double y1), (3, .double y3)] → w_G_section_51 S y1 y3 Q X → W p l e ({ frames := 7, cells := 1, slots := 6, locals := 101 } : Room) s m args below meth c H locs 0 0 (vx_MQ below ((fun A => va_Qi Q (xAt D (wC ca ad) A) A) A) ((fun A => xXf X D (wC ca ad) A) A) args s 1 6 A) (F0 m 51 ls []) := by
    intro S y1 y3 H locs hP hD hS ls hl h
    unfold w_G_section_51 at h
    refine lv_iconst (v := 0) hx hb d_G_section_51 (by decide) ?_
    exact bk_52 S y1 y3 0 H locs hP hD hS ls (lv_sub hl [0, 1, 2] rfl) h
  have bk_25 : ∀ (S : SC) (y1 : UInt64) (y3 : UInt64) (ys0 : Int32) (H : Heap) (locs : List Loc) , va_P D cls (wC ca ad S) H → va_D A (wC ca ad S) → va_S A s.heap H locs → ∀ (ls : Array Slot), lv_has ls 5 [(0, .ref (ad 0)), (1, .double y1), (3, .double y3)] → w_G_section_25 S y1 y3 ys0 Q X → W p l e ({ frames := 7, cells := 1, slots := 6, locals := 101 } : Room) s m args below meth c H locs 0 0 (vx_MQ below ((fun A => va_Qi Q (xAt D (wC ca ad) A) A) A) ((fun A => xXf X D (wC ca ad) A) A) args s 1 6 A) (F0 m 25 ls [.int ys0]) := by
    intro S y1 y3 ys0 H locs hP hD hS ls hl h
    unfold w_G_section_25 at h
    by_cases hz : ys0 = 0
    · replace h := h.1 hz
      exact xx_thr (vx_runS (As := [.int ys0]) (rest := []) ⟨hx, hb, hml, hown, hw⟩ (c_G_demandArgument_no l hl0 D ca ad H.size S ys0 hz X h) (cwS 1 hw (tG_g gl_G_35) rfl rfl rfl (by decide +kernel) ⟨Nat.le_of_ble_eq_true rfl, Nat.le_of_ble_eq_true rfl⟩) ⟨xPx.blind, xPx.pre hK hN hP hD hX (hZ.now hS hA hD)⟩ rfl rfl hl.1 rfl (lv_room (Nat.le_of_ble_eq_true rfl)) d_G_section_25 ⟨Nat.le_of_ble_eq_true rfl, Nat.le_of_ble_eq_true rfl⟩) hD hS hA hout hlocks (Nat.le_of_ble_eq_true rfl) (Nat.le_of_ble_eq_true rfl)
    replace h := h.2 hz
    refine xx_callv (va_runS (As := [.int ys0]) (rest := []) ⟨hx, hb, hml, hown, hw⟩ (c_G_demandArgument_ok l D ca ad H.size S ys0 hz (fun S5 => ((¬ (S5.1 0 0) = 0) → (w_G_section_51 S5 y1 y3 Q X)) ∧ (((S5.1 0 0) = 0) → (((10 ≤ (S5.1 4 0)) → (w_G_section_51 S5 y1 y3 Q X)) ∧ ((¬ 10 ≤ (S5.1 4 0)) → (w_G_section_52 S5 y1 y3 1 Q X))))) h) (cwS 1 hw (tG_g gl_G_35) rfl rfl rfl (by decide +kernel) ⟨Nat.le_of_ble_eq_true rfl, Nat.le_of_ble_eq_true rfl⟩) ⟨xPc.blind, xPc.pre hK hN hP hD⟩ rfl rfl hl.1 rfl (lv_room (Nat.le_of_ble_eq_true rfl)) d_G_section_25 ⟨Nat.le_of_ble_eq_true rfl, Nat.le_of_ble_eq_true rfl⟩) hD hS hA (fun S5 H locs h hP hD hS => ?_)
    refine lv_aload_n hx hb d_G_section_28 rfl (lv_at hl 0 rfl) ?_
    refine va_get (D := D) (ci := 3) (v := .int (S5.1 0 0)) (C := Rc_G) (T := Fc_G) (N := 6) hx hb hw inc_G hown hK hP 0 rfl rfl 2 (by decide) (hw _ wd_134) (fun _ h9 => h9) rfl d_G_section_29 ?_
    refine lv_if_ne (tgt := 51) hx hb d_G_section_32 (by decide) (fun hc => ?_) (fun hc => ?_)
    · replace h := h.1 hc
      exact bk_51 S5 y1 y3 H locs hP hD hS ls (lv_sub hl [0, 1, 2] rfl) h
    · replace h := h.2 hc
      refine lv_aload_n hx hb d_G_section_35 rfl (lv_at hl 0 rfl) ?_
      refine va_get (D := D) (ci := 3) (v := .ref (ad 1)) (C := Rc_G) (T := Fc_G) (N := 6) hx hb hw inc_G hown hK hP 0 rfl rfl 0 (by decide) (hw _ wd_132) (fun _ h9 => h9) rfl d_G_section_36 ?_
      refine va_getN (D := D) (ci := 0) (v := .int (S5.1 4 0)) (C := Rc_L) (T := Fc_L) (N := 8) hx hb hw inc_L hown hK hP 1 rfl rfl 6 (by decide) (nw_35 hN) (fun _ h9 => h9) rfl d_G_section_39 ?_
      refine lv_bipush (v := 10) hx hb d_G_section_42 (by decide) ?_
      refine lv_icmp_ge (tgt := 51) hx hb d_G_section_44 (by decide) (fun hc => ?_) (fun hc => ?_)
      · replace h := h.1 hc
        exact bk_51 S5 y1 y3 H locs hP hD hS ls (lv_sub hl [0, 1, 2] rfl) h
      · replace h := h.2 hc
        refine lv_iconst (v := 1) hx hb d_G_section_47 (by decide) ?_
        refine lv_goto (tgt := 52) hx hb d_G_section_48 (by decide) ?_
        exact bk_52 S5 y1 y3 1 H locs hP hD hS ls (lv_sub hl [0, 1, 2] rfl) h
  have bk_24 : ∀ (S : SC) (y1 : UInt64) (y3 : UInt64) (H : Heap) (locs : List Loc) , va_P D cls (wC ca ad S) H → va_D A (wC ca ad S) → va_S A s.heap H locs → ∀ (ls : Array Slot), lv_has ls 5 [(0, .ref (ad 0)), (1, .double y1), (3, .double y3)] → w_G_section_24 S y1 y3 Q X → W p l e ({ frames := 7, cells := 1, slots := 6, locals := 101 } : Room) s m args below meth c H locs 0 0 (vx_MQ below ((fun A => va_Qi Q (xAt D (wC ca ad) A) A) A) ((fun A => xXf X D (wC ca ad) A) A) args s 1 6 A) (F0 m 24 ls []) := by
    intro S y1 y3 H locs hP hD hS ls hl h
    unfold w_G_section_24 at h
    refine lv_iconst (v := 0) hx hb d_G_section_24 (by decide) ?_
    exact bk_25 S y1 y3 0 H locs hP hD hS ls (lv_sub hl [0, 1, 2] rfl) h
  have hH9 : ∀ H : Heap, H = s.heap → va_P D cls (wC ca ad S) H → va_S A s.heap H [] → W p l e ({ frames := 7, cells := 1, slots := 6, locals := 101 } : Room) s m args below meth c H [] 0 0 (vx_MQ below ((fun A => va_Qi Q (xAt D (wC ca ad) A) A) A) ((fun A => xXf X D (wC ca ad) A) A) args s 1 6 A) (F0 m 0 ls []) := by
    clear hP hS
    intro H hH hP hS
    obtain ⟨locs, hlo⟩ : ∃ z : List Loc, z = [] := ⟨_, rfl⟩
    rw [← hlo] at hS ⊢
    refine lv_dload_n hx hb d_G_section_0 rfl (lv_at hl 1 rfl) ?_
    refine lv_ldc2d hx hb hown (hw _ wd_166) d_G_section_1 ?_
    refine lv_ldc2d hx hb hown (hw _ wd_167) d_G_section_4 ?_
    refine xx_calli (va_runS (As := [.double x1, .double (4632233691727265792 : UInt64), .double (4652007308841189376 : UInt64)]) (rest := []) ⟨hx, hb, hml, hown, hw⟩ (c_G_isWithin l D ca ad H.size S x1 (4632233691727265792 : UInt64) (4652007308841189376 : UInt64) _ h) (cwS 3 hw (tG_g gl_G_27) rfl rfl rfl (by decide +kernel) ⟨Nat.le_of_ble_eq_true rfl, Nat.le_of_ble_eq_true rfl⟩) ⟨xPc.blind, xPc.pre hK hN hP hD⟩ rfl rfl hl.1 rfl (lv_room (Nat.le_of_ble_eq_true rfl)) d_G_section_7 ⟨Nat.le_of_ble_eq_true rfl, Nat.le_of_ble_eq_true rfl⟩) hD hS hA (fun r1 S2 H locs h hP hD hS => ?_)
    refine lv_if_eq (tgt := 24) hx hb d_G_section_10 (by decide) (fun hc => ?_) (fun hc => ?_)
    · replace h := h.1 hc
      exact bk_24 S2 x1 x2 H locs hP hD hS ls (lv_sub hl [0, 1, 2] rfl) h
    · replace h := h.2 hc
      refine lv_dload_n hx hb d_G_section_13 rfl (lv_at hl 2 rfl) ?_
      refine xx_calli (va_runS (As := [.double x2]) (rest := []) ⟨hx, hb, hml, hown, hw⟩ (c_G_isSpeed l D ca ad H.size S2 x2 _ h) (cwS 1 hw (tG_g gl_G_31) rfl rfl rfl (by decide +kernel) ⟨Nat.le_of_ble_eq_true rfl, Nat.le_of_ble_eq_true rfl⟩) ⟨xPc.blind, xPc.pre hK hN hP hD⟩ rfl rfl hl.1 rfl (lv_room (Nat.le_of_ble_eq_true rfl)) d_G_section_14 ⟨Nat.le_of_ble_eq_true rfl, Nat.le_of_ble_eq_true rfl⟩) hD hS hA (fun r3 S4 H locs h hP hD hS => ?_)
      refine lv_if_eq (tgt := 24) hx hb d_G_section_17 (by decide) (fun hc => ?_) (fun hc => ?_)
      · replace h := h.1 hc
        exact bk_24 S4 x1 x2 H locs hP hD hS ls (lv_sub hl [0, 1, 2] rfl) h
      · replace h := h.2 hc
        refine lv_iconst (v := 1) hx hb d_G_section_20 (by decide) ?_
        refine lv_goto (tgt := 25) hx hb d_G_section_21 (by decide) ?_
        exact bk_25 S4 x1 x2 1 H locs hP hD hS ls (lv_sub hl [0, 1, 2] rfl) h
  exact hH9 _ rfl hP hS
theorem d_G_restrict_0 : decode b_G_restrict 0 = .ok (.dload_n 1, 1) := by decide +kernel
theorem d_G_restrict_1 : decode b_G_restrict 1 = .ok (.dconst 0, 1) := by decide +kernel
theorem d_G_restrict_2 : decode b_G_restrict 2 = .ok (.dcmp .l, 1) := by decide +kernel
theorem d_G_restrict_3 : decode b_G_restrict 3 = .ok (.ifCond .lt 29, 3) := by decide +kernel
theorem d_G_restrict_6 : decode b_G_restrict 6 = .ok (.dload_n 3, 1) := by decide +kernel
theorem d_G_restrict_7 : decode b_G_restrict 7 = .ok (.dload_n 1, 1) := by decide +kernel
theorem d_G_restrict_8 : decode b_G_restrict 8 = .ok (.dcmp .l, 1) := by decide +kernel
theorem d_G_restrict_9 : decode b_G_restrict 9 = .ok (.ifCond .le 23, 3) := by decide +kernel
theorem d_G_restrict_12 : decode b_G_restrict 12 = .ok (.dload_n 3, 1) := by decide +kernel
theorem d_G_restrict_13 : decode b_G_restrict 13 = .ok (.ldc2_w 53, 3) := by decide +kernel
theorem d_G_restrict_16 : decode b_G_restrict 16 = .ok (.dcmp .g, 1) := by decide +kernel
theorem d_G_restrict_17 : decode b_G_restrict 17 = .ok (.ifCond .gt 15, 3) := by decide +kernel
theorem d_G_restrict_20 : decode b_G_restrict 20 = .ok (.dload 5, 2) := by decide +kernel
theorem d_G_restrict_22 : decode b_G_restrict 22 = .ok (.invokestatic 31, 3) := by decide +kernel
theorem d_G_restrict_25 : decode b_G_restrict 25 = .ok (.ifCond .eq 7, 3) := by decide +kernel
theorem d_G_restrict_28 : decode b_G_restrict 28 = .ok (.iconst 1, 1) := by decide +kernel
theorem d_G_restrict_29 : decode b_G_restrict 29 = .ok (.goto 4, 3) := by decide +kernel
theorem d_G_restrict_32 : decode b_G_restrict 32 = .ok (.iconst 0, 1) := by decide +kernel
theorem d_G_restrict_33 : decode b_G_restrict 33 = .ok (.invokestatic 35, 3) := by decide +kernel
theorem d_G_restrict_36 : decode b_G_restrict 36 = .ok (.aload_n 0, 1) := by decide +kernel
theorem d_G_restrict_37 : decode b_G_restrict 37 = .ok (.getfield 10, 3) := by decide +kernel
theorem d_G_restrict_40 : decode b_G_restrict 40 = .ok (.getfield 55, 3) := by decide +kernel
theorem d_G_restrict_43 : decode b_G_restrict 43 = .ok (.iconst 5, 1) := by decide +kernel
theorem d_G_restrict_44 : decode b_G_restrict 44 = .ok (.if_icmp .ge 7, 3) := by decide +kernel
theorem d_G_restrict_47 : decode b_G_restrict 47 = .ok (.iconst 1, 1) := by decide +kernel
theorem d_G_restrict_48 : decode b_G_restrict 48 = .ok (.goto 4, 3) := by decide +kernel
theorem d_G_restrict_51 : decode b_G_restrict 51 = .ok (.iconst 0, 1) := by decide +kernel
theorem d_G_restrict_52 : decode b_G_restrict 52 = .ok (.invokestatic 46, 3) := by decide +kernel
theorem d_G_restrict_55 : decode b_G_restrict 55 = .ok (.aload_n 0, 1) := by decide +kernel
theorem d_G_restrict_56 : decode b_G_restrict 56 = .ok (.invokevirtual 58, 3) := by decide +kernel
theorem d_G_restrict_59 : decode b_G_restrict 59 = .ok (.invokestatic 62, 3) := by decide +kernel
theorem d_G_restrict_62 : decode b_G_restrict 62 = .ok (.aload_n 0, 1) := by decide +kernel
theorem d_G_restrict_63 : decode b_G_restrict 63 = .ok (.getfield 10, 3) := by decide +kernel
theorem d_G_restrict_66 : decode b_G_restrict 66 = .ok (.dload_n 1, 1) := by decide +kernel
theorem d_G_restrict_67 : decode b_G_restrict 67 = .ok (.dload_n 3, 1) := by decide +kernel
theorem d_G_restrict_68 : decode b_G_restrict 68 = .ok (.dload 5, 2) := by decide +kernel
theorem d_G_restrict_70 : decode b_G_restrict 70 = .ok (.invokevirtual 65, 3) := by decide +kernel
theorem d_G_restrict_73 : decode b_G_restrict 73 = .ok (.ireturn, 1) := by decide +kernel
theorem gl_G_58 : ∀ w ∈ wsV "TrainGuard" 58 "TrainGuard" y_G_allStandBy (Cond.code y_G_allStandBy b_G_allStandBy 2 (some Jvm.ClassFile.FieldType.boolean) :: tG), w ∈ tG := by
  intro x hx
  simp only [wsV, List.cons_append, List.nil_append, List.mem_cons] at hx
  rcases hx with rfl | rfl | rfl | rfl | rfl | hx
  · exact wd_272
  · exact wd_274
  · exact ws_1
  · exact wd_1
  · exact wd_275
  · exact hx
theorem gl_G_62 : ∀ w ∈ wsS "TrainGuard" 62 y_G_demandSafety (Cond.code y_G_demandSafety b_G_demandSafety 1 none :: tG), w ∈ tG := by
  intro x hx
  simp only [wsS, List.cons_append, List.nil_append, List.mem_cons] at hx
  rcases hx with rfl | rfl | rfl | rfl | hx
  · exact wd_276
  · exact wd_277
  · exact wd_1
  · exact wd_278
  · exact hx
theorem gl_G_65 : ∀ w ∈ wsV "TrainGuard" 65 "TrainGuard$Line" y_L_addRestriction (Cond.code y_L_addRestriction b_L_addRestriction 7 (some Jvm.ClassFile.FieldType.int) :: tG), w ∈ tG := by
  intro x hx
  simp only [wsV, List.cons_append, List.nil_append, List.mem_cons] at hx
  rcases hx with rfl | rfl | rfl | rfl | rfl | hx
  · exact wd_294
  · exact wd_295
  · exact wd_296
  · exact wd_2
  · exact wd_297
  · exact hx
def w_G_restrict_52 (S : SC) (y1 : UInt64) (y3 : UInt64) (y5 : UInt64) (ys0 : Int32) (Q : Int32 → SC → Prop) (X : Nat → SC → Prop) : Prop := ((ys0 = 0) → X 3 S) ∧ ((¬ ys0 = 0) → ((fun S4 => w_G_allStandBy S4 (fun r5 S6 => ((r5 = 0) → X 4 S6) ∧ ((¬ r5 = 0) → ((fun S7 => w_L_addRestriction S7 y1 y3 y5 (fun r8 S9 => Q r8 S9)) S6)))) S))
def w_G_restrict_33 (S : SC) (y1 : UInt64) (y3 : UInt64) (y5 : UInt64) (ys0 : Int32) (Q : Int32 → SC → Prop) (X : Nat → SC → Prop) : Prop := ((ys0 = 0) → X 1 S) ∧ ((¬ ys0 = 0) → ((fun S3 => ((5 ≤ (S3.1 5 0)) → (w_G_restrict_52 S3 y1 y3 y5 0 Q X)) ∧ ((¬ 5 ≤ (S3.1 5 0)) → (w_G_restrict_52 S3 y1 y3 y5 1 Q X))) S))
def w_G_restrict_32 (S : SC) (y1 : UInt64) (y3 : UInt64) (y5 : UInt64) (Q : Int32 → SC → Prop) (X : Nat → SC → Prop) : Prop := w_G_restrict_33 S y1 y3 y5 0 Q X
def w_G_restrict (S : SC) (x1 : UInt64) (x2 : UInt64) (x3 : UInt64) (Q : Int32 → SC → Prop) (X : Nat → SC → Prop) : Prop := (((Op.cmpValue (FP.dcmp x1 FP.dconst0) .l) < 0) → (w_G_restrict_32 S x1 x2 x3 Q X)) ∧ ((¬ (Op.cmpValue (FP.dcmp x1 FP.dconst0) .l) < 0) → ((((Op.cmpValue (FP.dcmp x2 x1) .l) ≤ 0) → (w_G_restrict_32 S x1 x2 x3 Q X)) ∧ ((¬ (Op.cmpValue (FP.dcmp x2 x1) .l) ≤ 0) → (((0 < (Op.cmpValue (FP.dcmp x2 (4666723172467343360 : UInt64)) .g)) → (w_G_restrict_32 S x1 x2 x3 Q X)) ∧ ((¬ 0 < (Op.cmpValue (FP.dcmp x2 (4666723172467343360 : UInt64)) .g)) → (w_G_isSpeed S x3 (fun r1 S2 => ((r1 = 0) → (w_G_restrict_32 S2 x1 x2 x3 Q X)) ∧ ((¬ r1 = 0) → (w_G_restrict_33 S2 x1 x2 x3 1 Q X)))))))))
set_option maxRecDepth 100000 in
set_option maxHeartbeats 4000000 in
theorem c_G_restrict (l : Launch) (hl0 : l.stackTraces = false) (D : va_G) (ca : Nat → ClassId) (ad : Nat → Nat) (sz : Nat) (S : SC) (x1 : UInt64) (x2 : UInt64) (x3 : UInt64)  (Q : Int32 → SC → Prop) (X : Nat → SC → Prop) (h : w_G_restrict S x1 x2 x3 Q X) : vx_Met l y_G_restrict (Cond.code y_G_restrict b_G_restrict 7 (some Jvm.ClassFile.FieldType.int) :: tG) ({ frames := 7, cells := 1, slots := 6, locals := 101 } : Room) (xPx D ca (wC ca ad) S sz [.ref (ad 0), .double x1, .double x2, .double x3]) (va_Qi Q (xAt D (wC ca ad) (va_A (wC ca ad S) sz)) (va_A (wC ca ad S) sz)) (xXf X D (wC ca ad) (va_A (wC ca ad S) sz)) 1 6 (va_A (wC ca ad S) sz) := by
  refine xx_mex (Qf := fun A => va_Qi Q (xAt D (wC ca ad) A) A) (Xf := fun A => xXf X D (wC ca ad) A) (by decide) (Nat.le_of_ble_eq_true rfl) ?_
  intro p e s m args below meth c A ls hx hb hr hw hown hlocks hml hK hN hA hP hD hS hl hZ hout hX
  have hown : s.vm.findClass "TrainGuard" = some m.cls := hown
  have hl : lv_has ls 7 [(0, .ref (ad 0)), (1, .double x1), (3, .double x2), (5, .double x3)] := hl
  unfold w_G_restrict at h
  have bk_52 : ∀ (S : SC) (y1 : UInt64) (y3 : UInt64) (y5 : UInt64) (ys0 : Int32) (H : Heap) (locs : List Loc) , va_P D cls (wC ca ad S) H → va_D A (wC ca ad S) → va_S A s.heap H locs → ∀ (ls : Array Slot), lv_has ls 7 [(0, .ref (ad 0)), (1, .double y1), (3, .double y3), (5, .double y5)] → w_G_restrict_52 S y1 y3 y5 ys0 Q X → W p l e ({ frames := 7, cells := 1, slots := 6, locals := 101 } : Room) s m args below meth c H locs 0 0 (vx_MQ below ((fun A => va_Qi Q (xAt D (wC ca ad) A) A) A) ((fun A => xXf X D (wC ca ad) A) A) args s 1 6 A) (F0 m 52 ls [.int ys0]) := by
    intro S y1 y3 y5 ys0 H locs hP hD hS ls hl h
    unfold w_G_restrict_52 at h
    by_cases hz : ys0 = 0
    · replace h := h.1 hz
      exact xx_thr (vx_runS (As := [.int ys0]) (rest := []) ⟨hx, hb, hml, hown, hw⟩ (c_G_demandState_no l hl0 D ca ad H.size S ys0 hz X h) (cwS 1 hw (tG_g gl_G_46) rfl rfl rfl (by decide +kernel) ⟨Nat.le_of_ble_eq_true rfl, Nat.le_of_ble_eq_true rfl⟩) ⟨xPx.blind, xPx.pre hK hN hP hD hX (hZ.now hS hA hD)⟩ rfl rfl hl.1 rfl (lv_room (Nat.le_of_ble_eq_true rfl)) d_G_restrict_52 ⟨Nat.le_of_ble_eq_true rfl, Nat.le_of_ble_eq_true rfl⟩) hD hS hA hout hlocks (Nat.le_of_ble_eq_true rfl) (Nat.le_of_ble_eq_true rfl)
    replace h := h.2 hz
    refine xx_callv (va_runS (As := [.int ys0]) (rest := []) ⟨hx, hb, hml, hown, hw⟩ (c_G_demandState_ok l D ca ad H.size S ys0 hz (fun S4 => w_G_allStandBy S4 (fun r5 S6 => ((r5 = 0) → X 4 S6) ∧ ((¬ r5 = 0) → ((fun S7 => w_L_addRestriction S7 y1 y3 y5 (fun r8 S9 => Q r8 S9)) S6)))) h) (cwS 1 hw (tG_g gl_G_46) rfl rfl rfl (by decide +kernel) ⟨Nat.le_of_ble_eq_true rfl, Nat.le_of_ble_eq_true rfl⟩) ⟨xPc.blind, xPc.pre hK hN hP hD⟩ rfl rfl hl.1 rfl (lv_room (Nat.le_of_ble_eq_true rfl)) d_G_restrict_52 ⟨Nat.le_of_ble_eq_true rfl, Nat.le_of_ble_eq_true rfl⟩) hD hS hA (fun S4 H locs h hP hD hS => ?_)
    refine lv_aload_n hx hb d_G_restrict_55 rfl (lv_at hl 0 rfl) ?_
    refine xx_calli (va_runV (As := []) (rest := []) ⟨hx, hb, hml, hown, hw⟩ (c_G_allStandBy l D ca ad H.size S4 _ h) (cwV 0 hw (tG_g gl_G_58) rfl rfl rfl (by decide +kernel) ⟨Nat.le_of_ble_eq_true rfl, Nat.le_of_ble_eq_true rfl⟩) ⟨xPc.blind, va_recv hK hP rfl (q0 := 0) rfl, xPc.pre hK hN hP hD⟩ rfl rfl hl.1 rfl (lv_room (Nat.le_of_ble_eq_true rfl)) d_G_restrict_56 ⟨Nat.le_of_ble_eq_true rfl, Nat.le_of_ble_eq_true rfl⟩) hD hS hA (fun r5 S6 H locs h hP hD hS => ?_)
    by_cases hz : r5 = 0
    · replace h := h.1 hz
      exact xx_thr (vx_runS (As := [.int r5]) (rest := []) ⟨hx, hb, hml, hown, hw⟩ (c_G_demandSafety_no l hl0 D ca ad H.size S6 r5 hz X h) (cwS 1 hw (tG_g gl_G_62) rfl rfl rfl (by decide +kernel) ⟨Nat.le_of_ble_eq_true rfl, Nat.le_of_ble_eq_true rfl⟩) ⟨xPx.blind, xPx.pre hK hN hP hD hX (hZ.now hS hA hD)⟩ rfl rfl hl.1 rfl (lv_room (Nat.le_of_ble_eq_true rfl)) d_G_restrict_59 ⟨Nat.le_of_ble_eq_true rfl, Nat.le_of_ble_eq_true rfl⟩) hD hS hA hout hlocks (Nat.le_of_ble_eq_true rfl) (Nat.le_of_ble_eq_true rfl)
    replace h := h.2 hz
    refine xx_callv (va_runS (As := [.int r5]) (rest := []) ⟨hx, hb, hml, hown, hw⟩ (c_G_demandSafety_ok l D ca ad H.size S6 r5 hz (fun S7 => w_L_addRestriction S7 y1 y3 y5 (fun r8 S9 => Q r8 S9)) h) (cwS 1 hw (tG_g gl_G_62) rfl rfl rfl (by decide +kernel) ⟨Nat.le_of_ble_eq_true rfl, Nat.le_of_ble_eq_true rfl⟩) ⟨xPc.blind, xPc.pre hK hN hP hD⟩ rfl rfl hl.1 rfl (lv_room (Nat.le_of_ble_eq_true rfl)) d_G_restrict_59 ⟨Nat.le_of_ble_eq_true rfl, Nat.le_of_ble_eq_true rfl⟩) hD hS hA (fun S7 H locs h hP hD hS => ?_)
    refine lv_aload_n hx hb d_G_restrict_62 rfl (lv_at hl 0 rfl) ?_
    refine va_get (D := D) (ci := 3) (v := .ref (ad 1)) (C := Rc_G) (T := Fc_G) (N := 6) hx hb hw inc_G hown hK hP 0 rfl rfl 0 (by decide) (hw _ wd_132) (fun _ h9 => h9) rfl d_G_restrict_63 ?_
    refine lv_dload_n hx hb d_G_restrict_66 rfl (lv_at hl 1 rfl) ?_
    refine lv_dload_n hx hb d_G_restrict_67 rfl (lv_at hl 2 rfl) ?_
    refine lv_dload hx hb d_G_restrict_68 (lv_at hl 3 rfl) ?_
    refine xx_calli (va_runV (As := [.double y1, .double y3, .double y5]) (rest := []) ⟨hx, hb, hml, hown, hw⟩ (c_L_addRestriction l D ca ad H.size S7 y1 y3 y5 _ h) (cwV 3 hw (tG_g gl_G_65) rfl rfl rfl (by decide +kernel) ⟨Nat.le_of_ble_eq_true rfl, Nat.le_of_ble_eq_true rfl⟩) ⟨xPc.blind, va_recv hK hP rfl (q0 := 1) rfl, xPc.pre hK hN hP hD⟩ rfl rfl hl.1 rfl (lv_room (Nat.le_of_ble_eq_true rfl)) d_G_restrict_70 ⟨Nat.le_of_ble_eq_true rfl, Nat.le_of_ble_eq_true rfl⟩) hD hS hA (fun r8 S9 H locs h hP hD hS => ?_)
    refine vx_ret ?_
    refine W.widen (k := 1) (n := 6) (by omega) (by omega) ?_
    exact W.iret (v := r8) hx hb hr (fun t ht hW => ⟨⟨r8, S9, rfl, h, by rw [ht]; exact hP, hD⟩, hS.F ht⟩) hS.2.2 d_G_restrict_73
  have bk_33 : ∀ (S : SC) (y1 : UInt64) (y3 : UInt64) (y5 : UInt64) (ys0 : Int32) (H : Heap) (locs : List Loc) , va_P D cls (wC ca ad S) H → va_D A (wC ca ad S) → va_S A s.heap H locs → ∀ (ls : Array Slot), lv_has ls 7 [(0, .ref (ad 0)), (1, .double y1), (3, .double y3), (5, .double y5)] → w_G_restrict_33 S y1 y3 y5 ys0 Q X → W p l e ({ frames := 7, cells := 1, slots := 6, locals := 101 } : Room) s m args below meth c H locs 0 0 (vx_MQ below ((fun A => va_Qi Q (xAt D (wC ca ad) A) A) A) ((fun A => xXf X D (wC ca ad) A) A) args s 1 6 A) (F0 m 33 ls [.int ys0]) := by
    intro S y1 y3 y5 ys0 H locs hP hD hS ls hl h
    unfold w_G_restrict_33 at h
    by_cases hz : ys0 = 0
    · replace h := h.1 hz
      exact xx_thr (vx_runS (As := [.int ys0]) (rest := []) ⟨hx, hb, hml, hown, hw⟩ (c_G_demandArgument_no l hl0 D ca ad H.size S ys0 hz X h) (cwS 1 hw (tG_g gl_G_35) rfl rfl rfl (by decide +kernel) ⟨Nat.le_of_ble_eq_true rfl, Nat.le_of_ble_eq_true rfl⟩) ⟨xPx.blind, xPx.pre hK hN hP hD hX (hZ.now hS hA hD)⟩ rfl rfl hl.1 rfl (lv_room (Nat.le_of_ble_eq_true rfl)) d_G_restrict_33 ⟨Nat.le_of_ble_eq_true rfl, Nat.le_of_ble_eq_true rfl⟩) hD hS hA hout hlocks (Nat.le_of_ble_eq_true rfl) (Nat.le_of_ble_eq_true rfl)
    replace h := h.2 hz
    refine xx_callv (va_runS (As := [.int ys0]) (rest := []) ⟨hx, hb, hml, hown, hw⟩ (c_G_demandArgument_ok l D ca ad H.size S ys0 hz (fun S3 => ((5 ≤ (S3.1 5 0)) → (w_G_restrict_52 S3 y1 y3 y5 0 Q X)) ∧ ((¬ 5 ≤ (S3.1 5 0)) → (w_G_restrict_52 S3 y1 y3 y5 1 Q X))) h) (cwS 1 hw (tG_g gl_G_35) rfl rfl rfl (by decide +kernel) ⟨Nat.le_of_ble_eq_true rfl, Nat.le_of_ble_eq_true rfl⟩) ⟨xPc.blind, xPc.pre hK hN hP hD⟩ rfl rfl hl.1 rfl (lv_room (Nat.le_of_ble_eq_true rfl)) d_G_restrict_33 ⟨Nat.le_of_ble_eq_true rfl, Nat.le_of_ble_eq_true rfl⟩) hD hS hA (fun S3 H locs h hP hD hS => ?_)
    refine lv_aload_n hx hb d_G_restrict_36 rfl (lv_at hl 0 rfl) ?_
    refine va_get (D := D) (ci := 3) (v := .ref (ad 1)) (C := Rc_G) (T := Fc_G) (N := 6) hx hb hw inc_G hown hK hP 0 rfl rfl 0 (by decide) (hw _ wd_132) (fun _ h9 => h9) rfl d_G_restrict_37 ?_
    refine va_getN (D := D) (ci := 0) (v := .int (S3.1 5 0)) (C := Rc_L) (T := Fc_L) (N := 8) hx hb hw inc_L hown hK hP 1 rfl rfl 7 (by decide) (nw_37 hN) (fun _ h9 => h9) rfl d_G_restrict_40 ?_
    refine lv_iconst (v := 5) hx hb d_G_restrict_43 (by decide) ?_
    refine lv_icmp_ge (tgt := 51) hx hb d_G_restrict_44 (by decide) (fun hc => ?_) (fun hc => ?_)
    · replace h := h.1 hc
      refine lv_iconst (v := 0) hx hb d_G_restrict_51 (by decide) ?_
      exact bk_52 S3 y1 y3 y5 0 H locs hP hD hS ls (lv_sub hl [0, 1, 2, 3] rfl) h
    · replace h := h.2 hc
      refine lv_iconst (v := 1) hx hb d_G_restrict_47 (by decide) ?_
      refine lv_goto (tgt := 52) hx hb d_G_restrict_48 (by decide) ?_
      exact bk_52 S3 y1 y3 y5 1 H locs hP hD hS ls (lv_sub hl [0, 1, 2, 3] rfl) h
  have bk_32 : ∀ (S : SC) (y1 : UInt64) (y3 : UInt64) (y5 : UInt64) (H : Heap) (locs : List Loc) , va_P D cls (wC ca ad S) H → va_D A (wC ca ad S) → va_S A s.heap H locs → ∀ (ls : Array Slot), lv_has ls 7 [(0, .ref (ad 0)), (1, .double y1), (3, .double y3), (5, .double y5)] → w_G_restrict_32 S y1 y3 y5 Q X → W p l e ({ frames := 7, cells := 1, slots := 6, locals := 101 } : Room) s m args below meth c H locs 0 0 (vx_MQ below ((fun A => va_Qi Q (xAt D (wC ca ad) A) A) A) ((fun A => xXf X D (wC ca ad) A) A) args s 1 6 A) (F0 m 32 ls []) := by
    intro S y1 y3 y5 H locs hP hD hS ls hl h
    unfold w_G_restrict_32 at h
    refine lv_iconst (v := 0) hx hb d_G_restrict_32 (by decide) ?_
    exact bk_33 S y1 y3 y5 0 H locs hP hD hS ls (lv_sub hl [0, 1, 2, 3] rfl) h
  have hH9 : ∀ H : Heap, H = s.heap → va_P D cls (wC ca ad S) H → va_S A s.heap H [] → W p l e ({ frames := 7, cells := 1, slots := 6, locals := 101 } : Room) s m args below meth c H [] 0 0 (vx_MQ below ((fun A => va_Qi Q (xAt D (wC ca ad) A) A) A) ((fun A => xXf X D (wC ca ad) A) A) args s 1 6 A) (F0 m 0 ls []) := by
    clear hP hS
    intro H hH hP hS
    obtain ⟨locs, hlo⟩ : ∃ z : List Loc, z = [] := ⟨_, rfl⟩
    rw [← hlo] at hS ⊢
    refine lv_dload_n hx hb d_G_restrict_0 rfl (lv_at hl 1 rfl) ?_
    refine lv_dconst0 hx hb d_G_restrict_1 ?_
    refine lv_dcmp hx hb d_G_restrict_2 ?_
    refine lv_if_lt (tgt := 32) hx hb d_G_restrict_3 (by decide) (fun hc => ?_) (fun hc => ?_)
    · replace h := h.1 hc
      exact bk_32 S x1 x2 x3 H locs hP hD hS ls (lv_sub hl [0, 1, 2, 3] rfl) h
    · replace h := h.2 hc
      refine lv_dload_n hx hb d_G_restrict_6 rfl (lv_at hl 2 rfl) ?_
      refine lv_dload_n hx hb d_G_restrict_7 rfl (lv_at hl 1 rfl) ?_
      refine lv_dcmp hx hb d_G_restrict_8 ?_
      refine lv_if_le (tgt := 32) hx hb d_G_restrict_9 (by decide) (fun hc => ?_) (fun hc => ?_)
      · replace h := h.1 hc
        exact bk_32 S x1 x2 x3 H locs hP hD hS ls (lv_sub hl [0, 1, 2, 3] rfl) h
      · replace h := h.2 hc
        refine lv_dload_n hx hb d_G_restrict_12 rfl (lv_at hl 2 rfl) ?_
        refine lv_ldc2d hx hb hown (hw _ wd_271) d_G_restrict_13 ?_
        refine lv_dcmp hx hb d_G_restrict_16 ?_
        refine lv_if_gt (tgt := 32) hx hb d_G_restrict_17 (by decide) (fun hc => ?_) (fun hc => ?_)
        · replace h := h.1 hc
          exact bk_32 S x1 x2 x3 H locs hP hD hS ls (lv_sub hl [0, 1, 2, 3] rfl) h
        · replace h := h.2 hc
          refine lv_dload hx hb d_G_restrict_20 (lv_at hl 3 rfl) ?_
          refine xx_calli (va_runS (As := [.double x3]) (rest := []) ⟨hx, hb, hml, hown, hw⟩ (c_G_isSpeed l D ca ad H.size S x3 _ h) (cwS 1 hw (tG_g gl_G_31) rfl rfl rfl (by decide +kernel) ⟨Nat.le_of_ble_eq_true rfl, Nat.le_of_ble_eq_true rfl⟩) ⟨xPc.blind, xPc.pre hK hN hP hD⟩ rfl rfl hl.1 rfl (lv_room (Nat.le_of_ble_eq_true rfl)) d_G_restrict_22 ⟨Nat.le_of_ble_eq_true rfl, Nat.le_of_ble_eq_true rfl⟩) hD hS hA (fun r1 S2 H locs h hP hD hS => ?_)
          refine lv_if_eq (tgt := 32) hx hb d_G_restrict_25 (by decide) (fun hc => ?_) (fun hc => ?_)
          · replace h := h.1 hc
            exact bk_32 S2 x1 x2 x3 H locs hP hD hS ls (lv_sub hl [0, 1, 2, 3] rfl) h
          · replace h := h.2 hc
            refine lv_iconst (v := 1) hx hb d_G_restrict_28 (by decide) ?_
            refine lv_goto (tgt := 33) hx hb d_G_restrict_29 (by decide) ?_
            exact bk_33 S2 x1 x2 x3 1 H locs hP hD hS ls (lv_sub hl [0, 1, 2, 3] rfl) h
  exact hH9 _ rfl hP hS
theorem d_G_release_0 : decode b_G_release 0 = .ok (.iload_n 1, 1) := by decide +kernel
theorem d_G_release_1 : decode b_G_release 1 = .ok (.ifCond .lt 18, 3) := by decide +kernel
theorem d_G_release_4 : decode b_G_release 4 = .ok (.iload_n 1, 1) := by decide +kernel
theorem d_G_release_5 : decode b_G_release 5 = .ok (.aload_n 0, 1) := by decide +kernel
theorem d_G_release_6 : decode b_G_release 6 = .ok (.getfield 10, 3) := by decide +kernel
theorem d_G_release_9 : decode b_G_release 9 = .ok (.getfield 55, 3) := by decide +kernel
theorem d_G_release_12 : decode b_G_release 12 = .ok (.if_icmp .ge 7, 3) := by decide +kernel
theorem d_G_release_15 : decode b_G_release 15 = .ok (.iconst 1, 1) := by decide +kernel
theorem d_G_release_16 : decode b_G_release 16 = .ok (.goto 4, 3) := by decide +kernel
theorem d_G_release_19 : decode b_G_release 19 = .ok (.iconst 0, 1) := by decide +kernel
theorem d_G_release_20 : decode b_G_release 20 = .ok (.invokestatic 35, 3) := by decide +kernel
theorem d_G_release_23 : decode b_G_release 23 = .ok (.aload_n 0, 1) := by decide +kernel
theorem d_G_release_24 : decode b_G_release 24 = .ok (.getfield 10, 3) := by decide +kernel
theorem d_G_release_27 : decode b_G_release 27 = .ok (.iload_n 1, 1) := by decide +kernel
theorem d_G_release_28 : decode b_G_release 28 = .ok (.invokevirtual 69, 3) := by decide +kernel
theorem d_G_release_31 : decode b_G_release 31 = .ok (.ireturn, 1) := by decide +kernel
theorem gl_G_69 : ∀ w ∈ wsV "TrainGuard" 69 "TrainGuard$Line" y_L_removeRestriction (Cond.code y_L_removeRestriction b_L_removeRestriction 3 (some Jvm.ClassFile.FieldType.int) :: tG), w ∈ tG := by
  intro x hx
  simp only [wsV, List.cons_append, List.nil_append, List.mem_cons] at hx
  rcases hx with rfl | rfl | rfl | rfl | rfl | hx
  · exact wd_305
  · exact wd_306
  · exact wd_307
  · exact wd_2
  · exact wd_308
  · exact hx
def w_G_release_20 (S : SC) (y1 : Int32) (ys0 : Int32) (Q : Int32 → SC → Prop) (X : Nat → SC → Prop) : Prop := ((ys0 = 0) → X 1 S) ∧ ((¬ ys0 = 0) → ((fun S1 => w_L_removeRestriction S1 y1 (fun r2 S3 => Q r2 S3)) S))
def w_G_release_19 (S : SC) (y1 : Int32) (Q : Int32 → SC → Prop) (X : Nat → SC → Prop) : Prop := w_G_release_20 S y1 0 Q X
def w_G_release (S : SC) (x1 : Int32) (Q : Int32 → SC → Prop) (X : Nat → SC → Prop) : Prop := ((x1 < 0) → (w_G_release_19 S x1 Q X)) ∧ ((¬ x1 < 0) → ((((S.1 5 0) ≤ x1) → (w_G_release_19 S x1 Q X)) ∧ ((¬ (S.1 5 0) ≤ x1) → (w_G_release_20 S x1 1 Q X))))
set_option maxRecDepth 100000 in
set_option maxHeartbeats 4000000 in
theorem c_G_release (l : Launch) (hl0 : l.stackTraces = false) (D : va_G) (ca : Nat → ClassId) (ad : Nat → Nat) (sz : Nat) (S : SC) (x1 : Int32)  (Q : Int32 → SC → Prop) (X : Nat → SC → Prop) (h : w_G_release S x1 Q X) : vx_Met l y_G_release (Cond.code y_G_release b_G_release 2 (some Jvm.ClassFile.FieldType.int) :: tG) ({ frames := 7, cells := 1, slots := 6, locals := 101 } : Room) (xPx D ca (wC ca ad) S sz [.ref (ad 0), .int x1]) (va_Qi Q (xAt D (wC ca ad) (va_A (wC ca ad S) sz)) (va_A (wC ca ad S) sz)) (xXf X D (wC ca ad) (va_A (wC ca ad S) sz)) 1 6 (va_A (wC ca ad S) sz) := by
  refine xx_mex (Qf := fun A => va_Qi Q (xAt D (wC ca ad) A) A) (Xf := fun A => xXf X D (wC ca ad) A) (by decide) (Nat.le_of_ble_eq_true rfl) ?_
  intro p e s m args below meth c A ls hx hb hr hw hown hlocks hml hK hN hA hP hD hS hl hZ hout hX
  have hown : s.vm.findClass "TrainGuard" = some m.cls := hown
  have hl : lv_has ls 2 [(0, .ref (ad 0)), (1, .int x1)] := hl
  unfold w_G_release at h
  have bk_20 : ∀ (S : SC) (y1 : Int32) (ys0 : Int32) (H : Heap) (locs : List Loc) , va_P D cls (wC ca ad S) H → va_D A (wC ca ad S) → va_S A s.heap H locs → ∀ (ls : Array Slot), lv_has ls 2 [(0, .ref (ad 0)), (1, .int y1)] → w_G_release_20 S y1 ys0 Q X → W p l e ({ frames := 7, cells := 1, slots := 6, locals := 101 } : Room) s m args below meth c H locs 0 0 (vx_MQ below ((fun A => va_Qi Q (xAt D (wC ca ad) A) A) A) ((fun A => xXf X D (wC ca ad) A) A) args s 1 6 A) (F0 m 20 ls [.int ys0]) := by
    intro S y1 ys0 H locs hP hD hS ls hl h
    unfold w_G_release_20 at h
    by_cases hz : ys0 = 0
    · replace h := h.1 hz
      exact xx_thr (vx_runS (As := [.int ys0]) (rest := []) ⟨hx, hb, hml, hown, hw⟩ (c_G_demandArgument_no l hl0 D ca ad H.size S ys0 hz X h) (cwS 1 hw (tG_g gl_G_35) rfl rfl rfl (by decide +kernel) ⟨Nat.le_of_ble_eq_true rfl, Nat.le_of_ble_eq_true rfl⟩) ⟨xPx.blind, xPx.pre hK hN hP hD hX (hZ.now hS hA hD)⟩ rfl rfl hl.1 rfl (lv_room (Nat.le_of_ble_eq_true rfl)) d_G_release_20 ⟨Nat.le_of_ble_eq_true rfl, Nat.le_of_ble_eq_true rfl⟩) hD hS hA hout hlocks (Nat.le_of_ble_eq_true rfl) (Nat.le_of_ble_eq_true rfl)
    replace h := h.2 hz
    refine xx_callv (va_runS (As := [.int ys0]) (rest := []) ⟨hx, hb, hml, hown, hw⟩ (c_G_demandArgument_ok l D ca ad H.size S ys0 hz (fun S1 => w_L_removeRestriction S1 y1 (fun r2 S3 => Q r2 S3)) h) (cwS 1 hw (tG_g gl_G_35) rfl rfl rfl (by decide +kernel) ⟨Nat.le_of_ble_eq_true rfl, Nat.le_of_ble_eq_true rfl⟩) ⟨xPc.blind, xPc.pre hK hN hP hD⟩ rfl rfl hl.1 rfl (lv_room (Nat.le_of_ble_eq_true rfl)) d_G_release_20 ⟨Nat.le_of_ble_eq_true rfl, Nat.le_of_ble_eq_true rfl⟩) hD hS hA (fun S1 H locs h hP hD hS => ?_)
    refine lv_aload_n hx hb d_G_release_23 rfl (lv_at hl 0 rfl) ?_
    refine va_get (D := D) (ci := 3) (v := .ref (ad 1)) (C := Rc_G) (T := Fc_G) (N := 6) hx hb hw inc_G hown hK hP 0 rfl rfl 0 (by decide) (hw _ wd_132) (fun _ h9 => h9) rfl d_G_release_24 ?_
    refine lv_iload_n hx hb d_G_release_27 rfl (lv_at hl 1 rfl) ?_
    refine xx_calli (va_runV (As := [.int y1]) (rest := []) ⟨hx, hb, hml, hown, hw⟩ (c_L_removeRestriction l D ca ad H.size S1 y1 _ h) (cwV 1 hw (tG_g gl_G_69) rfl rfl rfl (by decide +kernel) ⟨Nat.le_of_ble_eq_true rfl, Nat.le_of_ble_eq_true rfl⟩) ⟨xPc.blind, va_recv hK hP rfl (q0 := 1) rfl, xPc.pre hK hN hP hD⟩ rfl rfl hl.1 rfl (lv_room (Nat.le_of_ble_eq_true rfl)) d_G_release_28 ⟨Nat.le_of_ble_eq_true rfl, Nat.le_of_ble_eq_true rfl⟩) hD hS hA (fun r2 S3 H locs h hP hD hS => ?_)
    refine vx_ret ?_
    refine W.widen (k := 1) (n := 6) (by omega) (by omega) ?_
    exact W.iret (v := r2) hx hb hr (fun t ht hW => ⟨⟨r2, S3, rfl, h, by rw [ht]; exact hP, hD⟩, hS.F ht⟩) hS.2.2 d_G_release_31
  have bk_19 : ∀ (S : SC) (y1 : Int32) (H : Heap) (locs : List Loc) , va_P D cls (wC ca ad S) H → va_D A (wC ca ad S) → va_S A s.heap H locs → ∀ (ls : Array Slot), lv_has ls 2 [(0, .ref (ad 0)), (1, .int y1)] → w_G_release_19 S y1 Q X → W p l e ({ frames := 7, cells := 1, slots := 6, locals := 101 } : Room) s m args below meth c H locs 0 0 (vx_MQ below ((fun A => va_Qi Q (xAt D (wC ca ad) A) A) A) ((fun A => xXf X D (wC ca ad) A) A) args s 1 6 A) (F0 m 19 ls []) := by
    intro S y1 H locs hP hD hS ls hl h
    unfold w_G_release_19 at h
    refine lv_iconst (v := 0) hx hb d_G_release_19 (by decide) ?_
    exact bk_20 S y1 0 H locs hP hD hS ls (lv_sub hl [0, 1] rfl) h
  have hH9 : ∀ H : Heap, H = s.heap → va_P D cls (wC ca ad S) H → va_S A s.heap H [] → W p l e ({ frames := 7, cells := 1, slots := 6, locals := 101 } : Room) s m args below meth c H [] 0 0 (vx_MQ below ((fun A => va_Qi Q (xAt D (wC ca ad) A) A) A) ((fun A => xXf X D (wC ca ad) A) A) args s 1 6 A) (F0 m 0 ls []) := by
    clear hP hS
    intro H hH hP hS
    obtain ⟨locs, hlo⟩ : ∃ z : List Loc, z = [] := ⟨_, rfl⟩
    rw [← hlo] at hS ⊢
    refine lv_iload_n hx hb d_G_release_0 rfl (lv_at hl 1 rfl) ?_
    refine lv_if_lt (tgt := 19) hx hb d_G_release_1 (by decide) (fun hc => ?_) (fun hc => ?_)
    · replace h := h.1 hc
      exact bk_19 S x1 H locs hP hD hS ls (lv_sub hl [0, 1] rfl) h
    · replace h := h.2 hc
      refine lv_iload_n hx hb d_G_release_4 rfl (lv_at hl 1 rfl) ?_
      refine lv_aload_n hx hb d_G_release_5 rfl (lv_at hl 0 rfl) ?_
      refine va_get (D := D) (ci := 3) (v := .ref (ad 1)) (C := Rc_G) (T := Fc_G) (N := 6) hx hb hw inc_G hown hK hP 0 rfl rfl 0 (by decide) (hw _ wd_132) (fun _ h9 => h9) rfl d_G_release_6 ?_
      refine va_getN (D := D) (ci := 0) (v := .int (S.1 5 0)) (C := Rc_L) (T := Fc_L) (N := 8) hx hb hw inc_L hown hK hP 1 rfl rfl 7 (by decide) (nw_37 hN) (fun _ h9 => h9) rfl d_G_release_9 ?_
      refine lv_icmp_ge (tgt := 19) hx hb d_G_release_12 (by decide) (fun hc => ?_) (fun hc => ?_)
      · replace h := h.1 hc
        exact bk_19 S x1 H locs hP hD hS ls (lv_sub hl [0, 1] rfl) h
      · replace h := h.2 hc
        refine lv_iconst (v := 1) hx hb d_G_release_15 (by decide) ?_
        refine lv_goto (tgt := 20) hx hb d_G_release_16 (by decide) ?_
        exact bk_20 S x1 1 H locs hP hD hS ls (lv_sub hl [0, 1] rfl) h
  exact hH9 _ rfl hP hS
theorem d_G_train_0 : decode b_G_train 0 = .ok (.aload_n 0, 1) := by decide +kernel
theorem d_G_train_1 : decode b_G_train 1 = .ok (.getfield 10, 3) := by decide +kernel
theorem d_G_train_4 : decode b_G_train 4 = .ok (.iload_n 1, 1) := by decide +kernel
theorem d_G_train_5 : decode b_G_train 5 = .ok (.invokevirtual 73, 3) := by decide +kernel
theorem d_G_train_8 : decode b_G_train 8 = .ok (.ifCond .eq 34, 3) := by decide +kernel
theorem d_G_train_11 : decode b_G_train 11 = .ok (.dload_n 2, 1) := by decide +kernel
theorem d_G_train_12 : decode b_G_train 12 = .ok (.ldc2_w 77, 3) := by decide +kernel
theorem d_G_train_15 : decode b_G_train 15 = .ok (.ldc2_w 23, 3) := by decide +kernel
theorem d_G_train_18 : decode b_G_train 18 = .ok (.invokestatic 27, 3) := by decide +kernel
theorem d_G_train_21 : decode b_G_train 21 = .ok (.ifCond .eq 21, 3) := by decide +kernel
theorem d_G_train_24 : decode b_G_train 24 = .ok (.dload 4, 2) := by decide +kernel
theorem d_G_train_26 : decode b_G_train 26 = .ok (.ldc2_w 79, 3) := by decide +kernel
theorem d_G_train_29 : decode b_G_train 29 = .ok (.ldc2_w 81, 3) := by decide +kernel
theorem d_G_train_32 : decode b_G_train 32 = .ok (.invokestatic 27, 3) := by decide +kernel
theorem d_G_train_35 : decode b_G_train 35 = .ok (.ifCond .eq 7, 3) := by decide +kernel
theorem d_G_train_38 : decode b_G_train 38 = .ok (.iconst 1, 1) := by decide +kernel
theorem d_G_train_39 : decode b_G_train 39 = .ok (.goto 4, 3) := by decide +kernel
theorem d_G_train_42 : decode b_G_train 42 = .ok (.iconst 0, 1) := by decide +kernel
theorem d_G_train_43 : decode b_G_train 43 = .ok (.invokestatic 35, 3) := by decide +kernel
theorem d_G_train_46 : decode b_G_train 46 = .ok (.dload_n 2, 1) := by decide +kernel
theorem d_G_train_47 : decode b_G_train 47 = .ok (.aload_n 0, 1) := by decide +kernel
theorem d_G_train_48 : decode b_G_train 48 = .ok (.getfield 10, 3) := by decide +kernel
theorem d_G_train_51 : decode b_G_train 51 = .ok (.iload_n 1, 1) := by decide +kernel
theorem d_G_train_52 : decode b_G_train 52 = .ok (.invokevirtual 83, 3) := by decide +kernel
theorem d_G_train_55 : decode b_G_train 55 = .ok (.dcmp .g, 1) := by decide +kernel
theorem d_G_train_56 : decode b_G_train 56 = .ok (.ifCond .gt 7, 3) := by decide +kernel
theorem d_G_train_59 : decode b_G_train 59 = .ok (.iconst 1, 1) := by decide +kernel
theorem d_G_train_60 : decode b_G_train 60 = .ok (.goto 4, 3) := by decide +kernel
theorem d_G_train_63 : decode b_G_train 63 = .ok (.iconst 0, 1) := by decide +kernel
theorem d_G_train_64 : decode b_G_train 64 = .ok (.invokestatic 35, 3) := by decide +kernel
theorem d_G_train_67 : decode b_G_train 67 = .ok (.aload_n 0, 1) := by decide +kernel
theorem d_G_train_68 : decode b_G_train 68 = .ok (.getfield 39, 3) := by decide +kernel
theorem d_G_train_71 : decode b_G_train 71 = .ok (.iconst 3, 1) := by decide +kernel
theorem d_G_train_72 : decode b_G_train 72 = .ok (.if_icmp .ge 16, 3) := by decide +kernel
theorem d_G_train_75 : decode b_G_train 75 = .ok (.aload_n 0, 1) := by decide +kernel
theorem d_G_train_76 : decode b_G_train 76 = .ok (.iconst (-1), 1) := by decide +kernel
theorem d_G_train_77 : decode b_G_train 77 = .ok (.iload_n 1, 1) := by decide +kernel
theorem d_G_train_78 : decode b_G_train 78 = .ok (.invokevirtual 87, 3) := by decide +kernel
theorem d_G_train_81 : decode b_G_train 81 = .ok (.ifCond .eq 7, 3) := by decide +kernel
theorem d_G_train_84 : decode b_G_train 84 = .ok (.iconst 1, 1) := by decide +kernel
theorem d_G_train_85 : decode b_G_train 85 = .ok (.goto 4, 3) := by decide +kernel
theorem d_G_train_88 : decode b_G_train 88 = .ok (.iconst 0, 1) := by decide +kernel
theorem d_G_train_89 : decode b_G_train 89 = .ok (.invokestatic 46, 3) := by decide +kernel
theorem d_G_train_92 : decode b_G_train 92 = .ok (.aload_n 0, 1) := by decide +kernel
theorem d_G_train_93 : decode b_G_train 93 = .ok (.getfield 39, 3) := by decide +kernel
theorem d_G_train_96 : decode b_G_train 96 = .ok (.istore 6, 2) := by decide +kernel
theorem d_G_train_98 : decode b_G_train 98 = .ok (.aload_n 0, 1) := by decide +kernel
theorem d_G_train_99 : decode b_G_train 99 = .ok (.dup, 1) := by decide +kernel
theorem d_G_train_100 : decode b_G_train 100 = .ok (.getfield 39, 3) := by decide +kernel
theorem d_G_train_103 : decode b_G_train 103 = .ok (.iconst 1, 1) := by decide +kernel
theorem d_G_train_104 : decode b_G_train 104 = .ok (.iadd, 1) := by decide +kernel
theorem d_G_train_105 : decode b_G_train 105 = .ok (.putfield 39, 3) := by decide +kernel
theorem d_G_train_108 : decode b_G_train 108 = .ok (.aload_n 0, 1) := by decide +kernel
theorem d_G_train_109 : decode b_G_train 109 = .ok (.getfield 18, 3) := by decide +kernel
theorem d_G_train_112 : decode b_G_train 112 = .ok (.iload 6, 2) := by decide +kernel
theorem d_G_train_114 : decode b_G_train 114 = .ok (.aaload, 1) := by decide +kernel
theorem d_G_train_115 : decode b_G_train 115 = .ok (.aload_n 0, 1) := by decide +kernel
theorem d_G_train_116 : decode b_G_train 116 = .ok (.getfield 10, 3) := by decide +kernel
theorem d_G_train_119 : decode b_G_train 119 = .ok (.iload_n 1, 1) := by decide +kernel
theorem d_G_train_120 : decode b_G_train 120 = .ok (.invokevirtual 91, 3) := by decide +kernel
theorem d_G_train_123 : decode b_G_train 123 = .ok (.dload_n 2, 1) := by decide +kernel
theorem d_G_train_124 : decode b_G_train 124 = .ok (.dload 4, 2) := by decide +kernel
theorem d_G_train_126 : decode b_G_train 126 = .ok (.invokevirtual 94, 3) := by decide +kernel
theorem d_G_train_129 : decode b_G_train 129 = .ok (.aload_n 0, 1) := by decide +kernel
theorem d_G_train_130 : decode b_G_train 130 = .ok (.getfield 10, 3) := by decide +kernel
theorem d_G_train_133 : decode b_G_train 133 = .ok (.getfield 98, 3) := by decide +kernel
theorem d_G_train_136 : decode b_G_train 136 = .ok (.iload_n 1, 1) := by decide +kernel
theorem d_G_train_137 : decode b_G_train 137 = .ok (.iload 6, 2) := by decide +kernel
theorem d_G_train_139 : decode b_G_train 139 = .ok (.iastore, 1) := by decide +kernel
theorem d_G_train_140 : decode b_G_train 140 = .ok (.iload 6, 2) := by decide +kernel
theorem d_G_train_142 : decode b_G_train 142 = .ok (.ireturn, 1) := by decide +kernel
theorem gl_G_73 : ∀ w ∈ wsV "TrainGuard" 73 "TrainGuard$Line" y_L_hasSection (Cond.code y_L_hasSection b_L_hasSection 2 (some Jvm.ClassFile.FieldType.boolean) :: tG), w ∈ tG := by
  intro x hx
  simp only [wsV, List.cons_append, List.nil_append, List.mem_cons] at hx
  rcases hx with rfl | rfl | rfl | rfl | rfl | hx
  · exact wd_316
  · exact wd_317
  · exact wd_318
  · exact wd_2
  · exact wd_319
  · exact hx
theorem gl_G_83 : ∀ w ∈ wsV "TrainGuard" 83 "TrainGuard$Line" y_L_lengthOf (Cond.code y_L_lengthOf b_L_lengthOf 2 (some Jvm.ClassFile.FieldType.double) :: tG), w ∈ tG := by
  intro x hx
  simp only [wsV, List.cons_append, List.nil_append, List.mem_cons] at hx
  rcases hx with rfl | rfl | rfl | rfl | rfl | hx
  · exact wd_323
  · exact wd_324
  · exact wd_325
  · exact wd_2
  · exact wd_326
  · exact hx
theorem gl_G_87 : ∀ w ∈ wsV "TrainGuard" 87 "TrainGuard" y_G_isFreeFor (Cond.code y_G_isFreeFor b_G_isFreeFor 4 (some Jvm.ClassFile.FieldType.boolean) :: tG), w ∈ tG := by
  intro x hx
  simp only [wsV, List.cons_append, List.nil_append, List.mem_cons] at hx
  rcases hx with rfl | rfl | rfl | rfl | rfl | hx
  · exact wd_335
  · exact wd_337
  · exact ws_2
  · exact wd_1
  · exact wd_338
  · exact hx
theorem gl_G_94 : ∀ w ∈ wsV "TrainGuard" 94 "TrainGuard$Train" y_T_putAt (Cond.code y_T_putAt b_T_putAt 7 none :: tG), w ∈ tG := by
  intro x hx
  simp only [wsV, List.cons_append, List.nil_append, List.mem_cons] at hx
  rcases hx with rfl | rfl | rfl | rfl | rfl | hx
  · exact wd_353
  · exact wd_354
  · exact wd_355
  · exact wd_3
  · exact wd_356
  · exact hx
def w_G_train_89 (S : SC) (y1 : Int32) (y2 : UInt64) (y4 : UInt64) (ys0 : Int32) (Q : Int32 → SC → Prop) (X : Nat → SC → Prop) : Prop := ((ys0 = 0) → X 3 S) ∧ ((¬ ys0 = 0) → ((fun S13 => ∀ a14 : Int32, a14 = (S13.1 0 0) + 1 → (vp_in (S13.1 0 0) 3 ∧ ((S13.1 0 0).toNatClampNeg < 3) ∧ (w_L_beginOf (pI S13 0 0 a14) y1 (fun r16 S17 => w_T_putAt S17 ((S13.1 0 0).toNatClampNeg) r16 y2 y4 (fun S18 => vp_in y1 10 ∧ (Q (S13.1 0 0) (pI S18 6 y1.toNatClampNeg (S13.1 0 0)))))))) S))
def w_G_train_88 (S : SC) (y1 : Int32) (y2 : UInt64) (y4 : UInt64) (Q : Int32 → SC → Prop) (X : Nat → SC → Prop) : Prop := w_G_train_89 S y1 y2 y4 0 Q X
def w_G_train_64 (S : SC) (y1 : Int32) (y2 : UInt64) (y4 : UInt64) (ys0 : Int32) (Q : Int32 → SC → Prop) (X : Nat → SC → Prop) : Prop := ((ys0 = 0) → X 1 S) ∧ ((¬ ys0 = 0) → ((fun S10 => ((3 ≤ (S10.1 0 0)) → (w_G_train_88 S10 y1 y2 y4 Q X)) ∧ ((¬ 3 ≤ (S10.1 0 0)) → (w_G_isFreeFor S10 (-1) y1 (fun r11 S12 => ((r11 = 0) → (w_G_train_88 S12 y1 y2 y4 Q X)) ∧ ((¬ r11 = 0) → (w_G_train_89 S12 y1 y2 y4 1 Q X)))))) S))
def w_G_train_43 (S : SC) (y1 : Int32) (y2 : UInt64) (y4 : UInt64) (ys0 : Int32) (Q : Int32 → SC → Prop) (X : Nat → SC → Prop) : Prop := ((ys0 = 0) → X 1 S) ∧ ((¬ ys0 = 0) → ((fun S7 => w_L_lengthOf S7 y1 (fun r8 S9 => ((0 < (Op.cmpValue (FP.dcmp y2 r8) .g)) → (w_G_train_64 S9 y1 y2 y4 0 Q X)) ∧ ((¬ 0 < (Op.cmpValue (FP.dcmp y2 r8) .g)) → (w_G_train_64 S9 y1 y2 y4 1 Q X)))) S))
def w_G_train_42 (S : SC) (y1 : Int32) (y2 : UInt64) (y4 : UInt64) (Q : Int32 → SC → Prop) (X : Nat → SC → Prop) : Prop := w_G_train_43 S y1 y2 y4 0 Q X
def w_G_train (S : SC) (x1 : Int32) (x2 : UInt64) (x3 : UInt64) (Q : Int32 → SC → Prop) (X : Nat → SC → Prop) : Prop := w_L_hasSection S x1 (fun r1 S2 => ((r1 = 0) → (w_G_train_42 S2 x1 x2 x3 Q X)) ∧ ((¬ r1 = 0) → (w_G_isWithin S2 x2 (4621819117588971520 : UInt64) (4632233691727265792 : UInt64) (fun r3 S4 => ((r3 = 0) → (w_G_train_42 S4 x1 x2 x3 Q X)) ∧ ((¬ r3 = 0) → (w_G_isWithin S4 x3 (4602678819172646912 : UInt64) (4611686018427387904 : UInt64) (fun r5 S6 => ((r5 = 0) → (w_G_train_42 S6 x1 x2 x3 Q X)) ∧ ((¬ r5 = 0) → (w_G_train_43 S6 x1 x2 x3 1 Q X)))))))))
set_option maxRecDepth 100000 in
set_option maxHeartbeats 4000000 in
theorem c_G_train (l : Launch) (hl0 : l.stackTraces = false) (D : va_G) (ca : Nat → ClassId) (ad : Nat → Nat) (sz : Nat) (S : SC) (x1 : Int32) (x2 : UInt64) (x3 : UInt64)  (Q : Int32 → SC → Prop) (X : Nat → SC → Prop) (h : w_G_train S x1 x2 x3 Q X) : vx_Met l y_G_train (Cond.code y_G_train b_G_train 7 (some Jvm.ClassFile.FieldType.int) :: tG) ({ frames := 7, cells := 1, slots := 6, locals := 101 } : Room) (xPx D ca (wC ca ad) S sz [.ref (ad 0), .int x1, .double x2, .double x3]) (va_Qi Q (xAt D (wC ca ad) (va_A (wC ca ad S) sz)) (va_A (wC ca ad S) sz)) (xXf X D (wC ca ad) (va_A (wC ca ad S) sz)) 1 6 (va_A (wC ca ad S) sz) := by
  refine xx_mex (Qf := fun A => va_Qi Q (xAt D (wC ca ad) A) A) (Xf := fun A => xXf X D (wC ca ad) A) (by decide) (Nat.le_of_ble_eq_true rfl) ?_
  intro p e s m args below meth c A ls hx hb hr hw hown hlocks hml hK hN hA hP hD hS hl hZ hout hX
  have hown : s.vm.findClass "TrainGuard" = some m.cls := hown
  have hl : lv_has ls 7 [(0, .ref (ad 0)), (1, .int x1), (2, .double x2), (4, .double x3)] := hl
  unfold w_G_train at h
  have bk_89 : ∀ (S : SC) (y1 : Int32) (y2 : UInt64) (y4 : UInt64) (ys0 : Int32) (H : Heap) (locs : List Loc) , va_P D cls (wC ca ad S) H → va_D A (wC ca ad S) → va_S A s.heap H locs → ∀ (ls : Array Slot), lv_has ls 7 [(0, .ref (ad 0)), (1, .int y1), (2, .double y2), (4, .double y4)] → w_G_train_89 S y1 y2 y4 ys0 Q X → W p l e ({ frames := 7, cells := 1, slots := 6, locals := 101 } : Room) s m args below meth c H locs 0 0 (vx_MQ below ((fun A => va_Qi Q (xAt D (wC ca ad) A) A) A) ((fun A => xXf X D (wC ca ad) A) A) args s 1 6 A) (F0 m 89 ls [.int ys0]) := by
    intro S y1 y2 y4 ys0 H locs hP hD hS ls hl h
    unfold w_G_train_89 at h
    by_cases hz : ys0 = 0
    · replace h := h.1 hz
      exact xx_thr (vx_runS (As := [.int ys0]) (rest := []) ⟨hx, hb, hml, hown, hw⟩ (c_G_demandState_no l hl0 D ca ad H.size S ys0 hz X h) (cwS 1 hw (tG_g gl_G_46) rfl rfl rfl (by decide +kernel) ⟨Nat.le_of_ble_eq_true rfl, Nat.le_of_ble_eq_true rfl⟩) ⟨xPx.blind, xPx.pre hK hN hP hD hX (hZ.now hS hA hD)⟩ rfl rfl hl.1 rfl (lv_room (Nat.le_of_ble_eq_true rfl)) d_G_train_89 ⟨Nat.le_of_ble_eq_true rfl, Nat.le_of_ble_eq_true rfl⟩) hD hS hA hout hlocks (Nat.le_of_ble_eq_true rfl) (Nat.le_of_ble_eq_true rfl)
    replace h := h.2 hz
    refine xx_callv (va_runS (As := [.int ys0]) (rest := []) ⟨hx, hb, hml, hown, hw⟩ (c_G_demandState_ok l D ca ad H.size S ys0 hz (fun S13 => ∀ a14 : Int32, a14 = (S13.1 0 0) + 1 → (vp_in (S13.1 0 0) 3 ∧ ((S13.1 0 0).toNatClampNeg < 3) ∧ (w_L_beginOf (pI S13 0 0 a14) y1 (fun r16 S17 => w_T_putAt S17 ((S13.1 0 0).toNatClampNeg) r16 y2 y4 (fun S18 => vp_in y1 10 ∧ (Q (S13.1 0 0) (pI S18 6 y1.toNatClampNeg (S13.1 0 0)))))))) h) (cwS 1 hw (tG_g gl_G_46) rfl rfl rfl (by decide +kernel) ⟨Nat.le_of_ble_eq_true rfl, Nat.le_of_ble_eq_true rfl⟩) ⟨xPc.blind, xPc.pre hK hN hP hD⟩ rfl rfl hl.1 rfl (lv_room (Nat.le_of_ble_eq_true rfl)) d_G_train_89 ⟨Nat.le_of_ble_eq_true rfl, Nat.le_of_ble_eq_true rfl⟩) hD hS hA (fun S13 H locs h hP hD hS => ?_)
    refine lv_aload_n hx hb d_G_train_92 rfl (lv_at hl 0 rfl) ?_
    refine va_get (D := D) (ci := 3) (v := .int (S13.1 0 0)) (C := Rc_G) (T := Fc_G) (N := 6) hx hb hw inc_G hown hK hP 0 rfl rfl 2 (by decide) (hw _ wd_134) (fun _ h9 => h9) rfl d_G_train_93 ?_
    refine lv_istore (lv' := [(6, .int (S13.1 0 0)), (0, .ref (ad 0)), (1, .int y1), (2, .double y2), (4, .double y4)]) hx hb d_G_train_96 hl (by decide) rfl (fun ls hl => ?_)
    refine lv_aload_n hx hb d_G_train_98 rfl (lv_at hl 1 rfl) ?_
    refine lv_dup hx hb d_G_train_99 rfl ?_
    refine va_get (D := D) (ci := 3) (v := .int (S13.1 0 0)) (C := Rc_G) (T := Fc_G) (N := 6) hx hb hw inc_G hown hK hP 0 rfl rfl 2 (by decide) (hw _ wd_134) (fun _ h9 => h9) rfl d_G_train_100 ?_
    refine lv_iconst (v := 1) hx hb d_G_train_103 (by decide) ?_
    refine lv_iadd hx hb d_G_train_104 ?_
    refine lv_topi (fun a14 e_a14 => ?_)
    replace h := h a14 e_a14
    refine va_put (D := D) (ci := 3) (v := .int a14) (ty := .int) (C := Rc_G) (T := Fc_G) (N := 6) hx hb hw inc_G tc_G tc_G_ok nc_G hown hK hP hD hS 0 rfl rfl 2 (by decide) (hw _ wd_134) (fun _ h9 => h9) rfl (by decide +kernel) rfl rfl (Nat.le_of_ble_eq_true rfl) d_G_train_105 (fun H locs hP hD hS => ?_)
    rw [pt_G_trainCount] at hP hD
    refine lv_aload_n hx hb d_G_train_108 rfl (lv_at hl 1 rfl) ?_
    refine va_get (D := D) (ci := 3) (v := .ref (ad 8)) (C := Rc_G) (T := Fc_G) (N := 6) hx hb hw inc_G hown hK hP 0 rfl rfl 1 (by decide) (hw _ wd_133) (fun _ h9 => h9) rfl d_G_train_109 ?_
    refine lv_iload hx hb d_G_train_112 (lv_at hl 0 rfl) ?_
    obtain ⟨hq, hj15, h⟩ := h
    refine va_aldq (D := D) hx hb hK hP 8 4 rfl rfl hq d_G_train_114 ?_
    refine W.eq (g2 := F0 m 115 ls (.ref (ad (9 + (S13.1 0 0).toNatClampNeg)) :: [])) rfl ?_
    refine lv_aload_n hx hb d_G_train_115 rfl (lv_at hl 1 rfl) ?_
    refine va_get (D := D) (ci := 3) (v := .ref (ad 1)) (C := Rc_G) (T := Fc_G) (N := 6) hx hb hw inc_G hown hK hP 0 rfl rfl 0 (by decide) (hw _ wd_132) (fun _ h9 => h9) rfl d_G_train_116 ?_
    refine lv_iload_n hx hb d_G_train_119 rfl (lv_at hl 2 rfl) ?_
    refine xx_calld (va_runV (As := [.int y1]) (rest := [.ref (ad (9 + (S13.1 0 0).toNatClampNeg))]) ⟨hx, hb, hml, hown, hw⟩ (c_L_beginOf l D ca ad H.size (pI S13 0 0 a14) y1 _ h) (cwV 1 hw (tG_g gl_G_91) rfl rfl rfl (by decide +kernel) ⟨Nat.le_of_ble_eq_true rfl, Nat.le_of_ble_eq_true rfl⟩) ⟨xPc.blind, va_recv hK hP rfl (q0 := 1) rfl, xPc.pre hK hN hP hD⟩ rfl rfl hl.1 rfl (lv_room (Nat.le_of_ble_eq_true rfl)) d_G_train_120 ⟨Nat.le_of_ble_eq_true rfl, Nat.le_of_ble_eq_true rfl⟩) hD hS hA (fun r16 S17 H locs h hP hD hS => ?_)
    refine lv_dload_n hx hb d_G_train_123 rfl (lv_at hl 3 rfl) ?_
    refine lv_dload hx hb d_G_train_124 (lv_at hl 4 rfl) ?_
    refine xx_callv (va_runV (As := [.double r16, .double y2, .double y4]) (rest := []) ⟨hx, hb, hml, hown, hw⟩ (c_T_putAt l D ca ad H.size S17 ((S13.1 0 0).toNatClampNeg) r16 y2 y4 hj15 _ h) (cwV 3 hw (tG_g gl_G_94) rfl rfl rfl (by decide +kernel) ⟨Nat.le_of_ble_eq_true rfl, Nat.le_of_ble_eq_true rfl⟩) ⟨xPc.blind, va_recv hK hP rfl (wC_T hj15), xPc.pre hK hN hP hD⟩ rfl rfl hl.1 rfl (lv_room (Nat.le_of_ble_eq_true rfl)) d_G_train_126 ⟨Nat.le_of_ble_eq_true rfl, Nat.le_of_ble_eq_true rfl⟩) hD hS hA (fun S18 H locs h hP hD hS => ?_)
    refine lv_aload_n hx hb d_G_train_129 rfl (lv_at hl 1 rfl) ?_
    refine va_get (D := D) (ci := 3) (v := .ref (ad 1)) (C := Rc_G) (T := Fc_G) (N := 6) hx hb hw inc_G hown hK hP 0 rfl rfl 0 (by decide) (hw _ wd_132) (fun _ h9 => h9) rfl d_G_train_130 ?_
    refine va_getN (D := D) (ci := 0) (v := .ref (ad 4)) (C := Rc_L) (T := Fc_L) (N := 8) hx hb hw inc_L hown hK hP 1 rfl rfl 2 (by decide) (nw_30 hN) (fun _ h9 => h9) rfl d_G_train_133 ?_
    refine lv_iload_n hx hb d_G_train_136 rfl (lv_at hl 2 rfl) ?_
    refine lv_iload hx hb d_G_train_137 (lv_at hl 0 rfl) ?_
    obtain ⟨hq, h⟩ := h
    refine va_iast (D := D) hx hb hK hP hD hS 4 0 rfl rfl hq d_G_train_139 (fun H locs hP hD hS => ?_)
    rw [pt_A_holders] at hP hD
    refine lv_iload hx hb d_G_train_140 (lv_at hl 0 rfl) ?_
    refine vx_ret ?_
    refine W.widen (k := 1) (n := 6) (by omega) (by omega) ?_
    exact W.iret (v := (S13.1 0 0)) hx hb hr (fun t ht hW => ⟨⟨S13.1 0 0, pI S18 6 y1.toNatClampNeg (S13.1 0 0), rfl, h, by rw [ht]; exact hP, hD⟩, hS.F ht⟩) hS.2.2 d_G_train_142
  have bk_88 : ∀ (S : SC) (y1 : Int32) (y2 : UInt64) (y4 : UInt64) (H : Heap) (locs : List Loc) , va_P D cls (wC ca ad S) H → va_D A (wC ca ad S) → va_S A s.heap H locs → ∀ (ls : Array Slot), lv_has ls 7 [(0, .ref (ad 0)), (1, .int y1), (2, .double y2), (4, .double y4)] → w_G_train_88 S y1 y2 y4 Q X → W p l e ({ frames := 7, cells := 1, slots := 6, locals := 101 } : Room) s m args below meth c H locs 0 0 (vx_MQ below ((fun A => va_Qi Q (xAt D (wC ca ad) A) A) A) ((fun A => xXf X D (wC ca ad) A) A) args s 1 6 A) (F0 m 88 ls []) := by
    intro S y1 y2 y4 H locs hP hD hS ls hl h
    unfold w_G_train_88 at h
    refine lv_iconst (v := 0) hx hb d_G_train_88 (by decide) ?_
    exact bk_89 S y1 y2 y4 0 H locs hP hD hS ls (lv_sub hl [0, 1, 2, 3] rfl) h
  have bk_64 : ∀ (S : SC) (y1 : Int32) (y2 : UInt64) (y4 : UInt64) (ys0 : Int32) (H : Heap) (locs : List Loc) , va_P D cls (wC ca ad S) H → va_D A (wC ca ad S) → va_S A s.heap H locs → ∀ (ls : Array Slot), lv_has ls 7 [(0, .ref (ad 0)), (1, .int y1), (2, .double y2), (4, .double y4)] → w_G_train_64 S y1 y2 y4 ys0 Q X → W p l e ({ frames := 7, cells := 1, slots := 6, locals := 101 } : Room) s m args below meth c H locs 0 0 (vx_MQ below ((fun A => va_Qi Q (xAt D (wC ca ad) A) A) A) ((fun A => xXf X D (wC ca ad) A) A) args s 1 6 A) (F0 m 64 ls [.int ys0]) := by
    intro S y1 y2 y4 ys0 H locs hP hD hS ls hl h
    unfold w_G_train_64 at h
    by_cases hz : ys0 = 0
    · replace h := h.1 hz
      exact xx_thr (vx_runS (As := [.int ys0]) (rest := []) ⟨hx, hb, hml, hown, hw⟩ (c_G_demandArgument_no l hl0 D ca ad H.size S ys0 hz X h) (cwS 1 hw (tG_g gl_G_35) rfl rfl rfl (by decide +kernel) ⟨Nat.le_of_ble_eq_true rfl, Nat.le_of_ble_eq_true rfl⟩) ⟨xPx.blind, xPx.pre hK hN hP hD hX (hZ.now hS hA hD)⟩ rfl rfl hl.1 rfl (lv_room (Nat.le_of_ble_eq_true rfl)) d_G_train_64 ⟨Nat.le_of_ble_eq_true rfl, Nat.le_of_ble_eq_true rfl⟩) hD hS hA hout hlocks (Nat.le_of_ble_eq_true rfl) (Nat.le_of_ble_eq_true rfl)
    replace h := h.2 hz
    refine xx_callv (va_runS (As := [.int ys0]) (rest := []) ⟨hx, hb, hml, hown, hw⟩ (c_G_demandArgument_ok l D ca ad H.size S ys0 hz (fun S10 => ((3 ≤ (S10.1 0 0)) → (w_G_train_88 S10 y1 y2 y4 Q X)) ∧ ((¬ 3 ≤ (S10.1 0 0)) → (w_G_isFreeFor S10 (-1) y1 (fun r11 S12 => ((r11 = 0) → (w_G_train_88 S12 y1 y2 y4 Q X)) ∧ ((¬ r11 = 0) → (w_G_train_89 S12 y1 y2 y4 1 Q X)))))) h) (cwS 1 hw (tG_g gl_G_35) rfl rfl rfl (by decide +kernel) ⟨Nat.le_of_ble_eq_true rfl, Nat.le_of_ble_eq_true rfl⟩) ⟨xPc.blind, xPc.pre hK hN hP hD⟩ rfl rfl hl.1 rfl (lv_room (Nat.le_of_ble_eq_true rfl)) d_G_train_64 ⟨Nat.le_of_ble_eq_true rfl, Nat.le_of_ble_eq_true rfl⟩) hD hS hA (fun S10 H locs h hP hD hS => ?_)
    refine lv_aload_n hx hb d_G_train_67 rfl (lv_at hl 0 rfl) ?_
    refine va_get (D := D) (ci := 3) (v := .int (S10.1 0 0)) (C := Rc_G) (T := Fc_G) (N := 6) hx hb hw inc_G hown hK hP 0 rfl rfl 2 (by decide) (hw _ wd_134) (fun _ h9 => h9) rfl d_G_train_68 ?_
    refine lv_iconst (v := 3) hx hb d_G_train_71 (by decide) ?_
    refine lv_icmp_ge (tgt := 88) hx hb d_G_train_72 (by decide) (fun hc => ?_) (fun hc => ?_)
    · replace h := h.1 hc
      exact bk_88 S10 y1 y2 y4 H locs hP hD hS ls (lv_sub hl [0, 1, 2, 3] rfl) h
    · replace h := h.2 hc
      refine lv_aload_n hx hb d_G_train_75 rfl (lv_at hl 0 rfl) ?_
      refine lv_iconst (v := (-1)) hx hb d_G_train_76 (by decide) ?_
      refine lv_iload_n hx hb d_G_train_77 rfl (lv_at hl 1 rfl) ?_
      refine xx_calli (va_runV (As := [.int (-1), .int y1]) (rest := []) ⟨hx, hb, hml, hown, hw⟩ (c_G_isFreeFor l D ca ad H.size S10 (-1) y1 _ h) (cwV 2 hw (tG_g gl_G_87) rfl rfl rfl (by decide +kernel) ⟨Nat.le_of_ble_eq_true rfl, Nat.le_of_ble_eq_true rfl⟩) ⟨xPc.blind, va_recv hK hP rfl (q0 := 0) rfl, xPc.pre hK hN hP hD⟩ rfl rfl hl.1 rfl (lv_room (Nat.le_of_ble_eq_true rfl)) d_G_train_78 ⟨Nat.le_of_ble_eq_true rfl, Nat.le_of_ble_eq_true rfl⟩) hD hS hA (fun r11 S12 H locs h hP hD hS => ?_)
      refine lv_if_eq (tgt := 88) hx hb d_G_train_81 (by decide) (fun hc => ?_) (fun hc => ?_)
      · replace h := h.1 hc
        exact bk_88 S12 y1 y2 y4 H locs hP hD hS ls (lv_sub hl [0, 1, 2, 3] rfl) h
      · replace h := h.2 hc
        refine lv_iconst (v := 1) hx hb d_G_train_84 (by decide) ?_
        refine lv_goto (tgt := 89) hx hb d_G_train_85 (by decide) ?_
        exact bk_89 S12 y1 y2 y4 1 H locs hP hD hS ls (lv_sub hl [0, 1, 2, 3] rfl) h
  have bk_43 : ∀ (S : SC) (y1 : Int32) (y2 : UInt64) (y4 : UInt64) (ys0 : Int32) (H : Heap) (locs : List Loc) , va_P D cls (wC ca ad S) H → va_D A (wC ca ad S) → va_S A s.heap H locs → ∀ (ls : Array Slot), lv_has ls 7 [(0, .ref (ad 0)), (1, .int y1), (2, .double y2), (4, .double y4)] → w_G_train_43 S y1 y2 y4 ys0 Q X → W p l e ({ frames := 7, cells := 1, slots := 6, locals := 101 } : Room) s m args below meth c H locs 0 0 (vx_MQ below ((fun A => va_Qi Q (xAt D (wC ca ad) A) A) A) ((fun A => xXf X D (wC ca ad) A) A) args s 1 6 A) (F0 m 43 ls [.int ys0]) := by
    intro S y1 y2 y4 ys0 H locs hP hD hS ls hl h
    unfold w_G_train_43 at h
    by_cases hz : ys0 = 0
    · replace h := h.1 hz
      exact xx_thr (vx_runS (As := [.int ys0]) (rest := []) ⟨hx, hb, hml, hown, hw⟩ (c_G_demandArgument_no l hl0 D ca ad H.size S ys0 hz X h) (cwS 1 hw (tG_g gl_G_35) rfl rfl rfl (by decide +kernel) ⟨Nat.le_of_ble_eq_true rfl, Nat.le_of_ble_eq_true rfl⟩) ⟨xPx.blind, xPx.pre hK hN hP hD hX (hZ.now hS hA hD)⟩ rfl rfl hl.1 rfl (lv_room (Nat.le_of_ble_eq_true rfl)) d_G_train_43 ⟨Nat.le_of_ble_eq_true rfl, Nat.le_of_ble_eq_true rfl⟩) hD hS hA hout hlocks (Nat.le_of_ble_eq_true rfl) (Nat.le_of_ble_eq_true rfl)
    replace h := h.2 hz
    refine xx_callv (va_runS (As := [.int ys0]) (rest := []) ⟨hx, hb, hml, hown, hw⟩ (c_G_demandArgument_ok l D ca ad H.size S ys0 hz (fun S7 => w_L_lengthOf S7 y1 (fun r8 S9 => ((0 < (Op.cmpValue (FP.dcmp y2 r8) .g)) → (w_G_train_64 S9 y1 y2 y4 0 Q X)) ∧ ((¬ 0 < (Op.cmpValue (FP.dcmp y2 r8) .g)) → (w_G_train_64 S9 y1 y2 y4 1 Q X)))) h) (cwS 1 hw (tG_g gl_G_35) rfl rfl rfl (by decide +kernel) ⟨Nat.le_of_ble_eq_true rfl, Nat.le_of_ble_eq_true rfl⟩) ⟨xPc.blind, xPc.pre hK hN hP hD⟩ rfl rfl hl.1 rfl (lv_room (Nat.le_of_ble_eq_true rfl)) d_G_train_43 ⟨Nat.le_of_ble_eq_true rfl, Nat.le_of_ble_eq_true rfl⟩) hD hS hA (fun S7 H locs h hP hD hS => ?_)
    refine lv_dload_n hx hb d_G_train_46 rfl (lv_at hl 2 rfl) ?_
    refine lv_aload_n hx hb d_G_train_47 rfl (lv_at hl 0 rfl) ?_
    refine va_get (D := D) (ci := 3) (v := .ref (ad 1)) (C := Rc_G) (T := Fc_G) (N := 6) hx hb hw inc_G hown hK hP 0 rfl rfl 0 (by decide) (hw _ wd_132) (fun _ h9 => h9) rfl d_G_train_48 ?_
    refine lv_iload_n hx hb d_G_train_51 rfl (lv_at hl 1 rfl) ?_
    refine xx_calld (va_runV (As := [.int y1]) (rest := [.double y2]) ⟨hx, hb, hml, hown, hw⟩ (c_L_lengthOf l D ca ad H.size S7 y1 _ h) (cwV 1 hw (tG_g gl_G_83) rfl rfl rfl (by decide +kernel) ⟨Nat.le_of_ble_eq_true rfl, Nat.le_of_ble_eq_true rfl⟩) ⟨xPc.blind, va_recv hK hP rfl (q0 := 1) rfl, xPc.pre hK hN hP hD⟩ rfl rfl hl.1 rfl (lv_room (Nat.le_of_ble_eq_true rfl)) d_G_train_52 ⟨Nat.le_of_ble_eq_true rfl, Nat.le_of_ble_eq_true rfl⟩) hD hS hA (fun r8 S9 H locs h hP hD hS => ?_)
    refine lv_dcmp hx hb d_G_train_55 ?_
    refine lv_if_gt (tgt := 63) hx hb d_G_train_56 (by decide) (fun hc => ?_) (fun hc => ?_)
    · replace h := h.1 hc
      refine lv_iconst (v := 0) hx hb d_G_train_63 (by decide) ?_
      exact bk_64 S9 y1 y2 y4 0 H locs hP hD hS ls (lv_sub hl [0, 1, 2, 3] rfl) h
    · replace h := h.2 hc
      refine lv_iconst (v := 1) hx hb d_G_train_59 (by decide) ?_
      refine lv_goto (tgt := 64) hx hb d_G_train_60 (by decide) ?_
      exact bk_64 S9 y1 y2 y4 1 H locs hP hD hS ls (lv_sub hl [0, 1, 2, 3] rfl) h
  have bk_42 : ∀ (S : SC) (y1 : Int32) (y2 : UInt64) (y4 : UInt64) (H : Heap) (locs : List Loc) , va_P D cls (wC ca ad S) H → va_D A (wC ca ad S) → va_S A s.heap H locs → ∀ (ls : Array Slot), lv_has ls 7 [(0, .ref (ad 0)), (1, .int y1), (2, .double y2), (4, .double y4)] → w_G_train_42 S y1 y2 y4 Q X → W p l e ({ frames := 7, cells := 1, slots := 6, locals := 101 } : Room) s m args below meth c H locs 0 0 (vx_MQ below ((fun A => va_Qi Q (xAt D (wC ca ad) A) A) A) ((fun A => xXf X D (wC ca ad) A) A) args s 1 6 A) (F0 m 42 ls []) := by
    intro S y1 y2 y4 H locs hP hD hS ls hl h
    unfold w_G_train_42 at h
    refine lv_iconst (v := 0) hx hb d_G_train_42 (by decide) ?_
    exact bk_43 S y1 y2 y4 0 H locs hP hD hS ls (lv_sub hl [0, 1, 2, 3] rfl) h
  have hH9 : ∀ H : Heap, H = s.heap → va_P D cls (wC ca ad S) H → va_S A s.heap H [] → W p l e ({ frames := 7, cells := 1, slots := 6, locals := 101 } : Room) s m args below meth c H [] 0 0 (vx_MQ below ((fun A => va_Qi Q (xAt D (wC ca ad) A) A) A) ((fun A => xXf X D (wC ca ad) A) A) args s 1 6 A) (F0 m 0 ls []) := by
    clear hP hS
    intro H hH hP hS
    obtain ⟨locs, hlo⟩ : ∃ z : List Loc, z = [] := ⟨_, rfl⟩
    rw [← hlo] at hS ⊢
    refine lv_aload_n hx hb d_G_train_0 rfl (lv_at hl 0 rfl) ?_
    refine va_get (D := D) (ci := 3) (v := .ref (ad 1)) (C := Rc_G) (T := Fc_G) (N := 6) hx hb hw inc_G hown hK hP 0 rfl rfl 0 (by decide) (hw _ wd_132) (fun _ h9 => h9) rfl d_G_train_1 ?_
    refine lv_iload_n hx hb d_G_train_4 rfl (lv_at hl 1 rfl) ?_
    refine xx_calli (va_runV (As := [.int x1]) (rest := []) ⟨hx, hb, hml, hown, hw⟩ (c_L_hasSection l D ca ad H.size S x1 _ h) (cwV 1 hw (tG_g gl_G_73) rfl rfl rfl (by decide +kernel) ⟨Nat.le_of_ble_eq_true rfl, Nat.le_of_ble_eq_true rfl⟩) ⟨xPc.blind, va_recv hK hP rfl (q0 := 1) rfl, xPc.pre hK hN hP hD⟩ rfl rfl hl.1 rfl (lv_room (Nat.le_of_ble_eq_true rfl)) d_G_train_5 ⟨Nat.le_of_ble_eq_true rfl, Nat.le_of_ble_eq_true rfl⟩) hD hS hA (fun r1 S2 H locs h hP hD hS => ?_)
    refine lv_if_eq (tgt := 42) hx hb d_G_train_8 (by decide) (fun hc => ?_) (fun hc => ?_)
    · replace h := h.1 hc
      exact bk_42 S2 x1 x2 x3 H locs hP hD hS ls (lv_sub hl [0, 1, 2, 3] rfl) h
    · replace h := h.2 hc
      refine lv_dload_n hx hb d_G_train_11 rfl (lv_at hl 2 rfl) ?_
      refine lv_ldc2d hx hb hown (hw _ wd_320) d_G_train_12 ?_
      refine lv_ldc2d hx hb hown (hw _ wd_166) d_G_train_15 ?_
      refine xx_calli (va_runS (As := [.double x2, .double (4621819117588971520 : UInt64), .double (4632233691727265792 : UInt64)]) (rest := []) ⟨hx, hb, hml, hown, hw⟩ (c_G_isWithin l D ca ad H.size S2 x2 (4621819117588971520 : UInt64) (4632233691727265792 : UInt64) _ h) (cwS 3 hw (tG_g gl_G_27) rfl rfl rfl (by decide +kernel) ⟨Nat.le_of_ble_eq_true rfl, Nat.le_of_ble_eq_true rfl⟩) ⟨xPc.blind, xPc.pre hK hN hP hD⟩ rfl rfl hl.1 rfl (lv_room (Nat.le_of_ble_eq_true rfl)) d_G_train_18 ⟨Nat.le_of_ble_eq_true rfl, Nat.le_of_ble_eq_true rfl⟩) hD hS hA (fun r3 S4 H locs h hP hD hS => ?_)
      refine lv_if_eq (tgt := 42) hx hb d_G_train_21 (by decide) (fun hc => ?_) (fun hc => ?_)
      · replace h := h.1 hc
        exact bk_42 S4 x1 x2 x3 H locs hP hD hS ls (lv_sub hl [0, 1, 2, 3] rfl) h
      · replace h := h.2 hc
        refine lv_dload hx hb d_G_train_24 (lv_at hl 3 rfl) ?_
        refine lv_ldc2d hx hb hown (hw _ wd_321) d_G_train_26 ?_
        refine lv_ldc2d hx hb hown (hw _ wd_322) d_G_train_29 ?_
        refine xx_calli (va_runS (As := [.double x3, .double (4602678819172646912 : UInt64), .double (4611686018427387904 : UInt64)]) (rest := []) ⟨hx, hb, hml, hown, hw⟩ (c_G_isWithin l D ca ad H.size S4 x3 (4602678819172646912 : UInt64) (4611686018427387904 : UInt64) _ h) (cwS 3 hw (tG_g gl_G_27) rfl rfl rfl (by decide +kernel) ⟨Nat.le_of_ble_eq_true rfl, Nat.le_of_ble_eq_true rfl⟩) ⟨xPc.blind, xPc.pre hK hN hP hD⟩ rfl rfl hl.1 rfl (lv_room (Nat.le_of_ble_eq_true rfl)) d_G_train_32 ⟨Nat.le_of_ble_eq_true rfl, Nat.le_of_ble_eq_true rfl⟩) hD hS hA (fun r5 S6 H locs h hP hD hS => ?_)
        refine lv_if_eq (tgt := 42) hx hb d_G_train_35 (by decide) (fun hc => ?_) (fun hc => ?_)
        · replace h := h.1 hc
          exact bk_42 S6 x1 x2 x3 H locs hP hD hS ls (lv_sub hl [0, 1, 2, 3] rfl) h
        · replace h := h.2 hc
          refine lv_iconst (v := 1) hx hb d_G_train_38 (by decide) ?_
          refine lv_goto (tgt := 43) hx hb d_G_train_39 (by decide) ?_
          exact bk_43 S6 x1 x2 x3 1 H locs hP hD hS ls (lv_sub hl [0, 1, 2, 3] rfl) h
  exact hH9 _ rfl hP hS
theorem d_G_limit_0 : decode b_G_limit 0 = .ok (.aload_n 0, 1) := by decide +kernel
theorem d_G_limit_1 : decode b_G_limit 1 = .ok (.getfield 10, 3) := by decide +kernel
theorem d_G_limit_4 : decode b_G_limit 4 = .ok (.getfield 43, 3) := by decide +kernel
theorem d_G_limit_7 : decode b_G_limit 7 = .ok (.ifCond .le 22, 3) := by decide +kernel
theorem d_G_limit_10 : decode b_G_limit 10 = .ok (.dload_n 1, 1) := by decide +kernel
theorem d_G_limit_11 : decode b_G_limit 11 = .ok (.dconst 0, 1) := by decide +kernel
theorem d_G_limit_12 : decode b_G_limit 12 = .ok (.aload_n 0, 1) := by decide +kernel
theorem d_G_limit_13 : decode b_G_limit 13 = .ok (.getfield 10, 3) := by decide +kernel
theorem d_G_limit_16 : decode b_G_limit 16 = .ok (.invokevirtual 217, 3) := by decide +kernel
theorem d_G_limit_19 : decode b_G_limit 19 = .ok (.invokestatic 27, 3) := by decide +kernel
theorem d_G_limit_22 : decode b_G_limit 22 = .ok (.ifCond .eq 7, 3) := by decide +kernel
theorem d_G_limit_25 : decode b_G_limit 25 = .ok (.iconst 1, 1) := by decide +kernel
theorem d_G_limit_26 : decode b_G_limit 26 = .ok (.goto 4, 3) := by decide +kernel
theorem d_G_limit_29 : decode b_G_limit 29 = .ok (.iconst 0, 1) := by decide +kernel
theorem d_G_limit_30 : decode b_G_limit 30 = .ok (.invokestatic 35, 3) := by decide +kernel
theorem d_G_limit_33 : decode b_G_limit 33 = .ok (.aload_n 0, 1) := by decide +kernel
theorem d_G_limit_34 : decode b_G_limit 34 = .ok (.getfield 10, 3) := by decide +kernel
theorem d_G_limit_37 : decode b_G_limit 37 = .ok (.dload_n 1, 1) := by decide +kernel
theorem d_G_limit_38 : decode b_G_limit 38 = .ok (.invokevirtual 220, 3) := by decide +kernel
theorem d_G_limit_41 : decode b_G_limit 41 = .ok (.dreturn, 1) := by decide +kernel
theorem gl_G_217 : ∀ w ∈ wsV "TrainGuard" 217 "TrainGuard$Line" y_L_lineEnd (Cond.code y_L_lineEnd b_L_lineEnd 1 (some Jvm.ClassFile.FieldType.double) :: tG), w ∈ tG := by
  intro x hx
  simp only [wsV, List.cons_append, List.nil_append, List.mem_cons] at hx
  rcases hx with rfl | rfl | rfl | rfl | rfl | hx
  · exact wd_569
  · exact wd_395
  · exact wd_396
  · exact wd_2
  · exact wd_397
  · exact hx
theorem gl_G_220 : ∀ w ∈ wsV "TrainGuard" 220 "TrainGuard$Line" y_L_limitAt (Cond.code y_L_limitAt b_L_limitAt 6 (some Jvm.ClassFile.FieldType.double) :: tG), w ∈ tG := by
  intro x hx
  simp only [wsV, List.cons_append, List.nil_append, List.mem_cons] at hx
  rcases hx with rfl | rfl | rfl | rfl | rfl | hx
  · exact wd_570
  · exact wd_391
  · exact wd_392
  · exact wd_2
  · exact wd_393
  · exact hx
def w_G_limit_30 (S : SC) (y1 : UInt64) (ys0 : Int32) (Q : UInt64 → SC → Prop) (X : Nat → SC → Prop) : Prop := ((ys0 = 0) → X 1 S) ∧ ((¬ ys0 = 0) → ((fun S5 => w_L_limitAt S5 y1 (fun r6 S7 => Q r6 S7)) S))
def w_G_limit_29 (S : SC) (y1 : UInt64) (Q : UInt64 → SC → Prop) (X : Nat → SC → Prop) : Prop := w_G_limit_30 S y1 0 Q X
def w_G_limit (S : SC) (x1 : UInt64) (Q : UInt64 → SC → Prop) (X : Nat → SC → Prop) : Prop := (((S.1 4 0) ≤ 0) → (w_G_limit_29 S x1 Q X)) ∧ ((¬ (S.1 4 0) ≤ 0) → (w_L_lineEnd S (fun r1 S2 => w_G_isWithin S2 x1 FP.dconst0 r1 (fun r3 S4 => ((r3 = 0) → (w_G_limit_29 S4 x1 Q X)) ∧ ((¬ r3 = 0) → (w_G_limit_30 S4 x1 1 Q X))))))
set_option maxRecDepth 100000 in
set_option maxHeartbeats 4000000 in
theorem c_G_limit (l : Launch) (hl0 : l.stackTraces = false) (D : va_G) (ca : Nat → ClassId) (ad : Nat → Nat) (sz : Nat) (S : SC) (x1 : UInt64)  (Q : UInt64 → SC → Prop) (X : Nat → SC → Prop) (h : w_G_limit S x1 Q X) : vx_Met l y_G_limit (Cond.code y_G_limit b_G_limit 3 (some Jvm.ClassFile.FieldType.double) :: tG) ({ frames := 7, cells := 1, slots := 6, locals := 101 } : Room) (xPx D ca (wC ca ad) S sz [.ref (ad 0), .double x1]) (va_Qd Q (xAt D (wC ca ad) (va_A (wC ca ad S) sz)) (va_A (wC ca ad S) sz)) (xXf X D (wC ca ad) (va_A (wC ca ad S) sz)) 1 6 (va_A (wC ca ad S) sz) := by
  refine xx_mex (Qf := fun A => va_Qd Q (xAt D (wC ca ad) A) A) (Xf := fun A => xXf X D (wC ca ad) A) (by decide) (Nat.le_of_ble_eq_true rfl) ?_
  intro p e s m args below meth c A ls hx hb hr hw hown hlocks hml hK hN hA hP hD hS hl hZ hout hX
  have hown : s.vm.findClass "TrainGuard" = some m.cls := hown
  have hl : lv_has ls 3 [(0, .ref (ad 0)), (1, .double x1)] := hl
  unfold w_G_limit at h
  have bk_30 : ∀ (S : SC) (y1 : UInt64) (ys0 : Int32) (H : Heap) (locs : List Loc) , va_P D cls (wC ca ad S) H → va_D A (wC ca ad S) → va_S A s.heap H locs → ∀ (ls : Array Slot), lv_has ls 3 [(0, .ref (ad 0)), (1, .double y1)] → w_G_limit_30 S y1 ys0 Q X → W p l e ({ frames := 7, cells := 1, slots := 6, locals := 101 } : Room) s m args below meth c H locs 0 0 (vx_MQ below ((fun A => va_Qd Q (xAt D (wC ca ad) A) A) A) ((fun A => xXf X D (wC ca ad) A) A) args s 1 6 A) (F0 m 30 ls [.int ys0]) := by
    intro S y1 ys0 H locs hP hD hS ls hl h
    unfold w_G_limit_30 at h
    by_cases hz : ys0 = 0
    · replace h := h.1 hz
      exact xx_thr (vx_runS (As := [.int ys0]) (rest := []) ⟨hx, hb, hml, hown, hw⟩ (c_G_demandArgument_no l hl0 D ca ad H.size S ys0 hz X h) (cwS 1 hw (tG_g gl_G_35) rfl rfl rfl (by decide +kernel) ⟨Nat.le_of_ble_eq_true rfl, Nat.le_of_ble_eq_true rfl⟩) ⟨xPx.blind, xPx.pre hK hN hP hD hX (hZ.now hS hA hD)⟩ rfl rfl hl.1 rfl (lv_room (Nat.le_of_ble_eq_true rfl)) d_G_limit_30 ⟨Nat.le_of_ble_eq_true rfl, Nat.le_of_ble_eq_true rfl⟩) hD hS hA hout hlocks (Nat.le_of_ble_eq_true rfl) (Nat.le_of_ble_eq_true rfl)
    replace h := h.2 hz
    refine xx_callv (va_runS (As := [.int ys0]) (rest := []) ⟨hx, hb, hml, hown, hw⟩ (c_G_demandArgument_ok l D ca ad H.size S ys0 hz (fun S5 => w_L_limitAt S5 y1 (fun r6 S7 => Q r6 S7)) h) (cwS 1 hw (tG_g gl_G_35) rfl rfl rfl (by decide +kernel) ⟨Nat.le_of_ble_eq_true rfl, Nat.le_of_ble_eq_true rfl⟩) ⟨xPc.blind, xPc.pre hK hN hP hD⟩ rfl rfl hl.1 rfl (lv_room (Nat.le_of_ble_eq_true rfl)) d_G_limit_30 ⟨Nat.le_of_ble_eq_true rfl, Nat.le_of_ble_eq_true rfl⟩) hD hS hA (fun S5 H locs h hP hD hS => ?_)
    refine lv_aload_n hx hb d_G_limit_33 rfl (lv_at hl 0 rfl) ?_
    refine va_get (D := D) (ci := 3) (v := .ref (ad 1)) (C := Rc_G) (T := Fc_G) (N := 6) hx hb hw inc_G hown hK hP 0 rfl rfl 0 (by decide) (hw _ wd_132) (fun _ h9 => h9) rfl d_G_limit_34 ?_
    refine lv_dload_n hx hb d_G_limit_37 rfl (lv_at hl 1 rfl) ?_
    refine xx_calld (va_runV (As := [.double y1]) (rest := []) ⟨hx, hb, hml, hown, hw⟩ (c_L_limitAt l D ca ad H.size S5 y1 _ h) (cwV 1 hw (tG_g gl_G_220) rfl rfl rfl (by decide +kernel) ⟨Nat.le_of_ble_eq_true rfl, Nat.le_of_ble_eq_true rfl⟩) ⟨xPc.blind, va_recv hK hP rfl (q0 := 1) rfl, xPc.pre hK hN hP hD⟩ rfl rfl hl.1 rfl (lv_room (Nat.le_of_ble_eq_true rfl)) d_G_limit_38 ⟨Nat.le_of_ble_eq_true rfl, Nat.le_of_ble_eq_true rfl⟩) hD hS hA (fun r6 S7 H locs h hP hD hS => ?_)
    refine vx_ret ?_
    refine W.widen (k := 1) (n := 6) (by omega) (by omega) ?_
    exact W.dret (v := r6) hx hb hr (fun t ht hW => ⟨⟨r6, S7, rfl, h, by rw [ht]; exact hP, hD⟩, hS.F ht⟩) hS.2.2 d_G_limit_41
  have bk_29 : ∀ (S : SC) (y1 : UInt64) (H : Heap) (locs : List Loc) , va_P D cls (wC ca ad S) H → va_D A (wC ca ad S) → va_S A s.heap H locs → ∀ (ls : Array Slot), lv_has ls 3 [(0, .ref (ad 0)), (1, .double y1)] → w_G_limit_29 S y1 Q X → W p l e ({ frames := 7, cells := 1, slots := 6, locals := 101 } : Room) s m args below meth c H locs 0 0 (vx_MQ below ((fun A => va_Qd Q (xAt D (wC ca ad) A) A) A) ((fun A => xXf X D (wC ca ad) A) A) args s 1 6 A) (F0 m 29 ls []) := by
    intro S y1 H locs hP hD hS ls hl h
    unfold w_G_limit_29 at h
    refine lv_iconst (v := 0) hx hb d_G_limit_29 (by decide) ?_
    exact bk_30 S y1 0 H locs hP hD hS ls (lv_sub hl [0, 1] rfl) h
  have hH9 : ∀ H : Heap, H = s.heap → va_P D cls (wC ca ad S) H → va_S A s.heap H [] → W p l e ({ frames := 7, cells := 1, slots := 6, locals := 101 } : Room) s m args below meth c H [] 0 0 (vx_MQ below ((fun A => va_Qd Q (xAt D (wC ca ad) A) A) A) ((fun A => xXf X D (wC ca ad) A) A) args s 1 6 A) (F0 m 0 ls []) := by
    clear hP hS
    intro H hH hP hS
    obtain ⟨locs, hlo⟩ : ∃ z : List Loc, z = [] := ⟨_, rfl⟩
    rw [← hlo] at hS ⊢
    refine lv_aload_n hx hb d_G_limit_0 rfl (lv_at hl 0 rfl) ?_
    refine va_get (D := D) (ci := 3) (v := .ref (ad 1)) (C := Rc_G) (T := Fc_G) (N := 6) hx hb hw inc_G hown hK hP 0 rfl rfl 0 (by decide) (hw _ wd_132) (fun _ h9 => h9) rfl d_G_limit_1 ?_
    refine va_getN (D := D) (ci := 0) (v := .int (S.1 4 0)) (C := Rc_L) (T := Fc_L) (N := 8) hx hb hw inc_L hown hK hP 1 rfl rfl 6 (by decide) (nw_35 hN) (fun _ h9 => h9) rfl d_G_limit_4 ?_
    refine lv_if_le (tgt := 29) hx hb d_G_limit_7 (by decide) (fun hc => ?_) (fun hc => ?_)
    · replace h := h.1 hc
      exact bk_29 S x1 H locs hP hD hS ls (lv_sub hl [0, 1] rfl) h
    · replace h := h.2 hc
      refine lv_dload_n hx hb d_G_limit_10 rfl (lv_at hl 1 rfl) ?_
      refine lv_dconst0 hx hb d_G_limit_11 ?_
      refine lv_aload_n hx hb d_G_limit_12 rfl (lv_at hl 0 rfl) ?_
      refine va_get (D := D) (ci := 3) (v := .ref (ad 1)) (C := Rc_G) (T := Fc_G) (N := 6) hx hb hw inc_G hown hK hP 0 rfl rfl 0 (by decide) (hw _ wd_132) (fun _ h9 => h9) rfl d_G_limit_13 ?_
      refine xx_calld (va_runV (As := []) (rest := [.double FP.dconst0, .double x1]) ⟨hx, hb, hml, hown, hw⟩ (c_L_lineEnd l D ca ad H.size S _ h) (cwV 0 hw (tG_g gl_G_217) rfl rfl rfl (by decide +kernel) ⟨Nat.le_of_ble_eq_true rfl, Nat.le_of_ble_eq_true rfl⟩) ⟨xPc.blind, va_recv hK hP rfl (q0 := 1) rfl, xPc.pre hK hN hP hD⟩ rfl rfl hl.1 rfl (lv_room (Nat.le_of_ble_eq_true rfl)) d_G_limit_16 ⟨Nat.le_of_ble_eq_true rfl, Nat.le_of_ble_eq_true rfl⟩) hD hS hA (fun r1 S2 H locs h hP hD hS => ?_)
      refine xx_calli (va_runS (As := [.double x1, .double FP.dconst0, .double r1]) (rest := []) ⟨hx, hb, hml, hown, hw⟩ (c_G_isWithin l D ca ad H.size S2 x1 FP.dconst0 r1 _ h) (cwS 3 hw (tG_g gl_G_27) rfl rfl rfl (by decide +kernel) ⟨Nat.le_of_ble_eq_true rfl, Nat.le_of_ble_eq_true rfl⟩) ⟨xPc.blind, xPc.pre hK hN hP hD⟩ rfl rfl hl.1 rfl (lv_room (Nat.le_of_ble_eq_true rfl)) d_G_limit_19 ⟨Nat.le_of_ble_eq_true rfl, Nat.le_of_ble_eq_true rfl⟩) hD hS hA (fun r3 S4 H locs h hP hD hS => ?_)
      refine lv_if_eq (tgt := 29) hx hb d_G_limit_22 (by decide) (fun hc => ?_) (fun hc => ?_)
      · replace h := h.1 hc
        exact bk_29 S4 x1 H locs hP hD hS ls (lv_sub hl [0, 1] rfl) h
      · replace h := h.2 hc
        refine lv_iconst (v := 1) hx hb d_G_limit_25 (by decide) ?_
        refine lv_goto (tgt := 30) hx hb d_G_limit_26 (by decide) ?_
        exact bk_30 S4 x1 1 H locs hP hD hS ls (lv_sub hl [0, 1] rfl) h
  exact hH9 _ rfl hP hS
theorem d_G_holds_0 : decode b_G_holds 0 = .ok (.aload_n 0, 1) := by decide +kernel
theorem d_G_holds_1 : decode b_G_holds 1 = .ok (.getfield 10, 3) := by decide +kernel
theorem d_G_holds_4 : decode b_G_holds 4 = .ok (.iload_n 1, 1) := by decide +kernel
theorem d_G_holds_5 : decode b_G_holds 5 = .ok (.invokevirtual 73, 3) := by decide +kernel
theorem d_G_holds_8 : decode b_G_holds 8 = .ok (.ifCond .eq 16, 3) := by decide +kernel
theorem d_G_holds_11 : decode b_G_holds 11 = .ok (.iload_n 2, 1) := by decide +kernel
theorem d_G_holds_12 : decode b_G_holds 12 = .ok (.ifCond .eq 8, 3) := by decide +kernel
theorem d_G_holds_15 : decode b_G_holds 15 = .ok (.iload_n 2, 1) := by decide +kernel
theorem d_G_holds_16 : decode b_G_holds 16 = .ok (.iconst 1, 1) := by decide +kernel
theorem d_G_holds_17 : decode b_G_holds 17 = .ok (.if_icmp .ne 7, 3) := by decide +kernel
theorem d_G_holds_20 : decode b_G_holds 20 = .ok (.iconst 1, 1) := by decide +kernel
theorem d_G_holds_21 : decode b_G_holds 21 = .ok (.goto 4, 3) := by decide +kernel
theorem d_G_holds_24 : decode b_G_holds 24 = .ok (.iconst 0, 1) := by decide +kernel
theorem d_G_holds_25 : decode b_G_holds 25 = .ok (.invokestatic 35, 3) := by decide +kernel
theorem d_G_holds_28 : decode b_G_holds 28 = .ok (.iload_n 2, 1) := by decide +kernel
theorem d_G_holds_29 : decode b_G_holds 29 = .ok (.ifCond .ne 15, 3) := by decide +kernel
theorem d_G_holds_32 : decode b_G_holds 32 = .ok (.aload_n 0, 1) := by decide +kernel
theorem d_G_holds_33 : decode b_G_holds 33 = .ok (.getfield 10, 3) := by decide +kernel
theorem d_G_holds_36 : decode b_G_holds 36 = .ok (.getfield 98, 3) := by decide +kernel
theorem d_G_holds_39 : decode b_G_holds 39 = .ok (.iload_n 1, 1) := by decide +kernel
theorem d_G_holds_40 : decode b_G_holds 40 = .ok (.iaload, 1) := by decide +kernel
theorem d_G_holds_41 : decode b_G_holds 41 = .ok (.goto 9, 3) := by decide +kernel
theorem d_G_holds_44 : decode b_G_holds 44 = .ok (.aload_n 0, 1) := by decide +kernel
theorem d_G_holds_45 : decode b_G_holds 45 = .ok (.iload_n 1, 1) := by decide +kernel
theorem d_G_holds_46 : decode b_G_holds 46 = .ok (.iconst (-1), 1) := by decide +kernel
theorem d_G_holds_47 : decode b_G_holds 47 = .ok (.invokevirtual 224, 3) := by decide +kernel
theorem d_G_holds_50 : decode b_G_holds 50 = .ok (.ireturn, 1) := by decide +kernel
def w_G_holds_25 (S : SC) (y1 : Int32) (y2 : Int32) (ys0 : Int32) (Q : Int32 → SC → Prop) (X : Nat → SC → Prop) : Prop := ((ys0 = 0) → X 1 S) ∧ ((¬ ys0 = 0) → ((fun S3 => ((¬ y2 = 0) → (w_G_firstTrainIn S3 y1 (-1) (fun r4 S5 => Q r4 S5))) ∧ ((y2 = 0) → (vp_in y1 10 ∧ (Q (S3.1 6 y1.toNatClampNeg) S3)))) S))
def w_G_holds_24 (S : SC) (y1 : Int32) (y2 : Int32) (Q : Int32 → SC → Prop) (X : Nat → SC → Prop) : Prop := w_G_holds_25 S y1 y2 0 Q X
def w_G_holds_20 (S : SC) (y1 : Int32) (y2 : Int32) (Q : Int32 → SC → Prop) (X : Nat → SC → Prop) : Prop := w_G_holds_25 S y1 y2 1 Q X
def w_G_holds (S : SC) (x1 : Int32) (x2 : Int32) (Q : Int32 → SC → Prop) (X : Nat → SC → Prop) : Prop := w_L_hasSection S x1 (fun r1 S2 => ((r1 = 0) → (w_G_holds_24 S2 x1 x2 Q X)) ∧ ((¬ r1 = 0) → (((x2 = 0) → (w_G_holds_20 S2 x1 x2 Q X)) ∧ ((¬ x2 = 0) → (((¬ x2 = 1) → (w_G_holds_24 S2 x1 x2 Q X)) ∧ ((x2 = 1) → (w_G_holds_20 S2 x1 x2 Q X)))))))
set_option maxRecDepth 100000 in
set_option maxHeartbeats 4000000 in
theorem c_G_holds (l : Launch) (hl0 : l.stackTraces = false) (D : va_G) (ca : Nat → ClassId) (ad : Nat → Nat) (sz : Nat) (S : SC) (x1 : Int32) (x2 : Int32)  (Q : Int32 → SC → Prop) (X : Nat → SC → Prop) (h : w_G_holds S x1 x2 Q X) : vx_Met l y_G_holds (Cond.code y_G_holds b_G_holds 3 (some Jvm.ClassFile.FieldType.int) :: tG) ({ frames := 7, cells := 1, slots := 6, locals := 101 } : Room) (xPx D ca (wC ca ad) S sz [.ref (ad 0), .int x1, .int x2]) (va_Qi Q (xAt D (wC ca ad) (va_A (wC ca ad S) sz)) (va_A (wC ca ad S) sz)) (xXf X D (wC ca ad) (va_A (wC ca ad S) sz)) 1 6 (va_A (wC ca ad S) sz) := by
  refine xx_mex (Qf := fun A => va_Qi Q (xAt D (wC ca ad) A) A) (Xf := fun A => xXf X D (wC ca ad) A) (by decide) (Nat.le_of_ble_eq_true rfl) ?_
  intro p e s m args below meth c A ls hx hb hr hw hown hlocks hml hK hN hA hP hD hS hl hZ hout hX
  have hown : s.vm.findClass "TrainGuard" = some m.cls := hown
  have hl : lv_has ls 3 [(0, .ref (ad 0)), (1, .int x1), (2, .int x2)] := hl
  unfold w_G_holds at h
  have bk_25 : ∀ (S : SC) (y1 : Int32) (y2 : Int32) (ys0 : Int32) (H : Heap) (locs : List Loc) , va_P D cls (wC ca ad S) H → va_D A (wC ca ad S) → va_S A s.heap H locs → ∀ (ls : Array Slot), lv_has ls 3 [(0, .ref (ad 0)), (1, .int y1), (2, .int y2)] → w_G_holds_25 S y1 y2 ys0 Q X → W p l e ({ frames := 7, cells := 1, slots := 6, locals := 101 } : Room) s m args below meth c H locs 0 0 (vx_MQ below ((fun A => va_Qi Q (xAt D (wC ca ad) A) A) A) ((fun A => xXf X D (wC ca ad) A) A) args s 1 6 A) (F0 m 25 ls [.int ys0]) := by
    intro S y1 y2 ys0 H locs hP hD hS ls hl h
    unfold w_G_holds_25 at h
    by_cases hz : ys0 = 0
    · replace h := h.1 hz
      exact xx_thr (vx_runS (As := [.int ys0]) (rest := []) ⟨hx, hb, hml, hown, hw⟩ (c_G_demandArgument_no l hl0 D ca ad H.size S ys0 hz X h) (cwS 1 hw (tG_g gl_G_35) rfl rfl rfl (by decide +kernel) ⟨Nat.le_of_ble_eq_true rfl, Nat.le_of_ble_eq_true rfl⟩) ⟨xPx.blind, xPx.pre hK hN hP hD hX (hZ.now hS hA hD)⟩ rfl rfl hl.1 rfl (lv_room (Nat.le_of_ble_eq_true rfl)) d_G_holds_25 ⟨Nat.le_of_ble_eq_true rfl, Nat.le_of_ble_eq_true rfl⟩) hD hS hA hout hlocks (Nat.le_of_ble_eq_true rfl) (Nat.le_of_ble_eq_true rfl)
    replace h := h.2 hz
    refine xx_callv (va_runS (As := [.int ys0]) (rest := []) ⟨hx, hb, hml, hown, hw⟩ (c_G_demandArgument_ok l D ca ad H.size S ys0 hz (fun S3 => ((¬ y2 = 0) → (w_G_firstTrainIn S3 y1 (-1) (fun r4 S5 => Q r4 S5))) ∧ ((y2 = 0) → (vp_in y1 10 ∧ (Q (S3.1 6 y1.toNatClampNeg) S3)))) h) (cwS 1 hw (tG_g gl_G_35) rfl rfl rfl (by decide +kernel) ⟨Nat.le_of_ble_eq_true rfl, Nat.le_of_ble_eq_true rfl⟩) ⟨xPc.blind, xPc.pre hK hN hP hD⟩ rfl rfl hl.1 rfl (lv_room (Nat.le_of_ble_eq_true rfl)) d_G_holds_25 ⟨Nat.le_of_ble_eq_true rfl, Nat.le_of_ble_eq_true rfl⟩) hD hS hA (fun S3 H locs h hP hD hS => ?_)
    refine lv_iload_n hx hb d_G_holds_28 rfl (lv_at hl 2 rfl) ?_
    refine lv_if_ne (tgt := 44) hx hb d_G_holds_29 (by decide) (fun hc => ?_) (fun hc => ?_)
    · replace h := h.1 hc
      refine lv_aload_n hx hb d_G_holds_44 rfl (lv_at hl 0 rfl) ?_
      refine lv_iload_n hx hb d_G_holds_45 rfl (lv_at hl 1 rfl) ?_
      refine lv_iconst (v := (-1)) hx hb d_G_holds_46 (by decide) ?_
      refine xx_calli (va_runV (As := [.int y1, .int (-1)]) (rest := []) ⟨hx, hb, hml, hown, hw⟩ (c_G_firstTrainIn l D ca ad H.size S3 y1 (-1) _ h) (cwV 2 hw (tG_g gl_G_224) rfl rfl rfl (by decide +kernel) ⟨Nat.le_of_ble_eq_true rfl, Nat.le_of_ble_eq_true rfl⟩) ⟨xPc.blind, va_recv hK hP rfl (q0 := 0) rfl, xPc.pre hK hN hP hD⟩ rfl rfl hl.1 rfl (lv_room (Nat.le_of_ble_eq_true rfl)) d_G_holds_47 ⟨Nat.le_of_ble_eq_true rfl, Nat.le_of_ble_eq_true rfl⟩) hD hS hA (fun r4 S5 H locs h hP hD hS => ?_)
      refine vx_ret ?_
      refine W.widen (k := 1) (n := 6) (by omega) (by omega) ?_
      exact W.iret (v := r4) hx hb hr (fun t ht hW => ⟨⟨r4, S5, rfl, h, by rw [ht]; exact hP, hD⟩, hS.F ht⟩) hS.2.2 d_G_holds_50
    · replace h := h.2 hc
      refine lv_aload_n hx hb d_G_holds_32 rfl (lv_at hl 0 rfl) ?_
      refine va_get (D := D) (ci := 3) (v := .ref (ad 1)) (C := Rc_G) (T := Fc_G) (N := 6) hx hb hw inc_G hown hK hP 0 rfl rfl 0 (by decide) (hw _ wd_132) (fun _ h9 => h9) rfl d_G_holds_33 ?_
      refine va_getN (D := D) (ci := 0) (v := .ref (ad 4)) (C := Rc_L) (T := Fc_L) (N := 8) hx hb hw inc_L hown hK hP 1 rfl rfl 2 (by decide) (nw_30 hN) (fun _ h9 => h9) rfl d_G_holds_36 ?_
      refine lv_iload_n hx hb d_G_holds_39 rfl (lv_at hl 1 rfl) ?_
      obtain ⟨hq, h⟩ := h
      refine va_iald (D := D) hx hb hK hP 4 0 rfl rfl hq d_G_holds_40 ?_
      refine lv_goto (tgt := 50) hx hb d_G_holds_41 (by decide) ?_
      refine vx_ret ?_
      refine W.widen (k := 1) (n := 6) (by omega) (by omega) ?_
      exact W.iret (v := (S3.1 6 y1.toNatClampNeg)) hx hb hr (fun t ht hW => ⟨⟨S3.1 6 y1.toNatClampNeg, S3, rfl, h, by rw [ht]; exact hP, hD⟩, hS.F ht⟩) hS.2.2 d_G_holds_50
  have bk_24 : ∀ (S : SC) (y1 : Int32) (y2 : Int32) (H : Heap) (locs : List Loc) , va_P D cls (wC ca ad S) H → va_D A (wC ca ad S) → va_S A s.heap H locs → ∀ (ls : Array Slot), lv_has ls 3 [(0, .ref (ad 0)), (1, .int y1), (2, .int y2)] → w_G_holds_24 S y1 y2 Q X → W p l e ({ frames := 7, cells := 1, slots := 6, locals := 101 } : Room) s m args below meth c H locs 0 0 (vx_MQ below ((fun A => va_Qi Q (xAt D (wC ca ad) A) A) A) ((fun A => xXf X D (wC ca ad) A) A) args s 1 6 A) (F0 m 24 ls []) := by
    intro S y1 y2 H locs hP hD hS ls hl h
    unfold w_G_holds_24 at h
    refine lv_iconst (v := 0) hx hb d_G_holds_24 (by decide) ?_
    exact bk_25 S y1 y2 0 H locs hP hD hS ls (lv_sub hl [0, 1, 2] rfl) h
  have bk_20 : ∀ (S : SC) (y1 : Int32) (y2 : Int32) (H : Heap) (locs : List Loc) , va_P D cls (wC ca ad S) H → va_D A (wC ca ad S) → va_S A s.heap H locs → ∀ (ls : Array Slot), lv_has ls 3 [(0, .ref (ad 0)), (1, .int y1), (2, .int y2)] → w_G_holds_20 S y1 y2 Q X → W p l e ({ frames := 7, cells := 1, slots := 6, locals := 101 } : Room) s m args below meth c H locs 0 0 (vx_MQ below ((fun A => va_Qi Q (xAt D (wC ca ad) A) A) A) ((fun A => xXf X D (wC ca ad) A) A) args s 1 6 A) (F0 m 20 ls []) := by
    intro S y1 y2 H locs hP hD hS ls hl h
    unfold w_G_holds_20 at h
    refine lv_iconst (v := 1) hx hb d_G_holds_20 (by decide) ?_
    refine lv_goto (tgt := 25) hx hb d_G_holds_21 (by decide) ?_
    exact bk_25 S y1 y2 1 H locs hP hD hS ls (lv_sub hl [0, 1, 2] rfl) h
  have hH9 : ∀ H : Heap, H = s.heap → va_P D cls (wC ca ad S) H → va_S A s.heap H [] → W p l e ({ frames := 7, cells := 1, slots := 6, locals := 101 } : Room) s m args below meth c H [] 0 0 (vx_MQ below ((fun A => va_Qi Q (xAt D (wC ca ad) A) A) A) ((fun A => xXf X D (wC ca ad) A) A) args s 1 6 A) (F0 m 0 ls []) := by
    clear hP hS
    intro H hH hP hS
    obtain ⟨locs, hlo⟩ : ∃ z : List Loc, z = [] := ⟨_, rfl⟩
    rw [← hlo] at hS ⊢
    refine lv_aload_n hx hb d_G_holds_0 rfl (lv_at hl 0 rfl) ?_
    refine va_get (D := D) (ci := 3) (v := .ref (ad 1)) (C := Rc_G) (T := Fc_G) (N := 6) hx hb hw inc_G hown hK hP 0 rfl rfl 0 (by decide) (hw _ wd_132) (fun _ h9 => h9) rfl d_G_holds_1 ?_
    refine lv_iload_n hx hb d_G_holds_4 rfl (lv_at hl 1 rfl) ?_
    refine xx_calli (va_runV (As := [.int x1]) (rest := []) ⟨hx, hb, hml, hown, hw⟩ (c_L_hasSection l D ca ad H.size S x1 _ h) (cwV 1 hw (tG_g gl_G_73) rfl rfl rfl (by decide +kernel) ⟨Nat.le_of_ble_eq_true rfl, Nat.le_of_ble_eq_true rfl⟩) ⟨xPc.blind, va_recv hK hP rfl (q0 := 1) rfl, xPc.pre hK hN hP hD⟩ rfl rfl hl.1 rfl (lv_room (Nat.le_of_ble_eq_true rfl)) d_G_holds_5 ⟨Nat.le_of_ble_eq_true rfl, Nat.le_of_ble_eq_true rfl⟩) hD hS hA (fun r1 S2 H locs h hP hD hS => ?_)
    refine lv_if_eq (tgt := 24) hx hb d_G_holds_8 (by decide) (fun hc => ?_) (fun hc => ?_)
    · replace h := h.1 hc
      exact bk_24 S2 x1 x2 H locs hP hD hS ls (lv_sub hl [0, 1, 2] rfl) h
    · replace h := h.2 hc
      refine lv_iload_n hx hb d_G_holds_11 rfl (lv_at hl 2 rfl) ?_
      refine lv_if_eq (tgt := 20) hx hb d_G_holds_12 (by decide) (fun hc => ?_) (fun hc => ?_)
      · replace h := h.1 hc
        exact bk_20 S2 x1 x2 H locs hP hD hS ls (lv_sub hl [0, 1, 2] rfl) h
      · replace h := h.2 hc
        refine lv_iload_n hx hb d_G_holds_15 rfl (lv_at hl 2 rfl) ?_
        refine lv_iconst (v := 1) hx hb d_G_holds_16 (by decide) ?_
        refine lv_icmp_ne (tgt := 24) hx hb d_G_holds_17 (by decide) (fun hc => ?_) (fun hc => ?_)
        · replace h := h.1 hc
          exact bk_24 S2 x1 x2 H locs hP hD hS ls (lv_sub hl [0, 1, 2] rfl) h
        · replace h := h.2 hc
          exact bk_20 S2 x1 x2 H locs hP hD hS ls (lv_sub hl [0, 1, 2] rfl) h
  exact hH9 _ rfl hP hS
