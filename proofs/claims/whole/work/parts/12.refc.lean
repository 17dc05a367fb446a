theorem d_R_wish_0 : decode b_R_wish 0 = .ok (.aload_n 0, 1) := by decide +kernel
theorem d_R_wish_1 : decode b_R_wish 1 = .ok (.getfield 35, 3) := by decide +kernel
theorem d_R_wish_4 : decode b_R_wish 4 = .ok (.iload_n 1, 1) := by decide +kernel
theorem d_R_wish_5 : decode b_R_wish 5 = .ok (.laload, 1) := by decide +kernel
theorem d_R_wish_6 : decode b_R_wish 6 = .ok (.lstore 4, 2) := by decide +kernel
theorem d_R_wish_8 : decode b_R_wish 8 = .ok (.lload 4, 2) := by decide +kernel
theorem d_R_wish_10 : decode b_R_wish 10 = .ok (.lload_n 2, 1) := by decide +kernel
theorem d_R_wish_11 : decode b_R_wish 11 = .ok (.ladd, 1) := by decide +kernel
theorem d_R_wish_12 : decode b_R_wish 12 = .ok (.lconst 0, 1) := by decide +kernel
theorem d_R_wish_13 : decode b_R_wish 13 = .ok (.lcmp, 1) := by decide +kernel
theorem d_R_wish_14 : decode b_R_wish 14 = .ok (.ifCond .le 10, 3) := by decide +kernel
theorem d_R_wish_17 : decode b_R_wish 17 = .ok (.lload 4, 2) := by decide +kernel
theorem d_R_wish_19 : decode b_R_wish 19 = .ok (.lload_n 2, 1) := by decide +kernel
theorem d_R_wish_20 : decode b_R_wish 20 = .ok (.ladd, 1) := by decide +kernel
theorem d_R_wish_21 : decode b_R_wish 21 = .ok (.goto 4, 3) := by decide +kernel
theorem d_R_wish_24 : decode b_R_wish 24 = .ok (.lconst 0, 1) := by decide +kernel
theorem d_R_wish_25 : decode b_R_wish 25 = .ok (.lstore 6, 2) := by decide +kernel
theorem d_R_wish_27 : decode b_R_wish 27 = .ok (.aload_n 0, 1) := by decide +kernel
theorem d_R_wish_28 : decode b_R_wish 28 = .ok (.getfield 50, 3) := by decide +kernel
theorem d_R_wish_31 : decode b_R_wish 31 = .ok (.iload_n 1, 1) := by decide +kernel
theorem d_R_wish_32 : decode b_R_wish 32 = .ok (.iaload, 1) := by decide +kernel
theorem d_R_wish_33 : decode b_R_wish 33 = .ok (.iconst 1, 1) := by decide +kernel
theorem d_R_wish_34 : decode b_R_wish 34 = .ok (.if_icmp .ne 17, 3) := by decide +kernel
theorem d_R_wish_37 : decode b_R_wish 37 = .ok (.lload 6, 2) := by decide +kernel
theorem d_R_wish_39 : decode b_R_wish 39 = .ok (.ldc2_w 177, 3) := by decide +kernel
theorem d_R_wish_42 : decode b_R_wish 42 = .ok (.lcmp, 1) := by decide +kernel
theorem d_R_wish_43 : decode b_R_wish 43 = .ok (.ifCond .le 8, 3) := by decide +kernel
theorem d_R_wish_46 : decode b_R_wish 46 = .ok (.ldc2_w 177, 3) := by decide +kernel
theorem d_R_wish_49 : decode b_R_wish 49 = .ok (.lstore 6, 2) := by decide +kernel
theorem d_R_wish_51 : decode b_R_wish 51 = .ok (.aload_n 0, 1) := by decide +kernel
theorem d_R_wish_52 : decode b_R_wish 52 = .ok (.getfield 53, 3) := by decide +kernel
theorem d_R_wish_55 : decode b_R_wish 55 = .ok (.iload_n 1, 1) := by decide +kernel
theorem d_R_wish_56 : decode b_R_wish 56 = .ok (.baload, 1) := by decide +kernel
theorem d_R_wish_57 : decode b_R_wish 57 = .ok (.ifCond .eq 16, 3) := by decide +kernel
theorem d_R_wish_60 : decode b_R_wish 60 = .ok (.aload_n 0, 1) := by decide +kernel
theorem d_R_wish_61 : decode b_R_wish 61 = .ok (.getfield 32, 3) := by decide +kernel
theorem d_R_wish_64 : decode b_R_wish 64 = .ok (.iload_n 1, 1) := by decide +kernel
theorem d_R_wish_65 : decode b_R_wish 65 = .ok (.laload, 1) := by decide +kernel
theorem d_R_wish_66 : decode b_R_wish 66 = .ok (.ldc2_w 131, 3) := by decide +kernel
theorem d_R_wish_69 : decode b_R_wish 69 = .ok (.ldiv, 1) := by decide +kernel
theorem d_R_wish_70 : decode b_R_wish 70 = .ok (.goto 9, 3) := by decide +kernel
theorem d_R_wish_73 : decode b_R_wish 73 = .ok (.aload_n 0, 1) := by decide +kernel
theorem d_R_wish_74 : decode b_R_wish 74 = .ok (.getfield 32, 3) := by decide +kernel
theorem d_R_wish_77 : decode b_R_wish 77 = .ok (.iload_n 1, 1) := by decide +kernel
theorem d_R_wish_78 : decode b_R_wish 78 = .ok (.laload, 1) := by decide +kernel
theorem d_R_wish_79 : decode b_R_wish 79 = .ok (.lstore 8, 2) := by decide +kernel
theorem d_R_wish_81 : decode b_R_wish 81 = .ok (.lload 4, 2) := by decide +kernel
theorem d_R_wish_83 : decode b_R_wish 83 = .ok (.lload 8, 2) := by decide +kernel
theorem d_R_wish_85 : decode b_R_wish 85 = .ok (.lsub, 1) := by decide +kernel
theorem d_R_wish_86 : decode b_R_wish 86 = .ok (.lconst 0, 1) := by decide +kernel
theorem d_R_wish_87 : decode b_R_wish 87 = .ok (.lcmp, 1) := by decide +kernel
theorem d_R_wish_88 : decode b_R_wish 88 = .ok (.ifCond .le 11, 3) := by decide +kernel
theorem d_R_wish_91 : decode b_R_wish 91 = .ok (.lload 4, 2) := by decide +kernel
theorem d_R_wish_93 : decode b_R_wish 93 = .ok (.lload 8, 2) := by decide +kernel
theorem d_R_wish_95 : decode b_R_wish 95 = .ok (.lsub, 1) := by decide +kernel
theorem d_R_wish_96 : decode b_R_wish 96 = .ok (.goto 4, 3) := by decide +kernel
theorem d_R_wish_99 : decode b_R_wish 99 = .ok (.lconst 0, 1) := by decide +kernel
theorem d_R_wish_100 : decode b_R_wish 100 = .ok (.lstore 10, 2) := by decide +kernel
theorem d_R_wish_102 : decode b_R_wish 102 = .ok (.aload_n 0, 1) := by decide +kernel
theorem d_R_wish_103 : decode b_R_wish 103 = .ok (.getfield 50, 3) := by decide +kernel
theorem d_R_wish_106 : decode b_R_wish 106 = .ok (.iload_n 1, 1) := by decide +kernel
theorem d_R_wish_107 : decode b_R_wish 107 = .ok (.iaload, 1) := by decide +kernel
theorem d_R_wish_108 : decode b_R_wish 108 = .ok (.iconst 3, 1) := by decide +kernel
theorem d_R_wish_109 : decode b_R_wish 109 = .ok (.if_icmp .ne 6, 3) := by decide +kernel
theorem d_R_wish_112 : decode b_R_wish 112 = .ok (.lload 10, 2) := by decide +kernel
theorem d_R_wish_114 : decode b_R_wish 114 = .ok (.lreturn, 1) := by decide +kernel
theorem d_R_wish_115 : decode b_R_wish 115 = .ok (.lload 4, 2) := by decide +kernel
theorem d_R_wish_117 : decode b_R_wish 117 = .ok (.lload 6, 2) := by decide +kernel
theorem d_R_wish_119 : decode b_R_wish 119 = .ok (.ladd, 1) := by decide +kernel
theorem d_R_wish_120 : decode b_R_wish 120 = .ok (.ldc2_w 131, 3) := by decide +kernel
theorem d_R_wish_123 : decode b_R_wish 123 = .ok (.ldiv, 1) := by decide +kernel
theorem d_R_wish_124 : decode b_R_wish 124 = .ok (.lstore 12, 2) := by decide +kernel
theorem d_R_wish_126 : decode b_R_wish 126 = .ok (.aload_n 0, 1) := by decide +kernel
theorem d_R_wish_127 : decode b_R_wish 127 = .ok (.getfield 50, 3) := by decide +kernel
theorem d_R_wish_130 : decode b_R_wish 130 = .ok (.iload_n 1, 1) := by decide +kernel
theorem d_R_wish_131 : decode b_R_wish 131 = .ok (.iaload, 1) := by decide +kernel
theorem d_R_wish_132 : decode b_R_wish 132 = .ok (.iconst 1, 1) := by decide +kernel
theorem d_R_wish_133 : decode b_R_wish 133 = .ok (.if_icmp .eq 35, 3) := by decide +kernel
theorem d_R_wish_136 : decode b_R_wish 136 = .ok (.aload_n 0, 1) := by decide +kernel
theorem d_R_wish_137 : decode b_R_wish 137 = .ok (.iload_n 1, 1) := by decide +kernel
theorem d_R_wish_138 : decode b_R_wish 138 = .ok (.aload_n 0, 1) := by decide +kernel
theorem d_R_wish_139 : decode b_R_wish 139 = .ok (.getfield 41, 3) := by decide +kernel
theorem d_R_wish_142 : decode b_R_wish 142 = .ok (.iload_n 1, 1) := by decide +kernel
theorem d_R_wish_143 : decode b_R_wish 143 = .ok (.laload, 1) := by decide +kernel
theorem d_R_wish_144 : decode b_R_wish 144 = .ok (.lload 12, 2) := by decide +kernel
theorem d_R_wish_146 : decode b_R_wish 146 = .ok (.ladd, 1) := by decide +kernel
theorem d_R_wish_147 : decode b_R_wish 147 = .ok (.aload_n 0, 1) := by decide +kernel
theorem d_R_wish_148 : decode b_R_wish 148 = .ok (.getfield 44, 3) := by decide +kernel
theorem d_R_wish_151 : decode b_R_wish 151 = .ok (.iload_n 1, 1) := by decide +kernel
theorem d_R_wish_152 : decode b_R_wish 152 = .ok (.laload, 1) := by decide +kernel
theorem d_R_wish_153 : decode b_R_wish 153 = .ok (.lload 12, 2) := by decide +kernel
theorem d_R_wish_155 : decode b_R_wish 155 = .ok (.ldc2_w 137, 3) := by decide +kernel
theorem d_R_wish_158 : decode b_R_wish 158 = .ok (.ldiv, 1) := by decide +kernel
theorem d_R_wish_159 : decode b_R_wish 159 = .ok (.ladd, 1) := by decide +kernel
theorem d_R_wish_160 : decode b_R_wish 160 = .ok (.lload 6, 2) := by decide +kernel
theorem d_R_wish_162 : decode b_R_wish 162 = .ok (.invokevirtual 154, 3) := by decide +kernel
theorem d_R_wish_165 : decode b_R_wish 165 = .ok (.ifCond .eq 6, 3) := by decide +kernel
theorem d_R_wish_168 : decode b_R_wish 168 = .ok (.lload 6, 2) := by decide +kernel
theorem d_R_wish_170 : decode b_R_wish 170 = .ok (.lreturn, 1) := by decide +kernel
theorem d_R_wish_171 : decode b_R_wish 171 = .ok (.aload_n 0, 1) := by decide +kernel
theorem d_R_wish_172 : decode b_R_wish 172 = .ok (.dup, 1) := by decide +kernel
theorem d_R_wish_173 : decode b_R_wish 173 = .ok (.getfield 179, 3) := by decide +kernel
theorem d_R_wish_176 : decode b_R_wish 176 = .ok (.iconst 1, 1) := by decide +kernel
theorem d_R_wish_177 : decode b_R_wish 177 = .ok (.iadd, 1) := by decide +kernel
theorem d_R_wish_178 : decode b_R_wish 178 = .ok (.putfield 179, 3) := by decide +kernel
theorem d_R_wish_181 : decode b_R_wish 181 = .ok (.lload 10, 2) := by decide +kernel
theorem d_R_wish_183 : decode b_R_wish 183 = .ok (.lreturn, 1) := by decide +kernel
def w_R_wish_100 (S : SR) (y1 : Int32) (y4 : Int64) (y6 : Int64) (ys0 : Int64) (Q : Int64 → SR → Prop) : Prop := vp_in y1 3 ∧ (((¬ (S.1 8 y1.toNatClampNeg) = 3) → (∀ b6 : Int64, b6 = y4 + y6 → (∀ b7 : Int64, b7 = b6 / (2 : Int64) → (vp_in y1 3 ∧ ((((S.1 8 y1.toNatClampNeg) = 1) → (Q y6 S)) ∧ ((¬ (S.1 8 y1.toNatClampNeg) = 1) → (vp_in y1 3 ∧ (∀ b8 : Int64, b8 = (S.2 9 y1.toNatClampNeg) + b7 → (vp_in y1 3 ∧ (∀ b9 : Int64, b9 = b7 / (8 : Int64) → (∀ b10 : Int64, b10 = (S.2 10 y1.toNatClampNeg) + b9 → (w_R_safe S y1 b8 b10 y6 (fun r11 S12 => ((r11 = 0) → (∀ a13 : Int32, a13 = (S12.1 5 0) + 1 → (Q ys0 (pI S12 5 0 a13)))) ∧ ((¬ r11 = 0) → (Q y6 S12))))))))))))))) ∧ (((S.1 8 y1.toNatClampNeg) = 3) → (Q ys0 S)))
def w_R_wish_79 (S : SR) (y1 : Int32) (y4 : Int64) (y6 : Int64) (ys0 : Int64) (Q : Int64 → SR → Prop) : Prop := ∀ b4 : Int64, b4 = y4 - ys0 → ((((lg_cmp b4 0) ≤ 0) → (w_R_wish_100 S y1 y4 y6 0 Q)) ∧ ((¬ (lg_cmp b4 0) ≤ 0) → (∀ b5 : Int64, b5 = y4 - ys0 → (w_R_wish_100 S y1 y4 y6 b5 Q))))
def w_R_wish_51 (S : SR) (y1 : Int32) (y4 : Int64) (y6 : Int64) (Q : Int64 → SR → Prop) : Prop := vp_in y1 3 ∧ ((((S.1 9 y1.toNatClampNeg) = 0) → (vp_in y1 3 ∧ (w_R_wish_79 S y1 y4 y6 (S.2 6 y1.toNatClampNeg) Q))) ∧ ((¬ (S.1 9 y1.toNatClampNeg) = 0) → (vp_in y1 3 ∧ (∀ b3 : Int64, b3 = (S.2 6 y1.toNatClampNeg) / (2 : Int64) → (w_R_wish_79 S y1 y4 y6 b3 Q)))))
def w_R_wish_25 (S : SR) (y1 : Int32) (y4 : Int64) (ys0 : Int64) (Q : Int64 → SR → Prop) : Prop := vp_in y1 3 ∧ (((¬ (S.1 8 y1.toNatClampNeg) = 1) → (w_R_wish_51 S y1 y4 ys0 Q)) ∧ (((S.1 8 y1.toNatClampNeg) = 1) → ((((lg_cmp ys0 (1280 : Int64)) ≤ 0) → (w_R_wish_51 S y1 y4 ys0 Q)) ∧ ((¬ (lg_cmp ys0 (1280 : Int64)) ≤ 0) → (w_R_wish_51 S y1 y4 (1280 : Int64) Q)))))
def w_R_wish (S : SR) (x1 : Int32) (x2 : Int64) (Q : Int64 → SR → Prop) : Prop := vp_in x1 3 ∧ (∀ b1 : Int64, b1 = (S.2 7 x1.toNatClampNeg) + x2 → ((((lg_cmp b1 0) ≤ 0) → (w_R_wish_25 S x1 (S.2 7 x1.toNatClampNeg) 0 Q)) ∧ ((¬ (lg_cmp b1 0) ≤ 0) → (∀ b2 : Int64, b2 = (S.2 7 x1.toNatClampNeg) + x2 → (w_R_wish_25 S x1 (S.2 7 x1.toNatClampNeg) b2 Q)))))
set_option maxRecDepth 100000 in
set_option maxHeartbeats 4000000 in
theorem c_R_wish (l : Launch) (D : va_G) (ca : Nat → ClassId) (ad : Nat → Nat) (sz : Nat) (S : SR) (x1 : Int32) (x2 : Int64)  (Q : Int64 → SR → Prop) (h : w_R_wish S x1 x2 Q) : Met l y_R_wish (Cond.code y_R_wish b_R_wish 14 (some Jvm.ClassFile.FieldType.long) :: tG) ({ frames := 3, cells := 0, slots := 0, locals := 94 } : Room) (xPc D ca (wR ca ad) S sz [.ref (ad 0), .int x1, .long x2]) (va_Ql Q (xAt D (wR ca ad) (va_A (wR ca ad S) sz)) (va_A (wR ca ad S) sz)) 0 0 (va_A (wR ca ad S) sz) := by
  refine xx_met (Qf := fun A => va_Ql Q (xAt D (wR ca ad) A) A) (by decide) (Nat.le_of_ble_eq_true rfl) ?_
  intro p e s m args below meth c A ls hx hb hr hw hown hlocks hml hK hN hA hP hD hS hl
  have hown : s.vm.findClass "TrainGuardModel" = some m.cls := hown
  have hl : lv_has ls 14 [(0, .ref (ad 0)), (1, .int x1), (2, .long x2)] := hl
  unfold w_R_wish at h
  have bk_100 : ∀ (S : SR) (y1 : Int32) (y4 : Int64) (y6 : Int64) (ys0 : Int64) (H : Heap) (locs : List Loc) , va_P D cls (wR ca ad S) H → va_D A (wR ca ad S) → va_S A s.heap H locs → ∀ (ls : Array Slot), lv_has ls 14 [(0, .ref (ad 0)), (1, .int y1), (4, .long y4), (6, .long y6)] → w_R_wish_100 S y1 y4 y6 ys0 Q → W p l e ({ frames := 3, cells := 0, slots := 0, locals := 94 } : Room) s m args below meth c H locs 0 0 (MQ below ((fun A => va_Ql Q (xAt D (wR ca ad) A) A) A) args s 0 0 A) (F0 m 100 ls [.long ys0]) := by
    intro S y1 y4 y6 ys0 H locs hP hD hS ls hl h
    unfold w_R_wish_100 at h
    refine lv_lstore (lv' := [(10, .long ys0), (0, .ref (ad 0)), (1, .int y1), (4, .long y4), (6, .long y6)]) hx hb d_R_wish_100 hl (by decide) rfl (fun ls hl => ?_)
    refine lv_aload_n hx hb d_R_wish_102 rfl (lv_at hl 1 rfl) ?_
    refine va_get (D := D) (ci := 4) (v := .ref (ad 14)) (C := Rc_R) (T := Fc_R) (N := 25) hx hb hw inc_R hown hK hP 0 rfl rfl 17 (by decide) (hw _ wd_608) (fun _ h9 => h9) rfl d_R_wish_103 ?_
    refine lv_iload_n hx hb d_R_wish_106 rfl (lv_at hl 2 rfl) ?_
    obtain ⟨hq, h⟩ := h
    refine va_iald (D := D) hx hb hK hP 14 0 rfl rfl hq d_R_wish_107 ?_
    refine lv_iconst (v := 3) hx hb d_R_wish_108 (by decide) ?_
    refine lv_icmp_ne (tgt := 115) hx hb d_R_wish_109 (by decide) (fun hc => ?_) (fun hc => ?_)
    · replace h := h.1 hc
      refine lv_lload hx hb d_R_wish_115 (lv_at hl 3 rfl) ?_
      refine lv_lload hx hb d_R_wish_117 (lv_at hl 4 rfl) ?_
      refine lv_ladd hx hb d_R_wish_119 ?_
      refine lv_topl (fun b6 e_b6 => ?_)
      replace h := h b6 e_b6
      refine lv_ldc2 hx hb hown (hw _ wd_750) d_R_wish_120 ?_
      refine lv_ldiv hx hb d_R_wish_123 (by decide) ?_
      refine lv_topl (fun b7 e_b7 => ?_)
      replace h := h b7 e_b7
      refine lv_lstore (lv' := [(12, .long b7), (10, .long ys0), (0, .ref (ad 0)), (1, .int y1), (4, .long y4), (6, .long y6)]) hx hb d_R_wish_124 hl (by decide) rfl (fun ls hl => ?_)
      refine lv_aload_n hx hb d_R_wish_126 rfl (lv_at hl 2 rfl) ?_
      refine va_get (D := D) (ci := 4) (v := .ref (ad 14)) (C := Rc_R) (T := Fc_R) (N := 25) hx hb hw inc_R hown hK hP 0 rfl rfl 17 (by decide) (hw _ wd_608) (fun _ h9 => h9) rfl d_R_wish_127 ?_
      refine lv_iload_n hx hb d_R_wish_130 rfl (lv_at hl 3 rfl) ?_
      obtain ⟨hq, h⟩ := h
      refine va_iald (D := D) hx hb hK hP 14 0 rfl rfl hq d_R_wish_131 ?_
      refine lv_iconst (v := 1) hx hb d_R_wish_132 (by decide) ?_
      refine lv_icmp_eq (tgt := 168) hx hb d_R_wish_133 (by decide) (fun hc => ?_) (fun hc => ?_)
      · replace h := h.1 hc
        refine lv_lload hx hb d_R_wish_168 (lv_at hl 5 rfl) ?_
        exact W.lret (v := y6) hx hb hr (fun t ht hW => ⟨⟨y6, S, rfl, h, by rw [ht]; exact hP, hD⟩, hS.F ht⟩) hS.2.2 d_R_wish_170
      · replace h := h.2 hc
        refine lv_aload_n hx hb d_R_wish_136 rfl (lv_at hl 2 rfl) ?_
        refine lv_iload_n hx hb d_R_wish_137 rfl (lv_at hl 3 rfl) ?_
        refine lv_aload_n hx hb d_R_wish_138 rfl (lv_at hl 2 rfl) ?_
        refine va_get (D := D) (ci := 4) (v := .ref (ad 11)) (C := Rc_R) (T := Fc_R) (N := 25) hx hb hw inc_R hown hK hP 0 rfl rfl 14 (by decide) (hw _ wd_605) (fun _ h9 => h9) rfl d_R_wish_139 ?_
        refine lv_iload_n hx hb d_R_wish_142 rfl (lv_at hl 3 rfl) ?_
        obtain ⟨hq, h⟩ := h
        refine va_lald (D := D) hx hb hK hP 11 1 rfl rfl hq d_R_wish_143 ?_
        refine lv_lload hx hb d_R_wish_144 (lv_at hl 0 rfl) ?_
        refine lv_ladd hx hb d_R_wish_146 ?_
        refine lv_topl (fun b8 e_b8 => ?_)
        replace h := h b8 e_b8
        refine lv_aload_n hx hb d_R_wish_147 rfl (lv_at hl 2 rfl) ?_
        refine va_get (D := D) (ci := 4) (v := .ref (ad 12)) (C := Rc_R) (T := Fc_R) (N := 25) hx hb hw inc_R hown hK hP 0 rfl rfl 15 (by decide) (hw _ wd_606) (fun _ h9 => h9) rfl d_R_wish_148 ?_
        refine lv_iload_n hx hb d_R_wish_151 rfl (lv_at hl 3 rfl) ?_
        obtain ⟨hq, h⟩ := h
        refine va_lald (D := D) hx hb hK hP 12 1 rfl rfl hq d_R_wish_152 ?_
        refine lv_lload hx hb d_R_wish_153 (lv_at hl 0 rfl) ?_
        refine lv_ldc2 hx hb hown (hw _ wd_751) d_R_wish_155 ?_
        refine lv_ldiv hx hb d_R_wish_158 (by decide) ?_
        refine lv_topl (fun b9 e_b9 => ?_)
        replace h := h b9 e_b9
        refine lv_ladd hx hb d_R_wish_159 ?_
        refine lv_topl (fun b10 e_b10 => ?_)
        replace h := h b10 e_b10
        refine lv_lload hx hb d_R_wish_160 (lv_at hl 5 rfl) ?_
        refine xx_calli (va_runV (As := [.int y1, .long b8, .long b10, .long y6]) (rest := []) ⟨hx, hb, hml, hown, hw⟩ (c_R_safe l D ca ad H.size S y1 b8 b10 y6 _ h) (cwV 4 hw (tG_g gl_R_154) rfl rfl rfl (by decide +kernel) ⟨Nat.le_of_ble_eq_true rfl, Nat.le_of_ble_eq_true rfl⟩) ⟨xPc.blind, va_recv hK hP rfl (q0 := 0) rfl, xPc.pre hK hN hP hD⟩ rfl rfl hl.1 rfl (lv_room (Nat.le_of_ble_eq_true rfl)) d_R_wish_162 ⟨Nat.le_of_ble_eq_true rfl, Nat.le_of_ble_eq_true rfl⟩) hD hS hA (fun r11 S12 H locs h hP hD hS => ?_)
        refine lv_if_eq (tgt := 171) hx hb d_R_wish_165 (by decide) (fun hc => ?_) (fun hc => ?_)
        · replace h := h.1 hc
          refine lv_aload_n hx hb d_R_wish_171 rfl (lv_at hl 2 rfl) ?_
          refine lv_dup hx hb d_R_wish_172 rfl ?_
          refine va_get (D := D) (ci := 4) (v := .int (S12.1 5 0)) (C := Rc_R) (T := Fc_R) (N := 25) hx hb hw inc_R hown hK hP 0 rfl rfl 23 (by decide) (hw _ wd_614) (fun _ h9 => h9) rfl d_R_wish_173 ?_
          refine lv_iconst (v := 1) hx hb d_R_wish_176 (by decide) ?_
          refine lv_iadd hx hb d_R_wish_177 ?_
          refine lv_topi (fun a13 e_a13 => ?_)
          replace h := h a13 e_a13
          refine va_put (D := D) (ci := 4) (v := .int a13) (ty := .int) (C := Rc_R) (T := Fc_R) (N := 25) hx hb hw inc_R tc_R tc_R_ok nc_R hown hK hP hD hS 0 rfl rfl 23 (by decide) (hw _ wd_614) (fun _ h9 => h9) rfl (by decide +kernel) rfl rfl (Nat.le_of_ble_eq_true rfl) d_R_wish_178 (fun H locs hP hD hS => ?_)
          rw [pt_R_braked] at hP hD
          refine lv_lload hx hb d_R_wish_181 (lv_at hl 1 rfl) ?_
          exact W.lret (v := ys0) hx hb hr (fun t ht hW => ⟨⟨ys0, pI S12 5 0 a13, rfl, h, by rw [ht]; exact hP, hD⟩, hS.F ht⟩) hS.2.2 d_R_wish_183
        · replace h := h.2 hc
          refine lv_lload hx hb d_R_wish_168 (lv_at hl 5 rfl) ?_
          exact W.lret (v := y6) hx hb hr (fun t ht hW => ⟨⟨y6, S12, rfl, h, by rw [ht]; exact hP, hD⟩, hS.F ht⟩) hS.2.2 d_R_wish_170
    · replace h := h.2 hc
      refine lv_lload hx hb d_R_wish_112 (lv_at hl 0 rfl) ?_
      exact W.lret (v := ys0) hx hb hr (fun t ht hW => ⟨⟨ys0, S, rfl, h, by rw [ht]; exact hP, hD⟩, hS.F ht⟩) hS.2.2 d_R_wish_114
  have bk_79 : ∀ (S : SR) (y1 : Int32) (y4 : Int64) (y6 : Int64) (ys0 : Int64) (H : Heap) (locs : List Loc) , va_P D cls (wR ca ad S) H → va_D A (wR ca ad S) → va_S A s.heap H locs → ∀ (ls : Array Slot), lv_has ls 14 [(0, .ref (ad 0)), (1, .int y1), (4, .long y4), (6, .long y6)] → w_R_wish_79 S y1 y4 y6 ys0 Q → W p l e ({ frames := 3, cells := 0, slots := 0, locals := 94 } : Room) s m args below meth c H locs 0 0 (MQ below ((fun A => va_Ql Q (xAt D (wR ca ad) A) A) A) args s 0 0 A) (F0 m 79 ls [.long ys0]) := by
    intro S y1 y4 y6 ys0 H locs hP hD hS ls hl h
    unfold w_R_wish_79 at h
    refine lv_lstore (lv' := [(8, .long ys0), (0, .ref (ad 0)), (1, .int y1), (4, .long y4), (6, .long y6)]) hx hb d_R_wish_79 hl (by decide) rfl (fun ls hl => ?_)
    refine lv_lload hx hb d_R_wish_81 (lv_at hl 3 rfl) ?_
    refine lv_lload hx hb d_R_wish_83 (lv_at hl 0 rfl) ?_
    refine lv_lsub hx hb d_R_wish_85 ?_
    refine lv_topl (fun b4 e_b4 => ?_)
    replace h := h b4 e_b4
    refine lv_lconst (v := 0) hx hb d_R_wish_86 (by decide) ?_
    refine W.lcmp hx hb d_R_wish_87 ?_
    refine lv_if_le (tgt := 99) hx hb d_R_wish_88 (by decide) (fun hc => ?_) (fun hc => ?_)
    · replace h := h.1 hc
      refine lv_lconst (v := 0) hx hb d_R_wish_99 (by decide) ?_
      exact bk_100 S y1 y4 y6 0 H locs hP hD hS ls (lv_sub hl [1, 2, 3, 4] rfl) h
    · replace h := h.2 hc
      refine lv_lload hx hb d_R_wish_91 (lv_at hl 3 rfl) ?_
      refine lv_lload hx hb d_R_wish_93 (lv_at hl 0 rfl) ?_
      refine lv_lsub hx hb d_R_wish_95 ?_
      refine lv_topl (fun b5 e_b5 => ?_)
      replace h := h b5 e_b5
      refine lv_goto (tgt := 100) hx hb d_R_wish_96 (by decide) ?_
      exact bk_100 S y1 y4 y6 b5 H locs hP hD hS ls (lv_sub hl [1, 2, 3, 4] rfl) h
  have bk_51 : ∀ (S : SR) (y1 : Int32) (y4 : Int64) (y6 : Int64) (H : Heap) (locs : List Loc) , va_P D cls (wR ca ad S) H → va_D A (wR ca ad S) → va_S A s.heap H locs → ∀ (ls : Array Slot), lv_has ls 14 [(0, .ref (ad 0)), (1, .int y1), (4, .long y4), (6, .long y6)] → w_R_wish_51 S y1 y4 y6 Q → W p l e ({ frames := 3, cells := 0, slots := 0, locals := 94 } : Room) s m args below meth c H locs 0 0 (MQ below ((fun A => va_Ql Q (xAt D (wR ca ad) A) A) A) args s 0 0 A) (F0 m 51 ls []) := by
    intro S y1 y4 y6 H locs hP hD hS ls hl h
    unfold w_R_wish_51 at h
    refine lv_aload_n hx hb d_R_wish_51 rfl (lv_at hl 0 rfl) ?_
    refine va_get (D := D) (ci := 4) (v := .ref (ad 15)) (C := Rc_R) (T := Fc_R) (N := 25) hx hb hw inc_R hown hK hP 0 rfl rfl 18 (by decide) (hw _ wd_609) (fun _ h9 => h9) rfl d_R_wish_52 ?_
    refine lv_iload_n hx hb d_R_wish_55 rfl (lv_at hl 1 rfl) ?_
    obtain ⟨hq, h⟩ := h
    refine va_zald (D := D) hx hb hK hP 15 3 rfl rfl hq d_R_wish_56 ?_
    refine lv_if_eq (tgt := 73) hx hb d_R_wish_57 (by decide) (fun hc => ?_) (fun hc => ?_)
    · replace h := h.1 hc
      refine lv_aload_n hx hb d_R_wish_73 rfl (lv_at hl 0 rfl) ?_
      refine va_get (D := D) (ci := 4) (v := .ref (ad 8)) (C := Rc_R) (T := Fc_R) (N := 25) hx hb hw inc_R hown hK hP 0 rfl rfl 11 (by decide) (hw _ wd_602) (fun _ h9 => h9) rfl d_R_wish_74 ?_
      refine lv_iload_n hx hb d_R_wish_77 rfl (lv_at hl 1 rfl) ?_
      obtain ⟨hq, h⟩ := h
      refine va_lald (D := D) hx hb hK hP 8 1 rfl rfl hq d_R_wish_78 ?_
      exact bk_79 S y1 y4 y6 (S.2 6 y1.toNatClampNeg) H locs hP hD hS ls (lv_sub hl [0, 1, 2, 3] rfl) h
    · replace h := h.2 hc
      refine lv_aload_n hx hb d_R_wish_60 rfl (lv_at hl 0 rfl) ?_
      refine va_get (D := D) (ci := 4) (v := .ref (ad 8)) (C := Rc_R) (T := Fc_R) (N := 25) hx hb hw inc_R hown hK hP 0 rfl rfl 11 (by decide) (hw _ wd_602) (fun _ h9 => h9) rfl d_R_wish_61 ?_
      refine lv_iload_n hx hb d_R_wish_64 rfl (lv_at hl 1 rfl) ?_
      obtain ⟨hq, h⟩ := h
      refine va_lald (D := D) hx hb hK hP 8 1 rfl rfl hq d_R_wish_65 ?_
      refine lv_ldc2 hx hb hown (hw _ wd_750) d_R_wish_66 ?_
      refine lv_ldiv hx hb d_R_wish_69 (by decide) ?_
      refine lv_topl (fun b3 e_b3 => ?_)
      replace h := h b3 e_b3
      refine lv_goto (tgt := 79) hx hb d_R_wish_70 (by decide) ?_
      exact bk_79 S y1 y4 y6 b3 H locs hP hD hS ls (lv_sub hl [0, 1, 2, 3] rfl) h
  have bk_25 : ∀ (S : SR) (y1 : Int32) (y4 : Int64) (ys0 : Int64) (H : Heap) (locs : List Loc) , va_P D cls (wR ca ad S) H → va_D A (wR ca ad S) → va_S A s.heap H locs → ∀ (ls : Array Slot), lv_has ls 14 [(0, .ref (ad 0)), (1, .int y1), (4, .long y4)] → w_R_wish_25 S y1 y4 ys0 Q → W p l e ({ frames := 3, cells := 0, slots := 0, locals := 94 } : Room) s m args below meth c H locs 0 0 (MQ below ((fun A => va_Ql Q (xAt D (wR ca ad) A) A) A) args s 0 0 A) (F0 m 25 ls [.long ys0]) := by
    intro S y1 y4 ys0 H locs hP hD hS ls hl h
    unfold w_R_wish_25 at h
    refine lv_lstore (lv' := [(6, .long ys0), (0, .ref (ad 0)), (1, .int y1), (4, .long y4)]) hx hb d_R_wish_25 hl (by decide) rfl (fun ls hl => ?_)
    refine lv_aload_n hx hb d_R_wish_27 rfl (lv_at hl 1 rfl) ?_
    refine va_get (D := D) (ci := 4) (v := .ref (ad 14)) (C := Rc_R) (T := Fc_R) (N := 25) hx hb hw inc_R hown hK hP 0 rfl rfl 17 (by decide) (hw _ wd_608) (fun _ h9 => h9) rfl d_R_wish_28 ?_
    refine lv_iload_n hx hb d_R_wish_31 rfl (lv_at hl 2 rfl) ?_
    obtain ⟨hq, h⟩ := h
    refine va_iald (D := D) hx hb hK hP 14 0 rfl rfl hq d_R_wish_32 ?_
    refine lv_iconst (v := 1) hx hb d_R_wish_33 (by decide) ?_
    refine lv_icmp_ne (tgt := 51) hx hb d_R_wish_34 (by decide) (fun hc => ?_) (fun hc => ?_)
    · replace h := h.1 hc
      exact bk_51 S y1 y4 ys0 H locs hP hD hS ls (lv_sub hl [1, 2, 3, 0] rfl) h
    · replace h := h.2 hc
      refine lv_lload hx hb d_R_wish_37 (lv_at hl 0 rfl) ?_
      refine lv_ldc2 hx hb hown (hw _ wd_805) d_R_wish_39 ?_
      refine W.lcmp hx hb d_R_wish_42 ?_
      refine lv_if_le (tgt := 51) hx hb d_R_wish_43 (by decide) (fun hc => ?_) (fun hc => ?_)
      · replace h := h.1 hc
        exact bk_51 S y1 y4 ys0 H locs hP hD hS ls (lv_sub hl [1, 2, 3, 0] rfl) h
      · replace h := h.2 hc
        refine lv_ldc2 hx hb hown (hw _ wd_805) d_R_wish_46 ?_
        refine lv_lstore (lv' := [(6, .long (1280 : Int64)), (0, .ref (ad 0)), (1, .int y1), (4, .long y4)]) hx hb d_R_wish_49 hl (by decide) rfl (fun ls hl => ?_)
        exact bk_51 S y1 y4 (1280 : Int64) H locs hP hD hS ls (lv_sub hl [1, 2, 3, 0] rfl) h
  have hH9 : ∀ H : Heap, H = s.heap → va_P D cls (wR ca ad S) H → va_S A s.heap H [] → W p l e ({ frames := 3, cells := 0, slots := 0, locals := 94 } : Room) s m args below meth c H [] 0 0 (MQ below ((fun A => va_Ql Q (xAt D (wR ca ad) A) A) A) args s 0 0 A) (F0 m 0 ls []) := by
    clear hP hS
    intro H hH hP hS
    obtain ⟨locs, hlo⟩ : ∃ z : List Loc, z = [] := ⟨_, rfl⟩
    rw [← hlo] at hS ⊢
    refine lv_aload_n hx hb d_R_wish_0 rfl (lv_at hl 0 rfl) ?_
    refine va_get (D := D) (ci := 4) (v := .ref (ad 9)) (C := Rc_R) (T := Fc_R) (N := 25) hx hb hw inc_R hown hK hP 0 rfl rfl 12 (by decide) (hw _ wd_603) (fun _ h9 => h9) rfl d_R_wish_1 ?_
    refine lv_iload_n hx hb d_R_wish_4 rfl (lv_at hl 1 rfl) ?_
    obtain ⟨hq, h⟩ := h
    refine va_lald (D := D) hx hb hK hP 9 1 rfl rfl hq d_R_wish_5 ?_
    refine lv_lstore (lv' := [(4, .long (S.2 7 x1.toNatClampNeg)), (0, .ref (ad 0)), (1, .int x1), (2, .long x2)]) hx hb d_R_wish_6 hl (by decide) rfl (fun ls hl => ?_)
    refine lv_lload hx hb d_R_wish_8 (lv_at hl 0 rfl) ?_
    refine lv_lload_n hx hb d_R_wish_10 rfl (lv_at hl 3 rfl) ?_
    refine lv_ladd hx hb d_R_wish_11 ?_
    refine lv_topl (fun b1 e_b1 => ?_)
    replace h := h b1 e_b1
    refine lv_lconst (v := 0) hx hb d_R_wish_12 (by decide) ?_
    refine W.lcmp hx hb d_R_wish_13 ?_
    refine lv_if_le (tgt := 24) hx hb d_R_wish_14 (by decide) (fun hc => ?_) (fun hc => ?_)
    · replace h := h.1 hc
      refine lv_lconst (v := 0) hx hb d_R_wish_24 (by decide) ?_
      exact bk_25 S x1 (S.2 7 x1.toNatClampNeg) 0 H locs hP hD hS ls (lv_sub hl [1, 2, 0] rfl) h
    · replace h := h.2 hc
      refine lv_lload hx hb d_R_wish_17 (lv_at hl 0 rfl) ?_
      refine lv_lload_n hx hb d_R_wish_19 rfl (lv_at hl 3 rfl) ?_
      refine lv_ladd hx hb d_R_wish_20 ?_
      refine lv_topl (fun b2 e_b2 => ?_)
      replace h := h b2 e_b2
      refine lv_goto (tgt := 25) hx hb d_R_wish_21 (by decide) ?_
      exact bk_25 S x1 (S.2 7 x1.toNatClampNeg) b2 H locs hP hD hS ls (lv_sub hl [1, 2, 0] rfl) h
  exact hH9 _ rfl hP hS
theorem d_R_move_0 : decode b_R_move 0 = .ok (.aload_n 0, 1) := by decide +kernel
theorem d_R_move_1 : decode b_R_move 1 = .ok (.getfield 35, 3) := by decide +kernel
theorem d_R_move_4 : decode b_R_move 4 = .ok (.iload_n 1, 1) := by decide +kernel
theorem d_R_move_5 : decode b_R_move 5 = .ok (.laload, 1) := by decide +kernel
theorem d_R_move_6 : decode b_R_move 6 = .ok (.lload_n 2, 1) := by decide +kernel
theorem d_R_move_7 : decode b_R_move 7 = .ok (.ladd, 1) := by decide +kernel
theorem d_R_move_8 : decode b_R_move 8 = .ok (.ldc2_w 131, 3) := by decide +kernel
theorem d_R_move_11 : decode b_R_move 11 = .ok (.ldiv, 1) := by decide +kernel
theorem d_R_move_12 : decode b_R_move 12 = .ok (.lstore 5, 2) := by decide +kernel
theorem d_R_move_14 : decode b_R_move 14 = .ok (.aload_n 0, 1) := by decide +kernel
theorem d_R_move_15 : decode b_R_move 15 = .ok (.getfield 38, 3) := by decide +kernel
theorem d_R_move_18 : decode b_R_move 18 = .ok (.iload_n 1, 1) := by decide +kernel
theorem d_R_move_19 : decode b_R_move 19 = .ok (.laload, 1) := by decide +kernel
theorem d_R_move_20 : decode b_R_move 20 = .ok (.lstore 7, 2) := by decide +kernel
theorem d_R_move_22 : decode b_R_move 22 = .ok (.aload_n 0, 1) := by decide +kernel
theorem d_R_move_23 : decode b_R_move 23 = .ok (.getfield 35, 3) := by decide +kernel
theorem d_R_move_26 : decode b_R_move 26 = .ok (.iload_n 1, 1) := by decide +kernel
theorem d_R_move_27 : decode b_R_move 27 = .ok (.lload_n 2, 1) := by decide +kernel
theorem d_R_move_28 : decode b_R_move 28 = .ok (.lastore, 1) := by decide +kernel
theorem d_R_move_29 : decode b_R_move 29 = .ok (.aload_n 0, 1) := by decide +kernel
theorem d_R_move_30 : decode b_R_move 30 = .ok (.getfield 41, 3) := by decide +kernel
theorem d_R_move_33 : decode b_R_move 33 = .ok (.iload_n 1, 1) := by decide +kernel
theorem d_R_move_34 : decode b_R_move 34 = .ok (.dup2, 1) := by decide +kernel
theorem d_R_move_35 : decode b_R_move 35 = .ok (.laload, 1) := by decide +kernel
theorem d_R_move_36 : decode b_R_move 36 = .ok (.lload 5, 2) := by decide +kernel
theorem d_R_move_38 : decode b_R_move 38 = .ok (.ladd, 1) := by decide +kernel
theorem d_R_move_39 : decode b_R_move 39 = .ok (.lastore, 1) := by decide +kernel
theorem d_R_move_40 : decode b_R_move 40 = .ok (.aload_n 0, 1) := by decide +kernel
theorem d_R_move_41 : decode b_R_move 41 = .ok (.getfield 44, 3) := by decide +kernel
theorem d_R_move_44 : decode b_R_move 44 = .ok (.iload_n 1, 1) := by decide +kernel
theorem d_R_move_45 : decode b_R_move 45 = .ok (.dup2, 1) := by decide +kernel
theorem d_R_move_46 : decode b_R_move 46 = .ok (.laload, 1) := by decide +kernel
theorem d_R_move_47 : decode b_R_move 47 = .ok (.lload 5, 2) := by decide +kernel
theorem d_R_move_49 : decode b_R_move 49 = .ok (.ldc2_w 137, 3) := by decide +kernel
theorem d_R_move_52 : decode b_R_move 52 = .ok (.ldiv, 1) := by decide +kernel
theorem d_R_move_53 : decode b_R_move 53 = .ok (.ladd, 1) := by decide +kernel
theorem d_R_move_54 : decode b_R_move 54 = .ok (.lastore, 1) := by decide +kernel
theorem d_R_move_55 : decode b_R_move 55 = .ok (.aload_n 0, 1) := by decide +kernel
theorem d_R_move_56 : decode b_R_move 56 = .ok (.getfield 38, 3) := by decide +kernel
theorem d_R_move_59 : decode b_R_move 59 = .ok (.iload_n 1, 1) := by decide +kernel
theorem d_R_move_60 : decode b_R_move 60 = .ok (.dup2, 1) := by decide +kernel
theorem d_R_move_61 : decode b_R_move 61 = .ok (.laload, 1) := by decide +kernel
theorem d_R_move_62 : decode b_R_move 62 = .ok (.lload 5, 2) := by decide +kernel
theorem d_R_move_64 : decode b_R_move 64 = .ok (.lload 5, 2) := by decide +kernel
theorem d_R_move_66 : decode b_R_move 66 = .ok (.ldc2_w 137, 3) := by decide +kernel
theorem d_R_move_69 : decode b_R_move 69 = .ok (.ldiv, 1) := by decide +kernel
theorem d_R_move_70 : decode b_R_move 70 = .ok (.iload 4, 2) := by decide +kernel
theorem d_R_move_72 : decode b_R_move 72 = .ok (.i2l, 1) := by decide +kernel
theorem d_R_move_73 : decode b_R_move 73 = .ok (.lmul, 1) := by decide +kernel
theorem d_R_move_74 : decode b_R_move 74 = .ok (.ladd, 1) := by decide +kernel
theorem d_R_move_75 : decode b_R_move 75 = .ok (.ladd, 1) := by decide +kernel
theorem d_R_move_76 : decode b_R_move 76 = .ok (.lastore, 1) := by decide +kernel
theorem d_R_move_77 : decode b_R_move 77 = .ok (.iconst 0, 1) := by decide +kernel
theorem d_R_move_78 : decode b_R_move 78 = .ok (.istore 9, 2) := by decide +kernel
theorem d_R_move_80 : decode b_R_move 80 = .ok (.iload 9, 2) := by decide +kernel
theorem d_R_move_82 : decode b_R_move 82 = .ok (.aload_n 0, 1) := by decide +kernel
theorem d_R_move_83 : decode b_R_move 83 = .ok (.getfield 79, 3) := by decide +kernel
theorem d_R_move_86 : decode b_R_move 86 = .ok (.if_icmp .ge 61, 3) := by decide +kernel
theorem d_R_move_89 : decode b_R_move 89 = .ok (.lload 7, 2) := by decide +kernel
theorem d_R_move_91 : decode b_R_move 91 = .ok (.aload_n 0, 1) := by decide +kernel
theorem d_R_move_92 : decode b_R_move 92 = .ok (.getfield 7, 3) := by decide +kernel
theorem d_R_move_95 : decode b_R_move 95 = .ok (.iload 9, 2) := by decide +kernel
theorem d_R_move_97 : decode b_R_move 97 = .ok (.laload, 1) := by decide +kernel
theorem d_R_move_98 : decode b_R_move 98 = .ok (.lcmp, 1) := by decide +kernel
theorem d_R_move_99 : decode b_R_move 99 = .ok (.ifCond .ge 42, 3) := by decide +kernel
theorem d_R_move_102 : decode b_R_move 102 = .ok (.aload_n 0, 1) := by decide +kernel
theorem d_R_move_103 : decode b_R_move 103 = .ok (.getfield 38, 3) := by decide +kernel
theorem d_R_move_106 : decode b_R_move 106 = .ok (.iload_n 1, 1) := by decide +kernel
theorem d_R_move_107 : decode b_R_move 107 = .ok (.laload, 1) := by decide +kernel
theorem d_R_move_108 : decode b_R_move 108 = .ok (.aload_n 0, 1) := by decide +kernel
theorem d_R_move_109 : decode b_R_move 109 = .ok (.getfield 7, 3) := by decide +kernel
theorem d_R_move_112 : decode b_R_move 112 = .ok (.iload 9, 2) := by decide +kernel
theorem d_R_move_114 : decode b_R_move 114 = .ok (.laload, 1) := by decide +kernel
theorem d_R_move_115 : decode b_R_move 115 = .ok (.lcmp, 1) := by decide +kernel
theorem d_R_move_116 : decode b_R_move 116 = .ok (.ifCond .ge 6, 3) := by decide +kernel
theorem d_R_move_119 : decode b_R_move 119 = .ok (.goto 22, 3) := by decide +kernel
theorem d_R_move_122 : decode b_R_move 122 = .ok (.aload_n 0, 1) := by decide +kernel
theorem d_R_move_123 : decode b_R_move 123 = .ok (.getfield 41, 3) := by decide +kernel
theorem d_R_move_126 : decode b_R_move 126 = .ok (.iload_n 1, 1) := by decide +kernel
theorem d_R_move_127 : decode b_R_move 127 = .ok (.aload_n 0, 1) := by decide +kernel
theorem d_R_move_128 : decode b_R_move 128 = .ok (.getfield 38, 3) := by decide +kernel
theorem d_R_move_131 : decode b_R_move 131 = .ok (.iload_n 1, 1) := by decide +kernel
theorem d_R_move_132 : decode b_R_move 132 = .ok (.laload, 1) := by decide +kernel
theorem d_R_move_133 : decode b_R_move 133 = .ok (.lastore, 1) := by decide +kernel
theorem d_R_move_134 : decode b_R_move 134 = .ok (.aload_n 0, 1) := by decide +kernel
theorem d_R_move_135 : decode b_R_move 135 = .ok (.getfield 44, 3) := by decide +kernel
theorem d_R_move_138 : decode b_R_move 138 = .ok (.iload_n 1, 1) := by decide +kernel
theorem d_R_move_139 : decode b_R_move 139 = .ok (.lconst 0, 1) := by decide +kernel
theorem d_R_move_140 : decode b_R_move 140 = .ok (.lastore, 1) := by decide +kernel
theorem d_R_move_141 : decode b_R_move 141 = .ok (.iinc 9 1, 3) := by decide +kernel
theorem d_R_move_144 : decode b_R_move 144 = .ok (.goto (-64), 3) := by decide +kernel
theorem d_R_move_147 : decode b_R_move 147 = .ok (.aload_n 0, 1) := by decide +kernel
theorem d_R_move_148 : decode b_R_move 148 = .ok (.getfield 38, 3) := by decide +kernel
theorem d_R_move_151 : decode b_R_move 151 = .ok (.iload_n 1, 1) := by decide +kernel
theorem d_R_move_152 : decode b_R_move 152 = .ok (.laload, 1) := by decide +kernel
theorem d_R_move_153 : decode b_R_move 153 = .ok (.aload_n 0, 1) := by decide +kernel
theorem d_R_move_154 : decode b_R_move 154 = .ok (.invokevirtual 139, 3) := by decide +kernel
theorem d_R_move_157 : decode b_R_move 157 = .ok (.lcmp, 1) := by decide +kernel
theorem d_R_move_158 : decode b_R_move 158 = .ok (.ifCond .ge 4, 3) := by decide +kernel
theorem d_R_move_161 : decode b_R_move 161 = .ok (.return_, 1) := by decide +kernel
theorem d_R_move_162 : decode b_R_move 162 = .ok (.aload_n 0, 1) := by decide +kernel
theorem d_R_move_163 : decode b_R_move 163 = .ok (.getfield 38, 3) := by decide +kernel
theorem d_R_move_166 : decode b_R_move 166 = .ok (.iload_n 1, 1) := by decide +kernel
theorem d_R_move_167 : decode b_R_move 167 = .ok (.aload_n 0, 1) := by decide +kernel
theorem d_R_move_168 : decode b_R_move 168 = .ok (.invokevirtual 139, 3) := by decide +kernel
theorem d_R_move_171 : decode b_R_move 171 = .ok (.lastore, 1) := by decide +kernel
theorem d_R_move_172 : decode b_R_move 172 = .ok (.aload_n 0, 1) := by decide +kernel
theorem d_R_move_173 : decode b_R_move 173 = .ok (.getfield 41, 3) := by decide +kernel
theorem d_R_move_176 : decode b_R_move 176 = .ok (.iload_n 1, 1) := by decide +kernel
theorem d_R_move_177 : decode b_R_move 177 = .ok (.aload_n 0, 1) := by decide +kernel
theorem d_R_move_178 : decode b_R_move 178 = .ok (.invokevirtual 139, 3) := by decide +kernel
theorem d_R_move_181 : decode b_R_move 181 = .ok (.lastore, 1) := by decide +kernel
theorem d_R_move_182 : decode b_R_move 182 = .ok (.aload_n 0, 1) := by decide +kernel
theorem d_R_move_183 : decode b_R_move 183 = .ok (.getfield 44, 3) := by decide +kernel
theorem d_R_move_186 : decode b_R_move 186 = .ok (.iload_n 1, 1) := by decide +kernel
theorem d_R_move_187 : decode b_R_move 187 = .ok (.lconst 0, 1) := by decide +kernel
theorem d_R_move_188 : decode b_R_move 188 = .ok (.lastore, 1) := by decide +kernel
theorem d_R_move_189 : decode b_R_move 189 = .ok (.aload_n 0, 1) := by decide +kernel
theorem d_R_move_190 : decode b_R_move 190 = .ok (.getfield 35, 3) := by decide +kernel
theorem d_R_move_193 : decode b_R_move 193 = .ok (.iload_n 1, 1) := by decide +kernel
theorem d_R_move_194 : decode b_R_move 194 = .ok (.lconst 0, 1) := by decide +kernel
theorem d_R_move_195 : decode b_R_move 195 = .ok (.lastore, 1) := by decide +kernel
theorem d_R_move_196 : decode b_R_move 196 = .ok (.return_, 1) := by decide +kernel
def w_R_move_141 (K80 : SR → Int32 → Int64 → Int32 → Prop) (S : SR) (y1 : Int32) (y7 : Int64) (y9 : Int32) (Q : SR → Prop) : Prop := K80 S y1 y7 (y9 + 1)
def w_R_move_80 : Nat → SR → Int32 → Int64 → Int32 → (SR → Prop) → Prop
  | 0 => fun _ _ _ _ _ => False
  | n + 1 => fun S y1 y7 y9 Q => ((((S.1 1 0) ≤ y9) → (vp_in y1 3 ∧ (w_R_lineEnd S (fun r11 S12 => ((0 ≤ (lg_cmp (S.2 8 y1.toNatClampNeg) r11)) → (w_R_lineEnd S12 (fun r13 S14 => vp_in y1 3 ∧ (w_R_lineEnd (pV S14 8 y1.toNatClampNeg r13) (fun r15 S16 => vp_in y1 3 ∧ (vp_in y1 3 ∧ (vp_in y1 3 ∧ (Q (pV (pV (pV S16 9 y1.toNatClampNeg r15) 10 y1.toNatClampNeg 0) 7 y1.toNatClampNeg 0))))))))) ∧ ((¬ 0 ≤ (lg_cmp (S.2 8 y1.toNatClampNeg) r11)) → (Q S12)))))) ∧ ((¬ (S.1 1 0) ≤ y9) → (vp_in y9 11 ∧ (((0 ≤ (lg_cmp y7 (S.2 0 y9.toNatClampNeg))) → (w_R_move_141 (fun S9 z0 z1 z2 => w_R_move_80 n S9 z0 z1 z2 Q) S y1 y7 y9 Q)) ∧ ((¬ 0 ≤ (lg_cmp y7 (S.2 0 y9.toNatClampNeg))) → (vp_in y1 3 ∧ (vp_in y9 11 ∧ (((0 ≤ (lg_cmp (S.2 8 y1.toNatClampNeg) (S.2 0 y9.toNatClampNeg))) → (vp_in y1 3 ∧ (vp_in y1 3 ∧ (vp_in y1 3 ∧ (w_R_move_141 (fun S9 z0 z1 z2 => w_R_move_80 n S9 z0 z1 z2 Q) (pV (pV S 9 y1.toNatClampNeg (S.2 8 y1.toNatClampNeg)) 10 y1.toNatClampNeg 0) y1 y7 y9 Q))))) ∧ ((¬ 0 ≤ (lg_cmp (S.2 8 y1.toNatClampNeg) (S.2 0 y9.toNatClampNeg))) → (w_R_move_141 (fun S9 z0 z1 z2 => w_R_move_80 n S9 z0 z1 z2 Q) S y1 y7 y9 Q))))))))))
def w_R_move (S : SR) (x1 : Int32) (x2 : Int64) (x3 : Int32) (Q : SR → Prop) : Prop := vp_in x1 3 ∧ (∀ b1 : Int64, b1 = (S.2 7 x1.toNatClampNeg) + x2 → (∀ b2 : Int64, b2 = b1 / (2 : Int64) → (vp_in x1 3 ∧ (vp_in x1 3 ∧ (vp_in x1 3 ∧ (∀ b3 : Int64, b3 = ((pV S 7 x1.toNatClampNeg x2).2 9 x1.toNatClampNeg) + b2 → (vp_in x1 3 ∧ (vp_in x1 3 ∧ (∀ b4 : Int64, b4 = b2 / (8 : Int64) → (∀ b5 : Int64, b5 = ((pV (pV S 7 x1.toNatClampNeg x2) 9 x1.toNatClampNeg b3).2 10 x1.toNatClampNeg) + b4 → (vp_in x1 3 ∧ (vp_in x1 3 ∧ (∀ b6 : Int64, b6 = b2 / (8 : Int64) → (∀ b7 : Int64, b7 = x3.toInt64 → (∀ b8 : Int64, b8 = b6 * b7 → (∀ b9 : Int64, b9 = b2 + b8 → (∀ b10 : Int64, b10 = ((pV (pV (pV S 7 x1.toNatClampNeg x2) 9 x1.toNatClampNeg b3) 10 x1.toNatClampNeg b5).2 8 x1.toNatClampNeg) + b9 → (vp_in x1 3 ∧ (∃ n : Nat, w_R_move_80 n (pV (pV (pV (pV S 7 x1.toNatClampNeg x2) 9 x1.toNatClampNeg b3) 10 x1.toNatClampNeg b5) 8 x1.toNatClampNeg b10) x1 (S.2 8 x1.toNatClampNeg) 0 Q)))))))))))))))))))
set_option maxRecDepth 100000 in
set_option maxHeartbeats 4000000 in
theorem c_R_move (l : Launch) (D : va_G) (ca : Nat → ClassId) (ad : Nat → Nat) (sz : Nat) (S : SR) (x1 : Int32) (x2 : Int64) (x3 : Int32)  (Q : SR → Prop) (h : w_R_move S x1 x2 x3 Q) : Met l y_R_move (Cond.code y_R_move b_R_move 10 none :: tG) ({ frames := 1, cells := 0, slots := 0, locals := 20 } : Room) (xPc D ca (wR ca ad) S sz [.ref (ad 0), .int x1, .long x2, .int x3]) (va_Qv Q (xAt D (wR ca ad) (va_A (wR ca ad S) sz)) (va_A (wR ca ad S) sz)) 0 0 (va_A (wR ca ad S) sz) := by
  refine xx_met (Qf := fun A => va_Qv Q (xAt D (wR ca ad) A) A) (by decide) (Nat.le_of_ble_eq_true rfl) ?_
  intro p e s m args below meth c A ls hx hb hr hw hown hlocks hml hK hN hA hP hD hS hl
  have hown : s.vm.findClass "TrainGuardModel" = some m.cls := hown
  have hl : lv_has ls 10 [(0, .ref (ad 0)), (1, .int x1), (2, .long x2), (4, .int x3)] := hl
  unfold w_R_move at h
  have bk_141 : ∀ (K80 : SR → Int32 → Int64 → Int32 → Prop) (hK80 : ∀ (S : SR) (y1 : Int32) (y7 : Int64) (y9 : Int32) (H : Heap) (locs : List Loc) , va_P D cls (wR ca ad S) H → va_D A (wR ca ad S) → va_S A s.heap H locs → ∀ (ls : Array Slot), lv_has ls 10 [(0, .ref (ad 0)), (1, .int y1), (7, .long y7), (9, .int y9)] → K80 S y1 y7 y9 → W p l e ({ frames := 1, cells := 0, slots := 0, locals := 20 } : Room) s m args below meth c H locs 0 0 (MQ below ((fun A => va_Qv Q (xAt D (wR ca ad) A) A) A) args s 0 0 A) (F0 m 80 ls [])) (S : SR) (y1 : Int32) (y7 : Int64) (y9 : Int32) (H : Heap) (locs : List Loc) , va_P D cls (wR ca ad S) H → va_D A (wR ca ad S) → va_S A s.heap H locs → ∀ (ls : Array Slot), lv_has ls 10 [(0, .ref (ad 0)), (1, .int y1), (7, .long y7), (9, .int y9)] → w_R_move_141 K80 S y1 y7 y9 Q → W p l e ({ frames := 1, cells := 0, slots := 0, locals := 20 } : Room) s m args below meth c H locs 0 0 (MQ below ((fun A => va_Qv Q (xAt D (wR ca ad) A) A) A) args s 0 0 A) (F0 m 141 ls []) := by
    intro K80 hK80 S y1 y7 y9 H locs hP hD hS ls hl h
    unfold w_R_move_141 at h
    refine lv_iinc (v := (y9 + 1)) (lv' := [(9, .int (y9 + 1)), (0, .ref (ad 0)), (1, .int y1), (7, .long y7)]) hx hb d_R_move_141 hl (k := 3) rfl rfl (by decide) rfl (fun ls hl => ?_)
    refine lv_goto (tgt := 80) hx hb d_R_move_144 (by decide) ?_
    exact hK80 S y1 y7 (y9 + 1) H locs hP hD hS ls (lv_sub hl [1, 2, 3, 0] rfl) h
  have bk_80 : ∀ (n9 : Nat) (S : SR) (y1 : Int32) (y7 : Int64) (y9 : Int32) (H : Heap) (locs : List Loc) , va_P D cls (wR ca ad S) H → va_D A (wR ca ad S) → va_S A s.heap H locs → ∀ (ls : Array Slot), lv_has ls 10 [(0, .ref (ad 0)), (1, .int y1), (7, .long y7), (9, .int y9)] → w_R_move_80 n9 S y1 y7 y9 Q → W p l e ({ frames := 1, cells := 0, slots := 0, locals := 20 } : Room) s m args below meth c H locs 0 0 (MQ below ((fun A => va_Qv Q (xAt D (wR ca ad) A) A) A) args s 0 0 A) (F0 m 80 ls []) := by
    intro n9
    induction n9 with
    | zero => intro S y1 y7 y9 H locs hP hD hS ls hl h; exact absurd h id
    | succ n9 hK80 =>
      intro S y1 y7 y9 H locs hP hD hS ls hl h
      replace h : (((S.1 1 0) ≤ y9) → (vp_in y1 3 ∧ (w_R_lineEnd S (fun r11 S12 => ((0 ≤ (lg_cmp (S.2 8 y1.toNatClampNeg) r11)) → (w_R_lineEnd S12 (fun r13 S14 => vp_in y1 3 ∧ (w_R_lineEnd (pV S14 8 y1.toNatClampNeg r13) (fun r15 S16 => vp_in y1 3 ∧ (vp_in y1 3 ∧ (vp_in y1 3 ∧ (Q (pV (pV (pV S16 9 y1.toNatClampNeg r15) 10 y1.toNatClampNeg 0) 7 y1.toNatClampNeg 0))))))))) ∧ ((¬ 0 ≤ (lg_cmp (S.2 8 y1.toNatClampNeg) r11)) → (Q S12)))))) ∧ ((¬ (S.1 1 0) ≤ y9) → (vp_in y9 11 ∧ (((0 ≤ (lg_cmp y7 (S.2 0 y9.toNatClampNeg))) → (w_R_move_141 (fun S9 z0 z1 z2 => w_R_move_80 n9 S9 z0 z1 z2 Q) S y1 y7 y9 Q)) ∧ ((¬ 0 ≤ (lg_cmp y7 (S.2 0 y9.toNatClampNeg))) → (vp_in y1 3 ∧ (vp_in y9 11 ∧ (((0 ≤ (lg_cmp (S.2 8 y1.toNatClampNeg) (S.2 0 y9.toNatClampNeg))) → (vp_in y1 3 ∧ (vp_in y1 3 ∧ (vp_in y1 3 ∧ (w_R_move_141 (fun S9 z0 z1 z2 => w_R_move_80 n9 S9 z0 z1 z2 Q) (pV (pV S 9 y1.toNatClampNeg (S.2 8 y1.toNatClampNeg)) 10 y1.toNatClampNeg 0) y1 y7 y9 Q))))) ∧ ((¬ 0 ≤ (lg_cmp (S.2 8 y1.toNatClampNeg) (S.2 0 y9.toNatClampNeg))) → (w_R_move_141 (fun S9 z0 z1 z2 => w_R_move_80 n9 S9 z0 z1 z2 Q) S y1 y7 y9 Q))))))))) := h
      refine lv_iload hx hb d_R_move_80 (lv_at hl 3 rfl) ?_
      refine lv_aload_n hx hb d_R_move_82 rfl (lv_at hl 0 rfl) ?_
      refine va_get (D := D) (ci := 4) (v := .int (S.1 1 0)) (C := Rc_R) (T := Fc_R) (N := 25) hx hb hw inc_R hown hK hP 0 rfl rfl 1 (by decide) (hw _ wd_592) (fun _ h9 => h9) rfl d_R_move_83 ?_
      refine lv_icmp_ge (tgt := 147) hx hb d_R_move_86 (by decide) (fun hc => ?_) (fun hc => ?_)
      · replace h := h.1 hc
        refine lv_aload_n hx hb d_R_move_147 rfl (lv_at hl 0 rfl) ?_
        refine va_get (D := D) (ci := 4) (v := .ref (ad 10)) (C := Rc_R) (T := Fc_R) (N := 25) hx hb hw inc_R hown hK hP 0 rfl rfl 13 (by decide) (hw _ wd_604) (fun _ h9 => h9) rfl d_R_move_148 ?_
        refine lv_iload_n hx hb d_R_move_151 rfl (lv_at hl 1 rfl) ?_
        obtain ⟨hq, h⟩ := h
        refine va_lald (D := D) hx hb hK hP 10 1 rfl rfl hq d_R_move_152 ?_
        refine lv_aload_n hx hb d_R_move_153 rfl (lv_at hl 0 rfl) ?_
        refine xx_calll (va_runV (As := []) (rest := [.long (S.2 8 y1.toNatClampNeg)]) ⟨hx, hb, hml, hown, hw⟩ (c_R_lineEnd l D ca ad H.size S _ h) (cwV 0 hw (tG_g gl_R_139) rfl rfl rfl (by decide +kernel) ⟨Nat.le_of_ble_eq_true rfl, Nat.le_of_ble_eq_true rfl⟩) ⟨xPc.blind, va_recv hK hP rfl (q0 := 0) rfl, xPc.pre hK hN hP hD⟩ rfl rfl hl.1 rfl (lv_room (Nat.le_of_ble_eq_true rfl)) d_R_move_154 ⟨Nat.le_of_ble_eq_true rfl, Nat.le_of_ble_eq_true rfl⟩) hD hS hA (fun r11 S12 H locs h hP hD hS => ?_)
        refine W.lcmp hx hb d_R_move_157 ?_
        refine lv_if_ge (tgt := 162) hx hb d_R_move_158 (by decide) (fun hc => ?_) (fun hc => ?_)
        · replace h := h.1 hc
          refine lv_aload_n hx hb d_R_move_162 rfl (lv_at hl 0 rfl) ?_
          refine va_get (D := D) (ci := 4) (v := .ref (ad 10)) (C := Rc_R) (T := Fc_R) (N := 25) hx hb hw inc_R hown hK hP 0 rfl rfl 13 (by decide) (hw _ wd_604) (fun _ h9 => h9) rfl d_R_move_163 ?_
          refine lv_iload_n hx hb d_R_move_166 rfl (lv_at hl 1 rfl) ?_
          refine lv_aload_n hx hb d_R_move_167 rfl (lv_at hl 0 rfl) ?_
          refine xx_calll (va_runV (As := []) (rest := [.int y1, .ref (ad 10)]) ⟨hx, hb, hml, hown, hw⟩ (c_R_lineEnd l D ca ad H.size S12 _ h) (cwV 0 hw (tG_g gl_R_139) rfl rfl rfl (by decide +kernel) ⟨Nat.le_of_ble_eq_true rfl, Nat.le_of_ble_eq_true rfl⟩) ⟨xPc.blind, va_recv hK hP rfl (q0 := 0) rfl, xPc.pre hK hN hP hD⟩ rfl rfl hl.1 rfl (lv_room (Nat.le_of_ble_eq_true rfl)) d_R_move_168 ⟨Nat.le_of_ble_eq_true rfl, Nat.le_of_ble_eq_true rfl⟩) hD hS hA (fun r13 S14 H locs h hP hD hS => ?_)
          obtain ⟨hq, h⟩ := h
          refine va_last (D := D) hx hb hK hP hD hS 10 1 rfl rfl hq d_R_move_171 (fun H locs hP hD hS => ?_)
          rw [pt_R_real] at hP hD
          refine lv_aload_n hx hb d_R_move_172 rfl (lv_at hl 0 rfl) ?_
          refine va_get (D := D) (ci := 4) (v := .ref (ad 11)) (C := Rc_R) (T := Fc_R) (N := 25) hx hb hw inc_R hown hK hP 0 rfl rfl 14 (by decide) (hw _ wd_605) (fun _ h9 => h9) rfl d_R_move_173 ?_
          refine lv_iload_n hx hb d_R_move_176 rfl (lv_at hl 1 rfl) ?_
          refine lv_aload_n hx hb d_R_move_177 rfl (lv_at hl 0 rfl) ?_
          refine xx_calll (va_runV (As := []) (rest := [.int y1, .ref (ad 11)]) ⟨hx, hb, hml, hown, hw⟩ (c_R_lineEnd l D ca ad H.size (pV S14 8 y1.toNatClampNeg r13) _ h) (cwV 0 hw (tG_g gl_R_139) rfl rfl rfl (by decide +kernel) ⟨Nat.le_of_ble_eq_true rfl, Nat.le_of_ble_eq_true rfl⟩) ⟨xPc.blind, va_recv hK hP rfl (q0 := 0) rfl, xPc.pre hK hN hP hD⟩ rfl rfl hl.1 rfl (lv_room (Nat.le_of_ble_eq_true rfl)) d_R_move_178 ⟨Nat.le_of_ble_eq_true rfl, Nat.le_of_ble_eq_true rfl⟩) hD hS hA (fun r15 S16 H locs h hP hD hS => ?_)
          obtain ⟨hq, h⟩ := h
          refine va_last (D := D) hx hb hK hP hD hS 11 1 rfl rfl hq d_R_move_181 (fun H locs hP hD hS => ?_)
          rw [pt_R_measured] at hP hD
          refine lv_aload_n hx hb d_R_move_182 rfl (lv_at hl 0 rfl) ?_
          refine va_get (D := D) (ci := 4) (v := .ref (ad 12)) (C := Rc_R) (T := Fc_R) (N := 25) hx hb hw inc_R hown hK hP 0 rfl rfl 15 (by decide) (hw _ wd_606) (fun _ h9 => h9) rfl d_R_move_183 ?_
          refine lv_iload_n hx hb d_R_move_186 rfl (lv_at hl 1 rfl) ?_
          refine lv_lconst (v := 0) hx hb d_R_move_187 (by decide) ?_
          obtain ⟨hq, h⟩ := h
          refine va_last (D := D) hx hb hK hP hD hS 12 1 rfl rfl hq d_R_move_188 (fun H locs hP hD hS => ?_)
          rw [pt_R_margin] at hP hD
          refine lv_aload_n hx hb d_R_move_189 rfl (lv_at hl 0 rfl) ?_
          refine va_get (D := D) (ci := 4) (v := .ref (ad 9)) (C := Rc_R) (T := Fc_R) (N := 25) hx hb hw inc_R hown hK hP 0 rfl rfl 12 (by decide) (hw _ wd_603) (fun _ h9 => h9) rfl d_R_move_190 ?_
          refine lv_iload_n hx hb d_R_move_193 rfl (lv_at hl 1 rfl) ?_
          refine lv_lconst (v := 0) hx hb d_R_move_194 (by decide) ?_
          obtain ⟨hq, h⟩ := h
          refine va_last (D := D) hx hb hK hP hD hS 9 1 rfl rfl hq d_R_move_195 (fun H locs hP hD hS => ?_)
          rw [pt_R_speed] at hP hD
          exact W.vret hx hb hr (fun t ht hW => ⟨⟨pV (pV (pV S16 9 y1.toNatClampNeg r15) 10 y1.toNatClampNeg 0) 7 y1.toNatClampNeg 0, rfl, h, by rw [ht]; exact hP, hD⟩, hS.F ht⟩) hS.2.2 d_R_move_196
        · replace h := h.2 hc
          exact W.vret hx hb hr (fun t ht hW => ⟨⟨S12, rfl, h, by rw [ht]; exact hP, hD⟩, hS.F ht⟩) hS.2.2 d_R_move_161
      · replace h := h.2 hc
        refine lv_lload hx hb d_R_move_89 (lv_at hl 2 rfl) ?_
        refine lv_aload_n hx hb d_R_move_91 rfl (lv_at hl 0 rfl) ?_
        refine va_get (D := D) (ci := 4) (v := .ref (ad 1)) (C := Rc_R) (T := Fc_R) (N := 25) hx hb hw inc_R hown hK hP 0 rfl rfl 2 (by decide) (hw _ wd_593) (fun _ h9 => h9) rfl d_R_move_92 ?_
        refine lv_iload hx hb d_R_move_95 (lv_at hl 3 rfl) ?_
        obtain ⟨hq, h⟩ := h
        refine va_lald (D := D) hx hb hK hP 1 1 rfl rfl hq d_R_move_97 ?_
        refine W.lcmp hx hb d_R_move_98 ?_
        refine lv_if_ge (tgt := 141) hx hb d_R_move_99 (by decide) (fun hc => ?_) (fun hc => ?_)
        · replace h := h.1 hc
          exact bk_141 (fun S9 z0 z1 z2 => w_R_move_80 n9 S9 z0 z1 z2 Q) hK80 S y1 y7 y9 H locs hP hD hS ls (lv_sub hl [0, 1, 2, 3] rfl) h
        · replace h := h.2 hc
          refine lv_aload_n hx hb d_R_move_102 rfl (lv_at hl 0 rfl) ?_
          refine va_get (D := D) (ci := 4) (v := .ref (ad 10)) (C := Rc_R) (T := Fc_R) (N := 25) hx hb hw inc_R hown hK hP 0 rfl rfl 13 (by decide) (hw _ wd_604) (fun _ h9 => h9) rfl d_R_move_103 ?_
          refine lv_iload_n hx hb d_R_move_106 rfl (lv_at hl 1 rfl) ?_
          obtain ⟨hq, h⟩ := h
          refine va_lald (D := D) hx hb hK hP 10 1 rfl rfl hq d_R_move_107 ?_
          refine lv_aload_n hx hb d_R_move_108 rfl (lv_at hl 0 rfl) ?_
          refine va_get (D := D) (ci := 4) (v := .ref (ad 1)) (C := Rc_R) (T := Fc_R) (N := 25) hx hb hw inc_R hown hK hP 0 rfl rfl 2 (by decide) (hw _ wd_593) (fun _ h9 => h9) rfl d_R_move_109 ?_
          refine lv_iload hx hb d_R_move_112 (lv_at hl 3 rfl) ?_
          obtain ⟨hq, h⟩ := h
          refine va_lald (D := D) hx hb hK hP 1 1 rfl rfl hq d_R_move_114 ?_
          refine W.lcmp hx hb d_R_move_115 ?_
          refine lv_if_ge (tgt := 122) hx hb d_R_move_116 (by decide) (fun hc => ?_) (fun hc => ?_)
          · replace h := h.1 hc
            refine lv_aload_n hx hb d_R_move_122 rfl (lv_at hl 0 rfl) ?_
            refine va_get (D := D) (ci := 4) (v := .ref (ad 11)) (C := Rc_R) (T := Fc_R) (N := 25) hx hb hw inc_R hown hK hP 0 rfl rfl 14 (by decide) (hw _ wd_605) (fun _ h9 => h9) rfl d_R_move_123 ?_
            refine lv_iload_n hx hb d_R_move_126 rfl (lv_at hl 1 rfl) ?_
            refine lv_aload_n hx hb d_R_move_127 rfl (lv_at hl 0 rfl) ?_
            refine va_get (D := D) (ci := 4) (v := .ref (ad 10)) (C := Rc_R) (T := Fc_R) (N := 25) hx hb hw inc_R hown hK hP 0 rfl rfl 13 (by decide) (hw _ wd_604) (fun _ h9 => h9) rfl d_R_move_128 ?_
            refine lv_iload_n hx hb d_R_move_131 rfl (lv_at hl 1 rfl) ?_
            obtain ⟨hq, h⟩ := h
            refine va_lald (D := D) hx hb hK hP 10 1 rfl rfl hq d_R_move_132 ?_
            obtain ⟨hq, h⟩ := h
            refine va_last (D := D) hx hb hK hP hD hS 11 1 rfl rfl hq d_R_move_133 (fun H locs hP hD hS => ?_)
            rw [pt_R_measured] at hP hD
            refine lv_aload_n hx hb d_R_move_134 rfl (lv_at hl 0 rfl) ?_
            refine va_get (D := D) (ci := 4) (v := .ref (ad 12)) (C := Rc_R) (T := Fc_R) (N := 25) hx hb hw inc_R hown hK hP 0 rfl rfl 15 (by decide) (hw _ wd_606) (fun _ h9 => h9) rfl d_R_move_135 ?_
            refine lv_iload_n hx hb d_R_move_138 rfl (lv_at hl 1 rfl) ?_
            refine lv_lconst (v := 0) hx hb d_R_move_139 (by decide) ?_
            obtain ⟨hq, h⟩ := h
            refine va_last (D := D) hx hb hK hP hD hS 12 1 rfl rfl hq d_R_move_140 (fun H locs hP hD hS => ?_)
            rw [pt_R_margin] at hP hD
            exact bk_141 (fun S9 z0 z1 z2 => w_R_move_80 n9 S9 z0 z1 z2 Q) hK80 (pV (pV S 9 y1.toNatClampNeg (S.2 8 y1.toNatClampNeg)) 10 y1.toNatClampNeg 0) y1 y7 y9 H locs hP hD hS ls (lv_sub hl [0, 1, 2, 3] rfl) h
          · replace h := h.2 hc
            refine lv_goto (tgt := 141) hx hb d_R_move_119 (by decide) ?_
            exact bk_141 (fun S9 z0 z1 z2 => w_R_move_80 n9 S9 z0 z1 z2 Q) hK80 S y1 y7 y9 H locs hP hD hS ls (lv_sub hl [0, 1, 2, 3] rfl) h
  have hH9 : ∀ H : Heap, H = s.heap → va_P D cls (wR ca ad S) H → va_S A s.heap H [] → W p l e ({ frames := 1, cells := 0, slots := 0, locals := 20 } : Room) s m args below meth c H [] 0 0 (MQ below ((fun A => va_Qv Q (xAt D (wR ca ad) A) A) A) args s 0 0 A) (F0 m 0 ls []) := by
    clear hP hS
    intro H hH hP hS
    obtain ⟨locs, hlo⟩ : ∃ z : List Loc, z = [] := ⟨_, rfl⟩
    rw [← hlo] at hS ⊢
    refine lv_aload_n hx hb d_R_move_0 rfl (lv_at hl 0 rfl) ?_
    refine va_get (D := D) (ci := 4) (v := .ref (ad 9)) (C := Rc_R) (T := Fc_R) (N := 25) hx hb hw inc_R hown hK hP 0 rfl rfl 12 (by decide) (hw _ wd_603) (fun _ h9 => h9) rfl d_R_move_1 ?_
    refine lv_iload_n hx hb d_R_move_4 rfl (lv_at hl 1 rfl) ?_
    obtain ⟨hq, h⟩ := h
    refine va_lald (D := D) hx hb hK hP 9 1 rfl rfl hq d_R_move_5 ?_
    refine lv_lload_n hx hb d_R_move_6 rfl (lv_at hl 2 rfl) ?_
    refine lv_ladd hx hb d_R_move_7 ?_
    refine lv_topl (fun b1 e_b1 => ?_)
    replace h := h b1 e_b1
    refine lv_ldc2 hx hb hown (hw _ wd_750) d_R_move_8 ?_
    refine lv_ldiv hx hb d_R_move_11 (by decide) ?_
    refine lv_topl (fun b2 e_b2 => ?_)
    replace h := h b2 e_b2
    refine lv_lstore (lv' := [(5, .long b2), (0, .ref (ad 0)), (1, .int x1), (2, .long x2), (4, .int x3)]) hx hb d_R_move_12 hl (by decide) rfl (fun ls hl => ?_)
    refine lv_aload_n hx hb d_R_move_14 rfl (lv_at hl 1 rfl) ?_
    refine va_get (D := D) (ci := 4) (v := .ref (ad 10)) (C := Rc_R) (T := Fc_R) (N := 25) hx hb hw inc_R hown hK hP 0 rfl rfl 13 (by decide) (hw _ wd_604) (fun _ h9 => h9) rfl d_R_move_15 ?_
    refine lv_iload_n hx hb d_R_move_18 rfl (lv_at hl 2 rfl) ?_
    obtain ⟨hq, h⟩ := h
    refine va_lald (D := D) hx hb hK hP 10 1 rfl rfl hq d_R_move_19 ?_
    refine lv_lstore (lv' := [(7, .long (S.2 8 x1.toNatClampNeg)), (5, .long b2), (0, .ref (ad 0)), (1, .int x1), (2, .long x2), (4, .int x3)]) hx hb d_R_move_20 hl (by decide) rfl (fun ls hl => ?_)
    refine lv_aload_n hx hb d_R_move_22 rfl (lv_at hl 2 rfl) ?_
    refine va_get (D := D) (ci := 4) (v := .ref (ad 9)) (C := Rc_R) (T := Fc_R) (N := 25) hx hb hw inc_R hown hK hP 0 rfl rfl 12 (by decide) (hw _ wd_603) (fun _ h9 => h9) rfl d_R_move_23 ?_
    refine lv_iload_n hx hb d_R_move_26 rfl (lv_at hl 3 rfl) ?_
    refine lv_lload_n hx hb d_R_move_27 rfl (lv_at hl 4 rfl) ?_
    obtain ⟨hq, h⟩ := h
    refine va_last (D := D) hx hb hK hP hD hS 9 1 rfl rfl hq d_R_move_28 (fun H locs hP hD hS => ?_)
    rw [pt_R_speed] at hP hD
    refine lv_aload_n hx hb d_R_move_29 rfl (lv_at hl 2 rfl) ?_
    refine va_get (D := D) (ci := 4) (v := .ref (ad 11)) (C := Rc_R) (T := Fc_R) (N := 25) hx hb hw inc_R hown hK hP 0 rfl rfl 14 (by decide) (hw _ wd_605) (fun _ h9 => h9) rfl d_R_move_30 ?_
    refine lv_iload_n hx hb d_R_move_33 rfl (lv_at hl 3 rfl) ?_
    refine lv_dup2_11 hx hb d_R_move_34 rfl rfl ?_
    obtain ⟨hq, h⟩ := h
    refine va_lald (D := D) hx hb hK hP 11 1 rfl rfl hq d_R_move_35 ?_
    refine lv_lload hx hb d_R_move_36 (lv_at hl 1 rfl) ?_
    refine lv_ladd hx hb d_R_move_38 ?_
    refine lv_topl (fun b3 e_b3 => ?_)
    replace h := h b3 e_b3
    obtain ⟨hq, h⟩ := h
    refine va_last (D := D) hx hb hK hP hD hS 11 1 rfl rfl hq d_R_move_39 (fun H locs hP hD hS => ?_)
    rw [pt_R_measured] at hP hD
    refine lv_aload_n hx hb d_R_move_40 rfl (lv_at hl 2 rfl) ?_
    refine va_get (D := D) (ci := 4) (v := .ref (ad 12)) (C := Rc_R) (T := Fc_R) (N := 25) hx hb hw inc_R hown hK hP 0 rfl rfl 15 (by decide) (hw _ wd_606) (fun _ h9 => h9) rfl d_R_move_41 ?_
    refine lv_iload_n hx hb d_R_move_44 rfl (lv_at hl 3 rfl) ?_
    refine lv_dup2_11 hx hb d_R_move_45 rfl rfl ?_
    obtain ⟨hq, h⟩ := h
    refine va_lald (D := D) hx hb hK hP 12 1 rfl rfl hq d_R_move_46 ?_
    refine lv_lload hx hb d_R_move_47 (lv_at hl 1 rfl) ?_
    refine lv_ldc2 hx hb hown (hw _ wd_751) d_R_move_49 ?_
    refine lv_ldiv hx hb d_R_move_52 (by decide) ?_
    refine lv_topl (fun b4 e_b4 => ?_)
    replace h := h b4 e_b4
    refine lv_ladd hx hb d_R_move_53 ?_
    refine lv_topl (fun b5 e_b5 => ?_)
    replace h := h b5 e_b5
    obtain ⟨hq, h⟩ := h
    refine va_last (D := D) hx hb hK hP hD hS 12 1 rfl rfl hq d_R_move_54 (fun H locs hP hD hS => ?_)
    rw [pt_R_margin] at hP hD
    refine lv_aload_n hx hb d_R_move_55 rfl (lv_at hl 2 rfl) ?_
    refine va_get (D := D) (ci := 4) (v := .ref (ad 10)) (C := Rc_R) (T := Fc_R) (N := 25) hx hb hw inc_R hown hK hP 0 rfl rfl 13 (by decide) (hw _ wd_604) (fun _ h9 => h9) rfl d_R_move_56 ?_
    refine lv_iload_n hx hb d_R_move_59 rfl (lv_at hl 3 rfl) ?_
    refine lv_dup2_11 hx hb d_R_move_60 rfl rfl ?_
    obtain ⟨hq, h⟩ := h
    refine va_lald (D := D) hx hb hK hP 10 1 rfl rfl hq d_R_move_61 ?_
    refine lv_lload hx hb d_R_move_62 (lv_at hl 1 rfl) ?_
    refine lv_lload hx hb d_R_move_64 (lv_at hl 1 rfl) ?_
    refine lv_ldc2 hx hb hown (hw _ wd_751) d_R_move_66 ?_
    refine lv_ldiv hx hb d_R_move_69 (by decide) ?_
    refine lv_topl (fun b6 e_b6 => ?_)
    replace h := h b6 e_b6
    refine lv_iload hx hb d_R_move_70 (lv_at hl 5 rfl) ?_
    refine lv_i2l (v := x3.toInt64) hx hb d_R_move_72 rfl ?_
    refine lv_topl (fun b7 e_b7 => ?_)
    replace h := h b7 e_b7
    refine lv_lmul hx hb d_R_move_73 ?_
    refine lv_topl (fun b8 e_b8 => ?_)
    replace h := h b8 e_b8
    refine lv_ladd hx hb d_R_move_74 ?_
    refine lv_topl (fun b9 e_b9 => ?_)
    replace h := h b9 e_b9
    refine lv_ladd hx hb d_R_move_75 ?_
    refine lv_topl (fun b10 e_b10 => ?_)
    replace h := h b10 e_b10
    obtain ⟨hq, h⟩ := h
    refine va_last (D := D) hx hb hK hP hD hS 10 1 rfl rfl hq d_R_move_76 (fun H locs hP hD hS => ?_)
    rw [pt_R_real] at hP hD
    refine lv_iconst (v := 0) hx hb d_R_move_77 (by decide) ?_
    refine lv_istore (lv' := [(9, .int 0), (7, .long (S.2 8 x1.toNatClampNeg)), (5, .long b2), (0, .ref (ad 0)), (1, .int x1), (2, .long x2), (4, .int x3)]) hx hb d_R_move_78 hl (by decide) rfl (fun ls hl => ?_)
    obtain ⟨n9, h⟩ := h
    exact bk_80 n9 (pV (pV (pV (pV S 7 x1.toNatClampNeg x2) 9 x1.toNatClampNeg b3) 10 x1.toNatClampNeg b5) 8 x1.toNatClampNeg b10) x1 (S.2 8 x1.toNatClampNeg) 0 H locs hP hD hS ls (lv_sub hl [3, 4, 1, 0] rfl) h
  exact hH9 _ rfl hP hS
theorem d_R_pass_0 : decode b_R_pass 0 = .ok (.aload_n 0, 1) := by decide +kernel
theorem d_R_pass_1 : decode b_R_pass 1 = .ok (.getfield 50, 3) := by decide +kernel
theorem d_R_pass_4 : decode b_R_pass 4 = .ok (.iload_n 1, 1) := by decide +kernel
theorem d_R_pass_5 : decode b_R_pass 5 = .ok (.iaload, 1) := by decide +kernel
theorem d_R_pass_6 : decode b_R_pass 6 = .ok (.iconst 2, 1) := by decide +kernel
theorem d_R_pass_7 : decode b_R_pass 7 = .ok (.if_icmp .ne 7, 3) := by decide +kernel
theorem d_R_pass_10 : decode b_R_pass 10 = .ok (.iconst 1, 1) := by decide +kernel
theorem d_R_pass_11 : decode b_R_pass 11 = .ok (.goto 4, 3) := by decide +kernel
theorem d_R_pass_14 : decode b_R_pass 14 = .ok (.iconst 0, 1) := by decide +kernel
theorem d_R_pass_15 : decode b_R_pass 15 = .ok (.istore 5, 2) := by decide +kernel
theorem d_R_pass_17 : decode b_R_pass 17 = .ok (.aload_n 0, 1) := by decide +kernel
theorem d_R_pass_18 : decode b_R_pass 18 = .ok (.iload_n 1, 1) := by decide +kernel
theorem d_R_pass_19 : decode b_R_pass 19 = .ok (.aload_n 0, 1) := by decide +kernel
theorem d_R_pass_20 : decode b_R_pass 20 = .ok (.iload_n 1, 1) := by decide +kernel
theorem d_R_pass_21 : decode b_R_pass 21 = .ok (.lload_n 2, 1) := by decide +kernel
theorem d_R_pass_22 : decode b_R_pass 22 = .ok (.invokevirtual 182, 3) := by decide +kernel
theorem d_R_pass_25 : decode b_R_pass 25 = .ok (.iload 4, 2) := by decide +kernel
theorem d_R_pass_27 : decode b_R_pass 27 = .ok (.invokevirtual 186, 3) := by decide +kernel
theorem d_R_pass_30 : decode b_R_pass 30 = .ok (.iload 5, 2) := by decide +kernel
theorem d_R_pass_32 : decode b_R_pass 32 = .ok (.ifCond .eq 45, 3) := by decide +kernel
theorem d_R_pass_35 : decode b_R_pass 35 = .ok (.aload_n 0, 1) := by decide +kernel
theorem d_R_pass_36 : decode b_R_pass 36 = .ok (.getfield 38, 3) := by decide +kernel
theorem d_R_pass_39 : decode b_R_pass 39 = .ok (.iload_n 1, 1) := by decide +kernel
theorem d_R_pass_40 : decode b_R_pass 40 = .ok (.laload, 1) := by decide +kernel
theorem d_R_pass_41 : decode b_R_pass 41 = .ok (.aload_n 0, 1) := by decide +kernel
theorem d_R_pass_42 : decode b_R_pass 42 = .ok (.getfield 47, 3) := by decide +kernel
theorem d_R_pass_45 : decode b_R_pass 45 = .ok (.iload_n 1, 1) := by decide +kernel
theorem d_R_pass_46 : decode b_R_pass 46 = .ok (.laload, 1) := by decide +kernel
theorem d_R_pass_47 : decode b_R_pass 47 = .ok (.lcmp, 1) := by decide +kernel
theorem d_R_pass_48 : decode b_R_pass 48 = .ok (.ifCond .le 29, 3) := by decide +kernel
theorem d_R_pass_51 : decode b_R_pass 51 = .ok (.aload_n 0, 1) := by decide +kernel
theorem d_R_pass_52 : decode b_R_pass 52 = .ok (.getfield 50, 3) := by decide +kernel
theorem d_R_pass_55 : decode b_R_pass 55 = .ok (.iload_n 1, 1) := by decide +kernel
theorem d_R_pass_56 : decode b_R_pass 56 = .ok (.iconst 3, 1) := by decide +kernel
theorem d_R_pass_57 : decode b_R_pass 57 = .ok (.iastore, 1) := by decide +kernel
theorem d_R_pass_58 : decode b_R_pass 58 = .ok (.aload_n 0, 1) := by decide +kernel
theorem d_R_pass_59 : decode b_R_pass 59 = .ok (.getfield 47, 3) := by decide +kernel
theorem d_R_pass_62 : decode b_R_pass 62 = .ok (.iload_n 1, 1) := by decide +kernel
theorem d_R_pass_63 : decode b_R_pass 63 = .ok (.ldc2_w 129, 3) := by decide +kernel
theorem d_R_pass_66 : decode b_R_pass 66 = .ok (.lastore, 1) := by decide +kernel
theorem d_R_pass_67 : decode b_R_pass 67 = .ok (.aload_n 0, 1) := by decide +kernel
theorem d_R_pass_68 : decode b_R_pass 68 = .ok (.dup, 1) := by decide +kernel
theorem d_R_pass_69 : decode b_R_pass 69 = .ok (.getfield 190, 3) := by decide +kernel
theorem d_R_pass_72 : decode b_R_pass 72 = .ok (.iconst 1, 1) := by decide +kernel
theorem d_R_pass_73 : decode b_R_pass 73 = .ok (.iadd, 1) := by decide +kernel
theorem d_R_pass_74 : decode b_R_pass 74 = .ok (.putfield 190, 3) := by decide +kernel
theorem d_R_pass_77 : decode b_R_pass 77 = .ok (.iconst 0, 1) := by decide +kernel
theorem d_R_pass_78 : decode b_R_pass 78 = .ok (.istore 6, 2) := by decide +kernel
theorem d_R_pass_80 : decode b_R_pass 80 = .ok (.iload 6, 2) := by decide +kernel
theorem d_R_pass_82 : decode b_R_pass 82 = .ok (.aload_n 0, 1) := by decide +kernel
theorem d_R_pass_83 : decode b_R_pass 83 = .ok (.getfield 79, 3) := by decide +kernel
theorem d_R_pass_86 : decode b_R_pass 86 = .ok (.if_icmp .ge 54, 3) := by decide +kernel
theorem d_R_pass_89 : decode b_R_pass 89 = .ok (.aload_n 0, 1) := by decide +kernel
theorem d_R_pass_90 : decode b_R_pass 90 = .ok (.getfield 16, 3) := by decide +kernel
theorem d_R_pass_93 : decode b_R_pass 93 = .ok (.iload 6, 2) := by decide +kernel
theorem d_R_pass_95 : decode b_R_pass 95 = .ok (.iaload, 1) := by decide +kernel
theorem d_R_pass_96 : decode b_R_pass 96 = .ok (.iload_n 1, 1) := by decide +kernel
theorem d_R_pass_97 : decode b_R_pass 97 = .ok (.if_icmp .ne 37, 3) := by decide +kernel
theorem d_R_pass_100 : decode b_R_pass 100 = .ok (.aload_n 0, 1) := by decide +kernel
theorem d_R_pass_101 : decode b_R_pass 101 = .ok (.getfield 7, 3) := by decide +kernel
theorem d_R_pass_104 : decode b_R_pass 104 = .ok (.iload 6, 2) := by decide +kernel
theorem d_R_pass_106 : decode b_R_pass 106 = .ok (.iconst 1, 1) := by decide +kernel
theorem d_R_pass_107 : decode b_R_pass 107 = .ok (.iadd, 1) := by decide +kernel
theorem d_R_pass_108 : decode b_R_pass 108 = .ok (.laload, 1) := by decide +kernel
theorem d_R_pass_109 : decode b_R_pass 109 = .ok (.aload_n 0, 1) := by decide +kernel
theorem d_R_pass_110 : decode b_R_pass 110 = .ok (.getfield 38, 3) := by decide +kernel
theorem d_R_pass_113 : decode b_R_pass 113 = .ok (.iload_n 1, 1) := by decide +kernel
theorem d_R_pass_114 : decode b_R_pass 114 = .ok (.laload, 1) := by decide +kernel
theorem d_R_pass_115 : decode b_R_pass 115 = .ok (.aload_n 0, 1) := by decide +kernel
theorem d_R_pass_116 : decode b_R_pass 116 = .ok (.getfield 29, 3) := by decide +kernel
theorem d_R_pass_119 : decode b_R_pass 119 = .ok (.iload_n 1, 1) := by decide +kernel
theorem d_R_pass_120 : decode b_R_pass 120 = .ok (.laload, 1) := by decide +kernel
theorem d_R_pass_121 : decode b_R_pass 121 = .ok (.lsub, 1) := by decide +kernel
theorem d_R_pass_122 : decode b_R_pass 122 = .ok (.lcmp, 1) := by decide +kernel
theorem d_R_pass_123 : decode b_R_pass 123 = .ok (.ifCond .gt 11, 3) := by decide +kernel
theorem d_R_pass_126 : decode b_R_pass 126 = .ok (.aload_n 0, 1) := by decide +kernel
theorem d_R_pass_127 : decode b_R_pass 127 = .ok (.getfield 16, 3) := by decide +kernel
theorem d_R_pass_130 : decode b_R_pass 130 = .ok (.iload 6, 2) := by decide +kernel
theorem d_R_pass_132 : decode b_R_pass 132 = .ok (.iconst (-1), 1) := by decide +kernel
theorem d_R_pass_133 : decode b_R_pass 133 = .ok (.iastore, 1) := by decide +kernel
theorem d_R_pass_134 : decode b_R_pass 134 = .ok (.iinc 6 1, 3) := by decide +kernel
theorem d_R_pass_137 : decode b_R_pass 137 = .ok (.goto (-57), 3) := by decide +kernel
theorem d_R_pass_140 : decode b_R_pass 140 = .ok (.return_, 1) := by decide +kernel
theorem gl_R_182 : ∀ w ∈ wsV "TrainGuardModel" 182 "TrainGuardModel" y_R_wish (Cond.code y_R_wish b_R_wish 14 (some Jvm.ClassFile.FieldType.long) :: tG), w ∈ tG := by
  intro x hx
  simp only [wsV, List.cons_append, List.nil_append, List.mem_cons] at hx
  rcases hx with rfl | rfl | rfl | rfl | rfl | hx
  · exact wd_801
  · exact wd_803
  · exact ws_34
  · exact wd_5
  · exact wd_804
  · exact hx
theorem gl_R_186 : ∀ w ∈ wsV "TrainGuardModel" 186 "TrainGuardModel" y_R_move (Cond.code y_R_move b_R_move 10 none :: tG), w ∈ tG := by
  intro x hx
  simp only [wsV, List.cons_append, List.nil_append, List.mem_cons] at hx
  rcases hx with rfl | rfl | rfl | rfl | rfl | hx
  · exact wd_806
  · exact wd_808
  · exact ws_35
  · exact wd_5
  · exact wd_809
  · exact hx
def w_R_pass_134 (K80 : SR → Int32 → Int32 → Prop) (S : SR) (y1 : Int32) (y6 : Int32) (Q : SR → Prop) : Prop := K80 S y1 (y6 + 1)
def w_R_pass_80 : Nat → SR → Int32 → Int32 → (SR → Prop) → Prop
  | 0 => fun _ _ _ _ => False
  | n + 1 => fun S y1 y6 Q => ((((S.1 1 0) ≤ y6) → (Q S)) ∧ ((¬ (S.1 1 0) ≤ y6) → (vp_in y6 10 ∧ (((¬ (S.1 7 y6.toNatClampNeg) = y1) → (w_R_pass_134 (fun S9 z0 z1 => w_R_pass_80 n S9 z0 z1 Q) S y1 y6 Q)) ∧ (((S.1 7 y6.toNatClampNeg) = y1) → (∀ a5 : Int32, a5 = y6 + 1 → (vp_in a5 11 ∧ (vp_in y1 3 ∧ (vp_in y1 3 ∧ (∀ b6 : Int64, b6 = (S.2 8 y1.toNatClampNeg) - (S.2 5 y1.toNatClampNeg) → (((0 < (lg_cmp (S.2 0 a5.toNatClampNeg) b6)) → (w_R_pass_134 (fun S9 z0 z1 => w_R_pass_80 n S9 z0 z1 Q) S y1 y6 Q)) ∧ ((¬ 0 < (lg_cmp (S.2 0 a5.toNatClampNeg) b6)) → (vp_in y6 10 ∧ (w_R_pass_134 (fun S9 z0 z1 => w_R_pass_80 n S9 z0 z1 Q) (pI S 7 y6.toNatClampNeg (-1)) y1 y6 Q))))))))))))))
def w_R_pass_77 (S : SR) (y1 : Int32) (Q : SR → Prop) : Prop := ∃ n : Nat, w_R_pass_80 n S y1 0 Q
def w_R_pass_15 (S : SR) (y1 : Int32) (y2 : Int64) (y4 : Int32) (ys0 : Int32) (Q : SR → Prop) : Prop := w_R_wish S y1 y2 (fun r1 S2 => w_R_move S2 y1 r1 y4 (fun S3 => ((ys0 = 0) → (w_R_pass_77 S3 y1 Q)) ∧ ((¬ ys0 = 0) → (vp_in y1 3 ∧ (vp_in y1 3 ∧ ((((lg_cmp (S3.2 8 y1.toNatClampNeg) (S3.2 11 y1.toNatClampNeg)) ≤ 0) → (w_R_pass_77 S3 y1 Q)) ∧ ((¬ (lg_cmp (S3.2 8 y1.toNatClampNeg) (S3.2 11 y1.toNatClampNeg)) ≤ 0) → (vp_in y1 3 ∧ (vp_in y1 3 ∧ (∀ a4 : Int32, a4 = ((pV (pI S3 8 y1.toNatClampNeg 3) 11 y1.toNatClampNeg (-1 : Int64)).1 6 0) + 1 → (w_R_pass_77 (pI (pV (pI S3 8 y1.toNatClampNeg 3) 11 y1.toNatClampNeg (-1 : Int64)) 6 0 a4) y1 Q)))))))))))
def w_R_pass (S : SR) (x1 : Int32) (x2 : Int64) (x3 : Int32) (Q : SR → Prop) : Prop := vp_in x1 3 ∧ (((¬ (S.1 8 x1.toNatClampNeg) = 2) → (w_R_pass_15 S x1 x2 x3 0 Q)) ∧ (((S.1 8 x1.toNatClampNeg) = 2) → (w_R_pass_15 S x1 x2 x3 1 Q)))
set_option maxRecDepth 100000 in
set_option maxHeartbeats 4000000 in
theorem c_R_pass (l : Launch) (D : va_G) (ca : Nat → ClassId) (ad : Nat → Nat) (sz : Nat) (S : SR) (x1 : Int32) (x2 : Int64) (x3 : Int32)  (Q : SR → Prop) (h : w_R_pass S x1 x2 x3 Q) : Met l y_R_pass (Cond.code y_R_pass b_R_pass 7 none :: tG) ({ frames := 4, cells := 0, slots := 0, locals := 127 } : Room) (xPc D ca (wR ca ad) S sz [.ref (ad 0), .int x1, .long x2, .int x3]) (va_Qv Q (xAt D (wR ca ad) (va_A (wR ca ad S) sz)) (va_A (wR ca ad S) sz)) 0 0 (va_A (wR ca ad S) sz) := by
  refine xx_met (Qf := fun A => va_Qv Q (xAt D (wR ca ad) A) A) (by decide) (Nat.le_of_ble_eq_true rfl) ?_
  intro p e s m args below meth c A ls hx hb hr hw hown hlocks hml hK hN hA hP hD hS hl
  have hown : s.vm.findClass "TrainGuardModel" = some m.cls := hown
  have hl : lv_has ls 7 [(0, .ref (ad 0)), (1, .int x1), (2, .long x2), (4, .int x3)] := hl
  unfold w_R_pass at h
  have bk_134 : ∀ (K80 : SR → Int32 → Int32 → Prop) (hK80 : ∀ (S : SR) (y1 : Int32) (y6 : Int32) (H : Heap) (locs : List Loc) , va_P D cls (wR ca ad S) H → va_D A (wR ca ad S) → va_S A s.heap H locs → ∀ (ls : Array Slot), lv_has ls 7 [(0, .ref (ad 0)), (1, .int y1), (6, .int y6)] → K80 S y1 y6 → W p l e ({ frames := 4, cells := 0, slots := 0, locals := 127 } : Room) s m args below meth c H locs 0 0 (MQ below ((fun A => va_Qv Q (xAt D (wR ca ad) A) A) A) args s 0 0 A) (F0 m 80 ls [])) (S : SR) (y1 : Int32) (y6 : Int32) (H : Heap) (locs : List Loc) , va_P D cls (wR ca ad S) H → va_D A (wR ca ad S) → va_S A s.heap H locs → ∀ (ls : Array Slot), lv_has ls 7 [(0, .ref (ad 0)), (1, .int y1), (6, .int y6)] → w_R_pass_134 K80 S y1 y6 Q → W p l e ({ frames := 4, cells := 0, slots := 0, locals := 127 } : Room) s m args below meth c H locs 0 0 (MQ below ((fun A => va_Qv Q (xAt D (wR ca ad) A) A) A) args s 0 0 A) (F0 m 134 ls []) := by
    intro K80 hK80 S y1 y6 H locs hP hD hS ls hl h
    unfold w_R_pass_134 at h
    refine lv_iinc (v := (y6 + 1)) (lv' := [(6, .int (y6 + 1)), (0, .ref (ad 0)), (1, .int y1)]) hx hb d_R_pass_134 hl (k := 2) rfl rfl (by decide) rfl (fun ls hl => ?_)
    refine lv_goto (tgt := 80) hx hb d_R_pass_137 (by decide) ?_
    exact hK80 S y1 (y6 + 1) H locs hP hD hS ls (lv_sub hl [1, 2, 0] rfl) h
  have bk_80 : ∀ (n9 : Nat) (S : SR) (y1 : Int32) (y6 : Int32) (H : Heap) (locs : List Loc) , va_P D cls (wR ca ad S) H → va_D A (wR ca ad S) → va_S A s.heap H locs → ∀ (ls : Array Slot), lv_has ls 7 [(0, .ref (ad 0)), (1, .int y1), (6, .int y6)] → w_R_pass_80 n9 S y1 y6 Q → W p l e ({ frames := 4, cells := 0, slots := 0, locals := 127 } : Room) s m args below meth c H locs 0 0 (MQ below ((fun A => va_Qv Q (xAt D (wR ca ad) A) A) A) args s 0 0 A) (F0 m 80 ls []) := by
    intro n9
    induction n9 with
    | zero => intro S y1 y6 H locs hP hD hS ls hl h; exact absurd h id
    | succ n9 hK80 =>
      intro S y1 y6 H locs hP hD hS ls hl h
      replace h : (((S.1 1 0) ≤ y6) → (Q S)) ∧ ((¬ (S.1 1 0) ≤ y6) → (vp_in y6 10 ∧ (((¬ (S.1 7 y6.toNatClampNeg) = y1) → (w_R_pass_134 (fun S9 z0 z1 => w_R_pass_80 n9 S9 z0 z1 Q) S y1 y6 Q)) ∧ (((S.1 7 y6.toNatClampNeg) = y1) → (∀ a5 : Int32, a5 = y6 + 1 → (vp_in a5 11 ∧ (vp_in y1 3 ∧ (vp_in y1 3 ∧ (∀ b6 : Int64, b6 = (S.2 8 y1.toNatClampNeg) - (S.2 5 y1.toNatClampNeg) → (((0 < (lg_cmp (S.2 0 a5.toNatClampNeg) b6)) → (w_R_pass_134 (fun S9 z0 z1 => w_R_pass_80 n9 S9 z0 z1 Q) S y1 y6 Q)) ∧ ((¬ 0 < (lg_cmp (S.2 0 a5.toNatClampNeg) b6)) → (vp_in y6 10 ∧ (w_R_pass_134 (fun S9 z0 z1 => w_R_pass_80 n9 S9 z0 z1 Q) (pI S 7 y6.toNatClampNeg (-1)) y1 y6 Q))))))))))))) := h
      refine lv_iload hx hb d_R_pass_80 (lv_at hl 2 rfl) ?_
      refine lv_aload_n hx hb d_R_pass_82 rfl (lv_at hl 0 rfl) ?_
      refine va_get (D := D) (ci := 4) (v := .int (S.1 1 0)) (C := Rc_R) (T := Fc_R) (N := 25) hx hb hw inc_R hown hK hP 0 rfl rfl 1 (by decide) (hw _ wd_592) (fun _ h9 => h9) rfl d_R_pass_83 ?_
      refine lv_icmp_ge (tgt := 140) hx hb d_R_pass_86 (by decide) (fun hc => ?_) (fun hc => ?_)
      · replace h := h.1 hc
        exact W.vret hx hb hr (fun t ht hW => ⟨⟨S, rfl, h, by rw [ht]; exact hP, hD⟩, hS.F ht⟩) hS.2.2 d_R_pass_140
      · replace h := h.2 hc
        refine lv_aload_n hx hb d_R_pass_89 rfl (lv_at hl 0 rfl) ?_
        refine va_get (D := D) (ci := 4) (v := .ref (ad 3)) (C := Rc_R) (T := Fc_R) (N := 25) hx hb hw inc_R hown hK hP 0 rfl rfl 4 (by decide) (hw _ wd_595) (fun _ h9 => h9) rfl d_R_pass_90 ?_
        refine lv_iload hx hb d_R_pass_93 (lv_at hl 2 rfl) ?_
        obtain ⟨hq, h⟩ := h
        refine va_iald (D := D) hx hb hK hP 3 0 rfl rfl hq d_R_pass_95 ?_
        refine lv_iload_n hx hb d_R_pass_96 rfl (lv_at hl 1 rfl) ?_
        refine lv_icmp_ne (tgt := 134) hx hb d_R_pass_97 (by decide) (fun hc => ?_) (fun hc => ?_)
        · replace h := h.1 hc
          exact bk_134 (fun S9 z0 z1 => w_R_pass_80 n9 S9 z0 z1 Q) hK80 S y1 y6 H locs hP hD hS ls (lv_sub hl [0, 1, 2] rfl) h
        · replace h := h.2 hc
          refine lv_aload_n hx hb d_R_pass_100 rfl (lv_at hl 0 rfl) ?_
          refine va_get (D := D) (ci := 4) (v := .ref (ad 1)) (C := Rc_R) (T := Fc_R) (N := 25) hx hb hw inc_R hown hK hP 0 rfl rfl 2 (by decide) (hw _ wd_593) (fun _ h9 => h9) rfl d_R_pass_101 ?_
          refine lv_iload hx hb d_R_pass_104 (lv_at hl 2 rfl) ?_
          refine lv_iconst (v := 1) hx hb d_R_pass_106 (by decide) ?_
          refine lv_iadd hx hb d_R_pass_107 ?_
          refine lv_topi (fun a5 e_a5 => ?_)
          replace h := h a5 e_a5
          obtain ⟨hq, h⟩ := h
          refine va_lald (D := D) hx hb hK hP 1 1 rfl rfl hq d_R_pass_108 ?_
          refine lv_aload_n hx hb d_R_pass_109 rfl (lv_at hl 0 rfl) ?_
          refine va_get (D := D) (ci := 4) (v := .ref (ad 10)) (C := Rc_R) (T := Fc_R) (N := 25) hx hb hw inc_R hown hK hP 0 rfl rfl 13 (by decide) (hw _ wd_604) (fun _ h9 => h9) rfl d_R_pass_110 ?_
          refine lv_iload_n hx hb d_R_pass_113 rfl (lv_at hl 1 rfl) ?_
          obtain ⟨hq, h⟩ := h
          refine va_lald (D := D) hx hb hK hP 10 1 rfl rfl hq d_R_pass_114 ?_
          refine lv_aload_n hx hb d_R_pass_115 rfl (lv_at hl 0 rfl) ?_
          refine va_get (D := D) (ci := 4) (v := .ref (ad 7)) (C := Rc_R) (T := Fc_R) (N := 25) hx hb hw inc_R hown hK hP 0 rfl rfl 10 (by decide) (hw _ wd_601) (fun _ h9 => h9) rfl d_R_pass_116 ?_
          refine lv_iload_n hx hb d_R_pass_119 rfl (lv_at hl 1 rfl) ?_
          obtain ⟨hq, h⟩ := h
          refine va_lald (D := D) hx hb hK hP 7 1 rfl rfl hq d_R_pass_120 ?_
          refine lv_lsub hx hb d_R_pass_121 ?_
          refine lv_topl (fun b6 e_b6 => ?_)
          replace h := h b6 e_b6
          refine W.lcmp hx hb d_R_pass_122 ?_
          refine lv_if_gt (tgt := 134) hx hb d_R_pass_123 (by decide) (fun hc => ?_) (fun hc => ?_)
          · replace h := h.1 hc
            exact bk_134 (fun S9 z0 z1 => w_R_pass_80 n9 S9 z0 z1 Q) hK80 S y1 y6 H locs hP hD hS ls (lv_sub hl [0, 1, 2] rfl) h
          · replace h := h.2 hc
            refine lv_aload_n hx hb d_R_pass_126 rfl (lv_at hl 0 rfl) ?_
            refine va_get (D := D) (ci := 4) (v := .ref (ad 3)) (C := Rc_R) (T := Fc_R) (N := 25) hx hb hw inc_R hown hK hP 0 rfl rfl 4 (by decide) (hw _ wd_595) (fun _ h9 => h9) rfl d_R_pass_127 ?_
            refine lv_iload hx hb d_R_pass_130 (lv_at hl 2 rfl) ?_
            refine lv_iconst (v := (-1)) hx hb d_R_pass_132 (by decide) ?_
            obtain ⟨hq, h⟩ := h
            refine va_iast (D := D) hx hb hK hP hD hS 3 0 rfl rfl hq d_R_pass_133 (fun H locs hP hD hS => ?_)
            rw [pt_R_held] at hP hD
            exact bk_134 (fun S9 z0 z1 => w_R_pass_80 n9 S9 z0 z1 Q) hK80 (pI S 7 y6.toNatClampNeg (-1)) y1 y6 H locs hP hD hS ls (lv_sub hl [0, 1, 2] rfl) h
  have bk_77 : ∀ (S : SR) (y1 : Int32) (H : Heap) (locs : List Loc) , va_P D cls (wR ca ad S) H → va_D A (wR ca ad S) → va_S A s.heap H locs → ∀ (ls : Array Slot), lv_has ls 7 [(0, .ref (ad 0)), (1, .int y1)] → w_R_pass_77 S y1 Q → W p l e ({ frames := 4, cells := 0, slots := 0, locals := 127 } : Room) s m args below meth c H locs 0 0 (MQ below ((fun A => va_Qv Q (xAt D (wR ca ad) A) A) A) args s 0 0 A) (F0 m 77 ls []) := by
    intro S y1 H locs hP hD hS ls hl h
    unfold w_R_pass_77 at h
    refine lv_iconst (v := 0) hx hb d_R_pass_77 (by decide) ?_
    refine lv_istore (lv' := [(6, .int 0), (0, .ref (ad 0)), (1, .int y1)]) hx hb d_R_pass_78 hl (by decide) rfl (fun ls hl => ?_)
    obtain ⟨n9, h⟩ := h
    exact bk_80 n9 S y1 0 H locs hP hD hS ls (lv_sub hl [1, 2, 0] rfl) h
  have bk_15 : ∀ (S : SR) (y1 : Int32) (y2 : Int64) (y4 : Int32) (ys0 : Int32) (H : Heap) (locs : List Loc) , va_P D cls (wR ca ad S) H → va_D A (wR ca ad S) → va_S A s.heap H locs → ∀ (ls : Array Slot), lv_has ls 7 [(0, .ref (ad 0)), (1, .int y1), (2, .long y2), (4, .int y4)] → w_R_pass_15 S y1 y2 y4 ys0 Q → W p l e ({ frames := 4, cells := 0, slots := 0, locals := 127 } : Room) s m args below meth c H locs 0 0 (MQ below ((fun A => va_Qv Q (xAt D (wR ca ad) A) A) A) args s 0 0 A) (F0 m 15 ls [.int ys0]) := by
    intro S y1 y2 y4 ys0 H locs hP hD hS ls hl h
    unfold w_R_pass_15 at h
    refine lv_istore (lv' := [(5, .int ys0), (0, .ref (ad 0)), (1, .int y1), (2, .long y2), (4, .int y4)]) hx hb d_R_pass_15 hl (by decide) rfl (fun ls hl => ?_)
    refine lv_aload_n hx hb d_R_pass_17 rfl (lv_at hl 1 rfl) ?_
    refine lv_iload_n hx hb d_R_pass_18 rfl (lv_at hl 2 rfl) ?_
    refine lv_aload_n hx hb d_R_pass_19 rfl (lv_at hl 1 rfl) ?_
    refine lv_iload_n hx hb d_R_pass_20 rfl (lv_at hl 2 rfl) ?_
    refine lv_lload_n hx hb d_R_pass_21 rfl (lv_at hl 3 rfl) ?_
    refine xx_calll (va_runV (As := [.int y1, .long y2]) (rest := [.int y1, .ref (ad 0)]) ⟨hx, hb, hml, hown, hw⟩ (c_R_wish l D ca ad H.size S y1 y2 _ h) (cwV 2 hw (tG_g gl_R_182) rfl rfl rfl (by decide +kernel) ⟨Nat.le_of_ble_eq_true rfl, Nat.le_of_ble_eq_true rfl⟩) ⟨xPc.blind, va_recv hK hP rfl (q0 := 0) rfl, xPc.pre hK hN hP hD⟩ rfl rfl hl.1 rfl (lv_room (Nat.le_of_ble_eq_true rfl)) d_R_pass_22 ⟨Nat.le_of_ble_eq_true rfl, Nat.le_of_ble_eq_true rfl⟩) hD hS hA (fun r1 S2 H locs h hP hD hS => ?_)
    refine lv_iload hx hb d_R_pass_25 (lv_at hl 4 rfl) ?_
    refine xx_callv (va_runV (As := [.int y1, .long r1, .int y4]) (rest := []) ⟨hx, hb, hml, hown, hw⟩ (c_R_move l D ca ad H.size S2 y1 r1 y4 _ h) (cwV 3 hw (tG_g gl_R_186) rfl rfl rfl (by decide +kernel) ⟨Nat.le_of_ble_eq_true rfl, Nat.le_of_ble_eq_true rfl⟩) ⟨xPc.blind, va_recv hK hP rfl (q0 := 0) rfl, xPc.pre hK hN hP hD⟩ rfl rfl hl.1 rfl (lv_room (Nat.le_of_ble_eq_true rfl)) d_R_pass_27 ⟨Nat.le_of_ble_eq_true rfl, Nat.le_of_ble_eq_true rfl⟩) hD hS hA (fun S3 H locs h hP hD hS => ?_)
    refine lv_iload hx hb d_R_pass_30 (lv_at hl 0 rfl) ?_
    refine lv_if_eq (tgt := 77) hx hb d_R_pass_32 (by decide) (fun hc => ?_) (fun hc => ?_)
    · replace h := h.1 hc
      exact bk_77 S3 y1 H locs hP hD hS ls (lv_sub hl [1, 2] rfl) h
    · replace h := h.2 hc
      refine lv_aload_n hx hb d_R_pass_35 rfl (lv_at hl 1 rfl) ?_
      refine va_get (D := D) (ci := 4) (v := .ref (ad 10)) (C := Rc_R) (T := Fc_R) (N := 25) hx hb hw inc_R hown hK hP 0 rfl rfl 13 (by decide) (hw _ wd_604) (fun _ h9 => h9) rfl d_R_pass_36 ?_
      refine lv_iload_n hx hb d_R_pass_39 rfl (lv_at hl 2 rfl) ?_
      obtain ⟨hq, h⟩ := h
      refine va_lald (D := D) hx hb hK hP 10 1 rfl rfl hq d_R_pass_40 ?_
      refine lv_aload_n hx hb d_R_pass_41 rfl (lv_at hl 1 rfl) ?_
      refine va_get (D := D) (ci := 4) (v := .ref (ad 13)) (C := Rc_R) (T := Fc_R) (N := 25) hx hb hw inc_R hown hK hP 0 rfl rfl 16 (by decide) (hw _ wd_607) (fun _ h9 => h9) rfl d_R_pass_42 ?_
      refine lv_iload_n hx hb d_R_pass_45 rfl (lv_at hl 2 rfl) ?_
      obtain ⟨hq, h⟩ := h
      refine va_lald (D := D) hx hb hK hP 13 1 rfl rfl hq d_R_pass_46 ?_
      refine W.lcmp hx hb d_R_pass_47 ?_
      refine lv_if_le (tgt := 77) hx hb d_R_pass_48 (by decide) (fun hc => ?_) (fun hc => ?_)
      · replace h := h.1 hc
        exact bk_77 S3 y1 H locs hP hD hS ls (lv_sub hl [1, 2] rfl) h
      · replace h := h.2 hc
        refine lv_aload_n hx hb d_R_pass_51 rfl (lv_at hl 1 rfl) ?_
        refine va_get (D := D) (ci := 4) (v := .ref (ad 14)) (C := Rc_R) (T := Fc_R) (N := 25) hx hb hw inc_R hown hK hP 0 rfl rfl 17 (by decide) (hw _ wd_608) (fun _ h9 => h9) rfl d_R_pass_52 ?_
        refine lv_iload_n hx hb d_R_pass_55 rfl (lv_at hl 2 rfl) ?_
        refine lv_iconst (v := 3) hx hb d_R_pass_56 (by decide) ?_
        obtain ⟨hq, h⟩ := h
        refine va_iast (D := D) hx hb hK hP hD hS 14 0 rfl rfl hq d_R_pass_57 (fun H locs hP hD hS => ?_)
        rw [pt_R_mode] at hP hD
        refine lv_aload_n hx hb d_R_pass_58 rfl (lv_at hl 1 rfl) ?_
        refine va_get (D := D) (ci := 4) (v := .ref (ad 13)) (C := Rc_R) (T := Fc_R) (N := 25) hx hb hw inc_R hown hK hP 0 rfl rfl 16 (by decide) (hw _ wd_607) (fun _ h9 => h9) rfl d_R_pass_59 ?_
        refine lv_iload_n hx hb d_R_pass_62 rfl (lv_at hl 2 rfl) ?_
        refine lv_ldc2 hx hb hown (hw _ wd_726) d_R_pass_63 ?_
        obtain ⟨hq, h⟩ := h
        refine va_last (D := D) hx hb hK hP hD hS 13 1 rfl rfl hq d_R_pass_66 (fun H locs hP hD hS => ?_)
        rw [pt_R_authority] at hP hD
        refine lv_aload_n hx hb d_R_pass_67 rfl (lv_at hl 1 rfl) ?_
        refine lv_dup hx hb d_R_pass_68 rfl ?_
        refine va_get (D := D) (ci := 4) (v := .int ((pV (pI S3 8 y1.toNatClampNeg 3) 11 y1.toNatClampNeg (-1 : Int64)).1 6 0)) (C := Rc_R) (T := Fc_R) (N := 25) hx hb hw inc_R hown hK hP 0 rfl rfl 24 (by decide) (hw _ wd_615) (fun _ h9 => h9) rfl d_R_pass_69 ?_
        refine lv_iconst (v := 1) hx hb d_R_pass_72 (by decide) ?_
        refine lv_iadd hx hb d_R_pass_73 ?_
        refine lv_topi (fun a4 e_a4 => ?_)
        replace h := h a4 e_a4
        refine va_put (D := D) (ci := 4) (v := .int a4) (ty := .int) (C := Rc_R) (T := Fc_R) (N := 25) hx hb hw inc_R tc_R tc_R_ok nc_R hown hK hP hD hS 0 rfl rfl 24 (by decide) (hw _ wd_615) (fun _ h9 => h9) rfl (by decide +kernel) rfl rfl (Nat.le_of_ble_eq_true rfl) d_R_pass_74 (fun H locs hP hD hS => ?_)
        rw [pt_R_tripped] at hP hD
        exact bk_77 (pI (pV (pI S3 8 y1.toNatClampNeg 3) 11 y1.toNatClampNeg (-1 : Int64)) 6 0 a4) y1 H locs hP hD hS ls (lv_sub hl [1, 2] rfl) h
  have hH9 : ∀ H : Heap, H = s.heap → va_P D cls (wR ca ad S) H → va_S A s.heap H [] → W p l e ({ frames := 4, cells := 0, slots := 0, locals := 127 } : Room) s m args below meth c H [] 0 0 (MQ below ((fun A => va_Qv Q (xAt D (wR ca ad) A) A) A) args s 0 0 A) (F0 m 0 ls []) := by
    clear hP hS
    intro H hH hP hS
    obtain ⟨locs, hlo⟩ : ∃ z : List Loc, z = [] := ⟨_, rfl⟩
    rw [← hlo] at hS ⊢
    refine lv_aload_n hx hb d_R_pass_0 rfl (lv_at hl 0 rfl) ?_
    refine va_get (D := D) (ci := 4) (v := .ref (ad 14)) (C := Rc_R) (T := Fc_R) (N := 25) hx hb hw inc_R hown hK hP 0 rfl rfl 17 (by decide) (hw _ wd_608) (fun _ h9 => h9) rfl d_R_pass_1 ?_
    refine lv_iload_n hx hb d_R_pass_4 rfl (lv_at hl 1 rfl) ?_
    obtain ⟨hq, h⟩ := h
    refine va_iald (D := D) hx hb hK hP 14 0 rfl rfl hq d_R_pass_5 ?_
    refine lv_iconst (v := 2) hx hb d_R_pass_6 (by decide) ?_
    refine lv_icmp_ne (tgt := 14) hx hb d_R_pass_7 (by decide) (fun hc => ?_) (fun hc => ?_)
    · replace h := h.1 hc
      refine lv_iconst (v := 0) hx hb d_R_pass_14 (by decide) ?_
      exact bk_15 S x1 x2 x3 0 H locs hP hD hS ls (lv_sub hl [0, 1, 2, 3] rfl) h
    · replace h := h.2 hc
      refine lv_iconst (v := 1) hx hb d_R_pass_10 (by decide) ?_
      refine lv_goto (tgt := 15) hx hb d_R_pass_11 (by decide) ?_
      exact bk_15 S x1 x2 x3 1 H locs hP hD hS ls (lv_sub hl [0, 1, 2, 3] rfl) h
  exact hH9 _ rfl hP hS
theorem d_R_second_0 : decode b_R_second 0 = .ok (.aload_n 0, 1) := by decide +kernel
theorem d_R_second_1 : decode b_R_second 1 = .ok (.iload_n 1, 1) := by decide +kernel
theorem d_R_second_2 : decode b_R_second 2 = .ok (.invokevirtual 158, 3) := by decide +kernel
theorem d_R_second_5 : decode b_R_second 5 = .ok (.ifCond .ne 24, 3) := by decide +kernel
theorem d_R_second_8 : decode b_R_second 8 = .ok (.dload_n 2, 1) := by decide +kernel
theorem d_R_second_9 : decode b_R_second 9 = .ok (.ldc2_w 193, 3) := by decide +kernel
theorem d_R_second_12 : decode b_R_second 12 = .ok (.dconst 1, 1) := by decide +kernel
theorem d_R_second_13 : decode b_R_second 13 = .ok (.invokestatic 97, 3) := by decide +kernel
theorem d_R_second_16 : decode b_R_second 16 = .ok (.ifCond .eq 13, 3) := by decide +kernel
theorem d_R_second_19 : decode b_R_second 19 = .ok (.iload 4, 2) := by decide +kernel
theorem d_R_second_21 : decode b_R_second 21 = .ok (.iconst (-1), 1) := by decide +kernel
theorem d_R_second_22 : decode b_R_second 22 = .ok (.iconst 1, 1) := by decide +kernel
theorem d_R_second_23 : decode b_R_second 23 = .ok (.invokestatic 75, 3) := by decide +kernel
theorem d_R_second_26 : decode b_R_second 26 = .ok (.ifCond .ne 9, 3) := by decide +kernel
theorem d_R_second_29 : decode b_R_second 29 = .ok (.aload_n 0, 1) := by decide +kernel
theorem d_R_second_30 : decode b_R_second 30 = .ok (.iconst 1, 1) := by decide +kernel
theorem d_R_second_31 : decode b_R_second 31 = .ok (.invokevirtual 103, 3) := by decide +kernel
theorem d_R_second_34 : decode b_R_second 34 = .ok (.ireturn, 1) := by decide +kernel
theorem d_R_second_35 : decode b_R_second 35 = .ok (.aload_n 0, 1) := by decide +kernel
theorem d_R_second_36 : decode b_R_second 36 = .ok (.getfield 50, 3) := by decide +kernel
theorem d_R_second_39 : decode b_R_second 39 = .ok (.iload_n 1, 1) := by decide +kernel
theorem d_R_second_40 : decode b_R_second 40 = .ok (.iaload, 1) := by decide +kernel
theorem d_R_second_41 : decode b_R_second 41 = .ok (.iconst 1, 1) := by decide +kernel
theorem d_R_second_42 : decode b_R_second 42 = .ok (.iconst 3, 1) := by decide +kernel
theorem d_R_second_43 : decode b_R_second 43 = .ok (.invokestatic 75, 3) := by decide +kernel
theorem d_R_second_46 : decode b_R_second 46 = .ok (.ifCond .eq 14, 3) := by decide +kernel
theorem d_R_second_49 : decode b_R_second 49 = .ok (.aload_n 0, 1) := by decide +kernel
theorem d_R_second_50 : decode b_R_second 50 = .ok (.iload_n 1, 1) := by decide +kernel
theorem d_R_second_51 : decode b_R_second 51 = .ok (.dload_n 2, 1) := by decide +kernel
theorem d_R_second_52 : decode b_R_second 52 = .ok (.invokestatic 107, 3) := by decide +kernel
theorem d_R_second_55 : decode b_R_second 55 = .ok (.iload 4, 2) := by decide +kernel
theorem d_R_second_57 : decode b_R_second 57 = .ok (.invokevirtual 195, 3) := by decide +kernel
theorem d_R_second_60 : decode b_R_second 60 = .ok (.aload_n 0, 1) := by decide +kernel
theorem d_R_second_61 : decode b_R_second 61 = .ok (.aload_n 0, 1) := by decide +kernel
theorem d_R_second_62 : decode b_R_second 62 = .ok (.getfield 50, 3) := by decide +kernel
theorem d_R_second_65 : decode b_R_second 65 = .ok (.iload_n 1, 1) := by decide +kernel
theorem d_R_second_66 : decode b_R_second 66 = .ok (.iaload, 1) := by decide +kernel
theorem d_R_second_67 : decode b_R_second 67 = .ok (.invokevirtual 111, 3) := by decide +kernel
theorem d_R_second_70 : decode b_R_second 70 = .ok (.ireturn, 1) := by decide +kernel
theorem gl_R_195 : ∀ w ∈ wsV "TrainGuardModel" 195 "TrainGuardModel" y_R_pass (Cond.code y_R_pass b_R_pass 7 none :: tG), w ∈ tG := by
  intro x hx
  simp only [wsV, List.cons_append, List.nil_append, List.mem_cons] at hx
  rcases hx with rfl | rfl | rfl | rfl | rfl | hx
  · exact wd_797
  · exact wd_799
  · exact ws_33
  · exact wd_5
  · exact wd_800
  · exact hx
def w_R_second_60 (S : SR) (y1 : Int32) (Q : Int32 → SR → Prop) : Prop := vp_in y1 3 ∧ (w_R_answer S (S.1 8 y1.toNatClampNeg) (fun r18 S19 => Q r18 S19))
def w_R_second (S : SR) (x1 : Int32) (x2 : UInt64) (x3 : Int32) (Q : Int32 → SR → Prop) : Prop := w_R_noTrain S x1 (fun r1 S2 => ((¬ r1 = 0) → (w_R_fail S2 1 (fun r3 S4 => Q r3 S4))) ∧ ((r1 = 0) → (w_R_between S2 x2 (13835058055282163712 : UInt64) FP.dconst1 (fun r5 S6 => ((r5 = 0) → (w_R_fail S6 1 (fun r7 S8 => Q r7 S8))) ∧ ((¬ r5 = 0) → (w_R_in S6 x3 (-1) 1 (fun r9 S10 => ((¬ r9 = 0) → (vp_in x1 3 ∧ (w_R_in S10 (S10.1 8 x1.toNatClampNeg) 1 3 (fun r11 S12 => ((r11 = 0) → (w_R_second_60 S12 x1 Q)) ∧ ((¬ r11 = 0) → (w_R_whole S12 x2 (fun r13 S14 => w_R_pass S14 x1 r13 x3 (fun S15 => w_R_second_60 S15 x1 Q)))))))) ∧ ((r9 = 0) → (w_R_fail S10 1 (fun r16 S17 => Q r16 S17))))))))))
set_option maxRecDepth 100000 in
set_option maxHeartbeats 4000000 in
theorem c_R_second (l : Launch) (D : va_G) (ca : Nat → ClassId) (ad : Nat → Nat) (sz : Nat) (S : SR) (x1 : Int32) (x2 : UInt64) (x3 : Int32)  (Q : Int32 → SR → Prop) (h : w_R_second S x1 x2 x3 Q) : Met l y_R_second (Cond.code y_R_second b_R_second 5 (some Jvm.ClassFile.FieldType.int) :: tG) ({ frames := 5, cells := 0, slots := 0, locals := 153 } : Room) (xPc D ca (wR ca ad) S sz [.ref (ad 0), .int x1, .double x2, .int x3]) (va_Qi Q (xAt D (wR ca ad) (va_A (wR ca ad S) sz)) (va_A (wR ca ad S) sz)) 0 0 (va_A (wR ca ad S) sz) := by
  refine xx_met (Qf := fun A => va_Qi Q (xAt D (wR ca ad) A) A) (by decide) (Nat.le_of_ble_eq_true rfl) ?_
  intro p e s m args below meth c A ls hx hb hr hw hown hlocks hml hK hN hA hP hD hS hl
  have hown : s.vm.findClass "TrainGuardModel" = some m.cls := hown
  have hl : lv_has ls 5 [(0, .ref (ad 0)), (1, .int x1), (2, .double x2), (4, .int x3)] := hl
  unfold w_R_second at h
  have bk_60 : ∀ (S : SR) (y1 : Int32) (H : Heap) (locs : List Loc) , va_P D cls (wR ca ad S) H → va_D A (wR ca ad S) → va_S A s.heap H locs → ∀ (ls : Array Slot), lv_has ls 5 [(0, .ref (ad 0)), (1, .int y1)] → w_R_second_60 S y1 Q → W p l e ({ frames := 5, cells := 0, slots := 0, locals := 153 } : Room) s m args below meth c H locs 0 0 (MQ below ((fun A => va_Qi Q (xAt D (wR ca ad) A) A) A) args s 0 0 A) (F0 m 60 ls []) := by
    intro S y1 H locs hP hD hS ls hl h
    unfold w_R_second_60 at h
    refine lv_aload_n hx hb d_R_second_60 rfl (lv_at hl 0 rfl) ?_
    refine lv_aload_n hx hb d_R_second_61 rfl (lv_at hl 0 rfl) ?_
    refine va_get (D := D) (ci := 4) (v := .ref (ad 14)) (C := Rc_R) (T := Fc_R) (N := 25) hx hb hw inc_R hown hK hP 0 rfl rfl 17 (by decide) (hw _ wd_608) (fun _ h9 => h9) rfl d_R_second_62 ?_
    refine lv_iload_n hx hb d_R_second_65 rfl (lv_at hl 1 rfl) ?_
    obtain ⟨hq, h⟩ := h
    refine va_iald (D := D) hx hb hK hP 14 0 rfl rfl hq d_R_second_66 ?_
    refine xx_calli (va_runV (As := [.int (S.1 8 y1.toNatClampNeg)]) (rest := []) ⟨hx, hb, hml, hown, hw⟩ (c_R_answer l D ca ad H.size S (S.1 8 y1.toNatClampNeg) _ h) (cwV 1 hw (tG_g gl_R_111) rfl rfl rfl (by decide +kernel) ⟨Nat.le_of_ble_eq_true rfl, Nat.le_of_ble_eq_true rfl⟩) ⟨xPc.blind, va_recv hK hP rfl (q0 := 0) rfl, xPc.pre hK hN hP hD⟩ rfl rfl hl.1 rfl (lv_room (Nat.le_of_ble_eq_true rfl)) d_R_second_67 ⟨Nat.le_of_ble_eq_true rfl, Nat.le_of_ble_eq_true rfl⟩) hD hS hA (fun r18 S19 H locs h hP hD hS => ?_)
    exact W.iret (v := r18) hx hb hr (fun t ht hW => ⟨⟨r18, S19, rfl, h, by rw [ht]; exact hP, hD⟩, hS.F ht⟩) hS.2.2 d_R_second_70
  have hH9 : ∀ H : Heap, H = s.heap → va_P D cls (wR ca ad S) H → va_S A s.heap H [] → W p l e ({ frames := 5, cells := 0, slots := 0, locals := 153 } : Room) s m args below meth c H [] 0 0 (MQ below ((fun A => va_Qi Q (xAt D (wR ca ad) A) A) A) args s 0 0 A) (F0 m 0 ls []) := by
    clear hP hS
    intro H hH hP hS
    obtain ⟨locs, hlo⟩ : ∃ z : List Loc, z = [] := ⟨_, rfl⟩
    rw [← hlo] at hS ⊢
    refine lv_aload_n hx hb d_R_second_0 rfl (lv_at hl 0 rfl) ?_
    refine lv_iload_n hx hb d_R_second_1 rfl (lv_at hl 1 rfl) ?_
    refine xx_calli (va_runV (As := [.int x1]) (rest := []) ⟨hx, hb, hml, hown, hw⟩ (c_R_noTrain l D ca ad H.size S x1 _ h) (cwV 1 hw (tG_g gl_R_158) rfl rfl rfl (by decide +kernel) ⟨Nat.le_of_ble_eq_true rfl, Nat.le_of_ble_eq_true rfl⟩) ⟨xPc.blind, va_recv hK hP rfl (q0 := 0) rfl, xPc.pre hK hN hP hD⟩ rfl rfl hl.1 rfl (lv_room (Nat.le_of_ble_eq_true rfl)) d_R_second_2 ⟨Nat.le_of_ble_eq_true rfl, Nat.le_of_ble_eq_true rfl⟩) hD hS hA (fun r1 S2 H locs h hP hD hS => ?_)
    refine lv_if_ne (tgt := 29) hx hb d_R_second_5 (by decide) (fun hc => ?_) (fun hc => ?_)
    · replace h := h.1 hc
      refine lv_aload_n hx hb d_R_second_29 rfl (lv_at hl 0 rfl) ?_
      refine lv_iconst (v := 1) hx hb d_R_second_30 (by decide) ?_
      refine xx_calli (va_runV (As := [.int 1]) (rest := []) ⟨hx, hb, hml, hown, hw⟩ (c_R_fail l D ca ad H.size S2 1 _ h) (cwV 1 hw (tG_g gl_R_103) rfl rfl rfl (by decide +kernel) ⟨Nat.le_of_ble_eq_true rfl, Nat.le_of_ble_eq_true rfl⟩) ⟨xPc.blind, va_recv hK hP rfl (q0 := 0) rfl, xPc.pre hK hN hP hD⟩ rfl rfl hl.1 rfl (lv_room (Nat.le_of_ble_eq_true rfl)) d_R_second_31 ⟨Nat.le_of_ble_eq_true rfl, Nat.le_of_ble_eq_true rfl⟩) hD hS hA (fun r3 S4 H locs h hP hD hS => ?_)
      exact W.iret (v := r3) hx hb hr (fun t ht hW => ⟨⟨r3, S4, rfl, h, by rw [ht]; exact hP, hD⟩, hS.F ht⟩) hS.2.2 d_R_second_34
    · replace h := h.2 hc
      refine lv_dload_n hx hb d_R_second_8 rfl (lv_at hl 2 rfl) ?_
      refine lv_ldc2d hx hb hown (hw _ wd_796) d_R_second_9 ?_
      refine lv_dconst1 hx hb d_R_second_12 ?_
      refine xx_calli (va_runS (As := [.double x2, .double (13835058055282163712 : UInt64), .double FP.dconst1]) (rest := []) ⟨hx, hb, hml, hown, hw⟩ (c_R_between l D ca ad H.size S2 x2 (13835058055282163712 : UInt64) FP.dconst1 _ h) (cwS 3 hw (tG_g gl_R_97) rfl rfl rfl (by decide +kernel) ⟨Nat.le_of_ble_eq_true rfl, Nat.le_of_ble_eq_true rfl⟩) ⟨xPc.blind, xPc.pre hK hN hP hD⟩ rfl rfl hl.1 rfl (lv_room (Nat.le_of_ble_eq_true rfl)) d_R_second_13 ⟨Nat.le_of_ble_eq_true rfl, Nat.le_of_ble_eq_true rfl⟩) hD hS hA (fun r5 S6 H locs h hP hD hS => ?_)
      refine lv_if_eq (tgt := 29) hx hb d_R_second_16 (by decide) (fun hc => ?_) (fun hc => ?_)
      · replace h := h.1 hc
        refine lv_aload_n hx hb d_R_second_29 rfl (lv_at hl 0 rfl) ?_
        refine lv_iconst (v := 1) hx hb d_R_second_30 (by decide) ?_
        refine xx_calli (va_runV (As := [.int 1]) (rest := []) ⟨hx, hb, hml, hown, hw⟩ (c_R_fail l D ca ad H.size S6 1 _ h) (cwV 1 hw (tG_g gl_R_103) rfl rfl rfl (by decide +kernel) ⟨Nat.le_of_ble_eq_true rfl, Nat.le_of_ble_eq_true rfl⟩) ⟨xPc.blind, va_recv hK hP rfl (q0 := 0) rfl, xPc.pre hK hN hP hD⟩ rfl rfl hl.1 rfl (lv_room (Nat.le_of_ble_eq_true rfl)) d_R_second_31 ⟨Nat.le_of_ble_eq_true rfl, Nat.le_of_ble_eq_true rfl⟩) hD hS hA (fun r7 S8 H locs h hP hD hS => ?_)
        exact W.iret (v := r7) hx hb hr (fun t ht hW => ⟨⟨r7, S8, rfl, h, by rw [ht]; exact hP, hD⟩, hS.F ht⟩) hS.2.2 d_R_second_34
      · replace h := h.2 hc
        refine lv_iload hx hb d_R_second_19 (lv_at hl 3 rfl) ?_
        refine lv_iconst (v := (-1)) hx hb d_R_second_21 (by decide) ?_
        refine lv_iconst (v := 1) hx hb d_R_second_22 (by decide) ?_
        refine xx_calli (va_runS (As := [.int x3, .int (-1), .int 1]) (rest := []) ⟨hx, hb, hml, hown, hw⟩ (c_R_in l D ca ad H.size S6 x3 (-1) 1 _ h) (cwS 3 hw (tG_g gl_R_75) rfl rfl rfl (by decide +kernel) ⟨Nat.le_of_ble_eq_true rfl, Nat.le_of_ble_eq_true rfl⟩) ⟨xPc.blind, xPc.pre hK hN hP hD⟩ rfl rfl hl.1 rfl (lv_room (Nat.le_of_ble_eq_true rfl)) d_R_second_23 ⟨Nat.le_of_ble_eq_true rfl, Nat.le_of_ble_eq_true rfl⟩) hD hS hA (fun r9 S10 H locs h hP hD hS => ?_)
        refine lv_if_ne (tgt := 35) hx hb d_R_second_26 (by decide) (fun hc => ?_) (fun hc => ?_)
        · replace h := h.1 hc
          refine lv_aload_n hx hb d_R_second_35 rfl (lv_at hl 0 rfl) ?_
          refine va_get (D := D) (ci := 4) (v := .ref (ad 14)) (C := Rc_R) (T := Fc_R) (N := 25) hx hb hw inc_R hown hK hP 0 rfl rfl 17 (by decide) (hw _ wd_608) (fun _ h9 => h9) rfl d_R_second_36 ?_
          refine lv_iload_n hx hb d_R_second_39 rfl (lv_at hl 1 rfl) ?_
          obtain ⟨hq, h⟩ := h
          refine va_iald (D := D) hx hb hK hP 14 0 rfl rfl hq d_R_second_40 ?_
          refine lv_iconst (v := 1) hx hb d_R_second_41 (by decide) ?_
          refine lv_iconst (v := 3) hx hb d_R_second_42 (by decide) ?_
          refine xx_calli (va_runS (As := [.int (S10.1 8 x1.toNatClampNeg), .int 1, .int 3]) (rest := []) ⟨hx, hb, hml, hown, hw⟩ (c_R_in l D ca ad H.size S10 (S10.1 8 x1.toNatClampNeg) 1 3 _ h) (cwS 3 hw (tG_g gl_R_75) rfl rfl rfl (by decide +kernel) ⟨Nat.le_of_ble_eq_true rfl, Nat.le_of_ble_eq_true rfl⟩) ⟨xPc.blind, xPc.pre hK hN hP hD⟩ rfl rfl hl.1 rfl (lv_room (Nat.le_of_ble_eq_true rfl)) d_R_second_43 ⟨Nat.le_of_ble_eq_true rfl, Nat.le_of_ble_eq_true rfl⟩) hD hS hA (fun r11 S12 H locs h hP hD hS => ?_)
          refine lv_if_eq (tgt := 60) hx hb d_R_second_46 (by decide) (fun hc => ?_) (fun hc => ?_)
          · replace h := h.1 hc
            exact bk_60 S12 x1 H locs hP hD hS ls (lv_sub hl [0, 1] rfl) h
          · replace h := h.2 hc
            refine lv_aload_n hx hb d_R_second_49 rfl (lv_at hl 0 rfl) ?_
            refine lv_iload_n hx hb d_R_second_50 rfl (lv_at hl 1 rfl) ?_
            refine lv_dload_n hx hb d_R_second_51 rfl (lv_at hl 2 rfl) ?_
            refine xx_calll (va_runS (As := [.double x2]) (rest := [.int x1, .ref (ad 0)]) ⟨hx, hb, hml, hown, hw⟩ (c_R_whole l D ca ad H.size S12 x2 _ h) (cwS 1 hw (tG_g gl_R_107) rfl rfl rfl (by decide +kernel) ⟨Nat.le_of_ble_eq_true rfl, Nat.le_of_ble_eq_true rfl⟩) ⟨xPc.blind, xPc.pre hK hN hP hD⟩ rfl rfl hl.1 rfl (lv_room (Nat.le_of_ble_eq_true rfl)) d_R_second_52 ⟨Nat.le_of_ble_eq_true rfl, Nat.le_of_ble_eq_true rfl⟩) hD hS hA (fun r13 S14 H locs h hP hD hS => ?_)
            refine lv_iload hx hb d_R_second_55 (lv_at hl 3 rfl) ?_
            refine xx_callv (va_runV (As := [.int x1, .long r13, .int x3]) (rest := []) ⟨hx, hb, hml, hown, hw⟩ (c_R_pass l D ca ad H.size S14 x1 r13 x3 _ h) (cwV 3 hw (tG_g gl_R_195) rfl rfl rfl (by decide +kernel) ⟨Nat.le_of_ble_eq_true rfl, Nat.le_of_ble_eq_true rfl⟩) ⟨xPc.blind, va_recv hK hP rfl (q0 := 0) rfl, xPc.pre hK hN hP hD⟩ rfl rfl hl.1 rfl (lv_room (Nat.le_of_ble_eq_true rfl)) d_R_second_57 ⟨Nat.le_of_ble_eq_true rfl, Nat.le_of_ble_eq_true rfl⟩) hD hS hA (fun S15 H locs h hP hD hS => ?_)
            exact bk_60 S15 x1 H locs hP hD hS ls (lv_sub hl [0, 1] rfl) h
        · replace h := h.2 hc
          refine lv_aload_n hx hb d_R_second_29 rfl (lv_at hl 0 rfl) ?_
          refine lv_iconst (v := 1) hx hb d_R_second_30 (by decide) ?_
          refine xx_calli (va_runV (As := [.int 1]) (rest := []) ⟨hx, hb, hml, hown, hw⟩ (c_R_fail l D ca ad H.size S10 1 _ h) (cwV 1 hw (tG_g gl_R_103) rfl rfl rfl (by decide +kernel) ⟨Nat.le_of_ble_eq_true rfl, Nat.le_of_ble_eq_true rfl⟩) ⟨xPc.blind, va_recv hK hP rfl (q0 := 0) rfl, xPc.pre hK hN hP hD⟩ rfl rfl hl.1 rfl (lv_room (Nat.le_of_ble_eq_true rfl)) d_R_second_31 ⟨Nat.le_of_ble_eq_true rfl, Nat.le_of_ble_eq_true rfl⟩) hD hS hA (fun r16 S17 H locs h hP hD hS => ?_)
          exact W.iret (v := r16) hx hb hr (fun t ht hW => ⟨⟨r16, S17, rfl, h, by rw [ht]; exact hP, hD⟩, hS.F ht⟩) hS.2.2 d_R_second_34
  exact hH9 _ rfl hP hS
theorem d_R_wet_0 : decode b_R_wet 0 = .ok (.aload_n 0, 1) := by decide +kernel
theorem d_R_wet_1 : decode b_R_wet 1 = .ok (.iload_n 1, 1) := by decide +kernel
theorem d_R_wet_2 : decode b_R_wet 2 = .ok (.invokevirtual 158, 3) := by decide +kernel
theorem d_R_wet_5 : decode b_R_wet 5 = .ok (.ifCond .eq 9, 3) := by decide +kernel
theorem d_R_wet_8 : decode b_R_wet 8 = .ok (.aload_n 0, 1) := by decide +kernel
theorem d_R_wet_9 : decode b_R_wet 9 = .ok (.iconst 1, 1) := by decide +kernel
theorem d_R_wet_10 : decode b_R_wet 10 = .ok (.invokevirtual 103, 3) := by decide +kernel
theorem d_R_wet_13 : decode b_R_wet 13 = .ok (.ireturn, 1) := by decide +kernel
theorem d_R_wet_14 : decode b_R_wet 14 = .ok (.aload_n 0, 1) := by decide +kernel
theorem d_R_wet_15 : decode b_R_wet 15 = .ok (.getfield 53, 3) := by decide +kernel
theorem d_R_wet_18 : decode b_R_wet 18 = .ok (.iload_n 1, 1) := by decide +kernel
theorem d_R_wet_19 : decode b_R_wet 19 = .ok (.iload_n 2, 1) := by decide +kernel
theorem d_R_wet_20 : decode b_R_wet 20 = .ok (.bastore, 1) := by decide +kernel
theorem d_R_wet_21 : decode b_R_wet 21 = .ok (.aload_n 0, 1) := by decide +kernel
theorem d_R_wet_22 : decode b_R_wet 22 = .ok (.iconst 0, 1) := by decide +kernel
theorem d_R_wet_23 : decode b_R_wet 23 = .ok (.invokevirtual 111, 3) := by decide +kernel
theorem d_R_wet_26 : decode b_R_wet 26 = .ok (.ireturn, 1) := by decide +kernel
def w_R_wet (S : SR) (x1 : Int32) (x2 : Int32) (Q : Int32 → SR → Prop) : Prop := w_R_noTrain S x1 (fun r1 S2 => ((r1 = 0) → (vp_in x1 3 ∧ (w_R_answer (pI S2 9 x1.toNatClampNeg (vp_nar .boolean x2)) 0 (fun r3 S4 => Q r3 S4)))) ∧ ((¬ r1 = 0) → (w_R_fail S2 1 (fun r5 S6 => Q r5 S6))))
set_option maxRecDepth 100000 in
set_option maxHeartbeats 4000000 in
theorem c_R_wet (l : Launch) (D : va_G) (ca : Nat → ClassId) (ad : Nat → Nat) (sz : Nat) (S : SR) (x1 : Int32) (x2 : Int32)  (Q : Int32 → SR → Prop) (h : w_R_wet S x1 x2 Q) : Met l y_R_wet (Cond.code y_R_wet b_R_wet 3 (some Jvm.ClassFile.FieldType.int) :: tG) ({ frames := 2, cells := 0, slots := 0, locals := 43 } : Room) (xPc D ca (wR ca ad) S sz [.ref (ad 0), .int x1, .int x2]) (va_Qi Q (xAt D (wR ca ad) (va_A (wR ca ad S) sz)) (va_A (wR ca ad S) sz)) 0 0 (va_A (wR ca ad S) sz) := by
  refine xx_met (Qf := fun A => va_Qi Q (xAt D (wR ca ad) A) A) (by decide) (Nat.le_of_ble_eq_true rfl) ?_
  intro p e s m args below meth c A ls hx hb hr hw hown hlocks hml hK hN hA hP hD hS hl
  have hown : s.vm.findClass "TrainGuardModel" = some m.cls := hown
  have hl : lv_has ls 3 [(0, .ref (ad 0)), (1, .int x1), (2, .int x2)] := hl
  unfold w_R_wet at h
  have hH9 : ∀ H : Heap, H = s.heap → va_P D cls (wR ca ad S) H → va_S A s.heap H [] → W p l e ({ frames := 2, cells := 0, slots := 0, locals := 43 } : Room) s m args below meth c H [] 0 0 (MQ below ((fun A => va_Qi Q (xAt D (wR ca ad) A) A) A) args s 0 0 A) (F0 m 0 ls []) := by
    clear hP hS
    intro H hH hP hS
    obtain ⟨locs, hlo⟩ : ∃ z : List Loc, z = [] := ⟨_, rfl⟩
    rw [← hlo] at hS ⊢
    refine lv_aload_n hx hb d_R_wet_0 rfl (lv_at hl 0 rfl) ?_
    refine lv_iload_n hx hb d_R_wet_1 rfl (lv_at hl 1 rfl) ?_
    refine xx_calli (va_runV (As := [.int x1]) (rest := []) ⟨hx, hb, hml, hown, hw⟩ (c_R_noTrain l D ca ad H.size S x1 _ h) (cwV 1 hw (tG_g gl_R_158) rfl rfl rfl (by decide +kernel) ⟨Nat.le_of_ble_eq_true rfl, Nat.le_of_ble_eq_true rfl⟩) ⟨xPc.blind, va_recv hK hP rfl (q0 := 0) rfl, xPc.pre hK hN hP hD⟩ rfl rfl hl.1 rfl (lv_room (Nat.le_of_ble_eq_true rfl)) d_R_wet_2 ⟨Nat.le_of_ble_eq_true rfl, Nat.le_of_ble_eq_true rfl⟩) hD hS hA (fun r1 S2 H locs h hP hD hS => ?_)
    refine lv_if_eq (tgt := 14) hx hb d_R_wet_5 (by decide) (fun hc => ?_) (fun hc => ?_)
    · replace h := h.1 hc
      refine lv_aload_n hx hb d_R_wet_14 rfl (lv_at hl 0 rfl) ?_
      refine va_get (D := D) (ci := 4) (v := .ref (ad 15)) (C := Rc_R) (T := Fc_R) (N := 25) hx hb hw inc_R hown hK hP 0 rfl rfl 18 (by decide) (hw _ wd_609) (fun _ h9 => h9) rfl d_R_wet_15 ?_
      refine lv_iload_n hx hb d_R_wet_18 rfl (lv_at hl 1 rfl) ?_
      refine lv_iload_n hx hb d_R_wet_19 rfl (lv_at hl 2 rfl) ?_
      obtain ⟨hq, h⟩ := h
      refine va_zast (D := D) hx hb hK hP hD hS 15 3 rfl rfl hq d_R_wet_20 (fun H locs hP hD hS => ?_)
      rw [pt_R_wet] at hP hD
      refine lv_aload_n hx hb d_R_wet_21 rfl (lv_at hl 0 rfl) ?_
      refine lv_iconst (v := 0) hx hb d_R_wet_22 (by decide) ?_
      refine xx_calli (va_runV (As := [.int 0]) (rest := []) ⟨hx, hb, hml, hown, hw⟩ (c_R_answer l D ca ad H.size (pI S2 9 x1.toNatClampNeg (vp_nar .boolean x2)) 0 _ h) (cwV 1 hw (tG_g gl_R_111) rfl rfl rfl (by decide +kernel) ⟨Nat.le_of_ble_eq_true rfl, Nat.le_of_ble_eq_true rfl⟩) ⟨xPc.blind, va_recv hK hP rfl (q0 := 0) rfl, xPc.pre hK hN hP hD⟩ rfl rfl hl.1 rfl (lv_room (Nat.le_of_ble_eq_true rfl)) d_R_wet_23 ⟨Nat.le_of_ble_eq_true rfl, Nat.le_of_ble_eq_true rfl⟩) hD hS hA (fun r3 S4 H locs h hP hD hS => ?_)
      exact W.iret (v := r3) hx hb hr (fun t ht hW => ⟨⟨r3, S4, rfl, h, by rw [ht]; exact hP, hD⟩, hS.F ht⟩) hS.2.2 d_R_wet_26
    · replace h := h.2 hc
      refine lv_aload_n hx hb d_R_wet_8 rfl (lv_at hl 0 rfl) ?_
      refine lv_iconst (v := 1) hx hb d_R_wet_9 (by decide) ?_
      refine xx_calli (va_runV (As := [.int 1]) (rest := []) ⟨hx, hb, hml, hown, hw⟩ (c_R_fail l D ca ad H.size S2 1 _ h) (cwV 1 hw (tG_g gl_R_103) rfl rfl rfl (by decide +kernel) ⟨Nat.le_of_ble_eq_true rfl, Nat.le_of_ble_eq_true rfl⟩) ⟨xPc.blind, va_recv hK hP rfl (q0 := 0) rfl, xPc.pre hK hN hP hD⟩ rfl rfl hl.1 rfl (lv_room (Nat.le_of_ble_eq_true rfl)) d_R_wet_10 ⟨Nat.le_of_ble_eq_true rfl, Nat.le_of_ble_eq_true rfl⟩) hD hS hA (fun r5 S6 H locs h hP hD hS => ?_)
      exact W.iret (v := r5) hx hb hr (fun t ht hW => ⟨⟨r5, S6, rfl, h, by rw [ht]; exact hP, hD⟩, hS.F ht⟩) hS.2.2 d_R_wet_13
  exact hH9 _ rfl hP hS
theorem d_R_acknowledge_0 : decode b_R_acknowledge 0 = .ok (.aload_n 0, 1) := by decide +kernel
theorem d_R_acknowledge_1 : decode b_R_acknowledge 1 = .ok (.iload_n 1, 1) := by decide +kernel
theorem d_R_acknowledge_2 : decode b_R_acknowledge 2 = .ok (.invokevirtual 158, 3) := by decide +kernel
theorem d_R_acknowledge_5 : decode b_R_acknowledge 5 = .ok (.ifCond .eq 9, 3) := by decide +kernel
theorem d_R_acknowledge_8 : decode b_R_acknowledge 8 = .ok (.aload_n 0, 1) := by decide +kernel
theorem d_R_acknowledge_9 : decode b_R_acknowledge 9 = .ok (.iconst 1, 1) := by decide +kernel
theorem d_R_acknowledge_10 : decode b_R_acknowledge 10 = .ok (.invokevirtual 103, 3) := by decide +kernel
theorem d_R_acknowledge_13 : decode b_R_acknowledge 13 = .ok (.ireturn, 1) := by decide +kernel
theorem d_R_acknowledge_14 : decode b_R_acknowledge 14 = .ok (.aload_n 0, 1) := by decide +kernel
theorem d_R_acknowledge_15 : decode b_R_acknowledge 15 = .ok (.getfield 50, 3) := by decide +kernel
theorem d_R_acknowledge_18 : decode b_R_acknowledge 18 = .ok (.iload_n 1, 1) := by decide +kernel
theorem d_R_acknowledge_19 : decode b_R_acknowledge 19 = .ok (.iaload, 1) := by decide +kernel
theorem d_R_acknowledge_20 : decode b_R_acknowledge 20 = .ok (.iconst 4, 1) := by decide +kernel
theorem d_R_acknowledge_21 : decode b_R_acknowledge 21 = .ok (.if_icmp .eq 24, 3) := by decide +kernel
theorem d_R_acknowledge_24 : decode b_R_acknowledge 24 = .ok (.aload_n 0, 1) := by decide +kernel
theorem d_R_acknowledge_25 : decode b_R_acknowledge 25 = .ok (.getfield 50, 3) := by decide +kernel
theorem d_R_acknowledge_28 : decode b_R_acknowledge 28 = .ok (.iload_n 1, 1) := by decide +kernel
theorem d_R_acknowledge_29 : decode b_R_acknowledge 29 = .ok (.iaload, 1) := by decide +kernel
theorem d_R_acknowledge_30 : decode b_R_acknowledge 30 = .ok (.iconst 3, 1) := by decide +kernel
theorem d_R_acknowledge_31 : decode b_R_acknowledge 31 = .ok (.if_icmp .ne 18, 3) := by decide +kernel
theorem d_R_acknowledge_34 : decode b_R_acknowledge 34 = .ok (.aload_n 0, 1) := by decide +kernel
theorem d_R_acknowledge_35 : decode b_R_acknowledge 35 = .ok (.getfield 35, 3) := by decide +kernel
theorem d_R_acknowledge_38 : decode b_R_acknowledge 38 = .ok (.iload_n 1, 1) := by decide +kernel
theorem d_R_acknowledge_39 : decode b_R_acknowledge 39 = .ok (.laload, 1) := by decide +kernel
theorem d_R_acknowledge_40 : decode b_R_acknowledge 40 = .ok (.lconst 0, 1) := by decide +kernel
theorem d_R_acknowledge_41 : decode b_R_acknowledge 41 = .ok (.lcmp, 1) := by decide +kernel
theorem d_R_acknowledge_42 : decode b_R_acknowledge 42 = .ok (.ifCond .ne 7, 3) := by decide +kernel
theorem d_R_acknowledge_45 : decode b_R_acknowledge 45 = .ok (.iconst 1, 1) := by decide +kernel
theorem d_R_acknowledge_46 : decode b_R_acknowledge 46 = .ok (.goto 4, 3) := by decide +kernel
theorem d_R_acknowledge_49 : decode b_R_acknowledge 49 = .ok (.iconst 0, 1) := by decide +kernel
theorem d_R_acknowledge_50 : decode b_R_acknowledge 50 = .ok (.istore_n 2, 1) := by decide +kernel
theorem d_R_acknowledge_51 : decode b_R_acknowledge 51 = .ok (.iload_n 2, 1) := by decide +kernel
theorem d_R_acknowledge_52 : decode b_R_acknowledge 52 = .ok (.ifCond .ne 9, 3) := by decide +kernel
theorem d_R_acknowledge_55 : decode b_R_acknowledge 55 = .ok (.aload_n 0, 1) := by decide +kernel
theorem d_R_acknowledge_56 : decode b_R_acknowledge 56 = .ok (.iconst 3, 1) := by decide +kernel
theorem d_R_acknowledge_57 : decode b_R_acknowledge 57 = .ok (.invokevirtual 103, 3) := by decide +kernel
theorem d_R_acknowledge_60 : decode b_R_acknowledge 60 = .ok (.ireturn, 1) := by decide +kernel
theorem d_R_acknowledge_61 : decode b_R_acknowledge 61 = .ok (.aload_n 0, 1) := by decide +kernel
theorem d_R_acknowledge_62 : decode b_R_acknowledge 62 = .ok (.getfield 50, 3) := by decide +kernel
theorem d_R_acknowledge_65 : decode b_R_acknowledge 65 = .ok (.iload_n 1, 1) := by decide +kernel
theorem d_R_acknowledge_66 : decode b_R_acknowledge 66 = .ok (.aload_n 0, 1) := by decide +kernel
theorem d_R_acknowledge_67 : decode b_R_acknowledge 67 = .ok (.getfield 50, 3) := by decide +kernel
theorem d_R_acknowledge_70 : decode b_R_acknowledge 70 = .ok (.iload_n 1, 1) := by decide +kernel
theorem d_R_acknowledge_71 : decode b_R_acknowledge 71 = .ok (.iaload, 1) := by decide +kernel
theorem d_R_acknowledge_72 : decode b_R_acknowledge 72 = .ok (.iconst 4, 1) := by decide +kernel
theorem d_R_acknowledge_73 : decode b_R_acknowledge 73 = .ok (.if_icmp .ne 7, 3) := by decide +kernel
theorem d_R_acknowledge_76 : decode b_R_acknowledge 76 = .ok (.iconst 1, 1) := by decide +kernel
theorem d_R_acknowledge_77 : decode b_R_acknowledge 77 = .ok (.goto 4, 3) := by decide +kernel
theorem d_R_acknowledge_80 : decode b_R_acknowledge 80 = .ok (.iconst 4, 1) := by decide +kernel
theorem d_R_acknowledge_81 : decode b_R_acknowledge 81 = .ok (.iastore, 1) := by decide +kernel
theorem d_R_acknowledge_82 : decode b_R_acknowledge 82 = .ok (.aload_n 0, 1) := by decide +kernel
theorem d_R_acknowledge_83 : decode b_R_acknowledge 83 = .ok (.aload_n 0, 1) := by decide +kernel
theorem d_R_acknowledge_84 : decode b_R_acknowledge 84 = .ok (.getfield 50, 3) := by decide +kernel
theorem d_R_acknowledge_87 : decode b_R_acknowledge 87 = .ok (.iload_n 1, 1) := by decide +kernel
theorem d_R_acknowledge_88 : decode b_R_acknowledge 88 = .ok (.iaload, 1) := by decide +kernel
theorem d_R_acknowledge_89 : decode b_R_acknowledge 89 = .ok (.invokevirtual 111, 3) := by decide +kernel
theorem d_R_acknowledge_92 : decode b_R_acknowledge 92 = .ok (.ireturn, 1) := by decide +kernel
def w_R_acknowledge_81 (S : SR) (y1 : Int32) (ys0 : Int32) (ys1 : Int32) (Q : Int32 → SR → Prop) : Prop := vp_in ys1 3 ∧ (vp_in y1 3 ∧ (w_R_answer (pI S 8 ys1.toNatClampNeg ys0) ((pI S 8 ys1.toNatClampNeg ys0).1 8 y1.toNatClampNeg) (fun r7 S8 => Q r7 S8)))
def w_R_acknowledge_50 (S : SR) (y1 : Int32) (ys0 : Int32) (Q : Int32 → SR → Prop) : Prop := ((¬ ys0 = 0) → (vp_in y1 3 ∧ (((¬ (S.1 8 y1.toNatClampNeg) = 4) → (w_R_acknowledge_81 S y1 4 y1 Q)) ∧ (((S.1 8 y1.toNatClampNeg) = 4) → (w_R_acknowledge_81 S y1 1 y1 Q))))) ∧ ((ys0 = 0) → (w_R_fail S 3 (fun r5 S6 => Q r5 S6)))
def w_R_acknowledge_49 (S : SR) (y1 : Int32) (Q : Int32 → SR → Prop) : Prop := w_R_acknowledge_50 S y1 0 Q
def w_R_acknowledge_45 (S : SR) (y1 : Int32) (Q : Int32 → SR → Prop) : Prop := w_R_acknowledge_50 S y1 1 Q
def w_R_acknowledge (S : SR) (x1 : Int32) (Q : Int32 → SR → Prop) : Prop := w_R_noTrain S x1 (fun r1 S2 => ((r1 = 0) → (vp_in x1 3 ∧ ((((S2.1 8 x1.toNatClampNeg) = 4) → (w_R_acknowledge_45 S2 x1 Q)) ∧ ((¬ (S2.1 8 x1.toNatClampNeg) = 4) → (vp_in x1 3 ∧ (((¬ (S2.1 8 x1.toNatClampNeg) = 3) → (w_R_acknowledge_49 S2 x1 Q)) ∧ (((S2.1 8 x1.toNatClampNeg) = 3) → (vp_in x1 3 ∧ (((¬ (lg_cmp (S2.2 7 x1.toNatClampNeg) 0) = 0) → (w_R_acknowledge_49 S2 x1 Q)) ∧ (((lg_cmp (S2.2 7 x1.toNatClampNeg) 0) = 0) → (w_R_acknowledge_45 S2 x1 Q))))))))))) ∧ ((¬ r1 = 0) → (w_R_fail S2 1 (fun r3 S4 => Q r3 S4))))
set_option maxRecDepth 100000 in
set_option maxHeartbeats 4000000 in
theorem c_R_acknowledge (l : Launch) (D : va_G) (ca : Nat → ClassId) (ad : Nat → Nat) (sz : Nat) (S : SR) (x1 : Int32)  (Q : Int32 → SR → Prop) (h : w_R_acknowledge S x1 Q) : Met l y_R_acknowledge (Cond.code y_R_acknowledge b_R_acknowledge 3 (some Jvm.ClassFile.FieldType.int) :: tG) ({ frames := 2, cells := 0, slots := 0, locals := 43 } : Room) (xPc D ca (wR ca ad) S sz [.ref (ad 0), .int x1]) (va_Qi Q (xAt D (wR ca ad) (va_A (wR ca ad S) sz)) (va_A (wR ca ad S) sz)) 0 0 (va_A (wR ca ad S) sz) := by
  refine xx_met (Qf := fun A => va_Qi Q (xAt D (wR ca ad) A) A) (by decide) (Nat.le_of_ble_eq_true rfl) ?_
  intro p e s m args below meth c A ls hx hb hr hw hown hlocks hml hK hN hA hP hD hS hl
  have hown : s.vm.findClass "TrainGuardModel" = some m.cls := hown
  have hl : lv_has ls 3 [(0, .ref (ad 0)), (1, .int x1)] := hl
  unfold w_R_acknowledge at h
  have bk_81 : ∀ (S : SR) (y1 : Int32) (ys0 : Int32) (ys1 : Int32) (H : Heap) (locs : List Loc) , va_P D cls (wR ca ad S) H → va_D A (wR ca ad S) → va_S A s.heap H locs → ∀ (ls : Array Slot), lv_has ls 3 [(0, .ref (ad 0)), (1, .int y1)] → w_R_acknowledge_81 S y1 ys0 ys1 Q → W p l e ({ frames := 2, cells := 0, slots := 0, locals := 43 } : Room) s m args below meth c H locs 0 0 (MQ below ((fun A => va_Qi Q (xAt D (wR ca ad) A) A) A) args s 0 0 A) (F0 m 81 ls [.int ys0, .int ys1, .ref (ad 14)]) := by
    intro S y1 ys0 ys1 H locs hP hD hS ls hl h
    unfold w_R_acknowledge_81 at h
    obtain ⟨hq, h⟩ := h
    refine va_iast (D := D) hx hb hK hP hD hS 14 0 rfl rfl hq d_R_acknowledge_81 (fun H locs hP hD hS => ?_)
    rw [pt_R_mode] at hP hD
    refine lv_aload_n hx hb d_R_acknowledge_82 rfl (lv_at hl 0 rfl) ?_
    refine lv_aload_n hx hb d_R_acknowledge_83 rfl (lv_at hl 0 rfl) ?_
    refine va_get (D := D) (ci := 4) (v := .ref (ad 14)) (C := Rc_R) (T := Fc_R) (N := 25) hx hb hw inc_R hown hK hP 0 rfl rfl 17 (by decide) (hw _ wd_608) (fun _ h9 => h9) rfl d_R_acknowledge_84 ?_
    refine lv_iload_n hx hb d_R_acknowledge_87 rfl (lv_at hl 1 rfl) ?_
    obtain ⟨hq, h⟩ := h
    refine va_iald (D := D) hx hb hK hP 14 0 rfl rfl hq d_R_acknowledge_88 ?_
    refine xx_calli (va_runV (As := [.int ((pI S 8 ys1.toNatClampNeg ys0).1 8 y1.toNatClampNeg)]) (rest := []) ⟨hx, hb, hml, hown, hw⟩ (c_R_answer l D ca ad H.size (pI S 8 ys1.toNatClampNeg ys0) ((pI S 8 ys1.toNatClampNeg ys0).1 8 y1.toNatClampNeg) _ h) (cwV 1 hw (tG_g gl_R_111) rfl rfl rfl (by decide +kernel) ⟨Nat.le_of_ble_eq_true rfl, Nat.le_of_ble_eq_true rfl⟩) ⟨xPc.blind, va_recv hK hP rfl (q0 := 0) rfl, xPc.pre hK hN hP hD⟩ rfl rfl hl.1 rfl (lv_room (Nat.le_of_ble_eq_true rfl)) d_R_acknowledge_89 ⟨Nat.le_of_ble_eq_true rfl, Nat.le_of_ble_eq_true rfl⟩) hD hS hA (fun r7 S8 H locs h hP hD hS => ?_)
    exact W.iret (v := r7) hx hb hr (fun t ht hW => ⟨⟨r7, S8, rfl, h, by rw [ht]; exact hP, hD⟩, hS.F ht⟩) hS.2.2 d_R_acknowledge_92
  have bk_50 : ∀ (S : SR) (y1 : Int32) (ys0 : Int32) (H : Heap) (locs : List Loc) , va_P D cls (wR ca ad S) H → va_D A (wR ca ad S) → va_S A s.heap H locs → ∀ (ls : Array Slot), lv_has ls 3 [(0, .ref (ad 0)), (1, .int y1)] → w_R_acknowledge_50 S y1 ys0 Q → W p l e ({ frames := 2, cells := 0, slots := 0, locals := 43 } : Room) s m args below meth c H locs 0 0 (MQ below ((fun A => va_Qi Q (xAt D (wR ca ad) A) A) A) args s 0 0 A) (F0 m 50 ls [.int ys0]) := by
    intro S y1 ys0 H locs hP hD hS ls hl h
    unfold w_R_acknowledge_50 at h
    refine lv_istore_n (lv' := [(2, .int ys0), (0, .ref (ad 0)), (1, .int y1)]) hx hb d_R_acknowledge_50 rfl hl (by decide) rfl (fun ls hl => ?_)
    refine lv_iload_n hx hb d_R_acknowledge_51 rfl (lv_at hl 0 rfl) ?_
    refine lv_if_ne (tgt := 61) hx hb d_R_acknowledge_52 (by decide) (fun hc => ?_) (fun hc => ?_)
    · replace h := h.1 hc
      refine lv_aload_n hx hb d_R_acknowledge_61 rfl (lv_at hl 1 rfl) ?_
      refine va_get (D := D) (ci := 4) (v := .ref (ad 14)) (C := Rc_R) (T := Fc_R) (N := 25) hx hb hw inc_R hown hK hP 0 rfl rfl 17 (by decide) (hw _ wd_608) (fun _ h9 => h9) rfl d_R_acknowledge_62 ?_
      refine lv_iload_n hx hb d_R_acknowledge_65 rfl (lv_at hl 2 rfl) ?_
      refine lv_aload_n hx hb d_R_acknowledge_66 rfl (lv_at hl 1 rfl) ?_
      refine va_get (D := D) (ci := 4) (v := .ref (ad 14)) (C := Rc_R) (T := Fc_R) (N := 25) hx hb hw inc_R hown hK hP 0 rfl rfl 17 (by decide) (hw _ wd_608) (fun _ h9 => h9) rfl d_R_acknowledge_67 ?_
      refine lv_iload_n hx hb d_R_acknowledge_70 rfl (lv_at hl 2 rfl) ?_
      obtain ⟨hq, h⟩ := h
      refine va_iald (D := D) hx hb hK hP 14 0 rfl rfl hq d_R_acknowledge_71 ?_
      refine lv_iconst (v := 4) hx hb d_R_acknowledge_72 (by decide) ?_
      refine lv_icmp_ne (tgt := 80) hx hb d_R_acknowledge_73 (by decide) (fun hc => ?_) (fun hc => ?_)
      · replace h := h.1 hc
        refine lv_iconst (v := 4) hx hb d_R_acknowledge_80 (by decide) ?_
        exact bk_81 S y1 4 y1 H locs hP hD hS ls (lv_sub hl [1, 2] rfl) h
      · replace h := h.2 hc
        refine lv_iconst (v := 1) hx hb d_R_acknowledge_76 (by decide) ?_
        refine lv_goto (tgt := 81) hx hb d_R_acknowledge_77 (by decide) ?_
        exact bk_81 S y1 1 y1 H locs hP hD hS ls (lv_sub hl [1, 2] rfl) h
    · replace h := h.2 hc
      refine lv_aload_n hx hb d_R_acknowledge_55 rfl (lv_at hl 1 rfl) ?_
      refine lv_iconst (v := 3) hx hb d_R_acknowledge_56 (by decide) ?_
      refine xx_calli (va_runV (As := [.int 3]) (rest := []) ⟨hx, hb, hml, hown, hw⟩ (c_R_fail l D ca ad H.size S 3 _ h) (cwV 1 hw (tG_g gl_R_103) rfl rfl rfl (by decide +kernel) ⟨Nat.le_of_ble_eq_true rfl, Nat.le_of_ble_eq_true rfl⟩) ⟨xPc.blind, va_recv hK hP rfl (q0 := 0) rfl, xPc.pre hK hN hP hD⟩ rfl rfl hl.1 rfl (lv_room (Nat.le_of_ble_eq_true rfl)) d_R_acknowledge_57 ⟨Nat.le_of_ble_eq_true rfl, Nat.le_of_ble_eq_true rfl⟩) hD hS hA (fun r5 S6 H locs h hP hD hS => ?_)
      exact W.iret (v := r5) hx hb hr (fun t ht hW => ⟨⟨r5, S6, rfl, h, by rw [ht]; exact hP, hD⟩, hS.F ht⟩) hS.2.2 d_R_acknowledge_60
  have bk_49 : ∀ (S : SR) (y1 : Int32) (H : Heap) (locs : List Loc) , va_P D cls (wR ca ad S) H → va_D A (wR ca ad S) → va_S A s.heap H locs → ∀ (ls : Array Slot), lv_has ls 3 [(0, .ref (ad 0)), (1, .int y1)] → w_R_acknowledge_49 S y1 Q → W p l e ({ frames := 2, cells := 0, slots := 0, locals := 43 } : Room) s m args below meth c H locs 0 0 (MQ below ((fun A => va_Qi Q (xAt D (wR ca ad) A) A) A) args s 0 0 A) (F0 m 49 ls []) := by
    intro S y1 H locs hP hD hS ls hl h
    unfold w_R_acknowledge_49 at h
    refine lv_iconst (v := 0) hx hb d_R_acknowledge_49 (by decide) ?_
    exact bk_50 S y1 0 H locs hP hD hS ls (lv_sub hl [0, 1] rfl) h
  have bk_45 : ∀ (S : SR) (y1 : Int32) (H : Heap) (locs : List Loc) , va_P D cls (wR ca ad S) H → va_D A (wR ca ad S) → va_S A s.heap H locs → ∀ (ls : Array Slot), lv_has ls 3 [(0, .ref (ad 0)), (1, .int y1)] → w_R_acknowledge_45 S y1 Q → W p l e ({ frames := 2, cells := 0, slots := 0, locals := 43 } : Room) s m args below meth c H locs 0 0 (MQ below ((fun A => va_Qi Q (xAt D (wR ca ad) A) A) A) args s 0 0 A) (F0 m 45 ls []) := by
    intro S y1 H locs hP hD hS ls hl h
    unfold w_R_acknowledge_45 at h
    refine lv_iconst (v := 1) hx hb d_R_acknowledge_45 (by decide) ?_
    refine lv_goto (tgt := 50) hx hb d_R_acknowledge_46 (by decide) ?_
    exact bk_50 S y1 1 H locs hP hD hS ls (lv_sub hl [0, 1] rfl) h
  have hH9 : ∀ H : Heap, H = s.heap → va_P D cls (wR ca ad S) H → va_S A s.heap H [] → W p l e ({ frames := 2, cells := 0, slots := 0, locals := 43 } : Room) s m args below meth c H [] 0 0 (MQ below ((fun A => va_Qi Q (xAt D (wR ca ad) A) A) A) args s 0 0 A) (F0 m 0 ls []) := by
    clear hP hS
    intro H hH hP hS
    obtain ⟨locs, hlo⟩ : ∃ z : List Loc, z = [] := ⟨_, rfl⟩
    rw [← hlo] at hS ⊢
    refine lv_aload_n hx hb d_R_acknowledge_0 rfl (lv_at hl 0 rfl) ?_
    refine lv_iload_n hx hb d_R_acknowledge_1 rfl (lv_at hl 1 rfl) ?_
    refine xx_calli (va_runV (As := [.int x1]) (rest := []) ⟨hx, hb, hml, hown, hw⟩ (c_R_noTrain l D ca ad H.size S x1 _ h) (cwV 1 hw (tG_g gl_R_158) rfl rfl rfl (by decide +kernel) ⟨Nat.le_of_ble_eq_true rfl, Nat.le_of_ble_eq_true rfl⟩) ⟨xPc.blind, va_recv hK hP rfl (q0 := 0) rfl, xPc.pre hK hN hP hD⟩ rfl rfl hl.1 rfl (lv_room (Nat.le_of_ble_eq_true rfl)) d_R_acknowledge_2 ⟨Nat.le_of_ble_eq_true rfl, Nat.le_of_ble_eq_true rfl⟩) hD hS hA (fun r1 S2 H locs h hP hD hS => ?_)
    refine lv_if_eq (tgt := 14) hx hb d_R_acknowledge_5 (by decide) (fun hc => ?_) (fun hc => ?_)
    · replace h := h.1 hc
      refine lv_aload_n hx hb d_R_acknowledge_14 rfl (lv_at hl 0 rfl) ?_
      refine va_get (D := D) (ci := 4) (v := .ref (ad 14)) (C := Rc_R) (T := Fc_R) (N := 25) hx hb hw inc_R hown hK hP 0 rfl rfl 17 (by decide) (hw _ wd_608) (fun _ h9 => h9) rfl d_R_acknowledge_15 ?_
      refine lv_iload_n hx hb d_R_acknowledge_18 rfl (lv_at hl 1 rfl) ?_
      obtain ⟨hq, h⟩ := h
      refine va_iald (D := D) hx hb hK hP 14 0 rfl rfl hq d_R_acknowledge_19 ?_
      refine lv_iconst (v := 4) hx hb d_R_acknowledge_20 (by decide) ?_
      refine lv_icmp_eq (tgt := 45) hx hb d_R_acknowledge_21 (by decide) (fun hc => ?_) (fun hc => ?_)
      · replace h := h.1 hc
        exact bk_45 S2 x1 H locs hP hD hS ls (lv_sub hl [0, 1] rfl) h
      · replace h := h.2 hc
        refine lv_aload_n hx hb d_R_acknowledge_24 rfl (lv_at hl 0 rfl) ?_
        refine va_get (D := D) (ci := 4) (v := .ref (ad 14)) (C := Rc_R) (T := Fc_R) (N := 25) hx hb hw inc_R hown hK hP 0 rfl rfl 17 (by decide) (hw _ wd_608) (fun _ h9 => h9) rfl d_R_acknowledge_25 ?_
        refine lv_iload_n hx hb d_R_acknowledge_28 rfl (lv_at hl 1 rfl) ?_
        obtain ⟨hq, h⟩ := h
        refine va_iald (D := D) hx hb hK hP 14 0 rfl rfl hq d_R_acknowledge_29 ?_
        refine lv_iconst (v := 3) hx hb d_R_acknowledge_30 (by decide) ?_
        refine lv_icmp_ne (tgt := 49) hx hb d_R_acknowledge_31 (by decide) (fun hc => ?_) (fun hc => ?_)
        · replace h := h.1 hc
          exact bk_49 S2 x1 H locs hP hD hS ls (lv_sub hl [0, 1] rfl) h
        · replace h := h.2 hc
          refine lv_aload_n hx hb d_R_acknowledge_34 rfl (lv_at hl 0 rfl) ?_
          refine va_get (D := D) (ci := 4) (v := .ref (ad 9)) (C := Rc_R) (T := Fc_R) (N := 25) hx hb hw inc_R hown hK hP 0 rfl rfl 12 (by decide) (hw _ wd_603) (fun _ h9 => h9) rfl d_R_acknowledge_35 ?_
          refine lv_iload_n hx hb d_R_acknowledge_38 rfl (lv_at hl 1 rfl) ?_
          obtain ⟨hq, h⟩ := h
          refine va_lald (D := D) hx hb hK hP 9 1 rfl rfl hq d_R_acknowledge_39 ?_
          refine lv_lconst (v := 0) hx hb d_R_acknowledge_40 (by decide) ?_
          refine W.lcmp hx hb d_R_acknowledge_41 ?_
          refine lv_if_ne (tgt := 49) hx hb d_R_acknowledge_42 (by decide) (fun hc => ?_) (fun hc => ?_)
          · replace h := h.1 hc
            exact bk_49 S2 x1 H locs hP hD hS ls (lv_sub hl [0, 1] rfl) h
          · replace h := h.2 hc
            exact bk_45 S2 x1 H locs hP hD hS ls (lv_sub hl [0, 1] rfl) h
    · replace h := h.2 hc
      refine lv_aload_n hx hb d_R_acknowledge_8 rfl (lv_at hl 0 rfl) ?_
      refine lv_iconst (v := 1) hx hb d_R_acknowledge_9 (by decide) ?_
      refine xx_calli (va_runV (As := [.int 1]) (rest := []) ⟨hx, hb, hml, hown, hw⟩ (c_R_fail l D ca ad H.size S2 1 _ h) (cwV 1 hw (tG_g gl_R_103) rfl rfl rfl (by decide +kernel) ⟨Nat.le_of_ble_eq_true rfl, Nat.le_of_ble_eq_true rfl⟩) ⟨xPc.blind, va_recv hK hP rfl (q0 := 0) rfl, xPc.pre hK hN hP hD⟩ rfl rfl hl.1 rfl (lv_room (Nat.le_of_ble_eq_true rfl)) d_R_acknowledge_10 ⟨Nat.le_of_ble_eq_true rfl, Nat.le_of_ble_eq_true rfl⟩) hD hS hA (fun r3 S4 H locs h hP hD hS => ?_)
      exact W.iret (v := r3) hx hb hr (fun t ht hW => ⟨⟨r3, S4, rfl, h, by rw [ht]; exact hP, hD⟩, hS.F ht⟩) hS.2.2 d_R_acknowledge_13
  exact hH9 _ rfl hP hS
theorem d_R_end_0 : decode b_R_end 0 = .ok (.aload_n 0, 1) := by decide +kernel
theorem d_R_end_1 : decode b_R_end 1 = .ok (.iload_n 1, 1) := by decide +kernel
theorem d_R_end_2 : decode b_R_end 2 = .ok (.invokevirtual 158, 3) := by decide +kernel
theorem d_R_end_5 : decode b_R_end 5 = .ok (.ifCond .eq 9, 3) := by decide +kernel
theorem d_R_end_8 : decode b_R_end 8 = .ok (.aload_n 0, 1) := by decide +kernel
theorem d_R_end_9 : decode b_R_end 9 = .ok (.iconst 1, 1) := by decide +kernel
theorem d_R_end_10 : decode b_R_end 10 = .ok (.invokevirtual 103, 3) := by decide +kernel
theorem d_R_end_13 : decode b_R_end 13 = .ok (.ireturn, 1) := by decide +kernel
theorem d_R_end_14 : decode b_R_end 14 = .ok (.aload_n 0, 1) := by decide +kernel
theorem d_R_end_15 : decode b_R_end 15 = .ok (.getfield 50, 3) := by decide +kernel
theorem d_R_end_18 : decode b_R_end 18 = .ok (.iload_n 1, 1) := by decide +kernel
theorem d_R_end_19 : decode b_R_end 19 = .ok (.iaload, 1) := by decide +kernel
theorem d_R_end_20 : decode b_R_end 20 = .ok (.iconst 3, 1) := by decide +kernel
theorem d_R_end_21 : decode b_R_end 21 = .ok (.if_icmp .eq 14, 3) := by decide +kernel
theorem d_R_end_24 : decode b_R_end 24 = .ok (.aload_n 0, 1) := by decide +kernel
theorem d_R_end_25 : decode b_R_end 25 = .ok (.getfield 35, 3) := by decide +kernel
theorem d_R_end_28 : decode b_R_end 28 = .ok (.iload_n 1, 1) := by decide +kernel
theorem d_R_end_29 : decode b_R_end 29 = .ok (.laload, 1) := by decide +kernel
theorem d_R_end_30 : decode b_R_end 30 = .ok (.lconst 0, 1) := by decide +kernel
theorem d_R_end_31 : decode b_R_end 31 = .ok (.lcmp, 1) := by decide +kernel
theorem d_R_end_32 : decode b_R_end 32 = .ok (.ifCond .eq 9, 3) := by decide +kernel
theorem d_R_end_35 : decode b_R_end 35 = .ok (.aload_n 0, 1) := by decide +kernel
theorem d_R_end_36 : decode b_R_end 36 = .ok (.iconst 3, 1) := by decide +kernel
theorem d_R_end_37 : decode b_R_end 37 = .ok (.invokevirtual 103, 3) := by decide +kernel
theorem d_R_end_40 : decode b_R_end 40 = .ok (.ireturn, 1) := by decide +kernel
theorem d_R_end_41 : decode b_R_end 41 = .ok (.aload_n 0, 1) := by decide +kernel
theorem d_R_end_42 : decode b_R_end 42 = .ok (.getfield 50, 3) := by decide +kernel
theorem d_R_end_45 : decode b_R_end 45 = .ok (.iload_n 1, 1) := by decide +kernel
theorem d_R_end_46 : decode b_R_end 46 = .ok (.iconst 0, 1) := by decide +kernel
theorem d_R_end_47 : decode b_R_end 47 = .ok (.iastore, 1) := by decide +kernel
theorem d_R_end_48 : decode b_R_end 48 = .ok (.aload_n 0, 1) := by decide +kernel
theorem d_R_end_49 : decode b_R_end 49 = .ok (.getfield 47, 3) := by decide +kernel
theorem d_R_end_52 : decode b_R_end 52 = .ok (.iload_n 1, 1) := by decide +kernel
theorem d_R_end_53 : decode b_R_end 53 = .ok (.ldc2_w 129, 3) := by decide +kernel
theorem d_R_end_56 : decode b_R_end 56 = .ok (.lastore, 1) := by decide +kernel
theorem d_R_end_57 : decode b_R_end 57 = .ok (.iconst 0, 1) := by decide +kernel
theorem d_R_end_58 : decode b_R_end 58 = .ok (.istore_n 2, 1) := by decide +kernel
theorem d_R_end_59 : decode b_R_end 59 = .ok (.iload_n 2, 1) := by decide +kernel
theorem d_R_end_60 : decode b_R_end 60 = .ok (.aload_n 0, 1) := by decide +kernel
theorem d_R_end_61 : decode b_R_end 61 = .ok (.getfield 79, 3) := by decide +kernel
theorem d_R_end_64 : decode b_R_end 64 = .ok (.if_icmp .ge 51, 3) := by decide +kernel
theorem d_R_end_67 : decode b_R_end 67 = .ok (.aload_n 0, 1) := by decide +kernel
theorem d_R_end_68 : decode b_R_end 68 = .ok (.getfield 16, 3) := by decide +kernel
theorem d_R_end_71 : decode b_R_end 71 = .ok (.iload_n 2, 1) := by decide +kernel
theorem d_R_end_72 : decode b_R_end 72 = .ok (.iaload, 1) := by decide +kernel
theorem d_R_end_73 : decode b_R_end 73 = .ok (.ifCond .lt 16, 3) := by decide +kernel
theorem d_R_end_76 : decode b_R_end 76 = .ok (.aload_n 0, 1) := by decide +kernel
theorem d_R_end_77 : decode b_R_end 77 = .ok (.getfield 16, 3) := by decide +kernel
theorem d_R_end_80 : decode b_R_end 80 = .ok (.iload_n 2, 1) := by decide +kernel
theorem d_R_end_81 : decode b_R_end 81 = .ok (.iaload, 1) := by decide +kernel
theorem d_R_end_82 : decode b_R_end 82 = .ok (.iload_n 1, 1) := by decide +kernel
theorem d_R_end_83 : decode b_R_end 83 = .ok (.if_icmp .eq 6, 3) := by decide +kernel
theorem d_R_end_86 : decode b_R_end 86 = .ok (.goto 23, 3) := by decide +kernel
theorem d_R_end_89 : decode b_R_end 89 = .ok (.aload_n 0, 1) := by decide +kernel
theorem d_R_end_90 : decode b_R_end 90 = .ok (.getfield 16, 3) := by decide +kernel
theorem d_R_end_93 : decode b_R_end 93 = .ok (.iload_n 2, 1) := by decide +kernel
theorem d_R_end_94 : decode b_R_end 94 = .ok (.aload_n 0, 1) := by decide +kernel
theorem d_R_end_95 : decode b_R_end 95 = .ok (.iload_n 1, 1) := by decide +kernel
theorem d_R_end_96 : decode b_R_end 96 = .ok (.iload_n 2, 1) := by decide +kernel
theorem d_R_end_97 : decode b_R_end 97 = .ok (.invokevirtual 89, 3) := by decide +kernel
theorem d_R_end_100 : decode b_R_end 100 = .ok (.ifCond .eq 7, 3) := by decide +kernel
theorem d_R_end_103 : decode b_R_end 103 = .ok (.iload_n 1, 1) := by decide +kernel
theorem d_R_end_104 : decode b_R_end 104 = .ok (.goto 4, 3) := by decide +kernel
theorem d_R_end_107 : decode b_R_end 107 = .ok (.iconst (-1), 1) := by decide +kernel
theorem d_R_end_108 : decode b_R_end 108 = .ok (.iastore, 1) := by decide +kernel
theorem d_R_end_109 : decode b_R_end 109 = .ok (.iinc 2 1, 3) := by decide +kernel
theorem d_R_end_112 : decode b_R_end 112 = .ok (.goto (-53), 3) := by decide +kernel
theorem d_R_end_115 : decode b_R_end 115 = .ok (.aload_n 0, 1) := by decide +kernel
theorem d_R_end_116 : decode b_R_end 116 = .ok (.iconst 0, 1) := by decide +kernel
theorem d_R_end_117 : decode b_R_end 117 = .ok (.invokevirtual 111, 3) := by decide +kernel
theorem d_R_end_120 : decode b_R_end 120 = .ok (.ireturn, 1) := by decide +kernel
def w_R_end_109 (K59 : SR → Int32 → Int32 → Prop) (S : SR) (y1 : Int32) (y2 : Int32) (Q : Int32 → SR → Prop) : Prop := K59 S y1 (y2 + 1)
def w_R_end_108 (K59 : SR → Int32 → Int32 → Prop) (S : SR) (y1 : Int32) (y2 : Int32) (ys0 : Int32) (ys1 : Int32) (Q : Int32 → SR → Prop) : Prop := vp_in ys1 10 ∧ (w_R_end_109 K59 (pI S 7 ys1.toNatClampNeg ys0) y1 y2 Q)
def w_R_end_89 (K59 : SR → Int32 → Int32 → Prop) (S : SR) (y1 : Int32) (y2 : Int32) (Q : Int32 → SR → Prop) : Prop := w_R_isIn S y1 y2 (fun r11 S12 => ((r11 = 0) → (w_R_end_108 K59 S12 y1 y2 (-1) y2 Q)) ∧ ((¬ r11 = 0) → (w_R_end_108 K59 S12 y1 y2 y1 y2 Q)))
def w_R_end_59 : Nat → SR → Int32 → Int32 → (Int32 → SR → Prop) → Prop
  | 0 => fun _ _ _ _ => False
  | n + 1 => fun S y1 y2 Q => ((((S.1 1 0) ≤ y2) → (w_R_answer S 0 (fun r9 S10 => Q r9 S10))) ∧ ((¬ (S.1 1 0) ≤ y2) → (vp_in y2 10 ∧ ((((S.1 7 y2.toNatClampNeg) < 0) → (w_R_end_89 (fun S9 z0 z1 => w_R_end_59 n S9 z0 z1 Q) S y1 y2 Q)) ∧ ((¬ (S.1 7 y2.toNatClampNeg) < 0) → (vp_in y2 10 ∧ ((((S.1 7 y2.toNatClampNeg) = y1) → (w_R_end_89 (fun S9 z0 z1 => w_R_end_59 n S9 z0 z1 Q) S y1 y2 Q)) ∧ ((¬ (S.1 7 y2.toNatClampNeg) = y1) → (w_R_end_109 (fun S9 z0 z1 => w_R_end_59 n S9 z0 z1 Q) S y1 y2 Q)))))))))
def w_R_end (S : SR) (x1 : Int32) (Q : Int32 → SR → Prop) : Prop := w_R_noTrain S x1 (fun r1 S2 => ((r1 = 0) → (vp_in x1 3 ∧ ((((S2.1 8 x1.toNatClampNeg) = 3) → (w_R_fail S2 3 (fun r3 S4 => Q r3 S4))) ∧ ((¬ (S2.1 8 x1.toNatClampNeg) = 3) → (vp_in x1 3 ∧ ((((lg_cmp (S2.2 7 x1.toNatClampNeg) 0) = 0) → (vp_in x1 3 ∧ (vp_in x1 3 ∧ (∃ n : Nat, w_R_end_59 n (pV (pI S2 8 x1.toNatClampNeg 0) 11 x1.toNatClampNeg (-1 : Int64)) x1 0 Q)))) ∧ ((¬ (lg_cmp (S2.2 7 x1.toNatClampNeg) 0) = 0) → (w_R_fail S2 3 (fun r5 S6 => Q r5 S6))))))))) ∧ ((¬ r1 = 0) → (w_R_fail S2 1 (fun r7 S8 => Q r7 S8))))
set_option maxRecDepth 100000 in
set_option maxHeartbeats 4000000 in
theorem c_R_end (l : Launch) (D : va_G) (ca : Nat → ClassId) (ad : Nat → Nat) (sz : Nat) (S : SR) (x1 : Int32)  (Q : Int32 → SR → Prop) (h : w_R_end S x1 Q) : Met l y_R_end (Cond.code y_R_end b_R_end 3 (some Jvm.ClassFile.FieldType.int) :: tG) ({ frames := 2, cells := 0, slots := 0, locals := 43 } : Room) (xPc D ca (wR ca ad) S sz [.ref (ad 0), .int x1]) (va_Qi Q (xAt D (wR ca ad) (va_A (wR ca ad S) sz)) (va_A (wR ca ad S) sz)) 0 0 (va_A (wR ca ad S) sz) := by
  refine xx_met (Qf := fun A => va_Qi Q (xAt D (wR ca ad) A) A) (by decide) (Nat.le_of_ble_eq_true rfl) ?_
  intro p e s m args below meth c A ls hx hb hr hw hown hlocks hml hK hN hA hP hD hS hl
  have hown : s.vm.findClass "TrainGuardModel" = some m.cls := hown
  have hl : lv_has ls 3 [(0, .ref (ad 0)), (1, .int x1)] := hl
  unfold w_R_end at h
  have bk_109 : ∀ (K59 : SR → Int32 → Int32 → Prop) (hK59 : ∀ (S : SR) (y1 : Int32) (y2 : Int32) (H : Heap) (locs : List Loc) , va_P D cls (wR ca ad S) H → va_D A (wR ca ad S) → va_S A s.heap H locs → ∀ (ls : Array Slot), lv_has ls 3 [(0, .ref (ad 0)), (1, .int y1), (2, .int y2)] → K59 S y1 y2 → W p l e ({ frames := 2, cells := 0, slots := 0, locals := 43 } : Room) s m args below meth c H locs 0 0 (MQ below ((fun A => va_Qi Q (xAt D (wR ca ad) A) A) A) args s 0 0 A) (F0 m 59 ls [])) (S : SR) (y1 : Int32) (y2 : Int32) (H : Heap) (locs : List Loc) , va_P D cls (wR ca ad S) H → va_D A (wR ca ad S) → va_S A s.heap H locs → ∀ (ls : Array Slot), lv_has ls 3 [(0, .ref (ad 0)), (1, .int y1), (2, .int y2)] → w_R_end_109 K59 S y1 y2 Q → W p l e ({ frames := 2, cells := 0, slots := 0, locals := 43 } : Room) s m args below meth c H locs 0 0 (MQ below ((fun A => va_Qi Q (xAt D (wR ca ad) A) A) A) args s 0 0 A) (F0 m 109 ls []) := by
    intro K59 hK59 S y1 y2 H locs hP hD hS ls hl h
    unfold w_R_end_109 at h
    refine lv_iinc (v := (y2 + 1)) (lv' := [(2, .int (y2 + 1)), (0, .ref (ad 0)), (1, .int y1)]) hx hb d_R_end_109 hl (k := 2) rfl rfl (by decide) rfl (fun ls hl => ?_)
    refine lv_goto (tgt := 59) hx hb d_R_end_112 (by decide) ?_
    exact hK59 S y1 (y2 + 1) H locs hP hD hS ls (lv_sub hl [1, 2, 0] rfl) h
  have bk_108 : ∀ (K59 : SR → Int32 → Int32 → Prop) (hK59 : ∀ (S : SR) (y1 : Int32) (y2 : Int32) (H : Heap) (locs : List Loc) , va_P D cls (wR ca ad S) H → va_D A (wR ca ad S) → va_S A s.heap H locs → ∀ (ls : Array Slot), lv_has ls 3 [(0, .ref (ad 0)), (1, .int y1), (2, .int y2)] → K59 S y1 y2 → W p l e ({ frames := 2, cells := 0, slots := 0, locals := 43 } : Room) s m args below meth c H locs 0 0 (MQ below ((fun A => va_Qi Q (xAt D (wR ca ad) A) A) A) args s 0 0 A) (F0 m 59 ls [])) (S : SR) (y1 : Int32) (y2 : Int32) (ys0 : Int32) (ys1 : Int32) (H : Heap) (locs : List Loc) , va_P D cls (wR ca ad S) H → va_D A (wR ca ad S) → va_S A s.heap H locs → ∀ (ls : Array Slot), lv_has ls 3 [(0, .ref (ad 0)), (1, .int y1), (2, .int y2)] → w_R_end_108 K59 S y1 y2 ys0 ys1 Q → W p l e ({ frames := 2, cells := 0, slots := 0, locals := 43 } : Room) s m args below meth c H locs 0 0 (MQ below ((fun A => va_Qi Q (xAt D (wR ca ad) A) A) A) args s 0 0 A) (F0 m 108 ls [.int ys0, .int ys1, .ref (ad 3)]) := by
    intro K59 hK59 S y1 y2 ys0 ys1 H locs hP hD hS ls hl h
    unfold w_R_end_108 at h
    obtain ⟨hq, h⟩ := h
    refine va_iast (D := D) hx hb hK hP hD hS 3 0 rfl rfl hq d_R_end_108 (fun H locs hP hD hS => ?_)
    rw [pt_R_held] at hP hD
    exact bk_109 K59 hK59 (pI S 7 ys1.toNatClampNeg ys0) y1 y2 H locs hP hD hS ls (lv_sub hl [0, 1, 2] rfl) h
  have bk_89 : ∀ (K59 : SR → Int32 → Int32 → Prop) (hK59 : ∀ (S : SR) (y1 : Int32) (y2 : Int32) (H : Heap) (locs : List Loc) , va_P D cls (wR ca ad S) H → va_D A (wR ca ad S) → va_S A s.heap H locs → ∀ (ls : Array Slot), lv_has ls 3 [(0, .ref (ad 0)), (1, .int y1), (2, .int y2)] → K59 S y1 y2 → W p l e ({ frames := 2, cells := 0, slots := 0, locals := 43 } : Room) s m args below meth c H locs 0 0 (MQ below ((fun A => va_Qi Q (xAt D (wR ca ad) A) A) A) args s 0 0 A) (F0 m 59 ls [])) (S : SR) (y1 : Int32) (y2 : Int32) (H : Heap) (locs : List Loc) , va_P D cls (wR ca ad S) H → va_D A (wR ca ad S) → va_S A s.heap H locs → ∀ (ls : Array Slot), lv_has ls 3 [(0, .ref (ad 0)), (1, .int y1), (2, .int y2)] → w_R_end_89 K59 S y1 y2 Q → W p l e ({ frames := 2, cells := 0, slots := 0, locals := 43 } : Room) s m args below meth c H locs 0 0 (MQ below ((fun A => va_Qi Q (xAt D (wR ca ad) A) A) A) args s 0 0 A) (F0 m 89 ls []) := by
    intro K59 hK59 S y1 y2 H locs hP hD hS ls hl h
    unfold w_R_end_89 at h
    refine lv_aload_n hx hb d_R_end_89 rfl (lv_at hl 0 rfl) ?_
    refine va_get (D := D) (ci := 4) (v := .ref (ad 3)) (C := Rc_R) (T := Fc_R) (N := 25) hx hb hw inc_R hown hK hP 0 rfl rfl 4 (by decide) (hw _ wd_595) (fun _ h9 => h9) rfl d_R_end_90 ?_
    refine lv_iload_n hx hb d_R_end_93 rfl (lv_at hl 2 rfl) ?_
    refine lv_aload_n hx hb d_R_end_94 rfl (lv_at hl 0 rfl) ?_
    refine lv_iload_n hx hb d_R_end_95 rfl (lv_at hl 1 rfl) ?_
    refine lv_iload_n hx hb d_R_end_96 rfl (lv_at hl 2 rfl) ?_
    refine xx_calli (va_runV (As := [.int y1, .int y2]) (rest := [.int y2, .ref (ad 3)]) ⟨hx, hb, hml, hown, hw⟩ (c_R_isIn l D ca ad H.size S y1 y2 _ h) (cwV 2 hw (tG_g gl_R_89) rfl rfl rfl (by decide +kernel) ⟨Nat.le_of_ble_eq_true rfl, Nat.le_of_ble_eq_true rfl⟩) ⟨xPc.blind, va_recv hK hP rfl (q0 := 0) rfl, xPc.pre hK hN hP hD⟩ rfl rfl hl.1 rfl (lv_room (Nat.le_of_ble_eq_true rfl)) d_R_end_97 ⟨Nat.le_of_ble_eq_true rfl, Nat.le_of_ble_eq_true rfl⟩) hD hS hA (fun r11 S12 H locs h hP hD hS => ?_)
    refine lv_if_eq (tgt := 107) hx hb d_R_end_100 (by decide) (fun hc => ?_) (fun hc => ?_)
    · replace h := h.1 hc
      refine lv_iconst (v := (-1)) hx hb d_R_end_107 (by decide) ?_
      exact bk_108 K59 hK59 S12 y1 y2 (-1) y2 H locs hP hD hS ls (lv_sub hl [0, 1, 2] rfl) h
    · replace h := h.2 hc
      refine lv_iload_n hx hb d_R_end_103 rfl (lv_at hl 1 rfl) ?_
      refine lv_goto (tgt := 108) hx hb d_R_end_104 (by decide) ?_
      exact bk_108 K59 hK59 S12 y1 y2 y1 y2 H locs hP hD hS ls (lv_sub hl [0, 1, 2] rfl) h
  have bk_59 : ∀ (n9 : Nat) (S : SR) (y1 : Int32) (y2 : Int32) (H : Heap) (locs : List Loc) , va_P D cls (wR ca ad S) H → va_D A (wR ca ad S) → va_S A s.heap H locs → ∀ (ls : Array Slot), lv_has ls 3 [(0, .ref (ad 0)), (1, .int y1), (2, .int y2)] → w_R_end_59 n9 S y1 y2 Q → W p l e ({ frames := 2, cells := 0, slots := 0, locals := 43 } : Room) s m args below meth c H locs 0 0 (MQ below ((fun A => va_Qi Q (xAt D (wR ca ad) A) A) A) args s 0 0 A) (F0 m 59 ls []) := by
    intro n9
    induction n9 with
    | zero => intro S y1 y2 H locs hP hD hS ls hl h; exact absurd h id
    | succ n9 hK59 =>
      intro S y1 y2 H locs hP hD hS ls hl h
      replace h : (((S.1 1 0) ≤ y2) → (w_R_answer S 0 (fun r9 S10 => Q r9 S10))) ∧ ((¬ (S.1 1 0) ≤ y2) → (vp_in y2 10 ∧ ((((S.1 7 y2.toNatClampNeg) < 0) → (w_R_end_89 (fun S9 z0 z1 => w_R_end_59 n9 S9 z0 z1 Q) S y1 y2 Q)) ∧ ((¬ (S.1 7 y2.toNatClampNeg) < 0) → (vp_in y2 10 ∧ ((((S.1 7 y2.toNatClampNeg) = y1) → (w_R_end_89 (fun S9 z0 z1 => w_R_end_59 n9 S9 z0 z1 Q) S y1 y2 Q)) ∧ ((¬ (S.1 7 y2.toNatClampNeg) = y1) → (w_R_end_109 (fun S9 z0 z1 => w_R_end_59 n9 S9 z0 z1 Q) S y1 y2 Q)))))))) := h
      refine lv_iload_n hx hb d_R_end_59 rfl (lv_at hl 2 rfl) ?_
      refine lv_aload_n hx hb d_R_end_60 rfl (lv_at hl 0 rfl) ?_
      refine va_get (D := D) (ci := 4) (v := .int (S.1 1 0)) (C := Rc_R) (T := Fc_R) (N := 25) hx hb hw inc_R hown hK hP 0 rfl rfl 1 (by decide) (hw _ wd_592) (fun _ h9 => h9) rfl d_R_end_61 ?_
      refine lv_icmp_ge (tgt := 115) hx hb d_R_end_64 (by decide) (fun hc => ?_) (fun hc => ?_)
      · replace h := h.1 hc
        refine lv_aload_n hx hb d_R_end_115 rfl (lv_at hl 0 rfl) ?_
        refine lv_iconst (v := 0) hx hb d_R_end_116 (by decide) ?_
        refine xx_calli (va_runV (As := [.int 0]) (rest := []) ⟨hx, hb, hml, hown, hw⟩ (c_R_answer l D ca ad H.size S 0 _ h) (cwV 1 hw (tG_g gl_R_111) rfl rfl rfl (by decide +kernel) ⟨Nat.le_of_ble_eq_true rfl, Nat.le_of_ble_eq_true rfl⟩) ⟨xPc.blind, va_recv hK hP rfl (q0 := 0) rfl, xPc.pre hK hN hP hD⟩ rfl rfl hl.1 rfl (lv_room (Nat.le_of_ble_eq_true rfl)) d_R_end_117 ⟨Nat.le_of_ble_eq_true rfl, Nat.le_of_ble_eq_true rfl⟩) hD hS hA (fun r9 S10 H locs h hP hD hS => ?_)
        exact W.iret (v := r9) hx hb hr (fun t ht hW => ⟨⟨r9, S10, rfl, h, by rw [ht]; exact hP, hD⟩, hS.F ht⟩) hS.2.2 d_R_end_120
      · replace h := h.2 hc
        refine lv_aload_n hx hb d_R_end_67 rfl (lv_at hl 0 rfl) ?_
        refine va_get (D := D) (ci := 4) (v := .ref (ad 3)) (C := Rc_R) (T := Fc_R) (N := 25) hx hb hw inc_R hown hK hP 0 rfl rfl 4 (by decide) (hw _ wd_595) (fun _ h9 => h9) rfl d_R_end_68 ?_
        refine lv_iload_n hx hb d_R_end_71 rfl (lv_at hl 2 rfl) ?_
        obtain ⟨hq, h⟩ := h
        refine va_iald (D := D) hx hb hK hP 3 0 rfl rfl hq d_R_end_72 ?_
        refine lv_if_lt (tgt := 89) hx hb d_R_end_73 (by decide) (fun hc => ?_) (fun hc => ?_)
        · replace h := h.1 hc
          exact bk_89 (fun S9 z0 z1 => w_R_end_59 n9 S9 z0 z1 Q) hK59 S y1 y2 H locs hP hD hS ls (lv_sub hl [0, 1, 2] rfl) h
        · replace h := h.2 hc
          refine lv_aload_n hx hb d_R_end_76 rfl (lv_at hl 0 rfl) ?_
          refine va_get (D := D) (ci := 4) (v := .ref (ad 3)) (C := Rc_R) (T := Fc_R) (N := 25) hx hb hw inc_R hown hK hP 0 rfl rfl 4 (by decide) (hw _ wd_595) (fun _ h9 => h9) rfl d_R_end_77 ?_
          refine lv_iload_n hx hb d_R_end_80 rfl (lv_at hl 2 rfl) ?_
          obtain ⟨hq, h⟩ := h
          refine va_iald (D := D) hx hb hK hP 3 0 rfl rfl hq d_R_end_81 ?_
          refine lv_iload_n hx hb d_R_end_82 rfl (lv_at hl 1 rfl) ?_
          refine lv_icmp_eq (tgt := 89) hx hb d_R_end_83 (by decide) (fun hc => ?_) (fun hc => ?_)
          · replace h := h.1 hc
            exact bk_89 (fun S9 z0 z1 => w_R_end_59 n9 S9 z0 z1 Q) hK59 S y1 y2 H locs hP hD hS ls (lv_sub hl [0, 1, 2] rfl) h
          · replace h := h.2 hc
            refine lv_goto (tgt := 109) hx hb d_R_end_86 (by decide) ?_
            exact bk_109 (fun S9 z0 z1 => w_R_end_59 n9 S9 z0 z1 Q) hK59 S y1 y2 H locs hP hD hS ls (lv_sub hl [0, 1, 2] rfl) h
  have hH9 : ∀ H : Heap, H = s.heap → va_P D cls (wR ca ad S) H → va_S A s.heap H [] → W p l e ({ frames := 2, cells := 0, slots := 0, locals := 43 } : Room) s m args below meth c H [] 0 0 (MQ below ((fun A => va_Qi Q (xAt D (wR ca ad) A) A) A) args s 0 0 A) (F0 m 0 ls []) := by
    clear hP hS
    intro H hH hP hS
    obtain ⟨locs, hlo⟩ : ∃ z : List Loc, z = [] := ⟨_, rfl⟩
    rw [← hlo] at hS ⊢
    refine lv_aload_n hx hb d_R_end_0 rfl (lv_at hl 0 rfl) ?_
    refine lv_iload_n hx hb d_R_end_1 rfl (lv_at hl 1 rfl) ?_
    refine xx_calli (va_runV (As := [.int x1]) (rest := []) ⟨hx, hb, hml, hown, hw⟩ (c_R_noTrain l D ca ad H.size S x1 _ h) (cwV 1 hw (tG_g gl_R_158) rfl rfl rfl (by decide +kernel) ⟨Nat.le_of_ble_eq_true rfl, Nat.le_of_ble_eq_true rfl⟩) ⟨xPc.blind, va_recv hK hP rfl (q0 := 0) rfl, xPc.pre hK hN hP hD⟩ rfl rfl hl.1 rfl (lv_room (Nat.le_of_ble_eq_true rfl)) d_R_end_2 ⟨Nat.le_of_ble_eq_true rfl, Nat.le_of_ble_eq_true rfl⟩) hD hS hA (fun r1 S2 H locs h hP hD hS => ?_)
    refine lv_if_eq (tgt := 14) hx hb d_R_end_5 (by decide) (fun hc => ?_) (fun hc => ?_)
    · replace h := h.1 hc
      refine lv_aload_n hx hb d_R_end_14 rfl (lv_at hl 0 rfl) ?_
      refine va_get (D := D) (ci := 4) (v := .ref (ad 14)) (C := Rc_R) (T := Fc_R) (N := 25) hx hb hw inc_R hown hK hP 0 rfl rfl 17 (by decide) (hw _ wd_608) (fun _ h9 => h9) rfl d_R_end_15 ?_
      refine lv_iload_n hx hb d_R_end_18 rfl (lv_at hl 1 rfl) ?_
      obtain ⟨hq, h⟩ := h
      refine va_iald (D := D) hx hb hK hP 14 0 rfl rfl hq d_R_end_19 ?_
      refine lv_iconst (v := 3) hx hb d_R_end_20 (by decide) ?_
      refine lv_icmp_eq (tgt := 35) hx hb d_R_end_21 (by decide) (fun hc => ?_) (fun hc => ?_)
      · replace h := h.1 hc
        refine lv_aload_n hx hb d_R_end_35 rfl (lv_at hl 0 rfl) ?_
        refine lv_iconst (v := 3) hx hb d_R_end_36 (by decide) ?_
        refine xx_calli (va_runV (As := [.int 3]) (rest := []) ⟨hx, hb, hml, hown, hw⟩ (c_R_fail l D ca ad H.size S2 3 _ h) (cwV 1 hw (tG_g gl_R_103) rfl rfl rfl (by decide +kernel) ⟨Nat.le_of_ble_eq_true rfl, Nat.le_of_ble_eq_true rfl⟩) ⟨xPc.blind, va_recv hK hP rfl (q0 := 0) rfl, xPc.pre hK hN hP hD⟩ rfl rfl hl.1 rfl (lv_room (Nat.le_of_ble_eq_true rfl)) d_R_end_37 ⟨Nat.le_of_ble_eq_true rfl, Nat.le_of_ble_eq_true rfl⟩) hD hS hA (fun r3 S4 H locs h hP hD hS => ?_)
        exact W.iret (v := r3) hx hb hr (fun t ht hW => ⟨⟨r3, S4, rfl, h, by rw [ht]; exact hP, hD⟩, hS.F ht⟩) hS.2.2 d_R_end_40
      · replace h := h.2 hc
        refine lv_aload_n hx hb d_R_end_24 rfl (lv_at hl 0 rfl) ?_
        refine va_get (D := D) (ci := 4) (v := .ref (ad 9)) (C := Rc_R) (T := Fc_R) (N := 25) hx hb hw inc_R hown hK hP 0 rfl rfl 12 (by decide) (hw _ wd_603) (fun _ h9 => h9) rfl d_R_end_25 ?_
        refine lv_iload_n hx hb d_R_end_28 rfl (lv_at hl 1 rfl) ?_
        obtain ⟨hq, h⟩ := h
        refine va_lald (D := D) hx hb hK hP 9 1 rfl rfl hq d_R_end_29 ?_
        refine lv_lconst (v := 0) hx hb d_R_end_30 (by decide) ?_
        refine W.lcmp hx hb d_R_end_31 ?_
        refine lv_if_eq (tgt := 41) hx hb d_R_end_32 (by decide) (fun hc => ?_) (fun hc => ?_)
        · replace h := h.1 hc
          refine lv_aload_n hx hb d_R_end_41 rfl (lv_at hl 0 rfl) ?_
          refine va_get (D := D) (ci := 4) (v := .ref (ad 14)) (C := Rc_R) (T := Fc_R) (N := 25) hx hb hw inc_R hown hK hP 0 rfl rfl 17 (by decide) (hw _ wd_608) (fun _ h9 => h9) rfl d_R_end_42 ?_
          refine lv_iload_n hx hb d_R_end_45 rfl (lv_at hl 1 rfl) ?_
          refine lv_iconst (v := 0) hx hb d_R_end_46 (by decide) ?_
          obtain ⟨hq, h⟩ := h
          refine va_iast (D := D) hx hb hK hP hD hS 14 0 rfl rfl hq d_R_end_47 (fun H locs hP hD hS => ?_)
          rw [pt_R_mode] at hP hD
          refine lv_aload_n hx hb d_R_end_48 rfl (lv_at hl 0 rfl) ?_
          refine va_get (D := D) (ci := 4) (v := .ref (ad 13)) (C := Rc_R) (T := Fc_R) (N := 25) hx hb hw inc_R hown hK hP 0 rfl rfl 16 (by decide) (hw _ wd_607) (fun _ h9 => h9) rfl d_R_end_49 ?_
          refine lv_iload_n hx hb d_R_end_52 rfl (lv_at hl 1 rfl) ?_
          refine lv_ldc2 hx hb hown (hw _ wd_726) d_R_end_53 ?_
          obtain ⟨hq, h⟩ := h
          refine va_last (D := D) hx hb hK hP hD hS 13 1 rfl rfl hq d_R_end_56 (fun H locs hP hD hS => ?_)
          rw [pt_R_authority] at hP hD
          refine lv_iconst (v := 0) hx hb d_R_end_57 (by decide) ?_
          refine lv_istore_n (lv' := [(2, .int 0), (0, .ref (ad 0)), (1, .int x1)]) hx hb d_R_end_58 rfl hl (by decide) rfl (fun ls hl => ?_)
          obtain ⟨n9, h⟩ := h
          exact bk_59 n9 (pV (pI S2 8 x1.toNatClampNeg 0) 11 x1.toNatClampNeg (-1 : Int64)) x1 0 H locs hP hD hS ls (lv_sub hl [1, 2, 0] rfl) h
        · replace h := h.2 hc
          refine lv_aload_n hx hb d_R_end_35 rfl (lv_at hl 0 rfl) ?_
          refine lv_iconst (v := 3) hx hb d_R_end_36 (by decide) ?_
          refine xx_calli (va_runV (As := [.int 3]) (rest := []) ⟨hx, hb, hml, hown, hw⟩ (c_R_fail l D ca ad H.size S2 3 _ h) (cwV 1 hw (tG_g gl_R_103) rfl rfl rfl (by decide +kernel) ⟨Nat.le_of_ble_eq_true rfl, Nat.le_of_ble_eq_true rfl⟩) ⟨xPc.blind, va_recv hK hP rfl (q0 := 0) rfl, xPc.pre hK hN hP hD⟩ rfl rfl hl.1 rfl (lv_room (Nat.le_of_ble_eq_true rfl)) d_R_end_37 ⟨Nat.le_of_ble_eq_true rfl, Nat.le_of_ble_eq_true rfl⟩) hD hS hA (fun r5 S6 H locs h hP hD hS => ?_)
          exact W.iret (v := r5) hx hb hr (fun t ht hW => ⟨⟨r5, S6, rfl, h, by rw [ht]; exact hP, hD⟩, hS.F ht⟩) hS.2.2 d_R_end_40
    · replace h := h.2 hc
      refine lv_aload_n hx hb d_R_end_8 rfl (lv_at hl 0 rfl) ?_
      refine lv_iconst (v := 1) hx hb d_R_end_9 (by decide) ?_
      refine xx_calli (va_runV (As := [.int 1]) (rest := []) ⟨hx, hb, hml, hown, hw⟩ (c_R_fail l D ca ad H.size S2 1 _ h) (cwV 1 hw (tG_g gl_R_103) rfl rfl rfl (by decide +kernel) ⟨Nat.le_of_ble_eq_true rfl, Nat.le_of_ble_eq_true rfl⟩) ⟨xPc.blind, va_recv hK hP rfl (q0 := 0) rfl, xPc.pre hK hN hP hD⟩ rfl rfl hl.1 rfl (lv_room (Nat.le_of_ble_eq_true rfl)) d_R_end_10 ⟨Nat.le_of_ble_eq_true rfl, Nat.le_of_ble_eq_true rfl⟩) hD hS hA (fun r7 S8 H locs h hP hD hS => ?_)
      exact W.iret (v := r7) hx hb hr (fun t ht hW => ⟨⟨r7, S8, rfl, h, by rw [ht]; exact hP, hD⟩, hS.F ht⟩) hS.2.2 d_R_end_13
  exact hH9 _ rfl hP hS
theorem d_R_of_0 : decode b_R_of 0 = .ok (.aload_n 0, 1) := by decide +kernel
theorem d_R_of_1 : decode b_R_of 1 = .ok (.iload_n 1, 1) := by decide +kernel
theorem d_R_of_2 : decode b_R_of 2 = .ok (.invokevirtual 158, 3) := by decide +kernel
theorem d_R_of_5 : decode b_R_of 5 = .ok (.ifCond .ne 12, 3) := by decide +kernel
theorem d_R_of_8 : decode b_R_of 8 = .ok (.iload_n 2, 1) := by decide +kernel
theorem d_R_of_9 : decode b_R_of 9 = .ok (.iconst 0, 1) := by decide +kernel
theorem d_R_of_10 : decode b_R_of 10 = .ok (.iconst 5, 1) := by decide +kernel
theorem d_R_of_11 : decode b_R_of 11 = .ok (.invokestatic 75, 3) := by decide +kernel
theorem d_R_of_14 : decode b_R_of 14 = .ok (.ifCond .ne 10, 3) := by decide +kernel
theorem d_R_of_17 : decode b_R_of 17 = .ok (.aload_n 0, 1) := by decide +kernel
theorem d_R_of_18 : decode b_R_of 18 = .ok (.iconst 1, 1) := by decide +kernel
theorem d_R_of_19 : decode b_R_of 19 = .ok (.invokevirtual 103, 3) := by decide +kernel
theorem d_R_of_22 : decode b_R_of 22 = .ok (.i2d, 1) := by decide +kernel
theorem d_R_of_23 : decode b_R_of 23 = .ok (.dreturn, 1) := by decide +kernel
theorem d_R_of_24 : decode b_R_of 24 = .ok (.iload_n 2, 1) := by decide +kernel
theorem d_R_of_25 : decode b_R_of 25 = .ok (.tableswitch 107 0 4 #[35, 46, 57, 68, 79], 35) := by decide +kernel
theorem d_R_of_60 : decode b_R_of 60 = .ok (.aload_n 0, 1) := by decide +kernel
theorem d_R_of_61 : decode b_R_of 61 = .ok (.aload_n 0, 1) := by decide +kernel
theorem d_R_of_62 : decode b_R_of 62 = .ok (.getfield 38, 3) := by decide +kernel
theorem d_R_of_65 : decode b_R_of 65 = .ok (.iload_n 1, 1) := by decide +kernel
theorem d_R_of_66 : decode b_R_of 66 = .ok (.laload, 1) := by decide +kernel
theorem d_R_of_67 : decode b_R_of 67 = .ok (.invokevirtual 198, 3) := by decide +kernel
theorem d_R_of_70 : decode b_R_of 70 = .ok (.dreturn, 1) := by decide +kernel
theorem d_R_of_71 : decode b_R_of 71 = .ok (.aload_n 0, 1) := by decide +kernel
theorem d_R_of_72 : decode b_R_of 72 = .ok (.aload_n 0, 1) := by decide +kernel
theorem d_R_of_73 : decode b_R_of 73 = .ok (.getfield 41, 3) := by decide +kernel
theorem d_R_of_76 : decode b_R_of 76 = .ok (.iload_n 1, 1) := by decide +kernel
theorem d_R_of_77 : decode b_R_of 77 = .ok (.laload, 1) := by decide +kernel
theorem d_R_of_78 : decode b_R_of 78 = .ok (.invokevirtual 198, 3) := by decide +kernel
theorem d_R_of_81 : decode b_R_of 81 = .ok (.dreturn, 1) := by decide +kernel
theorem d_R_of_82 : decode b_R_of 82 = .ok (.aload_n 0, 1) := by decide +kernel
theorem d_R_of_83 : decode b_R_of 83 = .ok (.aload_n 0, 1) := by decide +kernel
theorem d_R_of_84 : decode b_R_of 84 = .ok (.getfield 44, 3) := by decide +kernel
theorem d_R_of_87 : decode b_R_of 87 = .ok (.iload_n 1, 1) := by decide +kernel
theorem d_R_of_88 : decode b_R_of 88 = .ok (.laload, 1) := by decide +kernel
theorem d_R_of_89 : decode b_R_of 89 = .ok (.invokevirtual 198, 3) := by decide +kernel
theorem d_R_of_92 : decode b_R_of 92 = .ok (.dreturn, 1) := by decide +kernel
theorem d_R_of_93 : decode b_R_of 93 = .ok (.aload_n 0, 1) := by decide +kernel
theorem d_R_of_94 : decode b_R_of 94 = .ok (.aload_n 0, 1) := by decide +kernel
theorem d_R_of_95 : decode b_R_of 95 = .ok (.getfield 35, 3) := by decide +kernel
theorem d_R_of_98 : decode b_R_of 98 = .ok (.iload_n 1, 1) := by decide +kernel
theorem d_R_of_99 : decode b_R_of 99 = .ok (.laload, 1) := by decide +kernel
theorem d_R_of_100 : decode b_R_of 100 = .ok (.invokevirtual 198, 3) := by decide +kernel
theorem d_R_of_103 : decode b_R_of 103 = .ok (.dreturn, 1) := by decide +kernel
theorem d_R_of_104 : decode b_R_of 104 = .ok (.aload_n 0, 1) := by decide +kernel
theorem d_R_of_105 : decode b_R_of 105 = .ok (.aload_n 0, 1) := by decide +kernel
theorem d_R_of_106 : decode b_R_of 106 = .ok (.getfield 47, 3) := by decide +kernel
theorem d_R_of_109 : decode b_R_of 109 = .ok (.iload_n 1, 1) := by decide +kernel
theorem d_R_of_110 : decode b_R_of 110 = .ok (.laload, 1) := by decide +kernel
theorem d_R_of_111 : decode b_R_of 111 = .ok (.lconst 0, 1) := by decide +kernel
theorem d_R_of_112 : decode b_R_of 112 = .ok (.lcmp, 1) := by decide +kernel
theorem d_R_of_113 : decode b_R_of 113 = .ok (.ifCond .ge 9, 3) := by decide +kernel
theorem d_R_of_116 : decode b_R_of 116 = .ok (.ldc2_w 202, 3) := by decide +kernel
theorem d_R_of_119 : decode b_R_of 119 = .ok (.goto 9, 3) := by decide +kernel
theorem d_R_of_122 : decode b_R_of 122 = .ok (.aload_n 0, 1) := by decide +kernel
theorem d_R_of_123 : decode b_R_of 123 = .ok (.getfield 47, 3) := by decide +kernel
theorem d_R_of_126 : decode b_R_of 126 = .ok (.iload_n 1, 1) := by decide +kernel
theorem d_R_of_127 : decode b_R_of 127 = .ok (.laload, 1) := by decide +kernel
theorem d_R_of_128 : decode b_R_of 128 = .ok (.invokevirtual 198, 3) := by decide +kernel
theorem d_R_of_131 : decode b_R_of 131 = .ok (.dreturn, 1) := by decide +kernel
theorem d_R_of_132 : decode b_R_of 132 = .ok (.aload_n 0, 1) := by decide +kernel
theorem d_R_of_133 : decode b_R_of 133 = .ok (.aload_n 0, 1) := by decide +kernel
theorem d_R_of_134 : decode b_R_of 134 = .ok (.getfield 35, 3) := by decide +kernel
theorem d_R_of_137 : decode b_R_of 137 = .ok (.iload_n 1, 1) := by decide +kernel
theorem d_R_of_138 : decode b_R_of 138 = .ok (.laload, 1) := by decide +kernel
theorem d_R_of_139 : decode b_R_of 139 = .ok (.lconst 0, 1) := by decide +kernel
theorem d_R_of_140 : decode b_R_of 140 = .ok (.aload_n 0, 1) := by decide +kernel
theorem d_R_of_141 : decode b_R_of 141 = .ok (.getfield 32, 3) := by decide +kernel
theorem d_R_of_144 : decode b_R_of 144 = .ok (.iload_n 1, 1) := by decide +kernel
theorem d_R_of_145 : decode b_R_of 145 = .ok (.laload, 1) := by decide +kernel
theorem d_R_of_146 : decode b_R_of 146 = .ok (.invokestatic 133, 3) := by decide +kernel
theorem d_R_of_149 : decode b_R_of 149 = .ok (.invokevirtual 198, 3) := by decide +kernel
theorem d_R_of_152 : decode b_R_of 152 = .ok (.dreturn, 1) := by decide +kernel
theorem gl_R_198 : ∀ w ∈ wsV "TrainGuardModel" 198 "TrainGuardModel" y_R_shown (Cond.code y_R_shown b_R_shown 3 (some Jvm.ClassFile.FieldType.double) :: tG), w ∈ tG := by
  intro x hx
  simp only [wsV, List.cons_append, List.nil_append, List.mem_cons] at hx
  rcases hx with rfl | rfl | rfl | rfl | rfl | hx
  · exact wd_826
  · exact wd_828
  · exact ws_36
  · exact wd_5
  · exact wd_829
  · exact hx
def w_R_of_128 (S : SR) (ys0 : Int64) (Q : UInt64 → SR → Prop) : Prop := w_R_shown S ys0 (fun r20 S21 => Q r20 S21)
def w_R_of_17 (S : SR) (Q : UInt64 → SR → Prop) : Prop := w_R_fail S 1 (fun r17 S18 => ∀ f19 : UInt64, f19 = FP.i2d r17 → (Q f19 S18))
def w_R_of (S : SR) (x1 : Int32) (x2 : Int32) (Q : UInt64 → SR → Prop) : Prop := w_R_noTrain S x1 (fun r1 S2 => ((¬ r1 = 0) → (w_R_of_17 S2 Q)) ∧ ((r1 = 0) → (w_R_in S2 x2 0 5 (fun r3 S4 => ((¬ r3 = 0) → (((x2 = 0) → (vp_in x1 3 ∧ (w_R_shown S4 (S4.2 8 x1.toNatClampNeg) (fun r5 S6 => Q r5 S6)))) ∧ ((x2 = 1) → (vp_in x1 3 ∧ (w_R_shown S4 (S4.2 9 x1.toNatClampNeg) (fun r7 S8 => Q r7 S8)))) ∧ ((x2 = 2) → (vp_in x1 3 ∧ (w_R_shown S4 (S4.2 10 x1.toNatClampNeg) (fun r9 S10 => Q r9 S10)))) ∧ ((x2 = 3) → (vp_in x1 3 ∧ (w_R_shown S4 (S4.2 7 x1.toNatClampNeg) (fun r11 S12 => Q r11 S12)))) ∧ ((x2 = 4) → (vp_in x1 3 ∧ (((0 ≤ (lg_cmp (S4.2 11 x1.toNatClampNeg) 0)) → (vp_in x1 3 ∧ (w_R_of_128 S4 (S4.2 11 x1.toNatClampNeg) Q))) ∧ ((¬ 0 ≤ (lg_cmp (S4.2 11 x1.toNatClampNeg) 0)) → (w_R_of_128 S4 (-256 : Int64) Q))))) ∧ ((¬ x2 = 0 ∧ ¬ x2 = 1 ∧ ¬ x2 = 2 ∧ ¬ x2 = 3 ∧ ¬ x2 = 4) → (vp_in x1 3 ∧ (vp_in x1 3 ∧ (w_R_ways S4 (S4.2 7 x1.toNatClampNeg) 0 (S4.2 6 x1.toNatClampNeg) (fun r13 S14 => w_R_shown S14 r13 (fun r15 S16 => Q r15 S16)))))))) ∧ ((r3 = 0) → (w_R_of_17 S4 Q))))))
set_option maxRecDepth 100000 in
set_option maxHeartbeats 4000000 in
theorem c_R_of (l : Launch) (D : va_G) (ca : Nat → ClassId) (ad : Nat → Nat) (sz : Nat) (S : SR) (x1 : Int32) (x2 : Int32)  (Q : UInt64 → SR → Prop) (h : w_R_of S x1 x2 Q) : Met l y_R_of (Cond.code y_R_of b_R_of 3 (some Jvm.ClassFile.FieldType.double) :: tG) ({ frames := 2, cells := 0, slots := 0, locals := 43 } : Room) (xPc D ca (wR ca ad) S sz [.ref (ad 0), .int x1, .int x2]) (va_Qd Q (xAt D (wR ca ad) (va_A (wR ca ad S) sz)) (va_A (wR ca ad S) sz)) 0 0 (va_A (wR ca ad S) sz) := by
  refine xx_met (Qf := fun A => va_Qd Q (xAt D (wR ca ad) A) A) (by decide) (Nat.le_of_ble_eq_true rfl) ?_
  intro p e s m args below meth c A ls hx hb hr hw hown hlocks hml hK hN hA hP hD hS hl
  have hown : s.vm.findClass "TrainGuardModel" = some m.cls := hown
  have hl : lv_has ls 3 [(0, .ref (ad 0)), (1, .int x1), (2, .int x2)] := hl
  unfold w_R_of at h
  have bk_128 : ∀ (S : SR) (ys0 : Int64) (H : Heap) (locs : List Loc) , va_P D cls (wR ca ad S) H → va_D A (wR ca ad S) → va_S A s.heap H locs → ∀ (ls : Array Slot), lv_has ls 3 [] → w_R_of_128 S ys0 Q → W p l e ({ frames := 2, cells := 0, slots := 0, locals := 43 } : Room) s m args below meth c H locs 0 0 (MQ below ((fun A => va_Qd Q (xAt D (wR ca ad) A) A) A) args s 0 0 A) (F0 m 128 ls [.long ys0, .ref (ad 0)]) := by
    intro S ys0 H locs hP hD hS ls hl h
    unfold w_R_of_128 at h
    refine xx_calld (va_runV (As := [.long ys0]) (rest := []) ⟨hx, hb, hml, hown, hw⟩ (c_R_shown l D ca ad H.size S ys0 _ h) (cwV 1 hw (tG_g gl_R_198) rfl rfl rfl (by decide +kernel) ⟨Nat.le_of_ble_eq_true rfl, Nat.le_of_ble_eq_true rfl⟩) ⟨xPc.blind, va_recv hK hP rfl (q0 := 0) rfl, xPc.pre hK hN hP hD⟩ rfl rfl hl.1 rfl (lv_room (Nat.le_of_ble_eq_true rfl)) d_R_of_128 ⟨Nat.le_of_ble_eq_true rfl, Nat.le_of_ble_eq_true rfl⟩) hD hS hA (fun r20 S21 H locs h hP hD hS => ?_)
    exact W.dret (v := r20) hx hb hr (fun t ht hW => ⟨⟨r20, S21, rfl, h, by rw [ht]; exact hP, hD⟩, hS.F ht⟩) hS.2.2 d_R_of_131
  have bk_17 : ∀ (S : SR) (H : Heap) (locs : List Loc) , va_P D cls (wR ca ad S) H → va_D A (wR ca ad S) → va_S A s.heap H locs → ∀ (ls : Array Slot), lv_has ls 3 [(0, .ref (ad 0))] → w_R_of_17 S Q → W p l e ({ frames := 2, cells := 0, slots := 0, locals := 43 } : Room) s m args below meth c H locs 0 0 (MQ below ((fun A => va_Qd Q (xAt D (wR ca ad) A) A) A) args s 0 0 A) (F0 m 17 ls []) := by
    intro S H locs hP hD hS ls hl h
    unfold w_R_of_17 at h
    refine lv_aload_n hx hb d_R_of_17 rfl (lv_at hl 0 rfl) ?_
    refine lv_iconst (v := 1) hx hb d_R_of_18 (by decide) ?_
    refine xx_calli (va_runV (As := [.int 1]) (rest := []) ⟨hx, hb, hml, hown, hw⟩ (c_R_fail l D ca ad H.size S 1 _ h) (cwV 1 hw (tG_g gl_R_103) rfl rfl rfl (by decide +kernel) ⟨Nat.le_of_ble_eq_true rfl, Nat.le_of_ble_eq_true rfl⟩) ⟨xPc.blind, va_recv hK hP rfl (q0 := 0) rfl, xPc.pre hK hN hP hD⟩ rfl rfl hl.1 rfl (lv_room (Nat.le_of_ble_eq_true rfl)) d_R_of_19 ⟨Nat.le_of_ble_eq_true rfl, Nat.le_of_ble_eq_true rfl⟩) hD hS hA (fun r17 S18 H locs h hP hD hS => ?_)
    refine lv_i2d hx hb d_R_of_22 ?_
    refine lv_topd (fun f19 e_f19 => ?_)
    replace h := h f19 e_f19
    exact W.dret (v := f19) hx hb hr (fun t ht hW => ⟨⟨f19, S18, rfl, h, by rw [ht]; exact hP, hD⟩, hS.F ht⟩) hS.2.2 d_R_of_23
  have hH9 : ∀ H : Heap, H = s.heap → va_P D cls (wR ca ad S) H → va_S A s.heap H [] → W p l e ({ frames := 2, cells := 0, slots := 0, locals := 43 } : Room) s m args below meth c H [] 0 0 (MQ below ((fun A => va_Qd Q (xAt D (wR ca ad) A) A) A) args s 0 0 A) (F0 m 0 ls []) := by
    clear hP hS
    intro H hH hP hS
    obtain ⟨locs, hlo⟩ : ∃ z : List Loc, z = [] := ⟨_, rfl⟩
    rw [← hlo] at hS ⊢
    refine lv_aload_n hx hb d_R_of_0 rfl (lv_at hl 0 rfl) ?_
    refine lv_iload_n hx hb d_R_of_1 rfl (lv_at hl 1 rfl) ?_
    refine xx_calli (va_runV (As := [.int x1]) (rest := []) ⟨hx, hb, hml, hown, hw⟩ (c_R_noTrain l D ca ad H.size S x1 _ h) (cwV 1 hw (tG_g gl_R_158) rfl rfl rfl (by decide +kernel) ⟨Nat.le_of_ble_eq_true rfl, Nat.le_of_ble_eq_true rfl⟩) ⟨xPc.blind, va_recv hK hP rfl (q0 := 0) rfl, xPc.pre hK hN hP hD⟩ rfl rfl hl.1 rfl (lv_room (Nat.le_of_ble_eq_true rfl)) d_R_of_2 ⟨Nat.le_of_ble_eq_true rfl, Nat.le_of_ble_eq_true rfl⟩) hD hS hA (fun r1 S2 H locs h hP hD hS => ?_)
    refine lv_if_ne (tgt := 17) hx hb d_R_of_5 (by decide) (fun hc => ?_) (fun hc => ?_)
    · replace h := h.1 hc
      exact bk_17 S2 H locs hP hD hS ls (lv_sub hl [0] rfl) h
    · replace h := h.2 hc
      refine lv_iload_n hx hb d_R_of_8 rfl (lv_at hl 2 rfl) ?_
      refine lv_iconst (v := 0) hx hb d_R_of_9 (by decide) ?_
      refine lv_iconst (v := 5) hx hb d_R_of_10 (by decide) ?_
      refine xx_calli (va_runS (As := [.int x2, .int 0, .int 5]) (rest := []) ⟨hx, hb, hml, hown, hw⟩ (c_R_in l D ca ad H.size S2 x2 0 5 _ h) (cwS 3 hw (tG_g gl_R_75) rfl rfl rfl (by decide +kernel) ⟨Nat.le_of_ble_eq_true rfl, Nat.le_of_ble_eq_true rfl⟩) ⟨xPc.blind, xPc.pre hK hN hP hD⟩ rfl rfl hl.1 rfl (lv_room (Nat.le_of_ble_eq_true rfl)) d_R_of_11 ⟨Nat.le_of_ble_eq_true rfl, Nat.le_of_ble_eq_true rfl⟩) hD hS hA (fun r3 S4 H locs h hP hD hS => ?_)
      refine lv_if_ne (tgt := 24) hx hb d_R_of_14 (by decide) (fun hc => ?_) (fun hc => ?_)
      · replace h := h.1 hc
        refine lv_iload_n hx hb d_R_of_24 rfl (lv_at hl 2 rfl) ?_
        by_cases hc0 : x2 = 0
        · replace h := h.1 hc0
          refine lv_tableIn (off := 35) (tgt := 60) hx hb d_R_of_25 (by rw [hc0]; decide) (by rw [hc0]; decide) (by rw [hc0]; rfl) (by decide) ?_
          refine lv_aload_n hx hb d_R_of_60 rfl (lv_at hl 0 rfl) ?_
          refine lv_aload_n hx hb d_R_of_61 rfl (lv_at hl 0 rfl) ?_
          refine va_get (D := D) (ci := 4) (v := .ref (ad 10)) (C := Rc_R) (T := Fc_R) (N := 25) hx hb hw inc_R hown hK hP 0 rfl rfl 13 (by decide) (hw _ wd_604) (fun _ h9 => h9) rfl d_R_of_62 ?_
          refine lv_iload_n hx hb d_R_of_65 rfl (lv_at hl 1 rfl) ?_
          obtain ⟨hq, h⟩ := h
          refine va_lald (D := D) hx hb hK hP 10 1 rfl rfl hq d_R_of_66 ?_
          refine xx_calld (va_runV (As := [.long (S4.2 8 x1.toNatClampNeg)]) (rest := []) ⟨hx, hb, hml, hown, hw⟩ (c_R_shown l D ca ad H.size S4 (S4.2 8 x1.toNatClampNeg) _ h) (cwV 1 hw (tG_g gl_R_198) rfl rfl rfl (by decide +kernel) ⟨Nat.le_of_ble_eq_true rfl, Nat.le_of_ble_eq_true rfl⟩) ⟨xPc.blind, va_recv hK hP rfl (q0 := 0) rfl, xPc.pre hK hN hP hD⟩ rfl rfl hl.1 rfl (lv_room (Nat.le_of_ble_eq_true rfl)) d_R_of_67 ⟨Nat.le_of_ble_eq_true rfl, Nat.le_of_ble_eq_true rfl⟩) hD hS hA (fun r5 S6 H locs h hP hD hS => ?_)
          exact W.dret (v := r5) hx hb hr (fun t ht hW => ⟨⟨r5, S6, rfl, h, by rw [ht]; exact hP, hD⟩, hS.F ht⟩) hS.2.2 d_R_of_70
        by_cases hc1 : x2 = 1
        · replace h := h.2.1 hc1
          refine lv_tableIn (off := 46) (tgt := 71) hx hb d_R_of_25 (by rw [hc1]; decide) (by rw [hc1]; decide) (by rw [hc1]; rfl) (by decide) ?_
          refine lv_aload_n hx hb d_R_of_71 rfl (lv_at hl 0 rfl) ?_
          refine lv_aload_n hx hb d_R_of_72 rfl (lv_at hl 0 rfl) ?_
          refine va_get (D := D) (ci := 4) (v := .ref (ad 11)) (C := Rc_R) (T := Fc_R) (N := 25) hx hb hw inc_R hown hK hP 0 rfl rfl 14 (by decide) (hw _ wd_605) (fun _ h9 => h9) rfl d_R_of_73 ?_
          refine lv_iload_n hx hb d_R_of_76 rfl (lv_at hl 1 rfl) ?_
          obtain ⟨hq, h⟩ := h
          refine va_lald (D := D) hx hb hK hP 11 1 rfl rfl hq d_R_of_77 ?_
          refine xx_calld (va_runV (As := [.long (S4.2 9 x1.toNatClampNeg)]) (rest := []) ⟨hx, hb, hml, hown, hw⟩ (c_R_shown l D ca ad H.size S4 (S4.2 9 x1.toNatClampNeg) _ h) (cwV 1 hw (tG_g gl_R_198) rfl rfl rfl (by decide +kernel) ⟨Nat.le_of_ble_eq_true rfl, Nat.le_of_ble_eq_true rfl⟩) ⟨xPc.blind, va_recv hK hP rfl (q0 := 0) rfl, xPc.pre hK hN hP hD⟩ rfl rfl hl.1 rfl (lv_room (Nat.le_of_ble_eq_true rfl)) d_R_of_78 ⟨Nat.le_of_ble_eq_true rfl, Nat.le_of_ble_eq_true rfl⟩) hD hS hA (fun r7 S8 H locs h hP hD hS => ?_)
          exact W.dret (v := r7) hx hb hr (fun t ht hW => ⟨⟨r7, S8, rfl, h, by rw [ht]; exact hP, hD⟩, hS.F ht⟩) hS.2.2 d_R_of_81
        by_cases hc2 : x2 = 2
        · replace h := h.2.2.1 hc2
          refine lv_tableIn (off := 57) (tgt := 82) hx hb d_R_of_25 (by rw [hc2]; decide) (by rw [hc2]; decide) (by rw [hc2]; rfl) (by decide) ?_
          refine lv_aload_n hx hb d_R_of_82 rfl (lv_at hl 0 rfl) ?_
          refine lv_aload_n hx hb d_R_of_83 rfl (lv_at hl 0 rfl) ?_
          refine va_get (D := D) (ci := 4) (v := .ref (ad 12)) (C := Rc_R) (T := Fc_R) (N := 25) hx hb hw inc_R hown hK hP 0 rfl rfl 15 (by decide) (hw _ wd_606) (fun _ h9 => h9) rfl d_R_of_84 ?_
          refine lv_iload_n hx hb d_R_of_87 rfl (lv_at hl 1 rfl) ?_
          obtain ⟨hq, h⟩ := h
          refine va_lald (D := D) hx hb hK hP 12 1 rfl rfl hq d_R_of_88 ?_
          refine xx_calld (va_runV (As := [.long (S4.2 10 x1.toNatClampNeg)]) (rest := []) ⟨hx, hb, hml, hown, hw⟩ (c_R_shown l D ca ad H.size S4 (S4.2 10 x1.toNatClampNeg) _ h) (cwV 1 hw (tG_g gl_R_198) rfl rfl rfl (by decide +kernel) ⟨Nat.le_of_ble_eq_true rfl, Nat.le_of_ble_eq_true rfl⟩) ⟨xPc.blind, va_recv hK hP rfl (q0 := 0) rfl, xPc.pre hK hN hP hD⟩ rfl rfl hl.1 rfl (lv_room (Nat.le_of_ble_eq_true rfl)) d_R_of_89 ⟨Nat.le_of_ble_eq_true rfl, Nat.le_of_ble_eq_true rfl⟩) hD hS hA (fun r9 S10 H locs h hP hD hS => ?_)
          exact W.dret (v := r9) hx hb hr (fun t ht hW => ⟨⟨r9, S10, rfl, h, by rw [ht]; exact hP, hD⟩, hS.F ht⟩) hS.2.2 d_R_of_92
        by_cases hc3 : x2 = 3
        · replace h := h.2.2.2.1 hc3
          refine lv_tableIn (off := 68) (tgt := 93) hx hb d_R_of_25 (by rw [hc3]; decide) (by rw [hc3]; decide) (by rw [hc3]; rfl) (by decide) ?_
          refine lv_aload_n hx hb d_R_of_93 rfl (lv_at hl 0 rfl) ?_
          refine lv_aload_n hx hb d_R_of_94 rfl (lv_at hl 0 rfl) ?_
          refine va_get (D := D) (ci := 4) (v := .ref (ad 9)) (C := Rc_R) (T := Fc_R) (N := 25) hx hb hw inc_R hown hK hP 0 rfl rfl 12 (by decide) (hw _ wd_603) (fun _ h9 => h9) rfl d_R_of_95 ?_
          refine lv_iload_n hx hb d_R_of_98 rfl (lv_at hl 1 rfl) ?_
          obtain ⟨hq, h⟩ := h
          refine va_lald (D := D) hx hb hK hP 9 1 rfl rfl hq d_R_of_99 ?_
          refine xx_calld (va_runV (As := [.long (S4.2 7 x1.toNatClampNeg)]) (rest := []) ⟨hx, hb, hml, hown, hw⟩ (c_R_shown l D ca ad H.size S4 (S4.2 7 x1.toNatClampNeg) _ h) (cwV 1 hw (tG_g gl_R_198) rfl rfl rfl (by decide +kernel) ⟨Nat.le_of_ble_eq_true rfl, Nat.le_of_ble_eq_true rfl⟩) ⟨xPc.blind, va_recv hK hP rfl (q0 := 0) rfl, xPc.pre hK hN hP hD⟩ rfl rfl hl.1 rfl (lv_room (Nat.le_of_ble_eq_true rfl)) d_R_of_100 ⟨Nat.le_of_ble_eq_true rfl, Nat.le_of_ble_eq_true rfl⟩) hD hS hA (fun r11 S12 H locs h hP hD hS => ?_)
          exact W.dret (v := r11) hx hb hr (fun t ht hW => ⟨⟨r11, S12, rfl, h, by rw [ht]; exact hP, hD⟩, hS.F ht⟩) hS.2.2 d_R_of_103
        by_cases hc4 : x2 = 4
        · replace h := h.2.2.2.2.1 hc4
          refine lv_tableIn (off := 79) (tgt := 104) hx hb d_R_of_25 (by rw [hc4]; decide) (by rw [hc4]; decide) (by rw [hc4]; rfl) (by decide) ?_
          refine lv_aload_n hx hb d_R_of_104 rfl (lv_at hl 0 rfl) ?_
          refine lv_aload_n hx hb d_R_of_105 rfl (lv_at hl 0 rfl) ?_
          refine va_get (D := D) (ci := 4) (v := .ref (ad 13)) (C := Rc_R) (T := Fc_R) (N := 25) hx hb hw inc_R hown hK hP 0 rfl rfl 16 (by decide) (hw _ wd_607) (fun _ h9 => h9) rfl d_R_of_106 ?_
          refine lv_iload_n hx hb d_R_of_109 rfl (lv_at hl 1 rfl) ?_
          obtain ⟨hq, h⟩ := h
          refine va_lald (D := D) hx hb hK hP 13 1 rfl rfl hq d_R_of_110 ?_
          refine lv_lconst (v := 0) hx hb d_R_of_111 (by decide) ?_
          refine W.lcmp hx hb d_R_of_112 ?_
          refine lv_if_ge (tgt := 122) hx hb d_R_of_113 (by decide) (fun hc => ?_) (fun hc => ?_)
          · replace h := h.1 hc
            refine lv_aload_n hx hb d_R_of_122 rfl (lv_at hl 0 rfl) ?_
            refine va_get (D := D) (ci := 4) (v := .ref (ad 13)) (C := Rc_R) (T := Fc_R) (N := 25) hx hb hw inc_R hown hK hP 0 rfl rfl 16 (by decide) (hw _ wd_607) (fun _ h9 => h9) rfl d_R_of_123 ?_
            refine lv_iload_n hx hb d_R_of_126 rfl (lv_at hl 1 rfl) ?_
            obtain ⟨hq, h⟩ := h
            refine va_lald (D := D) hx hb hK hP 13 1 rfl rfl hq d_R_of_127 ?_
            exact bk_128 S4 (S4.2 11 x1.toNatClampNeg) H locs hP hD hS ls (lv_sub hl [] rfl) h
          · replace h := h.2 hc
            refine lv_ldc2 hx hb hown (hw _ wd_830) d_R_of_116 ?_
            refine lv_goto (tgt := 128) hx hb d_R_of_119 (by decide) ?_
            exact bk_128 S4 (-256 : Int64) H locs hP hD hS ls (lv_sub hl [] rfl) h
        replace h := h.2.2.2.2.2 ⟨hc0, hc1, hc2, hc3, hc4⟩
        have hz0 := lv_neT (a := 0) hc0 rfl
        have hz1 := lv_neT (a := 1) hc1 rfl
        have hz2 := lv_neT (a := 2) hc2 rfl
        have hz3 := lv_neT (a := 3) hc3 rfl
        have hz4 := lv_neT (a := 4) hc4 rfl
        refine lv_tableOut (tgt := 132) hx hb d_R_of_25 (by omega) (by decide) ?_
        refine lv_aload_n hx hb d_R_of_132 rfl (lv_at hl 0 rfl) ?_
        refine lv_aload_n hx hb d_R_of_133 rfl (lv_at hl 0 rfl) ?_
        refine va_get (D := D) (ci := 4) (v := .ref (ad 9)) (C := Rc_R) (T := Fc_R) (N := 25) hx hb hw inc_R hown hK hP 0 rfl rfl 12 (by decide) (hw _ wd_603) (fun _ h9 => h9) rfl d_R_of_134 ?_
        refine lv_iload_n hx hb d_R_of_137 rfl (lv_at hl 1 rfl) ?_
        obtain ⟨hq, h⟩ := h
        refine va_lald (D := D) hx hb hK hP 9 1 rfl rfl hq d_R_of_138 ?_
        refine lv_lconst (v := 0) hx hb d_R_of_139 (by decide) ?_
        refine lv_aload_n hx hb d_R_of_140 rfl (lv_at hl 0 rfl) ?_
        refine va_get (D := D) (ci := 4) (v := .ref (ad 8)) (C := Rc_R) (T := Fc_R) (N := 25) hx hb hw inc_R hown hK hP 0 rfl rfl 11 (by decide) (hw _ wd_602) (fun _ h9 => h9) rfl d_R_of_141 ?_
        refine lv_iload_n hx hb d_R_of_144 rfl (lv_at hl 1 rfl) ?_
        obtain ⟨hq, h⟩ := h
        refine va_lald (D := D) hx hb hK hP 8 1 rfl rfl hq d_R_of_145 ?_
        refine xx_calll (va_runS (As := [.long (S4.2 7 x1.toNatClampNeg), .long 0, .long (S4.2 6 x1.toNatClampNeg)]) (rest := [.ref (ad 0)]) ⟨hx, hb, hml, hown, hw⟩ (c_R_ways l D ca ad H.size S4 (S4.2 7 x1.toNatClampNeg) 0 (S4.2 6 x1.toNatClampNeg) _ h) (cwS 3 hw (tG_g gl_R_133) rfl rfl rfl (by decide +kernel) ⟨Nat.le_of_ble_eq_true rfl, Nat.le_of_ble_eq_true rfl⟩) ⟨xPc.blind, xPc.pre hK hN hP hD⟩ rfl rfl hl.1 rfl (lv_room (Nat.le_of_ble_eq_true rfl)) d_R_of_146 ⟨Nat.le_of_ble_eq_true rfl, Nat.le_of_ble_eq_true rfl⟩) hD hS hA (fun r13 S14 H locs h hP hD hS => ?_)
        refine xx_calld (va_runV (As := [.long r13]) (rest := []) ⟨hx, hb, hml, hown, hw⟩ (c_R_shown l D ca ad H.size S14 r13 _ h) (cwV 1 hw (tG_g gl_R_198) rfl rfl rfl (by decide +kernel) ⟨Nat.le_of_ble_eq_true rfl, Nat.le_of_ble_eq_true rfl⟩) ⟨xPc.blind, va_recv hK hP rfl (q0 := 0) rfl, xPc.pre hK hN hP hD⟩ rfl rfl hl.1 rfl (lv_room (Nat.le_of_ble_eq_true rfl)) d_R_of_149 ⟨Nat.le_of_ble_eq_true rfl, Nat.le_of_ble_eq_true rfl⟩) hD hS hA (fun r15 S16 H locs h hP hD hS => ?_)
        exact W.dret (v := r15) hx hb hr (fun t ht hW => ⟨⟨r15, S16, rfl, h, by rw [ht]; exact hP, hD⟩, hS.F ht⟩) hS.2.2 d_R_of_152
      · replace h := h.2 hc
        exact bk_17 S4 H locs hP hD hS ls (lv_sub hl [0] rfl) h
  exact hH9 _ rfl hP hS
theorem d_R_limit_0 : decode b_R_limit 0 = .ok (.aload_n 0, 1) := by decide +kernel
theorem d_R_limit_1 : decode b_R_limit 1 = .ok (.getfield 79, 3) := by decide +kernel
theorem d_R_limit_4 : decode b_R_limit 4 = .ok (.ifCond .eq 21, 3) := by decide +kernel
theorem d_R_limit_7 : decode b_R_limit 7 = .ok (.dload_n 1, 1) := by decide +kernel
theorem d_R_limit_8 : decode b_R_limit 8 = .ok (.dconst 0, 1) := by decide +kernel
theorem d_R_limit_9 : decode b_R_limit 9 = .ok (.dcmp .l, 1) := by decide +kernel
theorem d_R_limit_10 : decode b_R_limit 10 = .ok (.ifCond .lt 15, 3) := by decide +kernel
theorem d_R_limit_13 : decode b_R_limit 13 = .ok (.dload_n 1, 1) := by decide +kernel
theorem d_R_limit_14 : decode b_R_limit 14 = .ok (.invokestatic 107, 3) := by decide +kernel
theorem d_R_limit_17 : decode b_R_limit 17 = .ok (.aload_n 0, 1) := by decide +kernel
theorem d_R_limit_18 : decode b_R_limit 18 = .ok (.invokevirtual 139, 3) := by decide +kernel
theorem d_R_limit_21 : decode b_R_limit 21 = .ok (.lcmp, 1) := by decide +kernel
theorem d_R_limit_22 : decode b_R_limit 22 = .ok (.ifCond .le 10, 3) := by decide +kernel
theorem d_R_limit_25 : decode b_R_limit 25 = .ok (.aload_n 0, 1) := by decide +kernel
theorem d_R_limit_26 : decode b_R_limit 26 = .ok (.iconst 1, 1) := by decide +kernel
theorem d_R_limit_27 : decode b_R_limit 27 = .ok (.invokevirtual 103, 3) := by decide +kernel
theorem d_R_limit_30 : decode b_R_limit 30 = .ok (.i2d, 1) := by decide +kernel
theorem d_R_limit_31 : decode b_R_limit 31 = .ok (.dreturn, 1) := by decide +kernel
theorem d_R_limit_32 : decode b_R_limit 32 = .ok (.aload_n 0, 1) := by decide +kernel
theorem d_R_limit_33 : decode b_R_limit 33 = .ok (.aload_n 0, 1) := by decide +kernel
theorem d_R_limit_34 : decode b_R_limit 34 = .ok (.dload_n 1, 1) := by decide +kernel
theorem d_R_limit_35 : decode b_R_limit 35 = .ok (.invokestatic 107, 3) := by decide +kernel
theorem d_R_limit_38 : decode b_R_limit 38 = .ok (.invokevirtual 147, 3) := by decide +kernel
theorem d_R_limit_41 : decode b_R_limit 41 = .ok (.invokevirtual 198, 3) := by decide +kernel
theorem d_R_limit_44 : decode b_R_limit 44 = .ok (.dreturn, 1) := by decide +kernel
def w_R_limit_25 (S : SR) (Q : UInt64 → SR → Prop) : Prop := w_R_fail S 1 (fun r11 S12 => ∀ f13 : UInt64, f13 = FP.i2d r11 → (Q f13 S12))
def w_R_limit (S : SR) (x1 : UInt64) (Q : UInt64 → SR → Prop) : Prop := (((S.1 1 0) = 0) → (w_R_limit_25 S Q)) ∧ ((¬ (S.1 1 0) = 0) → ((((Op.cmpValue (FP.dcmp x1 FP.dconst0) .l) < 0) → (w_R_limit_25 S Q)) ∧ ((¬ (Op.cmpValue (FP.dcmp x1 FP.dconst0) .l) < 0) → (w_R_whole S x1 (fun r1 S2 => w_R_lineEnd S2 (fun r3 S4 => (((lg_cmp r1 r3) ≤ 0) → (w_R_whole S4 x1 (fun r5 S6 => w_R_limitAt S6 r5 (fun r7 S8 => w_R_shown S8 r7 (fun r9 S10 => Q r9 S10))))) ∧ ((¬ (lg_cmp r1 r3) ≤ 0) → (w_R_limit_25 S4 Q))))))))
set_option maxRecDepth 100000 in
set_option maxHeartbeats 4000000 in
theorem c_R_limit (l : Launch) (D : va_G) (ca : Nat → ClassId) (ad : Nat → Nat) (sz : Nat) (S : SR) (x1 : UInt64)  (Q : UInt64 → SR → Prop) (h : w_R_limit S x1 Q) : Met l y_R_limit (Cond.code y_R_limit b_R_limit 3 (some Jvm.ClassFile.FieldType.double) :: tG) ({ frames := 2, cells := 0, slots := 0, locals := 48 } : Room) (xPc D ca (wR ca ad) S sz [.ref (ad 0), .double x1]) (va_Qd Q (xAt D (wR ca ad) (va_A (wR ca ad S) sz)) (va_A (wR ca ad S) sz)) 0 0 (va_A (wR ca ad S) sz) := by
  refine xx_met (Qf := fun A => va_Qd Q (xAt D (wR ca ad) A) A) (by decide) (Nat.le_of_ble_eq_true rfl) ?_
  intro p e s m args below meth c A ls hx hb hr hw hown hlocks hml hK hN hA hP hD hS hl
  have hown : s.vm.findClass "TrainGuardModel" = some m.cls := hown
  have hl : lv_has ls 3 [(0, .ref (ad 0)), (1, .double x1)] := hl
  unfold w_R_limit at h
  have bk_25 : ∀ (S : SR) (H : Heap) (locs : List Loc) , va_P D cls (wR ca ad S) H → va_D A (wR ca ad S) → va_S A s.heap H locs → ∀ (ls : Array Slot), lv_has ls 3 [(0, .ref (ad 0))] → w_R_limit_25 S Q → W p l e ({ frames := 2, cells := 0, slots := 0, locals := 48 } : Room) s m args below meth c H locs 0 0 (MQ below ((fun A => va_Qd Q (xAt D (wR ca ad) A) A) A) args s 0 0 A) (F0 m 25 ls []) := by
    intro S H locs hP hD hS ls hl h
    unfold w_R_limit_25 at h
    refine lv_aload_n hx hb d_R_limit_25 rfl (lv_at hl 0 rfl) ?_
    refine lv_iconst (v := 1) hx hb d_R_limit_26 (by decide) ?_
    refine xx_calli (va_runV (As := [.int 1]) (rest := []) ⟨hx, hb, hml, hown, hw⟩ (c_R_fail l D ca ad H.size S 1 _ h) (cwV 1 hw (tG_g gl_R_103) rfl rfl rfl (by decide +kernel) ⟨Nat.le_of_ble_eq_true rfl, Nat.le_of_ble_eq_true rfl⟩) ⟨xPc.blind, va_recv hK hP rfl (q0 := 0) rfl, xPc.pre hK hN hP hD⟩ rfl rfl hl.1 rfl (lv_room (Nat.le_of_ble_eq_true rfl)) d_R_limit_27 ⟨Nat.le_of_ble_eq_true rfl, Nat.le_of_ble_eq_true rfl⟩) hD hS hA (fun r11 S12 H locs h hP hD hS => ?_)
    refine lv_i2d hx hb d_R_limit_30 ?_
    refine lv_topd (fun f13 e_f13 => ?_)
    replace h := h f13 e_f13
    exact W.dret (v := f13) hx hb hr (fun t ht hW => ⟨⟨f13, S12, rfl, h, by rw [ht]; exact hP, hD⟩, hS.F ht⟩) hS.2.2 d_R_limit_31
  have hH9 : ∀ H : Heap, H = s.heap → va_P D cls (wR ca ad S) H → va_S A s.heap H [] → W p l e ({ frames := 2, cells := 0, slots := 0, locals := 48 } : Room) s m args below meth c H [] 0 0 (MQ below ((fun A => va_Qd Q (xAt D (wR ca ad) A) A) A) args s 0 0 A) (F0 m 0 ls []) := by
    clear hP hS
    intro H hH hP hS
    obtain ⟨locs, hlo⟩ : ∃ z : List Loc, z = [] := ⟨_, rfl⟩
    rw [← hlo] at hS ⊢
    refine lv_aload_n hx hb d_R_limit_0 rfl (lv_at hl 0 rfl) ?_
    refine va_get (D := D) (ci := 4) (v := .int (S.1 1 0)) (C := Rc_R) (T := Fc_R) (N := 25) hx hb hw inc_R hown hK hP 0 rfl rfl 1 (by decide) (hw _ wd_592) (fun _ h9 => h9) rfl d_R_limit_1 ?_
    refine lv_if_eq (tgt := 25) hx hb d_R_limit_4 (by decide) (fun hc => ?_) (fun hc => ?_)
    · replace h := h.1 hc
      exact bk_25 S H locs hP hD hS ls (lv_sub hl [0] rfl) h
    · replace h := h.2 hc
      refine lv_dload_n hx hb d_R_limit_7 rfl (lv_at hl 1 rfl) ?_
      refine lv_dconst0 hx hb d_R_limit_8 ?_
      refine lv_dcmp hx hb d_R_limit_9 ?_
      refine lv_if_lt (tgt := 25) hx hb d_R_limit_10 (by decide) (fun hc => ?_) (fun hc => ?_)
      · replace h := h.1 hc
        exact bk_25 S H locs hP hD hS ls (lv_sub hl [0] rfl) h
      · replace h := h.2 hc
        refine lv_dload_n hx hb d_R_limit_13 rfl (lv_at hl 1 rfl) ?_
        refine xx_calll (va_runS (As := [.double x1]) (rest := []) ⟨hx, hb, hml, hown, hw⟩ (c_R_whole l D ca ad H.size S x1 _ h) (cwS 1 hw (tG_g gl_R_107) rfl rfl rfl (by decide +kernel) ⟨Nat.le_of_ble_eq_true rfl, Nat.le_of_ble_eq_true rfl⟩) ⟨xPc.blind, xPc.pre hK hN hP hD⟩ rfl rfl hl.1 rfl (lv_room (Nat.le_of_ble_eq_true rfl)) d_R_limit_14 ⟨Nat.le_of_ble_eq_true rfl, Nat.le_of_ble_eq_true rfl⟩) hD hS hA (fun r1 S2 H locs h hP hD hS => ?_)
        refine lv_aload_n hx hb d_R_limit_17 rfl (lv_at hl 0 rfl) ?_
        refine xx_calll (va_runV (As := []) (rest := [.long r1]) ⟨hx, hb, hml, hown, hw⟩ (c_R_lineEnd l D ca ad H.size S2 _ h) (cwV 0 hw (tG_g gl_R_139) rfl rfl rfl (by decide +kernel) ⟨Nat.le_of_ble_eq_true rfl, Nat.le_of_ble_eq_true rfl⟩) ⟨xPc.blind, va_recv hK hP rfl (q0 := 0) rfl, xPc.pre hK hN hP hD⟩ rfl rfl hl.1 rfl (lv_room (Nat.le_of_ble_eq_true rfl)) d_R_limit_18 ⟨Nat.le_of_ble_eq_true rfl, Nat.le_of_ble_eq_true rfl⟩) hD hS hA (fun r3 S4 H locs h hP hD hS => ?_)
        refine W.lcmp hx hb d_R_limit_21 ?_
        refine lv_if_le (tgt := 32) hx hb d_R_limit_22 (by decide) (fun hc => ?_) (fun hc => ?_)
        · replace h := h.1 hc
          refine lv_aload_n hx hb d_R_limit_32 rfl (lv_at hl 0 rfl) ?_
          refine lv_aload_n hx hb d_R_limit_33 rfl (lv_at hl 0 rfl) ?_
          refine lv_dload_n hx hb d_R_limit_34 rfl (lv_at hl 1 rfl) ?_
          refine xx_calll (va_runS (As := [.double x1]) (rest := [.ref (ad 0), .ref (ad 0)]) ⟨hx, hb, hml, hown, hw⟩ (c_R_whole l D ca ad H.size S4 x1 _ h) (cwS 1 hw (tG_g gl_R_107) rfl rfl rfl (by decide +kernel) ⟨Nat.le_of_ble_eq_true rfl, Nat.le_of_ble_eq_true rfl⟩) ⟨xPc.blind, xPc.pre hK hN hP hD⟩ rfl rfl hl.1 rfl (lv_room (Nat.le_of_ble_eq_true rfl)) d_R_limit_35 ⟨Nat.le_of_ble_eq_true rfl, Nat.le_of_ble_eq_true rfl⟩) hD hS hA (fun r5 S6 H locs h hP hD hS => ?_)
          refine xx_calll (va_runV (As := [.long r5]) (rest := [.ref (ad 0)]) ⟨hx, hb, hml, hown, hw⟩ (c_R_limitAt l D ca ad H.size S6 r5 _ h) (cwV 1 hw (tG_g gl_R_147) rfl rfl rfl (by decide +kernel) ⟨Nat.le_of_ble_eq_true rfl, Nat.le_of_ble_eq_true rfl⟩) ⟨xPc.blind, va_recv hK hP rfl (q0 := 0) rfl, xPc.pre hK hN hP hD⟩ rfl rfl hl.1 rfl (lv_room (Nat.le_of_ble_eq_true rfl)) d_R_limit_38 ⟨Nat.le_of_ble_eq_true rfl, Nat.le_of_ble_eq_true rfl⟩) hD hS hA (fun r7 S8 H locs h hP hD hS => ?_)
          refine xx_calld (va_runV (As := [.long r7]) (rest := []) ⟨hx, hb, hml, hown, hw⟩ (c_R_shown l D ca ad H.size S8 r7 _ h) (cwV 1 hw (tG_g gl_R_198) rfl rfl rfl (by decide +kernel) ⟨Nat.le_of_ble_eq_true rfl, Nat.le_of_ble_eq_true rfl⟩) ⟨xPc.blind, va_recv hK hP rfl (q0 := 0) rfl, xPc.pre hK hN hP hD⟩ rfl rfl hl.1 rfl (lv_room (Nat.le_of_ble_eq_true rfl)) d_R_limit_41 ⟨Nat.le_of_ble_eq_true rfl, Nat.le_of_ble_eq_true rfl⟩) hD hS hA (fun r9 S10 H locs h hP hD hS => ?_)
          exact W.dret (v := r9) hx hb hr (fun t ht hW => ⟨⟨r9, S10, rfl, h, by rw [ht]; exact hP, hD⟩, hS.F ht⟩) hS.2.2 d_R_limit_44
        · replace h := h.2 hc
          exact bk_25 S4 H locs hP hD hS ls (lv_sub hl [0] rfl) h
  exact hH9 _ rfl hP hS
theorem d_R_mode_0 : decode b_R_mode 0 = .ok (.aload_n 0, 1) := by decide +kernel
theorem d_R_mode_1 : decode b_R_mode 1 = .ok (.iload_n 1, 1) := by decide +kernel
theorem d_R_mode_2 : decode b_R_mode 2 = .ok (.invokevirtual 158, 3) := by decide +kernel
theorem d_R_mode_5 : decode b_R_mode 5 = .ok (.ifCond .eq 11, 3) := by decide +kernel
theorem d_R_mode_8 : decode b_R_mode 8 = .ok (.aload_n 0, 1) := by decide +kernel
theorem d_R_mode_9 : decode b_R_mode 9 = .ok (.iconst 1, 1) := by decide +kernel
theorem d_R_mode_10 : decode b_R_mode 10 = .ok (.invokevirtual 103, 3) := by decide +kernel
theorem d_R_mode_13 : decode b_R_mode 13 = .ok (.goto 13, 3) := by decide +kernel
theorem d_R_mode_16 : decode b_R_mode 16 = .ok (.aload_n 0, 1) := by decide +kernel
theorem d_R_mode_17 : decode b_R_mode 17 = .ok (.aload_n 0, 1) := by decide +kernel
theorem d_R_mode_18 : decode b_R_mode 18 = .ok (.getfield 50, 3) := by decide +kernel
theorem d_R_mode_21 : decode b_R_mode 21 = .ok (.iload_n 1, 1) := by decide +kernel
theorem d_R_mode_22 : decode b_R_mode 22 = .ok (.iaload, 1) := by decide +kernel
theorem d_R_mode_23 : decode b_R_mode 23 = .ok (.invokevirtual 111, 3) := by decide +kernel
theorem d_R_mode_26 : decode b_R_mode 26 = .ok (.ireturn, 1) := by decide +kernel
def w_R_mode (S : SR) (x1 : Int32) (Q : Int32 → SR → Prop) : Prop := w_R_noTrain S x1 (fun r1 S2 => ((r1 = 0) → (vp_in x1 3 ∧ (w_R_answer S2 (S2.1 8 x1.toNatClampNeg) (fun r3 S4 => Q r3 S4)))) ∧ ((¬ r1 = 0) → (w_R_fail S2 1 (fun r5 S6 => Q r5 S6))))
set_option maxRecDepth 100000 in
set_option maxHeartbeats 4000000 in
theorem c_R_mode (l : Launch) (D : va_G) (ca : Nat → ClassId) (ad : Nat → Nat) (sz : Nat) (S : SR) (x1 : Int32)  (Q : Int32 → SR → Prop) (h : w_R_mode S x1 Q) : Met l y_R_mode (Cond.code y_R_mode b_R_mode 2 (some Jvm.ClassFile.FieldType.int) :: tG) ({ frames := 2, cells := 0, slots := 0, locals := 43 } : Room) (xPc D ca (wR ca ad) S sz [.ref (ad 0), .int x1]) (va_Qi Q (xAt D (wR ca ad) (va_A (wR ca ad S) sz)) (va_A (wR ca ad S) sz)) 0 0 (va_A (wR ca ad S) sz) := by
  refine xx_met (Qf := fun A => va_Qi Q (xAt D (wR ca ad) A) A) (by decide) (Nat.le_of_ble_eq_true rfl) ?_
  intro p e s m args below meth c A ls hx hb hr hw hown hlocks hml hK hN hA hP hD hS hl
  have hown : s.vm.findClass "TrainGuardModel" = some m.cls := hown
  have hl : lv_has ls 2 [(0, .ref (ad 0)), (1, .int x1)] := hl
  unfold w_R_mode at h
  have hH9 : ∀ H : Heap, H = s.heap → va_P D cls (wR ca ad S) H → va_S A s.heap H [] → W p l e ({ frames := 2, cells := 0, slots := 0, locals := 43 } : Room) s m args below meth c H [] 0 0 (MQ below ((fun A => va_Qi Q (xAt D (wR ca ad) A) A) A) args s 0 0 A) (F0 m 0 ls []) := by
    clear hP hS
    intro H hH hP hS
    obtain ⟨locs, hlo⟩ : ∃ z : List Loc, z = [] := ⟨_, rfl⟩
    rw [← hlo] at hS ⊢
    refine lv_aload_n hx hb d_R_mode_0 rfl (lv_at hl 0 rfl) ?_
    refine lv_iload_n hx hb d_R_mode_1 rfl (lv_at hl 1 rfl) ?_
    refine xx_calli (va_runV (As := [.int x1]) (rest := []) ⟨hx, hb, hml, hown, hw⟩ (c_R_noTrain l D ca ad H.size S x1 _ h) (cwV 1 hw (tG_g gl_R_158) rfl rfl rfl (by decide +kernel) ⟨Nat.le_of_ble_eq_true rfl, Nat.le_of_ble_eq_true rfl⟩) ⟨xPc.blind, va_recv hK hP rfl (q0 := 0) rfl, xPc.pre hK hN hP hD⟩ rfl rfl hl.1 rfl (lv_room (Nat.le_of_ble_eq_true rfl)) d_R_mode_2 ⟨Nat.le_of_ble_eq_true rfl, Nat.le_of_ble_eq_true rfl⟩) hD hS hA (fun r1 S2 H locs h hP hD hS => ?_)
    refine lv_if_eq (tgt := 16) hx hb d_R_mode_5 (by decide) (fun hc => ?_) (fun hc => ?_)
    · replace h := h.1 hc
      refine lv_aload_n hx hb d_R_mode_16 rfl (lv_at hl 0 rfl) ?_
      refine lv_aload_n hx hb d_R_mode_17 rfl (lv_at hl 0 rfl) ?_
      refine va_get (D := D) (ci := 4) (v := .ref (ad 14)) (C := Rc_R) (T := Fc_R) (N := 25) hx hb hw inc_R hown hK hP 0 rfl rfl 17 (by decide) (hw _ wd_608) (fun _ h9 => h9) rfl d_R_mode_18 ?_
      refine lv_iload_n hx hb d_R_mode_21 rfl (lv_at hl 1 rfl) ?_
      obtain ⟨hq, h⟩ := h
      refine va_iald (D := D) hx hb hK hP 14 0 rfl rfl hq d_R_mode_22 ?_
      refine xx_calli (va_runV (As := [.int (S2.1 8 x1.toNatClampNeg)]) (rest := []) ⟨hx, hb, hml, hown, hw⟩ (c_R_answer l D ca ad H.size S2 (S2.1 8 x1.toNatClampNeg) _ h) (cwV 1 hw (tG_g gl_R_111) rfl rfl rfl (by decide +kernel) ⟨Nat.le_of_ble_eq_true rfl, Nat.le_of_ble_eq_true rfl⟩) ⟨xPc.blind, va_recv hK hP rfl (q0 := 0) rfl, xPc.pre hK hN hP hD⟩ rfl rfl hl.1 rfl (lv_room (Nat.le_of_ble_eq_true rfl)) d_R_mode_23 ⟨Nat.le_of_ble_eq_true rfl, Nat.le_of_ble_eq_true rfl⟩) hD hS hA (fun r3 S4 H locs h hP hD hS => ?_)
      exact W.iret (v := r3) hx hb hr (fun t ht hW => ⟨⟨r3, S4, rfl, h, by rw [ht]; exact hP, hD⟩, hS.F ht⟩) hS.2.2 d_R_mode_26
    · replace h := h.2 hc
      refine lv_aload_n hx hb d_R_mode_8 rfl (lv_at hl 0 rfl) ?_
      refine lv_iconst (v := 1) hx hb d_R_mode_9 (by decide) ?_
      refine xx_calli (va_runV (As := [.int 1]) (rest := []) ⟨hx, hb, hml, hown, hw⟩ (c_R_fail l D ca ad H.size S2 1 _ h) (cwV 1 hw (tG_g gl_R_103) rfl rfl rfl (by decide +kernel) ⟨Nat.le_of_ble_eq_true rfl, Nat.le_of_ble_eq_true rfl⟩) ⟨xPc.blind, va_recv hK hP rfl (q0 := 0) rfl, xPc.pre hK hN hP hD⟩ rfl rfl hl.1 rfl (lv_room (Nat.le_of_ble_eq_true rfl)) d_R_mode_10 ⟨Nat.le_of_ble_eq_true rfl, Nat.le_of_ble_eq_true rfl⟩) hD hS hA (fun r5 S6 H locs h hP hD hS => ?_)
      refine lv_goto (tgt := 26) hx hb d_R_mode_13 (by decide) ?_
      exact W.iret (v := r5) hx hb hr (fun t ht hW => ⟨⟨r5, S6, rfl, h, by rw [ht]; exact hP, hD⟩, hS.F ht⟩) hS.2.2 d_R_mode_26
  exact hH9 _ rfl hP hS
theorem d_R_holds_0 : decode b_R_holds 0 = .ok (.aload_n 0, 1) := by decide +kernel
theorem d_R_holds_1 : decode b_R_holds 1 = .ok (.iload_n 1, 1) := by decide +kernel
theorem d_R_holds_2 : decode b_R_holds 2 = .ok (.invokevirtual 116, 3) := by decide +kernel
theorem d_R_holds_5 : decode b_R_holds 5 = .ok (.ifCond .ne 12, 3) := by decide +kernel
theorem d_R_holds_8 : decode b_R_holds 8 = .ok (.iload_n 2, 1) := by decide +kernel
theorem d_R_holds_9 : decode b_R_holds 9 = .ok (.iconst 0, 1) := by decide +kernel
theorem d_R_holds_10 : decode b_R_holds 10 = .ok (.iconst 1, 1) := by decide +kernel
theorem d_R_holds_11 : decode b_R_holds 11 = .ok (.invokestatic 75, 3) := by decide +kernel
theorem d_R_holds_14 : decode b_R_holds 14 = .ok (.ifCond .ne 9, 3) := by decide +kernel
theorem d_R_holds_17 : decode b_R_holds 17 = .ok (.aload_n 0, 1) := by decide +kernel
theorem d_R_holds_18 : decode b_R_holds 18 = .ok (.iconst 1, 1) := by decide +kernel
theorem d_R_holds_19 : decode b_R_holds 19 = .ok (.invokevirtual 103, 3) := by decide +kernel
theorem d_R_holds_22 : decode b_R_holds 22 = .ok (.ireturn, 1) := by decide +kernel
theorem d_R_holds_23 : decode b_R_holds 23 = .ok (.iconst (-1), 1) := by decide +kernel
theorem d_R_holds_24 : decode b_R_holds 24 = .ok (.istore_n 3, 1) := by decide +kernel
theorem d_R_holds_25 : decode b_R_holds 25 = .ok (.aload_n 0, 1) := by decide +kernel
theorem d_R_holds_26 : decode b_R_holds 26 = .ok (.getfield 72, 3) := by decide +kernel
theorem d_R_holds_29 : decode b_R_holds 29 = .ok (.iconst 1, 1) := by decide +kernel
theorem d_R_holds_30 : decode b_R_holds 30 = .ok (.isub, 1) := by decide +kernel
theorem d_R_holds_31 : decode b_R_holds 31 = .ok (.istore 4, 2) := by decide +kernel
theorem d_R_holds_33 : decode b_R_holds 33 = .ok (.iload 4, 2) := by decide +kernel
theorem d_R_holds_35 : decode b_R_holds 35 = .ok (.ifCond .lt 22, 3) := by decide +kernel
theorem d_R_holds_38 : decode b_R_holds 38 = .ok (.aload_n 0, 1) := by decide +kernel
theorem d_R_holds_39 : decode b_R_holds 39 = .ok (.iload 4, 2) := by decide +kernel
theorem d_R_holds_41 : decode b_R_holds 41 = .ok (.iload_n 1, 1) := by decide +kernel
theorem d_R_holds_42 : decode b_R_holds 42 = .ok (.invokevirtual 89, 3) := by decide +kernel
theorem d_R_holds_45 : decode b_R_holds 45 = .ok (.ifCond .eq 6, 3) := by decide +kernel
theorem d_R_holds_48 : decode b_R_holds 48 = .ok (.iload 4, 2) := by decide +kernel
theorem d_R_holds_50 : decode b_R_holds 50 = .ok (.istore_n 3, 1) := by decide +kernel
theorem d_R_holds_51 : decode b_R_holds 51 = .ok (.iinc 4 (-1), 3) := by decide +kernel
theorem d_R_holds_54 : decode b_R_holds 54 = .ok (.goto (-21), 3) := by decide +kernel
theorem d_R_holds_57 : decode b_R_holds 57 = .ok (.aload_n 0, 1) := by decide +kernel
theorem d_R_holds_58 : decode b_R_holds 58 = .ok (.iload_n 2, 1) := by decide +kernel
theorem d_R_holds_59 : decode b_R_holds 59 = .ok (.ifCond .ne 12, 3) := by decide +kernel
theorem d_R_holds_62 : decode b_R_holds 62 = .ok (.aload_n 0, 1) := by decide +kernel
theorem d_R_holds_63 : decode b_R_holds 63 = .ok (.getfield 16, 3) := by decide +kernel
theorem d_R_holds_66 : decode b_R_holds 66 = .ok (.iload_n 1, 1) := by decide +kernel
theorem d_R_holds_67 : decode b_R_holds 67 = .ok (.iaload, 1) := by decide +kernel
theorem d_R_holds_68 : decode b_R_holds 68 = .ok (.goto 4, 3) := by decide +kernel
theorem d_R_holds_71 : decode b_R_holds 71 = .ok (.iload_n 3, 1) := by decide +kernel
theorem d_R_holds_72 : decode b_R_holds 72 = .ok (.invokevirtual 111, 3) := by decide +kernel
theorem d_R_holds_75 : decode b_R_holds 75 = .ok (.ireturn, 1) := by decide +kernel
def w_R_holds_72 (S : SR) (ys0 : Int32) (Q : Int32 → SR → Prop) : Prop := w_R_answer S ys0 (fun r12 S13 => Q r12 S13)
def w_R_holds_51 (K33 : SR → Int32 → Int32 → Int32 → Int32 → Prop) (S : SR) (y1 : Int32) (y2 : Int32) (y3 : Int32) (y4 : Int32) (Q : Int32 → SR → Prop) : Prop := K33 S y1 y2 y3 (y4 + (-1))
def w_R_holds_33 : Nat → SR → Int32 → Int32 → Int32 → Int32 → (Int32 → SR → Prop) → Prop
  | 0 => fun _ _ _ _ _ _ => False
  | n + 1 => fun S y1 y2 y3 y4 Q => (((y4 < 0) → (((¬ y2 = 0) → (w_R_holds_72 S y3 Q)) ∧ ((y2 = 0) → (vp_in y1 10 ∧ (w_R_holds_72 S (S.1 7 y1.toNatClampNeg) Q))))) ∧ ((¬ y4 < 0) → (w_R_isIn S y4 y1 (fun r10 S11 => ((r10 = 0) → (w_R_holds_51 (fun S9 z0 z1 z2 z3 => w_R_holds_33 n S9 z0 z1 z2 z3 Q) S11 y1 y2 y3 y4 Q)) ∧ ((¬ r10 = 0) → (w_R_holds_51 (fun S9 z0 z1 z2 z3 => w_R_holds_33 n S9 z0 z1 z2 z3 Q) S11 y1 y2 y4 y4 Q))))))
def w_R_holds (S : SR) (x1 : Int32) (x2 : Int32) (Q : Int32 → SR → Prop) : Prop := w_R_noSection S x1 (fun r1 S2 => ((¬ r1 = 0) → (w_R_fail S2 1 (fun r3 S4 => Q r3 S4))) ∧ ((r1 = 0) → (w_R_in S2 x2 0 1 (fun r5 S6 => ((¬ r5 = 0) → (∀ a7 : Int32, a7 = (S6.1 3 0) - 1 → (∃ n : Nat, w_R_holds_33 n S6 x1 x2 (-1) a7 Q))) ∧ ((r5 = 0) → (w_R_fail S6 1 (fun r8 S9 => Q r8 S9)))))))
set_option maxRecDepth 100000 in
set_option maxHeartbeats 4000000 in
theorem c_R_holds (l : Launch) (D : va_G) (ca : Nat → ClassId) (ad : Nat → Nat) (sz : Nat) (S : SR) (x1 : Int32) (x2 : Int32)  (Q : Int32 → SR → Prop) (h : w_R_holds S x1 x2 Q) : Met l y_R_holds (Cond.code y_R_holds b_R_holds 5 (some Jvm.ClassFile.FieldType.int) :: tG) ({ frames := 2, cells := 0, slots := 0, locals := 43 } : Room) (xPc D ca (wR ca ad) S sz [.ref (ad 0), .int x1, .int x2]) (va_Qi Q (xAt D (wR ca ad) (va_A (wR ca ad S) sz)) (va_A (wR ca ad S) sz)) 0 0 (va_A (wR ca ad S) sz) := by
  refine xx_met (Qf := fun A => va_Qi Q (xAt D (wR ca ad) A) A) (by decide) (Nat.le_of_ble_eq_true rfl) ?_
  intro p e s m args below meth c A ls hx hb hr hw hown hlocks hml hK hN hA hP hD hS hl
  have hown : s.vm.findClass "TrainGuardModel" = some m.cls := hown
  have hl : lv_has ls 5 [(0, .ref (ad 0)), (1, .int x1), (2, .int x2)] := hl
  unfold w_R_holds at h
  have bk_72 : ∀ (S : SR) (ys0 : Int32) (H : Heap) (locs : List Loc) , va_P D cls (wR ca ad S) H → va_D A (wR ca ad S) → va_S A s.heap H locs → ∀ (ls : Array Slot), lv_has ls 5 [] → w_R_holds_72 S ys0 Q → W p l e ({ frames := 2, cells := 0, slots := 0, locals := 43 } : Room) s m args below meth c H locs 0 0 (MQ below ((fun A => va_Qi Q (xAt D (wR ca ad) A) A) A) args s 0 0 A) (F0 m 72 ls [.int ys0, .ref (ad 0)]) := by
    intro S ys0 H locs hP hD hS ls hl h
    unfold w_R_holds_72 at h
    refine xx_calli (va_runV (As := [.int ys0]) (rest := []) ⟨hx, hb, hml, hown, hw⟩ (c_R_answer l D ca ad H.size S ys0 _ h) (cwV 1 hw (tG_g gl_R_111) rfl rfl rfl (by decide +kernel) ⟨Nat.le_of_ble_eq_true rfl, Nat.le_of_ble_eq_true rfl⟩) ⟨xPc.blind, va_recv hK hP rfl (q0 := 0) rfl, xPc.pre hK hN hP hD⟩ rfl rfl hl.1 rfl (lv_room (Nat.le_of_ble_eq_true rfl)) d_R_holds_72 ⟨Nat.le_of_ble_eq_true rfl, Nat.le_of_ble_eq_true rfl⟩) hD hS hA (fun r12 S13 H locs h hP hD hS => ?_)
    exact W.iret (v := r12) hx hb hr (fun t ht hW => ⟨⟨r12, S13, rfl, h, by rw [ht]; exact hP, hD⟩, hS.F ht⟩) hS.2.2 d_R_holds_75
  have bk_51 : ∀ (K33 : SR → Int32 → Int32 → Int32 → Int32 → Prop) (hK33 : ∀ (S : SR) (y1 : Int32) (y2 : Int32) (y3 : Int32) (y4 : Int32) (H : Heap) (locs : List Loc) , va_P D cls (wR ca ad S) H → va_D A (wR ca ad S) → va_S A s.heap H locs → ∀ (ls : Array Slot), lv_has ls 5 [(0, .ref (ad 0)), (1, .int y1), (2, .int y2), (3, .int y3), (4, .int y4)] → K33 S y1 y2 y3 y4 → W p l e ({ frames := 2, cells := 0, slots := 0, locals := 43 } : Room) s m args below meth c H locs 0 0 (MQ below ((fun A => va_Qi Q (xAt D (wR ca ad) A) A) A) args s 0 0 A) (F0 m 33 ls [])) (S : SR) (y1 : Int32) (y2 : Int32) (y3 : Int32) (y4 : Int32) (H : Heap) (locs : List Loc) , va_P D cls (wR ca ad S) H → va_D A (wR ca ad S) → va_S A s.heap H locs → ∀ (ls : Array Slot), lv_has ls 5 [(0, .ref (ad 0)), (1, .int y1), (2, .int y2), (3, .int y3), (4, .int y4)] → w_R_holds_51 K33 S y1 y2 y3 y4 Q → W p l e ({ frames := 2, cells := 0, slots := 0, locals := 43 } : Room) s m args below meth c H locs 0 0 (MQ below ((fun A => va_Qi Q (xAt D (wR ca ad) A) A) A) args s 0 0 A) (F0 m 51 ls []) := by
    intro K33 hK33 S y1 y2 y3 y4 H locs hP hD hS ls hl h
    unfold w_R_holds_51 at h
    refine lv_iinc (v := (y4 + (-1))) (lv' := [(4, .int (y4 + (-1))), (0, .ref (ad 0)), (1, .int y1), (2, .int y2), (3, .int y3)]) hx hb d_R_holds_51 hl (k := 4) rfl rfl (by decide) rfl (fun ls hl => ?_)
    refine lv_goto (tgt := 33) hx hb d_R_holds_54 (by decide) ?_
    exact hK33 S y1 y2 y3 (y4 + (-1)) H locs hP hD hS ls (lv_sub hl [1, 2, 3, 4, 0] rfl) h
  have bk_33 : ∀ (n9 : Nat) (S : SR) (y1 : Int32) (y2 : Int32) (y3 : Int32) (y4 : Int32) (H : Heap) (locs : List Loc) , va_P D cls (wR ca ad S) H → va_D A (wR ca ad S) → va_S A s.heap H locs → ∀ (ls : Array Slot), lv_has ls 5 [(0, .ref (ad 0)), (1, .int y1), (2, .int y2), (3, .int y3), (4, .int y4)] → w_R_holds_33 n9 S y1 y2 y3 y4 Q → W p l e ({ frames := 2, cells := 0, slots := 0, locals := 43 } : Room) s m args below meth c H locs 0 0 (MQ below ((fun A => va_Qi Q (xAt D (wR ca ad) A) A) A) args s 0 0 A) (F0 m 33 ls []) := by
    intro n9
    induction n9 with
    | zero => intro S y1 y2 y3 y4 H locs hP hD hS ls hl h; exact absurd h id
    | succ n9 hK33 =>
      intro S y1 y2 y3 y4 H locs hP hD hS ls hl h
      replace h : ((y4 < 0) → (((¬ y2 = 0) → (w_R_holds_72 S y3 Q)) ∧ ((y2 = 0) → (vp_in y1 10 ∧ (w_R_holds_72 S (S.1 7 y1.toNatClampNeg) Q))))) ∧ ((¬ y4 < 0) → (w_R_isIn S y4 y1 (fun r10 S11 => ((r10 = 0) → (w_R_holds_51 (fun S9 z0 z1 z2 z3 => w_R_holds_33 n9 S9 z0 z1 z2 z3 Q) S11 y1 y2 y3 y4 Q)) ∧ ((¬ r10 = 0) → (w_R_holds_51 (fun S9 z0 z1 z2 z3 => w_R_holds_33 n9 S9 z0 z1 z2 z3 Q) S11 y1 y2 y4 y4 Q))))) := h
      refine lv_iload hx hb d_R_holds_33 (lv_at hl 4 rfl) ?_
      refine lv_if_lt (tgt := 57) hx hb d_R_holds_35 (by decide) (fun hc => ?_) (fun hc => ?_)
      · replace h := h.1 hc
        refine lv_aload_n hx hb d_R_holds_57 rfl (lv_at hl 0 rfl) ?_
        refine lv_iload_n hx hb d_R_holds_58 rfl (lv_at hl 2 rfl) ?_
        refine lv_if_ne (tgt := 71) hx hb d_R_holds_59 (by decide) (fun hc => ?_) (fun hc => ?_)
        · replace h := h.1 hc
          refine lv_iload_n hx hb d_R_holds_71 rfl (lv_at hl 3 rfl) ?_
          exact bk_72 S y3 H locs hP hD hS ls (lv_sub hl [] rfl) h
        · replace h := h.2 hc
          refine lv_aload_n hx hb d_R_holds_62 rfl (lv_at hl 0 rfl) ?_
          refine va_get (D := D) (ci := 4) (v := .ref (ad 3)) (C := Rc_R) (T := Fc_R) (N := 25) hx hb hw inc_R hown hK hP 0 rfl rfl 4 (by decide) (hw _ wd_595) (fun _ h9 => h9) rfl d_R_holds_63 ?_
          refine lv_iload_n hx hb d_R_holds_66 rfl (lv_at hl 1 rfl) ?_
          obtain ⟨hq, h⟩ := h
          refine va_iald (D := D) hx hb hK hP 3 0 rfl rfl hq d_R_holds_67 ?_
          refine lv_goto (tgt := 72) hx hb d_R_holds_68 (by decide) ?_
          exact bk_72 S (S.1 7 y1.toNatClampNeg) H locs hP hD hS ls (lv_sub hl [] rfl) h
      · replace h := h.2 hc
        refine lv_aload_n hx hb d_R_holds_38 rfl (lv_at hl 0 rfl) ?_
        refine lv_iload hx hb d_R_holds_39 (lv_at hl 4 rfl) ?_
        refine lv_iload_n hx hb d_R_holds_41 rfl (lv_at hl 1 rfl) ?_
        refine xx_calli (va_runV (As := [.int y4, .int y1]) (rest := []) ⟨hx, hb, hml, hown, hw⟩ (c_R_isIn l D ca ad H.size S y4 y1 _ h) (cwV 2 hw (tG_g gl_R_89) rfl rfl rfl (by decide +kernel) ⟨Nat.le_of_ble_eq_true rfl, Nat.le_of_ble_eq_true rfl⟩) ⟨xPc.blind, va_recv hK hP rfl (q0 := 0) rfl, xPc.pre hK hN hP hD⟩ rfl rfl hl.1 rfl (lv_room (Nat.le_of_ble_eq_true rfl)) d_R_holds_42 ⟨Nat.le_of_ble_eq_true rfl, Nat.le_of_ble_eq_true rfl⟩) hD hS hA (fun r10 S11 H locs h hP hD hS => ?_)
        refine lv_if_eq (tgt := 51) hx hb d_R_holds_45 (by decide) (fun hc => ?_) (fun hc => ?_)
        · replace h := h.1 hc
          exact bk_51 (fun S9 z0 z1 z2 z3 => w_R_holds_33 n9 S9 z0 z1 z2 z3 Q) hK33 S11 y1 y2 y3 y4 H locs hP hD hS ls (lv_sub hl [0, 1, 2, 3, 4] rfl) h
        · replace h := h.2 hc
          refine lv_iload hx hb d_R_holds_48 (lv_at hl 4 rfl) ?_
          refine lv_istore_n (lv' := [(3, .int y4), (0, .ref (ad 0)), (1, .int y1), (2, .int y2), (4, .int y4)]) hx hb d_R_holds_50 rfl hl (by decide) rfl (fun ls hl => ?_)
          exact bk_51 (fun S9 z0 z1 z2 z3 => w_R_holds_33 n9 S9 z0 z1 z2 z3 Q) hK33 S11 y1 y2 y4 y4 H locs hP hD hS ls (lv_sub hl [1, 2, 3, 0, 4] rfl) h
  have hH9 : ∀ H : Heap, H = s.heap → va_P D cls (wR ca ad S) H → va_S A s.heap H [] → W p l e ({ frames := 2, cells := 0, slots := 0, locals := 43 } : Room) s m args below meth c H [] 0 0 (MQ below ((fun A => va_Qi Q (xAt D (wR ca ad) A) A) A) args s 0 0 A) (F0 m 0 ls []) := by
    clear hP hS
    intro H hH hP hS
    obtain ⟨locs, hlo⟩ : ∃ z : List Loc, z = [] := ⟨_, rfl⟩
    rw [← hlo] at hS ⊢
    refine lv_aload_n hx hb d_R_holds_0 rfl (lv_at hl 0 rfl) ?_
    refine lv_iload_n hx hb d_R_holds_1 rfl (lv_at hl 1 rfl) ?_
    refine xx_calli (va_runV (As := [.int x1]) (rest := []) ⟨hx, hb, hml, hown, hw⟩ (c_R_noSection l D ca ad H.size S x1 _ h) (cwV 1 hw (tG_g gl_R_116) rfl rfl rfl (by decide +kernel) ⟨Nat.le_of_ble_eq_true rfl, Nat.le_of_ble_eq_true rfl⟩) ⟨xPc.blind, va_recv hK hP rfl (q0 := 0) rfl, xPc.pre hK hN hP hD⟩ rfl rfl hl.1 rfl (lv_room (Nat.le_of_ble_eq_true rfl)) d_R_holds_2 ⟨Nat.le_of_ble_eq_true rfl, Nat.le_of_ble_eq_true rfl⟩) hD hS hA (fun r1 S2 H locs h hP hD hS => ?_)
    refine lv_if_ne (tgt := 17) hx hb d_R_holds_5 (by decide) (fun hc => ?_) (fun hc => ?_)
    · replace h := h.1 hc
      refine lv_aload_n hx hb d_R_holds_17 rfl (lv_at hl 0 rfl) ?_
      refine lv_iconst (v := 1) hx hb d_R_holds_18 (by decide) ?_
      refine xx_calli (va_runV (As := [.int 1]) (rest := []) ⟨hx, hb, hml, hown, hw⟩ (c_R_fail l D ca ad H.size S2 1 _ h) (cwV 1 hw (tG_g gl_R_103) rfl rfl rfl (by decide +kernel) ⟨Nat.le_of_ble_eq_true rfl, Nat.le_of_ble_eq_true rfl⟩) ⟨xPc.blind, va_recv hK hP rfl (q0 := 0) rfl, xPc.pre hK hN hP hD⟩ rfl rfl hl.1 rfl (lv_room (Nat.le_of_ble_eq_true rfl)) d_R_holds_19 ⟨Nat.le_of_ble_eq_true rfl, Nat.le_of_ble_eq_true rfl⟩) hD hS hA (fun r3 S4 H locs h hP hD hS => ?_)
      exact W.iret (v := r3) hx hb hr (fun t ht hW => ⟨⟨r3, S4, rfl, h, by rw [ht]; exact hP, hD⟩, hS.F ht⟩) hS.2.2 d_R_holds_22
    · replace h := h.2 hc
      refine lv_iload_n hx hb d_R_holds_8 rfl (lv_at hl 2 rfl) ?_
      refine lv_iconst (v := 0) hx hb d_R_holds_9 (by decide) ?_
      refine lv_iconst (v := 1) hx hb d_R_holds_10 (by decide) ?_
      refine xx_calli (va_runS (As := [.int x2, .int 0, .int 1]) (rest := []) ⟨hx, hb, hml, hown, hw⟩ (c_R_in l D ca ad H.size S2 x2 0 1 _ h) (cwS 3 hw (tG_g gl_R_75) rfl rfl rfl (by decide +kernel) ⟨Nat.le_of_ble_eq_true rfl, Nat.le_of_ble_eq_true rfl⟩) ⟨xPc.blind, xPc.pre hK hN hP hD⟩ rfl rfl hl.1 rfl (lv_room (Nat.le_of_ble_eq_true rfl)) d_R_holds_11 ⟨Nat.le_of_ble_eq_true rfl, Nat.le_of_ble_eq_true rfl⟩) hD hS hA (fun r5 S6 H locs h hP hD hS => ?_)
      refine lv_if_ne (tgt := 23) hx hb d_R_holds_14 (by decide) (fun hc => ?_) (fun hc => ?_)
      · replace h := h.1 hc
        refine lv_iconst (v := (-1)) hx hb d_R_holds_23 (by decide) ?_
        refine lv_istore_n (lv' := [(3, .int (-1)), (0, .ref (ad 0)), (1, .int x1), (2, .int x2)]) hx hb d_R_holds_24 rfl hl (by decide) rfl (fun ls hl => ?_)
        refine lv_aload_n hx hb d_R_holds_25 rfl (lv_at hl 1 rfl) ?_
        refine va_get (D := D) (ci := 4) (v := .int (S6.1 3 0)) (C := Rc_R) (T := Fc_R) (N := 25) hx hb hw inc_R hown hK hP 0 rfl rfl 9 (by decide) (hw _ wd_600) (fun _ h9 => h9) rfl d_R_holds_26 ?_
        refine lv_iconst (v := 1) hx hb d_R_holds_29 (by decide) ?_
        refine lv_isub hx hb d_R_holds_30 ?_
        refine lv_topi (fun a7 e_a7 => ?_)
        replace h := h a7 e_a7
        refine lv_istore (lv' := [(4, .int a7), (3, .int (-1)), (0, .ref (ad 0)), (1, .int x1), (2, .int x2)]) hx hb d_R_holds_31 hl (by decide) rfl (fun ls hl => ?_)
        obtain ⟨n9, h⟩ := h
        exact bk_33 n9 S6 x1 x2 (-1) a7 H locs hP hD hS ls (lv_sub hl [2, 3, 4, 1, 0] rfl) h
      · replace h := h.2 hc
        refine lv_aload_n hx hb d_R_holds_17 rfl (lv_at hl 0 rfl) ?_
        refine lv_iconst (v := 1) hx hb d_R_holds_18 (by decide) ?_
        refine xx_calli (va_runV (As := [.int 1]) (rest := []) ⟨hx, hb, hml, hown, hw⟩ (c_R_fail l D ca ad H.size S6 1 _ h) (cwV 1 hw (tG_g gl_R_103) rfl rfl rfl (by decide +kernel) ⟨Nat.le_of_ble_eq_true rfl, Nat.le_of_ble_eq_true rfl⟩) ⟨xPc.blind, va_recv hK hP rfl (q0 := 0) rfl, xPc.pre hK hN hP hD⟩ rfl rfl hl.1 rfl (lv_room (Nat.le_of_ble_eq_true rfl)) d_R_holds_19 ⟨Nat.le_of_ble_eq_true rfl, Nat.le_of_ble_eq_true rfl⟩) hD hS hA (fun r8 S9 H locs h hP hD hS => ?_)
        exact W.iret (v := r8) hx hb hr (fun t ht hW => ⟨⟨r8, S9, rfl, h, by rw [ht]; exact hP, hD⟩, hS.F ht⟩) hS.2.2 d_R_holds_22
  exact hH9 _ rfl hP hS
theorem d_R_count_0 : decode b_R_count 0 = .ok (.iload_n 1, 1) := by decide +kernel
theorem d_R_count_1 : decode b_R_count 1 = .ok (.tableswitch 93 0 5 #[39, 48, 57, 66, 75, 84], 39) := by decide +kernel
theorem d_R_count_40 : decode b_R_count 40 = .ok (.aload_n 0, 1) := by decide +kernel
theorem d_R_count_41 : decode b_R_count 41 = .ok (.aload_n 0, 1) := by decide +kernel
theorem d_R_count_42 : decode b_R_count 42 = .ok (.getfield 79, 3) := by decide +kernel
theorem d_R_count_45 : decode b_R_count 45 = .ok (.invokevirtual 111, 3) := by decide +kernel
theorem d_R_count_48 : decode b_R_count 48 = .ok (.ireturn, 1) := by decide +kernel
theorem d_R_count_49 : decode b_R_count 49 = .ok (.aload_n 0, 1) := by decide +kernel
theorem d_R_count_50 : decode b_R_count 50 = .ok (.aload_n 0, 1) := by decide +kernel
theorem d_R_count_51 : decode b_R_count 51 = .ok (.getfield 86, 3) := by decide +kernel
theorem d_R_count_54 : decode b_R_count 54 = .ok (.invokevirtual 111, 3) := by decide +kernel
theorem d_R_count_57 : decode b_R_count 57 = .ok (.ireturn, 1) := by decide +kernel
theorem d_R_count_58 : decode b_R_count 58 = .ok (.aload_n 0, 1) := by decide +kernel
theorem d_R_count_59 : decode b_R_count 59 = .ok (.aload_n 0, 1) := by decide +kernel
theorem d_R_count_60 : decode b_R_count 60 = .ok (.getfield 72, 3) := by decide +kernel
theorem d_R_count_63 : decode b_R_count 63 = .ok (.invokevirtual 111, 3) := by decide +kernel
theorem d_R_count_66 : decode b_R_count 66 = .ok (.ireturn, 1) := by decide +kernel
theorem d_R_count_67 : decode b_R_count 67 = .ok (.aload_n 0, 1) := by decide +kernel
theorem d_R_count_68 : decode b_R_count 68 = .ok (.aload_n 0, 1) := by decide +kernel
theorem d_R_count_69 : decode b_R_count 69 = .ok (.getfield 171, 3) := by decide +kernel
theorem d_R_count_72 : decode b_R_count 72 = .ok (.invokevirtual 111, 3) := by decide +kernel
theorem d_R_count_75 : decode b_R_count 75 = .ok (.ireturn, 1) := by decide +kernel
theorem d_R_count_76 : decode b_R_count 76 = .ok (.aload_n 0, 1) := by decide +kernel
theorem d_R_count_77 : decode b_R_count 77 = .ok (.aload_n 0, 1) := by decide +kernel
theorem d_R_count_78 : decode b_R_count 78 = .ok (.getfield 179, 3) := by decide +kernel
theorem d_R_count_81 : decode b_R_count 81 = .ok (.invokevirtual 111, 3) := by decide +kernel
theorem d_R_count_84 : decode b_R_count 84 = .ok (.ireturn, 1) := by decide +kernel
theorem d_R_count_85 : decode b_R_count 85 = .ok (.aload_n 0, 1) := by decide +kernel
theorem d_R_count_86 : decode b_R_count 86 = .ok (.aload_n 0, 1) := by decide +kernel
theorem d_R_count_87 : decode b_R_count 87 = .ok (.getfield 190, 3) := by decide +kernel
theorem d_R_count_90 : decode b_R_count 90 = .ok (.invokevirtual 111, 3) := by decide +kernel
theorem d_R_count_93 : decode b_R_count 93 = .ok (.ireturn, 1) := by decide +kernel
theorem d_R_count_94 : decode b_R_count 94 = .ok (.aload_n 0, 1) := by decide +kernel
theorem d_R_count_95 : decode b_R_count 95 = .ok (.iconst (-1), 1) := by decide +kernel
theorem d_R_count_96 : decode b_R_count 96 = .ok (.invokevirtual 111, 3) := by decide +kernel
theorem d_R_count_99 : decode b_R_count 99 = .ok (.ireturn, 1) := by decide +kernel
def w_R_count (S : SR) (x1 : Int32) (Q : Int32 → SR → Prop) : Prop := ((x1 = 0) → (w_R_answer S (S.1 1 0) (fun r1 S2 => Q r1 S2))) ∧ ((x1 = 1) → (w_R_answer S (S.1 2 0) (fun r3 S4 => Q r3 S4))) ∧ ((x1 = 2) → (w_R_answer S (S.1 3 0) (fun r5 S6 => Q r5 S6))) ∧ ((x1 = 3) → (w_R_answer S (S.1 4 0) (fun r7 S8 => Q r7 S8))) ∧ ((x1 = 4) → (w_R_answer S (S.1 5 0) (fun r9 S10 => Q r9 S10))) ∧ ((x1 = 5) → (w_R_answer S (S.1 6 0) (fun r11 S12 => Q r11 S12))) ∧ ((¬ x1 = 0 ∧ ¬ x1 = 1 ∧ ¬ x1 = 2 ∧ ¬ x1 = 3 ∧ ¬ x1 = 4 ∧ ¬ x1 = 5) → (w_R_answer S (-1) (fun r13 S14 => Q r13 S14)))
set_option maxRecDepth 100000 in
set_option maxHeartbeats 4000000 in
theorem c_R_count (l : Launch) (D : va_G) (ca : Nat → ClassId) (ad : Nat → Nat) (sz : Nat) (S : SR) (x1 : Int32)  (Q : Int32 → SR → Prop) (h : w_R_count S x1 Q) : Met l y_R_count (Cond.code y_R_count b_R_count 2 (some Jvm.ClassFile.FieldType.int) :: tG) ({ frames := 1, cells := 0, slots := 0, locals := 21 } : Room) (xPc D ca (wR ca ad) S sz [.ref (ad 0), .int x1]) (va_Qi Q (xAt D (wR ca ad) (va_A (wR ca ad S) sz)) (va_A (wR ca ad S) sz)) 0 0 (va_A (wR ca ad S) sz) := by
  refine xx_met (Qf := fun A => va_Qi Q (xAt D (wR ca ad) A) A) (by decide) (Nat.le_of_ble_eq_true rfl) ?_
  intro p e s m args below meth c A ls hx hb hr hw hown hlocks hml hK hN hA hP hD hS hl
  have hown : s.vm.findClass "TrainGuardModel" = some m.cls := hown
  have hl : lv_has ls 2 [(0, .ref (ad 0)), (1, .int x1)] := hl
  unfold w_R_count at h
  have hH9 : ∀ H : Heap, H = s.heap → va_P D cls (wR ca ad S) H → va_S A s.heap H [] → W p l e ({ frames := 1, cells := 0, slots := 0, locals := 21 } : Room) s m args below meth c H [] 0 0 (MQ below ((fun A => va_Qi Q (xAt D (wR ca ad) A) A) A) args s 0 0 A) (F0 m 0 ls []) := by
    clear hP hS
    intro H hH hP hS
    obtain ⟨locs, hlo⟩ : ∃ z : List Loc, z = [] := ⟨_, rfl⟩
    rw [← hlo] at hS ⊢
    refine lv_iload_n hx hb d_R_count_0 rfl (lv_at hl 1 rfl) ?_
    by_cases hc0 : x1 = 0
    · replace h := h.1 hc0
      refine lv_tableIn (off := 39) (tgt := 40) hx hb d_R_count_1 (by rw [hc0]; decide) (by rw [hc0]; decide) (by rw [hc0]; rfl) (by decide) ?_
      refine lv_aload_n hx hb d_R_count_40 rfl (lv_at hl 0 rfl) ?_
      refine lv_aload_n hx hb d_R_count_41 rfl (lv_at hl 0 rfl) ?_
      refine va_get (D := D) (ci := 4) (v := .int (S.1 1 0)) (C := Rc_R) (T := Fc_R) (N := 25) hx hb hw inc_R hown hK hP 0 rfl rfl 1 (by decide) (hw _ wd_592) (fun _ h9 => h9) rfl d_R_count_42 ?_
      refine xx_calli (va_runV (As := [.int (S.1 1 0)]) (rest := []) ⟨hx, hb, hml, hown, hw⟩ (c_R_answer l D ca ad H.size S (S.1 1 0) _ h) (cwV 1 hw (tG_g gl_R_111) rfl rfl rfl (by decide +kernel) ⟨Nat.le_of_ble_eq_true rfl, Nat.le_of_ble_eq_true rfl⟩) ⟨xPc.blind, va_recv hK hP rfl (q0 := 0) rfl, xPc.pre hK hN hP hD⟩ rfl rfl hl.1 rfl (lv_room (Nat.le_of_ble_eq_true rfl)) d_R_count_45 ⟨Nat.le_of_ble_eq_true rfl, Nat.le_of_ble_eq_true rfl⟩) hD hS hA (fun r1 S2 H locs h hP hD hS => ?_)
      exact W.iret (v := r1) hx hb hr (fun t ht hW => ⟨⟨r1, S2, rfl, h, by rw [ht]; exact hP, hD⟩, hS.F ht⟩) hS.2.2 d_R_count_48
    by_cases hc1 : x1 = 1
    · replace h := h.2.1 hc1
      refine lv_tableIn (off := 48) (tgt := 49) hx hb d_R_count_1 (by rw [hc1]; decide) (by rw [hc1]; decide) (by rw [hc1]; rfl) (by decide) ?_
      refine lv_aload_n hx hb d_R_count_49 rfl (lv_at hl 0 rfl) ?_
      refine lv_aload_n hx hb d_R_count_50 rfl (lv_at hl 0 rfl) ?_
      refine va_get (D := D) (ci := 4) (v := .int (S.1 2 0)) (C := Rc_R) (T := Fc_R) (N := 25) hx hb hw inc_R hown hK hP 0 rfl rfl 5 (by decide) (hw _ wd_596) (fun _ h9 => h9) rfl d_R_count_51 ?_
      refine xx_calli (va_runV (As := [.int (S.1 2 0)]) (rest := []) ⟨hx, hb, hml, hown, hw⟩ (c_R_answer l D ca ad H.size S (S.1 2 0) _ h) (cwV 1 hw (tG_g gl_R_111) rfl rfl rfl (by decide +kernel) ⟨Nat.le_of_ble_eq_true rfl, Nat.le_of_ble_eq_true rfl⟩) ⟨xPc.blind, va_recv hK hP rfl (q0 := 0) rfl, xPc.pre hK hN hP hD⟩ rfl rfl hl.1 rfl (lv_room (Nat.le_of_ble_eq_true rfl)) d_R_count_54 ⟨Nat.le_of_ble_eq_true rfl, Nat.le_of_ble_eq_true rfl⟩) hD hS hA (fun r3 S4 H locs h hP hD hS => ?_)
      exact W.iret (v := r3) hx hb hr (fun t ht hW => ⟨⟨r3, S4, rfl, h, by rw [ht]; exact hP, hD⟩, hS.F ht⟩) hS.2.2 d_R_count_57
    by_cases hc2 : x1 = 2
    · replace h := h.2.2.1 hc2
      refine lv_tableIn (off := 57) (tgt := 58) hx hb d_R_count_1 (by rw [hc2]; decide) (by rw [hc2]; decide) (by rw [hc2]; rfl) (by decide) ?_
      refine lv_aload_n hx hb d_R_count_58 rfl (lv_at hl 0 rfl) ?_
      refine lv_aload_n hx hb d_R_count_59 rfl (lv_at hl 0 rfl) ?_
      refine va_get (D := D) (ci := 4) (v := .int (S.1 3 0)) (C := Rc_R) (T := Fc_R) (N := 25) hx hb hw inc_R hown hK hP 0 rfl rfl 9 (by decide) (hw _ wd_600) (fun _ h9 => h9) rfl d_R_count_60 ?_
      refine xx_calli (va_runV (As := [.int (S.1 3 0)]) (rest := []) ⟨hx, hb, hml, hown, hw⟩ (c_R_answer l D ca ad H.size S (S.1 3 0) _ h) (cwV 1 hw (tG_g gl_R_111) rfl rfl rfl (by decide +kernel) ⟨Nat.le_of_ble_eq_true rfl, Nat.le_of_ble_eq_true rfl⟩) ⟨xPc.blind, va_recv hK hP rfl (q0 := 0) rfl, xPc.pre hK hN hP hD⟩ rfl rfl hl.1 rfl (lv_room (Nat.le_of_ble_eq_true rfl)) d_R_count_63 ⟨Nat.le_of_ble_eq_true rfl, Nat.le_of_ble_eq_true rfl⟩) hD hS hA (fun r5 S6 H locs h hP hD hS => ?_)
      exact W.iret (v := r5) hx hb hr (fun t ht hW => ⟨⟨r5, S6, rfl, h, by rw [ht]; exact hP, hD⟩, hS.F ht⟩) hS.2.2 d_R_count_66
    by_cases hc3 : x1 = 3
    · replace h := h.2.2.2.1 hc3
      refine lv_tableIn (off := 66) (tgt := 67) hx hb d_R_count_1 (by rw [hc3]; decide) (by rw [hc3]; decide) (by rw [hc3]; rfl) (by decide) ?_
      refine lv_aload_n hx hb d_R_count_67 rfl (lv_at hl 0 rfl) ?_
      refine lv_aload_n hx hb d_R_count_68 rfl (lv_at hl 0 rfl) ?_
      refine va_get (D := D) (ci := 4) (v := .int (S.1 4 0)) (C := Rc_R) (T := Fc_R) (N := 25) hx hb hw inc_R hown hK hP 0 rfl rfl 22 (by decide) (hw _ wd_613) (fun _ h9 => h9) rfl d_R_count_69 ?_
      refine xx_calli (va_runV (As := [.int (S.1 4 0)]) (rest := []) ⟨hx, hb, hml, hown, hw⟩ (c_R_answer l D ca ad H.size S (S.1 4 0) _ h) (cwV 1 hw (tG_g gl_R_111) rfl rfl rfl (by decide +kernel) ⟨Nat.le_of_ble_eq_true rfl, Nat.le_of_ble_eq_true rfl⟩) ⟨xPc.blind, va_recv hK hP rfl (q0 := 0) rfl, xPc.pre hK hN hP hD⟩ rfl rfl hl.1 rfl (lv_room (Nat.le_of_ble_eq_true rfl)) d_R_count_72 ⟨Nat.le_of_ble_eq_true rfl, Nat.le_of_ble_eq_true rfl⟩) hD hS hA (fun r7 S8 H locs h hP hD hS => ?_)
      exact W.iret (v := r7) hx hb hr (fun t ht hW => ⟨⟨r7, S8, rfl, h, by rw [ht]; exact hP, hD⟩, hS.F ht⟩) hS.2.2 d_R_count_75
    by_cases hc4 : x1 = 4
    · replace h := h.2.2.2.2.1 hc4
      refine lv_tableIn (off := 75) (tgt := 76) hx hb d_R_count_1 (by rw [hc4]; decide) (by rw [hc4]; decide) (by rw [hc4]; rfl) (by decide) ?_
      refine lv_aload_n hx hb d_R_count_76 rfl (lv_at hl 0 rfl) ?_
      refine lv_aload_n hx hb d_R_count_77 rfl (lv_at hl 0 rfl) ?_
      refine va_get (D := D) (ci := 4) (v := .int (S.1 5 0)) (C := Rc_R) (T := Fc_R) (N := 25) hx hb hw inc_R hown hK hP 0 rfl rfl 23 (by decide) (hw _ wd_614) (fun _ h9 => h9) rfl d_R_count_78 ?_
      refine xx_calli (va_runV (As := [.int (S.1 5 0)]) (rest := []) ⟨hx, hb, hml, hown, hw⟩ (c_R_answer l D ca ad H.size S (S.1 5 0) _ h) (cwV 1 hw (tG_g gl_R_111) rfl rfl rfl (by decide +kernel) ⟨Nat.le_of_ble_eq_true rfl, Nat.le_of_ble_eq_true rfl⟩) ⟨xPc.blind, va_recv hK hP rfl (q0 := 0) rfl, xPc.pre hK hN hP hD⟩ rfl rfl hl.1 rfl (lv_room (Nat.le_of_ble_eq_true rfl)) d_R_count_81 ⟨Nat.le_of_ble_eq_true rfl, Nat.le_of_ble_eq_true rfl⟩) hD hS hA (fun r9 S10 H locs h hP hD hS => ?_)
      exact W.iret (v := r9) hx hb hr (fun t ht hW => ⟨⟨r9, S10, rfl, h, by rw [ht]; exact hP, hD⟩, hS.F ht⟩) hS.2.2 d_R_count_84
    by_cases hc5 : x1 = 5
    · replace h := h.2.2.2.2.2.1 hc5
      refine lv_tableIn (off := 84) (tgt := 85) hx hb d_R_count_1 (by rw [hc5]; decide) (by rw [hc5]; decide) (by rw [hc5]; rfl) (by decide) ?_
      refine lv_aload_n hx hb d_R_count_85 rfl (lv_at hl 0 rfl) ?_
      refine lv_aload_n hx hb d_R_count_86 rfl (lv_at hl 0 rfl) ?_
      refine va_get (D := D) (ci := 4) (v := .int (S.1 6 0)) (C := Rc_R) (T := Fc_R) (N := 25) hx hb hw inc_R hown hK hP 0 rfl rfl 24 (by decide) (hw _ wd_615) (fun _ h9 => h9) rfl d_R_count_87 ?_
      refine xx_calli (va_runV (As := [.int (S.1 6 0)]) (rest := []) ⟨hx, hb, hml, hown, hw⟩ (c_R_answer l D ca ad H.size S (S.1 6 0) _ h) (cwV 1 hw (tG_g gl_R_111) rfl rfl rfl (by decide +kernel) ⟨Nat.le_of_ble_eq_true rfl, Nat.le_of_ble_eq_true rfl⟩) ⟨xPc.blind, va_recv hK hP rfl (q0 := 0) rfl, xPc.pre hK hN hP hD⟩ rfl rfl hl.1 rfl (lv_room (Nat.le_of_ble_eq_true rfl)) d_R_count_90 ⟨Nat.le_of_ble_eq_true rfl, Nat.le_of_ble_eq_true rfl⟩) hD hS hA (fun r11 S12 H locs h hP hD hS => ?_)
      exact W.iret (v := r11) hx hb hr (fun t ht hW => ⟨⟨r11, S12, rfl, h, by rw [ht]; exact hP, hD⟩, hS.F ht⟩) hS.2.2 d_R_count_93
    replace h := h.2.2.2.2.2.2 ⟨hc0, hc1, hc2, hc3, hc4, hc5⟩
    have hz0 := lv_neT (a := 0) hc0 rfl
    have hz1 := lv_neT (a := 1) hc1 rfl
    have hz2 := lv_neT (a := 2) hc2 rfl
    have hz3 := lv_neT (a := 3) hc3 rfl
    have hz4 := lv_neT (a := 4) hc4 rfl
    have hz5 := lv_neT (a := 5) hc5 rfl
    refine lv_tableOut (tgt := 94) hx hb d_R_count_1 (by omega) (by decide) ?_
    refine lv_aload_n hx hb d_R_count_94 rfl (lv_at hl 0 rfl) ?_
    refine lv_iconst (v := (-1)) hx hb d_R_count_95 (by decide) ?_
    refine xx_calli (va_runV (As := [.int (-1)]) (rest := []) ⟨hx, hb, hml, hown, hw⟩ (c_R_answer l D ca ad H.size S (-1) _ h) (cwV 1 hw (tG_g gl_R_111) rfl rfl rfl (by decide +kernel) ⟨Nat.le_of_ble_eq_true rfl, Nat.le_of_ble_eq_true rfl⟩) ⟨xPc.blind, va_recv hK hP rfl (q0 := 0) rfl, xPc.pre hK hN hP hD⟩ rfl rfl hl.1 rfl (lv_room (Nat.le_of_ble_eq_true rfl)) d_R_count_96 ⟨Nat.le_of_ble_eq_true rfl, Nat.le_of_ble_eq_true rfl⟩) hD hS hA (fun r13 S14 H locs h hP hD hS => ?_)
    exact W.iret (v := r13) hx hb hr (fun t ht hW => ⟨⟨r13, S14, rfl, h, by rw [ht]; exact hP, hD⟩, hS.F ht⟩) hS.2.2 d_R_count_99
  exact hH9 _ rfl hP hS
