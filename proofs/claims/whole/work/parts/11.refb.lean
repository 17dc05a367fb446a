theorem d_R_ways_0 : decode b_R_ways 0 = .ok (.lconst 0, 1) := by decide +kernel
theorem d_R_ways_1 : decode b_R_ways 1 = .ok (.lstore 6, 2) := by decide +kernel
theorem d_R_ways_3 : decode b_R_ways 3 = .ok (.lload_n 0, 1) := by decide +kernel
theorem d_R_ways_4 : decode b_R_ways 4 = .ok (.lstore 8, 2) := by decide +kernel
theorem d_R_ways_6 : decode b_R_ways 6 = .ok (.lload 8, 2) := by decide +kernel
theorem d_R_ways_8 : decode b_R_ways 8 = .ok (.lload_n 2, 1) := by decide +kernel
theorem d_R_ways_9 : decode b_R_ways 9 = .ok (.lcmp, 1) := by decide +kernel
theorem d_R_ways_10 : decode b_R_ways 10 = .ok (.ifCond .le 45, 3) := by decide +kernel
theorem d_R_ways_13 : decode b_R_ways 13 = .ok (.lload 8, 2) := by decide +kernel
theorem d_R_ways_15 : decode b_R_ways 15 = .ok (.lload 4, 2) := by decide +kernel
theorem d_R_ways_17 : decode b_R_ways 17 = .ok (.lsub, 1) := by decide +kernel
theorem d_R_ways_18 : decode b_R_ways 18 = .ok (.lload_n 2, 1) := by decide +kernel
theorem d_R_ways_19 : decode b_R_ways 19 = .ok (.lcmp, 1) := by decide +kernel
theorem d_R_ways_20 : decode b_R_ways 20 = .ok (.ifCond .le 11, 3) := by decide +kernel
theorem d_R_ways_23 : decode b_R_ways 23 = .ok (.lload 8, 2) := by decide +kernel
theorem d_R_ways_25 : decode b_R_ways 25 = .ok (.lload 4, 2) := by decide +kernel
theorem d_R_ways_27 : decode b_R_ways 27 = .ok (.lsub, 1) := by decide +kernel
theorem d_R_ways_28 : decode b_R_ways 28 = .ok (.goto 4, 3) := by decide +kernel
theorem d_R_ways_31 : decode b_R_ways 31 = .ok (.lload_n 2, 1) := by decide +kernel
theorem d_R_ways_32 : decode b_R_ways 32 = .ok (.lstore 10, 2) := by decide +kernel
theorem d_R_ways_34 : decode b_R_ways 34 = .ok (.lload 6, 2) := by decide +kernel
theorem d_R_ways_36 : decode b_R_ways 36 = .ok (.lload 8, 2) := by decide +kernel
theorem d_R_ways_38 : decode b_R_ways 38 = .ok (.lload 10, 2) := by decide +kernel
theorem d_R_ways_40 : decode b_R_ways 40 = .ok (.ladd, 1) := by decide +kernel
theorem d_R_ways_41 : decode b_R_ways 41 = .ok (.ldc2_w 131, 3) := by decide +kernel
theorem d_R_ways_44 : decode b_R_ways 44 = .ok (.ldiv, 1) := by decide +kernel
theorem d_R_ways_45 : decode b_R_ways 45 = .ok (.ladd, 1) := by decide +kernel
theorem d_R_ways_46 : decode b_R_ways 46 = .ok (.lstore 6, 2) := by decide +kernel
theorem d_R_ways_48 : decode b_R_ways 48 = .ok (.lload 10, 2) := by decide +kernel
theorem d_R_ways_50 : decode b_R_ways 50 = .ok (.lstore 8, 2) := by decide +kernel
theorem d_R_ways_52 : decode b_R_ways 52 = .ok (.goto (-46), 3) := by decide +kernel
theorem d_R_ways_55 : decode b_R_ways 55 = .ok (.lload 6, 2) := by decide +kernel
theorem d_R_ways_57 : decode b_R_ways 57 = .ok (.lreturn, 1) := by decide +kernel
def w_R_ways_32 (K6 : SR → Int64 → Int64 → Int64 → Int64 → Prop) (S : SR) (y2 : Int64) (y4 : Int64) (y6 : Int64) (y8 : Int64) (ys0 : Int64) (Q : Int64 → SR → Prop) : Prop := ∀ b3 : Int64, b3 = y8 + ys0 → (∀ b4 : Int64, b4 = b3 / (2 : Int64) → (∀ b5 : Int64, b5 = y6 + b4 → (K6 S y2 y4 b5 ys0)))
def w_R_ways_6 : Nat → SR → Int64 → Int64 → Int64 → Int64 → (Int64 → SR → Prop) → Prop
  | 0 => fun _ _ _ _ _ _ => False
  | n + 1 => fun S y2 y4 y6 y8 Q => ((((lg_cmp y8 y2) ≤ 0) → (Q y6 S)) ∧ ((¬ (lg_cmp y8 y2) ≤ 0) → (∀ b1 : Int64, b1 = y8 - y4 → ((((lg_cmp b1 y2) ≤ 0) → (w_R_ways_32 (fun S9 z0 z1 z2 z3 => w_R_ways_6 n S9 z0 z1 z2 z3 Q) S y2 y4 y6 y8 y2 Q)) ∧ ((¬ (lg_cmp b1 y2) ≤ 0) → (∀ b2 : Int64, b2 = y8 - y4 → (w_R_ways_32 (fun S9 z0 z1 z2 z3 => w_R_ways_6 n S9 z0 z1 z2 z3 Q) S y2 y4 y6 y8 b2 Q)))))))
def w_R_ways (S : SR) (x1 : Int64) (x2 : Int64) (x3 : Int64) (Q : Int64 → SR → Prop) : Prop := ∃ n : Nat, w_R_ways_6 n S x2 x3 0 x1 Q
set_option maxRecDepth 100000 in
set_option maxHeartbeats 4000000 in
theorem c_R_ways (l : Launch) (D : va_G) (ca : Nat → ClassId) (ad : Nat → Nat) (sz : Nat) (S : SR) (x1 : Int64) (x2 : Int64) (x3 : Int64)  (Q : Int64 → SR → Prop) (h : w_R_ways S x1 x2 x3 Q) : Met l y_R_ways (Cond.code y_R_ways b_R_ways 12 (some Jvm.ClassFile.FieldType.long) :: tG) ({ frames := 0, cells := 0, slots := 0, locals := 0 } : Room) (xPc D ca (wR ca ad) S sz [.long x1, .long x2, .long x3]) (va_Ql Q (xAt D (wR ca ad) (va_A (wR ca ad S) sz)) (va_A (wR ca ad S) sz)) 0 0 (va_A (wR ca ad S) sz) := by
  refine xx_met (Qf := fun A => va_Ql Q (xAt D (wR ca ad) A) A) (by decide) (Nat.le_of_ble_eq_true rfl) ?_
  intro p e s m args below meth c A ls hx hb hr hw hown hlocks hml hK hN hA hP hD hS hl
  have hown : s.vm.findClass "TrainGuardModel" = some m.cls := hown
  have hl : lv_has ls 12 [(0, .long x1), (2, .long x2), (4, .long x3)] := hl
  unfold w_R_ways at h
  have bk_32 : ∀ (K6 : SR → Int64 → Int64 → Int64 → Int64 → Prop) (hK6 : ∀ (S : SR) (y2 : Int64) (y4 : Int64) (y6 : Int64) (y8 : Int64) (H : Heap) (locs : List Loc) , va_P D cls (wR ca ad S) H → va_D A (wR ca ad S) → va_S A s.heap H locs → ∀ (ls : Array Slot), lv_has ls 12 [(2, .long y2), (4, .long y4), (6, .long y6), (8, .long y8)] → K6 S y2 y4 y6 y8 → W p l e ({ frames := 0, cells := 0, slots := 0, locals := 0 } : Room) s m args below meth c H locs 0 0 (MQ below ((fun A => va_Ql Q (xAt D (wR ca ad) A) A) A) args s 0 0 A) (F0 m 6 ls [])) (S : SR) (y2 : Int64) (y4 : Int64) (y6 : Int64) (y8 : Int64) (ys0 : Int64) (H : Heap) (locs : List Loc) , va_P D cls (wR ca ad S) H → va_D A (wR ca ad S) → va_S A s.heap H locs → ∀ (ls : Array Slot), lv_has ls 12 [(2, .long y2), (4, .long y4), (6, .long y6), (8, .long y8)] → w_R_ways_32 K6 S y2 y4 y6 y8 ys0 Q → W p l e ({ frames := 0, cells := 0, slots := 0, locals := 0 } : Room) s m args below meth c H locs 0 0 (MQ below ((fun A => va_Ql Q (xAt D (wR ca ad) A) A) A) args s 0 0 A) (F0 m 32 ls [.long ys0]) := by
    intro K6 hK6 S y2 y4 y6 y8 ys0 H locs hP hD hS ls hl h
    unfold w_R_ways_32 at h
    refine lv_lstore (lv' := [(10, .long ys0), (2, .long y2), (4, .long y4), (6, .long y6), (8, .long y8)]) hx hb d_R_ways_32 hl (by decide) rfl (fun ls hl => ?_)
    refine lv_lload hx hb d_R_ways_34 (lv_at hl 3 rfl) ?_
    refine lv_lload hx hb d_R_ways_36 (lv_at hl 4 rfl) ?_
    refine lv_lload hx hb d_R_ways_38 (lv_at hl 0 rfl) ?_
    refine lv_ladd hx hb d_R_ways_40 ?_
    refine lv_topl (fun b3 e_b3 => ?_)
    replace h := h b3 e_b3
    refine lv_ldc2 hx hb hown (hw _ wd_750) d_R_ways_41 ?_
    refine lv_ldiv hx hb d_R_ways_44 (by decide) ?_
    refine lv_topl (fun b4 e_b4 => ?_)
    replace h := h b4 e_b4
    refine lv_ladd hx hb d_R_ways_45 ?_
    refine lv_topl (fun b5 e_b5 => ?_)
    replace h := h b5 e_b5
    refine lv_lstore (lv' := [(6, .long b5), (10, .long ys0), (2, .long y2), (4, .long y4), (8, .long y8)]) hx hb d_R_ways_46 hl (by decide) rfl (fun ls hl => ?_)
    refine lv_lload hx hb d_R_ways_48 (lv_at hl 1 rfl) ?_
    refine lv_lstore (lv' := [(8, .long ys0), (6, .long b5), (10, .long ys0), (2, .long y2), (4, .long y4)]) hx hb d_R_ways_50 hl (by decide) rfl (fun ls hl => ?_)
    refine lv_goto (tgt := 6) hx hb d_R_ways_52 (by decide) ?_
    exact hK6 S y2 y4 b5 ys0 H locs hP hD hS ls (lv_sub hl [3, 4, 1, 0] rfl) h
  have bk_6 : ∀ (n9 : Nat) (S : SR) (y2 : Int64) (y4 : Int64) (y6 : Int64) (y8 : Int64) (H : Heap) (locs : List Loc) , va_P D cls (wR ca ad S) H → va_D A (wR ca ad S) → va_S A s.heap H locs → ∀ (ls : Array Slot), lv_has ls 12 [(2, .long y2), (4, .long y4), (6, .long y6), (8, .long y8)] → w_R_ways_6 n9 S y2 y4 y6 y8 Q → W p l e ({ frames := 0, cells := 0, slots := 0, locals := 0 } : Room) s m args below meth c H locs 0 0 (MQ below ((fun A => va_Ql Q (xAt D (wR ca ad) A) A) A) args s 0 0 A) (F0 m 6 ls []) := by
    intro n9
    induction n9 with
    | zero => intro S y2 y4 y6 y8 H locs hP hD hS ls hl h; exact absurd h id
    | succ n9 hK6 =>
      intro S y2 y4 y6 y8 H locs hP hD hS ls hl h
      replace h : (((lg_cmp y8 y2) ≤ 0) → (Q y6 S)) ∧ ((¬ (lg_cmp y8 y2) ≤ 0) → (∀ b1 : Int64, b1 = y8 - y4 → ((((lg_cmp b1 y2) ≤ 0) → (w_R_ways_32 (fun S9 z0 z1 z2 z3 => w_R_ways_6 n9 S9 z0 z1 z2 z3 Q) S y2 y4 y6 y8 y2 Q)) ∧ ((¬ (lg_cmp b1 y2) ≤ 0) → (∀ b2 : Int64, b2 = y8 - y4 → (w_R_ways_32 (fun S9 z0 z1 z2 z3 => w_R_ways_6 n9 S9 z0 z1 z2 z3 Q) S y2 y4 y6 y8 b2 Q)))))) := h
      refine lv_lload hx hb d_R_ways_6 (lv_at hl 3 rfl) ?_
      refine lv_lload_n hx hb d_R_ways_8 rfl (lv_at hl 0 rfl) ?_
      refine W.lcmp hx hb d_R_ways_9 ?_
      refine lv_if_le (tgt := 55) hx hb d_R_ways_10 (by decide) (fun hc => ?_) (fun hc => ?_)
      · replace h := h.1 hc
        refine lv_lload hx hb d_R_ways_55 (lv_at hl 2 rfl) ?_
        exact W.lret (v := y6) hx hb hr (fun t ht hW => ⟨⟨y6, S, rfl, h, by rw [ht]; exact hP, hD⟩, hS.F ht⟩) hS.2.2 d_R_ways_57
      · replace h := h.2 hc
        refine lv_lload hx hb d_R_ways_13 (lv_at hl 3 rfl) ?_
        refine lv_lload hx hb d_R_ways_15 (lv_at hl 1 rfl) ?_
        refine lv_lsub hx hb d_R_ways_17 ?_
        refine lv_topl (fun b1 e_b1 => ?_)
        replace h := h b1 e_b1
        refine lv_lload_n hx hb d_R_ways_18 rfl (lv_at hl 0 rfl) ?_
        refine W.lcmp hx hb d_R_ways_19 ?_
        refine lv_if_le (tgt := 31) hx hb d_R_ways_20 (by decide) (fun hc => ?_) (fun hc => ?_)
        · replace h := h.1 hc
          refine lv_lload_n hx hb d_R_ways_31 rfl (lv_at hl 0 rfl) ?_
          exact bk_32 (fun S9 z0 z1 z2 z3 => w_R_ways_6 n9 S9 z0 z1 z2 z3 Q) hK6 S y2 y4 y6 y8 y2 H locs hP hD hS ls (lv_sub hl [0, 1, 2, 3] rfl) h
        · replace h := h.2 hc
          refine lv_lload hx hb d_R_ways_23 (lv_at hl 3 rfl) ?_
          refine lv_lload hx hb d_R_ways_25 (lv_at hl 1 rfl) ?_
          refine lv_lsub hx hb d_R_ways_27 ?_
          refine lv_topl (fun b2 e_b2 => ?_)
          replace h := h b2 e_b2
          refine lv_goto (tgt := 32) hx hb d_R_ways_28 (by decide) ?_
          exact bk_32 (fun S9 z0 z1 z2 z3 => w_R_ways_6 n9 S9 z0 z1 z2 z3 Q) hK6 S y2 y4 y6 y8 b2 H locs hP hD hS ls (lv_sub hl [0, 1, 2, 3] rfl) h
  have hH9 : ∀ H : Heap, H = s.heap → va_P D cls (wR ca ad S) H → va_S A s.heap H [] → W p l e ({ frames := 0, cells := 0, slots := 0, locals := 0 } : Room) s m args below meth c H [] 0 0 (MQ below ((fun A => va_Ql Q (xAt D (wR ca ad) A) A) A) args s 0 0 A) (F0 m 0 ls []) := by
    clear hP hS
    intro H hH hP hS
    obtain ⟨locs, hlo⟩ : ∃ z : List Loc, z = [] := ⟨_, rfl⟩
    rw [← hlo] at hS ⊢
    refine lv_lconst (v := 0) hx hb d_R_ways_0 (by decide) ?_
    refine lv_lstore (lv' := [(6, .long 0), (0, .long x1), (2, .long x2), (4, .long x3)]) hx hb d_R_ways_1 hl (by decide) rfl (fun ls hl => ?_)
    refine lv_lload_n hx hb d_R_ways_3 rfl (lv_at hl 1 rfl) ?_
    refine lv_lstore (lv' := [(8, .long x1), (6, .long 0), (0, .long x1), (2, .long x2), (4, .long x3)]) hx hb d_R_ways_4 hl (by decide) rfl (fun ls hl => ?_)
    obtain ⟨n9, h⟩ := h
    exact bk_6 n9 S x2 x3 0 x1 H locs hP hD hS ls (lv_sub hl [3, 4, 1, 0] rfl) h
  exact hH9 _ rfl hP hS
theorem d_R_safeFor_0 : decode b_R_safeFor 0 = .ok (.lload 8, 2) := by decide +kernel
theorem d_R_safeFor_2 : decode b_R_safeFor 2 = .ok (.lload 10, 2) := by decide +kernel
theorem d_R_safeFor_4 : decode b_R_safeFor 4 = .ok (.aload_n 0, 1) := by decide +kernel
theorem d_R_safeFor_5 : decode b_R_safeFor 5 = .ok (.getfield 32, 3) := by decide +kernel
theorem d_R_safeFor_8 : decode b_R_safeFor 8 = .ok (.iload_n 1, 1) := by decide +kernel
theorem d_R_safeFor_9 : decode b_R_safeFor 9 = .ok (.laload, 1) := by decide +kernel
theorem d_R_safeFor_10 : decode b_R_safeFor 10 = .ok (.invokestatic 133, 3) := by decide +kernel
theorem d_R_safeFor_13 : decode b_R_safeFor 13 = .ok (.lstore 12, 2) := by decide +kernel
theorem d_R_safeFor_15 : decode b_R_safeFor 15 = .ok (.lload 4, 2) := by decide +kernel
theorem d_R_safeFor_17 : decode b_R_safeFor 17 = .ok (.lload 6, 2) := by decide +kernel
theorem d_R_safeFor_19 : decode b_R_safeFor 19 = .ok (.ladd, 1) := by decide +kernel
theorem d_R_safeFor_20 : decode b_R_safeFor 20 = .ok (.lload 12, 2) := by decide +kernel
theorem d_R_safeFor_22 : decode b_R_safeFor 22 = .ok (.ladd, 1) := by decide +kernel
theorem d_R_safeFor_23 : decode b_R_safeFor 23 = .ok (.lload 12, 2) := by decide +kernel
theorem d_R_safeFor_25 : decode b_R_safeFor 25 = .ok (.ldc2_w 137, 3) := by decide +kernel
theorem d_R_safeFor_28 : decode b_R_safeFor 28 = .ok (.ldiv, 1) := by decide +kernel
theorem d_R_safeFor_29 : decode b_R_safeFor 29 = .ok (.ladd, 1) := by decide +kernel
theorem d_R_safeFor_30 : decode b_R_safeFor 30 = .ok (.lload_n 2, 1) := by decide +kernel
theorem d_R_safeFor_31 : decode b_R_safeFor 31 = .ok (.lcmp, 1) := by decide +kernel
theorem d_R_safeFor_32 : decode b_R_safeFor 32 = .ok (.ifCond .gt 7, 3) := by decide +kernel
theorem d_R_safeFor_35 : decode b_R_safeFor 35 = .ok (.iconst 1, 1) := by decide +kernel
theorem d_R_safeFor_36 : decode b_R_safeFor 36 = .ok (.goto 4, 3) := by decide +kernel
theorem d_R_safeFor_39 : decode b_R_safeFor 39 = .ok (.iconst 0, 1) := by decide +kernel
theorem d_R_safeFor_40 : decode b_R_safeFor 40 = .ok (.ireturn, 1) := by decide +kernel
theorem gl_R_133 : ∀ w ∈ wsS "TrainGuardModel" 133 y_R_ways (Cond.code y_R_ways b_R_ways 12 (some Jvm.ClassFile.FieldType.long) :: tG), w ∈ tG := by
  intro x hx
  simp only [wsS, List.cons_append, List.nil_append, List.mem_cons] at hx
  rcases hx with rfl | rfl | rfl | rfl | hx
  · exact wd_747
  · exact wd_748
  · exact wd_5
  · exact wd_749
  · exact hx
def w_R_safeFor (S : SR) (x1 : Int32) (x2 : Int64) (x3 : Int64) (x4 : Int64) (x5 : Int64) (x6 : Int64) (Q : Int32 → SR → Prop) : Prop := vp_in x1 3 ∧ (w_R_ways S x5 x6 (S.2 6 x1.toNatClampNeg) (fun r1 S2 => ∀ b3 : Int64, b3 = x3 + x4 → (∀ b4 : Int64, b4 = b3 + r1 → (∀ b5 : Int64, b5 = r1 / (8 : Int64) → (∀ b6 : Int64, b6 = b4 + b5 → (((0 < (lg_cmp b6 x2)) → (Q 0 S2)) ∧ ((¬ 0 < (lg_cmp b6 x2)) → (Q 1 S2))))))))
set_option maxRecDepth 100000 in
set_option maxHeartbeats 4000000 in
theorem c_R_safeFor (l : Launch) (D : va_G) (ca : Nat → ClassId) (ad : Nat → Nat) (sz : Nat) (S : SR) (x1 : Int32) (x2 : Int64) (x3 : Int64) (x4 : Int64) (x5 : Int64) (x6 : Int64)  (Q : Int32 → SR → Prop) (h : w_R_safeFor S x1 x2 x3 x4 x5 x6 Q) : Met l y_R_safeFor (Cond.code y_R_safeFor b_R_safeFor 14 (some Jvm.ClassFile.FieldType.boolean) :: tG) ({ frames := 1, cells := 0, slots := 0, locals := 31 } : Room) (xPc D ca (wR ca ad) S sz [.ref (ad 0), .int x1, .long x2, .long x3, .long x4, .long x5, .long x6]) (va_Qi Q (xAt D (wR ca ad) (va_A (wR ca ad S) sz)) (va_A (wR ca ad S) sz)) 0 0 (va_A (wR ca ad S) sz) := by
  refine xx_met (Qf := fun A => va_Qi Q (xAt D (wR ca ad) A) A) (by decide) (Nat.le_of_ble_eq_true rfl) ?_
  intro p e s m args below meth c A ls hx hb hr hw hown hlocks hml hK hN hA hP hD hS hl
  have hown : s.vm.findClass "TrainGuardModel" = some m.cls := hown
  have hl : lv_has ls 14 [(0, .ref (ad 0)), (1, .int x1), (2, .long x2), (4, .long x3), (6, .long x4), (8, .long x5), (10, .long x6)] := hl
  unfold w_R_safeFor at h
  have hH9 : ∀ H : Heap, H = s.heap → va_P D cls (wR ca ad S) H → va_S A s.heap H [] → W p l e ({ frames := 1, cells := 0, slots := 0, locals := 31 } : Room) s m args below meth c H [] 0 0 (MQ below ((fun A => va_Qi Q (xAt D (wR ca ad) A) A) A) args s 0 0 A) (F0 m 0 ls []) := by
    clear hP hS
    intro H hH hP hS
    obtain ⟨locs, hlo⟩ : ∃ z : List Loc, z = [] := ⟨_, rfl⟩
    rw [← hlo] at hS ⊢
    refine lv_lload hx hb d_R_safeFor_0 (lv_at hl 5 rfl) ?_
    refine lv_lload hx hb d_R_safeFor_2 (lv_at hl 6 rfl) ?_
    refine lv_aload_n hx hb d_R_safeFor_4 rfl (lv_at hl 0 rfl) ?_
    refine va_get (D := D) (ci := 4) (v := .ref (ad 8)) (C := Rc_R) (T := Fc_R) (N := 25) hx hb hw inc_R hown hK hP 0 rfl rfl 11 (by decide) (hw _ wd_602) (fun _ h9 => h9) rfl d_R_safeFor_5 ?_
    refine lv_iload_n hx hb d_R_safeFor_8 rfl (lv_at hl 1 rfl) ?_
    obtain ⟨hq, h⟩ := h
    refine va_lald (D := D) hx hb hK hP 8 1 rfl rfl hq d_R_safeFor_9 ?_
    refine xx_calll (va_runS (As := [.long x5, .long x6, .long (S.2 6 x1.toNatClampNeg)]) (rest := []) ⟨hx, hb, hml, hown, hw⟩ (c_R_ways l D ca ad H.size S x5 x6 (S.2 6 x1.toNatClampNeg) _ h) (cwS 3 hw (tG_g gl_R_133) rfl rfl rfl (by decide +kernel) ⟨Nat.le_of_ble_eq_true rfl, Nat.le_of_ble_eq_true rfl⟩) ⟨xPc.blind, xPc.pre hK hN hP hD⟩ rfl rfl hl.1 rfl (lv_room (Nat.le_of_ble_eq_true rfl)) d_R_safeFor_10 ⟨Nat.le_of_ble_eq_true rfl, Nat.le_of_ble_eq_true rfl⟩) hD hS hA (fun r1 S2 H locs h hP hD hS => ?_)
    refine lv_lstore (lv' := [(12, .long r1), (0, .ref (ad 0)), (1, .int x1), (2, .long x2), (4, .long x3), (6, .long x4), (8, .long x5), (10, .long x6)]) hx hb d_R_safeFor_13 hl (by decide) rfl (fun ls hl => ?_)
    refine lv_lload hx hb d_R_safeFor_15 (lv_at hl 4 rfl) ?_
    refine lv_lload hx hb d_R_safeFor_17 (lv_at hl 5 rfl) ?_
    refine lv_ladd hx hb d_R_safeFor_19 ?_
    refine lv_topl (fun b3 e_b3 => ?_)
    replace h := h b3 e_b3
    refine lv_lload hx hb d_R_safeFor_20 (lv_at hl 0 rfl) ?_
    refine lv_ladd hx hb d_R_safeFor_22 ?_
    refine lv_topl (fun b4 e_b4 => ?_)
    replace h := h b4 e_b4
    refine lv_lload hx hb d_R_safeFor_23 (lv_at hl 0 rfl) ?_
    refine lv_ldc2 hx hb hown (hw _ wd_751) d_R_safeFor_25 ?_
    refine lv_ldiv hx hb d_R_safeFor_28 (by decide) ?_
    refine lv_topl (fun b5 e_b5 => ?_)
    replace h := h b5 e_b5
    refine lv_ladd hx hb d_R_safeFor_29 ?_
    refine lv_topl (fun b6 e_b6 => ?_)
    replace h := h b6 e_b6
    refine lv_lload_n hx hb d_R_safeFor_30 rfl (lv_at hl 3 rfl) ?_
    refine W.lcmp hx hb d_R_safeFor_31 ?_
    refine lv_if_gt (tgt := 39) hx hb d_R_safeFor_32 (by decide) (fun hc => ?_) (fun hc => ?_)
    · replace h := h.1 hc
      refine lv_iconst (v := 0) hx hb d_R_safeFor_39 (by decide) ?_
      exact W.zret (v := 0) hx hb hr rfl (fun t ht hW => ⟨⟨0, S2, rfl, h, by rw [ht]; exact hP, hD⟩, hS.F ht⟩) hS.2.2 d_R_safeFor_40
    · replace h := h.2 hc
      refine lv_iconst (v := 1) hx hb d_R_safeFor_35 (by decide) ?_
      refine lv_goto (tgt := 40) hx hb d_R_safeFor_36 (by decide) ?_
      exact W.zret (v := 1) hx hb hr rfl (fun t ht hW => ⟨⟨1, S2, rfl, h, by rw [ht]; exact hP, hD⟩, hS.F ht⟩) hS.2.2 d_R_safeFor_40
  exact hH9 _ rfl hP hS
theorem d_R_within_0 : decode b_R_within 0 = .ok (.lload_n 1, 1) := by decide +kernel
theorem d_R_within_1 : decode b_R_within 1 = .ok (.lconst 0, 1) := by decide +kernel
theorem d_R_within_2 : decode b_R_within 2 = .ok (.lcmp, 1) := by decide +kernel
theorem d_R_within_3 : decode b_R_within 3 = .ok (.ifCond .ge 7, 3) := by decide +kernel
theorem d_R_within_6 : decode b_R_within 6 = .ok (.lconst 0, 1) := by decide +kernel
theorem d_R_within_7 : decode b_R_within 7 = .ok (.goto 20, 3) := by decide +kernel
theorem d_R_within_10 : decode b_R_within 10 = .ok (.lload_n 1, 1) := by decide +kernel
theorem d_R_within_11 : decode b_R_within 11 = .ok (.aload_n 0, 1) := by decide +kernel
theorem d_R_within_12 : decode b_R_within 12 = .ok (.invokevirtual 139, 3) := by decide +kernel
theorem d_R_within_15 : decode b_R_within 15 = .ok (.lcmp, 1) := by decide +kernel
theorem d_R_within_16 : decode b_R_within 16 = .ok (.ifCond .le 10, 3) := by decide +kernel
theorem d_R_within_19 : decode b_R_within 19 = .ok (.aload_n 0, 1) := by decide +kernel
theorem d_R_within_20 : decode b_R_within 20 = .ok (.invokevirtual 139, 3) := by decide +kernel
theorem d_R_within_23 : decode b_R_within 23 = .ok (.goto 4, 3) := by decide +kernel
theorem d_R_within_26 : decode b_R_within 26 = .ok (.lload_n 1, 1) := by decide +kernel
theorem d_R_within_27 : decode b_R_within 27 = .ok (.lreturn, 1) := by decide +kernel
theorem gl_R_139 : ∀ w ∈ wsV "TrainGuardModel" 139 "TrainGuardModel" y_R_lineEnd (Cond.code y_R_lineEnd b_R_lineEnd 1 (some Jvm.ClassFile.FieldType.long) :: tG), w ∈ tG := by
  intro x hx
  simp only [wsV, List.cons_append, List.nil_append, List.mem_cons] at hx
  rcases hx with rfl | rfl | rfl | rfl | rfl | hx
  · exact wd_752
  · exact wd_754
  · exact ws_26
  · exact wd_5
  · exact wd_755
  · exact hx
def w_R_within (S : SR) (x1 : Int64) (Q : Int64 → SR → Prop) : Prop := ((0 ≤ (lg_cmp x1 0)) → (w_R_lineEnd S (fun r1 S2 => (((lg_cmp x1 r1) ≤ 0) → (Q x1 S2)) ∧ ((¬ (lg_cmp x1 r1) ≤ 0) → (w_R_lineEnd S2 (fun r3 S4 => Q r3 S4)))))) ∧ ((¬ 0 ≤ (lg_cmp x1 0)) → (Q 0 S))
set_option maxRecDepth 100000 in
set_option maxHeartbeats 4000000 in
theorem c_R_within (l : Launch) (D : va_G) (ca : Nat → ClassId) (ad : Nat → Nat) (sz : Nat) (S : SR) (x1 : Int64)  (Q : Int64 → SR → Prop) (h : w_R_within S x1 Q) : Met l y_R_within (Cond.code y_R_within b_R_within 3 (some Jvm.ClassFile.FieldType.long) :: tG) ({ frames := 1, cells := 0, slots := 0, locals := 20 } : Room) (xPc D ca (wR ca ad) S sz [.ref (ad 0), .long x1]) (va_Ql Q (xAt D (wR ca ad) (va_A (wR ca ad S) sz)) (va_A (wR ca ad S) sz)) 0 0 (va_A (wR ca ad S) sz) := by
  refine xx_met (Qf := fun A => va_Ql Q (xAt D (wR ca ad) A) A) (by decide) (Nat.le_of_ble_eq_true rfl) ?_
  intro p e s m args below meth c A ls hx hb hr hw hown hlocks hml hK hN hA hP hD hS hl
  have hown : s.vm.findClass "TrainGuardModel" = some m.cls := hown
  have hl : lv_has ls 3 [(0, .ref (ad 0)), (1, .long x1)] := hl
  unfold w_R_within at h
  have hH9 : ∀ H : Heap, H = s.heap → va_P D cls (wR ca ad S) H → va_S A s.heap H [] → W p l e ({ frames := 1, cells := 0, slots := 0, locals := 20 } : Room) s m args below meth c H [] 0 0 (MQ below ((fun A => va_Ql Q (xAt D (wR ca ad) A) A) A) args s 0 0 A) (F0 m 0 ls []) := by
    clear hP hS
    intro H hH hP hS
    obtain ⟨locs, hlo⟩ : ∃ z : List Loc, z = [] := ⟨_, rfl⟩
    rw [← hlo] at hS ⊢
    refine lv_lload_n hx hb d_R_within_0 rfl (lv_at hl 1 rfl) ?_
    refine lv_lconst (v := 0) hx hb d_R_within_1 (by decide) ?_
    refine W.lcmp hx hb d_R_within_2 ?_
    refine lv_if_ge (tgt := 10) hx hb d_R_within_3 (by decide) (fun hc => ?_) (fun hc => ?_)
    · replace h := h.1 hc
      refine lv_lload_n hx hb d_R_within_10 rfl (lv_at hl 1 rfl) ?_
      refine lv_aload_n hx hb d_R_within_11 rfl (lv_at hl 0 rfl) ?_
      refine xx_calll (va_runV (As := []) (rest := [.long x1]) ⟨hx, hb, hml, hown, hw⟩ (c_R_lineEnd l D ca ad H.size S _ h) (cwV 0 hw (tG_g gl_R_139) rfl rfl rfl (by decide +kernel) ⟨Nat.le_of_ble_eq_true rfl, Nat.le_of_ble_eq_true rfl⟩) ⟨xPc.blind, va_recv hK hP rfl (q0 := 0) rfl, xPc.pre hK hN hP hD⟩ rfl rfl hl.1 rfl (lv_room (Nat.le_of_ble_eq_true rfl)) d_R_within_12 ⟨Nat.le_of_ble_eq_true rfl, Nat.le_of_ble_eq_true rfl⟩) hD hS hA (fun r1 S2 H locs h hP hD hS => ?_)
      refine W.lcmp hx hb d_R_within_15 ?_
      refine lv_if_le (tgt := 26) hx hb d_R_within_16 (by decide) (fun hc => ?_) (fun hc => ?_)
      · replace h := h.1 hc
        refine lv_lload_n hx hb d_R_within_26 rfl (lv_at hl 1 rfl) ?_
        exact W.lret (v := x1) hx hb hr (fun t ht hW => ⟨⟨x1, S2, rfl, h, by rw [ht]; exact hP, hD⟩, hS.F ht⟩) hS.2.2 d_R_within_27
      · replace h := h.2 hc
        refine lv_aload_n hx hb d_R_within_19 rfl (lv_at hl 0 rfl) ?_
        refine xx_calll (va_runV (As := []) (rest := []) ⟨hx, hb, hml, hown, hw⟩ (c_R_lineEnd l D ca ad H.size S2 _ h) (cwV 0 hw (tG_g gl_R_139) rfl rfl rfl (by decide +kernel) ⟨Nat.le_of_ble_eq_true rfl, Nat.le_of_ble_eq_true rfl⟩) ⟨xPc.blind, va_recv hK hP rfl (q0 := 0) rfl, xPc.pre hK hN hP hD⟩ rfl rfl hl.1 rfl (lv_room (Nat.le_of_ble_eq_true rfl)) d_R_within_20 ⟨Nat.le_of_ble_eq_true rfl, Nat.le_of_ble_eq_true rfl⟩) hD hS hA (fun r3 S4 H locs h hP hD hS => ?_)
        refine lv_goto (tgt := 27) hx hb d_R_within_23 (by decide) ?_
        exact W.lret (v := r3) hx hb hr (fun t ht hW => ⟨⟨r3, S4, rfl, h, by rw [ht]; exact hP, hD⟩, hS.F ht⟩) hS.2.2 d_R_within_27
    · replace h := h.2 hc
      refine lv_lconst (v := 0) hx hb d_R_within_6 (by decide) ?_
      refine lv_goto (tgt := 27) hx hb d_R_within_7 (by decide) ?_
      exact W.lret (v := 0) hx hb hr (fun t ht hW => ⟨⟨0, S, rfl, h, by rw [ht]; exact hP, hD⟩, hS.F ht⟩) hS.2.2 d_R_within_27
  exact hH9 _ rfl hP hS
theorem d_R_safe_0 : decode b_R_safe 0 = .ok (.aload_n 0, 1) := by decide +kernel
theorem d_R_safe_1 : decode b_R_safe 1 = .ok (.iload_n 1, 1) := by decide +kernel
theorem d_R_safe_2 : decode b_R_safe 2 = .ok (.aload_n 0, 1) := by decide +kernel
theorem d_R_safe_3 : decode b_R_safe 3 = .ok (.getfield 47, 3) := by decide +kernel
theorem d_R_safe_6 : decode b_R_safe 6 = .ok (.iload_n 1, 1) := by decide +kernel
theorem d_R_safe_7 : decode b_R_safe 7 = .ok (.laload, 1) := by decide +kernel
theorem d_R_safe_8 : decode b_R_safe 8 = .ok (.lload_n 2, 1) := by decide +kernel
theorem d_R_safe_9 : decode b_R_safe 9 = .ok (.lload 4, 2) := by decide +kernel
theorem d_R_safe_11 : decode b_R_safe 11 = .ok (.lload 6, 2) := by decide +kernel
theorem d_R_safe_13 : decode b_R_safe 13 = .ok (.lconst 0, 1) := by decide +kernel
theorem d_R_safe_14 : decode b_R_safe 14 = .ok (.invokevirtual 143, 3) := by decide +kernel
theorem d_R_safe_17 : decode b_R_safe 17 = .ok (.ifCond .ne 5, 3) := by decide +kernel
theorem d_R_safe_20 : decode b_R_safe 20 = .ok (.iconst 0, 1) := by decide +kernel
theorem d_R_safe_21 : decode b_R_safe 21 = .ok (.ireturn, 1) := by decide +kernel
theorem d_R_safe_22 : decode b_R_safe 22 = .ok (.iconst 0, 1) := by decide +kernel
theorem d_R_safe_23 : decode b_R_safe 23 = .ok (.istore 8, 2) := by decide +kernel
theorem d_R_safe_25 : decode b_R_safe 25 = .ok (.iload 8, 2) := by decide +kernel
theorem d_R_safe_27 : decode b_R_safe 27 = .ok (.aload_n 0, 1) := by decide +kernel
theorem d_R_safe_28 : decode b_R_safe 28 = .ok (.getfield 79, 3) := by decide +kernel
theorem d_R_safe_31 : decode b_R_safe 31 = .ok (.aload_n 0, 1) := by decide +kernel
theorem d_R_safe_32 : decode b_R_safe 32 = .ok (.getfield 86, 3) := by decide +kernel
theorem d_R_safe_35 : decode b_R_safe 35 = .ok (.iadd, 1) := by decide +kernel
theorem d_R_safe_36 : decode b_R_safe 36 = .ok (.if_icmp .ge 85, 3) := by decide +kernel
theorem d_R_safe_39 : decode b_R_safe 39 = .ok (.iload 8, 2) := by decide +kernel
theorem d_R_safe_41 : decode b_R_safe 41 = .ok (.aload_n 0, 1) := by decide +kernel
theorem d_R_safe_42 : decode b_R_safe 42 = .ok (.getfield 79, 3) := by decide +kernel
theorem d_R_safe_45 : decode b_R_safe 45 = .ok (.if_icmp .ge 13, 3) := by decide +kernel
theorem d_R_safe_48 : decode b_R_safe 48 = .ok (.aload_n 0, 1) := by decide +kernel
theorem d_R_safe_49 : decode b_R_safe 49 = .ok (.getfield 7, 3) := by decide +kernel
theorem d_R_safe_52 : decode b_R_safe 52 = .ok (.iload 8, 2) := by decide +kernel
theorem d_R_safe_54 : decode b_R_safe 54 = .ok (.laload, 1) := by decide +kernel
theorem d_R_safe_55 : decode b_R_safe 55 = .ok (.goto 15, 3) := by decide +kernel
theorem d_R_safe_58 : decode b_R_safe 58 = .ok (.aload_n 0, 1) := by decide +kernel
theorem d_R_safe_59 : decode b_R_safe 59 = .ok (.getfield 20, 3) := by decide +kernel
theorem d_R_safe_62 : decode b_R_safe 62 = .ok (.iload 8, 2) := by decide +kernel
theorem d_R_safe_64 : decode b_R_safe 64 = .ok (.aload_n 0, 1) := by decide +kernel
theorem d_R_safe_65 : decode b_R_safe 65 = .ok (.getfield 79, 3) := by decide +kernel
theorem d_R_safe_68 : decode b_R_safe 68 = .ok (.isub, 1) := by decide +kernel
theorem d_R_safe_69 : decode b_R_safe 69 = .ok (.laload, 1) := by decide +kernel
theorem d_R_safe_70 : decode b_R_safe 70 = .ok (.lstore 9, 2) := by decide +kernel
theorem d_R_safe_72 : decode b_R_safe 72 = .ok (.lload 9, 2) := by decide +kernel
theorem d_R_safe_74 : decode b_R_safe 74 = .ok (.lload_n 2, 1) := by decide +kernel
theorem d_R_safe_75 : decode b_R_safe 75 = .ok (.lload 4, 2) := by decide +kernel
theorem d_R_safe_77 : decode b_R_safe 77 = .ok (.ladd, 1) := by decide +kernel
theorem d_R_safe_78 : decode b_R_safe 78 = .ok (.lcmp, 1) := by decide +kernel
theorem d_R_safe_79 : decode b_R_safe 79 = .ok (.ifCond .le 36, 3) := by decide +kernel
theorem d_R_safe_82 : decode b_R_safe 82 = .ok (.lload 9, 2) := by decide +kernel
theorem d_R_safe_84 : decode b_R_safe 84 = .ok (.aload_n 0, 1) := by decide +kernel
theorem d_R_safe_85 : decode b_R_safe 85 = .ok (.invokevirtual 139, 3) := by decide +kernel
theorem d_R_safe_88 : decode b_R_safe 88 = .ok (.lcmp, 1) := by decide +kernel
theorem d_R_safe_89 : decode b_R_safe 89 = .ok (.ifCond .gt 26, 3) := by decide +kernel
theorem d_R_safe_92 : decode b_R_safe 92 = .ok (.aload_n 0, 1) := by decide +kernel
theorem d_R_safe_93 : decode b_R_safe 93 = .ok (.iload_n 1, 1) := by decide +kernel
theorem d_R_safe_94 : decode b_R_safe 94 = .ok (.lload 9, 2) := by decide +kernel
theorem d_R_safe_96 : decode b_R_safe 96 = .ok (.lload_n 2, 1) := by decide +kernel
theorem d_R_safe_97 : decode b_R_safe 97 = .ok (.lload 4, 2) := by decide +kernel
theorem d_R_safe_99 : decode b_R_safe 99 = .ok (.lload 6, 2) := by decide +kernel
theorem d_R_safe_101 : decode b_R_safe 101 = .ok (.aload_n 0, 1) := by decide +kernel
theorem d_R_safe_102 : decode b_R_safe 102 = .ok (.lload 9, 2) := by decide +kernel
theorem d_R_safe_104 : decode b_R_safe 104 = .ok (.invokevirtual 147, 3) := by decide +kernel
theorem d_R_safe_107 : decode b_R_safe 107 = .ok (.invokevirtual 143, 3) := by decide +kernel
theorem d_R_safe_110 : decode b_R_safe 110 = .ok (.ifCond .ne 5, 3) := by decide +kernel
theorem d_R_safe_113 : decode b_R_safe 113 = .ok (.iconst 0, 1) := by decide +kernel
theorem d_R_safe_114 : decode b_R_safe 114 = .ok (.ireturn, 1) := by decide +kernel
theorem d_R_safe_115 : decode b_R_safe 115 = .ok (.iinc 8 1, 3) := by decide +kernel
theorem d_R_safe_118 : decode b_R_safe 118 = .ok (.goto (-93), 3) := by decide +kernel
theorem d_R_safe_121 : decode b_R_safe 121 = .ok (.lload 6, 2) := by decide +kernel
theorem d_R_safe_123 : decode b_R_safe 123 = .ok (.aload_n 0, 1) := by decide +kernel
theorem d_R_safe_124 : decode b_R_safe 124 = .ok (.aload_n 0, 1) := by decide +kernel
theorem d_R_safe_125 : decode b_R_safe 125 = .ok (.lload_n 2, 1) := by decide +kernel
theorem d_R_safe_126 : decode b_R_safe 126 = .ok (.lload 4, 2) := by decide +kernel
theorem d_R_safe_128 : decode b_R_safe 128 = .ok (.ladd, 1) := by decide +kernel
theorem d_R_safe_129 : decode b_R_safe 129 = .ok (.invokevirtual 151, 3) := by decide +kernel
theorem d_R_safe_132 : decode b_R_safe 132 = .ok (.invokevirtual 147, 3) := by decide +kernel
theorem d_R_safe_135 : decode b_R_safe 135 = .ok (.lcmp, 1) := by decide +kernel
theorem d_R_safe_136 : decode b_R_safe 136 = .ok (.ifCond .gt 29, 3) := by decide +kernel
theorem d_R_safe_139 : decode b_R_safe 139 = .ok (.lload 6, 2) := by decide +kernel
theorem d_R_safe_141 : decode b_R_safe 141 = .ok (.aload_n 0, 1) := by decide +kernel
theorem d_R_safe_142 : decode b_R_safe 142 = .ok (.aload_n 0, 1) := by decide +kernel
theorem d_R_safe_143 : decode b_R_safe 143 = .ok (.lload_n 2, 1) := by decide +kernel
theorem d_R_safe_144 : decode b_R_safe 144 = .ok (.aload_n 0, 1) := by decide +kernel
theorem d_R_safe_145 : decode b_R_safe 145 = .ok (.getfield 29, 3) := by decide +kernel
theorem d_R_safe_148 : decode b_R_safe 148 = .ok (.iload_n 1, 1) := by decide +kernel
theorem d_R_safe_149 : decode b_R_safe 149 = .ok (.laload, 1) := by decide +kernel
theorem d_R_safe_150 : decode b_R_safe 150 = .ok (.lsub, 1) := by decide +kernel
theorem d_R_safe_151 : decode b_R_safe 151 = .ok (.invokevirtual 151, 3) := by decide +kernel
theorem d_R_safe_154 : decode b_R_safe 154 = .ok (.invokevirtual 147, 3) := by decide +kernel
theorem d_R_safe_157 : decode b_R_safe 157 = .ok (.lcmp, 1) := by decide +kernel
theorem d_R_safe_158 : decode b_R_safe 158 = .ok (.ifCond .gt 7, 3) := by decide +kernel
theorem d_R_safe_161 : decode b_R_safe 161 = .ok (.iconst 1, 1) := by decide +kernel
theorem d_R_safe_162 : decode b_R_safe 162 = .ok (.goto 4, 3) := by decide +kernel
theorem d_R_safe_165 : decode b_R_safe 165 = .ok (.iconst 0, 1) := by decide +kernel
theorem d_R_safe_166 : decode b_R_safe 166 = .ok (.ireturn, 1) := by decide +kernel
theorem gl_R_143 : ∀ w ∈ wsV "TrainGuardModel" 143 "TrainGuardModel" y_R_safeFor (Cond.code y_R_safeFor b_R_safeFor 14 (some Jvm.ClassFile.FieldType.boolean) :: tG), w ∈ tG := by
  intro x hx
  simp only [wsV, List.cons_append, List.nil_append, List.mem_cons] at hx
  rcases hx with rfl | rfl | rfl | rfl | rfl | hx
  · exact wd_743
  · exact wd_745
  · exact ws_25
  · exact wd_5
  · exact wd_746
  · exact hx
theorem gl_R_151 : ∀ w ∈ wsV "TrainGuardModel" 151 "TrainGuardModel" y_R_within (Cond.code y_R_within b_R_within 3 (some Jvm.ClassFile.FieldType.long) :: tG), w ∈ tG := by
  intro x hx
  simp only [wsV, List.cons_append, List.nil_append, List.mem_cons] at hx
  rcases hx with rfl | rfl | rfl | rfl | rfl | hx
  · exact wd_764
  · exact wd_766
  · exact ws_29
  · exact wd_5
  · exact wd_767
  · exact hx
theorem gl_R_147 : ∀ w ∈ wsV "TrainGuardModel" 147 "TrainGuardModel" y_R_limitAt (Cond.code y_R_limitAt b_R_limitAt 6 (some Jvm.ClassFile.FieldType.long) :: tG), w ∈ tG := by
  intro x hx
  simp only [wsV, List.cons_append, List.nil_append, List.mem_cons] at hx
  rcases hx with rfl | rfl | rfl | rfl | rfl | hx
  · exact wd_756
  · exact wd_758
  · exact ws_27
  · exact wd_5
  · exact wd_759
  · exact hx
def w_R_safe_115 (K25 : SR → Int32 → Int64 → Int64 → Int64 → Int32 → Prop) (S : SR) (y1 : Int32) (y2 : Int64) (y4 : Int64) (y6 : Int64) (y8 : Int32) (Q : Int32 → SR → Prop) : Prop := K25 S y1 y2 y4 y6 (y8 + 1)
def w_R_safe_70 (K25 : SR → Int32 → Int64 → Int64 → Int64 → Int32 → Prop) (S : SR) (y1 : Int32) (y2 : Int64) (y4 : Int64) (y6 : Int64) (y8 : Int32) (ys0 : Int64) (Q : Int32 → SR → Prop) : Prop := ∀ b15 : Int64, b15 = y2 + y4 → ((((lg_cmp ys0 b15) ≤ 0) → (w_R_safe_115 K25 S y1 y2 y4 y6 y8 Q)) ∧ ((¬ (lg_cmp ys0 b15) ≤ 0) → (w_R_lineEnd S (fun r16 S17 => ((0 < (lg_cmp ys0 r16)) → (w_R_safe_115 K25 S17 y1 y2 y4 y6 y8 Q)) ∧ ((¬ 0 < (lg_cmp ys0 r16)) → (w_R_limitAt S17 ys0 (fun r18 S19 => w_R_safeFor S19 y1 ys0 y2 y4 y6 r18 (fun r20 S21 => ((¬ r20 = 0) → (w_R_safe_115 K25 S21 y1 y2 y4 y6 y8 Q)) ∧ ((r20 = 0) → (Q 0 S21))))))))))
def w_R_safe_25 : Nat → SR → Int32 → Int64 → Int64 → Int64 → Int32 → (Int32 → SR → Prop) → Prop
  | 0 => fun _ _ _ _ _ _ _ => False
  | n + 1 => fun S y1 y2 y4 y6 y8 Q => (∀ a3 : Int32, a3 = (S.1 1 0) + (S.1 2 0) → (((a3 ≤ y8) → (∀ b4 : Int64, b4 = y2 + y4 → (w_R_within S b4 (fun r5 S6 => w_R_limitAt S6 r5 (fun r7 S8 => ((0 < (lg_cmp y6 r7)) → (Q 0 S8)) ∧ ((¬ 0 < (lg_cmp y6 r7)) → (vp_in y1 3 ∧ (∀ b9 : Int64, b9 = y2 - (S8.2 5 y1.toNatClampNeg) → (w_R_within S8 b9 (fun r10 S11 => w_R_limitAt S11 r10 (fun r12 S13 => ((0 < (lg_cmp y6 r12)) → (Q 0 S13)) ∧ ((¬ 0 < (lg_cmp y6 r12)) → (Q 1 S13))))))))))))) ∧ ((¬ a3 ≤ y8) → ((((S.1 1 0) ≤ y8) → (∀ a14 : Int32, a14 = y8 - (S.1 1 0) → (vp_in a14 5 ∧ (w_R_safe_70 (fun S9 z0 z1 z2 z3 z4 => w_R_safe_25 n S9 z0 z1 z2 z3 z4 Q) S y1 y2 y4 y6 y8 (S.2 2 a14.toNatClampNeg) Q)))) ∧ ((¬ (S.1 1 0) ≤ y8) → (vp_in y8 11 ∧ (w_R_safe_70 (fun S9 z0 z1 z2 z3 z4 => w_R_safe_25 n S9 z0 z1 z2 z3 z4 Q) S y1 y2 y4 y6 y8 (S.2 0 y8.toNatClampNeg) Q)))))))
def w_R_safe (S : SR) (x1 : Int32) (x2 : Int64) (x3 : Int64) (x4 : Int64) (Q : Int32 → SR → Prop) : Prop := vp_in x1 3 ∧ (w_R_safeFor S x1 (S.2 11 x1.toNatClampNeg) x2 x3 x4 0 (fun r1 S2 => ((¬ r1 = 0) → (∃ n : Nat, w_R_safe_25 n S2 x1 x2 x3 x4 0 Q)) ∧ ((r1 = 0) → (Q 0 S2))))
set_option maxRecDepth 100000 in
set_option maxHeartbeats 4000000 in
theorem c_R_safe (l : Launch) (D : va_G) (ca : Nat → ClassId) (ad : Nat → Nat) (sz : Nat) (S : SR) (x1 : Int32) (x2 : Int64) (x3 : Int64) (x4 : Int64)  (Q : Int32 → SR → Prop) (h : w_R_safe S x1 x2 x3 x4 Q) : Met l y_R_safe (Cond.code y_R_safe b_R_safe 11 (some Jvm.ClassFile.FieldType.boolean) :: tG) ({ frames := 2, cells := 0, slots := 0, locals := 64 } : Room) (xPc D ca (wR ca ad) S sz [.ref (ad 0), .int x1, .long x2, .long x3, .long x4]) (va_Qi Q (xAt D (wR ca ad) (va_A (wR ca ad S) sz)) (va_A (wR ca ad S) sz)) 0 0 (va_A (wR ca ad S) sz) := by
  refine xx_met (Qf := fun A => va_Qi Q (xAt D (wR ca ad) A) A) (by decide) (Nat.le_of_ble_eq_true rfl) ?_
  intro p e s m args below meth c A ls hx hb hr hw hown hlocks hml hK hN hA hP hD hS hl
  have hown : s.vm.findClass "TrainGuardModel" = some m.cls := hown
  have hl : lv_has ls 11 [(0, .ref (ad 0)), (1, .int x1), (2, .long x2), (4, .long x3), (6, .long x4)] := hl
  unfold w_R_safe at h
  have bk_115 : ∀ (K25 : SR → Int32 → Int64 → Int64 → Int64 → Int32 → Prop) (hK25 : ∀ (S : SR) (y1 : Int32) (y2 : Int64) (y4 : Int64) (y6 : Int64) (y8 : Int32) (H : Heap) (locs : List Loc) , va_P D cls (wR ca ad S) H → va_D A (wR ca ad S) → va_S A s.heap H locs → ∀ (ls : Array Slot), lv_has ls 11 [(0, .ref (ad 0)), (1, .int y1), (2, .long y2), (4, .long y4), (6, .long y6), (8, .int y8)] → K25 S y1 y2 y4 y6 y8 → W p l e ({ frames := 2, cells := 0, slots := 0, locals := 64 } : Room) s m args below meth c H locs 0 0 (MQ below ((fun A => va_Qi Q (xAt D (wR ca ad) A) A) A) args s 0 0 A) (F0 m 25 ls [])) (S : SR) (y1 : Int32) (y2 : Int64) (y4 : Int64) (y6 : Int64) (y8 : Int32) (H : Heap) (locs : List Loc) , va_P D cls (wR ca ad S) H → va_D A (wR ca ad S) → va_S A s.heap H locs → ∀ (ls : Array Slot), lv_has ls 11 [(0, .ref (ad 0)), (1, .int y1), (2, .long y2), (4, .long y4), (6, .long y6), (8, .int y8)] → w_R_safe_115 K25 S y1 y2 y4 y6 y8 Q → W p l e ({ frames := 2, cells := 0, slots := 0, locals := 64 } : Room) s m args below meth c H locs 0 0 (MQ below ((fun A => va_Qi Q (xAt D (wR ca ad) A) A) A) args s 0 0 A) (F0 m 115 ls []) := by
    intro K25 hK25 S y1 y2 y4 y6 y8 H locs hP hD hS ls hl h
    unfold w_R_safe_115 at h
    refine lv_iinc (v := (y8 + 1)) (lv' := [(8, .int (y8 + 1)), (0, .ref (ad 0)), (1, .int y1), (2, .long y2), (4, .long y4), (6, .long y6)]) hx hb d_R_safe_115 hl (k := 5) rfl rfl (by decide) rfl (fun ls hl => ?_)
    refine lv_goto (tgt := 25) hx hb d_R_safe_118 (by decide) ?_
    exact hK25 S y1 y2 y4 y6 (y8 + 1) H locs hP hD hS ls (lv_sub hl [1, 2, 3, 4, 5, 0] rfl) h
  have bk_70 : ∀ (K25 : SR → Int32 → Int64 → Int64 → Int64 → Int32 → Prop) (hK25 : ∀ (S : SR) (y1 : Int32) (y2 : Int64) (y4 : Int64) (y6 : Int64) (y8 : Int32) (H : Heap) (locs : List Loc) , va_P D cls (wR ca ad S) H → va_D A (wR ca ad S) → va_S A s.heap H locs → ∀ (ls : Array Slot), lv_has ls 11 [(0, .ref (ad 0)), (1, .int y1), (2, .long y2), (4, .long y4), (6, .long y6), (8, .int y8)] → K25 S y1 y2 y4 y6 y8 → W p l e ({ frames := 2, cells := 0, slots := 0, locals := 64 } : Room) s m args below meth c H locs 0 0 (MQ below ((fun A => va_Qi Q (xAt D (wR ca ad) A) A) A) args s 0 0 A) (F0 m 25 ls [])) (S : SR) (y1 : Int32) (y2 : Int64) (y4 : Int64) (y6 : Int64) (y8 : Int32) (ys0 : Int64) (H : Heap) (locs : List Loc) , va_P D cls (wR ca ad S) H → va_D A (wR ca ad S) → va_S A s.heap H locs → ∀ (ls : Array Slot), lv_has ls 11 [(0, .ref (ad 0)), (1, .int y1), (2, .long y2), (4, .long y4), (6, .long y6), (8, .int y8)] → w_R_safe_70 K25 S y1 y2 y4 y6 y8 ys0 Q → W p l e ({ frames := 2, cells := 0, slots := 0, locals := 64 } : Room) s m args below meth c H locs 0 0 (MQ below ((fun A => va_Qi Q (xAt D (wR ca ad) A) A) A) args s 0 0 A) (F0 m 70 ls [.long ys0]) := by
    intro K25 hK25 S y1 y2 y4 y6 y8 ys0 H locs hP hD hS ls hl h
    unfold w_R_safe_70 at h
    refine lv_lstore (lv' := [(9, .long ys0), (0, .ref (ad 0)), (1, .int y1), (2, .long y2), (4, .long y4), (6, .long y6), (8, .int y8)]) hx hb d_R_safe_70 hl (by decide) rfl (fun ls hl => ?_)
    refine lv_lload hx hb d_R_safe_72 (lv_at hl 0 rfl) ?_
    refine lv_lload_n hx hb d_R_safe_74 rfl (lv_at hl 3 rfl) ?_
    refine lv_lload hx hb d_R_safe_75 (lv_at hl 4 rfl) ?_
    refine lv_ladd hx hb d_R_safe_77 ?_
    refine lv_topl (fun b15 e_b15 => ?_)
    replace h := h b15 e_b15
    refine W.lcmp hx hb d_R_safe_78 ?_
    refine lv_if_le (tgt := 115) hx hb d_R_safe_79 (by decide) (fun hc => ?_) (fun hc => ?_)
    · replace h := h.1 hc
      exact bk_115 K25 hK25 S y1 y2 y4 y6 y8 H locs hP hD hS ls (lv_sub hl [1, 2, 3, 4, 5, 6] rfl) h
    · replace h := h.2 hc
      refine lv_lload hx hb d_R_safe_82 (lv_at hl 0 rfl) ?_
      refine lv_aload_n hx hb d_R_safe_84 rfl (lv_at hl 1 rfl) ?_
      refine xx_calll (va_runV (As := []) (rest := [.long ys0]) ⟨hx, hb, hml, hown, hw⟩ (c_R_lineEnd l D ca ad H.size S _ h) (cwV 0 hw (tG_g gl_R_139) rfl rfl rfl (by decide +kernel) ⟨Nat.le_of_ble_eq_true rfl, Nat.le_of_ble_eq_true rfl⟩) ⟨xPc.blind, va_recv hK hP rfl (q0 := 0) rfl, xPc.pre hK hN hP hD⟩ rfl rfl hl.1 rfl (lv_room (Nat.le_of_ble_eq_true rfl)) d_R_safe_85 ⟨Nat.le_of_ble_eq_true rfl, Nat.le_of_ble_eq_true rfl⟩) hD hS hA (fun r16 S17 H locs h hP hD hS => ?_)
      refine W.lcmp hx hb d_R_safe_88 ?_
      refine lv_if_gt (tgt := 115) hx hb d_R_safe_89 (by decide) (fun hc => ?_) (fun hc => ?_)
      · replace h := h.1 hc
        exact bk_115 K25 hK25 S17 y1 y2 y4 y6 y8 H locs hP hD hS ls (lv_sub hl [1, 2, 3, 4, 5, 6] rfl) h
      · replace h := h.2 hc
        refine lv_aload_n hx hb d_R_safe_92 rfl (lv_at hl 1 rfl) ?_
        refine lv_iload_n hx hb d_R_safe_93 rfl (lv_at hl 2 rfl) ?_
        refine lv_lload hx hb d_R_safe_94 (lv_at hl 0 rfl) ?_
        refine lv_lload_n hx hb d_R_safe_96 rfl (lv_at hl 3 rfl) ?_
        refine lv_lload hx hb d_R_safe_97 (lv_at hl 4 rfl) ?_
        refine lv_lload hx hb d_R_safe_99 (lv_at hl 5 rfl) ?_
        refine lv_aload_n hx hb d_R_safe_101 rfl (lv_at hl 1 rfl) ?_
        refine lv_lload hx hb d_R_safe_102 (lv_at hl 0 rfl) ?_
        refine xx_calll (xx_runVW 12 (As := [.long ys0]) (rest := [.long y6, .long y4, .long y2, .long ys0, .int y1, .ref (ad 0)]) ⟨hx, hb, hml, hown, hw⟩ (c_R_limitAt l D ca ad H.size S17 ys0 _ h) (cwV 1 hw (tG_g gl_R_147) rfl rfl rfl (by decide +kernel) ⟨Nat.le_of_ble_eq_true rfl, Nat.le_of_ble_eq_true rfl⟩) ⟨xPc.blind, va_recv hK hP rfl (q0 := 0) rfl, xPc.pre hK hN hP hD⟩ rfl rfl hl.1 rfl (Nat.le_of_ble_eq_true rfl) (Nat.le_of_ble_eq_true rfl) d_R_safe_104 ⟨Nat.le_of_ble_eq_true rfl, Nat.le_of_ble_eq_true rfl⟩) hD hS hA (fun r18 S19 H locs h hP hD hS => ?_)
        refine xx_calli (va_runV (As := [.int y1, .long ys0, .long y2, .long y4, .long y6, .long r18]) (rest := []) ⟨hx, hb, hml, hown, hw⟩ (c_R_safeFor l D ca ad H.size S19 y1 ys0 y2 y4 y6 r18 _ h) (cwV 6 hw (tG_g gl_R_143) rfl rfl rfl (by decide +kernel) ⟨Nat.le_of_ble_eq_true rfl, Nat.le_of_ble_eq_true rfl⟩) ⟨xPc.blind, va_recv hK hP rfl (q0 := 0) rfl, xPc.pre hK hN hP hD⟩ rfl rfl hl.1 rfl (lv_room (Nat.le_of_ble_eq_true rfl)) d_R_safe_107 ⟨Nat.le_of_ble_eq_true rfl, Nat.le_of_ble_eq_true rfl⟩) hD hS hA (fun r20 S21 H locs h hP hD hS => ?_)
        refine lv_if_ne (tgt := 115) hx hb d_R_safe_110 (by decide) (fun hc => ?_) (fun hc => ?_)
        · replace h := h.1 hc
          exact bk_115 K25 hK25 S21 y1 y2 y4 y6 y8 H locs hP hD hS ls (lv_sub hl [1, 2, 3, 4, 5, 6] rfl) h
        · replace h := h.2 hc
          refine lv_iconst (v := 0) hx hb d_R_safe_113 (by decide) ?_
          exact W.zret (v := 0) hx hb hr rfl (fun t ht hW => ⟨⟨0, S21, rfl, h, by rw [ht]; exact hP, hD⟩, hS.F ht⟩) hS.2.2 d_R_safe_114
  have bk_25 : ∀ (n9 : Nat) (S : SR) (y1 : Int32) (y2 : Int64) (y4 : Int64) (y6 : Int64) (y8 : Int32) (H : Heap) (locs : List Loc) , va_P D cls (wR ca ad S) H → va_D A (wR ca ad S) → va_S A s.heap H locs → ∀ (ls : Array Slot), lv_has ls 11 [(0, .ref (ad 0)), (1, .int y1), (2, .long y2), (4, .long y4), (6, .long y6), (8, .int y8)] → w_R_safe_25 n9 S y1 y2 y4 y6 y8 Q → W p l e ({ frames := 2, cells := 0, slots := 0, locals := 64 } : Room) s m args below meth c H locs 0 0 (MQ below ((fun A => va_Qi Q (xAt D (wR ca ad) A) A) A) args s 0 0 A) (F0 m 25 ls []) := by
    intro n9
    induction n9 with
    | zero => intro S y1 y2 y4 y6 y8 H locs hP hD hS ls hl h; exact absurd h id
    | succ n9 hK25 =>
      intro S y1 y2 y4 y6 y8 H locs hP hD hS ls hl h
      replace h : ∀ a3 : Int32, a3 = (S.1 1 0) + (S.1 2 0) → (((a3 ≤ y8) → (∀ b4 : Int64, b4 = y2 + y4 → (w_R_within S b4 (fun r5 S6 => w_R_limitAt S6 r5 (fun r7 S8 => ((0 < (lg_cmp y6 r7)) → (Q 0 S8)) ∧ ((¬ 0 < (lg_cmp y6 r7)) → (vp_in y1 3 ∧ (∀ b9 : Int64, b9 = y2 - (S8.2 5 y1.toNatClampNeg) → (w_R_within S8 b9 (fun r10 S11 => w_R_limitAt S11 r10 (fun r12 S13 => ((0 < (lg_cmp y6 r12)) → (Q 0 S13)) ∧ ((¬ 0 < (lg_cmp y6 r12)) → (Q 1 S13))))))))))))) ∧ ((¬ a3 ≤ y8) → ((((S.1 1 0) ≤ y8) → (∀ a14 : Int32, a14 = y8 - (S.1 1 0) → (vp_in a14 5 ∧ (w_R_safe_70 (fun S9 z0 z1 z2 z3 z4 => w_R_safe_25 n9 S9 z0 z1 z2 z3 z4 Q) S y1 y2 y4 y6 y8 (S.2 2 a14.toNatClampNeg) Q)))) ∧ ((¬ (S.1 1 0) ≤ y8) → (vp_in y8 11 ∧ (w_R_safe_70 (fun S9 z0 z1 z2 z3 z4 => w_R_safe_25 n9 S9 z0 z1 z2 z3 z4 Q) S y1 y2 y4 y6 y8 (S.2 0 y8.toNatClampNeg) Q)))))) := h
      refine lv_iload hx hb d_R_safe_25 (lv_at hl 5 rfl) ?_
      refine lv_aload_n hx hb d_R_safe_27 rfl (lv_at hl 0 rfl) ?_
      refine va_get (D := D) (ci := 4) (v := .int (S.1 1 0)) (C := Rc_R) (T := Fc_R) (N := 25) hx hb hw inc_R hown hK hP 0 rfl rfl 1 (by decide) (hw _ wd_592) (fun _ h9 => h9) rfl d_R_safe_28 ?_
      refine lv_aload_n hx hb d_R_safe_31 rfl (lv_at hl 0 rfl) ?_
      refine va_get (D := D) (ci := 4) (v := .int (S.1 2 0)) (C := Rc_R) (T := Fc_R) (N := 25) hx hb hw inc_R hown hK hP 0 rfl rfl 5 (by decide) (hw _ wd_596) (fun _ h9 => h9) rfl d_R_safe_32 ?_
      refine lv_iadd hx hb d_R_safe_35 ?_
      refine lv_topi (fun a3 e_a3 => ?_)
      replace h := h a3 e_a3
      refine lv_icmp_ge (tgt := 121) hx hb d_R_safe_36 (by decide) (fun hc => ?_) (fun hc => ?_)
      · replace h := h.1 hc
        refine lv_lload hx hb d_R_safe_121 (lv_at hl 4 rfl) ?_
        refine lv_aload_n hx hb d_R_safe_123 rfl (lv_at hl 0 rfl) ?_
        refine lv_aload_n hx hb d_R_safe_124 rfl (lv_at hl 0 rfl) ?_
        refine lv_lload_n hx hb d_R_safe_125 rfl (lv_at hl 2 rfl) ?_
        refine lv_lload hx hb d_R_safe_126 (lv_at hl 3 rfl) ?_
        refine lv_ladd hx hb d_R_safe_128 ?_
        refine lv_topl (fun b4 e_b4 => ?_)
        replace h := h b4 e_b4
        refine xx_calll (va_runV (As := [.long b4]) (rest := [.ref (ad 0), .long y6]) ⟨hx, hb, hml, hown, hw⟩ (c_R_within l D ca ad H.size S b4 _ h) (cwV 1 hw (tG_g gl_R_151) rfl rfl rfl (by decide +kernel) ⟨Nat.le_of_ble_eq_true rfl, Nat.le_of_ble_eq_true rfl⟩) ⟨xPc.blind, va_recv hK hP rfl (q0 := 0) rfl, xPc.pre hK hN hP hD⟩ rfl rfl hl.1 rfl (lv_room (Nat.le_of_ble_eq_true rfl)) d_R_safe_129 ⟨Nat.le_of_ble_eq_true rfl, Nat.le_of_ble_eq_true rfl⟩) hD hS hA (fun r5 S6 H locs h hP hD hS => ?_)
        refine xx_calll (va_runV (As := [.long r5]) (rest := [.long y6]) ⟨hx, hb, hml, hown, hw⟩ (c_R_limitAt l D ca ad H.size S6 r5 _ h) (cwV 1 hw (tG_g gl_R_147) rfl rfl rfl (by decide +kernel) ⟨Nat.le_of_ble_eq_true rfl, Nat.le_of_ble_eq_true rfl⟩) ⟨xPc.blind, va_recv hK hP rfl (q0 := 0) rfl, xPc.pre hK hN hP hD⟩ rfl rfl hl.1 rfl (lv_room (Nat.le_of_ble_eq_true rfl)) d_R_safe_132 ⟨Nat.le_of_ble_eq_true rfl, Nat.le_of_ble_eq_true rfl⟩) hD hS hA (fun r7 S8 H locs h hP hD hS => ?_)
        refine W.lcmp hx hb d_R_safe_135 ?_
        refine lv_if_gt (tgt := 165) hx hb d_R_safe_136 (by decide) (fun hc => ?_) (fun hc => ?_)
        · replace h := h.1 hc
          refine lv_iconst (v := 0) hx hb d_R_safe_165 (by decide) ?_
          exact W.zret (v := 0) hx hb hr rfl (fun t ht hW => ⟨⟨0, S8, rfl, h, by rw [ht]; exact hP, hD⟩, hS.F ht⟩) hS.2.2 d_R_safe_166
        · replace h := h.2 hc
          refine lv_lload hx hb d_R_safe_139 (lv_at hl 4 rfl) ?_
          refine lv_aload_n hx hb d_R_safe_141 rfl (lv_at hl 0 rfl) ?_
          refine lv_aload_n hx hb d_R_safe_142 rfl (lv_at hl 0 rfl) ?_
          refine lv_lload_n hx hb d_R_safe_143 rfl (lv_at hl 2 rfl) ?_
          refine lv_aload_n hx hb d_R_safe_144 rfl (lv_at hl 0 rfl) ?_
          refine va_get (D := D) (ci := 4) (v := .ref (ad 7)) (C := Rc_R) (T := Fc_R) (N := 25) hx hb hw inc_R hown hK hP 0 rfl rfl 10 (by decide) (hw _ wd_601) (fun _ h9 => h9) rfl d_R_safe_145 ?_
          refine lv_iload_n hx hb d_R_safe_148 rfl (lv_at hl 1 rfl) ?_
          obtain ⟨hq, h⟩ := h
          refine va_lald (D := D) hx hb hK hP 7 1 rfl rfl hq d_R_safe_149 ?_
          refine lv_lsub hx hb d_R_safe_150 ?_
          refine lv_topl (fun b9 e_b9 => ?_)
          replace h := h b9 e_b9
          refine xx_calll (va_runV (As := [.long b9]) (rest := [.ref (ad 0), .long y6]) ⟨hx, hb, hml, hown, hw⟩ (c_R_within l D ca ad H.size S8 b9 _ h) (cwV 1 hw (tG_g gl_R_151) rfl rfl rfl (by decide +kernel) ⟨Nat.le_of_ble_eq_true rfl, Nat.le_of_ble_eq_true rfl⟩) ⟨xPc.blind, va_recv hK hP rfl (q0 := 0) rfl, xPc.pre hK hN hP hD⟩ rfl rfl hl.1 rfl (lv_room (Nat.le_of_ble_eq_true rfl)) d_R_safe_151 ⟨Nat.le_of_ble_eq_true rfl, Nat.le_of_ble_eq_true rfl⟩) hD hS hA (fun r10 S11 H locs h hP hD hS => ?_)
          refine xx_calll (va_runV (As := [.long r10]) (rest := [.long y6]) ⟨hx, hb, hml, hown, hw⟩ (c_R_limitAt l D ca ad H.size S11 r10 _ h) (cwV 1 hw (tG_g gl_R_147) rfl rfl rfl (by decide +kernel) ⟨Nat.le_of_ble_eq_true rfl, Nat.le_of_ble_eq_true rfl⟩) ⟨xPc.blind, va_recv hK hP rfl (q0 := 0) rfl, xPc.pre hK hN hP hD⟩ rfl rfl hl.1 rfl (lv_room (Nat.le_of_ble_eq_true rfl)) d_R_safe_154 ⟨Nat.le_of_ble_eq_true rfl, Nat.le_of_ble_eq_true rfl⟩) hD hS hA (fun r12 S13 H locs h hP hD hS => ?_)
          refine W.lcmp hx hb d_R_safe_157 ?_
          refine lv_if_gt (tgt := 165) hx hb d_R_safe_158 (by decide) (fun hc => ?_) (fun hc => ?_)
          · replace h := h.1 hc
            refine lv_iconst (v := 0) hx hb d_R_safe_165 (by decide) ?_
            exact W.zret (v := 0) hx hb hr rfl (fun t ht hW => ⟨⟨0, S13, rfl, h, by rw [ht]; exact hP, hD⟩, hS.F ht⟩) hS.2.2 d_R_safe_166
          · replace h := h.2 hc
            refine lv_iconst (v := 1) hx hb d_R_safe_161 (by decide) ?_
            refine lv_goto (tgt := 166) hx hb d_R_safe_162 (by decide) ?_
            exact W.zret (v := 1) hx hb hr rfl (fun t ht hW => ⟨⟨1, S13, rfl, h, by rw [ht]; exact hP, hD⟩, hS.F ht⟩) hS.2.2 d_R_safe_166
      · replace h := h.2 hc
        refine lv_iload hx hb d_R_safe_39 (lv_at hl 5 rfl) ?_
        refine lv_aload_n hx hb d_R_safe_41 rfl (lv_at hl 0 rfl) ?_
        refine va_get (D := D) (ci := 4) (v := .int (S.1 1 0)) (C := Rc_R) (T := Fc_R) (N := 25) hx hb hw inc_R hown hK hP 0 rfl rfl 1 (by decide) (hw _ wd_592) (fun _ h9 => h9) rfl d_R_safe_42 ?_
        refine lv_icmp_ge (tgt := 58) hx hb d_R_safe_45 (by decide) (fun hc => ?_) (fun hc => ?_)
        · replace h := h.1 hc
          refine lv_aload_n hx hb d_R_safe_58 rfl (lv_at hl 0 rfl) ?_
          refine va_get (D := D) (ci := 4) (v := .ref (ad 4)) (C := Rc_R) (T := Fc_R) (N := 25) hx hb hw inc_R hown hK hP 0 rfl rfl 6 (by decide) (hw _ wd_597) (fun _ h9 => h9) rfl d_R_safe_59 ?_
          refine lv_iload hx hb d_R_safe_62 (lv_at hl 5 rfl) ?_
          refine lv_aload_n hx hb d_R_safe_64 rfl (lv_at hl 0 rfl) ?_
          refine va_get (D := D) (ci := 4) (v := .int (S.1 1 0)) (C := Rc_R) (T := Fc_R) (N := 25) hx hb hw inc_R hown hK hP 0 rfl rfl 1 (by decide) (hw _ wd_592) (fun _ h9 => h9) rfl d_R_safe_65 ?_
          refine lv_isub hx hb d_R_safe_68 ?_
          refine lv_topi (fun a14 e_a14 => ?_)
          replace h := h a14 e_a14
          obtain ⟨hq, h⟩ := h
          refine va_lald (D := D) hx hb hK hP 4 1 rfl rfl hq d_R_safe_69 ?_
          exact bk_70 (fun S9 z0 z1 z2 z3 z4 => w_R_safe_25 n9 S9 z0 z1 z2 z3 z4 Q) hK25 S y1 y2 y4 y6 y8 (S.2 2 a14.toNatClampNeg) H locs hP hD hS ls (lv_sub hl [0, 1, 2, 3, 4, 5] rfl) h
        · replace h := h.2 hc
          refine lv_aload_n hx hb d_R_safe_48 rfl (lv_at hl 0 rfl) ?_
          refine va_get (D := D) (ci := 4) (v := .ref (ad 1)) (C := Rc_R) (T := Fc_R) (N := 25) hx hb hw inc_R hown hK hP 0 rfl rfl 2 (by decide) (hw _ wd_593) (fun _ h9 => h9) rfl d_R_safe_49 ?_
          refine lv_iload hx hb d_R_safe_52 (lv_at hl 5 rfl) ?_
          obtain ⟨hq, h⟩ := h
          refine va_lald (D := D) hx hb hK hP 1 1 rfl rfl hq d_R_safe_54 ?_
          refine lv_goto (tgt := 70) hx hb d_R_safe_55 (by decide) ?_
          exact bk_70 (fun S9 z0 z1 z2 z3 z4 => w_R_safe_25 n9 S9 z0 z1 z2 z3 z4 Q) hK25 S y1 y2 y4 y6 y8 (S.2 0 y8.toNatClampNeg) H locs hP hD hS ls (lv_sub hl [0, 1, 2, 3, 4, 5] rfl) h
  have hH9 : ∀ H : Heap, H = s.heap → va_P D cls (wR ca ad S) H → va_S A s.heap H [] → W p l e ({ frames := 2, cells := 0, slots := 0, locals := 64 } : Room) s m args below meth c H [] 0 0 (MQ below ((fun A => va_Qi Q (xAt D (wR ca ad) A) A) A) args s 0 0 A) (F0 m 0 ls []) := by
    clear hP hS
    intro H hH hP hS
    obtain ⟨locs, hlo⟩ : ∃ z : List Loc, z = [] := ⟨_, rfl⟩
    rw [← hlo] at hS ⊢
    refine lv_aload_n hx hb d_R_safe_0 rfl (lv_at hl 0 rfl) ?_
    refine lv_iload_n hx hb d_R_safe_1 rfl (lv_at hl 1 rfl) ?_
    refine lv_aload_n hx hb d_R_safe_2 rfl (lv_at hl 0 rfl) ?_
    refine va_get (D := D) (ci := 4) (v := .ref (ad 13)) (C := Rc_R) (T := Fc_R) (N := 25) hx hb hw inc_R hown hK hP 0 rfl rfl 16 (by decide) (hw _ wd_607) (fun _ h9 => h9) rfl d_R_safe_3 ?_
    refine lv_iload_n hx hb d_R_safe_6 rfl (lv_at hl 1 rfl) ?_
    obtain ⟨hq, h⟩ := h
    refine va_lald (D := D) hx hb hK hP 13 1 rfl rfl hq d_R_safe_7 ?_
    refine lv_lload_n hx hb d_R_safe_8 rfl (lv_at hl 2 rfl) ?_
    refine lv_lload hx hb d_R_safe_9 (lv_at hl 3 rfl) ?_
    refine lv_lload hx hb d_R_safe_11 (lv_at hl 4 rfl) ?_
    refine lv_lconst (v := 0) hx hb d_R_safe_13 (by decide) ?_
    refine xx_calli (va_runV (As := [.int x1, .long (S.2 11 x1.toNatClampNeg), .long x2, .long x3, .long x4, .long 0]) (rest := []) ⟨hx, hb, hml, hown, hw⟩ (c_R_safeFor l D ca ad H.size S x1 (S.2 11 x1.toNatClampNeg) x2 x3 x4 0 _ h) (cwV 6 hw (tG_g gl_R_143) rfl rfl rfl (by decide +kernel) ⟨Nat.le_of_ble_eq_true rfl, Nat.le_of_ble_eq_true rfl⟩) ⟨xPc.blind, va_recv hK hP rfl (q0 := 0) rfl, xPc.pre hK hN hP hD⟩ rfl rfl hl.1 rfl (lv_room (Nat.le_of_ble_eq_true rfl)) d_R_safe_14 ⟨Nat.le_of_ble_eq_true rfl, Nat.le_of_ble_eq_true rfl⟩) hD hS hA (fun r1 S2 H locs h hP hD hS => ?_)
    refine lv_if_ne (tgt := 22) hx hb d_R_safe_17 (by decide) (fun hc => ?_) (fun hc => ?_)
    · replace h := h.1 hc
      refine lv_iconst (v := 0) hx hb d_R_safe_22 (by decide) ?_
      refine lv_istore (lv' := [(8, .int 0), (0, .ref (ad 0)), (1, .int x1), (2, .long x2), (4, .long x3), (6, .long x4)]) hx hb d_R_safe_23 hl (by decide) rfl (fun ls hl => ?_)
      obtain ⟨n9, h⟩ := h
      exact bk_25 n9 S2 x1 x2 x3 x4 0 H locs hP hD hS ls (lv_sub hl [1, 2, 3, 4, 5, 0] rfl) h
    · replace h := h.2 hc
      refine lv_iconst (v := 0) hx hb d_R_safe_20 (by decide) ?_
      exact W.zret (v := 0) hx hb hr rfl (fun t ht hW => ⟨⟨0, S2, rfl, h, by rw [ht]; exact hP, hD⟩, hS.F ht⟩) hS.2.2 d_R_safe_21
  exact hH9 _ rfl hP hS
theorem d_R_ready_0 : decode b_R_ready 0 = .ok (.aload_n 0, 1) := by decide +kernel
theorem d_R_ready_1 : decode b_R_ready 1 = .ok (.getfield 47, 3) := by decide +kernel
theorem d_R_ready_4 : decode b_R_ready 4 = .ok (.iload_n 1, 1) := by decide +kernel
theorem d_R_ready_5 : decode b_R_ready 5 = .ok (.laload, 1) := by decide +kernel
theorem d_R_ready_6 : decode b_R_ready 6 = .ok (.lconst 0, 1) := by decide +kernel
theorem d_R_ready_7 : decode b_R_ready 7 = .ok (.lcmp, 1) := by decide +kernel
theorem d_R_ready_8 : decode b_R_ready 8 = .ok (.ifCond .lt 33, 3) := by decide +kernel
theorem d_R_ready_11 : decode b_R_ready 11 = .ok (.aload_n 0, 1) := by decide +kernel
theorem d_R_ready_12 : decode b_R_ready 12 = .ok (.iload_n 1, 1) := by decide +kernel
theorem d_R_ready_13 : decode b_R_ready 13 = .ok (.aload_n 0, 1) := by decide +kernel
theorem d_R_ready_14 : decode b_R_ready 14 = .ok (.getfield 41, 3) := by decide +kernel
theorem d_R_ready_17 : decode b_R_ready 17 = .ok (.iload_n 1, 1) := by decide +kernel
theorem d_R_ready_18 : decode b_R_ready 18 = .ok (.laload, 1) := by decide +kernel
theorem d_R_ready_19 : decode b_R_ready 19 = .ok (.aload_n 0, 1) := by decide +kernel
theorem d_R_ready_20 : decode b_R_ready 20 = .ok (.getfield 44, 3) := by decide +kernel
theorem d_R_ready_23 : decode b_R_ready 23 = .ok (.iload_n 1, 1) := by decide +kernel
theorem d_R_ready_24 : decode b_R_ready 24 = .ok (.laload, 1) := by decide +kernel
theorem d_R_ready_25 : decode b_R_ready 25 = .ok (.aload_n 0, 1) := by decide +kernel
theorem d_R_ready_26 : decode b_R_ready 26 = .ok (.getfield 35, 3) := by decide +kernel
theorem d_R_ready_29 : decode b_R_ready 29 = .ok (.iload_n 1, 1) := by decide +kernel
theorem d_R_ready_30 : decode b_R_ready 30 = .ok (.laload, 1) := by decide +kernel
theorem d_R_ready_31 : decode b_R_ready 31 = .ok (.invokevirtual 154, 3) := by decide +kernel
theorem d_R_ready_34 : decode b_R_ready 34 = .ok (.ifCond .eq 7, 3) := by decide +kernel
theorem d_R_ready_37 : decode b_R_ready 37 = .ok (.iconst 1, 1) := by decide +kernel
theorem d_R_ready_38 : decode b_R_ready 38 = .ok (.goto 4, 3) := by decide +kernel
theorem d_R_ready_41 : decode b_R_ready 41 = .ok (.iconst 0, 1) := by decide +kernel
theorem d_R_ready_42 : decode b_R_ready 42 = .ok (.ireturn, 1) := by decide +kernel
theorem gl_R_154 : ∀ w ∈ wsV "TrainGuardModel" 154 "TrainGuardModel" y_R_safe (Cond.code y_R_safe b_R_safe 11 (some Jvm.ClassFile.FieldType.boolean) :: tG), w ∈ tG := by
  intro x hx
  simp only [wsV, List.cons_append, List.nil_append, List.mem_cons] at hx
  rcases hx with rfl | rfl | rfl | rfl | rfl | hx
  · exact wd_739
  · exact wd_741
  · exact ws_24
  · exact wd_5
  · exact wd_742
  · exact hx
def w_R_ready (S : SR) (x1 : Int32) (Q : Int32 → SR → Prop) : Prop := vp_in x1 3 ∧ ((((lg_cmp (S.2 11 x1.toNatClampNeg) 0) < 0) → (Q 0 S)) ∧ ((¬ (lg_cmp (S.2 11 x1.toNatClampNeg) 0) < 0) → (vp_in x1 3 ∧ (vp_in x1 3 ∧ (vp_in x1 3 ∧ (w_R_safe S x1 (S.2 9 x1.toNatClampNeg) (S.2 10 x1.toNatClampNeg) (S.2 7 x1.toNatClampNeg) (fun r1 S2 => ((r1 = 0) → (Q 0 S2)) ∧ ((¬ r1 = 0) → (Q 1 S2)))))))))
set_option maxRecDepth 100000 in
set_option maxHeartbeats 4000000 in
theorem c_R_ready (l : Launch) (D : va_G) (ca : Nat → ClassId) (ad : Nat → Nat) (sz : Nat) (S : SR) (x1 : Int32)  (Q : Int32 → SR → Prop) (h : w_R_ready S x1 Q) : Met l y_R_ready (Cond.code y_R_ready b_R_ready 2 (some Jvm.ClassFile.FieldType.boolean) :: tG) ({ frames := 3, cells := 0, slots := 0, locals := 94 } : Room) (xPc D ca (wR ca ad) S sz [.ref (ad 0), .int x1]) (va_Qi Q (xAt D (wR ca ad) (va_A (wR ca ad S) sz)) (va_A (wR ca ad S) sz)) 0 0 (va_A (wR ca ad S) sz) := by
  refine xx_met (Qf := fun A => va_Qi Q (xAt D (wR ca ad) A) A) (by decide) (Nat.le_of_ble_eq_true rfl) ?_
  intro p e s m args below meth c A ls hx hb hr hw hown hlocks hml hK hN hA hP hD hS hl
  have hown : s.vm.findClass "TrainGuardModel" = some m.cls := hown
  have hl : lv_has ls 2 [(0, .ref (ad 0)), (1, .int x1)] := hl
  unfold w_R_ready at h
  have hH9 : ∀ H : Heap, H = s.heap → va_P D cls (wR ca ad S) H → va_S A s.heap H [] → W p l e ({ frames := 3, cells := 0, slots := 0, locals := 94 } : Room) s m args below meth c H [] 0 0 (MQ below ((fun A => va_Qi Q (xAt D (wR ca ad) A) A) A) args s 0 0 A) (F0 m 0 ls []) := by
    clear hP hS
    intro H hH hP hS
    obtain ⟨locs, hlo⟩ : ∃ z : List Loc, z = [] := ⟨_, rfl⟩
    rw [← hlo] at hS ⊢
    refine lv_aload_n hx hb d_R_ready_0 rfl (lv_at hl 0 rfl) ?_
    refine va_get (D := D) (ci := 4) (v := .ref (ad 13)) (C := Rc_R) (T := Fc_R) (N := 25) hx hb hw inc_R hown hK hP 0 rfl rfl 16 (by decide) (hw _ wd_607) (fun _ h9 => h9) rfl d_R_ready_1 ?_
    refine lv_iload_n hx hb d_R_ready_4 rfl (lv_at hl 1 rfl) ?_
    obtain ⟨hq, h⟩ := h
    refine va_lald (D := D) hx hb hK hP 13 1 rfl rfl hq d_R_ready_5 ?_
    refine lv_lconst (v := 0) hx hb d_R_ready_6 (by decide) ?_
    refine W.lcmp hx hb d_R_ready_7 ?_
    refine lv_if_lt (tgt := 41) hx hb d_R_ready_8 (by decide) (fun hc => ?_) (fun hc => ?_)
    · replace h := h.1 hc
      refine lv_iconst (v := 0) hx hb d_R_ready_41 (by decide) ?_
      exact W.zret (v := 0) hx hb hr rfl (fun t ht hW => ⟨⟨0, S, rfl, h, by rw [ht]; exact hP, hD⟩, hS.F ht⟩) hS.2.2 d_R_ready_42
    · replace h := h.2 hc
      refine lv_aload_n hx hb d_R_ready_11 rfl (lv_at hl 0 rfl) ?_
      refine lv_iload_n hx hb d_R_ready_12 rfl (lv_at hl 1 rfl) ?_
      refine lv_aload_n hx hb d_R_ready_13 rfl (lv_at hl 0 rfl) ?_
      refine va_get (D := D) (ci := 4) (v := .ref (ad 11)) (C := Rc_R) (T := Fc_R) (N := 25) hx hb hw inc_R hown hK hP 0 rfl rfl 14 (by decide) (hw _ wd_605) (fun _ h9 => h9) rfl d_R_ready_14 ?_
      refine lv_iload_n hx hb d_R_ready_17 rfl (lv_at hl 1 rfl) ?_
      obtain ⟨hq, h⟩ := h
      refine va_lald (D := D) hx hb hK hP 11 1 rfl rfl hq d_R_ready_18 ?_
      refine lv_aload_n hx hb d_R_ready_19 rfl (lv_at hl 0 rfl) ?_
      refine va_get (D := D) (ci := 4) (v := .ref (ad 12)) (C := Rc_R) (T := Fc_R) (N := 25) hx hb hw inc_R hown hK hP 0 rfl rfl 15 (by decide) (hw _ wd_606) (fun _ h9 => h9) rfl d_R_ready_20 ?_
      refine lv_iload_n hx hb d_R_ready_23 rfl (lv_at hl 1 rfl) ?_
      obtain ⟨hq, h⟩ := h
      refine va_lald (D := D) hx hb hK hP 12 1 rfl rfl hq d_R_ready_24 ?_
      refine lv_aload_n hx hb d_R_ready_25 rfl (lv_at hl 0 rfl) ?_
      refine va_get (D := D) (ci := 4) (v := .ref (ad 9)) (C := Rc_R) (T := Fc_R) (N := 25) hx hb hw inc_R hown hK hP 0 rfl rfl 12 (by decide) (hw _ wd_603) (fun _ h9 => h9) rfl d_R_ready_26 ?_
      refine lv_iload_n hx hb d_R_ready_29 rfl (lv_at hl 1 rfl) ?_
      obtain ⟨hq, h⟩ := h
      refine va_lald (D := D) hx hb hK hP 9 1 rfl rfl hq d_R_ready_30 ?_
      refine xx_calli (va_runV (As := [.int x1, .long (S.2 9 x1.toNatClampNeg), .long (S.2 10 x1.toNatClampNeg), .long (S.2 7 x1.toNatClampNeg)]) (rest := []) ⟨hx, hb, hml, hown, hw⟩ (c_R_safe l D ca ad H.size S x1 (S.2 9 x1.toNatClampNeg) (S.2 10 x1.toNatClampNeg) (S.2 7 x1.toNatClampNeg) _ h) (cwV 4 hw (tG_g gl_R_154) rfl rfl rfl (by decide +kernel) ⟨Nat.le_of_ble_eq_true rfl, Nat.le_of_ble_eq_true rfl⟩) ⟨xPc.blind, va_recv hK hP rfl (q0 := 0) rfl, xPc.pre hK hN hP hD⟩ rfl rfl hl.1 rfl (lv_room (Nat.le_of_ble_eq_true rfl)) d_R_ready_31 ⟨Nat.le_of_ble_eq_true rfl, Nat.le_of_ble_eq_true rfl⟩) hD hS hA (fun r1 S2 H locs h hP hD hS => ?_)
      refine lv_if_eq (tgt := 41) hx hb d_R_ready_34 (by decide) (fun hc => ?_) (fun hc => ?_)
      · replace h := h.1 hc
        refine lv_iconst (v := 0) hx hb d_R_ready_41 (by decide) ?_
        exact W.zret (v := 0) hx hb hr rfl (fun t ht hW => ⟨⟨0, S2, rfl, h, by rw [ht]; exact hP, hD⟩, hS.F ht⟩) hS.2.2 d_R_ready_42
      · replace h := h.2 hc
        refine lv_iconst (v := 1) hx hb d_R_ready_37 (by decide) ?_
        refine lv_goto (tgt := 42) hx hb d_R_ready_38 (by decide) ?_
        exact W.zret (v := 1) hx hb hr rfl (fun t ht hW => ⟨⟨1, S2, rfl, h, by rw [ht]; exact hP, hD⟩, hS.F ht⟩) hS.2.2 d_R_ready_42
  exact hH9 _ rfl hP hS
theorem d_R_start_0 : decode b_R_start 0 = .ok (.aload_n 0, 1) := by decide +kernel
theorem d_R_start_1 : decode b_R_start 1 = .ok (.iload_n 1, 1) := by decide +kernel
theorem d_R_start_2 : decode b_R_start 2 = .ok (.invokevirtual 158, 3) := by decide +kernel
theorem d_R_start_5 : decode b_R_start 5 = .ok (.ifCond .eq 9, 3) := by decide +kernel
theorem d_R_start_8 : decode b_R_start 8 = .ok (.aload_n 0, 1) := by decide +kernel
theorem d_R_start_9 : decode b_R_start 9 = .ok (.iconst 1, 1) := by decide +kernel
theorem d_R_start_10 : decode b_R_start 10 = .ok (.invokevirtual 103, 3) := by decide +kernel
theorem d_R_start_13 : decode b_R_start 13 = .ok (.ireturn, 1) := by decide +kernel
theorem d_R_start_14 : decode b_R_start 14 = .ok (.aload_n 0, 1) := by decide +kernel
theorem d_R_start_15 : decode b_R_start 15 = .ok (.getfield 50, 3) := by decide +kernel
theorem d_R_start_18 : decode b_R_start 18 = .ok (.iload_n 1, 1) := by decide +kernel
theorem d_R_start_19 : decode b_R_start 19 = .ok (.iaload, 1) := by decide +kernel
theorem d_R_start_20 : decode b_R_start 20 = .ok (.ifCond .eq 9, 3) := by decide +kernel
theorem d_R_start_23 : decode b_R_start 23 = .ok (.aload_n 0, 1) := by decide +kernel
theorem d_R_start_24 : decode b_R_start 24 = .ok (.iconst 3, 1) := by decide +kernel
theorem d_R_start_25 : decode b_R_start 25 = .ok (.invokevirtual 103, 3) := by decide +kernel
theorem d_R_start_28 : decode b_R_start 28 = .ok (.ireturn, 1) := by decide +kernel
theorem d_R_start_29 : decode b_R_start 29 = .ok (.aload_n 0, 1) := by decide +kernel
theorem d_R_start_30 : decode b_R_start 30 = .ok (.getfield 50, 3) := by decide +kernel
theorem d_R_start_33 : decode b_R_start 33 = .ok (.iload_n 1, 1) := by decide +kernel
theorem d_R_start_34 : decode b_R_start 34 = .ok (.aload_n 0, 1) := by decide +kernel
theorem d_R_start_35 : decode b_R_start 35 = .ok (.iload_n 1, 1) := by decide +kernel
theorem d_R_start_36 : decode b_R_start 36 = .ok (.invokevirtual 161, 3) := by decide +kernel
theorem d_R_start_39 : decode b_R_start 39 = .ok (.ifCond .eq 7, 3) := by decide +kernel
theorem d_R_start_42 : decode b_R_start 42 = .ok (.iconst 2, 1) := by decide +kernel
theorem d_R_start_43 : decode b_R_start 43 = .ok (.goto 4, 3) := by decide +kernel
theorem d_R_start_46 : decode b_R_start 46 = .ok (.iconst 1, 1) := by decide +kernel
theorem d_R_start_47 : decode b_R_start 47 = .ok (.iastore, 1) := by decide +kernel
theorem d_R_start_48 : decode b_R_start 48 = .ok (.aload_n 0, 1) := by decide +kernel
theorem d_R_start_49 : decode b_R_start 49 = .ok (.aload_n 0, 1) := by decide +kernel
theorem d_R_start_50 : decode b_R_start 50 = .ok (.getfield 50, 3) := by decide +kernel
theorem d_R_start_53 : decode b_R_start 53 = .ok (.iload_n 1, 1) := by decide +kernel
theorem d_R_start_54 : decode b_R_start 54 = .ok (.iaload, 1) := by decide +kernel
theorem d_R_start_55 : decode b_R_start 55 = .ok (.invokevirtual 111, 3) := by decide +kernel
theorem d_R_start_58 : decode b_R_start 58 = .ok (.ireturn, 1) := by decide +kernel
theorem gl_R_158 : ∀ w ∈ wsV "TrainGuardModel" 158 "TrainGuardModel" y_R_noTrain (Cond.code y_R_noTrain b_R_noTrain 2 (some Jvm.ClassFile.FieldType.boolean) :: tG), w ∈ tG := by
  intro x hx
  simp only [wsV, List.cons_append, List.nil_append, List.mem_cons] at hx
  rcases hx with rfl | rfl | rfl | rfl | rfl | hx
  · exact wd_731
  · exact wd_733
  · exact ws_22
  · exact wd_5
  · exact wd_734
  · exact hx
theorem gl_R_161 : ∀ w ∈ wsV "TrainGuardModel" 161 "TrainGuardModel" y_R_ready (Cond.code y_R_ready b_R_ready 2 (some Jvm.ClassFile.FieldType.boolean) :: tG), w ∈ tG := by
  intro x hx
  simp only [wsV, List.cons_append, List.nil_append, List.mem_cons] at hx
  rcases hx with rfl | rfl | rfl | rfl | rfl | hx
  · exact wd_735
  · exact wd_737
  · exact ws_23
  · exact wd_5
  · exact wd_738
  · exact hx
def w_R_start_47 (S : SR) (y1 : Int32) (ys0 : Int32) (ys1 : Int32) (Q : Int32 → SR → Prop) : Prop := vp_in ys1 3 ∧ (vp_in y1 3 ∧ (w_R_answer (pI S 8 ys1.toNatClampNeg ys0) ((pI S 8 ys1.toNatClampNeg ys0).1 8 y1.toNatClampNeg) (fun r9 S10 => Q r9 S10)))
def w_R_start (S : SR) (x1 : Int32) (Q : Int32 → SR → Prop) : Prop := w_R_noTrain S x1 (fun r1 S2 => ((r1 = 0) → (vp_in x1 3 ∧ ((((S2.1 8 x1.toNatClampNeg) = 0) → (w_R_ready S2 x1 (fun r3 S4 => ((r3 = 0) → (w_R_start_47 S4 x1 1 x1 Q)) ∧ ((¬ r3 = 0) → (w_R_start_47 S4 x1 2 x1 Q))))) ∧ ((¬ (S2.1 8 x1.toNatClampNeg) = 0) → (w_R_fail S2 3 (fun r5 S6 => Q r5 S6)))))) ∧ ((¬ r1 = 0) → (w_R_fail S2 1 (fun r7 S8 => Q r7 S8))))
set_option maxRecDepth 100000 in
set_option maxHeartbeats 4000000 in
theorem c_R_start (l : Launch) (D : va_G) (ca : Nat → ClassId) (ad : Nat → Nat) (sz : Nat) (S : SR) (x1 : Int32)  (Q : Int32 → SR → Prop) (h : w_R_start S x1 Q) : Met l y_R_start (Cond.code y_R_start b_R_start 2 (some Jvm.ClassFile.FieldType.int) :: tG) ({ frames := 4, cells := 0, slots := 0, locals := 115 } : Room) (xPc D ca (wR ca ad) S sz [.ref (ad 0), .int x1]) (va_Qi Q (xAt D (wR ca ad) (va_A (wR ca ad S) sz)) (va_A (wR ca ad S) sz)) 0 0 (va_A (wR ca ad S) sz) := by
  refine xx_met (Qf := fun A => va_Qi Q (xAt D (wR ca ad) A) A) (by decide) (Nat.le_of_ble_eq_true rfl) ?_
  intro p e s m args below meth c A ls hx hb hr hw hown hlocks hml hK hN hA hP hD hS hl
  have hown : s.vm.findClass "TrainGuardModel" = some m.cls := hown
  have hl : lv_has ls 2 [(0, .ref (ad 0)), (1, .int x1)] := hl
  unfold w_R_start at h
  have bk_47 : ∀ (S : SR) (y1 : Int32) (ys0 : Int32) (ys1 : Int32) (H : Heap) (locs : List Loc) , va_P D cls (wR ca ad S) H → va_D A (wR ca ad S) → va_S A s.heap H locs → ∀ (ls : Array Slot), lv_has ls 2 [(0, .ref (ad 0)), (1, .int y1)] → w_R_start_47 S y1 ys0 ys1 Q → W p l e ({ frames := 4, cells := 0, slots := 0, locals := 115 } : Room) s m args below meth c H locs 0 0 (MQ below ((fun A => va_Qi Q (xAt D (wR ca ad) A) A) A) args s 0 0 A) (F0 m 47 ls [.int ys0, .int ys1, .ref (ad 14)]) := by
    intro S y1 ys0 ys1 H locs hP hD hS ls hl h
    unfold w_R_start_47 at h
    obtain ⟨hq, h⟩ := h
    refine va_iast (D := D) hx hb hK hP hD hS 14 0 rfl rfl hq d_R_start_47 (fun H locs hP hD hS => ?_)
    rw [pt_R_mode] at hP hD
    refine lv_aload_n hx hb d_R_start_48 rfl (lv_at hl 0 rfl) ?_
    refine lv_aload_n hx hb d_R_start_49 rfl (lv_at hl 0 rfl) ?_
    refine va_get (D := D) (ci := 4) (v := .ref (ad 14)) (C := Rc_R) (T := Fc_R) (N := 25) hx hb hw inc_R hown hK hP 0 rfl rfl 17 (by decide) (hw _ wd_608) (fun _ h9 => h9) rfl d_R_start_50 ?_
    refine lv_iload_n hx hb d_R_start_53 rfl (lv_at hl 1 rfl) ?_
    obtain ⟨hq, h⟩ := h
    refine va_iald (D := D) hx hb hK hP 14 0 rfl rfl hq d_R_start_54 ?_
    refine xx_calli (va_runV (As := [.int ((pI S 8 ys1.toNatClampNeg ys0).1 8 y1.toNatClampNeg)]) (rest := []) ⟨hx, hb, hml, hown, hw⟩ (c_R_answer l D ca ad H.size (pI S 8 ys1.toNatClampNeg ys0) ((pI S 8 ys1.toNatClampNeg ys0).1 8 y1.toNatClampNeg) _ h) (cwV 1 hw (tG_g gl_R_111) rfl rfl rfl (by decide +kernel) ⟨Nat.le_of_ble_eq_true rfl, Nat.le_of_ble_eq_true rfl⟩) ⟨xPc.blind, va_recv hK hP rfl (q0 := 0) rfl, xPc.pre hK hN hP hD⟩ rfl rfl hl.1 rfl (lv_room (Nat.le_of_ble_eq_true rfl)) d_R_start_55 ⟨Nat.le_of_ble_eq_true rfl, Nat.le_of_ble_eq_true rfl⟩) hD hS hA (fun r9 S10 H locs h hP hD hS => ?_)
    exact W.iret (v := r9) hx hb hr (fun t ht hW => ⟨⟨r9, S10, rfl, h, by rw [ht]; exact hP, hD⟩, hS.F ht⟩) hS.2.2 d_R_start_58
  have hH9 : ∀ H : Heap, H = s.heap → va_P D cls (wR ca ad S) H → va_S A s.heap H [] → W p l e ({ frames := 4, cells := 0, slots := 0, locals := 115 } : Room) s m args below meth c H [] 0 0 (MQ below ((fun A => va_Qi Q (xAt D (wR ca ad) A) A) A) args s 0 0 A) (F0 m 0 ls []) := by
    clear hP hS
    intro H hH hP hS
    obtain ⟨locs, hlo⟩ : ∃ z : List Loc, z = [] := ⟨_, rfl⟩
    rw [← hlo] at hS ⊢
    refine lv_aload_n hx hb d_R_start_0 rfl (lv_at hl 0 rfl) ?_
    refine lv_iload_n hx hb d_R_start_1 rfl (lv_at hl 1 rfl) ?_
    refine xx_calli (va_runV (As := [.int x1]) (rest := []) ⟨hx, hb, hml, hown, hw⟩ (c_R_noTrain l D ca ad H.size S x1 _ h) (cwV 1 hw (tG_g gl_R_158) rfl rfl rfl (by decide +kernel) ⟨Nat.le_of_ble_eq_true rfl, Nat.le_of_ble_eq_true rfl⟩) ⟨xPc.blind, va_recv hK hP rfl (q0 := 0) rfl, xPc.pre hK hN hP hD⟩ rfl rfl hl.1 rfl (lv_room (Nat.le_of_ble_eq_true rfl)) d_R_start_2 ⟨Nat.le_of_ble_eq_true rfl, Nat.le_of_ble_eq_true rfl⟩) hD hS hA (fun r1 S2 H locs h hP hD hS => ?_)
    refine lv_if_eq (tgt := 14) hx hb d_R_start_5 (by decide) (fun hc => ?_) (fun hc => ?_)
    · replace h := h.1 hc
      refine lv_aload_n hx hb d_R_start_14 rfl (lv_at hl 0 rfl) ?_
      refine va_get (D := D) (ci := 4) (v := .ref (ad 14)) (C := Rc_R) (T := Fc_R) (N := 25) hx hb hw inc_R hown hK hP 0 rfl rfl 17 (by decide) (hw _ wd_608) (fun _ h9 => h9) rfl d_R_start_15 ?_
      refine lv_iload_n hx hb d_R_start_18 rfl (lv_at hl 1 rfl) ?_
      obtain ⟨hq, h⟩ := h
      refine va_iald (D := D) hx hb hK hP 14 0 rfl rfl hq d_R_start_19 ?_
      refine lv_if_eq (tgt := 29) hx hb d_R_start_20 (by decide) (fun hc => ?_) (fun hc => ?_)
      · replace h := h.1 hc
        refine lv_aload_n hx hb d_R_start_29 rfl (lv_at hl 0 rfl) ?_
        refine va_get (D := D) (ci := 4) (v := .ref (ad 14)) (C := Rc_R) (T := Fc_R) (N := 25) hx hb hw inc_R hown hK hP 0 rfl rfl 17 (by decide) (hw _ wd_608) (fun _ h9 => h9) rfl d_R_start_30 ?_
        refine lv_iload_n hx hb d_R_start_33 rfl (lv_at hl 1 rfl) ?_
        refine lv_aload_n hx hb d_R_start_34 rfl (lv_at hl 0 rfl) ?_
        refine lv_iload_n hx hb d_R_start_35 rfl (lv_at hl 1 rfl) ?_
        refine xx_calli (va_runV (As := [.int x1]) (rest := [.int x1, .ref (ad 14)]) ⟨hx, hb, hml, hown, hw⟩ (c_R_ready l D ca ad H.size S2 x1 _ h) (cwV 1 hw (tG_g gl_R_161) rfl rfl rfl (by decide +kernel) ⟨Nat.le_of_ble_eq_true rfl, Nat.le_of_ble_eq_true rfl⟩) ⟨xPc.blind, va_recv hK hP rfl (q0 := 0) rfl, xPc.pre hK hN hP hD⟩ rfl rfl hl.1 rfl (lv_room (Nat.le_of_ble_eq_true rfl)) d_R_start_36 ⟨Nat.le_of_ble_eq_true rfl, Nat.le_of_ble_eq_true rfl⟩) hD hS hA (fun r3 S4 H locs h hP hD hS => ?_)
        refine lv_if_eq (tgt := 46) hx hb d_R_start_39 (by decide) (fun hc => ?_) (fun hc => ?_)
        · replace h := h.1 hc
          refine lv_iconst (v := 1) hx hb d_R_start_46 (by decide) ?_
          exact bk_47 S4 x1 1 x1 H locs hP hD hS ls (lv_sub hl [0, 1] rfl) h
        · replace h := h.2 hc
          refine lv_iconst (v := 2) hx hb d_R_start_42 (by decide) ?_
          refine lv_goto (tgt := 47) hx hb d_R_start_43 (by decide) ?_
          exact bk_47 S4 x1 2 x1 H locs hP hD hS ls (lv_sub hl [0, 1] rfl) h
      · replace h := h.2 hc
        refine lv_aload_n hx hb d_R_start_23 rfl (lv_at hl 0 rfl) ?_
        refine lv_iconst (v := 3) hx hb d_R_start_24 (by decide) ?_
        refine xx_calli (va_runV (As := [.int 3]) (rest := []) ⟨hx, hb, hml, hown, hw⟩ (c_R_fail l D ca ad H.size S2 3 _ h) (cwV 1 hw (tG_g gl_R_103) rfl rfl rfl (by decide +kernel) ⟨Nat.le_of_ble_eq_true rfl, Nat.le_of_ble_eq_true rfl⟩) ⟨xPc.blind, va_recv hK hP rfl (q0 := 0) rfl, xPc.pre hK hN hP hD⟩ rfl rfl hl.1 rfl (lv_room (Nat.le_of_ble_eq_true rfl)) d_R_start_25 ⟨Nat.le_of_ble_eq_true rfl, Nat.le_of_ble_eq_true rfl⟩) hD hS hA (fun r5 S6 H locs h hP hD hS => ?_)
        exact W.iret (v := r5) hx hb hr (fun t ht hW => ⟨⟨r5, S6, rfl, h, by rw [ht]; exact hP, hD⟩, hS.F ht⟩) hS.2.2 d_R_start_28
    · replace h := h.2 hc
      refine lv_aload_n hx hb d_R_start_8 rfl (lv_at hl 0 rfl) ?_
      refine lv_iconst (v := 1) hx hb d_R_start_9 (by decide) ?_
      refine xx_calli (va_runV (As := [.int 1]) (rest := []) ⟨hx, hb, hml, hown, hw⟩ (c_R_fail l D ca ad H.size S2 1 _ h) (cwV 1 hw (tG_g gl_R_103) rfl rfl rfl (by decide +kernel) ⟨Nat.le_of_ble_eq_true rfl, Nat.le_of_ble_eq_true rfl⟩) ⟨xPc.blind, va_recv hK hP rfl (q0 := 0) rfl, xPc.pre hK hN hP hD⟩ rfl rfl hl.1 rfl (lv_room (Nat.le_of_ble_eq_true rfl)) d_R_start_10 ⟨Nat.le_of_ble_eq_true rfl, Nat.le_of_ble_eq_true rfl⟩) hD hS hA (fun r7 S8 H locs h hP hD hS => ?_)
      exact W.iret (v := r7) hx hb hr (fun t ht hW => ⟨⟨r7, S8, rfl, h, by rw [ht]; exact hP, hD⟩, hS.F ht⟩) hS.2.2 d_R_start_13
  exact hH9 _ rfl hP hS
theorem d_R_send_0 : decode b_R_send 0 = .ok (.aload_n 0, 1) := by decide +kernel
theorem d_R_send_1 : decode b_R_send 1 = .ok (.getfield 57, 3) := by decide +kernel
theorem d_R_send_4 : decode b_R_send 4 = .ok (.iload_n 1, 1) := by decide +kernel
theorem d_R_send_5 : decode b_R_send 5 = .ok (.dup2, 1) := by decide +kernel
theorem d_R_send_6 : decode b_R_send 6 = .ok (.iaload, 1) := by decide +kernel
theorem d_R_send_7 : decode b_R_send 7 = .ok (.iconst 1, 1) := by decide +kernel
theorem d_R_send_8 : decode b_R_send 8 = .ok (.iadd, 1) := by decide +kernel
theorem d_R_send_9 : decode b_R_send 9 = .ok (.iastore, 1) := by decide +kernel
theorem d_R_send_10 : decode b_R_send 10 = .ok (.aload_n 0, 1) := by decide +kernel
theorem d_R_send_11 : decode b_R_send 11 = .ok (.getfield 60, 3) := by decide +kernel
theorem d_R_send_14 : decode b_R_send 14 = .ok (.iload_n 1, 1) := by decide +kernel
theorem d_R_send_15 : decode b_R_send 15 = .ok (.iload_n 2, 1) := by decide +kernel
theorem d_R_send_16 : decode b_R_send 16 = .ok (.iastore, 1) := by decide +kernel
theorem d_R_send_17 : decode b_R_send 17 = .ok (.aload_n 0, 1) := by decide +kernel
theorem d_R_send_18 : decode b_R_send 18 = .ok (.getfield 63, 3) := by decide +kernel
theorem d_R_send_21 : decode b_R_send 21 = .ok (.iload_n 1, 1) := by decide +kernel
theorem d_R_send_22 : decode b_R_send 22 = .ok (.lload_n 3, 1) := by decide +kernel
theorem d_R_send_23 : decode b_R_send 23 = .ok (.lastore, 1) := by decide +kernel
theorem d_R_send_24 : decode b_R_send 24 = .ok (.aload_n 0, 1) := by decide +kernel
theorem d_R_send_25 : decode b_R_send 25 = .ok (.aload_n 0, 1) := by decide +kernel
theorem d_R_send_26 : decode b_R_send 26 = .ok (.getfield 57, 3) := by decide +kernel
theorem d_R_send_29 : decode b_R_send 29 = .ok (.iload_n 1, 1) := by decide +kernel
theorem d_R_send_30 : decode b_R_send 30 = .ok (.iaload, 1) := by decide +kernel
theorem d_R_send_31 : decode b_R_send 31 = .ok (.invokevirtual 111, 3) := by decide +kernel
theorem d_R_send_34 : decode b_R_send 34 = .ok (.ireturn, 1) := by decide +kernel
def w_R_send (S : SR) (x1 : Int32) (x2 : Int32) (x3 : Int64) (Q : Int32 → SR → Prop) : Prop := vp_in x1 3 ∧ (∀ a1 : Int32, a1 = (S.1 10 x1.toNatClampNeg) + 1 → (vp_in x1 3 ∧ (vp_in x1 3 ∧ (vp_in x1 3 ∧ (vp_in x1 3 ∧ (w_R_answer (pV (pI (pI S 10 x1.toNatClampNeg a1) 11 x1.toNatClampNeg x2) 12 x1.toNatClampNeg x3) ((pV (pI (pI S 10 x1.toNatClampNeg a1) 11 x1.toNatClampNeg x2) 12 x1.toNatClampNeg x3).1 10 x1.toNatClampNeg) (fun r2 S3 => Q r2 S3)))))))
set_option maxRecDepth 100000 in
set_option maxHeartbeats 4000000 in
theorem c_R_send (l : Launch) (D : va_G) (ca : Nat → ClassId) (ad : Nat → Nat) (sz : Nat) (S : SR) (x1 : Int32) (x2 : Int32) (x3 : Int64)  (Q : Int32 → SR → Prop) (h : w_R_send S x1 x2 x3 Q) : Met l y_R_send (Cond.code y_R_send b_R_send 5 (some Jvm.ClassFile.FieldType.int) :: tG) ({ frames := 1, cells := 0, slots := 0, locals := 21 } : Room) (xPc D ca (wR ca ad) S sz [.ref (ad 0), .int x1, .int x2, .long x3]) (va_Qi Q (xAt D (wR ca ad) (va_A (wR ca ad S) sz)) (va_A (wR ca ad S) sz)) 0 0 (va_A (wR ca ad S) sz) := by
  refine xx_met (Qf := fun A => va_Qi Q (xAt D (wR ca ad) A) A) (by decide) (Nat.le_of_ble_eq_true rfl) ?_
  intro p e s m args below meth c A ls hx hb hr hw hown hlocks hml hK hN hA hP hD hS hl
  have hown : s.vm.findClass "TrainGuardModel" = some m.cls := hown
  have hl : lv_has ls 5 [(0, .ref (ad 0)), (1, .int x1), (2, .int x2), (3, .long x3)] := hl
  unfold w_R_send at h
  have hH9 : ∀ H : Heap, H = s.heap → va_P D cls (wR ca ad S) H → va_S A s.heap H [] → W p l e ({ frames := 1, cells := 0, slots := 0, locals := 21 } : Room) s m args below meth c H [] 0 0 (MQ below ((fun A => va_Qi Q (xAt D (wR ca ad) A) A) A) args s 0 0 A) (F0 m 0 ls []) := by
    clear hP hS
    intro H hH hP hS
    obtain ⟨locs, hlo⟩ : ∃ z : List Loc, z = [] := ⟨_, rfl⟩
    rw [← hlo] at hS ⊢
    refine lv_aload_n hx hb d_R_send_0 rfl (lv_at hl 0 rfl) ?_
    refine va_get (D := D) (ci := 4) (v := .ref (ad 16)) (C := Rc_R) (T := Fc_R) (N := 25) hx hb hw inc_R hown hK hP 0 rfl rfl 19 (by decide) (hw _ wd_610) (fun _ h9 => h9) rfl d_R_send_1 ?_
    refine lv_iload_n hx hb d_R_send_4 rfl (lv_at hl 1 rfl) ?_
    refine lv_dup2_11 hx hb d_R_send_5 rfl rfl ?_
    obtain ⟨hq, h⟩ := h
    refine va_iald (D := D) hx hb hK hP 16 0 rfl rfl hq d_R_send_6 ?_
    refine lv_iconst (v := 1) hx hb d_R_send_7 (by decide) ?_
    refine lv_iadd hx hb d_R_send_8 ?_
    refine lv_topi (fun a1 e_a1 => ?_)
    replace h := h a1 e_a1
    obtain ⟨hq, h⟩ := h
    refine va_iast (D := D) hx hb hK hP hD hS 16 0 rfl rfl hq d_R_send_9 (fun H locs hP hD hS => ?_)
    rw [pt_R_numbers] at hP hD
    refine lv_aload_n hx hb d_R_send_10 rfl (lv_at hl 0 rfl) ?_
    refine va_get (D := D) (ci := 4) (v := .ref (ad 17)) (C := Rc_R) (T := Fc_R) (N := 25) hx hb hw inc_R hown hK hP 0 rfl rfl 20 (by decide) (hw _ wd_611) (fun _ h9 => h9) rfl d_R_send_11 ?_
    refine lv_iload_n hx hb d_R_send_14 rfl (lv_at hl 1 rfl) ?_
    refine lv_iload_n hx hb d_R_send_15 rfl (lv_at hl 2 rfl) ?_
    obtain ⟨hq, h⟩ := h
    refine va_iast (D := D) hx hb hK hP hD hS 17 0 rfl rfl hq d_R_send_16 (fun H locs hP hD hS => ?_)
    rw [pt_R_message] at hP hD
    refine lv_aload_n hx hb d_R_send_17 rfl (lv_at hl 0 rfl) ?_
    refine va_get (D := D) (ci := 4) (v := .ref (ad 18)) (C := Rc_R) (T := Fc_R) (N := 25) hx hb hw inc_R hown hK hP 0 rfl rfl 21 (by decide) (hw _ wd_612) (fun _ h9 => h9) rfl d_R_send_18 ?_
    refine lv_iload_n hx hb d_R_send_21 rfl (lv_at hl 1 rfl) ?_
    refine lv_lload_n hx hb d_R_send_22 rfl (lv_at hl 3 rfl) ?_
    obtain ⟨hq, h⟩ := h
    refine va_last (D := D) hx hb hK hP hD hS 18 1 rfl rfl hq d_R_send_23 (fun H locs hP hD hS => ?_)
    rw [pt_R_place] at hP hD
    refine lv_aload_n hx hb d_R_send_24 rfl (lv_at hl 0 rfl) ?_
    refine lv_aload_n hx hb d_R_send_25 rfl (lv_at hl 0 rfl) ?_
    refine va_get (D := D) (ci := 4) (v := .ref (ad 16)) (C := Rc_R) (T := Fc_R) (N := 25) hx hb hw inc_R hown hK hP 0 rfl rfl 19 (by decide) (hw _ wd_610) (fun _ h9 => h9) rfl d_R_send_26 ?_
    refine lv_iload_n hx hb d_R_send_29 rfl (lv_at hl 1 rfl) ?_
    obtain ⟨hq, h⟩ := h
    refine va_iald (D := D) hx hb hK hP 16 0 rfl rfl hq d_R_send_30 ?_
    refine xx_calli (va_runV (As := [.int ((pV (pI (pI S 10 x1.toNatClampNeg a1) 11 x1.toNatClampNeg x2) 12 x1.toNatClampNeg x3).1 10 x1.toNatClampNeg)]) (rest := []) ⟨hx, hb, hml, hown, hw⟩ (c_R_answer l D ca ad H.size (pV (pI (pI S 10 x1.toNatClampNeg a1) 11 x1.toNatClampNeg x2) 12 x1.toNatClampNeg x3) ((pV (pI (pI S 10 x1.toNatClampNeg a1) 11 x1.toNatClampNeg x2) 12 x1.toNatClampNeg x3).1 10 x1.toNatClampNeg) _ h) (cwV 1 hw (tG_g gl_R_111) rfl rfl rfl (by decide +kernel) ⟨Nat.le_of_ble_eq_true rfl, Nat.le_of_ble_eq_true rfl⟩) ⟨xPc.blind, va_recv hK hP rfl (q0 := 0) rfl, xPc.pre hK hN hP hD⟩ rfl rfl hl.1 rfl (lv_room (Nat.le_of_ble_eq_true rfl)) d_R_send_31 ⟨Nat.le_of_ble_eq_true rfl, Nat.le_of_ble_eq_true rfl⟩) hD hS hA (fun r2 S3 H locs h hP hD hS => ?_)
    exact W.iret (v := r2) hx hb hr (fun t ht hW => ⟨⟨r2, S3, rfl, h, by rw [ht]; exact hP, hD⟩, hS.F ht⟩) hS.2.2 d_R_send_34
  exact hH9 _ rfl hP hS
theorem d_R_ask_0 : decode b_R_ask 0 = .ok (.aload_n 0, 1) := by decide +kernel
theorem d_R_ask_1 : decode b_R_ask 1 = .ok (.iload_n 1, 1) := by decide +kernel
theorem d_R_ask_2 : decode b_R_ask 2 = .ok (.invokevirtual 158, 3) := by decide +kernel
theorem d_R_ask_5 : decode b_R_ask 5 = .ok (.ifCond .ne 20, 3) := by decide +kernel
theorem d_R_ask_8 : decode b_R_ask 8 = .ok (.aload_n 0, 1) := by decide +kernel
theorem d_R_ask_9 : decode b_R_ask 9 = .ok (.iload_n 2, 1) := by decide +kernel
theorem d_R_ask_10 : decode b_R_ask 10 = .ok (.invokevirtual 116, 3) := by decide +kernel
theorem d_R_ask_13 : decode b_R_ask 13 = .ok (.ifCond .ne 12, 3) := by decide +kernel
theorem d_R_ask_16 : decode b_R_ask 16 = .ok (.iload_n 2, 1) := by decide +kernel
theorem d_R_ask_17 : decode b_R_ask 17 = .ok (.aload_n 0, 1) := by decide +kernel
theorem d_R_ask_18 : decode b_R_ask 18 = .ok (.iload_n 1, 1) := by decide +kernel
theorem d_R_ask_19 : decode b_R_ask 19 = .ok (.invokevirtual 164, 3) := by decide +kernel
theorem d_R_ask_22 : decode b_R_ask 22 = .ok (.if_icmp .ge 9, 3) := by decide +kernel
theorem d_R_ask_25 : decode b_R_ask 25 = .ok (.aload_n 0, 1) := by decide +kernel
theorem d_R_ask_26 : decode b_R_ask 26 = .ok (.iconst 1, 1) := by decide +kernel
theorem d_R_ask_27 : decode b_R_ask 27 = .ok (.invokevirtual 103, 3) := by decide +kernel
theorem d_R_ask_30 : decode b_R_ask 30 = .ok (.ireturn, 1) := by decide +kernel
theorem d_R_ask_31 : decode b_R_ask 31 = .ok (.aload_n 0, 1) := by decide +kernel
theorem d_R_ask_32 : decode b_R_ask 32 = .ok (.iload_n 1, 1) := by decide +kernel
theorem d_R_ask_33 : decode b_R_ask 33 = .ok (.invokevirtual 164, 3) := by decide +kernel
theorem d_R_ask_36 : decode b_R_ask 36 = .ok (.istore_n 3, 1) := by decide +kernel
theorem d_R_ask_37 : decode b_R_ask 37 = .ok (.iload_n 3, 1) := by decide +kernel
theorem d_R_ask_38 : decode b_R_ask 38 = .ok (.iload_n 2, 1) := by decide +kernel
theorem d_R_ask_39 : decode b_R_ask 39 = .ok (.if_icmp .gt 24, 3) := by decide +kernel
theorem d_R_ask_42 : decode b_R_ask 42 = .ok (.aload_n 0, 1) := by decide +kernel
theorem d_R_ask_43 : decode b_R_ask 43 = .ok (.iload_n 3, 1) := by decide +kernel
theorem d_R_ask_44 : decode b_R_ask 44 = .ok (.iload_n 1, 1) := by decide +kernel
theorem d_R_ask_45 : decode b_R_ask 45 = .ok (.invokevirtual 126, 3) := by decide +kernel
theorem d_R_ask_48 : decode b_R_ask 48 = .ok (.ifCond .eq 9, 3) := by decide +kernel
theorem d_R_ask_51 : decode b_R_ask 51 = .ok (.aload_n 0, 1) := by decide +kernel
theorem d_R_ask_52 : decode b_R_ask 52 = .ok (.iconst 3, 1) := by decide +kernel
theorem d_R_ask_53 : decode b_R_ask 53 = .ok (.invokevirtual 103, 3) := by decide +kernel
theorem d_R_ask_56 : decode b_R_ask 56 = .ok (.ireturn, 1) := by decide +kernel
theorem d_R_ask_57 : decode b_R_ask 57 = .ok (.iinc 3 1, 3) := by decide +kernel
theorem d_R_ask_60 : decode b_R_ask 60 = .ok (.goto (-23), 3) := by decide +kernel
theorem d_R_ask_63 : decode b_R_ask 63 = .ok (.aload_n 0, 1) := by decide +kernel
theorem d_R_ask_64 : decode b_R_ask 64 = .ok (.iload_n 1, 1) := by decide +kernel
theorem d_R_ask_65 : decode b_R_ask 65 = .ok (.invokevirtual 164, 3) := by decide +kernel
theorem d_R_ask_68 : decode b_R_ask 68 = .ok (.istore_n 3, 1) := by decide +kernel
theorem d_R_ask_69 : decode b_R_ask 69 = .ok (.iload_n 3, 1) := by decide +kernel
theorem d_R_ask_70 : decode b_R_ask 70 = .ok (.iload_n 2, 1) := by decide +kernel
theorem d_R_ask_71 : decode b_R_ask 71 = .ok (.if_icmp .gt 16, 3) := by decide +kernel
theorem d_R_ask_74 : decode b_R_ask 74 = .ok (.aload_n 0, 1) := by decide +kernel
theorem d_R_ask_75 : decode b_R_ask 75 = .ok (.getfield 16, 3) := by decide +kernel
theorem d_R_ask_78 : decode b_R_ask 78 = .ok (.iload_n 3, 1) := by decide +kernel
theorem d_R_ask_79 : decode b_R_ask 79 = .ok (.iload_n 1, 1) := by decide +kernel
theorem d_R_ask_80 : decode b_R_ask 80 = .ok (.iastore, 1) := by decide +kernel
theorem d_R_ask_81 : decode b_R_ask 81 = .ok (.iinc 3 1, 3) := by decide +kernel
theorem d_R_ask_84 : decode b_R_ask 84 = .ok (.goto (-15), 3) := by decide +kernel
theorem d_R_ask_87 : decode b_R_ask 87 = .ok (.aload_n 0, 1) := by decide +kernel
theorem d_R_ask_88 : decode b_R_ask 88 = .ok (.iload_n 1, 1) := by decide +kernel
theorem d_R_ask_89 : decode b_R_ask 89 = .ok (.iconst 1, 1) := by decide +kernel
theorem d_R_ask_90 : decode b_R_ask 90 = .ok (.aload_n 0, 1) := by decide +kernel
theorem d_R_ask_91 : decode b_R_ask 91 = .ok (.getfield 7, 3) := by decide +kernel
theorem d_R_ask_94 : decode b_R_ask 94 = .ok (.iload_n 2, 1) := by decide +kernel
theorem d_R_ask_95 : decode b_R_ask 95 = .ok (.iconst 1, 1) := by decide +kernel
theorem d_R_ask_96 : decode b_R_ask 96 = .ok (.iadd, 1) := by decide +kernel
theorem d_R_ask_97 : decode b_R_ask 97 = .ok (.laload, 1) := by decide +kernel
theorem d_R_ask_98 : decode b_R_ask 98 = .ok (.invokevirtual 167, 3) := by decide +kernel
theorem d_R_ask_101 : decode b_R_ask 101 = .ok (.ireturn, 1) := by decide +kernel
theorem gl_R_164 : ∀ w ∈ wsV "TrainGuardModel" 164 "TrainGuardModel" y_R_head (Cond.code y_R_head b_R_head 4 (some Jvm.ClassFile.FieldType.int) :: tG), w ∈ tG := by
  intro x hx
  simp only [wsV, List.cons_append, List.nil_append, List.mem_cons] at hx
  rcases hx with rfl | rfl | rfl | rfl | rfl | hx
  · exact wd_772
  · exact wd_774
  · exact ws_30
  · exact wd_5
  · exact wd_775
  · exact hx
theorem gl_R_167 : ∀ w ∈ wsV "TrainGuardModel" 167 "TrainGuardModel" y_R_send (Cond.code y_R_send b_R_send 5 (some Jvm.ClassFile.FieldType.int) :: tG), w ∈ tG := by
  intro x hx
  simp only [wsV, List.cons_append, List.nil_append, List.mem_cons] at hx
  rcases hx with rfl | rfl | rfl | rfl | rfl | hx
  · exact wd_776
  · exact wd_778
  · exact ws_31
  · exact wd_5
  · exact wd_779
  · exact hx
def w_R_ask_69 : Nat → SR → Int32 → Int32 → Int32 → (Int32 → SR → Prop) → Prop
  | 0 => fun _ _ _ _ _ => False
  | n + 1 => fun S y1 y2 y3 Q => (((y2 < y3) → (∀ a21 : Int32, a21 = y2 + 1 → (vp_in a21 11 ∧ (w_R_send S y1 1 (S.2 0 a21.toNatClampNeg) (fun r22 S23 => Q r22 S23))))) ∧ ((¬ y2 < y3) → (vp_in y3 10 ∧ ((fun S9 z0 z1 z2 => w_R_ask_69 n S9 z0 z1 z2 Q) (pI S 7 y3.toNatClampNeg y1) y1 y2 (y3 + 1)))))
def w_R_ask_37 : Nat → SR → Int32 → Int32 → Int32 → (Int32 → SR → Prop) → Prop
  | 0 => fun _ _ _ _ _ => False
  | n + 1 => fun S y1 y2 y3 Q => (((y2 < y3) → (w_R_head S y1 (fun r15 S16 => ∃ n : Nat, w_R_ask_69 n S16 y1 y2 r15 Q))) ∧ ((¬ y2 < y3) → (w_R_taken S y3 y1 (fun r17 S18 => ((r17 = 0) → ((fun S9 z0 z1 z2 => w_R_ask_37 n S9 z0 z1 z2 Q) S18 y1 y2 (y3 + 1))) ∧ ((¬ r17 = 0) → (w_R_fail S18 3 (fun r19 S20 => Q r19 S20)))))))
def w_R_ask (S : SR) (x1 : Int32) (x2 : Int32) (Q : Int32 → SR → Prop) : Prop := w_R_noTrain S x1 (fun r1 S2 => ((¬ r1 = 0) → (w_R_fail S2 1 (fun r3 S4 => Q r3 S4))) ∧ ((r1 = 0) → (w_R_noSection S2 x2 (fun r5 S6 => ((¬ r5 = 0) → (w_R_fail S6 1 (fun r7 S8 => Q r7 S8))) ∧ ((r5 = 0) → (w_R_head S6 x1 (fun r9 S10 => ((r9 ≤ x2) → (w_R_head S10 x1 (fun r11 S12 => ∃ n : Nat, w_R_ask_37 n S12 x1 x2 r11 Q))) ∧ ((¬ r9 ≤ x2) → (w_R_fail S10 1 (fun r13 S14 => Q r13 S14))))))))))
set_option maxRecDepth 100000 in
set_option maxHeartbeats 4000000 in
theorem c_R_ask (l : Launch) (D : va_G) (ca : Nat → ClassId) (ad : Nat → Nat) (sz : Nat) (S : SR) (x1 : Int32) (x2 : Int32)  (Q : Int32 → SR → Prop) (h : w_R_ask S x1 x2 Q) : Met l y_R_ask (Cond.code y_R_ask b_R_ask 4 (some Jvm.ClassFile.FieldType.int) :: tG) ({ frames := 2, cells := 0, slots := 0, locals := 45 } : Room) (xPc D ca (wR ca ad) S sz [.ref (ad 0), .int x1, .int x2]) (va_Qi Q (xAt D (wR ca ad) (va_A (wR ca ad S) sz)) (va_A (wR ca ad S) sz)) 0 0 (va_A (wR ca ad S) sz) := by
  refine xx_met (Qf := fun A => va_Qi Q (xAt D (wR ca ad) A) A) (by decide) (Nat.le_of_ble_eq_true rfl) ?_
  intro p e s m args below meth c A ls hx hb hr hw hown hlocks hml hK hN hA hP hD hS hl
  have hown : s.vm.findClass "TrainGuardModel" = some m.cls := hown
  have hl : lv_has ls 4 [(0, .ref (ad 0)), (1, .int x1), (2, .int x2)] := hl
  unfold w_R_ask at h
  have bk_69 : ∀ (n9 : Nat) (S : SR) (y1 : Int32) (y2 : Int32) (y3 : Int32) (H : Heap) (locs : List Loc) , va_P D cls (wR ca ad S) H → va_D A (wR ca ad S) → va_S A s.heap H locs → ∀ (ls : Array Slot), lv_has ls 4 [(0, .ref (ad 0)), (1, .int y1), (2, .int y2), (3, .int y3)] → w_R_ask_69 n9 S y1 y2 y3 Q → W p l e ({ frames := 2, cells := 0, slots := 0, locals := 45 } : Room) s m args below meth c H locs 0 0 (MQ below ((fun A => va_Qi Q (xAt D (wR ca ad) A) A) A) args s 0 0 A) (F0 m 69 ls []) := by
    intro n9
    induction n9 with
    | zero => intro S y1 y2 y3 H locs hP hD hS ls hl h; exact absurd h id
    | succ n9 hK69 =>
      intro S y1 y2 y3 H locs hP hD hS ls hl h
      replace h : ((y2 < y3) → (∀ a21 : Int32, a21 = y2 + 1 → (vp_in a21 11 ∧ (w_R_send S y1 1 (S.2 0 a21.toNatClampNeg) (fun r22 S23 => Q r22 S23))))) ∧ ((¬ y2 < y3) → (vp_in y3 10 ∧ ((fun S9 z0 z1 z2 => w_R_ask_69 n9 S9 z0 z1 z2 Q) (pI S 7 y3.toNatClampNeg y1) y1 y2 (y3 + 1)))) := h
      refine lv_iload_n hx hb d_R_ask_69 rfl (lv_at hl 3 rfl) ?_
      refine lv_iload_n hx hb d_R_ask_70 rfl (lv_at hl 2 rfl) ?_
      refine lv_icmp_gt (tgt := 87) hx hb d_R_ask_71 (by decide) (fun hc => ?_) (fun hc => ?_)
      · replace h := h.1 hc
        refine lv_aload_n hx hb d_R_ask_87 rfl (lv_at hl 0 rfl) ?_
        refine lv_iload_n hx hb d_R_ask_88 rfl (lv_at hl 1 rfl) ?_
        refine lv_iconst (v := 1) hx hb d_R_ask_89 (by decide) ?_
        refine lv_aload_n hx hb d_R_ask_90 rfl (lv_at hl 0 rfl) ?_
        refine va_get (D := D) (ci := 4) (v := .ref (ad 1)) (C := Rc_R) (T := Fc_R) (N := 25) hx hb hw inc_R hown hK hP 0 rfl rfl 2 (by decide) (hw _ wd_593) (fun _ h9 => h9) rfl d_R_ask_91 ?_
        refine lv_iload_n hx hb d_R_ask_94 rfl (lv_at hl 2 rfl) ?_
        refine lv_iconst (v := 1) hx hb d_R_ask_95 (by decide) ?_
        refine lv_iadd hx hb d_R_ask_96 ?_
        refine lv_topi (fun a21 e_a21 => ?_)
        replace h := h a21 e_a21
        obtain ⟨hq, h⟩ := h
        refine va_lald (D := D) hx hb hK hP 1 1 rfl rfl hq d_R_ask_97 ?_
        refine xx_calli (va_runV (As := [.int y1, .int 1, .long (S.2 0 a21.toNatClampNeg)]) (rest := []) ⟨hx, hb, hml, hown, hw⟩ (c_R_send l D ca ad H.size S y1 1 (S.2 0 a21.toNatClampNeg) _ h) (cwV 3 hw (tG_g gl_R_167) rfl rfl rfl (by decide +kernel) ⟨Nat.le_of_ble_eq_true rfl, Nat.le_of_ble_eq_true rfl⟩) ⟨xPc.blind, va_recv hK hP rfl (q0 := 0) rfl, xPc.pre hK hN hP hD⟩ rfl rfl hl.1 rfl (lv_room (Nat.le_of_ble_eq_true rfl)) d_R_ask_98 ⟨Nat.le_of_ble_eq_true rfl, Nat.le_of_ble_eq_true rfl⟩) hD hS hA (fun r22 S23 H locs h hP hD hS => ?_)
        exact W.iret (v := r22) hx hb hr (fun t ht hW => ⟨⟨r22, S23, rfl, h, by rw [ht]; exact hP, hD⟩, hS.F ht⟩) hS.2.2 d_R_ask_101
      · replace h := h.2 hc
        refine lv_aload_n hx hb d_R_ask_74 rfl (lv_at hl 0 rfl) ?_
        refine va_get (D := D) (ci := 4) (v := .ref (ad 3)) (C := Rc_R) (T := Fc_R) (N := 25) hx hb hw inc_R hown hK hP 0 rfl rfl 4 (by decide) (hw _ wd_595) (fun _ h9 => h9) rfl d_R_ask_75 ?_
        refine lv_iload_n hx hb d_R_ask_78 rfl (lv_at hl 3 rfl) ?_
        refine lv_iload_n hx hb d_R_ask_79 rfl (lv_at hl 1 rfl) ?_
        obtain ⟨hq, h⟩ := h
        refine va_iast (D := D) hx hb hK hP hD hS 3 0 rfl rfl hq d_R_ask_80 (fun H locs hP hD hS => ?_)
        rw [pt_R_held] at hP hD
        refine lv_iinc (v := (y3 + 1)) (lv' := [(3, .int (y3 + 1)), (0, .ref (ad 0)), (1, .int y1), (2, .int y2)]) hx hb d_R_ask_81 hl (k := 3) rfl rfl (by decide) rfl (fun ls hl => ?_)
        refine lv_goto (tgt := 69) hx hb d_R_ask_84 (by decide) ?_
        exact hK69 (pI S 7 y3.toNatClampNeg y1) y1 y2 (y3 + 1) H locs hP hD hS ls (lv_sub hl [1, 2, 3, 0] rfl) h
  have bk_37 : ∀ (n9 : Nat) (S : SR) (y1 : Int32) (y2 : Int32) (y3 : Int32) (H : Heap) (locs : List Loc) , va_P D cls (wR ca ad S) H → va_D A (wR ca ad S) → va_S A s.heap H locs → ∀ (ls : Array Slot), lv_has ls 4 [(0, .ref (ad 0)), (1, .int y1), (2, .int y2), (3, .int y3)] → w_R_ask_37 n9 S y1 y2 y3 Q → W p l e ({ frames := 2, cells := 0, slots := 0, locals := 45 } : Room) s m args below meth c H locs 0 0 (MQ below ((fun A => va_Qi Q (xAt D (wR ca ad) A) A) A) args s 0 0 A) (F0 m 37 ls []) := by
    intro n9
    induction n9 with
    | zero => intro S y1 y2 y3 H locs hP hD hS ls hl h; exact absurd h id
    | succ n9 hK37 =>
      intro S y1 y2 y3 H locs hP hD hS ls hl h
      replace h : ((y2 < y3) → (w_R_head S y1 (fun r15 S16 => ∃ n : Nat, w_R_ask_69 n S16 y1 y2 r15 Q))) ∧ ((¬ y2 < y3) → (w_R_taken S y3 y1 (fun r17 S18 => ((r17 = 0) → ((fun S9 z0 z1 z2 => w_R_ask_37 n9 S9 z0 z1 z2 Q) S18 y1 y2 (y3 + 1))) ∧ ((¬ r17 = 0) → (w_R_fail S18 3 (fun r19 S20 => Q r19 S20)))))) := h
      refine lv_iload_n hx hb d_R_ask_37 rfl (lv_at hl 3 rfl) ?_
      refine lv_iload_n hx hb d_R_ask_38 rfl (lv_at hl 2 rfl) ?_
      refine lv_icmp_gt (tgt := 63) hx hb d_R_ask_39 (by decide) (fun hc => ?_) (fun hc => ?_)
      · replace h := h.1 hc
        refine lv_aload_n hx hb d_R_ask_63 rfl (lv_at hl 0 rfl) ?_
        refine lv_iload_n hx hb d_R_ask_64 rfl (lv_at hl 1 rfl) ?_
        refine xx_calli (va_runV (As := [.int y1]) (rest := []) ⟨hx, hb, hml, hown, hw⟩ (c_R_head l D ca ad H.size S y1 _ h) (cwV 1 hw (tG_g gl_R_164) rfl rfl rfl (by decide +kernel) ⟨Nat.le_of_ble_eq_true rfl, Nat.le_of_ble_eq_true rfl⟩) ⟨xPc.blind, va_recv hK hP rfl (q0 := 0) rfl, xPc.pre hK hN hP hD⟩ rfl rfl hl.1 rfl (lv_room (Nat.le_of_ble_eq_true rfl)) d_R_ask_65 ⟨Nat.le_of_ble_eq_true rfl, Nat.le_of_ble_eq_true rfl⟩) hD hS hA (fun r15 S16 H locs h hP hD hS => ?_)
        refine lv_istore_n (lv' := [(3, .int r15), (0, .ref (ad 0)), (1, .int y1), (2, .int y2)]) hx hb d_R_ask_68 rfl hl (by decide) rfl (fun ls hl => ?_)
        obtain ⟨n9, h⟩ := h
        exact bk_69 n9 S16 y1 y2 r15 H locs hP hD hS ls (lv_sub hl [1, 2, 3, 0] rfl) h
      · replace h := h.2 hc
        refine lv_aload_n hx hb d_R_ask_42 rfl (lv_at hl 0 rfl) ?_
        refine lv_iload_n hx hb d_R_ask_43 rfl (lv_at hl 3 rfl) ?_
        refine lv_iload_n hx hb d_R_ask_44 rfl (lv_at hl 1 rfl) ?_
        refine xx_calli (va_runV (As := [.int y3, .int y1]) (rest := []) ⟨hx, hb, hml, hown, hw⟩ (c_R_taken l D ca ad H.size S y3 y1 _ h) (cwV 2 hw (tG_g gl_R_126) rfl rfl rfl (by decide +kernel) ⟨Nat.le_of_ble_eq_true rfl, Nat.le_of_ble_eq_true rfl⟩) ⟨xPc.blind, va_recv hK hP rfl (q0 := 0) rfl, xPc.pre hK hN hP hD⟩ rfl rfl hl.1 rfl (lv_room (Nat.le_of_ble_eq_true rfl)) d_R_ask_45 ⟨Nat.le_of_ble_eq_true rfl, Nat.le_of_ble_eq_true rfl⟩) hD hS hA (fun r17 S18 H locs h hP hD hS => ?_)
        refine lv_if_eq (tgt := 57) hx hb d_R_ask_48 (by decide) (fun hc => ?_) (fun hc => ?_)
        · replace h := h.1 hc
          refine lv_iinc (v := (y3 + 1)) (lv' := [(3, .int (y3 + 1)), (0, .ref (ad 0)), (1, .int y1), (2, .int y2)]) hx hb d_R_ask_57 hl (k := 3) rfl rfl (by decide) rfl (fun ls hl => ?_)
          refine lv_goto (tgt := 37) hx hb d_R_ask_60 (by decide) ?_
          exact hK37 S18 y1 y2 (y3 + 1) H locs hP hD hS ls (lv_sub hl [1, 2, 3, 0] rfl) h
        · replace h := h.2 hc
          refine lv_aload_n hx hb d_R_ask_51 rfl (lv_at hl 0 rfl) ?_
          refine lv_iconst (v := 3) hx hb d_R_ask_52 (by decide) ?_
          refine xx_calli (va_runV (As := [.int 3]) (rest := []) ⟨hx, hb, hml, hown, hw⟩ (c_R_fail l D ca ad H.size S18 3 _ h) (cwV 1 hw (tG_g gl_R_103) rfl rfl rfl (by decide +kernel) ⟨Nat.le_of_ble_eq_true rfl, Nat.le_of_ble_eq_true rfl⟩) ⟨xPc.blind, va_recv hK hP rfl (q0 := 0) rfl, xPc.pre hK hN hP hD⟩ rfl rfl hl.1 rfl (lv_room (Nat.le_of_ble_eq_true rfl)) d_R_ask_53 ⟨Nat.le_of_ble_eq_true rfl, Nat.le_of_ble_eq_true rfl⟩) hD hS hA (fun r19 S20 H locs h hP hD hS => ?_)
          exact W.iret (v := r19) hx hb hr (fun t ht hW => ⟨⟨r19, S20, rfl, h, by rw [ht]; exact hP, hD⟩, hS.F ht⟩) hS.2.2 d_R_ask_56
  have hH9 : ∀ H : Heap, H = s.heap → va_P D cls (wR ca ad S) H → va_S A s.heap H [] → W p l e ({ frames := 2, cells := 0, slots := 0, locals := 45 } : Room) s m args below meth c H [] 0 0 (MQ below ((fun A => va_Qi Q (xAt D (wR ca ad) A) A) A) args s 0 0 A) (F0 m 0 ls []) := by
    clear hP hS
    intro H hH hP hS
    obtain ⟨locs, hlo⟩ : ∃ z : List Loc, z = [] := ⟨_, rfl⟩
    rw [← hlo] at hS ⊢
    refine lv_aload_n hx hb d_R_ask_0 rfl (lv_at hl 0 rfl) ?_
    refine lv_iload_n hx hb d_R_ask_1 rfl (lv_at hl 1 rfl) ?_
    refine xx_calli (va_runV (As := [.int x1]) (rest := []) ⟨hx, hb, hml, hown, hw⟩ (c_R_noTrain l D ca ad H.size S x1 _ h) (cwV 1 hw (tG_g gl_R_158) rfl rfl rfl (by decide +kernel) ⟨Nat.le_of_ble_eq_true rfl, Nat.le_of_ble_eq_true rfl⟩) ⟨xPc.blind, va_recv hK hP rfl (q0 := 0) rfl, xPc.pre hK hN hP hD⟩ rfl rfl hl.1 rfl (lv_room (Nat.le_of_ble_eq_true rfl)) d_R_ask_2 ⟨Nat.le_of_ble_eq_true rfl, Nat.le_of_ble_eq_true rfl⟩) hD hS hA (fun r1 S2 H locs h hP hD hS => ?_)
    refine lv_if_ne (tgt := 25) hx hb d_R_ask_5 (by decide) (fun hc => ?_) (fun hc => ?_)
    · replace h := h.1 hc
      refine lv_aload_n hx hb d_R_ask_25 rfl (lv_at hl 0 rfl) ?_
      refine lv_iconst (v := 1) hx hb d_R_ask_26 (by decide) ?_
      refine xx_calli (va_runV (As := [.int 1]) (rest := []) ⟨hx, hb, hml, hown, hw⟩ (c_R_fail l D ca ad H.size S2 1 _ h) (cwV 1 hw (tG_g gl_R_103) rfl rfl rfl (by decide +kernel) ⟨Nat.le_of_ble_eq_true rfl, Nat.le_of_ble_eq_true rfl⟩) ⟨xPc.blind, va_recv hK hP rfl (q0 := 0) rfl, xPc.pre hK hN hP hD⟩ rfl rfl hl.1 rfl (lv_room (Nat.le_of_ble_eq_true rfl)) d_R_ask_27 ⟨Nat.le_of_ble_eq_true rfl, Nat.le_of_ble_eq_true rfl⟩) hD hS hA (fun r3 S4 H locs h hP hD hS => ?_)
      exact W.iret (v := r3) hx hb hr (fun t ht hW => ⟨⟨r3, S4, rfl, h, by rw [ht]; exact hP, hD⟩, hS.F ht⟩) hS.2.2 d_R_ask_30
    · replace h := h.2 hc
      refine lv_aload_n hx hb d_R_ask_8 rfl (lv_at hl 0 rfl) ?_
      refine lv_iload_n hx hb d_R_ask_9 rfl (lv_at hl 2 rfl) ?_
      refine xx_calli (va_runV (As := [.int x2]) (rest := []) ⟨hx, hb, hml, hown, hw⟩ (c_R_noSection l D ca ad H.size S2 x2 _ h) (cwV 1 hw (tG_g gl_R_116) rfl rfl rfl (by decide +kernel) ⟨Nat.le_of_ble_eq_true rfl, Nat.le_of_ble_eq_true rfl⟩) ⟨xPc.blind, va_recv hK hP rfl (q0 := 0) rfl, xPc.pre hK hN hP hD⟩ rfl rfl hl.1 rfl (lv_room (Nat.le_of_ble_eq_true rfl)) d_R_ask_10 ⟨Nat.le_of_ble_eq_true rfl, Nat.le_of_ble_eq_true rfl⟩) hD hS hA (fun r5 S6 H locs h hP hD hS => ?_)
      refine lv_if_ne (tgt := 25) hx hb d_R_ask_13 (by decide) (fun hc => ?_) (fun hc => ?_)
      · replace h := h.1 hc
        refine lv_aload_n hx hb d_R_ask_25 rfl (lv_at hl 0 rfl) ?_
        refine lv_iconst (v := 1) hx hb d_R_ask_26 (by decide) ?_
        refine xx_calli (va_runV (As := [.int 1]) (rest := []) ⟨hx, hb, hml, hown, hw⟩ (c_R_fail l D ca ad H.size S6 1 _ h) (cwV 1 hw (tG_g gl_R_103) rfl rfl rfl (by decide +kernel) ⟨Nat.le_of_ble_eq_true rfl, Nat.le_of_ble_eq_true rfl⟩) ⟨xPc.blind, va_recv hK hP rfl (q0 := 0) rfl, xPc.pre hK hN hP hD⟩ rfl rfl hl.1 rfl (lv_room (Nat.le_of_ble_eq_true rfl)) d_R_ask_27 ⟨Nat.le_of_ble_eq_true rfl, Nat.le_of_ble_eq_true rfl⟩) hD hS hA (fun r7 S8 H locs h hP hD hS => ?_)
        exact W.iret (v := r7) hx hb hr (fun t ht hW => ⟨⟨r7, S8, rfl, h, by rw [ht]; exact hP, hD⟩, hS.F ht⟩) hS.2.2 d_R_ask_30
      · replace h := h.2 hc
        refine lv_iload_n hx hb d_R_ask_16 rfl (lv_at hl 2 rfl) ?_
        refine lv_aload_n hx hb d_R_ask_17 rfl (lv_at hl 0 rfl) ?_
        refine lv_iload_n hx hb d_R_ask_18 rfl (lv_at hl 1 rfl) ?_
        refine xx_calli (va_runV (As := [.int x1]) (rest := [.int x2]) ⟨hx, hb, hml, hown, hw⟩ (c_R_head l D ca ad H.size S6 x1 _ h) (cwV 1 hw (tG_g gl_R_164) rfl rfl rfl (by decide +kernel) ⟨Nat.le_of_ble_eq_true rfl, Nat.le_of_ble_eq_true rfl⟩) ⟨xPc.blind, va_recv hK hP rfl (q0 := 0) rfl, xPc.pre hK hN hP hD⟩ rfl rfl hl.1 rfl (lv_room (Nat.le_of_ble_eq_true rfl)) d_R_ask_19 ⟨Nat.le_of_ble_eq_true rfl, Nat.le_of_ble_eq_true rfl⟩) hD hS hA (fun r9 S10 H locs h hP hD hS => ?_)
        refine lv_icmp_ge (tgt := 31) hx hb d_R_ask_22 (by decide) (fun hc => ?_) (fun hc => ?_)
        · replace h := h.1 hc
          refine lv_aload_n hx hb d_R_ask_31 rfl (lv_at hl 0 rfl) ?_
          refine lv_iload_n hx hb d_R_ask_32 rfl (lv_at hl 1 rfl) ?_
          refine xx_calli (va_runV (As := [.int x1]) (rest := []) ⟨hx, hb, hml, hown, hw⟩ (c_R_head l D ca ad H.size S10 x1 _ h) (cwV 1 hw (tG_g gl_R_164) rfl rfl rfl (by decide +kernel) ⟨Nat.le_of_ble_eq_true rfl, Nat.le_of_ble_eq_true rfl⟩) ⟨xPc.blind, va_recv hK hP rfl (q0 := 0) rfl, xPc.pre hK hN hP hD⟩ rfl rfl hl.1 rfl (lv_room (Nat.le_of_ble_eq_true rfl)) d_R_ask_33 ⟨Nat.le_of_ble_eq_true rfl, Nat.le_of_ble_eq_true rfl⟩) hD hS hA (fun r11 S12 H locs h hP hD hS => ?_)
          refine lv_istore_n (lv' := [(3, .int r11), (0, .ref (ad 0)), (1, .int x1), (2, .int x2)]) hx hb d_R_ask_36 rfl hl (by decide) rfl (fun ls hl => ?_)
          obtain ⟨n9, h⟩ := h
          exact bk_37 n9 S12 x1 x2 r11 H locs hP hD hS ls (lv_sub hl [1, 2, 3, 0] rfl) h
        · replace h := h.2 hc
          refine lv_aload_n hx hb d_R_ask_25 rfl (lv_at hl 0 rfl) ?_
          refine lv_iconst (v := 1) hx hb d_R_ask_26 (by decide) ?_
          refine xx_calli (va_runV (As := [.int 1]) (rest := []) ⟨hx, hb, hml, hown, hw⟩ (c_R_fail l D ca ad H.size S10 1 _ h) (cwV 1 hw (tG_g gl_R_103) rfl rfl rfl (by decide +kernel) ⟨Nat.le_of_ble_eq_true rfl, Nat.le_of_ble_eq_true rfl⟩) ⟨xPc.blind, va_recv hK hP rfl (q0 := 0) rfl, xPc.pre hK hN hP hD⟩ rfl rfl hl.1 rfl (lv_room (Nat.le_of_ble_eq_true rfl)) d_R_ask_27 ⟨Nat.le_of_ble_eq_true rfl, Nat.le_of_ble_eq_true rfl⟩) hD hS hA (fun r13 S14 H locs h hP hD hS => ?_)
          exact W.iret (v := r13) hx hb hr (fun t ht hW => ⟨⟨r13, S14, rfl, h, by rw [ht]; exact hP, hD⟩, hS.F ht⟩) hS.2.2 d_R_ask_30
  exact hH9 _ rfl hP hS
theorem d_R_stop_0 : decode b_R_stop 0 = .ok (.aload_n 0, 1) := by decide +kernel
theorem d_R_stop_1 : decode b_R_stop 1 = .ok (.iload_n 1, 1) := by decide +kernel
theorem d_R_stop_2 : decode b_R_stop 2 = .ok (.invokevirtual 158, 3) := by decide +kernel
theorem d_R_stop_5 : decode b_R_stop 5 = .ok (.ifCond .eq 11, 3) := by decide +kernel
theorem d_R_stop_8 : decode b_R_stop 8 = .ok (.aload_n 0, 1) := by decide +kernel
theorem d_R_stop_9 : decode b_R_stop 9 = .ok (.iconst 1, 1) := by decide +kernel
theorem d_R_stop_10 : decode b_R_stop 10 = .ok (.invokevirtual 103, 3) := by decide +kernel
theorem d_R_stop_13 : decode b_R_stop 13 = .ok (.goto 10, 3) := by decide +kernel
theorem d_R_stop_16 : decode b_R_stop 16 = .ok (.aload_n 0, 1) := by decide +kernel
theorem d_R_stop_17 : decode b_R_stop 17 = .ok (.iload_n 1, 1) := by decide +kernel
theorem d_R_stop_18 : decode b_R_stop 18 = .ok (.iconst 2, 1) := by decide +kernel
theorem d_R_stop_19 : decode b_R_stop 19 = .ok (.lconst 0, 1) := by decide +kernel
theorem d_R_stop_20 : decode b_R_stop 20 = .ok (.invokevirtual 167, 3) := by decide +kernel
theorem d_R_stop_23 : decode b_R_stop 23 = .ok (.ireturn, 1) := by decide +kernel
def w_R_stop (S : SR) (x1 : Int32) (Q : Int32 → SR → Prop) : Prop := w_R_noTrain S x1 (fun r1 S2 => ((r1 = 0) → (w_R_send S2 x1 2 0 (fun r3 S4 => Q r3 S4))) ∧ ((¬ r1 = 0) → (w_R_fail S2 1 (fun r5 S6 => Q r5 S6))))
set_option maxRecDepth 100000 in
set_option maxHeartbeats 4000000 in
theorem c_R_stop (l : Launch) (D : va_G) (ca : Nat → ClassId) (ad : Nat → Nat) (sz : Nat) (S : SR) (x1 : Int32)  (Q : Int32 → SR → Prop) (h : w_R_stop S x1 Q) : Met l y_R_stop (Cond.code y_R_stop b_R_stop 2 (some Jvm.ClassFile.FieldType.int) :: tG) ({ frames := 2, cells := 0, slots := 0, locals := 45 } : Room) (xPc D ca (wR ca ad) S sz [.ref (ad 0), .int x1]) (va_Qi Q (xAt D (wR ca ad) (va_A (wR ca ad S) sz)) (va_A (wR ca ad S) sz)) 0 0 (va_A (wR ca ad S) sz) := by
  refine xx_met (Qf := fun A => va_Qi Q (xAt D (wR ca ad) A) A) (by decide) (Nat.le_of_ble_eq_true rfl) ?_
  intro p e s m args below meth c A ls hx hb hr hw hown hlocks hml hK hN hA hP hD hS hl
  have hown : s.vm.findClass "TrainGuardModel" = some m.cls := hown
  have hl : lv_has ls 2 [(0, .ref (ad 0)), (1, .int x1)] := hl
  unfold w_R_stop at h
  have hH9 : ∀ H : Heap, H = s.heap → va_P D cls (wR ca ad S) H → va_S A s.heap H [] → W p l e ({ frames := 2, cells := 0, slots := 0, locals := 45 } : Room) s m args below meth c H [] 0 0 (MQ below ((fun A => va_Qi Q (xAt D (wR ca ad) A) A) A) args s 0 0 A) (F0 m 0 ls []) := by
    clear hP hS
    intro H hH hP hS
    obtain ⟨locs, hlo⟩ : ∃ z : List Loc, z = [] := ⟨_, rfl⟩
    rw [← hlo] at hS ⊢
    refine lv_aload_n hx hb d_R_stop_0 rfl (lv_at hl 0 rfl) ?_
    refine lv_iload_n hx hb d_R_stop_1 rfl (lv_at hl 1 rfl) ?_
    refine xx_calli (va_runV (As := [.int x1]) (rest := []) ⟨hx, hb, hml, hown, hw⟩ (c_R_noTrain l D ca ad H.size S x1 _ h) (cwV 1 hw (tG_g gl_R_158) rfl rfl rfl (by decide +kernel) ⟨Nat.le_of_ble_eq_true rfl, Nat.le_of_ble_eq_true rfl⟩) ⟨xPc.blind, va_recv hK hP rfl (q0 := 0) rfl, xPc.pre hK hN hP hD⟩ rfl rfl hl.1 rfl (lv_room (Nat.le_of_ble_eq_true rfl)) d_R_stop_2 ⟨Nat.le_of_ble_eq_true rfl, Nat.le_of_ble_eq_true rfl⟩) hD hS hA (fun r1 S2 H locs h hP hD hS => ?_)
    refine lv_if_eq (tgt := 16) hx hb d_R_stop_5 (by decide) (fun hc => ?_) (fun hc => ?_)
    · replace h := h.1 hc
      refine lv_aload_n hx hb d_R_stop_16 rfl (lv_at hl 0 rfl) ?_
      refine lv_iload_n hx hb d_R_stop_17 rfl (lv_at hl 1 rfl) ?_
      refine lv_iconst (v := 2) hx hb d_R_stop_18 (by decide) ?_
      refine lv_lconst (v := 0) hx hb d_R_stop_19 (by decide) ?_
      refine xx_calli (va_runV (As := [.int x1, .int 2, .long 0]) (rest := []) ⟨hx, hb, hml, hown, hw⟩ (c_R_send l D ca ad H.size S2 x1 2 0 _ h) (cwV 3 hw (tG_g gl_R_167) rfl rfl rfl (by decide +kernel) ⟨Nat.le_of_ble_eq_true rfl, Nat.le_of_ble_eq_true rfl⟩) ⟨xPc.blind, va_recv hK hP rfl (q0 := 0) rfl, xPc.pre hK hN hP hD⟩ rfl rfl hl.1 rfl (lv_room (Nat.le_of_ble_eq_true rfl)) d_R_stop_20 ⟨Nat.le_of_ble_eq_true rfl, Nat.le_of_ble_eq_true rfl⟩) hD hS hA (fun r3 S4 H locs h hP hD hS => ?_)
      exact W.iret (v := r3) hx hb hr (fun t ht hW => ⟨⟨r3, S4, rfl, h, by rw [ht]; exact hP, hD⟩, hS.F ht⟩) hS.2.2 d_R_stop_23
    · replace h := h.2 hc
      refine lv_aload_n hx hb d_R_stop_8 rfl (lv_at hl 0 rfl) ?_
      refine lv_iconst (v := 1) hx hb d_R_stop_9 (by decide) ?_
      refine xx_calli (va_runV (As := [.int 1]) (rest := []) ⟨hx, hb, hml, hown, hw⟩ (c_R_fail l D ca ad H.size S2 1 _ h) (cwV 1 hw (tG_g gl_R_103) rfl rfl rfl (by decide +kernel) ⟨Nat.le_of_ble_eq_true rfl, Nat.le_of_ble_eq_true rfl⟩) ⟨xPc.blind, va_recv hK hP rfl (q0 := 0) rfl, xPc.pre hK hN hP hD⟩ rfl rfl hl.1 rfl (lv_room (Nat.le_of_ble_eq_true rfl)) d_R_stop_10 ⟨Nat.le_of_ble_eq_true rfl, Nat.le_of_ble_eq_true rfl⟩) hD hS hA (fun r5 S6 H locs h hP hD hS => ?_)
      refine lv_goto (tgt := 23) hx hb d_R_stop_13 (by decide) ?_
      exact W.iret (v := r5) hx hb hr (fun t ht hW => ⟨⟨r5, S6, rfl, h, by rw [ht]; exact hP, hD⟩, hS.F ht⟩) hS.2.2 d_R_stop_23
  exact hH9 _ rfl hP hS
theorem d_R_takeAuthority_0 : decode b_R_takeAuthority 0 = .ok (.aload_n 0, 1) := by decide +kernel
theorem d_R_takeAuthority_1 : decode b_R_takeAuthority 1 = .ok (.getfield 60, 3) := by decide +kernel
theorem d_R_takeAuthority_4 : decode b_R_takeAuthority 4 = .ok (.iload_n 1, 1) := by decide +kernel
theorem d_R_takeAuthority_5 : decode b_R_takeAuthority 5 = .ok (.iconst 0, 1) := by decide +kernel
theorem d_R_takeAuthority_6 : decode b_R_takeAuthority 6 = .ok (.iastore, 1) := by decide +kernel
theorem d_R_takeAuthority_7 : decode b_R_takeAuthority 7 = .ok (.aload_n 0, 1) := by decide +kernel
theorem d_R_takeAuthority_8 : decode b_R_takeAuthority 8 = .ok (.iload_n 1, 1) := by decide +kernel
theorem d_R_takeAuthority_9 : decode b_R_takeAuthority 9 = .ok (.aload_n 0, 1) := by decide +kernel
theorem d_R_takeAuthority_10 : decode b_R_takeAuthority 10 = .ok (.getfield 63, 3) := by decide +kernel
theorem d_R_takeAuthority_13 : decode b_R_takeAuthority 13 = .ok (.iload_n 1, 1) := by decide +kernel
theorem d_R_takeAuthority_14 : decode b_R_takeAuthority 14 = .ok (.laload, 1) := by decide +kernel
theorem d_R_takeAuthority_15 : decode b_R_takeAuthority 15 = .ok (.aload_n 0, 1) := by decide +kernel
theorem d_R_takeAuthority_16 : decode b_R_takeAuthority 16 = .ok (.getfield 41, 3) := by decide +kernel
theorem d_R_takeAuthority_19 : decode b_R_takeAuthority 19 = .ok (.iload_n 1, 1) := by decide +kernel
theorem d_R_takeAuthority_20 : decode b_R_takeAuthority 20 = .ok (.laload, 1) := by decide +kernel
theorem d_R_takeAuthority_21 : decode b_R_takeAuthority 21 = .ok (.aload_n 0, 1) := by decide +kernel
theorem d_R_takeAuthority_22 : decode b_R_takeAuthority 22 = .ok (.getfield 44, 3) := by decide +kernel
theorem d_R_takeAuthority_25 : decode b_R_takeAuthority 25 = .ok (.iload_n 1, 1) := by decide +kernel
theorem d_R_takeAuthority_26 : decode b_R_takeAuthority 26 = .ok (.laload, 1) := by decide +kernel
theorem d_R_takeAuthority_27 : decode b_R_takeAuthority 27 = .ok (.aload_n 0, 1) := by decide +kernel
theorem d_R_takeAuthority_28 : decode b_R_takeAuthority 28 = .ok (.getfield 35, 3) := by decide +kernel
theorem d_R_takeAuthority_31 : decode b_R_takeAuthority 31 = .ok (.iload_n 1, 1) := by decide +kernel
theorem d_R_takeAuthority_32 : decode b_R_takeAuthority 32 = .ok (.laload, 1) := by decide +kernel
theorem d_R_takeAuthority_33 : decode b_R_takeAuthority 33 = .ok (.lconst 0, 1) := by decide +kernel
theorem d_R_takeAuthority_34 : decode b_R_takeAuthority 34 = .ok (.invokevirtual 143, 3) := by decide +kernel
theorem d_R_takeAuthority_37 : decode b_R_takeAuthority 37 = .ok (.ifCond .ne 9, 3) := by decide +kernel
theorem d_R_takeAuthority_40 : decode b_R_takeAuthority 40 = .ok (.aload_n 0, 1) := by decide +kernel
theorem d_R_takeAuthority_41 : decode b_R_takeAuthority 41 = .ok (.iconst 4, 1) := by decide +kernel
theorem d_R_takeAuthority_42 : decode b_R_takeAuthority 42 = .ok (.invokevirtual 103, 3) := by decide +kernel
theorem d_R_takeAuthority_45 : decode b_R_takeAuthority 45 = .ok (.ireturn, 1) := by decide +kernel
theorem d_R_takeAuthority_46 : decode b_R_takeAuthority 46 = .ok (.aload_n 0, 1) := by decide +kernel
theorem d_R_takeAuthority_47 : decode b_R_takeAuthority 47 = .ok (.getfield 47, 3) := by decide +kernel
theorem d_R_takeAuthority_50 : decode b_R_takeAuthority 50 = .ok (.iload_n 1, 1) := by decide +kernel
theorem d_R_takeAuthority_51 : decode b_R_takeAuthority 51 = .ok (.aload_n 0, 1) := by decide +kernel
theorem d_R_takeAuthority_52 : decode b_R_takeAuthority 52 = .ok (.getfield 63, 3) := by decide +kernel
theorem d_R_takeAuthority_55 : decode b_R_takeAuthority 55 = .ok (.iload_n 1, 1) := by decide +kernel
theorem d_R_takeAuthority_56 : decode b_R_takeAuthority 56 = .ok (.laload, 1) := by decide +kernel
theorem d_R_takeAuthority_57 : decode b_R_takeAuthority 57 = .ok (.lastore, 1) := by decide +kernel
theorem d_R_takeAuthority_58 : decode b_R_takeAuthority 58 = .ok (.aload_n 0, 1) := by decide +kernel
theorem d_R_takeAuthority_59 : decode b_R_takeAuthority 59 = .ok (.getfield 50, 3) := by decide +kernel
theorem d_R_takeAuthority_62 : decode b_R_takeAuthority 62 = .ok (.iload_n 1, 1) := by decide +kernel
theorem d_R_takeAuthority_63 : decode b_R_takeAuthority 63 = .ok (.iaload, 1) := by decide +kernel
theorem d_R_takeAuthority_64 : decode b_R_takeAuthority 64 = .ok (.iconst 1, 1) := by decide +kernel
theorem d_R_takeAuthority_65 : decode b_R_takeAuthority 65 = .ok (.if_icmp .ne 29, 3) := by decide +kernel
theorem d_R_takeAuthority_68 : decode b_R_takeAuthority 68 = .ok (.aload_n 0, 1) := by decide +kernel
theorem d_R_takeAuthority_69 : decode b_R_takeAuthority 69 = .ok (.getfield 35, 3) := by decide +kernel
theorem d_R_takeAuthority_72 : decode b_R_takeAuthority 72 = .ok (.iload_n 1, 1) := by decide +kernel
theorem d_R_takeAuthority_73 : decode b_R_takeAuthority 73 = .ok (.laload, 1) := by decide +kernel
theorem d_R_takeAuthority_74 : decode b_R_takeAuthority 74 = .ok (.lconst 0, 1) := by decide +kernel
theorem d_R_takeAuthority_75 : decode b_R_takeAuthority 75 = .ok (.lcmp, 1) := by decide +kernel
theorem d_R_takeAuthority_76 : decode b_R_takeAuthority 76 = .ok (.ifCond .ne 18, 3) := by decide +kernel
theorem d_R_takeAuthority_79 : decode b_R_takeAuthority 79 = .ok (.aload_n 0, 1) := by decide +kernel
theorem d_R_takeAuthority_80 : decode b_R_takeAuthority 80 = .ok (.iload_n 1, 1) := by decide +kernel
theorem d_R_takeAuthority_81 : decode b_R_takeAuthority 81 = .ok (.invokevirtual 161, 3) := by decide +kernel
theorem d_R_takeAuthority_84 : decode b_R_takeAuthority 84 = .ok (.ifCond .eq 10, 3) := by decide +kernel
theorem d_R_takeAuthority_87 : decode b_R_takeAuthority 87 = .ok (.aload_n 0, 1) := by decide +kernel
theorem d_R_takeAuthority_88 : decode b_R_takeAuthority 88 = .ok (.getfield 50, 3) := by decide +kernel
theorem d_R_takeAuthority_91 : decode b_R_takeAuthority 91 = .ok (.iload_n 1, 1) := by decide +kernel
theorem d_R_takeAuthority_92 : decode b_R_takeAuthority 92 = .ok (.iconst 2, 1) := by decide +kernel
theorem d_R_takeAuthority_93 : decode b_R_takeAuthority 93 = .ok (.iastore, 1) := by decide +kernel
theorem d_R_takeAuthority_94 : decode b_R_takeAuthority 94 = .ok (.aload_n 0, 1) := by decide +kernel
theorem d_R_takeAuthority_95 : decode b_R_takeAuthority 95 = .ok (.iconst 1, 1) := by decide +kernel
theorem d_R_takeAuthority_96 : decode b_R_takeAuthority 96 = .ok (.invokevirtual 111, 3) := by decide +kernel
theorem d_R_takeAuthority_99 : decode b_R_takeAuthority 99 = .ok (.ireturn, 1) := by decide +kernel
def w_R_takeAuthority (S : SR) (x1 : Int32) (Q : Int32 → SR → Prop) : Prop := vp_in x1 3 ∧ (vp_in x1 3 ∧ (vp_in x1 3 ∧ (vp_in x1 3 ∧ (vp_in x1 3 ∧ (w_R_safeFor (pI S 11 x1.toNatClampNeg 0) x1 ((pI S 11 x1.toNatClampNeg 0).2 12 x1.toNatClampNeg) ((pI S 11 x1.toNatClampNeg 0).2 9 x1.toNatClampNeg) ((pI S 11 x1.toNatClampNeg 0).2 10 x1.toNatClampNeg) ((pI S 11 x1.toNatClampNeg 0).2 7 x1.toNatClampNeg) 0 (fun r1 S2 => ((¬ r1 = 0) → (vp_in x1 3 ∧ (vp_in x1 3 ∧ (vp_in x1 3 ∧ (((¬ ((pV S2 11 x1.toNatClampNeg (S2.2 12 x1.toNatClampNeg)).1 8 x1.toNatClampNeg) = 1) → (w_R_answer (pV S2 11 x1.toNatClampNeg (S2.2 12 x1.toNatClampNeg)) 1 (fun r3 S4 => Q r3 S4))) ∧ ((((pV S2 11 x1.toNatClampNeg (S2.2 12 x1.toNatClampNeg)).1 8 x1.toNatClampNeg) = 1) → (vp_in x1 3 ∧ (((¬ (lg_cmp ((pV S2 11 x1.toNatClampNeg (S2.2 12 x1.toNatClampNeg)).2 7 x1.toNatClampNeg) 0) = 0) → (w_R_answer (pV S2 11 x1.toNatClampNeg (S2.2 12 x1.toNatClampNeg)) 1 (fun r5 S6 => Q r5 S6))) ∧ (((lg_cmp ((pV S2 11 x1.toNatClampNeg (S2.2 12 x1.toNatClampNeg)).2 7 x1.toNatClampNeg) 0) = 0) → (w_R_ready (pV S2 11 x1.toNatClampNeg (S2.2 12 x1.toNatClampNeg)) x1 (fun r7 S8 => ((r7 = 0) → (w_R_answer S8 1 (fun r9 S10 => Q r9 S10))) ∧ ((¬ r7 = 0) → (vp_in x1 3 ∧ (w_R_answer (pI S8 8 x1.toNatClampNeg 2) 1 (fun r11 S12 => Q r11 S12))))))))))))))) ∧ ((r1 = 0) → (w_R_fail S2 4 (fun r13 S14 => Q r13 S14)))))))))
set_option maxRecDepth 100000 in
set_option maxHeartbeats 4000000 in
theorem c_R_takeAuthority (l : Launch) (D : va_G) (ca : Nat → ClassId) (ad : Nat → Nat) (sz : Nat) (S : SR) (x1 : Int32)  (Q : Int32 → SR → Prop) (h : w_R_takeAuthority S x1 Q) : Met l y_R_takeAuthority (Cond.code y_R_takeAuthority b_R_takeAuthority 2 (some Jvm.ClassFile.FieldType.int) :: tG) ({ frames := 4, cells := 0, slots := 0, locals := 115 } : Room) (xPc D ca (wR ca ad) S sz [.ref (ad 0), .int x1]) (va_Qi Q (xAt D (wR ca ad) (va_A (wR ca ad S) sz)) (va_A (wR ca ad S) sz)) 0 0 (va_A (wR ca ad S) sz) := by
  refine xx_met (Qf := fun A => va_Qi Q (xAt D (wR ca ad) A) A) (by decide) (Nat.le_of_ble_eq_true rfl) ?_
  intro p e s m args below meth c A ls hx hb hr hw hown hlocks hml hK hN hA hP hD hS hl
  have hown : s.vm.findClass "TrainGuardModel" = some m.cls := hown
  have hl : lv_has ls 2 [(0, .ref (ad 0)), (1, .int x1)] := hl
  unfold w_R_takeAuthority at h
  have hH9 : ∀ H : Heap, H = s.heap → va_P D cls (wR ca ad S) H → va_S A s.heap H [] → W p l e ({ frames := 4, cells := 0, slots := 0, locals := 115 } : Room) s m args below meth c H [] 0 0 (MQ below ((fun A => va_Qi Q (xAt D (wR ca ad) A) A) A) args s 0 0 A) (F0 m 0 ls []) := by
    clear hP hS
    intro H hH hP hS
    obtain ⟨locs, hlo⟩ : ∃ z : List Loc, z = [] := ⟨_, rfl⟩
    rw [← hlo] at hS ⊢
    refine lv_aload_n hx hb d_R_takeAuthority_0 rfl (lv_at hl 0 rfl) ?_
    refine va_get (D := D) (ci := 4) (v := .ref (ad 17)) (C := Rc_R) (T := Fc_R) (N := 25) hx hb hw inc_R hown hK hP 0 rfl rfl 20 (by decide) (hw _ wd_611) (fun _ h9 => h9) rfl d_R_takeAuthority_1 ?_
    refine lv_iload_n hx hb d_R_takeAuthority_4 rfl (lv_at hl 1 rfl) ?_
    refine lv_iconst (v := 0) hx hb d_R_takeAuthority_5 (by decide) ?_
    obtain ⟨hq, h⟩ := h
    refine va_iast (D := D) hx hb hK hP hD hS 17 0 rfl rfl hq d_R_takeAuthority_6 (fun H locs hP hD hS => ?_)
    rw [pt_R_message] at hP hD
    refine lv_aload_n hx hb d_R_takeAuthority_7 rfl (lv_at hl 0 rfl) ?_
    refine lv_iload_n hx hb d_R_takeAuthority_8 rfl (lv_at hl 1 rfl) ?_
    refine lv_aload_n hx hb d_R_takeAuthority_9 rfl (lv_at hl 0 rfl) ?_
    refine va_get (D := D) (ci := 4) (v := .ref (ad 18)) (C := Rc_R) (T := Fc_R) (N := 25) hx hb hw inc_R hown hK hP 0 rfl rfl 21 (by decide) (hw _ wd_612) (fun _ h9 => h9) rfl d_R_takeAuthority_10 ?_
    refine lv_iload_n hx hb d_R_takeAuthority_13 rfl (lv_at hl 1 rfl) ?_
    obtain ⟨hq, h⟩ := h
    refine va_lald (D := D) hx hb hK hP 18 1 rfl rfl hq d_R_takeAuthority_14 ?_
    refine lv_aload_n hx hb d_R_takeAuthority_15 rfl (lv_at hl 0 rfl) ?_
    refine va_get (D := D) (ci := 4) (v := .ref (ad 11)) (C := Rc_R) (T := Fc_R) (N := 25) hx hb hw inc_R hown hK hP 0 rfl rfl 14 (by decide) (hw _ wd_605) (fun _ h9 => h9) rfl d_R_takeAuthority_16 ?_
    refine lv_iload_n hx hb d_R_takeAuthority_19 rfl (lv_at hl 1 rfl) ?_
    obtain ⟨hq, h⟩ := h
    refine va_lald (D := D) hx hb hK hP 11 1 rfl rfl hq d_R_takeAuthority_20 ?_
    refine lv_aload_n hx hb d_R_takeAuthority_21 rfl (lv_at hl 0 rfl) ?_
    refine va_get (D := D) (ci := 4) (v := .ref (ad 12)) (C := Rc_R) (T := Fc_R) (N := 25) hx hb hw inc_R hown hK hP 0 rfl rfl 15 (by decide) (hw _ wd_606) (fun _ h9 => h9) rfl d_R_takeAuthority_22 ?_
    refine lv_iload_n hx hb d_R_takeAuthority_25 rfl (lv_at hl 1 rfl) ?_
    obtain ⟨hq, h⟩ := h
    refine va_lald (D := D) hx hb hK hP 12 1 rfl rfl hq d_R_takeAuthority_26 ?_
    refine lv_aload_n hx hb d_R_takeAuthority_27 rfl (lv_at hl 0 rfl) ?_
    refine va_get (D := D) (ci := 4) (v := .ref (ad 9)) (C := Rc_R) (T := Fc_R) (N := 25) hx hb hw inc_R hown hK hP 0 rfl rfl 12 (by decide) (hw _ wd_603) (fun _ h9 => h9) rfl d_R_takeAuthority_28 ?_
    refine lv_iload_n hx hb d_R_takeAuthority_31 rfl (lv_at hl 1 rfl) ?_
    obtain ⟨hq, h⟩ := h
    refine va_lald (D := D) hx hb hK hP 9 1 rfl rfl hq d_R_takeAuthority_32 ?_
    refine lv_lconst (v := 0) hx hb d_R_takeAuthority_33 (by decide) ?_
    refine xx_calli (va_runV (As := [.int x1, .long ((pI S 11 x1.toNatClampNeg 0).2 12 x1.toNatClampNeg), .long ((pI S 11 x1.toNatClampNeg 0).2 9 x1.toNatClampNeg), .long ((pI S 11 x1.toNatClampNeg 0).2 10 x1.toNatClampNeg), .long ((pI S 11 x1.toNatClampNeg 0).2 7 x1.toNatClampNeg), .long 0]) (rest := []) ⟨hx, hb, hml, hown, hw⟩ (c_R_safeFor l D ca ad H.size (pI S 11 x1.toNatClampNeg 0) x1 ((pI S 11 x1.toNatClampNeg 0).2 12 x1.toNatClampNeg) ((pI S 11 x1.toNatClampNeg 0).2 9 x1.toNatClampNeg) ((pI S 11 x1.toNatClampNeg 0).2 10 x1.toNatClampNeg) ((pI S 11 x1.toNatClampNeg 0).2 7 x1.toNatClampNeg) 0 _ h) (cwV 6 hw (tG_g gl_R_143) rfl rfl rfl (by decide +kernel) ⟨Nat.le_of_ble_eq_true rfl, Nat.le_of_ble_eq_true rfl⟩) ⟨xPc.blind, va_recv hK hP rfl (q0 := 0) rfl, xPc.pre hK hN hP hD⟩ rfl rfl hl.1 rfl (lv_room (Nat.le_of_ble_eq_true rfl)) d_R_takeAuthority_34 ⟨Nat.le_of_ble_eq_true rfl, Nat.le_of_ble_eq_true rfl⟩) hD hS hA (fun r1 S2 H locs h hP hD hS => ?_)
    refine lv_if_ne (tgt := 46) hx hb d_R_takeAuthority_37 (by decide) (fun hc => ?_) (fun hc => ?_)
    · replace h := h.1 hc
      refine lv_aload_n hx hb d_R_takeAuthority_46 rfl (lv_at hl 0 rfl) ?_
      refine va_get (D := D) (ci := 4) (v := .ref (ad 13)) (C := Rc_R) (T := Fc_R) (N := 25) hx hb hw inc_R hown hK hP 0 rfl rfl 16 (by decide) (hw _ wd_607) (fun _ h9 => h9) rfl d_R_takeAuthority_47 ?_
      refine lv_iload_n hx hb d_R_takeAuthority_50 rfl (lv_at hl 1 rfl) ?_
      refine lv_aload_n hx hb d_R_takeAuthority_51 rfl (lv_at hl 0 rfl) ?_
      refine va_get (D := D) (ci := 4) (v := .ref (ad 18)) (C := Rc_R) (T := Fc_R) (N := 25) hx hb hw inc_R hown hK hP 0 rfl rfl 21 (by decide) (hw _ wd_612) (fun _ h9 => h9) rfl d_R_takeAuthority_52 ?_
      refine lv_iload_n hx hb d_R_takeAuthority_55 rfl (lv_at hl 1 rfl) ?_
      obtain ⟨hq, h⟩ := h
      refine va_lald (D := D) hx hb hK hP 18 1 rfl rfl hq d_R_takeAuthority_56 ?_
      obtain ⟨hq, h⟩ := h
      refine va_last (D := D) hx hb hK hP hD hS 13 1 rfl rfl hq d_R_takeAuthority_57 (fun H locs hP hD hS => ?_)
      rw [pt_R_authority] at hP hD
      refine lv_aload_n hx hb d_R_takeAuthority_58 rfl (lv_at hl 0 rfl) ?_
      refine va_get (D := D) (ci := 4) (v := .ref (ad 14)) (C := Rc_R) (T := Fc_R) (N := 25) hx hb hw inc_R hown hK hP 0 rfl rfl 17 (by decide) (hw _ wd_608) (fun _ h9 => h9) rfl d_R_takeAuthority_59 ?_
      refine lv_iload_n hx hb d_R_takeAuthority_62 rfl (lv_at hl 1 rfl) ?_
      obtain ⟨hq, h⟩ := h
      refine va_iald (D := D) hx hb hK hP 14 0 rfl rfl hq d_R_takeAuthority_63 ?_
      refine lv_iconst (v := 1) hx hb d_R_takeAuthority_64 (by decide) ?_
      refine lv_icmp_ne (tgt := 94) hx hb d_R_takeAuthority_65 (by decide) (fun hc => ?_) (fun hc => ?_)
      · replace h := h.1 hc
        refine lv_aload_n hx hb d_R_takeAuthority_94 rfl (lv_at hl 0 rfl) ?_
        refine lv_iconst (v := 1) hx hb d_R_takeAuthority_95 (by decide) ?_
        refine xx_calli (va_runV (As := [.int 1]) (rest := []) ⟨hx, hb, hml, hown, hw⟩ (c_R_answer l D ca ad H.size (pV S2 11 x1.toNatClampNeg (S2.2 12 x1.toNatClampNeg)) 1 _ h) (cwV 1 hw (tG_g gl_R_111) rfl rfl rfl (by decide +kernel) ⟨Nat.le_of_ble_eq_true rfl, Nat.le_of_ble_eq_true rfl⟩) ⟨xPc.blind, va_recv hK hP rfl (q0 := 0) rfl, xPc.pre hK hN hP hD⟩ rfl rfl hl.1 rfl (lv_room (Nat.le_of_ble_eq_true rfl)) d_R_takeAuthority_96 ⟨Nat.le_of_ble_eq_true rfl, Nat.le_of_ble_eq_true rfl⟩) hD hS hA (fun r3 S4 H locs h hP hD hS => ?_)
        exact W.iret (v := r3) hx hb hr (fun t ht hW => ⟨⟨r3, S4, rfl, h, by rw [ht]; exact hP, hD⟩, hS.F ht⟩) hS.2.2 d_R_takeAuthority_99
      · replace h := h.2 hc
        refine lv_aload_n hx hb d_R_takeAuthority_68 rfl (lv_at hl 0 rfl) ?_
        refine va_get (D := D) (ci := 4) (v := .ref (ad 9)) (C := Rc_R) (T := Fc_R) (N := 25) hx hb hw inc_R hown hK hP 0 rfl rfl 12 (by decide) (hw _ wd_603) (fun _ h9 => h9) rfl d_R_takeAuthority_69 ?_
        refine lv_iload_n hx hb d_R_takeAuthority_72 rfl (lv_at hl 1 rfl) ?_
        obtain ⟨hq, h⟩ := h
        refine va_lald (D := D) hx hb hK hP 9 1 rfl rfl hq d_R_takeAuthority_73 ?_
        refine lv_lconst (v := 0) hx hb d_R_takeAuthority_74 (by decide) ?_
        refine W.lcmp hx hb d_R_takeAuthority_75 ?_
        refine lv_if_ne (tgt := 94) hx hb d_R_takeAuthority_76 (by decide) (fun hc => ?_) (fun hc => ?_)
        · replace h := h.1 hc
          refine lv_aload_n hx hb d_R_takeAuthority_94 rfl (lv_at hl 0 rfl) ?_
          refine lv_iconst (v := 1) hx hb d_R_takeAuthority_95 (by decide) ?_
          refine xx_calli (va_runV (As := [.int 1]) (rest := []) ⟨hx, hb, hml, hown, hw⟩ (c_R_answer l D ca ad H.size (pV S2 11 x1.toNatClampNeg (S2.2 12 x1.toNatClampNeg)) 1 _ h) (cwV 1 hw (tG_g gl_R_111) rfl rfl rfl (by decide +kernel) ⟨Nat.le_of_ble_eq_true rfl, Nat.le_of_ble_eq_true rfl⟩) ⟨xPc.blind, va_recv hK hP rfl (q0 := 0) rfl, xPc.pre hK hN hP hD⟩ rfl rfl hl.1 rfl (lv_room (Nat.le_of_ble_eq_true rfl)) d_R_takeAuthority_96 ⟨Nat.le_of_ble_eq_true rfl, Nat.le_of_ble_eq_true rfl⟩) hD hS hA (fun r5 S6 H locs h hP hD hS => ?_)
          exact W.iret (v := r5) hx hb hr (fun t ht hW => ⟨⟨r5, S6, rfl, h, by rw [ht]; exact hP, hD⟩, hS.F ht⟩) hS.2.2 d_R_takeAuthority_99
        · replace h := h.2 hc
          refine lv_aload_n hx hb d_R_takeAuthority_79 rfl (lv_at hl 0 rfl) ?_
          refine lv_iload_n hx hb d_R_takeAuthority_80 rfl (lv_at hl 1 rfl) ?_
          refine xx_calli (va_runV (As := [.int x1]) (rest := []) ⟨hx, hb, hml, hown, hw⟩ (c_R_ready l D ca ad H.size (pV S2 11 x1.toNatClampNeg (S2.2 12 x1.toNatClampNeg)) x1 _ h) (cwV 1 hw (tG_g gl_R_161) rfl rfl rfl (by decide +kernel) ⟨Nat.le_of_ble_eq_true rfl, Nat.le_of_ble_eq_true rfl⟩) ⟨xPc.blind, va_recv hK hP rfl (q0 := 0) rfl, xPc.pre hK hN hP hD⟩ rfl rfl hl.1 rfl (lv_room (Nat.le_of_ble_eq_true rfl)) d_R_takeAuthority_81 ⟨Nat.le_of_ble_eq_true rfl, Nat.le_of_ble_eq_true rfl⟩) hD hS hA (fun r7 S8 H locs h hP hD hS => ?_)
          refine lv_if_eq (tgt := 94) hx hb d_R_takeAuthority_84 (by decide) (fun hc => ?_) (fun hc => ?_)
          · replace h := h.1 hc
            refine lv_aload_n hx hb d_R_takeAuthority_94 rfl (lv_at hl 0 rfl) ?_
            refine lv_iconst (v := 1) hx hb d_R_takeAuthority_95 (by decide) ?_
            refine xx_calli (va_runV (As := [.int 1]) (rest := []) ⟨hx, hb, hml, hown, hw⟩ (c_R_answer l D ca ad H.size S8 1 _ h) (cwV 1 hw (tG_g gl_R_111) rfl rfl rfl (by decide +kernel) ⟨Nat.le_of_ble_eq_true rfl, Nat.le_of_ble_eq_true rfl⟩) ⟨xPc.blind, va_recv hK hP rfl (q0 := 0) rfl, xPc.pre hK hN hP hD⟩ rfl rfl hl.1 rfl (lv_room (Nat.le_of_ble_eq_true rfl)) d_R_takeAuthority_96 ⟨Nat.le_of_ble_eq_true rfl, Nat.le_of_ble_eq_true rfl⟩) hD hS hA (fun r9 S10 H locs h hP hD hS => ?_)
            exact W.iret (v := r9) hx hb hr (fun t ht hW => ⟨⟨r9, S10, rfl, h, by rw [ht]; exact hP, hD⟩, hS.F ht⟩) hS.2.2 d_R_takeAuthority_99
          · replace h := h.2 hc
            refine lv_aload_n hx hb d_R_takeAuthority_87 rfl (lv_at hl 0 rfl) ?_
            refine va_get (D := D) (ci := 4) (v := .ref (ad 14)) (C := Rc_R) (T := Fc_R) (N := 25) hx hb hw inc_R hown hK hP 0 rfl rfl 17 (by decide) (hw _ wd_608) (fun _ h9 => h9) rfl d_R_takeAuthority_88 ?_
            refine lv_iload_n hx hb d_R_takeAuthority_91 rfl (lv_at hl 1 rfl) ?_
            refine lv_iconst (v := 2) hx hb d_R_takeAuthority_92 (by decide) ?_
            obtain ⟨hq, h⟩ := h
            refine va_iast (D := D) hx hb hK hP hD hS 14 0 rfl rfl hq d_R_takeAuthority_93 (fun H locs hP hD hS => ?_)
            rw [pt_R_mode] at hP hD
            refine lv_aload_n hx hb d_R_takeAuthority_94 rfl (lv_at hl 0 rfl) ?_
            refine lv_iconst (v := 1) hx hb d_R_takeAuthority_95 (by decide) ?_
            refine xx_calli (va_runV (As := [.int 1]) (rest := []) ⟨hx, hb, hml, hown, hw⟩ (c_R_answer l D ca ad H.size (pI S8 8 x1.toNatClampNeg 2) 1 _ h) (cwV 1 hw (tG_g gl_R_111) rfl rfl rfl (by decide +kernel) ⟨Nat.le_of_ble_eq_true rfl, Nat.le_of_ble_eq_true rfl⟩) ⟨xPc.blind, va_recv hK hP rfl (q0 := 0) rfl, xPc.pre hK hN hP hD⟩ rfl rfl hl.1 rfl (lv_room (Nat.le_of_ble_eq_true rfl)) d_R_takeAuthority_96 ⟨Nat.le_of_ble_eq_true rfl, Nat.le_of_ble_eq_true rfl⟩) hD hS hA (fun r11 S12 H locs h hP hD hS => ?_)
            exact W.iret (v := r11) hx hb hr (fun t ht hW => ⟨⟨r11, S12, rfl, h, by rw [ht]; exact hP, hD⟩, hS.F ht⟩) hS.2.2 d_R_takeAuthority_99
    · replace h := h.2 hc
      refine lv_aload_n hx hb d_R_takeAuthority_40 rfl (lv_at hl 0 rfl) ?_
      refine lv_iconst (v := 4) hx hb d_R_takeAuthority_41 (by decide) ?_
      refine xx_calli (va_runV (As := [.int 4]) (rest := []) ⟨hx, hb, hml, hown, hw⟩ (c_R_fail l D ca ad H.size S2 4 _ h) (cwV 1 hw (tG_g gl_R_103) rfl rfl rfl (by decide +kernel) ⟨Nat.le_of_ble_eq_true rfl, Nat.le_of_ble_eq_true rfl⟩) ⟨xPc.blind, va_recv hK hP rfl (q0 := 0) rfl, xPc.pre hK hN hP hD⟩ rfl rfl hl.1 rfl (lv_room (Nat.le_of_ble_eq_true rfl)) d_R_takeAuthority_42 ⟨Nat.le_of_ble_eq_true rfl, Nat.le_of_ble_eq_true rfl⟩) hD hS hA (fun r13 S14 H locs h hP hD hS => ?_)
      exact W.iret (v := r13) hx hb hr (fun t ht hW => ⟨⟨r13, S14, rfl, h, by rw [ht]; exact hP, hD⟩, hS.F ht⟩) hS.2.2 d_R_takeAuthority_45
  exact hH9 _ rfl hP hS
theorem d_R_take_0 : decode b_R_take 0 = .ok (.aload_n 0, 1) := by decide +kernel
theorem d_R_take_1 : decode b_R_take 1 = .ok (.iload_n 1, 1) := by decide +kernel
theorem d_R_take_2 : decode b_R_take 2 = .ok (.invokevirtual 158, 3) := by decide +kernel
theorem d_R_take_5 : decode b_R_take 5 = .ok (.ifCond .ne 14, 3) := by decide +kernel
theorem d_R_take_8 : decode b_R_take 8 = .ok (.iload_n 2, 1) := by decide +kernel
theorem d_R_take_9 : decode b_R_take 9 = .ok (.iconst 0, 1) := by decide +kernel
theorem d_R_take_10 : decode b_R_take 10 = .ok (.sipush 1023, 3) := by decide +kernel
theorem d_R_take_13 : decode b_R_take 13 = .ok (.invokestatic 75, 3) := by decide +kernel
theorem d_R_take_16 : decode b_R_take 16 = .ok (.ifCond .ne 9, 3) := by decide +kernel
theorem d_R_take_19 : decode b_R_take 19 = .ok (.aload_n 0, 1) := by decide +kernel
theorem d_R_take_20 : decode b_R_take 20 = .ok (.iconst 1, 1) := by decide +kernel
theorem d_R_take_21 : decode b_R_take 21 = .ok (.invokevirtual 103, 3) := by decide +kernel
theorem d_R_take_24 : decode b_R_take 24 = .ok (.ireturn, 1) := by decide +kernel
theorem d_R_take_25 : decode b_R_take 25 = .ok (.aload_n 0, 1) := by decide +kernel
theorem d_R_take_26 : decode b_R_take 26 = .ok (.getfield 60, 3) := by decide +kernel
theorem d_R_take_29 : decode b_R_take 29 = .ok (.iload_n 1, 1) := by decide +kernel
theorem d_R_take_30 : decode b_R_take 30 = .ok (.iaload, 1) := by decide +kernel
theorem d_R_take_31 : decode b_R_take 31 = .ok (.ifCond .ne 9, 3) := by decide +kernel
theorem d_R_take_34 : decode b_R_take 34 = .ok (.aload_n 0, 1) := by decide +kernel
theorem d_R_take_35 : decode b_R_take 35 = .ok (.iconst 2, 1) := by decide +kernel
theorem d_R_take_36 : decode b_R_take 36 = .ok (.invokevirtual 103, 3) := by decide +kernel
theorem d_R_take_39 : decode b_R_take 39 = .ok (.ireturn, 1) := by decide +kernel
theorem d_R_take_40 : decode b_R_take 40 = .ok (.aload_n 0, 1) := by decide +kernel
theorem d_R_take_41 : decode b_R_take 41 = .ok (.getfield 60, 3) := by decide +kernel
theorem d_R_take_44 : decode b_R_take 44 = .ok (.iload_n 1, 1) := by decide +kernel
theorem d_R_take_45 : decode b_R_take 45 = .ok (.iaload, 1) := by decide +kernel
theorem d_R_take_46 : decode b_R_take 46 = .ok (.iconst 1, 1) := by decide +kernel
theorem d_R_take_47 : decode b_R_take 47 = .ok (.if_icmp .ne 19, 3) := by decide +kernel
theorem d_R_take_50 : decode b_R_take 50 = .ok (.aload_n 0, 1) := by decide +kernel
theorem d_R_take_51 : decode b_R_take 51 = .ok (.getfield 50, 3) := by decide +kernel
theorem d_R_take_54 : decode b_R_take 54 = .ok (.iload_n 1, 1) := by decide +kernel
theorem d_R_take_55 : decode b_R_take 55 = .ok (.iaload, 1) := by decide +kernel
theorem d_R_take_56 : decode b_R_take 56 = .ok (.iconst 3, 1) := by decide +kernel
theorem d_R_take_57 : decode b_R_take 57 = .ok (.if_icmp .ne 9, 3) := by decide +kernel
theorem d_R_take_60 : decode b_R_take 60 = .ok (.aload_n 0, 1) := by decide +kernel
theorem d_R_take_61 : decode b_R_take 61 = .ok (.iconst 3, 1) := by decide +kernel
theorem d_R_take_62 : decode b_R_take 62 = .ok (.invokevirtual 103, 3) := by decide +kernel
theorem d_R_take_65 : decode b_R_take 65 = .ok (.ireturn, 1) := by decide +kernel
theorem d_R_take_66 : decode b_R_take 66 = .ok (.iload_n 2, 1) := by decide +kernel
theorem d_R_take_67 : decode b_R_take 67 = .ok (.ifCond .eq 26, 3) := by decide +kernel
theorem d_R_take_70 : decode b_R_take 70 = .ok (.aload_n 0, 1) := by decide +kernel
theorem d_R_take_71 : decode b_R_take 71 = .ok (.getfield 60, 3) := by decide +kernel
theorem d_R_take_74 : decode b_R_take 74 = .ok (.iload_n 1, 1) := by decide +kernel
theorem d_R_take_75 : decode b_R_take 75 = .ok (.iconst 0, 1) := by decide +kernel
theorem d_R_take_76 : decode b_R_take 76 = .ok (.iastore, 1) := by decide +kernel
theorem d_R_take_77 : decode b_R_take 77 = .ok (.aload_n 0, 1) := by decide +kernel
theorem d_R_take_78 : decode b_R_take 78 = .ok (.dup, 1) := by decide +kernel
theorem d_R_take_79 : decode b_R_take 79 = .ok (.getfield 171, 3) := by decide +kernel
theorem d_R_take_82 : decode b_R_take 82 = .ok (.iconst 1, 1) := by decide +kernel
theorem d_R_take_83 : decode b_R_take 83 = .ok (.iadd, 1) := by decide +kernel
theorem d_R_take_84 : decode b_R_take 84 = .ok (.putfield 171, 3) := by decide +kernel
theorem d_R_take_87 : decode b_R_take 87 = .ok (.aload_n 0, 1) := by decide +kernel
theorem d_R_take_88 : decode b_R_take 88 = .ok (.iconst 4, 1) := by decide +kernel
theorem d_R_take_89 : decode b_R_take 89 = .ok (.invokevirtual 103, 3) := by decide +kernel
theorem d_R_take_92 : decode b_R_take 92 = .ok (.ireturn, 1) := by decide +kernel
theorem d_R_take_93 : decode b_R_take 93 = .ok (.aload_n 0, 1) := by decide +kernel
theorem d_R_take_94 : decode b_R_take 94 = .ok (.getfield 60, 3) := by decide +kernel
theorem d_R_take_97 : decode b_R_take 97 = .ok (.iload_n 1, 1) := by decide +kernel
theorem d_R_take_98 : decode b_R_take 98 = .ok (.iaload, 1) := by decide +kernel
theorem d_R_take_99 : decode b_R_take 99 = .ok (.iconst 1, 1) := by decide +kernel
theorem d_R_take_100 : decode b_R_take 100 = .ok (.if_icmp .ne 9, 3) := by decide +kernel
theorem d_R_take_103 : decode b_R_take 103 = .ok (.aload_n 0, 1) := by decide +kernel
theorem d_R_take_104 : decode b_R_take 104 = .ok (.iload_n 1, 1) := by decide +kernel
theorem d_R_take_105 : decode b_R_take 105 = .ok (.invokevirtual 174, 3) := by decide +kernel
theorem d_R_take_108 : decode b_R_take 108 = .ok (.ireturn, 1) := by decide +kernel
theorem d_R_take_109 : decode b_R_take 109 = .ok (.aload_n 0, 1) := by decide +kernel
theorem d_R_take_110 : decode b_R_take 110 = .ok (.getfield 60, 3) := by decide +kernel
theorem d_R_take_113 : decode b_R_take 113 = .ok (.iload_n 1, 1) := by decide +kernel
theorem d_R_take_114 : decode b_R_take 114 = .ok (.iconst 0, 1) := by decide +kernel
theorem d_R_take_115 : decode b_R_take 115 = .ok (.iastore, 1) := by decide +kernel
theorem d_R_take_116 : decode b_R_take 116 = .ok (.aload_n 0, 1) := by decide +kernel
theorem d_R_take_117 : decode b_R_take 117 = .ok (.getfield 47, 3) := by decide +kernel
theorem d_R_take_120 : decode b_R_take 120 = .ok (.iload_n 1, 1) := by decide +kernel
theorem d_R_take_121 : decode b_R_take 121 = .ok (.ldc2_w 129, 3) := by decide +kernel
theorem d_R_take_124 : decode b_R_take 124 = .ok (.lastore, 1) := by decide +kernel
theorem d_R_take_125 : decode b_R_take 125 = .ok (.aload_n 0, 1) := by decide +kernel
theorem d_R_take_126 : decode b_R_take 126 = .ok (.getfield 50, 3) := by decide +kernel
theorem d_R_take_129 : decode b_R_take 129 = .ok (.iload_n 1, 1) := by decide +kernel
theorem d_R_take_130 : decode b_R_take 130 = .ok (.iaload, 1) := by decide +kernel
theorem d_R_take_131 : decode b_R_take 131 = .ok (.iconst 1, 1) := by decide +kernel
theorem d_R_take_132 : decode b_R_take 132 = .ok (.iconst 2, 1) := by decide +kernel
theorem d_R_take_133 : decode b_R_take 133 = .ok (.invokestatic 75, 3) := by decide +kernel
theorem d_R_take_136 : decode b_R_take 136 = .ok (.ifCond .eq 10, 3) := by decide +kernel
theorem d_R_take_139 : decode b_R_take 139 = .ok (.aload_n 0, 1) := by decide +kernel
theorem d_R_take_140 : decode b_R_take 140 = .ok (.getfield 50, 3) := by decide +kernel
theorem d_R_take_143 : decode b_R_take 143 = .ok (.iload_n 1, 1) := by decide +kernel
theorem d_R_take_144 : decode b_R_take 144 = .ok (.iconst 3, 1) := by decide +kernel
theorem d_R_take_145 : decode b_R_take 145 = .ok (.iastore, 1) := by decide +kernel
theorem d_R_take_146 : decode b_R_take 146 = .ok (.aload_n 0, 1) := by decide +kernel
theorem d_R_take_147 : decode b_R_take 147 = .ok (.iconst 0, 1) := by decide +kernel
theorem d_R_take_148 : decode b_R_take 148 = .ok (.invokevirtual 111, 3) := by decide +kernel
theorem d_R_take_151 : decode b_R_take 151 = .ok (.ireturn, 1) := by decide +kernel
theorem gl_R_174 : ∀ w ∈ wsV "TrainGuardModel" 174 "TrainGuardModel" y_R_takeAuthority (Cond.code y_R_takeAuthority b_R_takeAuthority 2 (some Jvm.ClassFile.FieldType.int) :: tG), w ∈ tG := by
  intro x hx
  simp only [wsV, List.cons_append, List.nil_append, List.mem_cons] at hx
  rcases hx with rfl | rfl | rfl | rfl | rfl | hx
  · exact wd_788
  · exact wd_790
  · exact ws_32
  · exact wd_5
  · exact wd_791
  · exact hx
def w_R_take_66 (S : SR) (y1 : Int32) (y2 : Int32) (Q : Int32 → SR → Prop) : Prop := ((y2 = 0) → (vp_in y1 3 ∧ (((¬ (S.1 11 y1.toNatClampNeg) = 1) → (vp_in y1 3 ∧ (vp_in y1 3 ∧ (vp_in y1 3 ∧ (w_R_in (pV (pI S 11 y1.toNatClampNeg 0) 11 y1.toNatClampNeg (-1 : Int64)) ((pV (pI S 11 y1.toNatClampNeg 0) 11 y1.toNatClampNeg (-1 : Int64)).1 8 y1.toNatClampNeg) 1 2 (fun r13 S14 => ((r13 = 0) → (w_R_answer S14 0 (fun r15 S16 => Q r15 S16))) ∧ ((¬ r13 = 0) → (vp_in y1 3 ∧ (w_R_answer (pI S14 8 y1.toNatClampNeg 3) 0 (fun r17 S18 => Q r17 S18)))))))))) ∧ (((S.1 11 y1.toNatClampNeg) = 1) → (w_R_takeAuthority S y1 (fun r19 S20 => Q r19 S20)))))) ∧ ((¬ y2 = 0) → (vp_in y1 3 ∧ (∀ a21 : Int32, a21 = ((pI S 11 y1.toNatClampNeg 0).1 4 0) + 1 → (w_R_fail (pI (pI S 11 y1.toNatClampNeg 0) 4 0 a21) 4 (fun r22 S23 => Q r22 S23)))))
def w_R_take (S : SR) (x1 : Int32) (x2 : Int32) (Q : Int32 → SR → Prop) : Prop := w_R_noTrain S x1 (fun r1 S2 => ((¬ r1 = 0) → (w_R_fail S2 1 (fun r3 S4 => Q r3 S4))) ∧ ((r1 = 0) → (w_R_in S2 x2 0 1023 (fun r5 S6 => ((¬ r5 = 0) → (vp_in x1 3 ∧ (((¬ (S6.1 11 x1.toNatClampNeg) = 0) → (vp_in x1 3 ∧ (((¬ (S6.1 11 x1.toNatClampNeg) = 1) → (w_R_take_66 S6 x1 x2 Q)) ∧ (((S6.1 11 x1.toNatClampNeg) = 1) → (vp_in x1 3 ∧ (((¬ (S6.1 8 x1.toNatClampNeg) = 3) → (w_R_take_66 S6 x1 x2 Q)) ∧ (((S6.1 8 x1.toNatClampNeg) = 3) → (w_R_fail S6 3 (fun r7 S8 => Q r7 S8))))))))) ∧ (((S6.1 11 x1.toNatClampNeg) = 0) → (w_R_fail S6 2 (fun r9 S10 => Q r9 S10)))))) ∧ ((r5 = 0) → (w_R_fail S6 1 (fun r11 S12 => Q r11 S12)))))))
set_option maxRecDepth 100000 in
set_option maxHeartbeats 4000000 in
theorem c_R_take (l : Launch) (D : va_G) (ca : Nat → ClassId) (ad : Nat → Nat) (sz : Nat) (S : SR) (x1 : Int32) (x2 : Int32)  (Q : Int32 → SR → Prop) (h : w_R_take S x1 x2 Q) : Met l y_R_take (Cond.code y_R_take b_R_take 3 (some Jvm.ClassFile.FieldType.int) :: tG) ({ frames := 5, cells := 0, slots := 0, locals := 136 } : Room) (xPc D ca (wR ca ad) S sz [.ref (ad 0), .int x1, .int x2]) (va_Qi Q (xAt D (wR ca ad) (va_A (wR ca ad S) sz)) (va_A (wR ca ad S) sz)) 0 0 (va_A (wR ca ad S) sz) := by
  refine xx_met (Qf := fun A => va_Qi Q (xAt D (wR ca ad) A) A) (by decide) (Nat.le_of_ble_eq_true rfl) ?_
  intro p e s m args below meth c A ls hx hb hr hw hown hlocks hml hK hN hA hP hD hS hl
  have hown : s.vm.findClass "TrainGuardModel" = some m.cls := hown
  have hl : lv_has ls 3 [(0, .ref (ad 0)), (1, .int x1), (2, .int x2)] := hl
  unfold w_R_take at h
  have bk_66 : ∀ (S : SR) (y1 : Int32) (y2 : Int32) (H : Heap) (locs : List Loc) , va_P D cls (wR ca ad S) H → va_D A (wR ca ad S) → va_S A s.heap H locs → ∀ (ls : Array Slot), lv_has ls 3 [(0, .ref (ad 0)), (1, .int y1), (2, .int y2)] → w_R_take_66 S y1 y2 Q → W p l e ({ frames := 5, cells := 0, slots := 0, locals := 136 } : Room) s m args below meth c H locs 0 0 (MQ below ((fun A => va_Qi Q (xAt D (wR ca ad) A) A) A) args s 0 0 A) (F0 m 66 ls []) := by
    intro S y1 y2 H locs hP hD hS ls hl h
    unfold w_R_take_66 at h
    refine lv_iload_n hx hb d_R_take_66 rfl (lv_at hl 2 rfl) ?_
    refine lv_if_eq (tgt := 93) hx hb d_R_take_67 (by decide) (fun hc => ?_) (fun hc => ?_)
    · replace h := h.1 hc
      refine lv_aload_n hx hb d_R_take_93 rfl (lv_at hl 0 rfl) ?_
      refine va_get (D := D) (ci := 4) (v := .ref (ad 17)) (C := Rc_R) (T := Fc_R) (N := 25) hx hb hw inc_R hown hK hP 0 rfl rfl 20 (by decide) (hw _ wd_611) (fun _ h9 => h9) rfl d_R_take_94 ?_
      refine lv_iload_n hx hb d_R_take_97 rfl (lv_at hl 1 rfl) ?_
      obtain ⟨hq, h⟩ := h
      refine va_iald (D := D) hx hb hK hP 17 0 rfl rfl hq d_R_take_98 ?_
      refine lv_iconst (v := 1) hx hb d_R_take_99 (by decide) ?_
      refine lv_icmp_ne (tgt := 109) hx hb d_R_take_100 (by decide) (fun hc => ?_) (fun hc => ?_)
      · replace h := h.1 hc
        refine lv_aload_n hx hb d_R_take_109 rfl (lv_at hl 0 rfl) ?_
        refine va_get (D := D) (ci := 4) (v := .ref (ad 17)) (C := Rc_R) (T := Fc_R) (N := 25) hx hb hw inc_R hown hK hP 0 rfl rfl 20 (by decide) (hw _ wd_611) (fun _ h9 => h9) rfl d_R_take_110 ?_
        refine lv_iload_n hx hb d_R_take_113 rfl (lv_at hl 1 rfl) ?_
        refine lv_iconst (v := 0) hx hb d_R_take_114 (by decide) ?_
        obtain ⟨hq, h⟩ := h
        refine va_iast (D := D) hx hb hK hP hD hS 17 0 rfl rfl hq d_R_take_115 (fun H locs hP hD hS => ?_)
        rw [pt_R_message] at hP hD
        refine lv_aload_n hx hb d_R_take_116 rfl (lv_at hl 0 rfl) ?_
        refine va_get (D := D) (ci := 4) (v := .ref (ad 13)) (C := Rc_R) (T := Fc_R) (N := 25) hx hb hw inc_R hown hK hP 0 rfl rfl 16 (by decide) (hw _ wd_607) (fun _ h9 => h9) rfl d_R_take_117 ?_
        refine lv_iload_n hx hb d_R_take_120 rfl (lv_at hl 1 rfl) ?_
        refine lv_ldc2 hx hb hown (hw _ wd_726) d_R_take_121 ?_
        obtain ⟨hq, h⟩ := h
        refine va_last (D := D) hx hb hK hP hD hS 13 1 rfl rfl hq d_R_take_124 (fun H locs hP hD hS => ?_)
        rw [pt_R_authority] at hP hD
        refine lv_aload_n hx hb d_R_take_125 rfl (lv_at hl 0 rfl) ?_
        refine va_get (D := D) (ci := 4) (v := .ref (ad 14)) (C := Rc_R) (T := Fc_R) (N := 25) hx hb hw inc_R hown hK hP 0 rfl rfl 17 (by decide) (hw _ wd_608) (fun _ h9 => h9) rfl d_R_take_126 ?_
        refine lv_iload_n hx hb d_R_take_129 rfl (lv_at hl 1 rfl) ?_
        obtain ⟨hq, h⟩ := h
        refine va_iald (D := D) hx hb hK hP 14 0 rfl rfl hq d_R_take_130 ?_
        refine lv_iconst (v := 1) hx hb d_R_take_131 (by decide) ?_
        refine lv_iconst (v := 2) hx hb d_R_take_132 (by decide) ?_
        refine xx_calli (va_runS (As := [.int ((pV (pI S 11 y1.toNatClampNeg 0) 11 y1.toNatClampNeg (-1 : Int64)).1 8 y1.toNatClampNeg), .int 1, .int 2]) (rest := []) ⟨hx, hb, hml, hown, hw⟩ (c_R_in l D ca ad H.size (pV (pI S 11 y1.toNatClampNeg 0) 11 y1.toNatClampNeg (-1 : Int64)) ((pV (pI S 11 y1.toNatClampNeg 0) 11 y1.toNatClampNeg (-1 : Int64)).1 8 y1.toNatClampNeg) 1 2 _ h) (cwS 3 hw (tG_g gl_R_75) rfl rfl rfl (by decide +kernel) ⟨Nat.le_of_ble_eq_true rfl, Nat.le_of_ble_eq_true rfl⟩) ⟨xPc.blind, xPc.pre hK hN hP hD⟩ rfl rfl hl.1 rfl (lv_room (Nat.le_of_ble_eq_true rfl)) d_R_take_133 ⟨Nat.le_of_ble_eq_true rfl, Nat.le_of_ble_eq_true rfl⟩) hD hS hA (fun r13 S14 H locs h hP hD hS => ?_)
        refine lv_if_eq (tgt := 146) hx hb d_R_take_136 (by decide) (fun hc => ?_) (fun hc => ?_)
        · replace h := h.1 hc
          refine lv_aload_n hx hb d_R_take_146 rfl (lv_at hl 0 rfl) ?_
          refine lv_iconst (v := 0) hx hb d_R_take_147 (by decide) ?_
          refine xx_calli (va_runV (As := [.int 0]) (rest := []) ⟨hx, hb, hml, hown, hw⟩ (c_R_answer l D ca ad H.size S14 0 _ h) (cwV 1 hw (tG_g gl_R_111) rfl rfl rfl (by decide +kernel) ⟨Nat.le_of_ble_eq_true rfl, Nat.le_of_ble_eq_true rfl⟩) ⟨xPc.blind, va_recv hK hP rfl (q0 := 0) rfl, xPc.pre hK hN hP hD⟩ rfl rfl hl.1 rfl (lv_room (Nat.le_of_ble_eq_true rfl)) d_R_take_148 ⟨Nat.le_of_ble_eq_true rfl, Nat.le_of_ble_eq_true rfl⟩) hD hS hA (fun r15 S16 H locs h hP hD hS => ?_)
          exact W.iret (v := r15) hx hb hr (fun t ht hW => ⟨⟨r15, S16, rfl, h, by rw [ht]; exact hP, hD⟩, hS.F ht⟩) hS.2.2 d_R_take_151
        · replace h := h.2 hc
          refine lv_aload_n hx hb d_R_take_139 rfl (lv_at hl 0 rfl) ?_
          refine va_get (D := D) (ci := 4) (v := .ref (ad 14)) (C := Rc_R) (T := Fc_R) (N := 25) hx hb hw inc_R hown hK hP 0 rfl rfl 17 (by decide) (hw _ wd_608) (fun _ h9 => h9) rfl d_R_take_140 ?_
          refine lv_iload_n hx hb d_R_take_143 rfl (lv_at hl 1 rfl) ?_
          refine lv_iconst (v := 3) hx hb d_R_take_144 (by decide) ?_
          obtain ⟨hq, h⟩ := h
          refine va_iast (D := D) hx hb hK hP hD hS 14 0 rfl rfl hq d_R_take_145 (fun H locs hP hD hS => ?_)
          rw [pt_R_mode] at hP hD
          refine lv_aload_n hx hb d_R_take_146 rfl (lv_at hl 0 rfl) ?_
          refine lv_iconst (v := 0) hx hb d_R_take_147 (by decide) ?_
          refine xx_calli (va_runV (As := [.int 0]) (rest := []) ⟨hx, hb, hml, hown, hw⟩ (c_R_answer l D ca ad H.size (pI S14 8 y1.toNatClampNeg 3) 0 _ h) (cwV 1 hw (tG_g gl_R_111) rfl rfl rfl (by decide +kernel) ⟨Nat.le_of_ble_eq_true rfl, Nat.le_of_ble_eq_true rfl⟩) ⟨xPc.blind, va_recv hK hP rfl (q0 := 0) rfl, xPc.pre hK hN hP hD⟩ rfl rfl hl.1 rfl (lv_room (Nat.le_of_ble_eq_true rfl)) d_R_take_148 ⟨Nat.le_of_ble_eq_true rfl, Nat.le_of_ble_eq_true rfl⟩) hD hS hA (fun r17 S18 H locs h hP hD hS => ?_)
          exact W.iret (v := r17) hx hb hr (fun t ht hW => ⟨⟨r17, S18, rfl, h, by rw [ht]; exact hP, hD⟩, hS.F ht⟩) hS.2.2 d_R_take_151
      · replace h := h.2 hc
        refine lv_aload_n hx hb d_R_take_103 rfl (lv_at hl 0 rfl) ?_
        refine lv_iload_n hx hb d_R_take_104 rfl (lv_at hl 1 rfl) ?_
        refine xx_calli (va_runV (As := [.int y1]) (rest := []) ⟨hx, hb, hml, hown, hw⟩ (c_R_takeAuthority l D ca ad H.size S y1 _ h) (cwV 1 hw (tG_g gl_R_174) rfl rfl rfl (by decide +kernel) ⟨Nat.le_of_ble_eq_true rfl, Nat.le_of_ble_eq_true rfl⟩) ⟨xPc.blind, va_recv hK hP rfl (q0 := 0) rfl, xPc.pre hK hN hP hD⟩ rfl rfl hl.1 rfl (lv_room (Nat.le_of_ble_eq_true rfl)) d_R_take_105 ⟨Nat.le_of_ble_eq_true rfl, Nat.le_of_ble_eq_true rfl⟩) hD hS hA (fun r19 S20 H locs h hP hD hS => ?_)
        exact W.iret (v := r19) hx hb hr (fun t ht hW => ⟨⟨r19, S20, rfl, h, by rw [ht]; exact hP, hD⟩, hS.F ht⟩) hS.2.2 d_R_take_108
    · replace h := h.2 hc
      refine lv_aload_n hx hb d_R_take_70 rfl (lv_at hl 0 rfl) ?_
      refine va_get (D := D) (ci := 4) (v := .ref (ad 17)) (C := Rc_R) (T := Fc_R) (N := 25) hx hb hw inc_R hown hK hP 0 rfl rfl 20 (by decide) (hw _ wd_611) (fun _ h9 => h9) rfl d_R_take_71 ?_
      refine lv_iload_n hx hb d_R_take_74 rfl (lv_at hl 1 rfl) ?_
      refine lv_iconst (v := 0) hx hb d_R_take_75 (by decide) ?_
      obtain ⟨hq, h⟩ := h
      refine va_iast (D := D) hx hb hK hP hD hS 17 0 rfl rfl hq d_R_take_76 (fun H locs hP hD hS => ?_)
      rw [pt_R_message] at hP hD
      refine lv_aload_n hx hb d_R_take_77 rfl (lv_at hl 0 rfl) ?_
      refine lv_dup hx hb d_R_take_78 rfl ?_
      refine va_get (D := D) (ci := 4) (v := .int ((pI S 11 y1.toNatClampNeg 0).1 4 0)) (C := Rc_R) (T := Fc_R) (N := 25) hx hb hw inc_R hown hK hP 0 rfl rfl 22 (by decide) (hw _ wd_613) (fun _ h9 => h9) rfl d_R_take_79 ?_
      refine lv_iconst (v := 1) hx hb d_R_take_82 (by decide) ?_
      refine lv_iadd hx hb d_R_take_83 ?_
      refine lv_topi (fun a21 e_a21 => ?_)
      replace h := h a21 e_a21
      refine va_put (D := D) (ci := 4) (v := .int a21) (ty := .int) (C := Rc_R) (T := Fc_R) (N := 25) hx hb hw inc_R tc_R tc_R_ok nc_R hown hK hP hD hS 0 rfl rfl 22 (by decide) (hw _ wd_613) (fun _ h9 => h9) rfl (by decide +kernel) rfl rfl (Nat.le_of_ble_eq_true rfl) d_R_take_84 (fun H locs hP hD hS => ?_)
      rw [pt_R_forged] at hP hD
      refine lv_aload_n hx hb d_R_take_87 rfl (lv_at hl 0 rfl) ?_
      refine lv_iconst (v := 4) hx hb d_R_take_88 (by decide) ?_
      refine xx_calli (va_runV (As := [.int 4]) (rest := []) ⟨hx, hb, hml, hown, hw⟩ (c_R_fail l D ca ad H.size (pI (pI S 11 y1.toNatClampNeg 0) 4 0 a21) 4 _ h) (cwV 1 hw (tG_g gl_R_103) rfl rfl rfl (by decide +kernel) ⟨Nat.le_of_ble_eq_true rfl, Nat.le_of_ble_eq_true rfl⟩) ⟨xPc.blind, va_recv hK hP rfl (q0 := 0) rfl, xPc.pre hK hN hP hD⟩ rfl rfl hl.1 rfl (lv_room (Nat.le_of_ble_eq_true rfl)) d_R_take_89 ⟨Nat.le_of_ble_eq_true rfl, Nat.le_of_ble_eq_true rfl⟩) hD hS hA (fun r22 S23 H locs h hP hD hS => ?_)
      exact W.iret (v := r22) hx hb hr (fun t ht hW => ⟨⟨r22, S23, rfl, h, by rw [ht]; exact hP, hD⟩, hS.F ht⟩) hS.2.2 d_R_take_92
  have hH9 : ∀ H : Heap, H = s.heap → va_P D cls (wR ca ad S) H → va_S A s.heap H [] → W p l e ({ frames := 5, cells := 0, slots := 0, locals := 136 } : Room) s m args below meth c H [] 0 0 (MQ below ((fun A => va_Qi Q (xAt D (wR ca ad) A) A) A) args s 0 0 A) (F0 m 0 ls []) := by
    clear hP hS
    intro H hH hP hS
    obtain ⟨locs, hlo⟩ : ∃ z : List Loc, z = [] := ⟨_, rfl⟩
    rw [← hlo] at hS ⊢
    refine lv_aload_n hx hb d_R_take_0 rfl (lv_at hl 0 rfl) ?_
    refine lv_iload_n hx hb d_R_take_1 rfl (lv_at hl 1 rfl) ?_
    refine xx_calli (va_runV (As := [.int x1]) (rest := []) ⟨hx, hb, hml, hown, hw⟩ (c_R_noTrain l D ca ad H.size S x1 _ h) (cwV 1 hw (tG_g gl_R_158) rfl rfl rfl (by decide +kernel) ⟨Nat.le_of_ble_eq_true rfl, Nat.le_of_ble_eq_true rfl⟩) ⟨xPc.blind, va_recv hK hP rfl (q0 := 0) rfl, xPc.pre hK hN hP hD⟩ rfl rfl hl.1 rfl (lv_room (Nat.le_of_ble_eq_true rfl)) d_R_take_2 ⟨Nat.le_of_ble_eq_true rfl, Nat.le_of_ble_eq_true rfl⟩) hD hS hA (fun r1 S2 H locs h hP hD hS => ?_)
    refine lv_if_ne (tgt := 19) hx hb d_R_take_5 (by decide) (fun hc => ?_) (fun hc => ?_)
    · replace h := h.1 hc
      refine lv_aload_n hx hb d_R_take_19 rfl (lv_at hl 0 rfl) ?_
      refine lv_iconst (v := 1) hx hb d_R_take_20 (by decide) ?_
      refine xx_calli (va_runV (As := [.int 1]) (rest := []) ⟨hx, hb, hml, hown, hw⟩ (c_R_fail l D ca ad H.size S2 1 _ h) (cwV 1 hw (tG_g gl_R_103) rfl rfl rfl (by decide +kernel) ⟨Nat.le_of_ble_eq_true rfl, Nat.le_of_ble_eq_true rfl⟩) ⟨xPc.blind, va_recv hK hP rfl (q0 := 0) rfl, xPc.pre hK hN hP hD⟩ rfl rfl hl.1 rfl (lv_room (Nat.le_of_ble_eq_true rfl)) d_R_take_21 ⟨Nat.le_of_ble_eq_true rfl, Nat.le_of_ble_eq_true rfl⟩) hD hS hA (fun r3 S4 H locs h hP hD hS => ?_)
      exact W.iret (v := r3) hx hb hr (fun t ht hW => ⟨⟨r3, S4, rfl, h, by rw [ht]; exact hP, hD⟩, hS.F ht⟩) hS.2.2 d_R_take_24
    · replace h := h.2 hc
      refine lv_iload_n hx hb d_R_take_8 rfl (lv_at hl 2 rfl) ?_
      refine lv_iconst (v := 0) hx hb d_R_take_9 (by decide) ?_
      refine lv_sipush (v := 1023) hx hb d_R_take_10 (by decide) ?_
      refine xx_calli (va_runS (As := [.int x2, .int 0, .int 1023]) (rest := []) ⟨hx, hb, hml, hown, hw⟩ (c_R_in l D ca ad H.size S2 x2 0 1023 _ h) (cwS 3 hw (tG_g gl_R_75) rfl rfl rfl (by decide +kernel) ⟨Nat.le_of_ble_eq_true rfl, Nat.le_of_ble_eq_true rfl⟩) ⟨xPc.blind, xPc.pre hK hN hP hD⟩ rfl rfl hl.1 rfl (lv_room (Nat.le_of_ble_eq_true rfl)) d_R_take_13 ⟨Nat.le_of_ble_eq_true rfl, Nat.le_of_ble_eq_true rfl⟩) hD hS hA (fun r5 S6 H locs h hP hD hS => ?_)
      refine lv_if_ne (tgt := 25) hx hb d_R_take_16 (by decide) (fun hc => ?_) (fun hc => ?_)
      · replace h := h.1 hc
        refine lv_aload_n hx hb d_R_take_25 rfl (lv_at hl 0 rfl) ?_
        refine va_get (D := D) (ci := 4) (v := .ref (ad 17)) (C := Rc_R) (T := Fc_R) (N := 25) hx hb hw inc_R hown hK hP 0 rfl rfl 20 (by decide) (hw _ wd_611) (fun _ h9 => h9) rfl d_R_take_26 ?_
        refine lv_iload_n hx hb d_R_take_29 rfl (lv_at hl 1 rfl) ?_
        obtain ⟨hq, h⟩ := h
        refine va_iald (D := D) hx hb hK hP 17 0 rfl rfl hq d_R_take_30 ?_
        refine lv_if_ne (tgt := 40) hx hb d_R_take_31 (by decide) (fun hc => ?_) (fun hc => ?_)
        · replace h := h.1 hc
          refine lv_aload_n hx hb d_R_take_40 rfl (lv_at hl 0 rfl) ?_
          refine va_get (D := D) (ci := 4) (v := .ref (ad 17)) (C := Rc_R) (T := Fc_R) (N := 25) hx hb hw inc_R hown hK hP 0 rfl rfl 20 (by decide) (hw _ wd_611) (fun _ h9 => h9) rfl d_R_take_41 ?_
          refine lv_iload_n hx hb d_R_take_44 rfl (lv_at hl 1 rfl) ?_
          obtain ⟨hq, h⟩ := h
          refine va_iald (D := D) hx hb hK hP 17 0 rfl rfl hq d_R_take_45 ?_
          refine lv_iconst (v := 1) hx hb d_R_take_46 (by decide) ?_
          refine lv_icmp_ne (tgt := 66) hx hb d_R_take_47 (by decide) (fun hc => ?_) (fun hc => ?_)
          · replace h := h.1 hc
            exact bk_66 S6 x1 x2 H locs hP hD hS ls (lv_sub hl [0, 1, 2] rfl) h
          · replace h := h.2 hc
            refine lv_aload_n hx hb d_R_take_50 rfl (lv_at hl 0 rfl) ?_
            refine va_get (D := D) (ci := 4) (v := .ref (ad 14)) (C := Rc_R) (T := Fc_R) (N := 25) hx hb hw inc_R hown hK hP 0 rfl rfl 17 (by decide) (hw _ wd_608) (fun _ h9 => h9) rfl d_R_take_51 ?_
            refine lv_iload_n hx hb d_R_take_54 rfl (lv_at hl 1 rfl) ?_
            obtain ⟨hq, h⟩ := h
            refine va_iald (D := D) hx hb hK hP 14 0 rfl rfl hq d_R_take_55 ?_
            refine lv_iconst (v := 3) hx hb d_R_take_56 (by decide) ?_
            refine lv_icmp_ne (tgt := 66) hx hb d_R_take_57 (by decide) (fun hc => ?_) (fun hc => ?_)
            · replace h := h.1 hc
              exact bk_66 S6 x1 x2 H locs hP hD hS ls (lv_sub hl [0, 1, 2] rfl) h
            · replace h := h.2 hc
              refine lv_aload_n hx hb d_R_take_60 rfl (lv_at hl 0 rfl) ?_
              refine lv_iconst (v := 3) hx hb d_R_take_61 (by decide) ?_
              refine xx_calli (va_runV (As := [.int 3]) (rest := []) ⟨hx, hb, hml, hown, hw⟩ (c_R_fail l D ca ad H.size S6 3 _ h) (cwV 1 hw (tG_g gl_R_103) rfl rfl rfl (by decide +kernel) ⟨Nat.le_of_ble_eq_true rfl, Nat.le_of_ble_eq_true rfl⟩) ⟨xPc.blind, va_recv hK hP rfl (q0 := 0) rfl, xPc.pre hK hN hP hD⟩ rfl rfl hl.1 rfl (lv_room (Nat.le_of_ble_eq_true rfl)) d_R_take_62 ⟨Nat.le_of_ble_eq_true rfl, Nat.le_of_ble_eq_true rfl⟩) hD hS hA (fun r7 S8 H locs h hP hD hS => ?_)
              exact W.iret (v := r7) hx hb hr (fun t ht hW => ⟨⟨r7, S8, rfl, h, by rw [ht]; exact hP, hD⟩, hS.F ht⟩) hS.2.2 d_R_take_65
        · replace h := h.2 hc
          refine lv_aload_n hx hb d_R_take_34 rfl (lv_at hl 0 rfl) ?_
          refine lv_iconst (v := 2) hx hb d_R_take_35 (by decide) ?_
          refine xx_calli (va_runV (As := [.int 2]) (rest := []) ⟨hx, hb, hml, hown, hw⟩ (c_R_fail l D ca ad H.size S6 2 _ h) (cwV 1 hw (tG_g gl_R_103) rfl rfl rfl (by decide +kernel) ⟨Nat.le_of_ble_eq_true rfl, Nat.le_of_ble_eq_true rfl⟩) ⟨xPc.blind, va_recv hK hP rfl (q0 := 0) rfl, xPc.pre hK hN hP hD⟩ rfl rfl hl.1 rfl (lv_room (Nat.le_of_ble_eq_true rfl)) d_R_take_36 ⟨Nat.le_of_ble_eq_true rfl, Nat.le_of_ble_eq_true rfl⟩) hD hS hA (fun r9 S10 H locs h hP hD hS => ?_)
          exact W.iret (v := r9) hx hb hr (fun t ht hW => ⟨⟨r9, S10, rfl, h, by rw [ht]; exact hP, hD⟩, hS.F ht⟩) hS.2.2 d_R_take_39
      · replace h := h.2 hc
        refine lv_aload_n hx hb d_R_take_19 rfl (lv_at hl 0 rfl) ?_
        refine lv_iconst (v := 1) hx hb d_R_take_20 (by decide) ?_
        refine xx_calli (va_runV (As := [.int 1]) (rest := []) ⟨hx, hb, hml, hown, hw⟩ (c_R_fail l D ca ad H.size S6 1 _ h) (cwV 1 hw (tG_g gl_R_103) rfl rfl rfl (by decide +kernel) ⟨Nat.le_of_ble_eq_true rfl, Nat.le_of_ble_eq_true rfl⟩) ⟨xPc.blind, va_recv hK hP rfl (q0 := 0) rfl, xPc.pre hK hN hP hD⟩ rfl rfl hl.1 rfl (lv_room (Nat.le_of_ble_eq_true rfl)) d_R_take_21 ⟨Nat.le_of_ble_eq_true rfl, Nat.le_of_ble_eq_true rfl⟩) hD hS hA (fun r11 S12 H locs h hP hD hS => ?_)
        exact W.iret (v := r11) hx hb hr (fun t ht hW => ⟨⟨r11, S12, rfl, h, by rw [ht]; exact hP, hD⟩, hS.F ht⟩) hS.2.2 d_R_take_24
  exact hH9 _ rfl hP hS
