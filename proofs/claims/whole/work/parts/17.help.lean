def ncl : List (String × String) := [("java/util/NoSuchElementException", "java/lang/IllegalArgumentException"), ("java/lang/IllegalStateException", "java/lang/IllegalArgumentException"), ("java/lang/IllegalStateException", "java/util/NoSuchElementException"), ("java/lang/UnsupportedOperationException", "java/lang/IllegalArgumentException"), ("java/lang/UnsupportedOperationException", "java/util/NoSuchElementException"), ("java/lang/UnsupportedOperationException", "java/lang/IllegalStateException")]
def nC (U : State) : Prop := ∀ q ∈ ncl, va_Nc q.1 q.2 U
def xPh {St : Type} (D : va_G) (ca : Nat → ClassId) (w : St → va_W) (S : St) (sz : Nat) (vals : List Value) : Array Value → State → Prop := va_Pc vals (fun U => U.heap.size = sz ∧ va_K D cls (tyl ca) U ∧ nW U ∧ va_P D cls (w S) U.heap ∧ va_D (fun _ => True) (w S) ∧ nX U ∧ zW (va_A (w S) sz) U U.heap ∧ nC U)
theorem xPh.blind {St : Type} {D : va_G} {ca : Nat → ClassId} {w : St → va_W} {S : St} {sz : Nat} {vals : List Value} : FrameBlind (xPh D ca w S sz vals) := by
  intro a U g mk q
  obtain ⟨q0, q1, qK, qN, qP, qD, qX, qZ, qC⟩ := q
  exact ⟨q0, q1, va_K.moved (u := U) (U := U.calling g mk a) (Vm.Alike.refl U.vm) qK, nW.same (u := U) (U := U.calling g mk a) rfl qN, qP, qD, nX.same (u := U) (U := U.calling g mk a) rfl qX, zW.moved (u := U) (U := U.calling g mk a) (Vm.Alike.refl U.vm) qZ, fun q h => va_Nc.moved (u := U) (U := U.calling g mk a) (Vm.Alike.refl U.vm) (qC q h)⟩
theorem xPh.pre {St : Type} {D : va_G} {ca : Nat → ClassId} {w : St → va_W} {S : St} {vals : List Value} {s : State} {H : Heap} {A : Nat → Prop} (hK : va_K D cls (tyl ca) s) (hN : nW s) (hP : va_P D cls (w S) H) (hD : va_D A (w S)) (hX : nX s) (hZ : zW (va_A (w S) H.size) s H) (hC : nC s) : ∀ U : State, U.heap = H → s.WarmedH U.vm → xPh D ca w S H.size vals vals.toArray U :=
  fun U hU hW => ⟨rfl, by rw [hU], va_K.moved hW.alike hK, hN.warm hW, by rw [hU]; exact hP, hD.weaken (fun _ _ _ _ => trivial), hX.warm hW, by rw [hU]; exact hZ.moved hW.alike, fun q h => va_Nc.moved hW.alike (hC q h)⟩
theorem xx_meth {St : Type} {l : Launch} {D : va_G} {ca : Nat → ClassId} {w : St → va_W} {S : St} {sz : Nat} {vals : List Value} {y : MethodName} {cc : ByteArray} {maxL : Nat} {ret : Option FieldType} {hh : List (Nat × Nat × Nat × Nat)} {rm : Room} {mc ms : Nat} {Qf : (Nat → Prop) → Array Value → State → Outcome → State → Prop}
    (hy : plainName y.cls = true) (hn : (lg_sl vals).length ≤ maxL)
    (body : ∀ (p : Program) (e : Env) (s : State) (m : MethodId) (args : Array Value) (below : List Frame) (meth : Method) (c : Code) (A : Nat → Prop) (ls : Array Slot), p.tables.exec = Jvm.exec → c.code = cc → meth.sig.returnType = ret → (∀ x ∈ tG, x.before args s = true) → s.vm.findClass y.cls = some m.cls → meth.locks = false → c.maxLocals = maxL →
      va_K D cls (tyl ca) s → nW s → (∀ q : Nat, s.heap.size ≤ q → A q) → va_P D cls (w S) s.heap → va_D A (w S) → va_S A s.heap s.heap [] → lv_has ls maxL (lv_args 0 vals) → zW A s s.heap → c.exceptionTable.toList = tableOf hh → nX s → nC s →
      W p l e rm s m args below meth c s.heap [] 0 0 (MQ below (Qf A) args s mc ms A) (F0 m 0 ls [])) :
    Met l y (Cond.codeWith y cc maxL ret hh :: tG) rm (xPh D ca w S sz vals) (Qf (va_A (w S) sz)) mc ms (va_A (w S) sz) := by
  refine MetFree.of_bodyS (code := cc) (maxLocals := maxL) (ret := ret) hy ?_ ?_
  · intro args s m h hn
    obtain ⟨m9, meth, c, hn9, h1, h2, h3, h4, -, h5, h6, -⟩ := Cond.codeWith_spec (atoms_spec (ws := Cond.codeWith y cc maxL ret hh :: tG) h _ List.mem_cons_self)
    cases hn.symm.trans hn9
    exact ⟨meth, c, h1, h2, h3, h4, h5, h6⟩
  · intro p e s m args below meth c s₁ B hml hv _
    have hh0 : s₁.heap = s.heap := by rw [B.state]; rfl
    obtain ⟨rfl, hsz, hK, hN, hP, hD0, hX, hZ, hC⟩ := hv
    have hts := atoms_spec (ws := Cond.codeWith y cc maxL ret hh :: tG) B.pre
    subst hsz
    have hl := lv_entry vals (n := maxL) hn
    have hb9 := body p e s m _ below meth c _ _ B.exec B.bytes B.returns (fun x h => hts x (List.mem_cons_of_mem _ h)) (findClass_of_methodNamed B.named) B.notSynchronized hml hK hN (fun q h => Or.inr h) hP (hD0.self (sz := s.heap.size)) va_S.rf hl hZ (vx_table (x := y) B (hts _ List.mem_cons_self)) hX hC
    rw [← lg_entry_eq] at hb9
    obtain ⟨t, a1, o, b1, b2, b3⟩ := hb9 s₁ hh0 (Stand.of_body B)
    exact ⟨t, o, a1, b1, b2, b3⟩
def wHl (ca : Nat → ClassId) (ad : Nat → Nat) (o : Nat) (T : SC × (Nat → Int64)) : va_W := (o, .inl (ca 1, 1, .inr (.inl T.2))) :: wC ca ad T.1
def wHd (ca : Nat → ClassId) (ad : Nat → Nat) (o : Nat) (T : SC × (Nat → UInt64)) : va_W := (o, .inl (ca 2, 1, .inr (.inr (.inr (.inl T.2))))) :: wC ca ad T.1
theorem d_W_section_0 : decode b_W_section 0 = .ok (.aload 5, 2) := by decide +kernel
theorem d_W_section_2 : decode b_W_section 2 = .ok (.iconst 0, 1) := by decide +kernel
theorem d_W_section_3 : decode b_W_section 3 = .ok (.aload_n 0, 1) := by decide +kernel
theorem d_W_section_4 : decode b_W_section 4 = .ok (.dload_n 1, 1) := by decide +kernel
theorem d_W_section_5 : decode b_W_section 5 = .ok (.dload_n 3, 1) := by decide +kernel
theorem d_W_section_6 : decode b_W_section 6 = .ok (.invokevirtual 7, 3) := by decide +kernel
theorem d_W_section_9 : decode b_W_section 9 = .ok (.i2l, 1) := by decide +kernel
theorem d_W_section_10 : decode b_W_section 10 = .ok (.lastore, 1) := by decide +kernel
theorem d_W_section_11 : decode b_W_section 11 = .ok (.goto 19, 3) := by decide +kernel
theorem d_W_section_14 : decode b_W_section 14 = .ok (.astore 6, 2) := by decide +kernel
theorem d_W_section_16 : decode b_W_section 16 = .ok (.iconst 1, 1) := by decide +kernel
theorem d_W_section_17 : decode b_W_section 17 = .ok (.ireturn, 1) := by decide +kernel
theorem d_W_section_18 : decode b_W_section 18 = .ok (.astore 6, 2) := by decide +kernel
theorem d_W_section_20 : decode b_W_section 20 = .ok (.iconst 2, 1) := by decide +kernel
theorem d_W_section_21 : decode b_W_section 21 = .ok (.ireturn, 1) := by decide +kernel
theorem d_W_section_22 : decode b_W_section 22 = .ok (.astore 6, 2) := by decide +kernel
theorem d_W_section_24 : decode b_W_section 24 = .ok (.iconst 3, 1) := by decide +kernel
theorem d_W_section_25 : decode b_W_section 25 = .ok (.ireturn, 1) := by decide +kernel
theorem d_W_section_26 : decode b_W_section 26 = .ok (.astore 6, 2) := by decide +kernel
theorem d_W_section_28 : decode b_W_section 28 = .ok (.iconst 4, 1) := by decide +kernel
theorem d_W_section_29 : decode b_W_section 29 = .ok (.ireturn, 1) := by decide +kernel
theorem d_W_section_30 : decode b_W_section 30 = .ok (.iconst 0, 1) := by decide +kernel
theorem d_W_section_31 : decode b_W_section 31 = .ok (.ireturn, 1) := by decide +kernel
theorem gl_W_7 : ∀ w ∈ wsV "TrainGuardLaw" 7 "TrainGuard" y_G_section (Cond.code y_G_section b_G_section 5 (some Jvm.ClassFile.FieldType.int) :: tG), w ∈ tG := by
  intro x hx
  simp only [wsV, List.cons_append, List.nil_append, List.mem_cons] at hx
  rcases hx with rfl | rfl | rfl | rfl | rfl | hx
  · exact wd_162
  · exact wd_163
  · exact wd_164
  · exact wd_1
  · exact wd_165
  · exact hx
def w_W_section (T : SC × (Nat → Int64)) (x1 : UInt64) (x2 : UInt64) (Q : Int32 → SC × (Nat → Int64) → Prop) : Prop := w_G_section T.1 x1 x2 (fun r u => Q 0 (u, vp_updL T.2 0 r.toInt64)) (fun k u => (k = 1 ∨ k = 2 ∨ k = 3 ∨ k = 4) ∧ Q (nI k) (u, T.2))
set_option maxRecDepth 100000 in
set_option maxHeartbeats 4000000 in
theorem c_W_section (l : Launch) (hl0 : l.stackTraces = false) (D : va_G) (ca : Nat → ClassId) (ad : Nat → Nat) (o sz : Nat) (T : SC × (Nat → Int64)) (x1 : UInt64) (x2 : UInt64) (Q : Int32 → SC × (Nat → Int64) → Prop) (h : w_W_section T x1 x2 Q) : Met l y_W_section (Cond.codeWith y_W_section b_W_section 7 (some Jvm.ClassFile.FieldType.int) [(0, 11, 14, 13), (0, 11, 18, 15), (0, 11, 22, 17), (0, 11, 26, 19)] :: tG) ({ frames := 8, cells := 1, slots := 6, locals := 125 } : Room) (xPh D ca (wHl ca ad o) T sz [.ref (ad 0), .double x1, .double x2, .ref o]) (va_Qi Q (xAt D (wHl ca ad o) (va_A (wHl ca ad o T) sz)) (va_A (wHl ca ad o T) sz)) 1 6 (va_A (wHl ca ad o T) sz) := by
  refine xx_meth (Qf := fun A => va_Qi Q (xAt D (wHl ca ad o) A) A) (by decide) (Nat.le_of_ble_eq_true rfl) ?_
  intro p e s m args below meth c A ls hx hb hr hw hown hlocks hml hK hN hA hP hD hS hl hZ htab hX hC
  have hown : s.vm.findClass "TrainGuardLaw" = some m.cls := hown
  have hl : lv_has ls 7 [(0, .ref (ad 0)), (1, .double x1), (3, .double x2), (5, .ref o)] := hl
  unfold w_W_section at h
  obtain ⟨S, f⟩ := T
  have hH9 : ∀ H : Heap, H = s.heap → va_P D cls (wHl ca ad o (S, f)) H → va_S A s.heap H [] → W p l e ({ frames := 8, cells := 1, slots := 6, locals := 125 } : Room) s m args below meth c H [] 0 0 (MQ below ((fun A => va_Qi Q (xAt D (wHl ca ad o) A) A) A) args s 1 6 A) (F0 m 0 ls []) := by
    clear hP hS
    intro H hH hP hS
    refine lv_aload hx hb d_W_section_0 (lv_at hl 3 rfl) ?_
    refine lv_iconst (v := 0) hx hb d_W_section_2 (by decide) ?_
    refine lv_aload_n hx hb d_W_section_3 rfl (lv_at hl 0 rfl) ?_
    refine lv_dload_n hx hb d_W_section_4 rfl (lv_at hl 1 rfl) ?_
    refine lv_dload_n hx hb d_W_section_5 rfl (lv_at hl 2 rfl) ?_
    have hPc := hP.sub (ws' := wC ca ad S) [1, 2, 3, 4, 5, 6, 7, 8, 9, 10, 11, 12, 13, 14, 15] rfl
    have hDc := hD.sub (ws' := wC ca ad S) [1, 2, 3, 4, 5, 6, 7, 8, 9, 10, 11, 12, 13, 14, 15] (by decide) rfl
    have hFc := va_free (wc := wC ca ad S) hD hS hA [1, 2, 3, 4, 5, 6, 7, 8, 9, 10, 11, 12, 13, 14, 15] rfl
    refine vx_calli (vx_runV (As := [.double x1, .double x2]) (rest := [.int 0, .ref o]) ⟨hx, hb, hml, hown, hw⟩ (c_G_section l hl0 D ca ad H.size S x1 x2 _ _ h) (cwV 2 hw (tG_g gl_W_7) rfl rfl rfl (by decide +kernel) ⟨Nat.le_of_ble_eq_true rfl, Nat.le_of_ble_eq_true rfl⟩) ⟨xPx.blind, va_recv hK hP rfl (q0 := 1) rfl, xPx.pre hK hN hPc hDc hX (hZ.now hS hA hDc)⟩ rfl rfl hl.1 rfl (lv_room (Nat.le_of_ble_eq_true rfl)) d_W_section_6 ⟨Nat.le_of_ble_eq_true rfl, Nat.le_of_ble_eq_true rfl⟩) hS (fun q _ h => hFc q h) hFc (fun q _ h => hFc q h) (fun E ce q9 u t H1 locs ht hvm hp hB hz1 hk1 hS hce hcv hcl => ?_) (fun r u t H1 locs ht hvm hq hB hz1 hk1 hS => ?_)
    · obtain ⟨hE, hP1, hD1⟩ := hB
      rw [ht] at hP1
      obtain ⟨hP, hD⟩ := va_join (wr := [(o, .inl (ca 1, 1, .inr (.inl f)))]) (w1 := wC ca ad u.2) hP hD [1, 2, 3, 4, 5, 6, 7, 8, 9, 10, 11, 12, 13, 14, 15] [0] rfl rfl (by decide) (by decide) hk1 hFc hP1 hD1
      have hP : va_P D cls (wHl ca ad o (u.2, f)) H1 := hP
      have hD : va_D A (wHl ca ad o (u.2, f)) := hD
      obtain ⟨hk, h⟩ := hp
      obtain ⟨k9, u9⟩ := u
      rcases hk with hk | hk | hk | hk <;> (replace hk : k9 = _ := hk; subst hk; replace hE : E = _ := hE; subst hE)
      · refine vx_catch (E := xNm 1) (name := "java/lang/IllegalArgumentException") hown [] (⟨0, 11, 14, 13⟩ : ExceptionTableEntry) [(⟨0, 11, 18, 15⟩ : ExceptionTableEntry), (⟨0, 11, 22, 17⟩ : ExceptionTableEntry), (⟨0, 11, 26, 19⟩ : ExceptionTableEntry)] (by rw [htab]; rfl) (fun z hz => ?_) (by decide) (by decide) (hw _ wd_158) ((hX _ (List.mem_of_getElem? (i := 0) (by rfl))).use rfl) hce hcv hcl ?_
        · cases hz
        · refine lv_astore (lv' := [(6, .ref q9), (0, .ref (ad 0)), (1, .double x1), (3, .double x2), (5, .ref o)]) hx hb d_W_section_14 hl (by decide) rfl (fun ls hl => ?_)
          refine lv_iconst (v := 1) hx hb d_W_section_16 (by decide) ?_
          exact W.iret (v := 1) hx hb hr (fun t ht hW => ⟨⟨1, (u9, f), rfl, h, by rw [ht]; exact hP, hD⟩, hS.F ht⟩) hS.2.2 d_W_section_17
      · refine vx_catch (E := xNm 2) (name := "java/util/NoSuchElementException") hown [(⟨0, 11, 14, 13⟩ : ExceptionTableEntry)] (⟨0, 11, 18, 15⟩ : ExceptionTableEntry) [(⟨0, 11, 22, 17⟩ : ExceptionTableEntry), (⟨0, 11, 26, 19⟩ : ExceptionTableEntry)] (by rw [htab]; rfl) (fun z hz => ?_) (by decide) (by decide) (hw _ wd_159) ((hX _ (List.mem_of_getElem? (i := 9) (by rfl))).use rfl) hce hcv hcl ?_
        · simp only [List.mem_cons, List.not_mem_nil, or_false] at hz
          rcases hz with rfl
          · exact Or.inr ⟨by decide, "java/lang/IllegalArgumentException", hw _ wd_158, hC ("java/util/NoSuchElementException", "java/lang/IllegalArgumentException") (List.mem_of_getElem? (i := 0) (by rfl))⟩
        · refine lv_astore (lv' := [(6, .ref q9), (0, .ref (ad 0)), (1, .double x1), (3, .double x2), (5, .ref o)]) hx hb d_W_section_18 hl (by decide) rfl (fun ls hl => ?_)
          refine lv_iconst (v := 2) hx hb d_W_section_20 (by decide) ?_
          exact W.iret (v := 2) hx hb hr (fun t ht hW => ⟨⟨2, (u9, f), rfl, h, by rw [ht]; exact hP, hD⟩, hS.F ht⟩) hS.2.2 d_W_section_21
      · refine vx_catch (E := xNm 3) (name := "java/lang/IllegalStateException") hown [(⟨0, 11, 14, 13⟩ : ExceptionTableEntry), (⟨0, 11, 18, 15⟩ : ExceptionTableEntry)] (⟨0, 11, 22, 17⟩ : ExceptionTableEntry) [(⟨0, 11, 26, 19⟩ : ExceptionTableEntry)] (by rw [htab]; rfl) (fun z hz => ?_) (by decide) (by decide) (hw _ wd_160) ((hX _ (List.mem_of_getElem? (i := 7) (by rfl))).use rfl) hce hcv hcl ?_
        · simp only [List.mem_cons, List.not_mem_nil, or_false] at hz
          rcases hz with rfl | rfl
          · exact Or.inr ⟨by decide, "java/lang/IllegalArgumentException", hw _ wd_158, hC ("java/lang/IllegalStateException", "java/lang/IllegalArgumentException") (List.mem_of_getElem? (i := 1) (by rfl))⟩
          · exact Or.inr ⟨by decide, "java/util/NoSuchElementException", hw _ wd_159, hC ("java/lang/IllegalStateException", "java/util/NoSuchElementException") (List.mem_of_getElem? (i := 2) (by rfl))⟩
        · refine lv_astore (lv' := [(6, .ref q9), (0, .ref (ad 0)), (1, .double x1), (3, .double x2), (5, .ref o)]) hx hb d_W_section_22 hl (by decide) rfl (fun ls hl => ?_)
          refine lv_iconst (v := 3) hx hb d_W_section_24 (by decide) ?_
          exact W.iret (v := 3) hx hb hr (fun t ht hW => ⟨⟨3, (u9, f), rfl, h, by rw [ht]; exact hP, hD⟩, hS.F ht⟩) hS.2.2 d_W_section_25
      · refine vx_catch (E := xNm 4) (name := "java/lang/UnsupportedOperationException") hown [(⟨0, 11, 14, 13⟩ : ExceptionTableEntry), (⟨0, 11, 18, 15⟩ : ExceptionTableEntry), (⟨0, 11, 22, 17⟩ : ExceptionTableEntry)] (⟨0, 11, 26, 19⟩ : ExceptionTableEntry) [] (by rw [htab]; rfl) (fun z hz => ?_) (by decide) (by decide) (hw _ wd_161) ((hX _ (List.mem_of_getElem? (i := 8) (by rfl))).use rfl) hce hcv hcl ?_
        · simp only [List.mem_cons, List.not_mem_nil, or_false] at hz
          rcases hz with rfl | rfl | rfl
          · exact Or.inr ⟨by decide, "java/lang/IllegalArgumentException", hw _ wd_158, hC ("java/lang/UnsupportedOperationException", "java/lang/IllegalArgumentException") (List.mem_of_getElem? (i := 3) (by rfl))⟩
          · exact Or.inr ⟨by decide, "java/util/NoSuchElementException", hw _ wd_159, hC ("java/lang/UnsupportedOperationException", "java/util/NoSuchElementException") (List.mem_of_getElem? (i := 4) (by rfl))⟩
          · exact Or.inr ⟨by decide, "java/lang/IllegalStateException", hw _ wd_160, hC ("java/lang/UnsupportedOperationException", "java/lang/IllegalStateException") (List.mem_of_getElem? (i := 5) (by rfl))⟩
        · refine lv_astore (lv' := [(6, .ref q9), (0, .ref (ad 0)), (1, .double x1), (3, .double x2), (5, .ref o)]) hx hb d_W_section_26 hl (by decide) rfl (fun ls hl => ?_)
          refine lv_iconst (v := 4) hx hb d_W_section_28 (by decide) ?_
          exact W.iret (v := 4) hx hb hr (fun t ht hW => ⟨⟨4, (u9, f), rfl, h, by rw [ht]; exact hP, hD⟩, hS.F ht⟩) hS.2.2 d_W_section_29
    · obtain ⟨hP1, hD1⟩ := hB
      rw [ht] at hP1
      obtain ⟨hP, hD⟩ := va_join (wr := [(o, .inl (ca 1, 1, .inr (.inl f)))]) (w1 := wC ca ad u) hP hD [1, 2, 3, 4, 5, 6, 7, 8, 9, 10, 11, 12, 13, 14, 15] [0] rfl rfl (by decide) (by decide) hk1 hFc hP1 hD1
      have hP : va_P D cls (wHl ca ad o (u, f)) H1 := hP
      have hD : va_D A (wHl ca ad o (u, f)) := hD
      refine lv_i2l (v := r.toInt64) hx hb d_W_section_9 rfl ?_
      refine va_last (D := D) hx hb hK hP hD hS 0 1 rfl rfl (by unfold vp_in; decide) d_W_section_10 (fun H locs hP hD hS => ?_)
      have hP : va_P D cls (wHl ca ad o (u, vp_updL f 0 r.toInt64)) H := hP
      have hD : va_D A (wHl ca ad o (u, vp_updL f 0 r.toInt64)) := hD
      refine lv_goto (tgt := 30) hx hb d_W_section_11 (by decide) ?_
      refine lv_iconst (v := 0) hx hb d_W_section_30 (by decide) ?_
      exact W.iret (v := 0) hx hb hr (fun t ht hW => ⟨⟨0, (u, vp_updL f 0 r.toInt64), rfl, hq, by rw [ht]; exact hP, hD⟩, hS.F ht⟩) hS.2.2 d_W_section_31
  exact hH9 _ rfl hP hS
theorem d_W_restrict_0 : decode b_W_restrict 0 = .ok (.aload 7, 2) := by decide +kernel
theorem d_W_restrict_2 : decode b_W_restrict 2 = .ok (.iconst 0, 1) := by decide +kernel
theorem d_W_restrict_3 : decode b_W_restrict 3 = .ok (.aload_n 0, 1) := by decide +kernel
theorem d_W_restrict_4 : decode b_W_restrict 4 = .ok (.dload_n 1, 1) := by decide +kernel
theorem d_W_restrict_5 : decode b_W_restrict 5 = .ok (.dload_n 3, 1) := by decide +kernel
theorem d_W_restrict_6 : decode b_W_restrict 6 = .ok (.dload 5, 2) := by decide +kernel
theorem d_W_restrict_8 : decode b_W_restrict 8 = .ok (.invokevirtual 21, 3) := by decide +kernel
theorem d_W_restrict_11 : decode b_W_restrict 11 = .ok (.i2l, 1) := by decide +kernel
theorem d_W_restrict_12 : decode b_W_restrict 12 = .ok (.lastore, 1) := by decide +kernel
theorem d_W_restrict_13 : decode b_W_restrict 13 = .ok (.goto 19, 3) := by decide +kernel
theorem d_W_restrict_16 : decode b_W_restrict 16 = .ok (.astore 8, 2) := by decide +kernel
theorem d_W_restrict_18 : decode b_W_restrict 18 = .ok (.iconst 1, 1) := by decide +kernel
theorem d_W_restrict_19 : decode b_W_restrict 19 = .ok (.ireturn, 1) := by decide +kernel
theorem d_W_restrict_20 : decode b_W_restrict 20 = .ok (.astore 8, 2) := by decide +kernel
theorem d_W_restrict_22 : decode b_W_restrict 22 = .ok (.iconst 2, 1) := by decide +kernel
theorem d_W_restrict_23 : decode b_W_restrict 23 = .ok (.ireturn, 1) := by decide +kernel
theorem d_W_restrict_24 : decode b_W_restrict 24 = .ok (.astore 8, 2) := by decide +kernel
theorem d_W_restrict_26 : decode b_W_restrict 26 = .ok (.iconst 3, 1) := by decide +kernel
theorem d_W_restrict_27 : decode b_W_restrict 27 = .ok (.ireturn, 1) := by decide +kernel
theorem d_W_restrict_28 : decode b_W_restrict 28 = .ok (.astore 8, 2) := by decide +kernel
theorem d_W_restrict_30 : decode b_W_restrict 30 = .ok (.iconst 4, 1) := by decide +kernel
theorem d_W_restrict_31 : decode b_W_restrict 31 = .ok (.ireturn, 1) := by decide +kernel
theorem d_W_restrict_32 : decode b_W_restrict 32 = .ok (.iconst 0, 1) := by decide +kernel
theorem d_W_restrict_33 : decode b_W_restrict 33 = .ok (.ireturn, 1) := by decide +kernel
theorem gl_W_21 : ∀ w ∈ wsV "TrainGuardLaw" 21 "TrainGuard" y_G_restrict (Cond.code y_G_restrict b_G_restrict 7 (some Jvm.ClassFile.FieldType.int) :: tG), w ∈ tG := by
  intro x hx
  simp only [wsV, List.cons_append, List.nil_append, List.mem_cons] at hx
  rcases hx with rfl | rfl | rfl | rfl | rfl | hx
  · exact wd_267
  · exact wd_268
  · exact wd_269
  · exact wd_1
  · exact wd_270
  · exact hx
def w_W_restrict (T : SC × (Nat → Int64)) (x1 : UInt64) (x2 : UInt64) (x3 : UInt64) (Q : Int32 → SC × (Nat → Int64) → Prop) : Prop := w_G_restrict T.1 x1 x2 x3 (fun r u => Q 0 (u, vp_updL T.2 0 r.toInt64)) (fun k u => (k = 1 ∨ k = 2 ∨ k = 3 ∨ k = 4) ∧ Q (nI k) (u, T.2))
set_option maxRecDepth 100000 in
set_option maxHeartbeats 4000000 in
theorem c_W_restrict (l : Launch) (hl0 : l.stackTraces = false) (D : va_G) (ca : Nat → ClassId) (ad : Nat → Nat) (o sz : Nat) (T : SC × (Nat → Int64)) (x1 : UInt64) (x2 : UInt64) (x3 : UInt64) (Q : Int32 → SC × (Nat → Int64) → Prop) (h : w_W_restrict T x1 x2 x3 Q) : Met l y_W_restrict (Cond.codeWith y_W_restrict b_W_restrict 9 (some Jvm.ClassFile.FieldType.int) [(0, 13, 16, 13), (0, 13, 20, 15), (0, 13, 24, 17), (0, 13, 28, 19)] :: tG) ({ frames := 8, cells := 1, slots := 6, locals := 127 } : Room) (xPh D ca (wHl ca ad o) T sz [.ref (ad 0), .double x1, .double x2, .double x3, .ref o]) (va_Qi Q (xAt D (wHl ca ad o) (va_A (wHl ca ad o T) sz)) (va_A (wHl ca ad o T) sz)) 1 6 (va_A (wHl ca ad o T) sz) := by
  refine xx_meth (Qf := fun A => va_Qi Q (xAt D (wHl ca ad o) A) A) (by decide) (Nat.le_of_ble_eq_true rfl) ?_
  intro p e s m args below meth c A ls hx hb hr hw hown hlocks hml hK hN hA hP hD hS hl hZ htab hX hC
  have hown : s.vm.findClass "TrainGuardLaw" = some m.cls := hown
  have hl : lv_has ls 9 [(0, .ref (ad 0)), (1, .double x1), (3, .double x2), (5, .double x3), (7, .ref o)] := hl
  unfold w_W_restrict at h
  obtain ⟨S, f⟩ := T
  have hH9 : ∀ H : Heap, H = s.heap → va_P D cls (wHl ca ad o (S, f)) H → va_S A s.heap H [] → W p l e ({ frames := 8, cells := 1, slots := 6, locals := 127 } : Room) s m args below meth c H [] 0 0 (MQ below ((fun A => va_Qi Q (xAt D (wHl ca ad o) A) A) A) args s 1 6 A) (F0 m 0 ls []) := by
    clear hP hS
    intro H hH hP hS
    refine lv_aload hx hb d_W_restrict_0 (lv_at hl 4 rfl) ?_
    refine lv_iconst (v := 0) hx hb d_W_restrict_2 (by decide) ?_
    refine lv_aload_n hx hb d_W_restrict_3 rfl (lv_at hl 0 rfl) ?_
    refine lv_dload_n hx hb d_W_restrict_4 rfl (lv_at hl 1 rfl) ?_
    refine lv_dload_n hx hb d_W_restrict_5 rfl (lv_at hl 2 rfl) ?_
    refine lv_dload hx hb d_W_restrict_6 (lv_at hl 3 rfl) ?_
    have hPc := hP.sub (ws' := wC ca ad S) [1, 2, 3, 4, 5, 6, 7, 8, 9, 10, 11, 12, 13, 14, 15] rfl
    have hDc := hD.sub (ws' := wC ca ad S) [1, 2, 3, 4, 5, 6, 7, 8, 9, 10, 11, 12, 13, 14, 15] (by decide) rfl
    have hFc := va_free (wc := wC ca ad S) hD hS hA [1, 2, 3, 4, 5, 6, 7, 8, 9, 10, 11, 12, 13, 14, 15] rfl
    refine vx_calli (vx_runV (As := [.double x1, .double x2, .double x3]) (rest := [.int 0, .ref o]) ⟨hx, hb, hml, hown, hw⟩ (c_G_restrict l hl0 D ca ad H.size S x1 x2 x3 _ _ h) (cwV 3 hw (tG_g gl_W_21) rfl rfl rfl (by decide +kernel) ⟨Nat.le_of_ble_eq_true rfl, Nat.le_of_ble_eq_true rfl⟩) ⟨xPx.blind, va_recv hK hP rfl (q0 := 1) rfl, xPx.pre hK hN hPc hDc hX (hZ.now hS hA hDc)⟩ rfl rfl hl.1 rfl (lv_room (Nat.le_of_ble_eq_true rfl)) d_W_restrict_8 ⟨Nat.le_of_ble_eq_true rfl, Nat.le_of_ble_eq_true rfl⟩) hS (fun q _ h => hFc q h) hFc (fun q _ h => hFc q h) (fun E ce q9 u t H1 locs ht hvm hp hB hz1 hk1 hS hce hcv hcl => ?_) (fun r u t H1 locs ht hvm hq hB hz1 hk1 hS => ?_)
    · obtain ⟨hE, hP1, hD1⟩ := hB
      rw [ht] at hP1
      obtain ⟨hP, hD⟩ := va_join (wr := [(o, .inl (ca 1, 1, .inr (.inl f)))]) (w1 := wC ca ad u.2) hP hD [1, 2, 3, 4, 5, 6, 7, 8, 9, 10, 11, 12, 13, 14, 15] [0] rfl rfl (by decide) (by decide) hk1 hFc hP1 hD1
      have hP : va_P D cls (wHl ca ad o (u.2, f)) H1 := hP
      have hD : va_D A (wHl ca ad o (u.2, f)) := hD
      obtain ⟨hk, h⟩ := hp
      obtain ⟨k9, u9⟩ := u
      rcases hk with hk | hk | hk | hk <;> (replace hk : k9 = _ := hk; subst hk; replace hE : E = _ := hE; subst hE)
      · refine vx_catch (E := xNm 1) (name := "java/lang/IllegalArgumentException") hown [] (⟨0, 13, 16, 13⟩ : ExceptionTableEntry) [(⟨0, 13, 20, 15⟩ : ExceptionTableEntry), (⟨0, 13, 24, 17⟩ : ExceptionTableEntry), (⟨0, 13, 28, 19⟩ : ExceptionTableEntry)] (by rw [htab]; rfl) (fun z hz => ?_) (by decide) (by decide) (hw _ wd_158) ((hX _ (List.mem_of_getElem? (i := 0) (by rfl))).use rfl) hce hcv hcl ?_
        · cases hz
        · refine lv_astore (lv' := [(8, .ref q9), (0, .ref (ad 0)), (1, .double x1), (3, .double x2), (5, .double x3), (7, .ref o)]) hx hb d_W_restrict_16 hl (by decide) rfl (fun ls hl => ?_)
          refine lv_iconst (v := 1) hx hb d_W_restrict_18 (by decide) ?_
          exact W.iret (v := 1) hx hb hr (fun t ht hW => ⟨⟨1, (u9, f), rfl, h, by rw [ht]; exact hP, hD⟩, hS.F ht⟩) hS.2.2 d_W_restrict_19
      · refine vx_catch (E := xNm 2) (name := "java/util/NoSuchElementException") hown [(⟨0, 13, 16, 13⟩ : ExceptionTableEntry)] (⟨0, 13, 20, 15⟩ : ExceptionTableEntry) [(⟨0, 13, 24, 17⟩ : ExceptionTableEntry), (⟨0, 13, 28, 19⟩ : ExceptionTableEntry)] (by rw [htab]; rfl) (fun z hz => ?_) (by decide) (by decide) (hw _ wd_159) ((hX _ (List.mem_of_getElem? (i := 9) (by rfl))).use rfl) hce hcv hcl ?_
        · simp only [List.mem_cons, List.not_mem_nil, or_false] at hz
          rcases hz with rfl
          · exact Or.inr ⟨by decide, "java/lang/IllegalArgumentException", hw _ wd_158, hC ("java/util/NoSuchElementException", "java/lang/IllegalArgumentException") (List.mem_of_getElem? (i := 0) (by rfl))⟩
        · refine lv_astore (lv' := [(8, .ref q9), (0, .ref (ad 0)), (1, .double x1), (3, .double x2), (5, .double x3), (7, .ref o)]) hx hb d_W_restrict_20 hl (by decide) rfl (fun ls hl => ?_)
          refine lv_iconst (v := 2) hx hb d_W_restrict_22 (by decide) ?_
          exact W.iret (v := 2) hx hb hr (fun t ht hW => ⟨⟨2, (u9, f), rfl, h, by rw [ht]; exact hP, hD⟩, hS.F ht⟩) hS.2.2 d_W_restrict_23
      · refine vx_catch (E := xNm 3) (name := "java/lang/IllegalStateException") hown [(⟨0, 13, 16, 13⟩ : ExceptionTableEntry), (⟨0, 13, 20, 15⟩ : ExceptionTableEntry)] (⟨0, 13, 24, 17⟩ : ExceptionTableEntry) [(⟨0, 13, 28, 19⟩ : ExceptionTableEntry)] (by rw [htab]; rfl) (fun z hz => ?_) (by decide) (by decide) (hw _ wd_160) ((hX _ (List.mem_of_getElem? (i := 7) (by rfl))).use rfl) hce hcv hcl ?_
        · simp only [List.mem_cons, List.not_mem_nil, or_false] at hz
          rcases hz with rfl | rfl
          · exact Or.inr ⟨by decide, "java/lang/IllegalArgumentException", hw _ wd_158, hC ("java/lang/IllegalStateException", "java/lang/IllegalArgumentException") (List.mem_of_getElem? (i := 1) (by rfl))⟩
          · exact Or.inr ⟨by decide, "java/util/NoSuchElementException", hw _ wd_159, hC ("java/lang/IllegalStateException", "java/util/NoSuchElementException") (List.mem_of_getElem? (i := 2) (by rfl))⟩
        · refine lv_astore (lv' := [(8, .ref q9), (0, .ref (ad 0)), (1, .double x1), (3, .double x2), (5, .double x3), (7, .ref o)]) hx hb d_W_restrict_24 hl (by decide) rfl (fun ls hl => ?_)
          refine lv_iconst (v := 3) hx hb d_W_restrict_26 (by decide) ?_
          exact W.iret (v := 3) hx hb hr (fun t ht hW => ⟨⟨3, (u9, f), rfl, h, by rw [ht]; exact hP, hD⟩, hS.F ht⟩) hS.2.2 d_W_restrict_27
      · refine vx_catch (E := xNm 4) (name := "java/lang/UnsupportedOperationException") hown [(⟨0, 13, 16, 13⟩ : ExceptionTableEntry), (⟨0, 13, 20, 15⟩ : ExceptionTableEntry), (⟨0, 13, 24, 17⟩ : ExceptionTableEntry)] (⟨0, 13, 28, 19⟩ : ExceptionTableEntry) [] (by rw [htab]; rfl) (fun z hz => ?_) (by decide) (by decide) (hw _ wd_161) ((hX _ (List.mem_of_getElem? (i := 8) (by rfl))).use rfl) hce hcv hcl ?_
        · simp only [List.mem_cons, List.not_mem_nil, or_false] at hz
          rcases hz with rfl | rfl | rfl
          · exact Or.inr ⟨by decide, "java/lang/IllegalArgumentException", hw _ wd_158, hC ("java/lang/UnsupportedOperationException", "java/lang/IllegalArgumentException") (List.mem_of_getElem? (i := 3) (by rfl))⟩
          · exact Or.inr ⟨by decide, "java/util/NoSuchElementException", hw _ wd_159, hC ("java/lang/UnsupportedOperationException", "java/util/NoSuchElementException") (List.mem_of_getElem? (i := 4) (by rfl))⟩
          · exact Or.inr ⟨by decide, "java/lang/IllegalStateException", hw _ wd_160, hC ("java/lang/UnsupportedOperationException", "java/lang/IllegalStateException") (List.mem_of_getElem? (i := 5) (by rfl))⟩
        · refine lv_astore (lv' := [(8, .ref q9), (0, .ref (ad 0)), (1, .double x1), (3, .double x2), (5, .double x3), (7, .ref o)]) hx hb d_W_restrict_28 hl (by decide) rfl (fun ls hl => ?_)
          refine lv_iconst (v := 4) hx hb d_W_restrict_30 (by decide) ?_
          exact W.iret (v := 4) hx hb hr (fun t ht hW => ⟨⟨4, (u9, f), rfl, h, by rw [ht]; exact hP, hD⟩, hS.F ht⟩) hS.2.2 d_W_restrict_31
    · obtain ⟨hP1, hD1⟩ := hB
      rw [ht] at hP1
      obtain ⟨hP, hD⟩ := va_join (wr := [(o, .inl (ca 1, 1, .inr (.inl f)))]) (w1 := wC ca ad u) hP hD [1, 2, 3, 4, 5, 6, 7, 8, 9, 10, 11, 12, 13, 14, 15] [0] rfl rfl (by decide) (by decide) hk1 hFc hP1 hD1
      have hP : va_P D cls (wHl ca ad o (u, f)) H1 := hP
      have hD : va_D A (wHl ca ad o (u, f)) := hD
      refine lv_i2l (v := r.toInt64) hx hb d_W_restrict_11 rfl ?_
      refine va_last (D := D) hx hb hK hP hD hS 0 1 rfl rfl (by unfold vp_in; decide) d_W_restrict_12 (fun H locs hP hD hS => ?_)
      have hP : va_P D cls (wHl ca ad o (u, vp_updL f 0 r.toInt64)) H := hP
      have hD : va_D A (wHl ca ad o (u, vp_updL f 0 r.toInt64)) := hD
      refine lv_goto (tgt := 32) hx hb d_W_restrict_13 (by decide) ?_
      refine lv_iconst (v := 0) hx hb d_W_restrict_32 (by decide) ?_
      exact W.iret (v := 0) hx hb hr (fun t ht hW => ⟨⟨0, (u, vp_updL f 0 r.toInt64), rfl, hq, by rw [ht]; exact hP, hD⟩, hS.F ht⟩) hS.2.2 d_W_restrict_33
  exact hH9 _ rfl hP hS
theorem d_W_release_0 : decode b_W_release 0 = .ok (.aload_n 2, 1) := by decide +kernel
theorem d_W_release_1 : decode b_W_release 1 = .ok (.iconst 0, 1) := by decide +kernel
theorem d_W_release_2 : decode b_W_release 2 = .ok (.aload_n 0, 1) := by decide +kernel
theorem d_W_release_3 : decode b_W_release 3 = .ok (.iload_n 1, 1) := by decide +kernel
theorem d_W_release_4 : decode b_W_release 4 = .ok (.invokevirtual 25, 3) := by decide +kernel
theorem d_W_release_7 : decode b_W_release 7 = .ok (.i2l, 1) := by decide +kernel
theorem d_W_release_8 : decode b_W_release 8 = .ok (.lastore, 1) := by decide +kernel
theorem d_W_release_9 : decode b_W_release 9 = .ok (.goto 15, 3) := by decide +kernel
theorem d_W_release_12 : decode b_W_release 12 = .ok (.astore_n 3, 1) := by decide +kernel
theorem d_W_release_13 : decode b_W_release 13 = .ok (.iconst 1, 1) := by decide +kernel
theorem d_W_release_14 : decode b_W_release 14 = .ok (.ireturn, 1) := by decide +kernel
theorem d_W_release_15 : decode b_W_release 15 = .ok (.astore_n 3, 1) := by decide +kernel
theorem d_W_release_16 : decode b_W_release 16 = .ok (.iconst 2, 1) := by decide +kernel
theorem d_W_release_17 : decode b_W_release 17 = .ok (.ireturn, 1) := by decide +kernel
theorem d_W_release_18 : decode b_W_release 18 = .ok (.astore_n 3, 1) := by decide +kernel
theorem d_W_release_19 : decode b_W_release 19 = .ok (.iconst 3, 1) := by decide +kernel
theorem d_W_release_20 : decode b_W_release 20 = .ok (.ireturn, 1) := by decide +kernel
theorem d_W_release_21 : decode b_W_release 21 = .ok (.astore_n 3, 1) := by decide +kernel
theorem d_W_release_22 : decode b_W_release 22 = .ok (.iconst 4, 1) := by decide +kernel
theorem d_W_release_23 : decode b_W_release 23 = .ok (.ireturn, 1) := by decide +kernel
theorem d_W_release_24 : decode b_W_release 24 = .ok (.iconst 0, 1) := by decide +kernel
theorem d_W_release_25 : decode b_W_release 25 = .ok (.ireturn, 1) := by decide +kernel
theorem gl_W_25 : ∀ w ∈ wsV "TrainGuardLaw" 25 "TrainGuard" y_G_release (Cond.code y_G_release b_G_release 2 (some Jvm.ClassFile.FieldType.int) :: tG), w ∈ tG := by
  intro x hx
  simp only [wsV, List.cons_append, List.nil_append, List.mem_cons] at hx
  rcases hx with rfl | rfl | rfl | rfl | rfl | hx
  · exact wd_301
  · exact wd_302
  · exact wd_303
  · exact wd_1
  · exact wd_304
  · exact hx
def w_W_release (T : SC × (Nat → Int64)) (x1 : Int32) (Q : Int32 → SC × (Nat → Int64) → Prop) : Prop := w_G_release T.1 x1 (fun r u => Q 0 (u, vp_updL T.2 0 r.toInt64)) (fun k u => (k = 1 ∨ k = 2 ∨ k = 3 ∨ k = 4) ∧ Q (nI k) (u, T.2))
set_option maxRecDepth 100000 in
set_option maxHeartbeats 4000000 in
theorem c_W_release (l : Launch) (hl0 : l.stackTraces = false) (D : va_G) (ca : Nat → ClassId) (ad : Nat → Nat) (o sz : Nat) (T : SC × (Nat → Int64)) (x1 : Int32) (Q : Int32 → SC × (Nat → Int64) → Prop) (h : w_W_release T x1 Q) : Met l y_W_release (Cond.codeWith y_W_release b_W_release 4 (some Jvm.ClassFile.FieldType.int) [(0, 9, 12, 13), (0, 9, 15, 15), (0, 9, 18, 17), (0, 9, 21, 19)] :: tG) ({ frames := 8, cells := 1, slots := 6, locals := 122 } : Room) (xPh D ca (wHl ca ad o) T sz [.ref (ad 0), .int x1, .ref o]) (va_Qi Q (xAt D (wHl ca ad o) (va_A (wHl ca ad o T) sz)) (va_A (wHl ca ad o T) sz)) 1 6 (va_A (wHl ca ad o T) sz) := by
  refine xx_meth (Qf := fun A => va_Qi Q (xAt D (wHl ca ad o) A) A) (by decide) (Nat.le_of_ble_eq_true rfl) ?_
  intro p e s m args below meth c A ls hx hb hr hw hown hlocks hml hK hN hA hP hD hS hl hZ htab hX hC
  have hown : s.vm.findClass "TrainGuardLaw" = some m.cls := hown
  have hl : lv_has ls 4 [(0, .ref (ad 0)), (1, .int x1), (2, .ref o)] := hl
  unfold w_W_release at h
  obtain ⟨S, f⟩ := T
  have hH9 : ∀ H : Heap, H = s.heap → va_P D cls (wHl ca ad o (S, f)) H → va_S A s.heap H [] → W p l e ({ frames := 8, cells := 1, slots := 6, locals := 122 } : Room) s m args below meth c H [] 0 0 (MQ below ((fun A => va_Qi Q (xAt D (wHl ca ad o) A) A) A) args s 1 6 A) (F0 m 0 ls []) := by
    clear hP hS
    intro H hH hP hS
    refine lv_aload_n hx hb d_W_release_0 rfl (lv_at hl 2 rfl) ?_
    refine lv_iconst (v := 0) hx hb d_W_release_1 (by decide) ?_
    refine lv_aload_n hx hb d_W_release_2 rfl (lv_at hl 0 rfl) ?_
    refine lv_iload_n hx hb d_W_release_3 rfl (lv_at hl 1 rfl) ?_
    have hPc := hP.sub (ws' := wC ca ad S) [1, 2, 3, 4, 5, 6, 7, 8, 9, 10, 11, 12, 13, 14, 15] rfl
    have hDc := hD.sub (ws' := wC ca ad S) [1, 2, 3, 4, 5, 6, 7, 8, 9, 10, 11, 12, 13, 14, 15] (by decide) rfl
    have hFc := va_free (wc := wC ca ad S) hD hS hA [1, 2, 3, 4, 5, 6, 7, 8, 9, 10, 11, 12, 13, 14, 15] rfl
    refine vx_calli (vx_runV (As := [.int x1]) (rest := [.int 0, .ref o]) ⟨hx, hb, hml, hown, hw⟩ (c_G_release l hl0 D ca ad H.size S x1 _ _ h) (cwV 1 hw (tG_g gl_W_25) rfl rfl rfl (by decide +kernel) ⟨Nat.le_of_ble_eq_true rfl, Nat.le_of_ble_eq_true rfl⟩) ⟨xPx.blind, va_recv hK hP rfl (q0 := 1) rfl, xPx.pre hK hN hPc hDc hX (hZ.now hS hA hDc)⟩ rfl rfl hl.1 rfl (lv_room (Nat.le_of_ble_eq_true rfl)) d_W_release_4 ⟨Nat.le_of_ble_eq_true rfl, Nat.le_of_ble_eq_true rfl⟩) hS (fun q _ h => hFc q h) hFc (fun q _ h => hFc q h) (fun E ce q9 u t H1 locs ht hvm hp hB hz1 hk1 hS hce hcv hcl => ?_) (fun r u t H1 locs ht hvm hq hB hz1 hk1 hS => ?_)
    · obtain ⟨hE, hP1, hD1⟩ := hB
      rw [ht] at hP1
      obtain ⟨hP, hD⟩ := va_join (wr := [(o, .inl (ca 1, 1, .inr (.inl f)))]) (w1 := wC ca ad u.2) hP hD [1, 2, 3, 4, 5, 6, 7, 8, 9, 10, 11, 12, 13, 14, 15] [0] rfl rfl (by decide) (by decide) hk1 hFc hP1 hD1
      have hP : va_P D cls (wHl ca ad o (u.2, f)) H1 := hP
      have hD : va_D A (wHl ca ad o (u.2, f)) := hD
      obtain ⟨hk, h⟩ := hp
      obtain ⟨k9, u9⟩ := u
      rcases hk with hk | hk | hk | hk <;> (replace hk : k9 = _ := hk; subst hk; replace hE : E = _ := hE; subst hE)
      · refine vx_catch (E := xNm 1) (name := "java/lang/IllegalArgumentException") hown [] (⟨0, 9, 12, 13⟩ : ExceptionTableEntry) [(⟨0, 9, 15, 15⟩ : ExceptionTableEntry), (⟨0, 9, 18, 17⟩ : ExceptionTableEntry), (⟨0, 9, 21, 19⟩ : ExceptionTableEntry)] (by rw [htab]; rfl) (fun z hz => ?_) (by decide) (by decide) (hw _ wd_158) ((hX _ (List.mem_of_getElem? (i := 0) (by rfl))).use rfl) hce hcv hcl ?_
        · cases hz
        · refine lv_astore_n (lv' := [(3, .ref q9), (0, .ref (ad 0)), (1, .int x1), (2, .ref o)]) hx hb d_W_release_12 rfl hl (by decide) rfl (fun ls hl => ?_)
          refine lv_iconst (v := 1) hx hb d_W_release_13 (by decide) ?_
          exact W.iret (v := 1) hx hb hr (fun t ht hW => ⟨⟨1, (u9, f), rfl, h, by rw [ht]; exact hP, hD⟩, hS.F ht⟩) hS.2.2 d_W_release_14
      · refine vx_catch (E := xNm 2) (name := "java/util/NoSuchElementException") hown [(⟨0, 9, 12, 13⟩ : ExceptionTableEntry)] (⟨0, 9, 15, 15⟩ : ExceptionTableEntry) [(⟨0, 9, 18, 17⟩ : ExceptionTableEntry), (⟨0, 9, 21, 19⟩ : ExceptionTableEntry)] (by rw [htab]; rfl) (fun z hz => ?_) (by decide) (by decide) (hw _ wd_159) ((hX _ (List.mem_of_getElem? (i := 9) (by rfl))).use rfl) hce hcv hcl ?_
        · simp only [List.mem_cons, List.not_mem_nil, or_false] at hz
          rcases hz with rfl
          · exact Or.inr ⟨by decide, "java/lang/IllegalArgumentException", hw _ wd_158, hC ("java/util/NoSuchElementException", "java/lang/IllegalArgumentException") (List.mem_of_getElem? (i := 0) (by rfl))⟩
        · refine lv_astore_n (lv' := [(3, .ref q9), (0, .ref (ad 0)), (1, .int x1), (2, .ref o)]) hx hb d_W_release_15 rfl hl (by decide) rfl (fun ls hl => ?_)
          refine lv_iconst (v := 2) hx hb d_W_release_16 (by decide) ?_
          exact W.iret (v := 2) hx hb hr (fun t ht hW => ⟨⟨2, (u9, f), rfl, h, by rw [ht]; exact hP, hD⟩, hS.F ht⟩) hS.2.2 d_W_release_17
      · refine vx_catch (E := xNm 3) (name := "java/lang/IllegalStateException") hown [(⟨0, 9, 12, 13⟩ : ExceptionTableEntry), (⟨0, 9, 15, 15⟩ : ExceptionTableEntry)] (⟨0, 9, 18, 17⟩ : ExceptionTableEntry) [(⟨0, 9, 21, 19⟩ : ExceptionTableEntry)] (by rw [htab]; rfl) (fun z hz => ?_) (by decide) (by decide) (hw _ wd_160) ((hX _ (List.mem_of_getElem? (i := 7) (by rfl))).use rfl) hce hcv hcl ?_
        · simp only [List.mem_cons, List.not_mem_nil, or_false] at hz
          rcases hz with rfl | rfl
          · exact Or.inr ⟨by decide, "java/lang/IllegalArgumentException", hw _ wd_158, hC ("java/lang/IllegalStateException", "java/lang/IllegalArgumentException") (List.mem_of_getElem? (i := 1) (by rfl))⟩
          · exact Or.inr ⟨by decide, "java/util/NoSuchElementException", hw _ wd_159, hC ("java/lang/IllegalStateException", "java/util/NoSuchElementException") (List.mem_of_getElem? (i := 2) (by rfl))⟩
        · refine lv_astore_n (lv' := [(3, .ref q9), (0, .ref (ad 0)), (1, .int x1), (2, .ref o)]) hx hb d_W_release_18 rfl hl (by decide) rfl (fun ls hl => ?_)
          refine lv_iconst (v := 3) hx hb d_W_release_19 (by decide) ?_
          exact W.iret (v := 3) hx hb hr (fun t ht hW => ⟨⟨3, (u9, f), rfl, h, by rw [ht]; exact hP, hD⟩, hS.F ht⟩) hS.2.2 d_W_release_20
      · refine vx_catch (E := xNm 4) (name := "java/lang/UnsupportedOperationException") hown [(⟨0, 9, 12, 13⟩ : ExceptionTableEntry), (⟨0, 9, 15, 15⟩ : ExceptionTableEntry), (⟨0, 9, 18, 17⟩ : ExceptionTableEntry)] (⟨0, 9, 21, 19⟩ : ExceptionTableEntry) [] (by rw [htab]; rfl) (fun z hz => ?_) (by decide) (by decide) (hw _ wd_161) ((hX _ (List.mem_of_getElem? (i := 8) (by rfl))).use rfl) hce hcv hcl ?_
        · simp only [List.mem_cons, List.not_mem_nil, or_false] at hz
          rcases hz with rfl | rfl | rfl
          · exact Or.inr ⟨by decide, "java/lang/IllegalArgumentException", hw _ wd_158, hC ("java/lang/UnsupportedOperationException", "java/lang/IllegalArgumentException") (List.mem_of_getElem? (i := 3) (by rfl))⟩
          · exact Or.inr ⟨by decide, "java/util/NoSuchElementException", hw _ wd_159, hC ("java/lang/UnsupportedOperationException", "java/util/NoSuchElementException") (List.mem_of_getElem? (i := 4) (by rfl))⟩
          · exact Or.inr ⟨by decide, "java/lang/IllegalStateException", hw _ wd_160, hC ("java/lang/UnsupportedOperationException", "java/lang/IllegalStateException") (List.mem_of_getElem? (i := 5) (by rfl))⟩
        · refine lv_astore_n (lv' := [(3, .ref q9), (0, .ref (ad 0)), (1, .int x1), (2, .ref o)]) hx hb d_W_release_21 rfl hl (by decide) rfl (fun ls hl => ?_)
          refine lv_iconst (v := 4) hx hb d_W_release_22 (by decide) ?_
          exact W.iret (v := 4) hx hb hr (fun t ht hW => ⟨⟨4, (u9, f), rfl, h, by rw [ht]; exact hP, hD⟩, hS.F ht⟩) hS.2.2 d_W_release_23
    · obtain ⟨hP1, hD1⟩ := hB
      rw [ht] at hP1
      obtain ⟨hP, hD⟩ := va_join (wr := [(o, .inl (ca 1, 1, .inr (.inl f)))]) (w1 := wC ca ad u) hP hD [1, 2, 3, 4, 5, 6, 7, 8, 9, 10, 11, 12, 13, 14, 15] [0] rfl rfl (by decide) (by decide) hk1 hFc hP1 hD1
      have hP : va_P D cls (wHl ca ad o (u, f)) H1 := hP
      have hD : va_D A (wHl ca ad o (u, f)) := hD
      refine lv_i2l (v := r.toInt64) hx hb d_W_release_7 rfl ?_
      refine va_last (D := D) hx hb hK hP hD hS 0 1 rfl rfl (by unfold vp_in; decide) d_W_release_8 (fun H locs hP hD hS => ?_)
      have hP : va_P D cls (wHl ca ad o (u, vp_updL f 0 r.toInt64)) H := hP
      have hD : va_D A (wHl ca ad o (u, vp_updL f 0 r.toInt64)) := hD
      refine lv_goto (tgt := 24) hx hb d_W_release_9 (by decide) ?_
      refine lv_iconst (v := 0) hx hb d_W_release_24 (by decide) ?_
      exact W.iret (v := 0) hx hb hr (fun t ht hW => ⟨⟨0, (u, vp_updL f 0 r.toInt64), rfl, hq, by rw [ht]; exact hP, hD⟩, hS.F ht⟩) hS.2.2 d_W_release_25
  exact hH9 _ rfl hP hS
theorem d_W_train_0 : decode b_W_train 0 = .ok (.aload 6, 2) := by decide +kernel
theorem d_W_train_2 : decode b_W_train 2 = .ok (.iconst 0, 1) := by decide +kernel
theorem d_W_train_3 : decode b_W_train 3 = .ok (.aload_n 0, 1) := by decide +kernel
theorem d_W_train_4 : decode b_W_train 4 = .ok (.iload_n 1, 1) := by decide +kernel
theorem d_W_train_5 : decode b_W_train 5 = .ok (.dload_n 2, 1) := by decide +kernel
theorem d_W_train_6 : decode b_W_train 6 = .ok (.dload 4, 2) := by decide +kernel
theorem d_W_train_8 : decode b_W_train 8 = .ok (.invokevirtual 29, 3) := by decide +kernel
theorem d_W_train_11 : decode b_W_train 11 = .ok (.i2l, 1) := by decide +kernel
theorem d_W_train_12 : decode b_W_train 12 = .ok (.lastore, 1) := by decide +kernel
theorem d_W_train_13 : decode b_W_train 13 = .ok (.goto 19, 3) := by decide +kernel
theorem d_W_train_16 : decode b_W_train 16 = .ok (.astore 7, 2) := by decide +kernel
theorem d_W_train_18 : decode b_W_train 18 = .ok (.iconst 1, 1) := by decide +kernel
theorem d_W_train_19 : decode b_W_train 19 = .ok (.ireturn, 1) := by decide +kernel
theorem d_W_train_20 : decode b_W_train 20 = .ok (.astore 7, 2) := by decide +kernel
theorem d_W_train_22 : decode b_W_train 22 = .ok (.iconst 2, 1) := by decide +kernel
theorem d_W_train_23 : decode b_W_train 23 = .ok (.ireturn, 1) := by decide +kernel
theorem d_W_train_24 : decode b_W_train 24 = .ok (.astore 7, 2) := by decide +kernel
theorem d_W_train_26 : decode b_W_train 26 = .ok (.iconst 3, 1) := by decide +kernel
theorem d_W_train_27 : decode b_W_train 27 = .ok (.ireturn, 1) := by decide +kernel
theorem d_W_train_28 : decode b_W_train 28 = .ok (.astore 7, 2) := by decide +kernel
theorem d_W_train_30 : decode b_W_train 30 = .ok (.iconst 4, 1) := by decide +kernel
theorem d_W_train_31 : decode b_W_train 31 = .ok (.ireturn, 1) := by decide +kernel
theorem d_W_train_32 : decode b_W_train 32 = .ok (.iconst 0, 1) := by decide +kernel
theorem d_W_train_33 : decode b_W_train 33 = .ok (.ireturn, 1) := by decide +kernel
theorem gl_W_29 : ∀ w ∈ wsV "TrainGuardLaw" 29 "TrainGuard" y_G_train (Cond.code y_G_train b_G_train 7 (some Jvm.ClassFile.FieldType.int) :: tG), w ∈ tG := by
  intro x hx
  simp only [wsV, List.cons_append, List.nil_append, List.mem_cons] at hx
  rcases hx with rfl | rfl | rfl | rfl | rfl | hx
  · exact wd_312
  · exact wd_313
  · exact wd_314
  · exact wd_1
  · exact wd_315
  · exact hx
def w_W_train (T : SC × (Nat → Int64)) (x1 : Int32) (x2 : UInt64) (x3 : UInt64) (Q : Int32 → SC × (Nat → Int64) → Prop) : Prop := w_G_train T.1 x1 x2 x3 (fun r u => Q 0 (u, vp_updL T.2 0 r.toInt64)) (fun k u => (k = 1 ∨ k = 2 ∨ k = 3 ∨ k = 4) ∧ Q (nI k) (u, T.2))
set_option maxRecDepth 100000 in
set_option maxHeartbeats 4000000 in
theorem c_W_train (l : Launch) (hl0 : l.stackTraces = false) (D : va_G) (ca : Nat → ClassId) (ad : Nat → Nat) (o sz : Nat) (T : SC × (Nat → Int64)) (x1 : Int32) (x2 : UInt64) (x3 : UInt64) (Q : Int32 → SC × (Nat → Int64) → Prop) (h : w_W_train T x1 x2 x3 Q) : Met l y_W_train (Cond.codeWith y_W_train b_W_train 8 (some Jvm.ClassFile.FieldType.int) [(0, 13, 16, 13), (0, 13, 20, 15), (0, 13, 24, 17), (0, 13, 28, 19)] :: tG) ({ frames := 8, cells := 1, slots := 6, locals := 127 } : Room) (xPh D ca (wHl ca ad o) T sz [.ref (ad 0), .int x1, .double x2, .double x3, .ref o]) (va_Qi Q (xAt D (wHl ca ad o) (va_A (wHl ca ad o T) sz)) (va_A (wHl ca ad o T) sz)) 1 6 (va_A (wHl ca ad o T) sz) := by
  refine xx_meth (Qf := fun A => va_Qi Q (xAt D (wHl ca ad o) A) A) (by decide) (Nat.le_of_ble_eq_true rfl) ?_
  intro p e s m args below meth c A ls hx hb hr hw hown hlocks hml hK hN hA hP hD hS hl hZ htab hX hC
  have hown : s.vm.findClass "TrainGuardLaw" = some m.cls := hown
  have hl : lv_has ls 8 [(0, .ref (ad 0)), (1, .int x1), (2, .double x2), (4, .double x3), (6, .ref o)] := hl
  unfold w_W_train at h
  obtain ⟨S, f⟩ := T
  have hH9 : ∀ H : Heap, H = s.heap → va_P D cls (wHl ca ad o (S, f)) H → va_S A s.heap H [] → W p l e ({ frames := 8, cells := 1, slots := 6, locals := 127 } : Room) s m args below meth c H [] 0 0 (MQ below ((fun A => va_Qi Q (xAt D (wHl ca ad o) A) A) A) args s 1 6 A) (F0 m 0 ls []) := by
    clear hP hS
    intro H hH hP hS
    refine lv_aload hx hb d_W_train_0 (lv_at hl 4 rfl) ?_
    refine lv_iconst (v := 0) hx hb d_W_train_2 (by decide) ?_
    refine lv_aload_n hx hb d_W_train_3 rfl (lv_at hl 0 rfl) ?_
    refine lv_iload_n hx hb d_W_train_4 rfl (lv_at hl 1 rfl) ?_
    refine lv_dload_n hx hb d_W_train_5 rfl (lv_at hl 2 rfl) ?_
    refine lv_dload hx hb d_W_train_6 (lv_at hl 3 rfl) ?_
    have hPc := hP.sub (ws' := wC ca ad S) [1, 2, 3, 4, 5, 6, 7, 8, 9, 10, 11, 12, 13, 14, 15] rfl
    have hDc := hD.sub (ws' := wC ca ad S) [1, 2, 3, 4, 5, 6, 7, 8, 9, 10, 11, 12, 13, 14, 15] (by decide) rfl
    have hFc := va_free (wc := wC ca ad S) hD hS hA [1, 2, 3, 4, 5, 6, 7, 8, 9, 10, 11, 12, 13, 14, 15] rfl
    refine vx_calli (vx_runV (As := [.int x1, .double x2, .double x3]) (rest := [.int 0, .ref o]) ⟨hx, hb, hml, hown, hw⟩ (c_G_train l hl0 D ca ad H.size S x1 x2 x3 _ _ h) (cwV 3 hw (tG_g gl_W_29) rfl rfl rfl (by decide +kernel) ⟨Nat.le_of_ble_eq_true rfl, Nat.le_of_ble_eq_true rfl⟩) ⟨xPx.blind, va_recv hK hP rfl (q0 := 1) rfl, xPx.pre hK hN hPc hDc hX (hZ.now hS hA hDc)⟩ rfl rfl hl.1 rfl (lv_room (Nat.le_of_ble_eq_true rfl)) d_W_train_8 ⟨Nat.le_of_ble_eq_true rfl, Nat.le_of_ble_eq_true rfl⟩) hS (fun q _ h => hFc q h) hFc (fun q _ h => hFc q h) (fun E ce q9 u t H1 locs ht hvm hp hB hz1 hk1 hS hce hcv hcl => ?_) (fun r u t H1 locs ht hvm hq hB hz1 hk1 hS => ?_)
    · obtain ⟨hE, hP1, hD1⟩ := hB
      rw [ht] at hP1
      obtain ⟨hP, hD⟩ := va_join (wr := [(o, .inl (ca 1, 1, .inr (.inl f)))]) (w1 := wC ca ad u.2) hP hD [1, 2, 3, 4, 5, 6, 7, 8, 9, 10, 11, 12, 13, 14, 15] [0] rfl rfl (by decide) (by decide) hk1 hFc hP1 hD1
      have hP : va_P D cls (wHl ca ad o (u.2, f)) H1 := hP
      have hD : va_D A (wHl ca ad o (u.2, f)) := hD
      obtain ⟨hk, h⟩ := hp
      obtain ⟨k9, u9⟩ := u
      rcases hk with hk | hk | hk | hk <;> (replace hk : k9 = _ := hk; subst hk; replace hE : E = _ := hE; subst hE)
      · refine vx_catch (E := xNm 1) (name := "java/lang/IllegalArgumentException") hown [] (⟨0, 13, 16, 13⟩ : ExceptionTableEntry) [(⟨0, 13, 20, 15⟩ : ExceptionTableEntry), (⟨0, 13, 24, 17⟩ : ExceptionTableEntry), (⟨0, 13, 28, 19⟩ : ExceptionTableEntry)] (by rw [htab]; rfl) (fun z hz => ?_) (by decide) (by decide) (hw _ wd_158) ((hX _ (List.mem_of_getElem? (i := 0) (by rfl))).use rfl) hce hcv hcl ?_
        · cases hz
        · refine lv_astore (lv' := [(7, .ref q9), (0, .ref (ad 0)), (1, .int x1), (2, .double x2), (4, .double x3), (6, .ref o)]) hx hb d_W_train_16 hl (by decide) rfl (fun ls hl => ?_)
          refine lv_iconst (v := 1) hx hb d_W_train_18 (by decide) ?_
          exact W.iret (v := 1) hx hb hr (fun t ht hW => ⟨⟨1, (u9, f), rfl, h, by rw [ht]; exact hP, hD⟩, hS.F ht⟩) hS.2.2 d_W_train_19
      · refine vx_catch (E := xNm 2) (name := "java/util/NoSuchElementException") hown [(⟨0, 13, 16, 13⟩ : ExceptionTableEntry)] (⟨0, 13, 20, 15⟩ : ExceptionTableEntry) [(⟨0, 13, 24, 17⟩ : ExceptionTableEntry), (⟨0, 13, 28, 19⟩ : ExceptionTableEntry)] (by rw [htab]; rfl) (fun z hz => ?_) (by decide) (by decide) (hw _ wd_159) ((hX _ (List.mem_of_getElem? (i := 9) (by rfl))).use rfl) hce hcv hcl ?_
        · simp only [List.mem_cons, List.not_mem_nil, or_false] at hz
          rcases hz with rfl
          · exact Or.inr ⟨by decide, "java/lang/IllegalArgumentException", hw _ wd_158, hC ("java/util/NoSuchElementException", "java/lang/IllegalArgumentException") (List.mem_of_getElem? (i := 0) (by rfl))⟩
        · refine lv_astore (lv' := [(7, .ref q9), (0, .ref (ad 0)), (1, .int x1), (2, .double x2), (4, .double x3), (6, .ref o)]) hx hb d_W_train_20 hl (by decide) rfl (fun ls hl => ?_)
          refine lv_iconst (v := 2) hx hb d_W_train_22 (by decide) ?_
          exact W.iret (v := 2) hx hb hr (fun t ht hW => ⟨⟨2, (u9, f), rfl, h, by rw [ht]; exact hP, hD⟩, hS.F ht⟩) hS.2.2 d_W_train_23
      · refine vx_catch (E := xNm 3) (name := "java/lang/IllegalStateException") hown [(⟨0, 13, 16, 13⟩ : ExceptionTableEntry), (⟨0, 13, 20, 15⟩ : ExceptionTableEntry)] (⟨0, 13, 24, 17⟩ : ExceptionTableEntry) [(⟨0, 13, 28, 19⟩ : ExceptionTableEntry)] (by rw [htab]; rfl) (fun z hz => ?_) (by decide) (by decide) (hw _ wd_160) ((hX _ (List.mem_of_getElem? (i := 7) (by rfl))).use rfl) hce hcv hcl ?_
        · simp only [List.mem_cons, List.not_mem_nil, or_false] at hz
          rcases hz with rfl | rfl
          · exact Or.inr ⟨by decide, "java/lang/IllegalArgumentException", hw _ wd_158, hC ("java/lang/IllegalStateException", "java/lang/IllegalArgumentException") (List.mem_of_getElem? (i := 1) (by rfl))⟩
          · exact Or.inr ⟨by decide, "java/util/NoSuchElementException", hw _ wd_159, hC ("java/lang/IllegalStateException", "java/util/NoSuchElementException") (List.mem_of_getElem? (i := 2) (by rfl))⟩
        · refine lv_astore (lv' := [(7, .ref q9), (0, .ref (ad 0)), (1, .int x1), (2, .double x2), (4, .double x3), (6, .ref o)]) hx hb d_W_train_24 hl (by decide) rfl (fun ls hl => ?_)
          refine lv_iconst (v := 3) hx hb d_W_train_26 (by decide) ?_
          exact W.iret (v := 3) hx hb hr (fun t ht hW => ⟨⟨3, (u9, f), rfl, h, by rw [ht]; exact hP, hD⟩, hS.F ht⟩) hS.2.2 d_W_train_27
      · refine vx_catch (E := xNm 4) (name := "java/lang/UnsupportedOperationException") hown [(⟨0, 13, 16, 13⟩ : ExceptionTableEntry), (⟨0, 13, 20, 15⟩ : ExceptionTableEntry), (⟨0, 13, 24, 17⟩ : ExceptionTableEntry)] (⟨0, 13, 28, 19⟩ : ExceptionTableEntry) [] (by rw [htab]; rfl) (fun z hz => ?_) (by decide) (by decide) (hw _ wd_161) ((hX _ (List.mem_of_getElem? (i := 8) (by rfl))).use rfl) hce hcv hcl ?_
        · simp only [List.mem_cons, List.not_mem_nil, or_false] at hz
          rcases hz with rfl | rfl | rfl
          · exact Or.inr ⟨by decide, "java/lang/IllegalArgumentException", hw _ wd_158, hC ("java/lang/UnsupportedOperationException", "java/lang/IllegalArgumentException") (List.mem_of_getElem? (i := 3) (by rfl))⟩
          · exact Or.inr ⟨by decide, "java/util/NoSuchElementException", hw _ wd_159, hC ("java/lang/UnsupportedOperationException", "java/util/NoSuchElementException") (List.mem_of_getElem? (i := 4) (by rfl))⟩
          · exact Or.inr ⟨by decide, "java/lang/IllegalStateException", hw _ wd_160, hC ("java/lang/UnsupportedOperationException", "java/lang/IllegalStateException") (List.mem_of_getElem? (i := 5) (by rfl))⟩
        · refine lv_astore (lv' := [(7, .ref q9), (0, .ref (ad 0)), (1, .int x1), (2, .double x2), (4, .double x3), (6, .ref o)]) hx hb d_W_train_28 hl (by decide) rfl (fun ls hl => ?_)
          refine lv_iconst (v := 4) hx hb d_W_train_30 (by decide) ?_
          exact W.iret (v := 4) hx hb hr (fun t ht hW => ⟨⟨4, (u9, f), rfl, h, by rw [ht]; exact hP, hD⟩, hS.F ht⟩) hS.2.2 d_W_train_31
    · obtain ⟨hP1, hD1⟩ := hB
      rw [ht] at hP1
      obtain ⟨hP, hD⟩ := va_join (wr := [(o, .inl (ca 1, 1, .inr (.inl f)))]) (w1 := wC ca ad u) hP hD [1, 2, 3, 4, 5, 6, 7, 8, 9, 10, 11, 12, 13, 14, 15] [0] rfl rfl (by decide) (by decide) hk1 hFc hP1 hD1
      have hP : va_P D cls (wHl ca ad o (u, f)) H1 := hP
      have hD : va_D A (wHl ca ad o (u, f)) := hD
      refine lv_i2l (v := r.toInt64) hx hb d_W_train_11 rfl ?_
      refine va_last (D := D) hx hb hK hP hD hS 0 1 rfl rfl (by unfold vp_in; decide) d_W_train_12 (fun H locs hP hD hS => ?_)
      have hP : va_P D cls (wHl ca ad o (u, vp_updL f 0 r.toInt64)) H := hP
      have hD : va_D A (wHl ca ad o (u, vp_updL f 0 r.toInt64)) := hD
      refine lv_goto (tgt := 32) hx hb d_W_train_13 (by decide) ?_
      refine lv_iconst (v := 0) hx hb d_W_train_32 (by decide) ?_
      exact W.iret (v := 0) hx hb hr (fun t ht hW => ⟨⟨0, (u, vp_updL f 0 r.toInt64), rfl, hq, by rw [ht]; exact hP, hD⟩, hS.F ht⟩) hS.2.2 d_W_train_33
  exact hH9 _ rfl hP hS
theorem d_W_start_0 : decode b_W_start 0 = .ok (.aload_n 2, 1) := by decide +kernel
theorem d_W_start_1 : decode b_W_start 1 = .ok (.iconst 0, 1) := by decide +kernel
theorem d_W_start_2 : decode b_W_start 2 = .ok (.aload_n 0, 1) := by decide +kernel
theorem d_W_start_3 : decode b_W_start 3 = .ok (.iload_n 1, 1) := by decide +kernel
theorem d_W_start_4 : decode b_W_start 4 = .ok (.invokevirtual 33, 3) := by decide +kernel
theorem d_W_start_7 : decode b_W_start 7 = .ok (.i2l, 1) := by decide +kernel
theorem d_W_start_8 : decode b_W_start 8 = .ok (.lastore, 1) := by decide +kernel
theorem d_W_start_9 : decode b_W_start 9 = .ok (.goto 15, 3) := by decide +kernel
theorem d_W_start_12 : decode b_W_start 12 = .ok (.astore_n 3, 1) := by decide +kernel
theorem d_W_start_13 : decode b_W_start 13 = .ok (.iconst 1, 1) := by decide +kernel
theorem d_W_start_14 : decode b_W_start 14 = .ok (.ireturn, 1) := by decide +kernel
theorem d_W_start_15 : decode b_W_start 15 = .ok (.astore_n 3, 1) := by decide +kernel
theorem d_W_start_16 : decode b_W_start 16 = .ok (.iconst 2, 1) := by decide +kernel
theorem d_W_start_17 : decode b_W_start 17 = .ok (.ireturn, 1) := by decide +kernel
theorem d_W_start_18 : decode b_W_start 18 = .ok (.astore_n 3, 1) := by decide +kernel
theorem d_W_start_19 : decode b_W_start 19 = .ok (.iconst 3, 1) := by decide +kernel
theorem d_W_start_20 : decode b_W_start 20 = .ok (.ireturn, 1) := by decide +kernel
theorem d_W_start_21 : decode b_W_start 21 = .ok (.astore_n 3, 1) := by decide +kernel
theorem d_W_start_22 : decode b_W_start 22 = .ok (.iconst 4, 1) := by decide +kernel
theorem d_W_start_23 : decode b_W_start 23 = .ok (.ireturn, 1) := by decide +kernel
theorem d_W_start_24 : decode b_W_start 24 = .ok (.iconst 0, 1) := by decide +kernel
theorem d_W_start_25 : decode b_W_start 25 = .ok (.ireturn, 1) := by decide +kernel
theorem gl_W_33 : ∀ w ∈ wsV "TrainGuardLaw" 33 "TrainGuard" y_G_start (Cond.code y_G_start b_G_start 3 (some Jvm.ClassFile.FieldType.int) :: tG), w ∈ tG := by
  intro x hx
  simp only [wsV, List.cons_append, List.nil_append, List.mem_cons] at hx
  rcases hx with rfl | rfl | rfl | rfl | rfl | hx
  · exact wd_360
  · exact wd_361
  · exact wd_362
  · exact wd_1
  · exact wd_363
  · exact hx
def w_W_start (T : SC × (Nat → Int64)) (x1 : Int32) (Q : Int32 → SC × (Nat → Int64) → Prop) : Prop := w_G_start T.1 x1 (fun r u => Q 0 (u, vp_updL T.2 0 r.toInt64)) (fun k u => (k = 1 ∨ k = 2 ∨ k = 3 ∨ k = 4) ∧ Q (nI k) (u, T.2))
set_option maxRecDepth 100000 in
set_option maxHeartbeats 4000000 in
theorem c_W_start (l : Launch) (hl0 : l.stackTraces = false) (D : va_G) (ca : Nat → ClassId) (ad : Nat → Nat) (o sz : Nat) (T : SC × (Nat → Int64)) (x1 : Int32) (Q : Int32 → SC × (Nat → Int64) → Prop) (h : w_W_start T x1 Q) : Met l y_W_start (Cond.codeWith y_W_start b_W_start 4 (some Jvm.ClassFile.FieldType.int) [(0, 9, 12, 13), (0, 9, 15, 15), (0, 9, 18, 17), (0, 9, 21, 19)] :: tG) ({ frames := 9, cells := 2, slots := 12, locals := 160 } : Room) (xPh D ca (wHl ca ad o) T sz [.ref (ad 0), .int x1, .ref o]) (va_Qi Q (xAt D (wHl ca ad o) (va_A (wHl ca ad o T) sz)) (va_A (wHl ca ad o T) sz)) 2 12 (va_A (wHl ca ad o T) sz) := by
  refine xx_meth (Qf := fun A => va_Qi Q (xAt D (wHl ca ad o) A) A) (by decide) (Nat.le_of_ble_eq_true rfl) ?_
  intro p e s m args below meth c A ls hx hb hr hw hown hlocks hml hK hN hA hP hD hS hl hZ htab hX hC
  have hown : s.vm.findClass "TrainGuardLaw" = some m.cls := hown
  have hl : lv_has ls 4 [(0, .ref (ad 0)), (1, .int x1), (2, .ref o)] := hl
  unfold w_W_start at h
  obtain ⟨S, f⟩ := T
  have hH9 : ∀ H : Heap, H = s.heap → va_P D cls (wHl ca ad o (S, f)) H → va_S A s.heap H [] → W p l e ({ frames := 9, cells := 2, slots := 12, locals := 160 } : Room) s m args below meth c H [] 0 0 (MQ below ((fun A => va_Qi Q (xAt D (wHl ca ad o) A) A) A) args s 2 12 A) (F0 m 0 ls []) := by
    clear hP hS
    intro H hH hP hS
    refine lv_aload_n hx hb d_W_start_0 rfl (lv_at hl 2 rfl) ?_
    refine lv_iconst (v := 0) hx hb d_W_start_1 (by decide) ?_
    refine lv_aload_n hx hb d_W_start_2 rfl (lv_at hl 0 rfl) ?_
    refine lv_iload_n hx hb d_W_start_3 rfl (lv_at hl 1 rfl) ?_
    have hPc := hP.sub (ws' := wC ca ad S) [1, 2, 3, 4, 5, 6, 7, 8, 9, 10, 11, 12, 13, 14, 15] rfl
    have hDc := hD.sub (ws' := wC ca ad S) [1, 2, 3, 4, 5, 6, 7, 8, 9, 10, 11, 12, 13, 14, 15] (by decide) rfl
    have hFc := va_free (wc := wC ca ad S) hD hS hA [1, 2, 3, 4, 5, 6, 7, 8, 9, 10, 11, 12, 13, 14, 15] rfl
    refine vx_calli (vx_runV (As := [.int x1]) (rest := [.int 0, .ref o]) ⟨hx, hb, hml, hown, hw⟩ (c_G_start l hl0 D ca ad H.size S x1 _ _ h) (cwV 1 hw (tG_g gl_W_33) rfl rfl rfl (by decide +kernel) ⟨Nat.le_of_ble_eq_true rfl, Nat.le_of_ble_eq_true rfl⟩) ⟨xPx.blind, va_recv hK hP rfl (q0 := 1) rfl, xPx.pre hK hN hPc hDc hX (hZ.now hS hA hDc)⟩ rfl rfl hl.1 rfl (lv_room (Nat.le_of_ble_eq_true rfl)) d_W_start_4 ⟨Nat.le_of_ble_eq_true rfl, Nat.le_of_ble_eq_true rfl⟩) hS (fun q _ h => hFc q h) hFc (fun q _ h => hFc q h) (fun E ce q9 u t H1 locs ht hvm hp hB hz1 hk1 hS hce hcv hcl => ?_) (fun r u t H1 locs ht hvm hq hB hz1 hk1 hS => ?_)
    · obtain ⟨hE, hP1, hD1⟩ := hB
      rw [ht] at hP1
      obtain ⟨hP, hD⟩ := va_join (wr := [(o, .inl (ca 1, 1, .inr (.inl f)))]) (w1 := wC ca ad u.2) hP hD [1, 2, 3, 4, 5, 6, 7, 8, 9, 10, 11, 12, 13, 14, 15] [0] rfl rfl (by decide) (by decide) hk1 hFc hP1 hD1
      have hP : va_P D cls (wHl ca ad o (u.2, f)) H1 := hP
      have hD : va_D A (wHl ca ad o (u.2, f)) := hD
      obtain ⟨hk, h⟩ := hp
      obtain ⟨k9, u9⟩ := u
      rcases hk with hk | hk | hk | hk <;> (replace hk : k9 = _ := hk; subst hk; replace hE : E = _ := hE; subst hE)
      · refine vx_catch (E := xNm 1) (name := "java/lang/IllegalArgumentException") hown [] (⟨0, 9, 12, 13⟩ : ExceptionTableEntry) [(⟨0, 9, 15, 15⟩ : ExceptionTableEntry), (⟨0, 9, 18, 17⟩ : ExceptionTableEntry), (⟨0, 9, 21, 19⟩ : ExceptionTableEntry)] (by rw [htab]; rfl) (fun z hz => ?_) (by decide) (by decide) (hw _ wd_158) ((hX _ (List.mem_of_getElem? (i := 0) (by rfl))).use rfl) hce hcv hcl ?_
        · cases hz
        · refine lv_astore_n (lv' := [(3, .ref q9), (0, .ref (ad 0)), (1, .int x1), (2, .ref o)]) hx hb d_W_start_12 rfl hl (by decide) rfl (fun ls hl => ?_)
          refine lv_iconst (v := 1) hx hb d_W_start_13 (by decide) ?_
          exact W.iret (v := 1) hx hb hr (fun t ht hW => ⟨⟨1, (u9, f), rfl, h, by rw [ht]; exact hP, hD⟩, hS.F ht⟩) hS.2.2 d_W_start_14
      · refine vx_catch (E := xNm 2) (name := "java/util/NoSuchElementException") hown [(⟨0, 9, 12, 13⟩ : ExceptionTableEntry)] (⟨0, 9, 15, 15⟩ : ExceptionTableEntry) [(⟨0, 9, 18, 17⟩ : ExceptionTableEntry), (⟨0, 9, 21, 19⟩ : ExceptionTableEntry)] (by rw [htab]; rfl) (fun z hz => ?_) (by decide) (by decide) (hw _ wd_159) ((hX _ (List.mem_of_getElem? (i := 9) (by rfl))).use rfl) hce hcv hcl ?_
        · simp only [List.mem_cons, List.not_mem_nil, or_false] at hz
          rcases hz with rfl
          · exact Or.inr ⟨by decide, "java/lang/IllegalArgumentException", hw _ wd_158, hC ("java/util/NoSuchElementException", "java/lang/IllegalArgumentException") (List.mem_of_getElem? (i := 0) (by rfl))⟩
        · refine lv_astore_n (lv' := [(3, .ref q9), (0, .ref (ad 0)), (1, .int x1), (2, .ref o)]) hx hb d_W_start_15 rfl hl (by decide) rfl (fun ls hl => ?_)
          refine lv_iconst (v := 2) hx hb d_W_start_16 (by decide) ?_
          exact W.iret (v := 2) hx hb hr (fun t ht hW => ⟨⟨2, (u9, f), rfl, h, by rw [ht]; exact hP, hD⟩, hS.F ht⟩) hS.2.2 d_W_start_17
      · refine vx_catch (E := xNm 3) (name := "java/lang/IllegalStateException") hown [(⟨0, 9, 12, 13⟩ : ExceptionTableEntry), (⟨0, 9, 15, 15⟩ : ExceptionTableEntry)] (⟨0, 9, 18, 17⟩ : ExceptionTableEntry) [(⟨0, 9, 21, 19⟩ : ExceptionTableEntry)] (by rw [htab]; rfl) (fun z hz => ?_) (by decide) (by decide) (hw _ wd_160) ((hX _ (List.mem_of_getElem? (i := 7) (by rfl))).use rfl) hce hcv hcl ?_
        · simp only [List.mem_cons, List.not_mem_nil, or_false] at hz
          rcases hz with rfl | rfl
          · exact Or.inr ⟨by decide, "java/lang/IllegalArgumentException", hw _ wd_158, hC ("java/lang/IllegalStateException", "java/lang/IllegalArgumentException") (List.mem_of_getElem? (i := 1) (by rfl))⟩
          · exact Or.inr ⟨by decide, "java/util/NoSuchElementException", hw _ wd_159, hC ("java/lang/IllegalStateException", "java/util/NoSuchElementException") (List.mem_of_getElem? (i := 2) (by rfl))⟩
        · refine lv_astore_n (lv' := [(3, .ref q9), (0, .ref (ad 0)), (1, .int x1), (2, .ref o)]) hx hb d_W_start_18 rfl hl (by decide) rfl (fun ls hl => ?_)
          refine lv_iconst (v := 3) hx hb d_W_start_19 (by decide) ?_
          exact W.iret (v := 3) hx hb hr (fun t ht hW => ⟨⟨3, (u9, f), rfl, h, by rw [ht]; exact hP, hD⟩, hS.F ht⟩) hS.2.2 d_W_start_20
      · refine vx_catch (E := xNm 4) (name := "java/lang/UnsupportedOperationException") hown [(⟨0, 9, 12, 13⟩ : ExceptionTableEntry), (⟨0, 9, 15, 15⟩ : ExceptionTableEntry), (⟨0, 9, 18, 17⟩ : ExceptionTableEntry)] (⟨0, 9, 21, 19⟩ : ExceptionTableEntry) [] (by rw [htab]; rfl) (fun z hz => ?_) (by decide) (by decide) (hw _ wd_161) ((hX _ (List.mem_of_getElem? (i := 8) (by rfl))).use rfl) hce hcv hcl ?_
        · simp only [List.mem_cons, List.not_mem_nil, or_false] at hz
          rcases hz with rfl | rfl | rfl
          · exact Or.inr ⟨by decide, "java/lang/IllegalArgumentException", hw _ wd_158, hC ("java/lang/UnsupportedOperationException", "java/lang/IllegalArgumentException") (List.mem_of_getElem? (i := 3) (by rfl))⟩
          · exact Or.inr ⟨by decide, "java/util/NoSuchElementException", hw _ wd_159, hC ("java/lang/UnsupportedOperationException", "java/util/NoSuchElementException") (List.mem_of_getElem? (i := 4) (by rfl))⟩
          · exact Or.inr ⟨by decide, "java/lang/IllegalStateException", hw _ wd_160, hC ("java/lang/UnsupportedOperationException", "java/lang/IllegalStateException") (List.mem_of_getElem? (i := 5) (by rfl))⟩
        · refine lv_astore_n (lv' := [(3, .ref q9), (0, .ref (ad 0)), (1, .int x1), (2, .ref o)]) hx hb d_W_start_21 rfl hl (by decide) rfl (fun ls hl => ?_)
          refine lv_iconst (v := 4) hx hb d_W_start_22 (by decide) ?_
          exact W.iret (v := 4) hx hb hr (fun t ht hW => ⟨⟨4, (u9, f), rfl, h, by rw [ht]; exact hP, hD⟩, hS.F ht⟩) hS.2.2 d_W_start_23
    · obtain ⟨hP1, hD1⟩ := hB
      rw [ht] at hP1
      obtain ⟨hP, hD⟩ := va_join (wr := [(o, .inl (ca 1, 1, .inr (.inl f)))]) (w1 := wC ca ad u) hP hD [1, 2, 3, 4, 5, 6, 7, 8, 9, 10, 11, 12, 13, 14, 15] [0] rfl rfl (by decide) (by decide) hk1 hFc hP1 hD1
      have hP : va_P D cls (wHl ca ad o (u, f)) H1 := hP
      have hD : va_D A (wHl ca ad o (u, f)) := hD
      refine lv_i2l (v := r.toInt64) hx hb d_W_start_7 rfl ?_
      refine va_last (D := D) hx hb hK hP hD hS 0 1 rfl rfl (by unfold vp_in; decide) d_W_start_8 (fun H locs hP hD hS => ?_)
      have hP : va_P D cls (wHl ca ad o (u, vp_updL f 0 r.toInt64)) H := hP
      have hD : va_D A (wHl ca ad o (u, vp_updL f 0 r.toInt64)) := hD
      refine lv_goto (tgt := 24) hx hb d_W_start_9 (by decide) ?_
      refine lv_iconst (v := 0) hx hb d_W_start_24 (by decide) ?_
      exact W.iret (v := 0) hx hb hr (fun t ht hW => ⟨⟨0, (u, vp_updL f 0 r.toInt64), rfl, hq, by rw [ht]; exact hP, hD⟩, hS.F ht⟩) hS.2.2 d_W_start_25
  exact hH9 _ rfl hP hS
theorem d_W_ask_0 : decode b_W_ask 0 = .ok (.aload_n 3, 1) := by decide +kernel
theorem d_W_ask_1 : decode b_W_ask 1 = .ok (.iconst 0, 1) := by decide +kernel
theorem d_W_ask_2 : decode b_W_ask 2 = .ok (.aload_n 0, 1) := by decide +kernel
theorem d_W_ask_3 : decode b_W_ask 3 = .ok (.iload_n 1, 1) := by decide +kernel
theorem d_W_ask_4 : decode b_W_ask 4 = .ok (.iload_n 2, 1) := by decide +kernel
theorem d_W_ask_5 : decode b_W_ask 5 = .ok (.invokevirtual 36, 3) := by decide +kernel
theorem d_W_ask_8 : decode b_W_ask 8 = .ok (.i2l, 1) := by decide +kernel
theorem d_W_ask_9 : decode b_W_ask 9 = .ok (.lastore, 1) := by decide +kernel
theorem d_W_ask_10 : decode b_W_ask 10 = .ok (.goto 19, 3) := by decide +kernel
theorem d_W_ask_13 : decode b_W_ask 13 = .ok (.astore 4, 2) := by decide +kernel
theorem d_W_ask_15 : decode b_W_ask 15 = .ok (.iconst 1, 1) := by decide +kernel
theorem d_W_ask_16 : decode b_W_ask 16 = .ok (.ireturn, 1) := by decide +kernel
theorem d_W_ask_17 : decode b_W_ask 17 = .ok (.astore 4, 2) := by decide +kernel
theorem d_W_ask_19 : decode b_W_ask 19 = .ok (.iconst 2, 1) := by decide +kernel
theorem d_W_ask_20 : decode b_W_ask 20 = .ok (.ireturn, 1) := by decide +kernel
theorem d_W_ask_21 : decode b_W_ask 21 = .ok (.astore 4, 2) := by decide +kernel
theorem d_W_ask_23 : decode b_W_ask 23 = .ok (.iconst 3, 1) := by decide +kernel
theorem d_W_ask_24 : decode b_W_ask 24 = .ok (.ireturn, 1) := by decide +kernel
theorem d_W_ask_25 : decode b_W_ask 25 = .ok (.astore 4, 2) := by decide +kernel
theorem d_W_ask_27 : decode b_W_ask 27 = .ok (.iconst 4, 1) := by decide +kernel
theorem d_W_ask_28 : decode b_W_ask 28 = .ok (.ireturn, 1) := by decide +kernel
theorem d_W_ask_29 : decode b_W_ask 29 = .ok (.iconst 0, 1) := by decide +kernel
theorem d_W_ask_30 : decode b_W_ask 30 = .ok (.ireturn, 1) := by decide +kernel
theorem gl_W_36 : ∀ w ∈ wsV "TrainGuardLaw" 36 "TrainGuard" y_G_ask (Cond.code y_G_ask b_G_ask 6 (some Jvm.ClassFile.FieldType.int) :: tG), w ∈ tG := by
  intro x hx
  simp only [wsV, List.cons_append, List.nil_append, List.mem_cons] at hx
  rcases hx with rfl | rfl | rfl | rfl | rfl | hx
  · exact wd_415
  · exact wd_416
  · exact wd_417
  · exact wd_1
  · exact wd_418
  · exact hx
def w_W_ask (T : SC × (Nat → Int64)) (x1 : Int32) (x2 : Int32) (Q : Int32 → SC × (Nat → Int64) → Prop) : Prop := w_G_ask T.1 x1 x2 (fun r u => Q 0 (u, vp_updL T.2 0 r.toInt64)) (fun k u => (k = 1 ∨ k = 2 ∨ k = 3 ∨ k = 4) ∧ Q (nI k) (u, T.2))
set_option maxRecDepth 100000 in
set_option maxHeartbeats 4000000 in
theorem c_W_ask (l : Launch) (hl0 : l.stackTraces = false) (D : va_G) (ca : Nat → ClassId) (ad : Nat → Nat) (o sz : Nat) (T : SC × (Nat → Int64)) (x1 : Int32) (x2 : Int32) (Q : Int32 → SC × (Nat → Int64) → Prop) (h : w_W_ask T x1 x2 Q) : Met l y_W_ask (Cond.codeWith y_W_ask b_W_ask 5 (some Jvm.ClassFile.FieldType.int) [(0, 10, 13, 13), (0, 10, 17, 15), (0, 10, 21, 17), (0, 10, 25, 19)] :: tG) ({ frames := 9, cells := 2, slots := 12, locals := 147 } : Room) (xPh D ca (wHl ca ad o) T sz [.ref (ad 0), .int x1, .int x2, .ref o]) (va_Qi Q (xAt D (wHl ca ad o) (va_A (wHl ca ad o T) sz)) (va_A (wHl ca ad o T) sz)) 2 12 (va_A (wHl ca ad o T) sz) := by
  refine xx_meth (Qf := fun A => va_Qi Q (xAt D (wHl ca ad o) A) A) (by decide) (Nat.le_of_ble_eq_true rfl) ?_
  intro p e s m args below meth c A ls hx hb hr hw hown hlocks hml hK hN hA hP hD hS hl hZ htab hX hC
  have hown : s.vm.findClass "TrainGuardLaw" = some m.cls := hown
  have hl : lv_has ls 5 [(0, .ref (ad 0)), (1, .int x1), (2, .int x2), (3, .ref o)] := hl
  unfold w_W_ask at h
  obtain ⟨S, f⟩ := T
  have hH9 : ∀ H : Heap, H = s.heap → va_P D cls (wHl ca ad o (S, f)) H → va_S A s.heap H [] → W p l e ({ frames := 9, cells := 2, slots := 12, locals := 147 } : Room) s m args below meth c H [] 0 0 (MQ below ((fun A => va_Qi Q (xAt D (wHl ca ad o) A) A) A) args s 2 12 A) (F0 m 0 ls []) := by
    clear hP hS
    intro H hH hP hS
    refine lv_aload_n hx hb d_W_ask_0 rfl (lv_at hl 3 rfl) ?_
    refine lv_iconst (v := 0) hx hb d_W_ask_1 (by decide) ?_
    refine lv_aload_n hx hb d_W_ask_2 rfl (lv_at hl 0 rfl) ?_
    refine lv_iload_n hx hb d_W_ask_3 rfl (lv_at hl 1 rfl) ?_
    refine lv_iload_n hx hb d_W_ask_4 rfl (lv_at hl 2 rfl) ?_
    have hPc := hP.sub (ws' := wC ca ad S) [1, 2, 3, 4, 5, 6, 7, 8, 9, 10, 11, 12, 13, 14, 15] rfl
    have hDc := hD.sub (ws' := wC ca ad S) [1, 2, 3, 4, 5, 6, 7, 8, 9, 10, 11, 12, 13, 14, 15] (by decide) rfl
    have hFc := va_free (wc := wC ca ad S) hD hS hA [1, 2, 3, 4, 5, 6, 7, 8, 9, 10, 11, 12, 13, 14, 15] rfl
    refine vx_calli (vx_runV (As := [.int x1, .int x2]) (rest := [.int 0, .ref o]) ⟨hx, hb, hml, hown, hw⟩ (c_G_ask l hl0 D ca ad H.size S x1 x2 _ _ h) (cwV 2 hw (tG_g gl_W_36) rfl rfl rfl (by decide +kernel) ⟨Nat.le_of_ble_eq_true rfl, Nat.le_of_ble_eq_true rfl⟩) ⟨xPx.blind, va_recv hK hP rfl (q0 := 1) rfl, xPx.pre hK hN hPc hDc hX (hZ.now hS hA hDc)⟩ rfl rfl hl.1 rfl (lv_room (Nat.le_of_ble_eq_true rfl)) d_W_ask_5 ⟨Nat.le_of_ble_eq_true rfl, Nat.le_of_ble_eq_true rfl⟩) hS (fun q _ h => hFc q h) hFc (fun q _ h => hFc q h) (fun E ce q9 u t H1 locs ht hvm hp hB hz1 hk1 hS hce hcv hcl => ?_) (fun r u t H1 locs ht hvm hq hB hz1 hk1 hS => ?_)
    · obtain ⟨hE, hP1, hD1⟩ := hB
      rw [ht] at hP1
      obtain ⟨hP, hD⟩ := va_join (wr := [(o, .inl (ca 1, 1, .inr (.inl f)))]) (w1 := wC ca ad u.2) hP hD [1, 2, 3, 4, 5, 6, 7, 8, 9, 10, 11, 12, 13, 14, 15] [0] rfl rfl (by decide) (by decide) hk1 hFc hP1 hD1
      have hP : va_P D cls (wHl ca ad o (u.2, f)) H1 := hP
      have hD : va_D A (wHl ca ad o (u.2, f)) := hD
      obtain ⟨hk, h⟩ := hp
      obtain ⟨k9, u9⟩ := u
      rcases hk with hk | hk | hk | hk <;> (replace hk : k9 = _ := hk; subst hk; replace hE : E = _ := hE; subst hE)
      · refine vx_catch (E := xNm 1) (name := "java/lang/IllegalArgumentException") hown [] (⟨0, 10, 13, 13⟩ : ExceptionTableEntry) [(⟨0, 10, 17, 15⟩ : ExceptionTableEntry), (⟨0, 10, 21, 17⟩ : ExceptionTableEntry), (⟨0, 10, 25, 19⟩ : ExceptionTableEntry)] (by rw [htab]; rfl) (fun z hz => ?_) (by decide) (by decide) (hw _ wd_158) ((hX _ (List.mem_of_getElem? (i := 0) (by rfl))).use rfl) hce hcv hcl ?_
        · cases hz
        · refine lv_astore (lv' := [(4, .ref q9), (0, .ref (ad 0)), (1, .int x1), (2, .int x2), (3, .ref o)]) hx hb d_W_ask_13 hl (by decide) rfl (fun ls hl => ?_)
          refine lv_iconst (v := 1) hx hb d_W_ask_15 (by decide) ?_
          exact W.iret (v := 1) hx hb hr (fun t ht hW => ⟨⟨1, (u9, f), rfl, h, by rw [ht]; exact hP, hD⟩, hS.F ht⟩) hS.2.2 d_W_ask_16
      · refine vx_catch (E := xNm 2) (name := "java/util/NoSuchElementException") hown [(⟨0, 10, 13, 13⟩ : ExceptionTableEntry)] (⟨0, 10, 17, 15⟩ : ExceptionTableEntry) [(⟨0, 10, 21, 17⟩ : ExceptionTableEntry), (⟨0, 10, 25, 19⟩ : ExceptionTableEntry)] (by rw [htab]; rfl) (fun z hz => ?_) (by decide) (by decide) (hw _ wd_159) ((hX _ (List.mem_of_getElem? (i := 9) (by rfl))).use rfl) hce hcv hcl ?_
        · simp only [List.mem_cons, List.not_mem_nil, or_false] at hz
          rcases hz with rfl
          · exact Or.inr ⟨by decide, "java/lang/IllegalArgumentException", hw _ wd_158, hC ("java/util/NoSuchElementException", "java/lang/IllegalArgumentException") (List.mem_of_getElem? (i := 0) (by rfl))⟩
        · refine lv_astore (lv' := [(4, .ref q9), (0, .ref (ad 0)), (1, .int x1), (2, .int x2), (3, .ref o)]) hx hb d_W_ask_17 hl (by decide) rfl (fun ls hl => ?_)
          refine lv_iconst (v := 2) hx hb d_W_ask_19 (by decide) ?_
          exact W.iret (v := 2) hx hb hr (fun t ht hW => ⟨⟨2, (u9, f), rfl, h, by rw [ht]; exact hP, hD⟩, hS.F ht⟩) hS.2.2 d_W_ask_20
      · refine vx_catch (E := xNm 3) (name := "java/lang/IllegalStateException") hown [(⟨0, 10, 13, 13⟩ : ExceptionTableEntry), (⟨0, 10, 17, 15⟩ : ExceptionTableEntry)] (⟨0, 10, 21, 17⟩ : ExceptionTableEntry) [(⟨0, 10, 25, 19⟩ : ExceptionTableEntry)] (by rw [htab]; rfl) (fun z hz => ?_) (by decide) (by decide) (hw _ wd_160) ((hX _ (List.mem_of_getElem? (i := 7) (by rfl))).use rfl) hce hcv hcl ?_
        · simp only [List.mem_cons, List.not_mem_nil, or_false] at hz
          rcases hz with rfl | rfl
          · exact Or.inr ⟨by decide, "java/lang/IllegalArgumentException", hw _ wd_158, hC ("java/lang/IllegalStateException", "java/lang/IllegalArgumentException") (List.mem_of_getElem? (i := 1) (by rfl))⟩
          · exact Or.inr ⟨by decide, "java/util/NoSuchElementException", hw _ wd_159, hC ("java/lang/IllegalStateException", "java/util/NoSuchElementException") (List.mem_of_getElem? (i := 2) (by rfl))⟩
        · refine lv_astore (lv' := [(4, .ref q9), (0, .ref (ad 0)), (1, .int x1), (2, .int x2), (3, .ref o)]) hx hb d_W_ask_21 hl (by decide) rfl (fun ls hl => ?_)
          refine lv_iconst (v := 3) hx hb d_W_ask_23 (by decide) ?_
          exact W.iret (v := 3) hx hb hr (fun t ht hW => ⟨⟨3, (u9, f), rfl, h, by rw [ht]; exact hP, hD⟩, hS.F ht⟩) hS.2.2 d_W_ask_24
      · refine vx_catch (E := xNm 4) (name := "java/lang/UnsupportedOperationException") hown [(⟨0, 10, 13, 13⟩ : ExceptionTableEntry), (⟨0, 10, 17, 15⟩ : ExceptionTableEntry), (⟨0, 10, 21, 17⟩ : ExceptionTableEntry)] (⟨0, 10, 25, 19⟩ : ExceptionTableEntry) [] (by rw [htab]; rfl) (fun z hz => ?_) (by decide) (by decide) (hw _ wd_161) ((hX _ (List.mem_of_getElem? (i := 8) (by rfl))).use rfl) hce hcv hcl ?_
        · simp only [List.mem_cons, List.not_mem_nil, or_false] at hz
          rcases hz with rfl | rfl | rfl
          · exact Or.inr ⟨by decide, "java/lang/IllegalArgumentException", hw _ wd_158, hC ("java/lang/UnsupportedOperationException", "java/lang/IllegalArgumentException") (List.mem_of_getElem? (i := 3) (by rfl))⟩
          · exact Or.inr ⟨by decide, "java/util/NoSuchElementException", hw _ wd_159, hC ("java/lang/UnsupportedOperationException", "java/util/NoSuchElementException") (List.mem_of_getElem? (i := 4) (by rfl))⟩
          · exact Or.inr ⟨by decide, "java/lang/IllegalStateException", hw _ wd_160, hC ("java/lang/UnsupportedOperationException", "java/lang/IllegalStateException") (List.mem_of_getElem? (i := 5) (by rfl))⟩
        · refine lv_astore (lv' := [(4, .ref q9), (0, .ref (ad 0)), (1, .int x1), (2, .int x2), (3, .ref o)]) hx hb d_W_ask_25 hl (by decide) rfl (fun ls hl => ?_)
          refine lv_iconst (v := 4) hx hb d_W_ask_27 (by decide) ?_
          exact W.iret (v := 4) hx hb hr (fun t ht hW => ⟨⟨4, (u9, f), rfl, h, by rw [ht]; exact hP, hD⟩, hS.F ht⟩) hS.2.2 d_W_ask_28
    · obtain ⟨hP1, hD1⟩ := hB
      rw [ht] at hP1
      obtain ⟨hP, hD⟩ := va_join (wr := [(o, .inl (ca 1, 1, .inr (.inl f)))]) (w1 := wC ca ad u) hP hD [1, 2, 3, 4, 5, 6, 7, 8, 9, 10, 11, 12, 13, 14, 15] [0] rfl rfl (by decide) (by decide) hk1 hFc hP1 hD1
      have hP : va_P D cls (wHl ca ad o (u, f)) H1 := hP
      have hD : va_D A (wHl ca ad o (u, f)) := hD
      refine lv_i2l (v := r.toInt64) hx hb d_W_ask_8 rfl ?_
      refine va_last (D := D) hx hb hK hP hD hS 0 1 rfl rfl (by unfold vp_in; decide) d_W_ask_9 (fun H locs hP hD hS => ?_)
      have hP : va_P D cls (wHl ca ad o (u, vp_updL f 0 r.toInt64)) H := hP
      have hD : va_D A (wHl ca ad o (u, vp_updL f 0 r.toInt64)) := hD
      refine lv_goto (tgt := 29) hx hb d_W_ask_10 (by decide) ?_
      refine lv_iconst (v := 0) hx hb d_W_ask_29 (by decide) ?_
      exact W.iret (v := 0) hx hb hr (fun t ht hW => ⟨⟨0, (u, vp_updL f 0 r.toInt64), rfl, hq, by rw [ht]; exact hP, hD⟩, hS.F ht⟩) hS.2.2 d_W_ask_30
  exact hH9 _ rfl hP hS
theorem d_W_stop_0 : decode b_W_stop 0 = .ok (.aload_n 2, 1) := by decide +kernel
theorem d_W_stop_1 : decode b_W_stop 1 = .ok (.iconst 0, 1) := by decide +kernel
theorem d_W_stop_2 : decode b_W_stop 2 = .ok (.aload_n 0, 1) := by decide +kernel
theorem d_W_stop_3 : decode b_W_stop 3 = .ok (.iload_n 1, 1) := by decide +kernel
theorem d_W_stop_4 : decode b_W_stop 4 = .ok (.invokevirtual 40, 3) := by decide +kernel
theorem d_W_stop_7 : decode b_W_stop 7 = .ok (.i2l, 1) := by decide +kernel
theorem d_W_stop_8 : decode b_W_stop 8 = .ok (.lastore, 1) := by decide +kernel
theorem d_W_stop_9 : decode b_W_stop 9 = .ok (.goto 15, 3) := by decide +kernel
theorem d_W_stop_12 : decode b_W_stop 12 = .ok (.astore_n 3, 1) := by decide +kernel
theorem d_W_stop_13 : decode b_W_stop 13 = .ok (.iconst 1, 1) := by decide +kernel
theorem d_W_stop_14 : decode b_W_stop 14 = .ok (.ireturn, 1) := by decide +kernel
theorem d_W_stop_15 : decode b_W_stop 15 = .ok (.astore_n 3, 1) := by decide +kernel
theorem d_W_stop_16 : decode b_W_stop 16 = .ok (.iconst 2, 1) := by decide +kernel
theorem d_W_stop_17 : decode b_W_stop 17 = .ok (.ireturn, 1) := by decide +kernel
theorem d_W_stop_18 : decode b_W_stop 18 = .ok (.astore_n 3, 1) := by decide +kernel
theorem d_W_stop_19 : decode b_W_stop 19 = .ok (.iconst 3, 1) := by decide +kernel
theorem d_W_stop_20 : decode b_W_stop 20 = .ok (.ireturn, 1) := by decide +kernel
theorem d_W_stop_21 : decode b_W_stop 21 = .ok (.astore_n 3, 1) := by decide +kernel
theorem d_W_stop_22 : decode b_W_stop 22 = .ok (.iconst 4, 1) := by decide +kernel
theorem d_W_stop_23 : decode b_W_stop 23 = .ok (.ireturn, 1) := by decide +kernel
theorem d_W_stop_24 : decode b_W_stop 24 = .ok (.iconst 0, 1) := by decide +kernel
theorem d_W_stop_25 : decode b_W_stop 25 = .ok (.ireturn, 1) := by decide +kernel
theorem gl_W_40 : ∀ w ∈ wsV "TrainGuardLaw" 40 "TrainGuard" y_G_stop (Cond.code y_G_stop b_G_stop 2 (some Jvm.ClassFile.FieldType.int) :: tG), w ∈ tG := by
  intro x hx
  simp only [wsV, List.cons_append, List.nil_append, List.mem_cons] at hx
  rcases hx with rfl | rfl | rfl | rfl | rfl | hx
  · exact wd_435
  · exact wd_436
  · exact wd_437
  · exact wd_1
  · exact wd_438
  · exact hx
def w_W_stop (T : SC × (Nat → Int64)) (x1 : Int32) (Q : Int32 → SC × (Nat → Int64) → Prop) : Prop := w_G_stop T.1 x1 (fun r u => Q 0 (u, vp_updL T.2 0 r.toInt64)) (fun k u => (k = 1 ∨ k = 2 ∨ k = 3 ∨ k = 4) ∧ Q (nI k) (u, T.2))
set_option maxRecDepth 100000 in
set_option maxHeartbeats 4000000 in
theorem c_W_stop (l : Launch) (hl0 : l.stackTraces = false) (D : va_G) (ca : Nat → ClassId) (ad : Nat → Nat) (o sz : Nat) (T : SC × (Nat → Int64)) (x1 : Int32) (Q : Int32 → SC × (Nat → Int64) → Prop) (h : w_W_stop T x1 Q) : Met l y_W_stop (Cond.codeWith y_W_stop b_W_stop 4 (some Jvm.ClassFile.FieldType.int) [(0, 9, 12, 13), (0, 9, 15, 15), (0, 9, 18, 17), (0, 9, 21, 19)] :: tG) ({ frames := 9, cells := 2, slots := 12, locals := 143 } : Room) (xPh D ca (wHl ca ad o) T sz [.ref (ad 0), .int x1, .ref o]) (va_Qi Q (xAt D (wHl ca ad o) (va_A (wHl ca ad o T) sz)) (va_A (wHl ca ad o T) sz)) 2 12 (va_A (wHl ca ad o T) sz) := by
  refine xx_meth (Qf := fun A => va_Qi Q (xAt D (wHl ca ad o) A) A) (by decide) (Nat.le_of_ble_eq_true rfl) ?_
  intro p e s m args below meth c A ls hx hb hr hw hown hlocks hml hK hN hA hP hD hS hl hZ htab hX hC
  have hown : s.vm.findClass "TrainGuardLaw" = some m.cls := hown
  have hl : lv_has ls 4 [(0, .ref (ad 0)), (1, .int x1), (2, .ref o)] := hl
  unfold w_W_stop at h
  obtain ⟨S, f⟩ := T
  have hH9 : ∀ H : Heap, H = s.heap → va_P D cls (wHl ca ad o (S, f)) H → va_S A s.heap H [] → W p l e ({ frames := 9, cells := 2, slots := 12, locals := 143 } : Room) s m args below meth c H [] 0 0 (MQ below ((fun A => va_Qi Q (xAt D (wHl ca ad o) A) A) A) args s 2 12 A) (F0 m 0 ls []) := by
    clear hP hS
    intro H hH hP hS
    refine lv_aload_n hx hb d_W_stop_0 rfl (lv_at hl 2 rfl) ?_
    refine lv_iconst (v := 0) hx hb d_W_stop_1 (by decide) ?_
    refine lv_aload_n hx hb d_W_stop_2 rfl (lv_at hl 0 rfl) ?_
    refine lv_iload_n hx hb d_W_stop_3 rfl (lv_at hl 1 rfl) ?_
    have hPc := hP.sub (ws' := wC ca ad S) [1, 2, 3, 4, 5, 6, 7, 8, 9, 10, 11, 12, 13, 14, 15] rfl
    have hDc := hD.sub (ws' := wC ca ad S) [1, 2, 3, 4, 5, 6, 7, 8, 9, 10, 11, 12, 13, 14, 15] (by decide) rfl
    have hFc := va_free (wc := wC ca ad S) hD hS hA [1, 2, 3, 4, 5, 6, 7, 8, 9, 10, 11, 12, 13, 14, 15] rfl
    refine vx_calli (vx_runV (As := [.int x1]) (rest := [.int 0, .ref o]) ⟨hx, hb, hml, hown, hw⟩ (c_G_stop l hl0 D ca ad H.size S x1 _ _ h) (cwV 1 hw (tG_g gl_W_40) rfl rfl rfl (by decide +kernel) ⟨Nat.le_of_ble_eq_true rfl, Nat.le_of_ble_eq_true rfl⟩) ⟨xPx.blind, va_recv hK hP rfl (q0 := 1) rfl, xPx.pre hK hN hPc hDc hX (hZ.now hS hA hDc)⟩ rfl rfl hl.1 rfl (lv_room (Nat.le_of_ble_eq_true rfl)) d_W_stop_4 ⟨Nat.le_of_ble_eq_true rfl, Nat.le_of_ble_eq_true rfl⟩) hS (fun q _ h => hFc q h) hFc (fun q _ h => hFc q h) (fun E ce q9 u t H1 locs ht hvm hp hB hz1 hk1 hS hce hcv hcl => ?_) (fun r u t H1 locs ht hvm hq hB hz1 hk1 hS => ?_)
    · obtain ⟨hE, hP1, hD1⟩ := hB
      rw [ht] at hP1
      obtain ⟨hP, hD⟩ := va_join (wr := [(o, .inl (ca 1, 1, .inr (.inl f)))]) (w1 := wC ca ad u.2) hP hD [1, 2, 3, 4, 5, 6, 7, 8, 9, 10, 11, 12, 13, 14, 15] [0] rfl rfl (by decide) (by decide) hk1 hFc hP1 hD1
      have hP : va_P D cls (wHl ca ad o (u.2, f)) H1 := hP
      have hD : va_D A (wHl ca ad o (u.2, f)) := hD
      obtain ⟨hk, h⟩ := hp
      obtain ⟨k9, u9⟩ := u
      rcases hk with hk | hk | hk | hk <;> (replace hk : k9 = _ := hk; subst hk; replace hE : E = _ := hE; subst hE)
      · refine vx_catch (E := xNm 1) (name := "java/lang/IllegalArgumentException") hown [] (⟨0, 9, 12, 13⟩ : ExceptionTableEntry) [(⟨0, 9, 15, 15⟩ : ExceptionTableEntry), (⟨0, 9, 18, 17⟩ : ExceptionTableEntry), (⟨0, 9, 21, 19⟩ : ExceptionTableEntry)] (by rw [htab]; rfl) (fun z hz => ?_) (by decide) (by decide) (hw _ wd_158) ((hX _ (List.mem_of_getElem? (i := 0) (by rfl))).use rfl) hce hcv hcl ?_
        · cases hz
        · refine lv_astore_n (lv' := [(3, .ref q9), (0, .ref (ad 0)), (1, .int x1), (2, .ref o)]) hx hb d_W_stop_12 rfl hl (by decide) rfl (fun ls hl => ?_)
          refine lv_iconst (v := 1) hx hb d_W_stop_13 (by decide) ?_
          exact W.iret (v := 1) hx hb hr (fun t ht hW => ⟨⟨1, (u9, f), rfl, h, by rw [ht]; exact hP, hD⟩, hS.F ht⟩) hS.2.2 d_W_stop_14
      · refine vx_catch (E := xNm 2) (name := "java/util/NoSuchElementException") hown [(⟨0, 9, 12, 13⟩ : ExceptionTableEntry)] (⟨0, 9, 15, 15⟩ : ExceptionTableEntry) [(⟨0, 9, 18, 17⟩ : ExceptionTableEntry), (⟨0, 9, 21, 19⟩ : ExceptionTableEntry)] (by rw [htab]; rfl) (fun z hz => ?_) (by decide) (by decide) (hw _ wd_159) ((hX _ (List.mem_of_getElem? (i := 9) (by rfl))).use rfl) hce hcv hcl ?_
        · simp only [List.mem_cons, List.not_mem_nil, or_false] at hz
          rcases hz with rfl
          · exact Or.inr ⟨by decide, "java/lang/IllegalArgumentException", hw _ wd_158, hC ("java/util/NoSuchElementException", "java/lang/IllegalArgumentException") (List.mem_of_getElem? (i := 0) (by rfl))⟩
        · refine lv_astore_n (lv' := [(3, .ref q9), (0, .ref (ad 0)), (1, .int x1), (2, .ref o)]) hx hb d_W_stop_15 rfl hl (by decide) rfl (fun ls hl => ?_)
          refine lv_iconst (v := 2) hx hb d_W_stop_16 (by decide) ?_
          exact W.iret (v := 2) hx hb hr (fun t ht hW => ⟨⟨2, (u9, f), rfl, h, by rw [ht]; exact hP, hD⟩, hS.F ht⟩) hS.2.2 d_W_stop_17
      · refine vx_catch (E := xNm 3) (name := "java/lang/IllegalStateException") hown [(⟨0, 9, 12, 13⟩ : ExceptionTableEntry), (⟨0, 9, 15, 15⟩ : ExceptionTableEntry)] (⟨0, 9, 18, 17⟩ : ExceptionTableEntry) [(⟨0, 9, 21, 19⟩ : ExceptionTableEntry)] (by rw [htab]; rfl) (fun z hz => ?_) (by decide) (by decide) (hw _ wd_160) ((hX _ (List.mem_of_getElem? (i := 7) (by rfl))).use rfl) hce hcv hcl ?_
        · simp only [List.mem_cons, List.not_mem_nil, or_false] at hz
          rcases hz with rfl | rfl
          · exact Or.inr ⟨by decide, "java/lang/IllegalArgumentException", hw _ wd_158, hC ("java/lang/IllegalStateException", "java/lang/IllegalArgumentException") (List.mem_of_getElem? (i := 1) (by rfl))⟩
          · exact Or.inr ⟨by decide, "java/util/NoSuchElementException", hw _ wd_159, hC ("java/lang/IllegalStateException", "java/util/NoSuchElementException") (List.mem_of_getElem? (i := 2) (by rfl))⟩
        · refine lv_astore_n (lv' := [(3, .ref q9), (0, .ref (ad 0)), (1, .int x1), (2, .ref o)]) hx hb d_W_stop_18 rfl hl (by decide) rfl (fun ls hl => ?_)
          refine lv_iconst (v := 3) hx hb d_W_stop_19 (by decide) ?_
          exact W.iret (v := 3) hx hb hr (fun t ht hW => ⟨⟨3, (u9, f), rfl, h, by rw [ht]; exact hP, hD⟩, hS.F ht⟩) hS.2.2 d_W_stop_20
      · refine vx_catch (E := xNm 4) (name := "java/lang/UnsupportedOperationException") hown [(⟨0, 9, 12, 13⟩ : ExceptionTableEntry), (⟨0, 9, 15, 15⟩ : ExceptionTableEntry), (⟨0, 9, 18, 17⟩ : ExceptionTableEntry)] (⟨0, 9, 21, 19⟩ : ExceptionTableEntry) [] (by rw [htab]; rfl) (fun z hz => ?_) (by decide) (by decide) (hw _ wd_161) ((hX _ (List.mem_of_getElem? (i := 8) (by rfl))).use rfl) hce hcv hcl ?_
        · simp only [List.mem_cons, List.not_mem_nil, or_false] at hz
          rcases hz with rfl | rfl | rfl
          · exact Or.inr ⟨by decide, "java/lang/IllegalArgumentException", hw _ wd_158, hC ("java/lang/UnsupportedOperationException", "java/lang/IllegalArgumentException") (List.mem_of_getElem? (i := 3) (by rfl))⟩
          · exact Or.inr ⟨by decide, "java/util/NoSuchElementException", hw _ wd_159, hC ("java/lang/UnsupportedOperationException", "java/util/NoSuchElementException") (List.mem_of_getElem? (i := 4) (by rfl))⟩
          · exact Or.inr ⟨by decide, "java/lang/IllegalStateException", hw _ wd_160, hC ("java/lang/UnsupportedOperationException", "java/lang/IllegalStateException") (List.mem_of_getElem? (i := 5) (by rfl))⟩
        · refine lv_astore_n (lv' := [(3, .ref q9), (0, .ref (ad 0)), (1, .int x1), (2, .ref o)]) hx hb d_W_stop_21 rfl hl (by decide) rfl (fun ls hl => ?_)
          refine lv_iconst (v := 4) hx hb d_W_stop_22 (by decide) ?_
          exact W.iret (v := 4) hx hb hr (fun t ht hW => ⟨⟨4, (u9, f), rfl, h, by rw [ht]; exact hP, hD⟩, hS.F ht⟩) hS.2.2 d_W_stop_23
    · obtain ⟨hP1, hD1⟩ := hB
      rw [ht] at hP1
      obtain ⟨hP, hD⟩ := va_join (wr := [(o, .inl (ca 1, 1, .inr (.inl f)))]) (w1 := wC ca ad u) hP hD [1, 2, 3, 4, 5, 6, 7, 8, 9, 10, 11, 12, 13, 14, 15] [0] rfl rfl (by decide) (by decide) hk1 hFc hP1 hD1
      have hP : va_P D cls (wHl ca ad o (u, f)) H1 := hP
      have hD : va_D A (wHl ca ad o (u, f)) := hD
      refine lv_i2l (v := r.toInt64) hx hb d_W_stop_7 rfl ?_
      refine va_last (D := D) hx hb hK hP hD hS 0 1 rfl rfl (by unfold vp_in; decide) d_W_stop_8 (fun H locs hP hD hS => ?_)
      have hP : va_P D cls (wHl ca ad o (u, vp_updL f 0 r.toInt64)) H := hP
      have hD : va_D A (wHl ca ad o (u, vp_updL f 0 r.toInt64)) := hD
      refine lv_goto (tgt := 24) hx hb d_W_stop_9 (by decide) ?_
      refine lv_iconst (v := 0) hx hb d_W_stop_24 (by decide) ?_
      exact W.iret (v := 0) hx hb hr (fun t ht hW => ⟨⟨0, (u, vp_updL f 0 r.toInt64), rfl, hq, by rw [ht]; exact hP, hD⟩, hS.F ht⟩) hS.2.2 d_W_stop_25
  exact hH9 _ rfl hP hS
theorem d_W_take_0 : decode b_W_take 0 = .ok (.aload_n 3, 1) := by decide +kernel
theorem d_W_take_1 : decode b_W_take 1 = .ok (.iconst 0, 1) := by decide +kernel
theorem d_W_take_2 : decode b_W_take 2 = .ok (.aload_n 0, 1) := by decide +kernel
theorem d_W_take_3 : decode b_W_take 3 = .ok (.iload_n 1, 1) := by decide +kernel
theorem d_W_take_4 : decode b_W_take 4 = .ok (.iload_n 2, 1) := by decide +kernel
theorem d_W_take_5 : decode b_W_take 5 = .ok (.invokevirtual 43, 3) := by decide +kernel
theorem d_W_take_8 : decode b_W_take 8 = .ok (.i2l, 1) := by decide +kernel
theorem d_W_take_9 : decode b_W_take 9 = .ok (.lastore, 1) := by decide +kernel
theorem d_W_take_10 : decode b_W_take 10 = .ok (.goto 19, 3) := by decide +kernel
theorem d_W_take_13 : decode b_W_take 13 = .ok (.astore 4, 2) := by decide +kernel
theorem d_W_take_15 : decode b_W_take 15 = .ok (.iconst 1, 1) := by decide +kernel
theorem d_W_take_16 : decode b_W_take 16 = .ok (.ireturn, 1) := by decide +kernel
theorem d_W_take_17 : decode b_W_take 17 = .ok (.astore 4, 2) := by decide +kernel
theorem d_W_take_19 : decode b_W_take 19 = .ok (.iconst 2, 1) := by decide +kernel
theorem d_W_take_20 : decode b_W_take 20 = .ok (.ireturn, 1) := by decide +kernel
theorem d_W_take_21 : decode b_W_take 21 = .ok (.astore 4, 2) := by decide +kernel
theorem d_W_take_23 : decode b_W_take 23 = .ok (.iconst 3, 1) := by decide +kernel
theorem d_W_take_24 : decode b_W_take 24 = .ok (.ireturn, 1) := by decide +kernel
theorem d_W_take_25 : decode b_W_take 25 = .ok (.astore 4, 2) := by decide +kernel
theorem d_W_take_27 : decode b_W_take 27 = .ok (.iconst 4, 1) := by decide +kernel
theorem d_W_take_28 : decode b_W_take 28 = .ok (.ireturn, 1) := by decide +kernel
theorem d_W_take_29 : decode b_W_take 29 = .ok (.iconst 0, 1) := by decide +kernel
theorem d_W_take_30 : decode b_W_take 30 = .ok (.ireturn, 1) := by decide +kernel
theorem gl_W_43 : ∀ w ∈ wsV "TrainGuardLaw" 43 "TrainGuard" y_G_take (Cond.code y_G_take b_G_take 5 (some Jvm.ClassFile.FieldType.int) :: tG), w ∈ tG := by
  intro x hx
  simp only [wsV, List.cons_append, List.nil_append, List.mem_cons] at hx
  rcases hx with rfl | rfl | rfl | rfl | rfl | hx
  · exact wd_442
  · exact wd_443
  · exact wd_444
  · exact wd_1
  · exact wd_445
  · exact hx
def w_W_take (T : SC × (Nat → Int64)) (x1 : Int32) (x2 : Int32) (Q : Int32 → SC × (Nat → Int64) → Prop) : Prop := w_G_take T.1 x1 x2 (fun r u => Q 0 (u, vp_updL T.2 0 r.toInt64)) (fun k u => (k = 1 ∨ k = 2 ∨ k = 3 ∨ k = 4) ∧ Q (nI k) (u, T.2))
set_option maxRecDepth 100000 in
set_option maxHeartbeats 4000000 in
theorem c_W_take (l : Launch) (hl0 : l.stackTraces = false) (D : va_G) (ca : Nat → ClassId) (ad : Nat → Nat) (o sz : Nat) (T : SC × (Nat → Int64)) (x1 : Int32) (x2 : Int32) (Q : Int32 → SC × (Nat → Int64) → Prop) (h : w_W_take T x1 x2 Q) : Met l y_W_take (Cond.codeWith y_W_take b_W_take 5 (some Jvm.ClassFile.FieldType.int) [(0, 10, 13, 13), (0, 10, 17, 15), (0, 10, 21, 17), (0, 10, 25, 19)] :: tG) ({ frames := 9, cells := 2, slots := 12, locals := 185 } : Room) (xPh D ca (wHl ca ad o) T sz [.ref (ad 0), .int x1, .int x2, .ref o]) (va_Qi Q (xAt D (wHl ca ad o) (va_A (wHl ca ad o T) sz)) (va_A (wHl ca ad o T) sz)) 2 12 (va_A (wHl ca ad o T) sz) := by
  refine xx_meth (Qf := fun A => va_Qi Q (xAt D (wHl ca ad o) A) A) (by decide) (Nat.le_of_ble_eq_true rfl) ?_
  intro p e s m args below meth c A ls hx hb hr hw hown hlocks hml hK hN hA hP hD hS hl hZ htab hX hC
  have hown : s.vm.findClass "TrainGuardLaw" = some m.cls := hown
  have hl : lv_has ls 5 [(0, .ref (ad 0)), (1, .int x1), (2, .int x2), (3, .ref o)] := hl
  unfold w_W_take at h
  obtain ⟨S, f⟩ := T
  have hH9 : ∀ H : Heap, H = s.heap → va_P D cls (wHl ca ad o (S, f)) H → va_S A s.heap H [] → W p l e ({ frames := 9, cells := 2, slots := 12, locals := 185 } : Room) s m args below meth c H [] 0 0 (MQ below ((fun A => va_Qi Q (xAt D (wHl ca ad o) A) A) A) args s 2 12 A) (F0 m 0 ls []) := by
    clear hP hS
    intro H hH hP hS
    refine lv_aload_n hx hb d_W_take_0 rfl (lv_at hl 3 rfl) ?_
    refine lv_iconst (v := 0) hx hb d_W_take_1 (by decide) ?_
    refine lv_aload_n hx hb d_W_take_2 rfl (lv_at hl 0 rfl) ?_
    refine lv_iload_n hx hb d_W_take_3 rfl (lv_at hl 1 rfl) ?_
    refine lv_iload_n hx hb d_W_take_4 rfl (lv_at hl 2 rfl) ?_
    have hPc := hP.sub (ws' := wC ca ad S) [1, 2, 3, 4, 5, 6, 7, 8, 9, 10, 11, 12, 13, 14, 15] rfl
    have hDc := hD.sub (ws' := wC ca ad S) [1, 2, 3, 4, 5, 6, 7, 8, 9, 10, 11, 12, 13, 14, 15] (by decide) rfl
    have hFc := va_free (wc := wC ca ad S) hD hS hA [1, 2, 3, 4, 5, 6, 7, 8, 9, 10, 11, 12, 13, 14, 15] rfl
    refine vx_calli (vx_runV (As := [.int x1, .int x2]) (rest := [.int 0, .ref o]) ⟨hx, hb, hml, hown, hw⟩ (c_G_take l hl0 D ca ad H.size S x1 x2 _ _ h) (cwV 2 hw (tG_g gl_W_43) rfl rfl rfl (by decide +kernel) ⟨Nat.le_of_ble_eq_true rfl, Nat.le_of_ble_eq_true rfl⟩) ⟨xPx.blind, va_recv hK hP rfl (q0 := 1) rfl, xPx.pre hK hN hPc hDc hX (hZ.now hS hA hDc)⟩ rfl rfl hl.1 rfl (lv_room (Nat.le_of_ble_eq_true rfl)) d_W_take_5 ⟨Nat.le_of_ble_eq_true rfl, Nat.le_of_ble_eq_true rfl⟩) hS (fun q _ h => hFc q h) hFc (fun q _ h => hFc q h) (fun E ce q9 u t H1 locs ht hvm hp hB hz1 hk1 hS hce hcv hcl => ?_) (fun r u t H1 locs ht hvm hq hB hz1 hk1 hS => ?_)
    · obtain ⟨hE, hP1, hD1⟩ := hB
      rw [ht] at hP1
      obtain ⟨hP, hD⟩ := va_join (wr := [(o, .inl (ca 1, 1, .inr (.inl f)))]) (w1 := wC ca ad u.2) hP hD [1, 2, 3, 4, 5, 6, 7, 8, 9, 10, 11, 12, 13, 14, 15] [0] rfl rfl (by decide) (by decide) hk1 hFc hP1 hD1
      have hP : va_P D cls (wHl ca ad o (u.2, f)) H1 := hP
      have hD : va_D A (wHl ca ad o (u.2, f)) := hD
      obtain ⟨hk, h⟩ := hp
      obtain ⟨k9, u9⟩ := u
      rcases hk with hk | hk | hk | hk <;> (replace hk : k9 = _ := hk; subst hk; replace hE : E = _ := hE; subst hE)
      · refine vx_catch (E := xNm 1) (name := "java/lang/IllegalArgumentException") hown [] (⟨0, 10, 13, 13⟩ : ExceptionTableEntry) [(⟨0, 10, 17, 15⟩ : ExceptionTableEntry), (⟨0, 10, 21, 17⟩ : ExceptionTableEntry), (⟨0, 10, 25, 19⟩ : ExceptionTableEntry)] (by rw [htab]; rfl) (fun z hz => ?_) (by decide) (by decide) (hw _ wd_158) ((hX _ (List.mem_of_getElem? (i := 0) (by rfl))).use rfl) hce hcv hcl ?_
        · cases hz
        · refine lv_astore (lv' := [(4, .ref q9), (0, .ref (ad 0)), (1, .int x1), (2, .int x2), (3, .ref o)]) hx hb d_W_take_13 hl (by decide) rfl (fun ls hl => ?_)
          refine lv_iconst (v := 1) hx hb d_W_take_15 (by decide) ?_
          exact W.iret (v := 1) hx hb hr (fun t ht hW => ⟨⟨1, (u9, f), rfl, h, by rw [ht]; exact hP, hD⟩, hS.F ht⟩) hS.2.2 d_W_take_16
      · refine vx_catch (E := xNm 2) (name := "java/util/NoSuchElementException") hown [(⟨0, 10, 13, 13⟩ : ExceptionTableEntry)] (⟨0, 10, 17, 15⟩ : ExceptionTableEntry) [(⟨0, 10, 21, 17⟩ : ExceptionTableEntry), (⟨0, 10, 25, 19⟩ : ExceptionTableEntry)] (by rw [htab]; rfl) (fun z hz => ?_) (by decide) (by decide) (hw _ wd_159) ((hX _ (List.mem_of_getElem? (i := 9) (by rfl))).use rfl) hce hcv hcl ?_
        · simp only [List.mem_cons, List.not_mem_nil, or_false] at hz
          rcases hz with rfl
          · exact Or.inr ⟨by decide, "java/lang/IllegalArgumentException", hw _ wd_158, hC ("java/util/NoSuchElementException", "java/lang/IllegalArgumentException") (List.mem_of_getElem? (i := 0) (by rfl))⟩
        · refine lv_astore (lv' := [(4, .ref q9), (0, .ref (ad 0)), (1, .int x1), (2, .int x2), (3, .ref o)]) hx hb d_W_take_17 hl (by decide) rfl (fun ls hl => ?_)
          refine lv_iconst (v := 2) hx hb d_W_take_19 (by decide) ?_
          exact W.iret (v := 2) hx hb hr (fun t ht hW => ⟨⟨2, (u9, f), rfl, h, by rw [ht]; exact hP, hD⟩, hS.F ht⟩) hS.2.2 d_W_take_20
      · refine vx_catch (E := xNm 3) (name := "java/lang/IllegalStateException") hown [(⟨0, 10, 13, 13⟩ : ExceptionTableEntry), (⟨0, 10, 17, 15⟩ : ExceptionTableEntry)] (⟨0, 10, 21, 17⟩ : ExceptionTableEntry) [(⟨0, 10, 25, 19⟩ : ExceptionTableEntry)] (by rw [htab]; rfl) (fun z hz => ?_) (by decide) (by decide) (hw _ wd_160) ((hX _ (List.mem_of_getElem? (i := 7) (by rfl))).use rfl) hce hcv hcl ?_
        · simp only [List.mem_cons, List.not_mem_nil, or_false] at hz
          rcases hz with rfl | rfl
          · exact Or.inr ⟨by decide, "java/lang/IllegalArgumentException", hw _ wd_158, hC ("java/lang/IllegalStateException", "java/lang/IllegalArgumentException") (List.mem_of_getElem? (i := 1) (by rfl))⟩
          · exact Or.inr ⟨by decide, "java/util/NoSuchElementException", hw _ wd_159, hC ("java/lang/IllegalStateException", "java/util/NoSuchElementException") (List.mem_of_getElem? (i := 2) (by rfl))⟩
        · refine lv_astore (lv' := [(4, .ref q9), (0, .ref (ad 0)), (1, .int x1), (2, .int x2), (3, .ref o)]) hx hb d_W_take_21 hl (by decide) rfl (fun ls hl => ?_)
          refine lv_iconst (v := 3) hx hb d_W_take_23 (by decide) ?_
          exact W.iret (v := 3) hx hb hr (fun t ht hW => ⟨⟨3, (u9, f), rfl, h, by rw [ht]; exact hP, hD⟩, hS.F ht⟩) hS.2.2 d_W_take_24
      · refine vx_catch (E := xNm 4) (name := "java/lang/UnsupportedOperationException") hown [(⟨0, 10, 13, 13⟩ : ExceptionTableEntry), (⟨0, 10, 17, 15⟩ : ExceptionTableEntry), (⟨0, 10, 21, 17⟩ : ExceptionTableEntry)] (⟨0, 10, 25, 19⟩ : ExceptionTableEntry) [] (by rw [htab]; rfl) (fun z hz => ?_) (by decide) (by decide) (hw _ wd_161) ((hX _ (List.mem_of_getElem? (i := 8) (by rfl))).use rfl) hce hcv hcl ?_
        · simp only [List.mem_cons, List.not_mem_nil, or_false] at hz
          rcases hz with rfl | rfl | rfl
          · exact Or.inr ⟨by decide, "java/lang/IllegalArgumentException", hw _ wd_158, hC ("java/lang/UnsupportedOperationException", "java/lang/IllegalArgumentException") (List.mem_of_getElem? (i := 3) (by rfl))⟩
          · exact Or.inr ⟨by decide, "java/util/NoSuchElementException", hw _ wd_159, hC ("java/lang/UnsupportedOperationException", "java/util/NoSuchElementException") (List.mem_of_getElem? (i := 4) (by rfl))⟩
          · exact Or.inr ⟨by decide, "java/lang/IllegalStateException", hw _ wd_160, hC ("java/lang/UnsupportedOperationException", "java/lang/IllegalStateException") (List.mem_of_getElem? (i := 5) (by rfl))⟩
        · refine lv_astore (lv' := [(4, .ref q9), (0, .ref (ad 0)), (1, .int x1), (2, .int x2), (3, .ref o)]) hx hb d_W_take_25 hl (by decide) rfl (fun ls hl => ?_)
          refine lv_iconst (v := 4) hx hb d_W_take_27 (by decide) ?_
          exact W.iret (v := 4) hx hb hr (fun t ht hW => ⟨⟨4, (u9, f), rfl, h, by rw [ht]; exact hP, hD⟩, hS.F ht⟩) hS.2.2 d_W_take_28
    · obtain ⟨hP1, hD1⟩ := hB
      rw [ht] at hP1
      obtain ⟨hP, hD⟩ := va_join (wr := [(o, .inl (ca 1, 1, .inr (.inl f)))]) (w1 := wC ca ad u) hP hD [1, 2, 3, 4, 5, 6, 7, 8, 9, 10, 11, 12, 13, 14, 15] [0] rfl rfl (by decide) (by decide) hk1 hFc hP1 hD1
      have hP : va_P D cls (wHl ca ad o (u, f)) H1 := hP
      have hD : va_D A (wHl ca ad o (u, f)) := hD
      refine lv_i2l (v := r.toInt64) hx hb d_W_take_8 rfl ?_
      refine va_last (D := D) hx hb hK hP hD hS 0 1 rfl rfl (by unfold vp_in; decide) d_W_take_9 (fun H locs hP hD hS => ?_)
      have hP : va_P D cls (wHl ca ad o (u, vp_updL f 0 r.toInt64)) H := hP
      have hD : va_D A (wHl ca ad o (u, vp_updL f 0 r.toInt64)) := hD
      refine lv_goto (tgt := 29) hx hb d_W_take_10 (by decide) ?_
      refine lv_iconst (v := 0) hx hb d_W_take_29 (by decide) ?_
      exact W.iret (v := 0) hx hb hr (fun t ht hW => ⟨⟨0, (u, vp_updL f 0 r.toInt64), rfl, hq, by rw [ht]; exact hP, hD⟩, hS.F ht⟩) hS.2.2 d_W_take_30
  exact hH9 _ rfl hP hS
theorem d_W_second_0 : decode b_W_second 0 = .ok (.aload 5, 2) := by decide +kernel
theorem d_W_second_2 : decode b_W_second 2 = .ok (.iconst 0, 1) := by decide +kernel
theorem d_W_second_3 : decode b_W_second 3 = .ok (.aload_n 0, 1) := by decide +kernel
theorem d_W_second_4 : decode b_W_second 4 = .ok (.iload_n 1, 1) := by decide +kernel
theorem d_W_second_5 : decode b_W_second 5 = .ok (.dload_n 2, 1) := by decide +kernel
theorem d_W_second_6 : decode b_W_second 6 = .ok (.iload 4, 2) := by decide +kernel
theorem d_W_second_8 : decode b_W_second 8 = .ok (.invokevirtual 46, 3) := by decide +kernel
theorem d_W_second_11 : decode b_W_second 11 = .ok (.i2l, 1) := by decide +kernel
theorem d_W_second_12 : decode b_W_second 12 = .ok (.lastore, 1) := by decide +kernel
theorem d_W_second_13 : decode b_W_second 13 = .ok (.goto 19, 3) := by decide +kernel
theorem d_W_second_16 : decode b_W_second 16 = .ok (.astore 6, 2) := by decide +kernel
theorem d_W_second_18 : decode b_W_second 18 = .ok (.iconst 1, 1) := by decide +kernel
theorem d_W_second_19 : decode b_W_second 19 = .ok (.ireturn, 1) := by decide +kernel
theorem d_W_second_20 : decode b_W_second 20 = .ok (.astore 6, 2) := by decide +kernel
theorem d_W_second_22 : decode b_W_second 22 = .ok (.iconst 2, 1) := by decide +kernel
theorem d_W_second_23 : decode b_W_second 23 = .ok (.ireturn, 1) := by decide +kernel
theorem d_W_second_24 : decode b_W_second 24 = .ok (.astore 6, 2) := by decide +kernel
theorem d_W_second_26 : decode b_W_second 26 = .ok (.iconst 3, 1) := by decide +kernel
theorem d_W_second_27 : decode b_W_second 27 = .ok (.ireturn, 1) := by decide +kernel
theorem d_W_second_28 : decode b_W_second 28 = .ok (.astore 6, 2) := by decide +kernel
theorem d_W_second_30 : decode b_W_second 30 = .ok (.iconst 4, 1) := by decide +kernel
theorem d_W_second_31 : decode b_W_second 31 = .ok (.ireturn, 1) := by decide +kernel
theorem d_W_second_32 : decode b_W_second 32 = .ok (.iconst 0, 1) := by decide +kernel
theorem d_W_second_33 : decode b_W_second 33 = .ok (.ireturn, 1) := by decide +kernel
theorem gl_W_46 : ∀ w ∈ wsV "TrainGuardLaw" 46 "TrainGuard" y_G_second (Cond.code y_G_second b_G_second 7 (some Jvm.ClassFile.FieldType.int) :: tG), w ∈ tG := by
  intro x hx
  simp only [wsV, List.cons_append, List.nil_append, List.mem_cons] at hx
  rcases hx with rfl | rfl | rfl | rfl | rfl | hx
  · exact wd_488
  · exact wd_489
  · exact wd_490
  · exact wd_1
  · exact wd_491
  · exact hx
def w_W_second (T : SC × (Nat → Int64)) (x1 : Int32) (x2 : UInt64) (x3 : Int32) (Q : Int32 → SC × (Nat → Int64) → Prop) : Prop := w_G_second T.1 x1 x2 x3 (fun r u => Q 0 (u, vp_updL T.2 0 r.toInt64)) (fun k u => (k = 1 ∨ k = 2 ∨ k = 3 ∨ k = 4) ∧ Q (nI k) (u, T.2))
set_option maxRecDepth 100000 in
set_option maxHeartbeats 4000000 in
theorem c_W_second (l : Launch) (hl0 : l.stackTraces = false) (D : va_G) (ca : Nat → ClassId) (ad : Nat → Nat) (o sz : Nat) (T : SC × (Nat → Int64)) (x1 : Int32) (x2 : UInt64) (x3 : Int32) (Q : Int32 → SC × (Nat → Int64) → Prop) (h : w_W_second T x1 x2 x3 Q) : Met l y_W_second (Cond.codeWith y_W_second b_W_second 7 (some Jvm.ClassFile.FieldType.int) [(0, 13, 16, 13), (0, 13, 20, 15), (0, 13, 24, 17), (0, 13, 28, 19)] :: tG) ({ frames := 9, cells := 2, slots := 12, locals := 195 } : Room) (xPh D ca (wHl ca ad o) T sz [.ref (ad 0), .int x1, .double x2, .int x3, .ref o]) (va_Qi Q (xAt D (wHl ca ad o) (va_A (wHl ca ad o T) sz)) (va_A (wHl ca ad o T) sz)) 2 12 (va_A (wHl ca ad o T) sz) := by
  refine xx_meth (Qf := fun A => va_Qi Q (xAt D (wHl ca ad o) A) A) (by decide) (Nat.le_of_ble_eq_true rfl) ?_
  intro p e s m args below meth c A ls hx hb hr hw hown hlocks hml hK hN hA hP hD hS hl hZ htab hX hC
  have hown : s.vm.findClass "TrainGuardLaw" = some m.cls := hown
  have hl : lv_has ls 7 [(0, .ref (ad 0)), (1, .int x1), (2, .double x2), (4, .int x3), (5, .ref o)] := hl
  unfold w_W_second at h
  obtain ⟨S, f⟩ := T
  have hH9 : ∀ H : Heap, H = s.heap → va_P D cls (wHl ca ad o (S, f)) H → va_S A s.heap H [] → W p l e ({ frames := 9, cells := 2, slots := 12, locals := 195 } : Room) s m args below meth c H [] 0 0 (MQ below ((fun A => va_Qi Q (xAt D (wHl ca ad o) A) A) A) args s 2 12 A) (F0 m 0 ls []) := by
    clear hP hS
    intro H hH hP hS
    refine lv_aload hx hb d_W_second_0 (lv_at hl 4 rfl) ?_
    refine lv_iconst (v := 0) hx hb d_W_second_2 (by decide) ?_
    refine lv_aload_n hx hb d_W_second_3 rfl (lv_at hl 0 rfl) ?_
    refine lv_iload_n hx hb d_W_second_4 rfl (lv_at hl 1 rfl) ?_
    refine lv_dload_n hx hb d_W_second_5 rfl (lv_at hl 2 rfl) ?_
    refine lv_iload hx hb d_W_second_6 (lv_at hl 3 rfl) ?_
    have hPc := hP.sub (ws' := wC ca ad S) [1, 2, 3, 4, 5, 6, 7, 8, 9, 10, 11, 12, 13, 14, 15] rfl
    have hDc := hD.sub (ws' := wC ca ad S) [1, 2, 3, 4, 5, 6, 7, 8, 9, 10, 11, 12, 13, 14, 15] (by decide) rfl
    have hFc := va_free (wc := wC ca ad S) hD hS hA [1, 2, 3, 4, 5, 6, 7, 8, 9, 10, 11, 12, 13, 14, 15] rfl
    refine vx_calli (vx_runV (As := [.int x1, .double x2, .int x3]) (rest := [.int 0, .ref o]) ⟨hx, hb, hml, hown, hw⟩ (c_G_second l hl0 D ca ad H.size S x1 x2 x3 _ _ h) (cwV 3 hw (tG_g gl_W_46) rfl rfl rfl (by decide +kernel) ⟨Nat.le_of_ble_eq_true rfl, Nat.le_of_ble_eq_true rfl⟩) ⟨xPx.blind, va_recv hK hP rfl (q0 := 1) rfl, xPx.pre hK hN hPc hDc hX (hZ.now hS hA hDc)⟩ rfl rfl hl.1 rfl (lv_room (Nat.le_of_ble_eq_true rfl)) d_W_second_8 ⟨Nat.le_of_ble_eq_true rfl, Nat.le_of_ble_eq_true rfl⟩) hS (fun q _ h => hFc q h) hFc (fun q _ h => hFc q h) (fun E ce q9 u t H1 locs ht hvm hp hB hz1 hk1 hS hce hcv hcl => ?_) (fun r u t H1 locs ht hvm hq hB hz1 hk1 hS => ?_)
    · obtain ⟨hE, hP1, hD1⟩ := hB
      rw [ht] at hP1
      obtain ⟨hP, hD⟩ := va_join (wr := [(o, .inl (ca 1, 1, .inr (.inl f)))]) (w1 := wC ca ad u.2) hP hD [1, 2, 3, 4, 5, 6, 7, 8, 9, 10, 11, 12, 13, 14, 15] [0] rfl rfl (by decide) (by decide) hk1 hFc hP1 hD1
      have hP : va_P D cls (wHl ca ad o (u.2, f)) H1 := hP
      have hD : va_D A (wHl ca ad o (u.2, f)) := hD
      obtain ⟨hk, h⟩ := hp
      obtain ⟨k9, u9⟩ := u
      rcases hk with hk | hk | hk | hk <;> (replace hk : k9 = _ := hk; subst hk; replace hE : E = _ := hE; subst hE)
      · refine vx_catch (E := xNm 1) (name := "java/lang/IllegalArgumentException") hown [] (⟨0, 13, 16, 13⟩ : ExceptionTableEntry) [(⟨0, 13, 20, 15⟩ : ExceptionTableEntry), (⟨0, 13, 24, 17⟩ : ExceptionTableEntry), (⟨0, 13, 28, 19⟩ : ExceptionTableEntry)] (by rw [htab]; rfl) (fun z hz => ?_) (by decide) (by decide) (hw _ wd_158) ((hX _ (List.mem_of_getElem? (i := 0) (by rfl))).use rfl) hce hcv hcl ?_
        · cases hz
        · refine lv_astore (lv' := [(6, .ref q9), (0, .ref (ad 0)), (1, .int x1), (2, .double x2), (4, .int x3), (5, .ref o)]) hx hb d_W_second_16 hl (by decide) rfl (fun ls hl => ?_)
          refine lv_iconst (v := 1) hx hb d_W_second_18 (by decide) ?_
          exact W.iret (v := 1) hx hb hr (fun t ht hW => ⟨⟨1, (u9, f), rfl, h, by rw [ht]; exact hP, hD⟩, hS.F ht⟩) hS.2.2 d_W_second_19
      · refine vx_catch (E := xNm 2) (name := "java/util/NoSuchElementException") hown [(⟨0, 13, 16, 13⟩ : ExceptionTableEntry)] (⟨0, 13, 20, 15⟩ : ExceptionTableEntry) [(⟨0, 13, 24, 17⟩ : ExceptionTableEntry), (⟨0, 13, 28, 19⟩ : ExceptionTableEntry)] (by rw [htab]; rfl) (fun z hz => ?_) (by decide) (by decide) (hw _ wd_159) ((hX _ (List.mem_of_getElem? (i := 9) (by rfl))).use rfl) hce hcv hcl ?_
        · simp only [List.mem_cons, List.not_mem_nil, or_false] at hz
          rcases hz with rfl
          · exact Or.inr ⟨by decide, "java/lang/IllegalArgumentException", hw _ wd_158, hC ("java/util/NoSuchElementException", "java/lang/IllegalArgumentException") (List.mem_of_getElem? (i := 0) (by rfl))⟩
        · refine lv_astore (lv' := [(6, .ref q9), (0, .ref (ad 0)), (1, .int x1), (2, .double x2), (4, .int x3), (5, .ref o)]) hx hb d_W_second_20 hl (by decide) rfl (fun ls hl => ?_)
          refine lv_iconst (v := 2) hx hb d_W_second_22 (by decide) ?_
          exact W.iret (v := 2) hx hb hr (fun t ht hW => ⟨⟨2, (u9, f), rfl, h, by rw [ht]; exact hP, hD⟩, hS.F ht⟩) hS.2.2 d_W_second_23
      · refine vx_catch (E := xNm 3) (name := "java/lang/IllegalStateException") hown [(⟨0, 13, 16, 13⟩ : ExceptionTableEntry), (⟨0, 13, 20, 15⟩ : ExceptionTableEntry)] (⟨0, 13, 24, 17⟩ : ExceptionTableEntry) [(⟨0, 13, 28, 19⟩ : ExceptionTableEntry)] (by rw [htab]; rfl) (fun z hz => ?_) (by decide) (by decide) (hw _ wd_160) ((hX _ (List.mem_of_getElem? (i := 7) (by rfl))).use rfl) hce hcv hcl ?_
        · simp only [List.mem_cons, List.not_mem_nil, or_false] at hz
          rcases hz with rfl | rfl
          · exact Or.inr ⟨by decide, "java/lang/IllegalArgumentException", hw _ wd_158, hC ("java/lang/IllegalStateException", "java/lang/IllegalArgumentException") (List.mem_of_getElem? (i := 1) (by rfl))⟩
          · exact Or.inr ⟨by decide, "java/util/NoSuchElementException", hw _ wd_159, hC ("java/lang/IllegalStateException", "java/util/NoSuchElementException") (List.mem_of_getElem? (i := 2) (by rfl))⟩
        · refine lv_astore (lv' := [(6, .ref q9), (0, .ref (ad 0)), (1, .int x1), (2, .double x2), (4, .int x3), (5, .ref o)]) hx hb d_W_second_24 hl (by decide) rfl (fun ls hl => ?_)
          refine lv_iconst (v := 3) hx hb d_W_second_26 (by decide) ?_
          exact W.iret (v := 3) hx hb hr (fun t ht hW => ⟨⟨3, (u9, f), rfl, h, by rw [ht]; exact hP, hD⟩, hS.F ht⟩) hS.2.2 d_W_second_27
      · refine vx_catch (E := xNm 4) (name := "java/lang/UnsupportedOperationException") hown [(⟨0, 13, 16, 13⟩ : ExceptionTableEntry), (⟨0, 13, 20, 15⟩ : ExceptionTableEntry), (⟨0, 13, 24, 17⟩ : ExceptionTableEntry)] (⟨0, 13, 28, 19⟩ : ExceptionTableEntry) [] (by rw [htab]; rfl) (fun z hz => ?_) (by decide) (by decide) (hw _ wd_161) ((hX _ (List.mem_of_getElem? (i := 8) (by rfl))).use rfl) hce hcv hcl ?_
        · simp only [List.mem_cons, List.not_mem_nil, or_false] at hz
          rcases hz with rfl | rfl | rfl
          · exact Or.inr ⟨by decide, "java/lang/IllegalArgumentException", hw _ wd_158, hC ("java/lang/UnsupportedOperationException", "java/lang/IllegalArgumentException") (List.mem_of_getElem? (i := 3) (by rfl))⟩
          · exact Or.inr ⟨by decide, "java/util/NoSuchElementException", hw _ wd_159, hC ("java/lang/UnsupportedOperationException", "java/util/NoSuchElementException") (List.mem_of_getElem? (i := 4) (by rfl))⟩
          · exact Or.inr ⟨by decide, "java/lang/IllegalStateException", hw _ wd_160, hC ("java/lang/UnsupportedOperationException", "java/lang/IllegalStateException") (List.mem_of_getElem? (i := 5) (by rfl))⟩
        · refine lv_astore (lv' := [(6, .ref q9), (0, .ref (ad 0)), (1, .int x1), (2, .double x2), (4, .int x3), (5, .ref o)]) hx hb d_W_second_28 hl (by decide) rfl (fun ls hl => ?_)
          refine lv_iconst (v := 4) hx hb d_W_second_30 (by decide) ?_
          exact W.iret (v := 4) hx hb hr (fun t ht hW => ⟨⟨4, (u9, f), rfl, h, by rw [ht]; exact hP, hD⟩, hS.F ht⟩) hS.2.2 d_W_second_31
    · obtain ⟨hP1, hD1⟩ := hB
      rw [ht] at hP1
      obtain ⟨hP, hD⟩ := va_join (wr := [(o, .inl (ca 1, 1, .inr (.inl f)))]) (w1 := wC ca ad u) hP hD [1, 2, 3, 4, 5, 6, 7, 8, 9, 10, 11, 12, 13, 14, 15] [0] rfl rfl (by decide) (by decide) hk1 hFc hP1 hD1
      have hP : va_P D cls (wHl ca ad o (u, f)) H1 := hP
      have hD : va_D A (wHl ca ad o (u, f)) := hD
      refine lv_i2l (v := r.toInt64) hx hb d_W_second_11 rfl ?_
      refine va_last (D := D) hx hb hK hP hD hS 0 1 rfl rfl (by unfold vp_in; decide) d_W_second_12 (fun H locs hP hD hS => ?_)
      have hP : va_P D cls (wHl ca ad o (u, vp_updL f 0 r.toInt64)) H := hP
      have hD : va_D A (wHl ca ad o (u, vp_updL f 0 r.toInt64)) := hD
      refine lv_goto (tgt := 32) hx hb d_W_second_13 (by decide) ?_
      refine lv_iconst (v := 0) hx hb d_W_second_32 (by decide) ?_
      exact W.iret (v := 0) hx hb hr (fun t ht hW => ⟨⟨0, (u, vp_updL f 0 r.toInt64), rfl, hq, by rw [ht]; exact hP, hD⟩, hS.F ht⟩) hS.2.2 d_W_second_33
  exact hH9 _ rfl hP hS
theorem d_W_wet_0 : decode b_W_wet 0 = .ok (.aload_n 3, 1) := by decide +kernel
theorem d_W_wet_1 : decode b_W_wet 1 = .ok (.iconst 0, 1) := by decide +kernel
theorem d_W_wet_2 : decode b_W_wet 2 = .ok (.aload_n 0, 1) := by decide +kernel
theorem d_W_wet_3 : decode b_W_wet 3 = .ok (.iload_n 1, 1) := by decide +kernel
theorem d_W_wet_4 : decode b_W_wet 4 = .ok (.iload_n 2, 1) := by decide +kernel
theorem d_W_wet_5 : decode b_W_wet 5 = .ok (.invokevirtual 50, 3) := by decide +kernel
theorem d_W_wet_8 : decode b_W_wet 8 = .ok (.i2l, 1) := by decide +kernel
theorem d_W_wet_9 : decode b_W_wet 9 = .ok (.lastore, 1) := by decide +kernel
theorem d_W_wet_10 : decode b_W_wet 10 = .ok (.goto 19, 3) := by decide +kernel
theorem d_W_wet_13 : decode b_W_wet 13 = .ok (.astore 4, 2) := by decide +kernel
theorem d_W_wet_15 : decode b_W_wet 15 = .ok (.iconst 1, 1) := by decide +kernel
theorem d_W_wet_16 : decode b_W_wet 16 = .ok (.ireturn, 1) := by decide +kernel
theorem d_W_wet_17 : decode b_W_wet 17 = .ok (.astore 4, 2) := by decide +kernel
theorem d_W_wet_19 : decode b_W_wet 19 = .ok (.iconst 2, 1) := by decide +kernel
theorem d_W_wet_20 : decode b_W_wet 20 = .ok (.ireturn, 1) := by decide +kernel
theorem d_W_wet_21 : decode b_W_wet 21 = .ok (.astore 4, 2) := by decide +kernel
theorem d_W_wet_23 : decode b_W_wet 23 = .ok (.iconst 3, 1) := by decide +kernel
theorem d_W_wet_24 : decode b_W_wet 24 = .ok (.ireturn, 1) := by decide +kernel
theorem d_W_wet_25 : decode b_W_wet 25 = .ok (.astore 4, 2) := by decide +kernel
theorem d_W_wet_27 : decode b_W_wet 27 = .ok (.iconst 4, 1) := by decide +kernel
theorem d_W_wet_28 : decode b_W_wet 28 = .ok (.ireturn, 1) := by decide +kernel
theorem d_W_wet_29 : decode b_W_wet 29 = .ok (.iconst 0, 1) := by decide +kernel
theorem d_W_wet_30 : decode b_W_wet 30 = .ok (.ireturn, 1) := by decide +kernel
theorem gl_W_50 : ∀ w ∈ wsV "TrainGuardLaw" 50 "TrainGuard" y_G_wet (Cond.code y_G_wet b_G_wet 3 (some Jvm.ClassFile.FieldType.int) :: tG), w ∈ tG := by
  intro x hx
  simp only [wsV, List.cons_append, List.nil_append, List.mem_cons] at hx
  rcases hx with rfl | rfl | rfl | rfl | rfl | hx
  · exact wd_530
  · exact wd_531
  · exact wd_532
  · exact wd_1
  · exact wd_533
  · exact hx
def w_W_wet (T : SC × (Nat → Int64)) (x1 : Int32) (x2 : Int32) (Q : Int32 → SC × (Nat → Int64) → Prop) : Prop := w_G_wet T.1 x1 x2 (fun r u => Q 0 (u, vp_updL T.2 0 r.toInt64)) (fun k u => (k = 1 ∨ k = 2 ∨ k = 3 ∨ k = 4) ∧ Q (nI k) (u, T.2))
set_option maxRecDepth 100000 in
set_option maxHeartbeats 4000000 in
theorem c_W_wet (l : Launch) (hl0 : l.stackTraces = false) (D : va_G) (ca : Nat → ClassId) (ad : Nat → Nat) (o sz : Nat) (T : SC × (Nat → Int64)) (x1 : Int32) (x2 : Int32) (Q : Int32 → SC × (Nat → Int64) → Prop) (h : w_W_wet T x1 x2 Q) : Met l y_W_wet (Cond.codeWith y_W_wet b_W_wet 5 (some Jvm.ClassFile.FieldType.int) [(0, 10, 13, 13), (0, 10, 17, 15), (0, 10, 21, 17), (0, 10, 25, 19)] :: tG) ({ frames := 9, cells := 2, slots := 12, locals := 144 } : Room) (xPh D ca (wHl ca ad o) T sz [.ref (ad 0), .int x1, .int x2, .ref o]) (va_Qi Q (xAt D (wHl ca ad o) (va_A (wHl ca ad o T) sz)) (va_A (wHl ca ad o T) sz)) 2 12 (va_A (wHl ca ad o T) sz) := by
  refine xx_meth (Qf := fun A => va_Qi Q (xAt D (wHl ca ad o) A) A) (by decide) (Nat.le_of_ble_eq_true rfl) ?_
  intro p e s m args below meth c A ls hx hb hr hw hown hlocks hml hK hN hA hP hD hS hl hZ htab hX hC
  have hown : s.vm.findClass "TrainGuardLaw" = some m.cls := hown
  have hl : lv_has ls 5 [(0, .ref (ad 0)), (1, .int x1), (2, .int x2), (3, .ref o)] := hl
  unfold w_W_wet at h
  obtain ⟨S, f⟩ := T
  have hH9 : ∀ H : Heap, H = s.heap → va_P D cls (wHl ca ad o (S, f)) H → va_S A s.heap H [] → W p l e ({ frames := 9, cells := 2, slots := 12, locals := 144 } : Room) s m args below meth c H [] 0 0 (MQ below ((fun A => va_Qi Q (xAt D (wHl ca ad o) A) A) A) args s 2 12 A) (F0 m 0 ls []) := by
    clear hP hS
    intro H hH hP hS
    refine lv_aload_n hx hb d_W_wet_0 rfl (lv_at hl 3 rfl) ?_
    refine lv_iconst (v := 0) hx hb d_W_wet_1 (by decide) ?_
    refine lv_aload_n hx hb d_W_wet_2 rfl (lv_at hl 0 rfl) ?_
    refine lv_iload_n hx hb d_W_wet_3 rfl (lv_at hl 1 rfl) ?_
    refine lv_iload_n hx hb d_W_wet_4 rfl (lv_at hl 2 rfl) ?_
    have hPc := hP.sub (ws' := wC ca ad S) [1, 2, 3, 4, 5, 6, 7, 8, 9, 10, 11, 12, 13, 14, 15] rfl
    have hDc := hD.sub (ws' := wC ca ad S) [1, 2, 3, 4, 5, 6, 7, 8, 9, 10, 11, 12, 13, 14, 15] (by decide) rfl
    have hFc := va_free (wc := wC ca ad S) hD hS hA [1, 2, 3, 4, 5, 6, 7, 8, 9, 10, 11, 12, 13, 14, 15] rfl
    refine vx_calli (vx_runV (As := [.int x1, .int x2]) (rest := [.int 0, .ref o]) ⟨hx, hb, hml, hown, hw⟩ (c_G_wet l hl0 D ca ad H.size S x1 x2 _ _ h) (cwV 2 hw (tG_g gl_W_50) rfl rfl rfl (by decide +kernel) ⟨Nat.le_of_ble_eq_true rfl, Nat.le_of_ble_eq_true rfl⟩) ⟨xPx.blind, va_recv hK hP rfl (q0 := 1) rfl, xPx.pre hK hN hPc hDc hX (hZ.now hS hA hDc)⟩ rfl rfl hl.1 rfl (lv_room (Nat.le_of_ble_eq_true rfl)) d_W_wet_5 ⟨Nat.le_of_ble_eq_true rfl, Nat.le_of_ble_eq_true rfl⟩) hS (fun q _ h => hFc q h) hFc (fun q _ h => hFc q h) (fun E ce q9 u t H1 locs ht hvm hp hB hz1 hk1 hS hce hcv hcl => ?_) (fun r u t H1 locs ht hvm hq hB hz1 hk1 hS => ?_)
    · obtain ⟨hE, hP1, hD1⟩ := hB
      rw [ht] at hP1
      obtain ⟨hP, hD⟩ := va_join (wr := [(o, .inl (ca 1, 1, .inr (.inl f)))]) (w1 := wC ca ad u.2) hP hD [1, 2, 3, 4, 5, 6, 7, 8, 9, 10, 11, 12, 13, 14, 15] [0] rfl rfl (by decide) (by decide) hk1 hFc hP1 hD1
      have hP : va_P D cls (wHl ca ad o (u.2, f)) H1 := hP
      have hD : va_D A (wHl ca ad o (u.2, f)) := hD
      obtain ⟨hk, h⟩ := hp
      obtain ⟨k9, u9⟩ := u
      rcases hk with hk | hk | hk | hk <;> (replace hk : k9 = _ := hk; subst hk; replace hE : E = _ := hE; subst hE)
      · refine vx_catch (E := xNm 1) (name := "java/lang/IllegalArgumentException") hown [] (⟨0, 10, 13, 13⟩ : ExceptionTableEntry) [(⟨0, 10, 17, 15⟩ : ExceptionTableEntry), (⟨0, 10, 21, 17⟩ : ExceptionTableEntry), (⟨0, 10, 25, 19⟩ : ExceptionTableEntry)] (by rw [htab]; rfl) (fun z hz => ?_) (by decide) (by decide) (hw _ wd_158) ((hX _ (List.mem_of_getElem? (i := 0) (by rfl))).use rfl) hce hcv hcl ?_
        · cases hz
        · refine lv_astore (lv' := [(4, .ref q9), (0, .ref (ad 0)), (1, .int x1), (2, .int x2), (3, .ref o)]) hx hb d_W_wet_13 hl (by decide) rfl (fun ls hl => ?_)
          refine lv_iconst (v := 1) hx hb d_W_wet_15 (by decide) ?_
          exact W.iret (v := 1) hx hb hr (fun t ht hW => ⟨⟨1, (u9, f), rfl, h, by rw [ht]; exact hP, hD⟩, hS.F ht⟩) hS.2.2 d_W_wet_16
      · refine vx_catch (E := xNm 2) (name := "java/util/NoSuchElementException") hown [(⟨0, 10, 13, 13⟩ : ExceptionTableEntry)] (⟨0, 10, 17, 15⟩ : ExceptionTableEntry) [(⟨0, 10, 21, 17⟩ : ExceptionTableEntry), (⟨0, 10, 25, 19⟩ : ExceptionTableEntry)] (by rw [htab]; rfl) (fun z hz => ?_) (by decide) (by decide) (hw _ wd_159) ((hX _ (List.mem_of_getElem? (i := 9) (by rfl))).use rfl) hce hcv hcl ?_
        · simp only [List.mem_cons, List.not_mem_nil, or_false] at hz
          rcases hz with rfl
          · exact Or.inr ⟨by decide, "java/lang/IllegalArgumentException", hw _ wd_158, hC ("java/util/NoSuchElementException", "java/lang/IllegalArgumentException") (List.mem_of_getElem? (i := 0) (by rfl))⟩
        · refine lv_astore (lv' := [(4, .ref q9), (0, .ref (ad 0)), (1, .int x1), (2, .int x2), (3, .ref o)]) hx hb d_W_wet_17 hl (by decide) rfl (fun ls hl => ?_)
          refine lv_iconst (v := 2) hx hb d_W_wet_19 (by decide) ?_
          exact W.iret (v := 2) hx hb hr (fun t ht hW => ⟨⟨2, (u9, f), rfl, h, by rw [ht]; exact hP, hD⟩, hS.F ht⟩) hS.2.2 d_W_wet_20
      · refine vx_catch (E := xNm 3) (name := "java/lang/IllegalStateException") hown [(⟨0, 10, 13, 13⟩ : ExceptionTableEntry), (⟨0, 10, 17, 15⟩ : ExceptionTableEntry)] (⟨0, 10, 21, 17⟩ : ExceptionTableEntry) [(⟨0, 10, 25, 19⟩ : ExceptionTableEntry)] (by rw [htab]; rfl) (fun z hz => ?_) (by decide) (by decide) (hw _ wd_160) ((hX _ (List.mem_of_getElem? (i := 7) (by rfl))).use rfl) hce hcv hcl ?_
        · simp only [List.mem_cons, List.not_mem_nil, or_false] at hz
          rcases hz with rfl | rfl
          · exact Or.inr ⟨by decide, "java/lang/IllegalArgumentException", hw _ wd_158, hC ("java/lang/IllegalStateException", "java/lang/IllegalArgumentException") (List.mem_of_getElem? (i := 1) (by rfl))⟩
          · exact Or.inr ⟨by decide, "java/util/NoSuchElementException", hw _ wd_159, hC ("java/lang/IllegalStateException", "java/util/NoSuchElementException") (List.mem_of_getElem? (i := 2) (by rfl))⟩
        · refine lv_astore (lv' := [(4, .ref q9), (0, .ref (ad 0)), (1, .int x1), (2, .int x2), (3, .ref o)]) hx hb d_W_wet_21 hl (by decide) rfl (fun ls hl => ?_)
          refine lv_iconst (v := 3) hx hb d_W_wet_23 (by decide) ?_
          exact W.iret (v := 3) hx hb hr (fun t ht hW => ⟨⟨3, (u9, f), rfl, h, by rw [ht]; exact hP, hD⟩, hS.F ht⟩) hS.2.2 d_W_wet_24
      · refine vx_catch (E := xNm 4) (name := "java/lang/UnsupportedOperationException") hown [(⟨0, 10, 13, 13⟩ : ExceptionTableEntry), (⟨0, 10, 17, 15⟩ : ExceptionTableEntry), (⟨0, 10, 21, 17⟩ : ExceptionTableEntry)] (⟨0, 10, 25, 19⟩ : ExceptionTableEntry) [] (by rw [htab]; rfl) (fun z hz => ?_) (by decide) (by decide) (hw _ wd_161) ((hX _ (List.mem_of_getElem? (i := 8) (by rfl))).use rfl) hce hcv hcl ?_
        · simp only [List.mem_cons, List.not_mem_nil, or_false] at hz
          rcases hz with rfl | rfl | rfl
          · exact Or.inr ⟨by decide, "java/lang/IllegalArgumentException", hw _ wd_158, hC ("java/lang/UnsupportedOperationException", "java/lang/IllegalArgumentException") (List.mem_of_getElem? (i := 3) (by rfl))⟩
          · exact Or.inr ⟨by decide, "java/util/NoSuchElementException", hw _ wd_159, hC ("java/lang/UnsupportedOperationException", "java/util/NoSuchElementException") (List.mem_of_getElem? (i := 4) (by rfl))⟩
          · exact Or.inr ⟨by decide, "java/lang/IllegalStateException", hw _ wd_160, hC ("java/lang/UnsupportedOperationException", "java/lang/IllegalStateException") (List.mem_of_getElem? (i := 5) (by rfl))⟩
        · refine lv_astore (lv' := [(4, .ref q9), (0, .ref (ad 0)), (1, .int x1), (2, .int x2), (3, .ref o)]) hx hb d_W_wet_25 hl (by decide) rfl (fun ls hl => ?_)
          refine lv_iconst (v := 4) hx hb d_W_wet_27 (by decide) ?_
          exact W.iret (v := 4) hx hb hr (fun t ht hW => ⟨⟨4, (u9, f), rfl, h, by rw [ht]; exact hP, hD⟩, hS.F ht⟩) hS.2.2 d_W_wet_28
    · obtain ⟨hP1, hD1⟩ := hB
      rw [ht] at hP1
      obtain ⟨hP, hD⟩ := va_join (wr := [(o, .inl (ca 1, 1, .inr (.inl f)))]) (w1 := wC ca ad u) hP hD [1, 2, 3, 4, 5, 6, 7, 8, 9, 10, 11, 12, 13, 14, 15] [0] rfl rfl (by decide) (by decide) hk1 hFc hP1 hD1
      have hP : va_P D cls (wHl ca ad o (u, f)) H1 := hP
      have hD : va_D A (wHl ca ad o (u, f)) := hD
      refine lv_i2l (v := r.toInt64) hx hb d_W_wet_8 rfl ?_
      refine va_last (D := D) hx hb hK hP hD hS 0 1 rfl rfl (by unfold vp_in; decide) d_W_wet_9 (fun H locs hP hD hS => ?_)
      have hP : va_P D cls (wHl ca ad o (u, vp_updL f 0 r.toInt64)) H := hP
      have hD : va_D A (wHl ca ad o (u, vp_updL f 0 r.toInt64)) := hD
      refine lv_goto (tgt := 29) hx hb d_W_wet_10 (by decide) ?_
      refine lv_iconst (v := 0) hx hb d_W_wet_29 (by decide) ?_
      exact W.iret (v := 0) hx hb hr (fun t ht hW => ⟨⟨0, (u, vp_updL f 0 r.toInt64), rfl, hq, by rw [ht]; exact hP, hD⟩, hS.F ht⟩) hS.2.2 d_W_wet_30
  exact hH9 _ rfl hP hS
theorem d_W_acknowledge_0 : decode b_W_acknowledge 0 = .ok (.aload_n 2, 1) := by decide +kernel
theorem d_W_acknowledge_1 : decode b_W_acknowledge 1 = .ok (.iconst 0, 1) := by decide +kernel
theorem d_W_acknowledge_2 : decode b_W_acknowledge 2 = .ok (.aload_n 0, 1) := by decide +kernel
theorem d_W_acknowledge_3 : decode b_W_acknowledge 3 = .ok (.iload_n 1, 1) := by decide +kernel
theorem d_W_acknowledge_4 : decode b_W_acknowledge 4 = .ok (.invokevirtual 54, 3) := by decide +kernel
theorem d_W_acknowledge_7 : decode b_W_acknowledge 7 = .ok (.i2l, 1) := by decide +kernel
theorem d_W_acknowledge_8 : decode b_W_acknowledge 8 = .ok (.lastore, 1) := by decide +kernel
theorem d_W_acknowledge_9 : decode b_W_acknowledge 9 = .ok (.goto 15, 3) := by decide +kernel
theorem d_W_acknowledge_12 : decode b_W_acknowledge 12 = .ok (.astore_n 3, 1) := by decide +kernel
theorem d_W_acknowledge_13 : decode b_W_acknowledge 13 = .ok (.iconst 1, 1) := by decide +kernel
theorem d_W_acknowledge_14 : decode b_W_acknowledge 14 = .ok (.ireturn, 1) := by decide +kernel
theorem d_W_acknowledge_15 : decode b_W_acknowledge 15 = .ok (.astore_n 3, 1) := by decide +kernel
theorem d_W_acknowledge_16 : decode b_W_acknowledge 16 = .ok (.iconst 2, 1) := by decide +kernel
theorem d_W_acknowledge_17 : decode b_W_acknowledge 17 = .ok (.ireturn, 1) := by decide +kernel
theorem d_W_acknowledge_18 : decode b_W_acknowledge 18 = .ok (.astore_n 3, 1) := by decide +kernel
theorem d_W_acknowledge_19 : decode b_W_acknowledge 19 = .ok (.iconst 3, 1) := by decide +kernel
theorem d_W_acknowledge_20 : decode b_W_acknowledge 20 = .ok (.ireturn, 1) := by decide +kernel
theorem d_W_acknowledge_21 : decode b_W_acknowledge 21 = .ok (.astore_n 3, 1) := by decide +kernel
theorem d_W_acknowledge_22 : decode b_W_acknowledge 22 = .ok (.iconst 4, 1) := by decide +kernel
theorem d_W_acknowledge_23 : decode b_W_acknowledge 23 = .ok (.ireturn, 1) := by decide +kernel
theorem d_W_acknowledge_24 : decode b_W_acknowledge 24 = .ok (.iconst 0, 1) := by decide +kernel
theorem d_W_acknowledge_25 : decode b_W_acknowledge 25 = .ok (.ireturn, 1) := by decide +kernel
theorem gl_W_54 : ∀ w ∈ wsV "TrainGuardLaw" 54 "TrainGuard" y_G_acknowledge (Cond.code y_G_acknowledge b_G_acknowledge 3 (some Jvm.ClassFile.FieldType.int) :: tG), w ∈ tG := by
  intro x hx
  simp only [wsV, List.cons_append, List.nil_append, List.mem_cons] at hx
  rcases hx with rfl | rfl | rfl | rfl | rfl | hx
  · exact wd_537
  · exact wd_538
  · exact wd_539
  · exact wd_1
  · exact wd_540
  · exact hx
def w_W_acknowledge (T : SC × (Nat → Int64)) (x1 : Int32) (Q : Int32 → SC × (Nat → Int64) → Prop) : Prop := w_G_acknowledge T.1 x1 (fun r u => Q 0 (u, vp_updL T.2 0 r.toInt64)) (fun k u => (k = 1 ∨ k = 2 ∨ k = 3 ∨ k = 4) ∧ Q (nI k) (u, T.2))
set_option maxRecDepth 100000 in
set_option maxHeartbeats 4000000 in
theorem c_W_acknowledge (l : Launch) (hl0 : l.stackTraces = false) (D : va_G) (ca : Nat → ClassId) (ad : Nat → Nat) (o sz : Nat) (T : SC × (Nat → Int64)) (x1 : Int32) (Q : Int32 → SC × (Nat → Int64) → Prop) (h : w_W_acknowledge T x1 Q) : Met l y_W_acknowledge (Cond.codeWith y_W_acknowledge b_W_acknowledge 4 (some Jvm.ClassFile.FieldType.int) [(0, 9, 12, 13), (0, 9, 15, 15), (0, 9, 18, 17), (0, 9, 21, 19)] :: tG) ({ frames := 9, cells := 2, slots := 12, locals := 144 } : Room) (xPh D ca (wHl ca ad o) T sz [.ref (ad 0), .int x1, .ref o]) (va_Qi Q (xAt D (wHl ca ad o) (va_A (wHl ca ad o T) sz)) (va_A (wHl ca ad o T) sz)) 2 12 (va_A (wHl ca ad o T) sz) := by
  refine xx_meth (Qf := fun A => va_Qi Q (xAt D (wHl ca ad o) A) A) (by decide) (Nat.le_of_ble_eq_true rfl) ?_
  intro p e s m args below meth c A ls hx hb hr hw hown hlocks hml hK hN hA hP hD hS hl hZ htab hX hC
  have hown : s.vm.findClass "TrainGuardLaw" = some m.cls := hown
  have hl : lv_has ls 4 [(0, .ref (ad 0)), (1, .int x1), (2, .ref o)] := hl
  unfold w_W_acknowledge at h
  obtain ⟨S, f⟩ := T
  have hH9 : ∀ H : Heap, H = s.heap → va_P D cls (wHl ca ad o (S, f)) H → va_S A s.heap H [] → W p l e ({ frames := 9, cells := 2, slots := 12, locals := 144 } : Room) s m args below meth c H [] 0 0 (MQ below ((fun A => va_Qi Q (xAt D (wHl ca ad o) A) A) A) args s 2 12 A) (F0 m 0 ls []) := by
    clear hP hS
    intro H hH hP hS
    refine lv_aload_n hx hb d_W_acknowledge_0 rfl (lv_at hl 2 rfl) ?_
    refine lv_iconst (v := 0) hx hb d_W_acknowledge_1 (by decide) ?_
    refine lv_aload_n hx hb d_W_acknowledge_2 rfl (lv_at hl 0 rfl) ?_
    refine lv_iload_n hx hb d_W_acknowledge_3 rfl (lv_at hl 1 rfl) ?_
    have hPc := hP.sub (ws' := wC ca ad S) [1, 2, 3, 4, 5, 6, 7, 8, 9, 10, 11, 12, 13, 14, 15] rfl
    have hDc := hD.sub (ws' := wC ca ad S) [1, 2, 3, 4, 5, 6, 7, 8, 9, 10, 11, 12, 13, 14, 15] (by decide) rfl
    have hFc := va_free (wc := wC ca ad S) hD hS hA [1, 2, 3, 4, 5, 6, 7, 8, 9, 10, 11, 12, 13, 14, 15] rfl
    refine vx_calli (vx_runV (As := [.int x1]) (rest := [.int 0, .ref o]) ⟨hx, hb, hml, hown, hw⟩ (c_G_acknowledge l hl0 D ca ad H.size S x1 _ _ h) (cwV 1 hw (tG_g gl_W_54) rfl rfl rfl (by decide +kernel) ⟨Nat.le_of_ble_eq_true rfl, Nat.le_of_ble_eq_true rfl⟩) ⟨xPx.blind, va_recv hK hP rfl (q0 := 1) rfl, xPx.pre hK hN hPc hDc hX (hZ.now hS hA hDc)⟩ rfl rfl hl.1 rfl (lv_room (Nat.le_of_ble_eq_true rfl)) d_W_acknowledge_4 ⟨Nat.le_of_ble_eq_true rfl, Nat.le_of_ble_eq_true rfl⟩) hS (fun q _ h => hFc q h) hFc (fun q _ h => hFc q h) (fun E ce q9 u t H1 locs ht hvm hp hB hz1 hk1 hS hce hcv hcl => ?_) (fun r u t H1 locs ht hvm hq hB hz1 hk1 hS => ?_)
    · obtain ⟨hE, hP1, hD1⟩ := hB
      rw [ht] at hP1
      obtain ⟨hP, hD⟩ := va_join (wr := [(o, .inl (ca 1, 1, .inr (.inl f)))]) (w1 := wC ca ad u.2) hP hD [1, 2, 3, 4, 5, 6, 7, 8, 9, 10, 11, 12, 13, 14, 15] [0] rfl rfl (by decide) (by decide) hk1 hFc hP1 hD1
      have hP : va_P D cls (wHl ca ad o (u.2, f)) H1 := hP
      have hD : va_D A (wHl ca ad o (u.2, f)) := hD
      obtain ⟨hk, h⟩ := hp
      obtain ⟨k9, u9⟩ := u
      rcases hk with hk | hk | hk | hk <;> (replace hk : k9 = _ := hk; subst hk; replace hE : E = _ := hE; subst hE)
      · refine vx_catch (E := xNm 1) (name := "java/lang/IllegalArgumentException") hown [] (⟨0, 9, 12, 13⟩ : ExceptionTableEntry) [(⟨0, 9, 15, 15⟩ : ExceptionTableEntry), (⟨0, 9, 18, 17⟩ : ExceptionTableEntry), (⟨0, 9, 21, 19⟩ : ExceptionTableEntry)] (by rw [htab]; rfl) (fun z hz => ?_) (by decide) (by decide) (hw _ wd_158) ((hX _ (List.mem_of_getElem? (i := 0) (by rfl))).use rfl) hce hcv hcl ?_
        · cases hz
        · refine lv_astore_n (lv' := [(3, .ref q9), (0, .ref (ad 0)), (1, .int x1), (2, .ref o)]) hx hb d_W_acknowledge_12 rfl hl (by decide) rfl (fun ls hl => ?_)
          refine lv_iconst (v := 1) hx hb d_W_acknowledge_13 (by decide) ?_
          exact W.iret (v := 1) hx hb hr (fun t ht hW => ⟨⟨1, (u9, f), rfl, h, by rw [ht]; exact hP, hD⟩, hS.F ht⟩) hS.2.2 d_W_acknowledge_14
      · refine vx_catch (E := xNm 2) (name := "java/util/NoSuchElementException") hown [(⟨0, 9, 12, 13⟩ : ExceptionTableEntry)] (⟨0, 9, 15, 15⟩ : ExceptionTableEntry) [(⟨0, 9, 18, 17⟩ : ExceptionTableEntry), (⟨0, 9, 21, 19⟩ : ExceptionTableEntry)] (by rw [htab]; rfl) (fun z hz => ?_) (by decide) (by decide) (hw _ wd_159) ((hX _ (List.mem_of_getElem? (i := 9) (by rfl))).use rfl) hce hcv hcl ?_
        · simp only [List.mem_cons, List.not_mem_nil, or_false] at hz
          rcases hz with rfl
          · exact Or.inr ⟨by decide, "java/lang/IllegalArgumentException", hw _ wd_158, hC ("java/util/NoSuchElementException", "java/lang/IllegalArgumentException") (List.mem_of_getElem? (i := 0) (by rfl))⟩
        · refine lv_astore_n (lv' := [(3, .ref q9), (0, .ref (ad 0)), (1, .int x1), (2, .ref o)]) hx hb d_W_acknowledge_15 rfl hl (by decide) rfl (fun ls hl => ?_)
          refine lv_iconst (v := 2) hx hb d_W_acknowledge_16 (by decide) ?_
          exact W.iret (v := 2) hx hb hr (fun t ht hW => ⟨⟨2, (u9, f), rfl, h, by rw [ht]; exact hP, hD⟩, hS.F ht⟩) hS.2.2 d_W_acknowledge_17
      · refine vx_catch (E := xNm 3) (name := "java/lang/IllegalStateException") hown [(⟨0, 9, 12, 13⟩ : ExceptionTableEntry), (⟨0, 9, 15, 15⟩ : ExceptionTableEntry)] (⟨0, 9, 18, 17⟩ : ExceptionTableEntry) [(⟨0, 9, 21, 19⟩ : ExceptionTableEntry)] (by rw [htab]; rfl) (fun z hz => ?_) (by decide) (by decide) (hw _ wd_160) ((hX _ (List.mem_of_getElem? (i := 7) (by rfl))).use rfl) hce hcv hcl ?_
        · simp only [List.mem_cons, List.not_mem_nil, or_false] at hz
          rcases hz with rfl | rfl
          · exact Or.inr ⟨by decide, "java/lang/IllegalArgumentException", hw _ wd_158, hC ("java/lang/IllegalStateException", "java/lang/IllegalArgumentException") (List.mem_of_getElem? (i := 1) (by rfl))⟩
          · exact Or.inr ⟨by decide, "java/util/NoSuchElementException", hw _ wd_159, hC ("java/lang/IllegalStateException", "java/util/NoSuchElementException") (List.mem_of_getElem? (i := 2) (by rfl))⟩
        · refine lv_astore_n (lv' := [(3, .ref q9), (0, .ref (ad 0)), (1, .int x1), (2, .ref o)]) hx hb d_W_acknowledge_18 rfl hl (by decide) rfl (fun ls hl => ?_)
          refine lv_iconst (v := 3) hx hb d_W_acknowledge_19 (by decide) ?_
          exact W.iret (v := 3) hx hb hr (fun t ht hW => ⟨⟨3, (u9, f), rfl, h, by rw [ht]; exact hP, hD⟩, hS.F ht⟩) hS.2.2 d_W_acknowledge_20
      · refine vx_catch (E := xNm 4) (name := "java/lang/UnsupportedOperationException") hown [(⟨0, 9, 12, 13⟩ : ExceptionTableEntry), (⟨0, 9, 15, 15⟩ : ExceptionTableEntry), (⟨0, 9, 18, 17⟩ : ExceptionTableEntry)] (⟨0, 9, 21, 19⟩ : ExceptionTableEntry) [] (by rw [htab]; rfl) (fun z hz => ?_) (by decide) (by decide) (hw _ wd_161) ((hX _ (List.mem_of_getElem? (i := 8) (by rfl))).use rfl) hce hcv hcl ?_
        · simp only [List.mem_cons, List.not_mem_nil, or_false] at hz
          rcases hz with rfl | rfl | rfl
          · exact Or.inr ⟨by decide, "java/lang/IllegalArgumentException", hw _ wd_158, hC ("java/lang/UnsupportedOperationException", "java/lang/IllegalArgumentException") (List.mem_of_getElem? (i := 3) (by rfl))⟩
          · exact Or.inr ⟨by decide, "java/util/NoSuchElementException", hw _ wd_159, hC ("java/lang/UnsupportedOperationException", "java/util/NoSuchElementException") (List.mem_of_getElem? (i := 4) (by rfl))⟩
          · exact Or.inr ⟨by decide, "java/lang/IllegalStateException", hw _ wd_160, hC ("java/lang/UnsupportedOperationException", "java/lang/IllegalStateException") (List.mem_of_getElem? (i := 5) (by rfl))⟩
        · refine lv_astore_n (lv' := [(3, .ref q9), (0, .ref (ad 0)), (1, .int x1), (2, .ref o)]) hx hb d_W_acknowledge_21 rfl hl (by decide) rfl (fun ls hl => ?_)
          refine lv_iconst (v := 4) hx hb d_W_acknowledge_22 (by decide) ?_
          exact W.iret (v := 4) hx hb hr (fun t ht hW => ⟨⟨4, (u9, f), rfl, h, by rw [ht]; exact hP, hD⟩, hS.F ht⟩) hS.2.2 d_W_acknowledge_23
    · obtain ⟨hP1, hD1⟩ := hB
      rw [ht] at hP1
      obtain ⟨hP, hD⟩ := va_join (wr := [(o, .inl (ca 1, 1, .inr (.inl f)))]) (w1 := wC ca ad u) hP hD [1, 2, 3, 4, 5, 6, 7, 8, 9, 10, 11, 12, 13, 14, 15] [0] rfl rfl (by decide) (by decide) hk1 hFc hP1 hD1
      have hP : va_P D cls (wHl ca ad o (u, f)) H1 := hP
      have hD : va_D A (wHl ca ad o (u, f)) := hD
      refine lv_i2l (v := r.toInt64) hx hb d_W_acknowledge_7 rfl ?_
      refine va_last (D := D) hx hb hK hP hD hS 0 1 rfl rfl (by unfold vp_in; decide) d_W_acknowledge_8 (fun H locs hP hD hS => ?_)
      have hP : va_P D cls (wHl ca ad o (u, vp_updL f 0 r.toInt64)) H := hP
      have hD : va_D A (wHl ca ad o (u, vp_updL f 0 r.toInt64)) := hD
      refine lv_goto (tgt := 24) hx hb d_W_acknowledge_9 (by decide) ?_
      refine lv_iconst (v := 0) hx hb d_W_acknowledge_24 (by decide) ?_
      exact W.iret (v := 0) hx hb hr (fun t ht hW => ⟨⟨0, (u, vp_updL f 0 r.toInt64), rfl, hq, by rw [ht]; exact hP, hD⟩, hS.F ht⟩) hS.2.2 d_W_acknowledge_25
  exact hH9 _ rfl hP hS
theorem d_W_end_0 : decode b_W_end 0 = .ok (.aload_n 2, 1) := by decide +kernel
theorem d_W_end_1 : decode b_W_end 1 = .ok (.iconst 0, 1) := by decide +kernel
theorem d_W_end_2 : decode b_W_end 2 = .ok (.aload_n 0, 1) := by decide +kernel
theorem d_W_end_3 : decode b_W_end 3 = .ok (.iload_n 1, 1) := by decide +kernel
theorem d_W_end_4 : decode b_W_end 4 = .ok (.invokevirtual 57, 3) := by decide +kernel
theorem d_W_end_7 : decode b_W_end 7 = .ok (.i2l, 1) := by decide +kernel
theorem d_W_end_8 : decode b_W_end 8 = .ok (.lastore, 1) := by decide +kernel
theorem d_W_end_9 : decode b_W_end 9 = .ok (.goto 15, 3) := by decide +kernel
theorem d_W_end_12 : decode b_W_end 12 = .ok (.astore_n 3, 1) := by decide +kernel
theorem d_W_end_13 : decode b_W_end 13 = .ok (.iconst 1, 1) := by decide +kernel
theorem d_W_end_14 : decode b_W_end 14 = .ok (.ireturn, 1) := by decide +kernel
theorem d_W_end_15 : decode b_W_end 15 = .ok (.astore_n 3, 1) := by decide +kernel
theorem d_W_end_16 : decode b_W_end 16 = .ok (.iconst 2, 1) := by decide +kernel
theorem d_W_end_17 : decode b_W_end 17 = .ok (.ireturn, 1) := by decide +kernel
theorem d_W_end_18 : decode b_W_end 18 = .ok (.astore_n 3, 1) := by decide +kernel
theorem d_W_end_19 : decode b_W_end 19 = .ok (.iconst 3, 1) := by decide +kernel
theorem d_W_end_20 : decode b_W_end 20 = .ok (.ireturn, 1) := by decide +kernel
theorem d_W_end_21 : decode b_W_end 21 = .ok (.astore_n 3, 1) := by decide +kernel
theorem d_W_end_22 : decode b_W_end 22 = .ok (.iconst 4, 1) := by decide +kernel
theorem d_W_end_23 : decode b_W_end 23 = .ok (.ireturn, 1) := by decide +kernel
theorem d_W_end_24 : decode b_W_end 24 = .ok (.iconst 0, 1) := by decide +kernel
theorem d_W_end_25 : decode b_W_end 25 = .ok (.ireturn, 1) := by decide +kernel
theorem gl_W_57 : ∀ w ∈ wsV "TrainGuardLaw" 57 "TrainGuard" y_G_end (Cond.code y_G_end b_G_end 3 (some Jvm.ClassFile.FieldType.int) :: tG), w ∈ tG := by
  intro x hx
  simp only [wsV, List.cons_append, List.nil_append, List.mem_cons] at hx
  rcases hx with rfl | rfl | rfl | rfl | rfl | hx
  · exact wd_545
  · exact wd_546
  · exact wd_547
  · exact wd_1
  · exact wd_548
  · exact hx
def w_W_end (T : SC × (Nat → Int64)) (x1 : Int32) (Q : Int32 → SC × (Nat → Int64) → Prop) : Prop := w_G_end T.1 x1 (fun r u => Q 0 (u, vp_updL T.2 0 r.toInt64)) (fun k u => (k = 1 ∨ k = 2 ∨ k = 3 ∨ k = 4) ∧ Q (nI k) (u, T.2))
set_option maxRecDepth 100000 in
set_option maxHeartbeats 4000000 in
theorem c_W_end (l : Launch) (hl0 : l.stackTraces = false) (D : va_G) (ca : Nat → ClassId) (ad : Nat → Nat) (o sz : Nat) (T : SC × (Nat → Int64)) (x1 : Int32) (Q : Int32 → SC × (Nat → Int64) → Prop) (h : w_W_end T x1 Q) : Met l y_W_end (Cond.codeWith y_W_end b_W_end 4 (some Jvm.ClassFile.FieldType.int) [(0, 9, 12, 13), (0, 9, 15, 15), (0, 9, 18, 17), (0, 9, 21, 19)] :: tG) ({ frames := 9, cells := 2, slots := 12, locals := 144 } : Room) (xPh D ca (wHl ca ad o) T sz [.ref (ad 0), .int x1, .ref o]) (va_Qi Q (xAt D (wHl ca ad o) (va_A (wHl ca ad o T) sz)) (va_A (wHl ca ad o T) sz)) 2 12 (va_A (wHl ca ad o T) sz) := by
  refine xx_meth (Qf := fun A => va_Qi Q (xAt D (wHl ca ad o) A) A) (by decide) (Nat.le_of_ble_eq_true rfl) ?_
  intro p e s m args below meth c A ls hx hb hr hw hown hlocks hml hK hN hA hP hD hS hl hZ htab hX hC
  have hown : s.vm.findClass "TrainGuardLaw" = some m.cls := hown
  have hl : lv_has ls 4 [(0, .ref (ad 0)), (1, .int x1), (2, .ref o)] := hl
  unfold w_W_end at h
  obtain ⟨S, f⟩ := T
  have hH9 : ∀ H : Heap, H = s.heap → va_P D cls (wHl ca ad o (S, f)) H → va_S A s.heap H [] → W p l e ({ frames := 9, cells := 2, slots := 12, locals := 144 } : Room) s m args below meth c H [] 0 0 (MQ below ((fun A => va_Qi Q (xAt D (wHl ca ad o) A) A) A) args s 2 12 A) (F0 m 0 ls []) := by
    clear hP hS
    intro H hH hP hS
    refine lv_aload_n hx hb d_W_end_0 rfl (lv_at hl 2 rfl) ?_
    refine lv_iconst (v := 0) hx hb d_W_end_1 (by decide) ?_
    refine lv_aload_n hx hb d_W_end_2 rfl (lv_at hl 0 rfl) ?_
    refine lv_iload_n hx hb d_W_end_3 rfl (lv_at hl 1 rfl) ?_
    have hPc := hP.sub (ws' := wC ca ad S) [1, 2, 3, 4, 5, 6, 7, 8, 9, 10, 11, 12, 13, 14, 15] rfl
    have hDc := hD.sub (ws' := wC ca ad S) [1, 2, 3, 4, 5, 6, 7, 8, 9, 10, 11, 12, 13, 14, 15] (by decide) rfl
    have hFc := va_free (wc := wC ca ad S) hD hS hA [1, 2, 3, 4, 5, 6, 7, 8, 9, 10, 11, 12, 13, 14, 15] rfl
    refine vx_calli (vx_runV (As := [.int x1]) (rest := [.int 0, .ref o]) ⟨hx, hb, hml, hown, hw⟩ (c_G_end l hl0 D ca ad H.size S x1 _ _ h) (cwV 1 hw (tG_g gl_W_57) rfl rfl rfl (by decide +kernel) ⟨Nat.le_of_ble_eq_true rfl, Nat.le_of_ble_eq_true rfl⟩) ⟨xPx.blind, va_recv hK hP rfl (q0 := 1) rfl, xPx.pre hK hN hPc hDc hX (hZ.now hS hA hDc)⟩ rfl rfl hl.1 rfl (lv_room (Nat.le_of_ble_eq_true rfl)) d_W_end_4 ⟨Nat.le_of_ble_eq_true rfl, Nat.le_of_ble_eq_true rfl⟩) hS (fun q _ h => hFc q h) hFc (fun q _ h => hFc q h) (fun E ce q9 u t H1 locs ht hvm hp hB hz1 hk1 hS hce hcv hcl => ?_) (fun r u t H1 locs ht hvm hq hB hz1 hk1 hS => ?_)
    · obtain ⟨hE, hP1, hD1⟩ := hB
      rw [ht] at hP1
      obtain ⟨hP, hD⟩ := va_join (wr := [(o, .inl (ca 1, 1, .inr (.inl f)))]) (w1 := wC ca ad u.2) hP hD [1, 2, 3, 4, 5, 6, 7, 8, 9, 10, 11, 12, 13, 14, 15] [0] rfl rfl (by decide) (by decide) hk1 hFc hP1 hD1
      have hP : va_P D cls (wHl ca ad o (u.2, f)) H1 := hP
      have hD : va_D A (wHl ca ad o (u.2, f)) := hD
      obtain ⟨hk, h⟩ := hp
      obtain ⟨k9, u9⟩ := u
      rcases hk with hk | hk | hk | hk <;> (replace hk : k9 = _ := hk; subst hk; replace hE : E = _ := hE; subst hE)
      · refine vx_catch (E := xNm 1) (name := "java/lang/IllegalArgumentException") hown [] (⟨0, 9, 12, 13⟩ : ExceptionTableEntry) [(⟨0, 9, 15, 15⟩ : ExceptionTableEntry), (⟨0, 9, 18, 17⟩ : ExceptionTableEntry), (⟨0, 9, 21, 19⟩ : ExceptionTableEntry)] (by rw [htab]; rfl) (fun z hz => ?_) (by decide) (by decide) (hw _ wd_158) ((hX _ (List.mem_of_getElem? (i := 0) (by rfl))).use rfl) hce hcv hcl ?_
        · cases hz
        · refine lv_astore_n (lv' := [(3, .ref q9), (0, .ref (ad 0)), (1, .int x1), (2, .ref o)]) hx hb d_W_end_12 rfl hl (by decide) rfl (fun ls hl => ?_)
          refine lv_iconst (v := 1) hx hb d_W_end_13 (by decide) ?_
          exact W.iret (v := 1) hx hb hr (fun t ht hW => ⟨⟨1, (u9, f), rfl, h, by rw [ht]; exact hP, hD⟩, hS.F ht⟩) hS.2.2 d_W_end_14
      · refine vx_catch (E := xNm 2) (name := "java/util/NoSuchElementException") hown [(⟨0, 9, 12, 13⟩ : ExceptionTableEntry)] (⟨0, 9, 15, 15⟩ : ExceptionTableEntry) [(⟨0, 9, 18, 17⟩ : ExceptionTableEntry), (⟨0, 9, 21, 19⟩ : ExceptionTableEntry)] (by rw [htab]; rfl) (fun z hz => ?_) (by decide) (by decide) (hw _ wd_159) ((hX _ (List.mem_of_getElem? (i := 9) (by rfl))).use rfl) hce hcv hcl ?_
        · simp only [List.mem_cons, List.not_mem_nil, or_false] at hz
          rcases hz with rfl
          · exact Or.inr ⟨by decide, "java/lang/IllegalArgumentException", hw _ wd_158, hC ("java/util/NoSuchElementException", "java/lang/IllegalArgumentException") (List.mem_of_getElem? (i := 0) (by rfl))⟩
        · refine lv_astore_n (lv' := [(3, .ref q9), (0, .ref (ad 0)), (1, .int x1), (2, .ref o)]) hx hb d_W_end_15 rfl hl (by decide) rfl (fun ls hl => ?_)
          refine lv_iconst (v := 2) hx hb d_W_end_16 (by decide) ?_
          exact W.iret (v := 2) hx hb hr (fun t ht hW => ⟨⟨2, (u9, f), rfl, h, by rw [ht]; exact hP, hD⟩, hS.F ht⟩) hS.2.2 d_W_end_17
      · refine vx_catch (E := xNm 3) (name := "java/lang/IllegalStateException") hown [(⟨0, 9, 12, 13⟩ : ExceptionTableEntry), (⟨0, 9, 15, 15⟩ : ExceptionTableEntry)] (⟨0, 9, 18, 17⟩ : ExceptionTableEntry) [(⟨0, 9, 21, 19⟩ : ExceptionTableEntry)] (by rw [htab]; rfl) (fun z hz => ?_) (by decide) (by decide) (hw _ wd_160) ((hX _ (List.mem_of_getElem? (i := 7) (by rfl))).use rfl) hce hcv hcl ?_
        · simp only [List.mem_cons, List.not_mem_nil, or_false] at hz
          rcases hz with rfl | rfl
          · exact Or.inr ⟨by decide, "java/lang/IllegalArgumentException", hw _ wd_158, hC ("java/lang/IllegalStateException", "java/lang/IllegalArgumentException") (List.mem_of_getElem? (i := 1) (by rfl))⟩
          · exact Or.inr ⟨by decide, "java/util/NoSuchElementException", hw _ wd_159, hC ("java/lang/IllegalStateException", "java/util/NoSuchElementException") (List.mem_of_getElem? (i := 2) (by rfl))⟩
        · refine lv_astore_n (lv' := [(3, .ref q9), (0, .ref (ad 0)), (1, .int x1), (2, .ref o)]) hx hb d_W_end_18 rfl hl (by decide) rfl (fun ls hl => ?_)
          refine lv_iconst (v := 3) hx hb d_W_end_19 (by decide) ?_
          exact W.iret (v := 3) hx hb hr (fun t ht hW => ⟨⟨3, (u9, f), rfl, h, by rw [ht]; exact hP, hD⟩, hS.F ht⟩) hS.2.2 d_W_end_20
      · refine vx_catch (E := xNm 4) (name := "java/lang/UnsupportedOperationException") hown [(⟨0, 9, 12, 13⟩ : ExceptionTableEntry), (⟨0, 9, 15, 15⟩ : ExceptionTableEntry), (⟨0, 9, 18, 17⟩ : ExceptionTableEntry)] (⟨0, 9, 21, 19⟩ : ExceptionTableEntry) [] (by rw [htab]; rfl) (fun z hz => ?_) (by decide) (by decide) (hw _ wd_161) ((hX _ (List.mem_of_getElem? (i := 8) (by rfl))).use rfl) hce hcv hcl ?_
        · simp only [List.mem_cons, List.not_mem_nil, or_false] at hz
          rcases hz with rfl | rfl | rfl
          · exact Or.inr ⟨by decide, "java/lang/IllegalArgumentException", hw _ wd_158, hC ("java/lang/UnsupportedOperationException", "java/lang/IllegalArgumentException") (List.mem_of_getElem? (i := 3) (by rfl))⟩
          · exact Or.inr ⟨by decide, "java/util/NoSuchElementException", hw _ wd_159, hC ("java/lang/UnsupportedOperationException", "java/util/NoSuchElementException") (List.mem_of_getElem? (i := 4) (by rfl))⟩
          · exact Or.inr ⟨by decide, "java/lang/IllegalStateException", hw _ wd_160, hC ("java/lang/UnsupportedOperationException", "java/lang/IllegalStateException") (List.mem_of_getElem? (i := 5) (by rfl))⟩
        · refine lv_astore_n (lv' := [(3, .ref q9), (0, .ref (ad 0)), (1, .int x1), (2, .ref o)]) hx hb d_W_end_21 rfl hl (by decide) rfl (fun ls hl => ?_)
          refine lv_iconst (v := 4) hx hb d_W_end_22 (by decide) ?_
          exact W.iret (v := 4) hx hb hr (fun t ht hW => ⟨⟨4, (u9, f), rfl, h, by rw [ht]; exact hP, hD⟩, hS.F ht⟩) hS.2.2 d_W_end_23
    · obtain ⟨hP1, hD1⟩ := hB
      rw [ht] at hP1
      obtain ⟨hP, hD⟩ := va_join (wr := [(o, .inl (ca 1, 1, .inr (.inl f)))]) (w1 := wC ca ad u) hP hD [1, 2, 3, 4, 5, 6, 7, 8, 9, 10, 11, 12, 13, 14, 15] [0] rfl rfl (by decide) (by decide) hk1 hFc hP1 hD1
      have hP : va_P D cls (wHl ca ad o (u, f)) H1 := hP
      have hD : va_D A (wHl ca ad o (u, f)) := hD
      refine lv_i2l (v := r.toInt64) hx hb d_W_end_7 rfl ?_
      refine va_last (D := D) hx hb hK hP hD hS 0 1 rfl rfl (by unfold vp_in; decide) d_W_end_8 (fun H locs hP hD hS => ?_)
      have hP : va_P D cls (wHl ca ad o (u, vp_updL f 0 r.toInt64)) H := hP
      have hD : va_D A (wHl ca ad o (u, vp_updL f 0 r.toInt64)) := hD
      refine lv_goto (tgt := 24) hx hb d_W_end_9 (by decide) ?_
      refine lv_iconst (v := 0) hx hb d_W_end_24 (by decide) ?_
      exact W.iret (v := 0) hx hb hr (fun t ht hW => ⟨⟨0, (u, vp_updL f 0 r.toInt64), rfl, hq, by rw [ht]; exact hP, hD⟩, hS.F ht⟩) hS.2.2 d_W_end_25
  exact hH9 _ rfl hP hS
theorem d_W_of_0 : decode b_W_of 0 = .ok (.aload_n 3, 1) := by decide +kernel
theorem d_W_of_1 : decode b_W_of 1 = .ok (.iconst 0, 1) := by decide +kernel
theorem d_W_of_2 : decode b_W_of 2 = .ok (.aload_n 0, 1) := by decide +kernel
theorem d_W_of_3 : decode b_W_of 3 = .ok (.iload_n 1, 1) := by decide +kernel
theorem d_W_of_4 : decode b_W_of 4 = .ok (.iload_n 2, 1) := by decide +kernel
theorem d_W_of_5 : decode b_W_of 5 = .ok (.invokevirtual 60, 3) := by decide +kernel
theorem d_W_of_8 : decode b_W_of 8 = .ok (.dastore, 1) := by decide +kernel
theorem d_W_of_9 : decode b_W_of 9 = .ok (.goto 19, 3) := by decide +kernel
theorem d_W_of_12 : decode b_W_of 12 = .ok (.astore 4, 2) := by decide +kernel
theorem d_W_of_14 : decode b_W_of 14 = .ok (.iconst 1, 1) := by decide +kernel
theorem d_W_of_15 : decode b_W_of 15 = .ok (.ireturn, 1) := by decide +kernel
theorem d_W_of_16 : decode b_W_of 16 = .ok (.astore 4, 2) := by decide +kernel
theorem d_W_of_18 : decode b_W_of 18 = .ok (.iconst 2, 1) := by decide +kernel
theorem d_W_of_19 : decode b_W_of 19 = .ok (.ireturn, 1) := by decide +kernel
theorem d_W_of_20 : decode b_W_of 20 = .ok (.astore 4, 2) := by decide +kernel
theorem d_W_of_22 : decode b_W_of 22 = .ok (.iconst 3, 1) := by decide +kernel
theorem d_W_of_23 : decode b_W_of 23 = .ok (.ireturn, 1) := by decide +kernel
theorem d_W_of_24 : decode b_W_of 24 = .ok (.astore 4, 2) := by decide +kernel
theorem d_W_of_26 : decode b_W_of 26 = .ok (.iconst 4, 1) := by decide +kernel
theorem d_W_of_27 : decode b_W_of 27 = .ok (.ireturn, 1) := by decide +kernel
theorem d_W_of_28 : decode b_W_of 28 = .ok (.iconst 0, 1) := by decide +kernel
theorem d_W_of_29 : decode b_W_of 29 = .ok (.ireturn, 1) := by decide +kernel
theorem gl_W_60 : ∀ w ∈ wsV "TrainGuardLaw" 60 "TrainGuard" y_G_of (Cond.code y_G_of b_G_of 4 (some Jvm.ClassFile.FieldType.double) :: tG), w ∈ tG := by
  intro x hx
  simp only [wsV, List.cons_append, List.nil_append, List.mem_cons] at hx
  rcases hx with rfl | rfl | rfl | rfl | rfl | hx
  · exact wd_556
  · exact wd_557
  · exact wd_558
  · exact wd_1
  · exact wd_559
  · exact hx
def w_W_of (T : SC × (Nat → UInt64)) (x1 : Int32) (x2 : Int32) (Q : Int32 → SC × (Nat → UInt64) → Prop) : Prop := w_G_of T.1 x1 x2 (fun r u => Q 0 (u, vf_upd T.2 0 r)) (fun k u => (k = 1 ∨ k = 2 ∨ k = 3 ∨ k = 4) ∧ Q (nI k) (u, T.2))
set_option maxRecDepth 100000 in
set_option maxHeartbeats 4000000 in
theorem c_W_of (l : Launch) (hl0 : l.stackTraces = false) (D : va_G) (ca : Nat → ClassId) (ad : Nat → Nat) (o sz : Nat) (T : SC × (Nat → UInt64)) (x1 : Int32) (x2 : Int32) (Q : Int32 → SC × (Nat → UInt64) → Prop) (h : w_W_of T x1 x2 Q) : Met l y_W_of (Cond.codeWith y_W_of b_W_of 5 (some Jvm.ClassFile.FieldType.int) [(0, 9, 12, 13), (0, 9, 16, 15), (0, 9, 20, 17), (0, 9, 24, 19)] :: tG) ({ frames := 9, cells := 2, slots := 12, locals := 145 } : Room) (xPh D ca (wHd ca ad o) T sz [.ref (ad 0), .int x1, .int x2, .ref o]) (va_Qi Q (xAt D (wHd ca ad o) (va_A (wHd ca ad o T) sz)) (va_A (wHd ca ad o T) sz)) 2 12 (va_A (wHd ca ad o T) sz) := by
  refine xx_meth (Qf := fun A => va_Qi Q (xAt D (wHd ca ad o) A) A) (by decide) (Nat.le_of_ble_eq_true rfl) ?_
  intro p e s m args below meth c A ls hx hb hr hw hown hlocks hml hK hN hA hP hD hS hl hZ htab hX hC
  have hown : s.vm.findClass "TrainGuardLaw" = some m.cls := hown
  have hl : lv_has ls 5 [(0, .ref (ad 0)), (1, .int x1), (2, .int x2), (3, .ref o)] := hl
  unfold w_W_of at h
  obtain ⟨S, f⟩ := T
  have hH9 : ∀ H : Heap, H = s.heap → va_P D cls (wHd ca ad o (S, f)) H → va_S A s.heap H [] → W p l e ({ frames := 9, cells := 2, slots := 12, locals := 145 } : Room) s m args below meth c H [] 0 0 (MQ below ((fun A => va_Qi Q (xAt D (wHd ca ad o) A) A) A) args s 2 12 A) (F0 m 0 ls []) := by
    clear hP hS
    intro H hH hP hS
    refine lv_aload_n hx hb d_W_of_0 rfl (lv_at hl 3 rfl) ?_
    refine lv_iconst (v := 0) hx hb d_W_of_1 (by decide) ?_
    refine lv_aload_n hx hb d_W_of_2 rfl (lv_at hl 0 rfl) ?_
    refine lv_iload_n hx hb d_W_of_3 rfl (lv_at hl 1 rfl) ?_
    refine lv_iload_n hx hb d_W_of_4 rfl (lv_at hl 2 rfl) ?_
    have hPc := hP.sub (ws' := wC ca ad S) [1, 2, 3, 4, 5, 6, 7, 8, 9, 10, 11, 12, 13, 14, 15] rfl
    have hDc := hD.sub (ws' := wC ca ad S) [1, 2, 3, 4, 5, 6, 7, 8, 9, 10, 11, 12, 13, 14, 15] (by decide) rfl
    have hFc := va_free (wc := wC ca ad S) hD hS hA [1, 2, 3, 4, 5, 6, 7, 8, 9, 10, 11, 12, 13, 14, 15] rfl
    refine vx_calld (vx_runV (As := [.int x1, .int x2]) (rest := [.int 0, .ref o]) ⟨hx, hb, hml, hown, hw⟩ (c_G_of l hl0 D ca ad H.size S x1 x2 _ _ h) (cwV 2 hw (tG_g gl_W_60) rfl rfl rfl (by decide +kernel) ⟨Nat.le_of_ble_eq_true rfl, Nat.le_of_ble_eq_true rfl⟩) ⟨xPx.blind, va_recv hK hP rfl (q0 := 1) rfl, xPx.pre hK hN hPc hDc hX (hZ.now hS hA hDc)⟩ rfl rfl hl.1 rfl (lv_room (Nat.le_of_ble_eq_true rfl)) d_W_of_5 ⟨Nat.le_of_ble_eq_true rfl, Nat.le_of_ble_eq_true rfl⟩) hS (fun q _ h => hFc q h) hFc (fun q _ h => hFc q h) (fun E ce q9 u t H1 locs ht hvm hp hB hz1 hk1 hS hce hcv hcl => ?_) (fun r u t H1 locs ht hvm hq hB hz1 hk1 hS => ?_)
    · obtain ⟨hE, hP1, hD1⟩ := hB
      rw [ht] at hP1
      obtain ⟨hP, hD⟩ := va_join (wr := [(o, .inl (ca 2, 1, .inr (.inr (.inr (.inl f)))))]) (w1 := wC ca ad u.2) hP hD [1, 2, 3, 4, 5, 6, 7, 8, 9, 10, 11, 12, 13, 14, 15] [0] rfl rfl (by decide) (by decide) hk1 hFc hP1 hD1
      have hP : va_P D cls (wHd ca ad o (u.2, f)) H1 := hP
      have hD : va_D A (wHd ca ad o (u.2, f)) := hD
      obtain ⟨hk, h⟩ := hp
      obtain ⟨k9, u9⟩ := u
      rcases hk with hk | hk | hk | hk <;> (replace hk : k9 = _ := hk; subst hk; replace hE : E = _ := hE; subst hE)
      · refine vx_catch (E := xNm 1) (name := "java/lang/IllegalArgumentException") hown [] (⟨0, 9, 12, 13⟩ : ExceptionTableEntry) [(⟨0, 9, 16, 15⟩ : ExceptionTableEntry), (⟨0, 9, 20, 17⟩ : ExceptionTableEntry), (⟨0, 9, 24, 19⟩ : ExceptionTableEntry)] (by rw [htab]; rfl) (fun z hz => ?_) (by decide) (by decide) (hw _ wd_158) ((hX _ (List.mem_of_getElem? (i := 0) (by rfl))).use rfl) hce hcv hcl ?_
        · cases hz
        · refine lv_astore (lv' := [(4, .ref q9), (0, .ref (ad 0)), (1, .int x1), (2, .int x2), (3, .ref o)]) hx hb d_W_of_12 hl (by decide) rfl (fun ls hl => ?_)
          refine lv_iconst (v := 1) hx hb d_W_of_14 (by decide) ?_
          exact W.iret (v := 1) hx hb hr (fun t ht hW => ⟨⟨1, (u9, f), rfl, h, by rw [ht]; exact hP, hD⟩, hS.F ht⟩) hS.2.2 d_W_of_15
      · refine vx_catch (E := xNm 2) (name := "java/util/NoSuchElementException") hown [(⟨0, 9, 12, 13⟩ : ExceptionTableEntry)] (⟨0, 9, 16, 15⟩ : ExceptionTableEntry) [(⟨0, 9, 20, 17⟩ : ExceptionTableEntry), (⟨0, 9, 24, 19⟩ : ExceptionTableEntry)] (by rw [htab]; rfl) (fun z hz => ?_) (by decide) (by decide) (hw _ wd_159) ((hX _ (List.mem_of_getElem? (i := 9) (by rfl))).use rfl) hce hcv hcl ?_
        · simp only [List.mem_cons, List.not_mem_nil, or_false] at hz
          rcases hz with rfl
          · exact Or.inr ⟨by decide, "java/lang/IllegalArgumentException", hw _ wd_158, hC ("java/util/NoSuchElementException", "java/lang/IllegalArgumentException") (List.mem_of_getElem? (i := 0) (by rfl))⟩
        · refine lv_astore (lv' := [(4, .ref q9), (0, .ref (ad 0)), (1, .int x1), (2, .int x2), (3, .ref o)]) hx hb d_W_of_16 hl (by decide) rfl (fun ls hl => ?_)
          refine lv_iconst (v := 2) hx hb d_W_of_18 (by decide) ?_
          exact W.iret (v := 2) hx hb hr (fun t ht hW => ⟨⟨2, (u9, f), rfl, h, by rw [ht]; exact hP, hD⟩, hS.F ht⟩) hS.2.2 d_W_of_19
      · refine vx_catch (E := xNm 3) (name := "java/lang/IllegalStateException") hown [(⟨0, 9, 12, 13⟩ : ExceptionTableEntry), (⟨0, 9, 16, 15⟩ : ExceptionTableEntry)] (⟨0, 9, 20, 17⟩ : ExceptionTableEntry) [(⟨0, 9, 24, 19⟩ : ExceptionTableEntry)] (by rw [htab]; rfl) (fun z hz => ?_) (by decide) (by decide) (hw _ wd_160) ((hX _ (List.mem_of_getElem? (i := 7) (by rfl))).use rfl) hce hcv hcl ?_
        · simp only [List.mem_cons, List.not_mem_nil, or_false] at hz
          rcases hz with rfl | rfl
          · exact Or.inr ⟨by decide, "java/lang/IllegalArgumentException", hw _ wd_158, hC ("java/lang/IllegalStateException", "java/lang/IllegalArgumentException") (List.mem_of_getElem? (i := 1) (by rfl))⟩
          · exact Or.inr ⟨by decide, "java/util/NoSuchElementException", hw _ wd_159, hC ("java/lang/IllegalStateException", "java/util/NoSuchElementException") (List.mem_of_getElem? (i := 2) (by rfl))⟩
        · refine lv_astore (lv' := [(4, .ref q9), (0, .ref (ad 0)), (1, .int x1), (2, .int x2), (3, .ref o)]) hx hb d_W_of_20 hl (by decide) rfl (fun ls hl => ?_)
          refine lv_iconst (v := 3) hx hb d_W_of_22 (by decide) ?_
          exact W.iret (v := 3) hx hb hr (fun t ht hW => ⟨⟨3, (u9, f), rfl, h, by rw [ht]; exact hP, hD⟩, hS.F ht⟩) hS.2.2 d_W_of_23
      · refine vx_catch (E := xNm 4) (name := "java/lang/UnsupportedOperationException") hown [(⟨0, 9, 12, 13⟩ : ExceptionTableEntry), (⟨0, 9, 16, 15⟩ : ExceptionTableEntry), (⟨0, 9, 20, 17⟩ : ExceptionTableEntry)] (⟨0, 9, 24, 19⟩ : ExceptionTableEntry) [] (by rw [htab]; rfl) (fun z hz => ?_) (by decide) (by decide) (hw _ wd_161) ((hX _ (List.mem_of_getElem? (i := 8) (by rfl))).use rfl) hce hcv hcl ?_
        · simp only [List.mem_cons, List.not_mem_nil, or_false] at hz
          rcases hz with rfl | rfl | rfl
          · exact Or.inr ⟨by decide, "java/lang/IllegalArgumentException", hw _ wd_158, hC ("java/lang/UnsupportedOperationException", "java/lang/IllegalArgumentException") (List.mem_of_getElem? (i := 3) (by rfl))⟩
          · exact Or.inr ⟨by decide, "java/util/NoSuchElementException", hw _ wd_159, hC ("java/lang/UnsupportedOperationException", "java/util/NoSuchElementException") (List.mem_of_getElem? (i := 4) (by rfl))⟩
          · exact Or.inr ⟨by decide, "java/lang/IllegalStateException", hw _ wd_160, hC ("java/lang/UnsupportedOperationException", "java/lang/IllegalStateException") (List.mem_of_getElem? (i := 5) (by rfl))⟩
        · refine lv_astore (lv' := [(4, .ref q9), (0, .ref (ad 0)), (1, .int x1), (2, .int x2), (3, .ref o)]) hx hb d_W_of_24 hl (by decide) rfl (fun ls hl => ?_)
          refine lv_iconst (v := 4) hx hb d_W_of_26 (by decide) ?_
          exact W.iret (v := 4) hx hb hr (fun t ht hW => ⟨⟨4, (u9, f), rfl, h, by rw [ht]; exact hP, hD⟩, hS.F ht⟩) hS.2.2 d_W_of_27
    · obtain ⟨hP1, hD1⟩ := hB
      rw [ht] at hP1
      obtain ⟨hP, hD⟩ := va_join (wr := [(o, .inl (ca 2, 1, .inr (.inr (.inr (.inl f)))))]) (w1 := wC ca ad u) hP hD [1, 2, 3, 4, 5, 6, 7, 8, 9, 10, 11, 12, 13, 14, 15] [0] rfl rfl (by decide) (by decide) hk1 hFc hP1 hD1
      have hP : va_P D cls (wHd ca ad o (u, f)) H1 := hP
      have hD : va_D A (wHd ca ad o (u, f)) := hD
      refine va_dast (D := D) hx hb hK hP hD hS 0 2 rfl rfl (by unfold vp_in; decide) d_W_of_8 (fun H locs hP hD hS => ?_)
      have hP : va_P D cls (wHd ca ad o (u, vf_upd f 0 r)) H := hP
      have hD : va_D A (wHd ca ad o (u, vf_upd f 0 r)) := hD
      refine lv_goto (tgt := 28) hx hb d_W_of_9 (by decide) ?_
      refine lv_iconst (v := 0) hx hb d_W_of_28 (by decide) ?_
      exact W.iret (v := 0) hx hb hr (fun t ht hW => ⟨⟨0, (u, vf_upd f 0 r), rfl, hq, by rw [ht]; exact hP, hD⟩, hS.F ht⟩) hS.2.2 d_W_of_29
  exact hH9 _ rfl hP hS
theorem d_W_limit_0 : decode b_W_limit 0 = .ok (.aload_n 3, 1) := by decide +kernel
theorem d_W_limit_1 : decode b_W_limit 1 = .ok (.iconst 0, 1) := by decide +kernel
theorem d_W_limit_2 : decode b_W_limit 2 = .ok (.aload_n 0, 1) := by decide +kernel
theorem d_W_limit_3 : decode b_W_limit 3 = .ok (.dload_n 1, 1) := by decide +kernel
theorem d_W_limit_4 : decode b_W_limit 4 = .ok (.invokevirtual 64, 3) := by decide +kernel
theorem d_W_limit_7 : decode b_W_limit 7 = .ok (.dastore, 1) := by decide +kernel
theorem d_W_limit_8 : decode b_W_limit 8 = .ok (.goto 19, 3) := by decide +kernel
theorem d_W_limit_11 : decode b_W_limit 11 = .ok (.astore 4, 2) := by decide +kernel
theorem d_W_limit_13 : decode b_W_limit 13 = .ok (.iconst 1, 1) := by decide +kernel
theorem d_W_limit_14 : decode b_W_limit 14 = .ok (.ireturn, 1) := by decide +kernel
theorem d_W_limit_15 : decode b_W_limit 15 = .ok (.astore 4, 2) := by decide +kernel
theorem d_W_limit_17 : decode b_W_limit 17 = .ok (.iconst 2, 1) := by decide +kernel
theorem d_W_limit_18 : decode b_W_limit 18 = .ok (.ireturn, 1) := by decide +kernel
theorem d_W_limit_19 : decode b_W_limit 19 = .ok (.astore 4, 2) := by decide +kernel
theorem d_W_limit_21 : decode b_W_limit 21 = .ok (.iconst 3, 1) := by decide +kernel
theorem d_W_limit_22 : decode b_W_limit 22 = .ok (.ireturn, 1) := by decide +kernel
theorem d_W_limit_23 : decode b_W_limit 23 = .ok (.astore 4, 2) := by decide +kernel
theorem d_W_limit_25 : decode b_W_limit 25 = .ok (.iconst 4, 1) := by decide +kernel
theorem d_W_limit_26 : decode b_W_limit 26 = .ok (.ireturn, 1) := by decide +kernel
theorem d_W_limit_27 : decode b_W_limit 27 = .ok (.iconst 0, 1) := by decide +kernel
theorem d_W_limit_28 : decode b_W_limit 28 = .ok (.ireturn, 1) := by decide +kernel
theorem gl_W_64 : ∀ w ∈ wsV "TrainGuardLaw" 64 "TrainGuard" y_G_limit (Cond.code y_G_limit b_G_limit 3 (some Jvm.ClassFile.FieldType.double) :: tG), w ∈ tG := by
  intro x hx
  simp only [wsV, List.cons_append, List.nil_append, List.mem_cons] at hx
  rcases hx with rfl | rfl | rfl | rfl | rfl | hx
  · exact wd_565
  · exact wd_566
  · exact wd_567
  · exact wd_1
  · exact wd_568
  · exact hx
def w_W_limit (T : SC × (Nat → UInt64)) (x1 : UInt64) (Q : Int32 → SC × (Nat → UInt64) → Prop) : Prop := w_G_limit T.1 x1 (fun r u => Q 0 (u, vf_upd T.2 0 r)) (fun k u => (k = 1 ∨ k = 2 ∨ k = 3 ∨ k = 4) ∧ Q (nI k) (u, T.2))
set_option maxRecDepth 100000 in
set_option maxHeartbeats 4000000 in
theorem c_W_limit (l : Launch) (hl0 : l.stackTraces = false) (D : va_G) (ca : Nat → ClassId) (ad : Nat → Nat) (o sz : Nat) (T : SC × (Nat → UInt64)) (x1 : UInt64) (Q : Int32 → SC × (Nat → UInt64) → Prop) (h : w_W_limit T x1 Q) : Met l y_W_limit (Cond.codeWith y_W_limit b_W_limit 5 (some Jvm.ClassFile.FieldType.int) [(0, 8, 11, 13), (0, 8, 15, 15), (0, 8, 19, 17), (0, 8, 23, 19)] :: tG) ({ frames := 8, cells := 1, slots := 6, locals := 123 } : Room) (xPh D ca (wHd ca ad o) T sz [.ref (ad 0), .double x1, .ref o]) (va_Qi Q (xAt D (wHd ca ad o) (va_A (wHd ca ad o T) sz)) (va_A (wHd ca ad o T) sz)) 1 6 (va_A (wHd ca ad o T) sz) := by
  refine xx_meth (Qf := fun A => va_Qi Q (xAt D (wHd ca ad o) A) A) (by decide) (Nat.le_of_ble_eq_true rfl) ?_
  intro p e s m args below meth c A ls hx hb hr hw hown hlocks hml hK hN hA hP hD hS hl hZ htab hX hC
  have hown : s.vm.findClass "TrainGuardLaw" = some m.cls := hown
  have hl : lv_has ls 5 [(0, .ref (ad 0)), (1, .double x1), (3, .ref o)] := hl
  unfold w_W_limit at h
  obtain ⟨S, f⟩ := T
  have hH9 : ∀ H : Heap, H = s.heap → va_P D cls (wHd ca ad o (S, f)) H → va_S A s.heap H [] → W p l e ({ frames := 8, cells := 1, slots := 6, locals := 123 } : Room) s m args below meth c H [] 0 0 (MQ below ((fun A => va_Qi Q (xAt D (wHd ca ad o) A) A) A) args s 1 6 A) (F0 m 0 ls []) := by
    clear hP hS
    intro H hH hP hS
    refine lv_aload_n hx hb d_W_limit_0 rfl (lv_at hl 2 rfl) ?_
    refine lv_iconst (v := 0) hx hb d_W_limit_1 (by decide) ?_
    refine lv_aload_n hx hb d_W_limit_2 rfl (lv_at hl 0 rfl) ?_
    refine lv_dload_n hx hb d_W_limit_3 rfl (lv_at hl 1 rfl) ?_
    have hPc := hP.sub (ws' := wC ca ad S) [1, 2, 3, 4, 5, 6, 7, 8, 9, 10, 11, 12, 13, 14, 15] rfl
    have hDc := hD.sub (ws' := wC ca ad S) [1, 2, 3, 4, 5, 6, 7, 8, 9, 10, 11, 12, 13, 14, 15] (by decide) rfl
    have hFc := va_free (wc := wC ca ad S) hD hS hA [1, 2, 3, 4, 5, 6, 7, 8, 9, 10, 11, 12, 13, 14, 15] rfl
    refine vx_calld (vx_runV (As := [.double x1]) (rest := [.int 0, .ref o]) ⟨hx, hb, hml, hown, hw⟩ (c_G_limit l hl0 D ca ad H.size S x1 _ _ h) (cwV 1 hw (tG_g gl_W_64) rfl rfl rfl (by decide +kernel) ⟨Nat.le_of_ble_eq_true rfl, Nat.le_of_ble_eq_true rfl⟩) ⟨xPx.blind, va_recv hK hP rfl (q0 := 1) rfl, xPx.pre hK hN hPc hDc hX (hZ.now hS hA hDc)⟩ rfl rfl hl.1 rfl (lv_room (Nat.le_of_ble_eq_true rfl)) d_W_limit_4 ⟨Nat.le_of_ble_eq_true rfl, Nat.le_of_ble_eq_true rfl⟩) hS (fun q _ h => hFc q h) hFc (fun q _ h => hFc q h) (fun E ce q9 u t H1 locs ht hvm hp hB hz1 hk1 hS hce hcv hcl => ?_) (fun r u t H1 locs ht hvm hq hB hz1 hk1 hS => ?_)
    · obtain ⟨hE, hP1, hD1⟩ := hB
      rw [ht] at hP1
      obtain ⟨hP, hD⟩ := va_join (wr := [(o, .inl (ca 2, 1, .inr (.inr (.inr (.inl f)))))]) (w1 := wC ca ad u.2) hP hD [1, 2, 3, 4, 5, 6, 7, 8, 9, 10, 11, 12, 13, 14, 15] [0] rfl rfl (by decide) (by decide) hk1 hFc hP1 hD1
      have hP : va_P D cls (wHd ca ad o (u.2, f)) H1 := hP
      have hD : va_D A (wHd ca ad o (u.2, f)) := hD
      obtain ⟨hk, h⟩ := hp
      obtain ⟨k9, u9⟩ := u
      rcases hk with hk | hk | hk | hk <;> (replace hk : k9 = _ := hk; subst hk; replace hE : E = _ := hE; subst hE)
      · refine vx_catch (E := xNm 1) (name := "java/lang/IllegalArgumentException") hown [] (⟨0, 8, 11, 13⟩ : ExceptionTableEntry) [(⟨0, 8, 15, 15⟩ : ExceptionTableEntry), (⟨0, 8, 19, 17⟩ : ExceptionTableEntry), (⟨0, 8, 23, 19⟩ : ExceptionTableEntry)] (by rw [htab]; rfl) (fun z hz => ?_) (by decide) (by decide) (hw _ wd_158) ((hX _ (List.mem_of_getElem? (i := 0) (by rfl))).use rfl) hce hcv hcl ?_
        · cases hz
        · refine lv_astore (lv' := [(4, .ref q9), (0, .ref (ad 0)), (1, .double x1), (3, .ref o)]) hx hb d_W_limit_11 hl (by decide) rfl (fun ls hl => ?_)
          refine lv_iconst (v := 1) hx hb d_W_limit_13 (by decide) ?_
          exact W.iret (v := 1) hx hb hr (fun t ht hW => ⟨⟨1, (u9, f), rfl, h, by rw [ht]; exact hP, hD⟩, hS.F ht⟩) hS.2.2 d_W_limit_14
      · refine vx_catch (E := xNm 2) (name := "java/util/NoSuchElementException") hown [(⟨0, 8, 11, 13⟩ : ExceptionTableEntry)] (⟨0, 8, 15, 15⟩ : ExceptionTableEntry) [(⟨0, 8, 19, 17⟩ : ExceptionTableEntry), (⟨0, 8, 23, 19⟩ : ExceptionTableEntry)] (by rw [htab]; rfl) (fun z hz => ?_) (by decide) (by decide) (hw _ wd_159) ((hX _ (List.mem_of_getElem? (i := 9) (by rfl))).use rfl) hce hcv hcl ?_
        · simp only [List.mem_cons, List.not_mem_nil, or_false] at hz
          rcases hz with rfl
          · exact Or.inr ⟨by decide, "java/lang/IllegalArgumentException", hw _ wd_158, hC ("java/util/NoSuchElementException", "java/lang/IllegalArgumentException") (List.mem_of_getElem? (i := 0) (by rfl))⟩
        · refine lv_astore (lv' := [(4, .ref q9), (0, .ref (ad 0)), (1, .double x1), (3, .ref o)]) hx hb d_W_limit_15 hl (by decide) rfl (fun ls hl => ?_)
          refine lv_iconst (v := 2) hx hb d_W_limit_17 (by decide) ?_
          exact W.iret (v := 2) hx hb hr (fun t ht hW => ⟨⟨2, (u9, f), rfl, h, by rw [ht]; exact hP, hD⟩, hS.F ht⟩) hS.2.2 d_W_limit_18
      · refine vx_catch (E := xNm 3) (name := "java/lang/IllegalStateException") hown [(⟨0, 8, 11, 13⟩ : ExceptionTableEntry), (⟨0, 8, 15, 15⟩ : ExceptionTableEntry)] (⟨0, 8, 19, 17⟩ : ExceptionTableEntry) [(⟨0, 8, 23, 19⟩ : ExceptionTableEntry)] (by rw [htab]; rfl) (fun z hz => ?_) (by decide) (by decide) (hw _ wd_160) ((hX _ (List.mem_of_getElem? (i := 7) (by rfl))).use rfl) hce hcv hcl ?_
        · simp only [List.mem_cons, List.not_mem_nil, or_false] at hz
          rcases hz with rfl | rfl
          · exact Or.inr ⟨by decide, "java/lang/IllegalArgumentException", hw _ wd_158, hC ("java/lang/IllegalStateException", "java/lang/IllegalArgumentException") (List.mem_of_getElem? (i := 1) (by rfl))⟩
          · exact Or.inr ⟨by decide, "java/util/NoSuchElementException", hw _ wd_159, hC ("java/lang/IllegalStateException", "java/util/NoSuchElementException") (List.mem_of_getElem? (i := 2) (by rfl))⟩
        · refine lv_astore (lv' := [(4, .ref q9), (0, .ref (ad 0)), (1, .double x1), (3, .ref o)]) hx hb d_W_limit_19 hl (by decide) rfl (fun ls hl => ?_)
          refine lv_iconst (v := 3) hx hb d_W_limit_21 (by decide) ?_
          exact W.iret (v := 3) hx hb hr (fun t ht hW => ⟨⟨3, (u9, f), rfl, h, by rw [ht]; exact hP, hD⟩, hS.F ht⟩) hS.2.2 d_W_limit_22
      · refine vx_catch (E := xNm 4) (name := "java/lang/UnsupportedOperationException") hown [(⟨0, 8, 11, 13⟩ : ExceptionTableEntry), (⟨0, 8, 15, 15⟩ : ExceptionTableEntry), (⟨0, 8, 19, 17⟩ : ExceptionTableEntry)] (⟨0, 8, 23, 19⟩ : ExceptionTableEntry) [] (by rw [htab]; rfl) (fun z hz => ?_) (by decide) (by decide) (hw _ wd_161) ((hX _ (List.mem_of_getElem? (i := 8) (by rfl))).use rfl) hce hcv hcl ?_
        · simp only [List.mem_cons, List.not_mem_nil, or_false] at hz
          rcases hz with rfl | rfl | rfl
          · exact Or.inr ⟨by decide, "java/lang/IllegalArgumentException", hw _ wd_158, hC ("java/lang/UnsupportedOperationException", "java/lang/IllegalArgumentException") (List.mem_of_getElem? (i := 3) (by rfl))⟩
          · exact Or.inr ⟨by decide, "java/util/NoSuchElementException", hw _ wd_159, hC ("java/lang/UnsupportedOperationException", "java/util/NoSuchElementException") (List.mem_of_getElem? (i := 4) (by rfl))⟩
          · exact Or.inr ⟨by decide, "java/lang/IllegalStateException", hw _ wd_160, hC ("java/lang/UnsupportedOperationException", "java/lang/IllegalStateException") (List.mem_of_getElem? (i := 5) (by rfl))⟩
        · refine lv_astore (lv' := [(4, .ref q9), (0, .ref (ad 0)), (1, .double x1), (3, .ref o)]) hx hb d_W_limit_23 hl (by decide) rfl (fun ls hl => ?_)
          refine lv_iconst (v := 4) hx hb d_W_limit_25 (by decide) ?_
          exact W.iret (v := 4) hx hb hr (fun t ht hW => ⟨⟨4, (u9, f), rfl, h, by rw [ht]; exact hP, hD⟩, hS.F ht⟩) hS.2.2 d_W_limit_26
    · obtain ⟨hP1, hD1⟩ := hB
      rw [ht] at hP1
      obtain ⟨hP, hD⟩ := va_join (wr := [(o, .inl (ca 2, 1, .inr (.inr (.inr (.inl f)))))]) (w1 := wC ca ad u) hP hD [1, 2, 3, 4, 5, 6, 7, 8, 9, 10, 11, 12, 13, 14, 15] [0] rfl rfl (by decide) (by decide) hk1 hFc hP1 hD1
      have hP : va_P D cls (wHd ca ad o (u, f)) H1 := hP
      have hD : va_D A (wHd ca ad o (u, f)) := hD
      refine va_dast (D := D) hx hb hK hP hD hS 0 2 rfl rfl (by unfold vp_in; decide) d_W_limit_7 (fun H locs hP hD hS => ?_)
      have hP : va_P D cls (wHd ca ad o (u, vf_upd f 0 r)) H := hP
      have hD : va_D A (wHd ca ad o (u, vf_upd f 0 r)) := hD
      refine lv_goto (tgt := 27) hx hb d_W_limit_8 (by decide) ?_
      refine lv_iconst (v := 0) hx hb d_W_limit_27 (by decide) ?_
      exact W.iret (v := 0) hx hb hr (fun t ht hW => ⟨⟨0, (u, vf_upd f 0 r), rfl, hq, by rw [ht]; exact hP, hD⟩, hS.F ht⟩) hS.2.2 d_W_limit_28
  exact hH9 _ rfl hP hS
theorem d_W_mode_0 : decode b_W_mode 0 = .ok (.aload_n 2, 1) := by decide +kernel
theorem d_W_mode_1 : decode b_W_mode 1 = .ok (.iconst 0, 1) := by decide +kernel
theorem d_W_mode_2 : decode b_W_mode 2 = .ok (.aload_n 0, 1) := by decide +kernel
theorem d_W_mode_3 : decode b_W_mode 3 = .ok (.iload_n 1, 1) := by decide +kernel
theorem d_W_mode_4 : decode b_W_mode 4 = .ok (.invokevirtual 68, 3) := by decide +kernel
theorem d_W_mode_7 : decode b_W_mode 7 = .ok (.i2l, 1) := by decide +kernel
theorem d_W_mode_8 : decode b_W_mode 8 = .ok (.lastore, 1) := by decide +kernel
theorem d_W_mode_9 : decode b_W_mode 9 = .ok (.goto 15, 3) := by decide +kernel
theorem d_W_mode_12 : decode b_W_mode 12 = .ok (.astore_n 3, 1) := by decide +kernel
theorem d_W_mode_13 : decode b_W_mode 13 = .ok (.iconst 1, 1) := by decide +kernel
theorem d_W_mode_14 : decode b_W_mode 14 = .ok (.ireturn, 1) := by decide +kernel
theorem d_W_mode_15 : decode b_W_mode 15 = .ok (.astore_n 3, 1) := by decide +kernel
theorem d_W_mode_16 : decode b_W_mode 16 = .ok (.iconst 2, 1) := by decide +kernel
theorem d_W_mode_17 : decode b_W_mode 17 = .ok (.ireturn, 1) := by decide +kernel
theorem d_W_mode_18 : decode b_W_mode 18 = .ok (.astore_n 3, 1) := by decide +kernel
theorem d_W_mode_19 : decode b_W_mode 19 = .ok (.iconst 3, 1) := by decide +kernel
theorem d_W_mode_20 : decode b_W_mode 20 = .ok (.ireturn, 1) := by decide +kernel
theorem d_W_mode_21 : decode b_W_mode 21 = .ok (.astore_n 3, 1) := by decide +kernel
theorem d_W_mode_22 : decode b_W_mode 22 = .ok (.iconst 4, 1) := by decide +kernel
theorem d_W_mode_23 : decode b_W_mode 23 = .ok (.ireturn, 1) := by decide +kernel
theorem d_W_mode_24 : decode b_W_mode 24 = .ok (.iconst 0, 1) := by decide +kernel
theorem d_W_mode_25 : decode b_W_mode 25 = .ok (.ireturn, 1) := by decide +kernel
theorem gl_W_68 : ∀ w ∈ wsV "TrainGuardLaw" 68 "TrainGuard" y_G_mode (Cond.code y_G_mode b_G_mode 2 (some Jvm.ClassFile.FieldType.int) :: tG), w ∈ tG := by
  intro x hx
  simp only [wsV, List.cons_append, List.nil_append, List.mem_cons] at hx
  rcases hx with rfl | rfl | rfl | rfl | rfl | hx
  · exact wd_574
  · exact wd_575
  · exact wd_576
  · exact wd_1
  · exact wd_577
  · exact hx
def w_W_mode (T : SC × (Nat → Int64)) (x1 : Int32) (Q : Int32 → SC × (Nat → Int64) → Prop) : Prop := w_G_mode T.1 x1 (fun r u => Q 0 (u, vp_updL T.2 0 r.toInt64)) (fun k u => (k = 1 ∨ k = 2 ∨ k = 3 ∨ k = 4) ∧ Q (nI k) (u, T.2))
set_option maxRecDepth 100000 in
set_option maxHeartbeats 4000000 in
theorem c_W_mode (l : Launch) (hl0 : l.stackTraces = false) (D : va_G) (ca : Nat → ClassId) (ad : Nat → Nat) (o sz : Nat) (T : SC × (Nat → Int64)) (x1 : Int32) (Q : Int32 → SC × (Nat → Int64) → Prop) (h : w_W_mode T x1 Q) : Met l y_W_mode (Cond.codeWith y_W_mode b_W_mode 4 (some Jvm.ClassFile.FieldType.int) [(0, 9, 12, 13), (0, 9, 15, 15), (0, 9, 18, 17), (0, 9, 21, 19)] :: tG) ({ frames := 9, cells := 2, slots := 12, locals := 143 } : Room) (xPh D ca (wHl ca ad o) T sz [.ref (ad 0), .int x1, .ref o]) (va_Qi Q (xAt D (wHl ca ad o) (va_A (wHl ca ad o T) sz)) (va_A (wHl ca ad o T) sz)) 2 12 (va_A (wHl ca ad o T) sz) := by
  refine xx_meth (Qf := fun A => va_Qi Q (xAt D (wHl ca ad o) A) A) (by decide) (Nat.le_of_ble_eq_true rfl) ?_
  intro p e s m args below meth c A ls hx hb hr hw hown hlocks hml hK hN hA hP hD hS hl hZ htab hX hC
  have hown : s.vm.findClass "TrainGuardLaw" = some m.cls := hown
  have hl : lv_has ls 4 [(0, .ref (ad 0)), (1, .int x1), (2, .ref o)] := hl
  unfold w_W_mode at h
  obtain ⟨S, f⟩ := T
  have hH9 : ∀ H : Heap, H = s.heap → va_P D cls (wHl ca ad o (S, f)) H → va_S A s.heap H [] → W p l e ({ frames := 9, cells := 2, slots := 12, locals := 143 } : Room) s m args below meth c H [] 0 0 (MQ below ((fun A => va_Qi Q (xAt D (wHl ca ad o) A) A) A) args s 2 12 A) (F0 m 0 ls []) := by
    clear hP hS
    intro H hH hP hS
    refine lv_aload_n hx hb d_W_mode_0 rfl (lv_at hl 2 rfl) ?_
    refine lv_iconst (v := 0) hx hb d_W_mode_1 (by decide) ?_
    refine lv_aload_n hx hb d_W_mode_2 rfl (lv_at hl 0 rfl) ?_
    refine lv_iload_n hx hb d_W_mode_3 rfl (lv_at hl 1 rfl) ?_
    have hPc := hP.sub (ws' := wC ca ad S) [1, 2, 3, 4, 5, 6, 7, 8, 9, 10, 11, 12, 13, 14, 15] rfl
    have hDc := hD.sub (ws' := wC ca ad S) [1, 2, 3, 4, 5, 6, 7, 8, 9, 10, 11, 12, 13, 14, 15] (by decide) rfl
    have hFc := va_free (wc := wC ca ad S) hD hS hA [1, 2, 3, 4, 5, 6, 7, 8, 9, 10, 11, 12, 13, 14, 15] rfl
    refine vx_calli (vx_runV (As := [.int x1]) (rest := [.int 0, .ref o]) ⟨hx, hb, hml, hown, hw⟩ (c_G_mode l hl0 D ca ad H.size S x1 _ _ h) (cwV 1 hw (tG_g gl_W_68) rfl rfl rfl (by decide +kernel) ⟨Nat.le_of_ble_eq_true rfl, Nat.le_of_ble_eq_true rfl⟩) ⟨xPx.blind, va_recv hK hP rfl (q0 := 1) rfl, xPx.pre hK hN hPc hDc hX (hZ.now hS hA hDc)⟩ rfl rfl hl.1 rfl (lv_room (Nat.le_of_ble_eq_true rfl)) d_W_mode_4 ⟨Nat.le_of_ble_eq_true rfl, Nat.le_of_ble_eq_true rfl⟩) hS (fun q _ h => hFc q h) hFc (fun q _ h => hFc q h) (fun E ce q9 u t H1 locs ht hvm hp hB hz1 hk1 hS hce hcv hcl => ?_) (fun r u t H1 locs ht hvm hq hB hz1 hk1 hS => ?_)
    · obtain ⟨hE, hP1, hD1⟩ := hB
      rw [ht] at hP1
      obtain ⟨hP, hD⟩ := va_join (wr := [(o, .inl (ca 1, 1, .inr (.inl f)))]) (w1 := wC ca ad u.2) hP hD [1, 2, 3, 4, 5, 6, 7, 8, 9, 10, 11, 12, 13, 14, 15] [0] rfl rfl (by decide) (by decide) hk1 hFc hP1 hD1
      have hP : va_P D cls (wHl ca ad o (u.2, f)) H1 := hP
      have hD : va_D A (wHl ca ad o (u.2, f)) := hD
      obtain ⟨hk, h⟩ := hp
      obtain ⟨k9, u9⟩ := u
      rcases hk with hk | hk | hk | hk <;> (replace hk : k9 = _ := hk; subst hk; replace hE : E = _ := hE; subst hE)
      · refine vx_catch (E := xNm 1) (name := "java/lang/IllegalArgumentException") hown [] (⟨0, 9, 12, 13⟩ : ExceptionTableEntry) [(⟨0, 9, 15, 15⟩ : ExceptionTableEntry), (⟨0, 9, 18, 17⟩ : ExceptionTableEntry), (⟨0, 9, 21, 19⟩ : ExceptionTableEntry)] (by rw [htab]; rfl) (fun z hz => ?_) (by decide) (by decide) (hw _ wd_158) ((hX _ (List.mem_of_getElem? (i := 0) (by rfl))).use rfl) hce hcv hcl ?_
        · cases hz
        · refine lv_astore_n (lv' := [(3, .ref q9), (0, .ref (ad 0)), (1, .int x1), (2, .ref o)]) hx hb d_W_mode_12 rfl hl (by decide) rfl (fun ls hl => ?_)
          refine lv_iconst (v := 1) hx hb d_W_mode_13 (by decide) ?_
          exact W.iret (v := 1) hx hb hr (fun t ht hW => ⟨⟨1, (u9, f), rfl, h, by rw [ht]; exact hP, hD⟩, hS.F ht⟩) hS.2.2 d_W_mode_14
      · refine vx_catch (E := xNm 2) (name := "java/util/NoSuchElementException") hown [(⟨0, 9, 12, 13⟩ : ExceptionTableEntry)] (⟨0, 9, 15, 15⟩ : ExceptionTableEntry) [(⟨0, 9, 18, 17⟩ : ExceptionTableEntry), (⟨0, 9, 21, 19⟩ : ExceptionTableEntry)] (by rw [htab]; rfl) (fun z hz => ?_) (by decide) (by decide) (hw _ wd_159) ((hX _ (List.mem_of_getElem? (i := 9) (by rfl))).use rfl) hce hcv hcl ?_
        · simp only [List.mem_cons, List.not_mem_nil, or_false] at hz
          rcases hz with rfl
          · exact Or.inr ⟨by decide, "java/lang/IllegalArgumentException", hw _ wd_158, hC ("java/util/NoSuchElementException", "java/lang/IllegalArgumentException") (List.mem_of_getElem? (i := 0) (by rfl))⟩
        · refine lv_astore_n (lv' := [(3, .ref q9), (0, .ref (ad 0)), (1, .int x1), (2, .ref o)]) hx hb d_W_mode_15 rfl hl (by decide) rfl (fun ls hl => ?_)
          refine lv_iconst (v := 2) hx hb d_W_mode_16 (by decide) ?_
          exact W.iret (v := 2) hx hb hr (fun t ht hW => ⟨⟨2, (u9, f), rfl, h, by rw [ht]; exact hP, hD⟩, hS.F ht⟩) hS.2.2 d_W_mode_17
      · refine vx_catch (E := xNm 3) (name := "java/lang/IllegalStateException") hown [(⟨0, 9, 12, 13⟩ : ExceptionTableEntry), (⟨0, 9, 15, 15⟩ : ExceptionTableEntry)] (⟨0, 9, 18, 17⟩ : ExceptionTableEntry) [(⟨0, 9, 21, 19⟩ : ExceptionTableEntry)] (by rw [htab]; rfl) (fun z hz => ?_) (by decide) (by decide) (hw _ wd_160) ((hX _ (List.mem_of_getElem? (i := 7) (by rfl))).use rfl) hce hcv hcl ?_
        · simp only [List.mem_cons, List.not_mem_nil, or_false] at hz
          rcases hz with rfl | rfl
          · exact Or.inr ⟨by decide, "java/lang/IllegalArgumentException", hw _ wd_158, hC ("java/lang/IllegalStateException", "java/lang/IllegalArgumentException") (List.mem_of_getElem? (i := 1) (by rfl))⟩
          · exact Or.inr ⟨by decide, "java/util/NoSuchElementException", hw _ wd_159, hC ("java/lang/IllegalStateException", "java/util/NoSuchElementException") (List.mem_of_getElem? (i := 2) (by rfl))⟩
        · refine lv_astore_n (lv' := [(3, .ref q9), (0, .ref (ad 0)), (1, .int x1), (2, .ref o)]) hx hb d_W_mode_18 rfl hl (by decide) rfl (fun ls hl => ?_)
          refine lv_iconst (v := 3) hx hb d_W_mode_19 (by decide) ?_
          exact W.iret (v := 3) hx hb hr (fun t ht hW => ⟨⟨3, (u9, f), rfl, h, by rw [ht]; exact hP, hD⟩, hS.F ht⟩) hS.2.2 d_W_mode_20
      · refine vx_catch (E := xNm 4) (name := "java/lang/UnsupportedOperationException") hown [(⟨0, 9, 12, 13⟩ : ExceptionTableEntry), (⟨0, 9, 15, 15⟩ : ExceptionTableEntry), (⟨0, 9, 18, 17⟩ : ExceptionTableEntry)] (⟨0, 9, 21, 19⟩ : ExceptionTableEntry) [] (by rw [htab]; rfl) (fun z hz => ?_) (by decide) (by decide) (hw _ wd_161) ((hX _ (List.mem_of_getElem? (i := 8) (by rfl))).use rfl) hce hcv hcl ?_
        · simp only [List.mem_cons, List.not_mem_nil, or_false] at hz
          rcases hz with rfl | rfl | rfl
          · exact Or.inr ⟨by decide, "java/lang/IllegalArgumentException", hw _ wd_158, hC ("java/lang/UnsupportedOperationException", "java/lang/IllegalArgumentException") (List.mem_of_getElem? (i := 3) (by rfl))⟩
          · exact Or.inr ⟨by decide, "java/util/NoSuchElementException", hw _ wd_159, hC ("java/lang/UnsupportedOperationException", "java/util/NoSuchElementException") (List.mem_of_getElem? (i := 4) (by rfl))⟩
          · exact Or.inr ⟨by decide, "java/lang/IllegalStateException", hw _ wd_160, hC ("java/lang/UnsupportedOperationException", "java/lang/IllegalStateException") (List.mem_of_getElem? (i := 5) (by rfl))⟩
        · refine lv_astore_n (lv' := [(3, .ref q9), (0, .ref (ad 0)), (1, .int x1), (2, .ref o)]) hx hb d_W_mode_21 rfl hl (by decide) rfl (fun ls hl => ?_)
          refine lv_iconst (v := 4) hx hb d_W_mode_22 (by decide) ?_
          exact W.iret (v := 4) hx hb hr (fun t ht hW => ⟨⟨4, (u9, f), rfl, h, by rw [ht]; exact hP, hD⟩, hS.F ht⟩) hS.2.2 d_W_mode_23
    · obtain ⟨hP1, hD1⟩ := hB
      rw [ht] at hP1
      obtain ⟨hP, hD⟩ := va_join (wr := [(o, .inl (ca 1, 1, .inr (.inl f)))]) (w1 := wC ca ad u) hP hD [1, 2, 3, 4, 5, 6, 7, 8, 9, 10, 11, 12, 13, 14, 15] [0] rfl rfl (by decide) (by decide) hk1 hFc hP1 hD1
      have hP : va_P D cls (wHl ca ad o (u, f)) H1 := hP
      have hD : va_D A (wHl ca ad o (u, f)) := hD
      refine lv_i2l (v := r.toInt64) hx hb d_W_mode_7 rfl ?_
      refine va_last (D := D) hx hb hK hP hD hS 0 1 rfl rfl (by unfold vp_in; decide) d_W_mode_8 (fun H locs hP hD hS => ?_)
      have hP : va_P D cls (wHl ca ad o (u, vp_updL f 0 r.toInt64)) H := hP
      have hD : va_D A (wHl ca ad o (u, vp_updL f 0 r.toInt64)) := hD
      refine lv_goto (tgt := 24) hx hb d_W_mode_9 (by decide) ?_
      refine lv_iconst (v := 0) hx hb d_W_mode_24 (by decide) ?_
      exact W.iret (v := 0) hx hb hr (fun t ht hW => ⟨⟨0, (u, vp_updL f 0 r.toInt64), rfl, hq, by rw [ht]; exact hP, hD⟩, hS.F ht⟩) hS.2.2 d_W_mode_25
  exact hH9 _ rfl hP hS
theorem d_W_holds_0 : decode b_W_holds 0 = .ok (.aload_n 3, 1) := by decide +kernel
theorem d_W_holds_1 : decode b_W_holds 1 = .ok (.iconst 0, 1) := by decide +kernel
theorem d_W_holds_2 : decode b_W_holds 2 = .ok (.aload_n 0, 1) := by decide +kernel
theorem d_W_holds_3 : decode b_W_holds 3 = .ok (.iload_n 1, 1) := by decide +kernel
theorem d_W_holds_4 : decode b_W_holds 4 = .ok (.iload_n 2, 1) := by decide +kernel
theorem d_W_holds_5 : decode b_W_holds 5 = .ok (.invokevirtual 71, 3) := by decide +kernel
theorem d_W_holds_8 : decode b_W_holds 8 = .ok (.i2l, 1) := by decide +kernel
theorem d_W_holds_9 : decode b_W_holds 9 = .ok (.lastore, 1) := by decide +kernel
theorem d_W_holds_10 : decode b_W_holds 10 = .ok (.goto 19, 3) := by decide +kernel
theorem d_W_holds_13 : decode b_W_holds 13 = .ok (.astore 4, 2) := by decide +kernel
theorem d_W_holds_15 : decode b_W_holds 15 = .ok (.iconst 1, 1) := by decide +kernel
theorem d_W_holds_16 : decode b_W_holds 16 = .ok (.ireturn, 1) := by decide +kernel
theorem d_W_holds_17 : decode b_W_holds 17 = .ok (.astore 4, 2) := by decide +kernel
theorem d_W_holds_19 : decode b_W_holds 19 = .ok (.iconst 2, 1) := by decide +kernel
theorem d_W_holds_20 : decode b_W_holds 20 = .ok (.ireturn, 1) := by decide +kernel
theorem d_W_holds_21 : decode b_W_holds 21 = .ok (.astore 4, 2) := by decide +kernel
theorem d_W_holds_23 : decode b_W_holds 23 = .ok (.iconst 3, 1) := by decide +kernel
theorem d_W_holds_24 : decode b_W_holds 24 = .ok (.ireturn, 1) := by decide +kernel
theorem d_W_holds_25 : decode b_W_holds 25 = .ok (.astore 4, 2) := by decide +kernel
theorem d_W_holds_27 : decode b_W_holds 27 = .ok (.iconst 4, 1) := by decide +kernel
theorem d_W_holds_28 : decode b_W_holds 28 = .ok (.ireturn, 1) := by decide +kernel
theorem d_W_holds_29 : decode b_W_holds 29 = .ok (.iconst 0, 1) := by decide +kernel
theorem d_W_holds_30 : decode b_W_holds 30 = .ok (.ireturn, 1) := by decide +kernel
theorem gl_W_71 : ∀ w ∈ wsV "TrainGuardLaw" 71 "TrainGuard" y_G_holds (Cond.code y_G_holds b_G_holds 3 (some Jvm.ClassFile.FieldType.int) :: tG), w ∈ tG := by
  intro x hx
  simp only [wsV, List.cons_append, List.nil_append, List.mem_cons] at hx
  rcases hx with rfl | rfl | rfl | rfl | rfl | hx
  · exact wd_581
  · exact wd_582
  · exact wd_583
  · exact wd_1
  · exact wd_584
  · exact hx
def w_W_holds (T : SC × (Nat → Int64)) (x1 : Int32) (x2 : Int32) (Q : Int32 → SC × (Nat → Int64) → Prop) : Prop := w_G_holds T.1 x1 x2 (fun r u => Q 0 (u, vp_updL T.2 0 r.toInt64)) (fun k u => (k = 1 ∨ k = 2 ∨ k = 3 ∨ k = 4) ∧ Q (nI k) (u, T.2))
set_option maxRecDepth 100000 in
set_option maxHeartbeats 4000000 in
theorem c_W_holds (l : Launch) (hl0 : l.stackTraces = false) (D : va_G) (ca : Nat → ClassId) (ad : Nat → Nat) (o sz : Nat) (T : SC × (Nat → Int64)) (x1 : Int32) (x2 : Int32) (Q : Int32 → SC × (Nat → Int64) → Prop) (h : w_W_holds T x1 x2 Q) : Met l y_W_holds (Cond.codeWith y_W_holds b_W_holds 5 (some Jvm.ClassFile.FieldType.int) [(0, 10, 13, 13), (0, 10, 17, 15), (0, 10, 21, 17), (0, 10, 25, 19)] :: tG) ({ frames := 8, cells := 1, slots := 6, locals := 123 } : Room) (xPh D ca (wHl ca ad o) T sz [.ref (ad 0), .int x1, .int x2, .ref o]) (va_Qi Q (xAt D (wHl ca ad o) (va_A (wHl ca ad o T) sz)) (va_A (wHl ca ad o T) sz)) 1 6 (va_A (wHl ca ad o T) sz) := by
  refine xx_meth (Qf := fun A => va_Qi Q (xAt D (wHl ca ad o) A) A) (by decide) (Nat.le_of_ble_eq_true rfl) ?_
  intro p e s m args below meth c A ls hx hb hr hw hown hlocks hml hK hN hA hP hD hS hl hZ htab hX hC
  have hown : s.vm.findClass "TrainGuardLaw" = some m.cls := hown
  have hl : lv_has ls 5 [(0, .ref (ad 0)), (1, .int x1), (2, .int x2), (3, .ref o)] := hl
  unfold w_W_holds at h
  obtain ⟨S, f⟩ := T
  have hH9 : ∀ H : Heap, H = s.heap → va_P D cls (wHl ca ad o (S, f)) H → va_S A s.heap H [] → W p l e ({ frames := 8, cells := 1, slots := 6, locals := 123 } : Room) s m args below meth c H [] 0 0 (MQ below ((fun A => va_Qi Q (xAt D (wHl ca ad o) A) A) A) args s 1 6 A) (F0 m 0 ls []) := by
    clear hP hS
    intro H hH hP hS
    refine lv_aload_n hx hb d_W_holds_0 rfl (lv_at hl 3 rfl) ?_
    refine lv_iconst (v := 0) hx hb d_W_holds_1 (by decide) ?_
    refine lv_aload_n hx hb d_W_holds_2 rfl (lv_at hl 0 rfl) ?_
    refine lv_iload_n hx hb d_W_holds_3 rfl (lv_at hl 1 rfl) ?_
    refine lv_iload_n hx hb d_W_holds_4 rfl (lv_at hl 2 rfl) ?_
    have hPc := hP.sub (ws' := wC ca ad S) [1, 2, 3, 4, 5, 6, 7, 8, 9, 10, 11, 12, 13, 14, 15] rfl
    have hDc := hD.sub (ws' := wC ca ad S) [1, 2, 3, 4, 5, 6, 7, 8, 9, 10, 11, 12, 13, 14, 15] (by decide) rfl
    have hFc := va_free (wc := wC ca ad S) hD hS hA [1, 2, 3, 4, 5, 6, 7, 8, 9, 10, 11, 12, 13, 14, 15] rfl
    refine vx_calli (vx_runV (As := [.int x1, .int x2]) (rest := [.int 0, .ref o]) ⟨hx, hb, hml, hown, hw⟩ (c_G_holds l hl0 D ca ad H.size S x1 x2 _ _ h) (cwV 2 hw (tG_g gl_W_71) rfl rfl rfl (by decide +kernel) ⟨Nat.le_of_ble_eq_true rfl, Nat.le_of_ble_eq_true rfl⟩) ⟨xPx.blind, va_recv hK hP rfl (q0 := 1) rfl, xPx.pre hK hN hPc hDc hX (hZ.now hS hA hDc)⟩ rfl rfl hl.1 rfl (lv_room (Nat.le_of_ble_eq_true rfl)) d_W_holds_5 ⟨Nat.le_of_ble_eq_true rfl, Nat.le_of_ble_eq_true rfl⟩) hS (fun q _ h => hFc q h) hFc (fun q _ h => hFc q h) (fun E ce q9 u t H1 locs ht hvm hp hB hz1 hk1 hS hce hcv hcl => ?_) (fun r u t H1 locs ht hvm hq hB hz1 hk1 hS => ?_)
    · obtain ⟨hE, hP1, hD1⟩ := hB
      rw [ht] at hP1
      obtain ⟨hP, hD⟩ := va_join (wr := [(o, .inl (ca 1, 1, .inr (.inl f)))]) (w1 := wC ca ad u.2) hP hD [1, 2, 3, 4, 5, 6, 7, 8, 9, 10, 11, 12, 13, 14, 15] [0] rfl rfl (by decide) (by decide) hk1 hFc hP1 hD1
      have hP : va_P D cls (wHl ca ad o (u.2, f)) H1 := hP
      have hD : va_D A (wHl ca ad o (u.2, f)) := hD
      obtain ⟨hk, h⟩ := hp
      obtain ⟨k9, u9⟩ := u
      rcases hk with hk | hk | hk | hk <;> (replace hk : k9 = _ := hk; subst hk; replace hE : E = _ := hE; subst hE)
      · refine vx_catch (E := xNm 1) (name := "java/lang/IllegalArgumentException") hown [] (⟨0, 10, 13, 13⟩ : ExceptionTableEntry) [(⟨0, 10, 17, 15⟩ : ExceptionTableEntry), (⟨0, 10, 21, 17⟩ : ExceptionTableEntry), (⟨0, 10, 25, 19⟩ : ExceptionTableEntry)] (by rw [htab]; rfl) (fun z hz => ?_) (by decide) (by decide) (hw _ wd_158) ((hX _ (List.mem_of_getElem? (i := 0) (by rfl))).use rfl) hce hcv hcl ?_
        · cases hz
        · refine lv_astore (lv' := [(4, .ref q9), (0, .ref (ad 0)), (1, .int x1), (2, .int x2), (3, .ref o)]) hx hb d_W_holds_13 hl (by decide) rfl (fun ls hl => ?_)
          refine lv_iconst (v := 1) hx hb d_W_holds_15 (by decide) ?_
          exact W.iret (v := 1) hx hb hr (fun t ht hW => ⟨⟨1, (u9, f), rfl, h, by rw [ht]; exact hP, hD⟩, hS.F ht⟩) hS.2.2 d_W_holds_16
      · refine vx_catch (E := xNm 2) (name := "java/util/NoSuchElementException") hown [(⟨0, 10, 13, 13⟩ : ExceptionTableEntry)] (⟨0, 10, 17, 15⟩ : ExceptionTableEntry) [(⟨0, 10, 21, 17⟩ : ExceptionTableEntry), (⟨0, 10, 25, 19⟩ : ExceptionTableEntry)] (by rw [htab]; rfl) (fun z hz => ?_) (by decide) (by decide) (hw _ wd_159) ((hX _ (List.mem_of_getElem? (i := 9) (by rfl))).use rfl) hce hcv hcl ?_
        · simp only [List.mem_cons, List.not_mem_nil, or_false] at hz
          rcases hz with rfl
          · exact Or.inr ⟨by decide, "java/lang/IllegalArgumentException", hw _ wd_158, hC ("java/util/NoSuchElementException", "java/lang/IllegalArgumentException") (List.mem_of_getElem? (i := 0) (by rfl))⟩
        · refine lv_astore (lv' := [(4, .ref q9), (0, .ref (ad 0)), (1, .int x1), (2, .int x2), (3, .ref o)]) hx hb d_W_holds_17 hl (by decide) rfl (fun ls hl => ?_)
          refine lv_iconst (v := 2) hx hb d_W_holds_19 (by decide) ?_
          exact W.iret (v := 2) hx hb hr (fun t ht hW => ⟨⟨2, (u9, f), rfl, h, by rw [ht]; exact hP, hD⟩, hS.F ht⟩) hS.2.2 d_W_holds_20
      · refine vx_catch (E := xNm 3) (name := "java/lang/IllegalStateException") hown [(⟨0, 10, 13, 13⟩ : ExceptionTableEntry), (⟨0, 10, 17, 15⟩ : ExceptionTableEntry)] (⟨0, 10, 21, 17⟩ : ExceptionTableEntry) [(⟨0, 10, 25, 19⟩ : ExceptionTableEntry)] (by rw [htab]; rfl) (fun z hz => ?_) (by decide) (by decide) (hw _ wd_160) ((hX _ (List.mem_of_getElem? (i := 7) (by rfl))).use rfl) hce hcv hcl ?_
        · simp only [List.mem_cons, List.not_mem_nil, or_false] at hz
          rcases hz with rfl | rfl
          · exact Or.inr ⟨by decide, "java/lang/IllegalArgumentException", hw _ wd_158, hC ("java/lang/IllegalStateException", "java/lang/IllegalArgumentException") (List.mem_of_getElem? (i := 1) (by rfl))⟩
          · exact Or.inr ⟨by decide, "java/util/NoSuchElementException", hw _ wd_159, hC ("java/lang/IllegalStateException", "java/util/NoSuchElementException") (List.mem_of_getElem? (i := 2) (by rfl))⟩
        · refine lv_astore (lv' := [(4, .ref q9), (0, .ref (ad 0)), (1, .int x1), (2, .int x2), (3, .ref o)]) hx hb d_W_holds_21 hl (by decide) rfl (fun ls hl => ?_)
          refine lv_iconst (v := 3) hx hb d_W_holds_23 (by decide) ?_
          exact W.iret (v := 3) hx hb hr (fun t ht hW => ⟨⟨3, (u9, f), rfl, h, by rw [ht]; exact hP, hD⟩, hS.F ht⟩) hS.2.2 d_W_holds_24
      · refine vx_catch (E := xNm 4) (name := "java/lang/UnsupportedOperationException") hown [(⟨0, 10, 13, 13⟩ : ExceptionTableEntry), (⟨0, 10, 17, 15⟩ : ExceptionTableEntry), (⟨0, 10, 21, 17⟩ : ExceptionTableEntry)] (⟨0, 10, 25, 19⟩ : ExceptionTableEntry) [] (by rw [htab]; rfl) (fun z hz => ?_) (by decide) (by decide) (hw _ wd_161) ((hX _ (List.mem_of_getElem? (i := 8) (by rfl))).use rfl) hce hcv hcl ?_
        · simp only [List.mem_cons, List.not_mem_nil, or_false] at hz
          rcases hz with rfl | rfl | rfl
          · exact Or.inr ⟨by decide, "java/lang/IllegalArgumentException", hw _ wd_158, hC ("java/lang/UnsupportedOperationException", "java/lang/IllegalArgumentException") (List.mem_of_getElem? (i := 3) (by rfl))⟩
          · exact Or.inr ⟨by decide, "java/util/NoSuchElementException", hw _ wd_159, hC ("java/lang/UnsupportedOperationException", "java/util/NoSuchElementException") (List.mem_of_getElem? (i := 4) (by rfl))⟩
          · exact Or.inr ⟨by decide, "java/lang/IllegalStateException", hw _ wd_160, hC ("java/lang/UnsupportedOperationException", "java/lang/IllegalStateException") (List.mem_of_getElem? (i := 5) (by rfl))⟩
        · refine lv_astore (lv' := [(4, .ref q9), (0, .ref (ad 0)), (1, .int x1), (2, .int x2), (3, .ref o)]) hx hb d_W_holds_25 hl (by decide) rfl (fun ls hl => ?_)
          refine lv_iconst (v := 4) hx hb d_W_holds_27 (by decide) ?_
          exact W.iret (v := 4) hx hb hr (fun t ht hW => ⟨⟨4, (u9, f), rfl, h, by rw [ht]; exact hP, hD⟩, hS.F ht⟩) hS.2.2 d_W_holds_28
    · obtain ⟨hP1, hD1⟩ := hB
      rw [ht] at hP1
      obtain ⟨hP, hD⟩ := va_join (wr := [(o, .inl (ca 1, 1, .inr (.inl f)))]) (w1 := wC ca ad u) hP hD [1, 2, 3, 4, 5, 6, 7, 8, 9, 10, 11, 12, 13, 14, 15] [0] rfl rfl (by decide) (by decide) hk1 hFc hP1 hD1
      have hP : va_P D cls (wHl ca ad o (u, f)) H1 := hP
      have hD : va_D A (wHl ca ad o (u, f)) := hD
      refine lv_i2l (v := r.toInt64) hx hb d_W_holds_8 rfl ?_
      refine va_last (D := D) hx hb hK hP hD hS 0 1 rfl rfl (by unfold vp_in; decide) d_W_holds_9 (fun H locs hP hD hS => ?_)
      have hP : va_P D cls (wHl ca ad o (u, vp_updL f 0 r.toInt64)) H := hP
      have hD : va_D A (wHl ca ad o (u, vp_updL f 0 r.toInt64)) := hD
      refine lv_goto (tgt := 29) hx hb d_W_holds_10 (by decide) ?_
      refine lv_iconst (v := 0) hx hb d_W_holds_29 (by decide) ?_
      exact W.iret (v := 0) hx hb hr (fun t ht hW => ⟨⟨0, (u, vp_updL f 0 r.toInt64), rfl, hq, by rw [ht]; exact hP, hD⟩, hS.F ht⟩) hS.2.2 d_W_holds_30
  exact hH9 _ rfl hP hS
