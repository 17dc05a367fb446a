def nXl : List Cond := [(Cond.castable "java/lang/IllegalArgumentException" "java/lang/IllegalArgumentException"), (Cond.declares ({ cls := "java/lang/RuntimeException", name := "<init>", desc := "()V" } : Jvm.MethodName)), (Cond.declares ({ cls := "java/lang/RuntimeException", name := "<init>", desc := "(Ljava/lang/String;)V" } : Jvm.MethodName)), (Cond.declares ({ cls := "java/lang/Exception", name := "<init>", desc := "()V" } : Jvm.MethodName)), (Cond.declares ({ cls := "java/lang/Exception", name := "<init>", desc := "(Ljava/lang/String;)V" } : Jvm.MethodName)), (Cond.declares ({ cls := "java/lang/Throwable", name := "<init>", desc := "()V" } : Jvm.MethodName)), (Cond.declares ({ cls := "java/lang/Throwable", name := "<init>", desc := "(Ljava/lang/String;)V" } : Jvm.MethodName)), (Cond.castable "java/lang/IllegalStateException" "java/lang/IllegalStateException"), (Cond.castable "java/lang/UnsupportedOperationException" "java/lang/UnsupportedOperationException"), (Cond.castable "java/util/NoSuchElementException" "java/util/NoSuchElementException")]
def nX (U : State) : Prop := ∀ w ∈ nXl, va_Nw w U
theorem nXc {a b : String} {s U : State} (hW : s.WarmedH U.vm) (h : va_Nw (.castable a b) s) : va_Nw (.castable a b) U := by
  unfold va_Nw at h ⊢
  simp only [Cond.before, Cond.holds, Cond.value] at h ⊢
  rw [hW.alike.findClass, hW.alike.findClass]
  simp only [hW.alike.assignable]
  exact h
theorem nX.warm {s U : State} (hW : s.WarmedH U.vm) (h : nX s) : nX U := by
  intro w hw
  have h1 := h w hw
  simp only [nXl, List.mem_cons, List.not_mem_nil, or_false] at hw
  rcases hw with rfl | rfl | rfl | rfl | rfl | rfl | rfl | rfl | rfl | rfl <;> first | exact nXc hW h1 | exact va_Nw.warmD hW h1
theorem nX.same {u U : State} (h : u.vm = U.vm) (hZ : nX u) : nX U := by
  intro w hw
  have h1 := hZ w hw
  simp only [nXl, List.mem_cons, List.not_mem_nil, or_false] at hw
  rcases hw with rfl | rfl | rfl | rfl | rfl | rfl | rfl | rfl | rfl | rfl <;> exact va_Nw.same rfl h h1
def xNm : Nat → String
  | 1 => "java/lang/IllegalArgumentException"
  | 2 => "java/util/NoSuchElementException"
  | 3 => "java/lang/IllegalStateException"
  | _ => "java/lang/UnsupportedOperationException"
def zW (A : Nat → Prop) (U : State) (H : Heap) : Prop := vx_Zq Bundle.tN "UNASSIGNED_STACK" Bundle.steD A U H ∧ vx_Zq Bundle.tN "SUPPRESSED_SENTINEL" Bundle.listD A U H
theorem zW.now {A : Nat → Prop} {s : State} {H0 H : Heap} {locs : List Loc} {ws : va_W} (h : zW A s H0) (hS : va_S A H0 H locs) (hA : ∀ q, H0.size ≤ q → A q) (hD : va_D A ws) : zW (va_A ws H.size) s H :=
  ⟨(h.1.kept hS.2.1).narrow (xx_free hD hS hA), (h.2.kept hS.2.1).narrow (xx_free hD hS hA)⟩
theorem zW.moved {A : Nat → Prop} {u U : State} {H : Heap} (hvm : u.vm.Alike U.vm) (h : zW A u H) : zW A U H := ⟨vx_Zq.moved hvm h.1, vx_Zq.moved hvm h.2⟩
def xPx {St : Type} (D : va_G) (ca : Nat → ClassId) (w : St → va_W) (S : St) (sz : Nat) (vals : List Value) : Array Value → State → Prop := va_Pc vals (fun U => U.heap.size = sz ∧ va_K D cls (tyl ca) U ∧ nW U ∧ va_P D cls (w S) U.heap ∧ va_D (fun _ => True) (w S) ∧ nX U ∧ zW (va_A (w S) sz) U U.heap)
theorem xPx.blind {St : Type} {D : va_G} {ca : Nat → ClassId} {w : St → va_W} {S : St} {sz : Nat} {vals : List Value} : FrameBlind (xPx D ca w S sz vals) := by
  intro a U g mk q
  obtain ⟨q0, q1, qK, qN, qP, qD, qX, qZ⟩ := q
  exact ⟨q0, q1, va_K.moved (u := U) (U := U.calling g mk a) (Vm.Alike.refl U.vm) qK, nW.same (u := U) (U := U.calling g mk a) rfl qN, qP, qD, nX.same (u := U) (U := U.calling g mk a) rfl qX, zW.moved (u := U) (U := U.calling g mk a) (Vm.Alike.refl U.vm) qZ⟩
theorem xPx.pre {St : Type} {D : va_G} {ca : Nat → ClassId} {w : St → va_W} {S : St} {vals : List Value} {s : State} {H : Heap} {A : Nat → Prop} (hK : va_K D cls (tyl ca) s) (hN : nW s) (hP : va_P D cls (w S) H) (hD : va_D A (w S)) (hX : nX s) (hZ : zW (va_A (w S) H.size) s H) : ∀ U : State, U.heap = H → s.WarmedH U.vm → xPx D ca w S H.size vals vals.toArray U :=
  fun U hU hW => ⟨rfl, by rw [hU], va_K.moved hW.alike hK, hN.warm hW, by rw [hU]; exact hP, hD.weaken (fun _ _ _ _ => trivial), hX.warm hW, by rw [hU]; exact hZ.moved hW.alike⟩
def xXf {St : Type} (X : Nat → St → Prop) (D : va_G) (w : St → va_W) (A : Nat → Prop) : String → State → State → Prop := vx_X (fun u : Nat × St => X u.1 u.2) (fun E u t => E = xNm u.1 ∧ xAt D w A u.2 t) A
def xAr {St : Type} (D : va_G) (w : St → va_W) (ad : Nat → Nat) (A : Nat → Prop) (u : Nat × St) (a : Nat) (t : State) : Prop := a = ad (9 + u.1) ∧ u.1 < 3 ∧ xAt D w A u.2 t
theorem xx_mex {St : Type} {l : Launch} {D : va_G} {ca : Nat → ClassId} {w : St → va_W} {S : St} {sz : Nat} {vals : List Value} {y : MethodName} {cc : ByteArray} {maxL : Nat} {ret : Option FieldType} {rm : Room} {mc ms : Nat} {Qf : (Nat → Prop) → Array Value → State → Outcome → State → Prop} {Xf : (Nat → Prop) → String → State → State → Prop}
    (hy : plainName y.cls = true) (hn : (lg_sl vals).length ≤ maxL)
    (body : ∀ (p : Program) (e : Env) (s : State) (m : MethodId) (args : Array Value) (below : List Frame) (meth : Method) (c : Code) (A : Nat → Prop) (ls : Array Slot), p.tables.exec = Jvm.exec → c.code = cc → meth.sig.returnType = ret → (∀ x ∈ tG, x.before args s = true) → s.vm.findClass y.cls = some m.cls → meth.locks = false → c.maxLocals = maxL →
      va_K D cls (tyl ca) s → nW s → (∀ q : Nat, s.heap.size ≤ q → A q) → va_P D cls (w S) s.heap → va_D A (w S) → va_S A s.heap s.heap [] → lv_has ls maxL (lv_args 0 vals) → zW A s s.heap → (∀ x ∈ c.exceptionTable.toList, False) → nX s →
      W p l e rm s m args below meth c s.heap [] 0 0 (vx_MQ below (Qf A) (Xf A) args s mc ms A) (F0 m 0 ls [])) :
    vx_Met l y (Cond.code y cc maxL ret :: tG) rm (xPx D ca w S sz vals) (Qf (va_A (w S) sz)) (Xf (va_A (w S) sz)) mc ms (va_A (w S) sz) := by
  refine vx_ofW (cc := cc) (maxL := maxL) (ret := ret) hy rfl ?_
  intro p e s m args below meth c s₁ B hml hout hv
  obtain ⟨rfl, hsz, hK, hN, hP, hD0, hX, hZ⟩ := hv
  have hts := atoms_spec (ws := Cond.code y cc maxL ret :: tG) B.pre
  subst hsz
  have hl := lv_entry vals (n := maxL) hn
  rw [lg_entry_eq]
  exact body p e s m _ below meth c _ _ B.exec B.bytes B.returns (fun x h => hts x (List.mem_cons_of_mem _ h)) (findClass_of_methodNamed B.named) B.notSynchronized hml hK hN (fun q h => Or.inr h) hP (hD0.self (sz := s.heap.size)) va_S.rf hl hZ hout hX
theorem xx_keepP {D : va_G} {cl : List vw_C} {ws : va_W} {H H1 : Heap} (hP : va_P D cl ws H) (hk : ∀ q : Nat, q < H.size → H1[q]? = H[q]?) : va_P D cl ws H1 := fun k q h => (hP k q h).kept (hk q.1 (hP k q h).lt)
section XXT
variable {St : Type} {D : va_G} {w : St → va_W} {S : St} {ad : Nat → Nat}
variable {p : Program} {l : Launch} {e : Env} {R : Room} {s : State} {m : MethodId} {args : Array Value} {below : List Frame} {meth : Method} {c : Code} {H : Heap} {locs : List Loc} {cells slots : Nat}
variable {pc : Nat} {ls : Array Slot} {rest st0 : List Value} {a : Array Value} {A : Nat → Prop} {mc ms mc0 ms0 : Nat} {X : Nat → St → Prop} {Qc : Array Value → State → Outcome → State → Prop}
theorem xx_leave {T' t st₀ : State} {L : List Loc} {q : Addr} {E : String} {ce : Cell} (h0 : st₀.heap = H) (X' : Stand p l e R s m args below meth c T' (locs ++ L) (cells + mc) (slots + ms)) (hL : ∀ z ∈ L, va_A (w S) H.size z.base) (e1 : T'.heap = t.heap) (hx : xXf X D w (va_A (w S) H.size) E st₀ t) (hce : t.heap[q]? = some ce) (hcv : ce.vm = .none) (hcl : s.vm.findClass E = some ce.cls)
    (hD : va_D A (w S)) (hS : va_S A s.heap H locs) (hA : ∀ q, s.heap.size ≤ q → A q) (hout : ∀ x ∈ c.exceptionTable.toList, False) (hlocks : meth.locks = false) (hcm : cells + mc ≤ mc0) (hsm : slots + ms ≤ ms0) :
    ∃ t2, Steps p.tables e below ((T'.setTop (F0 m pc ls rest)).pushFrame (.throwing q)) t2 ∧ vx_MQ below Qc (xXf X D w A) args s mc0 ms0 A t2 := by
  obtain ⟨u, hp, ⟨hE, hP1, hD1⟩, hF⟩ := hx
  have hFr := xx_free hD hS hA
  obtain ⟨k1, k2, k3⟩ := vx_keep h0 e1 hS (fun q _ h => hFr q h) hFr hL hF
  exact vx_out (E := E) (ce := ce) (fun x hx => (hout x hx).elim) hlocks (by rw [e1]; exact hce) hcv hcl (fun t' ht' _ => ⟨u, hp, ⟨hE, by rw [ht', e1]; exact hP1, hD1.weaken (fun _ _ _ h => hFr _ h)⟩, k3.F ht'⟩) k3.2.2 hcm hsm T' rfl X'
theorem xx_thr (hr : vx_Run p l e R s m args below meth c H locs cells slots mc ms (F0 m pc ls st0) rest (va_Qv (fun _ : St => False) (xAt D w (va_A (w S) H.size)) (va_A (w S) H.size) a) (xXf X D w (va_A (w S) H.size)) (va_A (w S) H.size))
    (hD : va_D A (w S)) (hS : va_S A s.heap H locs) (hA : ∀ q, s.heap.size ≤ q → A q) (hout : ∀ x ∈ c.exceptionTable.toList, False) (hlocks : meth.locks = false) (hcm : cells + mc ≤ mc0) (hsm : slots + ms ≤ ms0) :
    W p l e R s m args below meth c H locs cells slots (vx_MQ below Qc (xXf X D w A) args s mc0 ms0 A) (F0 m pc ls st0) := by
  intro T hT X0
  rcases hr T hT X0 with ⟨v, st₀, t, T', L, h0, X', hL, e1, e2, ⟨⟨u, hv, hp, hb⟩, hF⟩, st⟩ | ⟨q, st₀, t, T', L, E, ce, h0, X', hL, e1, e2, hx, hce, hcv, hcl, st⟩
  · exact hp.elim
  · obtain ⟨t2, a1, b1⟩ := xx_leave (pc := pc) (ls := ls) (rest := rest) (Qc := Qc) h0 X' hL e1 hx hce hcv hcl hD hS hA hout hlocks hcm hsm
    exact ⟨t2, st.trans a1, b1⟩
theorem xx_calr {Q1 : Nat → St → Prop} (hr : vx_Run p l e R s m args below meth c H locs cells slots mc ms (F0 m pc ls st0) rest (va_Qr (fun u : Nat × St => Q1 u.1 u.2) (xAr D w ad (va_A (w S) H.size)) (va_A (w S) H.size) a) (xXf X D w (va_A (w S) H.size)) (va_A (w S) H.size))
    (hD : va_D A (w S)) (hS : va_S A s.heap H locs) (hA : ∀ q, s.heap.size ≤ q → A q) (hout : ∀ x ∈ c.exceptionTable.toList, False) (hlocks : meth.locks = false) (hcm : cells + mc ≤ mc0) (hsm : slots + ms ≤ ms0)
    (kk : ∀ (j : Nat) (u : St) (H1 : Heap) (locs1 : List Loc), j < 3 → Q1 j u → va_P D cls (w u) H1 → va_D A (w u) → va_S A s.heap H1 locs1 → W p l e R s m args below meth c H1 locs1 (cells + mc) (slots + ms) (vx_MQ below Qc (xXf X D w A) args s mc0 ms0 A) (F0 m (pc + 3) ls (.ref (ad (9 + j)) :: rest))) :
    W p l e R s m args below meth c H locs cells slots (vx_MQ below Qc (xXf X D w A) args s mc0 ms0 A) (F0 m pc ls st0) := by
  intro T hT X0
  rcases hr T hT X0 with ⟨v, st₀, t, T', L, h0, X', hL, e1, e2, ⟨⟨u, a9, hv, hp, hb⟩, hF⟩, st⟩ | ⟨q, st₀, t, T', L, E, ce, h0, X', hL, e1, e2, hx, hce, hcv, hcl, st⟩
  · cases hv
    obtain ⟨rfl, hj, hP1, hD1⟩ := hb
    have hFr := xx_free hD hS hA
    obtain ⟨k1, k2, k3⟩ := vx_keep h0 e1 hS (fun q _ h => hFr q h) hFr hL hF
    obtain ⟨t2, a1, b1⟩ := kk u.1 u.2 T'.heap (locs ++ L) hj hp (by rw [e1]; exact hP1) (hD1.weaken (fun _ _ _ h => hFr _ h)) k3 T' rfl X'
    exact ⟨t2, st t2 a1, b1⟩
  · obtain ⟨t2, a1, b1⟩ := xx_leave (pc := pc) (ls := ls) (rest := rest) (Qc := Qc) h0 X' hL e1 hx hce hcv hcl hD hS hA hout hlocks hcm hsm
    exact ⟨t2, st.trans a1, b1⟩
end XXT
theorem ax_g1 : ∀ w ∈ (vx_at0 "TrainGuard" 236 "java/lang/IllegalArgumentException" ["java/lang/RuntimeException", "java/lang/Exception"]).filter goodWord, w ∈ lw_tbl := by decide +kernel
theorem ax_n1 : ∀ w ∈ (vx_at0 "TrainGuard" 236 "java/lang/IllegalArgumentException" ["java/lang/RuntimeException", "java/lang/Exception"]).filter (fun w => !goodWord w), w ∈ nXl := by decide +kernel
theorem ax_h1 {args : Array Value} {s : State} (hw : ∀ x ∈ tG, x.before args s = true) (hX : nX s) : ∀ w ∈ vx_at0 "TrainGuard" 236 "java/lang/IllegalArgumentException" ["java/lang/RuntimeException", "java/lang/Exception"], w.before args s = true := vx_hat (fun w h => hw w (List.mem_filter.mpr ⟨ax_g1 w h, (List.mem_filter.mp h).2⟩)) ax_n1 (fun w h => by have h1 := hX w h; simp only [nXl, List.mem_cons, List.not_mem_nil, or_false] at h; rcases h with rfl | rfl | rfl | rfl | rfl | rfl | rfl | rfl | rfl | rfl <;> exact va_Nw.use rfl h1)
theorem ax_o1 : ∀ w ∈ Cond.classLink "TrainGuard" 234 "java/lang/IllegalArgumentException" :: Cond.initialized "java/lang/IllegalArgumentException" :: vx_at0 "TrainGuard" 236 "java/lang/IllegalArgumentException" ["java/lang/RuntimeException", "java/lang/Exception"], vx_ot w = true := by decide +kernel
theorem d_G_demandArgument_0 : decode b_G_demandArgument 0 = .ok (.iload_n 0, 1) := by decide +kernel
theorem d_G_demandArgument_1 : decode b_G_demandArgument 1 = .ok (.ifCond .ne 11, 3) := by decide +kernel
theorem d_G_demandArgument_4 : decode b_G_demandArgument 4 = .ok (.new 234, 3) := by decide +kernel
theorem d_G_demandArgument_7 : decode b_G_demandArgument 7 = .ok (.dup, 1) := by decide +kernel
theorem d_G_demandArgument_8 : decode b_G_demandArgument 8 = .ok (.invokespecial 236, 3) := by decide +kernel
theorem d_G_demandArgument_11 : decode b_G_demandArgument 11 = .ok (.athrow, 1) := by decide +kernel
theorem d_G_demandArgument_12 : decode b_G_demandArgument 12 = .ok (.return_, 1) := by decide +kernel
set_option maxRecDepth 100000 in
set_option maxHeartbeats 4000000 in
theorem c_G_demandArgument_ok (l : Launch) (D : va_G) (ca : Nat → ClassId) (ad : Nat → Nat) (sz : Nat) (S : SC) (x1 : Int32) (hz : ¬ x1 = 0) (Q : SC → Prop) (h : Q S) : Met l y_G_demandArgument (Cond.code y_G_demandArgument b_G_demandArgument 1 none :: tG) ({ frames := 0, cells := 0, slots := 0, locals := 0 } : Room) (xPc D ca (wC ca ad) S sz [.int x1]) (va_Qv Q (xAt D (wC ca ad) (va_A (wC ca ad S) sz)) (va_A (wC ca ad S) sz)) 0 0 (va_A (wC ca ad S) sz) := by
  refine xx_met (Qf := fun A => va_Qv Q (xAt D (wC ca ad) A) A) (by decide) (Nat.le_of_ble_eq_true rfl) ?_
  intro p e s m args below meth c A ls hx hb hr hw hown hlocks hml hK hN hA hP hD hS hl
  have hl : lv_has ls 1 [(0, .int x1)] := hl
  refine lv_iload_n hx hb d_G_demandArgument_0 rfl (lv_at hl 0 rfl) ?_
  refine lv_if_ne (tgt := 12) hx hb d_G_demandArgument_1 (by decide) (fun hc => ?_) (fun hc => absurd hc hz)
  exact W.vret hx hb hr (fun t ht hW => ⟨⟨S, rfl, h, by rw [ht]; exact hP, hD⟩, hS.F ht⟩) hS.2.2 d_G_demandArgument_12
set_option maxRecDepth 100000 in
set_option maxHeartbeats 4000000 in
theorem c_G_demandArgument_no (l : Launch) (hl0 : l.stackTraces = false) (D : va_G) (ca : Nat → ClassId) (ad : Nat → Nat) (sz : Nat) (S : SC) (x1 : Int32) (hz : x1 = 0) (X : Nat → SC → Prop) (h : X 1 S) : vx_Met l y_G_demandArgument (Cond.code y_G_demandArgument b_G_demandArgument 1 none :: tG) ({ frames := 6, cells := 1, slots := 6, locals := 81 } : Room) (xPx D ca (wC ca ad) S sz [.int x1]) (va_Qv (fun _ : SC => False) (xAt D (wC ca ad) (va_A (wC ca ad S) sz)) (va_A (wC ca ad S) sz)) (xXf X D (wC ca ad) (va_A (wC ca ad S) sz)) 1 6 (va_A (wC ca ad S) sz) := by
  refine xx_mex (Qf := fun A => va_Qv (fun _ : SC => False) (xAt D (wC ca ad) A) A) (Xf := fun A => xXf X D (wC ca ad) A) (by decide) (Nat.le_of_ble_eq_true rfl) ?_
  intro p e s m args below meth c A ls hx hb hr hw hown hlocks hml hK hN hA hP hD hS hl hZ hout hX
  have hown : s.vm.findClass "TrainGuard" = some m.cls := hown
  have hl : lv_has ls 1 [(0, .int x1)] := hl
  refine lv_iload_n hx hb d_G_demandArgument_0 rfl (lv_at hl 0 rfl) ?_
  refine lv_if_ne (tgt := 12) hx hb d_G_demandArgument_1 (by decide) (fun hc => absurd hz hc) (fun hc => ?_)
  exact vx_throw0 (names := ["java/lang/RuntimeException", "java/lang/Exception"]) hx hb hl0 hown (by decide +kernel) (by decide +kernel) (hw _ wd_178) (hw _ wd_9) (ax_h1 hw hX) ax_o1 hZ.1 hZ.2 hS (by rw [hml]; exact hl.1) d_G_demandArgument_4 d_G_demandArgument_7 d_G_demandArgument_8 d_G_demandArgument_11 (fun x hx => (hout x hx).elim) (by decide) (by decide) (by decide) (by decide) hlocks (fun t _ hz1 hk => ⟨(1, S), h, ⟨rfl, xx_keepP hP hk, hD⟩, Nat.le_trans hS.1 hz1, fun q h1 h2 => (hk q (Nat.lt_of_lt_of_le h1 hS.1)).trans (hS.2.1 q h1 h2)⟩) hS.2.2 (by decide) (by decide)
theorem ax_g2 : ∀ w ∈ (vx_at0 "TrainGuard" 239 "java/util/NoSuchElementException" ["java/lang/RuntimeException", "java/lang/Exception"]).filter goodWord, w ∈ lw_tbl := by decide +kernel
theorem ax_n2 : ∀ w ∈ (vx_at0 "TrainGuard" 239 "java/util/NoSuchElementException" ["java/lang/RuntimeException", "java/lang/Exception"]).filter (fun w => !goodWord w), w ∈ nXl := by decide +kernel
theorem ax_h2 {args : Array Value} {s : State} (hw : ∀ x ∈ tG, x.before args s = true) (hX : nX s) : ∀ w ∈ vx_at0 "TrainGuard" 239 "java/util/NoSuchElementException" ["java/lang/RuntimeException", "java/lang/Exception"], w.before args s = true := vx_hat (fun w h => hw w (List.mem_filter.mpr ⟨ax_g2 w h, (List.mem_filter.mp h).2⟩)) ax_n2 (fun w h => by have h1 := hX w h; simp only [nXl, List.mem_cons, List.not_mem_nil, or_false] at h; rcases h with rfl | rfl | rfl | rfl | rfl | rfl | rfl | rfl | rfl | rfl <;> exact va_Nw.use rfl h1)
theorem ax_o2 : ∀ w ∈ Cond.classLink "TrainGuard" 237 "java/util/NoSuchElementException" :: Cond.initialized "java/util/NoSuchElementException" :: vx_at0 "TrainGuard" 239 "java/util/NoSuchElementException" ["java/lang/RuntimeException", "java/lang/Exception"], vx_ot w = true := by decide +kernel
theorem d_G_demandMessage_0 : decode b_G_demandMessage 0 = .ok (.iload_n 0, 1) := by decide +kernel
theorem d_G_demandMessage_1 : decode b_G_demandMessage 1 = .ok (.ifCond .ne 11, 3) := by decide +kernel
theorem d_G_demandMessage_4 : decode b_G_demandMessage 4 = .ok (.new 237, 3) := by decide +kernel
theorem d_G_demandMessage_7 : decode b_G_demandMessage 7 = .ok (.dup, 1) := by decide +kernel
theorem d_G_demandMessage_8 : decode b_G_demandMessage 8 = .ok (.invokespecial 239, 3) := by decide +kernel
theorem d_G_demandMessage_11 : decode b_G_demandMessage 11 = .ok (.athrow, 1) := by decide +kernel
theorem d_G_demandMessage_12 : decode b_G_demandMessage 12 = .ok (.return_, 1) := by decide +kernel
set_option maxRecDepth 100000 in
set_option maxHeartbeats 4000000 in
theorem c_G_demandMessage_ok (l : Launch) (D : va_G) (ca : Nat → ClassId) (ad : Nat → Nat) (sz : Nat) (S : SC) (x1 : Int32) (hz : ¬ x1 = 0) (Q : SC → Prop) (h : Q S) : Met l y_G_demandMessage (Cond.code y_G_demandMessage b_G_demandMessage 1 none :: tG) ({ frames := 0, cells := 0, slots := 0, locals := 0 } : Room) (xPc D ca (wC ca ad) S sz [.int x1]) (va_Qv Q (xAt D (wC ca ad) (va_A (wC ca ad S) sz)) (va_A (wC ca ad S) sz)) 0 0 (va_A (wC ca ad S) sz) := by
  refine xx_met (Qf := fun A => va_Qv Q (xAt D (wC ca ad) A) A) (by decide) (Nat.le_of_ble_eq_true rfl) ?_
  intro p e s m args below meth c A ls hx hb hr hw hown hlocks hml hK hN hA hP hD hS hl
  have hl : lv_has ls 1 [(0, .int x1)] := hl
  refine lv_iload_n hx hb d_G_demandMessage_0 rfl (lv_at hl 0 rfl) ?_
  refine lv_if_ne (tgt := 12) hx hb d_G_demandMessage_1 (by decide) (fun hc => ?_) (fun hc => absurd hc hz)
  exact W.vret hx hb hr (fun t ht hW => ⟨⟨S, rfl, h, by rw [ht]; exact hP, hD⟩, hS.F ht⟩) hS.2.2 d_G_demandMessage_12
set_option maxRecDepth 100000 in
set_option maxHeartbeats 4000000 in
theorem c_G_demandMessage_no (l : Launch) (hl0 : l.stackTraces = false) (D : va_G) (ca : Nat → ClassId) (ad : Nat → Nat) (sz : Nat) (S : SC) (x1 : Int32) (hz : x1 = 0) (X : Nat → SC → Prop) (h : X 2 S) : vx_Met l y_G_demandMessage (Cond.code y_G_demandMessage b_G_demandMessage 1 none :: tG) ({ frames := 6, cells := 1, slots := 6, locals := 81 } : Room) (xPx D ca (wC ca ad) S sz [.int x1]) (va_Qv (fun _ : SC => False) (xAt D (wC ca ad) (va_A (wC ca ad S) sz)) (va_A (wC ca ad S) sz)) (xXf X D (wC ca ad) (va_A (wC ca ad S) sz)) 1 6 (va_A (wC ca ad S) sz) := by
  refine xx_mex (Qf := fun A => va_Qv (fun _ : SC => False) (xAt D (wC ca ad) A) A) (Xf := fun A => xXf X D (wC ca ad) A) (by decide) (Nat.le_of_ble_eq_true rfl) ?_
  intro p e s m args below meth c A ls hx hb hr hw hown hlocks hml hK hN hA hP hD hS hl hZ hout hX
  have hown : s.vm.findClass "TrainGuard" = some m.cls := hown
  have hl : lv_has ls 1 [(0, .int x1)] := hl
  refine lv_iload_n hx hb d_G_demandMessage_0 rfl (lv_at hl 0 rfl) ?_
  refine lv_if_ne (tgt := 12) hx hb d_G_demandMessage_1 (by decide) (fun hc => absurd hz hc) (fun hc => ?_)
  exact vx_throw0 (names := ["java/lang/RuntimeException", "java/lang/Exception"]) hx hb hl0 hown (by decide +kernel) (by decide +kernel) (hw _ wd_449) (hw _ wd_12) (ax_h2 hw hX) ax_o2 hZ.1 hZ.2 hS (by rw [hml]; exact hl.1) d_G_demandMessage_4 d_G_demandMessage_7 d_G_demandMessage_8 d_G_demandMessage_11 (fun x hx => (hout x hx).elim) (by decide) (by decide) (by decide) (by decide) hlocks (fun t _ hz1 hk => ⟨(2, S), h, ⟨rfl, xx_keepP hP hk, hD⟩, Nat.le_trans hS.1 hz1, fun q h1 h2 => (hk q (Nat.lt_of_lt_of_le h1 hS.1)).trans (hS.2.1 q h1 h2)⟩) hS.2.2 (by decide) (by decide)
theorem ax_g3 : ∀ w ∈ (vx_at0 "TrainGuard" 242 "java/lang/IllegalStateException" ["java/lang/RuntimeException", "java/lang/Exception"]).filter goodWord, w ∈ lw_tbl := by decide +kernel
theorem ax_n3 : ∀ w ∈ (vx_at0 "TrainGuard" 242 "java/lang/IllegalStateException" ["java/lang/RuntimeException", "java/lang/Exception"]).filter (fun w => !goodWord w), w ∈ nXl := by decide +kernel
theorem ax_h3 {args : Array Value} {s : State} (hw : ∀ x ∈ tG, x.before args s = true) (hX : nX s) : ∀ w ∈ vx_at0 "TrainGuard" 242 "java/lang/IllegalStateException" ["java/lang/RuntimeException", "java/lang/Exception"], w.before args s = true := vx_hat (fun w h => hw w (List.mem_filter.mpr ⟨ax_g3 w h, (List.mem_filter.mp h).2⟩)) ax_n3 (fun w h => by have h1 := hX w h; simp only [nXl, List.mem_cons, List.not_mem_nil, or_false] at h; rcases h with rfl | rfl | rfl | rfl | rfl | rfl | rfl | rfl | rfl | rfl <;> exact va_Nw.use rfl h1)
theorem ax_o3 : ∀ w ∈ Cond.classLink "TrainGuard" 240 "java/lang/IllegalStateException" :: Cond.initialized "java/lang/IllegalStateException" :: vx_at0 "TrainGuard" 242 "java/lang/IllegalStateException" ["java/lang/RuntimeException", "java/lang/Exception"], vx_ot w = true := by decide +kernel
theorem d_G_demandState_0 : decode b_G_demandState 0 = .ok (.iload_n 0, 1) := by decide +kernel
theorem d_G_demandState_1 : decode b_G_demandState 1 = .ok (.ifCond .ne 11, 3) := by decide +kernel
theorem d_G_demandState_4 : decode b_G_demandState 4 = .ok (.new 240, 3) := by decide +kernel
theorem d_G_demandState_7 : decode b_G_demandState 7 = .ok (.dup, 1) := by decide +kernel
theorem d_G_demandState_8 : decode b_G_demandState 8 = .ok (.invokespecial 242, 3) := by decide +kernel
theorem d_G_demandState_11 : decode b_G_demandState 11 = .ok (.athrow, 1) := by decide +kernel
theorem d_G_demandState_12 : decode b_G_demandState 12 = .ok (.return_, 1) := by decide +kernel
set_option maxRecDepth 100000 in
set_option maxHeartbeats 4000000 in
theorem c_G_demandState_ok (l : Launch) (D : va_G) (ca : Nat → ClassId) (ad : Nat → Nat) (sz : Nat) (S : SC) (x1 : Int32) (hz : ¬ x1 = 0) (Q : SC → Prop) (h : Q S) : Met l y_G_demandState (Cond.code y_G_demandState b_G_demandState 1 none :: tG) ({ frames := 0, cells := 0, slots := 0, locals := 0 } : Room) (xPc D ca (wC ca ad) S sz [.int x1]) (va_Qv Q (xAt D (wC ca ad) (va_A (wC ca ad S) sz)) (va_A (wC ca ad S) sz)) 0 0 (va_A (wC ca ad S) sz) := by
  refine xx_met (Qf := fun A => va_Qv Q (xAt D (wC ca ad) A) A) (by decide) (Nat.le_of_ble_eq_true rfl) ?_
  intro p e s m args below meth c A ls hx hb hr hw hown hlocks hml hK hN hA hP hD hS hl
  have hl : lv_has ls 1 [(0, .int x1)] := hl
  refine lv_iload_n hx hb d_G_demandState_0 rfl (lv_at hl 0 rfl) ?_
  refine lv_if_ne (tgt := 12) hx hb d_G_demandState_1 (by decide) (fun hc => ?_) (fun hc => absurd hc hz)
  exact W.vret hx hb hr (fun t ht hW => ⟨⟨S, rfl, h, by rw [ht]; exact hP, hD⟩, hS.F ht⟩) hS.2.2 d_G_demandState_12
set_option maxRecDepth 100000 in
set_option maxHeartbeats 4000000 in
theorem c_G_demandState_no (l : Launch) (hl0 : l.stackTraces = false) (D : va_G) (ca : Nat → ClassId) (ad : Nat → Nat) (sz : Nat) (S : SC) (x1 : Int32) (hz : x1 = 0) (X : Nat → SC → Prop) (h : X 3 S) : vx_Met l y_G_demandState (Cond.code y_G_demandState b_G_demandState 1 none :: tG) ({ frames := 6, cells := 1, slots := 6, locals := 81 } : Room) (xPx D ca (wC ca ad) S sz [.int x1]) (va_Qv (fun _ : SC => False) (xAt D (wC ca ad) (va_A (wC ca ad S) sz)) (va_A (wC ca ad S) sz)) (xXf X D (wC ca ad) (va_A (wC ca ad S) sz)) 1 6 (va_A (wC ca ad S) sz) := by
  refine xx_mex (Qf := fun A => va_Qv (fun _ : SC => False) (xAt D (wC ca ad) A) A) (Xf := fun A => xXf X D (wC ca ad) A) (by decide) (Nat.le_of_ble_eq_true rfl) ?_
  intro p e s m args below meth c A ls hx hb hr hw hown hlocks hml hK hN hA hP hD hS hl hZ hout hX
  have hown : s.vm.findClass "TrainGuard" = some m.cls := hown
  have hl : lv_has ls 1 [(0, .int x1)] := hl
  refine lv_iload_n hx hb d_G_demandState_0 rfl (lv_at hl 0 rfl) ?_
  refine lv_if_ne (tgt := 12) hx hb d_G_demandState_1 (by decide) (fun hc => absurd hz hc) (fun hc => ?_)
  exact vx_throw0 (names := ["java/lang/RuntimeException", "java/lang/Exception"]) hx hb hl0 hown (by decide +kernel) (by decide +kernel) (hw _ wd_245) (hw _ wd_10) (ax_h3 hw hX) ax_o3 hZ.1 hZ.2 hS (by rw [hml]; exact hl.1) d_G_demandState_4 d_G_demandState_7 d_G_demandState_8 d_G_demandState_11 (fun x hx => (hout x hx).elim) (by decide) (by decide) (by decide) (by decide) hlocks (fun t _ hz1 hk => ⟨(3, S), h, ⟨rfl, xx_keepP hP hk, hD⟩, Nat.le_trans hS.1 hz1, fun q h1 h2 => (hk q (Nat.lt_of_lt_of_le h1 hS.1)).trans (hS.2.1 q h1 h2)⟩) hS.2.2 (by decide) (by decide)
theorem ax_g4 : ∀ w ∈ (vx_at0 "TrainGuard" 148 "java/lang/UnsupportedOperationException" ["java/lang/RuntimeException", "java/lang/Exception"]).filter goodWord, w ∈ lw_tbl := by decide +kernel
theorem ax_n4 : ∀ w ∈ (vx_at0 "TrainGuard" 148 "java/lang/UnsupportedOperationException" ["java/lang/RuntimeException", "java/lang/Exception"]).filter (fun w => !goodWord w), w ∈ nXl := by decide +kernel
theorem ax_h4 {args : Array Value} {s : State} (hw : ∀ x ∈ tG, x.before args s = true) (hX : nX s) : ∀ w ∈ vx_at0 "TrainGuard" 148 "java/lang/UnsupportedOperationException" ["java/lang/RuntimeException", "java/lang/Exception"], w.before args s = true := vx_hat (fun w h => hw w (List.mem_filter.mpr ⟨ax_g4 w h, (List.mem_filter.mp h).2⟩)) ax_n4 (fun w h => by have h1 := hX w h; simp only [nXl, List.mem_cons, List.not_mem_nil, or_false] at h; rcases h with rfl | rfl | rfl | rfl | rfl | rfl | rfl | rfl | rfl | rfl <;> exact va_Nw.use rfl h1)
theorem ax_o4 : ∀ w ∈ Cond.classLink "TrainGuard" 146 "java/lang/UnsupportedOperationException" :: Cond.initialized "java/lang/UnsupportedOperationException" :: vx_at0 "TrainGuard" 148 "java/lang/UnsupportedOperationException" ["java/lang/RuntimeException", "java/lang/Exception"], vx_ot w = true := by decide +kernel
theorem d_G_demandSafety_0 : decode b_G_demandSafety 0 = .ok (.iload_n 0, 1) := by decide +kernel
theorem d_G_demandSafety_1 : decode b_G_demandSafety 1 = .ok (.ifCond .ne 11, 3) := by decide +kernel
theorem d_G_demandSafety_4 : decode b_G_demandSafety 4 = .ok (.new 146, 3) := by decide +kernel
theorem d_G_demandSafety_7 : decode b_G_demandSafety 7 = .ok (.dup, 1) := by decide +kernel
theorem d_G_demandSafety_8 : decode b_G_demandSafety 8 = .ok (.invokespecial 148, 3) := by decide +kernel
theorem d_G_demandSafety_11 : decode b_G_demandSafety 11 = .ok (.athrow, 1) := by decide +kernel
theorem d_G_demandSafety_12 : decode b_G_demandSafety 12 = .ok (.return_, 1) := by decide +kernel
set_option maxRecDepth 100000 in
set_option maxHeartbeats 4000000 in
theorem c_G_demandSafety_ok (l : Launch) (D : va_G) (ca : Nat → ClassId) (ad : Nat → Nat) (sz : Nat) (S : SC) (x1 : Int32) (hz : ¬ x1 = 0) (Q : SC → Prop) (h : Q S) : Met l y_G_demandSafety (Cond.code y_G_demandSafety b_G_demandSafety 1 none :: tG) ({ frames := 0, cells := 0, slots := 0, locals := 0 } : Room) (xPc D ca (wC ca ad) S sz [.int x1]) (va_Qv Q (xAt D (wC ca ad) (va_A (wC ca ad S) sz)) (va_A (wC ca ad S) sz)) 0 0 (va_A (wC ca ad S) sz) := by
  refine xx_met (Qf := fun A => va_Qv Q (xAt D (wC ca ad) A) A) (by decide) (Nat.le_of_ble_eq_true rfl) ?_
  intro p e s m args below meth c A ls hx hb hr hw hown hlocks hml hK hN hA hP hD hS hl
  have hl : lv_has ls 1 [(0, .int x1)] := hl
  refine lv_iload_n hx hb d_G_demandSafety_0 rfl (lv_at hl 0 rfl) ?_
  refine lv_if_ne (tgt := 12) hx hb d_G_demandSafety_1 (by decide) (fun hc => ?_) (fun hc => absurd hc hz)
  exact W.vret hx hb hr (fun t ht hW => ⟨⟨S, rfl, h, by rw [ht]; exact hP, hD⟩, hS.F ht⟩) hS.2.2 d_G_demandSafety_12
set_option maxRecDepth 100000 in
set_option maxHeartbeats 4000000 in
theorem c_G_demandSafety_no (l : Launch) (hl0 : l.stackTraces = false) (D : va_G) (ca : Nat → ClassId) (ad : Nat → Nat) (sz : Nat) (S : SC) (x1 : Int32) (hz : x1 = 0) (X : Nat → SC → Prop) (h : X 4 S) : vx_Met l y_G_demandSafety (Cond.code y_G_demandSafety b_G_demandSafety 1 none :: tG) ({ frames := 6, cells := 1, slots := 6, locals := 81 } : Room) (xPx D ca (wC ca ad) S sz [.int x1]) (va_Qv (fun _ : SC => False) (xAt D (wC ca ad) (va_A (wC ca ad S) sz)) (va_A (wC ca ad S) sz)) (xXf X D (wC ca ad) (va_A (wC ca ad S) sz)) 1 6 (va_A (wC ca ad S) sz) := by
  refine xx_mex (Qf := fun A => va_Qv (fun _ : SC => False) (xAt D (wC ca ad) A) A) (Xf := fun A => xXf X D (wC ca ad) A) (by decide) (Nat.le_of_ble_eq_true rfl) ?_
  intro p e s m args below meth c A ls hx hb hr hw hown hlocks hml hK hN hA hP hD hS hl hZ hout hX
  have hown : s.vm.findClass "TrainGuard" = some m.cls := hown
  have hl : lv_has ls 1 [(0, .int x1)] := hl
  refine lv_iload_n hx hb d_G_demandSafety_0 rfl (lv_at hl 0 rfl) ?_
  refine lv_if_ne (tgt := 12) hx hb d_G_demandSafety_1 (by decide) (fun hc => absurd hz hc) (fun hc => ?_)
  exact vx_throw0 (names := ["java/lang/RuntimeException", "java/lang/Exception"]) hx hb hl0 hown (by decide +kernel) (by decide +kernel) (hw _ wd_279) (hw _ wd_11) (ax_h4 hw hX) ax_o4 hZ.1 hZ.2 hS (by rw [hml]; exact hl.1) d_G_demandSafety_4 d_G_demandSafety_7 d_G_demandSafety_8 d_G_demandSafety_11 (fun x hx => (hout x hx).elim) (by decide) (by decide) (by decide) (by decide) hlocks (fun t _ hz1 hk => ⟨(4, S), h, ⟨rfl, xx_keepP hP hk, hD⟩, Nat.le_trans hS.1 hz1, fun q h1 h2 => (hk q (Nat.lt_of_lt_of_le h1 hS.1)).trans (hS.2.1 q h1 h2)⟩) hS.2.2 (by decide) (by decide)
