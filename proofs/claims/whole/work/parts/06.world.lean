abbrev SC : Type := (Nat → Nat → Int32) × (Nat → Nat → UInt64)
abbrev SR : Type := (Nat → Nat → Int32) × (Nat → Nat → Int64)
def pI {α : Type} (S : (Nat → Nat → Int32) × α) (k j : Nat) (v : Int32) : (Nat → Nat → Int32) × α := (va_up S.1 k (va_up (S.1 k) j v), S.2)
def pV {α : Type} (S : (Nat → Nat → Int32) × (Nat → Nat → α)) (k j : Nat) (v : α) : (Nat → Nat → Int32) × (Nat → Nat → α) := (S.1, va_up S.2 k (va_up (S.2 k) j v))
def cTf (ad : Nat → Nat) (S : SC) (i : Nat) : List Value := [.ref (ad (12 + i)), .double (S.2 5 i), .double (S.2 6 i), .double (S.2 7 i), .double (S.2 8 i), .double (S.2 9 i), .double (S.2 10 i), .double (S.2 11 i), .int (S.1 7 i), .int (S.1 8 i), .int (S.1 9 i)]
def cMf (S : SC) (i : Nat) : List Value := [.int (S.1 10 i), .int (S.1 11 i), .int (S.1 12 i), .double (S.2 12 i), .int (S.1 13 i)]
def wC (ca : Nat → ClassId) (ad : Nat → Nat) (S : SC) : va_W := [(ad 0, .inr (3, [.ref (ad 1), .ref (ad 8), .int (S.1 0 0), .int (S.1 1 0), .int (S.1 2 0), .int (S.1 3 0)])), (ad 1, .inr (0, [.ref (ad 2), .ref (ad 3), .ref (ad 4), .ref (ad 5), .ref (ad 6), .ref (ad 7), .int (S.1 4 0), .int (S.1 5 0)])), (ad 2, .inl (ca 2, 11, .inr (.inr (.inr (.inl (S.2 0)))))), (ad 3, .inl (ca 2, 10, .inr (.inr (.inr (.inl (S.2 1)))))), (ad 4, .inl (ca 0, 10, .inl (S.1 6))), (ad 5, .inl (ca 2, 5, .inr (.inr (.inr (.inl (S.2 2)))))), (ad 6, .inl (ca 2, 5, .inr (.inr (.inr (.inl (S.2 3)))))), (ad 7, .inl (ca 2, 5, .inr (.inr (.inr (.inl (S.2 4)))))), (ad 8, .inl (ca 4, 3, .inr (.inr (.inr (.inr (fun j => some (ad (9 + j)))))))), (ad 9, .inr (2, cTf ad S 0)), (ad 10, .inr (2, cTf ad S 1)), (ad 11, .inr (2, cTf ad S 2)), (ad 12, .inr (1, cMf S 0)), (ad 13, .inr (1, cMf S 1)), (ad 14, .inr (1, cMf S 2))]
def wR (ca : Nat → ClassId) (ad : Nat → Nat) (S : SR) : va_W := [(ad 0, .inr (4, [.int (S.1 0 0), .int (S.1 1 0), .ref (ad 1), .ref (ad 2), .ref (ad 3), .int (S.1 2 0), .ref (ad 4), .ref (ad 5), .ref (ad 6), .int (S.1 3 0), .ref (ad 7), .ref (ad 8), .ref (ad 9), .ref (ad 10), .ref (ad 11), .ref (ad 12), .ref (ad 13), .ref (ad 14), .ref (ad 15), .ref (ad 16), .ref (ad 17), .ref (ad 18), .int (S.1 4 0), .int (S.1 5 0), .int (S.1 6 0)])), (ad 1, .inl (ca 1, 11, .inr (.inl (S.2 0)))), (ad 2, .inl (ca 1, 10, .inr (.inl (S.2 1)))), (ad 3, .inl (ca 0, 10, .inl (S.1 7))), (ad 4, .inl (ca 1, 5, .inr (.inl (S.2 2)))), (ad 5, .inl (ca 1, 5, .inr (.inl (S.2 3)))), (ad 6, .inl (ca 1, 5, .inr (.inl (S.2 4)))), (ad 7, .inl (ca 1, 3, .inr (.inl (S.2 5)))), (ad 8, .inl (ca 1, 3, .inr (.inl (S.2 6)))), (ad 9, .inl (ca 1, 3, .inr (.inl (S.2 7)))), (ad 10, .inl (ca 1, 3, .inr (.inl (S.2 8)))), (ad 11, .inl (ca 1, 3, .inr (.inl (S.2 9)))), (ad 12, .inl (ca 1, 3, .inr (.inl (S.2 10)))), (ad 13, .inl (ca 1, 3, .inr (.inl (S.2 11)))), (ad 14, .inl (ca 0, 3, .inl (S.1 8))), (ad 15, .inl (ca 3, 3, .inl (S.1 9))), (ad 16, .inl (ca 0, 3, .inl (S.1 10))), (ad 17, .inl (ca 0, 3, .inl (S.1 11))), (ad 18, .inl (ca 1, 3, .inr (.inl (S.2 12))))]
def tyl (ca : Nat → ClassId) : List (ClassId × FieldType) := [(ca 0, .int), (ca 1, .long), (ca 2, .double), (ca 3, .boolean), (ca 4, .object "TrainGuard$Train")]
def nestL : List Cond := [(Cond.methodLinkNest "TrainGuard" (9 : Nat) ({ cls := "TrainGuard$Line", name := "<init>", desc := "()V" } : Jvm.MethodName) "TrainGuard"), (Cond.fieldLinkNest "TrainGuard" (98 : Nat) "TrainGuard$Line" "holders" "[I" "TrainGuard"), (Cond.fieldLinkNest "TrainGuard" (43 : Nat) "TrainGuard$Line" "sectionCount" "I" "TrainGuard"), (Cond.fieldLinkNest "TrainGuard" (55 : Nat) "TrainGuard$Line" "restrictionCount" "I" "TrainGuard"), (Cond.methodLinkNest "TrainGuard" (22 : Nat) ({ cls := "TrainGuard$Train", name := "<init>", desc := "()V" } : Jvm.MethodName) "TrainGuard"), (Cond.methodLinkNest "TrainGuard$Train" (11 : Nat) ({ cls := "TrainGuard$Message", name := "<init>", desc := "()V" } : Jvm.MethodName) "TrainGuard"), (Cond.fieldLinkNest "TrainGuard" (130 : Nat) "TrainGuard$Message" "isWaiting" "Z" "TrainGuard"), (Cond.fieldLinkNest "TrainGuard" (137 : Nat) "TrainGuard$Message" "isStop" "Z" "TrainGuard"), (Cond.fieldLinkNest "TrainGuard" (152 : Nat) "TrainGuard$Message" "place" "D" "TrainGuard"), (Cond.fieldLinkNest "TrainGuard" (117 : Nat) "TrainGuard$Train" "message" "LTrainGuard$Message;" "TrainGuard"), (Cond.fieldLinkNest "TrainGuard" (205 : Nat) "TrainGuard$Train" "speed" "D" "TrainGuard"), (Cond.fieldLinkNest "TrainGuard" (196 : Nat) "TrainGuard$Train" "real" "D" "TrainGuard"), (Cond.fieldLinkNest "TrainGuard" (199 : Nat) "TrainGuard$Train" "measured" "D" "TrainGuard"), (Cond.fieldLinkNest "TrainGuard" (202 : Nat) "TrainGuard$Train" "margin" "D" "TrainGuard"), (Cond.fieldLinkNest "TrainGuard" (208 : Nat) "TrainGuard$Train" "authority" "D" "TrainGuard"), (Cond.fieldLinkNest "TrainGuard" (189 : Nat) "TrainGuard$Train" "hasAuthority" "Z" "TrainGuard"), (Cond.fieldLinkNest "TrainGuard" (183 : Nat) "TrainGuard$Train" "isWet" "Z" "TrainGuard"), (Cond.fieldLinkNest "TrainGuard" (106 : Nat) "TrainGuard$Train" "mode" "I" "TrainGuard")]
def nW (U : State) : Prop := ∀ w ∈ nestL, va_Nw w U
theorem nW.warm {s U : State} (hW : s.WarmedH U.vm) (h : nW s) : nW U := by
  intro w hw
  have h1 := h w hw
  simp only [nestL, List.mem_cons, List.not_mem_nil, or_false] at hw
  rcases hw with rfl | rfl | rfl | rfl | rfl | rfl | rfl | rfl | rfl | rfl | rfl | rfl | rfl | rfl | rfl | rfl | rfl | rfl <;> first | exact va_Nw.warmF hW h1 | exact va_Nw.warmM hW h1
theorem nW.same {u U : State} (h : u.vm = U.vm) (hZ : nW u) : nW U := by
  intro w hw
  have h1 := hZ w hw
  simp only [nestL, List.mem_cons, List.not_mem_nil, or_false] at hw
  rcases hw with rfl | rfl | rfl | rfl | rfl | rfl | rfl | rfl | rfl | rfl | rfl | rfl | rfl | rfl | rfl | rfl | rfl | rfl <;> exact va_Nw.same rfl h h1
theorem nw_23 {args : Array Value} {s : State} (h : nW s) : (Cond.methodLinkNest "TrainGuard" (9 : Nat) ({ cls := "TrainGuard$Line", name := "<init>", desc := "()V" } : Jvm.MethodName) "TrainGuard").before args s = true := (h _ (List.mem_of_getElem? (i := 0) (by rfl))).use rfl
theorem nw_30 {args : Array Value} {s : State} (h : nW s) : (Cond.fieldLinkNest "TrainGuard" (98 : Nat) "TrainGuard$Line" "holders" "[I" "TrainGuard").before args s = true := (h _ (List.mem_of_getElem? (i := 1) (by rfl))).use rfl
theorem nw_35 {args : Array Value} {s : State} (h : nW s) : (Cond.fieldLinkNest "TrainGuard" (43 : Nat) "TrainGuard$Line" "sectionCount" "I" "TrainGuard").before args s = true := (h _ (List.mem_of_getElem? (i := 2) (by rfl))).use rfl
theorem nw_37 {args : Array Value} {s : State} (h : nW s) : (Cond.fieldLinkNest "TrainGuard" (55 : Nat) "TrainGuard$Line" "restrictionCount" "I" "TrainGuard").before args s = true := (h _ (List.mem_of_getElem? (i := 3) (by rfl))).use rfl
theorem nw_60 {args : Array Value} {s : State} (h : nW s) : (Cond.methodLinkNest "TrainGuard" (22 : Nat) ({ cls := "TrainGuard$Train", name := "<init>", desc := "()V" } : Jvm.MethodName) "TrainGuard").before args s = true := (h _ (List.mem_of_getElem? (i := 4) (by rfl))).use rfl
theorem nw_66 {args : Array Value} {s : State} (h : nW s) : (Cond.methodLinkNest "TrainGuard$Train" (11 : Nat) ({ cls := "TrainGuard$Message", name := "<init>", desc := "()V" } : Jvm.MethodName) "TrainGuard").before args s = true := (h _ (List.mem_of_getElem? (i := 5) (by rfl))).use rfl
theorem nw_71 {args : Array Value} {s : State} (h : nW s) : (Cond.fieldLinkNest "TrainGuard" (130 : Nat) "TrainGuard$Message" "isWaiting" "Z" "TrainGuard").before args s = true := (h _ (List.mem_of_getElem? (i := 6) (by rfl))).use rfl
theorem nw_73 {args : Array Value} {s : State} (h : nW s) : (Cond.fieldLinkNest "TrainGuard" (137 : Nat) "TrainGuard$Message" "isStop" "Z" "TrainGuard").before args s = true := (h _ (List.mem_of_getElem? (i := 7) (by rfl))).use rfl
theorem nw_76 {args : Array Value} {s : State} (h : nW s) : (Cond.fieldLinkNest "TrainGuard" (152 : Nat) "TrainGuard$Message" "place" "D" "TrainGuard").before args s = true := (h _ (List.mem_of_getElem? (i := 8) (by rfl))).use rfl
theorem nw_90 {args : Array Value} {s : State} (h : nW s) : (Cond.fieldLinkNest "TrainGuard" (117 : Nat) "TrainGuard$Train" "message" "LTrainGuard$Message;" "TrainGuard").before args s = true := (h _ (List.mem_of_getElem? (i := 9) (by rfl))).use rfl
theorem nw_94 {args : Array Value} {s : State} (h : nW s) : (Cond.fieldLinkNest "TrainGuard" (205 : Nat) "TrainGuard$Train" "speed" "D" "TrainGuard").before args s = true := (h _ (List.mem_of_getElem? (i := 10) (by rfl))).use rfl
theorem nw_96 {args : Array Value} {s : State} (h : nW s) : (Cond.fieldLinkNest "TrainGuard" (196 : Nat) "TrainGuard$Train" "real" "D" "TrainGuard").before args s = true := (h _ (List.mem_of_getElem? (i := 11) (by rfl))).use rfl
theorem nw_98 {args : Array Value} {s : State} (h : nW s) : (Cond.fieldLinkNest "TrainGuard" (199 : Nat) "TrainGuard$Train" "measured" "D" "TrainGuard").before args s = true := (h _ (List.mem_of_getElem? (i := 12) (by rfl))).use rfl
theorem nw_100 {args : Array Value} {s : State} (h : nW s) : (Cond.fieldLinkNest "TrainGuard" (202 : Nat) "TrainGuard$Train" "margin" "D" "TrainGuard").before args s = true := (h _ (List.mem_of_getElem? (i := 13) (by rfl))).use rfl
theorem nw_102 {args : Array Value} {s : State} (h : nW s) : (Cond.fieldLinkNest "TrainGuard" (208 : Nat) "TrainGuard$Train" "authority" "D" "TrainGuard").before args s = true := (h _ (List.mem_of_getElem? (i := 14) (by rfl))).use rfl
theorem nw_104 {args : Array Value} {s : State} (h : nW s) : (Cond.fieldLinkNest "TrainGuard" (189 : Nat) "TrainGuard$Train" "hasAuthority" "Z" "TrainGuard").before args s = true := (h _ (List.mem_of_getElem? (i := 15) (by rfl))).use rfl
theorem nw_105 {args : Array Value} {s : State} (h : nW s) : (Cond.fieldLinkNest "TrainGuard" (183 : Nat) "TrainGuard$Train" "isWet" "Z" "TrainGuard").before args s = true := (h _ (List.mem_of_getElem? (i := 16) (by rfl))).use rfl
theorem nw_108 {args : Array Value} {s : State} (h : nW s) : (Cond.fieldLinkNest "TrainGuard" (106 : Nat) "TrainGuard$Train" "mode" "I" "TrainGuard").before args s = true := (h _ (List.mem_of_getElem? (i := 17) (by rfl))).use rfl
theorem wC_T {ca : Nat → ClassId} {ad : Nat → Nat} {S : SC} {i : Nat} (hi : i < 3) : (wC ca ad S)[9 + i]? = some (ad (9 + i), .inr (2, cTf ad S i)) := by
  rcases (show i = 0 ∨ i = 1 ∨ i = 2 by omega) with rfl | rfl | rfl <;> rfl
theorem wC_M {ca : Nat → ClassId} {ad : Nat → Nat} {S : SC} {i : Nat} (hi : i < 3) : (wC ca ad S)[12 + i]? = some (ad (12 + i), .inr (1, cMf S i)) := by
  rcases (show i = 0 ∨ i = 1 ∨ i = 2 by omega) with rfl | rfl | rfl <;> rfl
def xPc {St : Type} (D : va_G) (ca : Nat → ClassId) (w : St → va_W) (S : St) (sz : Nat) (vals : List Value) : Array Value → State → Prop := va_Pc vals (fun U => U.heap.size = sz ∧ va_K D cls (tyl ca) U ∧ nW U ∧ va_P D cls (w S) U.heap ∧ va_D (fun _ => True) (w S))
def xAt {St : Type} (D : va_G) (w : St → va_W) (A : Nat → Prop) (S : St) (t : State) : Prop := va_P D cls (w S) t.heap ∧ va_D A (w S)
theorem xPc.blind {St : Type} {D : va_G} {ca : Nat → ClassId} {w : St → va_W} {S : St} {sz : Nat} {vals : List Value} : FrameBlind (xPc D ca w S sz vals) := by
  intro a U g mk q
  obtain ⟨q0, q1, qK, qN, qP, qD⟩ := q
  exact ⟨q0, q1, va_K.moved (u := U) (U := U.calling g mk a) (Vm.Alike.refl U.vm) qK, nW.same (u := U) (U := U.calling g mk a) rfl qN, qP, qD⟩
theorem xPc.pre {St : Type} {D : va_G} {ca : Nat → ClassId} {w : St → va_W} {S : St} {vals : List Value} {s : State} {H : Heap} {A : Nat → Prop} (hK : va_K D cls (tyl ca) s) (hN : nW s) (hP : va_P D cls (w S) H) (hD : va_D A (w S)) : ∀ U : State, U.heap = H → s.WarmedH U.vm → xPc D ca w S H.size vals vals.toArray U :=
  fun U hU hW => ⟨rfl, by rw [hU], va_K.moved hW.alike hK, hN.warm hW, by rw [hU]; exact hP, hD.weaken (fun _ _ _ _ => trivial)⟩
theorem xx_free {A : Nat → Prop} {ws : va_W} {H0 H : Heap} {locs : List Loc} (hD : va_D A ws) (hS : va_S A H0 H locs) (hA : ∀ q, H0.size ≤ q → A q) : ∀ q, va_A ws H.size q → A q := by
  rintro q (⟨k, e, h⟩ | h)
  · exact hD.2 k _ h
  · exact hA q (Nat.le_trans hS.1 h)
theorem xx_met {St : Type} {l : Launch} {D : va_G} {ca : Nat → ClassId} {w : St → va_W} {S : St} {sz : Nat} {vals : List Value} {y : MethodName} {cc : ByteArray} {maxL : Nat} {ret : Option FieldType} {rm : Room} {mc ms : Nat} {Qf : (Nat → Prop) → Array Value → State → Outcome → State → Prop}
    (hy : plainName y.cls = true) (hn : (lg_sl vals).length ≤ maxL)
    (body : ∀ (p : Program) (e : Env) (s : State) (m : MethodId) (args : Array Value) (below : List Frame) (meth : Method) (c : Code) (A : Nat → Prop) (ls : Array Slot), p.tables.exec = Jvm.exec → c.code = cc → meth.sig.returnType = ret → (∀ x ∈ tG, x.before args s = true) → s.vm.findClass y.cls = some m.cls → meth.locks = false → c.maxLocals = maxL →
      va_K D cls (tyl ca) s → nW s → (∀ q : Nat, s.heap.size ≤ q → A q) → va_P D cls (w S) s.heap → va_D A (w S) → va_S A s.heap s.heap [] → lv_has ls maxL (lv_args 0 vals) →
      W p l e rm s m args below meth c s.heap [] 0 0 (MQ below (Qf A) args s mc ms A) (F0 m 0 ls [])) :
    Met l y (Cond.code y cc maxL ret :: tG) rm (xPc D ca w S sz vals) (Qf (va_A (w S) sz)) mc ms (va_A (w S) sz) := by
  refine Met.ofW (cc := cc) (maxL := maxL) (ret := ret) hy rfl ?_
  intro p e s m args below meth c s₁ B hml hv
  obtain ⟨rfl, hsz, hK, hN, hP, hD0⟩ := hv
  have hts := atoms_spec (ws := Cond.code y cc maxL ret :: tG) B.pre
  subst hsz
  have hl := lv_entry vals (n := maxL) hn
  rw [lg_entry_eq]
  exact body p e s m _ below meth c _ _ B.exec B.bytes B.returns (fun x h => hts x (List.mem_cons_of_mem _ h)) (findClass_of_methodNamed B.named) B.notSynchronized hml hK hN (fun q h => Or.inr h) hP (hD0.self (sz := s.heap.size)) va_S.rf hl
section XXC
variable {St : Type} {D : va_G} {ca : Nat → ClassId} {w : St → va_W} {S : St}
variable {p : Program} {l : Launch} {e : Env} {R : Room} {s : State} {m : MethodId} {args : Array Value} {below : List Frame} {meth : Method} {c : Code} {H : Heap} {locs : List Loc} {cells slots : Nat} {Q : State → Prop}
variable {pc : Nat} {ls : Array Slot} {rest st0 : List Value} {a : Array Value} {A : Nat → Prop} {H0 : Heap} {mc ms : Nat}
theorem xx_calli {Q1 : Int32 → St → Prop} (hr : va_Run p l e R s m args below meth c H locs cells slots mc ms (F0 m pc ls st0) rest (va_Qi Q1 (xAt D w (va_A (w S) H.size)) (va_A (w S) H.size) a) (va_A (w S) H.size)) (hD : va_D A (w S)) (hS : va_S A H0 H locs) (hA : ∀ q, H0.size ≤ q → A q)
    (kk : ∀ (r : Int32) (u : St) (H1 : Heap) (locs1 : List Loc), Q1 r u → va_P D cls (w u) H1 → va_D A (w u) → va_S A H0 H1 locs1 → W p l e R s m args below meth c H1 locs1 (cells + mc) (slots + ms) Q (F0 m (pc + 3) ls (.int r :: rest))) : W p l e R s m args below meth c H locs cells slots Q (F0 m pc ls st0) := by
  have hF := xx_free hD hS hA
  refine va_calli hr hS (fun q _ h => hF q h) hF (fun r u t H1 locs1 ht _ hq hB _ _ hS1 => ?_)
  obtain ⟨hP1, hD1⟩ := hB
  rw [ht] at hP1
  exact kk r u H1 locs1 hq hP1 (hD1.weaken (fun _ _ _ h => hF _ h)) hS1
theorem xx_calll {Q1 : Int64 → St → Prop} (hr : va_Run p l e R s m args below meth c H locs cells slots mc ms (F0 m pc ls st0) rest (va_Ql Q1 (xAt D w (va_A (w S) H.size)) (va_A (w S) H.size) a) (va_A (w S) H.size)) (hD : va_D A (w S)) (hS : va_S A H0 H locs) (hA : ∀ q, H0.size ≤ q → A q)
    (kk : ∀ (r : Int64) (u : St) (H1 : Heap) (locs1 : List Loc), Q1 r u → va_P D cls (w u) H1 → va_D A (w u) → va_S A H0 H1 locs1 → W p l e R s m args below meth c H1 locs1 (cells + mc) (slots + ms) Q (F0 m (pc + 3) ls (.long r :: rest))) : W p l e R s m args below meth c H locs cells slots Q (F0 m pc ls st0) := by
  have hF := xx_free hD hS hA
  refine va_calll hr hS (fun q _ h => hF q h) hF (fun r u t H1 locs1 ht _ hq hB _ _ hS1 => ?_)
  obtain ⟨hP1, hD1⟩ := hB
  rw [ht] at hP1
  exact kk r u H1 locs1 hq hP1 (hD1.weaken (fun _ _ _ h => hF _ h)) hS1
theorem xx_calld {Q1 : UInt64 → St → Prop} (hr : va_Run p l e R s m args below meth c H locs cells slots mc ms (F0 m pc ls st0) rest (va_Qd Q1 (xAt D w (va_A (w S) H.size)) (va_A (w S) H.size) a) (va_A (w S) H.size)) (hD : va_D A (w S)) (hS : va_S A H0 H locs) (hA : ∀ q, H0.size ≤ q → A q)
    (kk : ∀ (r : UInt64) (u : St) (H1 : Heap) (locs1 : List Loc), Q1 r u → va_P D cls (w u) H1 → va_D A (w u) → va_S A H0 H1 locs1 → W p l e R s m args below meth c H1 locs1 (cells + mc) (slots + ms) Q (F0 m (pc + 3) ls (.double r :: rest))) : W p l e R s m args below meth c H locs cells slots Q (F0 m pc ls st0) := by
  have hF := xx_free hD hS hA
  refine va_calld hr hS (fun q _ h => hF q h) hF (fun r u t H1 locs1 ht _ hq hB _ _ hS1 => ?_)
  obtain ⟨hP1, hD1⟩ := hB
  rw [ht] at hP1
  exact kk r u H1 locs1 hq hP1 (hD1.weaken (fun _ _ _ h => hF _ h)) hS1
theorem xx_callv {Q1 : St → Prop} (hr : va_Run p l e R s m args below meth c H locs cells slots mc ms (F0 m pc ls st0) rest (va_Qv Q1 (xAt D w (va_A (w S) H.size)) (va_A (w S) H.size) a) (va_A (w S) H.size)) (hD : va_D A (w S)) (hS : va_S A H0 H locs) (hA : ∀ q, H0.size ≤ q → A q)
    (kk : ∀ (u : St) (H1 : Heap) (locs1 : List Loc), Q1 u → va_P D cls (w u) H1 → va_D A (w u) → va_S A H0 H1 locs1 → W p l e R s m args below meth c H1 locs1 (cells + mc) (slots + ms) Q (F0 m (pc + 3) ls rest)) : W p l e R s m args below meth c H locs cells slots Q (F0 m pc ls st0) := by
  have hF := xx_free hD hS hA
  refine va_callv hr hS (fun q _ h => hF q h) hF (fun u t H1 locs1 ht _ hq hB _ _ hS1 => ?_)
  obtain ⟨hP1, hD1⟩ := hB
  rw [ht] at hP1
  exact kk u H1 locs1 hq hP1 (hD1.weaken (fun _ _ _ h => hF _ h)) hS1
end XXC
theorem pt_G_trainCount {ca : Nat → ClassId} {ad : Nat → Nat} {S : SC} {v : Int32} : (wC ca ad S).set 0 (ad 0, .inr (3, ([.ref (ad 1), .ref (ad 8), .int (S.1 0 0), .int (S.1 1 0), .int (S.1 2 0), .int (S.1 3 0)] : List Value).set 2 (.int v))) = wC ca ad (pI S 0 0 v) := rfl
theorem pt_G_forgedCount {ca : Nat → ClassId} {ad : Nat → Nat} {S : SC} {v : Int32} : (wC ca ad S).set 0 (ad 0, .inr (3, ([.ref (ad 1), .ref (ad 8), .int (S.1 0 0), .int (S.1 1 0), .int (S.1 2 0), .int (S.1 3 0)] : List Value).set 3 (.int v))) = wC ca ad (pI S 1 0 v) := rfl
theorem pt_G_guardBrakings {ca : Nat → ClassId} {ad : Nat → Nat} {S : SC} {v : Int32} : (wC ca ad S).set 0 (ad 0, .inr (3, ([.ref (ad 1), .ref (ad 8), .int (S.1 0 0), .int (S.1 1 0), .int (S.1 2 0), .int (S.1 3 0)] : List Value).set 4 (.int v))) = wC ca ad (pI S 2 0 v) := rfl
theorem pt_G_overruns {ca : Nat → ClassId} {ad : Nat → Nat} {S : SC} {v : Int32} : (wC ca ad S).set 0 (ad 0, .inr (3, ([.ref (ad 1), .ref (ad 8), .int (S.1 0 0), .int (S.1 1 0), .int (S.1 2 0), .int (S.1 3 0)] : List Value).set 5 (.int v))) = wC ca ad (pI S 3 0 v) := rfl
theorem pt_L_sectionCount {ca : Nat → ClassId} {ad : Nat → Nat} {S : SC} {v : Int32} : (wC ca ad S).set 1 (ad 1, .inr (0, ([.ref (ad 2), .ref (ad 3), .ref (ad 4), .ref (ad 5), .ref (ad 6), .ref (ad 7), .int (S.1 4 0), .int (S.1 5 0)] : List Value).set 6 (.int v))) = wC ca ad (pI S 4 0 v) := rfl
theorem pt_L_restrictionCount {ca : Nat → ClassId} {ad : Nat → Nat} {S : SC} {v : Int32} : (wC ca ad S).set 1 (ad 1, .inr (0, ([.ref (ad 2), .ref (ad 3), .ref (ad 4), .ref (ad 5), .ref (ad 6), .ref (ad 7), .int (S.1 4 0), .int (S.1 5 0)] : List Value).set 7 (.int v))) = wC ca ad (pI S 5 0 v) := rfl
theorem pt_T_length {ca : Nat → ClassId} {ad : Nat → Nat} {S : SC} {i : Nat} (hi : i < 3) {v : UInt64} : (wC ca ad S).set (9 + i) (ad (9 + i), .inr (2, (cTf ad S i).set 1 (.double v))) = wC ca ad (pV S 5 i v) := by
  rcases (show i = 0 ∨ i = 1 ∨ i = 2 by omega) with rfl | rfl | rfl <;> rfl
theorem pt_T_brake {ca : Nat → ClassId} {ad : Nat → Nat} {S : SC} {i : Nat} (hi : i < 3) {v : UInt64} : (wC ca ad S).set (9 + i) (ad (9 + i), .inr (2, (cTf ad S i).set 2 (.double v))) = wC ca ad (pV S 6 i v) := by
  rcases (show i = 0 ∨ i = 1 ∨ i = 2 by omega) with rfl | rfl | rfl <;> rfl
theorem pt_T_speed {ca : Nat → ClassId} {ad : Nat → Nat} {S : SC} {i : Nat} (hi : i < 3) {v : UInt64} : (wC ca ad S).set (9 + i) (ad (9 + i), .inr (2, (cTf ad S i).set 3 (.double v))) = wC ca ad (pV S 7 i v) := by
  rcases (show i = 0 ∨ i = 1 ∨ i = 2 by omega) with rfl | rfl | rfl <;> rfl
theorem pt_T_real {ca : Nat → ClassId} {ad : Nat → Nat} {S : SC} {i : Nat} (hi : i < 3) {v : UInt64} : (wC ca ad S).set (9 + i) (ad (9 + i), .inr (2, (cTf ad S i).set 4 (.double v))) = wC ca ad (pV S 8 i v) := by
  rcases (show i = 0 ∨ i = 1 ∨ i = 2 by omega) with rfl | rfl | rfl <;> rfl
theorem pt_T_measured {ca : Nat → ClassId} {ad : Nat → Nat} {S : SC} {i : Nat} (hi : i < 3) {v : UInt64} : (wC ca ad S).set (9 + i) (ad (9 + i), .inr (2, (cTf ad S i).set 5 (.double v))) = wC ca ad (pV S 9 i v) := by
  rcases (show i = 0 ∨ i = 1 ∨ i = 2 by omega) with rfl | rfl | rfl <;> rfl
theorem pt_T_margin {ca : Nat → ClassId} {ad : Nat → Nat} {S : SC} {i : Nat} (hi : i < 3) {v : UInt64} : (wC ca ad S).set (9 + i) (ad (9 + i), .inr (2, (cTf ad S i).set 6 (.double v))) = wC ca ad (pV S 10 i v) := by
  rcases (show i = 0 ∨ i = 1 ∨ i = 2 by omega) with rfl | rfl | rfl <;> rfl
theorem pt_T_authority {ca : Nat → ClassId} {ad : Nat → Nat} {S : SC} {i : Nat} (hi : i < 3) {v : UInt64} : (wC ca ad S).set (9 + i) (ad (9 + i), .inr (2, (cTf ad S i).set 7 (.double v))) = wC ca ad (pV S 11 i v) := by
  rcases (show i = 0 ∨ i = 1 ∨ i = 2 by omega) with rfl | rfl | rfl <;> rfl
theorem pt_T_hasAuthority {ca : Nat → ClassId} {ad : Nat → Nat} {S : SC} {i : Nat} (hi : i < 3) {v : Int32} : (wC ca ad S).set (9 + i) (ad (9 + i), .inr (2, (cTf ad S i).set 8 (.int v))) = wC ca ad (pI S 7 i v) := by
  rcases (show i = 0 ∨ i = 1 ∨ i = 2 by omega) with rfl | rfl | rfl <;> rfl
theorem pt_T_isWet {ca : Nat → ClassId} {ad : Nat → Nat} {S : SC} {i : Nat} (hi : i < 3) {v : Int32} : (wC ca ad S).set (9 + i) (ad (9 + i), .inr (2, (cTf ad S i).set 9 (.int v))) = wC ca ad (pI S 8 i v) := by
  rcases (show i = 0 ∨ i = 1 ∨ i = 2 by omega) with rfl | rfl | rfl <;> rfl
theorem pt_T_mode {ca : Nat → ClassId} {ad : Nat → Nat} {S : SC} {i : Nat} (hi : i < 3) {v : Int32} : (wC ca ad S).set (9 + i) (ad (9 + i), .inr (2, (cTf ad S i).set 10 (.int v))) = wC ca ad (pI S 9 i v) := by
  rcases (show i = 0 ∨ i = 1 ∨ i = 2 by omega) with rfl | rfl | rfl <;> rfl
theorem pt_M_isWaiting {ca : Nat → ClassId} {ad : Nat → Nat} {S : SC} {i : Nat} (hi : i < 3) {v : Int32} : (wC ca ad S).set (12 + i) (ad (12 + i), .inr (1, (cMf S i).set 0 (.int v))) = wC ca ad (pI S 10 i v) := by
  rcases (show i = 0 ∨ i = 1 ∨ i = 2 by omega) with rfl | rfl | rfl <;> rfl
theorem pt_M_isStop {ca : Nat → ClassId} {ad : Nat → Nat} {S : SC} {i : Nat} (hi : i < 3) {v : Int32} : (wC ca ad S).set (12 + i) (ad (12 + i), .inr (1, (cMf S i).set 1 (.int v))) = wC ca ad (pI S 11 i v) := by
  rcases (show i = 0 ∨ i = 1 ∨ i = 2 by omega) with rfl | rfl | rfl <;> rfl
theorem pt_M_number {ca : Nat → ClassId} {ad : Nat → Nat} {S : SC} {i : Nat} (hi : i < 3) {v : Int32} : (wC ca ad S).set (12 + i) (ad (12 + i), .inr (1, (cMf S i).set 2 (.int v))) = wC ca ad (pI S 12 i v) := by
  rcases (show i = 0 ∨ i = 1 ∨ i = 2 by omega) with rfl | rfl | rfl <;> rfl
theorem pt_M_place {ca : Nat → ClassId} {ad : Nat → Nat} {S : SC} {i : Nat} (hi : i < 3) {v : UInt64} : (wC ca ad S).set (12 + i) (ad (12 + i), .inr (1, (cMf S i).set 3 (.double v))) = wC ca ad (pV S 12 i v) := by
  rcases (show i = 0 ∨ i = 1 ∨ i = 2 by omega) with rfl | rfl | rfl <;> rfl
theorem pt_M_mark {ca : Nat → ClassId} {ad : Nat → Nat} {S : SC} {i : Nat} (hi : i < 3) {v : Int32} : (wC ca ad S).set (12 + i) (ad (12 + i), .inr (1, (cMf S i).set 4 (.int v))) = wC ca ad (pI S 13 i v) := by
  rcases (show i = 0 ∨ i = 1 ∨ i = 2 by omega) with rfl | rfl | rfl <;> rfl
theorem pt_A_begins {ca : Nat → ClassId} {ad : Nat → Nat} {S : SC} {j : Nat} {v : UInt64} : (wC ca ad S).set 2 (ad 2, .inl (ca 2, 11, .inr (.inr (.inr (.inl (vf_upd (S.2 0) j v)))))) = wC ca ad (pV S 0 j v) := rfl
theorem pt_A_speeds {ca : Nat → ClassId} {ad : Nat → Nat} {S : SC} {j : Nat} {v : UInt64} : (wC ca ad S).set 3 (ad 3, .inl (ca 2, 10, .inr (.inr (.inr (.inl (vf_upd (S.2 1) j v)))))) = wC ca ad (pV S 1 j v) := rfl
theorem pt_A_holders {ca : Nat → ClassId} {ad : Nat → Nat} {S : SC} {j : Nat} {v : Int32} : (wC ca ad S).set 4 (ad 4, .inl (ca 0, 10, .inl (upd (S.1 6) j v))) = wC ca ad (pI S 6 j v) := rfl
theorem pt_A_froms {ca : Nat → ClassId} {ad : Nat → Nat} {S : SC} {j : Nat} {v : UInt64} : (wC ca ad S).set 5 (ad 5, .inl (ca 2, 5, .inr (.inr (.inr (.inl (vf_upd (S.2 2) j v)))))) = wC ca ad (pV S 2 j v) := rfl
theorem pt_A_tos {ca : Nat → ClassId} {ad : Nat → Nat} {S : SC} {j : Nat} {v : UInt64} : (wC ca ad S).set 6 (ad 6, .inl (ca 2, 5, .inr (.inr (.inr (.inl (vf_upd (S.2 3) j v)))))) = wC ca ad (pV S 3 j v) := rfl
theorem pt_A_caps {ca : Nat → ClassId} {ad : Nat → Nat} {S : SC} {j : Nat} {v : UInt64} : (wC ca ad S).set 7 (ad 7, .inl (ca 2, 5, .inr (.inr (.inr (.inl (vf_upd (S.2 4) j v)))))) = wC ca ad (pV S 4 j v) := rfl
theorem pt_R_thrown {ca : Nat → ClassId} {ad : Nat → Nat} {S : SR} {v : Int32} : (wR ca ad S).set 0 (ad 0, .inr (4, ([.int (S.1 0 0), .int (S.1 1 0), .ref (ad 1), .ref (ad 2), .ref (ad 3), .int (S.1 2 0), .ref (ad 4), .ref (ad 5), .ref (ad 6), .int (S.1 3 0), .ref (ad 7), .ref (ad 8), .ref (ad 9), .ref (ad 10), .ref (ad 11), .ref (ad 12), .ref (ad 13), .ref (ad 14), .ref (ad 15), .ref (ad 16), .ref (ad 17), .ref (ad 18), .int (S.1 4 0), .int (S.1 5 0), .int (S.1 6 0)] : List Value).set 0 (.int v))) = wR ca ad (pI S 0 0 v) := rfl
theorem pt_R_sections {ca : Nat → ClassId} {ad : Nat → Nat} {S : SR} {v : Int32} : (wR ca ad S).set 0 (ad 0, .inr (4, ([.int (S.1 0 0), .int (S.1 1 0), .ref (ad 1), .ref (ad 2), .ref (ad 3), .int (S.1 2 0), .ref (ad 4), .ref (ad 5), .ref (ad 6), .int (S.1 3 0), .ref (ad 7), .ref (ad 8), .ref (ad 9), .ref (ad 10), .ref (ad 11), .ref (ad 12), .ref (ad 13), .ref (ad 14), .ref (ad 15), .ref (ad 16), .ref (ad 17), .ref (ad 18), .int (S.1 4 0), .int (S.1 5 0), .int (S.1 6 0)] : List Value).set 1 (.int v))) = wR ca ad (pI S 1 0 v) := rfl
theorem pt_R_restrictions {ca : Nat → ClassId} {ad : Nat → Nat} {S : SR} {v : Int32} : (wR ca ad S).set 0 (ad 0, .inr (4, ([.int (S.1 0 0), .int (S.1 1 0), .ref (ad 1), .ref (ad 2), .ref (ad 3), .int (S.1 2 0), .ref (ad 4), .ref (ad 5), .ref (ad 6), .int (S.1 3 0), .ref (ad 7), .ref (ad 8), .ref (ad 9), .ref (ad 10), .ref (ad 11), .ref (ad 12), .ref (ad 13), .ref (ad 14), .ref (ad 15), .ref (ad 16), .ref (ad 17), .ref (ad 18), .int (S.1 4 0), .int (S.1 5 0), .int (S.1 6 0)] : List Value).set 5 (.int v))) = wR ca ad (pI S 2 0 v) := rfl
theorem pt_R_trains {ca : Nat → ClassId} {ad : Nat → Nat} {S : SR} {v : Int32} : (wR ca ad S).set 0 (ad 0, .inr (4, ([.int (S.1 0 0), .int (S.1 1 0), .ref (ad 1), .ref (ad 2), .ref (ad 3), .int (S.1 2 0), .ref (ad 4), .ref (ad 5), .ref (ad 6), .int (S.1 3 0), .ref (ad 7), .ref (ad 8), .ref (ad 9), .ref (ad 10), .ref (ad 11), .ref (ad 12), .ref (ad 13), .ref (ad 14), .ref (ad 15), .ref (ad 16), .ref (ad 17), .ref (ad 18), .int (S.1 4 0), .int (S.1 5 0), .int (S.1 6 0)] : List Value).set 9 (.int v))) = wR ca ad (pI S 3 0 v) := rfl
theorem pt_R_forged {ca : Nat → ClassId} {ad : Nat → Nat} {S : SR} {v : Int32} : (wR ca ad S).set 0 (ad 0, .inr (4, ([.int (S.1 0 0), .int (S.1 1 0), .ref (ad 1), .ref (ad 2), .ref (ad 3), .int (S.1 2 0), .ref (ad 4), .ref (ad 5), .ref (ad 6), .int (S.1 3 0), .ref (ad 7), .ref (ad 8), .ref (ad 9), .ref (ad 10), .ref (ad 11), .ref (ad 12), .ref (ad 13), .ref (ad 14), .ref (ad 15), .ref (ad 16), .ref (ad 17), .ref (ad 18), .int (S.1 4 0), .int (S.1 5 0), .int (S.1 6 0)] : List Value).set 22 (.int v))) = wR ca ad (pI S 4 0 v) := rfl
theorem pt_R_braked {ca : Nat → ClassId} {ad : Nat → Nat} {S : SR} {v : Int32} : (wR ca ad S).set 0 (ad 0, .inr (4, ([.int (S.1 0 0), .int (S.1 1 0), .ref (ad 1), .ref (ad 2), .ref (ad 3), .int (S.1 2 0), .ref (ad 4), .ref (ad 5), .ref (ad 6), .int (S.1 3 0), .ref (ad 7), .ref (ad 8), .ref (ad 9), .ref (ad 10), .ref (ad 11), .ref (ad 12), .ref (ad 13), .ref (ad 14), .ref (ad 15), .ref (ad 16), .ref (ad 17), .ref (ad 18), .int (S.1 4 0), .int (S.1 5 0), .int (S.1 6 0)] : List Value).set 23 (.int v))) = wR ca ad (pI S 5 0 v) := rfl
theorem pt_R_tripped {ca : Nat → ClassId} {ad : Nat → Nat} {S : SR} {v : Int32} : (wR ca ad S).set 0 (ad 0, .inr (4, ([.int (S.1 0 0), .int (S.1 1 0), .ref (ad 1), .ref (ad 2), .ref (ad 3), .int (S.1 2 0), .ref (ad 4), .ref (ad 5), .ref (ad 6), .int (S.1 3 0), .ref (ad 7), .ref (ad 8), .ref (ad 9), .ref (ad 10), .ref (ad 11), .ref (ad 12), .ref (ad 13), .ref (ad 14), .ref (ad 15), .ref (ad 16), .ref (ad 17), .ref (ad 18), .int (S.1 4 0), .int (S.1 5 0), .int (S.1 6 0)] : List Value).set 24 (.int v))) = wR ca ad (pI S 6 0 v) := rfl
theorem pt_R_held {ca : Nat → ClassId} {ad : Nat → Nat} {S : SR} {j : Nat} {v : Int32} : (wR ca ad S).set 3 (ad 3, .inl (ca 0, 10, .inl (upd (S.1 7) j v))) = wR ca ad (pI S 7 j v) := rfl
theorem pt_R_mode {ca : Nat → ClassId} {ad : Nat → Nat} {S : SR} {j : Nat} {v : Int32} : (wR ca ad S).set 14 (ad 14, .inl (ca 0, 3, .inl (upd (S.1 8) j v))) = wR ca ad (pI S 8 j v) := rfl
theorem pt_R_wet {ca : Nat → ClassId} {ad : Nat → Nat} {S : SR} {j : Nat} {v : Int32} : (wR ca ad S).set 15 (ad 15, .inl (ca 3, 3, .inl (upd (S.1 9) j v))) = wR ca ad (pI S 9 j v) := rfl
theorem pt_R_numbers {ca : Nat → ClassId} {ad : Nat → Nat} {S : SR} {j : Nat} {v : Int32} : (wR ca ad S).set 16 (ad 16, .inl (ca 0, 3, .inl (upd (S.1 10) j v))) = wR ca ad (pI S 10 j v) := rfl
theorem pt_R_message {ca : Nat → ClassId} {ad : Nat → Nat} {S : SR} {j : Nat} {v : Int32} : (wR ca ad S).set 17 (ad 17, .inl (ca 0, 3, .inl (upd (S.1 11) j v))) = wR ca ad (pI S 11 j v) := rfl
theorem pt_R_begin {ca : Nat → ClassId} {ad : Nat → Nat} {S : SR} {j : Nat} {v : Int64} : (wR ca ad S).set 1 (ad 1, .inl (ca 1, 11, .inr (.inl (vp_updL (S.2 0) j v)))) = wR ca ad (pV S 0 j v) := rfl
theorem pt_R_speedOf {ca : Nat → ClassId} {ad : Nat → Nat} {S : SR} {j : Nat} {v : Int64} : (wR ca ad S).set 2 (ad 2, .inl (ca 1, 10, .inr (.inl (vp_updL (S.2 1) j v)))) = wR ca ad (pV S 1 j v) := rfl
theorem pt_R_from {ca : Nat → ClassId} {ad : Nat → Nat} {S : SR} {j : Nat} {v : Int64} : (wR ca ad S).set 4 (ad 4, .inl (ca 1, 5, .inr (.inl (vp_updL (S.2 2) j v)))) = wR ca ad (pV S 2 j v) := rfl
theorem pt_R_to {ca : Nat → ClassId} {ad : Nat → Nat} {S : SR} {j : Nat} {v : Int64} : (wR ca ad S).set 5 (ad 5, .inl (ca 1, 5, .inr (.inl (vp_updL (S.2 3) j v)))) = wR ca ad (pV S 3 j v) := rfl
theorem pt_R_least {ca : Nat → ClassId} {ad : Nat → Nat} {S : SR} {j : Nat} {v : Int64} : (wR ca ad S).set 6 (ad 6, .inl (ca 1, 5, .inr (.inl (vp_updL (S.2 4) j v)))) = wR ca ad (pV S 4 j v) := rfl
theorem pt_R_length {ca : Nat → ClassId} {ad : Nat → Nat} {S : SR} {j : Nat} {v : Int64} : (wR ca ad S).set 7 (ad 7, .inl (ca 1, 3, .inr (.inl (vp_updL (S.2 5) j v)))) = wR ca ad (pV S 5 j v) := rfl
theorem pt_R_brake {ca : Nat → ClassId} {ad : Nat → Nat} {S : SR} {j : Nat} {v : Int64} : (wR ca ad S).set 8 (ad 8, .inl (ca 1, 3, .inr (.inl (vp_updL (S.2 6) j v)))) = wR ca ad (pV S 6 j v) := rfl
theorem pt_R_speed {ca : Nat → ClassId} {ad : Nat → Nat} {S : SR} {j : Nat} {v : Int64} : (wR ca ad S).set 9 (ad 9, .inl (ca 1, 3, .inr (.inl (vp_updL (S.2 7) j v)))) = wR ca ad (pV S 7 j v) := rfl
theorem pt_R_real {ca : Nat → ClassId} {ad : Nat → Nat} {S : SR} {j : Nat} {v : Int64} : (wR ca ad S).set 10 (ad 10, .inl (ca 1, 3, .inr (.inl (vp_updL (S.2 8) j v)))) = wR ca ad (pV S 8 j v) := rfl
theorem pt_R_measured {ca : Nat → ClassId} {ad : Nat → Nat} {S : SR} {j : Nat} {v : Int64} : (wR ca ad S).set 11 (ad 11, .inl (ca 1, 3, .inr (.inl (vp_updL (S.2 9) j v)))) = wR ca ad (pV S 9 j v) := rfl
theorem pt_R_margin {ca : Nat → ClassId} {ad : Nat → Nat} {S : SR} {j : Nat} {v : Int64} : (wR ca ad S).set 12 (ad 12, .inl (ca 1, 3, .inr (.inl (vp_updL (S.2 10) j v)))) = wR ca ad (pV S 10 j v) := rfl
theorem pt_R_authority {ca : Nat → ClassId} {ad : Nat → Nat} {S : SR} {j : Nat} {v : Int64} : (wR ca ad S).set 13 (ad 13, .inl (ca 1, 3, .inr (.inl (vp_updL (S.2 11) j v)))) = wR ca ad (pV S 11 j v) := rfl
theorem pt_R_place {ca : Nat → ClassId} {ad : Nat → Nat} {S : SR} {j : Nat} {v : Int64} : (wR ca ad S).set 18 (ad 18, .inl (ca 1, 3, .inr (.inl (vp_updL (S.2 12) j v)))) = wR ca ad (pV S 12 j v) := rfl
