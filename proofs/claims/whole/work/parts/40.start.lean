-- the law: its start
theorem gi_law_G : ∀ w ∈ (Cond.code y_G_init b_G_init 2 none :: tG), w ∈ tG := fun w h => (List.mem_cons.mp h).elim (fun e => by rw [e]; exact wd_17) id
theorem gi_law_R : ∀ w ∈ (Cond.code y_R_init b_R_init 1 none :: tG), w ∈ tG := fun w h => (List.mem_cons.mp h).elim (fun e => by rw [e]; exact wd_589) id
theorem nestL_in : ∀ w ∈ nestL, w ∈ tables_1 ∧ w.onTables = true := by
  intro w hw
  simp only [nestL, List.mem_cons, List.not_mem_nil, or_false] at hw
  rcases hw with rfl | rfl | rfl | rfl | rfl | rfl | rfl | rfl | rfl | rfl | rfl | rfl | rfl | rfl | rfl | rfl | rfl | rfl
  · exact ⟨List.mem_of_getElem? (i := 23) (by rfl), rfl⟩
  · exact ⟨List.mem_of_getElem? (i := 30) (by rfl), rfl⟩
  · exact ⟨List.mem_of_getElem? (i := 35) (by rfl), rfl⟩
  · exact ⟨List.mem_of_getElem? (i := 37) (by rfl), rfl⟩
  · exact ⟨List.mem_of_getElem? (i := 60) (by rfl), rfl⟩
  · exact ⟨List.mem_of_getElem? (i := 66) (by rfl), rfl⟩
  · exact ⟨List.mem_of_getElem? (i := 71) (by rfl), rfl⟩
  · exact ⟨List.mem_of_getElem? (i := 73) (by rfl), rfl⟩
  · exact ⟨List.mem_of_getElem? (i := 76) (by rfl), rfl⟩
  · exact ⟨List.mem_of_getElem? (i := 90) (by rfl), rfl⟩
  · exact ⟨List.mem_of_getElem? (i := 94) (by rfl), rfl⟩
  · exact ⟨List.mem_of_getElem? (i := 96) (by rfl), rfl⟩
  · exact ⟨List.mem_of_getElem? (i := 98) (by rfl), rfl⟩
  · exact ⟨List.mem_of_getElem? (i := 100) (by rfl), rfl⟩
  · exact ⟨List.mem_of_getElem? (i := 102) (by rfl), rfl⟩
  · exact ⟨List.mem_of_getElem? (i := 104) (by rfl), rfl⟩
  · exact ⟨List.mem_of_getElem? (i := 105) (by rfl), rfl⟩
  · exact ⟨List.mem_of_getElem? (i := 108) (by rfl), rfl⟩
theorem nXl_in : ∀ w ∈ nXl, w ∈ tables_1 ∧ w.onTables = true := by
  intro w hw
  simp only [nXl, List.mem_cons, List.not_mem_nil, or_false] at hw
  rcases hw with rfl | rfl | rfl | rfl | rfl | rfl | rfl | rfl | rfl | rfl
  · exact ⟨List.mem_of_getElem? (i := 180) (by rfl), rfl⟩
  · exact ⟨List.mem_of_getElem? (i := 181) (by rfl), rfl⟩
  · exact ⟨List.mem_of_getElem? (i := 182) (by rfl), rfl⟩
  · exact ⟨List.mem_of_getElem? (i := 183) (by rfl), rfl⟩
  · exact ⟨List.mem_of_getElem? (i := 184) (by rfl), rfl⟩
  · exact ⟨List.mem_of_getElem? (i := 185) (by rfl), rfl⟩
  · exact ⟨List.mem_of_getElem? (i := 186) (by rfl), rfl⟩
  · exact ⟨List.mem_of_getElem? (i := 247) (by rfl), rfl⟩
  · exact ⟨List.mem_of_getElem? (i := 281) (by rfl), rfl⟩
  · exact ⟨List.mem_of_getElem? (i := 451) (by rfl), rfl⟩
theorem kArr {s : State} {args : Array Value} {ty : FieldType} (hn : ∀ C : String, ty ≠ .object C) (h : (Cond.arrayClass ty).before args s = true) : ∃ cA : ClassId, ArrOfT s cA ty ∧ va_RA s cA ty := by
  obtain ⟨cA, kA, comp, h1, h2, h3⟩ := Cond.arrayClass_spec h
  refine ⟨cA, fun n z => ⟨fun k h => (by cases h), kA, h2, comp, h3⟩, ?_⟩
  cases ty with
  | object C => exact absurd rfl (hn C)
  | _ => exact h1
theorem kArrO {s : State} {args : Array Value} {C : String} (h : (Cond.arrayOver (.object C)).before args s = true) : ∃ cA : ClassId, ArrOfT s cA (.object C) ∧ va_RA s cA (.object C) := by
  obtain ⟨comp, cA, kA, h1, -, h2, h3, h4⟩ := Cond.arrayOver_spec h
  exact ⟨cA, fun n z => ⟨fun k h => (by cases h), kA, h2, comp, h3⟩, kA, comp, h2, h3, h1, h4⟩
theorem law_at {p : Program} {s : State} {m : MethodId} {meth : Method} {c : Code} (l : Launch) (hl0 : l.stackTraces = false) {b L : Nat} {xs : Nat → Int32} (hL : L ≤ 2048) (C0 : lw_At p s m meth c b L xs) : ∃ (D : va_G) (ca : Nat → ClassId), LK p l s m meth c b L xs D ca ∧ va_AO "TrainGuard$Train" s := by
  obtain ⟨hx, hb, hr, hml, hown, hts, hX, hbl, hlocks, hgv⟩ := id C0
  have hw : ∀ w ∈ tG, w.before #[Value.ref b] s = true := fun w h => hts w (tG_in w h)
  have hts1 : ∀ w ∈ tables_1, w.before #[Value.ref b] s = true := fun w h => hts w (List.mem_append_right _ h)
  have hs := flat_of_before _ hgv
  obtain ⟨c0, iS0, hKn0⟩ := u_known (C := Rc_L) (T := Fc_L) (N := 8) (n := 8) hw inc_L (hw _ wd_22)
  obtain ⟨c1, iS1, hKn1⟩ := u_known (C := Rc_M) (T := Fc_M) (N := 5) (n := 5) hw inc_M (hw _ wd_65)
  obtain ⟨c2, iS2, hKn2⟩ := u_known (C := Rc_T) (T := Fc_T) (N := 11) (n := 11) hw inc_T (hw _ wd_59)
  obtain ⟨c3, iS3, hKn3⟩ := u_known (C := Rc_G) (T := Fc_G) (N := 6) (n := 6) hw inc_G (hw _ wd_14)
  obtain ⟨c4, iS4, hKn4⟩ := u_known (C := Rc_R) (T := Fc_R) (N := 25) (n := 25) hw inc_R (hw _ wd_586)
  obtain ⟨a0, ha0⟩ := kArr (ty := .int) (fun C h => by cases h) (hw _ wd_56)
  obtain ⟨a1, ha1⟩ := kArr (ty := .long) (fun C h => by cases h) (hw _ wd_667)
  obtain ⟨a2, ha2⟩ := kArr (ty := .double) (fun C h => by cases h) (hw _ wd_55)
  obtain ⟨a3, ha3⟩ := kArr (ty := .boolean) (fun C h => by cases h) (hw _ wd_668)
  have hover := hts1 (Cond.arrayOver (.object "TrainGuard$Train")) (List.mem_of_getElem? (i := 58) (by rfl))
  obtain ⟨a4, ha4⟩ := kArrO hover
  refine ⟨(fun k => match k with | 0 => c0 | 1 => c1 | 2 => c2 | 3 => c3 | _ => c4, fun k => match k with | 0 => iS0 | 1 => iS1 | 2 => iS2 | 3 => iS3 | _ => iS4), fun k => match k with | 0 => a0 | 1 => a1 | 2 => a2 | 3 => a3 | _ => a4, ⟨⟨hl0, hL⟩, C0, ⟨fun k q hq => ?_, fun k q hq => ?_⟩, fun w h => va_Nw.of (nestL_in w h).2 (hts1 w (nestL_in w h).1), fun w h => va_Nw.of (nXl_in w h).2 (hts1 w (nXl_in w h).1), ?_, ?_, ?_⟩, va_AO.of hover⟩
  · match k, hq with
    | 0, hq => cases hq; exact hKn0
    | 1, hq => cases hq; exact hKn1
    | 2, hq => cases hq; exact hKn2
    | 3, hq => cases hq; exact hKn3
    | 4, hq => cases hq; exact hKn4
    | k + 5, hq => simp [cls] at hq
  · match k, hq with
    | 0, hq => cases hq; exact ha0
    | 1, hq => cases hq; exact ha1
    | 2, hq => cases hq; exact ha2
    | 3, hq => cases hq; exact ha3
    | 4, hq => cases hq; exact ha4
    | k + 5, hq => simp [tyl] at hq
  · intro q hq
    simp only [ncl, List.mem_cons, List.not_mem_nil, or_false] at hq
    rcases hq with rfl | rfl | rfl | rfl | rfl | rfl
    · exact va_Nc.of (hs (Cond.not (.castable "java/util/NoSuchElementException" "java/lang/IllegalArgumentException")) (by decide +kernel))
    · exact va_Nc.of (hs (Cond.not (.castable "java/lang/IllegalStateException" "java/lang/IllegalArgumentException")) (by decide +kernel))
    · exact va_Nc.of (hs (Cond.not (.castable "java/lang/IllegalStateException" "java/util/NoSuchElementException")) (by decide +kernel))
    · exact va_Nc.of (hs (Cond.not (.castable "java/lang/UnsupportedOperationException" "java/lang/IllegalArgumentException")) (by decide +kernel))
    · exact va_Nc.of (hs (Cond.not (.castable "java/lang/UnsupportedOperationException" "java/util/NoSuchElementException")) (by decide +kernel))
    · exact va_Nc.of (hs (Cond.not (.castable "java/lang/UnsupportedOperationException" "java/lang/IllegalStateException")) (by decide +kernel))
  · exact vx_Zqof (hts1 _ (List.mem_of_getElem? (i := 205) (by rfl))) (hw _ wd_6) (hs (Cond.isRef (.static "java/lang/Throwable" "UNASSIGNED_STACK" "[Ljava/lang/StackTraceElement;")) (by decide +kernel)) (fun a ha q => Nat.not_le.mpr ha q)
  · exact vx_Zqof (hts1 _ (List.mem_of_getElem? (i := 207) (by rfl))) (hw _ wd_6) (hs (Cond.isRef (.static "java/lang/Throwable" "SUPPRESSED_SENTINEL" "Ljava/util/List;")) (by decide +kernel)) (fun a ha q => Nat.not_le.mpr ha q)
set_option maxRecDepth 100000 in
set_option maxHeartbeats 4000000 in
theorem whole_start {p : Program} {e : Env} {s : State} {m : MethodId} {below : List Frame} {meth : Method} {c : Code} (l : Launch) (hl0 : l.stackTraces = false) {b L : Nat} {xs : Nat → Int32} (hL : L ≤ 2048) (C0 : lw_At p s m meth c b L xs) : W p l e room_1 s m #[Value.ref b] below meth c s.heap [] 0 0 (lw_Z below #[Value.ref b] s) (entryFrame m ([Value.ref b] : List Value).toArray 9) := by
  obtain ⟨D, ca, K0, hO⟩ := law_at l hl0 hL C0
  have K1 := K0
  obtain ⟨-, ⟨hx, hb, hr, hml, hown, hts, hX, hbl, hlocks, hgv⟩, hK, hN, hX9, hC9, hZ⟩ := K0
  have hA : ∀ q : Nat, s.heap.size ≤ q → LA s q := fun _ h => h
  have hw : ∀ w ∈ tG, w.before #[Value.ref b] s = true := fun w h => hts w (tG_in w h)
  have hown : s.vm.findClass "TrainGuardLaw" = some m.cls := hown
  have hS : va_S (LA s) s.heap s.heap [] := va_S.rf
  have hP : va_P D cls [] s.heap := fun k q h => by simp at h
  have hD : va_D (LA s) [] := ⟨fun i j p q h => by simp at h, fun k q h => by simp at h⟩
  have hl := lv_entry ([.ref b]) (n := 9) (Nat.le_of_ble_eq_true rfl)
  rw [lg_entry_eq]
  generalize (lg_sl ([.ref b]) ++ List.replicate (9 - (lg_sl ([.ref b])).length) Slot.unset).toArray = ls at hl ⊢
  have hl : lv_has ls 9 [(0, .ref b)] := hl
  have hH9 : ∀ H : Heap, va_P D cls [] H → va_S (LA s) s.heap H [] → W p l e room_1 s m #[Value.ref b] below meth c H [] 0 0 (lw_Z below #[Value.ref b] s) (F0 m 0 ls []) := by
    clear hP hS
    intro H hP hS
    refine va_new (ci := 3) (fs := [.null, .null, .int 0, .int 0, .int 0, .int 0]) (C := Rc_G) (T := Fc_G) (N := 6) hx hb hw inc_G tc_G tc_G_ok hown (hw _ wd_13) (hw _ wd_14) (hw _ wd_1) hK hP hD hS hA rfl (fun j hj => by rcases (show j = 0 ∨ j = 1 ∨ j = 2 ∨ j = 3 ∨ j = 4 ∨ j = 5 by omega) with rfl | rfl | rfl | rfl | rfl | rfl <;> rfl) (Nat.le_of_ble_eq_true rfl) (Nat.le_of_ble_eq_true rfl) d_law_0 (fun x0 H hP hD hS => ?_)
    have hP : va_P D cls [(x0, .inr (3, [.null, .null, .int 0, .int 0, .int 0, .int 0]))] H := hP
    have hD : va_D (LA s) [(x0, .inr (3, [.null, .null, .int 0, .int 0, .int 0, .int 0]))] := hD
    refine W.widen (k := 1) (n := 6) (by omega) (by omega) ?_
    refine lv_dup hx hb d_law_3 rfl ?_
    have hPc := hP.sub (ws' := [(x0, .inr (3, [.null, .null, .int 0, .int 0, .int 0, .int 0]))]) [0] rfl
    have hDc := hD.sub (ws' := [(x0, .inr (3, [.null, .null, .int 0, .int 0, .int 0, .int 0]))]) [0] (by decide) rfl
    have hFc := va_free (wc := [(x0, .inr (3, [.null, .null, .int 0, .int 0, .int 0, .int 0]))]) hD hS hA [0] rfl
    refine va_callv (va_runI (As := []) (rest := [.ref x0]) ⟨hx, hb, hml, hown, hw⟩ (c_G_init l D ca x0 H.size) (cwI 0 hw (tG_g gi_law_G) rfl rfl rfl (hw _ wd_1) (hw _ wd_15) (hw _ wd_16) rfl (by decide +kernel) ⟨Nat.le_of_ble_eq_true rfl, Nat.le_of_ble_eq_true rfl⟩) ⟨xPo.blind, xPo.pre (w := fun _ : Unit => [(x0, .inr (3, [.null, .null, .int 0, .int 0, .int 0, .int 0]))]) (S := ()) hK hN hO hPc hDc⟩ rfl rfl hl.1 rfl (lv_room (Nat.le_of_ble_eq_true rfl)) d_law_4 ⟨Nat.le_of_ble_eq_true rfl, Nat.le_of_ble_eq_true rfl⟩) hS (fun q _ h => hFc q h) hFc (fun ad t H1 locs ht hvm hw9 hB hz1 hk1 hS => ?_)
    obtain ⟨hP1, hD1⟩ := hB
    rw [ht] at hP1
    obtain ⟨hP, hD⟩ := va_join (wr := []) (w1 := wC ca ad SC0) hP hD [0] [] rfl rfl (by decide) (by decide) hk1 hFc hP1 hD1
    have hP : va_P D cls (wC ca ad SC0) H1 := hP
    have hD : va_D (LA s) (wC ca ad SC0) := hD
    have hx0 : ad 0 = x0 := hw9
    rw [← hx0]
    clear hz1 hk1 hP1 hD1 hPc hDc hFc
    generalize H1 = H at hP hS ⊢
    refine W.widen (k := 15) (n := 111) (by omega) (by omega) ?_
    refine lv_astore_n (lv' := [(1, .ref (ad 0)), (0, .ref b)]) hx hb d_law_7 rfl hl (by decide) rfl (fun ls hl => ?_)
    refine va_new (ci := 4) (fs := [.int 0, .int 0, .null, .null, .null, .int 0, .null, .null, .null, .int 0, .null, .null, .null, .null, .null, .null, .null, .null, .null, .null, .null, .null, .int 0, .int 0, .int 0]) (C := Rc_R) (T := Fc_R) (N := 25) hx hb hw inc_R tc_R tc_R_ok hown (hw _ wd_585) (hw _ wd_586) (hw _ wd_5) hK hP hD hS hA rfl (fun j hj => by rcases (show j = 0 ∨ j = 1 ∨ j = 2 ∨ j = 3 ∨ j = 4 ∨ j = 5 ∨ j = 6 ∨ j = 7 ∨ j = 8 ∨ j = 9 ∨ j = 10 ∨ j = 11 ∨ j = 12 ∨ j = 13 ∨ j = 14 ∨ j = 15 ∨ j = 16 ∨ j = 17 ∨ j = 18 ∨ j = 19 ∨ j = 20 ∨ j = 21 ∨ j = 22 ∨ j = 23 ∨ j = 24 by omega) with rfl | rfl | rfl | rfl | rfl | rfl | rfl | rfl | rfl | rfl | rfl | rfl | rfl | rfl | rfl | rfl | rfl | rfl | rfl | rfl | rfl | rfl | rfl | rfl | rfl <;> rfl) (Nat.le_of_ble_eq_true rfl) (Nat.le_of_ble_eq_true rfl) d_law_8 (fun x1 H hP hD hS => ?_)
    have hP : va_P D cls (wC ca ad SC0 ++ [(x1, .inr (4, [.int 0, .int 0, .null, .null, .null, .int 0, .null, .null, .null, .int 0, .null, .null, .null, .null, .null, .null, .null, .null, .null, .null, .null, .null, .int 0, .int 0, .int 0]))]) H := hP
    have hD : va_D (LA s) (wC ca ad SC0 ++ [(x1, .inr (4, [.int 0, .int 0, .null, .null, .null, .int 0, .null, .null, .null, .int 0, .null, .null, .null, .null, .null, .null, .null, .null, .null, .null, .null, .null, .int 0, .int 0, .int 0]))]) := hD
    refine W.widen (k := 16) (n := 136) (by omega) (by omega) ?_
    refine lv_dup hx hb d_law_11 rfl ?_
    have hPc := hP.sub (ws' := [(x1, .inr (4, [.int 0, .int 0, .null, .null, .null, .int 0, .null, .null, .null, .int 0, .null, .null, .null, .null, .null, .null, .null, .null, .null, .null, .null, .null, .int 0, .int 0, .int 0]))]) [15] rfl
    have hDc := hD.sub (ws' := [(x1, .inr (4, [.int 0, .int 0, .null, .null, .null, .int 0, .null, .null, .null, .int 0, .null, .null, .null, .null, .null, .null, .null, .null, .null, .null, .null, .null, .int 0, .int 0, .int 0]))]) [15] (by decide) rfl
    have hFc := va_free (wc := [(x1, .inr (4, [.int 0, .int 0, .null, .null, .null, .int 0, .null, .null, .null, .int 0, .null, .null, .null, .null, .null, .null, .null, .null, .null, .null, .null, .null, .int 0, .int 0, .int 0]))]) hD hS hA [15] rfl
    refine va_callv (va_runI (As := []) (rest := [.ref x1]) ⟨hx, hb, hml, hown, hw⟩ (c_R_init l D ca x1 H.size) (cwI 0 hw (tG_g gi_law_R) rfl rfl rfl (hw _ wd_5) (hw _ wd_587) (hw _ wd_588) rfl (by decide +kernel) ⟨Nat.le_of_ble_eq_true rfl, Nat.le_of_ble_eq_true rfl⟩) ⟨xPc.blind, xPc.pre (w := fun _ : Unit => [(x1, .inr (4, [.int 0, .int 0, .null, .null, .null, .int 0, .null, .null, .null, .int 0, .null, .null, .null, .null, .null, .null, .null, .null, .null, .null, .null, .null, .int 0, .int 0, .int 0]))]) (S := ()) hK hN hPc hDc⟩ rfl rfl hl.1 rfl (lv_room (Nat.le_of_ble_eq_true rfl)) d_law_12 ⟨Nat.le_of_ble_eq_true rfl, Nat.le_of_ble_eq_true rfl⟩) hS (fun q _ h => hFc q h) hFc (fun ae t H1 locs ht hvm hw9 hB hz1 hk1 hS => ?_)
    obtain ⟨hP1, hD1⟩ := hB
    rw [ht] at hP1
    obtain ⟨hP, hD⟩ := va_join (wr := wC ca ad SC0) (w1 := wR ca ae SR0) hP hD [15] [0, 1, 2, 3, 4, 5, 6, 7, 8, 9, 10, 11, 12, 13, 14] rfl rfl (by decide) (by decide) hk1 hFc hP1 hD1
    have hx1 : ae 0 = x1 := hw9
    rw [← hx1]
    clear hz1 hk1 hP1 hD1 hPc hDc hFc
    generalize H1 = H at hP hS ⊢
    refine W.widen (k := 34) (n := 218) (by omega) (by omega) ?_
    refine lv_astore_n (lv' := [(2, .ref (ae 0)), (1, .ref (ad 0)), (0, .ref b)]) hx hb d_law_15 rfl hl (by decide) rfl (fun ls hl => ?_)
    refine lv_iconst (v := 1) hx hb d_law_16 (by decide) ?_
    refine va_newa (D := D) (atype := .long) (ty := .long) (a0 := (1, .inr (.inl (fun _ => 0)))) (N' := 1) hx hb (hw _ wd_667) rfl hK hP hD hS hA (fun cA => rfl) (by decide) rfl (by decide) (Nat.le_of_ble_eq_true rfl) (Nat.le_of_ble_eq_true rfl) d_law_17 (fun o cA H hK1 hP hD hS => ?_)
    obtain rfl := ca_eq1 hK hK1
    refine W.widen (k := 35) (n := 219) (by omega) (by omega) ?_
    refine lv_astore_n (lv' := [(3, .ref o), (2, .ref (ae 0)), (1, .ref (ad 0)), (0, .ref b)]) hx hb d_law_19 rfl hl (by decide) rfl (fun ls hl => ?_)
    refine lv_iconst (v := 1) hx hb d_law_20 (by decide) ?_
    refine va_newa (D := D) (atype := .double) (ty := .double) (a0 := (1, .inr (.inr (.inr (.inl (fun _ => 0)))))) (N' := 1) hx hb (hw _ wd_55) rfl hK hP hD hS hA (fun cA => rfl) (by decide) rfl (by decide) (Nat.le_of_ble_eq_true rfl) (Nat.le_of_ble_eq_true rfl) d_law_21 (fun od cA H hK2 hP hD hS => ?_)
    obtain rfl := ca_eq2 hK hK2
    refine W.widen (k := 36) (n := 220) (by omega) (by omega) ?_
    refine lv_astore (lv' := [(4, .ref od), (3, .ref o), (2, .ref (ae 0)), (1, .ref (ad 0)), (0, .ref b)]) hx hb d_law_23 hl (by decide) rfl (fun ls hl => ?_)
    refine lv_iconst (v := 0) hx hb d_law_25 (by decide) ?_
    refine lv_istore (lv' := [(5, .int 0), (4, .ref od), (3, .ref o), (2, .ref (ae 0)), (1, .ref (ad 0)), (0, .ref b)]) hx hb d_law_26 hl (by decide) rfl (fun ls hl => ?_)
    have hP := hP.sub (ws' := LI ca ad ae o od SC0 SR0 (fun _ => 0) (fun _ => 0)) [34, 35, 0, 1, 2, 3, 4, 5, 6, 7, 8, 9, 10, 11, 12, 13, 14, 15, 16, 17, 18, 19, 20, 21, 22, 23, 24, 25, 26, 27, 28, 29, 30, 31, 32, 33] rfl
    have hD := hD.sub (ws' := LI ca ad ae o od SC0 SR0 (fun _ => 0) (fun _ => 0)) [34, 35, 0, 1, 2, 3, 4, 5, 6, 7, 8, 9, 10, 11, 12, 13, 14, 15, 16, 17, 18, 19, 20, 21, 22, 23, 24, 25, 26, 27, 28, 29, 30, 31, 32, 33] (by decide) rfl
    rw [← nI_0] at hl
    exact law_loop K1 520 0 36 220 SC0 SR0 _ _ H _ ls (Nat.zero_le L) (by omega) (by omega) J0 hP hD hS (lv_sub hl [5, 4, 3, 2, 1, 0] rfl)
  exact hH9 _ hP hS
