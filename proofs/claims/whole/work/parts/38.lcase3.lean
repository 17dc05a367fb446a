-- the law: of, limit, mode, holds, count
set_option maxRecDepth 100000 in
set_option maxHeartbeats 4000000 in
theorem lc_of {p : Program} {l : Launch} {e : Env} {s : State} {m : MethodId} {below : List Frame} {meth : Method} {c : Code} {b L : Nat} {xs : Nat → Int32} {D : va_G} {ca : Nat → ClassId} {ad ae : Nat → Nat} {o od : Nat} {S : SC} {M : SR} {f : Nat → Int64} {g : Nat → UInt64} {H : Heap} {locs : List Loc} {cells slots i : Nat} {ls : Array Slot} (K0 : LK p l s m meth c b L xs D ca) (hJ : J S M) (hi : i + 4 ≤ L) (hc : cells + 2 ≤ 663321 ∧ slots + 12 ≤ 7106140) (hP : va_P D cls (LI ca ad ae o od S M f g) H) (hD : va_D (LA s) (LI ca ad ae o od S M f g)) (hS : va_S (LA s) s.heap H locs) (hl : lv_has ls 9 [(0, .ref b), (1, .ref (ad 0)), (2, .ref (ae 0)), (3, .ref o), (4, .ref od), (5, .int (nI i))]) (kk : ∀ (S : SC) (M : SR) (f : Nat → Int64) (g : Nat → UInt64) (H : Heap) (locs : List Loc) (ls : Array Slot), J S M → va_P D cls (LI ca ad ae o od S M f g) H → va_D (LA s) (LI ca ad ae o od S M f g) → va_S (LA s) s.heap H locs → lv_has ls 9 [(0, .ref b), (1, .ref (ad 0)), (2, .ref (ae 0)), (3, .ref o), (4, .ref od), (5, .int (nI i))] → W p l e room_1 s m #[Value.ref b] below meth c H locs (cells + 2) (slots + 12) (lw_Z below #[Value.ref b] s) (F0 m 1341 ls [])) : W p l e room_1 s m #[Value.ref b] below meth c H locs cells slots (lw_Z below #[Value.ref b] s) (F0 m 1016 ls []) := by
  obtain ⟨⟨hl0, hL⟩, ⟨hx, hb, hr, hml, hown, hts, hX, hbl, hlocks, hgv⟩, hK, hN, hX9, hC9, hZ⟩ := K0
  have hA : ∀ q : Nat, s.heap.size ≤ q → LA s q := fun _ h => h
  have hbA : ¬ LA s b := Nat.not_le.mpr hbl
  have hw : ∀ w ∈ tG, w.before #[Value.ref b] s = true := fun w h => hts w (tG_in w h)
  have hown : s.vm.findClass "TrainGuardLaw" = some m.cls := hown
  have ia1 : nI i + 1 = nI (i + 1) := nI_add i 1
  have ia2 : nI i + 2 = nI (i + 2) := nI_add i 2
  have ia3 : nI i + 3 = nI (i + 3) := nI_add i 3
  have iv1 : vp_in (nI (i + 1)) L := vp_in_nI (by omega) (by omega)
  have iv2 : vp_in (nI (i + 2)) L := vp_in_nI (by omega) (by omega)
  have iv3 : vp_in (nI (i + 3)) L := vp_in_nI (by omega) (by omega)
  have ic1 : (nI (i + 1)).toNatClampNeg = i + 1 := nI_clamp (by omega)
  have ic2 : (nI (i + 2)).toNatClampNeg = i + 2 := nI_clamp (by omega)
  have ic3 : (nI (i + 3)).toNatClampNeg = i + 3 := nI_clamp (by omega)
  refine lv_aload_n hx hb d_law_1016 rfl (lv_at hl 1 rfl) ?_
  refine lv_aload_n hx hb d_law_1017 rfl (lv_at hl 0 rfl) ?_
  refine lv_iload hx hb d_law_1018 (lv_at hl 5 rfl) ?_
  refine lv_iconst (v := 1) hx hb d_law_1020 (by decide) ?_
  refine lv_iadd hx hb d_law_1021 ?_
  rw [ia1]
  refine va_sld hx hb hX hbl hbA hS iv1 d_law_1022 ?_
  rw [ic1]
  refine lv_aload_n hx hb d_law_1023 rfl (lv_at hl 0 rfl) ?_
  refine lv_iload hx hb d_law_1024 (lv_at hl 5 rfl) ?_
  refine lv_iconst (v := 2) hx hb d_law_1026 (by decide) ?_
  refine lv_iadd hx hb d_law_1027 ?_
  rw [ia2]
  refine va_sld hx hb hX hbl hbA hS iv2 d_law_1028 ?_
  rw [ic2]
  refine lv_aload hx hb d_law_1029 (lv_at hl 4 rfl) ?_
  obtain ⟨Q9, hQ9, hh9⟩ := h_joinD (wG := w_G_of S ((xs (i + 1))) ((xs (i + 2)))) (wR := w_R_of M ((xs (i + 1))) ((xs (i + 2)))) g (j_of hJ)
  have hQ9 : w_W_of (S, g) ((xs (i + 1))) ((xs (i + 2))) Q9 := hQ9
  have hPc := hP.sub (ws' := wHd ca ad od (S, g)) [1, 2, 3, 4, 5, 6, 7, 8, 9, 10, 11, 12, 13, 14, 15, 16] rfl
  have hDc := hD.sub (ws' := wHd ca ad od (S, g)) [1, 2, 3, 4, 5, 6, 7, 8, 9, 10, 11, 12, 13, 14, 15, 16] (by decide) rfl
  have hFc := va_free (wc := wHd ca ad od (S, g)) hD hS hA [1, 2, 3, 4, 5, 6, 7, 8, 9, 10, 11, 12, 13, 14, 15, 16] rfl
  refine va_calli (vx_runSW (As := [.ref (ad 0), .int (xs (i + 1)), .int (xs (i + 2)), .ref od]) (rest := []) ⟨hx, hb, hml, hown, hw⟩ (c_W_of l hl0 D ca ad od H.size (S, g) ((xs (i + 1))) ((xs (i + 2))) Q9 hQ9) (vx_cwSW 4 hw (tG_g gs_law_129) rfl rfl rfl (by decide +kernel) ⟨Nat.le_of_ble_eq_true rfl, Nat.le_of_ble_eq_true rfl⟩) ⟨xPh.blind, xPh.pre hK hN hPc hDc hX9 (hZ.now hS hA hDc) hC9⟩ rfl rfl hl.1 rfl (lv_room (Nat.le_of_ble_eq_true rfl)) d_law_1031 ⟨show cells + 2 ≤ 663321 by omega, show slots + 12 ≤ 7106140 by omega⟩) hS (fun q _ h => hFc q h) hFc (fun k9 T9 t H1 locs ht hvm hq9 hB hz1 hk1 hS => ?_)
  obtain ⟨S9, f9⟩ := T9
  obtain ⟨hP1, hD1⟩ := hB
  rw [ht] at hP1
  obtain ⟨hP, hD⟩ := va_join (wr := (o, .inl (ca 1, 1, .inr (.inl f))) :: wR ca ae M) (w1 := wHd ca ad od (S9, f9)) hP hD [1, 2, 3, 4, 5, 6, 7, 8, 9, 10, 11, 12, 13, 14, 15, 16] [0, 17, 18, 19, 20, 21, 22, 23, 24, 25, 26, 27, 28, 29, 30, 31, 32, 33, 34, 35] rfl rfl (by decide) (by decide) hk1 hFc hP1 hD1
  have hP := hP.sub (ws' := LI ca ad ae o od S9 M f f9) [0, 20, 21, 22, 23, 24, 25, 26, 27, 28, 29, 30, 31, 32, 33, 34, 35, 1, 2, 3, 4, 5, 6, 7, 8, 9, 10, 11, 12, 13, 14, 15, 16, 17, 18, 19] rfl
  have hD := hD.sub (ws' := LI ca ad ae o od S9 M f f9) [0, 20, 21, 22, 23, 24, 25, 26, 27, 28, 29, 30, 31, 32, 33, 34, 35, 1, 2, 3, 4, 5, 6, 7, 8, 9, 10, 11, 12, 13, 14, 15, 16, 17, 18, 19] (by decide) rfl
  refine W.widen (k := cells + 2) (n := slots + 12) (by omega) (by omega) ?_
  obtain ⟨R9, hR9, hr9⟩ := hh9 k9 (S9, f9) hq9
  clear hz1 hk1 hP1 hD1 hPc hDc hFc
  generalize H1 = H at hP hS ⊢
  refine lv_istore (lv' := [(6, .int k9), (0, .ref b), (1, .ref (ad 0)), (2, .ref (ae 0)), (3, .ref o), (4, .ref od), (5, .int (nI i))]) hx hb d_law_1034 hl (by decide) rfl (fun ls hl => ?_)
  refine lv_aload_n hx hb d_law_1036 rfl (lv_at hl 3 rfl) ?_
  refine lv_aload_n hx hb d_law_1037 rfl (lv_at hl 1 rfl) ?_
  refine lv_iload hx hb d_law_1038 (lv_at hl 6 rfl) ?_
  refine lv_iconst (v := 1) hx hb d_law_1040 (by decide) ?_
  refine lv_iadd hx hb d_law_1041 ?_
  rw [ia1]
  refine va_sld hx hb hX hbl hbA hS iv1 d_law_1042 ?_
  rw [ic1]
  refine lv_aload_n hx hb d_law_1043 rfl (lv_at hl 1 rfl) ?_
  refine lv_iload hx hb d_law_1044 (lv_at hl 6 rfl) ?_
  refine lv_iconst (v := 2) hx hb d_law_1046 (by decide) ?_
  refine lv_iadd hx hb d_law_1047 ?_
  rw [ia2]
  refine va_sld hx hb hX hbl hbA hS iv2 d_law_1048 ?_
  rw [ic2]
  have hPc := hP.sub (ws' := wR ca ae M) [17, 18, 19, 20, 21, 22, 23, 24, 25, 26, 27, 28, 29, 30, 31, 32, 33, 34, 35] rfl
  have hDc := hD.sub (ws' := wR ca ae M) [17, 18, 19, 20, 21, 22, 23, 24, 25, 26, 27, 28, 29, 30, 31, 32, 33, 34, 35] (by decide) rfl
  have hFc := va_free (wc := wR ca ae M) hD hS hA [17, 18, 19, 20, 21, 22, 23, 24, 25, 26, 27, 28, 29, 30, 31, 32, 33, 34, 35] rfl
  refine va_calld (va_runV (As := [.int (xs (i + 1)), .int (xs (i + 2))]) (rest := []) ⟨hx, hb, hml, hown, hw⟩ (c_R_of l D ca ae H.size M ((xs (i + 1))) ((xs (i + 2))) R9 hR9) (cwV 2 hw (tG_g gv_law_132) rfl rfl rfl (by decide +kernel) ⟨Nat.le_of_ble_eq_true rfl, Nat.le_of_ble_eq_true rfl⟩) ⟨xPc.blind, va_recv hK hP (ci := 4) rfl (q0 := 17) rfl, xPc.pre hK hN hPc hDc⟩ rfl rfl hl.1 rfl (lv_room (Nat.le_of_ble_eq_true rfl)) d_law_1049 ⟨show cells + 2 + 0 ≤ 663321 by omega, show slots + 12 + 0 ≤ 7106140 by omega⟩) hS (fun q _ h => hFc q h) hFc (fun b9 v9 t H1 locs ht hvm hq hB hz1 hk1 hS => ?_)
  obtain ⟨hP1, hD1⟩ := hB
  rw [ht] at hP1
  obtain ⟨hP, hD⟩ := va_join (wr := (o, .inl (ca 1, 1, .inr (.inl f))) :: (od, .inl (ca 2, 1, .inr (.inr (.inr (.inl f9))))) :: wC ca ad S9) (w1 := wR ca ae v9) hP hD [17, 18, 19, 20, 21, 22, 23, 24, 25, 26, 27, 28, 29, 30, 31, 32, 33, 34, 35] [0, 1, 2, 3, 4, 5, 6, 7, 8, 9, 10, 11, 12, 13, 14, 15, 16] rfl rfl (by decide) (by decide) hk1 hFc hP1 hD1
  have hP : va_P D cls (LI ca ad ae o od S9 v9 f f9) H1 := hP
  have hD : va_D (LA s) (LI ca ad ae o od S9 v9 f f9) := hD
  clear hz1 hk1 hP1 hD1 hPc hDc hFc
  generalize H1 = H at hP hS ⊢
  refine lv_dstore (lv' := [(7, .double b9), (6, .int k9), (0, .ref b), (1, .ref (ad 0)), (2, .ref (ae 0)), (3, .ref o), (4, .ref od), (5, .int (nI i))]) hx hb d_law_1052 hl (by decide) rfl (fun ls hl => ?_)
  obtain ⟨hth, hJ9, hans⟩ := hr9 b9 v9 hq
  refine lv_aload_n hx hb d_law_1054 rfl (lv_at hl 4 rfl) ?_
  have hPc := hP.sub (ws' := wR ca ae v9) [17, 18, 19, 20, 21, 22, 23, 24, 25, 26, 27, 28, 29, 30, 31, 32, 33, 34, 35] rfl
  have hDc := hD.sub (ws' := wR ca ae v9) [17, 18, 19, 20, 21, 22, 23, 24, 25, 26, 27, 28, 29, 30, 31, 32, 33, 34, 35] (by decide) rfl
  have hFc := va_free (wc := wR ca ae v9) hD hS hA [17, 18, 19, 20, 21, 22, 23, 24, 25, 26, 27, 28, 29, 30, 31, 32, 33, 34, 35] rfl
  refine va_calli (va_runV (As := []) (rest := []) ⟨hx, hb, hml, hown, hw⟩ (c_R_thrown l D ca ae H.size v9 (fun r u => r = v9.1 0 0 ∧ u = v9) ⟨rfl, rfl⟩) (cwV 0 hw (tG_g gv_law_86) rfl rfl rfl (by decide +kernel) ⟨Nat.le_of_ble_eq_true rfl, Nat.le_of_ble_eq_true rfl⟩) ⟨xPc.blind, va_recv hK hP (ci := 4) rfl (q0 := 17) rfl, xPc.pre hK hN hPc hDc⟩ rfl rfl hl.1 rfl (lv_room (Nat.le_of_ble_eq_true rfl)) d_law_1055 ⟨show cells + 2 + 0 ≤ 663321 by omega, show slots + 12 + 0 ≤ 7106140 by omega⟩) hS (fun q _ h => hFc q h) hFc (fun t9 v8 t H1 locs ht hvm hq hB hz1 hk1 hS => ?_)
  obtain ⟨hP1, hD1⟩ := hB
  rw [ht] at hP1
  obtain ⟨hP, hD⟩ := va_join (wr := (o, .inl (ca 1, 1, .inr (.inl f))) :: (od, .inl (ca 2, 1, .inr (.inr (.inr (.inl f9))))) :: wC ca ad S9) (w1 := wR ca ae v8) hP hD [17, 18, 19, 20, 21, 22, 23, 24, 25, 26, 27, 28, 29, 30, 31, 32, 33, 34, 35] [0, 1, 2, 3, 4, 5, 6, 7, 8, 9, 10, 11, 12, 13, 14, 15, 16] rfl rfl (by decide) (by decide) hk1 hFc hP1 hD1
  have hP : va_P D cls (LI ca ad ae o od S9 v8 f f9) H1 := hP
  have hD : va_D (LA s) (LI ca ad ae o od S9 v8 f f9) := hD
  clear hz1 hk1 hP1 hD1 hPc hDc hFc
  generalize H1 = H at hP hS ⊢
  obtain ⟨et9, ev9⟩ := hq
  have ev9 : v8 = v9 := ev9
  have hJ9 : J S9 v8 := by rw [ev9]; exact hJ9
  refine lv_iload hx hb d_law_1058 (lv_at hl 1 rfl) ?_
  refine lv_icmp_eq (tgt := 1065) hx hb d_law_1060 (by decide) (fun hc9 => ?_) (fun hc9 => absurd (et9.trans hth) hc9)
  refine lv_iload hx hb d_law_1065 (lv_at hl 1 rfl) ?_
  refine lv_if_ne (tgt := 1102) hx hb d_law_1067 (by decide) (fun hc8 => ?_) (fun hc8 => ?_)
  · refine lv_goto (tgt := 1341) hx hb d_law_1102 (by decide) (kk S9 v8 f f9 _ _ _ hJ9 hP hD hS (lv_sub hl [2, 3, 4, 5, 6, 7] rfl))
  have hans := hans hc8
  refine lv_aload hx hb d_law_1070 (lv_at hl 6 rfl) ?_
  refine lv_iconst (v := 0) hx hb d_law_1072 (by decide) ?_
  refine va_dald (D := D) (i := 0) hx hb hK hP 1 2 rfl rfl (by unfold vp_in; decide) d_law_1073 ?_
  rw [show (f9) (0 : Int32).toNatClampNeg = b9 from hans.1]
  refine lv_dload hx hb d_law_1074 (lv_at hl 0 rfl) ?_
  refine lv_dcmp hx hb d_law_1076 ?_
  refine lv_if_eq (tgt := 1102) hx hb d_law_1077 (by decide) (fun hc7 => ?_) (fun hc7 => absurd (d_same hans.2 _) hc7)
  refine lv_goto (tgt := 1341) hx hb d_law_1102 (by decide) (kk S9 v8 f f9 _ _ _ hJ9 hP hD hS (lv_sub hl [2, 3, 4, 5, 6, 7] rfl))
set_option maxRecDepth 100000 in
set_option maxHeartbeats 4000000 in
theorem lc_limit {p : Program} {l : Launch} {e : Env} {s : State} {m : MethodId} {below : List Frame} {meth : Method} {c : Code} {b L : Nat} {xs : Nat → Int32} {D : va_G} {ca : Nat → ClassId} {ad ae : Nat → Nat} {o od : Nat} {S : SC} {M : SR} {f : Nat → Int64} {g : Nat → UInt64} {H : Heap} {locs : List Loc} {cells slots i : Nat} {ls : Array Slot} (K0 : LK p l s m meth c b L xs D ca) (hJ : J S M) (hi : i + 4 ≤ L) (hc : cells + 2 ≤ 663321 ∧ slots + 12 ≤ 7106140) (hP : va_P D cls (LI ca ad ae o od S M f g) H) (hD : va_D (LA s) (LI ca ad ae o od S M f g)) (hS : va_S (LA s) s.heap H locs) (hl : lv_has ls 9 [(0, .ref b), (1, .ref (ad 0)), (2, .ref (ae 0)), (3, .ref o), (4, .ref od), (5, .int (nI i))]) (kk : ∀ (S : SC) (M : SR) (f : Nat → Int64) (g : Nat → UInt64) (H : Heap) (locs : List Loc) (ls : Array Slot), J S M → va_P D cls (LI ca ad ae o od S M f g) H → va_D (LA s) (LI ca ad ae o od S M f g) → va_S (LA s) s.heap H locs → lv_has ls 9 [(0, .ref b), (1, .ref (ad 0)), (2, .ref (ae 0)), (3, .ref o), (4, .ref od), (5, .int (nI i))] → W p l e room_1 s m #[Value.ref b] below meth c H locs (cells + 2) (slots + 12) (lw_Z below #[Value.ref b] s) (F0 m 1341 ls [])) : W p l e room_1 s m #[Value.ref b] below meth c H locs cells slots (lw_Z below #[Value.ref b] s) (F0 m 1105 ls []) := by
  obtain ⟨⟨hl0, hL⟩, ⟨hx, hb, hr, hml, hown, hts, hX, hbl, hlocks, hgv⟩, hK, hN, hX9, hC9, hZ⟩ := K0
  have hA : ∀ q : Nat, s.heap.size ≤ q → LA s q := fun _ h => h
  have hbA : ¬ LA s b := Nat.not_le.mpr hbl
  have hw : ∀ w ∈ tG, w.before #[Value.ref b] s = true := fun w h => hts w (tG_in w h)
  have hown : s.vm.findClass "TrainGuardLaw" = some m.cls := hown
  have ia1 : nI i + 1 = nI (i + 1) := nI_add i 1
  have ia2 : nI i + 2 = nI (i + 2) := nI_add i 2
  have ia3 : nI i + 3 = nI (i + 3) := nI_add i 3
  have iv1 : vp_in (nI (i + 1)) L := vp_in_nI (by omega) (by omega)
  have iv2 : vp_in (nI (i + 2)) L := vp_in_nI (by omega) (by omega)
  have iv3 : vp_in (nI (i + 3)) L := vp_in_nI (by omega) (by omega)
  have ic1 : (nI (i + 1)).toNatClampNeg = i + 1 := nI_clamp (by omega)
  have ic2 : (nI (i + 2)).toNatClampNeg = i + 2 := nI_clamp (by omega)
  have ic3 : (nI (i + 3)).toNatClampNeg = i + 3 := nI_clamp (by omega)
  refine lv_aload_n hx hb d_law_1105 rfl (lv_at hl 1 rfl) ?_
  refine lv_aload_n hx hb d_law_1106 rfl (lv_at hl 0 rfl) ?_
  refine lv_iload hx hb d_law_1107 (lv_at hl 5 rfl) ?_
  refine lv_iconst (v := 1) hx hb d_law_1109 (by decide) ?_
  refine lv_iadd hx hb d_law_1110 ?_
  rw [ia1]
  refine va_sld hx hb hX hbl hbA hS iv1 d_law_1111 ?_
  rw [ic1]
  refine lv_i2d hx hb d_law_1112 ?_
  refine lv_ldc2d hx hb hown (hw _ wd_847) d_law_1113 ?_
  refine lv_dmul hx hb d_law_1116 (z_argf _) ?_
  rw [z_arg]
  refine lv_aload hx hb d_law_1117 (lv_at hl 4 rfl) ?_
  obtain ⟨Q9, hQ9, hh9⟩ := h_joinD (wG := w_G_limit S ((zq 3 (xs (i + 1)).toInt))) (wR := w_R_limit M ((zq 3 (xs (i + 1)).toInt))) g (j_limit hJ (z_abs _))
  have hQ9 : w_W_limit (S, g) ((zq 3 (xs (i + 1)).toInt)) Q9 := hQ9
  have hPc := hP.sub (ws' := wHd ca ad od (S, g)) [1, 2, 3, 4, 5, 6, 7, 8, 9, 10, 11, 12, 13, 14, 15, 16] rfl
  have hDc := hD.sub (ws' := wHd ca ad od (S, g)) [1, 2, 3, 4, 5, 6, 7, 8, 9, 10, 11, 12, 13, 14, 15, 16] (by decide) rfl
  have hFc := va_free (wc := wHd ca ad od (S, g)) hD hS hA [1, 2, 3, 4, 5, 6, 7, 8, 9, 10, 11, 12, 13, 14, 15, 16] rfl
  refine va_calli (vx_runSW (As := [.ref (ad 0), .double (zq 3 (xs (i + 1)).toInt), .ref od]) (rest := []) ⟨hx, hb, hml, hown, hw⟩ (c_W_limit l hl0 D ca ad od H.size (S, g) ((zq 3 (xs (i + 1)).toInt)) Q9 hQ9) (vx_cwSW 3 hw (tG_g gs_law_133) rfl rfl rfl (by decide +kernel) ⟨Nat.le_of_ble_eq_true rfl, Nat.le_of_ble_eq_true rfl⟩) ⟨xPh.blind, xPh.pre hK hN hPc hDc hX9 (hZ.now hS hA hDc) hC9⟩ rfl rfl hl.1 rfl (lv_room (Nat.le_of_ble_eq_true rfl)) d_law_1119 ⟨show cells + 1 ≤ 663321 by omega, show slots + 6 ≤ 7106140 by omega⟩) hS (fun q _ h => hFc q h) hFc (fun k9 T9 t H1 locs ht hvm hq9 hB hz1 hk1 hS => ?_)
  obtain ⟨S9, f9⟩ := T9
  obtain ⟨hP1, hD1⟩ := hB
  rw [ht] at hP1
  obtain ⟨hP, hD⟩ := va_join (wr := (o, .inl (ca 1, 1, .inr (.inl f))) :: wR ca ae M) (w1 := wHd ca ad od (S9, f9)) hP hD [1, 2, 3, 4, 5, 6, 7, 8, 9, 10, 11, 12, 13, 14, 15, 16] [0, 17, 18, 19, 20, 21, 22, 23, 24, 25, 26, 27, 28, 29, 30, 31, 32, 33, 34, 35] rfl rfl (by decide) (by decide) hk1 hFc hP1 hD1
  have hP := hP.sub (ws' := LI ca ad ae o od S9 M f f9) [0, 20, 21, 22, 23, 24, 25, 26, 27, 28, 29, 30, 31, 32, 33, 34, 35, 1, 2, 3, 4, 5, 6, 7, 8, 9, 10, 11, 12, 13, 14, 15, 16, 17, 18, 19] rfl
  have hD := hD.sub (ws' := LI ca ad ae o od S9 M f f9) [0, 20, 21, 22, 23, 24, 25, 26, 27, 28, 29, 30, 31, 32, 33, 34, 35, 1, 2, 3, 4, 5, 6, 7, 8, 9, 10, 11, 12, 13, 14, 15, 16, 17, 18, 19] (by decide) rfl
  refine W.widen (k := cells + 2) (n := slots + 12) (by omega) (by omega) ?_
  obtain ⟨R9, hR9, hr9⟩ := hh9 k9 (S9, f9) hq9
  clear hz1 hk1 hP1 hD1 hPc hDc hFc
  generalize H1 = H at hP hS ⊢
  refine lv_istore (lv' := [(6, .int k9), (0, .ref b), (1, .ref (ad 0)), (2, .ref (ae 0)), (3, .ref o), (4, .ref od), (5, .int (nI i))]) hx hb d_law_1122 hl (by decide) rfl (fun ls hl => ?_)
  refine lv_aload_n hx hb d_law_1124 rfl (lv_at hl 3 rfl) ?_
  refine lv_aload_n hx hb d_law_1125 rfl (lv_at hl 1 rfl) ?_
  refine lv_iload hx hb d_law_1126 (lv_at hl 6 rfl) ?_
  refine lv_iconst (v := 1) hx hb d_law_1128 (by decide) ?_
  refine lv_iadd hx hb d_law_1129 ?_
  rw [ia1]
  refine va_sld hx hb hX hbl hbA hS iv1 d_law_1130 ?_
  rw [ic1]
  refine lv_i2d hx hb d_law_1131 ?_
  refine lv_ldc2d hx hb hown (hw _ wd_847) d_law_1132 ?_
  refine lv_dmul hx hb d_law_1135 (z_argf _) ?_
  rw [z_arg]
  have hPc := hP.sub (ws' := wR ca ae M) [17, 18, 19, 20, 21, 22, 23, 24, 25, 26, 27, 28, 29, 30, 31, 32, 33, 34, 35] rfl
  have hDc := hD.sub (ws' := wR ca ae M) [17, 18, 19, 20, 21, 22, 23, 24, 25, 26, 27, 28, 29, 30, 31, 32, 33, 34, 35] (by decide) rfl
  have hFc := va_free (wc := wR ca ae M) hD hS hA [17, 18, 19, 20, 21, 22, 23, 24, 25, 26, 27, 28, 29, 30, 31, 32, 33, 34, 35] rfl
  refine va_calld (va_runV (As := [.double (zq 3 (xs (i + 1)).toInt)]) (rest := []) ⟨hx, hb, hml, hown, hw⟩ (c_R_limit l D ca ae H.size M ((zq 3 (xs (i + 1)).toInt)) R9 hR9) (cwV 1 hw (tG_g gv_law_136) rfl rfl rfl (by decide +kernel) ⟨Nat.le_of_ble_eq_true rfl, Nat.le_of_ble_eq_true rfl⟩) ⟨xPc.blind, va_recv hK hP (ci := 4) rfl (q0 := 17) rfl, xPc.pre hK hN hPc hDc⟩ rfl rfl hl.1 rfl (lv_room (Nat.le_of_ble_eq_true rfl)) d_law_1136 ⟨show cells + 2 + 0 ≤ 663321 by omega, show slots + 12 + 0 ≤ 7106140 by omega⟩) hS (fun q _ h => hFc q h) hFc (fun b9 v9 t H1 locs ht hvm hq hB hz1 hk1 hS => ?_)
  obtain ⟨hP1, hD1⟩ := hB
  rw [ht] at hP1
  obtain ⟨hP, hD⟩ := va_join (wr := (o, .inl (ca 1, 1, .inr (.inl f))) :: (od, .inl (ca 2, 1, .inr (.inr (.inr (.inl f9))))) :: wC ca ad S9) (w1 := wR ca ae v9) hP hD [17, 18, 19, 20, 21, 22, 23, 24, 25, 26, 27, 28, 29, 30, 31, 32, 33, 34, 35] [0, 1, 2, 3, 4, 5, 6, 7, 8, 9, 10, 11, 12, 13, 14, 15, 16] rfl rfl (by decide) (by decide) hk1 hFc hP1 hD1
  have hP : va_P D cls (LI ca ad ae o od S9 v9 f f9) H1 := hP
  have hD : va_D (LA s) (LI ca ad ae o od S9 v9 f f9) := hD
  clear hz1 hk1 hP1 hD1 hPc hDc hFc
  generalize H1 = H at hP hS ⊢
  refine lv_dstore (lv' := [(7, .double b9), (6, .int k9), (0, .ref b), (1, .ref (ad 0)), (2, .ref (ae 0)), (3, .ref o), (4, .ref od), (5, .int (nI i))]) hx hb d_law_1139 hl (by decide) rfl (fun ls hl => ?_)
  obtain ⟨hth, hJ9, hans⟩ := hr9 b9 v9 hq
  refine lv_aload_n hx hb d_law_1141 rfl (lv_at hl 4 rfl) ?_
  have hPc := hP.sub (ws' := wR ca ae v9) [17, 18, 19, 20, 21, 22, 23, 24, 25, 26, 27, 28, 29, 30, 31, 32, 33, 34, 35] rfl
  have hDc := hD.sub (ws' := wR ca ae v9) [17, 18, 19, 20, 21, 22, 23, 24, 25, 26, 27, 28, 29, 30, 31, 32, 33, 34, 35] (by decide) rfl
  have hFc := va_free (wc := wR ca ae v9) hD hS hA [17, 18, 19, 20, 21, 22, 23, 24, 25, 26, 27, 28, 29, 30, 31, 32, 33, 34, 35] rfl
  refine va_calli (va_runV (As := []) (rest := []) ⟨hx, hb, hml, hown, hw⟩ (c_R_thrown l D ca ae H.size v9 (fun r u => r = v9.1 0 0 ∧ u = v9) ⟨rfl, rfl⟩) (cwV 0 hw (tG_g gv_law_86) rfl rfl rfl (by decide +kernel) ⟨Nat.le_of_ble_eq_true rfl, Nat.le_of_ble_eq_true rfl⟩) ⟨xPc.blind, va_recv hK hP (ci := 4) rfl (q0 := 17) rfl, xPc.pre hK hN hPc hDc⟩ rfl rfl hl.1 rfl (lv_room (Nat.le_of_ble_eq_true rfl)) d_law_1142 ⟨show cells + 2 + 0 ≤ 663321 by omega, show slots + 12 + 0 ≤ 7106140 by omega⟩) hS (fun q _ h => hFc q h) hFc (fun t9 v8 t H1 locs ht hvm hq hB hz1 hk1 hS => ?_)
  obtain ⟨hP1, hD1⟩ := hB
  rw [ht] at hP1
  obtain ⟨hP, hD⟩ := va_join (wr := (o, .inl (ca 1, 1, .inr (.inl f))) :: (od, .inl (ca 2, 1, .inr (.inr (.inr (.inl f9))))) :: wC ca ad S9) (w1 := wR ca ae v8) hP hD [17, 18, 19, 20, 21, 22, 23, 24, 25, 26, 27, 28, 29, 30, 31, 32, 33, 34, 35] [0, 1, 2, 3, 4, 5, 6, 7, 8, 9, 10, 11, 12, 13, 14, 15, 16] rfl rfl (by decide) (by decide) hk1 hFc hP1 hD1
  have hP : va_P D cls (LI ca ad ae o od S9 v8 f f9) H1 := hP
  have hD : va_D (LA s) (LI ca ad ae o od S9 v8 f f9) := hD
  clear hz1 hk1 hP1 hD1 hPc hDc hFc
  generalize H1 = H at hP hS ⊢
  obtain ⟨et9, ev9⟩ := hq
  have ev9 : v8 = v9 := ev9
  have hJ9 : J S9 v8 := by rw [ev9]; exact hJ9
  refine lv_iload hx hb d_law_1145 (lv_at hl 1 rfl) ?_
  refine lv_icmp_eq (tgt := 1152) hx hb d_law_1147 (by decide) (fun hc9 => ?_) (fun hc9 => absurd (et9.trans hth) hc9)
  refine lv_iload hx hb d_law_1152 (lv_at hl 1 rfl) ?_
  refine lv_if_ne (tgt := 1189) hx hb d_law_1154 (by decide) (fun hc8 => ?_) (fun hc8 => ?_)
  · refine lv_goto (tgt := 1341) hx hb d_law_1189 (by decide) (kk S9 v8 f f9 _ _ _ hJ9 hP hD hS (lv_sub hl [2, 3, 4, 5, 6, 7] rfl))
  have hans := hans hc8
  refine lv_aload hx hb d_law_1157 (lv_at hl 6 rfl) ?_
  refine lv_iconst (v := 0) hx hb d_law_1159 (by decide) ?_
  refine va_dald (D := D) (i := 0) hx hb hK hP 1 2 rfl rfl (by unfold vp_in; decide) d_law_1160 ?_
  rw [show (f9) (0 : Int32).toNatClampNeg = b9 from hans.1]
  refine lv_dload hx hb d_law_1161 (lv_at hl 0 rfl) ?_
  refine lv_dcmp hx hb d_law_1163 ?_
  refine lv_if_eq (tgt := 1189) hx hb d_law_1164 (by decide) (fun hc7 => ?_) (fun hc7 => absurd (d_same hans.2 _) hc7)
  refine lv_goto (tgt := 1341) hx hb d_law_1189 (by decide) (kk S9 v8 f f9 _ _ _ hJ9 hP hD hS (lv_sub hl [2, 3, 4, 5, 6, 7] rfl))
set_option maxRecDepth 100000 in
set_option maxHeartbeats 4000000 in
theorem lc_mode {p : Program} {l : Launch} {e : Env} {s : State} {m : MethodId} {below : List Frame} {meth : Method} {c : Code} {b L : Nat} {xs : Nat → Int32} {D : va_G} {ca : Nat → ClassId} {ad ae : Nat → Nat} {o od : Nat} {S : SC} {M : SR} {f : Nat → Int64} {g : Nat → UInt64} {H : Heap} {locs : List Loc} {cells slots i : Nat} {ls : Array Slot} (K0 : LK p l s m meth c b L xs D ca) (hJ : J S M) (hi : i + 4 ≤ L) (hc : cells + 2 ≤ 663321 ∧ slots + 12 ≤ 7106140) (hP : va_P D cls (LI ca ad ae o od S M f g) H) (hD : va_D (LA s) (LI ca ad ae o od S M f g)) (hS : va_S (LA s) s.heap H locs) (hl : lv_has ls 9 [(0, .ref b), (1, .ref (ad 0)), (2, .ref (ae 0)), (3, .ref o), (4, .ref od), (5, .int (nI i))]) (kk : ∀ (S : SC) (M : SR) (f : Nat → Int64) (g : Nat → UInt64) (H : Heap) (locs : List Loc) (ls : Array Slot), J S M → va_P D cls (LI ca ad ae o od S M f g) H → va_D (LA s) (LI ca ad ae o od S M f g) → va_S (LA s) s.heap H locs → lv_has ls 9 [(0, .ref b), (1, .ref (ad 0)), (2, .ref (ae 0)), (3, .ref o), (4, .ref od), (5, .int (nI i))] → W p l e room_1 s m #[Value.ref b] below meth c H locs (cells + 2) (slots + 12) (lw_Z below #[Value.ref b] s) (F0 m 1341 ls [])) : W p l e room_1 s m #[Value.ref b] below meth c H locs cells slots (lw_Z below #[Value.ref b] s) (F0 m 1192 ls []) := by
  obtain ⟨⟨hl0, hL⟩, ⟨hx, hb, hr, hml, hown, hts, hX, hbl, hlocks, hgv⟩, hK, hN, hX9, hC9, hZ⟩ := K0
  have hA : ∀ q : Nat, s.heap.size ≤ q → LA s q := fun _ h => h
  have hbA : ¬ LA s b := Nat.not_le.mpr hbl
  have hw : ∀ w ∈ tG, w.before #[Value.ref b] s = true := fun w h => hts w (tG_in w h)
  have hown : s.vm.findClass "TrainGuardLaw" = some m.cls := hown
  have ia1 : nI i + 1 = nI (i + 1) := nI_add i 1
  have ia2 : nI i + 2 = nI (i + 2) := nI_add i 2
  have ia3 : nI i + 3 = nI (i + 3) := nI_add i 3
  have iv1 : vp_in (nI (i + 1)) L := vp_in_nI (by omega) (by omega)
  have iv2 : vp_in (nI (i + 2)) L := vp_in_nI (by omega) (by omega)
  have iv3 : vp_in (nI (i + 3)) L := vp_in_nI (by omega) (by omega)
  have ic1 : (nI (i + 1)).toNatClampNeg = i + 1 := nI_clamp (by omega)
  have ic2 : (nI (i + 2)).toNatClampNeg = i + 2 := nI_clamp (by omega)
  have ic3 : (nI (i + 3)).toNatClampNeg = i + 3 := nI_clamp (by omega)
  refine lv_aload_n hx hb d_law_1192 rfl (lv_at hl 1 rfl) ?_
  refine lv_aload_n hx hb d_law_1193 rfl (lv_at hl 0 rfl) ?_
  refine lv_iload hx hb d_law_1194 (lv_at hl 5 rfl) ?_
  refine lv_iconst (v := 1) hx hb d_law_1196 (by decide) ?_
  refine lv_iadd hx hb d_law_1197 ?_
  rw [ia1]
  refine va_sld hx hb hX hbl hbA hS iv1 d_law_1198 ?_
  rw [ic1]
  refine lv_aload_n hx hb d_law_1199 rfl (lv_at hl 3 rfl) ?_
  obtain ⟨Q9, hQ9, hh9⟩ := h_join (wG := w_G_mode S ((xs (i + 1)))) (wR := w_R_mode M ((xs (i + 1)))) f (j_mode hJ)
  have hQ9 : w_W_mode (S, f) ((xs (i + 1))) Q9 := hQ9
  have hPc := hP.sub (ws' := wHl ca ad o (S, f)) [0, 2, 3, 4, 5, 6, 7, 8, 9, 10, 11, 12, 13, 14, 15, 16] rfl
  have hDc := hD.sub (ws' := wHl ca ad o (S, f)) [0, 2, 3, 4, 5, 6, 7, 8, 9, 10, 11, 12, 13, 14, 15, 16] (by decide) rfl
  have hFc := va_free (wc := wHl ca ad o (S, f)) hD hS hA [0, 2, 3, 4, 5, 6, 7, 8, 9, 10, 11, 12, 13, 14, 15, 16] rfl
  refine va_calli (vx_runSW (As := [.ref (ad 0), .int (xs (i + 1)), .ref o]) (rest := []) ⟨hx, hb, hml, hown, hw⟩ (c_W_mode l hl0 D ca ad o H.size (S, f) ((xs (i + 1))) Q9 hQ9) (vx_cwSW 3 hw (tG_g gs_law_137) rfl rfl rfl (by decide +kernel) ⟨Nat.le_of_ble_eq_true rfl, Nat.le_of_ble_eq_true rfl⟩) ⟨xPh.blind, xPh.pre hK hN hPc hDc hX9 (hZ.now hS hA hDc) hC9⟩ rfl rfl hl.1 rfl (lv_room (Nat.le_of_ble_eq_true rfl)) d_law_1200 ⟨show cells + 2 ≤ 663321 by omega, show slots + 12 ≤ 7106140 by omega⟩) hS (fun q _ h => hFc q h) hFc (fun k9 T9 t H1 locs ht hvm hq9 hB hz1 hk1 hS => ?_)
  obtain ⟨S9, f9⟩ := T9
  obtain ⟨hP1, hD1⟩ := hB
  rw [ht] at hP1
  obtain ⟨hP, hD⟩ := va_join (wr := (od, .inl (ca 2, 1, .inr (.inr (.inr (.inl g))))) :: wR ca ae M) (w1 := wHl ca ad o (S9, f9)) hP hD [0, 2, 3, 4, 5, 6, 7, 8, 9, 10, 11, 12, 13, 14, 15, 16] [1, 17, 18, 19, 20, 21, 22, 23, 24, 25, 26, 27, 28, 29, 30, 31, 32, 33, 34, 35] rfl rfl (by decide) (by decide) hk1 hFc hP1 hD1
  have hP := hP.sub (ws' := LI ca ad ae o od S9 M f9 g) [20, 0, 21, 22, 23, 24, 25, 26, 27, 28, 29, 30, 31, 32, 33, 34, 35, 1, 2, 3, 4, 5, 6, 7, 8, 9, 10, 11, 12, 13, 14, 15, 16, 17, 18, 19] rfl
  have hD := hD.sub (ws' := LI ca ad ae o od S9 M f9 g) [20, 0, 21, 22, 23, 24, 25, 26, 27, 28, 29, 30, 31, 32, 33, 34, 35, 1, 2, 3, 4, 5, 6, 7, 8, 9, 10, 11, 12, 13, 14, 15, 16, 17, 18, 19] (by decide) rfl
  refine W.widen (k := cells + 2) (n := slots + 12) (by omega) (by omega) ?_
  obtain ⟨R9, hR9, hr9⟩ := hh9 k9 (S9, f9) hq9
  clear hz1 hk1 hP1 hD1 hPc hDc hFc
  generalize H1 = H at hP hS ⊢
  refine lv_istore (lv' := [(6, .int k9), (0, .ref b), (1, .ref (ad 0)), (2, .ref (ae 0)), (3, .ref o), (4, .ref od), (5, .int (nI i))]) hx hb d_law_1203 hl (by decide) rfl (fun ls hl => ?_)
  refine lv_aload_n hx hb d_law_1205 rfl (lv_at hl 3 rfl) ?_
  refine lv_aload_n hx hb d_law_1206 rfl (lv_at hl 1 rfl) ?_
  refine lv_iload hx hb d_law_1207 (lv_at hl 6 rfl) ?_
  refine lv_iconst (v := 1) hx hb d_law_1209 (by decide) ?_
  refine lv_iadd hx hb d_law_1210 ?_
  rw [ia1]
  refine va_sld hx hb hX hbl hbA hS iv1 d_law_1211 ?_
  rw [ic1]
  have hPc := hP.sub (ws' := wR ca ae M) [17, 18, 19, 20, 21, 22, 23, 24, 25, 26, 27, 28, 29, 30, 31, 32, 33, 34, 35] rfl
  have hDc := hD.sub (ws' := wR ca ae M) [17, 18, 19, 20, 21, 22, 23, 24, 25, 26, 27, 28, 29, 30, 31, 32, 33, 34, 35] (by decide) rfl
  have hFc := va_free (wc := wR ca ae M) hD hS hA [17, 18, 19, 20, 21, 22, 23, 24, 25, 26, 27, 28, 29, 30, 31, 32, 33, 34, 35] rfl
  refine va_calli (va_runV (As := [.int (xs (i + 1))]) (rest := []) ⟨hx, hb, hml, hown, hw⟩ (c_R_mode l D ca ae H.size M ((xs (i + 1))) R9 hR9) (cwV 1 hw (tG_g gv_law_139) rfl rfl rfl (by decide +kernel) ⟨Nat.le_of_ble_eq_true rfl, Nat.le_of_ble_eq_true rfl⟩) ⟨xPc.blind, va_recv hK hP (ci := 4) rfl (q0 := 17) rfl, xPc.pre hK hN hPc hDc⟩ rfl rfl hl.1 rfl (lv_room (Nat.le_of_ble_eq_true rfl)) d_law_1212 ⟨show cells + 2 + 0 ≤ 663321 by omega, show slots + 12 + 0 ≤ 7106140 by omega⟩) hS (fun q _ h => hFc q h) hFc (fun b9 v9 t H1 locs ht hvm hq hB hz1 hk1 hS => ?_)
  obtain ⟨hP1, hD1⟩ := hB
  rw [ht] at hP1
  obtain ⟨hP, hD⟩ := va_join (wr := (o, .inl (ca 1, 1, .inr (.inl f9))) :: (od, .inl (ca 2, 1, .inr (.inr (.inr (.inl g))))) :: wC ca ad S9) (w1 := wR ca ae v9) hP hD [17, 18, 19, 20, 21, 22, 23, 24, 25, 26, 27, 28, 29, 30, 31, 32, 33, 34, 35] [0, 1, 2, 3, 4, 5, 6, 7, 8, 9, 10, 11, 12, 13, 14, 15, 16] rfl rfl (by decide) (by decide) hk1 hFc hP1 hD1
  have hP : va_P D cls (LI ca ad ae o od S9 v9 f9 g) H1 := hP
  have hD : va_D (LA s) (LI ca ad ae o od S9 v9 f9 g) := hD
  clear hz1 hk1 hP1 hD1 hPc hDc hFc
  generalize H1 = H at hP hS ⊢
  refine lv_istore (lv' := [(7, .int b9), (6, .int k9), (0, .ref b), (1, .ref (ad 0)), (2, .ref (ae 0)), (3, .ref o), (4, .ref od), (5, .int (nI i))]) hx hb d_law_1215 hl (by decide) rfl (fun ls hl => ?_)
  obtain ⟨hth, hJ9, hans⟩ := hr9 b9 v9 hq
  refine lv_aload_n hx hb d_law_1217 rfl (lv_at hl 4 rfl) ?_
  have hPc := hP.sub (ws' := wR ca ae v9) [17, 18, 19, 20, 21, 22, 23, 24, 25, 26, 27, 28, 29, 30, 31, 32, 33, 34, 35] rfl
  have hDc := hD.sub (ws' := wR ca ae v9) [17, 18, 19, 20, 21, 22, 23, 24, 25, 26, 27, 28, 29, 30, 31, 32, 33, 34, 35] (by decide) rfl
  have hFc := va_free (wc := wR ca ae v9) hD hS hA [17, 18, 19, 20, 21, 22, 23, 24, 25, 26, 27, 28, 29, 30, 31, 32, 33, 34, 35] rfl
  refine va_calli (va_runV (As := []) (rest := []) ⟨hx, hb, hml, hown, hw⟩ (c_R_thrown l D ca ae H.size v9 (fun r u => r = v9.1 0 0 ∧ u = v9) ⟨rfl, rfl⟩) (cwV 0 hw (tG_g gv_law_86) rfl rfl rfl (by decide +kernel) ⟨Nat.le_of_ble_eq_true rfl, Nat.le_of_ble_eq_true rfl⟩) ⟨xPc.blind, va_recv hK hP (ci := 4) rfl (q0 := 17) rfl, xPc.pre hK hN hPc hDc⟩ rfl rfl hl.1 rfl (lv_room (Nat.le_of_ble_eq_true rfl)) d_law_1218 ⟨show cells + 2 + 0 ≤ 663321 by omega, show slots + 12 + 0 ≤ 7106140 by omega⟩) hS (fun q _ h => hFc q h) hFc (fun t9 v8 t H1 locs ht hvm hq hB hz1 hk1 hS => ?_)
  obtain ⟨hP1, hD1⟩ := hB
  rw [ht] at hP1
  obtain ⟨hP, hD⟩ := va_join (wr := (o, .inl (ca 1, 1, .inr (.inl f9))) :: (od, .inl (ca 2, 1, .inr (.inr (.inr (.inl g))))) :: wC ca ad S9) (w1 := wR ca ae v8) hP hD [17, 18, 19, 20, 21, 22, 23, 24, 25, 26, 27, 28, 29, 30, 31, 32, 33, 34, 35] [0, 1, 2, 3, 4, 5, 6, 7, 8, 9, 10, 11, 12, 13, 14, 15, 16] rfl rfl (by decide) (by decide) hk1 hFc hP1 hD1
  have hP : va_P D cls (LI ca ad ae o od S9 v8 f9 g) H1 := hP
  have hD : va_D (LA s) (LI ca ad ae o od S9 v8 f9 g) := hD
  clear hz1 hk1 hP1 hD1 hPc hDc hFc
  generalize H1 = H at hP hS ⊢
  obtain ⟨et9, ev9⟩ := hq
  have ev9 : v8 = v9 := ev9
  have hJ9 : J S9 v8 := by rw [ev9]; exact hJ9
  refine lv_iload hx hb d_law_1221 (lv_at hl 1 rfl) ?_
  refine lv_icmp_eq (tgt := 1228) hx hb d_law_1223 (by decide) (fun hc9 => ?_) (fun hc9 => absurd (et9.trans hth) hc9)
  refine lv_iload hx hb d_law_1228 (lv_at hl 1 rfl) ?_
  refine lv_if_ne (tgt := 1245) hx hb d_law_1230 (by decide) (fun hc8 => ?_) (fun hc8 => ?_)
  · refine lv_goto (tgt := 1341) hx hb d_law_1245 (by decide) (kk S9 v8 f9 g _ _ _ hJ9 hP hD hS (lv_sub hl [2, 3, 4, 5, 6, 7] rfl))
  have hans := hans hc8
  refine lv_aload_n hx hb d_law_1233 rfl (lv_at hl 5 rfl) ?_
  refine lv_iconst (v := 0) hx hb d_law_1234 (by decide) ?_
  refine va_lald (D := D) (i := 0) hx hb hK hP 0 1 rfl rfl (by unfold vp_in; decide) d_law_1235 ?_
  rw [show (f9) (0 : Int32).toNatClampNeg = b9.toInt64 from hans]
  refine lv_iload hx hb d_law_1236 (lv_at hl 0 rfl) ?_
  refine lv_i2l (v := b9.toInt64) hx hb d_law_1238 rfl ?_
  refine W.lcmp hx hb d_law_1239 ?_
  refine lv_if_eq (tgt := 1245) hx hb d_law_1240 (by decide) (fun hc7 => ?_) (fun hc7 => absurd (l_same _) hc7)
  refine lv_goto (tgt := 1341) hx hb d_law_1245 (by decide) (kk S9 v8 f9 g _ _ _ hJ9 hP hD hS (lv_sub hl [2, 3, 4, 5, 6, 7] rfl))
set_option maxRecDepth 100000 in
set_option maxHeartbeats 4000000 in
theorem lc_holds {p : Program} {l : Launch} {e : Env} {s : State} {m : MethodId} {below : List Frame} {meth : Method} {c : Code} {b L : Nat} {xs : Nat → Int32} {D : va_G} {ca : Nat → ClassId} {ad ae : Nat → Nat} {o od : Nat} {S : SC} {M : SR} {f : Nat → Int64} {g : Nat → UInt64} {H : Heap} {locs : List Loc} {cells slots i : Nat} {ls : Array Slot} (K0 : LK p l s m meth c b L xs D ca) (hJ : J S M) (hi : i + 4 ≤ L) (hc : cells + 2 ≤ 663321 ∧ slots + 12 ≤ 7106140) (hP : va_P D cls (LI ca ad ae o od S M f g) H) (hD : va_D (LA s) (LI ca ad ae o od S M f g)) (hS : va_S (LA s) s.heap H locs) (hl : lv_has ls 9 [(0, .ref b), (1, .ref (ad 0)), (2, .ref (ae 0)), (3, .ref o), (4, .ref od), (5, .int (nI i))]) (kk : ∀ (S : SC) (M : SR) (f : Nat → Int64) (g : Nat → UInt64) (H : Heap) (locs : List Loc) (ls : Array Slot), J S M → va_P D cls (LI ca ad ae o od S M f g) H → va_D (LA s) (LI ca ad ae o od S M f g) → va_S (LA s) s.heap H locs → lv_has ls 9 [(0, .ref b), (1, .ref (ad 0)), (2, .ref (ae 0)), (3, .ref o), (4, .ref od), (5, .int (nI i))] → W p l e room_1 s m #[Value.ref b] below meth c H locs (cells + 2) (slots + 12) (lw_Z below #[Value.ref b] s) (F0 m 1341 ls [])) : W p l e room_1 s m #[Value.ref b] below meth c H locs cells slots (lw_Z below #[Value.ref b] s) (F0 m 1248 ls []) := by
  obtain ⟨⟨hl0, hL⟩, ⟨hx, hb, hr, hml, hown, hts, hX, hbl, hlocks, hgv⟩, hK, hN, hX9, hC9, hZ⟩ := K0
  have hA : ∀ q : Nat, s.heap.size ≤ q → LA s q := fun _ h => h
  have hbA : ¬ LA s b := Nat.not_le.mpr hbl
  have hw : ∀ w ∈ tG, w.before #[Value.ref b] s = true := fun w h => hts w (tG_in w h)
  have hown : s.vm.findClass "TrainGuardLaw" = some m.cls := hown
  have ia1 : nI i + 1 = nI (i + 1) := nI_add i 1
  have ia2 : nI i + 2 = nI (i + 2) := nI_add i 2
  have ia3 : nI i + 3 = nI (i + 3) := nI_add i 3
  have iv1 : vp_in (nI (i + 1)) L := vp_in_nI (by omega) (by omega)
  have iv2 : vp_in (nI (i + 2)) L := vp_in_nI (by omega) (by omega)
  have iv3 : vp_in (nI (i + 3)) L := vp_in_nI (by omega) (by omega)
  have ic1 : (nI (i + 1)).toNatClampNeg = i + 1 := nI_clamp (by omega)
  have ic2 : (nI (i + 2)).toNatClampNeg = i + 2 := nI_clamp (by omega)
  have ic3 : (nI (i + 3)).toNatClampNeg = i + 3 := nI_clamp (by omega)
  refine lv_aload_n hx hb d_law_1248 rfl (lv_at hl 1 rfl) ?_
  refine lv_aload_n hx hb d_law_1249 rfl (lv_at hl 0 rfl) ?_
  refine lv_iload hx hb d_law_1250 (lv_at hl 5 rfl) ?_
  refine lv_iconst (v := 1) hx hb d_law_1252 (by decide) ?_
  refine lv_iadd hx hb d_law_1253 ?_
  rw [ia1]
  refine va_sld hx hb hX hbl hbA hS iv1 d_law_1254 ?_
  rw [ic1]
  refine lv_aload_n hx hb d_law_1255 rfl (lv_at hl 0 rfl) ?_
  refine lv_iload hx hb d_law_1256 (lv_at hl 5 rfl) ?_
  refine lv_iconst (v := 2) hx hb d_law_1258 (by decide) ?_
  refine lv_iadd hx hb d_law_1259 ?_
  rw [ia2]
  refine va_sld hx hb hX hbl hbA hS iv2 d_law_1260 ?_
  rw [ic2]
  refine lv_aload_n hx hb d_law_1261 rfl (lv_at hl 3 rfl) ?_
  obtain ⟨Q9, hQ9, hh9⟩ := h_join (wG := w_G_holds S ((xs (i + 1))) ((xs (i + 2)))) (wR := w_R_holds M ((xs (i + 1))) ((xs (i + 2)))) f (j_holds hJ)
  have hQ9 : w_W_holds (S, f) ((xs (i + 1))) ((xs (i + 2))) Q9 := hQ9
  have hPc := hP.sub (ws' := wHl ca ad o (S, f)) [0, 2, 3, 4, 5, 6, 7, 8, 9, 10, 11, 12, 13, 14, 15, 16] rfl
  have hDc := hD.sub (ws' := wHl ca ad o (S, f)) [0, 2, 3, 4, 5, 6, 7, 8, 9, 10, 11, 12, 13, 14, 15, 16] (by decide) rfl
  have hFc := va_free (wc := wHl ca ad o (S, f)) hD hS hA [0, 2, 3, 4, 5, 6, 7, 8, 9, 10, 11, 12, 13, 14, 15, 16] rfl
  refine va_calli (vx_runSW (As := [.ref (ad 0), .int (xs (i + 1)), .int (xs (i + 2)), .ref o]) (rest := []) ⟨hx, hb, hml, hown, hw⟩ (c_W_holds l hl0 D ca ad o H.size (S, f) ((xs (i + 1))) ((xs (i + 2))) Q9 hQ9) (vx_cwSW 4 hw (tG_g gs_law_140) rfl rfl rfl (by decide +kernel) ⟨Nat.le_of_ble_eq_true rfl, Nat.le_of_ble_eq_true rfl⟩) ⟨xPh.blind, xPh.pre hK hN hPc hDc hX9 (hZ.now hS hA hDc) hC9⟩ rfl rfl hl.1 rfl (lv_room (Nat.le_of_ble_eq_true rfl)) d_law_1262 ⟨show cells + 1 ≤ 663321 by omega, show slots + 6 ≤ 7106140 by omega⟩) hS (fun q _ h => hFc q h) hFc (fun k9 T9 t H1 locs ht hvm hq9 hB hz1 hk1 hS => ?_)
  obtain ⟨S9, f9⟩ := T9
  obtain ⟨hP1, hD1⟩ := hB
  rw [ht] at hP1
  obtain ⟨hP, hD⟩ := va_join (wr := (od, .inl (ca 2, 1, .inr (.inr (.inr (.inl g))))) :: wR ca ae M) (w1 := wHl ca ad o (S9, f9)) hP hD [0, 2, 3, 4, 5, 6, 7, 8, 9, 10, 11, 12, 13, 14, 15, 16] [1, 17, 18, 19, 20, 21, 22, 23, 24, 25, 26, 27, 28, 29, 30, 31, 32, 33, 34, 35] rfl rfl (by decide) (by decide) hk1 hFc hP1 hD1
  have hP := hP.sub (ws' := LI ca ad ae o od S9 M f9 g) [20, 0, 21, 22, 23, 24, 25, 26, 27, 28, 29, 30, 31, 32, 33, 34, 35, 1, 2, 3, 4, 5, 6, 7, 8, 9, 10, 11, 12, 13, 14, 15, 16, 17, 18, 19] rfl
  have hD := hD.sub (ws' := LI ca ad ae o od S9 M f9 g) [20, 0, 21, 22, 23, 24, 25, 26, 27, 28, 29, 30, 31, 32, 33, 34, 35, 1, 2, 3, 4, 5, 6, 7, 8, 9, 10, 11, 12, 13, 14, 15, 16, 17, 18, 19] (by decide) rfl
  refine W.widen (k := cells + 2) (n := slots + 12) (by omega) (by omega) ?_
  obtain ⟨R9, hR9, hr9⟩ := hh9 k9 (S9, f9) hq9
  clear hz1 hk1 hP1 hD1 hPc hDc hFc
  generalize H1 = H at hP hS ⊢
  refine lv_istore (lv' := [(6, .int k9), (0, .ref b), (1, .ref (ad 0)), (2, .ref (ae 0)), (3, .ref o), (4, .ref od), (5, .int (nI i))]) hx hb d_law_1265 hl (by decide) rfl (fun ls hl => ?_)
  refine lv_aload_n hx hb d_law_1267 rfl (lv_at hl 3 rfl) ?_
  refine lv_aload_n hx hb d_law_1268 rfl (lv_at hl 1 rfl) ?_
  refine lv_iload hx hb d_law_1269 (lv_at hl 6 rfl) ?_
  refine lv_iconst (v := 1) hx hb d_law_1271 (by decide) ?_
  refine lv_iadd hx hb d_law_1272 ?_
  rw [ia1]
  refine va_sld hx hb hX hbl hbA hS iv1 d_law_1273 ?_
  rw [ic1]
  refine lv_aload_n hx hb d_law_1274 rfl (lv_at hl 1 rfl) ?_
  refine lv_iload hx hb d_law_1275 (lv_at hl 6 rfl) ?_
  refine lv_iconst (v := 2) hx hb d_law_1277 (by decide) ?_
  refine lv_iadd hx hb d_law_1278 ?_
  rw [ia2]
  refine va_sld hx hb hX hbl hbA hS iv2 d_law_1279 ?_
  rw [ic2]
  have hPc := hP.sub (ws' := wR ca ae M) [17, 18, 19, 20, 21, 22, 23, 24, 25, 26, 27, 28, 29, 30, 31, 32, 33, 34, 35] rfl
  have hDc := hD.sub (ws' := wR ca ae M) [17, 18, 19, 20, 21, 22, 23, 24, 25, 26, 27, 28, 29, 30, 31, 32, 33, 34, 35] (by decide) rfl
  have hFc := va_free (wc := wR ca ae M) hD hS hA [17, 18, 19, 20, 21, 22, 23, 24, 25, 26, 27, 28, 29, 30, 31, 32, 33, 34, 35] rfl
  refine va_calli (va_runV (As := [.int (xs (i + 1)), .int (xs (i + 2))]) (rest := []) ⟨hx, hb, hml, hown, hw⟩ (c_R_holds l D ca ae H.size M ((xs (i + 1))) ((xs (i + 2))) R9 hR9) (cwV 2 hw (tG_g gv_law_142) rfl rfl rfl (by decide +kernel) ⟨Nat.le_of_ble_eq_true rfl, Nat.le_of_ble_eq_true rfl⟩) ⟨xPc.blind, va_recv hK hP (ci := 4) rfl (q0 := 17) rfl, xPc.pre hK hN hPc hDc⟩ rfl rfl hl.1 rfl (lv_room (Nat.le_of_ble_eq_true rfl)) d_law_1280 ⟨show cells + 2 + 0 ≤ 663321 by omega, show slots + 12 + 0 ≤ 7106140 by omega⟩) hS (fun q _ h => hFc q h) hFc (fun b9 v9 t H1 locs ht hvm hq hB hz1 hk1 hS => ?_)
  obtain ⟨hP1, hD1⟩ := hB
  rw [ht] at hP1
  obtain ⟨hP, hD⟩ := va_join (wr := (o, .inl (ca 1, 1, .inr (.inl f9))) :: (od, .inl (ca 2, 1, .inr (.inr (.inr (.inl g))))) :: wC ca ad S9) (w1 := wR ca ae v9) hP hD [17, 18, 19, 20, 21, 22, 23, 24, 25, 26, 27, 28, 29, 30, 31, 32, 33, 34, 35] [0, 1, 2, 3, 4, 5, 6, 7, 8, 9, 10, 11, 12, 13, 14, 15, 16] rfl rfl (by decide) (by decide) hk1 hFc hP1 hD1
  have hP : va_P D cls (LI ca ad ae o od S9 v9 f9 g) H1 := hP
  have hD : va_D (LA s) (LI ca ad ae o od S9 v9 f9 g) := hD
  clear hz1 hk1 hP1 hD1 hPc hDc hFc
  generalize H1 = H at hP hS ⊢
  refine lv_istore (lv' := [(7, .int b9), (6, .int k9), (0, .ref b), (1, .ref (ad 0)), (2, .ref (ae 0)), (3, .ref o), (4, .ref od), (5, .int (nI i))]) hx hb d_law_1283 hl (by decide) rfl (fun ls hl => ?_)
  obtain ⟨hth, hJ9, hans⟩ := hr9 b9 v9 hq
  refine lv_aload_n hx hb d_law_1285 rfl (lv_at hl 4 rfl) ?_
  have hPc := hP.sub (ws' := wR ca ae v9) [17, 18, 19, 20, 21, 22, 23, 24, 25, 26, 27, 28, 29, 30, 31, 32, 33, 34, 35] rfl
  have hDc := hD.sub (ws' := wR ca ae v9) [17, 18, 19, 20, 21, 22, 23, 24, 25, 26, 27, 28, 29, 30, 31, 32, 33, 34, 35] (by decide) rfl
  have hFc := va_free (wc := wR ca ae v9) hD hS hA [17, 18, 19, 20, 21, 22, 23, 24, 25, 26, 27, 28, 29, 30, 31, 32, 33, 34, 35] rfl
  refine va_calli (va_runV (As := []) (rest := []) ⟨hx, hb, hml, hown, hw⟩ (c_R_thrown l D ca ae H.size v9 (fun r u => r = v9.1 0 0 ∧ u = v9) ⟨rfl, rfl⟩) (cwV 0 hw (tG_g gv_law_86) rfl rfl rfl (by decide +kernel) ⟨Nat.le_of_ble_eq_true rfl, Nat.le_of_ble_eq_true rfl⟩) ⟨xPc.blind, va_recv hK hP (ci := 4) rfl (q0 := 17) rfl, xPc.pre hK hN hPc hDc⟩ rfl rfl hl.1 rfl (lv_room (Nat.le_of_ble_eq_true rfl)) d_law_1286 ⟨show cells + 2 + 0 ≤ 663321 by omega, show slots + 12 + 0 ≤ 7106140 by omega⟩) hS (fun q _ h => hFc q h) hFc (fun t9 v8 t H1 locs ht hvm hq hB hz1 hk1 hS => ?_)
  obtain ⟨hP1, hD1⟩ := hB
  rw [ht] at hP1
  obtain ⟨hP, hD⟩ := va_join (wr := (o, .inl (ca 1, 1, .inr (.inl f9))) :: (od, .inl (ca 2, 1, .inr (.inr (.inr (.inl g))))) :: wC ca ad S9) (w1 := wR ca ae v8) hP hD [17, 18, 19, 20, 21, 22, 23, 24, 25, 26, 27, 28, 29, 30, 31, 32, 33, 34, 35] [0, 1, 2, 3, 4, 5, 6, 7, 8, 9, 10, 11, 12, 13, 14, 15, 16] rfl rfl (by decide) (by decide) hk1 hFc hP1 hD1
  have hP : va_P D cls (LI ca ad ae o od S9 v8 f9 g) H1 := hP
  have hD : va_D (LA s) (LI ca ad ae o od S9 v8 f9 g) := hD
  clear hz1 hk1 hP1 hD1 hPc hDc hFc
  generalize H1 = H at hP hS ⊢
  obtain ⟨et9, ev9⟩ := hq
  have ev9 : v8 = v9 := ev9
  have hJ9 : J S9 v8 := by rw [ev9]; exact hJ9
  refine lv_iload hx hb d_law_1289 (lv_at hl 1 rfl) ?_
  refine lv_icmp_eq (tgt := 1296) hx hb d_law_1291 (by decide) (fun hc9 => ?_) (fun hc9 => absurd (et9.trans hth) hc9)
  refine lv_iload hx hb d_law_1296 (lv_at hl 1 rfl) ?_
  refine lv_if_ne (tgt := 1313) hx hb d_law_1298 (by decide) (fun hc8 => ?_) (fun hc8 => ?_)
  · refine lv_goto (tgt := 1341) hx hb d_law_1313 (by decide) (kk S9 v8 f9 g _ _ _ hJ9 hP hD hS (lv_sub hl [2, 3, 4, 5, 6, 7] rfl))
  have hans := hans hc8
  refine lv_aload_n hx hb d_law_1301 rfl (lv_at hl 5 rfl) ?_
  refine lv_iconst (v := 0) hx hb d_law_1302 (by decide) ?_
  refine va_lald (D := D) (i := 0) hx hb hK hP 0 1 rfl rfl (by unfold vp_in; decide) d_law_1303 ?_
  rw [show (f9) (0 : Int32).toNatClampNeg = b9.toInt64 from hans]
  refine lv_iload hx hb d_law_1304 (lv_at hl 0 rfl) ?_
  refine lv_i2l (v := b9.toInt64) hx hb d_law_1306 rfl ?_
  refine W.lcmp hx hb d_law_1307 ?_
  refine lv_if_eq (tgt := 1313) hx hb d_law_1308 (by decide) (fun hc7 => ?_) (fun hc7 => absurd (l_same _) hc7)
  refine lv_goto (tgt := 1341) hx hb d_law_1313 (by decide) (kk S9 v8 f9 g _ _ _ hJ9 hP hD hS (lv_sub hl [2, 3, 4, 5, 6, 7] rfl))
set_option maxRecDepth 100000 in
set_option maxHeartbeats 4000000 in
theorem lc_count {p : Program} {l : Launch} {e : Env} {s : State} {m : MethodId} {below : List Frame} {meth : Method} {c : Code} {b L : Nat} {xs : Nat → Int32} {D : va_G} {ca : Nat → ClassId} {ad ae : Nat → Nat} {o od : Nat} {S : SC} {M : SR} {f : Nat → Int64} {g : Nat → UInt64} {H : Heap} {locs : List Loc} {cells slots i : Nat} {ls : Array Slot} (K0 : LK p l s m meth c b L xs D ca) (hJ : J S M) (hi : i + 4 ≤ L) (hc : cells + 2 ≤ 663321 ∧ slots + 12 ≤ 7106140) (hP : va_P D cls (LI ca ad ae o od S M f g) H) (hD : va_D (LA s) (LI ca ad ae o od S M f g)) (hS : va_S (LA s) s.heap H locs) (hl : lv_has ls 9 [(0, .ref b), (1, .ref (ad 0)), (2, .ref (ae 0)), (3, .ref o), (4, .ref od), (5, .int (nI i))]) (kk : ∀ (S : SC) (M : SR) (f : Nat → Int64) (g : Nat → UInt64) (H : Heap) (locs : List Loc) (ls : Array Slot), J S M → va_P D cls (LI ca ad ae o od S M f g) H → va_D (LA s) (LI ca ad ae o od S M f g) → va_S (LA s) s.heap H locs → lv_has ls 9 [(0, .ref b), (1, .ref (ad 0)), (2, .ref (ae 0)), (3, .ref o), (4, .ref od), (5, .int (nI i))] → W p l e room_1 s m #[Value.ref b] below meth c H locs (cells + 2) (slots + 12) (lw_Z below #[Value.ref b] s) (F0 m 1341 ls [])) : W p l e room_1 s m #[Value.ref b] below meth c H locs cells slots (lw_Z below #[Value.ref b] s) (F0 m 1316 ls []) := by
  obtain ⟨⟨hl0, hL⟩, ⟨hx, hb, hr, hml, hown, hts, hX, hbl, hlocks, hgv⟩, hK, hN, hX9, hC9, hZ⟩ := K0
  have hA : ∀ q : Nat, s.heap.size ≤ q → LA s q := fun _ h => h
  have hbA : ¬ LA s b := Nat.not_le.mpr hbl
  have hw : ∀ w ∈ tG, w.before #[Value.ref b] s = true := fun w h => hts w (tG_in w h)
  have hown : s.vm.findClass "TrainGuardLaw" = some m.cls := hown
  have ia1 : nI i + 1 = nI (i + 1) := nI_add i 1
  have ia2 : nI i + 2 = nI (i + 2) := nI_add i 2
  have ia3 : nI i + 3 = nI (i + 3) := nI_add i 3
  have iv1 : vp_in (nI (i + 1)) L := vp_in_nI (by omega) (by omega)
  have iv2 : vp_in (nI (i + 2)) L := vp_in_nI (by omega) (by omega)
  have iv3 : vp_in (nI (i + 3)) L := vp_in_nI (by omega) (by omega)
  have ic1 : (nI (i + 1)).toNatClampNeg = i + 1 := nI_clamp (by omega)
  have ic2 : (nI (i + 2)).toNatClampNeg = i + 2 := nI_clamp (by omega)
  have ic3 : (nI (i + 3)).toNatClampNeg = i + 3 := nI_clamp (by omega)
  refine W.widen (k := cells + 2) (n := slots + 12) (by omega) (by omega) ?_
  refine lv_aload_n hx hb d_law_1316 rfl (lv_at hl 1 rfl) ?_
  refine lv_aload_n hx hb d_law_1317 rfl (lv_at hl 0 rfl) ?_
  refine lv_iload hx hb d_law_1318 (lv_at hl 5 rfl) ?_
  refine lv_iconst (v := 1) hx hb d_law_1320 (by decide) ?_
  refine lv_iadd hx hb d_law_1321 ?_
  rw [ia1]
  refine va_sld hx hb hX hbl hbA hS iv1 d_law_1322 ?_
  rw [ic1]
  have hPc := hP.sub (ws' := wC ca ad S) [2, 3, 4, 5, 6, 7, 8, 9, 10, 11, 12, 13, 14, 15, 16] rfl
  have hDc := hD.sub (ws' := wC ca ad S) [2, 3, 4, 5, 6, 7, 8, 9, 10, 11, 12, 13, 14, 15, 16] (by decide) rfl
  have hFc := va_free (wc := wC ca ad S) hD hS hA [2, 3, 4, 5, 6, 7, 8, 9, 10, 11, 12, 13, 14, 15, 16] rfl
  refine va_calli (va_runV (As := [.int (xs (i + 1))]) (rest := []) ⟨hx, hb, hml, hown, hw⟩ (c_G_count l D ca ad H.size S (xs (i + 1)) _ (j_count hJ)) (cwV 1 hw (tG_g gv_law_143) rfl rfl rfl (by decide +kernel) ⟨Nat.le_of_ble_eq_true rfl, Nat.le_of_ble_eq_true rfl⟩) ⟨xPc.blind, va_recv hK hP (ci := 3) rfl (q0 := 2) rfl, xPc.pre hK hN hPc hDc⟩ rfl rfl hl.1 rfl (lv_room (Nat.le_of_ble_eq_true rfl)) d_law_1323 ⟨show cells + 2 + 0 ≤ 663321 by omega, show slots + 12 + 0 ≤ 7106140 by omega⟩) hS (fun q _ h => hFc q h) hFc (fun r9 u9 t H1 locs ht hvm hq hB hz1 hk1 hS => ?_)
  obtain ⟨hP1, hD1⟩ := hB
  rw [ht] at hP1
  obtain ⟨hP, hD⟩ := va_join (wr := (o, .inl (ca 1, 1, .inr (.inl f))) :: (od, .inl (ca 2, 1, .inr (.inr (.inr (.inl g))))) :: wR ca ae M) (w1 := wC ca ad u9) hP hD [2, 3, 4, 5, 6, 7, 8, 9, 10, 11, 12, 13, 14, 15, 16] [0, 1, 17, 18, 19, 20, 21, 22, 23, 24, 25, 26, 27, 28, 29, 30, 31, 32, 33, 34, 35] rfl rfl (by decide) (by decide) hk1 hFc hP1 hD1
  have hP := hP.sub (ws' := LI ca ad ae o od u9 M f g) [0, 1, 21, 22, 23, 24, 25, 26, 27, 28, 29, 30, 31, 32, 33, 34, 35, 2, 3, 4, 5, 6, 7, 8, 9, 10, 11, 12, 13, 14, 15, 16, 17, 18, 19, 20] rfl
  have hD := hD.sub (ws' := LI ca ad ae o od u9 M f g) [0, 1, 21, 22, 23, 24, 25, 26, 27, 28, 29, 30, 31, 32, 33, 34, 35, 2, 3, 4, 5, 6, 7, 8, 9, 10, 11, 12, 13, 14, 15, 16, 17, 18, 19, 20] (by decide) rfl
  clear hz1 hk1 hP1 hD1 hPc hDc hFc
  generalize H1 = H at hP hS ⊢
  have hq9 := hq
  clear hq
  refine lv_aload_n hx hb d_law_1326 rfl (lv_at hl 2 rfl) ?_
  refine lv_aload_n hx hb d_law_1327 rfl (lv_at hl 0 rfl) ?_
  refine lv_iload hx hb d_law_1328 (lv_at hl 5 rfl) ?_
  refine lv_iconst (v := 1) hx hb d_law_1330 (by decide) ?_
  refine lv_iadd hx hb d_law_1331 ?_
  rw [ia1]
  refine va_sld hx hb hX hbl hbA hS iv1 d_law_1332 ?_
  rw [ic1]
  have hPc := hP.sub (ws' := wR ca ae M) [17, 18, 19, 20, 21, 22, 23, 24, 25, 26, 27, 28, 29, 30, 31, 32, 33, 34, 35] rfl
  have hDc := hD.sub (ws' := wR ca ae M) [17, 18, 19, 20, 21, 22, 23, 24, 25, 26, 27, 28, 29, 30, 31, 32, 33, 34, 35] (by decide) rfl
  have hFc := va_free (wc := wR ca ae M) hD hS hA [17, 18, 19, 20, 21, 22, 23, 24, 25, 26, 27, 28, 29, 30, 31, 32, 33, 34, 35] rfl
  refine va_calli (va_runV (As := [.int (xs (i + 1))]) (rest := [.int r9]) ⟨hx, hb, hml, hown, hw⟩ (c_R_count l D ca ae H.size M (xs (i + 1)) _ hq9) (cwV 1 hw (tG_g gv_law_146) rfl rfl rfl (by decide +kernel) ⟨Nat.le_of_ble_eq_true rfl, Nat.le_of_ble_eq_true rfl⟩) ⟨xPc.blind, va_recv hK hP (ci := 4) rfl (q0 := 17) rfl, xPc.pre hK hN hPc hDc⟩ rfl rfl hl.1 rfl (lv_room (Nat.le_of_ble_eq_true rfl)) d_law_1333 ⟨show cells + 2 + 0 ≤ 663321 by omega, show slots + 12 + 0 ≤ 7106140 by omega⟩) hS (fun q _ h => hFc q h) hFc (fun b9 v9 t H1 locs ht hvm hq hB hz1 hk1 hS => ?_)
  obtain ⟨hP1, hD1⟩ := hB
  rw [ht] at hP1
  obtain ⟨hP, hD⟩ := va_join (wr := (o, .inl (ca 1, 1, .inr (.inl f))) :: (od, .inl (ca 2, 1, .inr (.inr (.inr (.inl g))))) :: wC ca ad u9) (w1 := wR ca ae v9) hP hD [17, 18, 19, 20, 21, 22, 23, 24, 25, 26, 27, 28, 29, 30, 31, 32, 33, 34, 35] [0, 1, 2, 3, 4, 5, 6, 7, 8, 9, 10, 11, 12, 13, 14, 15, 16] rfl rfl (by decide) (by decide) hk1 hFc hP1 hD1
  have hP : va_P D cls (LI ca ad ae o od u9 v9 f g) H1 := hP
  have hD : va_D (LA s) (LI ca ad ae o od u9 v9 f g) := hD
  clear hz1 hk1 hP1 hD1 hPc hDc hFc
  generalize H1 = H at hP hS ⊢
  refine lv_icmp_eq (tgt := 1341) hx hb d_law_1336 (by decide) (fun hc9 => ?_) (fun hc9 => absurd hq.1.symm hc9)
  exact kk u9 v9 f g _ _ _ hq.2 hP hD hS hl
