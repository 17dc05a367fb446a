-- the law: second, wet, acknowledge, end
set_option maxRecDepth 100000 in
set_option maxHeartbeats 4000000 in
theorem lc_second {p : Program} {l : Launch} {e : Env} {s : State} {m : MethodId} {below : List Frame} {meth : Method} {c : Code} {b L : Nat} {xs : Nat → Int32} {D : va_G} {ca : Nat → ClassId} {ad ae : Nat → Nat} {o od : Nat} {S : SC} {M : SR} {f : Nat → Int64} {g : Nat → UInt64} {H : Heap} {locs : List Loc} {cells slots i : Nat} {ls : Array Slot} (K0 : LK p l s m meth c b L xs D ca) (hJ : J S M) (hi : i + 4 ≤ L) (hc : cells + 2 ≤ 663321 ∧ slots + 12 ≤ 7106140) (hP : va_P D cls (LI ca ad ae o od S M f g) H) (hD : va_D (LA s) (LI ca ad ae o od S M f g)) (hS : va_S (LA s) s.heap H locs) (hl : lv_has ls 9 [(0, .ref b), (1, .ref (ad 0)), (2, .ref (ae 0)), (3, .ref o), (4, .ref od), (5, .int (nI i))]) (kk : ∀ (S : SC) (M : SR) (f : Nat → Int64) (g : Nat → UInt64) (H : Heap) (locs : List Loc) (ls : Array Slot), J S M → va_P D cls (LI ca ad ae o od S M f g) H → va_D (LA s) (LI ca ad ae o od S M f g) → va_S (LA s) s.heap H locs → lv_has ls 9 [(0, .ref b), (1, .ref (ad 0)), (2, .ref (ae 0)), (3, .ref o), (4, .ref od), (5, .int (nI i))] → W p l e room_1 s m #[Value.ref b] below meth c H locs (cells + 2) (slots + 12) (lw_Z below #[Value.ref b] s) (F0 m 1341 ls [])) : W p l e room_1 s m #[Value.ref b] below meth c H locs cells slots (lw_Z below #[Value.ref b] s) (F0 m 730 ls []) := by
  obtain ⟨⟨hl0, hL⟩, ⟨hx, hb, hr, hml, hown, hts, hX, hbl, hlocks, hgv⟩, hK, hN, hX9, hC9, hZ⟩ := K0
  have hA : ∀ q : Nat, s.heap.size ≤ q → LA s q := fun _ h => h
  have hbA : ¬ LA s b := Nat.not_le.mpr hbl
  have hw : ∀ w ∈ tG, w.before #[Value.ref b] s = true := fun w h => hts w (tG_in w h)
  have hown : s.vm.findClass "TrainGuardLaw" = some m.cls := hown
  have ia1 : nI i + 1 = nI (i + 1) := nI_add i 1
  have ia2 : nI i + 2 = nI (i + 2) := nI_add i 2
  have ia3 : nI i + 3 = nI (i + 3) := nI_add i 3
  have iv1 : vp_in (nI (i + 1)) L := vp_in_nI (by omega) (by omega)
  have iv2 : vp_in (nI (i + 2)) L := vp_in_nI (by omega) (by omega)
  have iv3 : vp_in (nI (i + 3)) L := vp_in_nI (by omega) (by omega)
  have ic1 : (nI (i + 1)).toNatClampNeg = i + 1 := nI_clamp (by omega)
  have ic2 : (nI (i + 2)).toNatClampNeg = i + 2 := nI_clamp (by omega)
  have ic3 : (nI (i + 3)).toNatClampNeg = i + 3 := nI_clamp (by omega)
  refine lv_aload_n hx hb d_law_730 rfl (lv_at hl 1 rfl) ?_
  refine lv_aload_n hx hb d_law_731 rfl (lv_at hl 0 rfl) ?_
  refine lv_iload hx hb d_law_732 (lv_at hl 5 rfl) ?_
  refine lv_iconst (v := 1) hx hb d_law_734 (by decide) ?_
  refine lv_iadd hx hb d_law_735 ?_
  rw [ia1]
  refine va_sld hx hb hX hbl hbA hS iv1 d_law_736 ?_
  rw [ic1]
  refine lv_aload_n hx hb d_law_737 rfl (lv_at hl 0 rfl) ?_
  refine lv_iload hx hb d_law_738 (lv_at hl 5 rfl) ?_
  refine lv_iconst (v := 2) hx hb d_law_740 (by decide) ?_
  refine lv_iadd hx hb d_law_741 ?_
  rw [ia2]
  refine va_sld hx hb hX hbl hbA hS iv2 d_law_742 ?_
  rw [ic2]
  refine lv_i2d hx hb d_law_743 ?_
  refine lv_ldc2d hx hb hown (hw _ wd_847) d_law_744 ?_
  refine lv_dmul hx hb d_law_747 (z_argf _) ?_
  rw [z_arg]
  refine lv_aload_n hx hb d_law_748 rfl (lv_at hl 0 rfl) ?_
  refine lv_iload hx hb d_law_749 (lv_at hl 5 rfl) ?_
  refine lv_iconst (v := 3) hx hb d_law_751 (by decide) ?_
  refine lv_iadd hx hb d_law_752 ?_
  rw [ia3]
  refine va_sld hx hb hX hbl hbA hS iv3 d_law_753 ?_
  rw [ic3]
  refine lv_aload_n hx hb d_law_754 rfl (lv_at hl 3 rfl) ?_
  obtain ⟨Q9, hQ9, hh9⟩ := h_join (wG := w_G_second S ((xs (i + 1))) ((zq 3 (xs (i + 2)).toInt)) ((xs (i + 3)))) (wR := w_R_second M ((xs (i + 1))) ((zq 3 (xs (i + 2)).toInt)) ((xs (i + 3)))) f (j_second hJ (z_abs _))
  have hQ9 : w_W_second (S, f) ((xs (i + 1))) ((zq 3 (xs (i + 2)).toInt)) ((xs (i + 3))) Q9 := hQ9
  have hPc := hP.sub (ws' := wHl ca ad o (S, f)) [0, 2, 3, 4, 5, 6, 7, 8, 9, 10, 11, 12, 13, 14, 15, 16] rfl
  have hDc := hD.sub (ws' := wHl ca ad o (S, f)) [0, 2, 3, 4, 5, 6, 7, 8, 9, 10, 11, 12, 13, 14, 15, 16] (by decide) rfl
  have hFc := va_free (wc := wHl ca ad o (S, f)) hD hS hA [0, 2, 3, 4, 5, 6, 7, 8, 9, 10, 11, 12, 13, 14, 15, 16] rfl
  refine va_calli (vx_runSW (As := [.ref (ad 0), .int (xs (i + 1)), .double (zq 3 (xs (i + 2)).toInt), .int (xs (i + 3)), .ref o]) (rest := []) ⟨hx, hb, hml, hown, hw⟩ (c_W_second l hl0 D ca ad o H.size (S, f) ((xs (i + 1))) ((zq 3 (xs (i + 2)).toInt)) ((xs (i + 3))) Q9 hQ9) (vx_cwSW 5 hw (tG_g gs_law_115) rfl rfl rfl (by decide +kernel) ⟨Nat.le_of_ble_eq_true rfl, Nat.le_of_ble_eq_true rfl⟩) ⟨xPh.blind, xPh.pre hK hN hPc hDc hX9 (hZ.now hS hA hDc) hC9⟩ rfl rfl hl.1 rfl (lv_room (Nat.le_of_ble_eq_true rfl)) d_law_755 ⟨show cells + 2 ≤ 663321 by omega, show slots + 12 ≤ 7106140 by omega⟩) hS (fun q _ h => hFc q h) hFc (fun k9 T9 t H1 locs ht hvm hq9 hB hz1 hk1 hS => ?_)
  obtain ⟨S9, f9⟩ := T9
  obtain ⟨hP1, hD1⟩ := hB
  rw [ht] at hP1
  obtain ⟨hP, hD⟩ := va_join (wr := (od, .inl (ca 2, 1, .inr (.inr (.inr (.inl g))))) :: wR ca ae M) (w1 := wHl ca ad o (S9, f9)) hP hD [0, 2, 3, 4, 5, 6, 7, 8, 9, 10, 11, 12, 13, 14, 15, 16] [1, 17, 18, 19, 20, 21, 22, 23, 24, 25, 26, 27, 28, 29, 30, 31, 32, 33, 34, 35] rfl rfl (by decide) (by decide) hk1 hFc hP1 hD1
  have hP := hP.sub (ws' := LI ca ad ae o od S9 M f9 g) [20, 0, 21, 22, 23, 24, 25, 26, 27, 28, 29, 30, 31, 32, 33, 34, 35, 1, 2, 3, 4, 5, 6, 7, 8, 9, 10, 11, 12, 13, 14, 15, 16, 17, 18, 19] rfl
  have hD := hD.sub (ws' := LI ca ad ae o od S9 M f9 g) [20, 0, 21, 22, 23, 24, 25, 26, 27, 28, 29, 30, 31, 32, 33, 34, 35, 1, 2, 3, 4, 5, 6, 7, 8, 9, 10, 11, 12, 13, 14, 15, 16, 17, 18, 19] (by decide) rfl
  refine W.widen (k := cells + 2) (n := slots + 12) (by omega) (by omega) ?_
  obtain ⟨R9, hR9, hr9⟩ := hh9 k9 (S9, f9) hq9
  clear hz1 hk1 hP1 hD1 hPc hDc hFc
  generalize H1 = H at hP hS ⊢
  refine lv_istore (lv' := [(6, .int k9), (0, .ref b), (1, .ref (ad 0)), (2, .ref (ae 0)), (3, .ref o), (4, .ref od), (5, .int (nI i))]) hx hb d_law_758 hl (by decide) rfl (fun ls hl => ?_)
  refine lv_aload_n hx hb d_law_760 rfl (lv_at hl 3 rfl) ?_
  refine lv_aload_n hx hb d_law_761 rfl (lv_at hl 1 rfl) ?_
  refine lv_iload hx hb d_law_762 (lv_at hl 6 rfl) ?_
  refine lv_iconst (v := 1) hx hb d_law_764 (by decide) ?_
  refine lv_iadd hx hb d_law_765 ?_
  rw [ia1]
  refine va_sld hx hb hX hbl hbA hS iv1 d_law_766 ?_
  rw [ic1]
  refine lv_aload_n hx hb d_law_767 rfl (lv_at hl 1 rfl) ?_
  refine lv_iload hx hb d_law_768 (lv_at hl 6 rfl) ?_
  refine lv_iconst (v := 2) hx hb d_law_770 (by decide) ?_
  refine lv_iadd hx hb d_law_771 ?_
  rw [ia2]
  refine va_sld hx hb hX hbl hbA hS iv2 d_law_772 ?_
  rw [ic2]
  refine lv_i2d hx hb d_law_773 ?_
  refine lv_ldc2d hx hb hown (hw _ wd_847) d_law_774 ?_
  refine lv_dmul hx hb d_law_777 (z_argf _) ?_
  rw [z_arg]
  refine lv_aload_n hx hb d_law_778 rfl (lv_at hl 1 rfl) ?_
  refine lv_iload hx hb d_law_779 (lv_at hl 6 rfl) ?_
  refine lv_iconst (v := 3) hx hb d_law_781 (by decide) ?_
  refine lv_iadd hx hb d_law_782 ?_
  rw [ia3]
  refine va_sld hx hb hX hbl hbA hS iv3 d_law_783 ?_
  rw [ic3]
  have hPc := hP.sub (ws' := wR ca ae M) [17, 18, 19, 20, 21, 22, 23, 24, 25, 26, 27, 28, 29, 30, 31, 32, 33, 34, 35] rfl
  have hDc := hD.sub (ws' := wR ca ae M) [17, 18, 19, 20, 21, 22, 23, 24, 25, 26, 27, 28, 29, 30, 31, 32, 33, 34, 35] (by decide) rfl
  have hFc := va_free (wc := wR ca ae M) hD hS hA [17, 18, 19, 20, 21, 22, 23, 24, 25, 26, 27, 28, 29, 30, 31, 32, 33, 34, 35] rfl
  refine va_calli (va_runV (As := [.int (xs (i + 1)), .double (zq 3 (xs (i + 2)).toInt), .int (xs (i + 3))]) (rest := []) ⟨hx, hb, hml, hown, hw⟩ (c_R_second l D ca ae H.size M ((xs (i + 1))) ((zq 3 (xs (i + 2)).toInt)) ((xs (i + 3))) R9 hR9) (cwV 3 hw (tG_g gv_law_118) rfl rfl rfl (by decide +kernel) ⟨Nat.le_of_ble_eq_true rfl, Nat.le_of_ble_eq_true rfl⟩) ⟨xPc.blind, va_recv hK hP (ci := 4) rfl (q0 := 17) rfl, xPc.pre hK hN hPc hDc⟩ rfl rfl hl.1 rfl (lv_room (Nat.le_of_ble_eq_true rfl)) d_law_784 ⟨show cells + 2 + 0 ≤ 663321 by omega, show slots + 12 + 0 ≤ 7106140 by omega⟩) hS (fun q _ h => hFc q h) hFc (fun b9 v9 t H1 locs ht hvm hq hB hz1 hk1 hS => ?_)
  obtain ⟨hP1, hD1⟩ := hB
  rw [ht] at hP1
  obtain ⟨hP, hD⟩ := va_join (wr := (o, .inl (ca 1, 1, .inr (.inl f9))) :: (od, .inl (ca 2, 1, .inr (.inr (.inr (.inl g))))) :: wC ca ad S9) (w1 := wR ca ae v9) hP hD [17, 18, 19, 20, 21, 22, 23, 24, 25, 26, 27, 28, 29, 30, 31, 32, 33, 34, 35] [0, 1, 2, 3, 4, 5, 6, 7, 8, 9, 10, 11, 12, 13, 14, 15, 16] rfl rfl (by decide) (by decide) hk1 hFc hP1 hD1
  have hP : va_P D cls (LI ca ad ae o od S9 v9 f9 g) H1 := hP
  have hD : va_D (LA s) (LI ca ad ae o od S9 v9 f9 g) := hD
  clear hz1 hk1 hP1 hD1 hPc hDc hFc
  generalize H1 = H at hP hS ⊢
  refine lv_istore (lv' := [(7, .int b9), (6, .int k9), (0, .ref b), (1, .ref (ad 0)), (2, .ref (ae 0)), (3, .ref o), (4, .ref od), (5, .int (nI i))]) hx hb d_law_787 hl (by decide) rfl (fun ls hl => ?_)
  obtain ⟨hth, hJ9, hans⟩ := hr9 b9 v9 hq
  refine lv_aload_n hx hb d_law_789 rfl (lv_at hl 4 rfl) ?_
  have hPc := hP.sub (ws' := wR ca ae v9) [17, 18, 19, 20, 21, 22, 23, 24, 25, 26, 27, 28, 29, 30, 31, 32, 33, 34, 35] rfl
  have hDc := hD.sub (ws' := wR ca ae v9) [17, 18, 19, 20, 21, 22, 23, 24, 25, 26, 27, 28, 29, 30, 31, 32, 33, 34, 35] (by decide) rfl
  have hFc := va_free (wc := wR ca ae v9) hD hS hA [17, 18, 19, 20, 21, 22, 23, 24, 25, 26, 27, 28, 29, 30, 31, 32, 33, 34, 35] rfl
  refine va_calli (va_runV (As := []) (rest := []) ⟨hx, hb, hml, hown, hw⟩ (c_R_thrown l D ca ae H.size v9 (fun r u => r = v9.1 0 0 ∧ u = v9) ⟨rfl, rfl⟩) (cwV 0 hw (tG_g gv_law_86) rfl rfl rfl (by decide +kernel) ⟨Nat.le_of_ble_eq_true rfl, Nat.le_of_ble_eq_true rfl⟩) ⟨xPc.blind, va_recv hK hP (ci := 4) rfl (q0 := 17) rfl, xPc.pre hK hN hPc hDc⟩ rfl rfl hl.1 rfl (lv_room (Nat.le_of_ble_eq_true rfl)) d_law_790 ⟨show cells + 2 + 0 ≤ 663321 by omega, show slots + 12 + 0 ≤ 7106140 by omega⟩) hS (fun q _ h => hFc q h) hFc (fun t9 v8 t H1 locs ht hvm hq hB hz1 hk1 hS => ?_)
  obtain ⟨hP1, hD1⟩ := hB
  rw [ht] at hP1
  obtain ⟨hP, hD⟩ := va_join (wr := (o, .inl (ca 1, 1, .inr (.inl f9))) :: (od, .inl (ca 2, 1, .inr (.inr (.inr (.inl g))))) :: wC ca ad S9) (w1 := wR ca ae v8) hP hD [17, 18, 19, 20, 21, 22, 23, 24, 25, 26, 27, 28, 29, 30, 31, 32, 33, 34, 35] [0, 1, 2, 3, 4, 5, 6, 7, 8, 9, 10, 11, 12, 13, 14, 15, 16] rfl rfl (by decide) (by decide) hk1 hFc hP1 hD1
  have hP : va_P D cls (LI ca ad ae o od S9 v8 f9 g) H1 := hP
  have hD : va_D (LA s) (LI ca ad ae o od S9 v8 f9 g) := hD
  clear hz1 hk1 hP1 hD1 hPc hDc hFc
  generalize H1 = H at hP hS ⊢
  obtain ⟨et9, ev9⟩ := hq
  have ev9 : v8 = v9 := ev9
  have hJ9 : J S9 v8 := by rw [ev9]; exact hJ9
  refine lv_iload hx hb d_law_793 (lv_at hl 1 rfl) ?_
  refine lv_icmp_eq (tgt := 800) hx hb d_law_795 (by decide) (fun hc9 => ?_) (fun hc9 => absurd (et9.trans hth) hc9)
  refine lv_iload hx hb d_law_800 (lv_at hl 1 rfl) ?_
  refine lv_if_ne (tgt := 817) hx hb d_law_802 (by decide) (fun hc8 => ?_) (fun hc8 => ?_)
  · refine lv_goto (tgt := 1341) hx hb d_law_817 (by decide) (kk S9 v8 f9 g _ _ _ hJ9 hP hD hS (lv_sub hl [2, 3, 4, 5, 6, 7] rfl))
  have hans := hans hc8
  refine lv_aload_n hx hb d_law_805 rfl (lv_at hl 5 rfl) ?_
  refine lv_iconst (v := 0) hx hb d_law_806 (by decide) ?_
  refine va_lald (D := D) (i := 0) hx hb hK hP 0 1 rfl rfl (by unfold vp_in; decide) d_law_807 ?_
  rw [show (f9) (0 : Int32).toNatClampNeg = b9.toInt64 from hans]
  refine lv_iload hx hb d_law_808 (lv_at hl 0 rfl) ?_
  refine lv_i2l (v := b9.toInt64) hx hb d_law_810 rfl ?_
  refine W.lcmp hx hb d_law_811 ?_
  refine lv_if_eq (tgt := 817) hx hb d_law_812 (by decide) (fun hc7 => ?_) (fun hc7 => absurd (l_same _) hc7)
  refine lv_goto (tgt := 1341) hx hb d_law_817 (by decide) (kk S9 v8 f9 g _ _ _ hJ9 hP hD hS (lv_sub hl [2, 3, 4, 5, 6, 7] rfl))
set_option maxRecDepth 100000 in
set_option maxHeartbeats 4000000 in
theorem lc_wet841 {p : Program} {l : Launch} {e : Env} {s : State} {m : MethodId} {below : List Frame} {meth : Method} {c : Code} {b L : Nat} {xs : Nat → Int32} {D : va_G} {ca : Nat → ClassId} {ad ae : Nat → Nat} {o od : Nat} {S : SC} {M : SR} {f : Nat → Int64} {g : Nat → UInt64} {H : Heap} {locs : List Loc} {cells slots i : Nat} {ls : Array Slot} {y : Int32} (hy : y = 0 ∨ y = 1) (hyx : (xs (i + 2) = 0 → y = 0) ∧ (¬ xs (i + 2) = 0 → y = 1)) (K0 : LK p l s m meth c b L xs D ca) (hJ : J S M) (hi : i + 4 ≤ L) (hc : cells + 2 ≤ 663321 ∧ slots + 12 ≤ 7106140) (hP : va_P D cls (LI ca ad ae o od S M f g) H) (hD : va_D (LA s) (LI ca ad ae o od S M f g)) (hS : va_S (LA s) s.heap H locs) (hl : lv_has ls 9 [(0, .ref b), (1, .ref (ad 0)), (2, .ref (ae 0)), (3, .ref o), (4, .ref od), (5, .int (nI i))]) (kk : ∀ (S : SC) (M : SR) (f : Nat → Int64) (g : Nat → UInt64) (H : Heap) (locs : List Loc) (ls : Array Slot), J S M → va_P D cls (LI ca ad ae o od S M f g) H → va_D (LA s) (LI ca ad ae o od S M f g) → va_S (LA s) s.heap H locs → lv_has ls 9 [(0, .ref b), (1, .ref (ad 0)), (2, .ref (ae 0)), (3, .ref o), (4, .ref od), (5, .int (nI i))] → W p l e room_1 s m #[Value.ref b] below meth c H locs (cells + 2) (slots + 12) (lw_Z below #[Value.ref b] s) (F0 m 1341 ls [])) : W p l e room_1 s m #[Value.ref b] below meth c H locs cells slots (lw_Z below #[Value.ref b] s) (F0 m 841 ls [.int y, .int (xs (i + 1)), .ref (ad 0)]) := by
  obtain ⟨⟨hl0, hL⟩, ⟨hx, hb, hr, hml, hown, hts, hX, hbl, hlocks, hgv⟩, hK, hN, hX9, hC9, hZ⟩ := K0
  have hA : ∀ q : Nat, s.heap.size ≤ q → LA s q := fun _ h => h
  have hbA : ¬ LA s b := Nat.not_le.mpr hbl
  have hw : ∀ w ∈ tG, w.before #[Value.ref b] s = true := fun w h => hts w (tG_in w h)
  have hown : s.vm.findClass "TrainGuardLaw" = some m.cls := hown
  have ia1 : nI i + 1 = nI (i + 1) := nI_add i 1
  have ia2 : nI i + 2 = nI (i + 2) := nI_add i 2
  have ia3 : nI i + 3 = nI (i + 3) := nI_add i 3
  have iv1 : vp_in (nI (i + 1)) L := vp_in_nI (by omega) (by omega)
  have iv2 : vp_in (nI (i + 2)) L := vp_in_nI (by omega) (by omega)
  have iv3 : vp_in (nI (i + 3)) L := vp_in_nI (by omega) (by omega)
  have ic1 : (nI (i + 1)).toNatClampNeg = i + 1 := nI_clamp (by omega)
  have ic2 : (nI (i + 2)).toNatClampNeg = i + 2 := nI_clamp (by omega)
  have ic3 : (nI (i + 3)).toNatClampNeg = i + 3 := nI_clamp (by omega)
  refine lv_aload_n hx hb d_law_841 rfl (lv_at hl 3 rfl) ?_
  obtain ⟨Q9, hQ9, hh9⟩ := h_join (wG := w_G_wet S ((xs (i + 1))) (y)) (wR := w_R_wet M ((xs (i + 1))) (y)) f (j_wet hJ hy)
  have hQ9 : w_W_wet (S, f) ((xs (i + 1))) (y) Q9 := hQ9
  have hPc := hP.sub (ws' := wHl ca ad o (S, f)) [0, 2, 3, 4, 5, 6, 7, 8, 9, 10, 11, 12, 13, 14, 15, 16] rfl
  have hDc := hD.sub (ws' := wHl ca ad o (S, f)) [0, 2, 3, 4, 5, 6, 7, 8, 9, 10, 11, 12, 13, 14, 15, 16] (by decide) rfl
  have hFc := va_free (wc := wHl ca ad o (S, f)) hD hS hA [0, 2, 3, 4, 5, 6, 7, 8, 9, 10, 11, 12, 13, 14, 15, 16] rfl
  refine va_calli (vx_runSW (As := [.ref (ad 0), .int (xs (i + 1)), .int y, .ref o]) (rest := []) ⟨hx, hb, hml, hown, hw⟩ (c_W_wet l hl0 D ca ad o H.size (S, f) ((xs (i + 1))) (y) Q9 hQ9) (vx_cwSW 4 hw (tG_g gs_law_119) rfl rfl rfl (by decide +kernel) ⟨Nat.le_of_ble_eq_true rfl, Nat.le_of_ble_eq_true rfl⟩) ⟨xPh.blind, xPh.pre hK hN hPc hDc hX9 (hZ.now hS hA hDc) hC9⟩ rfl rfl hl.1 rfl (lv_room (Nat.le_of_ble_eq_true rfl)) d_law_842 ⟨show cells + 2 ≤ 663321 by omega, show slots + 12 ≤ 7106140 by omega⟩) hS (fun q _ h => hFc q h) hFc (fun k9 T9 t H1 locs ht hvm hq9 hB hz1 hk1 hS => ?_)
  obtain ⟨S9, f9⟩ := T9
  obtain ⟨hP1, hD1⟩ := hB
  rw [ht] at hP1
  obtain ⟨hP, hD⟩ := va_join (wr := (od, .inl (ca 2, 1, .inr (.inr (.inr (.inl g))))) :: wR ca ae M) (w1 := wHl ca ad o (S9, f9)) hP hD [0, 2, 3, 4, 5, 6, 7, 8, 9, 10, 11, 12, 13, 14, 15, 16] [1, 17, 18, 19, 20, 21, 22, 23, 24, 25, 26, 27, 28, 29, 30, 31, 32, 33, 34, 35] rfl rfl (by decide) (by decide) hk1 hFc hP1 hD1
  have hP := hP.sub (ws' := LI ca ad ae o od S9 M f9 g) [20, 0, 21, 22, 23, 24, 25, 26, 27, 28, 29, 30, 31, 32, 33, 34, 35, 1, 2, 3, 4, 5, 6, 7, 8, 9, 10, 11, 12, 13, 14, 15, 16, 17, 18, 19] rfl
  have hD := hD.sub (ws' := LI ca ad ae o od S9 M f9 g) [20, 0, 21, 22, 23, 24, 25, 26, 27, 28, 29, 30, 31, 32, 33, 34, 35, 1, 2, 3, 4, 5, 6, 7, 8, 9, 10, 11, 12, 13, 14, 15, 16, 17, 18, 19] (by decide) rfl
  refine W.widen (k := cells + 2) (n := slots + 12) (by omega) (by omega) ?_
  obtain ⟨R9, hR9, hr9⟩ := hh9 k9 (S9, f9) hq9
  clear hz1 hk1 hP1 hD1 hPc hDc hFc
  generalize H1 = H at hP hS ⊢
  refine lv_istore (lv' := [(6, .int k9), (0, .ref b), (1, .ref (ad 0)), (2, .ref (ae 0)), (3, .ref o), (4, .ref od), (5, .int (nI i))]) hx hb d_law_845 hl (by decide) rfl (fun ls hl => ?_)
  refine lv_aload_n hx hb d_law_847 rfl (lv_at hl 3 rfl) ?_
  refine lv_aload_n hx hb d_law_848 rfl (lv_at hl 1 rfl) ?_
  refine lv_iload hx hb d_law_849 (lv_at hl 6 rfl) ?_
  refine lv_iconst (v := 1) hx hb d_law_851 (by decide) ?_
  refine lv_iadd hx hb d_law_852 ?_
  rw [ia1]
  refine va_sld hx hb hX hbl hbA hS iv1 d_law_853 ?_
  rw [ic1]
  refine lv_aload_n hx hb d_law_854 rfl (lv_at hl 1 rfl) ?_
  refine lv_iload hx hb d_law_855 (lv_at hl 6 rfl) ?_
  refine lv_iconst (v := 2) hx hb d_law_857 (by decide) ?_
  refine lv_iadd hx hb d_law_858 ?_
  rw [ia2]
  refine va_sld hx hb hX hbl hbA hS iv2 d_law_859 ?_
  rw [ic2]
  suffices k868 : W p l e room_1 s m #[Value.ref b] below meth c H locs (cells + 2) (slots + 12) (lw_Z below #[Value.ref b] s) (F0 m 868 ls [.int y, .int (xs (i + 1)), .ref (ae 0)]) by
    refine lv_if_eq (tgt := 867) hx hb d_law_860 (by decide) (fun hc9 => ?_) (fun hc9 => ?_)
    · rw [hyx.1 hc9] at k868
      exact lv_iconst (v := 0) hx hb d_law_867 (by decide) k868
    · rw [hyx.2 hc9] at k868
      exact lv_iconst (v := 1) hx hb d_law_863 (by decide) (lv_goto (tgt := 868) hx hb d_law_864 (by decide) k868)
  have hPc := hP.sub (ws' := wR ca ae M) [17, 18, 19, 20, 21, 22, 23, 24, 25, 26, 27, 28, 29, 30, 31, 32, 33, 34, 35] rfl
  have hDc := hD.sub (ws' := wR ca ae M) [17, 18, 19, 20, 21, 22, 23, 24, 25, 26, 27, 28, 29, 30, 31, 32, 33, 34, 35] (by decide) rfl
  have hFc := va_free (wc := wR ca ae M) hD hS hA [17, 18, 19, 20, 21, 22, 23, 24, 25, 26, 27, 28, 29, 30, 31, 32, 33, 34, 35] rfl
  refine va_calli (va_runV (As := [.int (xs (i + 1)), .int y]) (rest := []) ⟨hx, hb, hml, hown, hw⟩ (c_R_wet l D ca ae H.size M ((xs (i + 1))) (y) R9 hR9) (cwV 2 hw (tG_g gv_law_122) rfl rfl rfl (by decide +kernel) ⟨Nat.le_of_ble_eq_true rfl, Nat.le_of_ble_eq_true rfl⟩) ⟨xPc.blind, va_recv hK hP (ci := 4) rfl (q0 := 17) rfl, xPc.pre hK hN hPc hDc⟩ rfl rfl hl.1 rfl (lv_room (Nat.le_of_ble_eq_true rfl)) d_law_868 ⟨show cells + 2 + 0 ≤ 663321 by omega, show slots + 12 + 0 ≤ 7106140 by omega⟩) hS (fun q _ h => hFc q h) hFc (fun b9 v9 t H1 locs ht hvm hq hB hz1 hk1 hS => ?_)
  obtain ⟨hP1, hD1⟩ := hB
  rw [ht] at hP1
  obtain ⟨hP, hD⟩ := va_join (wr := (o, .inl (ca 1, 1, .inr (.inl f9))) :: (od, .inl (ca 2, 1, .inr (.inr (.inr (.inl g))))) :: wC ca ad S9) (w1 := wR ca ae v9) hP hD [17, 18, 19, 20, 21, 22, 23, 24, 25, 26, 27, 28, 29, 30, 31, 32, 33, 34, 35] [0, 1, 2, 3, 4, 5, 6, 7, 8, 9, 10, 11, 12, 13, 14, 15, 16] rfl rfl (by decide) (by decide) hk1 hFc hP1 hD1
  have hP : va_P D cls (LI ca ad ae o od S9 v9 f9 g) H1 := hP
  have hD : va_D (LA s) (LI ca ad ae o od S9 v9 f9 g) := hD
  clear hz1 hk1 hP1 hD1 hPc hDc hFc
  generalize H1 = H at hP hS ⊢
  refine lv_istore (lv' := [(7, .int b9), (6, .int k9), (0, .ref b), (1, .ref (ad 0)), (2, .ref (ae 0)), (3, .ref o), (4, .ref od), (5, .int (nI i))]) hx hb d_law_871 hl (by decide) rfl (fun ls hl => ?_)
  obtain ⟨hth, hJ9, hans⟩ := hr9 b9 v9 hq
  refine lv_aload_n hx hb d_law_873 rfl (lv_at hl 4 rfl) ?_
  have hPc := hP.sub (ws' := wR ca ae v9) [17, 18, 19, 20, 21, 22, 23, 24, 25, 26, 27, 28, 29, 30, 31, 32, 33, 34, 35] rfl
  have hDc := hD.sub (ws' := wR ca ae v9) [17, 18, 19, 20, 21, 22, 23, 24, 25, 26, 27, 28, 29, 30, 31, 32, 33, 34, 35] (by decide) rfl
  have hFc := va_free (wc := wR ca ae v9) hD hS hA [17, 18, 19, 20, 21, 22, 23, 24, 25, 26, 27, 28, 29, 30, 31, 32, 33, 34, 35] rfl
  refine va_calli (va_runV (As := []) (rest := []) ⟨hx, hb, hml, hown, hw⟩ (c_R_thrown l D ca ae H.size v9 (fun r u => r = v9.1 0 0 ∧ u = v9) ⟨rfl, rfl⟩) (cwV 0 hw (tG_g gv_law_86) rfl rfl rfl (by decide +kernel) ⟨Nat.le_of_ble_eq_true rfl, Nat.le_of_ble_eq_true rfl⟩) ⟨xPc.blind, va_recv hK hP (ci := 4) rfl (q0 := 17) rfl, xPc.pre hK hN hPc hDc⟩ rfl rfl hl.1 rfl (lv_room (Nat.le_of_ble_eq_true rfl)) d_law_874 ⟨show cells + 2 + 0 ≤ 663321 by omega, show slots + 12 + 0 ≤ 7106140 by omega⟩) hS (fun q _ h => hFc q h) hFc (fun t9 v8 t H1 locs ht hvm hq hB hz1 hk1 hS => ?_)
  obtain ⟨hP1, hD1⟩ := hB
  rw [ht] at hP1
  obtain ⟨hP, hD⟩ := va_join (wr := (o, .inl (ca 1, 1, .inr (.inl f9))) :: (od, .inl (ca 2, 1, .inr (.inr (.inr (.inl g))))) :: wC ca ad S9) (w1 := wR ca ae v8) hP hD [17, 18, 19, 20, 21, 22, 23, 24, 25, 26, 27, 28, 29, 30, 31, 32, 33, 34, 35] [0, 1, 2, 3, 4, 5, 6, 7, 8, 9, 10, 11, 12, 13, 14, 15, 16] rfl rfl (by decide) (by decide) hk1 hFc hP1 hD1
  have hP : va_P D cls (LI ca ad ae o od S9 v8 f9 g) H1 := hP
  have hD : va_D (LA s) (LI ca ad ae o od S9 v8 f9 g) := hD
  clear hz1 hk1 hP1 hD1 hPc hDc hFc
  generalize H1 = H at hP hS ⊢
  obtain ⟨et9, ev9⟩ := hq
  have ev9 : v8 = v9 := ev9
  have hJ9 : J S9 v8 := by rw [ev9]; exact hJ9
  refine lv_iload hx hb d_law_877 (lv_at hl 1 rfl) ?_
  refine lv_icmp_eq (tgt := 884) hx hb d_law_879 (by decide) (fun hc9 => ?_) (fun hc9 => absurd (et9.trans hth) hc9)
  refine lv_iload hx hb d_law_884 (lv_at hl 1 rfl) ?_
  refine lv_if_ne (tgt := 901) hx hb d_law_886 (by decide) (fun hc8 => ?_) (fun hc8 => ?_)
  · refine lv_goto (tgt := 1341) hx hb d_law_901 (by decide) (kk S9 v8 f9 g _ _ _ hJ9 hP hD hS (lv_sub hl [2, 3, 4, 5, 6, 7] rfl))
  have hans := hans hc8
  refine lv_aload_n hx hb d_law_889 rfl (lv_at hl 5 rfl) ?_
  refine lv_iconst (v := 0) hx hb d_law_890 (by decide) ?_
  refine va_lald (D := D) (i := 0) hx hb hK hP 0 1 rfl rfl (by unfold vp_in; decide) d_law_891 ?_
  rw [show (f9) (0 : Int32).toNatClampNeg = b9.toInt64 from hans]
  refine lv_iload hx hb d_law_892 (lv_at hl 0 rfl) ?_
  refine lv_i2l (v := b9.toInt64) hx hb d_law_894 rfl ?_
  refine W.lcmp hx hb d_law_895 ?_
  refine lv_if_eq (tgt := 901) hx hb d_law_896 (by decide) (fun hc7 => ?_) (fun hc7 => absurd (l_same _) hc7)
  refine lv_goto (tgt := 1341) hx hb d_law_901 (by decide) (kk S9 v8 f9 g _ _ _ hJ9 hP hD hS (lv_sub hl [2, 3, 4, 5, 6, 7] rfl))
set_option maxRecDepth 100000 in
set_option maxHeartbeats 4000000 in
theorem lc_wet {p : Program} {l : Launch} {e : Env} {s : State} {m : MethodId} {below : List Frame} {meth : Method} {c : Code} {b L : Nat} {xs : Nat → Int32} {D : va_G} {ca : Nat → ClassId} {ad ae : Nat → Nat} {o od : Nat} {S : SC} {M : SR} {f : Nat → Int64} {g : Nat → UInt64} {H : Heap} {locs : List Loc} {cells slots i : Nat} {ls : Array Slot} (K0 : LK p l s m meth c b L xs D ca) (hJ : J S M) (hi : i + 4 ≤ L) (hc : cells + 2 ≤ 663321 ∧ slots + 12 ≤ 7106140) (hP : va_P D cls (LI ca ad ae o od S M f g) H) (hD : va_D (LA s) (LI ca ad ae o od S M f g)) (hS : va_S (LA s) s.heap H locs) (hl : lv_has ls 9 [(0, .ref b), (1, .ref (ad 0)), (2, .ref (ae 0)), (3, .ref o), (4, .ref od), (5, .int (nI i))]) (kk : ∀ (S : SC) (M : SR) (f : Nat → Int64) (g : Nat → UInt64) (H : Heap) (locs : List Loc) (ls : Array Slot), J S M → va_P D cls (LI ca ad ae o od S M f g) H → va_D (LA s) (LI ca ad ae o od S M f g) → va_S (LA s) s.heap H locs → lv_has ls 9 [(0, .ref b), (1, .ref (ad 0)), (2, .ref (ae 0)), (3, .ref o), (4, .ref od), (5, .int (nI i))] → W p l e room_1 s m #[Value.ref b] below meth c H locs (cells + 2) (slots + 12) (lw_Z below #[Value.ref b] s) (F0 m 1341 ls [])) : W p l e room_1 s m #[Value.ref b] below meth c H locs cells slots (lw_Z below #[Value.ref b] s) (F0 m 820 ls []) := by
  have K1 := K0
  obtain ⟨⟨hl0, hL⟩, ⟨hx, hb, hr, hml, hown, hts, hX, hbl, hlocks, hgv⟩, hK, hN, hX9, hC9, hZ⟩ := K0
  have hA : ∀ q : Nat, s.heap.size ≤ q → LA s q := fun _ h => h
  have hbA : ¬ LA s b := Nat.not_le.mpr hbl
  have hw : ∀ w ∈ tG, w.before #[Value.ref b] s = true := fun w h => hts w (tG_in w h)
  have hown : s.vm.findClass "TrainGuardLaw" = some m.cls := hown
  have ia1 : nI i + 1 = nI (i + 1) := nI_add i 1
  have ia2 : nI i + 2 = nI (i + 2) := nI_add i 2
  have ia3 : nI i + 3 = nI (i + 3) := nI_add i 3
  have iv1 : vp_in (nI (i + 1)) L := vp_in_nI (by omega) (by omega)
  have iv2 : vp_in (nI (i + 2)) L := vp_in_nI (by omega) (by omega)
  have iv3 : vp_in (nI (i + 3)) L := vp_in_nI (by omega) (by omega)
  have ic1 : (nI (i + 1)).toNatClampNeg = i + 1 := nI_clamp (by omega)
  have ic2 : (nI (i + 2)).toNatClampNeg = i + 2 := nI_clamp (by omega)
  have ic3 : (nI (i + 3)).toNatClampNeg = i + 3 := nI_clamp (by omega)
  refine lv_aload_n hx hb d_law_820 rfl (lv_at hl 1 rfl) ?_
  refine lv_aload_n hx hb d_law_821 rfl (lv_at hl 0 rfl) ?_
  refine lv_iload hx hb d_law_822 (lv_at hl 5 rfl) ?_
  refine lv_iconst (v := 1) hx hb d_law_824 (by decide) ?_
  refine lv_iadd hx hb d_law_825 ?_
  rw [ia1]
  refine va_sld hx hb hX hbl hbA hS iv1 d_law_826 ?_
  rw [ic1]
  refine lv_aload_n hx hb d_law_827 rfl (lv_at hl 0 rfl) ?_
  refine lv_iload hx hb d_law_828 (lv_at hl 5 rfl) ?_
  refine lv_iconst (v := 2) hx hb d_law_830 (by decide) ?_
  refine lv_iadd hx hb d_law_831 ?_
  rw [ia2]
  refine va_sld hx hb hX hbl hbA hS iv2 d_law_832 ?_
  rw [ic2]
  refine lv_if_eq (tgt := 840) hx hb d_law_833 (by decide) (fun hc9 => ?_) (fun hc9 => ?_)
  · exact lv_iconst (v := 0) hx hb d_law_840 (by decide) (lc_wet841 (y := 0) (Or.inl rfl) ⟨fun _ => rfl, fun q => absurd hc9 q⟩ K1 hJ hi hc hP hD hS hl kk)
  · exact lv_iconst (v := 1) hx hb d_law_836 (by decide) (lv_goto (tgt := 841) hx hb d_law_837 (by decide) (lc_wet841 (y := 1) (Or.inr rfl) ⟨fun q => absurd q hc9, fun _ => rfl⟩ K1 hJ hi hc hP hD hS hl kk))
set_option maxRecDepth 100000 in
set_option maxHeartbeats 4000000 in
theorem lc_acknowledge {p : Program} {l : Launch} {e : Env} {s : State} {m : MethodId} {below : List Frame} {meth : Method} {c : Code} {b L : Nat} {xs : Nat → Int32} {D : va_G} {ca : Nat → ClassId} {ad ae : Nat → Nat} {o od : Nat} {S : SC} {M : SR} {f : Nat → Int64} {g : Nat → UInt64} {H : Heap} {locs : List Loc} {cells slots i : Nat} {ls : Array Slot} (K0 : LK p l s m meth c b L xs D ca) (hJ : J S M) (hi : i + 4 ≤ L) (hc : cells + 2 ≤ 663321 ∧ slots + 12 ≤ 7106140) (hP : va_P D cls (LI ca ad ae o od S M f g) H) (hD : va_D (LA s) (LI ca ad ae o od S M f g)) (hS : va_S (LA s) s.heap H locs) (hl : lv_has ls 9 [(0, .ref b), (1, .ref (ad 0)), (2, .ref (ae 0)), (3, .ref o), (4, .ref od), (5, .int (nI i))]) (kk : ∀ (S : SC) (M : SR) (f : Nat → Int64) (g : Nat → UInt64) (H : Heap) (locs : List Loc) (ls : Array Slot), J S M → va_P D cls (LI ca ad ae o od S M f g) H → va_D (LA s) (LI ca ad ae o od S M f g) → va_S (LA s) s.heap H locs → lv_has ls 9 [(0, .ref b), (1, .ref (ad 0)), (2, .ref (ae 0)), (3, .ref o), (4, .ref od), (5, .int (nI i))] → W p l e room_1 s m #[Value.ref b] below meth c H locs (cells + 2) (slots + 12) (lw_Z below #[Value.ref b] s) (F0 m 1341 ls [])) : W p l e room_1 s m #[Value.ref b] below meth c H locs cells slots (lw_Z below #[Value.ref b] s) (F0 m 904 ls []) := by
  obtain ⟨⟨hl0, hL⟩, ⟨hx, hb, hr, hml, hown, hts, hX, hbl, hlocks, hgv⟩, hK, hN, hX9, hC9, hZ⟩ := K0
  have hA : ∀ q : Nat, s.heap.size ≤ q → LA s q := fun _ h => h
  have hbA : ¬ LA s b := Nat.not_le.mpr hbl
  have hw : ∀ w ∈ tG, w.before #[Value.ref b] s = true := fun w h => hts w (tG_in w h)
  have hown : s.vm.findClass "TrainGuardLaw" = some m.cls := hown
  have ia1 : nI i + 1 = nI (i + 1) := nI_add i 1
  have ia2 : nI i + 2 = nI (i + 2) := nI_add i 2
  have ia3 : nI i + 3 = nI (i + 3) := nI_add i 3
  have iv1 : vp_in (nI (i + 1)) L := vp_in_nI (by omega) (by omega)
  have iv2 : vp_in (nI (i + 2)) L := vp_in_nI (by omega) (by omega)
  have iv3 : vp_in (nI (i + 3)) L := vp_in_nI (by omega) (by omega)
  have ic1 : (nI (i + 1)).toNatClampNeg = i + 1 := nI_clamp (by omega)
  have ic2 : (nI (i + 2)).toNatClampNeg = i + 2 := nI_clamp (by omega)
  have ic3 : (nI (i + 3)).toNatClampNeg = i + 3 := nI_clamp (by omega)
  refine lv_aload_n hx hb d_law_904 rfl (lv_at hl 1 rfl) ?_
  refine lv_aload_n hx hb d_law_905 rfl (lv_at hl 0 rfl) ?_
  refine lv_iload hx hb d_law_906 (lv_at hl 5 rfl) ?_
  refine lv_iconst (v := 1) hx hb d_law_908 (by decide) ?_
  refine lv_iadd hx hb d_law_909 ?_
  rw [ia1]
  refine va_sld hx hb hX hbl hbA hS iv1 d_law_910 ?_
  rw [ic1]
  refine lv_aload_n hx hb d_law_911 rfl (lv_at hl 3 rfl) ?_
  obtain ⟨Q9, hQ9, hh9⟩ := h_join (wG := w_G_acknowledge S ((xs (i + 1)))) (wR := w_R_acknowledge M ((xs (i + 1)))) f (j_acknowledge hJ)
  have hQ9 : w_W_acknowledge (S, f) ((xs (i + 1))) Q9 := hQ9
  have hPc := hP.sub (ws' := wHl ca ad o (S, f)) [0, 2, 3, 4, 5, 6, 7, 8, 9, 10, 11, 12, 13, 14, 15, 16] rfl
  have hDc := hD.sub (ws' := wHl ca ad o (S, f)) [0, 2, 3, 4, 5, 6, 7, 8, 9, 10, 11, 12, 13, 14, 15, 16] (by decide) rfl
  have hFc := va_free (wc := wHl ca ad o (S, f)) hD hS hA [0, 2, 3, 4, 5, 6, 7, 8, 9, 10, 11, 12, 13, 14, 15, 16] rfl
  refine va_calli (vx_runSW (As := [.ref (ad 0), .int (xs (i + 1)), .ref o]) (rest := []) ⟨hx, hb, hml, hown, hw⟩ (c_W_acknowledge l hl0 D ca ad o H.size (S, f) ((xs (i + 1))) Q9 hQ9) (vx_cwSW 3 hw (tG_g gs_law_123) rfl rfl rfl (by decide +kernel) ⟨Nat.le_of_ble_eq_true rfl, Nat.le_of_ble_eq_true rfl⟩) ⟨xPh.blind, xPh.pre hK hN hPc hDc hX9 (hZ.now hS hA hDc) hC9⟩ rfl rfl hl.1 rfl (lv_room (Nat.le_of_ble_eq_true rfl)) d_law_912 ⟨show cells + 2 ≤ 663321 by omega, show slots + 12 ≤ 7106140 by omega⟩) hS (fun q _ h => hFc q h) hFc (fun k9 T9 t H1 locs ht hvm hq9 hB hz1 hk1 hS => ?_)
  obtain ⟨S9, f9⟩ := T9
  obtain ⟨hP1, hD1⟩ := hB
  rw [ht] at hP1
  obtain ⟨hP, hD⟩ := va_join (wr := (od, .inl (ca 2, 1, .inr (.inr (.inr (.inl g))))) :: wR ca ae M) (w1 := wHl ca ad o (S9, f9)) hP hD [0, 2, 3, 4, 5, 6, 7, 8, 9, 10, 11, 12, 13, 14, 15, 16] [1, 17, 18, 19, 20, 21, 22, 23, 24, 25, 26, 27, 28, 29, 30, 31, 32, 33, 34, 35] rfl rfl (by decide) (by decide) hk1 hFc hP1 hD1
  have hP := hP.sub (ws' := LI ca ad ae o od S9 M f9 g) [20, 0, 21, 22, 23, 24, 25, 26, 27, 28, 29, 30, 31, 32, 33, 34, 35, 1, 2, 3, 4, 5, 6, 7, 8, 9, 10, 11, 12, 13, 14, 15, 16, 17, 18, 19] rfl
  have hD := hD.sub (ws' := LI ca ad ae o od S9 M f9 g) [20, 0, 21, 22, 23, 24, 25, 26, 27, 28, 29, 30, 31, 32, 33, 34, 35, 1, 2, 3, 4, 5, 6, 7, 8, 9, 10, 11, 12, 13, 14, 15, 16, 17, 18, 19] (by decide) rfl
  refine W.widen (k := cells + 2) (n := slots + 12) (by omega) (by omega) ?_
  obtain ⟨R9, hR9, hr9⟩ := hh9 k9 (S9, f9) hq9
  clear hz1 hk1 hP1 hD1 hPc hDc hFc
  generalize H1 = H at hP hS ⊢
  refine lv_istore (lv' := [(6, .int k9), (0, .ref b), (1, .ref (ad 0)), (2, .ref (ae 0)), (3, .ref o), (4, .ref od), (5, .int (nI i))]) hx hb d_law_915 hl (by decide) rfl (fun ls hl => ?_)
  refine lv_aload_n hx hb d_law_917 rfl (lv_at hl 3 rfl) ?_
  refine lv_aload_n hx hb d_law_918 rfl (lv_at hl 1 rfl) ?_
  refine lv_iload hx hb d_law_919 (lv_at hl 6 rfl) ?_
  refine lv_iconst (v := 1) hx hb d_law_921 (by decide) ?_
  refine lv_iadd hx hb d_law_922 ?_
  rw [ia1]
  refine va_sld hx hb hX hbl hbA hS iv1 d_law_923 ?_
  rw [ic1]
  have hPc := hP.sub (ws' := wR ca ae M) [17, 18, 19, 20, 21, 22, 23, 24, 25, 26, 27, 28, 29, 30, 31, 32, 33, 34, 35] rfl
  have hDc := hD.sub (ws' := wR ca ae M) [17, 18, 19, 20, 21, 22, 23, 24, 25, 26, 27, 28, 29, 30, 31, 32, 33, 34, 35] (by decide) rfl
  have hFc := va_free (wc := wR ca ae M) hD hS hA [17, 18, 19, 20, 21, 22, 23, 24, 25, 26, 27, 28, 29, 30, 31, 32, 33, 34, 35] rfl
  refine va_calli (va_runV (As := [.int (xs (i + 1))]) (rest := []) ⟨hx, hb, hml, hown, hw⟩ (c_R_acknowledge l D ca ae H.size M ((xs (i + 1))) R9 hR9) (cwV 1 hw (tG_g gv_law_125) rfl rfl rfl (by decide +kernel) ⟨Nat.le_of_ble_eq_true rfl, Nat.le_of_ble_eq_true rfl⟩) ⟨xPc.blind, va_recv hK hP (ci := 4) rfl (q0 := 17) rfl, xPc.pre hK hN hPc hDc⟩ rfl rfl hl.1 rfl (lv_room (Nat.le_of_ble_eq_true rfl)) d_law_924 ⟨show cells + 2 + 0 ≤ 663321 by omega, show slots + 12 + 0 ≤ 7106140 by omega⟩) hS (fun q _ h => hFc q h) hFc (fun b9 v9 t H1 locs ht hvm hq hB hz1 hk1 hS => ?_)
  obtain ⟨hP1, hD1⟩ := hB
  rw [ht] at hP1
  obtain ⟨hP, hD⟩ := va_join (wr := (o, .inl (ca 1, 1, .inr (.inl f9))) :: (od, .inl (ca 2, 1, .inr (.inr (.inr (.inl g))))) :: wC ca ad S9) (w1 := wR ca ae v9) hP hD [17, 18, 19, 20, 21, 22, 23, 24, 25, 26, 27, 28, 29, 30, 31, 32, 33, 34, 35] [0, 1, 2, 3, 4, 5, 6, 7, 8, 9, 10, 11, 12, 13, 14, 15, 16] rfl rfl (by decide) (by decide) hk1 hFc hP1 hD1
  have hP : va_P D cls (LI ca ad ae o od S9 v9 f9 g) H1 := hP
  have hD : va_D (LA s) (LI ca ad ae o od S9 v9 f9 g) := hD
  clear hz1 hk1 hP1 hD1 hPc hDc hFc
  generalize H1 = H at hP hS ⊢
  refine lv_istore (lv' := [(7, .int b9), (6, .int k9), (0, .ref b), (1, .ref (ad 0)), (2, .ref (ae 0)), (3, .ref o), (4, .ref od), (5, .int (nI i))]) hx hb d_law_927 hl (by decide) rfl (fun ls hl => ?_)
  obtain ⟨hth, hJ9, hans⟩ := hr9 b9 v9 hq
  refine lv_aload_n hx hb d_law_929 rfl (lv_at hl 4 rfl) ?_
  have hPc := hP.sub (ws' := wR ca ae v9) [17, 18, 19, 20, 21, 22, 23, 24, 25, 26, 27, 28, 29, 30, 31, 32, 33, 34, 35] rfl
  have hDc := hD.sub (ws' := wR ca ae v9) [17, 18, 19, 20, 21, 22, 23, 24, 25, 26, 27, 28, 29, 30, 31, 32, 33, 34, 35] (by decide) rfl
  have hFc := va_free (wc := wR ca ae v9) hD hS hA [17, 18, 19, 20, 21, 22, 23, 24, 25, 26, 27, 28, 29, 30, 31, 32, 33, 34, 35] rfl
  refine va_calli (va_runV (As := []) (rest := []) ⟨hx, hb, hml, hown, hw⟩ (c_R_thrown l D ca ae H.size v9 (fun r u => r = v9.1 0 0 ∧ u = v9) ⟨rfl, rfl⟩) (cwV 0 hw (tG_g gv_law_86) rfl rfl rfl (by decide +kernel) ⟨Nat.le_of_ble_eq_true rfl, Nat.le_of_ble_eq_true rfl⟩) ⟨xPc.blind, va_recv hK hP (ci := 4) rfl (q0 := 17) rfl, xPc.pre hK hN hPc hDc⟩ rfl rfl hl.1 rfl (lv_room (Nat.le_of_ble_eq_true rfl)) d_law_930 ⟨show cells + 2 + 0 ≤ 663321 by omega, show slots + 12 + 0 ≤ 7106140 by omega⟩) hS (fun q _ h => hFc q h) hFc (fun t9 v8 t H1 locs ht hvm hq hB hz1 hk1 hS => ?_)
  obtain ⟨hP1, hD1⟩ := hB
  rw [ht] at hP1
  obtain ⟨hP, hD⟩ := va_join (wr := (o, .inl (ca 1, 1, .inr (.inl f9))) :: (od, .inl (ca 2, 1, .inr (.inr (.inr (.inl g))))) :: wC ca ad S9) (w1 := wR ca ae v8) hP hD [17, 18, 19, 20, 21, 22, 23, 24, 25, 26, 27, 28, 29, 30, 31, 32, 33, 34, 35] [0, 1, 2, 3, 4, 5, 6, 7, 8, 9, 10, 11, 12, 13, 14, 15, 16] rfl rfl (by decide) (by decide) hk1 hFc hP1 hD1
  have hP : va_P D cls (LI ca ad ae o od S9 v8 f9 g) H1 := hP
  have hD : va_D (LA s) (LI ca ad ae o od S9 v8 f9 g) := hD
  clear hz1 hk1 hP1 hD1 hPc hDc hFc
  generalize H1 = H at hP hS ⊢
  obtain ⟨et9, ev9⟩ := hq
  have ev9 : v8 = v9 := ev9
  have hJ9 : J S9 v8 := by rw [ev9]; exact hJ9
  refine lv_iload hx hb d_law_933 (lv_at hl 1 rfl) ?_
  refine lv_icmp_eq (tgt := 940) hx hb d_law_935 (by decide) (fun hc9 => ?_) (fun hc9 => absurd (et9.trans hth) hc9)
  refine lv_iload hx hb d_law_940 (lv_at hl 1 rfl) ?_
  refine lv_if_ne (tgt := 957) hx hb d_law_942 (by decide) (fun hc8 => ?_) (fun hc8 => ?_)
  · refine lv_goto (tgt := 1341) hx hb d_law_957 (by decide) (kk S9 v8 f9 g _ _ _ hJ9 hP hD hS (lv_sub hl [2, 3, 4, 5, 6, 7] rfl))
  have hans := hans hc8
  refine lv_aload_n hx hb d_law_945 rfl (lv_at hl 5 rfl) ?_
  refine lv_iconst (v := 0) hx hb d_law_946 (by decide) ?_
  refine va_lald (D := D) (i := 0) hx hb hK hP 0 1 rfl rfl (by unfold vp_in; decide) d_law_947 ?_
  rw [show (f9) (0 : Int32).toNatClampNeg = b9.toInt64 from hans]
  refine lv_iload hx hb d_law_948 (lv_at hl 0 rfl) ?_
  refine lv_i2l (v := b9.toInt64) hx hb d_law_950 rfl ?_
  refine W.lcmp hx hb d_law_951 ?_
  refine lv_if_eq (tgt := 957) hx hb d_law_952 (by decide) (fun hc7 => ?_) (fun hc7 => absurd (l_same _) hc7)
  refine lv_goto (tgt := 1341) hx hb d_law_957 (by decide) (kk S9 v8 f9 g _ _ _ hJ9 hP hD hS (lv_sub hl [2, 3, 4, 5, 6, 7] rfl))
set_option maxRecDepth 100000 in
set_option maxHeartbeats 4000000 in
theorem lc_end {p : Program} {l : Launch} {e : Env} {s : State} {m : MethodId} {below : List Frame} {meth : Method} {c : Code} {b L : Nat} {xs : Nat → Int32} {D : va_G} {ca : Nat → ClassId} {ad ae : Nat → Nat} {o od : Nat} {S : SC} {M : SR} {f : Nat → Int64} {g : Nat → UInt64} {H : Heap} {locs : List Loc} {cells slots i : Nat} {ls : Array Slot} (K0 : LK p l s m meth c b L xs D ca) (hJ : J S M) (hi : i + 4 ≤ L) (hc : cells + 2 ≤ 663321 ∧ slots + 12 ≤ 7106140) (hP : va_P D cls (LI ca ad ae o od S M f g) H) (hD : va_D (LA s) (LI ca ad ae o od S M f g)) (hS : va_S (LA s) s.heap H locs) (hl : lv_has ls 9 [(0, .ref b), (1, .ref (ad 0)), (2, .ref (ae 0)), (3, .ref o), (4, .ref od), (5, .int (nI i))]) (kk : ∀ (S : SC) (M : SR) (f : Nat → Int64) (g : Nat → UInt64) (H : Heap) (locs : List Loc) (ls : Array Slot), J S M → va_P D cls (LI ca ad ae o od S M f g) H → va_D (LA s) (LI ca ad ae o od S M f g) → va_S (LA s) s.heap H locs → lv_has ls 9 [(0, .ref b), (1, .ref (ad 0)), (2, .ref (ae 0)), (3, .ref o), (4, .ref od), (5, .int (nI i))] → W p l e room_1 s m #[Value.ref b] below meth c H locs (cells + 2) (slots + 12) (lw_Z below #[Value.ref b] s) (F0 m 1341 ls [])) : W p l e room_1 s m #[Value.ref b] below meth c H locs cells slots (lw_Z below #[Value.ref b] s) (F0 m 960 ls []) := by
  obtain ⟨⟨hl0, hL⟩, ⟨hx, hb, hr, hml, hown, hts, hX, hbl, hlocks, hgv⟩, hK, hN, hX9, hC9, hZ⟩ := K0
  have hA : ∀ q : Nat, s.heap.size ≤ q → LA s q := fun _ h => h
  have hbA : ¬ LA s b := Nat.not_le.mpr hbl
  have hw : ∀ w ∈ tG, w.before #[Value.ref b] s = true := fun w h => hts w (tG_in w h)
  have hown : s.vm.findClass "TrainGuardLaw" = some m.cls := hown
  have ia1 : nI i + 1 = nI (i + 1) := nI_add i 1
  have ia2 : nI i + 2 = nI (i + 2) := nI_add i 2
  have ia3 : nI i + 3 = nI (i + 3) := nI_add i 3
  have iv1 : vp_in (nI (i + 1)) L := vp_in_nI (by omega) (by omega)
  have iv2 : vp_in (nI (i + 2)) L := vp_in_nI (by omega) (by omega)
  have iv3 : vp_in (nI (i + 3)) L := vp_in_nI (by omega) (by omega)
  have ic1 : (nI (i + 1)).toNatClampNeg = i + 1 := nI_clamp (by omega)
  have ic2 : (nI (i + 2)).toNatClampNeg = i + 2 := nI_clamp (by omega)
  have ic3 : (nI (i + 3)).toNatClampNeg = i + 3 := nI_clamp (by omega)
  refine lv_aload_n hx hb d_law_960 rfl (lv_at hl 1 rfl) ?_
  refine lv_aload_n hx hb d_law_961 rfl (lv_at hl 0 rfl) ?_
  refine lv_iload hx hb d_law_962 (lv_at hl 5 rfl) ?_
  refine lv_iconst (v := 1) hx hb d_law_964 (by decide) ?_
  refine lv_iadd hx hb d_law_965 ?_
  rw [ia1]
  refine va_sld hx hb hX hbl hbA hS iv1 d_law_966 ?_
  rw [ic1]
  refine lv_aload_n hx hb d_law_967 rfl (lv_at hl 3 rfl) ?_
  obtain ⟨Q9, hQ9, hh9⟩ := h_join (wG := w_G_end S ((xs (i + 1)))) (wR := w_R_end M ((xs (i + 1)))) f (j_end hJ)
  have hQ9 : w_W_end (S, f) ((xs (i + 1))) Q9 := hQ9
  have hPc := hP.sub (ws' := wHl ca ad o (S, f)) [0, 2, 3, 4, 5, 6, 7, 8, 9, 10, 11, 12, 13, 14, 15, 16] rfl
  have hDc := hD.sub (ws' := wHl ca ad o (S, f)) [0, 2, 3, 4, 5, 6, 7, 8, 9, 10, 11, 12, 13, 14, 15, 16] (by decide) rfl
  have hFc := va_free (wc := wHl ca ad o (S, f)) hD hS hA [0, 2, 3, 4, 5, 6, 7, 8, 9, 10, 11, 12, 13, 14, 15, 16] rfl
  refine va_calli (vx_runSW (As := [.ref (ad 0), .int (xs (i + 1)), .ref o]) (rest := []) ⟨hx, hb, hml, hown, hw⟩ (c_W_end l hl0 D ca ad o H.size (S, f) ((xs (i + 1))) Q9 hQ9) (vx_cwSW 3 hw (tG_g gs_law_126) rfl rfl rfl (by decide +kernel) ⟨Nat.le_of_ble_eq_true rfl, Nat.le_of_ble_eq_true rfl⟩) ⟨xPh.blind, xPh.pre hK hN hPc hDc hX9 (hZ.now hS hA hDc) hC9⟩ rfl rfl hl.1 rfl (lv_room (Nat.le_of_ble_eq_true rfl)) d_law_968 ⟨show cells + 2 ≤ 663321 by omega, show slots + 12 ≤ 7106140 by omega⟩) hS (fun q _ h => hFc q h) hFc (fun k9 T9 t H1 locs ht hvm hq9 hB hz1 hk1 hS => ?_)
  obtain ⟨S9, f9⟩ := T9
  obtain ⟨hP1, hD1⟩ := hB
  rw [ht] at hP1
  obtain ⟨hP, hD⟩ := va_join (wr := (od, .inl (ca 2, 1, .inr (.inr (.inr (.inl g))))) :: wR ca ae M) (w1 := wHl ca ad o (S9, f9)) hP hD [0, 2, 3, 4, 5, 6, 7, 8, 9, 10, 11, 12, 13, 14, 15, 16] [1, 17, 18, 19, 20, 21, 22, 23, 24, 25, 26, 27, 28, 29, 30, 31, 32, 33, 34, 35] rfl rfl (by decide) (by decide) hk1 hFc hP1 hD1
  have hP := hP.sub (ws' := LI ca ad ae o od S9 M f9 g) [20, 0, 21, 22, 23, 24, 25, 26, 27, 28, 29, 30, 31, 32, 33, 34, 35, 1, 2, 3, 4, 5, 6, 7, 8, 9, 10, 11, 12, 13, 14, 15, 16, 17, 18, 19] rfl
  have hD := hD.sub (ws' := LI ca ad ae o od S9 M f9 g) [20, 0, 21, 22, 23, 24, 25, 26, 27, 28, 29, 30, 31, 32, 33, 34, 35, 1, 2, 3, 4, 5, 6, 7, 8, 9, 10, 11, 12, 13, 14, 15, 16, 17, 18, 19] (by decide) rfl
  refine W.widen (k := cells + 2) (n := slots + 12) (by omega) (by omega) ?_
  obtain ⟨R9, hR9, hr9⟩ := hh9 k9 (S9, f9) hq9
  clear hz1 hk1 hP1 hD1 hPc hDc hFc
  generalize H1 = H at hP hS ⊢
  refine lv_istore (lv' := [(6, .int k9), (0, .ref b), (1, .ref (ad 0)), (2, .ref (ae 0)), (3, .ref o), (4, .ref od), (5, .int (nI i))]) hx hb d_law_971 hl (by decide) rfl (fun ls hl => ?_)
  refine lv_aload_n hx hb d_law_973 rfl (lv_at hl 3 rfl) ?_
  refine lv_aload_n hx hb d_law_974 rfl (lv_at hl 1 rfl) ?_
  refine lv_iload hx hb d_law_975 (lv_at hl 6 rfl) ?_
  refine lv_iconst (v := 1) hx hb d_law_977 (by decide) ?_
  refine lv_iadd hx hb d_law_978 ?_
  rw [ia1]
  refine va_sld hx hb hX hbl hbA hS iv1 d_law_979 ?_
  rw [ic1]
  have hPc := hP.sub (ws' := wR ca ae M) [17, 18, 19, 20, 21, 22, 23, 24, 25, 26, 27, 28, 29, 30, 31, 32, 33, 34, 35] rfl
  have hDc := hD.sub (ws' := wR ca ae M) [17, 18, 19, 20, 21, 22, 23, 24, 25, 26, 27, 28, 29, 30, 31, 32, 33, 34, 35] (by decide) rfl
  have hFc := va_free (wc := wR ca ae M) hD hS hA [17, 18, 19, 20, 21, 22, 23, 24, 25, 26, 27, 28, 29, 30, 31, 32, 33, 34, 35] rfl
  refine va_calli (va_runV (As := [.int (xs (i + 1))]) (rest := []) ⟨hx, hb, hml, hown, hw⟩ (c_R_end l D ca ae H.size M ((xs (i + 1))) R9 hR9) (cwV 1 hw (tG_g gv_law_128) rfl rfl rfl (by decide +kernel) ⟨Nat.le_of_ble_eq_true rfl, Nat.le_of_ble_eq_true rfl⟩) ⟨xPc.blind, va_recv hK hP (ci := 4) rfl (q0 := 17) rfl, xPc.pre hK hN hPc hDc⟩ rfl rfl hl.1 rfl (lv_room (Nat.le_of_ble_eq_true rfl)) d_law_980 ⟨show cells + 2 + 0 ≤ 663321 by omega, show slots + 12 + 0 ≤ 7106140 by omega⟩) hS (fun q _ h => hFc q h) hFc (fun b9 v9 t H1 locs ht hvm hq hB hz1 hk1 hS => ?_)
  obtain ⟨hP1, hD1⟩ := hB
  rw [ht] at hP1
  obtain ⟨hP, hD⟩ := va_join (wr := (o, .inl (ca 1, 1, .inr (.inl f9))) :: (od, .inl (ca 2, 1, .inr (.inr (.inr (.inl g))))) :: wC ca ad S9) (w1 := wR ca ae v9) hP hD [17, 18, 19, 20, 21, 22, 23, 24, 25, 26, 27, 28, 29, 30, 31, 32, 33, 34, 35] [0, 1, 2, 3, 4, 5, 6, 7, 8, 9, 10, 11, 12, 13, 14, 15, 16] rfl rfl (by decide) (by decide) hk1 hFc hP1 hD1
  have hP : va_P D cls (LI ca ad ae o od S9 v9 f9 g) H1 := hP
  have hD : va_D (LA s) (LI ca ad ae o od S9 v9 f9 g) := hD
  clear hz1 hk1 hP1 hD1 hPc hDc hFc
  generalize H1 = H at hP hS ⊢
  refine lv_istore (lv' := [(7, .int b9), (6, .int k9), (0, .ref b), (1, .ref (ad 0)), (2, .ref (ae 0)), (3, .ref o), (4, .ref od), (5, .int (nI i))]) hx hb d_law_983 hl (by decide) rfl (fun ls hl => ?_)
  obtain ⟨hth, hJ9, hans⟩ := hr9 b9 v9 hq
  refine lv_aload_n hx hb d_law_985 rfl (lv_at hl 4 rfl) ?_
  have hPc := hP.sub (ws' := wR ca ae v9) [17, 18, 19, 20, 21, 22, 23, 24, 25, 26, 27, 28, 29, 30, 31, 32, 33, 34, 35] rfl
  have hDc := hD.sub (ws' := wR ca ae v9) [17, 18, 19, 20, 21, 22, 23, 24, 25, 26, 27, 28, 29, 30, 31, 32, 33, 34, 35] (by decide) rfl
  have hFc := va_free (wc := wR ca ae v9) hD hS hA [17, 18, 19, 20, 21, 22, 23, 24, 25, 26, 27, 28, 29, 30, 31, 32, 33, 34, 35] rfl
  refine va_calli (va_runV (As := []) (rest := []) ⟨hx, hb, hml, hown, hw⟩ (c_R_thrown l D ca ae H.size v9 (fun r u => r = v9.1 0 0 ∧ u = v9) ⟨rfl, rfl⟩) (cwV 0 hw (tG_g gv_law_86) rfl rfl rfl (by decide +kernel) ⟨Nat.le_of_ble_eq_true rfl, Nat.le_of_ble_eq_true rfl⟩) ⟨xPc.blind, va_recv hK hP (ci := 4) rfl (q0 := 17) rfl, xPc.pre hK hN hPc hDc⟩ rfl rfl hl.1 rfl (lv_room (Nat.le_of_ble_eq_true rfl)) d_law_986 ⟨show cells + 2 + 0 ≤ 663321 by omega, show slots + 12 + 0 ≤ 7106140 by omega⟩) hS (fun q _ h => hFc q h) hFc (fun t9 v8 t H1 locs ht hvm hq hB hz1 hk1 hS => ?_)
  obtain ⟨hP1, hD1⟩ := hB
  rw [ht] at hP1
  obtain ⟨hP, hD⟩ := va_join (wr := (o, .inl (ca 1, 1, .inr (.inl f9))) :: (od, .inl (ca 2, 1, .inr (.inr (.inr (.inl g))))) :: wC ca ad S9) (w1 := wR ca ae v8) hP hD [17, 18, 19, 20, 21, 22, 23, 24, 25, 26, 27, 28, 29, 30, 31, 32, 33, 34, 35] [0, 1, 2, 3, 4, 5, 6, 7, 8, 9, 10, 11, 12, 13, 14, 15, 16] rfl rfl (by decide) (by decide) hk1 hFc hP1 hD1
  have hP : va_P D cls (LI ca ad ae o od S9 v8 f9 g) H1 := hP
  have hD : va_D (LA s) (LI ca ad ae o od S9 v8 f9 g) := hD
  clear hz1 hk1 hP1 hD1 hPc hDc hFc
  generalize H1 = H at hP hS ⊢
  obtain ⟨et9, ev9⟩ := hq
  have ev9 : v8 = v9 := ev9
  have hJ9 : J S9 v8 := by rw [ev9]; exact hJ9
  refine lv_iload hx hb d_law_989 (lv_at hl 1 rfl) ?_
  refine lv_icmp_eq (tgt := 996) hx hb d_law_991 (by decide) (fun hc9 => ?_) (fun hc9 => absurd (et9.trans hth) hc9)
  refine lv_iload hx hb d_law_996 (lv_at hl 1 rfl) ?_
  refine lv_if_ne (tgt := 1013) hx hb d_law_998 (by decide) (fun hc8 => ?_) (fun hc8 => ?_)
  · refine lv_goto (tgt := 1341) hx hb d_law_1013 (by decide) (kk S9 v8 f9 g _ _ _ hJ9 hP hD hS (lv_sub hl [2, 3, 4, 5, 6, 7] rfl))
  have hans := hans hc8
  refine lv_aload_n hx hb d_law_1001 rfl (lv_at hl 5 rfl) ?_
  refine lv_iconst (v := 0) hx hb d_law_1002 (by decide) ?_
  refine va_lald (D := D) (i := 0) hx hb hK hP 0 1 rfl rfl (by unfold vp_in; decide) d_law_1003 ?_
  rw [show (f9) (0 : Int32).toNatClampNeg = b9.toInt64 from hans]
  refine lv_iload hx hb d_law_1004 (lv_at hl 0 rfl) ?_
  refine lv_i2l (v := b9.toInt64) hx hb d_law_1006 rfl ?_
  refine W.lcmp hx hb d_law_1007 ?_
  refine lv_if_eq (tgt := 1013) hx hb d_law_1008 (by decide) (fun hc7 => ?_) (fun hc7 => absurd (l_same _) hc7)
  refine lv_goto (tgt := 1341) hx hb d_law_1013 (by decide) (kk S9 v8 f9 g _ _ _ hJ9 hP hD hS (lv_sub hl [2, 3, 4, 5, 6, 7] rfl))
