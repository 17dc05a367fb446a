-- the law: start, ask, stop, take
set_option maxRecDepth 100000 in
set_option maxHeartbeats 4000000 in
theorem lc_start {p : Program} {l : Launch} {e : Env} {s : State} {m : MethodId} {below : List Frame} {meth : Method} {c : Code} {b L : Nat} {xs : Nat → Int32} {D : va_G} {ca : Nat → ClassId} {ad ae : Nat → Nat} {o od : Nat} {S : SC} {M : SR} {f : Nat → Int64} {g : Nat → UInt64} {H : Heap} {locs : List Loc} {cells slots i : Nat} {ls : Array Slot} (K0 : LK p l s m meth c b L xs D ca) (hJ : J S M) (hi : i + 4 ≤ L) (hc : cells + 2 ≤ 663321 ∧ slots + 12 ≤ 7106140) (hP : va_P D cls (LI ca ad ae o od S M f g) H) (hD : va_D (LA s) (LI ca ad ae o od S M f g)) (hS : va_S (LA s) s.heap H locs) (hl : lv_has ls 9 [(0, .ref b), (1, .ref (ad 0)), (2, .ref (ae 0)), (3, .ref o), (4, .ref od), (5, .int (nI i))]) (kk : ∀ (S : SC) (M : SR) (f : Nat → Int64) (g : Nat → UInt64) (H : Heap) (locs : List Loc) (ls : Array Slot), J S M → va_P D cls (LI ca ad ae o od S M f g) H → va_D (LA s) (LI ca ad ae o od S M f g) → va_S (LA s) s.heap H locs → lv_has ls 9 [(0, .ref b), (1, .ref (ad 0)), (2, .ref (ae 0)), (3, .ref o), (4, .ref od), (5, .int (nI i))] → W p l e room_1 s m #[Value.ref b] below meth c H locs (cells + 2) (slots + 12) (lw_Z below #[Value.ref b] s) (F0 m 1341 ls [])) : W p l e room_1 s m #[Value.ref b] below meth c H locs cells slots (lw_Z below #[Value.ref b] s) (F0 m 482 ls []) := by
  obtain ⟨⟨hl0, hL⟩, ⟨hx, hb, hr, hml, hown, hts, hX, hbl, hlocks, hgv⟩, hK, hN, hX9, hC9, hZ⟩ := K0
  have hA : ∀ q : Nat, s.heap.size ≤ q → LA s q := fun _ h => h
  have hbA : ¬ LA s b := Nat.not_le.mpr hbl
  have hw : ∀ w ∈ tG, w.before #[Value.ref b] s = true := fun w h => hts w (tG_in w h)
  have hown : s.vm.findClass "TrainGuardLaw" = some m.cls := hown
  have ia1 : nI i + 1 = nI (i + 1) := nI_add i 1
  have ia2 : nI i + 2 = nI (i + 2) := nI_add i 2
  have ia3 : nI i + 3 = nI (i + 3) := nI_add i 3
  have iv1 : vp_in (nI (i + 1)) L := vp_in_nI (by omega) (by omega)
  have iv2 : vp_in (nI (i + 2)) L := vp_in_nI (by omega) (by omega)
  have iv3 : vp_in (nI (i + 3)) L := vp_in_nI (by omega) (by omega)
  have ic1 : (nI (i + 1)).toNatClampNeg = i + 1 := nI_clamp (by omega)
  have ic2 : (nI (i + 2)).toNatClampNeg = i + 2 := nI_clamp (by omega)
  have ic3 : (nI (i + 3)).toNatClampNeg = i + 3 := nI_clamp (by omega)
  refine lv_aload_n hx hb d_law_482 rfl (lv_at hl 1 rfl) ?_
  refine lv_aload_n hx hb d_law_483 rfl (lv_at hl 0 rfl) ?_
  refine lv_iload hx hb d_law_484 (lv_at hl 5 rfl) ?_
  refine lv_iconst (v := 1) hx hb d_law_486 (by decide) ?_
  refine lv_iadd hx hb d_law_487 ?_
  rw [ia1]
  refine va_sld hx hb hX hbl hbA hS iv1 d_law_488 ?_
  rw [ic1]
  refine lv_aload_n hx hb d_law_489 rfl (lv_at hl 3 rfl) ?_
  obtain ⟨Q9, hQ9, hh9⟩ := h_join (wG := w_G_start S ((xs (i + 1)))) (wR := w_R_start M ((xs (i + 1)))) f (j_start hJ)
  have hQ9 : w_W_start (S, f) ((xs (i + 1))) Q9 := hQ9
  have hPc := hP.sub (ws' := wHl ca ad o (S, f)) [0, 2, 3, 4, 5, 6, 7, 8, 9, 10, 11, 12, 13, 14, 15, 16] rfl
  have hDc := hD.sub (ws' := wHl ca ad o (S, f)) [0, 2, 3, 4, 5, 6, 7, 8, 9, 10, 11, 12, 13, 14, 15, 16] (by decide) rfl
  have hFc := va_free (wc := wHl ca ad o (S, f)) hD hS hA [0, 2, 3, 4, 5, 6, 7, 8, 9, 10, 11, 12, 13, 14, 15, 16] rfl
  refine va_calli (vx_runSW (As := [.ref (ad 0), .int (xs (i + 1)), .ref o]) (rest := []) ⟨hx, hb, hml, hown, hw⟩ (c_W_start l hl0 D ca ad o H.size (S, f) ((xs (i + 1))) Q9 hQ9) (vx_cwSW 3 hw (tG_g gs_law_102) rfl rfl rfl (by decide +kernel) ⟨Nat.le_of_ble_eq_true rfl, Nat.le_of_ble_eq_true rfl⟩) ⟨xPh.blind, xPh.pre hK hN hPc hDc hX9 (hZ.now hS hA hDc) hC9⟩ rfl rfl hl.1 rfl (lv_room (Nat.le_of_ble_eq_true rfl)) d_law_490 ⟨show cells + 2 ≤ 663321 by omega, show slots + 12 ≤ 7106140 by omega⟩) hS (fun q _ h => hFc q h) hFc (fun k9 T9 t H1 locs ht hvm hq9 hB hz1 hk1 hS => ?_)
  obtain ⟨S9, f9⟩ := T9
  obtain ⟨hP1, hD1⟩ := hB
  rw [ht] at hP1
  obtain ⟨hP, hD⟩ := va_join (wr := (od, .inl (ca 2, 1, .inr (.inr (.inr (.inl g))))) :: wR ca ae M) (w1 := wHl ca ad o (S9, f9)) hP hD [0, 2, 3, 4, 5, 6, 7, 8, 9, 10, 11, 12, 13, 14, 15, 16] [1, 17, 18, 19, 20, 21, 22, 23, 24, 25, 26, 27, 28, 29, 30, 31, 32, 33, 34, 35] rfl rfl (by decide) (by decide) hk1 hFc hP1 hD1
  have hP := hP.sub (ws' := LI ca ad ae o od S9 M f9 g) [20, 0, 21, 22, 23, 24, 25, 26, 27, 28, 29, 30, 31, 32, 33, 34, 35, 1, 2, 3, 4, 5, 6, 7, 8, 9, 10, 11, 12, 13, 14, 15, 16, 17, 18, 19] rfl
  have hD := hD.sub (ws' := LI ca ad ae o od S9 M f9 g) [20, 0, 21, 22, 23, 24, 25, 26, 27, 28, 29, 30, 31, 32, 33, 34, 35, 1, 2, 3, 4, 5, 6, 7, 8, 9, 10, 11, 12, 13, 14, 15, 16, 17, 18, 19] (by decide) rfl
  refine W.widen (k := cells + 2) (n := slots + 12) (by omega) (by omega) ?_
  obtain ⟨R9, hR9, hr9⟩ := hh9 k9 (S9, f9) hq9
  clear hz1 hk1 hP1 hD1 hPc hDc hFc
  generalize H1 = H at hP hS ⊢
  refine lv_istore (lv' := [(6, .int k9), (0, .ref b), (1, .ref (ad 0)), (2, .ref (ae 0)), (3, .ref o), (4, .ref od), (5, .int (nI i))]) hx hb d_law_493 hl (by decide) rfl (fun ls hl => ?_)
  refine lv_aload_n hx hb d_law_495 rfl (lv_at hl 3 rfl) ?_
  refine lv_aload_n hx hb d_law_496 rfl (lv_at hl 1 rfl) ?_
  refine lv_iload hx hb d_law_497 (lv_at hl 6 rfl) ?_
  refine lv_iconst (v := 1) hx hb d_law_499 (by decide) ?_
  refine lv_iadd hx hb d_law_500 ?_
  rw [ia1]
  refine va_sld hx hb hX hbl hbA hS iv1 d_law_501 ?_
  rw [ic1]
  have hPc := hP.sub (ws' := wR ca ae M) [17, 18, 19, 20, 21, 22, 23, 24, 25, 26, 27, 28, 29, 30, 31, 32, 33, 34, 35] rfl
  have hDc := hD.sub (ws' := wR ca ae M) [17, 18, 19, 20, 21, 22, 23, 24, 25, 26, 27, 28, 29, 30, 31, 32, 33, 34, 35] (by decide) rfl
  have hFc := va_free (wc := wR ca ae M) hD hS hA [17, 18, 19, 20, 21, 22, 23, 24, 25, 26, 27, 28, 29, 30, 31, 32, 33, 34, 35] rfl
  refine va_calli (va_runV (As := [.int (xs (i + 1))]) (rest := []) ⟨hx, hb, hml, hown, hw⟩ (c_R_start l D ca ae H.size M ((xs (i + 1))) R9 hR9) (cwV 1 hw (tG_g gv_law_104) rfl rfl rfl (by decide +kernel) ⟨Nat.le_of_ble_eq_true rfl, Nat.le_of_ble_eq_true rfl⟩) ⟨xPc.blind, va_recv hK hP (ci := 4) rfl (q0 := 17) rfl, xPc.pre hK hN hPc hDc⟩ rfl rfl hl.1 rfl (lv_room (Nat.le_of_ble_eq_true rfl)) d_law_502 ⟨show cells + 2 + 0 ≤ 663321 by omega, show slots + 12 + 0 ≤ 7106140 by omega⟩) hS (fun q _ h => hFc q h) hFc (fun b9 v9 t H1 locs ht hvm hq hB hz1 hk1 hS => ?_)
  obtain ⟨hP1, hD1⟩ := hB
  rw [ht] at hP1
  obtain ⟨hP, hD⟩ := va_join (wr := (o, .inl (ca 1, 1, .inr (.inl f9))) :: (od, .inl (ca 2, 1, .inr (.inr (.inr (.inl g))))) :: wC ca ad S9) (w1 := wR ca ae v9) hP hD [17, 18, 19, 20, 21, 22, 23, 24, 25, 26, 27, 28, 29, 30, 31, 32, 33, 34, 35] [0, 1, 2, 3, 4, 5, 6, 7, 8, 9, 10, 11, 12, 13, 14, 15, 16] rfl rfl (by decide) (by decide) hk1 hFc hP1 hD1
  have hP : va_P D cls (LI ca ad ae o od S9 v9 f9 g) H1 := hP
  have hD : va_D (LA s) (LI ca ad ae o od S9 v9 f9 g) := hD
  clear hz1 hk1 hP1 hD1 hPc hDc hFc
  generalize H1 = H at hP hS ⊢
  refine lv_istore (lv' := [(7, .int b9), (6, .int k9), (0, .ref b), (1, .ref (ad 0)), (2, .ref (ae 0)), (3, .ref o), (4, .ref od), (5, .int (nI i))]) hx hb d_law_505 hl (by decide) rfl (fun ls hl => ?_)
  obtain ⟨hth, hJ9, hans⟩ := hr9 b9 v9 hq
  refine lv_aload_n hx hb d_law_507 rfl (lv_at hl 4 rfl) ?_
  have hPc := hP.sub (ws' := wR ca ae v9) [17, 18, 19, 20, 21, 22, 23, 24, 25, 26, 27, 28, 29, 30, 31, 32, 33, 34, 35] rfl
  have hDc := hD.sub (ws' := wR ca ae v9) [17, 18, 19, 20, 21, 22, 23, 24, 25, 26, 27, 28, 29, 30, 31, 32, 33, 34, 35] (by decide) rfl
  have hFc := va_free (wc := wR ca ae v9) hD hS hA [17, 18, 19, 20, 21, 22, 23, 24, 25, 26, 27, 28, 29, 30, 31, 32, 33, 34, 35] rfl
  refine va_calli (va_runV (As := []) (rest := []) ⟨hx, hb, hml, hown, hw⟩ (c_R_thrown l D ca ae H.size v9 (fun r u => r = v9.1 0 0 ∧ u = v9) ⟨rfl, rfl⟩) (cwV 0 hw (tG_g gv_law_86) rfl rfl rfl (by decide +kernel) ⟨Nat.le_of_ble_eq_true rfl, Nat.le_of_ble_eq_true rfl⟩) ⟨xPc.blind, va_recv hK hP (ci := 4) rfl (q0 := 17) rfl, xPc.pre hK hN hPc hDc⟩ rfl rfl hl.1 rfl (lv_room (Nat.le_of_ble_eq_true rfl)) d_law_508 ⟨show cells + 2 + 0 ≤ 663321 by omega, show slots + 12 + 0 ≤ 7106140 by omega⟩) hS (fun q _ h => hFc q h) hFc (fun t9 v8 t H1 locs ht hvm hq hB hz1 hk1 hS => ?_)
  obtain ⟨hP1, hD1⟩ := hB
  rw [ht] at hP1
  obtain ⟨hP, hD⟩ := va_join (wr := (o, .inl (ca 1, 1, .inr (.inl f9))) :: (od, .inl (ca 2, 1, .inr (.inr (.inr (.inl g))))) :: wC ca ad S9) (w1 := wR ca ae v8) hP hD [17, 18, 19, 20, 21, 22, 23, 24, 25, 26, 27, 28, 29, 30, 31, 32, 33, 34, 35] [0, 1, 2, 3, 4, 5, 6, 7, 8, 9, 10, 11, 12, 13, 14, 15, 16] rfl rfl (by decide) (by decide) hk1 hFc hP1 hD1
  have hP : va_P D cls (LI ca ad ae o od S9 v8 f9 g) H1 := hP
  have hD : va_D (LA s) (LI ca ad ae o od S9 v8 f9 g) := hD
  clear hz1 hk1 hP1 hD1 hPc hDc hFc
  generalize H1 = H at hP hS ⊢
  obtain ⟨et9, ev9⟩ := hq
  have ev9 : v8 = v9 := ev9
  have hJ9 : J S9 v8 := by rw [ev9]; exact hJ9
  refine lv_iload hx hb d_law_511 (lv_at hl 1 rfl) ?_
  refine lv_icmp_eq (tgt := 518) hx hb d_law_513 (by decide) (fun hc9 => ?_) (fun hc9 => absurd (et9.trans hth) hc9)
  refine lv_iload hx hb d_law_518 (lv_at hl 1 rfl) ?_
  refine lv_if_ne (tgt := 535) hx hb d_law_520 (by decide) (fun hc8 => ?_) (fun hc8 => ?_)
  · refine lv_goto (tgt := 1341) hx hb d_law_535 (by decide) (kk S9 v8 f9 g _ _ _ hJ9 hP hD hS (lv_sub hl [2, 3, 4, 5, 6, 7] rfl))
  have hans := hans hc8
  refine lv_aload_n hx hb d_law_523 rfl (lv_at hl 5 rfl) ?_
  refine lv_iconst (v := 0) hx hb d_law_524 (by decide) ?_
  refine va_lald (D := D) (i := 0) hx hb hK hP 0 1 rfl rfl (by unfold vp_in; decide) d_law_525 ?_
  rw [show (f9) (0 : Int32).toNatClampNeg = b9.toInt64 from hans]
  refine lv_iload hx hb d_law_526 (lv_at hl 0 rfl) ?_
  refine lv_i2l (v := b9.toInt64) hx hb d_law_528 rfl ?_
  refine W.lcmp hx hb d_law_529 ?_
  refine lv_if_eq (tgt := 535) hx hb d_law_530 (by decide) (fun hc7 => ?_) (fun hc7 => absurd (l_same _) hc7)
  refine lv_goto (tgt := 1341) hx hb d_law_535 (by decide) (kk S9 v8 f9 g _ _ _ hJ9 hP hD hS (lv_sub hl [2, 3, 4, 5, 6, 7] rfl))
set_option maxRecDepth 100000 in
set_option maxHeartbeats 4000000 in
theorem lc_ask {p : Program} {l : Launch} {e : Env} {s : State} {m : MethodId} {below : List Frame} {meth : Method} {c : Code} {b L : Nat} {xs : Nat → Int32} {D : va_G} {ca : Nat → ClassId} {ad ae : Nat → Nat} {o od : Nat} {S : SC} {M : SR} {f : Nat → Int64} {g : Nat → UInt64} {H : Heap} {locs : List Loc} {cells slots i : Nat} {ls : Array Slot} (K0 : LK p l s m meth c b L xs D ca) (hJ : J S M) (hi : i + 4 ≤ L) (hc : cells + 2 ≤ 663321 ∧ slots + 12 ≤ 7106140) (hP : va_P D cls (LI ca ad ae o od S M f g) H) (hD : va_D (LA s) (LI ca ad ae o od S M f g)) (hS : va_S (LA s) s.heap H locs) (hl : lv_has ls 9 [(0, .ref b), (1, .ref (ad 0)), (2, .ref (ae 0)), (3, .ref o), (4, .ref od), (5, .int (nI i))]) (kk : ∀ (S : SC) (M : SR) (f : Nat → Int64) (g : Nat → UInt64) (H : Heap) (locs : List Loc) (ls : Array Slot), J S M → va_P D cls (LI ca ad ae o od S M f g) H → va_D (LA s) (LI ca ad ae o od S M f g) → va_S (LA s) s.heap H locs → lv_has ls 9 [(0, .ref b), (1, .ref (ad 0)), (2, .ref (ae 0)), (3, .ref o), (4, .ref od), (5, .int (nI i))] → W p l e room_1 s m #[Value.ref b] below meth c H locs (cells + 2) (slots + 12) (lw_Z below #[Value.ref b] s) (F0 m 1341 ls [])) : W p l e room_1 s m #[Value.ref b] below meth c H locs cells slots (lw_Z below #[Value.ref b] s) (F0 m 538 ls []) := by
  obtain ⟨⟨hl0, hL⟩, ⟨hx, hb, hr, hml, hown, hts, hX, hbl, hlocks, hgv⟩, hK, hN, hX9, hC9, hZ⟩ := K0
  have hA : ∀ q : Nat, s.heap.size ≤ q → LA s q := fun _ h => h
  have hbA : ¬ LA s b := Nat.not_le.mpr hbl
  have hw : ∀ w ∈ tG, w.before #[Value.ref b] s = true := fun w h => hts w (tG_in w h)
  have hown : s.vm.findClass "TrainGuardLaw" = some m.cls := hown
  have ia1 : nI i + 1 = nI (i + 1) := nI_add i 1
  have ia2 : nI i + 2 = nI (i + 2) := nI_add i 2
  have ia3 : nI i + 3 = nI (i + 3) := nI_add i 3
  have iv1 : vp_in (nI (i + 1)) L := vp_in_nI (by omega) (by omega)
  have iv2 : vp_in (nI (i + 2)) L := vp_in_nI (by omega) (by omega)
  have iv3 : vp_in (nI (i + 3)) L := vp_in_nI (by omega) (by omega)
  have ic1 : (nI (i + 1)).toNatClampNeg = i + 1 := nI_clamp (by omega)
  have ic2 : (nI (i + 2)).toNatClampNeg = i + 2 := nI_clamp (by omega)
  have ic3 : (nI (i + 3)).toNatClampNeg = i + 3 := nI_clamp (by omega)
  refine lv_aload_n hx hb d_law_538 rfl (lv_at hl 1 rfl) ?_
  refine lv_aload_n hx hb d_law_539 rfl (lv_at hl 0 rfl) ?_
  refine lv_iload hx hb d_law_540 (lv_at hl 5 rfl) ?_
  refine lv_iconst (v := 1) hx hb d_law_542 (by decide) ?_
  refine lv_iadd hx hb d_law_543 ?_
  rw [ia1]
  refine va_sld hx hb hX hbl hbA hS iv1 d_law_544 ?_
  rw [ic1]
  refine lv_aload_n hx hb d_law_545 rfl (lv_at hl 0 rfl) ?_
  refine lv_iload hx hb d_law_546 (lv_at hl 5 rfl) ?_
  refine lv_iconst (v := 2) hx hb d_law_548 (by decide) ?_
  refine lv_iadd hx hb d_law_549 ?_
  rw [ia2]
  refine va_sld hx hb hX hbl hbA hS iv2 d_law_550 ?_
  rw [ic2]
  refine lv_aload_n hx hb d_law_551 rfl (lv_at hl 3 rfl) ?_
  obtain ⟨Q9, hQ9, hh9⟩ := h_join (wG := w_G_ask S ((xs (i + 1))) ((xs (i + 2)))) (wR := w_R_ask M ((xs (i + 1))) ((xs (i + 2)))) f (j_ask hJ)
  have hQ9 : w_W_ask (S, f) ((xs (i + 1))) ((xs (i + 2))) Q9 := hQ9
  have hPc := hP.sub (ws' := wHl ca ad o (S, f)) [0, 2, 3, 4, 5, 6, 7, 8, 9, 10, 11, 12, 13, 14, 15, 16] rfl
  have hDc := hD.sub (ws' := wHl ca ad o (S, f)) [0, 2, 3, 4, 5, 6, 7, 8, 9, 10, 11, 12, 13, 14, 15, 16] (by decide) rfl
  have hFc := va_free (wc := wHl ca ad o (S, f)) hD hS hA [0, 2, 3, 4, 5, 6, 7, 8, 9, 10, 11, 12, 13, 14, 15, 16] rfl
  refine va_calli (vx_runSW (As := [.ref (ad 0), .int (xs (i + 1)), .int (xs (i + 2)), .ref o]) (rest := []) ⟨hx, hb, hml, hown, hw⟩ (c_W_ask l hl0 D ca ad o H.size (S, f) ((xs (i + 1))) ((xs (i + 2))) Q9 hQ9) (vx_cwSW 4 hw (tG_g gs_law_105) rfl rfl rfl (by decide +kernel) ⟨Nat.le_of_ble_eq_true rfl, Nat.le_of_ble_eq_true rfl⟩) ⟨xPh.blind, xPh.pre hK hN hPc hDc hX9 (hZ.now hS hA hDc) hC9⟩ rfl rfl hl.1 rfl (lv_room (Nat.le_of_ble_eq_true rfl)) d_law_552 ⟨show cells + 2 ≤ 663321 by omega, show slots + 12 ≤ 7106140 by omega⟩) hS (fun q _ h => hFc q h) hFc (fun k9 T9 t H1 locs ht hvm hq9 hB hz1 hk1 hS => ?_)
  obtain ⟨S9, f9⟩ := T9
  obtain ⟨hP1, hD1⟩ := hB
  rw [ht] at hP1
  obtain ⟨hP, hD⟩ := va_join (wr := (od, .inl (ca 2, 1, .inr (.inr (.inr (.inl g))))) :: wR ca ae M) (w1 := wHl ca ad o (S9, f9)) hP hD [0, 2, 3, 4, 5, 6, 7, 8, 9, 10, 11, 12, 13, 14, 15, 16] [1, 17, 18, 19, 20, 21, 22, 23, 24, 25, 26, 27, 28, 29, 30, 31, 32, 33, 34, 35] rfl rfl (by decide) (by decide) hk1 hFc hP1 hD1
  have hP := hP.sub (ws' := LI ca ad ae o od S9 M f9 g) [20, 0, 21, 22, 23, 24, 25, 26, 27, 28, 29, 30, 31, 32, 33, 34, 35, 1, 2, 3, 4, 5, 6, 7, 8, 9, 10, 11, 12, 13, 14, 15, 16, 17, 18, 19] rfl
  have hD := hD.sub (ws' := LI ca ad ae o od S9 M f9 g) [20, 0, 21, 22, 23, 24, 25, 26, 27, 28, 29, 30, 31, 32, 33, 34, 35, 1, 2, 3, 4, 5, 6, 7, 8, 9, 10, 11, 12, 13, 14, 15, 16, 17, 18, 19] (by decide) rfl
  refine W.widen (k := cells + 2) (n := slots + 12) (by omega) (by omega) ?_
  obtain ⟨R9, hR9, hr9⟩ := hh9 k9 (S9, f9) hq9
  clear hz1 hk1 hP1 hD1 hPc hDc hFc
  generalize H1 = H at hP hS ⊢
  refine lv_istore (lv' := [(6, .int k9), (0, .ref b), (1, .ref (ad 0)), (2, .ref (ae 0)), (3, .ref o), (4, .ref od), (5, .int (nI i))]) hx hb d_law_555 hl (by decide) rfl (fun ls hl => ?_)
  refine lv_aload_n hx hb d_law_557 rfl (lv_at hl 3 rfl) ?_
  refine lv_aload_n hx hb d_law_558 rfl (lv_at hl 1 rfl) ?_
  refine lv_iload hx hb d_law_559 (lv_at hl 6 rfl) ?_
  refine lv_iconst (v := 1) hx hb d_law_561 (by decide) ?_
  refine lv_iadd hx hb d_law_562 ?_
  rw [ia1]
  refine va_sld hx hb hX hbl hbA hS iv1 d_law_563 ?_
  rw [ic1]
  refine lv_aload_n hx hb d_law_564 rfl (lv_at hl 1 rfl) ?_
  refine lv_iload hx hb d_law_565 (lv_at hl 6 rfl) ?_
  refine lv_iconst (v := 2) hx hb d_law_567 (by decide) ?_
  refine lv_iadd hx hb d_law_568 ?_
  rw [ia2]
  refine va_sld hx hb hX hbl hbA hS iv2 d_law_569 ?_
  rw [ic2]
  have hPc := hP.sub (ws' := wR ca ae M) [17, 18, 19, 20, 21, 22, 23, 24, 25, 26, 27, 28, 29, 30, 31, 32, 33, 34, 35] rfl
  have hDc := hD.sub (ws' := wR ca ae M) [17, 18, 19, 20, 21, 22, 23, 24, 25, 26, 27, 28, 29, 30, 31, 32, 33, 34, 35] (by decide) rfl
  have hFc := va_free (wc := wR ca ae M) hD hS hA [17, 18, 19, 20, 21, 22, 23, 24, 25, 26, 27, 28, 29, 30, 31, 32, 33, 34, 35] rfl
  refine va_calli (va_runV (As := [.int (xs (i + 1)), .int (xs (i + 2))]) (rest := []) ⟨hx, hb, hml, hown, hw⟩ (c_R_ask l D ca ae H.size M ((xs (i + 1))) ((xs (i + 2))) R9 hR9) (cwV 2 hw (tG_g gv_law_108) rfl rfl rfl (by decide +kernel) ⟨Nat.le_of_ble_eq_true rfl, Nat.le_of_ble_eq_true rfl⟩) ⟨xPc.blind, va_recv hK hP (ci := 4) rfl (q0 := 17) rfl, xPc.pre hK hN hPc hDc⟩ rfl rfl hl.1 rfl (lv_room (Nat.le_of_ble_eq_true rfl)) d_law_570 ⟨show cells + 2 + 0 ≤ 663321 by omega, show slots + 12 + 0 ≤ 7106140 by omega⟩) hS (fun q _ h => hFc q h) hFc (fun b9 v9 t H1 locs ht hvm hq hB hz1 hk1 hS => ?_)
  obtain ⟨hP1, hD1⟩ := hB
  rw [ht] at hP1
  obtain ⟨hP, hD⟩ := va_join (wr := (o, .inl (ca 1, 1, .inr (.inl f9))) :: (od, .inl (ca 2, 1, .inr (.inr (.inr (.inl g))))) :: wC ca ad S9) (w1 := wR ca ae v9) hP hD [17, 18, 19, 20, 21, 22, 23, 24, 25, 26, 27, 28, 29, 30, 31, 32, 33, 34, 35] [0, 1, 2, 3, 4, 5, 6, 7, 8, 9, 10, 11, 12, 13, 14, 15, 16] rfl rfl (by decide) (by decide) hk1 hFc hP1 hD1
  have hP : va_P D cls (LI ca ad ae o od S9 v9 f9 g) H1 := hP
  have hD : va_D (LA s) (LI ca ad ae o od S9 v9 f9 g) := hD
  clear hz1 hk1 hP1 hD1 hPc hDc hFc
  generalize H1 = H at hP hS ⊢
  refine lv_istore (lv' := [(7, .int b9), (6, .int k9), (0, .ref b), (1, .ref (ad 0)), (2, .ref (ae 0)), (3, .ref o), (4, .ref od), (5, .int (nI i))]) hx hb d_law_573 hl (by decide) rfl (fun ls hl => ?_)
  obtain ⟨hth, hJ9, hans⟩ := hr9 b9 v9 hq
  refine lv_aload_n hx hb d_law_575 rfl (lv_at hl 4 rfl) ?_
  have hPc := hP.sub (ws' := wR ca ae v9) [17, 18, 19, 20, 21, 22, 23, 24, 25, 26, 27, 28, 29, 30, 31, 32, 33, 34, 35] rfl
  have hDc := hD.sub (ws' := wR ca ae v9) [17, 18, 19, 20, 21, 22, 23, 24, 25, 26, 27, 28, 29, 30, 31, 32, 33, 34, 35] (by decide) rfl
  have hFc := va_free (wc := wR ca ae v9) hD hS hA [17, 18, 19, 20, 21, 22, 23, 24, 25, 26, 27, 28, 29, 30, 31, 32, 33, 34, 35] rfl
  refine va_calli (va_runV (As := []) (rest := []) ⟨hx, hb, hml, hown, hw⟩ (c_R_thrown l D ca ae H.size v9 (fun r u => r = v9.1 0 0 ∧ u = v9) ⟨rfl, rfl⟩) (cwV 0 hw (tG_g gv_law_86) rfl rfl rfl (by decide +kernel) ⟨Nat.le_of_ble_eq_true rfl, Nat.le_of_ble_eq_true rfl⟩) ⟨xPc.blind, va_recv hK hP (ci := 4) rfl (q0 := 17) rfl, xPc.pre hK hN hPc hDc⟩ rfl rfl hl.1 rfl (lv_room (Nat.le_of_ble_eq_true rfl)) d_law_576 ⟨show cells + 2 + 0 ≤ 663321 by omega, show slots + 12 + 0 ≤ 7106140 by omega⟩) hS (fun q _ h => hFc q h) hFc (fun t9 v8 t H1 locs ht hvm hq hB hz1 hk1 hS => ?_)
  obtain ⟨hP1, hD1⟩ := hB
  rw [ht] at hP1
  obtain ⟨hP, hD⟩ := va_join (wr := (o, .inl (ca 1, 1, .inr (.inl f9))) :: (od, .inl (ca 2, 1, .inr (.inr (.inr (.inl g))))) :: wC ca ad S9) (w1 := wR ca ae v8) hP hD [17, 18, 19, 20, 21, 22, 23, 24, 25, 26, 27, 28, 29, 30, 31, 32, 33, 34, 35] [0, 1, 2, 3, 4, 5, 6, 7, 8, 9, 10, 11, 12, 13, 14, 15, 16] rfl rfl (by decide) (by decide) hk1 hFc hP1 hD1
  have hP : va_P D cls (LI ca ad ae o od S9 v8 f9 g) H1 := hP
  have hD : va_D (LA s) (LI ca ad ae o od S9 v8 f9 g) := hD
  clear hz1 hk1 hP1 hD1 hPc hDc hFc
  generalize H1 = H at hP hS ⊢
  obtain ⟨et9, ev9⟩ := hq
  have ev9 : v8 = v9 := ev9
  have hJ9 : J S9 v8 := by rw [ev9]; exact hJ9
  refine lv_iload hx hb d_law_579 (lv_at hl 1 rfl) ?_
  refine lv_icmp_eq (tgt := 586) hx hb d_law_581 (by decide) (fun hc9 => ?_) (fun hc9 => absurd (et9.trans hth) hc9)
  refine lv_iload hx hb d_law_586 (lv_at hl 1 rfl) ?_
  refine lv_if_ne (tgt := 603) hx hb d_law_588 (by decide) (fun hc8 => ?_) (fun hc8 => ?_)
  · refine lv_goto (tgt := 1341) hx hb d_law_603 (by decide) (kk S9 v8 f9 g _ _ _ hJ9 hP hD hS (lv_sub hl [2, 3, 4, 5, 6, 7] rfl))
  have hans := hans hc8
  refine lv_aload_n hx hb d_law_591 rfl (lv_at hl 5 rfl) ?_
  refine lv_iconst (v := 0) hx hb d_law_592 (by decide) ?_
  refine va_lald (D := D) (i := 0) hx hb hK hP 0 1 rfl rfl (by unfold vp_in; decide) d_law_593 ?_
  rw [show (f9) (0 : Int32).toNatClampNeg = b9.toInt64 from hans]
  refine lv_iload hx hb d_law_594 (lv_at hl 0 rfl) ?_
  refine lv_i2l (v := b9.toInt64) hx hb d_law_596 rfl ?_
  refine W.lcmp hx hb d_law_597 ?_
  refine lv_if_eq (tgt := 603) hx hb d_law_598 (by decide) (fun hc7 => ?_) (fun hc7 => absurd (l_same _) hc7)
  refine lv_goto (tgt := 1341) hx hb d_law_603 (by decide) (kk S9 v8 f9 g _ _ _ hJ9 hP hD hS (lv_sub hl [2, 3, 4, 5, 6, 7] rfl))
set_option maxRecDepth 100000 in
set_option maxHeartbeats 4000000 in
theorem lc_stop {p : Program} {l : Launch} {e : Env} {s : State} {m : MethodId} {below : List Frame} {meth : Method} {c : Code} {b L : Nat} {xs : Nat → Int32} {D : va_G} {ca : Nat → ClassId} {ad ae : Nat → Nat} {o od : Nat} {S : SC} {M : SR} {f : Nat → Int64} {g : Nat → UInt64} {H : Heap} {locs : List Loc} {cells slots i : Nat} {ls : Array Slot} (K0 : LK p l s m meth c b L xs D ca) (hJ : J S M) (hi : i + 4 ≤ L) (hc : cells + 2 ≤ 663321 ∧ slots + 12 ≤ 7106140) (hP : va_P D cls (LI ca ad ae o od S M f g) H) (hD : va_D (LA s) (LI ca ad ae o od S M f g)) (hS : va_S (LA s) s.heap H locs) (hl : lv_has ls 9 [(0, .ref b), (1, .ref (ad 0)), (2, .ref (ae 0)), (3, .ref o), (4, .ref od), (5, .int (nI i))]) (kk : ∀ (S : SC) (M : SR) (f : Nat → Int64) (g : Nat → UInt64) (H : Heap) (locs : List Loc) (ls : Array Slot), J S M → va_P D cls (LI ca ad ae o od S M f g) H → va_D (LA s) (LI ca ad ae o od S M f g) → va_S (LA s) s.heap H locs → lv_has ls 9 [(0, .ref b), (1, .ref (ad 0)), (2, .ref (ae 0)), (3, .ref o), (4, .ref od), (5, .int (nI i))] → W p l e room_1 s m #[Value.ref b] below meth c H locs (cells + 2) (slots + 12) (lw_Z below #[Value.ref b] s) (F0 m 1341 ls [])) : W p l e room_1 s m #[Value.ref b] below meth c H locs cells slots (lw_Z below #[Value.ref b] s) (F0 m 606 ls []) := by
  obtain ⟨⟨hl0, hL⟩, ⟨hx, hb, hr, hml, hown, hts, hX, hbl, hlocks, hgv⟩, hK, hN, hX9, hC9, hZ⟩ := K0
  have hA : ∀ q : Nat, s.heap.size ≤ q → LA s q := fun _ h => h
  have hbA : ¬ LA s b := Nat.not_le.mpr hbl
  have hw : ∀ w ∈ tG, w.before #[Value.ref b] s = true := fun w h => hts w (tG_in w h)
  have hown : s.vm.findClass "TrainGuardLaw" = some m.cls := hown
  have ia1 : nI i + 1 = nI (i + 1) := nI_add i 1
  have ia2 : nI i + 2 = nI (i + 2) := nI_add i 2
  have ia3 : nI i + 3 = nI (i + 3) := nI_add i 3
  have iv1 : vp_in (nI (i + 1)) L := vp_in_nI (by omega) (by omega)
  have iv2 : vp_in (nI (i + 2)) L := vp_in_nI (by omega) (by omega)
  have iv3 : vp_in (nI (i + 3)) L := vp_in_nI (by omega) (by omega)
  have ic1 : (nI (i + 1)).toNatClampNeg = i + 1 := nI_clamp (by omega)
  have ic2 : (nI (i + 2)).toNatClampNeg = i + 2 := nI_clamp (by omega)
  have ic3 : (nI (i + 3)).toNatClampNeg = i + 3 := nI_clamp (by omega)
  refine lv_aload_n hx hb d_law_606 rfl (lv_at hl 1 rfl) ?_
  refine lv_aload_n hx hb d_law_607 rfl (lv_at hl 0 rfl) ?_
  refine lv_iload hx hb d_law_608 (lv_at hl 5 rfl) ?_
  refine lv_iconst (v := 1) hx hb d_law_610 (by decide) ?_
  refine lv_iadd hx hb d_law_611 ?_
  rw [ia1]
  refine va_sld hx hb hX hbl hbA hS iv1 d_law_612 ?_
  rw [ic1]
  refine lv_aload_n hx hb d_law_613 rfl (lv_at hl 3 rfl) ?_
  obtain ⟨Q9, hQ9, hh9⟩ := h_join (wG := w_G_stop S ((xs (i + 1)))) (wR := w_R_stop M ((xs (i + 1)))) f (j_stop hJ)
  have hQ9 : w_W_stop (S, f) ((xs (i + 1))) Q9 := hQ9
  have hPc := hP.sub (ws' := wHl ca ad o (S, f)) [0, 2, 3, 4, 5, 6, 7, 8, 9, 10, 11, 12, 13, 14, 15, 16] rfl
  have hDc := hD.sub (ws' := wHl ca ad o (S, f)) [0, 2, 3, 4, 5, 6, 7, 8, 9, 10, 11, 12, 13, 14, 15, 16] (by decide) rfl
  have hFc := va_free (wc := wHl ca ad o (S, f)) hD hS hA [0, 2, 3, 4, 5, 6, 7, 8, 9, 10, 11, 12, 13, 14, 15, 16] rfl
  refine va_calli (vx_runSW (As := [.ref (ad 0), .int (xs (i + 1)), .ref o]) (rest := []) ⟨hx, hb, hml, hown, hw⟩ (c_W_stop l hl0 D ca ad o H.size (S, f) ((xs (i + 1))) Q9 hQ9) (vx_cwSW 3 hw (tG_g gs_law_109) rfl rfl rfl (by decide +kernel) ⟨Nat.le_of_ble_eq_true rfl, Nat.le_of_ble_eq_true rfl⟩) ⟨xPh.blind, xPh.pre hK hN hPc hDc hX9 (hZ.now hS hA hDc) hC9⟩ rfl rfl hl.1 rfl (lv_room (Nat.le_of_ble_eq_true rfl)) d_law_614 ⟨show cells + 2 ≤ 663321 by omega, show slots + 12 ≤ 7106140 by omega⟩) hS (fun q _ h => hFc q h) hFc (fun k9 T9 t H1 locs ht hvm hq9 hB hz1 hk1 hS => ?_)
  obtain ⟨S9, f9⟩ := T9
  obtain ⟨hP1, hD1⟩ := hB
  rw [ht] at hP1
  obtain ⟨hP, hD⟩ := va_join (wr := (od, .inl (ca 2, 1, .inr (.inr (.inr (.inl g))))) :: wR ca ae M) (w1 := wHl ca ad o (S9, f9)) hP hD [0, 2, 3, 4, 5, 6, 7, 8, 9, 10, 11, 12, 13, 14, 15, 16] [1, 17, 18, 19, 20, 21, 22, 23, 24, 25, 26, 27, 28, 29, 30, 31, 32, 33, 34, 35] rfl rfl (by decide) (by decide) hk1 hFc hP1 hD1
  have hP := hP.sub (ws' := LI ca ad ae o od S9 M f9 g) [20, 0, 21, 22, 23, 24, 25, 26, 27, 28, 29, 30, 31, 32, 33, 34, 35, 1, 2, 3, 4, 5, 6, 7, 8, 9, 10, 11, 12, 13, 14, 15, 16, 17, 18, 19] rfl
  have hD := hD.sub (ws' := LI ca ad ae o od S9 M f9 g) [20, 0, 21, 22, 23, 24, 25, 26, 27, 28, 29, 30, 31, 32, 33, 34, 35, 1, 2, 3, 4, 5, 6, 7, 8, 9, 10, 11, 12, 13, 14, 15, 16, 17, 18, 19] (by decide) rfl
  refine W.widen (k := cells + 2) (n := slots + 12) (by omega) (by omega) ?_
  obtain ⟨R9, hR9, hr9⟩ := hh9 k9 (S9, f9) hq9
  clear hz1 hk1 hP1 hD1 hPc hDc hFc
  generalize H1 = H at hP hS ⊢
  refine lv_istore (lv' := [(6, .int k9), (0, .ref b), (1, .ref (ad 0)), (2, .ref (ae 0)), (3, .ref o), (4, .ref od), (5, .int (nI i))]) hx hb d_law_617 hl (by decide) rfl (fun ls hl => ?_)
  refine lv_aload_n hx hb d_law_619 rfl (lv_at hl 3 rfl) ?_
  refine lv_aload_n hx hb d_law_620 rfl (lv_at hl 1 rfl) ?_
  refine lv_iload hx hb d_law_621 (lv_at hl 6 rfl) ?_
  refine lv_iconst (v := 1) hx hb d_law_623 (by decide) ?_
  refine lv_iadd hx hb d_law_624 ?_
  rw [ia1]
  refine va_sld hx hb hX hbl hbA hS iv1 d_law_625 ?_
  rw [ic1]
  have hPc := hP.sub (ws' := wR ca ae M) [17, 18, 19, 20, 21, 22, 23, 24, 25, 26, 27, 28, 29, 30, 31, 32, 33, 34, 35] rfl
  have hDc := hD.sub (ws' := wR ca ae M) [17, 18, 19, 20, 21, 22, 23, 24, 25, 26, 27, 28, 29, 30, 31, 32, 33, 34, 35] (by decide) rfl
  have hFc := va_free (wc := wR ca ae M) hD hS hA [17, 18, 19, 20, 21, 22, 23, 24, 25, 26, 27, 28, 29, 30, 31, 32, 33, 34, 35] rfl
  refine va_calli (va_runV (As := [.int (xs (i + 1))]) (rest := []) ⟨hx, hb, hml, hown, hw⟩ (c_R_stop l D ca ae H.size M ((xs (i + 1))) R9 hR9) (cwV 1 hw (tG_g gv_law_111) rfl rfl rfl (by decide +kernel) ⟨Nat.le_of_ble_eq_true rfl, Nat.le_of_ble_eq_true rfl⟩) ⟨xPc.blind, va_recv hK hP (ci := 4) rfl (q0 := 17) rfl, xPc.pre hK hN hPc hDc⟩ rfl rfl hl.1 rfl (lv_room (Nat.le_of_ble_eq_true rfl)) d_law_626 ⟨show cells + 2 + 0 ≤ 663321 by omega, show slots + 12 + 0 ≤ 7106140 by omega⟩) hS (fun q _ h => hFc q h) hFc (fun b9 v9 t H1 locs ht hvm hq hB hz1 hk1 hS => ?_)
  obtain ⟨hP1, hD1⟩ := hB
  rw [ht] at hP1
  obtain ⟨hP, hD⟩ := va_join (wr := (o, .inl (ca 1, 1, .inr (.inl f9))) :: (od, .inl (ca 2, 1, .inr (.inr (.inr (.inl g))))) :: wC ca ad S9) (w1 := wR ca ae v9) hP hD [17, 18, 19, 20, 21, 22, 23, 24, 25, 26, 27, 28, 29, 30, 31, 32, 33, 34, 35] [0, 1, 2, 3, 4, 5, 6, 7, 8, 9, 10, 11, 12, 13, 14, 15, 16] rfl rfl (by decide) (by decide) hk1 hFc hP1 hD1
  have hP : va_P D cls (LI ca ad ae o od S9 v9 f9 g) H1 := hP
  have hD : va_D (LA s) (LI ca ad ae o od S9 v9 f9 g) := hD
  clear hz1 hk1 hP1 hD1 hPc hDc hFc
  generalize H1 = H at hP hS ⊢
  refine lv_istore (lv' := [(7, .int b9), (6, .int k9), (0, .ref b), (1, .ref (ad 0)), (2, .ref (ae 0)), (3, .ref o), (4, .ref od), (5, .int (nI i))]) hx hb d_law_629 hl (by decide) rfl (fun ls hl => ?_)
  obtain ⟨hth, hJ9, hans⟩ := hr9 b9 v9 hq
  refine lv_aload_n hx hb d_law_631 rfl (lv_at hl 4 rfl) ?_
  have hPc := hP.sub (ws' := wR ca ae v9) [17, 18, 19, 20, 21, 22, 23, 24, 25, 26, 27, 28, 29, 30, 31, 32, 33, 34, 35] rfl
  have hDc := hD.sub (ws' := wR ca ae v9) [17, 18, 19, 20, 21, 22, 23, 24, 25, 26, 27, 28, 29, 30, 31, 32, 33, 34, 35] (by decide) rfl
  have hFc := va_free (wc := wR ca ae v9) hD hS hA [17, 18, 19, 20, 21, 22, 23, 24, 25, 26, 27, 28, 29, 30, 31, 32, 33, 34, 35] rfl
  refine va_calli (va_runV (As := []) (rest := []) ⟨hx, hb, hml, hown, hw⟩ (c_R_thrown l D ca ae H.size v9 (fun r u => r = v9.1 0 0 ∧ u = v9) ⟨rfl, rfl⟩) (cwV 0 hw (tG_g gv_law_86) rfl rfl rfl (by decide +kernel) ⟨Nat.le_of_ble_eq_true rfl, Nat.le_of_ble_eq_true rfl⟩) ⟨xPc.blind, va_recv hK hP (ci := 4) rfl (q0 := 17) rfl, xPc.pre hK hN hPc hDc⟩ rfl rfl hl.1 rfl (lv_room (Nat.le_of_ble_eq_true rfl)) d_law_632 ⟨show cells + 2 + 0 ≤ 663321 by omega, show slots + 12 + 0 ≤ 7106140 by omega⟩) hS (fun q _ h => hFc q h) hFc (fun t9 v8 t H1 locs ht hvm hq hB hz1 hk1 hS => ?_)
  obtain ⟨hP1, hD1⟩ := hB
  rw [ht] at hP1
  obtain ⟨hP, hD⟩ := va_join (wr := (o, .inl (ca 1, 1, .inr (.inl f9))) :: (od, .inl (ca 2, 1, .inr (.inr (.inr (.inl g))))) :: wC ca ad S9) (w1 := wR ca ae v8) hP hD [17, 18, 19, 20, 21, 22, 23, 24, 25, 26, 27, 28, 29, 30, 31, 32, 33, 34, 35] [0, 1, 2, 3, 4, 5, 6, 7, 8, 9, 10, 11, 12, 13, 14, 15, 16] rfl rfl (by decide) (by decide) hk1 hFc hP1 hD1
  have hP : va_P D cls (LI ca ad ae o od S9 v8 f9 g) H1 := hP
  have hD : va_D (LA s) (LI ca ad ae o od S9 v8 f9 g) := hD
  clear hz1 hk1 hP1 hD1 hPc hDc hFc
  generalize H1 = H at hP hS ⊢
  obtain ⟨et9, ev9⟩ := hq
  have ev9 : v8 = v9 := ev9
  have hJ9 : J S9 v8 := by rw [ev9]; exact hJ9
  refine lv_iload hx hb d_law_635 (lv_at hl 1 rfl) ?_
  refine lv_icmp_eq (tgt := 642) hx hb d_law_637 (by decide) (fun hc9 => ?_) (fun hc9 => absurd (et9.trans hth) hc9)
  refine lv_iload hx hb d_law_642 (lv_at hl 1 rfl) ?_
  refine lv_if_ne (tgt := 659) hx hb d_law_644 (by decide) (fun hc8 => ?_) (fun hc8 => ?_)
  · refine lv_goto (tgt := 1341) hx hb d_law_659 (by decide) (kk S9 v8 f9 g _ _ _ hJ9 hP hD hS (lv_sub hl [2, 3, 4, 5, 6, 7] rfl))
  have hans := hans hc8
  refine lv_aload_n hx hb d_law_647 rfl (lv_at hl 5 rfl) ?_
  refine lv_iconst (v := 0) hx hb d_law_648 (by decide) ?_
  refine va_lald (D := D) (i := 0) hx hb hK hP 0 1 rfl rfl (by unfold vp_in; decide) d_law_649 ?_
  rw [show (f9) (0 : Int32).toNatClampNeg = b9.toInt64 from hans]
  refine lv_iload hx hb d_law_650 (lv_at hl 0 rfl) ?_
  refine lv_i2l (v := b9.toInt64) hx hb d_law_652 rfl ?_
  refine W.lcmp hx hb d_law_653 ?_
  refine lv_if_eq (tgt := 659) hx hb d_law_654 (by decide) (fun hc7 => ?_) (fun hc7 => absurd (l_same _) hc7)
  refine lv_goto (tgt := 1341) hx hb d_law_659 (by decide) (kk S9 v8 f9 g _ _ _ hJ9 hP hD hS (lv_sub hl [2, 3, 4, 5, 6, 7] rfl))
set_option maxRecDepth 100000 in
set_option maxHeartbeats 4000000 in
theorem lc_take {p : Program} {l : Launch} {e : Env} {s : State} {m : MethodId} {below : List Frame} {meth : Method} {c : Code} {b L : Nat} {xs : Nat → Int32} {D : va_G} {ca : Nat → ClassId} {ad ae : Nat → Nat} {o od : Nat} {S : SC} {M : SR} {f : Nat → Int64} {g : Nat → UInt64} {H : Heap} {locs : List Loc} {cells slots i : Nat} {ls : Array Slot} (K0 : LK p l s m meth c b L xs D ca) (hJ : J S M) (hi : i + 4 ≤ L) (hc : cells + 2 ≤ 663321 ∧ slots + 12 ≤ 7106140) (hP : va_P D cls (LI ca ad ae o od S M f g) H) (hD : va_D (LA s) (LI ca ad ae o od S M f g)) (hS : va_S (LA s) s.heap H locs) (hl : lv_has ls 9 [(0, .ref b), (1, .ref (ad 0)), (2, .ref (ae 0)), (3, .ref o), (4, .ref od), (5, .int (nI i))]) (kk : ∀ (S : SC) (M : SR) (f : Nat → Int64) (g : Nat → UInt64) (H : Heap) (locs : List Loc) (ls : Array Slot), J S M → va_P D cls (LI ca ad ae o od S M f g) H → va_D (LA s) (LI ca ad ae o od S M f g) → va_S (LA s) s.heap H locs → lv_has ls 9 [(0, .ref b), (1, .ref (ad 0)), (2, .ref (ae 0)), (3, .ref o), (4, .ref od), (5, .int (nI i))] → W p l e room_1 s m #[Value.ref b] below meth c H locs (cells + 2) (slots + 12) (lw_Z below #[Value.ref b] s) (F0 m 1341 ls [])) : W p l e room_1 s m #[Value.ref b] below meth c H locs cells slots (lw_Z below #[Value.ref b] s) (F0 m 662 ls []) := by
  obtain ⟨⟨hl0, hL⟩, ⟨hx, hb, hr, hml, hown, hts, hX, hbl, hlocks, hgv⟩, hK, hN, hX9, hC9, hZ⟩ := K0
  have hA : ∀ q : Nat, s.heap.size ≤ q → LA s q := fun _ h => h
  have hbA : ¬ LA s b := Nat.not_le.mpr hbl
  have hw : ∀ w ∈ tG, w.before #[Value.ref b] s = true := fun w h => hts w (tG_in w h)
  have hown : s.vm.findClass "TrainGuardLaw" = some m.cls := hown
  have ia1 : nI i + 1 = nI (i + 1) := nI_add i 1
  have ia2 : nI i + 2 = nI (i + 2) := nI_add i 2
  have ia3 : nI i + 3 = nI (i + 3) := nI_add i 3
  have iv1 : vp_in (nI (i + 1)) L := vp_in_nI (by omega) (by omega)
  have iv2 : vp_in (nI (i + 2)) L := vp_in_nI (by omega) (by omega)
  have iv3 : vp_in (nI (i + 3)) L := vp_in_nI (by omega) (by omega)
  have ic1 : (nI (i + 1)).toNatClampNeg = i + 1 := nI_clamp (by omega)
  have ic2 : (nI (i + 2)).toNatClampNeg = i + 2 := nI_clamp (by omega)
  have ic3 : (nI (i + 3)).toNatClampNeg = i + 3 := nI_clamp (by omega)
  refine lv_aload_n hx hb d_law_662 rfl (lv_at hl 1 rfl) ?_
  refine lv_aload_n hx hb d_law_663 rfl (lv_at hl 0 rfl) ?_
  refine lv_iload hx hb d_law_664 (lv_at hl 5 rfl) ?_
  refine lv_iconst (v := 1) hx hb d_law_666 (by decide) ?_
  refine lv_iadd hx hb d_law_667 ?_
  rw [ia1]
  refine va_sld hx hb hX hbl hbA hS iv1 d_law_668 ?_
  rw [ic1]
  refine lv_aload_n hx hb d_law_669 rfl (lv_at hl 0 rfl) ?_
  refine lv_iload hx hb d_law_670 (lv_at hl 5 rfl) ?_
  refine lv_iconst (v := 2) hx hb d_law_672 (by decide) ?_
  refine lv_iadd hx hb d_law_673 ?_
  rw [ia2]
  refine va_sld hx hb hX hbl hbA hS iv2 d_law_674 ?_
  rw [ic2]
  refine lv_aload_n hx hb d_law_675 rfl (lv_at hl 3 rfl) ?_
  obtain ⟨Q9, hQ9, hh9⟩ := h_join (wG := w_G_take S ((xs (i + 1))) ((xs (i + 2)))) (wR := w_R_take M ((xs (i + 1))) ((xs (i + 2)))) f (j_take hJ)
  have hQ9 : w_W_take (S, f) ((xs (i + 1))) ((xs (i + 2))) Q9 := hQ9
  have hPc := hP.sub (ws' := wHl ca ad o (S, f)) [0, 2, 3, 4, 5, 6, 7, 8, 9, 10, 11, 12, 13, 14, 15, 16] rfl
  have hDc := hD.sub (ws' := wHl ca ad o (S, f)) [0, 2, 3, 4, 5, 6, 7, 8, 9, 10, 11, 12, 13, 14, 15, 16] (by decide) rfl
  have hFc := va_free (wc := wHl ca ad o (S, f)) hD hS hA [0, 2, 3, 4, 5, 6, 7, 8, 9, 10, 11, 12, 13, 14, 15, 16] rfl
  refine va_calli (vx_runSW (As := [.ref (ad 0), .int (xs (i + 1)), .int (xs (i + 2)), .ref o]) (rest := []) ⟨hx, hb, hml, hown, hw⟩ (c_W_take l hl0 D ca ad o H.size (S, f) ((xs (i + 1))) ((xs (i + 2))) Q9 hQ9) (vx_cwSW 4 hw (tG_g gs_law_112) rfl rfl rfl (by decide +kernel) ⟨Nat.le_of_ble_eq_true rfl, Nat.le_of_ble_eq_true rfl⟩) ⟨xPh.blind, xPh.pre hK hN hPc hDc hX9 (hZ.now hS hA hDc) hC9⟩ rfl rfl hl.1 rfl (lv_room (Nat.le_of_ble_eq_true rfl)) d_law_676 ⟨show cells + 2 ≤ 663321 by omega, show slots + 12 ≤ 7106140 by omega⟩) hS (fun q _ h => hFc q h) hFc (fun k9 T9 t H1 locs ht hvm hq9 hB hz1 hk1 hS => ?_)
  obtain ⟨S9, f9⟩ := T9
  obtain ⟨hP1, hD1⟩ := hB
  rw [ht] at hP1
  obtain ⟨hP, hD⟩ := va_join (wr := (od, .inl (ca 2, 1, .inr (.inr (.inr (.inl g))))) :: wR ca ae M) (w1 := wHl ca ad o (S9, f9)) hP hD [0, 2, 3, 4, 5, 6, 7, 8, 9, 10, 11, 12, 13, 14, 15, 16] [1, 17, 18, 19, 20, 21, 22, 23, 24, 25, 26, 27, 28, 29, 30, 31, 32, 33, 34, 35] rfl rfl (by decide) (by decide) hk1 hFc hP1 hD1
  have hP := hP.sub (ws' := LI ca ad ae o od S9 M f9 g) [20, 0, 21, 22, 23, 24, 25, 26, 27, 28, 29, 30, 31, 32, 33, 34, 35, 1, 2, 3, 4, 5, 6, 7, 8, 9, 10, 11, 12, 13, 14, 15, 16, 17, 18, 19] rfl
  have hD := hD.sub (ws' := LI ca ad ae o od S9 M f9 g) [20, 0, 21, 22, 23, 24, 25, 26, 27, 28, 29, 30, 31, 32, 33, 34, 35, 1, 2, 3, 4, 5, 6, 7, 8, 9, 10, 11, 12, 13, 14, 15, 16, 17, 18, 19] (by decide) rfl
  refine W.widen (k := cells + 2) (n := slots + 12) (by omega) (by omega) ?_
  obtain ⟨R9, hR9, hr9⟩ := hh9 k9 (S9, f9) hq9
  clear hz1 hk1 hP1 hD1 hPc hDc hFc
  generalize H1 = H at hP hS ⊢
  refine lv_istore (lv' := [(6, .int k9), (0, .ref b), (1, .ref (ad 0)), (2, .ref (ae 0)), (3, .ref o), (4, .ref od), (5, .int (nI i))]) hx hb d_law_679 hl (by decide) rfl (fun ls hl => ?_)
  refine lv_aload_n hx hb d_law_681 rfl (lv_at hl 3 rfl) ?_
  refine lv_aload_n hx hb d_law_682 rfl (lv_at hl 1 rfl) ?_
  refine lv_iload hx hb d_law_683 (lv_at hl 6 rfl) ?_
  refine lv_iconst (v := 1) hx hb d_law_685 (by decide) ?_
  refine lv_iadd hx hb d_law_686 ?_
  rw [ia1]
  refine va_sld hx hb hX hbl hbA hS iv1 d_law_687 ?_
  rw [ic1]
  refine lv_aload_n hx hb d_law_688 rfl (lv_at hl 1 rfl) ?_
  refine lv_iload hx hb d_law_689 (lv_at hl 6 rfl) ?_
  refine lv_iconst (v := 2) hx hb d_law_691 (by decide) ?_
  refine lv_iadd hx hb d_law_692 ?_
  rw [ia2]
  refine va_sld hx hb hX hbl hbA hS iv2 d_law_693 ?_
  rw [ic2]
  have hPc := hP.sub (ws' := wR ca ae M) [17, 18, 19, 20, 21, 22, 23, 24, 25, 26, 27, 28, 29, 30, 31, 32, 33, 34, 35] rfl
  have hDc := hD.sub (ws' := wR ca ae M) [17, 18, 19, 20, 21, 22, 23, 24, 25, 26, 27, 28, 29, 30, 31, 32, 33, 34, 35] (by decide) rfl
  have hFc := va_free (wc := wR ca ae M) hD hS hA [17, 18, 19, 20, 21, 22, 23, 24, 25, 26, 27, 28, 29, 30, 31, 32, 33, 34, 35] rfl
  refine va_calli (va_runV (As := [.int (xs (i + 1)), .int (xs (i + 2))]) (rest := []) ⟨hx, hb, hml, hown, hw⟩ (c_R_take l D ca ae H.size M ((xs (i + 1))) ((xs (i + 2))) R9 hR9) (cwV 2 hw (tG_g gv_law_114) rfl rfl rfl (by decide +kernel) ⟨Nat.le_of_ble_eq_true rfl, Nat.le_of_ble_eq_true rfl⟩) ⟨xPc.blind, va_recv hK hP (ci := 4) rfl (q0 := 17) rfl, xPc.pre hK hN hPc hDc⟩ rfl rfl hl.1 rfl (lv_room (Nat.le_of_ble_eq_true rfl)) d_law_694 ⟨show cells + 2 + 0 ≤ 663321 by omega, show slots + 12 + 0 ≤ 7106140 by omega⟩) hS (fun q _ h => hFc q h) hFc (fun b9 v9 t H1 locs ht hvm hq hB hz1 hk1 hS => ?_)
  obtain ⟨hP1, hD1⟩ := hB
  rw [ht] at hP1
  obtain ⟨hP, hD⟩ := va_join (wr := (o, .inl (ca 1, 1, .inr (.inl f9))) :: (od, .inl (ca 2, 1, .inr (.inr (.inr (.inl g))))) :: wC ca ad S9) (w1 := wR ca ae v9) hP hD [17, 18, 19, 20, 21, 22, 23, 24, 25, 26, 27, 28, 29, 30, 31, 32, 33, 34, 35] [0, 1, 2, 3, 4, 5, 6, 7, 8, 9, 10, 11, 12, 13, 14, 15, 16] rfl rfl (by decide) (by decide) hk1 hFc hP1 hD1
  have hP : va_P D cls (LI ca ad ae o od S9 v9 f9 g) H1 := hP
  have hD : va_D (LA s) (LI ca ad ae o od S9 v9 f9 g) := hD
  clear hz1 hk1 hP1 hD1 hPc hDc hFc
  generalize H1 = H at hP hS ⊢
  refine lv_istore (lv' := [(7, .int b9), (6, .int k9), (0, .ref b), (1, .ref (ad 0)), (2, .ref (ae 0)), (3, .ref o), (4, .ref od), (5, .int (nI i))]) hx hb d_law_697 hl (by decide) rfl (fun ls hl => ?_)
  obtain ⟨hth, hJ9, hans⟩ := hr9 b9 v9 hq
  refine lv_aload_n hx hb d_law_699 rfl (lv_at hl 4 rfl) ?_
  have hPc := hP.sub (ws' := wR ca ae v9) [17, 18, 19, 20, 21, 22, 23, 24, 25, 26, 27, 28, 29, 30, 31, 32, 33, 34, 35] rfl
  have hDc := hD.sub (ws' := wR ca ae v9) [17, 18, 19, 20, 21, 22, 23, 24, 25, 26, 27, 28, 29, 30, 31, 32, 33, 34, 35] (by decide) rfl
  have hFc := va_free (wc := wR ca ae v9) hD hS hA [17, 18, 19, 20, 21, 22, 23, 24, 25, 26, 27, 28, 29, 30, 31, 32, 33, 34, 35] rfl
  refine va_calli (va_runV (As := []) (rest := []) ⟨hx, hb, hml, hown, hw⟩ (c_R_thrown l D ca ae H.size v9 (fun r u => r = v9.1 0 0 ∧ u = v9) ⟨rfl, rfl⟩) (cwV 0 hw (tG_g gv_law_86) rfl rfl rfl (by decide +kernel) ⟨Nat.le_of_ble_eq_true rfl, Nat.le_of_ble_eq_true rfl⟩) ⟨xPc.blind, va_recv hK hP (ci := 4) rfl (q0 := 17) rfl, xPc.pre hK hN hPc hDc⟩ rfl rfl hl.1 rfl (lv_room (Nat.le_of_ble_eq_true rfl)) d_law_700 ⟨show cells + 2 + 0 ≤ 663321 by omega, show slots + 12 + 0 ≤ 7106140 by omega⟩) hS (fun q _ h => hFc q h) hFc (fun t9 v8 t H1 locs ht hvm hq hB hz1 hk1 hS => ?_)
  obtain ⟨hP1, hD1⟩ := hB
  rw [ht] at hP1
  obtain ⟨hP, hD⟩ := va_join (wr := (o, .inl (ca 1, 1, .inr (.inl f9))) :: (od, .inl (ca 2, 1, .inr (.inr (.inr (.inl g))))) :: wC ca ad S9) (w1 := wR ca ae v8) hP hD [17, 18, 19, 20, 21, 22, 23, 24, 25, 26, 27, 28, 29, 30, 31, 32, 33, 34, 35] [0, 1, 2, 3, 4, 5, 6, 7, 8, 9, 10, 11, 12, 13, 14, 15, 16] rfl rfl (by decide) (by decide) hk1 hFc hP1 hD1
  have hP : va_P D cls (LI ca ad ae o od S9 v8 f9 g) H1 := hP
  have hD : va_D (LA s) (LI ca ad ae o od S9 v8 f9 g) := hD
  clear hz1 hk1 hP1 hD1 hPc hDc hFc
  generalize H1 = H at hP hS ⊢
  obtain ⟨et9, ev9⟩ := hq
  have ev9 : v8 = v9 := ev9
  have hJ9 : J S9 v8 := by rw [ev9]; exact hJ9
  refine lv_iload hx hb d_law_703 (lv_at hl 1 rfl) ?_
  refine lv_icmp_eq (tgt := 710) hx hb d_law_705 (by decide) (fun hc9 => ?_) (fun hc9 => absurd (et9.trans hth) hc9)
  refine lv_iload hx hb d_law_710 (lv_at hl 1 rfl) ?_
  refine lv_if_ne (tgt := 727) hx hb d_law_712 (by decide) (fun hc8 => ?_) (fun hc8 => ?_)
  · refine lv_goto (tgt := 1341) hx hb d_law_727 (by decide) (kk S9 v8 f9 g _ _ _ hJ9 hP hD hS (lv_sub hl [2, 3, 4, 5, 6, 7] rfl))
  have hans := hans hc8
  refine lv_aload_n hx hb d_law_715 rfl (lv_at hl 5 rfl) ?_
  refine lv_iconst (v := 0) hx hb d_law_716 (by decide) ?_
  refine va_lald (D := D) (i := 0) hx hb hK hP 0 1 rfl rfl (by unfold vp_in; decide) d_law_717 ?_
  rw [show (f9) (0 : Int32).toNatClampNeg = b9.toInt64 from hans]
  refine lv_iload hx hb d_law_718 (lv_at hl 0 rfl) ?_
  refine lv_i2l (v := b9.toInt64) hx hb d_law_720 rfl ?_
  refine W.lcmp hx hb d_law_721 ?_
  refine lv_if_eq (tgt := 727) hx hb d_law_722 (by decide) (fun hc7 => ?_) (fun hc7 => absurd (l_same _) hc7)
  refine lv_goto (tgt := 1341) hx hb d_law_727 (by decide) (kk S9 v8 f9 g _ _ _ hJ9 hP hD hS (lv_sub hl [2, 3, 4, 5, 6, 7] rfl))
