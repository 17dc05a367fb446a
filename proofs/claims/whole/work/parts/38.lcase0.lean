-- the law: section, restrict, release, train
set_option maxRecDepth 100000 in
set_option maxHeartbeats 4000000 in
theorem lc_section {p : Program} {l : Launch} {e : Env} {s : State} {m : MethodId} {below : List Frame} {meth : Method} {c : Code} {b L : Nat} {xs : Nat → Int32} {D : va_G} {ca : Nat → ClassId} {ad ae : Nat → Nat} {o od : Nat} {S : SC} {M : SR} {f : Nat → Int64} {g : Nat → UInt64} {H : Heap} {locs : List Loc} {cells slots i : Nat} {ls : Array Slot} (K0 : LK p l s m meth c b L xs D ca) (hJ : J S M) (hi : i + 4 ≤ L) (hc : cells + 2 ≤ 663321 ∧ slots + 12 ≤ 7106140) (hP : va_P D cls (LI ca ad ae o od S M f g) H) (hD : va_D (LA s) (LI ca ad ae o od S M f g)) (hS : va_S (LA s) s.heap H locs) (hl : lv_has ls 9 [(0, .ref b), (1, .ref (ad 0)), (2, .ref (ae 0)), (3, .ref o), (4, .ref od), (5, .int (nI i))]) (kk : ∀ (S : SC) (M : SR) (f : Nat → Int64) (g : Nat → UInt64) (H : Heap) (locs : List Loc) (ls : Array Slot), J S M → va_P D cls (LI ca ad ae o od S M f g) H → va_D (LA s) (LI ca ad ae o od S M f g) → va_S (LA s) s.heap H locs → lv_has ls 9 [(0, .ref b), (1, .ref (ad 0)), (2, .ref (ae 0)), (3, .ref o), (4, .ref od), (5, .int (nI i))] → W p l e room_1 s m #[Value.ref b] below meth c H locs (cells + 2) (slots + 12) (lw_Z below #[Value.ref b] s) (F0 m 1341 ls [])) : W p l e room_1 s m #[Value.ref b] below meth c H locs cells slots (lw_Z below #[Value.ref b] s) (F0 m 128 ls []) := by
  obtain ⟨⟨hl0, hL⟩, ⟨hx, hb, hr, hml, hown, hts, hX, hbl, hlocks, hgv⟩, hK, hN, hX9, hC9, hZ⟩ := K0
  have hA : ∀ q : Nat, s.heap.size ≤ q → LA s q := fun _ h => h
  have hbA : ¬ LA s b := Nat.not_le.mpr hbl
  have hw : ∀ w ∈ tG, w.before #[Value.ref b] s = true := fun w h => hts w (tG_in w h)
  have hown : s.vm.findClass "TrainGuardLaw" = some m.cls := hown
  have ia1 : nI i + 1 = nI (i + 1) := nI_add i 1
  have ia2 : nI i + 2 = nI (i + 2) := nI_add i 2
  have ia3 : nI i + 3 = nI (i + 3) := nI_add i 3
  have iv1 : vp_in (nI (i + 1)) L := vp_in_nI (by omega) (by omega)
  have iv2 : vp_in (nI (i + 2)) L := vp_in_nI (by omega) (by omega)
  have iv3 : vp_in (nI (i + 3)) L := vp_in_nI (by omega) (by omega)
  have ic1 : (nI (i + 1)).toNatClampNeg = i + 1 := nI_clamp (by omega)
  have ic2 : (nI (i + 2)).toNatClampNeg = i + 2 := nI_clamp (by omega)
  have ic3 : (nI (i + 3)).toNatClampNeg = i + 3 := nI_clamp (by omega)
  refine lv_aload_n hx hb d_law_128 rfl (lv_at hl 1 rfl) ?_
  refine lv_aload_n hx hb d_law_129 rfl (lv_at hl 0 rfl) ?_
  refine lv_iload hx hb d_law_130 (lv_at hl 5 rfl) ?_
  refine lv_iconst (v := 1) hx hb d_law_132 (by decide) ?_
  refine lv_iadd hx hb d_law_133 ?_
  rw [ia1]
  refine va_sld hx hb hX hbl hbA hS iv1 d_law_134 ?_
  rw [ic1]
  refine lv_i2d hx hb d_law_135 ?_
  refine lv_ldc2d hx hb hown (hw _ wd_847) d_law_136 ?_
  refine lv_dmul hx hb d_law_139 (z_argf _) ?_
  rw [z_arg]
  refine lv_aload_n hx hb d_law_140 rfl (lv_at hl 0 rfl) ?_
  refine lv_iload hx hb d_law_141 (lv_at hl 5 rfl) ?_
  refine lv_iconst (v := 2) hx hb d_law_143 (by decide) ?_
  refine lv_iadd hx hb d_law_144 ?_
  rw [ia2]
  refine va_sld hx hb hX hbl hbA hS iv2 d_law_145 ?_
  rw [ic2]
  refine lv_i2d hx hb d_law_146 ?_
  refine lv_ldc2d hx hb hown (hw _ wd_847) d_law_147 ?_
  refine lv_dmul hx hb d_law_150 (z_argf _) ?_
  rw [z_arg]
  refine lv_aload_n hx hb d_law_151 rfl (lv_at hl 3 rfl) ?_
  obtain ⟨Q9, hQ9, hh9⟩ := h_join (wG := w_G_section S ((zq 3 (xs (i + 1)).toInt)) ((zq 3 (xs (i + 2)).toInt))) (wR := w_R_section M ((zq 3 (xs (i + 1)).toInt)) ((zq 3 (xs (i + 2)).toInt))) f (j_section hJ (z_abs _) (z_abs _))
  have hQ9 : w_W_section (S, f) ((zq 3 (xs (i + 1)).toInt)) ((zq 3 (xs (i + 2)).toInt)) Q9 := hQ9
  have hPc := hP.sub (ws' := wHl ca ad o (S, f)) [0, 2, 3, 4, 5, 6, 7, 8, 9, 10, 11, 12, 13, 14, 15, 16] rfl
  have hDc := hD.sub (ws' := wHl ca ad o (S, f)) [0, 2, 3, 4, 5, 6, 7, 8, 9, 10, 11, 12, 13, 14, 15, 16] (by decide) rfl
  have hFc := va_free (wc := wHl ca ad o (S, f)) hD hS hA [0, 2, 3, 4, 5, 6, 7, 8, 9, 10, 11, 12, 13, 14, 15, 16] rfl
  refine va_calli (vx_runSW (As := [.ref (ad 0), .double (zq 3 (xs (i + 1)).toInt), .double (zq 3 (xs (i + 2)).toInt), .ref o]) (rest := []) ⟨hx, hb, hml, hown, hw⟩ (c_W_section l hl0 D ca ad o H.size (S, f) ((zq 3 (xs (i + 1)).toInt)) ((zq 3 (xs (i + 2)).toInt)) Q9 hQ9) (vx_cwSW 4 hw (tG_g gs_law_80) rfl rfl rfl (by decide +kernel) ⟨Nat.le_of_ble_eq_true rfl, Nat.le_of_ble_eq_true rfl⟩) ⟨xPh.blind, xPh.pre hK hN hPc hDc hX9 (hZ.now hS hA hDc) hC9⟩ rfl rfl hl.1 rfl (lv_room (Nat.le_of_ble_eq_true rfl)) d_law_152 ⟨show cells + 1 ≤ 663321 by omega, show slots + 6 ≤ 7106140 by omega⟩) hS (fun q _ h => hFc q h) hFc (fun k9 T9 t H1 locs ht hvm hq9 hB hz1 hk1 hS => ?_)
  obtain ⟨S9, f9⟩ := T9
  obtain ⟨hP1, hD1⟩ := hB
  rw [ht] at hP1
  obtain ⟨hP, hD⟩ := va_join (wr := (od, .inl (ca 2, 1, .inr (.inr (.inr (.inl g))))) :: wR ca ae M) (w1 := wHl ca ad o (S9, f9)) hP hD [0, 2, 3, 4, 5, 6, 7, 8, 9, 10, 11, 12, 13, 14, 15, 16] [1, 17, 18, 19, 20, 21, 22, 23, 24, 25, 26, 27, 28, 29, 30, 31, 32, 33, 34, 35] rfl rfl (by decide) (by decide) hk1 hFc hP1 hD1
  have hP := hP.sub (ws' := LI ca ad ae o od S9 M f9 g) [20, 0, 21, 22, 23, 24, 25, 26, 27, 28, 29, 30, 31, 32, 33, 34, 35, 1, 2, 3, 4, 5, 6, 7, 8, 9, 10, 11, 12, 13, 14, 15, 16, 17, 18, 19] rfl
  have hD := hD.sub (ws' := LI ca ad ae o od S9 M f9 g) [20, 0, 21, 22, 23, 24, 25, 26, 27, 28, 29, 30, 31, 32, 33, 34, 35, 1, 2, 3, 4, 5, 6, 7, 8, 9, 10, 11, 12, 13, 14, 15, 16, 17, 18, 19] (by decide) rfl
  refine W.widen (k := cells + 2) (n := slots + 12) (by omega) (by omega) ?_
  obtain ⟨R9, hR9, hr9⟩ := hh9 k9 (S9, f9) hq9
  clear hz1 hk1 hP1 hD1 hPc hDc hFc
  generalize H1 = H at hP hS ⊢
  refine lv_istore (lv' := [(6, .int k9), (0, .ref b), (1, .ref (ad 0)), (2, .ref (ae 0)), (3, .ref o), (4, .ref od), (5, .int (nI i))]) hx hb d_law_155 hl (by decide) rfl (fun ls hl => ?_)
  refine lv_aload_n hx hb d_law_157 rfl (lv_at hl 3 rfl) ?_
  refine lv_aload_n hx hb d_law_158 rfl (lv_at hl 1 rfl) ?_
  refine lv_iload hx hb d_law_159 (lv_at hl 6 rfl) ?_
  refine lv_iconst (v := 1) hx hb d_law_161 (by decide) ?_
  refine lv_iadd hx hb d_law_162 ?_
  rw [ia1]
  refine va_sld hx hb hX hbl hbA hS iv1 d_law_163 ?_
  rw [ic1]
  refine lv_i2d hx hb d_law_164 ?_
  refine lv_ldc2d hx hb hown (hw _ wd_847) d_law_165 ?_
  refine lv_dmul hx hb d_law_168 (z_argf _) ?_
  rw [z_arg]
  refine lv_aload_n hx hb d_law_169 rfl (lv_at hl 1 rfl) ?_
  refine lv_iload hx hb d_law_170 (lv_at hl 6 rfl) ?_
  refine lv_iconst (v := 2) hx hb d_law_172 (by decide) ?_
  refine lv_iadd hx hb d_law_173 ?_
  rw [ia2]
  refine va_sld hx hb hX hbl hbA hS iv2 d_law_174 ?_
  rw [ic2]
  refine lv_i2d hx hb d_law_175 ?_
  refine lv_ldc2d hx hb hown (hw _ wd_847) d_law_176 ?_
  refine lv_dmul hx hb d_law_179 (z_argf _) ?_
  rw [z_arg]
  have hPc := hP.sub (ws' := wR ca ae M) [17, 18, 19, 20, 21, 22, 23, 24, 25, 26, 27, 28, 29, 30, 31, 32, 33, 34, 35] rfl
  have hDc := hD.sub (ws' := wR ca ae M) [17, 18, 19, 20, 21, 22, 23, 24, 25, 26, 27, 28, 29, 30, 31, 32, 33, 34, 35] (by decide) rfl
  have hFc := va_free (wc := wR ca ae M) hD hS hA [17, 18, 19, 20, 21, 22, 23, 24, 25, 26, 27, 28, 29, 30, 31, 32, 33, 34, 35] rfl
  refine va_calli (va_runV (As := [.double (zq 3 (xs (i + 1)).toInt), .double (zq 3 (xs (i + 2)).toInt)]) (rest := []) ⟨hx, hb, hml, hown, hw⟩ (c_R_section l D ca ae H.size M ((zq 3 (xs (i + 1)).toInt)) ((zq 3 (xs (i + 2)).toInt)) R9 hR9) (cwV 2 hw (tG_g gv_law_85) rfl rfl rfl (by decide +kernel) ⟨Nat.le_of_ble_eq_true rfl, Nat.le_of_ble_eq_true rfl⟩) ⟨xPc.blind, va_recv hK hP (ci := 4) rfl (q0 := 17) rfl, xPc.pre hK hN hPc hDc⟩ rfl rfl hl.1 rfl (lv_room (Nat.le_of_ble_eq_true rfl)) d_law_180 ⟨show cells + 2 + 0 ≤ 663321 by omega, show slots + 12 + 0 ≤ 7106140 by omega⟩) hS (fun q _ h => hFc q h) hFc (fun b9 v9 t H1 locs ht hvm hq hB hz1 hk1 hS => ?_)
  obtain ⟨hP1, hD1⟩ := hB
  rw [ht] at hP1
  obtain ⟨hP, hD⟩ := va_join (wr := (o, .inl (ca 1, 1, .inr (.inl f9))) :: (od, .inl (ca 2, 1, .inr (.inr (.inr (.inl g))))) :: wC ca ad S9) (w1 := wR ca ae v9) hP hD [17, 18, 19, 20, 21, 22, 23, 24, 25, 26, 27, 28, 29, 30, 31, 32, 33, 34, 35] [0, 1, 2, 3, 4, 5, 6, 7, 8, 9, 10, 11, 12, 13, 14, 15, 16] rfl rfl (by decide) (by decide) hk1 hFc hP1 hD1
  have hP : va_P D cls (LI ca ad ae o od S9 v9 f9 g) H1 := hP
  have hD : va_D (LA s) (LI ca ad ae o od S9 v9 f9 g) := hD
  clear hz1 hk1 hP1 hD1 hPc hDc hFc
  generalize H1 = H at hP hS ⊢
  refine lv_istore (lv' := [(7, .int b9), (6, .int k9), (0, .ref b), (1, .ref (ad 0)), (2, .ref (ae 0)), (3, .ref o), (4, .ref od), (5, .int (nI i))]) hx hb d_law_183 hl (by decide) rfl (fun ls hl => ?_)
  obtain ⟨hth, hJ9, hans⟩ := hr9 b9 v9 hq
  refine lv_aload_n hx hb d_law_185 rfl (lv_at hl 4 rfl) ?_
  have hPc := hP.sub (ws' := wR ca ae v9) [17, 18, 19, 20, 21, 22, 23, 24, 25, 26, 27, 28, 29, 30, 31, 32, 33, 34, 35] rfl
  have hDc := hD.sub (ws' := wR ca ae v9) [17, 18, 19, 20, 21, 22, 23, 24, 25, 26, 27, 28, 29, 30, 31, 32, 33, 34, 35] (by decide) rfl
  have hFc := va_free (wc := wR ca ae v9) hD hS hA [17, 18, 19, 20, 21, 22, 23, 24, 25, 26, 27, 28, 29, 30, 31, 32, 33, 34, 35] rfl
  refine va_calli (va_runV (As := []) (rest := []) ⟨hx, hb, hml, hown, hw⟩ (c_R_thrown l D ca ae H.size v9 (fun r u => r = v9.1 0 0 ∧ u = v9) ⟨rfl, rfl⟩) (cwV 0 hw (tG_g gv_law_86) rfl rfl rfl (by decide +kernel) ⟨Nat.le_of_ble_eq_true rfl, Nat.le_of_ble_eq_true rfl⟩) ⟨xPc.blind, va_recv hK hP (ci := 4) rfl (q0 := 17) rfl, xPc.pre hK hN hPc hDc⟩ rfl rfl hl.1 rfl (lv_room (Nat.le_of_ble_eq_true rfl)) d_law_186 ⟨show cells + 2 + 0 ≤ 663321 by omega, show slots + 12 + 0 ≤ 7106140 by omega⟩) hS (fun q _ h => hFc q h) hFc (fun t9 v8 t H1 locs ht hvm hq hB hz1 hk1 hS => ?_)
  obtain ⟨hP1, hD1⟩ := hB
  rw [ht] at hP1
  obtain ⟨hP, hD⟩ := va_join (wr := (o, .inl (ca 1, 1, .inr (.inl f9))) :: (od, .inl (ca 2, 1, .inr (.inr (.inr (.inl g))))) :: wC ca ad S9) (w1 := wR ca ae v8) hP hD [17, 18, 19, 20, 21, 22, 23, 24, 25, 26, 27, 28, 29, 30, 31, 32, 33, 34, 35] [0, 1, 2, 3, 4, 5, 6, 7, 8, 9, 10, 11, 12, 13, 14, 15, 16] rfl rfl (by decide) (by decide) hk1 hFc hP1 hD1
  have hP : va_P D cls (LI ca ad ae o od S9 v8 f9 g) H1 := hP
  have hD : va_D (LA s) (LI ca ad ae o od S9 v8 f9 g) := hD
  clear hz1 hk1 hP1 hD1 hPc hDc hFc
  generalize H1 = H at hP hS ⊢
  obtain ⟨et9, ev9⟩ := hq
  have ev9 : v8 = v9 := ev9
  have hJ9 : J S9 v8 := by rw [ev9]; exact hJ9
  refine lv_iload hx hb d_law_189 (lv_at hl 1 rfl) ?_
  refine lv_icmp_eq (tgt := 196) hx hb d_law_191 (by decide) (fun hc9 => ?_) (fun hc9 => absurd (et9.trans hth) hc9)
  refine lv_iload hx hb d_law_196 (lv_at hl 1 rfl) ?_
  refine lv_if_ne (tgt := 213) hx hb d_law_198 (by decide) (fun hc8 => ?_) (fun hc8 => ?_)
  · refine lv_goto (tgt := 1341) hx hb d_law_213 (by decide) (kk S9 v8 f9 g _ _ _ hJ9 hP hD hS (lv_sub hl [2, 3, 4, 5, 6, 7] rfl))
  have hans := hans hc8
  refine lv_aload_n hx hb d_law_201 rfl (lv_at hl 5 rfl) ?_
  refine lv_iconst (v := 0) hx hb d_law_202 (by decide) ?_
  refine va_lald (D := D) (i := 0) hx hb hK hP 0 1 rfl rfl (by unfold vp_in; decide) d_law_203 ?_
  rw [show (f9) (0 : Int32).toNatClampNeg = b9.toInt64 from hans]
  refine lv_iload hx hb d_law_204 (lv_at hl 0 rfl) ?_
  refine lv_i2l (v := b9.toInt64) hx hb d_law_206 rfl ?_
  refine W.lcmp hx hb d_law_207 ?_
  refine lv_if_eq (tgt := 213) hx hb d_law_208 (by decide) (fun hc7 => ?_) (fun hc7 => absurd (l_same _) hc7)
  refine lv_goto (tgt := 1341) hx hb d_law_213 (by decide) (kk S9 v8 f9 g _ _ _ hJ9 hP hD hS (lv_sub hl [2, 3, 4, 5, 6, 7] rfl))
set_option maxRecDepth 100000 in
set_option maxHeartbeats 4000000 in
theorem lc_restrict {p : Program} {l : Launch} {e : Env} {s : State} {m : MethodId} {below : List Frame} {meth : Method} {c : Code} {b L : Nat} {xs : Nat → Int32} {D : va_G} {ca : Nat → ClassId} {ad ae : Nat → Nat} {o od : Nat} {S : SC} {M : SR} {f : Nat → Int64} {g : Nat → UInt64} {H : Heap} {locs : List Loc} {cells slots i : Nat} {ls : Array Slot} (K0 : LK p l s m meth c b L xs D ca) (hJ : J S M) (hi : i + 4 ≤ L) (hc : cells + 2 ≤ 663321 ∧ slots + 12 ≤ 7106140) (hP : va_P D cls (LI ca ad ae o od S M f g) H) (hD : va_D (LA s) (LI ca ad ae o od S M f g)) (hS : va_S (LA s) s.heap H locs) (hl : lv_has ls 9 [(0, .ref b), (1, .ref (ad 0)), (2, .ref (ae 0)), (3, .ref o), (4, .ref od), (5, .int (nI i))]) (kk : ∀ (S : SC) (M : SR) (f : Nat → Int64) (g : Nat → UInt64) (H : Heap) (locs : List Loc) (ls : Array Slot), J S M → va_P D cls (LI ca ad ae o od S M f g) H → va_D (LA s) (LI ca ad ae o od S M f g) → va_S (LA s) s.heap H locs → lv_has ls 9 [(0, .ref b), (1, .ref (ad 0)), (2, .ref (ae 0)), (3, .ref o), (4, .ref od), (5, .int (nI i))] → W p l e room_1 s m #[Value.ref b] below meth c H locs (cells + 2) (slots + 12) (lw_Z below #[Value.ref b] s) (F0 m 1341 ls [])) : W p l e room_1 s m #[Value.ref b] below meth c H locs cells slots (lw_Z below #[Value.ref b] s) (F0 m 216 ls []) := by
  obtain ⟨⟨hl0, hL⟩, ⟨hx, hb, hr, hml, hown, hts, hX, hbl, hlocks, hgv⟩, hK, hN, hX9, hC9, hZ⟩ := K0
  have hA : ∀ q : Nat, s.heap.size ≤ q → LA s q := fun _ h => h
  have hbA : ¬ LA s b := Nat.not_le.mpr hbl
  have hw : ∀ w ∈ tG, w.before #[Value.ref b] s = true := fun w h => hts w (tG_in w h)
  have hown : s.vm.findClass "TrainGuardLaw" = some m.cls := hown
  have ia1 : nI i + 1 = nI (i + 1) := nI_add i 1
  have ia2 : nI i + 2 = nI (i + 2) := nI_add i 2
  have ia3 : nI i + 3 = nI (i + 3) := nI_add i 3
  have iv1 : vp_in (nI (i + 1)) L := vp_in_nI (by omega) (by omega)
  have iv2 : vp_in (nI (i + 2)) L := vp_in_nI (by omega) (by omega)
  have iv3 : vp_in (nI (i + 3)) L := vp_in_nI (by omega) (by omega)
  have ic1 : (nI (i + 1)).toNatClampNeg = i + 1 := nI_clamp (by omega)
  have ic2 : (nI (i + 2)).toNatClampNeg = i + 2 := nI_clamp (by omega)
  have ic3 : (nI (i + 3)).toNatClampNeg = i + 3 := nI_clamp (by omega)
  refine lv_aload_n hx hb d_law_216 rfl (lv_at hl 1 rfl) ?_
  refine lv_aload_n hx hb d_law_217 rfl (lv_at hl 0 rfl) ?_
  refine lv_iload hx hb d_law_218 (lv_at hl 5 rfl) ?_
  refine lv_iconst (v := 1) hx hb d_law_220 (by decide) ?_
  refine lv_iadd hx hb d_law_221 ?_
  rw [ia1]
  refine va_sld hx hb hX hbl hbA hS iv1 d_law_222 ?_
  rw [ic1]
  refine lv_i2d hx hb d_law_223 ?_
  refine lv_ldc2d hx hb hown (hw _ wd_847) d_law_224 ?_
  refine lv_dmul hx hb d_law_227 (z_argf _) ?_
  rw [z_arg]
  refine lv_aload_n hx hb d_law_228 rfl (lv_at hl 0 rfl) ?_
  refine lv_iload hx hb d_law_229 (lv_at hl 5 rfl) ?_
  refine lv_iconst (v := 2) hx hb d_law_231 (by decide) ?_
  refine lv_iadd hx hb d_law_232 ?_
  rw [ia2]
  refine va_sld hx hb hX hbl hbA hS iv2 d_law_233 ?_
  rw [ic2]
  refine lv_i2d hx hb d_law_234 ?_
  refine lv_ldc2d hx hb hown (hw _ wd_847) d_law_235 ?_
  refine lv_dmul hx hb d_law_238 (z_argf _) ?_
  rw [z_arg]
  refine lv_aload_n hx hb d_law_239 rfl (lv_at hl 0 rfl) ?_
  refine lv_iload hx hb d_law_240 (lv_at hl 5 rfl) ?_
  refine lv_iconst (v := 3) hx hb d_law_242 (by decide) ?_
  refine lv_iadd hx hb d_law_243 ?_
  rw [ia3]
  refine va_sld hx hb hX hbl hbA hS iv3 d_law_244 ?_
  rw [ic3]
  refine lv_i2d hx hb d_law_245 ?_
  refine lv_ldc2d hx hb hown (hw _ wd_847) d_law_246 ?_
  refine lv_dmul hx hb d_law_249 (z_argf _) ?_
  rw [z_arg]
  refine lv_aload_n hx hb d_law_250 rfl (lv_at hl 3 rfl) ?_
  obtain ⟨Q9, hQ9, hh9⟩ := h_join (wG := w_G_restrict S ((zq 3 (xs (i + 1)).toInt)) ((zq 3 (xs (i + 2)).toInt)) ((zq 3 (xs (i + 3)).toInt))) (wR := w_R_restrict M ((zq 3 (xs (i + 1)).toInt)) ((zq 3 (xs (i + 2)).toInt)) ((zq 3 (xs (i + 3)).toInt))) f (j_restrict hJ (z_abs _) (z_abs _) (z_abs _))
  have hQ9 : w_W_restrict (S, f) ((zq 3 (xs (i + 1)).toInt)) ((zq 3 (xs (i + 2)).toInt)) ((zq 3 (xs (i + 3)).toInt)) Q9 := hQ9
  have hPc := hP.sub (ws' := wHl ca ad o (S, f)) [0, 2, 3, 4, 5, 6, 7, 8, 9, 10, 11, 12, 13, 14, 15, 16] rfl
  have hDc := hD.sub (ws' := wHl ca ad o (S, f)) [0, 2, 3, 4, 5, 6, 7, 8, 9, 10, 11, 12, 13, 14, 15, 16] (by decide) rfl
  have hFc := va_free (wc := wHl ca ad o (S, f)) hD hS hA [0, 2, 3, 4, 5, 6, 7, 8, 9, 10, 11, 12, 13, 14, 15, 16] rfl
  refine va_calli (vx_runSW (As := [.ref (ad 0), .double (zq 3 (xs (i + 1)).toInt), .double (zq 3 (xs (i + 2)).toInt), .double (zq 3 (xs (i + 3)).toInt), .ref o]) (rest := []) ⟨hx, hb, hml, hown, hw⟩ (c_W_restrict l hl0 D ca ad o H.size (S, f) ((zq 3 (xs (i + 1)).toInt)) ((zq 3 (xs (i + 2)).toInt)) ((zq 3 (xs (i + 3)).toInt)) Q9 hQ9) (vx_cwSW 5 hw (tG_g gs_law_90) rfl rfl rfl (by decide +kernel) ⟨Nat.le_of_ble_eq_true rfl, Nat.le_of_ble_eq_true rfl⟩) ⟨xPh.blind, xPh.pre hK hN hPc hDc hX9 (hZ.now hS hA hDc) hC9⟩ rfl rfl hl.1 rfl (lv_room (Nat.le_of_ble_eq_true rfl)) d_law_251 ⟨show cells + 1 ≤ 663321 by omega, show slots + 6 ≤ 7106140 by omega⟩) hS (fun q _ h => hFc q h) hFc (fun k9 T9 t H1 locs ht hvm hq9 hB hz1 hk1 hS => ?_)
  obtain ⟨S9, f9⟩ := T9
  obtain ⟨hP1, hD1⟩ := hB
  rw [ht] at hP1
  obtain ⟨hP, hD⟩ := va_join (wr := (od, .inl (ca 2, 1, .inr (.inr (.inr (.inl g))))) :: wR ca ae M) (w1 := wHl ca ad o (S9, f9)) hP hD [0, 2, 3, 4, 5, 6, 7, 8, 9, 10, 11, 12, 13, 14, 15, 16] [1, 17, 18, 19, 20, 21, 22, 23, 24, 25, 26, 27, 28, 29, 30, 31, 32, 33, 34, 35] rfl rfl (by decide) (by decide) hk1 hFc hP1 hD1
  have hP := hP.sub (ws' := LI ca ad ae o od S9 M f9 g) [20, 0, 21, 22, 23, 24, 25, 26, 27, 28, 29, 30, 31, 32, 33, 34, 35, 1, 2, 3, 4, 5, 6, 7, 8, 9, 10, 11, 12, 13, 14, 15, 16, 17, 18, 19] rfl
  have hD := hD.sub (ws' := LI ca ad ae o od S9 M f9 g) [20, 0, 21, 22, 23, 24, 25, 26, 27, 28, 29, 30, 31, 32, 33, 34, 35, 1, 2, 3, 4, 5, 6, 7, 8, 9, 10, 11, 12, 13, 14, 15, 16, 17, 18, 19] (by decide) rfl
  refine W.widen (k := cells + 2) (n := slots + 12) (by omega) (by omega) ?_
  obtain ⟨R9, hR9, hr9⟩ := hh9 k9 (S9, f9) hq9
  clear hz1 hk1 hP1 hD1 hPc hDc hFc
  generalize H1 = H at hP hS ⊢
  refine lv_istore (lv' := [(6, .int k9), (0, .ref b), (1, .ref (ad 0)), (2, .ref (ae 0)), (3, .ref o), (4, .ref od), (5, .int (nI i))]) hx hb d_law_254 hl (by decide) rfl (fun ls hl => ?_)
  refine lv_aload_n hx hb d_law_256 rfl (lv_at hl 3 rfl) ?_
  refine lv_aload_n hx hb d_law_257 rfl (lv_at hl 1 rfl) ?_
  refine lv_iload hx hb d_law_258 (lv_at hl 6 rfl) ?_
  refine lv_iconst (v := 1) hx hb d_law_260 (by decide) ?_
  refine lv_iadd hx hb d_law_261 ?_
  rw [ia1]
  refine va_sld hx hb hX hbl hbA hS iv1 d_law_262 ?_
  rw [ic1]
  refine lv_i2d hx hb d_law_263 ?_
  refine lv_ldc2d hx hb hown (hw _ wd_847) d_law_264 ?_
  refine lv_dmul hx hb d_law_267 (z_argf _) ?_
  rw [z_arg]
  refine lv_aload_n hx hb d_law_268 rfl (lv_at hl 1 rfl) ?_
  refine lv_iload hx hb d_law_269 (lv_at hl 6 rfl) ?_
  refine lv_iconst (v := 2) hx hb d_law_271 (by decide) ?_
  refine lv_iadd hx hb d_law_272 ?_
  rw [ia2]
  refine va_sld hx hb hX hbl hbA hS iv2 d_law_273 ?_
  rw [ic2]
  refine lv_i2d hx hb d_law_274 ?_
  refine lv_ldc2d hx hb hown (hw _ wd_847) d_law_275 ?_
  refine lv_dmul hx hb d_law_278 (z_argf _) ?_
  rw [z_arg]
  refine lv_aload_n hx hb d_law_279 rfl (lv_at hl 1 rfl) ?_
  refine lv_iload hx hb d_law_280 (lv_at hl 6 rfl) ?_
  refine lv_iconst (v := 3) hx hb d_law_282 (by decide) ?_
  refine lv_iadd hx hb d_law_283 ?_
  rw [ia3]
  refine va_sld hx hb hX hbl hbA hS iv3 d_law_284 ?_
  rw [ic3]
  refine lv_i2d hx hb d_law_285 ?_
  refine lv_ldc2d hx hb hown (hw _ wd_847) d_law_286 ?_
  refine lv_dmul hx hb d_law_289 (z_argf _) ?_
  rw [z_arg]
  have hPc := hP.sub (ws' := wR ca ae M) [17, 18, 19, 20, 21, 22, 23, 24, 25, 26, 27, 28, 29, 30, 31, 32, 33, 34, 35] rfl
  have hDc := hD.sub (ws' := wR ca ae M) [17, 18, 19, 20, 21, 22, 23, 24, 25, 26, 27, 28, 29, 30, 31, 32, 33, 34, 35] (by decide) rfl
  have hFc := va_free (wc := wR ca ae M) hD hS hA [17, 18, 19, 20, 21, 22, 23, 24, 25, 26, 27, 28, 29, 30, 31, 32, 33, 34, 35] rfl
  refine va_calli (va_runV (As := [.double (zq 3 (xs (i + 1)).toInt), .double (zq 3 (xs (i + 2)).toInt), .double (zq 3 (xs (i + 3)).toInt)]) (rest := []) ⟨hx, hb, hml, hown, hw⟩ (c_R_restrict l D ca ae H.size M ((zq 3 (xs (i + 1)).toInt)) ((zq 3 (xs (i + 2)).toInt)) ((zq 3 (xs (i + 3)).toInt)) R9 hR9) (cwV 3 hw (tG_g gv_law_93) rfl rfl rfl (by decide +kernel) ⟨Nat.le_of_ble_eq_true rfl, Nat.le_of_ble_eq_true rfl⟩) ⟨xPc.blind, va_recv hK hP (ci := 4) rfl (q0 := 17) rfl, xPc.pre hK hN hPc hDc⟩ rfl rfl hl.1 rfl (lv_room (Nat.le_of_ble_eq_true rfl)) d_law_290 ⟨show cells + 2 + 0 ≤ 663321 by omega, show slots + 12 + 0 ≤ 7106140 by omega⟩) hS (fun q _ h => hFc q h) hFc (fun b9 v9 t H1 locs ht hvm hq hB hz1 hk1 hS => ?_)
  obtain ⟨hP1, hD1⟩ := hB
  rw [ht] at hP1
  obtain ⟨hP, hD⟩ := va_join (wr := (o, .inl (ca 1, 1, .inr (.inl f9))) :: (od, .inl (ca 2, 1, .inr (.inr (.inr (.inl g))))) :: wC ca ad S9) (w1 := wR ca ae v9) hP hD [17, 18, 19, 20, 21, 22, 23, 24, 25, 26, 27, 28, 29, 30, 31, 32, 33, 34, 35] [0, 1, 2, 3, 4, 5, 6, 7, 8, 9, 10, 11, 12, 13, 14, 15, 16] rfl rfl (by decide) (by decide) hk1 hFc hP1 hD1
  have hP : va_P D cls (LI ca ad ae o od S9 v9 f9 g) H1 := hP
  have hD : va_D (LA s) (LI ca ad ae o od S9 v9 f9 g) := hD
  clear hz1 hk1 hP1 hD1 hPc hDc hFc
  generalize H1 = H at hP hS ⊢
  refine lv_istore (lv' := [(7, .int b9), (6, .int k9), (0, .ref b), (1, .ref (ad 0)), (2, .ref (ae 0)), (3, .ref o), (4, .ref od), (5, .int (nI i))]) hx hb d_law_293 hl (by decide) rfl (fun ls hl => ?_)
  obtain ⟨hth, hJ9, hans⟩ := hr9 b9 v9 hq
  refine lv_aload_n hx hb d_law_295 rfl (lv_at hl 4 rfl) ?_
  have hPc := hP.sub (ws' := wR ca ae v9) [17, 18, 19, 20, 21, 22, 23, 24, 25, 26, 27, 28, 29, 30, 31, 32, 33, 34, 35] rfl
  have hDc := hD.sub (ws' := wR ca ae v9) [17, 18, 19, 20, 21, 22, 23, 24, 25, 26, 27, 28, 29, 30, 31, 32, 33, 34, 35] (by decide) rfl
  have hFc := va_free (wc := wR ca ae v9) hD hS hA [17, 18, 19, 20, 21, 22, 23, 24, 25, 26, 27, 28, 29, 30, 31, 32, 33, 34, 35] rfl
  refine va_calli (va_runV (As := []) (rest := []) ⟨hx, hb, hml, hown, hw⟩ (c_R_thrown l D ca ae H.size v9 (fun r u => r = v9.1 0 0 ∧ u = v9) ⟨rfl, rfl⟩) (cwV 0 hw (tG_g gv_law_86) rfl rfl rfl (by decide +kernel) ⟨Nat.le_of_ble_eq_true rfl, Nat.le_of_ble_eq_true rfl⟩) ⟨xPc.blind, va_recv hK hP (ci := 4) rfl (q0 := 17) rfl, xPc.pre hK hN hPc hDc⟩ rfl rfl hl.1 rfl (lv_room (Nat.le_of_ble_eq_true rfl)) d_law_296 ⟨show cells + 2 + 0 ≤ 663321 by omega, show slots + 12 + 0 ≤ 7106140 by omega⟩) hS (fun q _ h => hFc q h) hFc (fun t9 v8 t H1 locs ht hvm hq hB hz1 hk1 hS => ?_)
  obtain ⟨hP1, hD1⟩ := hB
  rw [ht] at hP1
  obtain ⟨hP, hD⟩ := va_join (wr := (o, .inl (ca 1, 1, .inr (.inl f9))) :: (od, .inl (ca 2, 1, .inr (.inr (.inr (.inl g))))) :: wC ca ad S9) (w1 := wR ca ae v8) hP hD [17, 18, 19, 20, 21, 22, 23, 24, 25, 26, 27, 28, 29, 30, 31, 32, 33, 34, 35] [0, 1, 2, 3, 4, 5, 6, 7, 8, 9, 10, 11, 12, 13, 14, 15, 16] rfl rfl (by decide) (by decide) hk1 hFc hP1 hD1
  have hP : va_P D cls (LI ca ad ae o od S9 v8 f9 g) H1 := hP
  have hD : va_D (LA s) (LI ca ad ae o od S9 v8 f9 g) := hD
  clear hz1 hk1 hP1 hD1 hPc hDc hFc
  generalize H1 = H at hP hS ⊢
  obtain ⟨et9, ev9⟩ := hq
  have ev9 : v8 = v9 := ev9
  have hJ9 : J S9 v8 := by rw [ev9]; exact hJ9
  refine lv_iload hx hb d_law_299 (lv_at hl 1 rfl) ?_
  refine lv_icmp_eq (tgt := 306) hx hb d_law_301 (by decide) (fun hc9 => ?_) (fun hc9 => absurd (et9.trans hth) hc9)
  refine lv_iload hx hb d_law_306 (lv_at hl 1 rfl) ?_
  refine lv_if_ne (tgt := 323) hx hb d_law_308 (by decide) (fun hc8 => ?_) (fun hc8 => ?_)
  · refine lv_goto (tgt := 1341) hx hb d_law_323 (by decide) (kk S9 v8 f9 g _ _ _ hJ9 hP hD hS (lv_sub hl [2, 3, 4, 5, 6, 7] rfl))
  have hans := hans hc8
  refine lv_aload_n hx hb d_law_311 rfl (lv_at hl 5 rfl) ?_
  refine lv_iconst (v := 0) hx hb d_law_312 (by decide) ?_
  refine va_lald (D := D) (i := 0) hx hb hK hP 0 1 rfl rfl (by unfold vp_in; decide) d_law_313 ?_
  rw [show (f9) (0 : Int32).toNatClampNeg = b9.toInt64 from hans]
  refine lv_iload hx hb d_law_314 (lv_at hl 0 rfl) ?_
  refine lv_i2l (v := b9.toInt64) hx hb d_law_316 rfl ?_
  refine W.lcmp hx hb d_law_317 ?_
  refine lv_if_eq (tgt := 323) hx hb d_law_318 (by decide) (fun hc7 => ?_) (fun hc7 => absurd (l_same _) hc7)
  refine lv_goto (tgt := 1341) hx hb d_law_323 (by decide) (kk S9 v8 f9 g _ _ _ hJ9 hP hD hS (lv_sub hl [2, 3, 4, 5, 6, 7] rfl))
set_option maxRecDepth 100000 in
set_option maxHeartbeats 4000000 in
theorem lc_release {p : Program} {l : Launch} {e : Env} {s : State} {m : MethodId} {below : List Frame} {meth : Method} {c : Code} {b L : Nat} {xs : Nat → Int32} {D : va_G} {ca : Nat → ClassId} {ad ae : Nat → Nat} {o od : Nat} {S : SC} {M : SR} {f : Nat → Int64} {g : Nat → UInt64} {H : Heap} {locs : List Loc} {cells slots i : Nat} {ls : Array Slot} (K0 : LK p l s m meth c b L xs D ca) (hJ : J S M) (hi : i + 4 ≤ L) (hc : cells + 2 ≤ 663321 ∧ slots + 12 ≤ 7106140) (hP : va_P D cls (LI ca ad ae o od S M f g) H) (hD : va_D (LA s) (LI ca ad ae o od S M f g)) (hS : va_S (LA s) s.heap H locs) (hl : lv_has ls 9 [(0, .ref b), (1, .ref (ad 0)), (2, .ref (ae 0)), (3, .ref o), (4, .ref od), (5, .int (nI i))]) (kk : ∀ (S : SC) (M : SR) (f : Nat → Int64) (g : Nat → UInt64) (H : Heap) (locs : List Loc) (ls : Array Slot), J S M → va_P D cls (LI ca ad ae o od S M f g) H → va_D (LA s) (LI ca ad ae o od S M f g) → va_S (LA s) s.heap H locs → lv_has ls 9 [(0, .ref b), (1, .ref (ad 0)), (2, .ref (ae 0)), (3, .ref o), (4, .ref od), (5, .int (nI i))] → W p l e room_1 s m #[Value.ref b] below meth c H locs (cells + 2) (slots + 12) (lw_Z below #[Value.ref b] s) (F0 m 1341 ls [])) : W p l e room_1 s m #[Value.ref b] below meth c H locs cells slots (lw_Z below #[Value.ref b] s) (F0 m 326 ls []) := by
  obtain ⟨⟨hl0, hL⟩, ⟨hx, hb, hr, hml, hown, hts, hX, hbl, hlocks, hgv⟩, hK, hN, hX9, hC9, hZ⟩ := K0
  have hA : ∀ q : Nat, s.heap.size ≤ q → LA s q := fun _ h => h
  have hbA : ¬ LA s b := Nat.not_le.mpr hbl
  have hw : ∀ w ∈ tG, w.before #[Value.ref b] s = true := fun w h => hts w (tG_in w h)
  have hown : s.vm.findClass "TrainGuardLaw" = some m.cls := hown
  have ia1 : nI i + 1 = nI (i + 1) := nI_add i 1
  have ia2 : nI i + 2 = nI (i + 2) := nI_add i 2
  have ia3 : nI i + 3 = nI (i + 3) := nI_add i 3
  have iv1 : vp_in (nI (i + 1)) L := vp_in_nI (by omega) (by omega)
  have iv2 : vp_in (nI (i + 2)) L := vp_in_nI (by omega) (by omega)
  have iv3 : vp_in (nI (i + 3)) L := vp_in_nI (by omega) (by omega)
  have ic1 : (nI (i + 1)).toNatClampNeg = i + 1 := nI_clamp (by omega)
  have ic2 : (nI (i + 2)).toNatClampNeg = i + 2 := nI_clamp (by omega)
  have ic3 : (nI (i + 3)).toNatClampNeg = i + 3 := nI_clamp (by omega)
  refine lv_aload_n hx hb d_law_326 rfl (lv_at hl 1 rfl) ?_
  refine lv_aload_n hx hb d_law_327 rfl (lv_at hl 0 rfl) ?_
  refine lv_iload hx hb d_law_328 (lv_at hl 5 rfl) ?_
  refine lv_iconst (v := 1) hx hb d_law_330 (by decide) ?_
  refine lv_iadd hx hb d_law_331 ?_
  rw [ia1]
  refine va_sld hx hb hX hbl hbA hS iv1 d_law_332 ?_
  rw [ic1]
  refine lv_aload_n hx hb d_law_333 rfl (lv_at hl 3 rfl) ?_
  obtain ⟨Q9, hQ9, hh9⟩ := h_join (wG := w_G_release S ((xs (i + 1)))) (wR := w_R_release M ((xs (i + 1)))) f (j_release hJ)
  have hQ9 : w_W_release (S, f) ((xs (i + 1))) Q9 := hQ9
  have hPc := hP.sub (ws' := wHl ca ad o (S, f)) [0, 2, 3, 4, 5, 6, 7, 8, 9, 10, 11, 12, 13, 14, 15, 16] rfl
  have hDc := hD.sub (ws' := wHl ca ad o (S, f)) [0, 2, 3, 4, 5, 6, 7, 8, 9, 10, 11, 12, 13, 14, 15, 16] (by decide) rfl
  have hFc := va_free (wc := wHl ca ad o (S, f)) hD hS hA [0, 2, 3, 4, 5, 6, 7, 8, 9, 10, 11, 12, 13, 14, 15, 16] rfl
  refine va_calli (vx_runSW (As := [.ref (ad 0), .int (xs (i + 1)), .ref o]) (rest := []) ⟨hx, hb, hml, hown, hw⟩ (c_W_release l hl0 D ca ad o H.size (S, f) ((xs (i + 1))) Q9 hQ9) (vx_cwSW 3 hw (tG_g gs_law_94) rfl rfl rfl (by decide +kernel) ⟨Nat.le_of_ble_eq_true rfl, Nat.le_of_ble_eq_true rfl⟩) ⟨xPh.blind, xPh.pre hK hN hPc hDc hX9 (hZ.now hS hA hDc) hC9⟩ rfl rfl hl.1 rfl (lv_room (Nat.le_of_ble_eq_true rfl)) d_law_334 ⟨show cells + 1 ≤ 663321 by omega, show slots + 6 ≤ 7106140 by omega⟩) hS (fun q _ h => hFc q h) hFc (fun k9 T9 t H1 locs ht hvm hq9 hB hz1 hk1 hS => ?_)
  obtain ⟨S9, f9⟩ := T9
  obtain ⟨hP1, hD1⟩ := hB
  rw [ht] at hP1
  obtain ⟨hP, hD⟩ := va_join (wr := (od, .inl (ca 2, 1, .inr (.inr (.inr (.inl g))))) :: wR ca ae M) (w1 := wHl ca ad o (S9, f9)) hP hD [0, 2, 3, 4, 5, 6, 7, 8, 9, 10, 11, 12, 13, 14, 15, 16] [1, 17, 18, 19, 20, 21, 22, 23, 24, 25, 26, 27, 28, 29, 30, 31, 32, 33, 34, 35] rfl rfl (by decide) (by decide) hk1 hFc hP1 hD1
  have hP := hP.sub (ws' := LI ca ad ae o od S9 M f9 g) [20, 0, 21, 22, 23, 24, 25, 26, 27, 28, 29, 30, 31, 32, 33, 34, 35, 1, 2, 3, 4, 5, 6, 7, 8, 9, 10, 11, 12, 13, 14, 15, 16, 17, 18, 19] rfl
  have hD := hD.sub (ws' := LI ca ad ae o od S9 M f9 g) [20, 0, 21, 22, 23, 24, 25, 26, 27, 28, 29, 30, 31, 32, 33, 34, 35, 1, 2, 3, 4, 5, 6, 7, 8, 9, 10, 11, 12, 13, 14, 15, 16, 17, 18, 19] (by decide) rfl
  refine W.widen (k := cells + 2) (n := slots + 12) (by omega) (by omega) ?_
  obtain ⟨R9, hR9, hr9⟩ := hh9 k9 (S9, f9) hq9
  clear hz1 hk1 hP1 hD1 hPc hDc hFc
  generalize H1 = H at hP hS ⊢
  refine lv_istore (lv' := [(6, .int k9), (0, .ref b), (1, .ref (ad 0)), (2, .ref (ae 0)), (3, .ref o), (4, .ref od), (5, .int (nI i))]) hx hb d_law_337 hl (by decide) rfl (fun ls hl => ?_)
  refine lv_aload_n hx hb d_law_339 rfl (lv_at hl 3 rfl) ?_
  refine lv_aload_n hx hb d_law_340 rfl (lv_at hl 1 rfl) ?_
  refine lv_iload hx hb d_law_341 (lv_at hl 6 rfl) ?_
  refine lv_iconst (v := 1) hx hb d_law_343 (by decide) ?_
  refine lv_iadd hx hb d_law_344 ?_
  rw [ia1]
  refine va_sld hx hb hX hbl hbA hS iv1 d_law_345 ?_
  rw [ic1]
  have hPc := hP.sub (ws' := wR ca ae M) [17, 18, 19, 20, 21, 22, 23, 24, 25, 26, 27, 28, 29, 30, 31, 32, 33, 34, 35] rfl
  have hDc := hD.sub (ws' := wR ca ae M) [17, 18, 19, 20, 21, 22, 23, 24, 25, 26, 27, 28, 29, 30, 31, 32, 33, 34, 35] (by decide) rfl
  have hFc := va_free (wc := wR ca ae M) hD hS hA [17, 18, 19, 20, 21, 22, 23, 24, 25, 26, 27, 28, 29, 30, 31, 32, 33, 34, 35] rfl
  refine va_calli (va_runV (As := [.int (xs (i + 1))]) (rest := []) ⟨hx, hb, hml, hown, hw⟩ (c_R_release l D ca ae H.size M ((xs (i + 1))) R9 hR9) (cwV 1 hw (tG_g gv_law_97) rfl rfl rfl (by decide +kernel) ⟨Nat.le_of_ble_eq_true rfl, Nat.le_of_ble_eq_true rfl⟩) ⟨xPc.blind, va_recv hK hP (ci := 4) rfl (q0 := 17) rfl, xPc.pre hK hN hPc hDc⟩ rfl rfl hl.1 rfl (lv_room (Nat.le_of_ble_eq_true rfl)) d_law_346 ⟨show cells + 2 + 0 ≤ 663321 by omega, show slots + 12 + 0 ≤ 7106140 by omega⟩) hS (fun q _ h => hFc q h) hFc (fun b9 v9 t H1 locs ht hvm hq hB hz1 hk1 hS => ?_)
  obtain ⟨hP1, hD1⟩ := hB
  rw [ht] at hP1
  obtain ⟨hP, hD⟩ := va_join (wr := (o, .inl (ca 1, 1, .inr (.inl f9))) :: (od, .inl (ca 2, 1, .inr (.inr (.inr (.inl g))))) :: wC ca ad S9) (w1 := wR ca ae v9) hP hD [17, 18, 19, 20, 21, 22, 23, 24, 25, 26, 27, 28, 29, 30, 31, 32, 33, 34, 35] [0, 1, 2, 3, 4, 5, 6, 7, 8, 9, 10, 11, 12, 13, 14, 15, 16] rfl rfl (by decide) (by decide) hk1 hFc hP1 hD1
  have hP : va_P D cls (LI ca ad ae o od S9 v9 f9 g) H1 := hP
  have hD : va_D (LA s) (LI ca ad ae o od S9 v9 f9 g) := hD
  clear hz1 hk1 hP1 hD1 hPc hDc hFc
  generalize H1 = H at hP hS ⊢
  refine lv_istore (lv' := [(7, .int b9), (6, .int k9), (0, .ref b), (1, .ref (ad 0)), (2, .ref (ae 0)), (3, .ref o), (4, .ref od), (5, .int (nI i))]) hx hb d_law_349 hl (by decide) rfl (fun ls hl => ?_)
  obtain ⟨hth, hJ9, hans⟩ := hr9 b9 v9 hq
  refine lv_aload_n hx hb d_law_351 rfl (lv_at hl 4 rfl) ?_
  have hPc := hP.sub (ws' := wR ca ae v9) [17, 18, 19, 20, 21, 22, 23, 24, 25, 26, 27, 28, 29, 30, 31, 32, 33, 34, 35] rfl
  have hDc := hD.sub (ws' := wR ca ae v9) [17, 18, 19, 20, 21, 22, 23, 24, 25, 26, 27, 28, 29, 30, 31, 32, 33, 34, 35] (by decide) rfl
  have hFc := va_free (wc := wR ca ae v9) hD hS hA [17, 18, 19, 20, 21, 22, 23, 24, 25, 26, 27, 28, 29, 30, 31, 32, 33, 34, 35] rfl
  refine va_calli (va_runV (As := []) (rest := []) ⟨hx, hb, hml, hown, hw⟩ (c_R_thrown l D ca ae H.size v9 (fun r u => r = v9.1 0 0 ∧ u = v9) ⟨rfl, rfl⟩) (cwV 0 hw (tG_g gv_law_86) rfl rfl rfl (by decide +kernel) ⟨Nat.le_of_ble_eq_true rfl, Nat.le_of_ble_eq_true rfl⟩) ⟨xPc.blind, va_recv hK hP (ci := 4) rfl (q0 := 17) rfl, xPc.pre hK hN hPc hDc⟩ rfl rfl hl.1 rfl (lv_room (Nat.le_of_ble_eq_true rfl)) d_law_352 ⟨show cells + 2 + 0 ≤ 663321 by omega, show slots + 12 + 0 ≤ 7106140 by omega⟩) hS (fun q _ h => hFc q h) hFc (fun t9 v8 t H1 locs ht hvm hq hB hz1 hk1 hS => ?_)
  obtain ⟨hP1, hD1⟩ := hB
  rw [ht] at hP1
  obtain ⟨hP, hD⟩ := va_join (wr := (o, .inl (ca 1, 1, .inr (.inl f9))) :: (od, .inl (ca 2, 1, .inr (.inr (.inr (.inl g))))) :: wC ca ad S9) (w1 := wR ca ae v8) hP hD [17, 18, 19, 20, 21, 22, 23, 24, 25, 26, 27, 28, 29, 30, 31, 32, 33, 34, 35] [0, 1, 2, 3, 4, 5, 6, 7, 8, 9, 10, 11, 12, 13, 14, 15, 16] rfl rfl (by decide) (by decide) hk1 hFc hP1 hD1
  have hP : va_P D cls (LI ca ad ae o od S9 v8 f9 g) H1 := hP
  have hD : va_D (LA s) (LI ca ad ae o od S9 v8 f9 g) := hD
  clear hz1 hk1 hP1 hD1 hPc hDc hFc
  generalize H1 = H at hP hS ⊢
  obtain ⟨et9, ev9⟩ := hq
  have ev9 : v8 = v9 := ev9
  have hJ9 : J S9 v8 := by rw [ev9]; exact hJ9
  refine lv_iload hx hb d_law_355 (lv_at hl 1 rfl) ?_
  refine lv_icmp_eq (tgt := 362) hx hb d_law_357 (by decide) (fun hc9 => ?_) (fun hc9 => absurd (et9.trans hth) hc9)
  refine lv_iload hx hb d_law_362 (lv_at hl 1 rfl) ?_
  refine lv_if_ne (tgt := 379) hx hb d_law_364 (by decide) (fun hc8 => ?_) (fun hc8 => ?_)
  · refine lv_goto (tgt := 1341) hx hb d_law_379 (by decide) (kk S9 v8 f9 g _ _ _ hJ9 hP hD hS (lv_sub hl [2, 3, 4, 5, 6, 7] rfl))
  have hans := hans hc8
  refine lv_aload_n hx hb d_law_367 rfl (lv_at hl 5 rfl) ?_
  refine lv_iconst (v := 0) hx hb d_law_368 (by decide) ?_
  refine va_lald (D := D) (i := 0) hx hb hK hP 0 1 rfl rfl (by unfold vp_in; decide) d_law_369 ?_
  rw [show (f9) (0 : Int32).toNatClampNeg = b9.toInt64 from hans]
  refine lv_iload hx hb d_law_370 (lv_at hl 0 rfl) ?_
  refine lv_i2l (v := b9.toInt64) hx hb d_law_372 rfl ?_
  refine W.lcmp hx hb d_law_373 ?_
  refine lv_if_eq (tgt := 379) hx hb d_law_374 (by decide) (fun hc7 => ?_) (fun hc7 => absurd (l_same _) hc7)
  refine lv_goto (tgt := 1341) hx hb d_law_379 (by decide) (kk S9 v8 f9 g _ _ _ hJ9 hP hD hS (lv_sub hl [2, 3, 4, 5, 6, 7] rfl))
set_option maxRecDepth 100000 in
set_option maxHeartbeats 4000000 in
theorem lc_train {p : Program} {l : Launch} {e : Env} {s : State} {m : MethodId} {below : List Frame} {meth : Method} {c : Code} {b L : Nat} {xs : Nat → Int32} {D : va_G} {ca : Nat → ClassId} {ad ae : Nat → Nat} {o od : Nat} {S : SC} {M : SR} {f : Nat → Int64} {g : Nat → UInt64} {H : Heap} {locs : List Loc} {cells slots i : Nat} {ls : Array Slot} (K0 : LK p l s m meth c b L xs D ca) (hJ : J S M) (hi : i + 4 ≤ L) (hc : cells + 2 ≤ 663321 ∧ slots + 12 ≤ 7106140) (hP : va_P D cls (LI ca ad ae o od S M f g) H) (hD : va_D (LA s) (LI ca ad ae o od S M f g)) (hS : va_S (LA s) s.heap H locs) (hl : lv_has ls 9 [(0, .ref b), (1, .ref (ad 0)), (2, .ref (ae 0)), (3, .ref o), (4, .ref od), (5, .int (nI i))]) (kk : ∀ (S : SC) (M : SR) (f : Nat → Int64) (g : Nat → UInt64) (H : Heap) (locs : List Loc) (ls : Array Slot), J S M → va_P D cls (LI ca ad ae o od S M f g) H → va_D (LA s) (LI ca ad ae o od S M f g) → va_S (LA s) s.heap H locs → lv_has ls 9 [(0, .ref b), (1, .ref (ad 0)), (2, .ref (ae 0)), (3, .ref o), (4, .ref od), (5, .int (nI i))] → W p l e room_1 s m #[Value.ref b] below meth c H locs (cells + 2) (slots + 12) (lw_Z below #[Value.ref b] s) (F0 m 1341 ls [])) : W p l e room_1 s m #[Value.ref b] below meth c H locs cells slots (lw_Z below #[Value.ref b] s) (F0 m 382 ls []) := by
  obtain ⟨⟨hl0, hL⟩, ⟨hx, hb, hr, hml, hown, hts, hX, hbl, hlocks, hgv⟩, hK, hN, hX9, hC9, hZ⟩ := K0
  have hA : ∀ q : Nat, s.heap.size ≤ q → LA s q := fun _ h => h
  have hbA : ¬ LA s b := Nat.not_le.mpr hbl
  have hw : ∀ w ∈ tG, w.before #[Value.ref b] s = true := fun w h => hts w (tG_in w h)
  have hown : s.vm.findClass "TrainGuardLaw" = some m.cls := hown
  have ia1 : nI i + 1 = nI (i + 1) := nI_add i 1
  have ia2 : nI i + 2 = nI (i + 2) := nI_add i 2
  have ia3 : nI i + 3 = nI (i + 3) := nI_add i 3
  have iv1 : vp_in (nI (i + 1)) L := vp_in_nI (by omega) (by omega)
  have iv2 : vp_in (nI (i + 2)) L := vp_in_nI (by omega) (by omega)
  have iv3 : vp_in (nI (i + 3)) L := vp_in_nI (by omega) (by omega)
  have ic1 : (nI (i + 1)).toNatClampNeg = i + 1 := nI_clamp (by omega)
  have ic2 : (nI (i + 2)).toNatClampNeg = i + 2 := nI_clamp (by omega)
  have ic3 : (nI (i + 3)).toNatClampNeg = i + 3 := nI_clamp (by omega)
  refine lv_aload_n hx hb d_law_382 rfl (lv_at hl 1 rfl) ?_
  refine lv_aload_n hx hb d_law_383 rfl (lv_at hl 0 rfl) ?_
  refine lv_iload hx hb d_law_384 (lv_at hl 5 rfl) ?_
  refine lv_iconst (v := 1) hx hb d_law_386 (by decide) ?_
  refine lv_iadd hx hb d_law_387 ?_
  rw [ia1]
  refine va_sld hx hb hX hbl hbA hS iv1 d_law_388 ?_
  rw [ic1]
  refine lv_aload_n hx hb d_law_389 rfl (lv_at hl 0 rfl) ?_
  refine lv_iload hx hb d_law_390 (lv_at hl 5 rfl) ?_
  refine lv_iconst (v := 2) hx hb d_law_392 (by decide) ?_
  refine lv_iadd hx hb d_law_393 ?_
  rw [ia2]
  refine va_sld hx hb hX hbl hbA hS iv2 d_law_394 ?_
  rw [ic2]
  refine lv_i2d hx hb d_law_395 ?_
  refine lv_ldc2d hx hb hown (hw _ wd_847) d_law_396 ?_
  refine lv_dmul hx hb d_law_399 (z_argf _) ?_
  rw [z_arg]
  refine lv_aload_n hx hb d_law_400 rfl (lv_at hl 0 rfl) ?_
  refine lv_iload hx hb d_law_401 (lv_at hl 5 rfl) ?_
  refine lv_iconst (v := 3) hx hb d_law_403 (by decide) ?_
  refine lv_iadd hx hb d_law_404 ?_
  rw [ia3]
  refine va_sld hx hb hX hbl hbA hS iv3 d_law_405 ?_
  rw [ic3]
  refine lv_i2d hx hb d_law_406 ?_
  refine lv_ldc2d hx hb hown (hw _ wd_847) d_law_407 ?_
  refine lv_dmul hx hb d_law_410 (z_argf _) ?_
  rw [z_arg]
  refine lv_aload_n hx hb d_law_411 rfl (lv_at hl 3 rfl) ?_
  obtain ⟨Q9, hQ9, hh9⟩ := h_join (wG := w_G_train S ((xs (i + 1))) ((zq 3 (xs (i + 2)).toInt)) ((zq 3 (xs (i + 3)).toInt))) (wR := w_R_train M ((xs (i + 1))) ((zq 3 (xs (i + 2)).toInt)) ((zq 3 (xs (i + 3)).toInt))) f (j_train hJ (z_abs _) (z_abs _))
  have hQ9 : w_W_train (S, f) ((xs (i + 1))) ((zq 3 (xs (i + 2)).toInt)) ((zq 3 (xs (i + 3)).toInt)) Q9 := hQ9
  have hPc := hP.sub (ws' := wHl ca ad o (S, f)) [0, 2, 3, 4, 5, 6, 7, 8, 9, 10, 11, 12, 13, 14, 15, 16] rfl
  have hDc := hD.sub (ws' := wHl ca ad o (S, f)) [0, 2, 3, 4, 5, 6, 7, 8, 9, 10, 11, 12, 13, 14, 15, 16] (by decide) rfl
  have hFc := va_free (wc := wHl ca ad o (S, f)) hD hS hA [0, 2, 3, 4, 5, 6, 7, 8, 9, 10, 11, 12, 13, 14, 15, 16] rfl
  refine va_calli (vx_runSW (As := [.ref (ad 0), .int (xs (i + 1)), .double (zq 3 (xs (i + 2)).toInt), .double (zq 3 (xs (i + 3)).toInt), .ref o]) (rest := []) ⟨hx, hb, hml, hown, hw⟩ (c_W_train l hl0 D ca ad o H.size (S, f) ((xs (i + 1))) ((zq 3 (xs (i + 2)).toInt)) ((zq 3 (xs (i + 3)).toInt)) Q9 hQ9) (vx_cwSW 5 hw (tG_g gs_law_98) rfl rfl rfl (by decide +kernel) ⟨Nat.le_of_ble_eq_true rfl, Nat.le_of_ble_eq_true rfl⟩) ⟨xPh.blind, xPh.pre hK hN hPc hDc hX9 (hZ.now hS hA hDc) hC9⟩ rfl rfl hl.1 rfl (lv_room (Nat.le_of_ble_eq_true rfl)) d_law_412 ⟨show cells + 1 ≤ 663321 by omega, show slots + 6 ≤ 7106140 by omega⟩) hS (fun q _ h => hFc q h) hFc (fun k9 T9 t H1 locs ht hvm hq9 hB hz1 hk1 hS => ?_)
  obtain ⟨S9, f9⟩ := T9
  obtain ⟨hP1, hD1⟩ := hB
  rw [ht] at hP1
  obtain ⟨hP, hD⟩ := va_join (wr := (od, .inl (ca 2, 1, .inr (.inr (.inr (.inl g))))) :: wR ca ae M) (w1 := wHl ca ad o (S9, f9)) hP hD [0, 2, 3, 4, 5, 6, 7, 8, 9, 10, 11, 12, 13, 14, 15, 16] [1, 17, 18, 19, 20, 21, 22, 23, 24, 25, 26, 27, 28, 29, 30, 31, 32, 33, 34, 35] rfl rfl (by decide) (by decide) hk1 hFc hP1 hD1
  have hP := hP.sub (ws' := LI ca ad ae o od S9 M f9 g) [20, 0, 21, 22, 23, 24, 25, 26, 27, 28, 29, 30, 31, 32, 33, 34, 35, 1, 2, 3, 4, 5, 6, 7, 8, 9, 10, 11, 12, 13, 14, 15, 16, 17, 18, 19] rfl
  have hD := hD.sub (ws' := LI ca ad ae o od S9 M f9 g) [20, 0, 21, 22, 23, 24, 25, 26, 27, 28, 29, 30, 31, 32, 33, 34, 35, 1, 2, 3, 4, 5, 6, 7, 8, 9, 10, 11, 12, 13, 14, 15, 16, 17, 18, 19] (by decide) rfl
  refine W.widen (k := cells + 2) (n := slots + 12) (by omega) (by omega) ?_
  obtain ⟨R9, hR9, hr9⟩ := hh9 k9 (S9, f9) hq9
  clear hz1 hk1 hP1 hD1 hPc hDc hFc
  generalize H1 = H at hP hS ⊢
  refine lv_istore (lv' := [(6, .int k9), (0, .ref b), (1, .ref (ad 0)), (2, .ref (ae 0)), (3, .ref o), (4, .ref od), (5, .int (nI i))]) hx hb d_law_415 hl (by decide) rfl (fun ls hl => ?_)
  refine lv_aload_n hx hb d_law_417 rfl (lv_at hl 3 rfl) ?_
  refine lv_aload_n hx hb d_law_418 rfl (lv_at hl 1 rfl) ?_
  refine lv_iload hx hb d_law_419 (lv_at hl 6 rfl) ?_
  refine lv_iconst (v := 1) hx hb d_law_421 (by decide) ?_
  refine lv_iadd hx hb d_law_422 ?_
  rw [ia1]
  refine va_sld hx hb hX hbl hbA hS iv1 d_law_423 ?_
  rw [ic1]
  refine lv_aload_n hx hb d_law_424 rfl (lv_at hl 1 rfl) ?_
  refine lv_iload hx hb d_law_425 (lv_at hl 6 rfl) ?_
  refine lv_iconst (v := 2) hx hb d_law_427 (by decide) ?_
  refine lv_iadd hx hb d_law_428 ?_
  rw [ia2]
  refine va_sld hx hb hX hbl hbA hS iv2 d_law_429 ?_
  rw [ic2]
  refine lv_i2d hx hb d_law_430 ?_
  refine lv_ldc2d hx hb hown (hw _ wd_847) d_law_431 ?_
  refine lv_dmul hx hb d_law_434 (z_argf _) ?_
  rw [z_arg]
  refine lv_aload_n hx hb d_law_435 rfl (lv_at hl 1 rfl) ?_
  refine lv_iload hx hb d_law_436 (lv_at hl 6 rfl) ?_
  refine lv_iconst (v := 3) hx hb d_law_438 (by decide) ?_
  refine lv_iadd hx hb d_law_439 ?_
  rw [ia3]
  refine va_sld hx hb hX hbl hbA hS iv3 d_law_440 ?_
  rw [ic3]
  refine lv_i2d hx hb d_law_441 ?_
  refine lv_ldc2d hx hb hown (hw _ wd_847) d_law_442 ?_
  refine lv_dmul hx hb d_law_445 (z_argf _) ?_
  rw [z_arg]
  have hPc := hP.sub (ws' := wR ca ae M) [17, 18, 19, 20, 21, 22, 23, 24, 25, 26, 27, 28, 29, 30, 31, 32, 33, 34, 35] rfl
  have hDc := hD.sub (ws' := wR ca ae M) [17, 18, 19, 20, 21, 22, 23, 24, 25, 26, 27, 28, 29, 30, 31, 32, 33, 34, 35] (by decide) rfl
  have hFc := va_free (wc := wR ca ae M) hD hS hA [17, 18, 19, 20, 21, 22, 23, 24, 25, 26, 27, 28, 29, 30, 31, 32, 33, 34, 35] rfl
  refine va_calli (va_runV (As := [.int (xs (i + 1)), .double (zq 3 (xs (i + 2)).toInt), .double (zq 3 (xs (i + 3)).toInt)]) (rest := []) ⟨hx, hb, hml, hown, hw⟩ (c_R_train l D ca ae H.size M ((xs (i + 1))) ((zq 3 (xs (i + 2)).toInt)) ((zq 3 (xs (i + 3)).toInt)) R9 hR9) (cwV 3 hw (tG_g gv_law_101) rfl rfl rfl (by decide +kernel) ⟨Nat.le_of_ble_eq_true rfl, Nat.le_of_ble_eq_true rfl⟩) ⟨xPc.blind, va_recv hK hP (ci := 4) rfl (q0 := 17) rfl, xPc.pre hK hN hPc hDc⟩ rfl rfl hl.1 rfl (lv_room (Nat.le_of_ble_eq_true rfl)) d_law_446 ⟨show cells + 2 + 0 ≤ 663321 by omega, show slots + 12 + 0 ≤ 7106140 by omega⟩) hS (fun q _ h => hFc q h) hFc (fun b9 v9 t H1 locs ht hvm hq hB hz1 hk1 hS => ?_)
  obtain ⟨hP1, hD1⟩ := hB
  rw [ht] at hP1
  obtain ⟨hP, hD⟩ := va_join (wr := (o, .inl (ca 1, 1, .inr (.inl f9))) :: (od, .inl (ca 2, 1, .inr (.inr (.inr (.inl g))))) :: wC ca ad S9) (w1 := wR ca ae v9) hP hD [17, 18, 19, 20, 21, 22, 23, 24, 25, 26, 27, 28, 29, 30, 31, 32, 33, 34, 35] [0, 1, 2, 3, 4, 5, 6, 7, 8, 9, 10, 11, 12, 13, 14, 15, 16] rfl rfl (by decide) (by decide) hk1 hFc hP1 hD1
  have hP : va_P D cls (LI ca ad ae o od S9 v9 f9 g) H1 := hP
  have hD : va_D (LA s) (LI ca ad ae o od S9 v9 f9 g) := hD
  clear hz1 hk1 hP1 hD1 hPc hDc hFc
  generalize H1 = H at hP hS ⊢
  refine lv_istore (lv' := [(7, .int b9), (6, .int k9), (0, .ref b), (1, .ref (ad 0)), (2, .ref (ae 0)), (3, .ref o), (4, .ref od), (5, .int (nI i))]) hx hb d_law_449 hl (by decide) rfl (fun ls hl => ?_)
  obtain ⟨hth, hJ9, hans⟩ := hr9 b9 v9 hq
  refine lv_aload_n hx hb d_law_451 rfl (lv_at hl 4 rfl) ?_
  have hPc := hP.sub (ws' := wR ca ae v9) [17, 18, 19, 20, 21, 22, 23, 24, 25, 26, 27, 28, 29, 30, 31, 32, 33, 34, 35] rfl
  have hDc := hD.sub (ws' := wR ca ae v9) [17, 18, 19, 20, 21, 22, 23, 24, 25, 26, 27, 28, 29, 30, 31, 32, 33, 34, 35] (by decide) rfl
  have hFc := va_free (wc := wR ca ae v9) hD hS hA [17, 18, 19, 20, 21, 22, 23, 24, 25, 26, 27, 28, 29, 30, 31, 32, 33, 34, 35] rfl
  refine va_calli (va_runV (As := []) (rest := []) ⟨hx, hb, hml, hown, hw⟩ (c_R_thrown l D ca ae H.size v9 (fun r u => r = v9.1 0 0 ∧ u = v9) ⟨rfl, rfl⟩) (cwV 0 hw (tG_g gv_law_86) rfl rfl rfl (by decide +kernel) ⟨Nat.le_of_ble_eq_true rfl, Nat.le_of_ble_eq_true rfl⟩) ⟨xPc.blind, va_recv hK hP (ci := 4) rfl (q0 := 17) rfl, xPc.pre hK hN hPc hDc⟩ rfl rfl hl.1 rfl (lv_room (Nat.le_of_ble_eq_true rfl)) d_law_452 ⟨show cells + 2 + 0 ≤ 663321 by omega, show slots + 12 + 0 ≤ 7106140 by omega⟩) hS (fun q _ h => hFc q h) hFc (fun t9 v8 t H1 locs ht hvm hq hB hz1 hk1 hS => ?_)
  obtain ⟨hP1, hD1⟩ := hB
  rw [ht] at hP1
  obtain ⟨hP, hD⟩ := va_join (wr := (o, .inl (ca 1, 1, .inr (.inl f9))) :: (od, .inl (ca 2, 1, .inr (.inr (.inr (.inl g))))) :: wC ca ad S9) (w1 := wR ca ae v8) hP hD [17, 18, 19, 20, 21, 22, 23, 24, 25, 26, 27, 28, 29, 30, 31, 32, 33, 34, 35] [0, 1, 2, 3, 4, 5, 6, 7, 8, 9, 10, 11, 12, 13, 14, 15, 16] rfl rfl (by decide) (by decide) hk1 hFc hP1 hD1
  have hP : va_P D cls (LI ca ad ae o od S9 v8 f9 g) H1 := hP
  have hD : va_D (LA s) (LI ca ad ae o od S9 v8 f9 g) := hD
  clear hz1 hk1 hP1 hD1 hPc hDc hFc
  generalize H1 = H at hP hS ⊢
  obtain ⟨et9, ev9⟩ := hq
  have ev9 : v8 = v9 := ev9
  have hJ9 : J S9 v8 := by rw [ev9]; exact hJ9
  refine lv_iload hx hb d_law_455 (lv_at hl 1 rfl) ?_
  refine lv_icmp_eq (tgt := 462) hx hb d_law_457 (by decide) (fun hc9 => ?_) (fun hc9 => absurd (et9.trans hth) hc9)
  refine lv_iload hx hb d_law_462 (lv_at hl 1 rfl) ?_
  refine lv_if_ne (tgt := 479) hx hb d_law_464 (by decide) (fun hc8 => ?_) (fun hc8 => ?_)
  · refine lv_goto (tgt := 1341) hx hb d_law_479 (by decide) (kk S9 v8 f9 g _ _ _ hJ9 hP hD hS (lv_sub hl [2, 3, 4, 5, 6, 7] rfl))
  have hans := hans hc8
  refine lv_aload_n hx hb d_law_467 rfl (lv_at hl 5 rfl) ?_
  refine lv_iconst (v := 0) hx hb d_law_468 (by decide) ?_
  refine va_lald (D := D) (i := 0) hx hb hK hP 0 1 rfl rfl (by unfold vp_in; decide) d_law_469 ?_
  rw [show (f9) (0 : Int32).toNatClampNeg = b9.toInt64 from hans]
  refine lv_iload hx hb d_law_470 (lv_at hl 0 rfl) ?_
  refine lv_i2l (v := b9.toInt64) hx hb d_law_472 rfl ?_
  refine W.lcmp hx hb d_law_473 ?_
  refine lv_if_eq (tgt := 479) hx hb d_law_474 (by decide) (fun hc7 => ?_) (fun hc7 => absurd (l_same _) hc7)
  refine lv_goto (tgt := 1341) hx hb d_law_479 (by decide) (kk S9 v8 f9 g _ _ _ hJ9 hP hD hS (lv_sub hl [2, 3, 4, 5, 6, 7] rfl))
