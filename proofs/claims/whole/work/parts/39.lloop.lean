-- the law: its loop
set_option maxRecDepth 100000 in
set_option maxHeartbeats 4000000 in
theorem law_loop {p : Program} {l : Launch} {e : Env} {s : State} {m : MethodId} {below : List Frame} {meth : Method} {c : Code} {b L : Nat} {xs : Nat → Int32} {D : va_G} {ca : Nat → ClassId} {ad ae : Nat → Nat} {o od : Nat} (K0 : LK p l s m meth c b L xs D ca) : ∀ (n i cells slots : Nat) (S : SC) (M : SR) (f : Nat → Int64) (g : Nat → UInt64) (H : Heap) (locs : List Loc) (ls : Array Slot), i ≤ L → L + 1 ≤ i + 4 * n → cells + 2 * n ≤ 663321 ∧ slots + 12 * n ≤ 7106140 → J S M → va_P D cls (LI ca ad ae o od S M f g) H → va_D (LA s) (LI ca ad ae o od S M f g) → va_S (LA s) s.heap H locs → lv_has ls 9 [(0, .ref b), (1, .ref (ad 0)), (2, .ref (ae 0)), (3, .ref o), (4, .ref od), (5, .int (nI i))] → W p l e room_1 s m #[Value.ref b] below meth c H locs cells slots (lw_Z below #[Value.ref b] s) (F0 m 28 ls []) := by
  have K1 := K0
  obtain ⟨⟨hl0, hL⟩, ⟨hx, hb, hr, hml, hown, hts, hX, hbl, hlocks, hgv⟩, hK, hN, hX9, hC9, hZ⟩ := K0
  have hbA : ¬ LA s b := Nat.not_le.mpr hbl
  intro n
  induction n with
  | zero =>
    intro i cells slots S M f g H locs ls h1 h2
    exact absurd h2 (by omega)
  | succ n ih =>
    intro i cells slots S M f g H locs ls hiL hin hc hJ hP hD hS hl
    refine lv_iload hx hb d_law_28 (lv_at hl 5 rfl) ?_
    refine lv_aload_n hx hb d_law_30 rfl (lv_at hl 0 rfl) ?_
    refine va_slen hx hb hX hbl hbA hS d_law_31 ?_
    refine lv_iconst (v := 4) hx hb d_law_32 (by decide) ?_
    refine lv_isub hx hb d_law_33 ?_
    have hsub : (nI L - 4 : Int32).toInt = (L : Int) - 4 := pk_sub_toInt (a := L) (b := 4) (by omega) (by omega)
    have hiI : (nI i).toInt = (i : Int) := nI_toInt (by omega)
    refine lv_icmp_gt (tgt := 1347) hx hb d_law_34 (by decide) (fun h9 => ?_) (fun h9 => ?_)
    · refine lv_iconst (v := 1) hx hb d_law_1347 (by decide) ?_
      refine va_forget (fun q hq => hS.2.2 q hq) ?_
      refine W.widen (k := 663321) (n := 7106140) (by omega) (by omega) ?_
      exact lw_ret hx hb hr hlocks d_law_1348
    have hle : i + 4 ≤ L := by
      have h8 : ¬ (nI L - 4 : Int32) < nI i := h9
      rw [Int32.lt_iff_toInt_lt, hsub, hiI] at h8
      omega
    have iv0 : vp_in (nI i) L := vp_in_nI (by omega) (by omega)
    have ic0 : (nI i).toNatClampNeg = i := nI_clamp (by omega)
    -- the way back
    have kk : ∀ (S : SC) (M : SR) (f : Nat → Int64) (g : Nat → UInt64) (H : Heap) (locs : List Loc) (ls : Array Slot), J S M → va_P D cls (LI ca ad ae o od S M f g) H → va_D (LA s) (LI ca ad ae o od S M f g) → va_S (LA s) s.heap H locs → lv_has ls 9 [(0, .ref b), (1, .ref (ad 0)), (2, .ref (ae 0)), (3, .ref o), (4, .ref od), (5, .int (nI i))] → W p l e room_1 s m #[Value.ref b] below meth c H locs (cells + 2) (slots + 12) (lw_Z below #[Value.ref b] s) (F0 m 1341 ls []) := by
      intro S M f g H locs ls hJ hP hD hS hl
      refine lv_iinc (v := nI (i + 4)) (lv' := [(5, .int (nI (i + 4))), (0, .ref b), (1, .ref (ad 0)), (2, .ref (ae 0)), (3, .ref o), (4, .ref od)]) hx hb d_law_1341 hl (k := 5) rfl (show nI i + 4 = nI (i + 4) from nI_add i 4) (by decide) rfl (fun ls hl => ?_)
      refine lv_goto (tgt := 28) hx hb d_law_1344 (by decide) ?_
      exact ih (i + 4) (cells + 2) (slots + 12) S M f g H locs ls hle (by omega) (by omega) hJ hP hD hS (lv_sub hl [1, 2, 3, 4, 5, 0] rfl)
    have hcc : cells + 2 ≤ 663321 ∧ slots + 12 ≤ 7106140 := by omega
    refine lv_aload_n hx hb d_law_37 rfl (lv_at hl 0 rfl) ?_
    refine lv_iload hx hb d_law_38 (lv_at hl 5 rfl) ?_
    refine va_sld hx hb hX hbl hbA hS iv0 d_law_40 ?_
    refine lv_bipush (v := 31) hx hb d_law_41 (by decide) ?_
    refine lv_iand hx hb d_law_43 ?_
    obtain ⟨j, hj, ej⟩ := pk_andE (xs (nI i).toNatClampNeg) (m := 31) 5 (by decide)
    rw [ej]
    by_cases h17 : 17 ≤ j
    · refine lv_tableOut (tgt := 1341) hx hb d_law_44 (Or.inr ?_) (by decide) ?_
      · rw [nI_toInt (by omega)]
        omega
      · refine W.widen (k := cells + 2) (n := slots + 12) (by omega) (by omega) ?_
        exact kk S M f g H locs ls hJ hP hD hS hl
    rcases (show j = 0 ∨ j = 1 ∨ j = 2 ∨ j = 3 ∨ j = 4 ∨ j = 5 ∨ j = 6 ∨ j = 7 ∨ j = 8 ∨ j = 9 ∨ j = 10 ∨ j = 11 ∨ j = 12 ∨ j = 13 ∨ j = 14 ∨ j = 15 ∨ j = 16 by omega) with rfl | rfl | rfl | rfl | rfl | rfl | rfl | rfl | rfl | rfl | rfl | rfl | rfl | rfl | rfl | rfl | rfl
    · refine lv_tableIn (off := 84) (tgt := 128) hx hb d_law_44 (by decide) (by decide) (by decide) (by decide) ?_
      exact lc_section K1 hJ hle hcc hP hD hS hl kk
    · refine lv_tableIn (off := 172) (tgt := 216) hx hb d_law_44 (by decide) (by decide) (by decide) (by decide) ?_
      exact lc_restrict K1 hJ hle hcc hP hD hS hl kk
    · refine lv_tableIn (off := 282) (tgt := 326) hx hb d_law_44 (by decide) (by decide) (by decide) (by decide) ?_
      exact lc_release K1 hJ hle hcc hP hD hS hl kk
    · refine lv_tableIn (off := 338) (tgt := 382) hx hb d_law_44 (by decide) (by decide) (by decide) (by decide) ?_
      exact lc_train K1 hJ hle hcc hP hD hS hl kk
    · refine lv_tableIn (off := 438) (tgt := 482) hx hb d_law_44 (by decide) (by decide) (by decide) (by decide) ?_
      exact lc_start K1 hJ hle hcc hP hD hS hl kk
    · refine lv_tableIn (off := 494) (tgt := 538) hx hb d_law_44 (by decide) (by decide) (by decide) (by decide) ?_
      exact lc_ask K1 hJ hle hcc hP hD hS hl kk
    · refine lv_tableIn (off := 562) (tgt := 606) hx hb d_law_44 (by decide) (by decide) (by decide) (by decide) ?_
      exact lc_stop K1 hJ hle hcc hP hD hS hl kk
    · refine lv_tableIn (off := 618) (tgt := 662) hx hb d_law_44 (by decide) (by decide) (by decide) (by decide) ?_
      exact lc_take K1 hJ hle hcc hP hD hS hl kk
    · refine lv_tableIn (off := 686) (tgt := 730) hx hb d_law_44 (by decide) (by decide) (by decide) (by decide) ?_
      exact lc_second K1 hJ hle hcc hP hD hS hl kk
    · refine lv_tableIn (off := 776) (tgt := 820) hx hb d_law_44 (by decide) (by decide) (by decide) (by decide) ?_
      exact lc_wet K1 hJ hle hcc hP hD hS hl kk
    · refine lv_tableIn (off := 860) (tgt := 904) hx hb d_law_44 (by decide) (by decide) (by decide) (by decide) ?_
      exact lc_acknowledge K1 hJ hle hcc hP hD hS hl kk
    · refine lv_tableIn (off := 916) (tgt := 960) hx hb d_law_44 (by decide) (by decide) (by decide) (by decide) ?_
      exact lc_end K1 hJ hle hcc hP hD hS hl kk
    · refine lv_tableIn (off := 972) (tgt := 1016) hx hb d_law_44 (by decide) (by decide) (by decide) (by decide) ?_
      exact lc_of K1 hJ hle hcc hP hD hS hl kk
    · refine lv_tableIn (off := 1061) (tgt := 1105) hx hb d_law_44 (by decide) (by decide) (by decide) (by decide) ?_
      exact lc_limit K1 hJ hle hcc hP hD hS hl kk
    · refine lv_tableIn (off := 1148) (tgt := 1192) hx hb d_law_44 (by decide) (by decide) (by decide) (by decide) ?_
      exact lc_mode K1 hJ hle hcc hP hD hS hl kk
    · refine lv_tableIn (off := 1204) (tgt := 1248) hx hb d_law_44 (by decide) (by decide) (by decide) (by decide) ?_
      exact lc_holds K1 hJ hle hcc hP hD hS hl kk
    · refine lv_tableIn (off := 1272) (tgt := 1316) hx hb d_law_44 (by decide) (by decide) (by decide) (by decide) ?_
      exact lc_count K1 hJ hle hcc hP hD hS hl kk
