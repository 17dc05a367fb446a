section
-- ===== PART A: goes FIRST, ahead of the names: the tables' words, and 'selects' of the private methods out of them =====
/-- a private method of a class that the tables say can be made, by its rows of tables_1 -/
def lw_okq (q : MethodName × Nat) : Prop := (q.1.cls ≠ "java/lang/invoke/MethodHandle" ∧ q.1.cls ≠ "java/lang/invoke/VarHandle") ∧ Cond.instantiable q.1.cls q.2 ∈ tables_1 ∧ Cond.privateMethod q.1 ∈ tables_1 ∧ Cond.instanceMethod q.1 ∈ tables_1
theorem lw_p0 : lw_okq (⟨"java/lang/Throwable", "fillInStackTrace", "(I)Ljava/lang/Throwable;"⟩, 6) := ⟨⟨by decide +kernel, by decide +kernel⟩, List.mem_of_getElem? (i := 218) (by decide +kernel), List.mem_of_getElem? (i := 216) (by decide +kernel), List.mem_of_getElem? (i := 217) (by decide +kernel)⟩
theorem lw_p1 : lw_okq (⟨"TrainGuard", "allStandBy", "()Z"⟩, 6) := ⟨⟨by decide +kernel, by decide +kernel⟩, List.mem_of_getElem? (i := 14) (by decide +kernel), List.mem_of_getElem? (i := 273) (by decide +kernel), List.mem_of_getElem? (i := 274) (by decide +kernel)⟩
theorem lw_p2 : lw_okq (⟨"TrainGuard", "isFreeFor", "(II)Z"⟩, 6) := ⟨⟨by decide +kernel, by decide +kernel⟩, List.mem_of_getElem? (i := 14) (by decide +kernel), List.mem_of_getElem? (i := 336) (by decide +kernel), List.mem_of_getElem? (i := 337) (by decide +kernel)⟩
theorem lw_p3 : lw_okq (⟨"TrainGuard", "firstTrainIn", "(II)I"⟩, 6) := ⟨⟨by decide +kernel, by decide +kernel⟩, List.mem_of_getElem? (i := 14) (by decide +kernel), List.mem_of_getElem? (i := 340) (by decide +kernel), List.mem_of_getElem? (i := 341) (by decide +kernel)⟩
theorem lw_p4 : lw_okq (⟨"TrainGuard", "isIn", "(LTrainGuard$Train;I)Z"⟩, 6) := ⟨⟨by decide +kernel, by decide +kernel⟩, List.mem_of_getElem? (i := 14) (by decide +kernel), List.mem_of_getElem? (i := 344) (by decide +kernel), List.mem_of_getElem? (i := 345) (by decide +kernel)⟩
theorem lw_p5 : lw_okq (⟨"TrainGuard", "trainNumbered", "(I)LTrainGuard$Train;"⟩, 6) := ⟨⟨by decide +kernel, by decide +kernel⟩, List.mem_of_getElem? (i := 14) (by decide +kernel), List.mem_of_getElem? (i := 365) (by decide +kernel), List.mem_of_getElem? (i := 366) (by decide +kernel)⟩
theorem lw_p6 : lw_okq (⟨"TrainGuard$Train", "isSafeState", "(LTrainGuard$Line;DDD)Z"⟩, 11) := ⟨⟨by decide +kernel, by decide +kernel⟩, List.mem_of_getElem? (i := 59) (by decide +kernel), List.mem_of_getElem? (i := 373) (by decide +kernel), List.mem_of_getElem? (i := 374) (by decide +kernel)⟩
theorem lw_p7 : lw_okq (⟨"TrainGuard$Train", "isSafe", "(DDDD)Z"⟩, 11) := ⟨⟨by decide +kernel, by decide +kernel⟩, List.mem_of_getElem? (i := 59) (by decide +kernel), List.mem_of_getElem? (i := 377) (by decide +kernel), List.mem_of_getElem? (i := 378) (by decide +kernel)⟩
theorem lw_p8 : lw_okq (⟨"TrainGuard$Train", "meetsLimitsAhead", "(LTrainGuard$Line;DD)Z"⟩, 11) := ⟨⟨by decide +kernel, by decide +kernel⟩, List.mem_of_getElem? (i := 59) (by decide +kernel), List.mem_of_getElem? (i := 399) (by decide +kernel), List.mem_of_getElem? (i := 400) (by decide +kernel)⟩
theorem lw_p9 : lw_okq (⟨"TrainGuard", "headOf", "(LTrainGuard$Train;)I"⟩, 6) := ⟨⟨by decide +kernel, by decide +kernel⟩, List.mem_of_getElem? (i := 14) (by decide +kernel), List.mem_of_getElem? (i := 420) (by decide +kernel), List.mem_of_getElem? (i := 421) (by decide +kernel)⟩
theorem lw_p10 : lw_okq (⟨"TrainGuard$Message", "dueMark", "()I"⟩, 5) := ⟨⟨by decide +kernel, by decide +kernel⟩, List.mem_of_getElem? (i := 65) (by decide +kernel), List.mem_of_getElem? (i := 428) (by decide +kernel), List.mem_of_getElem? (i := 429) (by decide +kernel)⟩
theorem lw_p11 : lw_okq (⟨"TrainGuard$Train", "wishedSpeed", "(D)D"⟩, 11) := ⟨⟨by decide +kernel, by decide +kernel⟩, List.mem_of_getElem? (i := 59) (by decide +kernel), List.mem_of_getElem? (i := 498) (by decide +kernel), List.mem_of_getElem? (i := 499) (by decide +kernel)⟩
theorem lw_p12 : lw_okq (⟨"TrainGuard$Train", "isSafeBehind", "(LTrainGuard$Line;D)Z"⟩, 11) := ⟨⟨by decide +kernel, by decide +kernel⟩, List.mem_of_getElem? (i := 59) (by decide +kernel), List.mem_of_getElem? (i := 503) (by decide +kernel), List.mem_of_getElem? (i := 504) (by decide +kernel)⟩
theorem lw_p13 : lw_okq (⟨"TrainGuard$Train", "wayTo", "(D)D"⟩, 11) := ⟨⟨by decide +kernel, by decide +kernel⟩, List.mem_of_getElem? (i := 59) (by decide +kernel), List.mem_of_getElem? (i := 507) (by decide +kernel), List.mem_of_getElem? (i := 508) (by decide +kernel)⟩
theorem lw_p14 : lw_okq (⟨"TrainGuard$Train", "brakedSpeed", "()D"⟩, 11) := ⟨⟨by decide +kernel, by decide +kernel⟩, List.mem_of_getElem? (i := 59) (by decide +kernel), List.mem_of_getElem? (i := 512) (by decide +kernel), List.mem_of_getElem? (i := 513) (by decide +kernel)⟩
theorem lw_p15 : lw_okq (⟨"TrainGuard$Train", "move", "(LTrainGuard$Line;DI)V"⟩, 11) := ⟨⟨by decide +kernel, by decide +kernel⟩, List.mem_of_getElem? (i := 59) (by decide +kernel), List.mem_of_getElem? (i := 516) (by decide +kernel), List.mem_of_getElem? (i := 517) (by decide +kernel)⟩
def lw_privs_1 : List (MethodName × Nat) := [(⟨"java/lang/Throwable", "fillInStackTrace", "(I)Ljava/lang/Throwable;"⟩, 6), (⟨"TrainGuard", "allStandBy", "()Z"⟩, 6), (⟨"TrainGuard", "isFreeFor", "(II)Z"⟩, 6), (⟨"TrainGuard", "firstTrainIn", "(II)I"⟩, 6), (⟨"TrainGuard", "isIn", "(LTrainGuard$Train;I)Z"⟩, 6), (⟨"TrainGuard", "trainNumbered", "(I)LTrainGuard$Train;"⟩, 6), (⟨"TrainGuard$Train", "isSafeState", "(LTrainGuard$Line;DDD)Z"⟩, 11), (⟨"TrainGuard$Train", "isSafe", "(DDDD)Z"⟩, 11), (⟨"TrainGuard$Train", "meetsLimitsAhead", "(LTrainGuard$Line;DD)Z"⟩, 11), (⟨"TrainGuard", "headOf", "(LTrainGuard$Train;)I"⟩, 6), (⟨"TrainGuard$Message", "dueMark", "()I"⟩, 5), (⟨"TrainGuard$Train", "wishedSpeed", "(D)D"⟩, 11), (⟨"TrainGuard$Train", "isSafeBehind", "(LTrainGuard$Line;D)Z"⟩, 11), (⟨"TrainGuard$Train", "wayTo", "(D)D"⟩, 11), (⟨"TrainGuard$Train", "brakedSpeed", "()D"⟩, 11), (⟨"TrainGuard$Train", "move", "(LTrainGuard$Line;DI)V"⟩, 11)]
theorem lw_r1 : ∀ q ∈ lw_privs_1, lw_okq q := List.forall_mem_cons.mpr ⟨lw_p0, List.forall_mem_cons.mpr ⟨lw_p1, List.forall_mem_cons.mpr ⟨lw_p2, List.forall_mem_cons.mpr ⟨lw_p3, List.forall_mem_cons.mpr ⟨lw_p4, List.forall_mem_cons.mpr ⟨lw_p5, List.forall_mem_cons.mpr ⟨lw_p6, List.forall_mem_cons.mpr ⟨lw_p7, List.forall_mem_cons.mpr ⟨lw_p8, List.forall_mem_cons.mpr ⟨lw_p9, List.forall_mem_cons.mpr ⟨lw_p10, List.forall_mem_cons.mpr ⟨lw_p11, List.forall_mem_cons.mpr ⟨lw_p12, List.forall_mem_cons.mpr ⟨lw_p13, List.forall_mem_cons.mpr ⟨lw_p14, List.forall_mem_cons.mpr ⟨lw_p15, fun _ h => absurd h List.not_mem_nil⟩⟩⟩⟩⟩⟩⟩⟩⟩⟩⟩⟩⟩⟩⟩⟩
theorem lw_p16 : lw_okq (⟨"TrainGuard", "holdOwnPlacesOnly", "(I)V"⟩, 6) := ⟨⟨by decide +kernel, by decide +kernel⟩, List.mem_of_getElem? (i := 14) (by decide +kernel), List.mem_of_getElem? (i := 550) (by decide +kernel), List.mem_of_getElem? (i := 551) (by decide +kernel)⟩
theorem lw_p17 : lw_okq (⟨"TrainGuardModel", "fail", "(I)I"⟩, 25) := ⟨⟨by decide +kernel, by decide +kernel⟩, List.mem_of_getElem? (i := 586) (by decide +kernel), List.mem_of_getElem? (i := 684) (by decide +kernel), List.mem_of_getElem? (i := 685) (by decide +kernel)⟩
theorem lw_p18 : lw_okq (⟨"TrainGuardModel", "answer", "(I)I"⟩, 25) := ⟨⟨by decide +kernel, by decide +kernel⟩, List.mem_of_getElem? (i := 586) (by decide +kernel), List.mem_of_getElem? (i := 692) (by decide +kernel), List.mem_of_getElem? (i := 693) (by decide +kernel)⟩
theorem lw_p19 : lw_okq (⟨"TrainGuardModel", "noSection", "(I)Z"⟩, 25) := ⟨⟨by decide +kernel, by decide +kernel⟩, List.mem_of_getElem? (i := 586) (by decide +kernel), List.mem_of_getElem? (i := 712) (by decide +kernel), List.mem_of_getElem? (i := 713) (by decide +kernel)⟩
theorem lw_p20 : lw_okq (⟨"TrainGuardModel", "taken", "(II)Z"⟩, 25) := ⟨⟨by decide +kernel, by decide +kernel⟩, List.mem_of_getElem? (i := 586) (by decide +kernel), List.mem_of_getElem? (i := 719) (by decide +kernel), List.mem_of_getElem? (i := 720) (by decide +kernel)⟩
theorem lw_p21 : lw_okq (⟨"TrainGuardModel", "isIn", "(II)Z"⟩, 25) := ⟨⟨by decide +kernel, by decide +kernel⟩, List.mem_of_getElem? (i := 586) (by decide +kernel), List.mem_of_getElem? (i := 723) (by decide +kernel), List.mem_of_getElem? (i := 724) (by decide +kernel)⟩
theorem lw_p22 : lw_okq (⟨"TrainGuardModel", "noTrain", "(I)Z"⟩, 25) := ⟨⟨by decide +kernel, by decide +kernel⟩, List.mem_of_getElem? (i := 586) (by decide +kernel), List.mem_of_getElem? (i := 732) (by decide +kernel), List.mem_of_getElem? (i := 733) (by decide +kernel)⟩
theorem lw_p23 : lw_okq (⟨"TrainGuardModel", "ready", "(I)Z"⟩, 25) := ⟨⟨by decide +kernel, by decide +kernel⟩, List.mem_of_getElem? (i := 586) (by decide +kernel), List.mem_of_getElem? (i := 736) (by decide +kernel), List.mem_of_getElem? (i := 737) (by decide +kernel)⟩
theorem lw_p24 : lw_okq (⟨"TrainGuardModel", "safe", "(IJJJ)Z"⟩, 25) := ⟨⟨by decide +kernel, by decide +kernel⟩, List.mem_of_getElem? (i := 586) (by decide +kernel), List.mem_of_getElem? (i := 740) (by decide +kernel), List.mem_of_getElem? (i := 741) (by decide +kernel)⟩
theorem lw_p25 : lw_okq (⟨"TrainGuardModel", "safeFor", "(IJJJJJ)Z"⟩, 25) := ⟨⟨by decide +kernel, by decide +kernel⟩, List.mem_of_getElem? (i := 586) (by decide +kernel), List.mem_of_getElem? (i := 744) (by decide +kernel), List.mem_of_getElem? (i := 745) (by decide +kernel)⟩
theorem lw_p26 : lw_okq (⟨"TrainGuardModel", "lineEnd", "()J"⟩, 25) := ⟨⟨by decide +kernel, by decide +kernel⟩, List.mem_of_getElem? (i := 586) (by decide +kernel), List.mem_of_getElem? (i := 753) (by decide +kernel), List.mem_of_getElem? (i := 754) (by decide +kernel)⟩
theorem lw_p27 : lw_okq (⟨"TrainGuardModel", "limitAt", "(J)J"⟩, 25) := ⟨⟨by decide +kernel, by decide +kernel⟩, List.mem_of_getElem? (i := 586) (by decide +kernel), List.mem_of_getElem? (i := 757) (by decide +kernel), List.mem_of_getElem? (i := 758) (by decide +kernel)⟩
theorem lw_p28 : lw_okq (⟨"TrainGuardModel", "sectionAt", "(J)I"⟩, 25) := ⟨⟨by decide +kernel, by decide +kernel⟩, List.mem_of_getElem? (i := 586) (by decide +kernel), List.mem_of_getElem? (i := 761) (by decide +kernel), List.mem_of_getElem? (i := 762) (by decide +kernel)⟩
theorem lw_p29 : lw_okq (⟨"TrainGuardModel", "within", "(J)J"⟩, 25) := ⟨⟨by decide +kernel, by decide +kernel⟩, List.mem_of_getElem? (i := 586) (by decide +kernel), List.mem_of_getElem? (i := 765) (by decide +kernel), List.mem_of_getElem? (i := 766) (by decide +kernel)⟩
theorem lw_p30 : lw_okq (⟨"TrainGuardModel", "head", "(I)I"⟩, 25) := ⟨⟨by decide +kernel, by decide +kernel⟩, List.mem_of_getElem? (i := 586) (by decide +kernel), List.mem_of_getElem? (i := 773) (by decide +kernel), List.mem_of_getElem? (i := 774) (by decide +kernel)⟩
theorem lw_p31 : lw_okq (⟨"TrainGuardModel", "send", "(IIJ)I"⟩, 25) := ⟨⟨by decide +kernel, by decide +kernel⟩, List.mem_of_getElem? (i := 586) (by decide +kernel), List.mem_of_getElem? (i := 777) (by decide +kernel), List.mem_of_getElem? (i := 778) (by decide +kernel)⟩
def lw_privs_2 : List (MethodName × Nat) := [(⟨"TrainGuard", "holdOwnPlacesOnly", "(I)V"⟩, 6), (⟨"TrainGuardModel", "fail", "(I)I"⟩, 25), (⟨"TrainGuardModel", "answer", "(I)I"⟩, 25), (⟨"TrainGuardModel", "noSection", "(I)Z"⟩, 25), (⟨"TrainGuardModel", "taken", "(II)Z"⟩, 25), (⟨"TrainGuardModel", "isIn", "(II)Z"⟩, 25), (⟨"TrainGuardModel", "noTrain", "(I)Z"⟩, 25), (⟨"TrainGuardModel", "ready", "(I)Z"⟩, 25), (⟨"TrainGuardModel", "safe", "(IJJJ)Z"⟩, 25), (⟨"TrainGuardModel", "safeFor", "(IJJJJJ)Z"⟩, 25), (⟨"TrainGuardModel", "lineEnd", "()J"⟩, 25), (⟨"TrainGuardModel", "limitAt", "(J)J"⟩, 25), (⟨"TrainGuardModel", "sectionAt", "(J)I"⟩, 25), (⟨"TrainGuardModel", "within", "(J)J"⟩, 25), (⟨"TrainGuardModel", "head", "(I)I"⟩, 25), (⟨"TrainGuardModel", "send", "(IIJ)I"⟩, 25)]
theorem lw_r2 : ∀ q ∈ lw_privs_2, lw_okq q := List.forall_mem_cons.mpr ⟨lw_p16, List.forall_mem_cons.mpr ⟨lw_p17, List.forall_mem_cons.mpr ⟨lw_p18, List.forall_mem_cons.mpr ⟨lw_p19, List.forall_mem_cons.mpr ⟨lw_p20, List.forall_mem_cons.mpr ⟨lw_p21, List.forall_mem_cons.mpr ⟨lw_p22, List.forall_mem_cons.mpr ⟨lw_p23, List.forall_mem_cons.mpr ⟨lw_p24, List.forall_mem_cons.mpr ⟨lw_p25, List.forall_mem_cons.mpr ⟨lw_p26, List.forall_mem_cons.mpr ⟨lw_p27, List.forall_mem_cons.mpr ⟨lw_p28, List.forall_mem_cons.mpr ⟨lw_p29, List.forall_mem_cons.mpr ⟨lw_p30, List.forall_mem_cons.mpr ⟨lw_p31, fun _ h => absurd h List.not_mem_nil⟩⟩⟩⟩⟩⟩⟩⟩⟩⟩⟩⟩⟩⟩⟩⟩
theorem lw_p32 : lw_okq (⟨"TrainGuardModel", "takeAuthority", "(I)I"⟩, 25) := ⟨⟨by decide +kernel, by decide +kernel⟩, List.mem_of_getElem? (i := 586) (by decide +kernel), List.mem_of_getElem? (i := 789) (by decide +kernel), List.mem_of_getElem? (i := 790) (by decide +kernel)⟩
theorem lw_p33 : lw_okq (⟨"TrainGuardModel", "pass", "(IJI)V"⟩, 25) := ⟨⟨by decide +kernel, by decide +kernel⟩, List.mem_of_getElem? (i := 586) (by decide +kernel), List.mem_of_getElem? (i := 798) (by decide +kernel), List.mem_of_getElem? (i := 799) (by decide +kernel)⟩
theorem lw_p34 : lw_okq (⟨"TrainGuardModel", "wish", "(IJ)J"⟩, 25) := ⟨⟨by decide +kernel, by decide +kernel⟩, List.mem_of_getElem? (i := 586) (by decide +kernel), List.mem_of_getElem? (i := 802) (by decide +kernel), List.mem_of_getElem? (i := 803) (by decide +kernel)⟩
theorem lw_p35 : lw_okq (⟨"TrainGuardModel", "move", "(IJI)V"⟩, 25) := ⟨⟨by decide +kernel, by decide +kernel⟩, List.mem_of_getElem? (i := 586) (by decide +kernel), List.mem_of_getElem? (i := 807) (by decide +kernel), List.mem_of_getElem? (i := 808) (by decide +kernel)⟩
theorem lw_p36 : lw_okq (⟨"TrainGuardModel", "shown", "(J)D"⟩, 25) := ⟨⟨by decide +kernel, by decide +kernel⟩, List.mem_of_getElem? (i := 586) (by decide +kernel), List.mem_of_getElem? (i := 827) (by decide +kernel), List.mem_of_getElem? (i := 828) (by decide +kernel)⟩
def lw_privs_3 : List (MethodName × Nat) := [(⟨"TrainGuardModel", "takeAuthority", "(I)I"⟩, 25), (⟨"TrainGuardModel", "pass", "(IJI)V"⟩, 25), (⟨"TrainGuardModel", "wish", "(IJ)J"⟩, 25), (⟨"TrainGuardModel", "move", "(IJI)V"⟩, 25), (⟨"TrainGuardModel", "shown", "(J)D"⟩, 25)]
theorem lw_r3 : ∀ q ∈ lw_privs_3, lw_okq q := List.forall_mem_cons.mpr ⟨lw_p32, List.forall_mem_cons.mpr ⟨lw_p33, List.forall_mem_cons.mpr ⟨lw_p34, List.forall_mem_cons.mpr ⟨lw_p35, List.forall_mem_cons.mpr ⟨lw_p36, fun _ h => absurd h List.not_mem_nil⟩⟩⟩⟩⟩
def lw_privs : List (MethodName × Nat) := lw_privs_1 ++ (lw_privs_2 ++ (lw_privs_3))
def lw_tbl : List Cond := k2_sels lw_privs ++ tables_1
theorem lw_privs_ok : ∀ q ∈ lw_privs, lw_okq q := by
  show ∀ q ∈ lw_privs_1 ++ (lw_privs_2 ++ (lw_privs_3)), lw_okq q
  exact List.forall_mem_append.mpr ⟨lw_r1, List.forall_mem_append.mpr ⟨lw_r2, lw_r3⟩⟩
end
section
/-! ===== BEGIN words of one list among another's, by their places ===== -/
theorem goodIn_r {big : List Cond} (ws : List Cond) (ps : List Nat) (hp : ws = ps.filterMap (fun i => big[i]?)) (h : ws.all goodWord = true) : GoodIn big ws := by
  intro w hw
  have h1 := List.all_eq_true.mp h w hw
  rw [hp] at hw
  obtain ⟨i, -, hi⟩ := List.mem_filterMap.mp hw
  have hm : w ∈ big := by first | exact List.mem_of_getElem? hi | exact List.getElem?_mem hi
  exact ⟨hm, good_of_word h1⟩
theorem goodIn_app {big a b : List Cond} (ha : GoodIn big a) (hb : GoodIn big b) : GoodIn big (a ++ b) := fun w h => (List.mem_append.mp h).elim (ha w) (hb w)
theorem goodIn_ca {big a b : List Cond} {c : Cond} (ha : GoodIn big (c :: a)) (hb : GoodIn big b) : GoodIn big (c :: (a ++ b)) := fun w h => (List.mem_cons.mp h).elim (fun e => ha w (List.mem_cons.mpr (Or.inl e))) (fun h => (List.mem_append.mp h).elim (fun h => ha w (List.mem_cons.mpr (Or.inr h))) (hb w))
theorem goodIn_sub {big ws : List Cond} (hm : ∀ w ∈ ws, w ∈ big) (h : ws.all goodWord = true) : GoodIn big ws := fun w hw => ⟨hm w hw, good_of_word (List.all_eq_true.mp h w hw)⟩
/-! ===== END ===== -/

/-! ===== BEGIN exceptions that leave a method, and their catching by the caller (launches without stack traces) ===== -/
section VXA
/-! The laws vx_back, vx_callV, vx_callS, vx_callSW, vx_throw0, vx_throwS follow proofs of the library, with one case more: JvmDerived/Free/Laws.lean (Back.of_free), Shelf42/LK1.lean (callV, callS), Shelf/KitTraced.lean (throwNew0V, throwNewS). -/
/-- where a method has thrown q: the class by its name, the cell, what was written, the world -/
def vx_T (XC : String → State → State → Prop) (st : State) (q : Addr) (t : State) (mc ms : Nat) (free : Addr → Prop) : Prop :=
  ∃ (E : String) (ce : Cell) (L : List Loc), XC E st t ∧ t.heap[q]? = some ce ∧ ce.vm = .none ∧ st.vm.findClass E = some ce.cls ∧ st.WarmedH t.vm ∧ st.sameButNew ({ t with vm := st.vm } : State) L mc ms ∧ ∀ z ∈ L, free z.base
def vx_Q (Qc : Array Value → State → Outcome → State → Prop) (XC : String → State → State → Prop) (mc ms : Nat) (free : Addr → Prop) : Array Value → State → Outcome → State → Prop := fun a st o t =>
  (Qc a st o t ∧ ∃ L, FrameEnd st o t L mc ms ∧ ∀ q ∈ L, free q.base) ∨ ∃ q, o = .threw q ∧ vx_T XC st q t mc ms free
/-- a callee that returns or throws -/
def vx_Met (l : Launch) (y : MethodName) (ws : List Cond) (rm : Room) (Pc : Array Value → State → Prop) (Qc : Array Value → State → Outcome → State → Prop) (XC : String → State → State → Prop) (mc ms : Nat) (free : Addr → Prop) : Prop :=
  MetFree l y (headSpec ws rm) Pc (fun _ _ _ _ _ => True) (vx_Q Qc XC mc ms free)
def vx_Post (XC : String → State → State → Prop) (mc ms : Nat) (free : Addr → Prop) : Pt → Array Value → Addr → Pt → Prop := fun A a q B =>
  ∃ (g : JFrame) (mk : MethodId) (t : State) (L : List Loc) (E : String) (ce : Cell), B.U.heap = t.heap ∧ B.U.vm = t.vm ∧ XC E (A.U.calling g mk a) t ∧ t.heap[q]? = some ce ∧ ce.vm = .none ∧ A.U.vm.findClass E = some ce.cls ∧ B.locs = A.locs ++ L ∧ (∀ z ∈ L, free z.base) ∧ B.cells = A.cells + mc ∧ B.slots = A.slots + ms
def vx_Back (l : Launch) (R : Room) (p : Program) (e : Env) (below : List Frame) (s : State) (sargs : Array Value) (y : MethodName) (len W9 : Nat)
    (Pre : Pt → Array Value → Prop) (Post : Pt → Array Value → Option Value → Pt → Prop) (PostX : Pt → Array Value → Addr → Pt → Prop) : Prop :=
  ∀ (m : MethodId) (meth : Method) (c : Code) (A : Pt) (g : JFrame) (ig : Instr) (mk : MethodId) (a : Array Value),
    Stand p l e R s m sargs below meth c A.U A.locs A.cells A.slots → g.method = m → g.locals.size = c.maxLocals → decode c.code g.pc = .ok (ig, len) →
    2 * g.monitorRoom + (g.stack.map fun v => v.category).sum ≤ W9 → A.U.methodNamed? y = some mk → Pre A a →
    (∃ (v : Option Value) (B : Pt), Stand p l e R s m sargs below meth c B.U B.locs B.cells B.slots ∧ Post A a v B ∧
      Steps p.tables e below (doInvoke e (A.U.setTop g) [] mk a).1 (B.U.setTop { g with pc := g.pc + len, stack := v.toList ++ g.stack })) ∨
    (∃ (q : Addr) (B : Pt), Stand p l e R s m sargs below meth c B.U B.locs B.cells B.slots ∧ PostX A a q B ∧
      Steps p.tables e below (doInvoke e (A.U.setTop g) [] mk a).1 ((B.U.setTop g).pushFrame (.throwing q)))
section Payer
variable {l : Launch} {R : Room} {p : Program} {e : Env} {below : List Frame} {s : State} {sargs : Array Value} {y : MethodName} {len W9 : Nat}
theorem vx_back {ws : List Cond} {rm : Room} {Pc : Array Value → State → Prop} {Qc : Array Value → State → Outcome → State → Prop} {XC : String → State → State → Prop} {mc ms : Nat} {free : Addr → Prop} {bytes : ByteArray} {maxL : Nat} {ret : Option FieldType}
    (hM : vx_Met l y ws rm Pc Qc XC mc ms free) (hblind : FrameBlind Pc) (hrc : rm.cells = mc) (hrs : rm.slots = ms)
    (hframes : rm.frames + 1 ≤ R.frames) (hlocals : W9 + (maxL + 11) + rm.locals ≤ R.locals)
    (hws : ∀ w ∈ ws, ∀ a' U, s.WarmedH U.vm → w.before a' U = true) (hcode : Cond.code y bytes maxL ret ∈ ws) (hinit : ∀ a' U, s.WarmedH U.vm → (Cond.initialized y.cls).before a' U = true) :
    vx_Back l R p e below s sargs y len W9 (PreOf R mc ms Pc) (PostOf Qc mc ms free) (vx_Post XC mc ms free) := by
  intro m meth c A g ig mk a X hg hsize hdg hW hn hp
  have h1 : (headSpec ws rm).pre.before a A.U = true := atoms_intro fun w hw => hws w hw _ _ X.warmed
  have h2 : (Cond.code y bytes maxL ret).before a A.U = true := hws _ hcode _ _ X.warmed
  have h3 : (Cond.initialized y.cls).before a A.U = true := hinit _ _ X.warmed
  have h4 : A.cells + (headSpec ws rm).room.cells ≤ R.cells := by rw [show (headSpec ws rm).room.cells = mc from hrc]; exact hp.1
  have h5 : A.slots + (headSpec ws rm).room.slots ≤ R.slots := by rw [show (headSpec ws rm).room.slots = ms from hrs]; exact hp.2.1
  have hPc : Pc a (A.U.calling g mk a) := hblind _ _ _ _ hp.2.2
  obtain ⟨U, Ls, c0, s0⟩ := A
  dsimp only [Pt.U, Pt.locs, Pt.cells, Pt.slots] at h1 h2 h3 h4 h5 X hn hPc ⊢
  obtain ⟨methY, cY, hmY, hcY, -, hlY, -, -, -, -⟩ := Cond.code_spec hn h2
  obtain ⟨kY, hkY, -⟩ := className_of_methodNamed hn
  have hinitY : kY.init = .initialized := Cond.initialized_spec (findClass_of_methodNamed hn) hkY h3
  have h : At U g.method c below := by rw [hg]; exact X.here
  have hlocals9 : W9 + (maxL + 11) + (headSpec ws rm).room.locals ≤ R.locals := hlocals
  have happ : (headSpec ws rm).appliesLoose y e.platform (U.calling g mk a) = true :=
    Spec.appliesLoose_calling (g := g) h hdg hn hkY hinitY
      (X.room_calling (g := g) (R' := (headSpec ws rm).room) hsize hmY hcY hframes (by rw [hlY]; omega) h4 h5) h1
  obtain ⟨mid, hmid⟩ := h.above
  have hfr : (U.setTop g).frames = (.java g :: mid) ++ below := by rw [State.frames_setTop' g h.top, hmid]; rfl
  obtain ⟨o, s₂, hsteps, -, hend, hq⟩ := Steps.callFree hM p X.admits X.cas X.clock (acts := []) hfr happ hPc trivial
  have hq' : vx_Q Qc XC mc ms free a (U.calling g mk a) o s₂ := hq
  rw [State.frames_setTop' g h.top] at hend
  obtain ⟨g₀, hg0⟩ := Option.isSome_iff_exists.mp h.top
  obtain ⟨r, hr⟩ := State.topJava?_eq_some.mp hg0
  have hr' : (({ U with heap := s₂.heap, slotsUsed := s₂.slotsUsed } : State).setVm s₂.vm).frames = .java g₀ :: r := hr
  rcases hq' with ⟨hqc, L, hfe, hL⟩ | ⟨q, rfl, E, ce, L, hx, hce, hcv, hcl, hW₂, hsm, hL⟩
  · obtain ⟨⟨v, rfl⟩, hW₂, e2, q2, q3, q4, q5, q6⟩ := id hfe
    have e3 : s₂ = ({ (U.calling g mk a).setFrames s₂.frames with heap := s₂.heap, slotsUsed := s₂.slotsUsed } : State).setVm s₂.vm := by
      have : s₂ = ({ s₂ with vm := (U.calling g mk a).vm } : State).setVm s₂.vm := rfl
      rw [e2] at this
      exact this
    obtain ⟨c₂, i₂, len₂, hc₂, hd₂, hf₂⟩ := hend
    have hW' : U.WarmedH s₂.vm := hW₂
    have hcc : c₂ = c := by
      have h1 : s₂.code? g.method = U.code? g.method := by
        rw [State.code?_eq, State.code?_eq, hW'.alike.method?]
      exact Option.some.inj (hc₂.symm.trans (h1.trans h.code))
    subst hcc
    have hlen : len₂ = len := by rw [hdg] at hd₂; cases hd₂; rfl
    subst hlen
    have hs₂ : s₂ = (({ U with heap := s₂.heap, slotsUsed := s₂.slotsUsed } : State).setVm s₂.vm).setTop { g with pc := g.pc + len₂, stack := v.toList ++ g.stack } := by
      refine e3.trans ?_
      rw [hf₂, State.calling_eq h.top, State.setFrames_setFrames, State.setTop_of_frames _ hr', hr]
      rfl
    have hsame : U.sameButNew ({ U with heap := s₂.heap, slotsUsed := s₂.slotsUsed } : State) L mc ms := by
      refine ⟨?_, q2, q3, q4, q5, q6⟩
      obtain ⟨t, ht, -⟩ := State.frames_cons hr
      show ({ U with heap := s₂.heap, slotsUsed := s₂.slotsUsed } : State) = { U.setFrames U.frames with heap := s₂.heap, slotsUsed := s₂.slotsUsed }
      rw [State.setFrames_self ht]
    subst hg
    refine Or.inl ⟨v, ⟨(({ U with heap := s₂.heap, slotsUsed := s₂.slotsUsed } : State).setVm s₂.vm), Ls ++ L, c0 + mc, s0 + ms⟩,
      ⟨X.admits, X.cas, X.clock, X.frames, X.room, X.hears, X.method, X.code, (X.here.setHeapUsed s₂.heap s₂.slotsUsed).setVm hW'.alike, X.tail, State.WarmedH.trans X.warmed hW', X.limits, X.bytes, X.same.trans (hsame.setVm s.vm)⟩,
      ⟨g, mk, s₂, L, rfl, rfl, hqc, rfl, hL, rfl, rfl⟩, ?_⟩
    show Steps p.tables e below _ ((({ U with heap := s₂.heap, slotsUsed := s₂.slotsUsed } : State).setVm s₂.vm).setTop { g with pc := g.pc + len₂, stack := v.toList ++ g.stack })
    rw [← hs₂]
    exact hsteps
  · obtain ⟨e2, q2, q3, q4, q5, q6⟩ := id hsm
    have e3 : s₂ = ({ (U.calling g mk a).setFrames s₂.frames with heap := s₂.heap, slotsUsed := s₂.slotsUsed } : State).setVm s₂.vm := by
      have : s₂ = ({ s₂ with vm := (U.calling g mk a).vm } : State).setVm s₂.vm := rfl
      rw [e2] at this
      exact this
    have hf₂ : s₂.frames = .throwing q :: .java g :: U.frames.tail := hend
    have hW' : U.WarmedH s₂.vm := hW₂
    have hs₂ : s₂ = ((({ U with heap := s₂.heap, slotsUsed := s₂.slotsUsed } : State).setVm s₂.vm).setTop g).pushFrame (.throwing q) := by
      refine e3.trans ?_
      rw [hf₂, State.calling_eq h.top, State.setFrames_setFrames, State.pushFrame, State.frames_setTop _ hr', State.setTop_of_frames _ hr', State.setFrames_setFrames, hr]
      rfl
    have hsame : U.sameButNew ({ U with heap := s₂.heap, slotsUsed := s₂.slotsUsed } : State) L mc ms := by
      refine ⟨?_, q2, q3, q4, q5, q6⟩
      obtain ⟨t, ht, -⟩ := State.frames_cons hr
      show ({ U with heap := s₂.heap, slotsUsed := s₂.slotsUsed } : State) = { U.setFrames U.frames with heap := s₂.heap, slotsUsed := s₂.slotsUsed }
      rw [State.setFrames_self ht]
    subst hg
    refine Or.inr ⟨q, ⟨(({ U with heap := s₂.heap, slotsUsed := s₂.slotsUsed } : State).setVm s₂.vm), Ls ++ L, c0 + mc, s0 + ms⟩,
      ⟨X.admits, X.cas, X.clock, X.frames, X.room, X.hears, X.method, X.code, (X.here.setHeapUsed s₂.heap s₂.slotsUsed).setVm hW'.alike, X.tail, State.WarmedH.trans X.warmed hW', X.limits, X.bytes, X.same.trans (hsame.setVm s.vm)⟩,
      ⟨g, mk, s₂, L, E, ce, rfl, rfl, hx, hce, hcv, hcl, rfl, hL, rfl, rfl⟩, ?_⟩
    show Steps p.tables e below _ (((({ U with heap := s₂.heap, slotsUsed := s₂.slotsUsed } : State).setVm s₂.vm).setTop g).pushFrame (.throwing q))
    rw [← hs₂]
    exact hsteps
end Payer
section Calls
variable {p : Program} {l : Launch} {e : Env} {R : Room} {s : State} {m : MethodId} {args : Array Value} {below : List Frame} {meth : Method} {c : Code} {T : State} {locs : List Loc} {cells slots : Nat}
theorem vx_callV (X : Stand p l e R s m args below meth c T locs cells slots) (hexec : p.tables.exec = Jvm.exec) {own C : String} {index : Nat} {y : MethodName} {bytes : ByteArray} {maxL : Nat} {ret : Option FieldType}
    (hown : s.vm.findClass own = some m.cls) (hlink : (Cond.methodLink own index y).before args s = true) (hinst : (Cond.instanceMethod y).before args s = true) (hsel : (Cond.selects C y y).before args s = true)
    (hcode : (Cond.code y bytes maxL ret).before args s = true) (hy : y.cls ≠ "java/lang/invoke/MethodHandle" ∧ y.cls ≠ "java/lang/invoke/VarHandle")
    {W9 : Nat} {Pre : Pt → Array Value → Prop} {Post : Pt → Array Value → Option Value → Pt → Prop} {PostX : Pt → Array Value → Addr → Pt → Prop} (hK : vx_Back l R p e below s args y 3 W9 Pre Post PostX)
    {b : Addr} {cellB : Cell} (hcell : T.heap[b]? = some cellB) (hobj : cellB.vm.isStatics = false) (hcls : s.vm.findClass C = some cellB.cls)
    {g : JFrame} (hg : g.method = m) (hsize : g.locals.size = c.maxLocals) {argsL rest : List Value} (hlen : ∀ sig, parseMethodDescriptor y.desc = some sig → argsL.length = sig.parameters.length)
    (hstack : g.stack = argsL.reverse ++ .ref b :: rest) (hW : 2 * g.monitorRoom + (rest.map fun v => v.category).sum ≤ W9) (hdg : decode c.code g.pc = .ok (.invokevirtual index, 3))
    (hpre : ∀ vm₁, s.WarmedH vm₁ → Pre ⟨T.setVm vm₁, locs, cells, slots⟩ (Value.ref b :: argsL).toArray) :
    (∃ (v : Option Value) (vm₁ : Vm) (B : Pt), s.WarmedH vm₁ ∧ Stand p l e R s m args below meth c B.U B.locs B.cells B.slots ∧ Post ⟨T.setVm vm₁, locs, cells, slots⟩ (Value.ref b :: argsL).toArray v B ∧
      ∀ target, Steps p.tables e below (B.U.setTop { g with pc := g.pc + 3, stack := v.toList ++ rest }) target → Steps p.tables e below (T.setTop g) target) ∨
    (∃ (q : Addr) (vm₁ : Vm) (B : Pt), s.WarmedH vm₁ ∧ Stand p l e R s m args below meth c B.U B.locs B.cells B.slots ∧ PostX ⟨T.setVm vm₁, locs, cells, slots⟩ (Value.ref b :: argsL).toArray q B ∧
      Steps p.tables e below (T.setTop g) ((B.U.setTop { g with stack := rest }).pushFrame (.throwing q))) := by
  obtain ⟨mk, methM, hnamed, hmethM, hstM, habM⟩ := Cond.instanceMethod_spec hinst
  obtain ⟨methM', cM, hmethM', -, -, -, -, -, -, hsigM⟩ := Cond.code_spec hnamed hcode
  cases hmethM.symm.trans hmethM'
  obtain ⟨c2, r2, m2, q1, q2, q3, q4, kP, hkP, hkPi⟩ := Cond.selects_spec hsel
  cases hcls.symm.trans q1
  cases (State.methodFound?_of_named hnamed hy).symm.trans q2
  cases hnamed.symm.trans q3
  have hselP : selectMethod e.platform s.vm cellB.cls mk = .method mk := by rw [Launch.admits_selectMethod X.admits]; exact q4
  obtain ⟨vm₁, X₁, hstep₁⟩ := X.invokevirtual hexec hown hlink hnamed hmethM hstM hkP hkPi hy (a := b) (cell := cellB) hcell
    (fun z h => by rw [h] at hobj; cases hobj) hselP hmethM habM hkP hkPi (g := g) hg (argsL := argsL) (rest := rest) (hlen _ hsigM) hstack hdg
  rcases hK m meth c ⟨T.setVm vm₁, locs, cells, slots⟩ { g with stack := rest } (.invokevirtual index) mk (Value.ref b :: argsL).toArray X₁ hg hsize hdg hW (X₁.named hnamed) (hpre vm₁ X₁.warmed) with ⟨v, B, X', hpost, hsteps⟩ | ⟨q, B, X', hpost, hsteps⟩
  · exact Or.inl ⟨v, vm₁, B, X₁.warmed, X', hpost, fun target h => hstep₁ _ fun acts => by rw [doInvoke_state]; exact hsteps.trans h⟩
  · exact Or.inr ⟨q, vm₁, B, X₁.warmed, X', hpost, hstep₁ _ fun acts => by rw [doInvoke_state]; exact hsteps⟩
theorem vx_callS (X : Stand p l e R s m args below meth c T locs cells slots) (hexec : p.tables.exec = Jvm.exec) {own : String} {index : Nat} {y : MethodName} {bytes : ByteArray} {maxL : Nat} {ret : Option FieldType}
    (hown : s.vm.findClass own = some m.cls) (hlink : (Cond.methodLink own index y).before args s = true) (hstat : (Cond.static y).before args s = true) (hinit : (Cond.initialized y.cls).before args s = true)
    (hcode : (Cond.code y bytes maxL ret).before args s = true) (hy : y.cls ≠ "java/lang/invoke/MethodHandle" ∧ y.cls ≠ "java/lang/invoke/VarHandle")
    {W9 : Nat} {Pre : Pt → Array Value → Prop} {Post : Pt → Array Value → Option Value → Pt → Prop} {PostX : Pt → Array Value → Addr → Pt → Prop} (hK : vx_Back l R p e below s args y 3 W9 Pre Post PostX)
    {g : JFrame} (hg : g.method = m) (hsize : g.locals.size = c.maxLocals) {argsL rest : List Value} (hlen : ∀ sig, parseMethodDescriptor y.desc = some sig → argsL.length = sig.parameters.length)
    (hstack : g.stack = argsL.reverse ++ rest) (hW : 2 * g.monitorRoom + (rest.map fun v => v.category).sum ≤ W9) (hdg : decode c.code g.pc = .ok (.invokestatic index, 3))
    (hpre : ∀ vm₁, s.WarmedH vm₁ → Pre ⟨T.setVm vm₁, locs, cells, slots⟩ argsL.toArray) :
    (∃ (v : Option Value) (vm₁ : Vm) (B : Pt), s.WarmedH vm₁ ∧ Stand p l e R s m args below meth c B.U B.locs B.cells B.slots ∧ Post ⟨T.setVm vm₁, locs, cells, slots⟩ argsL.toArray v B ∧
      ∀ target, Steps p.tables e below (B.U.setTop { g with pc := g.pc + 3, stack := v.toList ++ rest }) target → Steps p.tables e below (T.setTop g) target) ∨
    (∃ (q : Addr) (vm₁ : Vm) (B : Pt), s.WarmedH vm₁ ∧ Stand p l e R s m args below meth c B.U B.locs B.cells B.slots ∧ PostX ⟨T.setVm vm₁, locs, cells, slots⟩ argsL.toArray q B ∧
      Steps p.tables e below (T.setTop g) ((B.U.setTop { g with stack := rest }).pushFrame (.throwing q))) := by
  obtain ⟨mk, hnamed⟩ := Cond.code_named hcode
  obtain ⟨methM, cM, hmethM, -, -, -, -, -, -, hsigM⟩ := Cond.code_spec hnamed hcode
  have hstatic : methM.isStatic = true := Cond.static_spec hnamed hmethM hstat
  obtain ⟨kP, hkP, -⟩ := className_of_methodNamed hnamed
  have hinitP : kP.init = .initialized := Cond.initialized_spec (findClass_of_methodNamed hnamed) hkP hinit
  obtain ⟨vm₁, X₁, hstep₁⟩ := X.invokestatic hexec hown hlink hnamed hmethM hstatic hkP hinitP hy (g := g) hg (argsL := argsL) (rest := rest) (hlen _ hsigM) hstack hdg
  rcases hK m meth c ⟨T.setVm vm₁, locs, cells, slots⟩ { g with stack := rest } (.invokestatic index) mk argsL.toArray X₁ hg hsize hdg hW (X₁.named hnamed) (hpre vm₁ X₁.warmed) with ⟨v, B, X', hpost, hsteps⟩ | ⟨q, B, X', hpost, hsteps⟩
  · exact Or.inl ⟨v, vm₁, B, X₁.warmed, X', hpost, fun target h => hstep₁ _ fun acts => by rw [doInvoke_state]; exact hsteps.trans h⟩
  · exact Or.inr ⟨q, vm₁, B, X₁.warmed, X', hpost, hstep₁ _ fun acts => by rw [doInvoke_state]; exact hsteps⟩
end Calls
theorem vx_cls {s : State} {T : State} {vm₁ : Vm} {E : String} {k : ClassId} (hW : s.WarmedH vm₁) (h : (T.setVm vm₁).vm.findClass E = some k) : s.vm.findClass E = some k := by
  have h1 : vm₁.findClass E = some k := h
  rw [hW.alike.findClass] at h1
  exact h1
/-- the method's frame g, with q thrown over it -/
def vx_W (p : Program) (l : Launch) (e : Env) (R : Room) (s : State) (m : MethodId) (args : Array Value) (below : List Frame) (meth : Method) (c : Code) (H : Heap) (locs : List Loc) (cells slots : Nat) (Q : State → Prop) (g : JFrame) (q : Addr) : Prop :=
  ∀ T : State, T.heap = H → Stand p l e R s m args below meth c T locs cells slots → ∃ t, Steps p.tables e below ((T.setTop g).pushFrame (.throwing q)) t ∧ Q t
def vx_Run (p : Program) (l : Launch) (e : Env) (R : Room) (s : State) (m : MethodId) (args : Array Value) (below : List Frame) (meth : Method) (c : Code) (H : Heap) (locs : List Loc) (cells slots mc ms : Nat) (g : JFrame) (rest : List Value) (Qa : State → Outcome → State → Prop) (XC : String → State → State → Prop) (free : Addr → Prop) : Prop :=
  ∀ T : State, T.heap = H → Stand p l e R s m args below meth c T locs cells slots →
    (∃ (v : Option Value) (st₀ t T' : State) (L : List Loc), st₀.heap = H ∧ Stand p l e R s m args below meth c T' (locs ++ L) (cells + mc) (slots + ms) ∧ (∀ q ∈ L, free q.base) ∧ T'.heap = t.heap ∧ T'.vm = t.vm ∧ Qa st₀ (.returned v) t ∧
      Goes p e below T g T' { g with pc := g.pc + 3, stack := v.toList ++ rest }) ∨
    (∃ (q : Addr) (st₀ t T' : State) (L : List Loc) (E : String) (ce : Cell), st₀.heap = H ∧ Stand p l e R s m args below meth c T' (locs ++ L) (cells + mc) (slots + ms) ∧ (∀ z ∈ L, free z.base) ∧ T'.heap = t.heap ∧ T'.vm = t.vm ∧ XC E st₀ t ∧ t.heap[q]? = some ce ∧ ce.vm = .none ∧ s.vm.findClass E = some ce.cls ∧
      Steps p.tables e below (T.setTop g) ((T'.setTop { g with stack := rest }).pushFrame (.throwing q)))
def vx_X {S : Type} (px : S → Prop) (B : String → S → State → Prop) (A : Nat → Prop) : String → State → State → Prop := fun E st t => ∃ u : S, px u ∧ B E u t ∧ va_F A st t
section Runs
variable {p : Program} {l : Launch} {e : Env} {R : Room} {s : State} {m : MethodId} {args : Array Value} {below : List Frame} {meth : Method} {c : Code} {H : Heap} {locs : List Loc} {cells slots : Nat}
variable {y : MethodName} {bytes cc : ByteArray} {maxL nL mc ms n index : Nat} {ret : Option FieldType} {ws : List Cond} {rm : Room} {Pc : Array Value → State → Prop} {Qc : Array Value → State → Outcome → State → Prop} {XC : String → State → State → Prop} {free : Addr → Prop} {Ts : List Cond} {own C : String} {b : Addr} {As rest : List Value} {g : JFrame}
theorem vx_callBack (cb : CallB R s args own index y bytes maxL ret ws rm mc ms n) (hM : vx_Met l y ws rm Pc Qc XC mc ms free) (hbl : FrameBlind Pc) : vx_Back l R p e below s args y 3 8 (PreOf R mc ms Pc) (PostOf Qc mc ms free) (vx_Post XC mc ms free) := by
  obtain ⟨hrc, hrs, hfr, hlo, hws, hcw, -, hini, -⟩ := cb
  exact vx_back (bytes := bytes) (maxL := maxL) (ret := ret) hM hbl hrc hrs hfr hlo hws hcw (fun a' U hW => word_at hW (Or.inl (by first | rfl | simp [Cond.onTables, Cond.keeps, Cond.steady])) hini)
theorem vx_runV (S : CallFix p m c cc nL s args Ts own) (hM : vx_Met l y ws rm Pc Qc XC mc ms free) (cw : CallW R s args own C index y bytes maxL ret ws rm mc ms n) (hp : PreV s H C b Pc As)
    (hg : g.method = m) (hn : As.length = n) (hsize : g.locals.size = nL) (hstack : g.stack = As.reverse ++ .ref b :: rest) (hW : 2 * g.monitorRoom + (rest.map fun v => v.category).sum ≤ 8) (hdg : decode cc g.pc = .ok (.invokevirtual index, 3)) (hf : cells + mc ≤ R.cells ∧ slots + ms ≤ R.slots) :
    vx_Run p l e R s m args below meth c H locs cells slots mc ms g rest (Qc (Value.ref b :: As).toArray) XC free := by
  have hK : vx_Back l R p e below s args y 3 8 (PreOf R mc ms Pc) (PostOf Qc mc ms free) (vx_Post XC mc ms free) := vx_callBack cw.1 hM hp.1
  obtain ⟨⟨-, -, -, -, -, -, hcode, -, hy, hlen, hl⟩, hin, hse⟩ := cw
  obtain ⟨hx, hb, hml, ho, -⟩ := S
  obtain ⟨-, ⟨cellB, hcB, hoB, hclB⟩, hPc⟩ := hp
  intro T hT X
  rcases vx_callV X hx (C := C) (bytes := bytes) (maxL := maxL) (ret := ret) ho hl hin hse hcode hy hK (by rw [hT]; exact hcB) hoB hclB hg (hsize.trans hml.symm) (argsL := As) (rest := rest) (fun sig h => hn.trans (hlen sig h)) hstack hW (by rw [hb]; exact hdg)
    (fun vm₁ hW₁ => ⟨hf.1, hf.2, hPc (T.setVm vm₁) hT hW₁⟩) with ⟨v, vm₁, ⟨U', l2, c2, s2⟩, hW₁, X', ⟨g', mk, t, L, e1, e2, hq, h1, hL, h2, h3⟩, st⟩ | ⟨q, vm₁, ⟨U', l2, c2, s2⟩, hW₁, X', ⟨g', mk, t, L, E, ce, e1, e2, hq, hce, hcv, hcl, h1, hL, h2, h3⟩, st⟩
  · dsimp only [Pt.U, Pt.locs, Pt.cells, Pt.slots] at X' e1 e2 h1 h2 h3 st
    subst h1; subst h2; subst h3
    exact Or.inl ⟨v, (T.setVm vm₁).calling g' mk (Value.ref b :: As).toArray, t, U', L, hT, X', hL, e1, e2, hq, st⟩
  · dsimp only [Pt.U, Pt.locs, Pt.cells, Pt.slots] at X' e1 e2 h1 h2 h3 st hcl
    subst h1; subst h2; subst h3
    exact Or.inr ⟨q, (T.setVm vm₁).calling g' mk (Value.ref b :: As).toArray, t, U', L, E, ce, hT, X', hL, e1, e2, hq, hce, hcv, vx_cls hW₁ hcl, st⟩
theorem vx_runS (S : CallFix p m c cc nL s args Ts own) (hM : vx_Met l y ws rm Pc Qc XC mc ms free) (cw : CallB R s args own index y bytes maxL ret ws rm mc ms n ∧ (Cond.static y).before args s = true) (hp : PreS s H Pc As)
    (hg : g.method = m) (hn : As.length = n) (hsize : g.locals.size = nL) (hstack : g.stack = As.reverse ++ rest) (hW : 2 * g.monitorRoom + (rest.map fun v => v.category).sum ≤ 8) (hdg : decode cc g.pc = .ok (.invokestatic index, 3)) (hf : cells + mc ≤ R.cells ∧ slots + ms ≤ R.slots) :
    vx_Run p l e R s m args below meth c H locs cells slots mc ms g rest (Qc As.toArray) XC free := by
  have hK : vx_Back l R p e below s args y 3 8 (PreOf R mc ms Pc) (PostOf Qc mc ms free) (vx_Post XC mc ms free) := vx_callBack cw.1 hM hp.1
  obtain ⟨⟨-, -, -, -, -, -, hcode, hini, hy, hlen, hl⟩, hstt⟩ := cw
  obtain ⟨hx, hb, hml, ho, -⟩ := S
  intro T hT X
  rcases vx_callS X hx (bytes := bytes) (maxL := maxL) (ret := ret) ho hl hstt hini hcode hy hK hg (hsize.trans hml.symm) (argsL := As) (rest := rest) (fun sig h => hn.trans (hlen sig h)) hstack hW (by rw [hb]; exact hdg)
    (fun vm₁ hW₁ => ⟨hf.1, hf.2, hp.2 (T.setVm vm₁) hT hW₁⟩) with ⟨v, vm₁, ⟨U', l2, c2, s2⟩, hW₁, X', ⟨g', mk, t, L, e1, e2, hq, h1, hL, h2, h3⟩, st⟩ | ⟨q, vm₁, ⟨U', l2, c2, s2⟩, hW₁, X', ⟨g', mk, t, L, E, ce, e1, e2, hq, hce, hcv, hcl, h1, hL, h2, h3⟩, st⟩
  · dsimp only [Pt.U, Pt.locs, Pt.cells, Pt.slots] at X' e1 e2 h1 h2 h3 st
    subst h1; subst h2; subst h3
    exact Or.inl ⟨v, (T.setVm vm₁).calling g' mk As.toArray, t, U', L, hT, X', hL, e1, e2, hq, st⟩
  · dsimp only [Pt.U, Pt.locs, Pt.cells, Pt.slots] at X' e1 e2 h1 h2 h3 st hcl
    subst h1; subst h2; subst h3
    exact Or.inr ⟨q, (T.setVm vm₁).calling g' mk As.toArray, t, U', L, E, ce, hT, X', hL, e1, e2, hq, hce, hcv, vx_cls hW₁ hcl, st⟩
end Runs
section Rows
variable {p : Program} {l : Launch} {e : Env} {R : Room} {s : State} {m : MethodId} {args : Array Value} {below : List Frame} {meth : Method} {c : Code} {H : Heap} {locs : List Loc} {cells slots : Nat} {Q : State → Prop}
variable {mc ms : Nat} {free : Addr → Prop} {A0 A1 : Nat → Prop} {H0 : Heap} {a : Array Value} {pc : Nat} {ls : Array Slot} {st0 rest : List Value}
theorem vx_keep {st₀ t T' : State} {L : List Loc} (h0 : st₀.heap = H) (e1 : T'.heap = t.heap) (hS : va_S A0 H0 H locs) (hA : ∀ q, q < H.size → A1 q → A0 q) (hf : ∀ q, free q → A0 q) (hL : ∀ q ∈ L, free q.base) (hF : va_F A1 st₀ t) :
    H.size ≤ T'.heap.size ∧ (∀ q : Nat, q < H.size → ¬ A1 q → T'.heap[q]? = H[q]?) ∧ va_S A0 H0 T'.heap (locs ++ L) := by
  obtain ⟨hz, hk⟩ := hF
  rw [h0] at hz hk
  exact ⟨by rw [e1]; exact hz, fun q h1 h2 => by rw [e1]; exact hk q h1 h2,
    ⟨Nat.le_trans hS.1 (by rw [e1]; exact hz), fun q h1 h2 => by rw [e1, hk q (Nat.lt_of_lt_of_le h1 hS.1) (fun z => h2 (hA q (Nat.lt_of_lt_of_le h1 hS.1) z))]; exact hS.2.1 q h1 h2, fun q hq => by
      rcases List.mem_append.mp hq with h | h
      · exact hS.2.2 q h
      · exact hf _ (hL q h)⟩⟩
theorem vx_calli {S SX : Type} {post : Int32 → S → Prop} {px : SX → Prop} {B : S → State → Prop} {BX : String → SX → State → Prop} {AX : Nat → Prop} (hr : vx_Run p l e R s m args below meth c H locs cells slots mc ms (F0 m pc ls st0) rest (va_Qi post B A1 a) (vx_X px BX AX) free) (hS : va_S A0 H0 H locs) (hA : ∀ q, q < H.size → A1 q → A0 q) (hf : ∀ q, free q → A0 q) (hAX : ∀ q, q < H.size → AX q → A0 q)
    (kx : ∀ (E : String) (ce : Cell) (q9 : Addr) (u : SX) (t : State) (H1 : Heap) (locs1 : List Loc), t.heap = H1 → s.vm.Alike t.vm → px u → BX E u t → H.size ≤ H1.size → (∀ q : Nat, q < H.size → ¬ AX q → H1[q]? = H[q]?) → va_S A0 H0 H1 locs1 → H1[q9]? = some ce → ce.vm = .none → s.vm.findClass E = some ce.cls → vx_W p l e R s m args below meth c H1 locs1 (cells + mc) (slots + ms) Q (F0 m pc ls rest) q9)
    (kk : ∀ (r : Int32) (u : S) (t : State) (H1 : Heap) (locs1 : List Loc), t.heap = H1 → s.vm.Alike t.vm → post r u → B u t → H.size ≤ H1.size → (∀ q : Nat, q < H.size → ¬ A1 q → H1[q]? = H[q]?) → va_S A0 H0 H1 locs1 → W p l e R s m args below meth c H1 locs1 (cells + mc) (slots + ms) Q (F0 m (pc + 3) ls (.int r :: rest))) : W p l e R s m args below meth c H locs cells slots Q (F0 m pc ls st0) := by
  intro T hT X
  rcases hr T hT X with ⟨v, st₀, t, T', L, h0, X', hL, e1, e2, ⟨⟨r, u, hv, hp, hb⟩, hF⟩, st⟩ | ⟨q, st₀, t, T', L, E, ce, h0, X', hL, e1, e2, ⟨u, hp, hb, hF⟩, hce, hcv, hcl, st⟩
  · cases hv
    obtain ⟨k1, k2, k3⟩ := vx_keep h0 e1 hS hA hf hL hF
    obtain ⟨t2, a1, b1⟩ := kk r u t T'.heap (locs ++ L) e1.symm (by rw [← e2]; exact X'.warmed.alike) hp hb k1 k2 k3 T' rfl X'
    exact ⟨t2, st t2 a1, b1⟩
  · obtain ⟨k1, k2, k3⟩ := vx_keep h0 e1 hS hAX hf hL hF
    obtain ⟨t2, a1, b1⟩ := kx E ce q u t T'.heap (locs ++ L) e1.symm (by rw [← e2]; exact X'.warmed.alike) hp hb k1 k2 k3 (by rw [e1]; exact hce) hcv hcl T' rfl X'
    exact ⟨t2, st.trans a1, b1⟩
theorem vx_calll {S SX : Type} {post : Int64 → S → Prop} {px : SX → Prop} {B : S → State → Prop} {BX : String → SX → State → Prop} {AX : Nat → Prop} (hr : vx_Run p l e R s m args below meth c H locs cells slots mc ms (F0 m pc ls st0) rest (va_Ql post B A1 a) (vx_X px BX AX) free) (hS : va_S A0 H0 H locs) (hA : ∀ q, q < H.size → A1 q → A0 q) (hf : ∀ q, free q → A0 q) (hAX : ∀ q, q < H.size → AX q → A0 q)
    (kx : ∀ (E : String) (ce : Cell) (q9 : Addr) (u : SX) (t : State) (H1 : Heap) (locs1 : List Loc), t.heap = H1 → s.vm.Alike t.vm → px u → BX E u t → H.size ≤ H1.size → (∀ q : Nat, q < H.size → ¬ AX q → H1[q]? = H[q]?) → va_S A0 H0 H1 locs1 → H1[q9]? = some ce → ce.vm = .none → s.vm.findClass E = some ce.cls → vx_W p l e R s m args below meth c H1 locs1 (cells + mc) (slots + ms) Q (F0 m pc ls rest) q9)
    (kk : ∀ (r : Int64) (u : S) (t : State) (H1 : Heap) (locs1 : List Loc), t.heap = H1 → s.vm.Alike t.vm → post r u → B u t → H.size ≤ H1.size → (∀ q : Nat, q < H.size → ¬ A1 q → H1[q]? = H[q]?) → va_S A0 H0 H1 locs1 → W p l e R s m args below meth c H1 locs1 (cells + mc) (slots + ms) Q (F0 m (pc + 3) ls (.long r :: rest))) : W p l e R s m args below meth c H locs cells slots Q (F0 m pc ls st0) := by
  intro T hT X
  rcases hr T hT X with ⟨v, st₀, t, T', L, h0, X', hL, e1, e2, ⟨⟨r, u, hv, hp, hb⟩, hF⟩, st⟩ | ⟨q, st₀, t, T', L, E, ce, h0, X', hL, e1, e2, ⟨u, hp, hb, hF⟩, hce, hcv, hcl, st⟩
  · cases hv
    obtain ⟨k1, k2, k3⟩ := vx_keep h0 e1 hS hA hf hL hF
    obtain ⟨t2, a1, b1⟩ := kk r u t T'.heap (locs ++ L) e1.symm (by rw [← e2]; exact X'.warmed.alike) hp hb k1 k2 k3 T' rfl X'
    exact ⟨t2, st t2 a1, b1⟩
  · obtain ⟨k1, k2, k3⟩ := vx_keep h0 e1 hS hAX hf hL hF
    obtain ⟨t2, a1, b1⟩ := kx E ce q u t T'.heap (locs ++ L) e1.symm (by rw [← e2]; exact X'.warmed.alike) hp hb k1 k2 k3 (by rw [e1]; exact hce) hcv hcl T' rfl X'
    exact ⟨t2, st.trans a1, b1⟩
theorem vx_callf {S SX : Type} {post : UInt32 → S → Prop} {px : SX → Prop} {B : S → State → Prop} {BX : String → SX → State → Prop} {AX : Nat → Prop} (hr : vx_Run p l e R s m args below meth c H locs cells slots mc ms (F0 m pc ls st0) rest (va_Qf post B A1 a) (vx_X px BX AX) free) (hS : va_S A0 H0 H locs) (hA : ∀ q, q < H.size → A1 q → A0 q) (hf : ∀ q, free q → A0 q) (hAX : ∀ q, q < H.size → AX q → A0 q)
    (kx : ∀ (E : String) (ce : Cell) (q9 : Addr) (u : SX) (t : State) (H1 : Heap) (locs1 : List Loc), t.heap = H1 → s.vm.Alike t.vm → px u → BX E u t → H.size ≤ H1.size → (∀ q : Nat, q < H.size → ¬ AX q → H1[q]? = H[q]?) → va_S A0 H0 H1 locs1 → H1[q9]? = some ce → ce.vm = .none → s.vm.findClass E = some ce.cls → vx_W p l e R s m args below meth c H1 locs1 (cells + mc) (slots + ms) Q (F0 m pc ls rest) q9)
    (kk : ∀ (r : UInt32) (u : S) (t : State) (H1 : Heap) (locs1 : List Loc), t.heap = H1 → s.vm.Alike t.vm → post r u → B u t → H.size ≤ H1.size → (∀ q : Nat, q < H.size → ¬ A1 q → H1[q]? = H[q]?) → va_S A0 H0 H1 locs1 → W p l e R s m args below meth c H1 locs1 (cells + mc) (slots + ms) Q (F0 m (pc + 3) ls (.float r :: rest))) : W p l e R s m args below meth c H locs cells slots Q (F0 m pc ls st0) := by
  intro T hT X
  rcases hr T hT X with ⟨v, st₀, t, T', L, h0, X', hL, e1, e2, ⟨⟨r, u, hv, hp, hb⟩, hF⟩, st⟩ | ⟨q, st₀, t, T', L, E, ce, h0, X', hL, e1, e2, ⟨u, hp, hb, hF⟩, hce, hcv, hcl, st⟩
  · cases hv
    obtain ⟨k1, k2, k3⟩ := vx_keep h0 e1 hS hA hf hL hF
    obtain ⟨t2, a1, b1⟩ := kk r u t T'.heap (locs ++ L) e1.symm (by rw [← e2]; exact X'.warmed.alike) hp hb k1 k2 k3 T' rfl X'
    exact ⟨t2, st t2 a1, b1⟩
  · obtain ⟨k1, k2, k3⟩ := vx_keep h0 e1 hS hAX hf hL hF
    obtain ⟨t2, a1, b1⟩ := kx E ce q u t T'.heap (locs ++ L) e1.symm (by rw [← e2]; exact X'.warmed.alike) hp hb k1 k2 k3 (by rw [e1]; exact hce) hcv hcl T' rfl X'
    exact ⟨t2, st.trans a1, b1⟩
theorem vx_calld {S SX : Type} {post : UInt64 → S → Prop} {px : SX → Prop} {B : S → State → Prop} {BX : String → SX → State → Prop} {AX : Nat → Prop} (hr : vx_Run p l e R s m args below meth c H locs cells slots mc ms (F0 m pc ls st0) rest (va_Qd post B A1 a) (vx_X px BX AX) free) (hS : va_S A0 H0 H locs) (hA : ∀ q, q < H.size → A1 q → A0 q) (hf : ∀ q, free q → A0 q) (hAX : ∀ q, q < H.size → AX q → A0 q)
    (kx : ∀ (E : String) (ce : Cell) (q9 : Addr) (u : SX) (t : State) (H1 : Heap) (locs1 : List Loc), t.heap = H1 → s.vm.Alike t.vm → px u → BX E u t → H.size ≤ H1.size → (∀ q : Nat, q < H.size → ¬ AX q → H1[q]? = H[q]?) → va_S A0 H0 H1 locs1 → H1[q9]? = some ce → ce.vm = .none → s.vm.findClass E = some ce.cls → vx_W p l e R s m args below meth c H1 locs1 (cells + mc) (slots + ms) Q (F0 m pc ls rest) q9)
    (kk : ∀ (r : UInt64) (u : S) (t : State) (H1 : Heap) (locs1 : List Loc), t.heap = H1 → s.vm.Alike t.vm → post r u → B u t → H.size ≤ H1.size → (∀ q : Nat, q < H.size → ¬ A1 q → H1[q]? = H[q]?) → va_S A0 H0 H1 locs1 → W p l e R s m args below meth c H1 locs1 (cells + mc) (slots + ms) Q (F0 m (pc + 3) ls (.double r :: rest))) : W p l e R s m args below meth c H locs cells slots Q (F0 m pc ls st0) := by
  intro T hT X
  rcases hr T hT X with ⟨v, st₀, t, T', L, h0, X', hL, e1, e2, ⟨⟨r, u, hv, hp, hb⟩, hF⟩, st⟩ | ⟨q, st₀, t, T', L, E, ce, h0, X', hL, e1, e2, ⟨u, hp, hb, hF⟩, hce, hcv, hcl, st⟩
  · cases hv
    obtain ⟨k1, k2, k3⟩ := vx_keep h0 e1 hS hA hf hL hF
    obtain ⟨t2, a1, b1⟩ := kk r u t T'.heap (locs ++ L) e1.symm (by rw [← e2]; exact X'.warmed.alike) hp hb k1 k2 k3 T' rfl X'
    exact ⟨t2, st t2 a1, b1⟩
  · obtain ⟨k1, k2, k3⟩ := vx_keep h0 e1 hS hAX hf hL hF
    obtain ⟨t2, a1, b1⟩ := kx E ce q u t T'.heap (locs ++ L) e1.symm (by rw [← e2]; exact X'.warmed.alike) hp hb k1 k2 k3 (by rw [e1]; exact hce) hcv hcl T' rfl X'
    exact ⟨t2, st.trans a1, b1⟩
theorem vx_callv {S SX : Type} {post : S → Prop} {px : SX → Prop} {B : S → State → Prop} {BX : String → SX → State → Prop} {AX : Nat → Prop} (hr : vx_Run p l e R s m args below meth c H locs cells slots mc ms (F0 m pc ls st0) rest (va_Qv post B A1 a) (vx_X px BX AX) free) (hS : va_S A0 H0 H locs) (hA : ∀ q, q < H.size → A1 q → A0 q) (hf : ∀ q, free q → A0 q) (hAX : ∀ q, q < H.size → AX q → A0 q)
    (kx : ∀ (E : String) (ce : Cell) (q9 : Addr) (u : SX) (t : State) (H1 : Heap) (locs1 : List Loc), t.heap = H1 → s.vm.Alike t.vm → px u → BX E u t → H.size ≤ H1.size → (∀ q : Nat, q < H.size → ¬ AX q → H1[q]? = H[q]?) → va_S A0 H0 H1 locs1 → H1[q9]? = some ce → ce.vm = .none → s.vm.findClass E = some ce.cls → vx_W p l e R s m args below meth c H1 locs1 (cells + mc) (slots + ms) Q (F0 m pc ls rest) q9)
    (kk : ∀ (u : S) (t : State) (H1 : Heap) (locs1 : List Loc), t.heap = H1 → s.vm.Alike t.vm → post u → B u t → H.size ≤ H1.size → (∀ q : Nat, q < H.size → ¬ A1 q → H1[q]? = H[q]?) → va_S A0 H0 H1 locs1 → W p l e R s m args below meth c H1 locs1 (cells + mc) (slots + ms) Q (F0 m (pc + 3) ls (rest))) : W p l e R s m args below meth c H locs cells slots Q (F0 m pc ls st0) := by
  intro T hT X
  rcases hr T hT X with ⟨v, st₀, t, T', L, h0, X', hL, e1, e2, ⟨⟨u, hv, hp, hb⟩, hF⟩, st⟩ | ⟨q, st₀, t, T', L, E, ce, h0, X', hL, e1, e2, ⟨u, hp, hb, hF⟩, hce, hcv, hcl, st⟩
  · cases hv
    obtain ⟨k1, k2, k3⟩ := vx_keep h0 e1 hS hA hf hL hF
    obtain ⟨t2, a1, b1⟩ := kk u t T'.heap (locs ++ L) e1.symm (by rw [← e2]; exact X'.warmed.alike) hp hb k1 k2 k3 T' rfl X'
    exact ⟨t2, st t2 a1, b1⟩
  · obtain ⟨k1, k2, k3⟩ := vx_keep h0 e1 hS hAX hf hL hF
    obtain ⟨t2, a1, b1⟩ := kx E ce q u t T'.heap (locs ++ L) e1.symm (by rw [← e2]; exact X'.warmed.alike) hp hb k1 k2 k3 (by rw [e1]; exact hce) hcv hcl T' rfl X'
    exact ⟨t2, st.trans a1, b1⟩
/-- caught by the row x of this method's table; the rows ahead don't take it -/
theorem vx_catch {own name : String} {E : String} {ce : Cell} {q : Addr} (hown : s.vm.findClass own = some m.cls) (pre : List ExceptionTableEntry) (x : ExceptionTableEntry) (suf : List ExceptionTableEntry) (hsplit : c.exceptionTable.toList = pre ++ x :: suf)
    (hpass : ∀ z ∈ pre, covers z pc = false ∨ (z.catchType ≠ 0 ∧ ∃ nm : String, (Cond.classLink own z.catchType nm).before args s = true ∧ va_Nc E nm s)) (hx : covers x pc = true) (h0 : x.catchType ≠ 0)
    (hlink : (Cond.classLink own x.catchType name).before args s = true) (hcast : (Cond.castable E name).before args s = true) (hcell : H[q]? = some ce) (hv : ce.vm = .none) (hcl : s.vm.findClass E = some ce.cls)
    (kk : W p l e R s m args below meth c H locs cells slots Q (F0 m x.handlerPc ls [.ref q])) : vx_W p l e R s m args below meth c H locs cells slots Q (F0 m pc ls rest) q := by
  intro T hT X
  have hpl : e.platform.magicAccessors = ({} : Platform).magicAccessors := by rw [X.admits.platform]
  obtain ⟨c3, c4, hc3, hc4, hasg⟩ := Cond.castable_spec hcast
  cases Option.some.inj (hc3.symm.trans hcl)
  obtain ⟨c5, hc5, hcl5⟩ := Cond.classLink_spec hown hlink e.platform hpl
  cases Option.some.inj (hc4.symm.trans hc5)
  obtain ⟨vm', X', st⟩ := X.thenCaughtThrough q (g := F0 m pc ls rest) rfl (Steps.refl _) (by rw [hT]; exact hcell) (by rw [hv]; rfl) (by obtain ⟨k9, h9, -⟩ := Vm.findClass_spec hcl; exact ⟨k9, h9⟩) pre x suf hsplit
    (fun z hz => by
      rcases hpass z hz with h | ⟨hz0, nm, hl1, hn1⟩
      · exact Or.inl h
      · obtain ⟨c6, hc6, hcl6⟩ := Cond.classLink_spec hown hl1 e.platform hpl
        obtain ⟨a8, b8, h1, h2, h3⟩ := hn1
        cases Option.some.inj (h1.symm.trans hcl)
        cases Option.some.inj (h2.symm.trans hc6)
        exact Or.inr ⟨hz0, _, hcl6, h3⟩) hx (Or.inr ⟨h0, c4, hcl5, hasg⟩)
  obtain ⟨t, a1, b1⟩ := kk (T.setVm vm') hT X'
  exact ⟨t, st.trans a1, b1⟩
end Rows
section Ends
variable {p : Program} {l : Launch} {e : Env} {R : Room} {s : State} {m : MethodId} {args : Array Value} {below : List Frame} {meth : Method} {c : Code} {H : Heap} {locs : List Loc} {cells slots : Nat} {Q : State → Prop}
variable {mc ms : Nat} {free : Addr → Prop} {A0 A1 : Nat → Prop} {H0 : Heap} {a : Array Value} {ls : Array Slot} {st0 rest : List Value}
variable {Qc : Array Value → State → Outcome → State → Prop} {XC : String → State → State → Prop}
/-- what a body that may throw owes at its end -/
def vx_MQ (below : List Frame) (Qc : Array Value → State → Outcome → State → Prop) (XC : String → State → State → Prop) (a : Array Value) (s : State) (mc ms : Nat) (free : Addr → Prop) : State → Prop := fun t =>
  ∃ o, t.status = .running ∧ Ended t below o ∧ vx_Q Qc XC mc ms free a s o t
theorem vx_ret {g : JFrame} {mc ms : Nat} (k : W p l e R s m args below meth c H locs cells slots (MQ below Qc args s mc ms free) g) : W p l e R s m args below meth c H locs cells slots (vx_MQ below Qc XC args s mc ms free) g := by
  intro T hT X
  obtain ⟨t, a1, o, b1, b2, b3, b4⟩ := k T hT X
  exact ⟨t, a1, o, b1, b2, Or.inl ⟨b3, b4⟩⟩
/-- not caught here: it goes on to the caller -/
theorem vx_widen {g : JFrame} {q : Addr} {k n : Nat} (h1 : cells ≤ k) (h2 : slots ≤ n) (kk : vx_W p l e R s m args below meth c H locs k n Q g q) : vx_W p l e R s m args below meth c H locs cells slots Q g q := fun T hT X => kk T hT (stand_widen X h1 h2)
theorem vx_out {pc : Nat} {E : String} {ce : Cell} {q : Addr} {mc ms : Nat} (hout : ∀ x ∈ c.exceptionTable.toList, covers x pc = false) (hlocks : meth.locks = false) (hcell : H[q]? = some ce) (hv : ce.vm = .none) (hcl : s.vm.findClass E = some ce.cls)
    (hx : ∀ t : State, t.heap = H → s.vm.Alike t.vm → XC E s t) (hf : ∀ z ∈ locs, free z.base) (hc : cells ≤ mc) (hs : slots ≤ ms) :
    vx_W p l e R s m args below meth c H locs cells slots (vx_MQ below Qc XC args s mc ms free) (F0 m pc ls rest) q := by
  intro T hT X
  obtain ⟨st1, hrun, hend, hW, hsm⟩ := X.leaveThrown q (g := F0 m pc ls rest) rfl rfl rfl hout hlocks
  have hcell9 : (T.setFrames (.throwing q :: below)).heap[q]? = some ce := by
    show T.heap[q]? = some ce
    rw [hT]; exact hcell
  exact ⟨_, st1, .threw q, hrun, hend, Or.inr ⟨q, rfl, E, ce, locs, hx _ hT hW.alike, hcell9, hv, hcl, hW, hsm.mono hc hs, hf⟩⟩
theorem vx_frame {U : State} {k n : Nat} (h : s.sameButNew ({ U with vm := s.vm } : State) locs k n) : s.heap.size ≤ U.heap.size ∧ ∀ q : Nat, q < s.heap.size → (∀ z ∈ locs, z.base ≠ q) → U.heap[q]? = s.heap[q]? := by
  obtain ⟨-, h2, -, -, -, h6⟩ := h
  refine ⟨h2, fun q hq hz => ?_⟩
  obtain ⟨c9, e1, e2, e3, e4⟩ := h6 q _ (Array.getElem?_eq_getElem hq)
  have hs : c9.slots = (s.heap[q]).slots := Array.ext_getElem? fun i => e4 i fun hm => hz _ hm rfl
  have h9 : c9 = s.heap[q] := by
    rw [hs] at e2
    exact e2
  have e5 : U.heap[q]? = some c9 := e1
  rw [e5, h9, Array.getElem?_eq_getElem hq]
/-- the words of a throw but the four that speak of the heap -/
def vx_no (w : Cond) : Bool := decide (w ≠ .isRef (.static Bundle.tN "UNASSIGNED_STACK" Bundle.steD)) && decide (w ≠ .isRef (.static Bundle.tN "SUPPRESSED_SENTINEL" Bundle.listD)) && decide (w ≠ .laysStatic Bundle.tN "UNASSIGNED_STACK" Bundle.steD) && decide (w ≠ .laysStatic Bundle.tN "SUPPRESSED_SENTINEL" Bundle.listD)
def vx_at0 (own : String) (ic : Nat) (X : String) (names : List String) : List Cond := (Bundle.ownAtoms0 own ic X names).filter vx_no
def vx_atS (own : String) (ic : Nat) (X : String) (names : List String) : List Cond := (Bundle.ownAtoms own ic X names).filter vx_no
/-- a word that the tables alone decide, or a good one -/
def vx_ot (w : Cond) : Bool := w.onTables || goodWord w
theorem vx_ot_at {args a' : Array Value} {s U : State} {w : Cond} (hW : s.WarmedH U.vm) (hvm : s.vm = U.vm) (hg : vx_ot w = true) (h : w.before args s = true) : w.before a' U = true := by
  simp only [vx_ot, Bool.or_eq_true] at hg
  rcases hg with hg | hg
  · exact va_tabs hg hvm h
  · exact word_at hW (good_of_word hg) h
/-- a list's words: the good ones out of the method's own list, the others by premises of their own -/
theorem vx_hat {args : Array Value} {s : State} {L B : List Cond} (h1 : ∀ w ∈ L.filter goodWord, w.before args s = true) (h2 : ∀ w ∈ L.filter (fun w => !goodWord w), w ∈ B) (h3 : ∀ w ∈ B, w.before args s = true) : ∀ w ∈ L, w.before args s = true := by
  intro w hw
  by_cases g : goodWord w = true
  · exact h1 w (List.mem_filter.mpr ⟨hw, g⟩)
  · refine h3 w (h2 w (List.mem_filter.mpr ⟨hw, ?_⟩))
    show (!goodWord w) = true
    cases hgw : goodWord w
    · rfl
    · exact absurd hgw g
theorem vx_c {args : Array Value} {s : State} {w : Cond} {B : List Cond} (h : w.before args s = true) (t : ∀ w ∈ B, w.before args s = true) : ∀ w' ∈ w :: B, w'.before args s = true := fun w' h' => (List.mem_cons.mp h').elim (fun e => by rw [e]; exact h) (t w')
theorem vx_n {args : Array Value} {s : State} : ∀ w ∈ ([] : List Cond), w.before args s = true := fun _ h => nomatch h
theorem vx_own {args : Array Value} {s : State} {L : List Cond} (h1 : ∀ w ∈ L.filter vx_no, w.before args s = true)
    (hU : (Cond.isRef (.static Bundle.tN "UNASSIGNED_STACK" Bundle.steD)).before args s = true) (hN : (Cond.isRef (.static Bundle.tN "SUPPRESSED_SENTINEL" Bundle.listD)).before args s = true)
    (lU : (Cond.laysStatic Bundle.tN "UNASSIGNED_STACK" Bundle.steD).before args s = true) (lN : (Cond.laysStatic Bundle.tN "SUPPRESSED_SENTINEL" Bundle.listD).before args s = true) : ∀ w ∈ L, w.before args s = true := by
  intro w hw
  by_cases e1 : w = .isRef (.static Bundle.tN "UNASSIGNED_STACK" Bundle.steD)
  · rw [e1]; exact hU
  · by_cases e2 : w = .isRef (.static Bundle.tN "SUPPRESSED_SENTINEL" Bundle.listD)
    · rw [e2]; exact hN
    · by_cases e3 : w = .laysStatic Bundle.tN "UNASSIGNED_STACK" Bundle.steD
      · rw [e3]; exact lU
      · by_cases e4 : w = .laysStatic Bundle.tN "SUPPRESSED_SENTINEL" Bundle.listD
        · rw [e4]; exact lN
        · exact h1 w (List.mem_filter.mpr ⟨hw, by unfold vx_no; rw [decide_eq_true e1, decide_eq_true e2, decide_eq_true e3, decide_eq_true e4]; rfl⟩)
/-- where a static field lies, its class's statics cell in H -/
def vx_L (C n d : String) (A : Nat → Prop) (U : State) (H : Heap) : Prop := ∃ (c : ClassId) (k : Class) (i : Nat) (f : Field) (a : Nat) (cell : Cell), U.vm.findClass C = some c ∧ U.fieldFound? C n d = some (c, k, i, f) ∧ f.isStatic = true ∧ k.statics = some a ∧ H[a]? = some cell ∧ cell.vm.isStatics = true ∧ cell.cls = c ∧ f.slot < cell.slots.size ∧ k.staticTypes[f.slot]? = some f.type ∧ ¬ A a
theorem vx_L.moved {C n d : String} {A : Nat → Prop} {u U : State} {H : Heap} (hvm : u.vm.Alike U.vm) (h : vx_L C n d A u H) : vx_L C n d A U H := by
  obtain ⟨c, k, i, f, a, cell, h1, h2, h3, h4, h5, h6, h7, h8, h9, h10⟩ := h
  obtain ⟨k', hi', he⟩ := State.fieldFound?_setVm hvm h2
  exact ⟨c, k', i, f, a, cell, by rw [hvm.findClass]; exact h1, hi', h3, by rw [he]; exact h4, h5, h6, h7, h8, by rw [he]; exact h9, h10⟩
theorem vx_L.kept {C n d : String} {A : Nat → Prop} {U : State} {H H1 : Heap} (h : vx_L C n d A U H) (hq : ∀ a : Nat, a < H.size → ¬ A a → H1[a]? = H[a]?) : vx_L C n d A U H1 := by
  obtain ⟨c, k, i, f, a, cell, h1, h2, h3, h4, h5, h6, h7, h8, h9, h10⟩ := h
  exact ⟨c, k, i, f, a, cell, h1, h2, h3, h4, by rw [hq a (Array.getElem?_eq_some_iff.mp h5).1 h10]; exact h5, h6, h7, h8, h9, h10⟩
theorem vx_L.narrow {C n d : String} {A B : Nat → Prop} {U : State} {H : Heap} (h : vx_L C n d A U H) (hAB : ∀ q, B q → A q) : vx_L C n d B U H := by
  obtain ⟨c, k, i, f, a, cell, h1, h2, h3, h4, h5, h6, h7, h8, h9, h10⟩ := h
  exact ⟨c, k, i, f, a, cell, h1, h2, h3, h4, h5, h6, h7, h8, h9, fun z => h10 (hAB _ z)⟩
theorem vx_L.word {C n d : String} {A : Nat → Prop} {s : State} {args : Array Value} (h : vx_L C n d A s s.heap) : (Cond.laysStatic C n d).before args s = true := by
  obtain ⟨c, k, i, f, a, cell, h1, h2, h3, h4, h5, h6, h7, h8, h9, -⟩ := h
  show (Cond.laysStatic C n d).holds args s none s [] = true
  exact Cond.laysStatic_of h1 h2 h3 h4 h5 h6 h7 h8 h9
/-- .. and what it holds: null or some reference -/
def vx_Zq (C n d : String) (A : Nat → Prop) (U : State) (H : Heap) : Prop := va_Zq C n d A U H ∧ vx_L C n d A U H
theorem vx_Zq.moved {C n d : String} {A : Nat → Prop} {u U : State} {H : Heap} (hvm : u.vm.Alike U.vm) (h : vx_Zq C n d A u H) : vx_Zq C n d A U H := ⟨va_Zq.moved hvm h.1, vx_L.moved hvm h.2⟩
theorem vx_Zq.kept {C n d : String} {A : Nat → Prop} {U : State} {H H1 : Heap} (h : vx_Zq C n d A U H) (hq : ∀ a : Nat, a < H.size → ¬ A a → H1[a]? = H[a]?) : vx_Zq C n d A U H1 := ⟨va_Zq.kept h.1 hq, vx_L.kept h.2 hq⟩
theorem vx_Zq.narrow {C n d : String} {A B : Nat → Prop} {U : State} {H : Heap} (h : vx_Zq C n d A U H) (hAB : ∀ q, B q → A q) : vx_Zq C n d B U H := ⟨va_Zq.narrow h.1 hAB, vx_L.narrow h.2 hAB⟩
theorem vx_Zqof {args : Array Value} {s : State} {C n d : String} {A : Nat → Prop} (hl : (Cond.laysStatic C n d).before args s = true) (hini : (Cond.initialized C).before args s = true) (h : (Cond.isRef (.static C n d)).before args s = true) (hA : ∀ a : Nat, a < s.heap.size → ¬ A a) : vx_Zq C n d A s s.heap := by
  refine ⟨va_Zqof hl hini h hA, ?_⟩
  obtain ⟨c, k, i, f, a, cell, h1, h2, h3, h4, h5, h6, h7, h8, h9⟩ := Cond.laysStatic_spec hl
  exact ⟨c, k, i, f, a, cell, h1, h2, h3, h4, h5, h6, h7, h8, h9, hA a (Array.getElem?_eq_some_iff.mp h5).1⟩
theorem vx_isRef {C n d : String} {v : Value} {A : Nat → Prop} {s : State} {args : Array Value} (h : va_Z C n d v A s s.heap) (hv : v.isRef = true) : (Cond.isRef (.static C n d)).before args s = true := by
  obtain ⟨cf, kf, fi, f, a, cell, h1, h2, h3, h4, h5, h6, h7, -⟩ := h
  have he : (Term.static C n d).eval args s none [] s = some v := by
    simp [Term.eval, State.fieldNamed?, h1, h2, h4, h5, h6, h7]
  simp only [Cond.before, Cond.holds, Cond.value, he]
  cases v <;> simp_all [Value.isRef]
theorem vx_isRefq {C n d : String} {A : Nat → Prop} {s : State} {args : Array Value} (h : va_Zq C n d A s s.heap) : (Cond.isRef (.static C n d)).before args s = true := by
  rcases h with h | ⟨t, h⟩
  · exact vx_isRef h rfl
  · exact vx_isRef h rfl
/-- the same frame, seen from here: as if the method were called anew in this heap -/
theorem vx_rebase {T : State} (X : Stand p l e R s m args below meth c T locs cells slots) {R' : Room} (hf : R'.frames ≤ R.frames) (hl : R'.locals ≤ R.locals) (hc : cells + R'.cells ≤ R.cells) (hs : slots + R'.slots ≤ R.slots) :
    Stand p l e R' ((T.setVm s.vm).setFrames (.invoking m args :: below)) m args below meth c T [] 0 0 := by
  have htop : (T.setVm s.vm).topJava?.isSome := X.here.top
  have hF : ((T.setVm s.vm).setFrames (.invoking m args :: below)).frames = .invoking m args :: below := State.frames_setFrames _ (State.cur_lt_of_top htop)
  obtain ⟨g₀, hg0⟩ := Option.isSome_iff_exists.mp htop
  obtain ⟨r, hr⟩ := State.topJava?_eq_some.mp hg0
  have hl9 : e.platform.stackLimits (T.setVm s.vm).me = e.platform.stackLimits s.me := X.limits
  have hb9 : (T.setVm s.vm).me.stackBytes = s.me.stackBytes := X.bytes
  refine ⟨X.admits, X.cas, X.clock, hF, ?_, X.hears, X.method, X.code, X.here, X.tail, X.warmed, ?_, ?_, ?_⟩
  · have h := X.room
    have hU : ((T.setVm s.vm).setFrames (.invoking m args :: below)).localsInUse = s.localsInUse := by
      rw [State.localsInUse_invoking hF (meth := meth) (c := c) X.method X.code, State.localsInUse_invoking X.frames X.method X.code]
    simp only [State.hasRoom, Bool.and_eq_true, decide_eq_true_eq] at h ⊢
    obtain ⟨⟨⟨⟨h1, h2, h3, h4, h5, h6⟩, h7⟩, h8⟩, h9⟩ := h
    rw [X.frames, List.length_cons] at h2 h3
    have q1 := X.heapSize
    have q2 := X.used
    simp only [hF, hU, List.length_cons, State.stackLimits_setFrames, State.stackBytes_setFrames, hl9, hb9]
    refine ⟨⟨⟨⟨by omega, by omega, by omega, by omega, by omega, h6⟩, ?_⟩, ?_⟩, X.book⟩
    · show T.heap.size + R'.cells ≤ e.platform.maxCells
      omega
    · show T.slotsUsed + R'.slots ≤ e.platform.maxSlots
      omega
  · rw [State.stackLimits_setFrames]; rfl
  · rw [State.stackBytes_setFrames]; rfl
  · refine ⟨?_, Nat.le_refl _, Nat.le_refl _, ?_, ?_, fun a c9 h9 => ⟨c9, h9, rfl, rfl, fun _ _ => rfl⟩⟩
    · obtain ⟨t, ht, -⟩ := State.frames_cons hr
      show T.setVm s.vm = { ((T.setVm s.vm).setFrames (.invoking m args :: below)).setFrames (T.setVm s.vm).frames with heap := T.heap, slotsUsed := T.slotsUsed }
      rw [State.setFrames_setFrames, State.setFrames_self ht]
      rfl
    · show T.slotsUsed = T.slotsUsed + ((T.heap.toList.drop T.heap.size).map (·.slots.size)).sum
      rw [List.drop_eq_nil_of_le (Nat.le_of_eq Array.length_toList)]
      rfl
    · show ((T.heap.toList.drop T.heap.size).map (·.slots.size)).sum ≤ 0
      rw [List.drop_eq_nil_of_le (Nat.le_of_eq Array.length_toList)]
      exact Nat.le_refl _
/-- 'throw new E()': new; dup; invokespecial; athrow -/
theorem vx_throw0 {cc : ByteArray} {pc : Nat} (hexec : p.tables.exec = Jvm.exec) (hb : c.code = cc) (hl : l.stackTraces = false) {own cls : String} {names : List String} {ik ic mc ms : Nat} {A : Nat → Prop}
    (hown : s.vm.findClass own = some m.cls) (hcls : Bundle.fit cls = true) (hnames : ∀ n ∈ names, Bundle.fit n = true)
    (hk : (Cond.classLink own ik cls).before args s = true) (hini : (Cond.initialized cls).before args s = true) (hat : ∀ w ∈ vx_at0 own ic cls names, w.before args s = true)
    (hgood : ∀ w ∈ Cond.classLink own ik cls :: Cond.initialized cls :: vx_at0 own ic cls names, vx_ot w = true)
    (hU : vx_Zq Bundle.tN "UNASSIGNED_STACK" Bundle.steD A s s.heap) (hN : vx_Zq Bundle.tN "SUPPRESSED_SENTINEL" Bundle.listD A s s.heap) (hS : va_S A s.heap H locs) (hsize : ls.size = c.maxLocals)
    (d0 : decode cc pc = .ok (.new ik, 3)) (d3 : decode cc (pc + 3) = .ok (.dup, 1)) (d4 : decode cc (pc + 4) = .ok (.invokespecial ic, 3)) (d7 : decode cc (pc + 7) = .ok (.athrow, 1))
    (hout : ∀ x ∈ c.exceptionTable.toList, covers x (pc + 7) = false)
    (hRframes : names.length + 3 < R.frames) (hRlocals : (rest.map fun v => v.category).sum + (13 * (names.length + 1) + 42) ≤ R.locals) (hRcells : cells + 1 ≤ R.cells) (hRslots : slots + 6 ≤ R.slots) (hlocks : meth.locks = false)
    (hx : ∀ t : State, s.vm.Alike t.vm → H.size ≤ t.heap.size → (∀ q : Nat, q < H.size → t.heap[q]? = H[q]?) → XC cls s t)
    (hf : ∀ z ∈ locs, free z.base) (hc : cells + 1 ≤ mc) (hs : slots + 6 ≤ ms) :
    W p l e R s m args below meth c H locs cells slots (vx_MQ below Qc XC args s mc ms free) (F0 m pc ls rest) := by
  intro T hT X
  have htr : e.platform.stackTraces = false := (show e.platform.stackTraces = l.stackTraces by rw [X.admits.platform]).trans hl
  have Y := vx_rebase X (R' := { frames := R.frames, locals := R.locals, cells := 1, slots := 6 }) (Nat.le_refl _) (Nat.le_refl _) hRcells hRslots
  obtain ⟨s', hA⟩ : ∃ z, z = (T.setVm s.vm).setFrames (.invoking m args :: below) := ⟨_, rfl⟩
  rw [← hA] at Y
  have hvm : s'.vm = s.vm := by rw [hA]; rfl
  have hhp : s'.heap = H := by rw [hA]; exact hT
  have hW0 : s.WarmedH s'.vm := by rw [hvm]; exact State.WarmedH.refl s
  have hat' : ∀ w ∈ vx_at0 own ic cls names, w.before args s' = true := fun w hw => vx_ot_at hW0 hvm.symm (hgood w (List.mem_cons_of_mem _ (List.mem_cons_of_mem _ hw))) (hat w hw)
  have hk' : (Cond.classLink own ik cls).before args s' = true := vx_ot_at hW0 hvm.symm (hgood _ List.mem_cons_self) hk
  have hini' : (Cond.initialized cls).before args s' = true := vx_ot_at hW0 hvm.symm (hgood _ (List.mem_cons_of_mem _ List.mem_cons_self)) hini
  have hU' : vx_Zq Bundle.tN "UNASSIGNED_STACK" Bundle.steD A s' s'.heap := by rw [hhp]; exact vx_Zq.moved hW0.alike (hU.kept hS.2.1)
  have hN' : vx_Zq Bundle.tN "SUPPRESSED_SENTINEL" Bundle.listD A s' s'.heap := by rw [hhp]; exact vx_Zq.moved hW0.alike (hN.kept hS.2.1)
  have h : ∀ w ∈ Bundle.ownAtoms0 own ic cls names, w.before args s' = true := vx_own hat' (vx_isRefq hU'.1) (vx_isRefq hN'.1) hU'.2.word hN'.2.word
  have hown' : s'.vm.findClass own = some m.cls := by rw [hvm]; exact hown
  have hins : (Cond.instantiable cls 6).before args s' = true := h _ (by simp [Bundle.ownAtoms0])
  obtain ⟨vm₁, cX, kX, hfX, hkX, -, -, X₁, st1⟩ := Y.newCold hexec (own := own) (C := cls) (index := ik) (n := 6) hown' hk' hins hini'
    (g := F0 m pc ls rest) rfl (by rw [hb]; exact d0) (Nat.le_refl _) (Nat.le_refl _)
  generalize hT1 : (T.setVm vm₁).pushCell { cls := cX, slots := kX.instanceTypes.map defaultValue, vm := .none } = T1 at X₁ st1
  have hcat : (Value.ref T.heap.size).category = 1 := rfl
  have hcellA : T1.heap[T.heap.size]? = some (freshCell cX kX) := by rw [← hT1]; exact State.heap_pushCell_size _ _
  have d3' : decode c.code (pc + 3) = .ok (.dup, 1) := by rw [hb]; exact d3
  obtain ⟨U, hsteps, hrun, hend, hW, hsame, ce, hce, hO⟩ := X₁.ctorThrow0 hexec htr (own := own) (cls := cls) (names := names) (ic := ic) hown' hcls hnames h (fun x hx => nomatch hx) hfX hkX hcellA (by rw [hhp, hT]; exact Nat.le_refl _)
    (g := { method := m, pc := pc + 4, locals := ls, stack := .ref T.heap.size :: .ref T.heap.size :: rest, locked := none }) rfl hsize rfl rfl (rest := rest) rfl
    (by rw [hb]; exact d4) (by rw [hb]; exact d7) hout hRframes (by simp only [List.map_cons, List.sum_cons, hcat]; omega) hlocks
  obtain ⟨f1, f2⟩ := vx_frame hsame
  rw [hhp] at f1 f2
  have hWs : s.WarmedH U.vm := State.WarmedH.trans hW0 hW
  have hcl : s.vm.findClass cls = some ce.cls := by
    have h9 := hO.cls
    rw [hvm] at h9
    exact h9
  have hall : s.sameButNew ({ U with vm := s.vm } : State) locs mc ms := by
    subst hA
    obtain ⟨e1, e2⟩ := hsame
    rw [State.setFrames_setFrames] at e1
    have h2 : (T.setVm s.vm).sameButNew ({ U with vm := s.vm } : State) [] (0 + 1) (0 + 6) := ⟨e1, e2⟩
    have h3 := X.same.trans h2
    rw [List.append_nil] at h3
    exact h3.mono hc hs
  refine ⟨U, ?_, .threw T.heap.size, hrun, hend, Or.inr ⟨T.heap.size, rfl, cls, ce, locs, hx U hWs.alike f1 (fun q hq => f2 q hq (fun z hz => nomatch hz)), hce, hO.vm, hcl, hWs, hall, hf⟩⟩
  refine st1 _ ?_
  show Steps p.tables e below (T1.setTop { method := m, pc := pc + 3, locals := ls, stack := .ref T.heap.size :: rest, locked := none }) _
  jvm_step X₁.here [X₁.here.top, hexec, d3', Value.category]
  exact hsteps
/-- 'throw new E("text")': new; dup; ldc; invokespecial; athrow -/
theorem vx_throwS {cc : ByteArray} {pc : Nat} (hexec : p.tables.exec = Jvm.exec) (hb : c.code = cc) (hl : l.stackTraces = false) {own cls text : String} {names : List String} {ik is ic mc ms sa : Nat} {A : Nat → Prop}
    (hown : s.vm.findClass own = some m.cls) (hcls : Bundle.fit cls = true) (hnames : ∀ n ∈ names, Bundle.fit n = true)
    (hk : (Cond.classLink own ik cls).before args s = true) (hini : (Cond.initialized cls).before args s = true) (hstr : vk_R own is text sa s) (hat : ∀ w ∈ vx_atS own ic cls names, w.before args s = true)
    (hgood : ∀ w ∈ Cond.classLink own ik cls :: Cond.initialized cls :: vx_atS own ic cls names, vx_ot w = true)
    (hU : vx_Zq Bundle.tN "UNASSIGNED_STACK" Bundle.steD A s s.heap) (hN : vx_Zq Bundle.tN "SUPPRESSED_SENTINEL" Bundle.listD A s s.heap) (hS : va_S A s.heap H locs) (hsize : ls.size = c.maxLocals)
    (d0 : decode cc pc = .ok (.new ik, 3)) (d3 : decode cc (pc + 3) = .ok (.dup, 1)) (d4 : decode cc (pc + 4) = .ok (.ldc is, 2)) (d6 : decode cc (pc + 6) = .ok (.invokespecial ic, 3)) (d9 : decode cc (pc + 9) = .ok (.athrow, 1))
    (hout : ∀ x ∈ c.exceptionTable.toList, covers x (pc + 9) = false)
    (hRframes : names.length + 3 < R.frames) (hRlocals : (rest.map fun v => v.category).sum + (13 * (names.length + 1) + 43) ≤ R.locals) (hRcells : cells + 1 ≤ R.cells) (hRslots : slots + 6 ≤ R.slots) (hlocks : meth.locks = false)
    (hx : ∀ t : State, s.vm.Alike t.vm → H.size ≤ t.heap.size → (∀ q : Nat, q < H.size → t.heap[q]? = H[q]?) → XC cls s t)
    (hf : ∀ z ∈ locs, free z.base) (hc : cells + 1 ≤ mc) (hs : slots + 6 ≤ ms) :
    W p l e R s m args below meth c H locs cells slots (vx_MQ below Qc XC args s mc ms free) (F0 m pc ls rest) := by
  intro T hT X
  have htr : e.platform.stackTraces = false := (show e.platform.stackTraces = l.stackTraces by rw [X.admits.platform]).trans hl
  have Y := vx_rebase X (R' := { frames := R.frames, locals := R.locals, cells := 1, slots := 6 }) (Nat.le_refl _) (Nat.le_refl _) hRcells hRslots
  obtain ⟨s', hA⟩ : ∃ z, z = (T.setVm s.vm).setFrames (.invoking m args :: below) := ⟨_, rfl⟩
  rw [← hA] at Y
  have hvm : s'.vm = s.vm := by rw [hA]; rfl
  have hhp : s'.heap = H := by rw [hA]; exact hT
  have hW0 : s.WarmedH s'.vm := by rw [hvm]; exact State.WarmedH.refl s
  have hat' : ∀ w ∈ vx_atS own ic cls names, w.before args s' = true := fun w hw => vx_ot_at hW0 hvm.symm (hgood w (List.mem_cons_of_mem _ (List.mem_cons_of_mem _ hw))) (hat w hw)
  have hk' : (Cond.classLink own ik cls).before args s' = true := vx_ot_at hW0 hvm.symm (hgood _ List.mem_cons_self) hk
  have hini' : (Cond.initialized cls).before args s' = true := vx_ot_at hW0 hvm.symm (hgood _ (List.mem_cons_of_mem _ List.mem_cons_self)) hini
  have hU' : vx_Zq Bundle.tN "UNASSIGNED_STACK" Bundle.steD A s' s'.heap := by rw [hhp]; exact vx_Zq.moved hW0.alike (hU.kept hS.2.1)
  have hN' : vx_Zq Bundle.tN "SUPPRESSED_SENTINEL" Bundle.listD A s' s'.heap := by rw [hhp]; exact vx_Zq.moved hW0.alike (hN.kept hS.2.1)
  have h : ∀ w ∈ Bundle.ownAtoms own ic cls names, w.before args s' = true := vx_own hat' (vx_isRefq hU'.1) (vx_isRefq hN'.1) hU'.2.word hN'.2.word
  have hown' : s'.vm.findClass own = some m.cls := by rw [hvm]; exact hown
  have hins : (Cond.instantiable cls 6).before args s' = true := h _ (by simp [Bundle.ownAtoms])
  obtain ⟨vm₁, cX, kX, hfX, hkX, -, -, X₁, st1⟩ := Y.newCold hexec (own := own) (C := cls) (index := ik) (n := 6) hown' hk' hins hini'
    (g := F0 m pc ls rest) rfl (by rw [hb]; exact d0) (Nat.le_refl _) (Nat.le_refl _)
  generalize hT1 : (T.setVm vm₁).pushCell { cls := cX, slots := kX.instanceTypes.map defaultValue, vm := .none } = T1 at X₁ st1
  have hcat : (Value.ref T.heap.size).category = 1 := rfl
  have hcellA : T1.heap[T.heap.size]? = some (freshCell cX kX) := by rw [← hT1]; exact State.heap_pushCell_size _ _
  have d3' : decode c.code (pc + 3) = .ok (.dup, 1) := by rw [hb]; exact d3
  have d4' : decode c.code (pc + 4) = .ok (.ldc is, 2) := by rw [hb]; exact d4
  have hstr' : vk_R own is text sa s' := vk_R.warm hW0 hstr
  obtain ⟨U, hsteps, hrun, hend, hW, hsame, ce, hce, hO⟩ := X₁.ctorThrowS hexec htr (own := own) (cls := cls) (names := names) (ic := ic) hown' hcls hnames h (fun x hx => nomatch hx) hfX hkX hcellA (by rw [hhp, hT]; exact Nat.le_refl _) (msg := .ref sa) rfl
    (g := { method := m, pc := pc + 6, locals := ls, stack := .ref sa :: .ref T.heap.size :: .ref T.heap.size :: rest, locked := none }) rfl hsize rfl rfl (rest := rest) rfl
    (by rw [hb]; exact d6) (by rw [hb]; exact d9) hout hRframes (by simp only [List.map_cons, List.sum_cons, hcat]; omega) hlocks
  obtain ⟨f1, f2⟩ := vx_frame hsame
  rw [hhp] at f1 f2
  have hWs : s.WarmedH U.vm := State.WarmedH.trans hW0 hW
  have hcl : s.vm.findClass cls = some ce.cls := by
    have h9 := hO.cls
    rw [hvm] at h9
    exact h9
  have hall : s.sameButNew ({ U with vm := s.vm } : State) locs mc ms := by
    subst hA
    obtain ⟨e1, e2⟩ := hsame
    rw [State.setFrames_setFrames] at e1
    have h2 : (T.setVm s.vm).sameButNew ({ U with vm := s.vm } : State) [] (0 + 1) (0 + 6) := ⟨e1, e2⟩
    have h3 := X.same.trans h2
    rw [List.append_nil] at h3
    exact h3.mono hc hs
  refine ⟨U, ?_, .threw T.heap.size, hrun, hend, Or.inr ⟨T.heap.size, rfl, cls, ce, locs, hx U hWs.alike f1 (fun q hq => f2 q hq (fun z hz => nomatch hz)), hce, hO.vm, hcl, hWs, hall, hf⟩⟩
  refine st1 _ ?_
  show Steps p.tables e below (T1.setTop { method := m, pc := pc + 3, locals := ls, stack := .ref T.heap.size :: rest, locked := none }) _
  jvm_step X₁.here [X₁.here.top, hexec, d3', Value.category]
  exact X₁.ldcString hexec (own := own) (text := text) (index := is) (a := sa) hown' hstr'.1 hstr'.2
    (g := { method := m, pc := pc + 4, locals := ls, stack := .ref T.heap.size :: .ref T.heap.size :: rest, locked := none }) rfl d4' _ hsteps
/-- 'throw new E("text")', the text by a wide index -/
theorem vx_throwSW {cc : ByteArray} {pc : Nat} (hexec : p.tables.exec = Jvm.exec) (hb : c.code = cc) (hl : l.stackTraces = false) {own cls text : String} {names : List String} {ik is ic mc ms sa : Nat} {A : Nat → Prop}
    (hown : s.vm.findClass own = some m.cls) (hcls : Bundle.fit cls = true) (hnames : ∀ n ∈ names, Bundle.fit n = true)
    (hk : (Cond.classLink own ik cls).before args s = true) (hini : (Cond.initialized cls).before args s = true) (hstr : vk_R own is text sa s) (hat : ∀ w ∈ vx_atS own ic cls names, w.before args s = true)
    (hgood : ∀ w ∈ Cond.classLink own ik cls :: Cond.initialized cls :: vx_atS own ic cls names, vx_ot w = true)
    (hU : vx_Zq Bundle.tN "UNASSIGNED_STACK" Bundle.steD A s s.heap) (hN : vx_Zq Bundle.tN "SUPPRESSED_SENTINEL" Bundle.listD A s s.heap) (hS : va_S A s.heap H locs) (hsize : ls.size = c.maxLocals)
    (d0 : decode cc pc = .ok (.new ik, 3)) (d3 : decode cc (pc + 3) = .ok (.dup, 1)) (d4 : decode cc (pc + 4) = .ok (.ldc_w is, 3)) (d7 : decode cc (pc + 7) = .ok (.invokespecial ic, 3)) (d10 : decode cc (pc + 10) = .ok (.athrow, 1))
    (hout : ∀ x ∈ c.exceptionTable.toList, covers x (pc + 10) = false)
    (hRframes : names.length + 3 < R.frames) (hRlocals : (rest.map fun v => v.category).sum + (13 * (names.length + 1) + 43) ≤ R.locals) (hRcells : cells + 1 ≤ R.cells) (hRslots : slots + 6 ≤ R.slots) (hlocks : meth.locks = false)
    (hx : ∀ t : State, s.vm.Alike t.vm → H.size ≤ t.heap.size → (∀ q : Nat, q < H.size → t.heap[q]? = H[q]?) → XC cls s t)
    (hf : ∀ z ∈ locs, free z.base) (hc : cells + 1 ≤ mc) (hs : slots + 6 ≤ ms) :
    W p l e R s m args below meth c H locs cells slots (vx_MQ below Qc XC args s mc ms free) (F0 m pc ls rest) := by
  intro T hT X
  have htr : e.platform.stackTraces = false := (show e.platform.stackTraces = l.stackTraces by rw [X.admits.platform]).trans hl
  have Y := vx_rebase X (R' := { frames := R.frames, locals := R.locals, cells := 1, slots := 6 }) (Nat.le_refl _) (Nat.le_refl _) hRcells hRslots
  obtain ⟨s', hA⟩ : ∃ z, z = (T.setVm s.vm).setFrames (.invoking m args :: below) := ⟨_, rfl⟩
  rw [← hA] at Y
  have hvm : s'.vm = s.vm := by rw [hA]; rfl
  have hhp : s'.heap = H := by rw [hA]; exact hT
  have hW0 : s.WarmedH s'.vm := by rw [hvm]; exact State.WarmedH.refl s
  have hat' : ∀ w ∈ vx_atS own ic cls names, w.before args s' = true := fun w hw => vx_ot_at hW0 hvm.symm (hgood w (List.mem_cons_of_mem _ (List.mem_cons_of_mem _ hw))) (hat w hw)
  have hk' : (Cond.classLink own ik cls).before args s' = true := vx_ot_at hW0 hvm.symm (hgood _ List.mem_cons_self) hk
  have hini' : (Cond.initialized cls).before args s' = true := vx_ot_at hW0 hvm.symm (hgood _ (List.mem_cons_of_mem _ List.mem_cons_self)) hini
  have hU' : vx_Zq Bundle.tN "UNASSIGNED_STACK" Bundle.steD A s' s'.heap := by rw [hhp]; exact vx_Zq.moved hW0.alike (hU.kept hS.2.1)
  have hN' : vx_Zq Bundle.tN "SUPPRESSED_SENTINEL" Bundle.listD A s' s'.heap := by rw [hhp]; exact vx_Zq.moved hW0.alike (hN.kept hS.2.1)
  have h : ∀ w ∈ Bundle.ownAtoms own ic cls names, w.before args s' = true := vx_own hat' (vx_isRefq hU'.1) (vx_isRefq hN'.1) hU'.2.word hN'.2.word
  have hown' : s'.vm.findClass own = some m.cls := by rw [hvm]; exact hown
  have hins : (Cond.instantiable cls 6).before args s' = true := h _ (by simp [Bundle.ownAtoms])
  obtain ⟨vm₁, cX, kX, hfX, hkX, -, -, X₁, st1⟩ := Y.newCold hexec (own := own) (C := cls) (index := ik) (n := 6) hown' hk' hins hini'
    (g := F0 m pc ls rest) rfl (by rw [hb]; exact d0) (Nat.le_refl _) (Nat.le_refl _)
  generalize hT1 : (T.setVm vm₁).pushCell { cls := cX, slots := kX.instanceTypes.map defaultValue, vm := .none } = T1 at X₁ st1
  have hcat : (Value.ref T.heap.size).category = 1 := rfl
  have hcellA : T1.heap[T.heap.size]? = some (freshCell cX kX) := by rw [← hT1]; exact State.heap_pushCell_size _ _
  have d3' : decode c.code (pc + 3) = .ok (.dup, 1) := by rw [hb]; exact d3
  have d4' : decode c.code (pc + 4) = .ok (.ldc_w is, 3) := by rw [hb]; exact d4
  have hstr' : vk_R own is text sa s' := vk_R.warm hW0 hstr
  obtain ⟨U, hsteps, hrun, hend, hW, hsame, ce, hce, hO⟩ := X₁.ctorThrowS hexec htr (own := own) (cls := cls) (names := names) (ic := ic) hown' hcls hnames h (fun x hx => nomatch hx) hfX hkX hcellA (by rw [hhp, hT]; exact Nat.le_refl _) (msg := .ref sa) rfl
    (g := { method := m, pc := pc + 7, locals := ls, stack := .ref sa :: .ref T.heap.size :: .ref T.heap.size :: rest, locked := none }) rfl hsize rfl rfl (rest := rest) rfl
    (by rw [hb]; exact d7) (by rw [hb]; exact d10) hout hRframes (by simp only [List.map_cons, List.sum_cons, hcat]; omega) hlocks
  obtain ⟨f1, f2⟩ := vx_frame hsame
  rw [hhp] at f1 f2
  have hWs : s.WarmedH U.vm := State.WarmedH.trans hW0 hW
  have hcl : s.vm.findClass cls = some ce.cls := by
    have h9 := hO.cls
    rw [hvm] at h9
    exact h9
  have hall : s.sameButNew ({ U with vm := s.vm } : State) locs mc ms := by
    subst hA
    obtain ⟨e1, e2⟩ := hsame
    rw [State.setFrames_setFrames] at e1
    have h2 : (T.setVm s.vm).sameButNew ({ U with vm := s.vm } : State) [] (0 + 1) (0 + 6) := ⟨e1, e2⟩
    have h3 := X.same.trans h2
    rw [List.append_nil] at h3
    exact h3.mono hc hs
  refine ⟨U, ?_, .threw T.heap.size, hrun, hend, Or.inr ⟨T.heap.size, rfl, cls, ce, locs, hx U hWs.alike f1 (fun q hq => f2 q hq (fun z hz => nomatch hz)), hce, hO.vm, hcl, hWs, hall, hf⟩⟩
  refine st1 _ ?_
  show Steps p.tables e below (T1.setTop { method := m, pc := pc + 3, locals := ls, stack := .ref T.heap.size :: rest, locked := none }) _
  jvm_step X₁.here [X₁.here.top, hexec, d3', Value.category]
  exact X₁.ldcStringW hexec (own := own) (text := text) (index := is) (a := sa) hown' hstr'.1 hstr'.2
    (g := { method := m, pc := pc + 4, locals := ls, stack := .ref T.heap.size :: .ref T.heap.size :: rest, locked := none }) rfl d4' _ hsteps
end Ends
section Bodies
variable {l : Launch}
theorem vx_ofW {y : MethodName} {ws ws' : List Cond} {rm : Room} {Pc : Array Value → State → Prop} {Qc : Array Value → State → Outcome → State → Prop} {XC : String → State → State → Prop} {mc ms : Nat} {free : Addr → Prop} {cc : ByteArray} {maxL : Nat} {ret : Option FieldType}
    (hy : plainName y.cls = true) (hw : ws = Cond.code y cc maxL ret :: ws')
    (body : ∀ p e s m args below meth c s₁, BodyLoose p l y (headSpec ws rm) cc maxL ret e s m args below meth c s₁ → c.maxLocals = maxL → (∀ x ∈ c.exceptionTable.toList, False) → Pc args s →
      W p l e (headSpec ws rm).room s m args below meth c s.heap [] 0 0 (vx_MQ below Qc XC args s mc ms free) (entryFrame m args maxL)) : vx_Met l y ws rm Pc Qc XC mc ms free := by
  refine MetFree.of_bodyS (code := cc) (maxLocals := maxL) (ret := ret) hy ?_ ?_
  · intro args s m h hn
    obtain ⟨meth, c, h1, h2, h3, h4, h5, h6, -, -⟩ := Cond.code_spec hn (atoms_spec (ws := ws) h _ (by rw [hw]; exact List.mem_cons_self))
    exact ⟨meth, c, h1, h2, h3, h4, h5, h6⟩
  · intro p e s m args below meth c s₁ B hml hP _
    have hh0 : s₁.heap = s.heap := by rw [B.state]; rfl
    have ht : ∀ x ∈ c.exceptionTable.toList, False := by
      obtain ⟨meth9, c9, h1, h2, -, -, -, -, h7, -⟩ := Cond.code_spec B.named (atoms_spec (ws := ws) B.pre _ (by rw [hw]; exact List.mem_cons_self))
      cases Option.some.inj (h1.symm.trans B.method)
      cases Option.some.inj (h2.symm.trans (Stand.of_body B).code)
      intro x hx
      rw [Array.isEmpty_iff.mp h7] at hx
      cases hx
    obtain ⟨t, a1, o, b1, b2, b3⟩ := body p e s m args below meth c s₁ B hml ht hP s₁ hh0 (Stand.of_body B)
    exact ⟨t, o, a1, b1, b2, b3⟩
/-- the table of a body with handlers -/
theorem vx_table {p : Program} {x y : MethodName} {S : Spec} {cc bytes : ByteArray} {maxL maxL' : Nat} {ret ret' : Option FieldType} {e : Env} {s s₁ : State} {m : MethodId} {args : Array Value} {below : List Frame} {meth : Method} {c : Code} {hh : List (Nat × Nat × Nat × Nat)}
    (B : BodyLoose p l y S cc maxL ret e s m args below meth c s₁) (h : (Cond.codeWith y bytes maxL' ret' hh).before args s = true) : c.exceptionTable.toList = tableOf hh := by
  obtain ⟨m9, meth9, c9, hn9, h1, h2, -, -, h6, -⟩ := Cond.codeWith_spec h
  cases Option.some.inj (hn9.symm.trans B.named)
  cases Option.some.inj (h1.symm.trans B.method)
  cases Option.some.inj (h2.symm.trans (Stand.of_body B).code)
  rw [← h6, table_eq]
end Bodies
end VXA
/-! ===== END ===== -/
/-! ===== BEGIN a static call of a method with an exception table ===== -/
section VXS
variable {p : Program} {l : Launch} {e : Env} {R : Room} {s : State} {m : MethodId} {args : Array Value} {below : List Frame} {meth : Method} {c : Code} {T : State} {H : Heap} {locs : List Loc} {cells slots : Nat}
abbrev vx_CSW (R : Room) (s : State) (args : Array Value) (own : String) (index : Nat) (y : MethodName) (bytes : ByteArray) (maxL : Nat) (ret : Option FieldType) (hh : List (Nat × Nat × Nat × Nat)) (ws : List Cond) (rm : Room) (mc ms n : Nat) : Prop :=
  (rm.cells = mc ∧ rm.slots = ms ∧ rm.frames + 1 ≤ R.frames ∧ 8 + (maxL + 11) + rm.locals ≤ R.locals ∧ (∀ w ∈ ws, ∀ (a' : Array Value) (U : State), s.WarmedH U.vm → w.before a' U = true) ∧ Cond.codeWith y bytes maxL ret hh ∈ ws) ∧
  (Cond.codeWith y bytes maxL ret hh).before args s = true ∧ (Cond.initialized y.cls).before args s = true ∧ (y.cls ≠ "java/lang/invoke/MethodHandle" ∧ y.cls ≠ "java/lang/invoke/VarHandle") ∧
  (∀ sig, parseMethodDescriptor y.desc = some sig → n = sig.parameters.length) ∧ (Cond.methodLink own index y).before args s = true ∧ (Cond.static y).before args s = true
theorem vx_cwSW {own : String} {index maxL mc ms : Nat} {y : MethodName} {bytes : ByteArray} {ret : Option FieldType} {hh : List (Nat × Nat × Nat × Nat)} {Ts ws ws' : List Cond} {rm : Room} (n : Nat) (ht : ∀ w ∈ Ts, w.before args s = true) (hT : GoodIn Ts (va_wsS own index y ws)) (hw : ws = Cond.codeWith y bytes maxL ret hh :: ws') (hrc : rm.cells = mc) (hrs : rm.slots = ms)
    (hd : y.cls ≠ "java/lang/invoke/MethodHandle" ∧ y.cls ≠ "java/lang/invoke/VarHandle" ∧ (parseMethodDescriptor y.desc).map (fun d => d.parameters.length) = some n) (hR : rm.frames + 1 ≤ R.frames ∧ 8 + (maxL + 11) + rm.locals ≤ R.locals) :
    vx_CSW R s args own index y bytes maxL ret hh ws rm mc ms n := by
  have ok : ∀ w ∈ va_wsS own index y ws, w.before args s = true := fun w h => ht w (hT w h).1
  have hG : GoodIn Ts ws := fun w h => hT w (by unfold va_wsS; exact List.mem_append_right _ h)
  have hc : Cond.codeWith y bytes maxL ret hh ∈ ws := by rw [hw]; exact List.mem_cons_self
  refine ⟨⟨hrc, hrs, hR.1, hR.2, pay_in ht hG, hc⟩, ht _ (hG _ hc).1, ok _ (by simp [va_wsS]), ⟨hd.1, hd.2.1⟩, fun sig h => ?_, ok _ (by simp [va_wsS]), ok _ (by simp [va_wsS])⟩
  have h2 := hd.2.2
  rw [h] at h2
  exact (Option.some.inj h2).symm
theorem vx_callSW (X : Stand p l e R s m args below meth c T locs cells slots) (hexec : p.tables.exec = Jvm.exec) {own : String} {index : Nat} {y : MethodName} {bytes : ByteArray} {maxL : Nat} {ret : Option FieldType} {hh : List (Nat × Nat × Nat × Nat)}
    (hown : s.vm.findClass own = some m.cls) (hlink : (Cond.methodLink own index y).before args s = true) (hstat : (Cond.static y).before args s = true) (hinit : (Cond.initialized y.cls).before args s = true)
    (hcode : (Cond.codeWith y bytes maxL ret hh).before args s = true) (hy : y.cls ≠ "java/lang/invoke/MethodHandle" ∧ y.cls ≠ "java/lang/invoke/VarHandle")
    {W9 : Nat} {Pre : Pt → Array Value → Prop} {Post : Pt → Array Value → Option Value → Pt → Prop} (hK : Back l R p e below s args y 3 W9 Pre Post)
    {g : JFrame} (hg : g.method = m) (hsize : g.locals.size = c.maxLocals) {argsL rest : List Value} (hlen : ∀ sig, parseMethodDescriptor y.desc = some sig → argsL.length = sig.parameters.length)
    (hstack : g.stack = argsL.reverse ++ rest) (hW : 2 * g.monitorRoom + (rest.map fun v => v.category).sum ≤ W9) (hdg : decode c.code g.pc = .ok (.invokestatic index, 3))
    (hpre : ∀ vm₁, s.WarmedH vm₁ → Pre ⟨T.setVm vm₁, locs, cells, slots⟩ argsL.toArray) :
    ∃ (v : Option Value) (vm₁ : Vm) (B : Pt), s.WarmedH vm₁ ∧ Stand p l e R s m args below meth c B.U B.locs B.cells B.slots ∧ Post ⟨T.setVm vm₁, locs, cells, slots⟩ argsL.toArray v B ∧
      ∀ target, Steps p.tables e below (B.U.setTop { g with pc := g.pc + 3, stack := v.toList ++ rest }) target → Steps p.tables e below (T.setTop g) target := by
  obtain ⟨mk, methM, cM, hnamed, hmethM, -, -, -, -, -, -, hsigM⟩ := Cond.codeWith_spec hcode
  have hstatic : methM.isStatic = true := Cond.static_spec hnamed hmethM hstat
  obtain ⟨kP, hkP, -⟩ := className_of_methodNamed hnamed
  have hinitP : kP.init = .initialized := Cond.initialized_spec (findClass_of_methodNamed hnamed) hkP hinit
  obtain ⟨vm₁, X₁, hstep₁⟩ := X.invokestatic hexec hown hlink hnamed hmethM hstatic hkP hinitP hy (g := g) hg (argsL := argsL) (rest := rest) (hlen _ hsigM) hstack hdg
  obtain ⟨v, B, X', hpost, hsteps⟩ := hK m meth c ⟨T.setVm vm₁, locs, cells, slots⟩ { g with stack := rest } (.invokestatic index) mk argsL.toArray X₁ hg hsize hdg hW (X₁.named hnamed) (hpre vm₁ X₁.warmed)
  exact ⟨v, vm₁, B, X₁.warmed, X', hpost, fun target h => hstep₁ _ fun acts => by rw [doInvoke_state]; exact hsteps.trans h⟩
theorem vx_runSW {y : MethodName} {bytes cc : ByteArray} {maxL nL mc ms n index : Nat} {ret : Option FieldType} {hh : List (Nat × Nat × Nat × Nat)} {ws : List Cond} {rm : Room} {Pc : Array Value → State → Prop} {Qc : Array Value → State → Outcome → State → Prop} {free : Addr → Prop} {Ts : List Cond} {own : String} {As rest : List Value} {g : JFrame}
    (S : CallFix p m c cc nL s args Ts own) (hM : Met l y ws rm Pc Qc mc ms free) (cw : vx_CSW R s args own index y bytes maxL ret hh ws rm mc ms n) (hp : PreS s H Pc As)
    (hg : g.method = m) (hn : As.length = n) (hsize : g.locals.size = nL) (hstack : g.stack = As.reverse ++ rest) (hW : 2 * g.monitorRoom + (rest.map fun v => v.category).sum ≤ 8) (hdg : decode cc g.pc = .ok (.invokestatic index, 3)) (hf : cells + mc ≤ R.cells ∧ slots + ms ≤ R.slots) :
    va_Run p l e R s m args below meth c H locs cells slots mc ms g rest (Qc As.toArray) (free) := by
  obtain ⟨⟨hrc, hrs, hfr, hlo, hws, hcw⟩, hcode, hini, hy, hlen, hl, hstt⟩ := cw
  have hK : Back l R p e below s args y 3 8 (PreOf R mc ms Pc) (PostOf Qc mc ms free) := va_backW (hh := hh) (bytes := bytes) (maxL := maxL) (ret := ret) hM hp.1 hrc hrs hfr hlo hws hcw (fun a' U hW => word_at hW (Or.inl (by first | rfl | simp [Cond.onTables, Cond.keeps, Cond.steady])) hini)
  obtain ⟨hx, hb, hml, ho, -⟩ := S
  intro T hT X
  obtain ⟨v, vm₁, ⟨U', l2, c2, s2⟩, hW₁, X', ⟨g', mk, t, L, e1, e2, hq, h1, hL, h2, h3⟩, st⟩ := vx_callSW X hx (hh := hh) (bytes := bytes) (maxL := maxL) (ret := ret) ho hl hstt hini hcode hy hK hg (hsize.trans hml.symm) (argsL := As) (rest := rest) (fun sig h => hn.trans (hlen sig h)) hstack hW (by rw [hb]; exact hdg)
    (fun vm₁ hW₁ => ⟨hf.1, hf.2, hp.2 (T.setVm vm₁) hT hW₁⟩)
  dsimp only [Pt.U, Pt.locs, Pt.cells, Pt.slots] at X' e1 e2 h1 h2 h3 st
  subst h1; subst h2; subst h3
  exact ⟨v, (T.setVm vm₁).calling g' mk As.toArray, t, U', L, hT, X', hL, e1, e2, hq, st⟩
/-- not caught here, past rows that name other classes: it goes on to the caller -/
theorem vx_outP {p : Program} {l : Launch} {e : Env} {R : Room} {s : State} {m : MethodId} {args : Array Value} {below : List Frame} {meth : Method} {c : Code} {H : Heap} {locs : List Loc} {cells slots : Nat} {free : Addr → Prop} {ls : Array Slot} {rest : List Value} {Qc : Array Value → State → Outcome → State → Prop} {XC : String → State → State → Prop}
    {pc : Nat} {own E : String} {ce : Cell} {q : Addr} {mc ms : Nat} (hown : s.vm.findClass own = some m.cls) (hlocks : meth.locks = false)
    (hpass : ∀ z ∈ c.exceptionTable.toList, covers z pc = false ∨ (z.catchType ≠ 0 ∧ ∃ nm : String, (Cond.classLink own z.catchType nm).before args s = true ∧ va_Nc E nm s)) (hcell : H[q]? = some ce) (hv : ce.vm = .none) (hcl : s.vm.findClass E = some ce.cls)
    (hx : ∀ t : State, t.heap = H → s.vm.Alike t.vm → XC E s t) (hf : ∀ z ∈ locs, free z.base) (hc : cells ≤ mc) (hs : slots ≤ ms) :
    vx_W p l e R s m args below meth c H locs cells slots (vx_MQ below Qc XC args s mc ms free) (F0 m pc ls rest) q := by
  intro T hT X
  have hpl : e.platform.magicAccessors = ({} : Platform).magicAccessors := by rw [X.admits.platform]
  obtain ⟨vm', hW', X', st⟩ := X.outThrough hlocks q (g := F0 m pc ls rest) rfl rfl rfl (cell := ce) (by rw [hT]; exact hcell) (by rw [hv]; rfl)
    (by obtain ⟨k9, h9, -⟩ := Vm.findClass_spec hcl; exact ⟨k9, h9⟩) (fun z hz => by
      rcases hpass z hz with h | ⟨hz0, nm, hl1, hn1⟩
      · exact Or.inl h
      · obtain ⟨c6, hc6, hcl6⟩ := Cond.classLink_spec hown hl1 e.platform hpl
        obtain ⟨a8, b8, h1, h2, h3⟩ := hn1
        cases Option.some.inj (h1.symm.trans hcl)
        cases Option.some.inj (h2.symm.trans hc6)
        exact Or.inr ⟨hz0, _, hcl6, h3⟩)
  obtain ⟨g₀, hfr⟩ := X'.frames_eq
  have hcell9 : ((T.setVm vm').setFrames (.throwing q :: below)).heap[q]? = some ce := by
    show T.heap[q]? = some ce
    rw [hT]; exact hcell
  have hend : Ended ((T.setVm vm').setFrames (.throwing q :: below)) below (.threw q) := State.frames_setFrames _ (State.cur_lt_of_frames hfr)
  refine ⟨(T.setVm vm').setFrames (.throwing q :: below), ?_, .threw q, X'.here.running, hend, Or.inr ⟨q, rfl, E, ce, locs, hx _ hT (X'.ends _).1.alike, hcell9, hv, hcl, (X'.ends _).1, (X'.ends _).2.mono hc hs, hf⟩⟩
  rw [X.pushThrowing_eq]
  exact st
/-- a thing of a world lies in the heap -/
theorem vx_lt {D : va_G} {cl : List vw_C} {ws : va_W} {H1 : Heap} (h : va_P D cl ws H1) {k : Nat} {q : Nat × va_E} (hk : ws[k]? = some q) : q.1 < H1.size := (h k q hk).lt
end VXS
/-! ===== END ===== -/
/-! ===== BEGIN methods with a table of their own: called by a name, returning or throwing ===== -/
section VXH
/-! vx_backW, vx_callVX, vx_callSX, vx_callVW, vx_runVW, vx_runVX, vx_runSX, vx_ofWH follow the same proofs as their sisters above (Free/Laws.lean, Shelf42/LK1.lean); vx_outP calls Shelf42/NT130.lean (outThrough). -/
section
variable {l : Launch} {R : Room} {p : Program} {e : Env} {below : List Frame} {s : State} {sargs : Array Value} {y : MethodName} {len W9 : Nat}
theorem vx_backW {ws : List Cond} {rm : Room} {Pc : Array Value → State → Prop} {Qc : Array Value → State → Outcome → State → Prop} {XC : String → State → State → Prop} {mc ms : Nat} {free : Addr → Prop} {bytes : ByteArray} {maxL : Nat} {ret : Option FieldType} {hh : List (Nat × Nat × Nat × Nat)}
    (hM : vx_Met l y ws rm Pc Qc XC mc ms free) (hblind : FrameBlind Pc) (hrc : rm.cells = mc) (hrs : rm.slots = ms)
    (hframes : rm.frames + 1 ≤ R.frames) (hlocals : W9 + (maxL + 11) + rm.locals ≤ R.locals)
    (hws : ∀ w ∈ ws, ∀ a' U, s.WarmedH U.vm → w.before a' U = true) (hcode : Cond.codeWith y bytes maxL ret hh ∈ ws) (hinit : ∀ a' U, s.WarmedH U.vm → (Cond.initialized y.cls).before a' U = true) :
    vx_Back l R p e below s sargs y len W9 (PreOf R mc ms Pc) (PostOf Qc mc ms free) (vx_Post XC mc ms free) := by
  intro m meth c A g ig mk a X hg hsize hdg hW hn hp
  have h1 : (headSpec ws rm).pre.before a A.U = true := atoms_intro fun w hw => hws w hw _ _ X.warmed
  have h2 : (Cond.codeWith y bytes maxL ret hh).before a A.U = true := hws _ hcode _ _ X.warmed
  have h3 : (Cond.initialized y.cls).before a A.U = true := hinit _ _ X.warmed
  have h4 : A.cells + (headSpec ws rm).room.cells ≤ R.cells := by rw [show (headSpec ws rm).room.cells = mc from hrc]; exact hp.1
  have h5 : A.slots + (headSpec ws rm).room.slots ≤ R.slots := by rw [show (headSpec ws rm).room.slots = ms from hrs]; exact hp.2.1
  have hPc : Pc a (A.U.calling g mk a) := hblind _ _ _ _ hp.2.2
  obtain ⟨U, Ls, c0, s0⟩ := A
  dsimp only [Pt.U, Pt.locs, Pt.cells, Pt.slots] at h1 h2 h3 h4 h5 X hn hPc ⊢
  obtain ⟨m9, methY, cY, hn9, hmY, hcY, -, hlY, -⟩ := Cond.codeWith_spec h2
  cases Option.some.inj (hn9.symm.trans hn)
  obtain ⟨kY, hkY, -⟩ := className_of_methodNamed hn
  have hinitY : kY.init = .initialized := Cond.initialized_spec (findClass_of_methodNamed hn) hkY h3
  have h : At U g.method c below := by rw [hg]; exact X.here
  have hlocals9 : W9 + (maxL + 11) + (headSpec ws rm).room.locals ≤ R.locals := hlocals
  have happ : (headSpec ws rm).appliesLoose y e.platform (U.calling g mk a) = true :=
    Spec.appliesLoose_calling (g := g) h hdg hn hkY hinitY
      (X.room_calling (g := g) (R' := (headSpec ws rm).room) hsize hmY hcY hframes (by rw [hlY]; omega) h4 h5) h1
  obtain ⟨mid, hmid⟩ := h.above
  have hfr : (U.setTop g).frames = (.java g :: mid) ++ below := by rw [State.frames_setTop' g h.top, hmid]; rfl
  obtain ⟨o, s₂, hsteps, -, hend, hq⟩ := Steps.callFree hM p X.admits X.cas X.clock (acts := []) hfr happ hPc trivial
  have hq' : vx_Q Qc XC mc ms free a (U.calling g mk a) o s₂ := hq
  rw [State.frames_setTop' g h.top] at hend
  obtain ⟨g₀, hg0⟩ := Option.isSome_iff_exists.mp h.top
  obtain ⟨r, hr⟩ := State.topJava?_eq_some.mp hg0
  have hr' : (({ U with heap := s₂.heap, slotsUsed := s₂.slotsUsed } : State).setVm s₂.vm).frames = .java g₀ :: r := hr
  rcases hq' with ⟨hqc, L, hfe, hL⟩ | ⟨q, rfl, E, ce, L, hx, hce, hcv, hcl, hW₂, hsm, hL⟩
  · obtain ⟨⟨v, rfl⟩, hW₂, e2, q2, q3, q4, q5, q6⟩ := id hfe
    have e3 : s₂ = ({ (U.calling g mk a).setFrames s₂.frames with heap := s₂.heap, slotsUsed := s₂.slotsUsed } : State).setVm s₂.vm := by
      have : s₂ = ({ s₂ with vm := (U.calling g mk a).vm } : State).setVm s₂.vm := rfl
      rw [e2] at this
      exact this
    obtain ⟨c₂, i₂, len₂, hc₂, hd₂, hf₂⟩ := hend
    have hW' : U.WarmedH s₂.vm := hW₂
    have hcc : c₂ = c := by
      have h1 : s₂.code? g.method = U.code? g.method := by
        rw [State.code?_eq, State.code?_eq, hW'.alike.method?]
      exact Option.some.inj (hc₂.symm.trans (h1.trans h.code))
    subst hcc
    have hlen : len₂ = len := by rw [hdg] at hd₂; cases hd₂; rfl
    subst hlen
    have hs₂ : s₂ = (({ U with heap := s₂.heap, slotsUsed := s₂.slotsUsed } : State).setVm s₂.vm).setTop { g with pc := g.pc + len₂, stack := v.toList ++ g.stack } := by
      refine e3.trans ?_
      rw [hf₂, State.calling_eq h.top, State.setFrames_setFrames, State.setTop_of_frames _ hr', hr]
      rfl
    have hsame : U.sameButNew ({ U with heap := s₂.heap, slotsUsed := s₂.slotsUsed } : State) L mc ms := by
      refine ⟨?_, q2, q3, q4, q5, q6⟩
      obtain ⟨t, ht, -⟩ := State.frames_cons hr
      show ({ U with heap := s₂.heap, slotsUsed := s₂.slotsUsed } : State) = { U.setFrames U.frames with heap := s₂.heap, slotsUsed := s₂.slotsUsed }
      rw [State.setFrames_self ht]
    subst hg
    refine Or.inl ⟨v, ⟨(({ U with heap := s₂.heap, slotsUsed := s₂.slotsUsed } : State).setVm s₂.vm), Ls ++ L, c0 + mc, s0 + ms⟩,
      ⟨X.admits, X.cas, X.clock, X.frames, X.room, X.hears, X.method, X.code, (X.here.setHeapUsed s₂.heap s₂.slotsUsed).setVm hW'.alike, X.tail, State.WarmedH.trans X.warmed hW', X.limits, X.bytes, X.same.trans (hsame.setVm s.vm)⟩,
      ⟨g, mk, s₂, L, rfl, rfl, hqc, rfl, hL, rfl, rfl⟩, ?_⟩
    show Steps p.tables e below _ ((({ U with heap := s₂.heap, slotsUsed := s₂.slotsUsed } : State).setVm s₂.vm).setTop { g with pc := g.pc + len₂, stack := v.toList ++ g.stack })
    rw [← hs₂]
    exact hsteps
  · obtain ⟨e2, q2, q3, q4, q5, q6⟩ := id hsm
    have e3 : s₂ = ({ (U.calling g mk a).setFrames s₂.frames with heap := s₂.heap, slotsUsed := s₂.slotsUsed } : State).setVm s₂.vm := by
      have : s₂ = ({ s₂ with vm := (U.calling g mk a).vm } : State).setVm s₂.vm := rfl
      rw [e2] at this
      exact this
    have hf₂ : s₂.frames = .throwing q :: .java g :: U.frames.tail := hend
    have hW' : U.WarmedH s₂.vm := hW₂
    have hs₂ : s₂ = ((({ U with heap := s₂.heap, slotsUsed := s₂.slotsUsed } : State).setVm s₂.vm).setTop g).pushFrame (.throwing q) := by
      refine e3.trans ?_
      rw [hf₂, State.calling_eq h.top, State.setFrames_setFrames, State.pushFrame, State.frames_setTop _ hr', State.setTop_of_frames _ hr', State.setFrames_setFrames, hr]
      rfl
    have hsame : U.sameButNew ({ U with heap := s₂.heap, slotsUsed := s₂.slotsUsed } : State) L mc ms := by
      refine ⟨?_, q2, q3, q4, q5, q6⟩
      obtain ⟨t, ht, -⟩ := State.frames_cons hr
      show ({ U with heap := s₂.heap, slotsUsed := s₂.slotsUsed } : State) = { U.setFrames U.frames with heap := s₂.heap, slotsUsed := s₂.slotsUsed }
      rw [State.setFrames_self ht]
    subst hg
    refine Or.inr ⟨q, ⟨(({ U with heap := s₂.heap, slotsUsed := s₂.slotsUsed } : State).setVm s₂.vm), Ls ++ L, c0 + mc, s0 + ms⟩,
      ⟨X.admits, X.cas, X.clock, X.frames, X.room, X.hears, X.method, X.code, (X.here.setHeapUsed s₂.heap s₂.slotsUsed).setVm hW'.alike, X.tail, State.WarmedH.trans X.warmed hW', X.limits, X.bytes, X.same.trans (hsame.setVm s.vm)⟩,
      ⟨g, mk, s₂, L, E, ce, rfl, rfl, hx, hce, hcv, hcl, rfl, hL, rfl, rfl⟩, ?_⟩
    show Steps p.tables e below _ (((({ U with heap := s₂.heap, slotsUsed := s₂.slotsUsed } : State).setVm s₂.vm).setTop g).pushFrame (.throwing q))
    rw [← hs₂]
    exact hsteps
end
variable {p : Program} {l : Launch} {e : Env} {R : Room} {s : State} {m : MethodId} {args : Array Value} {below : List Frame} {meth : Method} {c : Code} {T : State} {H : Heap} {locs : List Loc} {cells slots : Nat}
theorem vx_callVX (X : Stand p l e R s m args below meth c T locs cells slots) (hexec : p.tables.exec = Jvm.exec) {own C : String} {index : Nat} {y : MethodName} {bytes : ByteArray} {maxL : Nat} {ret : Option FieldType} {hh : List (Nat × Nat × Nat × Nat)}
    (hown : s.vm.findClass own = some m.cls) (hlink : (Cond.methodLink own index y).before args s = true) (hinst : (Cond.instanceMethod y).before args s = true) (hsel : (Cond.selects C y y).before args s = true)
    (hcode : (Cond.codeWith y bytes maxL ret hh).before args s = true) (hy : y.cls ≠ "java/lang/invoke/MethodHandle" ∧ y.cls ≠ "java/lang/invoke/VarHandle")
    {W9 : Nat} {Pre : Pt → Array Value → Prop} {Post : Pt → Array Value → Option Value → Pt → Prop} {PostX : Pt → Array Value → Addr → Pt → Prop} (hK : vx_Back l R p e below s args y 3 W9 Pre Post PostX)
    {b : Addr} {cellB : Cell} (hcell : T.heap[b]? = some cellB) (hobj : cellB.vm.isStatics = false) (hcls : s.vm.findClass C = some cellB.cls)
    {g : JFrame} (hg : g.method = m) (hsize : g.locals.size = c.maxLocals) {argsL rest : List Value} (hlen : ∀ sig, parseMethodDescriptor y.desc = some sig → argsL.length = sig.parameters.length)
    (hstack : g.stack = argsL.reverse ++ .ref b :: rest) (hW : 2 * g.monitorRoom + (rest.map fun v => v.category).sum ≤ W9) (hdg : decode c.code g.pc = .ok (.invokevirtual index, 3))
    (hpre : ∀ vm₁, s.WarmedH vm₁ → Pre ⟨T.setVm vm₁, locs, cells, slots⟩ (Value.ref b :: argsL).toArray) :
    (∃ (v : Option Value) (vm₁ : Vm) (B : Pt), s.WarmedH vm₁ ∧ Stand p l e R s m args below meth c B.U B.locs B.cells B.slots ∧ Post ⟨T.setVm vm₁, locs, cells, slots⟩ (Value.ref b :: argsL).toArray v B ∧
      ∀ target, Steps p.tables e below (B.U.setTop { g with pc := g.pc + 3, stack := v.toList ++ rest }) target → Steps p.tables e below (T.setTop g) target) ∨
    (∃ (q : Addr) (vm₁ : Vm) (B : Pt), s.WarmedH vm₁ ∧ Stand p l e R s m args below meth c B.U B.locs B.cells B.slots ∧ PostX ⟨T.setVm vm₁, locs, cells, slots⟩ (Value.ref b :: argsL).toArray q B ∧
      Steps p.tables e below (T.setTop g) ((B.U.setTop { g with stack := rest }).pushFrame (.throwing q))) := by
  obtain ⟨mk, methM, hnamed, hmethM, hstM, habM⟩ := Cond.instanceMethod_spec hinst
  obtain ⟨m8, methM', cM, hn8, hmethM', -, -, -, -, -, -, hsigM⟩ := Cond.codeWith_spec hcode
  cases Option.some.inj (hn8.symm.trans hnamed)
  cases hmethM.symm.trans hmethM'
  obtain ⟨c2, r2, m2, q1, q2, q3, q4, kP, hkP, hkPi⟩ := Cond.selects_spec hsel
  cases hcls.symm.trans q1
  cases (State.methodFound?_of_named hnamed hy).symm.trans q2
  cases hnamed.symm.trans q3
  have hselP : selectMethod e.platform s.vm cellB.cls mk = .method mk := by rw [Launch.admits_selectMethod X.admits]; exact q4
  obtain ⟨vm₁, X₁, hstep₁⟩ := X.invokevirtual hexec hown hlink hnamed hmethM hstM hkP hkPi hy (a := b) (cell := cellB) hcell
    (fun z h => by rw [h] at hobj; cases hobj) hselP hmethM habM hkP hkPi (g := g) hg (argsL := argsL) (rest := rest) (hlen _ hsigM) hstack hdg
  rcases hK m meth c ⟨T.setVm vm₁, locs, cells, slots⟩ { g with stack := rest } (.invokevirtual index) mk (Value.ref b :: argsL).toArray X₁ hg hsize hdg hW (X₁.named hnamed) (hpre vm₁ X₁.warmed) with ⟨v, B, X', hpost, hsteps⟩ | ⟨q, B, X', hpost, hsteps⟩
  · exact Or.inl ⟨v, vm₁, B, X₁.warmed, X', hpost, fun target h => hstep₁ _ fun acts => by rw [doInvoke_state]; exact hsteps.trans h⟩
  · exact Or.inr ⟨q, vm₁, B, X₁.warmed, X', hpost, hstep₁ _ fun acts => by rw [doInvoke_state]; exact hsteps⟩
theorem vx_callSX (X : Stand p l e R s m args below meth c T locs cells slots) (hexec : p.tables.exec = Jvm.exec) {own : String} {index : Nat} {y : MethodName} {bytes : ByteArray} {maxL : Nat} {ret : Option FieldType} {hh : List (Nat × Nat × Nat × Nat)}
    (hown : s.vm.findClass own = some m.cls) (hlink : (Cond.methodLink own index y).before args s = true) (hstat : (Cond.static y).before args s = true) (hinit : (Cond.initialized y.cls).before args s = true)
    (hcode : (Cond.codeWith y bytes maxL ret hh).before args s = true) (hy : y.cls ≠ "java/lang/invoke/MethodHandle" ∧ y.cls ≠ "java/lang/invoke/VarHandle")
    {W9 : Nat} {Pre : Pt → Array Value → Prop} {Post : Pt → Array Value → Option Value → Pt → Prop} {PostX : Pt → Array Value → Addr → Pt → Prop} (hK : vx_Back l R p e below s args y 3 W9 Pre Post PostX)
    {g : JFrame} (hg : g.method = m) (hsize : g.locals.size = c.maxLocals) {argsL rest : List Value} (hlen : ∀ sig, parseMethodDescriptor y.desc = some sig → argsL.length = sig.parameters.length)
    (hstack : g.stack = argsL.reverse ++ rest) (hW : 2 * g.monitorRoom + (rest.map fun v => v.category).sum ≤ W9) (hdg : decode c.code g.pc = .ok (.invokestatic index, 3))
    (hpre : ∀ vm₁, s.WarmedH vm₁ → Pre ⟨T.setVm vm₁, locs, cells, slots⟩ argsL.toArray) :
    (∃ (v : Option Value) (vm₁ : Vm) (B : Pt), s.WarmedH vm₁ ∧ Stand p l e R s m args below meth c B.U B.locs B.cells B.slots ∧ Post ⟨T.setVm vm₁, locs, cells, slots⟩ argsL.toArray v B ∧
      ∀ target, Steps p.tables e below (B.U.setTop { g with pc := g.pc + 3, stack := v.toList ++ rest }) target → Steps p.tables e below (T.setTop g) target) ∨
    (∃ (q : Addr) (vm₁ : Vm) (B : Pt), s.WarmedH vm₁ ∧ Stand p l e R s m args below meth c B.U B.locs B.cells B.slots ∧ PostX ⟨T.setVm vm₁, locs, cells, slots⟩ argsL.toArray q B ∧
      Steps p.tables e below (T.setTop g) ((B.U.setTop { g with stack := rest }).pushFrame (.throwing q))) := by
  obtain ⟨mk, methM, cM, hnamed, hmethM, -, -, -, -, -, -, hsigM⟩ := Cond.codeWith_spec hcode
  have hstatic : methM.isStatic = true := Cond.static_spec hnamed hmethM hstat
  obtain ⟨kP, hkP, -⟩ := className_of_methodNamed hnamed
  have hinitP : kP.init = .initialized := Cond.initialized_spec (findClass_of_methodNamed hnamed) hkP hinit
  obtain ⟨vm₁, X₁, hstep₁⟩ := X.invokestatic hexec hown hlink hnamed hmethM hstatic hkP hinitP hy (g := g) hg (argsL := argsL) (rest := rest) (hlen _ hsigM) hstack hdg
  rcases hK m meth c ⟨T.setVm vm₁, locs, cells, slots⟩ { g with stack := rest } (.invokestatic index) mk argsL.toArray X₁ hg hsize hdg hW (X₁.named hnamed) (hpre vm₁ X₁.warmed) with ⟨v, B, X', hpost, hsteps⟩ | ⟨q, B, X', hpost, hsteps⟩
  · exact Or.inl ⟨v, vm₁, B, X₁.warmed, X', hpost, fun target h => hstep₁ _ fun acts => by rw [doInvoke_state]; exact hsteps.trans h⟩
  · exact Or.inr ⟨q, vm₁, B, X₁.warmed, X', hpost, hstep₁ _ fun acts => by rw [doInvoke_state]; exact hsteps⟩
theorem vx_callVW (X : Stand p l e R s m args below meth c T locs cells slots) (hexec : p.tables.exec = Jvm.exec) {own C : String} {index : Nat} {y : MethodName} {bytes : ByteArray} {maxL : Nat} {ret : Option FieldType} {hh : List (Nat × Nat × Nat × Nat)}
    (hown : s.vm.findClass own = some m.cls) (hlink : (Cond.methodLink own index y).before args s = true) (hinst : (Cond.instanceMethod y).before args s = true) (hsel : (Cond.selects C y y).before args s = true)
    (hcode : (Cond.codeWith y bytes maxL ret hh).before args s = true) (hy : y.cls ≠ "java/lang/invoke/MethodHandle" ∧ y.cls ≠ "java/lang/invoke/VarHandle")
    {W9 : Nat} {Pre : Pt → Array Value → Prop} {Post : Pt → Array Value → Option Value → Pt → Prop} (hK : Back l R p e below s args y 3 W9 Pre Post)
    {b : Addr} {cellB : Cell} (hcell : T.heap[b]? = some cellB) (hobj : cellB.vm.isStatics = false) (hcls : s.vm.findClass C = some cellB.cls)
    {g : JFrame} (hg : g.method = m) (hsize : g.locals.size = c.maxLocals) {argsL rest : List Value} (hlen : ∀ sig, parseMethodDescriptor y.desc = some sig → argsL.length = sig.parameters.length)
    (hstack : g.stack = argsL.reverse ++ .ref b :: rest) (hW : 2 * g.monitorRoom + (rest.map fun v => v.category).sum ≤ W9) (hdg : decode c.code g.pc = .ok (.invokevirtual index, 3))
    (hpre : ∀ vm₁, s.WarmedH vm₁ → Pre ⟨T.setVm vm₁, locs, cells, slots⟩ (Value.ref b :: argsL).toArray) :
    ∃ (v : Option Value) (vm₁ : Vm) (B : Pt), s.WarmedH vm₁ ∧ Stand p l e R s m args below meth c B.U B.locs B.cells B.slots ∧ Post ⟨T.setVm vm₁, locs, cells, slots⟩ (Value.ref b :: argsL).toArray v B ∧
      ∀ target, Steps p.tables e below (B.U.setTop { g with pc := g.pc + 3, stack := v.toList ++ rest }) target → Steps p.tables e below (T.setTop g) target := by
  obtain ⟨mk, methM, hnamed, hmethM, hstM, habM⟩ := Cond.instanceMethod_spec hinst
  obtain ⟨m8, methM', cM, hn8, hmethM', -, -, -, -, -, -, hsigM⟩ := Cond.codeWith_spec hcode
  cases Option.some.inj (hn8.symm.trans hnamed)
  cases hmethM.symm.trans hmethM'
  obtain ⟨c2, r2, m2, q1, q2, q3, q4, kP, hkP, hkPi⟩ := Cond.selects_spec hsel
  cases hcls.symm.trans q1
  cases (State.methodFound?_of_named hnamed hy).symm.trans q2
  cases hnamed.symm.trans q3
  have hselP : selectMethod e.platform s.vm cellB.cls mk = .method mk := by rw [Launch.admits_selectMethod X.admits]; exact q4
  obtain ⟨vm₁, X₁, hstep₁⟩ := X.invokevirtual hexec hown hlink hnamed hmethM hstM hkP hkPi hy (a := b) (cell := cellB) hcell
    (fun z h => by rw [h] at hobj; cases hobj) hselP hmethM habM hkP hkPi (g := g) hg (argsL := argsL) (rest := rest) (hlen _ hsigM) hstack hdg
  obtain ⟨v, B, X', hpost, hsteps⟩ := hK m meth c ⟨T.setVm vm₁, locs, cells, slots⟩ { g with stack := rest } (.invokevirtual index) mk (Value.ref b :: argsL).toArray X₁ hg hsize hdg hW (X₁.named hnamed) (hpre vm₁ X₁.warmed)
  exact ⟨v, vm₁, B, X₁.warmed, X', hpost, fun target h => hstep₁ _ fun acts => by rw [doInvoke_state]; exact hsteps.trans h⟩
abbrev vx_CVW (R : Room) (s : State) (args : Array Value) (own C : String) (index : Nat) (y : MethodName) (bytes : ByteArray) (maxL : Nat) (ret : Option FieldType) (hh : List (Nat × Nat × Nat × Nat)) (ws : List Cond) (rm : Room) (mc ms n : Nat) : Prop :=
  (rm.cells = mc ∧ rm.slots = ms ∧ rm.frames + 1 ≤ R.frames ∧ 8 + (maxL + 11) + rm.locals ≤ R.locals ∧ (∀ w ∈ ws, ∀ (a' : Array Value) (U : State), s.WarmedH U.vm → w.before a' U = true) ∧ Cond.codeWith y bytes maxL ret hh ∈ ws) ∧
  (Cond.codeWith y bytes maxL ret hh).before args s = true ∧ (Cond.initialized y.cls).before args s = true ∧ (y.cls ≠ "java/lang/invoke/MethodHandle" ∧ y.cls ≠ "java/lang/invoke/VarHandle") ∧
  (∀ sig, parseMethodDescriptor y.desc = some sig → n = sig.parameters.length) ∧ (Cond.methodLink own index y).before args s = true ∧ (Cond.instanceMethod y).before args s = true ∧ (Cond.selects C y y).before args s = true
theorem vx_cwVW {own C : String} {index maxL mc ms : Nat} {y : MethodName} {bytes : ByteArray} {ret : Option FieldType} {hh : List (Nat × Nat × Nat × Nat)} {Ts ws ws' : List Cond} {rm : Room} (n : Nat) (ht : ∀ w ∈ Ts, w.before args s = true) (hT : GoodIn Ts (wsV own index C y ws)) (hw : ws = Cond.codeWith y bytes maxL ret hh :: ws') (hrc : rm.cells = mc) (hrs : rm.slots = ms)
    (hd : y.cls = C ∧ y.cls ≠ "java/lang/invoke/MethodHandle" ∧ y.cls ≠ "java/lang/invoke/VarHandle" ∧ (parseMethodDescriptor y.desc).map (fun d => d.parameters.length) = some n) (hR : rm.frames + 1 ≤ R.frames ∧ 8 + (maxL + 11) + rm.locals ≤ R.locals) :
    vx_CVW R s args own C index y bytes maxL ret hh ws rm mc ms n := by
  obtain ⟨hC, hd⟩ := hd
  subst hC
  have ok : ∀ w ∈ wsV own index y.cls y ws, w.before args s = true := fun w h => ht w (hT w h).1
  have hG : GoodIn Ts ws := fun w h => hT w (by unfold wsV; exact List.mem_append_right _ h)
  have hc : Cond.codeWith y bytes maxL ret hh ∈ ws := by rw [hw]; exact List.mem_cons_self
  refine ⟨⟨hrc, hrs, hR.1, hR.2, pay_in ht hG, hc⟩, ht _ (hG _ hc).1, ok _ (by simp [wsV]), ⟨hd.1, hd.2.1⟩, fun sig h => ?_, ok _ (by simp [wsV]), ok _ (by simp [wsV]), ok _ (by simp [wsV])⟩
  have h2 := hd.2.2
  rw [h] at h2
  exact (Option.some.inj h2).symm
theorem vx_runVW {y : MethodName} {bytes cc : ByteArray} {maxL nL mc ms n index : Nat} {ret : Option FieldType} {hh : List (Nat × Nat × Nat × Nat)} {ws : List Cond} {rm : Room} {Pc : Array Value → State → Prop} {Qc : Array Value → State → Outcome → State → Prop} {free : Addr → Prop} {Ts : List Cond} {own C : String} {b : Addr} {As rest : List Value} {g : JFrame}
    (S : CallFix p m c cc nL s args Ts own) (hM : Met l y ws rm Pc Qc mc ms free) (cw : vx_CVW R s args own C index y bytes maxL ret hh ws rm mc ms n) (hp : PreV s H C b Pc As)
    (hg : g.method = m) (hn : As.length = n) (hsize : g.locals.size = nL) (hstack : g.stack = As.reverse ++ .ref b :: rest) (hW : 2 * g.monitorRoom + (rest.map fun v => v.category).sum ≤ 8) (hdg : decode cc g.pc = .ok (.invokevirtual index, 3)) (hf : cells + mc ≤ R.cells ∧ slots + ms ≤ R.slots) :
    va_Run p l e R s m args below meth c H locs cells slots mc ms g rest (Qc (Value.ref b :: As).toArray) free := by
  obtain ⟨⟨hrc, hrs, hfr, hlo, hws, hcw⟩, hcode, hini, hy, hlen, hl, hin, hse⟩ := cw
  have hK : Back l R p e below s args y 3 8 (PreOf R mc ms Pc) (PostOf Qc mc ms free) := va_backW (hh := hh) (bytes := bytes) (maxL := maxL) (ret := ret) hM hp.1 hrc hrs hfr hlo hws hcw (fun a' U hW => word_at hW (Or.inl (by first | rfl | simp [Cond.onTables, Cond.keeps, Cond.steady])) hini)
  obtain ⟨hx, hb, hml, ho, -⟩ := S
  obtain ⟨-, ⟨cellB, hcB, hoB, hclB⟩, hPc⟩ := hp
  intro T hT X
  obtain ⟨v, vm₁, ⟨U', l2, c2, s2⟩, hW₁, X', ⟨g', mk, t, L, e1, e2, hq, h1, hL, h2, h3⟩, st⟩ := vx_callVW X hx (C := C) (hh := hh) (bytes := bytes) (maxL := maxL) (ret := ret) ho hl hin hse hcode hy hK (by rw [hT]; exact hcB) hoB hclB hg (hsize.trans hml.symm) (argsL := As) (rest := rest) (fun sig h => hn.trans (hlen sig h)) hstack hW (by rw [hb]; exact hdg)
    (fun vm₁ hW₁ => ⟨hf.1, hf.2, hPc (T.setVm vm₁) hT hW₁⟩)
  dsimp only [Pt.U, Pt.locs, Pt.cells, Pt.slots] at X' e1 e2 h1 h2 h3 st
  subst h1; subst h2; subst h3
  exact ⟨v, (T.setVm vm₁).calling g' mk (Value.ref b :: As).toArray, t, U', L, hT, X', hL, e1, e2, hq, st⟩
section
variable {y : MethodName} {bytes cc : ByteArray} {maxL nL mc ms n index : Nat} {ret : Option FieldType} {ws : List Cond} {rm : Room} {Pc : Array Value → State → Prop} {Qc : Array Value → State → Outcome → State → Prop} {XC : String → State → State → Prop} {free : Addr → Prop} {Ts : List Cond} {own C : String} {b : Addr} {As rest : List Value} {g : JFrame}
theorem vx_runVX {hh : List (Nat × Nat × Nat × Nat)} (S : CallFix p m c cc nL s args Ts own) (hM : vx_Met l y ws rm Pc Qc XC mc ms free) (cw : vx_CVW R s args own C index y bytes maxL ret hh ws rm mc ms n) (hp : PreV s H C b Pc As)
    (hg : g.method = m) (hn : As.length = n) (hsize : g.locals.size = nL) (hstack : g.stack = As.reverse ++ .ref b :: rest) (hW : 2 * g.monitorRoom + (rest.map fun v => v.category).sum ≤ 8) (hdg : decode cc g.pc = .ok (.invokevirtual index, 3)) (hf : cells + mc ≤ R.cells ∧ slots + ms ≤ R.slots) :
    vx_Run p l e R s m args below meth c H locs cells slots mc ms g rest (Qc (Value.ref b :: As).toArray) XC free := by
  obtain ⟨⟨hrc, hrs, hfr, hlo, hws, hcw⟩, hcode, hini, hy, hlen, hl, hin, hse⟩ := cw
  have hK : vx_Back l R p e below s args y 3 8 (PreOf R mc ms Pc) (PostOf Qc mc ms free) (vx_Post XC mc ms free) := vx_backW (hh := hh) (bytes := bytes) (maxL := maxL) (ret := ret) hM hp.1 hrc hrs hfr hlo hws hcw (fun a' U hW => word_at hW (Or.inl (by first | rfl | simp [Cond.onTables, Cond.keeps, Cond.steady])) hini)
  obtain ⟨hx, hb, hml, ho, -⟩ := S
  obtain ⟨-, ⟨cellB, hcB, hoB, hclB⟩, hPc⟩ := hp
  intro T hT X
  rcases vx_callVX X hx (C := C) (hh := hh) (bytes := bytes) (maxL := maxL) (ret := ret) ho hl hin hse hcode hy hK (by rw [hT]; exact hcB) hoB hclB hg (hsize.trans hml.symm) (argsL := As) (rest := rest) (fun sig h => hn.trans (hlen sig h)) hstack hW (by rw [hb]; exact hdg)
    (fun vm₁ hW₁ => ⟨hf.1, hf.2, hPc (T.setVm vm₁) hT hW₁⟩) with ⟨v, vm₁, ⟨U', l2, c2, s2⟩, hW₁, X', ⟨g', mk, t, L, e1, e2, hq, h1, hL, h2, h3⟩, st⟩ | ⟨q, vm₁, ⟨U', l2, c2, s2⟩, hW₁, X', ⟨g', mk, t, L, E, ce, e1, e2, hq, hce, hcv, hcl, h1, hL, h2, h3⟩, st⟩
  · dsimp only [Pt.U, Pt.locs, Pt.cells, Pt.slots] at X' e1 e2 h1 h2 h3 st
    subst h1; subst h2; subst h3
    exact Or.inl ⟨v, (T.setVm vm₁).calling g' mk (Value.ref b :: As).toArray, t, U', L, hT, X', hL, e1, e2, hq, st⟩
  · dsimp only [Pt.U, Pt.locs, Pt.cells, Pt.slots] at X' e1 e2 h1 h2 h3 st hcl
    subst h1; subst h2; subst h3
    exact Or.inr ⟨q, (T.setVm vm₁).calling g' mk (Value.ref b :: As).toArray, t, U', L, E, ce, hT, X', hL, e1, e2, hq, hce, hcv, vx_cls hW₁ hcl, st⟩
theorem vx_runSX {hh : List (Nat × Nat × Nat × Nat)} (S : CallFix p m c cc nL s args Ts own) (hM : vx_Met l y ws rm Pc Qc XC mc ms free) (cw : vx_CSW R s args own index y bytes maxL ret hh ws rm mc ms n) (hp : PreS s H Pc As)
    (hg : g.method = m) (hn : As.length = n) (hsize : g.locals.size = nL) (hstack : g.stack = As.reverse ++ rest) (hW : 2 * g.monitorRoom + (rest.map fun v => v.category).sum ≤ 8) (hdg : decode cc g.pc = .ok (.invokestatic index, 3)) (hf : cells + mc ≤ R.cells ∧ slots + ms ≤ R.slots) :
    vx_Run p l e R s m args below meth c H locs cells slots mc ms g rest (Qc As.toArray) XC free := by
  obtain ⟨⟨hrc, hrs, hfr, hlo, hws, hcw⟩, hcode, hini, hy, hlen, hl, hstt⟩ := cw
  have hK : vx_Back l R p e below s args y 3 8 (PreOf R mc ms Pc) (PostOf Qc mc ms free) (vx_Post XC mc ms free) := vx_backW (hh := hh) (bytes := bytes) (maxL := maxL) (ret := ret) hM hp.1 hrc hrs hfr hlo hws hcw (fun a' U hW => word_at hW (Or.inl (by first | rfl | simp [Cond.onTables, Cond.keeps, Cond.steady])) hini)
  obtain ⟨hx, hb, hml, ho, -⟩ := S
  intro T hT X
  rcases vx_callSX X hx (hh := hh) (bytes := bytes) (maxL := maxL) (ret := ret) ho hl hstt hini hcode hy hK hg (hsize.trans hml.symm) (argsL := As) (rest := rest) (fun sig h => hn.trans (hlen sig h)) hstack hW (by rw [hb]; exact hdg)
    (fun vm₁ hW₁ => ⟨hf.1, hf.2, hp.2 (T.setVm vm₁) hT hW₁⟩) with ⟨v, vm₁, ⟨U', l2, c2, s2⟩, hW₁, X', ⟨g', mk, t, L, e1, e2, hq, h1, hL, h2, h3⟩, st⟩ | ⟨q, vm₁, ⟨U', l2, c2, s2⟩, hW₁, X', ⟨g', mk, t, L, E, ce, e1, e2, hq, hce, hcv, hcl, h1, hL, h2, h3⟩, st⟩
  · dsimp only [Pt.U, Pt.locs, Pt.cells, Pt.slots] at X' e1 e2 h1 h2 h3 st
    subst h1; subst h2; subst h3
    exact Or.inl ⟨v, (T.setVm vm₁).calling g' mk As.toArray, t, U', L, hT, X', hL, e1, e2, hq, st⟩
  · dsimp only [Pt.U, Pt.locs, Pt.cells, Pt.slots] at X' e1 e2 h1 h2 h3 st hcl
    subst h1; subst h2; subst h3
    exact Or.inr ⟨q, (T.setVm vm₁).calling g' mk As.toArray, t, U', L, E, ce, hT, X', hL, e1, e2, hq, hce, hcv, vx_cls hW₁ hcl, st⟩
end
end VXH
theorem vx_ofWH {l : Launch} {y : MethodName} {ws ws' : List Cond} {rm : Room} {Pc : Array Value → State → Prop} {Qc : Array Value → State → Outcome → State → Prop} {XC : String → State → State → Prop} {mc ms : Nat} {free : Addr → Prop} {cc : ByteArray} {maxL : Nat} {ret : Option FieldType} {hh : List (Nat × Nat × Nat × Nat)}
    (hy : plainName y.cls = true) (hw : ws = Cond.codeWith y cc maxL ret hh :: ws')
    (body : ∀ p e s m args below meth c s₁, BodyLoose p l y (headSpec ws rm) cc maxL ret e s m args below meth c s₁ → c.maxLocals = maxL → Pc args s →
      W p l e (headSpec ws rm).room s m args below meth c s.heap [] 0 0 (vx_MQ below Qc XC args s mc ms free) (entryFrame m args maxL)) : vx_Met l y ws rm Pc Qc XC mc ms free := by
  refine MetFree.of_bodyS (code := cc) (maxLocals := maxL) (ret := ret) hy ?_ ?_
  · intro args s m h hn
    obtain ⟨m9, meth, c, hn9, h1, h2, h3, h4, -, h5, h6, -⟩ := Cond.codeWith_spec (atoms_spec (ws := ws) h _ (by rw [hw]; exact List.mem_cons_self))
    cases hn.symm.trans hn9
    exact ⟨meth, c, h1, h2, h3, h4, h5, h6⟩
  · intro p e s m args below meth c s₁ B hml hP _
    have hh0 : s₁.heap = s.heap := by rw [B.state]; rfl
    obtain ⟨t, a1, o, b1, b2, b3⟩ := body p e s m args below meth c s₁ B hml hP s₁ hh0 (Stand.of_body B)
    exact ⟨t, o, a1, b1, b2, b3⟩
/-! ===== END ===== -/
end
section
-- numbers: a double that stands for n / 2^k exactly
def zq (k : Nat) (n : Int) : UInt64 := Jvm.FP.Core.of64 (Jvm.FP.Core.round Jvm.FP.Core.b64 (.fin (decide (n < 0)) n.natAbs (-(k : Int))))
theorem zq_signed (n : Int) : Jvm.FP.Core.signed (decide (n < 0)) n.natAbs = n := by
  unfold Jvm.FP.Core.signed
  by_cases h : n < 0
  · rw [if_pos (by simpa using h)]; omega
  · rw [if_neg (by simpa using h)]; omega
theorem zq_val {k : Nat} {n : Int} (hk : k ≤ 900) (hn : n.natAbs < 9007199254740992) : ∃ (c : Nat) (q : Int), Jvm.FP.Core.val64 (zq k n) = .fin (decide (n < 0)) c q ∧ n.natAbs * 2 ^ (-(k : Int) - q).toNat = c * 2 ^ (q - -(k : Int)).toNat := by
  have hv : Jvm.FP.Core.val64 (zq k n) = Jvm.FP.Core.round Jvm.FP.Core.b64 (.fin (decide (n < 0)) n.natAbs (-(k : Int))) := Jvm.FP.Core.val64_of64 (Jvm.FP.Core.round_fits Jvm.FP.Core.good_b64 _)
  have hp : Jvm.FP.Core.b64.p = 53 := rfl
  have hqm : Jvm.FP.Core.b64.qmin = -1074 := by decide
  have hqM : Jvm.FP.Core.b64.qmax = 971 := by decide
  have htl : Jvm.FP.Core.b64.tails = 2 ^ 52 := rfl
  by_cases h0 : n.natAbs = 0
  · refine ⟨0, Jvm.FP.Core.b64.qmin, ?_, by rw [h0]; simp⟩
    rw [hv]
    show Jvm.FP.Core.roundRatio _ _ _ _ _ = _
    unfold Jvm.FP.Core.roundRatio
    rw [if_pos h0]
  · have hl1 : 2 ^ n.natAbs.log2 ≤ n.natAbs := Nat.log2_self_le h0
    have hl2 : n.natAbs < 2 ^ (n.natAbs.log2 + 1) := Nat.lt_log2_self
    have hL : n.natAbs.log2 ≤ 52 := by
      have := (Nat.log2_lt h0 (k := 53)).mpr (by simpa using hn)
      omega
    generalize n.natAbs.log2 = L at hl1 hl2 hL
    refine ⟨n.natAbs * 2 ^ (52 - L), -(k : Int) - (52 - L : Nat), ?_, ?_⟩
    · rw [hv]
      show Jvm.FP.Core.roundRatio _ _ _ _ _ = _
      refine Jvm.FP.Core.roundRatio_exact Jvm.FP.Core.good_b64 (by decide) ⟨?_, ?_, ?_, Or.inr ?_⟩ ?_
      · rw [hp]
        calc n.natAbs * 2 ^ (52 - L) < 2 ^ (L + 1) * 2 ^ (52 - L) := Nat.mul_lt_mul_of_pos_right hl2 (Nat.two_pow_pos _)
          _ = 2 ^ 53 := by rw [← Nat.pow_add]; congr 1; omega
      · rw [hqm]; omega
      · rw [hqM]; omega
      · rw [htl]
        calc 2 ^ 52 = 2 ^ L * 2 ^ (52 - L) := by rw [← Nat.pow_add]; congr 1; omega
          _ ≤ n.natAbs * 2 ^ (52 - L) := Nat.mul_le_mul_right _ hl1
      · rw [show (-(k : Int) - (-(k : Int) - (52 - L : Nat))).toNat = 52 - L by omega, show (-(k : Int) - (52 - L : Nat) - -(k : Int)).toNat = 0 by omega]
        simp
    · rw [show (-(k : Int) - (-(k : Int) - (52 - L : Nat))).toNat = 52 - L by omega, show (-(k : Int) - (52 - L : Nat) - -(k : Int)).toNat = 0 by omega]
      simp
theorem zq_units {k : Nat} {m c : Nat} {q E : Int} (h : m * 2 ^ (-(k : Int) - q).toNat = c * 2 ^ (q - -(k : Int)).toNat) (h1 : E ≤ q) (h2 : E ≤ -(k : Int)) : c * 2 ^ (q - E).toNat = m * 2 ^ (-(k : Int) - E).toNat := by
  by_cases hq : -(k : Int) ≤ q
  · rw [show (-(k : Int) - q).toNat = 0 by omega, Nat.pow_zero, Nat.mul_one] at h
    rw [h, Nat.mul_assoc, ← Nat.pow_add]
    congr 2; omega
  · rw [show (q - -(k : Int)).toNat = 0 by omega, Nat.pow_zero, Nat.mul_one] at h
    rw [← h, Nat.mul_assoc, ← Nat.pow_add]
    congr 2; omega
/-- what a number's bits are worth, in units of 2^E -/
theorem zq_sU {k : Nat} {n : Int} {c : Nat} {q E : Int} (h : n.natAbs * 2 ^ (-(k : Int) - q).toNat = c * 2 ^ (q - -(k : Int)).toNat) (h1 : E ≤ q) (h2 : E ≤ -(k : Int)) : Jvm.FP.Core.signed (decide (n < 0)) (Jvm.FP.Core.inUnits c q E) = n * ((2 ^ (-(k : Int) - E).toNat : Nat) : Int) := by
  unfold Jvm.FP.Core.inUnits
  rw [zq_units h h1 h2, Jvm.FP.Core.signed_mul, zq_signed]
/-- a datum of the value n / 2^k rounds to the number's own -/
theorem zq_round {k : Nat} {n v : Int} {e E : Int} {s : Bool} (hv : v * ((2 ^ (e - E).toNat : Nat) : Int) = n * ((2 ^ (-(k : Int) - E).toNat : Nat) : Int)) (hE : E = min e (-(k : Int))) (hs : s = decide (n < 0)) : Jvm.FP.Core.round Jvm.FP.Core.b64 (.fin s v.natAbs e) = Jvm.FP.Core.round Jvm.FP.Core.b64 (.fin (decide (n < 0)) n.natAbs (-(k : Int))) := by
  subst hs
  refine Jvm.FP.Core.roundRatio_congr (by decide) (by decide) ?_
  have h := congrArg Int.natAbs hv
  rw [Int.natAbs_mul, Int.natAbs_mul, Int.natAbs_natCast, Int.natAbs_natCast] at h
  rw [Nat.mul_one, Nat.mul_one, show (e - -(k : Int)).toNat = (e - E).toNat by omega, show (-(k : Int) - e).toNat = (-(k : Int) - E).toNat by omega]
  exact h
theorem zq_pos (x : Nat) : (0 : Int) < ((2 ^ x : Nat) : Int) := by exact_mod_cast Nat.two_pow_pos x
theorem zq_sign {v n : Int} {x y : Nat} (h : v * ((2 ^ x : Nat) : Int) = n * ((2 ^ y : Nat) : Int)) : (v = 0 ↔ n = 0) ∧ (v < 0 ↔ n < 0) := by
  have hx := zq_pos x
  have hy := zq_pos y
  generalize ((2 ^ x : Nat) : Int) = X at h hx
  generalize ((2 ^ y : Nat) : Int) = Y at h hy
  constructor
  · constructor
    · rintro rfl
      rw [Int.zero_mul] at h
      rcases Int.mul_eq_zero.mp h.symm with h | h
      · exact h
      · omega
    · rintro rfl
      rw [Int.zero_mul] at h
      rcases Int.mul_eq_zero.mp h with h | h
      · exact h
      · omega
  · constructor
    · intro hv
      have := Int.mul_neg_of_neg_of_pos hv hx
      rw [h] at this
      exact Int.lt_of_not_ge fun hn => absurd (Int.mul_nonneg hn (Int.le_of_lt hy)) (by omega)
    · intro hn
      have := Int.mul_neg_of_neg_of_pos hn hy
      rw [← h] at this
      exact Int.lt_of_not_ge fun hv => absurd (Int.mul_nonneg hv (Int.le_of_lt hx)) (by omega)
theorem zq_sum {k : Nat} {a b : Int} {s t : Bool} {c d : Nat} {q r : Int} (ha : ∀ E : Int, E ≤ q → E ≤ -(k : Int) → Jvm.FP.Core.signed s (Jvm.FP.Core.inUnits c q E) = a * ((2 ^ (-(k : Int) - E).toNat : Nat) : Int)) (hb : ∀ E : Int, E ≤ r → E ≤ -(k : Int) → Jvm.FP.Core.signed t (Jvm.FP.Core.inUnits d r E) = b * ((2 ^ (-(k : Int) - E).toNat : Nat) : Int)) (hz : a + b = 0 → (s && t) = false) :
    Jvm.FP.Core.round Jvm.FP.Core.b64 (Jvm.FP.Core.exactSum (.fin s c q) (.fin t d r)) = Jvm.FP.Core.round Jvm.FP.Core.b64 (.fin (decide (a + b < 0)) (a + b).natAbs (-(k : Int))) := by
  show Jvm.FP.Core.round Jvm.FP.Core.b64 (.fin (Jvm.FP.Core.sumSign s t (Jvm.FP.Core.sumUnits s c q t d r (min q r))) (Jvm.FP.Core.sumUnits s c q t d r (min q r)).natAbs (min q r)) = _
  have hv : Jvm.FP.Core.sumUnits s c q t d r (min q r) * ((2 ^ (min q r - min (min q r) (-(k : Int))).toNat : Nat) : Int) = (a + b) * ((2 ^ (-(k : Int) - min (min q r) (-(k : Int))).toNat : Nat) : Int) := by
    rw [Int.add_mul, ← ha _ (by omega) (by omega), ← hb _ (by omega) (by omega)]
    unfold Jvm.FP.Core.sumUnits
    rw [Int.add_mul, ← Jvm.FP.Core.signed_mul, ← Jvm.FP.Core.signed_mul, ← Jvm.FP.Core.inUnits_move c (by omega) (by omega), ← Jvm.FP.Core.inUnits_move d (by omega) (by omega)]
  refine zq_round hv rfl ?_
  have hsg := zq_sign hv
  unfold Jvm.FP.Core.sumSign
  by_cases h0 : a + b = 0
  · rw [if_pos (hsg.1.mpr h0), hz h0, h0]; rfl
  · rw [if_neg (fun h => h0 (hsg.1.mp h))]
    exact decide_eq_decide.mpr hsg.2
theorem zq_add {k : Nat} {a b : Int} (hk : k ≤ 900) (ha : a.natAbs < 9007199254740992) (hb : b.natAbs < 9007199254740992) : Jvm.FP.dadd (zq k a) (zq k b) = zq k (a + b) := by
  obtain ⟨c, q, ea, ua⟩ := zq_val hk ha
  obtain ⟨d, r, eb, ub⟩ := zq_val hk hb
  show Jvm.FP.Core.of64 (Jvm.FP.Core.round Jvm.FP.Core.b64 (Jvm.FP.Core.exactSum (Jvm.FP.Core.val64 (zq k a)) (Jvm.FP.Core.val64 (zq k b)))) = Jvm.FP.Core.of64 _
  rw [ea, eb, zq_sum (k := k) (a := a) (b := b) (fun E h1 h2 => zq_sU ua h1 h2) (fun E h1 h2 => zq_sU ub h1 h2)]
  intro h
  rw [Bool.and_eq_false_iff]; simp; omega
theorem zq_sub {k : Nat} {a b : Int} (hk : k ≤ 900) (ha : a.natAbs < 9007199254740992) (hb : b.natAbs < 9007199254740992) : Jvm.FP.dsub (zq k a) (zq k b) = zq k (a - b) := by
  obtain ⟨c, q, ea, ua⟩ := zq_val hk ha
  obtain ⟨d, r, eb, ub⟩ := zq_val hk hb
  show Jvm.FP.Core.of64 (Jvm.FP.Core.round Jvm.FP.Core.b64 (Jvm.FP.Core.exactSum (Jvm.FP.Core.val64 (zq k a)) (Jvm.FP.Core.negate (Jvm.FP.Core.val64 (zq k b))))) = Jvm.FP.Core.of64 _
  rw [ea, eb]
  show Jvm.FP.Core.of64 (Jvm.FP.Core.round Jvm.FP.Core.b64 (Jvm.FP.Core.exactSum (.fin _ _ _) (.fin (!(decide (b < 0))) d r))) = _
  rw [zq_sum (k := k) (a := a) (b := -b) (fun E h1 h2 => zq_sU ua h1 h2) (fun E h1 h2 => ?_)]
  · rfl
  · intro h
    rw [Bool.and_eq_false_iff]; simp; omega
  · have h := zq_sU ub h1 h2
    rw [Int.neg_mul, ← h]
    cases decide (b < 0) <;> simp [Jvm.FP.Core.signed]
/-- a product of two numbers, one of them above 0 or neither below -/
theorem zq_mul {k j : Nat} {a b : Int} (hk : k ≤ 900) (hj : j ≤ 900) (ha : a.natAbs < 9007199254740992) (hb : b.natAbs < 9007199254740992) (hp : 0 < a ∨ 0 < b ∨ (0 ≤ a ∧ 0 ≤ b)) : Jvm.FP.dmul (zq k a) (zq j b) = zq (k + j) (a * b) := by
  obtain ⟨c, q, ea, ua⟩ := zq_val hk ha
  obtain ⟨d, r, eb, ub⟩ := zq_val hj hb
  show Jvm.FP.Core.of64 (Jvm.FP.Core.round Jvm.FP.Core.b64 (Jvm.FP.Core.exactProduct (Jvm.FP.Core.val64 (zq k a)) (Jvm.FP.Core.val64 (zq j b)))) = Jvm.FP.Core.of64 _
  rw [ea, eb]
  show Jvm.FP.Core.of64 (Jvm.FP.Core.round Jvm.FP.Core.b64 (.fin (decide (a < 0) != decide (b < 0)) (c * d) (q + r))) = _
  congr 1
  have hsg : (decide (a < 0) != decide (b < 0)) = decide (a * b < 0) := by
    rcases Int.lt_trichotomy a 0 with h1 | h1 | h1 <;> rcases Int.lt_trichotomy b 0 with h2 | h2 | h2
    · omega
    · omega
    · have := Int.mul_neg_of_neg_of_pos h1 h2
      simp [h1, this]; omega
    · omega
    · subst h1; subst h2; simp
    · subst h1; simp; omega
    · have := Int.mul_neg_of_pos_of_neg h1 h2
      simp [h2, this]; omega
    · subst h2; simp; omega
    · have := Int.mul_pos h1 h2
      have e1 : ¬ a < 0 := by omega
      have e2 : ¬ b < 0 := by omega
      have e3 : ¬ a * b < 0 := by omega
      simp [e1, e2, e3]
  rw [hsg]
  refine Jvm.FP.Core.roundRatio_congr (by decide) (by decide) ?_
  rw [Nat.mul_one, Nat.mul_one, Int.natAbs_mul]
  have h1 := zq_units ua (E := min q (-(k : Int))) (by omega) (by omega)
  have h2 := zq_units ub (E := min r (-(j : Int))) (by omega) (by omega)
  have h3 : c * d * 2 ^ ((q - min q (-(k : Int))).toNat + (r - min r (-(j : Int))).toNat) = a.natAbs * b.natAbs * 2 ^ ((-(k : Int) - min q (-(k : Int))).toNat + (-(j : Int) - min r (-(j : Int))).toNat) := by
    rw [Nat.pow_add, Nat.pow_add]
    calc c * d * (2 ^ (q - min q (-(k : Int))).toNat * 2 ^ (r - min r (-(j : Int))).toNat) = (c * 2 ^ (q - min q (-(k : Int))).toNat) * (d * 2 ^ (r - min r (-(j : Int))).toNat) := by ac_rfl
      _ = _ := by rw [h1, h2]; ac_rfl
  have e1 : (q - min q (-(k : Int))).toNat + (r - min r (-(j : Int))).toNat + (-((k + j : Nat) : Int) - (q + r)).toNat = (-(k : Int) - min q (-(k : Int))).toNat + (-(j : Int) - min r (-(j : Int))).toNat + (q + r - -((k + j : Nat) : Int)).toNat := by omega
  refine Nat.eq_of_mul_eq_mul_right (Nat.two_pow_pos ((-(k : Int) - min q (-(k : Int))).toNat + (-(j : Int) - min r (-(j : Int))).toNat)) ?_
  calc c * d * 2 ^ (q + r - -((k + j : Nat) : Int)).toNat * 2 ^ ((-(k : Int) - min q (-(k : Int))).toNat + (-(j : Int) - min r (-(j : Int))).toNat)
      = c * d * 2 ^ ((-(k : Int) - min q (-(k : Int))).toNat + (-(j : Int) - min r (-(j : Int))).toNat + (q + r - -((k + j : Nat) : Int)).toNat) := by rw [Nat.mul_assoc, ← Nat.pow_add]; congr 2; omega
    _ = c * d * 2 ^ ((q - min q (-(k : Int))).toNat + (r - min r (-(j : Int))).toNat) * 2 ^ (-((k + j : Nat) : Int) - (q + r)).toNat := by rw [← e1, Nat.pow_add]; ac_rfl
    _ = _ := by rw [h3]; ac_rfl
theorem zq_up (k j : Nat) (n : Int) : zq k n = zq (k + j) (n * ((2 ^ j : Nat) : Int)) := by
  unfold zq
  congr 1
  have hp := zq_pos j
  have hs : decide (n * ((2 ^ j : Nat) : Int) < 0) = decide (n < 0) := by
    refine decide_eq_decide.mpr ⟨fun h => ?_, fun h => Int.mul_neg_of_neg_of_pos h hp⟩
    exact Int.lt_of_not_ge fun hn => absurd (Int.mul_nonneg hn (Int.le_of_lt hp)) (by omega)
  rw [hs]
  refine Jvm.FP.Core.roundRatio_congr (by decide) (by decide) ?_
  rw [Nat.mul_one, Nat.mul_one, Int.natAbs_mul, Int.natAbs_natCast, show (-(k : Int) - -((k + j : Nat) : Int)).toNat = j by omega, show (-((k + j : Nat) : Int) - -(k : Int)).toNat = 0 by omega]
  simp
theorem zq_cmp {k : Nat} {a b : Int} (hk : k ≤ 900) (ha : a.natAbs < 9007199254740992) (hb : b.natAbs < 9007199254740992) : Jvm.FP.dcmp (zq k a) (zq k b) = some (compare a b) := by
  obtain ⟨c, q, ea, ua⟩ := zq_val hk ha
  obtain ⟨d, r, eb, ub⟩ := zq_val hk hb
  show Jvm.FP.Core.order (Jvm.FP.Core.val64 (zq k a)) (Jvm.FP.Core.val64 (zq k b)) = _
  rw [ea, eb]
  show some (compare (Jvm.FP.Core.signed _ (Jvm.FP.Core.inUnits c q (min q r))) (Jvm.FP.Core.signed _ (Jvm.FP.Core.inUnits d r (min q r)))) = _
  congr 1
  have h1 := zq_sU ua (E := min (min q r) (-(k : Int))) (by omega) (by omega)
  have h2 := zq_sU ub (E := min (min q r) (-(k : Int))) (by omega) (by omega)
  rw [Jvm.FP.Core.inUnits_move c (r := min q r) (by omega) (by omega), Jvm.FP.Core.signed_mul] at h1
  rw [Jvm.FP.Core.inUnits_move d (r := min q r) (by omega) (by omega), Jvm.FP.Core.signed_mul] at h2
  have hx := zq_pos (min q r - min (min q r) (-(k : Int))).toNat
  have hy := zq_pos (-(k : Int) - min (min q r) (-(k : Int))).toNat
  generalize ((2 ^ (min q r - min (min q r) (-(k : Int))).toNat : Nat) : Int) = X at h1 h2 hx
  generalize ((2 ^ (-(k : Int) - min (min q r) (-(k : Int))).toNat : Nat) : Int) = Y at h1 h2 hy
  generalize Jvm.FP.Core.signed (decide (a < 0)) (Jvm.FP.Core.inUnits c q (min q r)) = u at h1 ⊢
  generalize Jvm.FP.Core.signed (decide (b < 0)) (Jvm.FP.Core.inUnits d r (min q r)) = w at h2 ⊢
  have hlt : u < w ↔ a < b := by
    rw [← Int.mul_lt_mul_right hx (b := u) (c := w), h1, h2, Int.mul_lt_mul_right hy]
  have hgt : w < u ↔ b < a := by
    rw [← Int.mul_lt_mul_right hx (b := w) (c := u), h1, h2, Int.mul_lt_mul_right hy]
  rw [Jvm.FP.Core.compare_ite, Jvm.FP.Core.compare_ite]
  by_cases c1 : a < b
  · rw [if_pos (hlt.mpr c1), if_pos c1]
  · rw [if_neg (fun h => c1 (hlt.mp h)), if_neg c1]
    by_cases c2 : b < a
    · have := hgt.mpr c2
      rw [if_neg (by omega), if_neg (by omega)]
    · have n1 : ¬ u < w := fun h => c1 (hlt.mp h)
      have n2 : ¬ w < u := fun h => c2 (hgt.mp h)
      rw [if_pos (by omega), if_pos (by omega)]
theorem zq_i2d (x : Int32) : Jvm.FP.i2d x = zq 0 x.toInt := rfl
theorem zq_nn {k : Nat} {n : Int} (hk : k ≤ 900) (hn : n.natAbs < 9007199254740992) : Jvm.FP.Core.val64 (zq k n) ≠ .nan := by
  obtain ⟨c, q, e, -⟩ := zq_val hk hn
  rw [e]
  intro h
  cases h
theorem zq_fin {k : Nat} {n : Int} (hk : k ≤ 900) (hn : n.natAbs < 9007199254740992) : vf_n64 (zq k n) := by
  have h := (Jvm.FP.Core.ne_nan _).mp (zq_nn hk hn)
  unfold vf_n64
  rw [UInt64.le_iff_toNat_le, Jvm.FP.Core.mask_toNat]
  exact h
theorem zq_d2i {n : Int} (h1 : -2147483648 ≤ n) (h2 : n < 2147483648) : Jvm.FP.d2i (zq 0 n) = Int32.ofInt n := by
  obtain ⟨c, q, e, u⟩ := zq_val (k := 0) (n := n) (by omega) (by omega)
  refine Jvm.FP.Core.d2i_int ?_
  rw [Int32.toInt_ofInt_of_le (by omega) (by omega)]
  show Jvm.FP.Core.Whole n (Jvm.FP.Core.val64 (zq 0 n))
  rw [e]
  show Jvm.FP.Core.signed (decide (n < 0)) (c * 2 ^ q.toNat) = n * ((2 ^ (-q).toNat : Nat) : Int)
  have hu : c * 2 ^ q.toNat = n.natAbs * 2 ^ (-q).toNat := by
    rw [show (-((0 : Nat) : Int) - q).toNat = (-q).toNat by omega, show (q - -((0 : Nat) : Int)).toNat = q.toNat by omega] at u
    exact u.symm
  rw [hu, Jvm.FP.Core.signed_mul, zq_signed]
theorem zq_d2l {n : Int} (h1 : -9007199254740992 < n) (h2 : n < 9007199254740992) : Jvm.FP.d2l (zq 0 n) = Int64.ofInt n := by
  obtain ⟨c, q, e, u⟩ := zq_val (k := 0) (n := n) (by omega) (by omega)
  refine Jvm.FP.Core.d2l_int ?_
  rw [Int64.toInt_ofInt_of_le (by omega) (by omega)]
  show Jvm.FP.Core.Whole n (Jvm.FP.Core.val64 (zq 0 n))
  rw [e]
  show Jvm.FP.Core.signed (decide (n < 0)) (c * 2 ^ q.toNat) = n * ((2 ^ (-q).toNat : Nat) : Int)
  have hu : c * 2 ^ q.toNat = n.natAbs * 2 ^ (-q).toNat := by
    rw [show (-((0 : Nat) : Int) - q).toNat = (-q).toNat by omega, show (q - -((0 : Nat) : Int)).toNat = q.toNat by omega] at u
    exact u.symm
  rw [hu, Jvm.FP.Core.signed_mul, zq_signed]
theorem zq_l2d (x : Int64) : Jvm.FP.l2d x = zq 0 x.toInt := rfl
/-- the eight bits of a fraction of 256: two numbers of one worth have one image -/
theorem zq_inj {k : Nat} {a b : Int} (hk : k ≤ 900) (ha : a.natAbs < 9007199254740992) (hb : b.natAbs < 9007199254740992) (h : zq k a = zq k b) : a = b := by
  have h1 := zq_cmp hk ha hb
  have h2 := zq_cmp hk hb hb
  rw [h, h2] at h1
  have h3 : compare b b = Ordering.eq := by rw [Jvm.FP.Core.compare_ite]; simp
  rw [h3] at h1
  have h4 := (Option.some.inj h1).symm
  rw [Jvm.FP.Core.compare_ite] at h4
  by_cases c1 : a < b
  · rw [if_pos c1] at h4; cases h4
  · rw [if_neg c1] at h4
    by_cases c2 : a = b
    · exact c2
    · rw [if_neg c2] at h4; cases h4
end
section
def Rc_L : String := "TrainGuard$Line"
def Fc_L : u_T := fun k => match k with
  | 0 => ("TrainGuard$Line", "begins", "[D", true)
  | 1 => ("TrainGuard$Line", "speeds", "[D", true)
  | 2 => ("TrainGuard$Line", "holders", "[I", true)
  | 3 => ("TrainGuard$Line", "froms", "[D", true)
  | 4 => ("TrainGuard$Line", "tos", "[D", true)
  | 5 => ("TrainGuard$Line", "caps", "[D", true)
  | 6 => ("TrainGuard$Line", "sectionCount", "I", false)
  | _ => ("TrainGuard$Line", "restrictionCount", "I", false)
def tc_L : Nat → FieldType := fun k => match k with
  | 0 => .array .double
  | 1 => .array .double
  | 2 => .array .int
  | 3 => .array .double
  | 4 => .array .double
  | 5 => .array .double
  | 6 => .int
  | _ => .int
theorem nc_L : ∀ a, a < 8 → ∀ b, b < 8 → a ≠ b → (Fc_L a).2.1 ≠ (Fc_L b).2.1 := by decide +kernel
theorem tc_L_ok : ∀ k, k < 8 → parseFieldDescriptor (Fc_L k).2.2.1 = some (tc_L k) := by decide +kernel
def Rc_M : String := "TrainGuard$Message"
def Fc_M : u_T := fun k => match k with
  | 0 => ("TrainGuard$Message", "isWaiting", "Z", false)
  | 1 => ("TrainGuard$Message", "isStop", "Z", false)
  | 2 => ("TrainGuard$Message", "number", "I", false)
  | 3 => ("TrainGuard$Message", "place", "D", false)
  | _ => ("TrainGuard$Message", "mark", "I", false)
def tc_M : Nat → FieldType := fun k => match k with
  | 0 => .boolean
  | 1 => .boolean
  | 2 => .int
  | 3 => .double
  | _ => .int
theorem nc_M : ∀ a, a < 5 → ∀ b, b < 5 → a ≠ b → (Fc_M a).2.1 ≠ (Fc_M b).2.1 := by decide +kernel
theorem tc_M_ok : ∀ k, k < 5 → parseFieldDescriptor (Fc_M k).2.2.1 = some (tc_M k) := by decide +kernel
def Rc_T : String := "TrainGuard$Train"
def Fc_T : u_T := fun k => match k with
  | 0 => ("TrainGuard$Train", "message", "LTrainGuard$Message;", true)
  | 1 => ("TrainGuard$Train", "length", "D", false)
  | 2 => ("TrainGuard$Train", "brake", "D", false)
  | 3 => ("TrainGuard$Train", "speed", "D", false)
  | 4 => ("TrainGuard$Train", "real", "D", false)
  | 5 => ("TrainGuard$Train", "measured", "D", false)
  | 6 => ("TrainGuard$Train", "margin", "D", false)
  | 7 => ("TrainGuard$Train", "authority", "D", false)
  | 8 => ("TrainGuard$Train", "hasAuthority", "Z", false)
  | 9 => ("TrainGuard$Train", "isWet", "Z", false)
  | _ => ("TrainGuard$Train", "mode", "I", false)
def tc_T : Nat → FieldType := fun k => match k with
  | 0 => .object "TrainGuard$Message"
  | 1 => .double
  | 2 => .double
  | 3 => .double
  | 4 => .double
  | 5 => .double
  | 6 => .double
  | 7 => .double
  | 8 => .boolean
  | 9 => .boolean
  | _ => .int
theorem nc_T : ∀ a, a < 11 → ∀ b, b < 11 → a ≠ b → (Fc_T a).2.1 ≠ (Fc_T b).2.1 := by decide +kernel
theorem tc_T_ok : ∀ k, k < 11 → parseFieldDescriptor (Fc_T k).2.2.1 = some (tc_T k) := by decide +kernel
def Rc_G : String := "TrainGuard"
def Fc_G : u_T := fun k => match k with
  | 0 => ("TrainGuard", "line", "LTrainGuard$Line;", true)
  | 1 => ("TrainGuard", "trains", "[LTrainGuard$Train;", true)
  | 2 => ("TrainGuard", "trainCount", "I", false)
  | 3 => ("TrainGuard", "forgedCount", "I", false)
  | 4 => ("TrainGuard", "guardBrakings", "I", false)
  | _ => ("TrainGuard", "overruns", "I", false)
def tc_G : Nat → FieldType := fun k => match k with
  | 0 => .object "TrainGuard$Line"
  | 1 => .array (.object "TrainGuard$Train")
  | 2 => .int
  | 3 => .int
  | 4 => .int
  | _ => .int
theorem nc_G : ∀ a, a < 6 → ∀ b, b < 6 → a ≠ b → (Fc_G a).2.1 ≠ (Fc_G b).2.1 := by decide +kernel
theorem tc_G_ok : ∀ k, k < 6 → parseFieldDescriptor (Fc_G k).2.2.1 = some (tc_G k) := by decide +kernel
def Rc_R : String := "TrainGuardModel"
def Fc_R : u_T := fun k => match k with
  | 0 => ("TrainGuardModel", "thrown", "I", false)
  | 1 => ("TrainGuardModel", "sections", "I", false)
  | 2 => ("TrainGuardModel", "begin", "[J", true)
  | 3 => ("TrainGuardModel", "speedOf", "[J", true)
  | 4 => ("TrainGuardModel", "held", "[I", true)
  | 5 => ("TrainGuardModel", "restrictions", "I", false)
  | 6 => ("TrainGuardModel", "from", "[J", true)
  | 7 => ("TrainGuardModel", "to", "[J", true)
  | 8 => ("TrainGuardModel", "least", "[J", true)
  | 9 => ("TrainGuardModel", "trains", "I", false)
  | 10 => ("TrainGuardModel", "length", "[J", true)
  | 11 => ("TrainGuardModel", "brake", "[J", true)
  | 12 => ("TrainGuardModel", "speed", "[J", true)
  | 13 => ("TrainGuardModel", "real", "[J", true)
  | 14 => ("TrainGuardModel", "measured", "[J", true)
  | 15 => ("TrainGuardModel", "margin", "[J", true)
  | 16 => ("TrainGuardModel", "authority", "[J", true)
  | 17 => ("TrainGuardModel", "mode", "[I", true)
  | 18 => ("TrainGuardModel", "wet", "[Z", true)
  | 19 => ("TrainGuardModel", "numbers", "[I", true)
  | 20 => ("TrainGuardModel", "message", "[I", true)
  | 21 => ("TrainGuardModel", "place", "[J", true)
  | 22 => ("TrainGuardModel", "forged", "I", false)
  | 23 => ("TrainGuardModel", "braked", "I", false)
  | _ => ("TrainGuardModel", "tripped", "I", false)
def tc_R : Nat → FieldType := fun k => match k with
  | 0 => .int
  | 1 => .int
  | 2 => .array .long
  | 3 => .array .long
  | 4 => .array .int
  | 5 => .int
  | 6 => .array .long
  | 7 => .array .long
  | 8 => .array .long
  | 9 => .int
  | 10 => .array .long
  | 11 => .array .long
  | 12 => .array .long
  | 13 => .array .long
  | 14 => .array .long
  | 15 => .array .long
  | 16 => .array .long
  | 17 => .array .int
  | 18 => .array .boolean
  | 19 => .array .int
  | 20 => .array .int
  | 21 => .array .long
  | 22 => .int
  | 23 => .int
  | _ => .int
theorem nc_R : ∀ a, a < 25 → ∀ b, b < 25 → a ≠ b → (Fc_R a).2.1 ≠ (Fc_R b).2.1 := by decide +kernel
theorem tc_R_ok : ∀ k, k < 25 → parseFieldDescriptor (Fc_R k).2.2.1 = some (tc_R k) := by decide +kernel
def Rc_W : String := "TrainGuardLaw"
abbrev cls : List vw_C := [(Rc_L, Fc_L, 8), (Rc_M, Fc_M, 5), (Rc_T, Fc_T, 11), (Rc_G, Fc_G, 6), (Rc_R, Fc_R, 25)]
abbrev b_G_init : ByteArray := prog_1_method_1_code
def y_G_init : MethodName := ⟨"TrainGuard", "<init>", "()V"⟩
abbrev b_L_init : ByteArray := prog_2_method_1_code
def y_L_init : MethodName := ⟨"TrainGuard$Line", "<init>", "()V"⟩
abbrev b_T_init : ByteArray := prog_4_method_1_code
def y_T_init : MethodName := ⟨"TrainGuard$Train", "<init>", "()V"⟩
abbrev b_M_init : ByteArray := prog_3_method_1_code
def y_M_init : MethodName := ⟨"TrainGuard$Message", "<init>", "()V"⟩
abbrev b_G_count : ByteArray := prog_1_method_18_code
def y_G_count : MethodName := ⟨"TrainGuard", "count", "(I)I"⟩
abbrev b_W_section : ByteArray := method_3_code
def y_W_section : MethodName := ⟨"TrainGuardLaw", "section", "(LTrainGuard;DD[J)I"⟩
abbrev b_G_section : ByteArray := prog_1_method_2_code
def y_G_section : MethodName := ⟨"TrainGuard", "section", "(DD)I"⟩
abbrev b_G_isWithin : ByteArray := prog_1_method_26_code
def y_G_isWithin : MethodName := ⟨"TrainGuard", "isWithin", "(DDD)Z"⟩
abbrev b_G_isSpeed : ByteArray := prog_1_method_27_code
def y_G_isSpeed : MethodName := ⟨"TrainGuard", "isSpeed", "(D)Z"⟩
abbrev b_G_demandArgument : ByteArray := prog_1_method_28_code
def y_G_demandArgument : MethodName := ⟨"TrainGuard", "demandArgument", "(Z)V"⟩
abbrev b_G_demandState : ByteArray := prog_1_method_30_code
def y_G_demandState : MethodName := ⟨"TrainGuard", "demandState", "(Z)V"⟩
abbrev b_L_addSection : ByteArray := prog_2_method_2_code
def y_L_addSection : MethodName := ⟨"TrainGuard$Line", "addSection", "(DD)I"⟩
abbrev b_W_restrict : ByteArray := method_4_code
def y_W_restrict : MethodName := ⟨"TrainGuardLaw", "restrict", "(LTrainGuard;DDD[J)I"⟩
abbrev b_G_restrict : ByteArray := prog_1_method_3_code
def y_G_restrict : MethodName := ⟨"TrainGuard", "restrict", "(DDD)I"⟩
abbrev b_G_allStandBy : ByteArray := prog_1_method_20_code
def y_G_allStandBy : MethodName := ⟨"TrainGuard", "allStandBy", "()Z"⟩
abbrev b_G_demandSafety : ByteArray := prog_1_method_31_code
def y_G_demandSafety : MethodName := ⟨"TrainGuard", "demandSafety", "(Z)V"⟩
abbrev b_L_addRestriction : ByteArray := prog_2_method_3_code
def y_L_addRestriction : MethodName := ⟨"TrainGuard$Line", "addRestriction", "(DDD)I"⟩
abbrev b_W_release : ByteArray := method_5_code
def y_W_release : MethodName := ⟨"TrainGuardLaw", "release", "(LTrainGuard;I[J)I"⟩
abbrev b_G_release : ByteArray := prog_1_method_4_code
def y_G_release : MethodName := ⟨"TrainGuard", "release", "(I)I"⟩
abbrev b_L_removeRestriction : ByteArray := prog_2_method_4_code
def y_L_removeRestriction : MethodName := ⟨"TrainGuard$Line", "removeRestriction", "(I)I"⟩
abbrev b_W_train : ByteArray := method_6_code
def y_W_train : MethodName := ⟨"TrainGuardLaw", "train", "(LTrainGuard;IDD[J)I"⟩
abbrev b_G_train : ByteArray := prog_1_method_5_code
def y_G_train : MethodName := ⟨"TrainGuard", "train", "(IDD)I"⟩
abbrev b_L_hasSection : ByteArray := prog_2_method_5_code
def y_L_hasSection : MethodName := ⟨"TrainGuard$Line", "hasSection", "(I)Z"⟩
abbrev b_L_lengthOf : ByteArray := prog_2_method_8_code
def y_L_lengthOf : MethodName := ⟨"TrainGuard$Line", "lengthOf", "(I)D"⟩
abbrev b_L_endOf : ByteArray := prog_2_method_7_code
def y_L_endOf : MethodName := ⟨"TrainGuard$Line", "endOf", "(I)D"⟩
abbrev b_L_beginOf : ByteArray := prog_2_method_6_code
def y_L_beginOf : MethodName := ⟨"TrainGuard$Line", "beginOf", "(I)D"⟩
abbrev b_G_isFreeFor : ByteArray := prog_1_method_24_code
def y_G_isFreeFor : MethodName := ⟨"TrainGuard", "isFreeFor", "(II)Z"⟩
abbrev b_G_firstTrainIn : ByteArray := prog_1_method_23_code
def y_G_firstTrainIn : MethodName := ⟨"TrainGuard", "firstTrainIn", "(II)I"⟩
abbrev b_G_isIn : ByteArray := prog_1_method_21_code
def y_G_isIn : MethodName := ⟨"TrainGuard", "isIn", "(LTrainGuard$Train;I)Z"⟩
abbrev b_T_rear : ByteArray := prog_4_method_3_code
def y_T_rear : MethodName := ⟨"TrainGuard$Train", "rear", "()D"⟩
abbrev b_T_putAt : ByteArray := prog_4_method_2_code
def y_T_putAt : MethodName := ⟨"TrainGuard$Train", "putAt", "(DDD)V"⟩
abbrev b_W_start : ByteArray := method_7_code
def y_W_start : MethodName := ⟨"TrainGuardLaw", "start", "(LTrainGuard;I[J)I"⟩
abbrev b_G_start : ByteArray := prog_1_method_6_code
def y_G_start : MethodName := ⟨"TrainGuard", "start", "(I)I"⟩
abbrev b_G_trainNumbered : ByteArray := prog_1_method_19_code
def y_G_trainNumbered : MethodName := ⟨"TrainGuard", "trainNumbered", "(I)LTrainGuard$Train;"⟩
abbrev b_T_isSafeNow : ByteArray := prog_4_method_8_code
def y_T_isSafeNow : MethodName := ⟨"TrainGuard$Train", "isSafeNow", "(LTrainGuard$Line;)Z"⟩
abbrev b_T_isSafeState : ByteArray := prog_4_method_17_code
def y_T_isSafeState : MethodName := ⟨"TrainGuard$Train", "isSafeState", "(LTrainGuard$Line;DDD)Z"⟩
abbrev b_T_isSafe : ByteArray := prog_4_method_16_code
def y_T_isSafe : MethodName := ⟨"TrainGuard$Train", "isSafe", "(DDDD)Z"⟩
abbrev b_T_brakingWay : ByteArray := prog_4_method_9_code
def y_T_brakingWay : MethodName := ⟨"TrainGuard$Train", "brakingWay", "(DD)D"⟩
abbrev b_L_limitNear : ByteArray := prog_2_method_11_code
def y_L_limitNear : MethodName := ⟨"TrainGuard$Line", "limitNear", "(D)D"⟩
abbrev b_L_limitAt : ByteArray := prog_2_method_10_code
def y_L_limitAt : MethodName := ⟨"TrainGuard$Line", "limitAt", "(D)D"⟩
abbrev b_L_lineEnd : ByteArray := prog_2_method_9_code
def y_L_lineEnd : MethodName := ⟨"TrainGuard$Line", "lineEnd", "()D"⟩
abbrev b_T_meetsLimitsAhead : ByteArray := prog_4_method_18_code
def y_T_meetsLimitsAhead : MethodName := ⟨"TrainGuard$Train", "meetsLimitsAhead", "(LTrainGuard$Line;DD)Z"⟩
abbrev b_L_changeCount : ByteArray := prog_2_method_12_code
def y_L_changeCount : MethodName := ⟨"TrainGuard$Line", "changeCount", "()I"⟩
abbrev b_L_changeAt : ByteArray := prog_2_method_13_code
def y_L_changeAt : MethodName := ⟨"TrainGuard$Line", "changeAt", "(I)D"⟩
abbrev b_W_ask : ByteArray := method_8_code
def y_W_ask : MethodName := ⟨"TrainGuardLaw", "ask", "(LTrainGuard;II[J)I"⟩
abbrev b_G_ask : ByteArray := prog_1_method_7_code
def y_G_ask : MethodName := ⟨"TrainGuard", "ask", "(II)I"⟩
abbrev b_G_headOf : ByteArray := prog_1_method_22_code
def y_G_headOf : MethodName := ⟨"TrainGuard", "headOf", "(LTrainGuard$Train;)I"⟩
abbrev b_M_send : ByteArray := prog_3_method_2_code
def y_M_send : MethodName := ⟨"TrainGuard$Message", "send", "(ZD)I"⟩
abbrev b_M_dueMark : ByteArray := prog_3_method_4_code
def y_M_dueMark : MethodName := ⟨"TrainGuard$Message", "dueMark", "()I"⟩
abbrev b_W_stop : ByteArray := method_9_code
def y_W_stop : MethodName := ⟨"TrainGuardLaw", "stop", "(LTrainGuard;I[J)I"⟩
abbrev b_G_stop : ByteArray := prog_1_method_8_code
def y_G_stop : MethodName := ⟨"TrainGuard", "stop", "(I)I"⟩
abbrev b_W_take : ByteArray := method_10_code
def y_W_take : MethodName := ⟨"TrainGuardLaw", "take", "(LTrainGuard;II[J)I"⟩
abbrev b_G_take : ByteArray := prog_1_method_9_code
def y_G_take : MethodName := ⟨"TrainGuard", "take", "(II)I"⟩
abbrev b_G_demandMessage : ByteArray := prog_1_method_29_code
def y_G_demandMessage : MethodName := ⟨"TrainGuard", "demandMessage", "(Z)V"⟩
abbrev b_M_isGenuine : ByteArray := prog_3_method_3_code
def y_M_isGenuine : MethodName := ⟨"TrainGuard$Message", "isGenuine", "(I)Z"⟩
abbrev b_T_obeyStop : ByteArray := prog_4_method_5_code
def y_T_obeyStop : MethodName := ⟨"TrainGuard$Train", "obeyStop", "()V"⟩
abbrev b_T_canStopAt : ByteArray := prog_4_method_7_code
def y_T_canStopAt : MethodName := ⟨"TrainGuard$Train", "canStopAt", "(D)Z"⟩
abbrev b_T_accept : ByteArray := prog_4_method_6_code
def y_T_accept : MethodName := ⟨"TrainGuard$Train", "accept", "(DLTrainGuard$Line;)V"⟩
abbrev b_T_stands : ByteArray := prog_4_method_4_code
def y_T_stands : MethodName := ⟨"TrainGuard$Train", "stands", "()Z"⟩
abbrev b_W_second : ByteArray := method_11_code
def y_W_second : MethodName := ⟨"TrainGuardLaw", "second", "(LTrainGuard;IDI[J)I"⟩
abbrev b_G_second : ByteArray := prog_1_method_10_code
def y_G_second : MethodName := ⟨"TrainGuard", "second", "(IDI)I"⟩
abbrev b_T_runSecond : ByteArray := prog_4_method_10_code
def y_T_runSecond : MethodName := ⟨"TrainGuard$Train", "runSecond", "(LTrainGuard$Line;DI)Z"⟩
abbrev b_T_wishedSpeed : ByteArray := prog_4_method_11_code
def y_T_wishedSpeed : MethodName := ⟨"TrainGuard$Train", "wishedSpeed", "(D)D"⟩
abbrev b_T_isSafeBehind : ByteArray := prog_4_method_14_code
def y_T_isSafeBehind : MethodName := ⟨"TrainGuard$Train", "isSafeBehind", "(LTrainGuard$Line;D)Z"⟩
abbrev b_T_wayTo : ByteArray := prog_4_method_13_code
def y_T_wayTo : MethodName := ⟨"TrainGuard$Train", "wayTo", "(D)D"⟩
abbrev b_T_brakedSpeed : ByteArray := prog_4_method_12_code
def y_T_brakedSpeed : MethodName := ⟨"TrainGuard$Train", "brakedSpeed", "()D"⟩
abbrev b_T_move : ByteArray := prog_4_method_15_code
def y_T_move : MethodName := ⟨"TrainGuard$Train", "move", "(LTrainGuard$Line;DI)V"⟩
abbrev b_L_hasBeginBetween : ByteArray := prog_2_method_14_code
def y_L_hasBeginBetween : MethodName := ⟨"TrainGuard$Line", "hasBeginBetween", "(DD)Z"⟩
abbrev b_L_freeBelow : ByteArray := prog_2_method_15_code
def y_L_freeBelow : MethodName := ⟨"TrainGuard$Line", "freeBelow", "(DI)V"⟩
abbrev b_W_wet : ByteArray := method_12_code
def y_W_wet : MethodName := ⟨"TrainGuardLaw", "wet", "(LTrainGuard;IZ[J)I"⟩
abbrev b_G_wet : ByteArray := prog_1_method_11_code
def y_G_wet : MethodName := ⟨"TrainGuard", "wet", "(IZ)I"⟩
abbrev b_W_acknowledge : ByteArray := method_13_code
def y_W_acknowledge : MethodName := ⟨"TrainGuardLaw", "acknowledge", "(LTrainGuard;I[J)I"⟩
abbrev b_G_acknowledge : ByteArray := prog_1_method_12_code
def y_G_acknowledge : MethodName := ⟨"TrainGuard", "acknowledge", "(I)I"⟩
abbrev b_W_end : ByteArray := method_14_code
def y_W_end : MethodName := ⟨"TrainGuardLaw", "end", "(LTrainGuard;I[J)I"⟩
abbrev b_G_end : ByteArray := prog_1_method_13_code
def y_G_end : MethodName := ⟨"TrainGuard", "end", "(I)I"⟩
abbrev b_G_holdOwnPlacesOnly : ByteArray := prog_1_method_25_code
def y_G_holdOwnPlacesOnly : MethodName := ⟨"TrainGuard", "holdOwnPlacesOnly", "(I)V"⟩
abbrev b_W_of : ByteArray := method_15_code
def y_W_of : MethodName := ⟨"TrainGuardLaw", "of", "(LTrainGuard;II[D)I"⟩
abbrev b_G_of : ByteArray := prog_1_method_14_code
def y_G_of : MethodName := ⟨"TrainGuard", "of", "(II)D"⟩
abbrev b_W_limit : ByteArray := method_16_code
def y_W_limit : MethodName := ⟨"TrainGuardLaw", "limit", "(LTrainGuard;D[D)I"⟩
abbrev b_G_limit : ByteArray := prog_1_method_15_code
def y_G_limit : MethodName := ⟨"TrainGuard", "limit", "(D)D"⟩
abbrev b_W_mode : ByteArray := method_17_code
def y_W_mode : MethodName := ⟨"TrainGuardLaw", "mode", "(LTrainGuard;I[J)I"⟩
abbrev b_G_mode : ByteArray := prog_1_method_16_code
def y_G_mode : MethodName := ⟨"TrainGuard", "mode", "(I)I"⟩
abbrev b_W_holds : ByteArray := method_18_code
def y_W_holds : MethodName := ⟨"TrainGuardLaw", "holds", "(LTrainGuard;II[J)I"⟩
abbrev b_G_holds : ByteArray := prog_1_method_17_code
def y_G_holds : MethodName := ⟨"TrainGuard", "holds", "(II)I"⟩
abbrev b_R_init : ByteArray := prog_6_method_1_code
def y_R_init : MethodName := ⟨"TrainGuardModel", "<init>", "()V"⟩
abbrev b_R_thrown : ByteArray := prog_6_method_2_code
def y_R_thrown : MethodName := ⟨"TrainGuardModel", "thrown", "()I"⟩
abbrev b_R_section : ByteArray := prog_6_method_17_code
def y_R_section : MethodName := ⟨"TrainGuardModel", "section", "(DD)I"⟩
abbrev b_R_between : ByteArray := prog_6_method_8_code
def y_R_between : MethodName := ⟨"TrainGuardModel", "between", "(DDD)Z"⟩
abbrev b_R_fail : ByteArray := prog_6_method_3_code
def y_R_fail : MethodName := ⟨"TrainGuardModel", "fail", "(I)I"⟩
abbrev b_R_whole : ByteArray := prog_6_method_6_code
def y_R_whole : MethodName := ⟨"TrainGuardModel", "whole", "(D)J"⟩
abbrev b_R_answer : ByteArray := prog_6_method_4_code
def y_R_answer : MethodName := ⟨"TrainGuardModel", "answer", "(I)I"⟩
abbrev b_R_restrict : ByteArray := prog_6_method_18_code
def y_R_restrict : MethodName := ⟨"TrainGuardModel", "restrict", "(DDD)I"⟩
abbrev b_R_release : ByteArray := prog_6_method_19_code
def y_R_release : MethodName := ⟨"TrainGuardModel", "release", "(I)I"⟩
abbrev b_R_in : ByteArray := prog_6_method_7_code
def y_R_in : MethodName := ⟨"TrainGuardModel", "in", "(III)Z"⟩
abbrev b_R_train : ByteArray := prog_6_method_20_code
def y_R_train : MethodName := ⟨"TrainGuardModel", "train", "(IDD)I"⟩
abbrev b_R_noSection : ByteArray := prog_6_method_10_code
def y_R_noSection : MethodName := ⟨"TrainGuardModel", "noSection", "(I)Z"⟩
abbrev b_R_taken : ByteArray := prog_6_method_16_code
def y_R_taken : MethodName := ⟨"TrainGuardModel", "taken", "(II)Z"⟩
abbrev b_R_isIn : ByteArray := prog_6_method_14_code
def y_R_isIn : MethodName := ⟨"TrainGuardModel", "isIn", "(II)Z"⟩
abbrev b_R_start : ByteArray := prog_6_method_26_code
def y_R_start : MethodName := ⟨"TrainGuardModel", "start", "(I)I"⟩
abbrev b_R_noTrain : ByteArray := prog_6_method_9_code
def y_R_noTrain : MethodName := ⟨"TrainGuardModel", "noTrain", "(I)Z"⟩
abbrev b_R_ready : ByteArray := prog_6_method_25_code
def y_R_ready : MethodName := ⟨"TrainGuardModel", "ready", "(I)Z"⟩
abbrev b_R_safe : ByteArray := prog_6_method_24_code
def y_R_safe : MethodName := ⟨"TrainGuardModel", "safe", "(IJJJ)Z"⟩
abbrev b_R_safeFor : ByteArray := prog_6_method_22_code
def y_R_safeFor : MethodName := ⟨"TrainGuardModel", "safeFor", "(IJJJJJ)Z"⟩
abbrev b_R_ways : ByteArray := prog_6_method_21_code
def y_R_ways : MethodName := ⟨"TrainGuardModel", "ways", "(JJJ)J"⟩
abbrev b_R_lineEnd : ByteArray := prog_6_method_11_code
def y_R_lineEnd : MethodName := ⟨"TrainGuardModel", "lineEnd", "()J"⟩
abbrev b_R_limitAt : ByteArray := prog_6_method_13_code
def y_R_limitAt : MethodName := ⟨"TrainGuardModel", "limitAt", "(J)J"⟩
abbrev b_R_sectionAt : ByteArray := prog_6_method_12_code
def y_R_sectionAt : MethodName := ⟨"TrainGuardModel", "sectionAt", "(J)I"⟩
abbrev b_R_within : ByteArray := prog_6_method_23_code
def y_R_within : MethodName := ⟨"TrainGuardModel", "within", "(J)J"⟩
abbrev b_R_ask : ByteArray := prog_6_method_28_code
def y_R_ask : MethodName := ⟨"TrainGuardModel", "ask", "(II)I"⟩
abbrev b_R_head : ByteArray := prog_6_method_15_code
def y_R_head : MethodName := ⟨"TrainGuardModel", "head", "(I)I"⟩
abbrev b_R_send : ByteArray := prog_6_method_27_code
def y_R_send : MethodName := ⟨"TrainGuardModel", "send", "(IIJ)I"⟩
abbrev b_R_stop : ByteArray := prog_6_method_29_code
def y_R_stop : MethodName := ⟨"TrainGuardModel", "stop", "(I)I"⟩
abbrev b_R_take : ByteArray := prog_6_method_31_code
def y_R_take : MethodName := ⟨"TrainGuardModel", "take", "(II)I"⟩
abbrev b_R_takeAuthority : ByteArray := prog_6_method_30_code
def y_R_takeAuthority : MethodName := ⟨"TrainGuardModel", "takeAuthority", "(I)I"⟩
abbrev b_R_second : ByteArray := prog_6_method_35_code
def y_R_second : MethodName := ⟨"TrainGuardModel", "second", "(IDI)I"⟩
abbrev b_R_pass : ByteArray := prog_6_method_34_code
def y_R_pass : MethodName := ⟨"TrainGuardModel", "pass", "(IJI)V"⟩
abbrev b_R_wish : ByteArray := prog_6_method_32_code
def y_R_wish : MethodName := ⟨"TrainGuardModel", "wish", "(IJ)J"⟩
abbrev b_R_move : ByteArray := prog_6_method_33_code
def y_R_move : MethodName := ⟨"TrainGuardModel", "move", "(IJI)V"⟩
abbrev b_R_wet : ByteArray := prog_6_method_36_code
def y_R_wet : MethodName := ⟨"TrainGuardModel", "wet", "(IZ)I"⟩
abbrev b_R_acknowledge : ByteArray := prog_6_method_37_code
def y_R_acknowledge : MethodName := ⟨"TrainGuardModel", "acknowledge", "(I)I"⟩
abbrev b_R_end : ByteArray := prog_6_method_38_code
def y_R_end : MethodName := ⟨"TrainGuardModel", "end", "(I)I"⟩
abbrev b_R_of : ByteArray := prog_6_method_39_code
def y_R_of : MethodName := ⟨"TrainGuardModel", "of", "(II)D"⟩
abbrev b_R_shown : ByteArray := prog_6_method_5_code
def y_R_shown : MethodName := ⟨"TrainGuardModel", "shown", "(J)D"⟩
abbrev b_R_limit : ByteArray := prog_6_method_40_code
def y_R_limit : MethodName := ⟨"TrainGuardModel", "limit", "(D)D"⟩
abbrev b_R_mode : ByteArray := prog_6_method_41_code
def y_R_mode : MethodName := ⟨"TrainGuardModel", "mode", "(I)I"⟩
abbrev b_R_holds : ByteArray := prog_6_method_42_code
def y_R_holds : MethodName := ⟨"TrainGuardModel", "holds", "(II)I"⟩
abbrev b_R_count : ByteArray := prog_6_method_43_code
def y_R_count : MethodName := ⟨"TrainGuardModel", "count", "(I)I"⟩
end
section
def tG : List Cond := lw_tbl.filter goodWord
theorem tG_in : ∀ w ∈ tG, w ∈ lw_tbl := fun w h => (List.mem_filter.mp h).1
theorem tG_good : ∀ w ∈ tG, goodWord w = true := fun w h => (List.mem_filter.mp h).2
theorem tG_of {w : Cond} (h : w ∈ tables_1) (g : goodWord w = true) : w ∈ tG := List.mem_filter.mpr ⟨List.mem_append_right _ h, g⟩
theorem tG_sel {q : MethodName × Nat} (h : q ∈ lw_privs) : Cond.selects q.1.cls q.1 q.1 ∈ tG := List.mem_filter.mpr ⟨List.mem_append_left _ (List.mem_map.mpr ⟨q, h, rfl⟩), by rfl⟩
set_option maxRecDepth 100000 in
theorem wd_0 : (Cond.initialized "TrainGuardLaw") ∈ tG := tG_of (List.mem_of_getElem? (i := 0) (by rfl)) (by rfl)
set_option maxRecDepth 100000 in
theorem wd_1 : (Cond.initialized "TrainGuard") ∈ tG := tG_of (List.mem_of_getElem? (i := 1) (by rfl)) (by rfl)
set_option maxRecDepth 100000 in
theorem wd_2 : (Cond.initialized "TrainGuard$Line") ∈ tG := tG_of (List.mem_of_getElem? (i := 2) (by rfl)) (by rfl)
set_option maxRecDepth 100000 in
theorem wd_3 : (Cond.initialized "TrainGuard$Train") ∈ tG := tG_of (List.mem_of_getElem? (i := 3) (by rfl)) (by rfl)
set_option maxRecDepth 100000 in
theorem wd_4 : (Cond.initialized "TrainGuard$Message") ∈ tG := tG_of (List.mem_of_getElem? (i := 4) (by rfl)) (by rfl)
set_option maxRecDepth 100000 in
theorem wd_5 : (Cond.initialized "TrainGuardModel") ∈ tG := tG_of (List.mem_of_getElem? (i := 5) (by rfl)) (by rfl)
set_option maxRecDepth 100000 in
theorem wd_6 : (Cond.initialized "java/lang/Throwable") ∈ tG := tG_of (List.mem_of_getElem? (i := 6) (by rfl)) (by rfl)
set_option maxRecDepth 100000 in
theorem wd_7 : (Cond.initialized "java/lang/Exception") ∈ tG := tG_of (List.mem_of_getElem? (i := 7) (by rfl)) (by rfl)
set_option maxRecDepth 100000 in
theorem wd_8 : (Cond.initialized "java/lang/RuntimeException") ∈ tG := tG_of (List.mem_of_getElem? (i := 8) (by rfl)) (by rfl)
set_option maxRecDepth 100000 in
theorem wd_9 : (Cond.initialized "java/lang/IllegalArgumentException") ∈ tG := tG_of (List.mem_of_getElem? (i := 9) (by rfl)) (by rfl)
set_option maxRecDepth 100000 in
theorem wd_10 : (Cond.initialized "java/lang/IllegalStateException") ∈ tG := tG_of (List.mem_of_getElem? (i := 10) (by rfl)) (by rfl)
set_option maxRecDepth 100000 in
theorem wd_11 : (Cond.initialized "java/lang/UnsupportedOperationException") ∈ tG := tG_of (List.mem_of_getElem? (i := 11) (by rfl)) (by rfl)
set_option maxRecDepth 100000 in
theorem wd_12 : (Cond.initialized "java/util/NoSuchElementException") ∈ tG := tG_of (List.mem_of_getElem? (i := 12) (by rfl)) (by rfl)
set_option maxRecDepth 100000 in
theorem wd_13 : (Cond.classLink "TrainGuardLaw" (8 : Nat) "TrainGuard") ∈ tG := tG_of (List.mem_of_getElem? (i := 13) (by rfl)) (by rfl)
set_option maxRecDepth 100000 in
theorem wd_14 : (Cond.instantiable "TrainGuard" (6 : Nat)) ∈ tG := tG_of (List.mem_of_getElem? (i := 14) (by rfl)) (by rfl)
set_option maxRecDepth 100000 in
theorem wd_15 : (Cond.methodLink "TrainGuardLaw" (74 : Nat) ({ cls := "TrainGuard", name := "<init>", desc := "()V" } : Jvm.MethodName)) ∈ tG := tG_of (List.mem_of_getElem? (i := 15) (by rfl)) (by rfl)
set_option maxRecDepth 100000 in
theorem wd_16 : (Cond.instanceMethod ({ cls := "TrainGuard", name := "<init>", desc := "()V" } : Jvm.MethodName)) ∈ tG := tG_of (List.mem_of_getElem? (i := 16) (by rfl)) (by rfl)
set_option maxRecDepth 100000 in
theorem wd_17 : (Cond.code ({ cls := "TrainGuard", name := "<init>", desc := "()V" } : Jvm.MethodName) prog_1_method_1_code (2 : Nat) (Option.none : Option Jvm.ClassFile.FieldType)) ∈ tG := tG_of (List.mem_of_getElem? (i := 17) (by rfl)) (by rfl)
set_option maxRecDepth 100000 in
theorem wd_18 : (Cond.methodLink "TrainGuard" (1 : Nat) ({ cls := "java/lang/Object", name := "<init>", desc := "()V" } : Jvm.MethodName)) ∈ tG := tG_of (List.mem_of_getElem? (i := 18) (by rfl)) (by rfl)
set_option maxRecDepth 100000 in
theorem wd_19 : (Cond.instanceMethod ({ cls := "java/lang/Object", name := "<init>", desc := "()V" } : Jvm.MethodName)) ∈ tG := tG_of (List.mem_of_getElem? (i := 19) (by rfl)) (by rfl)
set_option maxRecDepth 100000 in
theorem wd_20 : (Cond.code ({ cls := "java/lang/Object", name := "<init>", desc := "()V" } : Jvm.MethodName) object_method_1_code (1 : Nat) (Option.none : Option Jvm.ClassFile.FieldType)) ∈ tG := tG_of (List.mem_of_getElem? (i := 20) (by rfl)) (by rfl)
set_option maxRecDepth 100000 in
theorem wd_21 : (Cond.classLink "TrainGuard" (7 : Nat) "TrainGuard$Line") ∈ tG := tG_of (List.mem_of_getElem? (i := 21) (by rfl)) (by rfl)
set_option maxRecDepth 100000 in
theorem wd_22 : (Cond.instantiable "TrainGuard$Line" (8 : Nat)) ∈ tG := tG_of (List.mem_of_getElem? (i := 22) (by rfl)) (by rfl)
set_option maxRecDepth 100000 in
theorem wd_24 : (Cond.instanceMethod ({ cls := "TrainGuard$Line", name := "<init>", desc := "()V" } : Jvm.MethodName)) ∈ tG := tG_of (List.mem_of_getElem? (i := 24) (by rfl)) (by rfl)
set_option maxRecDepth 100000 in
theorem wd_25 : (Cond.code ({ cls := "TrainGuard$Line", name := "<init>", desc := "()V" } : Jvm.MethodName) prog_2_method_1_code (1 : Nat) (Option.none : Option Jvm.ClassFile.FieldType)) ∈ tG := tG_of (List.mem_of_getElem? (i := 25) (by rfl)) (by rfl)
set_option maxRecDepth 100000 in
theorem wd_26 : (Cond.methodLink "TrainGuard$Line" (3 : Nat) ({ cls := "java/lang/Object", name := "<init>", desc := "()V" } : Jvm.MethodName)) ∈ tG := tG_of (List.mem_of_getElem? (i := 26) (by rfl)) (by rfl)
set_option maxRecDepth 100000 in
theorem wd_27 : (Cond.fieldLink "TrainGuard$Line" (9 : Nat) "TrainGuard$Line" "begins" "[D") ∈ tG := tG_of (List.mem_of_getElem? (i := 27) (by rfl)) (by rfl)
set_option maxRecDepth 100000 in
theorem wd_28 : (Cond.fieldLink "TrainGuard$Line" (15 : Nat) "TrainGuard$Line" "speeds" "[D") ∈ tG := tG_of (List.mem_of_getElem? (i := 28) (by rfl)) (by rfl)
set_option maxRecDepth 100000 in
theorem wd_29 : (Cond.fieldLink "TrainGuard$Line" (18 : Nat) "TrainGuard$Line" "holders" "[I") ∈ tG := tG_of (List.mem_of_getElem? (i := 29) (by rfl)) (by rfl)
set_option maxRecDepth 100000 in
theorem wd_31 : (Cond.fieldLink "TrainGuard$Line" (22 : Nat) "TrainGuard$Line" "froms" "[D") ∈ tG := tG_of (List.mem_of_getElem? (i := 31) (by rfl)) (by rfl)
set_option maxRecDepth 100000 in
theorem wd_32 : (Cond.fieldLink "TrainGuard$Line" (25 : Nat) "TrainGuard$Line" "tos" "[D") ∈ tG := tG_of (List.mem_of_getElem? (i := 32) (by rfl)) (by rfl)
set_option maxRecDepth 100000 in
theorem wd_33 : (Cond.fieldLink "TrainGuard$Line" (28 : Nat) "TrainGuard$Line" "caps" "[D") ∈ tG := tG_of (List.mem_of_getElem? (i := 33) (by rfl)) (by rfl)
set_option maxRecDepth 100000 in
theorem wd_34 : (Cond.fieldLink "TrainGuard$Line" (31 : Nat) "TrainGuard$Line" "sectionCount" "I") ∈ tG := tG_of (List.mem_of_getElem? (i := 34) (by rfl)) (by rfl)
set_option maxRecDepth 100000 in
theorem wd_36 : (Cond.fieldLink "TrainGuard$Line" (35 : Nat) "TrainGuard$Line" "restrictionCount" "I") ∈ tG := tG_of (List.mem_of_getElem? (i := 36) (by rfl)) (by rfl)
set_option maxRecDepth 100000 in
theorem wd_38 : (Cond.laysFinal "TrainGuard$Line" "TrainGuard$Line" "begins" "[D") ∈ tG := tG_of (List.mem_of_getElem? (i := 38) (by rfl)) (by rfl)
set_option maxRecDepth 100000 in
theorem wd_40 : (Cond.laysFinal "TrainGuard$Line" "TrainGuard$Line" "speeds" "[D") ∈ tG := tG_of (List.mem_of_getElem? (i := 40) (by rfl)) (by rfl)
set_option maxRecDepth 100000 in
theorem wd_42 : (Cond.laysFinal "TrainGuard$Line" "TrainGuard$Line" "holders" "[I") ∈ tG := tG_of (List.mem_of_getElem? (i := 42) (by rfl)) (by rfl)
set_option maxRecDepth 100000 in
theorem wd_44 : (Cond.laysFinal "TrainGuard$Line" "TrainGuard$Line" "froms" "[D") ∈ tG := tG_of (List.mem_of_getElem? (i := 44) (by rfl)) (by rfl)
set_option maxRecDepth 100000 in
theorem wd_46 : (Cond.laysFinal "TrainGuard$Line" "TrainGuard$Line" "tos" "[D") ∈ tG := tG_of (List.mem_of_getElem? (i := 46) (by rfl)) (by rfl)
set_option maxRecDepth 100000 in
theorem wd_48 : (Cond.laysFinal "TrainGuard$Line" "TrainGuard$Line" "caps" "[D") ∈ tG := tG_of (List.mem_of_getElem? (i := 48) (by rfl)) (by rfl)
set_option maxRecDepth 100000 in
theorem wd_50 : (Cond.lays "TrainGuard$Line" "TrainGuard$Line" "sectionCount" "I") ∈ tG := tG_of (List.mem_of_getElem? (i := 50) (by rfl)) (by rfl)
set_option maxRecDepth 100000 in
theorem wd_52 : (Cond.lays "TrainGuard$Line" "TrainGuard$Line" "restrictionCount" "I") ∈ tG := tG_of (List.mem_of_getElem? (i := 52) (by rfl)) (by rfl)
set_option maxRecDepth 100000 in
theorem wd_55 : (Cond.arrayClass Jvm.ClassFile.FieldType.double) ∈ tG := tG_of (List.mem_of_getElem? (i := 55) (by rfl)) (by rfl)
set_option maxRecDepth 100000 in
theorem wd_56 : (Cond.arrayClass Jvm.ClassFile.FieldType.int) ∈ tG := tG_of (List.mem_of_getElem? (i := 56) (by rfl)) (by rfl)
set_option maxRecDepth 100000 in
theorem wd_57 : (Cond.classLink "TrainGuard" (16 : Nat) "TrainGuard$Train") ∈ tG := tG_of (List.mem_of_getElem? (i := 57) (by rfl)) (by rfl)
set_option maxRecDepth 100000 in
theorem wd_59 : (Cond.instantiable "TrainGuard$Train" (11 : Nat)) ∈ tG := tG_of (List.mem_of_getElem? (i := 59) (by rfl)) (by rfl)
set_option maxRecDepth 100000 in
theorem wd_61 : (Cond.instanceMethod ({ cls := "TrainGuard$Train", name := "<init>", desc := "()V" } : Jvm.MethodName)) ∈ tG := tG_of (List.mem_of_getElem? (i := 61) (by rfl)) (by rfl)
set_option maxRecDepth 100000 in
theorem wd_62 : (Cond.code ({ cls := "TrainGuard$Train", name := "<init>", desc := "()V" } : Jvm.MethodName) prog_4_method_1_code (1 : Nat) (Option.none : Option Jvm.ClassFile.FieldType)) ∈ tG := tG_of (List.mem_of_getElem? (i := 62) (by rfl)) (by rfl)
set_option maxRecDepth 100000 in
theorem wd_63 : (Cond.methodLink "TrainGuard$Train" (3 : Nat) ({ cls := "java/lang/Object", name := "<init>", desc := "()V" } : Jvm.MethodName)) ∈ tG := tG_of (List.mem_of_getElem? (i := 63) (by rfl)) (by rfl)
set_option maxRecDepth 100000 in
theorem wd_64 : (Cond.classLink "TrainGuard$Train" (9 : Nat) "TrainGuard$Message") ∈ tG := tG_of (List.mem_of_getElem? (i := 64) (by rfl)) (by rfl)
set_option maxRecDepth 100000 in
theorem wd_65 : (Cond.instantiable "TrainGuard$Message" (5 : Nat)) ∈ tG := tG_of (List.mem_of_getElem? (i := 65) (by rfl)) (by rfl)
set_option maxRecDepth 100000 in
theorem wd_67 : (Cond.instanceMethod ({ cls := "TrainGuard$Message", name := "<init>", desc := "()V" } : Jvm.MethodName)) ∈ tG := tG_of (List.mem_of_getElem? (i := 67) (by rfl)) (by rfl)
set_option maxRecDepth 100000 in
theorem wd_68 : (Cond.code ({ cls := "TrainGuard$Message", name := "<init>", desc := "()V" } : Jvm.MethodName) prog_3_method_1_code (1 : Nat) (Option.none : Option Jvm.ClassFile.FieldType)) ∈ tG := tG_of (List.mem_of_getElem? (i := 68) (by rfl)) (by rfl)
set_option maxRecDepth 100000 in
theorem wd_69 : (Cond.methodLink "TrainGuard$Message" (3 : Nat) ({ cls := "java/lang/Object", name := "<init>", desc := "()V" } : Jvm.MethodName)) ∈ tG := tG_of (List.mem_of_getElem? (i := 69) (by rfl)) (by rfl)
set_option maxRecDepth 100000 in
theorem wd_70 : (Cond.fieldLink "TrainGuard$Message" (9 : Nat) "TrainGuard$Message" "isWaiting" "Z") ∈ tG := tG_of (List.mem_of_getElem? (i := 70) (by rfl)) (by rfl)
set_option maxRecDepth 100000 in
theorem wd_72 : (Cond.fieldLink "TrainGuard$Message" (15 : Nat) "TrainGuard$Message" "isStop" "Z") ∈ tG := tG_of (List.mem_of_getElem? (i := 72) (by rfl)) (by rfl)
set_option maxRecDepth 100000 in
theorem wd_74 : (Cond.fieldLink "TrainGuard$Message" (18 : Nat) "TrainGuard$Message" "number" "I") ∈ tG := tG_of (List.mem_of_getElem? (i := 74) (by rfl)) (by rfl)
set_option maxRecDepth 100000 in
theorem wd_75 : (Cond.fieldLink "TrainGuard$Message" (22 : Nat) "TrainGuard$Message" "place" "D") ∈ tG := tG_of (List.mem_of_getElem? (i := 75) (by rfl)) (by rfl)
set_option maxRecDepth 100000 in
theorem wd_77 : (Cond.fieldLink "TrainGuard$Message" (30 : Nat) "TrainGuard$Message" "mark" "I") ∈ tG := tG_of (List.mem_of_getElem? (i := 77) (by rfl)) (by rfl)
set_option maxRecDepth 100000 in
theorem wd_78 : (Cond.lays "TrainGuard$Message" "TrainGuard$Message" "isWaiting" "Z") ∈ tG := tG_of (List.mem_of_getElem? (i := 78) (by rfl)) (by rfl)
set_option maxRecDepth 100000 in
theorem wd_80 : (Cond.lays "TrainGuard$Message" "TrainGuard$Message" "isStop" "Z") ∈ tG := tG_of (List.mem_of_getElem? (i := 80) (by rfl)) (by rfl)
set_option maxRecDepth 100000 in
theorem wd_82 : (Cond.lays "TrainGuard$Message" "TrainGuard$Message" "number" "I") ∈ tG := tG_of (List.mem_of_getElem? (i := 82) (by rfl)) (by rfl)
set_option maxRecDepth 100000 in
theorem wd_84 : (Cond.lays "TrainGuard$Message" "TrainGuard$Message" "place" "D") ∈ tG := tG_of (List.mem_of_getElem? (i := 84) (by rfl)) (by rfl)
set_option maxRecDepth 100000 in
theorem wd_86 : (Cond.lays "TrainGuard$Message" "TrainGuard$Message" "mark" "I") ∈ tG := tG_of (List.mem_of_getElem? (i := 86) (by rfl)) (by rfl)
set_option maxRecDepth 100000 in
theorem wd_89 : (Cond.fieldLink "TrainGuard$Train" (12 : Nat) "TrainGuard$Train" "message" "LTrainGuard$Message;") ∈ tG := tG_of (List.mem_of_getElem? (i := 89) (by rfl)) (by rfl)
set_option maxRecDepth 100000 in
theorem wd_91 : (Cond.fieldLink "TrainGuard$Train" (18 : Nat) "TrainGuard$Train" "length" "D") ∈ tG := tG_of (List.mem_of_getElem? (i := 91) (by rfl)) (by rfl)
set_option maxRecDepth 100000 in
theorem wd_92 : (Cond.fieldLink "TrainGuard$Train" (22 : Nat) "TrainGuard$Train" "brake" "D") ∈ tG := tG_of (List.mem_of_getElem? (i := 92) (by rfl)) (by rfl)
set_option maxRecDepth 100000 in
theorem wd_93 : (Cond.fieldLink "TrainGuard$Train" (31 : Nat) "TrainGuard$Train" "speed" "D") ∈ tG := tG_of (List.mem_of_getElem? (i := 93) (by rfl)) (by rfl)
set_option maxRecDepth 100000 in
theorem wd_95 : (Cond.fieldLink "TrainGuard$Train" (25 : Nat) "TrainGuard$Train" "real" "D") ∈ tG := tG_of (List.mem_of_getElem? (i := 95) (by rfl)) (by rfl)
set_option maxRecDepth 100000 in
theorem wd_97 : (Cond.fieldLink "TrainGuard$Train" (28 : Nat) "TrainGuard$Train" "measured" "D") ∈ tG := tG_of (List.mem_of_getElem? (i := 97) (by rfl)) (by rfl)
set_option maxRecDepth 100000 in
theorem wd_99 : (Cond.fieldLink "TrainGuard$Train" (53 : Nat) "TrainGuard$Train" "margin" "D") ∈ tG := tG_of (List.mem_of_getElem? (i := 99) (by rfl)) (by rfl)
set_option maxRecDepth 100000 in
theorem wd_101 : (Cond.fieldLink "TrainGuard$Train" (42 : Nat) "TrainGuard$Train" "authority" "D") ∈ tG := tG_of (List.mem_of_getElem? (i := 101) (by rfl)) (by rfl)
set_option maxRecDepth 100000 in
theorem wd_103 : (Cond.fieldLink "TrainGuard$Train" (34 : Nat) "TrainGuard$Train" "hasAuthority" "Z") ∈ tG := tG_of (List.mem_of_getElem? (i := 103) (by rfl)) (by rfl)
set_option maxRecDepth 100000 in
theorem wd_106 : (Cond.fieldLink "TrainGuard$Train" (84 : Nat) "TrainGuard$Train" "isWet" "Z") ∈ tG := tG_of (List.mem_of_getElem? (i := 106) (by rfl)) (by rfl)
set_option maxRecDepth 100000 in
theorem wd_107 : (Cond.fieldLink "TrainGuard$Train" (38 : Nat) "TrainGuard$Train" "mode" "I") ∈ tG := tG_of (List.mem_of_getElem? (i := 107) (by rfl)) (by rfl)
set_option maxRecDepth 100000 in
theorem wd_109 : (Cond.laysFinal "TrainGuard$Train" "TrainGuard$Train" "message" "LTrainGuard$Message;") ∈ tG := tG_of (List.mem_of_getElem? (i := 109) (by rfl)) (by rfl)
set_option maxRecDepth 100000 in
theorem wd_111 : (Cond.lays "TrainGuard$Train" "TrainGuard$Train" "length" "D") ∈ tG := tG_of (List.mem_of_getElem? (i := 111) (by rfl)) (by rfl)
set_option maxRecDepth 100000 in
theorem wd_113 : (Cond.lays "TrainGuard$Train" "TrainGuard$Train" "brake" "D") ∈ tG := tG_of (List.mem_of_getElem? (i := 113) (by rfl)) (by rfl)
set_option maxRecDepth 100000 in
theorem wd_115 : (Cond.lays "TrainGuard$Train" "TrainGuard$Train" "speed" "D") ∈ tG := tG_of (List.mem_of_getElem? (i := 115) (by rfl)) (by rfl)
set_option maxRecDepth 100000 in
theorem wd_117 : (Cond.lays "TrainGuard$Train" "TrainGuard$Train" "real" "D") ∈ tG := tG_of (List.mem_of_getElem? (i := 117) (by rfl)) (by rfl)
set_option maxRecDepth 100000 in
theorem wd_119 : (Cond.lays "TrainGuard$Train" "TrainGuard$Train" "measured" "D") ∈ tG := tG_of (List.mem_of_getElem? (i := 119) (by rfl)) (by rfl)
set_option maxRecDepth 100000 in
theorem wd_121 : (Cond.lays "TrainGuard$Train" "TrainGuard$Train" "margin" "D") ∈ tG := tG_of (List.mem_of_getElem? (i := 121) (by rfl)) (by rfl)
set_option maxRecDepth 100000 in
theorem wd_123 : (Cond.lays "TrainGuard$Train" "TrainGuard$Train" "authority" "D") ∈ tG := tG_of (List.mem_of_getElem? (i := 123) (by rfl)) (by rfl)
set_option maxRecDepth 100000 in
theorem wd_125 : (Cond.lays "TrainGuard$Train" "TrainGuard$Train" "hasAuthority" "Z") ∈ tG := tG_of (List.mem_of_getElem? (i := 125) (by rfl)) (by rfl)
set_option maxRecDepth 100000 in
theorem wd_127 : (Cond.lays "TrainGuard$Train" "TrainGuard$Train" "isWet" "Z") ∈ tG := tG_of (List.mem_of_getElem? (i := 127) (by rfl)) (by rfl)
set_option maxRecDepth 100000 in
theorem wd_129 : (Cond.lays "TrainGuard$Train" "TrainGuard$Train" "mode" "I") ∈ tG := tG_of (List.mem_of_getElem? (i := 129) (by rfl)) (by rfl)
set_option maxRecDepth 100000 in
theorem wd_132 : (Cond.fieldLink "TrainGuard" (10 : Nat) "TrainGuard" "line" "LTrainGuard$Line;") ∈ tG := tG_of (List.mem_of_getElem? (i := 132) (by rfl)) (by rfl)
set_option maxRecDepth 100000 in
theorem wd_133 : (Cond.fieldLink "TrainGuard" (18 : Nat) "TrainGuard" "trains" "[LTrainGuard$Train;") ∈ tG := tG_of (List.mem_of_getElem? (i := 133) (by rfl)) (by rfl)
set_option maxRecDepth 100000 in
theorem wd_134 : (Cond.fieldLink "TrainGuard" (39 : Nat) "TrainGuard" "trainCount" "I") ∈ tG := tG_of (List.mem_of_getElem? (i := 134) (by rfl)) (by rfl)
set_option maxRecDepth 100000 in
theorem wd_135 : (Cond.fieldLink "TrainGuard" (143 : Nat) "TrainGuard" "forgedCount" "I") ∈ tG := tG_of (List.mem_of_getElem? (i := 135) (by rfl)) (by rfl)
set_option maxRecDepth 100000 in
theorem wd_136 : (Cond.fieldLink "TrainGuard" (169 : Nat) "TrainGuard" "guardBrakings" "I") ∈ tG := tG_of (List.mem_of_getElem? (i := 136) (by rfl)) (by rfl)
set_option maxRecDepth 100000 in
theorem wd_137 : (Cond.fieldLink "TrainGuard" (172 : Nat) "TrainGuard" "overruns" "I") ∈ tG := tG_of (List.mem_of_getElem? (i := 137) (by rfl)) (by rfl)
set_option maxRecDepth 100000 in
theorem wd_138 : (Cond.laysFinal "TrainGuard" "TrainGuard" "line" "LTrainGuard$Line;") ∈ tG := tG_of (List.mem_of_getElem? (i := 138) (by rfl)) (by rfl)
set_option maxRecDepth 100000 in
theorem wd_140 : (Cond.laysFinal "TrainGuard" "TrainGuard" "trains" "[LTrainGuard$Train;") ∈ tG := tG_of (List.mem_of_getElem? (i := 140) (by rfl)) (by rfl)
set_option maxRecDepth 100000 in
theorem wd_142 : (Cond.lays "TrainGuard" "TrainGuard" "trainCount" "I") ∈ tG := tG_of (List.mem_of_getElem? (i := 142) (by rfl)) (by rfl)
set_option maxRecDepth 100000 in
theorem wd_144 : (Cond.lays "TrainGuard" "TrainGuard" "forgedCount" "I") ∈ tG := tG_of (List.mem_of_getElem? (i := 144) (by rfl)) (by rfl)
set_option maxRecDepth 100000 in
theorem wd_146 : (Cond.lays "TrainGuard" "TrainGuard" "guardBrakings" "I") ∈ tG := tG_of (List.mem_of_getElem? (i := 146) (by rfl)) (by rfl)
set_option maxRecDepth 100000 in
theorem wd_148 : (Cond.lays "TrainGuard" "TrainGuard" "overruns" "I") ∈ tG := tG_of (List.mem_of_getElem? (i := 148) (by rfl)) (by rfl)
set_option maxRecDepth 100000 in
theorem wd_151 : (Cond.methodLink "TrainGuardLaw" (143 : Nat) ({ cls := "TrainGuard", name := "count", desc := "(I)I" } : Jvm.MethodName)) ∈ tG := tG_of (List.mem_of_getElem? (i := 151) (by rfl)) (by rfl)
set_option maxRecDepth 100000 in
theorem wd_152 : (Cond.instanceMethod ({ cls := "TrainGuard", name := "count", desc := "(I)I" } : Jvm.MethodName)) ∈ tG := tG_of (List.mem_of_getElem? (i := 152) (by rfl)) (by rfl)
set_option maxRecDepth 100000 in
theorem wd_153 : (Cond.selects "TrainGuard" ({ cls := "TrainGuard", name := "count", desc := "(I)I" } : Jvm.MethodName) ({ cls := "TrainGuard", name := "count", desc := "(I)I" } : Jvm.MethodName)) ∈ tG := tG_of (List.mem_of_getElem? (i := 153) (by rfl)) (by rfl)
set_option maxRecDepth 100000 in
theorem wd_154 : (Cond.code ({ cls := "TrainGuard", name := "count", desc := "(I)I" } : Jvm.MethodName) prog_1_method_18_code (2 : Nat) (Option.some Jvm.ClassFile.FieldType.int)) ∈ tG := tG_of (List.mem_of_getElem? (i := 154) (by rfl)) (by rfl)
set_option maxRecDepth 100000 in
theorem wd_155 : (Cond.methodLink "TrainGuardLaw" (80 : Nat) ({ cls := "TrainGuardLaw", name := "section", desc := "(LTrainGuard;DD[J)I" } : Jvm.MethodName)) ∈ tG := tG_of (List.mem_of_getElem? (i := 155) (by rfl)) (by rfl)
set_option maxRecDepth 100000 in
theorem wd_156 : (Cond.static ({ cls := "TrainGuardLaw", name := "section", desc := "(LTrainGuard;DD[J)I" } : Jvm.MethodName)) ∈ tG := tG_of (List.mem_of_getElem? (i := 156) (by rfl)) (by rfl)
set_option maxRecDepth 100000 in
theorem wd_157 : (Cond.codeWith ({ cls := "TrainGuardLaw", name := "section", desc := "(LTrainGuard;DD[J)I" } : Jvm.MethodName) method_3_code (7 : Nat) (Option.some Jvm.ClassFile.FieldType.int) [((0 : Nat), (11 : Nat), (14 : Nat), (13 : Nat)), ((0 : Nat), (11 : Nat), (18 : Nat), (15 : Nat)), ((0 : Nat), (11 : Nat), (22 : Nat), (17 : Nat)), ((0 : Nat), (11 : Nat), (26 : Nat), (19 : Nat))]) ∈ tG := tG_of (List.mem_of_getElem? (i := 157) (by rfl)) (by rfl)
set_option maxRecDepth 100000 in
theorem wd_158 : (Cond.classLink "TrainGuardLaw" (13 : Nat) "java/lang/IllegalArgumentException") ∈ tG := tG_of (List.mem_of_getElem? (i := 158) (by rfl)) (by rfl)
set_option maxRecDepth 100000 in
theorem wd_159 : (Cond.classLink "TrainGuardLaw" (15 : Nat) "java/util/NoSuchElementException") ∈ tG := tG_of (List.mem_of_getElem? (i := 159) (by rfl)) (by rfl)
set_option maxRecDepth 100000 in
theorem wd_160 : (Cond.classLink "TrainGuardLaw" (17 : Nat) "java/lang/IllegalStateException") ∈ tG := tG_of (List.mem_of_getElem? (i := 160) (by rfl)) (by rfl)
set_option maxRecDepth 100000 in
theorem wd_161 : (Cond.classLink "TrainGuardLaw" (19 : Nat) "java/lang/UnsupportedOperationException") ∈ tG := tG_of (List.mem_of_getElem? (i := 161) (by rfl)) (by rfl)
set_option maxRecDepth 100000 in
theorem wd_162 : (Cond.methodLink "TrainGuardLaw" (7 : Nat) ({ cls := "TrainGuard", name := "section", desc := "(DD)I" } : Jvm.MethodName)) ∈ tG := tG_of (List.mem_of_getElem? (i := 162) (by rfl)) (by rfl)
set_option maxRecDepth 100000 in
theorem wd_163 : (Cond.instanceMethod ({ cls := "TrainGuard", name := "section", desc := "(DD)I" } : Jvm.MethodName)) ∈ tG := tG_of (List.mem_of_getElem? (i := 163) (by rfl)) (by rfl)
set_option maxRecDepth 100000 in
theorem wd_164 : (Cond.selects "TrainGuard" ({ cls := "TrainGuard", name := "section", desc := "(DD)I" } : Jvm.MethodName) ({ cls := "TrainGuard", name := "section", desc := "(DD)I" } : Jvm.MethodName)) ∈ tG := tG_of (List.mem_of_getElem? (i := 164) (by rfl)) (by rfl)
set_option maxRecDepth 100000 in
theorem wd_165 : (Cond.code ({ cls := "TrainGuard", name := "section", desc := "(DD)I" } : Jvm.MethodName) prog_1_method_2_code (5 : Nat) (Option.some Jvm.ClassFile.FieldType.int)) ∈ tG := tG_of (List.mem_of_getElem? (i := 165) (by rfl)) (by rfl)
set_option maxRecDepth 100000 in
theorem wd_166 : (Cond.constantDouble "TrainGuard" (23 : Nat) (4632233691727265792 : UInt64)) ∈ tG := tG_of (List.mem_of_getElem? (i := 166) (by rfl)) (by rfl)
set_option maxRecDepth 100000 in
theorem wd_167 : (Cond.constantDouble "TrainGuard" (25 : Nat) (4652007308841189376 : UInt64)) ∈ tG := tG_of (List.mem_of_getElem? (i := 167) (by rfl)) (by rfl)
set_option maxRecDepth 100000 in
theorem wd_168 : (Cond.methodLink "TrainGuard" (27 : Nat) ({ cls := "TrainGuard", name := "isWithin", desc := "(DDD)Z" } : Jvm.MethodName)) ∈ tG := tG_of (List.mem_of_getElem? (i := 168) (by rfl)) (by rfl)
set_option maxRecDepth 100000 in
theorem wd_169 : (Cond.static ({ cls := "TrainGuard", name := "isWithin", desc := "(DDD)Z" } : Jvm.MethodName)) ∈ tG := tG_of (List.mem_of_getElem? (i := 169) (by rfl)) (by rfl)
set_option maxRecDepth 100000 in
theorem wd_170 : (Cond.code ({ cls := "TrainGuard", name := "isWithin", desc := "(DDD)Z" } : Jvm.MethodName) prog_1_method_26_code (6 : Nat) (Option.some Jvm.ClassFile.FieldType.boolean)) ∈ tG := tG_of (List.mem_of_getElem? (i := 170) (by rfl)) (by rfl)
set_option maxRecDepth 100000 in
theorem wd_171 : (Cond.methodLink "TrainGuard" (31 : Nat) ({ cls := "TrainGuard", name := "isSpeed", desc := "(D)Z" } : Jvm.MethodName)) ∈ tG := tG_of (List.mem_of_getElem? (i := 171) (by rfl)) (by rfl)
set_option maxRecDepth 100000 in
theorem wd_172 : (Cond.static ({ cls := "TrainGuard", name := "isSpeed", desc := "(D)Z" } : Jvm.MethodName)) ∈ tG := tG_of (List.mem_of_getElem? (i := 172) (by rfl)) (by rfl)
set_option maxRecDepth 100000 in
theorem wd_173 : (Cond.code ({ cls := "TrainGuard", name := "isSpeed", desc := "(D)Z" } : Jvm.MethodName) prog_1_method_27_code (2 : Nat) (Option.some Jvm.ClassFile.FieldType.boolean)) ∈ tG := tG_of (List.mem_of_getElem? (i := 173) (by rfl)) (by rfl)
set_option maxRecDepth 100000 in
theorem wd_174 : (Cond.constantDouble "TrainGuard" (232 : Nat) (4633641066610819072 : UInt64)) ∈ tG := tG_of (List.mem_of_getElem? (i := 174) (by rfl)) (by rfl)
set_option maxRecDepth 100000 in
theorem wd_175 : (Cond.methodLink "TrainGuard" (35 : Nat) ({ cls := "TrainGuard", name := "demandArgument", desc := "(Z)V" } : Jvm.MethodName)) ∈ tG := tG_of (List.mem_of_getElem? (i := 175) (by rfl)) (by rfl)
set_option maxRecDepth 100000 in
theorem wd_176 : (Cond.static ({ cls := "TrainGuard", name := "demandArgument", desc := "(Z)V" } : Jvm.MethodName)) ∈ tG := tG_of (List.mem_of_getElem? (i := 176) (by rfl)) (by rfl)
set_option maxRecDepth 100000 in
theorem wd_177 : (Cond.code ({ cls := "TrainGuard", name := "demandArgument", desc := "(Z)V" } : Jvm.MethodName) prog_1_method_28_code (1 : Nat) (Option.none : Option Jvm.ClassFile.FieldType)) ∈ tG := tG_of (List.mem_of_getElem? (i := 177) (by rfl)) (by rfl)
set_option maxRecDepth 100000 in
theorem wd_178 : (Cond.classLink "TrainGuard" (234 : Nat) "java/lang/IllegalArgumentException") ∈ tG := tG_of (List.mem_of_getElem? (i := 178) (by rfl)) (by rfl)
set_option maxRecDepth 100000 in
theorem wd_179 : (Cond.instantiable "java/lang/IllegalArgumentException" (6 : Nat)) ∈ tG := tG_of (List.mem_of_getElem? (i := 179) (by rfl)) (by rfl)
set_option maxRecDepth 100000 in
theorem wd_187 : (Cond.selects "java/lang/IllegalArgumentException" ({ cls := "java/lang/Throwable", name := "fillInStackTrace", desc := "(I)Ljava/lang/Throwable;" } : Jvm.MethodName) ({ cls := "java/lang/Throwable", name := "fillInStackTrace", desc := "(I)Ljava/lang/Throwable;" } : Jvm.MethodName)) ∈ tG := tG_of (List.mem_of_getElem? (i := 187) (by rfl)) (by rfl)
set_option maxRecDepth 100000 in
theorem wd_188 : (Cond.selects "java/lang/IllegalArgumentException" ({ cls := "java/lang/Throwable", name := "fillInStackTrace", desc := "()Ljava/lang/Throwable;" } : Jvm.MethodName) ({ cls := "java/lang/Throwable", name := "fillInStackTrace", desc := "()Ljava/lang/Throwable;" } : Jvm.MethodName)) ∈ tG := tG_of (List.mem_of_getElem? (i := 188) (by rfl)) (by rfl)
set_option maxRecDepth 100000 in
theorem wd_189 : (Cond.lays "java/lang/IllegalArgumentException" "java/lang/Throwable" "cause" "Ljava/lang/Throwable;") ∈ tG := tG_of (List.mem_of_getElem? (i := 189) (by rfl)) (by rfl)
set_option maxRecDepth 100000 in
theorem wd_190 : (Cond.lays "java/lang/Throwable" "java/lang/Throwable" "cause" "Ljava/lang/Throwable;") ∈ tG := tG_of (List.mem_of_getElem? (i := 190) (by rfl)) (by rfl)
set_option maxRecDepth 100000 in
theorem wd_191 : (Cond.lays "java/lang/IllegalArgumentException" "java/lang/Throwable" "stackTrace" "[Ljava/lang/StackTraceElement;") ∈ tG := tG_of (List.mem_of_getElem? (i := 191) (by rfl)) (by rfl)
set_option maxRecDepth 100000 in
theorem wd_192 : (Cond.lays "java/lang/Throwable" "java/lang/Throwable" "stackTrace" "[Ljava/lang/StackTraceElement;") ∈ tG := tG_of (List.mem_of_getElem? (i := 192) (by rfl)) (by rfl)
set_option maxRecDepth 100000 in
theorem wd_193 : (Cond.lays "java/lang/IllegalArgumentException" "java/lang/Throwable" "suppressedExceptions" "Ljava/util/List;") ∈ tG := tG_of (List.mem_of_getElem? (i := 193) (by rfl)) (by rfl)
set_option maxRecDepth 100000 in
theorem wd_194 : (Cond.lays "java/lang/Throwable" "java/lang/Throwable" "suppressedExceptions" "Ljava/util/List;") ∈ tG := tG_of (List.mem_of_getElem? (i := 194) (by rfl)) (by rfl)
set_option maxRecDepth 100000 in
theorem wd_195 : (Cond.lays "java/lang/IllegalArgumentException" "java/lang/Throwable" "detailMessage" "Ljava/lang/String;") ∈ tG := tG_of (List.mem_of_getElem? (i := 195) (by rfl)) (by rfl)
set_option maxRecDepth 100000 in
theorem wd_196 : (Cond.lays "java/lang/Throwable" "java/lang/Throwable" "detailMessage" "Ljava/lang/String;") ∈ tG := tG_of (List.mem_of_getElem? (i := 196) (by rfl)) (by rfl)
set_option maxRecDepth 100000 in
theorem wd_197 : (Cond.lays "java/lang/IllegalArgumentException" "java/lang/Throwable" "backtrace" "Ljava/lang/Object;") ∈ tG := tG_of (List.mem_of_getElem? (i := 197) (by rfl)) (by rfl)
set_option maxRecDepth 100000 in
theorem wd_198 : (Cond.lays "java/lang/Throwable" "java/lang/Throwable" "backtrace" "Ljava/lang/Object;") ∈ tG := tG_of (List.mem_of_getElem? (i := 198) (by rfl)) (by rfl)
set_option maxRecDepth 100000 in
theorem wd_199 : (Cond.fieldLink "java/lang/Throwable" (198 : Nat) "java/lang/Throwable" "backtrace" "Ljava/lang/Object;") ∈ tG := tG_of (List.mem_of_getElem? (i := 199) (by rfl)) (by rfl)
set_option maxRecDepth 100000 in
theorem wd_201 : (Cond.instanceMethod ({ cls := "java/lang/Throwable", name := "<init>", desc := "()V" } : Jvm.MethodName)) ∈ tG := tG_of (List.mem_of_getElem? (i := 201) (by rfl)) (by rfl)
set_option maxRecDepth 100000 in
theorem wd_202 : (Cond.code ({ cls := "java/lang/Throwable", name := "<init>", desc := "()V" } : Jvm.MethodName) prog_11_method_1_code (1 : Nat) (Option.none : Option Jvm.ClassFile.FieldType)) ∈ tG := tG_of (List.mem_of_getElem? (i := 202) (by rfl)) (by rfl)
set_option maxRecDepth 100000 in
theorem wd_203 : (Cond.methodLink "java/lang/Throwable" (1 : Nat) ({ cls := "java/lang/Object", name := "<init>", desc := "()V" } : Jvm.MethodName)) ∈ tG := tG_of (List.mem_of_getElem? (i := 203) (by rfl)) (by rfl)
set_option maxRecDepth 100000 in
theorem wd_204 : (Cond.fieldLink "java/lang/Throwable" (13 : Nat) "java/lang/Throwable" "UNASSIGNED_STACK" "[Ljava/lang/StackTraceElement;") ∈ tG := tG_of (List.mem_of_getElem? (i := 204) (by rfl)) (by rfl)
set_option maxRecDepth 100000 in
theorem wd_206 : (Cond.fieldLink "java/lang/Throwable" (20 : Nat) "java/lang/Throwable" "SUPPRESSED_SENTINEL" "Ljava/util/List;") ∈ tG := tG_of (List.mem_of_getElem? (i := 206) (by rfl)) (by rfl)
set_option maxRecDepth 100000 in
theorem wd_208 : (Cond.methodLink "java/lang/Throwable" (27 : Nat) ({ cls := "java/lang/Throwable", name := "fillInStackTrace", desc := "()Ljava/lang/Throwable;" } : Jvm.MethodName)) ∈ tG := tG_of (List.mem_of_getElem? (i := 208) (by rfl)) (by rfl)
set_option maxRecDepth 100000 in
theorem wd_209 : (Cond.instanceMethod ({ cls := "java/lang/Throwable", name := "fillInStackTrace", desc := "()Ljava/lang/Throwable;" } : Jvm.MethodName)) ∈ tG := tG_of (List.mem_of_getElem? (i := 209) (by rfl)) (by rfl)
set_option maxRecDepth 100000 in
theorem wd_211 : (Cond.selects "java/lang/IllegalStateException" ({ cls := "java/lang/Throwable", name := "fillInStackTrace", desc := "()Ljava/lang/Throwable;" } : Jvm.MethodName) ({ cls := "java/lang/Throwable", name := "fillInStackTrace", desc := "()Ljava/lang/Throwable;" } : Jvm.MethodName)) ∈ tG := tG_of (List.mem_of_getElem? (i := 211) (by rfl)) (by rfl)
set_option maxRecDepth 100000 in
theorem wd_212 : (Cond.selects "java/lang/UnsupportedOperationException" ({ cls := "java/lang/Throwable", name := "fillInStackTrace", desc := "()Ljava/lang/Throwable;" } : Jvm.MethodName) ({ cls := "java/lang/Throwable", name := "fillInStackTrace", desc := "()Ljava/lang/Throwable;" } : Jvm.MethodName)) ∈ tG := tG_of (List.mem_of_getElem? (i := 212) (by rfl)) (by rfl)
set_option maxRecDepth 100000 in
theorem wd_213 : (Cond.selects "java/util/NoSuchElementException" ({ cls := "java/lang/Throwable", name := "fillInStackTrace", desc := "()Ljava/lang/Throwable;" } : Jvm.MethodName) ({ cls := "java/lang/Throwable", name := "fillInStackTrace", desc := "()Ljava/lang/Throwable;" } : Jvm.MethodName)) ∈ tG := tG_of (List.mem_of_getElem? (i := 213) (by rfl)) (by rfl)
set_option maxRecDepth 100000 in
theorem wd_215 : (Cond.methodLink "java/lang/Throwable" (202 : Nat) ({ cls := "java/lang/Throwable", name := "fillInStackTrace", desc := "(I)Ljava/lang/Throwable;" } : Jvm.MethodName)) ∈ tG := tG_of (List.mem_of_getElem? (i := 215) (by rfl)) (by rfl)
set_option maxRecDepth 100000 in
theorem wd_217 : (Cond.instanceMethod ({ cls := "java/lang/Throwable", name := "fillInStackTrace", desc := "(I)Ljava/lang/Throwable;" } : Jvm.MethodName)) ∈ tG := tG_of (List.mem_of_getElem? (i := 217) (by rfl)) (by rfl)
set_option maxRecDepth 100000 in
theorem wd_218 : (Cond.instantiable "java/lang/Throwable" (6 : Nat)) ∈ tG := tG_of (List.mem_of_getElem? (i := 218) (by rfl)) (by rfl)
set_option maxRecDepth 100000 in
theorem wd_220 : (Cond.methodLink "TrainGuard" (236 : Nat) ({ cls := "java/lang/IllegalArgumentException", name := "<init>", desc := "()V" } : Jvm.MethodName)) ∈ tG := tG_of (List.mem_of_getElem? (i := 220) (by rfl)) (by rfl)
set_option maxRecDepth 100000 in
theorem wd_221 : (Cond.instanceMethod ({ cls := "java/lang/IllegalArgumentException", name := "<init>", desc := "()V" } : Jvm.MethodName)) ∈ tG := tG_of (List.mem_of_getElem? (i := 221) (by rfl)) (by rfl)
set_option maxRecDepth 100000 in
theorem wd_222 : (Cond.code ({ cls := "java/lang/IllegalArgumentException", name := "<init>", desc := "()V" } : Jvm.MethodName) prog_8_method_1_code (1 : Nat) (Option.none : Option Jvm.ClassFile.FieldType)) ∈ tG := tG_of (List.mem_of_getElem? (i := 222) (by rfl)) (by rfl)
set_option maxRecDepth 100000 in
theorem wd_223 : (Cond.methodLink "java/lang/IllegalArgumentException" (1 : Nat) ({ cls := "java/lang/RuntimeException", name := "<init>", desc := "()V" } : Jvm.MethodName)) ∈ tG := tG_of (List.mem_of_getElem? (i := 223) (by rfl)) (by rfl)
set_option maxRecDepth 100000 in
theorem wd_224 : (Cond.instanceMethod ({ cls := "java/lang/RuntimeException", name := "<init>", desc := "()V" } : Jvm.MethodName)) ∈ tG := tG_of (List.mem_of_getElem? (i := 224) (by rfl)) (by rfl)
set_option maxRecDepth 100000 in
theorem wd_225 : (Cond.code ({ cls := "java/lang/RuntimeException", name := "<init>", desc := "()V" } : Jvm.MethodName) prog_10_method_1_code (1 : Nat) (Option.none : Option Jvm.ClassFile.FieldType)) ∈ tG := tG_of (List.mem_of_getElem? (i := 225) (by rfl)) (by rfl)
set_option maxRecDepth 100000 in
theorem wd_226 : (Cond.methodLink "java/lang/RuntimeException" (1 : Nat) ({ cls := "java/lang/Exception", name := "<init>", desc := "()V" } : Jvm.MethodName)) ∈ tG := tG_of (List.mem_of_getElem? (i := 226) (by rfl)) (by rfl)
set_option maxRecDepth 100000 in
theorem wd_227 : (Cond.instanceMethod ({ cls := "java/lang/Exception", name := "<init>", desc := "()V" } : Jvm.MethodName)) ∈ tG := tG_of (List.mem_of_getElem? (i := 227) (by rfl)) (by rfl)
set_option maxRecDepth 100000 in
theorem wd_228 : (Cond.code ({ cls := "java/lang/Exception", name := "<init>", desc := "()V" } : Jvm.MethodName) prog_7_method_1_code (1 : Nat) (Option.none : Option Jvm.ClassFile.FieldType)) ∈ tG := tG_of (List.mem_of_getElem? (i := 228) (by rfl)) (by rfl)
set_option maxRecDepth 100000 in
theorem wd_229 : (Cond.methodLink "java/lang/Exception" (1 : Nat) ({ cls := "java/lang/Throwable", name := "<init>", desc := "()V" } : Jvm.MethodName)) ∈ tG := tG_of (List.mem_of_getElem? (i := 229) (by rfl)) (by rfl)
set_option maxRecDepth 100000 in
theorem wd_230 : (Cond.fieldLink "java/lang/Throwable" (198 : Nat) "java/lang/Throwable" "backtrace" "Ljava/lang/Object;") ∈ tG := tG_of (List.mem_of_getElem? (i := 230) (by rfl)) (by rfl)
set_option maxRecDepth 100000 in
theorem wd_231 : (Cond.fieldLink "java/lang/Throwable" (7 : Nat) "java/lang/Throwable" "cause" "Ljava/lang/Throwable;") ∈ tG := tG_of (List.mem_of_getElem? (i := 231) (by rfl)) (by rfl)
set_option maxRecDepth 100000 in
theorem wd_232 : (Cond.fieldLink "java/lang/Throwable" (17 : Nat) "java/lang/Throwable" "stackTrace" "[Ljava/lang/StackTraceElement;") ∈ tG := tG_of (List.mem_of_getElem? (i := 232) (by rfl)) (by rfl)
set_option maxRecDepth 100000 in
theorem wd_233 : (Cond.fieldLink "java/lang/Throwable" (24 : Nat) "java/lang/Throwable" "suppressedExceptions" "Ljava/util/List;") ∈ tG := tG_of (List.mem_of_getElem? (i := 233) (by rfl)) (by rfl)
set_option maxRecDepth 100000 in
theorem wd_238 : (Cond.lays "java/lang/IllegalArgumentException" "java/lang/Throwable" "depth" "I") ∈ tG := tG_of (List.mem_of_getElem? (i := 238) (by rfl)) (by rfl)
set_option maxRecDepth 100000 in
theorem wd_242 : (Cond.methodLink "TrainGuard" (46 : Nat) ({ cls := "TrainGuard", name := "demandState", desc := "(Z)V" } : Jvm.MethodName)) ∈ tG := tG_of (List.mem_of_getElem? (i := 242) (by rfl)) (by rfl)
set_option maxRecDepth 100000 in
theorem wd_243 : (Cond.static ({ cls := "TrainGuard", name := "demandState", desc := "(Z)V" } : Jvm.MethodName)) ∈ tG := tG_of (List.mem_of_getElem? (i := 243) (by rfl)) (by rfl)
set_option maxRecDepth 100000 in
theorem wd_244 : (Cond.code ({ cls := "TrainGuard", name := "demandState", desc := "(Z)V" } : Jvm.MethodName) prog_1_method_30_code (1 : Nat) (Option.none : Option Jvm.ClassFile.FieldType)) ∈ tG := tG_of (List.mem_of_getElem? (i := 244) (by rfl)) (by rfl)
set_option maxRecDepth 100000 in
theorem wd_245 : (Cond.classLink "TrainGuard" (240 : Nat) "java/lang/IllegalStateException") ∈ tG := tG_of (List.mem_of_getElem? (i := 245) (by rfl)) (by rfl)
set_option maxRecDepth 100000 in
theorem wd_246 : (Cond.instantiable "java/lang/IllegalStateException" (6 : Nat)) ∈ tG := tG_of (List.mem_of_getElem? (i := 246) (by rfl)) (by rfl)
set_option maxRecDepth 100000 in
theorem wd_248 : (Cond.selects "java/lang/IllegalStateException" ({ cls := "java/lang/Throwable", name := "fillInStackTrace", desc := "(I)Ljava/lang/Throwable;" } : Jvm.MethodName) ({ cls := "java/lang/Throwable", name := "fillInStackTrace", desc := "(I)Ljava/lang/Throwable;" } : Jvm.MethodName)) ∈ tG := tG_of (List.mem_of_getElem? (i := 248) (by rfl)) (by rfl)
set_option maxRecDepth 100000 in
theorem wd_249 : (Cond.lays "java/lang/IllegalStateException" "java/lang/Throwable" "cause" "Ljava/lang/Throwable;") ∈ tG := tG_of (List.mem_of_getElem? (i := 249) (by rfl)) (by rfl)
set_option maxRecDepth 100000 in
theorem wd_250 : (Cond.lays "java/lang/IllegalStateException" "java/lang/Throwable" "stackTrace" "[Ljava/lang/StackTraceElement;") ∈ tG := tG_of (List.mem_of_getElem? (i := 250) (by rfl)) (by rfl)
set_option maxRecDepth 100000 in
theorem wd_251 : (Cond.lays "java/lang/IllegalStateException" "java/lang/Throwable" "suppressedExceptions" "Ljava/util/List;") ∈ tG := tG_of (List.mem_of_getElem? (i := 251) (by rfl)) (by rfl)
set_option maxRecDepth 100000 in
theorem wd_252 : (Cond.lays "java/lang/IllegalStateException" "java/lang/Throwable" "detailMessage" "Ljava/lang/String;") ∈ tG := tG_of (List.mem_of_getElem? (i := 252) (by rfl)) (by rfl)
set_option maxRecDepth 100000 in
theorem wd_253 : (Cond.lays "java/lang/IllegalStateException" "java/lang/Throwable" "backtrace" "Ljava/lang/Object;") ∈ tG := tG_of (List.mem_of_getElem? (i := 253) (by rfl)) (by rfl)
set_option maxRecDepth 100000 in
theorem wd_254 : (Cond.methodLink "TrainGuard" (242 : Nat) ({ cls := "java/lang/IllegalStateException", name := "<init>", desc := "()V" } : Jvm.MethodName)) ∈ tG := tG_of (List.mem_of_getElem? (i := 254) (by rfl)) (by rfl)
set_option maxRecDepth 100000 in
theorem wd_255 : (Cond.instanceMethod ({ cls := "java/lang/IllegalStateException", name := "<init>", desc := "()V" } : Jvm.MethodName)) ∈ tG := tG_of (List.mem_of_getElem? (i := 255) (by rfl)) (by rfl)
set_option maxRecDepth 100000 in
theorem wd_256 : (Cond.code ({ cls := "java/lang/IllegalStateException", name := "<init>", desc := "()V" } : Jvm.MethodName) prog_9_method_1_code (1 : Nat) (Option.none : Option Jvm.ClassFile.FieldType)) ∈ tG := tG_of (List.mem_of_getElem? (i := 256) (by rfl)) (by rfl)
set_option maxRecDepth 100000 in
theorem wd_257 : (Cond.methodLink "java/lang/IllegalStateException" (1 : Nat) ({ cls := "java/lang/RuntimeException", name := "<init>", desc := "()V" } : Jvm.MethodName)) ∈ tG := tG_of (List.mem_of_getElem? (i := 257) (by rfl)) (by rfl)
set_option maxRecDepth 100000 in
theorem wd_258 : (Cond.lays "java/lang/IllegalStateException" "java/lang/Throwable" "depth" "I") ∈ tG := tG_of (List.mem_of_getElem? (i := 258) (by rfl)) (by rfl)
set_option maxRecDepth 100000 in
theorem wd_260 : (Cond.methodLink "TrainGuard" (49 : Nat) ({ cls := "TrainGuard$Line", name := "addSection", desc := "(DD)I" } : Jvm.MethodName)) ∈ tG := tG_of (List.mem_of_getElem? (i := 260) (by rfl)) (by rfl)
set_option maxRecDepth 100000 in
theorem wd_261 : (Cond.instanceMethod ({ cls := "TrainGuard$Line", name := "addSection", desc := "(DD)I" } : Jvm.MethodName)) ∈ tG := tG_of (List.mem_of_getElem? (i := 261) (by rfl)) (by rfl)
set_option maxRecDepth 100000 in
theorem wd_262 : (Cond.selects "TrainGuard$Line" ({ cls := "TrainGuard$Line", name := "addSection", desc := "(DD)I" } : Jvm.MethodName) ({ cls := "TrainGuard$Line", name := "addSection", desc := "(DD)I" } : Jvm.MethodName)) ∈ tG := tG_of (List.mem_of_getElem? (i := 262) (by rfl)) (by rfl)
set_option maxRecDepth 100000 in
theorem wd_263 : (Cond.code ({ cls := "TrainGuard$Line", name := "addSection", desc := "(DD)I" } : Jvm.MethodName) prog_2_method_2_code (6 : Nat) (Option.some Jvm.ClassFile.FieldType.int)) ∈ tG := tG_of (List.mem_of_getElem? (i := 263) (by rfl)) (by rfl)
set_option maxRecDepth 100000 in
theorem wd_264 : (Cond.methodLink "TrainGuardLaw" (90 : Nat) ({ cls := "TrainGuardLaw", name := "restrict", desc := "(LTrainGuard;DDD[J)I" } : Jvm.MethodName)) ∈ tG := tG_of (List.mem_of_getElem? (i := 264) (by rfl)) (by rfl)
set_option maxRecDepth 100000 in
theorem wd_265 : (Cond.static ({ cls := "TrainGuardLaw", name := "restrict", desc := "(LTrainGuard;DDD[J)I" } : Jvm.MethodName)) ∈ tG := tG_of (List.mem_of_getElem? (i := 265) (by rfl)) (by rfl)
set_option maxRecDepth 100000 in
theorem wd_266 : (Cond.codeWith ({ cls := "TrainGuardLaw", name := "restrict", desc := "(LTrainGuard;DDD[J)I" } : Jvm.MethodName) method_4_code (9 : Nat) (Option.some Jvm.ClassFile.FieldType.int) [((0 : Nat), (13 : Nat), (16 : Nat), (13 : Nat)), ((0 : Nat), (13 : Nat), (20 : Nat), (15 : Nat)), ((0 : Nat), (13 : Nat), (24 : Nat), (17 : Nat)), ((0 : Nat), (13 : Nat), (28 : Nat), (19 : Nat))]) ∈ tG := tG_of (List.mem_of_getElem? (i := 266) (by rfl)) (by rfl)
set_option maxRecDepth 100000 in
theorem wd_267 : (Cond.methodLink "TrainGuardLaw" (21 : Nat) ({ cls := "TrainGuard", name := "restrict", desc := "(DDD)I" } : Jvm.MethodName)) ∈ tG := tG_of (List.mem_of_getElem? (i := 267) (by rfl)) (by rfl)
set_option maxRecDepth 100000 in
theorem wd_268 : (Cond.instanceMethod ({ cls := "TrainGuard", name := "restrict", desc := "(DDD)I" } : Jvm.MethodName)) ∈ tG := tG_of (List.mem_of_getElem? (i := 268) (by rfl)) (by rfl)
set_option maxRecDepth 100000 in
theorem wd_269 : (Cond.selects "TrainGuard" ({ cls := "TrainGuard", name := "restrict", desc := "(DDD)I" } : Jvm.MethodName) ({ cls := "TrainGuard", name := "restrict", desc := "(DDD)I" } : Jvm.MethodName)) ∈ tG := tG_of (List.mem_of_getElem? (i := 269) (by rfl)) (by rfl)
set_option maxRecDepth 100000 in
theorem wd_270 : (Cond.code ({ cls := "TrainGuard", name := "restrict", desc := "(DDD)I" } : Jvm.MethodName) prog_1_method_3_code (7 : Nat) (Option.some Jvm.ClassFile.FieldType.int)) ∈ tG := tG_of (List.mem_of_getElem? (i := 270) (by rfl)) (by rfl)
set_option maxRecDepth 100000 in
theorem wd_271 : (Cond.constantDouble "TrainGuard" (53 : Nat) (4666723172467343360 : UInt64)) ∈ tG := tG_of (List.mem_of_getElem? (i := 271) (by rfl)) (by rfl)
set_option maxRecDepth 100000 in
theorem wd_272 : (Cond.methodLink "TrainGuard" (58 : Nat) ({ cls := "TrainGuard", name := "allStandBy", desc := "()Z" } : Jvm.MethodName)) ∈ tG := tG_of (List.mem_of_getElem? (i := 272) (by rfl)) (by rfl)
set_option maxRecDepth 100000 in
theorem wd_274 : (Cond.instanceMethod ({ cls := "TrainGuard", name := "allStandBy", desc := "()Z" } : Jvm.MethodName)) ∈ tG := tG_of (List.mem_of_getElem? (i := 274) (by rfl)) (by rfl)
set_option maxRecDepth 100000 in
theorem wd_275 : (Cond.code ({ cls := "TrainGuard", name := "allStandBy", desc := "()Z" } : Jvm.MethodName) prog_1_method_20_code (2 : Nat) (Option.some Jvm.ClassFile.FieldType.boolean)) ∈ tG := tG_of (List.mem_of_getElem? (i := 275) (by rfl)) (by rfl)
set_option maxRecDepth 100000 in
theorem wd_276 : (Cond.methodLink "TrainGuard" (62 : Nat) ({ cls := "TrainGuard", name := "demandSafety", desc := "(Z)V" } : Jvm.MethodName)) ∈ tG := tG_of (List.mem_of_getElem? (i := 276) (by rfl)) (by rfl)
set_option maxRecDepth 100000 in
theorem wd_277 : (Cond.static ({ cls := "TrainGuard", name := "demandSafety", desc := "(Z)V" } : Jvm.MethodName)) ∈ tG := tG_of (List.mem_of_getElem? (i := 277) (by rfl)) (by rfl)
set_option maxRecDepth 100000 in
theorem wd_278 : (Cond.code ({ cls := "TrainGuard", name := "demandSafety", desc := "(Z)V" } : Jvm.MethodName) prog_1_method_31_code (1 : Nat) (Option.none : Option Jvm.ClassFile.FieldType)) ∈ tG := tG_of (List.mem_of_getElem? (i := 278) (by rfl)) (by rfl)
set_option maxRecDepth 100000 in
theorem wd_279 : (Cond.classLink "TrainGuard" (146 : Nat) "java/lang/UnsupportedOperationException") ∈ tG := tG_of (List.mem_of_getElem? (i := 279) (by rfl)) (by rfl)
set_option maxRecDepth 100000 in
theorem wd_280 : (Cond.instantiable "java/lang/UnsupportedOperationException" (6 : Nat)) ∈ tG := tG_of (List.mem_of_getElem? (i := 280) (by rfl)) (by rfl)
set_option maxRecDepth 100000 in
theorem wd_282 : (Cond.selects "java/lang/UnsupportedOperationException" ({ cls := "java/lang/Throwable", name := "fillInStackTrace", desc := "(I)Ljava/lang/Throwable;" } : Jvm.MethodName) ({ cls := "java/lang/Throwable", name := "fillInStackTrace", desc := "(I)Ljava/lang/Throwable;" } : Jvm.MethodName)) ∈ tG := tG_of (List.mem_of_getElem? (i := 282) (by rfl)) (by rfl)
set_option maxRecDepth 100000 in
theorem wd_283 : (Cond.lays "java/lang/UnsupportedOperationException" "java/lang/Throwable" "cause" "Ljava/lang/Throwable;") ∈ tG := tG_of (List.mem_of_getElem? (i := 283) (by rfl)) (by rfl)
set_option maxRecDepth 100000 in
theorem wd_284 : (Cond.lays "java/lang/UnsupportedOperationException" "java/lang/Throwable" "stackTrace" "[Ljava/lang/StackTraceElement;") ∈ tG := tG_of (List.mem_of_getElem? (i := 284) (by rfl)) (by rfl)
set_option maxRecDepth 100000 in
theorem wd_285 : (Cond.lays "java/lang/UnsupportedOperationException" "java/lang/Throwable" "suppressedExceptions" "Ljava/util/List;") ∈ tG := tG_of (List.mem_of_getElem? (i := 285) (by rfl)) (by rfl)
set_option maxRecDepth 100000 in
theorem wd_286 : (Cond.lays "java/lang/UnsupportedOperationException" "java/lang/Throwable" "detailMessage" "Ljava/lang/String;") ∈ tG := tG_of (List.mem_of_getElem? (i := 286) (by rfl)) (by rfl)
set_option maxRecDepth 100000 in
theorem wd_287 : (Cond.lays "java/lang/UnsupportedOperationException" "java/lang/Throwable" "backtrace" "Ljava/lang/Object;") ∈ tG := tG_of (List.mem_of_getElem? (i := 287) (by rfl)) (by rfl)
set_option maxRecDepth 100000 in
theorem wd_288 : (Cond.methodLink "TrainGuard" (148 : Nat) ({ cls := "java/lang/UnsupportedOperationException", name := "<init>", desc := "()V" } : Jvm.MethodName)) ∈ tG := tG_of (List.mem_of_getElem? (i := 288) (by rfl)) (by rfl)
set_option maxRecDepth 100000 in
theorem wd_289 : (Cond.instanceMethod ({ cls := "java/lang/UnsupportedOperationException", name := "<init>", desc := "()V" } : Jvm.MethodName)) ∈ tG := tG_of (List.mem_of_getElem? (i := 289) (by rfl)) (by rfl)
set_option maxRecDepth 100000 in
theorem wd_290 : (Cond.code ({ cls := "java/lang/UnsupportedOperationException", name := "<init>", desc := "()V" } : Jvm.MethodName) prog_12_method_1_code (1 : Nat) (Option.none : Option Jvm.ClassFile.FieldType)) ∈ tG := tG_of (List.mem_of_getElem? (i := 290) (by rfl)) (by rfl)
set_option maxRecDepth 100000 in
theorem wd_291 : (Cond.methodLink "java/lang/UnsupportedOperationException" (1 : Nat) ({ cls := "java/lang/RuntimeException", name := "<init>", desc := "()V" } : Jvm.MethodName)) ∈ tG := tG_of (List.mem_of_getElem? (i := 291) (by rfl)) (by rfl)
set_option maxRecDepth 100000 in
theorem wd_292 : (Cond.lays "java/lang/UnsupportedOperationException" "java/lang/Throwable" "depth" "I") ∈ tG := tG_of (List.mem_of_getElem? (i := 292) (by rfl)) (by rfl)
set_option maxRecDepth 100000 in
theorem wd_294 : (Cond.methodLink "TrainGuard" (65 : Nat) ({ cls := "TrainGuard$Line", name := "addRestriction", desc := "(DDD)I" } : Jvm.MethodName)) ∈ tG := tG_of (List.mem_of_getElem? (i := 294) (by rfl)) (by rfl)
set_option maxRecDepth 100000 in
theorem wd_295 : (Cond.instanceMethod ({ cls := "TrainGuard$Line", name := "addRestriction", desc := "(DDD)I" } : Jvm.MethodName)) ∈ tG := tG_of (List.mem_of_getElem? (i := 295) (by rfl)) (by rfl)
set_option maxRecDepth 100000 in
theorem wd_296 : (Cond.selects "TrainGuard$Line" ({ cls := "TrainGuard$Line", name := "addRestriction", desc := "(DDD)I" } : Jvm.MethodName) ({ cls := "TrainGuard$Line", name := "addRestriction", desc := "(DDD)I" } : Jvm.MethodName)) ∈ tG := tG_of (List.mem_of_getElem? (i := 296) (by rfl)) (by rfl)
set_option maxRecDepth 100000 in
theorem wd_297 : (Cond.code ({ cls := "TrainGuard$Line", name := "addRestriction", desc := "(DDD)I" } : Jvm.MethodName) prog_2_method_3_code (7 : Nat) (Option.some Jvm.ClassFile.FieldType.int)) ∈ tG := tG_of (List.mem_of_getElem? (i := 297) (by rfl)) (by rfl)
set_option maxRecDepth 100000 in
theorem wd_298 : (Cond.methodLink "TrainGuardLaw" (94 : Nat) ({ cls := "TrainGuardLaw", name := "release", desc := "(LTrainGuard;I[J)I" } : Jvm.MethodName)) ∈ tG := tG_of (List.mem_of_getElem? (i := 298) (by rfl)) (by rfl)
set_option maxRecDepth 100000 in
theorem wd_299 : (Cond.static ({ cls := "TrainGuardLaw", name := "release", desc := "(LTrainGuard;I[J)I" } : Jvm.MethodName)) ∈ tG := tG_of (List.mem_of_getElem? (i := 299) (by rfl)) (by rfl)
set_option maxRecDepth 100000 in
theorem wd_300 : (Cond.codeWith ({ cls := "TrainGuardLaw", name := "release", desc := "(LTrainGuard;I[J)I" } : Jvm.MethodName) method_5_code (4 : Nat) (Option.some Jvm.ClassFile.FieldType.int) [((0 : Nat), (9 : Nat), (12 : Nat), (13 : Nat)), ((0 : Nat), (9 : Nat), (15 : Nat), (15 : Nat)), ((0 : Nat), (9 : Nat), (18 : Nat), (17 : Nat)), ((0 : Nat), (9 : Nat), (21 : Nat), (19 : Nat))]) ∈ tG := tG_of (List.mem_of_getElem? (i := 300) (by rfl)) (by rfl)
set_option maxRecDepth 100000 in
theorem wd_301 : (Cond.methodLink "TrainGuardLaw" (25 : Nat) ({ cls := "TrainGuard", name := "release", desc := "(I)I" } : Jvm.MethodName)) ∈ tG := tG_of (List.mem_of_getElem? (i := 301) (by rfl)) (by rfl)
set_option maxRecDepth 100000 in
theorem wd_302 : (Cond.instanceMethod ({ cls := "TrainGuard", name := "release", desc := "(I)I" } : Jvm.MethodName)) ∈ tG := tG_of (List.mem_of_getElem? (i := 302) (by rfl)) (by rfl)
set_option maxRecDepth 100000 in
theorem wd_303 : (Cond.selects "TrainGuard" ({ cls := "TrainGuard", name := "release", desc := "(I)I" } : Jvm.MethodName) ({ cls := "TrainGuard", name := "release", desc := "(I)I" } : Jvm.MethodName)) ∈ tG := tG_of (List.mem_of_getElem? (i := 303) (by rfl)) (by rfl)
set_option maxRecDepth 100000 in
theorem wd_304 : (Cond.code ({ cls := "TrainGuard", name := "release", desc := "(I)I" } : Jvm.MethodName) prog_1_method_4_code (2 : Nat) (Option.some Jvm.ClassFile.FieldType.int)) ∈ tG := tG_of (List.mem_of_getElem? (i := 304) (by rfl)) (by rfl)
set_option maxRecDepth 100000 in
theorem wd_305 : (Cond.methodLink "TrainGuard" (69 : Nat) ({ cls := "TrainGuard$Line", name := "removeRestriction", desc := "(I)I" } : Jvm.MethodName)) ∈ tG := tG_of (List.mem_of_getElem? (i := 305) (by rfl)) (by rfl)
set_option maxRecDepth 100000 in
theorem wd_306 : (Cond.instanceMethod ({ cls := "TrainGuard$Line", name := "removeRestriction", desc := "(I)I" } : Jvm.MethodName)) ∈ tG := tG_of (List.mem_of_getElem? (i := 306) (by rfl)) (by rfl)
set_option maxRecDepth 100000 in
theorem wd_307 : (Cond.selects "TrainGuard$Line" ({ cls := "TrainGuard$Line", name := "removeRestriction", desc := "(I)I" } : Jvm.MethodName) ({ cls := "TrainGuard$Line", name := "removeRestriction", desc := "(I)I" } : Jvm.MethodName)) ∈ tG := tG_of (List.mem_of_getElem? (i := 307) (by rfl)) (by rfl)
set_option maxRecDepth 100000 in
theorem wd_308 : (Cond.code ({ cls := "TrainGuard$Line", name := "removeRestriction", desc := "(I)I" } : Jvm.MethodName) prog_2_method_4_code (3 : Nat) (Option.some Jvm.ClassFile.FieldType.int)) ∈ tG := tG_of (List.mem_of_getElem? (i := 308) (by rfl)) (by rfl)
set_option maxRecDepth 100000 in
theorem wd_309 : (Cond.methodLink "TrainGuardLaw" (98 : Nat) ({ cls := "TrainGuardLaw", name := "train", desc := "(LTrainGuard;IDD[J)I" } : Jvm.MethodName)) ∈ tG := tG_of (List.mem_of_getElem? (i := 309) (by rfl)) (by rfl)
set_option maxRecDepth 100000 in
theorem wd_310 : (Cond.static ({ cls := "TrainGuardLaw", name := "train", desc := "(LTrainGuard;IDD[J)I" } : Jvm.MethodName)) ∈ tG := tG_of (List.mem_of_getElem? (i := 310) (by rfl)) (by rfl)
set_option maxRecDepth 100000 in
theorem wd_311 : (Cond.codeWith ({ cls := "TrainGuardLaw", name := "train", desc := "(LTrainGuard;IDD[J)I" } : Jvm.MethodName) method_6_code (8 : Nat) (Option.some Jvm.ClassFile.FieldType.int) [((0 : Nat), (13 : Nat), (16 : Nat), (13 : Nat)), ((0 : Nat), (13 : Nat), (20 : Nat), (15 : Nat)), ((0 : Nat), (13 : Nat), (24 : Nat), (17 : Nat)), ((0 : Nat), (13 : Nat), (28 : Nat), (19 : Nat))]) ∈ tG := tG_of (List.mem_of_getElem? (i := 311) (by rfl)) (by rfl)
set_option maxRecDepth 100000 in
theorem wd_312 : (Cond.methodLink "TrainGuardLaw" (29 : Nat) ({ cls := "TrainGuard", name := "train", desc := "(IDD)I" } : Jvm.MethodName)) ∈ tG := tG_of (List.mem_of_getElem? (i := 312) (by rfl)) (by rfl)
set_option maxRecDepth 100000 in
theorem wd_313 : (Cond.instanceMethod ({ cls := "TrainGuard", name := "train", desc := "(IDD)I" } : Jvm.MethodName)) ∈ tG := tG_of (List.mem_of_getElem? (i := 313) (by rfl)) (by rfl)
set_option maxRecDepth 100000 in
theorem wd_314 : (Cond.selects "TrainGuard" ({ cls := "TrainGuard", name := "train", desc := "(IDD)I" } : Jvm.MethodName) ({ cls := "TrainGuard", name := "train", desc := "(IDD)I" } : Jvm.MethodName)) ∈ tG := tG_of (List.mem_of_getElem? (i := 314) (by rfl)) (by rfl)
set_option maxRecDepth 100000 in
theorem wd_315 : (Cond.code ({ cls := "TrainGuard", name := "train", desc := "(IDD)I" } : Jvm.MethodName) prog_1_method_5_code (7 : Nat) (Option.some Jvm.ClassFile.FieldType.int)) ∈ tG := tG_of (List.mem_of_getElem? (i := 315) (by rfl)) (by rfl)
set_option maxRecDepth 100000 in
theorem wd_316 : (Cond.methodLink "TrainGuard" (73 : Nat) ({ cls := "TrainGuard$Line", name := "hasSection", desc := "(I)Z" } : Jvm.MethodName)) ∈ tG := tG_of (List.mem_of_getElem? (i := 316) (by rfl)) (by rfl)
set_option maxRecDepth 100000 in
theorem wd_317 : (Cond.instanceMethod ({ cls := "TrainGuard$Line", name := "hasSection", desc := "(I)Z" } : Jvm.MethodName)) ∈ tG := tG_of (List.mem_of_getElem? (i := 317) (by rfl)) (by rfl)
set_option maxRecDepth 100000 in
theorem wd_318 : (Cond.selects "TrainGuard$Line" ({ cls := "TrainGuard$Line", name := "hasSection", desc := "(I)Z" } : Jvm.MethodName) ({ cls := "TrainGuard$Line", name := "hasSection", desc := "(I)Z" } : Jvm.MethodName)) ∈ tG := tG_of (List.mem_of_getElem? (i := 318) (by rfl)) (by rfl)
set_option maxRecDepth 100000 in
theorem wd_319 : (Cond.code ({ cls := "TrainGuard$Line", name := "hasSection", desc := "(I)Z" } : Jvm.MethodName) prog_2_method_5_code (2 : Nat) (Option.some Jvm.ClassFile.FieldType.boolean)) ∈ tG := tG_of (List.mem_of_getElem? (i := 319) (by rfl)) (by rfl)
set_option maxRecDepth 100000 in
theorem wd_320 : (Cond.constantDouble "TrainGuard" (77 : Nat) (4621819117588971520 : UInt64)) ∈ tG := tG_of (List.mem_of_getElem? (i := 320) (by rfl)) (by rfl)
set_option maxRecDepth 100000 in
theorem wd_321 : (Cond.constantDouble "TrainGuard" (79 : Nat) (4602678819172646912 : UInt64)) ∈ tG := tG_of (List.mem_of_getElem? (i := 321) (by rfl)) (by rfl)
set_option maxRecDepth 100000 in
theorem wd_322 : (Cond.constantDouble "TrainGuard" (81 : Nat) (4611686018427387904 : UInt64)) ∈ tG := tG_of (List.mem_of_getElem? (i := 322) (by rfl)) (by rfl)
set_option maxRecDepth 100000 in
theorem wd_323 : (Cond.methodLink "TrainGuard" (83 : Nat) ({ cls := "TrainGuard$Line", name := "lengthOf", desc := "(I)D" } : Jvm.MethodName)) ∈ tG := tG_of (List.mem_of_getElem? (i := 323) (by rfl)) (by rfl)
set_option maxRecDepth 100000 in
theorem wd_324 : (Cond.instanceMethod ({ cls := "TrainGuard$Line", name := "lengthOf", desc := "(I)D" } : Jvm.MethodName)) ∈ tG := tG_of (List.mem_of_getElem? (i := 324) (by rfl)) (by rfl)
set_option maxRecDepth 100000 in
theorem wd_325 : (Cond.selects "TrainGuard$Line" ({ cls := "TrainGuard$Line", name := "lengthOf", desc := "(I)D" } : Jvm.MethodName) ({ cls := "TrainGuard$Line", name := "lengthOf", desc := "(I)D" } : Jvm.MethodName)) ∈ tG := tG_of (List.mem_of_getElem? (i := 325) (by rfl)) (by rfl)
set_option maxRecDepth 100000 in
theorem wd_326 : (Cond.code ({ cls := "TrainGuard$Line", name := "lengthOf", desc := "(I)D" } : Jvm.MethodName) prog_2_method_8_code (2 : Nat) (Option.some Jvm.ClassFile.FieldType.double)) ∈ tG := tG_of (List.mem_of_getElem? (i := 326) (by rfl)) (by rfl)
set_option maxRecDepth 100000 in
theorem wd_327 : (Cond.methodLink "TrainGuard$Line" (38 : Nat) ({ cls := "TrainGuard$Line", name := "endOf", desc := "(I)D" } : Jvm.MethodName)) ∈ tG := tG_of (List.mem_of_getElem? (i := 327) (by rfl)) (by rfl)
set_option maxRecDepth 100000 in
theorem wd_328 : (Cond.instanceMethod ({ cls := "TrainGuard$Line", name := "endOf", desc := "(I)D" } : Jvm.MethodName)) ∈ tG := tG_of (List.mem_of_getElem? (i := 328) (by rfl)) (by rfl)
set_option maxRecDepth 100000 in
theorem wd_329 : (Cond.selects "TrainGuard$Line" ({ cls := "TrainGuard$Line", name := "endOf", desc := "(I)D" } : Jvm.MethodName) ({ cls := "TrainGuard$Line", name := "endOf", desc := "(I)D" } : Jvm.MethodName)) ∈ tG := tG_of (List.mem_of_getElem? (i := 329) (by rfl)) (by rfl)
set_option maxRecDepth 100000 in
theorem wd_330 : (Cond.code ({ cls := "TrainGuard$Line", name := "endOf", desc := "(I)D" } : Jvm.MethodName) prog_2_method_7_code (2 : Nat) (Option.some Jvm.ClassFile.FieldType.double)) ∈ tG := tG_of (List.mem_of_getElem? (i := 330) (by rfl)) (by rfl)
set_option maxRecDepth 100000 in
theorem wd_331 : (Cond.methodLink "TrainGuard$Line" (42 : Nat) ({ cls := "TrainGuard$Line", name := "beginOf", desc := "(I)D" } : Jvm.MethodName)) ∈ tG := tG_of (List.mem_of_getElem? (i := 331) (by rfl)) (by rfl)
set_option maxRecDepth 100000 in
theorem wd_332 : (Cond.instanceMethod ({ cls := "TrainGuard$Line", name := "beginOf", desc := "(I)D" } : Jvm.MethodName)) ∈ tG := tG_of (List.mem_of_getElem? (i := 332) (by rfl)) (by rfl)
set_option maxRecDepth 100000 in
theorem wd_333 : (Cond.selects "TrainGuard$Line" ({ cls := "TrainGuard$Line", name := "beginOf", desc := "(I)D" } : Jvm.MethodName) ({ cls := "TrainGuard$Line", name := "beginOf", desc := "(I)D" } : Jvm.MethodName)) ∈ tG := tG_of (List.mem_of_getElem? (i := 333) (by rfl)) (by rfl)
set_option maxRecDepth 100000 in
theorem wd_334 : (Cond.code ({ cls := "TrainGuard$Line", name := "beginOf", desc := "(I)D" } : Jvm.MethodName) prog_2_method_6_code (2 : Nat) (Option.some Jvm.ClassFile.FieldType.double)) ∈ tG := tG_of (List.mem_of_getElem? (i := 334) (by rfl)) (by rfl)
set_option maxRecDepth 100000 in
theorem wd_335 : (Cond.methodLink "TrainGuard" (87 : Nat) ({ cls := "TrainGuard", name := "isFreeFor", desc := "(II)Z" } : Jvm.MethodName)) ∈ tG := tG_of (List.mem_of_getElem? (i := 335) (by rfl)) (by rfl)
set_option maxRecDepth 100000 in
theorem wd_337 : (Cond.instanceMethod ({ cls := "TrainGuard", name := "isFreeFor", desc := "(II)Z" } : Jvm.MethodName)) ∈ tG := tG_of (List.mem_of_getElem? (i := 337) (by rfl)) (by rfl)
set_option maxRecDepth 100000 in
theorem wd_338 : (Cond.code ({ cls := "TrainGuard", name := "isFreeFor", desc := "(II)Z" } : Jvm.MethodName) prog_1_method_24_code (4 : Nat) (Option.some Jvm.ClassFile.FieldType.boolean)) ∈ tG := tG_of (List.mem_of_getElem? (i := 338) (by rfl)) (by rfl)
set_option maxRecDepth 100000 in
theorem wd_339 : (Cond.methodLink "TrainGuard" (224 : Nat) ({ cls := "TrainGuard", name := "firstTrainIn", desc := "(II)I" } : Jvm.MethodName)) ∈ tG := tG_of (List.mem_of_getElem? (i := 339) (by rfl)) (by rfl)
set_option maxRecDepth 100000 in
theorem wd_341 : (Cond.instanceMethod ({ cls := "TrainGuard", name := "firstTrainIn", desc := "(II)I" } : Jvm.MethodName)) ∈ tG := tG_of (List.mem_of_getElem? (i := 341) (by rfl)) (by rfl)
set_option maxRecDepth 100000 in
theorem wd_342 : (Cond.code ({ cls := "TrainGuard", name := "firstTrainIn", desc := "(II)I" } : Jvm.MethodName) prog_1_method_23_code (4 : Nat) (Option.some Jvm.ClassFile.FieldType.int)) ∈ tG := tG_of (List.mem_of_getElem? (i := 342) (by rfl)) (by rfl)
set_option maxRecDepth 100000 in
theorem wd_343 : (Cond.methodLink "TrainGuard" (228 : Nat) ({ cls := "TrainGuard", name := "isIn", desc := "(LTrainGuard$Train;I)Z" } : Jvm.MethodName)) ∈ tG := tG_of (List.mem_of_getElem? (i := 343) (by rfl)) (by rfl)
set_option maxRecDepth 100000 in
theorem wd_345 : (Cond.instanceMethod ({ cls := "TrainGuard", name := "isIn", desc := "(LTrainGuard$Train;I)Z" } : Jvm.MethodName)) ∈ tG := tG_of (List.mem_of_getElem? (i := 345) (by rfl)) (by rfl)
set_option maxRecDepth 100000 in
theorem wd_346 : (Cond.code ({ cls := "TrainGuard", name := "isIn", desc := "(LTrainGuard$Train;I)Z" } : Jvm.MethodName) prog_1_method_21_code (3 : Nat) (Option.some Jvm.ClassFile.FieldType.boolean)) ∈ tG := tG_of (List.mem_of_getElem? (i := 346) (by rfl)) (by rfl)
set_option maxRecDepth 100000 in
theorem wd_347 : (Cond.methodLink "TrainGuard" (91 : Nat) ({ cls := "TrainGuard$Line", name := "beginOf", desc := "(I)D" } : Jvm.MethodName)) ∈ tG := tG_of (List.mem_of_getElem? (i := 347) (by rfl)) (by rfl)
set_option maxRecDepth 100000 in
theorem wd_348 : (Cond.methodLink "TrainGuard" (121 : Nat) ({ cls := "TrainGuard$Line", name := "endOf", desc := "(I)D" } : Jvm.MethodName)) ∈ tG := tG_of (List.mem_of_getElem? (i := 348) (by rfl)) (by rfl)
set_option maxRecDepth 100000 in
theorem wd_349 : (Cond.methodLink "TrainGuard" (175 : Nat) ({ cls := "TrainGuard$Train", name := "rear", desc := "()D" } : Jvm.MethodName)) ∈ tG := tG_of (List.mem_of_getElem? (i := 349) (by rfl)) (by rfl)
set_option maxRecDepth 100000 in
theorem wd_350 : (Cond.instanceMethod ({ cls := "TrainGuard$Train", name := "rear", desc := "()D" } : Jvm.MethodName)) ∈ tG := tG_of (List.mem_of_getElem? (i := 350) (by rfl)) (by rfl)
set_option maxRecDepth 100000 in
theorem wd_351 : (Cond.selects "TrainGuard$Train" ({ cls := "TrainGuard$Train", name := "rear", desc := "()D" } : Jvm.MethodName) ({ cls := "TrainGuard$Train", name := "rear", desc := "()D" } : Jvm.MethodName)) ∈ tG := tG_of (List.mem_of_getElem? (i := 351) (by rfl)) (by rfl)
set_option maxRecDepth 100000 in
theorem wd_352 : (Cond.code ({ cls := "TrainGuard$Train", name := "rear", desc := "()D" } : Jvm.MethodName) prog_4_method_3_code (1 : Nat) (Option.some Jvm.ClassFile.FieldType.double)) ∈ tG := tG_of (List.mem_of_getElem? (i := 352) (by rfl)) (by rfl)
set_option maxRecDepth 100000 in
theorem wd_353 : (Cond.methodLink "TrainGuard" (94 : Nat) ({ cls := "TrainGuard$Train", name := "putAt", desc := "(DDD)V" } : Jvm.MethodName)) ∈ tG := tG_of (List.mem_of_getElem? (i := 353) (by rfl)) (by rfl)
set_option maxRecDepth 100000 in
theorem wd_354 : (Cond.instanceMethod ({ cls := "TrainGuard$Train", name := "putAt", desc := "(DDD)V" } : Jvm.MethodName)) ∈ tG := tG_of (List.mem_of_getElem? (i := 354) (by rfl)) (by rfl)
set_option maxRecDepth 100000 in
theorem wd_355 : (Cond.selects "TrainGuard$Train" ({ cls := "TrainGuard$Train", name := "putAt", desc := "(DDD)V" } : Jvm.MethodName) ({ cls := "TrainGuard$Train", name := "putAt", desc := "(DDD)V" } : Jvm.MethodName)) ∈ tG := tG_of (List.mem_of_getElem? (i := 355) (by rfl)) (by rfl)
set_option maxRecDepth 100000 in
theorem wd_356 : (Cond.code ({ cls := "TrainGuard$Train", name := "putAt", desc := "(DDD)V" } : Jvm.MethodName) prog_4_method_2_code (7 : Nat) (Option.none : Option Jvm.ClassFile.FieldType)) ∈ tG := tG_of (List.mem_of_getElem? (i := 356) (by rfl)) (by rfl)
set_option maxRecDepth 100000 in
theorem wd_357 : (Cond.methodLink "TrainGuardLaw" (102 : Nat) ({ cls := "TrainGuardLaw", name := "start", desc := "(LTrainGuard;I[J)I" } : Jvm.MethodName)) ∈ tG := tG_of (List.mem_of_getElem? (i := 357) (by rfl)) (by rfl)
set_option maxRecDepth 100000 in
theorem wd_358 : (Cond.static ({ cls := "TrainGuardLaw", name := "start", desc := "(LTrainGuard;I[J)I" } : Jvm.MethodName)) ∈ tG := tG_of (List.mem_of_getElem? (i := 358) (by rfl)) (by rfl)
set_option maxRecDepth 100000 in
theorem wd_359 : (Cond.codeWith ({ cls := "TrainGuardLaw", name := "start", desc := "(LTrainGuard;I[J)I" } : Jvm.MethodName) method_7_code (4 : Nat) (Option.some Jvm.ClassFile.FieldType.int) [((0 : Nat), (9 : Nat), (12 : Nat), (13 : Nat)), ((0 : Nat), (9 : Nat), (15 : Nat), (15 : Nat)), ((0 : Nat), (9 : Nat), (18 : Nat), (17 : Nat)), ((0 : Nat), (9 : Nat), (21 : Nat), (19 : Nat))]) ∈ tG := tG_of (List.mem_of_getElem? (i := 359) (by rfl)) (by rfl)
set_option maxRecDepth 100000 in
theorem wd_360 : (Cond.methodLink "TrainGuardLaw" (33 : Nat) ({ cls := "TrainGuard", name := "start", desc := "(I)I" } : Jvm.MethodName)) ∈ tG := tG_of (List.mem_of_getElem? (i := 360) (by rfl)) (by rfl)
set_option maxRecDepth 100000 in
theorem wd_361 : (Cond.instanceMethod ({ cls := "TrainGuard", name := "start", desc := "(I)I" } : Jvm.MethodName)) ∈ tG := tG_of (List.mem_of_getElem? (i := 361) (by rfl)) (by rfl)
set_option maxRecDepth 100000 in
theorem wd_362 : (Cond.selects "TrainGuard" ({ cls := "TrainGuard", name := "start", desc := "(I)I" } : Jvm.MethodName) ({ cls := "TrainGuard", name := "start", desc := "(I)I" } : Jvm.MethodName)) ∈ tG := tG_of (List.mem_of_getElem? (i := 362) (by rfl)) (by rfl)
set_option maxRecDepth 100000 in
theorem wd_363 : (Cond.code ({ cls := "TrainGuard", name := "start", desc := "(I)I" } : Jvm.MethodName) prog_1_method_6_code (3 : Nat) (Option.some Jvm.ClassFile.FieldType.int)) ∈ tG := tG_of (List.mem_of_getElem? (i := 363) (by rfl)) (by rfl)
set_option maxRecDepth 100000 in
theorem wd_364 : (Cond.methodLink "TrainGuard" (102 : Nat) ({ cls := "TrainGuard", name := "trainNumbered", desc := "(I)LTrainGuard$Train;" } : Jvm.MethodName)) ∈ tG := tG_of (List.mem_of_getElem? (i := 364) (by rfl)) (by rfl)
set_option maxRecDepth 100000 in
theorem wd_366 : (Cond.instanceMethod ({ cls := "TrainGuard", name := "trainNumbered", desc := "(I)LTrainGuard$Train;" } : Jvm.MethodName)) ∈ tG := tG_of (List.mem_of_getElem? (i := 366) (by rfl)) (by rfl)
set_option maxRecDepth 100000 in
theorem wd_367 : (Cond.code ({ cls := "TrainGuard", name := "trainNumbered", desc := "(I)LTrainGuard$Train;" } : Jvm.MethodName) prog_1_method_19_code (2 : Nat) (Option.some (Jvm.ClassFile.FieldType.object "TrainGuard$Train"))) ∈ tG := tG_of (List.mem_of_getElem? (i := 367) (by rfl)) (by rfl)
set_option maxRecDepth 100000 in
theorem wd_368 : (Cond.methodLink "TrainGuard" (109 : Nat) ({ cls := "TrainGuard$Train", name := "isSafeNow", desc := "(LTrainGuard$Line;)Z" } : Jvm.MethodName)) ∈ tG := tG_of (List.mem_of_getElem? (i := 368) (by rfl)) (by rfl)
set_option maxRecDepth 100000 in
theorem wd_369 : (Cond.instanceMethod ({ cls := "TrainGuard$Train", name := "isSafeNow", desc := "(LTrainGuard$Line;)Z" } : Jvm.MethodName)) ∈ tG := tG_of (List.mem_of_getElem? (i := 369) (by rfl)) (by rfl)
set_option maxRecDepth 100000 in
theorem wd_370 : (Cond.selects "TrainGuard$Train" ({ cls := "TrainGuard$Train", name := "isSafeNow", desc := "(LTrainGuard$Line;)Z" } : Jvm.MethodName) ({ cls := "TrainGuard$Train", name := "isSafeNow", desc := "(LTrainGuard$Line;)Z" } : Jvm.MethodName)) ∈ tG := tG_of (List.mem_of_getElem? (i := 370) (by rfl)) (by rfl)
set_option maxRecDepth 100000 in
theorem wd_371 : (Cond.code ({ cls := "TrainGuard$Train", name := "isSafeNow", desc := "(LTrainGuard$Line;)Z" } : Jvm.MethodName) prog_4_method_8_code (2 : Nat) (Option.some Jvm.ClassFile.FieldType.boolean)) ∈ tG := tG_of (List.mem_of_getElem? (i := 371) (by rfl)) (by rfl)
set_option maxRecDepth 100000 in
theorem wd_372 : (Cond.methodLink "TrainGuard$Train" (60 : Nat) ({ cls := "TrainGuard$Train", name := "isSafeState", desc := "(LTrainGuard$Line;DDD)Z" } : Jvm.MethodName)) ∈ tG := tG_of (List.mem_of_getElem? (i := 372) (by rfl)) (by rfl)
set_option maxRecDepth 100000 in
theorem wd_374 : (Cond.instanceMethod ({ cls := "TrainGuard$Train", name := "isSafeState", desc := "(LTrainGuard$Line;DDD)Z" } : Jvm.MethodName)) ∈ tG := tG_of (List.mem_of_getElem? (i := 374) (by rfl)) (by rfl)
set_option maxRecDepth 100000 in
theorem wd_375 : (Cond.code ({ cls := "TrainGuard$Train", name := "isSafeState", desc := "(LTrainGuard$Line;DDD)Z" } : Jvm.MethodName) prog_4_method_17_code (10 : Nat) (Option.some Jvm.ClassFile.FieldType.boolean)) ∈ tG := tG_of (List.mem_of_getElem? (i := 375) (by rfl)) (by rfl)
set_option maxRecDepth 100000 in
theorem wd_376 : (Cond.methodLink "TrainGuard$Train" (56 : Nat) ({ cls := "TrainGuard$Train", name := "isSafe", desc := "(DDDD)Z" } : Jvm.MethodName)) ∈ tG := tG_of (List.mem_of_getElem? (i := 376) (by rfl)) (by rfl)
set_option maxRecDepth 100000 in
theorem wd_378 : (Cond.instanceMethod ({ cls := "TrainGuard$Train", name := "isSafe", desc := "(DDDD)Z" } : Jvm.MethodName)) ∈ tG := tG_of (List.mem_of_getElem? (i := 378) (by rfl)) (by rfl)
set_option maxRecDepth 100000 in
theorem wd_379 : (Cond.code ({ cls := "TrainGuard$Train", name := "isSafe", desc := "(DDDD)Z" } : Jvm.MethodName) prog_4_method_16_code (9 : Nat) (Option.some Jvm.ClassFile.FieldType.boolean)) ∈ tG := tG_of (List.mem_of_getElem? (i := 379) (by rfl)) (by rfl)
set_option maxRecDepth 100000 in
theorem wd_380 : (Cond.constantDouble "TrainGuard$Train" (101 : Nat) (4607745368753438720 : UInt64)) ∈ tG := tG_of (List.mem_of_getElem? (i := 380) (by rfl)) (by rfl)
set_option maxRecDepth 100000 in
theorem wd_381 : (Cond.methodLink "TrainGuard$Train" (103 : Nat) ({ cls := "TrainGuard$Train", name := "brakingWay", desc := "(DD)D" } : Jvm.MethodName)) ∈ tG := tG_of (List.mem_of_getElem? (i := 381) (by rfl)) (by rfl)
set_option maxRecDepth 100000 in
theorem wd_382 : (Cond.instanceMethod ({ cls := "TrainGuard$Train", name := "brakingWay", desc := "(DD)D" } : Jvm.MethodName)) ∈ tG := tG_of (List.mem_of_getElem? (i := 382) (by rfl)) (by rfl)
set_option maxRecDepth 100000 in
theorem wd_383 : (Cond.selects "TrainGuard$Train" ({ cls := "TrainGuard$Train", name := "brakingWay", desc := "(DD)D" } : Jvm.MethodName) ({ cls := "TrainGuard$Train", name := "brakingWay", desc := "(DD)D" } : Jvm.MethodName)) ∈ tG := tG_of (List.mem_of_getElem? (i := 383) (by rfl)) (by rfl)
set_option maxRecDepth 100000 in
theorem wd_384 : (Cond.code ({ cls := "TrainGuard$Train", name := "brakingWay", desc := "(DD)D" } : Jvm.MethodName) prog_4_method_9_code (12 : Nat) (Option.some Jvm.ClassFile.FieldType.double)) ∈ tG := tG_of (List.mem_of_getElem? (i := 384) (by rfl)) (by rfl)
set_option maxRecDepth 100000 in
theorem wd_385 : (Cond.constantDouble "TrainGuard$Train" (64 : Nat) (4602678819172646912 : UInt64)) ∈ tG := tG_of (List.mem_of_getElem? (i := 385) (by rfl)) (by rfl)
set_option maxRecDepth 100000 in
theorem wd_386 : (Cond.methodLink "TrainGuard$Train" (107 : Nat) ({ cls := "TrainGuard$Line", name := "limitNear", desc := "(D)D" } : Jvm.MethodName)) ∈ tG := tG_of (List.mem_of_getElem? (i := 386) (by rfl)) (by rfl)
set_option maxRecDepth 100000 in
theorem wd_387 : (Cond.instanceMethod ({ cls := "TrainGuard$Line", name := "limitNear", desc := "(D)D" } : Jvm.MethodName)) ∈ tG := tG_of (List.mem_of_getElem? (i := 387) (by rfl)) (by rfl)
set_option maxRecDepth 100000 in
theorem wd_388 : (Cond.selects "TrainGuard$Line" ({ cls := "TrainGuard$Line", name := "limitNear", desc := "(D)D" } : Jvm.MethodName) ({ cls := "TrainGuard$Line", name := "limitNear", desc := "(D)D" } : Jvm.MethodName)) ∈ tG := tG_of (List.mem_of_getElem? (i := 388) (by rfl)) (by rfl)
set_option maxRecDepth 100000 in
theorem wd_389 : (Cond.code ({ cls := "TrainGuard$Line", name := "limitNear", desc := "(D)D" } : Jvm.MethodName) prog_2_method_11_code (3 : Nat) (Option.some Jvm.ClassFile.FieldType.double)) ∈ tG := tG_of (List.mem_of_getElem? (i := 389) (by rfl)) (by rfl)
set_option maxRecDepth 100000 in
theorem wd_390 : (Cond.methodLink "TrainGuard$Line" (45 : Nat) ({ cls := "TrainGuard$Line", name := "limitAt", desc := "(D)D" } : Jvm.MethodName)) ∈ tG := tG_of (List.mem_of_getElem? (i := 390) (by rfl)) (by rfl)
set_option maxRecDepth 100000 in
theorem wd_391 : (Cond.instanceMethod ({ cls := "TrainGuard$Line", name := "limitAt", desc := "(D)D" } : Jvm.MethodName)) ∈ tG := tG_of (List.mem_of_getElem? (i := 391) (by rfl)) (by rfl)
set_option maxRecDepth 100000 in
theorem wd_392 : (Cond.selects "TrainGuard$Line" ({ cls := "TrainGuard$Line", name := "limitAt", desc := "(D)D" } : Jvm.MethodName) ({ cls := "TrainGuard$Line", name := "limitAt", desc := "(D)D" } : Jvm.MethodName)) ∈ tG := tG_of (List.mem_of_getElem? (i := 392) (by rfl)) (by rfl)
set_option maxRecDepth 100000 in
theorem wd_393 : (Cond.code ({ cls := "TrainGuard$Line", name := "limitAt", desc := "(D)D" } : Jvm.MethodName) prog_2_method_10_code (6 : Nat) (Option.some Jvm.ClassFile.FieldType.double)) ∈ tG := tG_of (List.mem_of_getElem? (i := 393) (by rfl)) (by rfl)
set_option maxRecDepth 100000 in
theorem wd_394 : (Cond.methodLink "TrainGuard$Line" (49 : Nat) ({ cls := "TrainGuard$Line", name := "lineEnd", desc := "()D" } : Jvm.MethodName)) ∈ tG := tG_of (List.mem_of_getElem? (i := 394) (by rfl)) (by rfl)
set_option maxRecDepth 100000 in
theorem wd_395 : (Cond.instanceMethod ({ cls := "TrainGuard$Line", name := "lineEnd", desc := "()D" } : Jvm.MethodName)) ∈ tG := tG_of (List.mem_of_getElem? (i := 395) (by rfl)) (by rfl)
set_option maxRecDepth 100000 in
theorem wd_396 : (Cond.selects "TrainGuard$Line" ({ cls := "TrainGuard$Line", name := "lineEnd", desc := "()D" } : Jvm.MethodName) ({ cls := "TrainGuard$Line", name := "lineEnd", desc := "()D" } : Jvm.MethodName)) ∈ tG := tG_of (List.mem_of_getElem? (i := 396) (by rfl)) (by rfl)
set_option maxRecDepth 100000 in
theorem wd_397 : (Cond.code ({ cls := "TrainGuard$Line", name := "lineEnd", desc := "()D" } : Jvm.MethodName) prog_2_method_9_code (1 : Nat) (Option.some Jvm.ClassFile.FieldType.double)) ∈ tG := tG_of (List.mem_of_getElem? (i := 397) (by rfl)) (by rfl)
set_option maxRecDepth 100000 in
theorem wd_398 : (Cond.methodLink "TrainGuard$Train" (110 : Nat) ({ cls := "TrainGuard$Train", name := "meetsLimitsAhead", desc := "(LTrainGuard$Line;DD)Z" } : Jvm.MethodName)) ∈ tG := tG_of (List.mem_of_getElem? (i := 398) (by rfl)) (by rfl)
set_option maxRecDepth 100000 in
theorem wd_400 : (Cond.instanceMethod ({ cls := "TrainGuard$Train", name := "meetsLimitsAhead", desc := "(LTrainGuard$Line;DD)Z" } : Jvm.MethodName)) ∈ tG := tG_of (List.mem_of_getElem? (i := 400) (by rfl)) (by rfl)
set_option maxRecDepth 100000 in
theorem wd_401 : (Cond.code ({ cls := "TrainGuard$Train", name := "meetsLimitsAhead", desc := "(LTrainGuard$Line;DD)Z" } : Jvm.MethodName) prog_4_method_18_code (10 : Nat) (Option.some Jvm.ClassFile.FieldType.boolean)) ∈ tG := tG_of (List.mem_of_getElem? (i := 401) (by rfl)) (by rfl)
set_option maxRecDepth 100000 in
theorem wd_402 : (Cond.methodLink "TrainGuard$Train" (114 : Nat) ({ cls := "TrainGuard$Line", name := "changeCount", desc := "()I" } : Jvm.MethodName)) ∈ tG := tG_of (List.mem_of_getElem? (i := 402) (by rfl)) (by rfl)
set_option maxRecDepth 100000 in
theorem wd_403 : (Cond.instanceMethod ({ cls := "TrainGuard$Line", name := "changeCount", desc := "()I" } : Jvm.MethodName)) ∈ tG := tG_of (List.mem_of_getElem? (i := 403) (by rfl)) (by rfl)
set_option maxRecDepth 100000 in
theorem wd_404 : (Cond.selects "TrainGuard$Line" ({ cls := "TrainGuard$Line", name := "changeCount", desc := "()I" } : Jvm.MethodName) ({ cls := "TrainGuard$Line", name := "changeCount", desc := "()I" } : Jvm.MethodName)) ∈ tG := tG_of (List.mem_of_getElem? (i := 404) (by rfl)) (by rfl)
set_option maxRecDepth 100000 in
theorem wd_405 : (Cond.code ({ cls := "TrainGuard$Line", name := "changeCount", desc := "()I" } : Jvm.MethodName) prog_2_method_12_code (1 : Nat) (Option.some Jvm.ClassFile.FieldType.int)) ∈ tG := tG_of (List.mem_of_getElem? (i := 405) (by rfl)) (by rfl)
set_option maxRecDepth 100000 in
theorem wd_406 : (Cond.methodLink "TrainGuard$Train" (118 : Nat) ({ cls := "TrainGuard$Line", name := "changeAt", desc := "(I)D" } : Jvm.MethodName)) ∈ tG := tG_of (List.mem_of_getElem? (i := 406) (by rfl)) (by rfl)
set_option maxRecDepth 100000 in
theorem wd_407 : (Cond.instanceMethod ({ cls := "TrainGuard$Line", name := "changeAt", desc := "(I)D" } : Jvm.MethodName)) ∈ tG := tG_of (List.mem_of_getElem? (i := 407) (by rfl)) (by rfl)
set_option maxRecDepth 100000 in
theorem wd_408 : (Cond.selects "TrainGuard$Line" ({ cls := "TrainGuard$Line", name := "changeAt", desc := "(I)D" } : Jvm.MethodName) ({ cls := "TrainGuard$Line", name := "changeAt", desc := "(I)D" } : Jvm.MethodName)) ∈ tG := tG_of (List.mem_of_getElem? (i := 408) (by rfl)) (by rfl)
set_option maxRecDepth 100000 in
theorem wd_409 : (Cond.code ({ cls := "TrainGuard$Line", name := "changeAt", desc := "(I)D" } : Jvm.MethodName) prog_2_method_13_code (2 : Nat) (Option.some Jvm.ClassFile.FieldType.double)) ∈ tG := tG_of (List.mem_of_getElem? (i := 409) (by rfl)) (by rfl)
set_option maxRecDepth 100000 in
theorem wd_410 : (Cond.methodLink "TrainGuard$Train" (98 : Nat) ({ cls := "TrainGuard$Line", name := "lineEnd", desc := "()D" } : Jvm.MethodName)) ∈ tG := tG_of (List.mem_of_getElem? (i := 410) (by rfl)) (by rfl)
set_option maxRecDepth 100000 in
theorem wd_411 : (Cond.methodLink "TrainGuard$Train" (122 : Nat) ({ cls := "TrainGuard$Line", name := "limitAt", desc := "(D)D" } : Jvm.MethodName)) ∈ tG := tG_of (List.mem_of_getElem? (i := 411) (by rfl)) (by rfl)
set_option maxRecDepth 100000 in
theorem wd_412 : (Cond.methodLink "TrainGuardLaw" (105 : Nat) ({ cls := "TrainGuardLaw", name := "ask", desc := "(LTrainGuard;II[J)I" } : Jvm.MethodName)) ∈ tG := tG_of (List.mem_of_getElem? (i := 412) (by rfl)) (by rfl)
set_option maxRecDepth 100000 in
theorem wd_413 : (Cond.static ({ cls := "TrainGuardLaw", name := "ask", desc := "(LTrainGuard;II[J)I" } : Jvm.MethodName)) ∈ tG := tG_of (List.mem_of_getElem? (i := 413) (by rfl)) (by rfl)
set_option maxRecDepth 100000 in
theorem wd_414 : (Cond.codeWith ({ cls := "TrainGuardLaw", name := "ask", desc := "(LTrainGuard;II[J)I" } : Jvm.MethodName) method_8_code (5 : Nat) (Option.some Jvm.ClassFile.FieldType.int) [((0 : Nat), (10 : Nat), (13 : Nat), (13 : Nat)), ((0 : Nat), (10 : Nat), (17 : Nat), (15 : Nat)), ((0 : Nat), (10 : Nat), (21 : Nat), (17 : Nat)), ((0 : Nat), (10 : Nat), (25 : Nat), (19 : Nat))]) ∈ tG := tG_of (List.mem_of_getElem? (i := 414) (by rfl)) (by rfl)
set_option maxRecDepth 100000 in
theorem wd_415 : (Cond.methodLink "TrainGuardLaw" (36 : Nat) ({ cls := "TrainGuard", name := "ask", desc := "(II)I" } : Jvm.MethodName)) ∈ tG := tG_of (List.mem_of_getElem? (i := 415) (by rfl)) (by rfl)
set_option maxRecDepth 100000 in
theorem wd_416 : (Cond.instanceMethod ({ cls := "TrainGuard", name := "ask", desc := "(II)I" } : Jvm.MethodName)) ∈ tG := tG_of (List.mem_of_getElem? (i := 416) (by rfl)) (by rfl)
set_option maxRecDepth 100000 in
theorem wd_417 : (Cond.selects "TrainGuard" ({ cls := "TrainGuard", name := "ask", desc := "(II)I" } : Jvm.MethodName) ({ cls := "TrainGuard", name := "ask", desc := "(II)I" } : Jvm.MethodName)) ∈ tG := tG_of (List.mem_of_getElem? (i := 417) (by rfl)) (by rfl)
set_option maxRecDepth 100000 in
theorem wd_418 : (Cond.code ({ cls := "TrainGuard", name := "ask", desc := "(II)I" } : Jvm.MethodName) prog_1_method_7_code (6 : Nat) (Option.some Jvm.ClassFile.FieldType.int)) ∈ tG := tG_of (List.mem_of_getElem? (i := 418) (by rfl)) (by rfl)
set_option maxRecDepth 100000 in
theorem wd_419 : (Cond.methodLink "TrainGuard" (113 : Nat) ({ cls := "TrainGuard", name := "headOf", desc := "(LTrainGuard$Train;)I" } : Jvm.MethodName)) ∈ tG := tG_of (List.mem_of_getElem? (i := 419) (by rfl)) (by rfl)
set_option maxRecDepth 100000 in
theorem wd_421 : (Cond.instanceMethod ({ cls := "TrainGuard", name := "headOf", desc := "(LTrainGuard$Train;)I" } : Jvm.MethodName)) ∈ tG := tG_of (List.mem_of_getElem? (i := 421) (by rfl)) (by rfl)
set_option maxRecDepth 100000 in
theorem wd_422 : (Cond.code ({ cls := "TrainGuard", name := "headOf", desc := "(LTrainGuard$Train;)I" } : Jvm.MethodName) prog_1_method_22_code (4 : Nat) (Option.some Jvm.ClassFile.FieldType.int)) ∈ tG := tG_of (List.mem_of_getElem? (i := 422) (by rfl)) (by rfl)
set_option maxRecDepth 100000 in
theorem wd_423 : (Cond.methodLink "TrainGuard" (124 : Nat) ({ cls := "TrainGuard$Message", name := "send", desc := "(ZD)I" } : Jvm.MethodName)) ∈ tG := tG_of (List.mem_of_getElem? (i := 423) (by rfl)) (by rfl)
set_option maxRecDepth 100000 in
theorem wd_424 : (Cond.instanceMethod ({ cls := "TrainGuard$Message", name := "send", desc := "(ZD)I" } : Jvm.MethodName)) ∈ tG := tG_of (List.mem_of_getElem? (i := 424) (by rfl)) (by rfl)
set_option maxRecDepth 100000 in
theorem wd_425 : (Cond.selects "TrainGuard$Message" ({ cls := "TrainGuard$Message", name := "send", desc := "(ZD)I" } : Jvm.MethodName) ({ cls := "TrainGuard$Message", name := "send", desc := "(ZD)I" } : Jvm.MethodName)) ∈ tG := tG_of (List.mem_of_getElem? (i := 425) (by rfl)) (by rfl)
set_option maxRecDepth 100000 in
theorem wd_426 : (Cond.code ({ cls := "TrainGuard$Message", name := "send", desc := "(ZD)I" } : Jvm.MethodName) prog_3_method_2_code (4 : Nat) (Option.some Jvm.ClassFile.FieldType.int)) ∈ tG := tG_of (List.mem_of_getElem? (i := 426) (by rfl)) (by rfl)
set_option maxRecDepth 100000 in
theorem wd_427 : (Cond.methodLink "TrainGuard$Message" (26 : Nat) ({ cls := "TrainGuard$Message", name := "dueMark", desc := "()I" } : Jvm.MethodName)) ∈ tG := tG_of (List.mem_of_getElem? (i := 427) (by rfl)) (by rfl)
set_option maxRecDepth 100000 in
theorem wd_429 : (Cond.instanceMethod ({ cls := "TrainGuard$Message", name := "dueMark", desc := "()I" } : Jvm.MethodName)) ∈ tG := tG_of (List.mem_of_getElem? (i := 429) (by rfl)) (by rfl)
set_option maxRecDepth 100000 in
theorem wd_430 : (Cond.code ({ cls := "TrainGuard$Message", name := "dueMark", desc := "()I" } : Jvm.MethodName) prog_3_method_4_code (1 : Nat) (Option.some Jvm.ClassFile.FieldType.int)) ∈ tG := tG_of (List.mem_of_getElem? (i := 430) (by rfl)) (by rfl)
set_option maxRecDepth 100000 in
theorem wd_431 : (Cond.constantDouble "TrainGuard$Message" (33 : Nat) (4620693217682128896 : UInt64)) ∈ tG := tG_of (List.mem_of_getElem? (i := 431) (by rfl)) (by rfl)
set_option maxRecDepth 100000 in
theorem wd_432 : (Cond.methodLink "TrainGuardLaw" (109 : Nat) ({ cls := "TrainGuardLaw", name := "stop", desc := "(LTrainGuard;I[J)I" } : Jvm.MethodName)) ∈ tG := tG_of (List.mem_of_getElem? (i := 432) (by rfl)) (by rfl)
set_option maxRecDepth 100000 in
theorem wd_433 : (Cond.static ({ cls := "TrainGuardLaw", name := "stop", desc := "(LTrainGuard;I[J)I" } : Jvm.MethodName)) ∈ tG := tG_of (List.mem_of_getElem? (i := 433) (by rfl)) (by rfl)
set_option maxRecDepth 100000 in
theorem wd_434 : (Cond.codeWith ({ cls := "TrainGuardLaw", name := "stop", desc := "(LTrainGuard;I[J)I" } : Jvm.MethodName) method_9_code (4 : Nat) (Option.some Jvm.ClassFile.FieldType.int) [((0 : Nat), (9 : Nat), (12 : Nat), (13 : Nat)), ((0 : Nat), (9 : Nat), (15 : Nat), (15 : Nat)), ((0 : Nat), (9 : Nat), (18 : Nat), (17 : Nat)), ((0 : Nat), (9 : Nat), (21 : Nat), (19 : Nat))]) ∈ tG := tG_of (List.mem_of_getElem? (i := 434) (by rfl)) (by rfl)
set_option maxRecDepth 100000 in
theorem wd_435 : (Cond.methodLink "TrainGuardLaw" (40 : Nat) ({ cls := "TrainGuard", name := "stop", desc := "(I)I" } : Jvm.MethodName)) ∈ tG := tG_of (List.mem_of_getElem? (i := 435) (by rfl)) (by rfl)
set_option maxRecDepth 100000 in
theorem wd_436 : (Cond.instanceMethod ({ cls := "TrainGuard", name := "stop", desc := "(I)I" } : Jvm.MethodName)) ∈ tG := tG_of (List.mem_of_getElem? (i := 436) (by rfl)) (by rfl)
set_option maxRecDepth 100000 in
theorem wd_437 : (Cond.selects "TrainGuard" ({ cls := "TrainGuard", name := "stop", desc := "(I)I" } : Jvm.MethodName) ({ cls := "TrainGuard", name := "stop", desc := "(I)I" } : Jvm.MethodName)) ∈ tG := tG_of (List.mem_of_getElem? (i := 437) (by rfl)) (by rfl)
set_option maxRecDepth 100000 in
theorem wd_438 : (Cond.code ({ cls := "TrainGuard", name := "stop", desc := "(I)I" } : Jvm.MethodName) prog_1_method_8_code (2 : Nat) (Option.some Jvm.ClassFile.FieldType.int)) ∈ tG := tG_of (List.mem_of_getElem? (i := 438) (by rfl)) (by rfl)
set_option maxRecDepth 100000 in
theorem wd_439 : (Cond.methodLink "TrainGuardLaw" (112 : Nat) ({ cls := "TrainGuardLaw", name := "take", desc := "(LTrainGuard;II[J)I" } : Jvm.MethodName)) ∈ tG := tG_of (List.mem_of_getElem? (i := 439) (by rfl)) (by rfl)
set_option maxRecDepth 100000 in
theorem wd_440 : (Cond.static ({ cls := "TrainGuardLaw", name := "take", desc := "(LTrainGuard;II[J)I" } : Jvm.MethodName)) ∈ tG := tG_of (List.mem_of_getElem? (i := 440) (by rfl)) (by rfl)
set_option maxRecDepth 100000 in
theorem wd_441 : (Cond.codeWith ({ cls := "TrainGuardLaw", name := "take", desc := "(LTrainGuard;II[J)I" } : Jvm.MethodName) method_10_code (5 : Nat) (Option.some Jvm.ClassFile.FieldType.int) [((0 : Nat), (10 : Nat), (13 : Nat), (13 : Nat)), ((0 : Nat), (10 : Nat), (17 : Nat), (15 : Nat)), ((0 : Nat), (10 : Nat), (21 : Nat), (17 : Nat)), ((0 : Nat), (10 : Nat), (25 : Nat), (19 : Nat))]) ∈ tG := tG_of (List.mem_of_getElem? (i := 441) (by rfl)) (by rfl)
set_option maxRecDepth 100000 in
theorem wd_442 : (Cond.methodLink "TrainGuardLaw" (43 : Nat) ({ cls := "TrainGuard", name := "take", desc := "(II)I" } : Jvm.MethodName)) ∈ tG := tG_of (List.mem_of_getElem? (i := 442) (by rfl)) (by rfl)
set_option maxRecDepth 100000 in
theorem wd_443 : (Cond.instanceMethod ({ cls := "TrainGuard", name := "take", desc := "(II)I" } : Jvm.MethodName)) ∈ tG := tG_of (List.mem_of_getElem? (i := 443) (by rfl)) (by rfl)
set_option maxRecDepth 100000 in
theorem wd_444 : (Cond.selects "TrainGuard" ({ cls := "TrainGuard", name := "take", desc := "(II)I" } : Jvm.MethodName) ({ cls := "TrainGuard", name := "take", desc := "(II)I" } : Jvm.MethodName)) ∈ tG := tG_of (List.mem_of_getElem? (i := 444) (by rfl)) (by rfl)
set_option maxRecDepth 100000 in
theorem wd_445 : (Cond.code ({ cls := "TrainGuard", name := "take", desc := "(II)I" } : Jvm.MethodName) prog_1_method_9_code (5 : Nat) (Option.some Jvm.ClassFile.FieldType.int)) ∈ tG := tG_of (List.mem_of_getElem? (i := 445) (by rfl)) (by rfl)
set_option maxRecDepth 100000 in
theorem wd_446 : (Cond.methodLink "TrainGuard" (134 : Nat) ({ cls := "TrainGuard", name := "demandMessage", desc := "(Z)V" } : Jvm.MethodName)) ∈ tG := tG_of (List.mem_of_getElem? (i := 446) (by rfl)) (by rfl)
set_option maxRecDepth 100000 in
theorem wd_447 : (Cond.static ({ cls := "TrainGuard", name := "demandMessage", desc := "(Z)V" } : Jvm.MethodName)) ∈ tG := tG_of (List.mem_of_getElem? (i := 447) (by rfl)) (by rfl)
set_option maxRecDepth 100000 in
theorem wd_448 : (Cond.code ({ cls := "TrainGuard", name := "demandMessage", desc := "(Z)V" } : Jvm.MethodName) prog_1_method_29_code (1 : Nat) (Option.none : Option Jvm.ClassFile.FieldType)) ∈ tG := tG_of (List.mem_of_getElem? (i := 448) (by rfl)) (by rfl)
set_option maxRecDepth 100000 in
theorem wd_449 : (Cond.classLink "TrainGuard" (237 : Nat) "java/util/NoSuchElementException") ∈ tG := tG_of (List.mem_of_getElem? (i := 449) (by rfl)) (by rfl)
set_option maxRecDepth 100000 in
theorem wd_450 : (Cond.instantiable "java/util/NoSuchElementException" (6 : Nat)) ∈ tG := tG_of (List.mem_of_getElem? (i := 450) (by rfl)) (by rfl)
set_option maxRecDepth 100000 in
theorem wd_452 : (Cond.selects "java/util/NoSuchElementException" ({ cls := "java/lang/Throwable", name := "fillInStackTrace", desc := "(I)Ljava/lang/Throwable;" } : Jvm.MethodName) ({ cls := "java/lang/Throwable", name := "fillInStackTrace", desc := "(I)Ljava/lang/Throwable;" } : Jvm.MethodName)) ∈ tG := tG_of (List.mem_of_getElem? (i := 452) (by rfl)) (by rfl)
set_option maxRecDepth 100000 in
theorem wd_453 : (Cond.lays "java/util/NoSuchElementException" "java/lang/Throwable" "cause" "Ljava/lang/Throwable;") ∈ tG := tG_of (List.mem_of_getElem? (i := 453) (by rfl)) (by rfl)
set_option maxRecDepth 100000 in
theorem wd_454 : (Cond.lays "java/util/NoSuchElementException" "java/lang/Throwable" "stackTrace" "[Ljava/lang/StackTraceElement;") ∈ tG := tG_of (List.mem_of_getElem? (i := 454) (by rfl)) (by rfl)
set_option maxRecDepth 100000 in
theorem wd_455 : (Cond.lays "java/util/NoSuchElementException" "java/lang/Throwable" "suppressedExceptions" "Ljava/util/List;") ∈ tG := tG_of (List.mem_of_getElem? (i := 455) (by rfl)) (by rfl)
set_option maxRecDepth 100000 in
theorem wd_456 : (Cond.lays "java/util/NoSuchElementException" "java/lang/Throwable" "detailMessage" "Ljava/lang/String;") ∈ tG := tG_of (List.mem_of_getElem? (i := 456) (by rfl)) (by rfl)
set_option maxRecDepth 100000 in
theorem wd_457 : (Cond.lays "java/util/NoSuchElementException" "java/lang/Throwable" "backtrace" "Ljava/lang/Object;") ∈ tG := tG_of (List.mem_of_getElem? (i := 457) (by rfl)) (by rfl)
set_option maxRecDepth 100000 in
theorem wd_458 : (Cond.methodLink "TrainGuard" (239 : Nat) ({ cls := "java/util/NoSuchElementException", name := "<init>", desc := "()V" } : Jvm.MethodName)) ∈ tG := tG_of (List.mem_of_getElem? (i := 458) (by rfl)) (by rfl)
set_option maxRecDepth 100000 in
theorem wd_459 : (Cond.instanceMethod ({ cls := "java/util/NoSuchElementException", name := "<init>", desc := "()V" } : Jvm.MethodName)) ∈ tG := tG_of (List.mem_of_getElem? (i := 459) (by rfl)) (by rfl)
set_option maxRecDepth 100000 in
theorem wd_460 : (Cond.code ({ cls := "java/util/NoSuchElementException", name := "<init>", desc := "()V" } : Jvm.MethodName) prog_13_method_1_code (1 : Nat) (Option.none : Option Jvm.ClassFile.FieldType)) ∈ tG := tG_of (List.mem_of_getElem? (i := 460) (by rfl)) (by rfl)
set_option maxRecDepth 100000 in
theorem wd_461 : (Cond.methodLink "java/util/NoSuchElementException" (1 : Nat) ({ cls := "java/lang/RuntimeException", name := "<init>", desc := "()V" } : Jvm.MethodName)) ∈ tG := tG_of (List.mem_of_getElem? (i := 461) (by rfl)) (by rfl)
set_option maxRecDepth 100000 in
theorem wd_462 : (Cond.lays "java/util/NoSuchElementException" "java/lang/Throwable" "depth" "I") ∈ tG := tG_of (List.mem_of_getElem? (i := 462) (by rfl)) (by rfl)
set_option maxRecDepth 100000 in
theorem wd_464 : (Cond.methodLink "TrainGuard" (140 : Nat) ({ cls := "TrainGuard$Message", name := "isGenuine", desc := "(I)Z" } : Jvm.MethodName)) ∈ tG := tG_of (List.mem_of_getElem? (i := 464) (by rfl)) (by rfl)
set_option maxRecDepth 100000 in
theorem wd_465 : (Cond.instanceMethod ({ cls := "TrainGuard$Message", name := "isGenuine", desc := "(I)Z" } : Jvm.MethodName)) ∈ tG := tG_of (List.mem_of_getElem? (i := 465) (by rfl)) (by rfl)
set_option maxRecDepth 100000 in
theorem wd_466 : (Cond.selects "TrainGuard$Message" ({ cls := "TrainGuard$Message", name := "isGenuine", desc := "(I)Z" } : Jvm.MethodName) ({ cls := "TrainGuard$Message", name := "isGenuine", desc := "(I)Z" } : Jvm.MethodName)) ∈ tG := tG_of (List.mem_of_getElem? (i := 466) (by rfl)) (by rfl)
set_option maxRecDepth 100000 in
theorem wd_467 : (Cond.code ({ cls := "TrainGuard$Message", name := "isGenuine", desc := "(I)Z" } : Jvm.MethodName) prog_3_method_3_code (2 : Nat) (Option.some Jvm.ClassFile.FieldType.boolean)) ∈ tG := tG_of (List.mem_of_getElem? (i := 467) (by rfl)) (by rfl)
set_option maxRecDepth 100000 in
theorem wd_468 : (Cond.methodLink "TrainGuard" (149 : Nat) ({ cls := "TrainGuard$Train", name := "obeyStop", desc := "()V" } : Jvm.MethodName)) ∈ tG := tG_of (List.mem_of_getElem? (i := 468) (by rfl)) (by rfl)
set_option maxRecDepth 100000 in
theorem wd_469 : (Cond.instanceMethod ({ cls := "TrainGuard$Train", name := "obeyStop", desc := "()V" } : Jvm.MethodName)) ∈ tG := tG_of (List.mem_of_getElem? (i := 469) (by rfl)) (by rfl)
set_option maxRecDepth 100000 in
theorem wd_470 : (Cond.selects "TrainGuard$Train" ({ cls := "TrainGuard$Train", name := "obeyStop", desc := "()V" } : Jvm.MethodName) ({ cls := "TrainGuard$Train", name := "obeyStop", desc := "()V" } : Jvm.MethodName)) ∈ tG := tG_of (List.mem_of_getElem? (i := 470) (by rfl)) (by rfl)
set_option maxRecDepth 100000 in
theorem wd_471 : (Cond.code ({ cls := "TrainGuard$Train", name := "obeyStop", desc := "()V" } : Jvm.MethodName) prog_4_method_5_code (1 : Nat) (Option.none : Option Jvm.ClassFile.FieldType)) ∈ tG := tG_of (List.mem_of_getElem? (i := 471) (by rfl)) (by rfl)
set_option maxRecDepth 100000 in
theorem wd_472 : (Cond.methodLink "TrainGuard" (156 : Nat) ({ cls := "TrainGuard$Train", name := "canStopAt", desc := "(D)Z" } : Jvm.MethodName)) ∈ tG := tG_of (List.mem_of_getElem? (i := 472) (by rfl)) (by rfl)
set_option maxRecDepth 100000 in
theorem wd_473 : (Cond.instanceMethod ({ cls := "TrainGuard$Train", name := "canStopAt", desc := "(D)Z" } : Jvm.MethodName)) ∈ tG := tG_of (List.mem_of_getElem? (i := 473) (by rfl)) (by rfl)
set_option maxRecDepth 100000 in
theorem wd_474 : (Cond.selects "TrainGuard$Train" ({ cls := "TrainGuard$Train", name := "canStopAt", desc := "(D)Z" } : Jvm.MethodName) ({ cls := "TrainGuard$Train", name := "canStopAt", desc := "(D)Z" } : Jvm.MethodName)) ∈ tG := tG_of (List.mem_of_getElem? (i := 474) (by rfl)) (by rfl)
set_option maxRecDepth 100000 in
theorem wd_475 : (Cond.code ({ cls := "TrainGuard$Train", name := "canStopAt", desc := "(D)Z" } : Jvm.MethodName) prog_4_method_7_code (3 : Nat) (Option.some Jvm.ClassFile.FieldType.boolean)) ∈ tG := tG_of (List.mem_of_getElem? (i := 475) (by rfl)) (by rfl)
set_option maxRecDepth 100000 in
theorem wd_476 : (Cond.methodLink "TrainGuard" (159 : Nat) ({ cls := "TrainGuard$Train", name := "accept", desc := "(DLTrainGuard$Line;)V" } : Jvm.MethodName)) ∈ tG := tG_of (List.mem_of_getElem? (i := 476) (by rfl)) (by rfl)
set_option maxRecDepth 100000 in
theorem wd_477 : (Cond.instanceMethod ({ cls := "TrainGuard$Train", name := "accept", desc := "(DLTrainGuard$Line;)V" } : Jvm.MethodName)) ∈ tG := tG_of (List.mem_of_getElem? (i := 477) (by rfl)) (by rfl)
set_option maxRecDepth 100000 in
theorem wd_478 : (Cond.selects "TrainGuard$Train" ({ cls := "TrainGuard$Train", name := "accept", desc := "(DLTrainGuard$Line;)V" } : Jvm.MethodName) ({ cls := "TrainGuard$Train", name := "accept", desc := "(DLTrainGuard$Line;)V" } : Jvm.MethodName)) ∈ tG := tG_of (List.mem_of_getElem? (i := 478) (by rfl)) (by rfl)
set_option maxRecDepth 100000 in
theorem wd_479 : (Cond.code ({ cls := "TrainGuard$Train", name := "accept", desc := "(DLTrainGuard$Line;)V" } : Jvm.MethodName) prog_4_method_6_code (4 : Nat) (Option.none : Option Jvm.ClassFile.FieldType)) ∈ tG := tG_of (List.mem_of_getElem? (i := 479) (by rfl)) (by rfl)
set_option maxRecDepth 100000 in
theorem wd_480 : (Cond.methodLink "TrainGuard$Train" (45 : Nat) ({ cls := "TrainGuard$Train", name := "stands", desc := "()Z" } : Jvm.MethodName)) ∈ tG := tG_of (List.mem_of_getElem? (i := 480) (by rfl)) (by rfl)
set_option maxRecDepth 100000 in
theorem wd_481 : (Cond.instanceMethod ({ cls := "TrainGuard$Train", name := "stands", desc := "()Z" } : Jvm.MethodName)) ∈ tG := tG_of (List.mem_of_getElem? (i := 481) (by rfl)) (by rfl)
set_option maxRecDepth 100000 in
theorem wd_482 : (Cond.selects "TrainGuard$Train" ({ cls := "TrainGuard$Train", name := "stands", desc := "()Z" } : Jvm.MethodName) ({ cls := "TrainGuard$Train", name := "stands", desc := "()Z" } : Jvm.MethodName)) ∈ tG := tG_of (List.mem_of_getElem? (i := 482) (by rfl)) (by rfl)
set_option maxRecDepth 100000 in
theorem wd_483 : (Cond.code ({ cls := "TrainGuard$Train", name := "stands", desc := "()Z" } : Jvm.MethodName) prog_4_method_4_code (1 : Nat) (Option.some Jvm.ClassFile.FieldType.boolean)) ∈ tG := tG_of (List.mem_of_getElem? (i := 483) (by rfl)) (by rfl)
set_option maxRecDepth 100000 in
theorem wd_484 : (Cond.methodLink "TrainGuard$Train" (49 : Nat) ({ cls := "TrainGuard$Train", name := "isSafeNow", desc := "(LTrainGuard$Line;)Z" } : Jvm.MethodName)) ∈ tG := tG_of (List.mem_of_getElem? (i := 484) (by rfl)) (by rfl)
set_option maxRecDepth 100000 in
theorem wd_485 : (Cond.methodLink "TrainGuardLaw" (115 : Nat) ({ cls := "TrainGuardLaw", name := "second", desc := "(LTrainGuard;IDI[J)I" } : Jvm.MethodName)) ∈ tG := tG_of (List.mem_of_getElem? (i := 485) (by rfl)) (by rfl)
set_option maxRecDepth 100000 in
theorem wd_486 : (Cond.static ({ cls := "TrainGuardLaw", name := "second", desc := "(LTrainGuard;IDI[J)I" } : Jvm.MethodName)) ∈ tG := tG_of (List.mem_of_getElem? (i := 486) (by rfl)) (by rfl)
set_option maxRecDepth 100000 in
theorem wd_487 : (Cond.codeWith ({ cls := "TrainGuardLaw", name := "second", desc := "(LTrainGuard;IDI[J)I" } : Jvm.MethodName) method_11_code (7 : Nat) (Option.some Jvm.ClassFile.FieldType.int) [((0 : Nat), (13 : Nat), (16 : Nat), (13 : Nat)), ((0 : Nat), (13 : Nat), (20 : Nat), (15 : Nat)), ((0 : Nat), (13 : Nat), (24 : Nat), (17 : Nat)), ((0 : Nat), (13 : Nat), (28 : Nat), (19 : Nat))]) ∈ tG := tG_of (List.mem_of_getElem? (i := 487) (by rfl)) (by rfl)
set_option maxRecDepth 100000 in
theorem wd_488 : (Cond.methodLink "TrainGuardLaw" (46 : Nat) ({ cls := "TrainGuard", name := "second", desc := "(IDI)I" } : Jvm.MethodName)) ∈ tG := tG_of (List.mem_of_getElem? (i := 488) (by rfl)) (by rfl)
set_option maxRecDepth 100000 in
theorem wd_489 : (Cond.instanceMethod ({ cls := "TrainGuard", name := "second", desc := "(IDI)I" } : Jvm.MethodName)) ∈ tG := tG_of (List.mem_of_getElem? (i := 489) (by rfl)) (by rfl)
set_option maxRecDepth 100000 in
theorem wd_490 : (Cond.selects "TrainGuard" ({ cls := "TrainGuard", name := "second", desc := "(IDI)I" } : Jvm.MethodName) ({ cls := "TrainGuard", name := "second", desc := "(IDI)I" } : Jvm.MethodName)) ∈ tG := tG_of (List.mem_of_getElem? (i := 490) (by rfl)) (by rfl)
set_option maxRecDepth 100000 in
theorem wd_491 : (Cond.code ({ cls := "TrainGuard", name := "second", desc := "(IDI)I" } : Jvm.MethodName) prog_1_method_10_code (7 : Nat) (Option.some Jvm.ClassFile.FieldType.int)) ∈ tG := tG_of (List.mem_of_getElem? (i := 491) (by rfl)) (by rfl)
set_option maxRecDepth 100000 in
theorem wd_492 : (Cond.constantDouble "TrainGuard" (163 : Nat) (13835058055282163712 : UInt64)) ∈ tG := tG_of (List.mem_of_getElem? (i := 492) (by rfl)) (by rfl)
set_option maxRecDepth 100000 in
theorem wd_493 : (Cond.methodLink "TrainGuard" (165 : Nat) ({ cls := "TrainGuard$Train", name := "runSecond", desc := "(LTrainGuard$Line;DI)Z" } : Jvm.MethodName)) ∈ tG := tG_of (List.mem_of_getElem? (i := 493) (by rfl)) (by rfl)
set_option maxRecDepth 100000 in
theorem wd_494 : (Cond.instanceMethod ({ cls := "TrainGuard$Train", name := "runSecond", desc := "(LTrainGuard$Line;DI)Z" } : Jvm.MethodName)) ∈ tG := tG_of (List.mem_of_getElem? (i := 494) (by rfl)) (by rfl)
set_option maxRecDepth 100000 in
theorem wd_495 : (Cond.selects "TrainGuard$Train" ({ cls := "TrainGuard$Train", name := "runSecond", desc := "(LTrainGuard$Line;DI)Z" } : Jvm.MethodName) ({ cls := "TrainGuard$Train", name := "runSecond", desc := "(LTrainGuard$Line;DI)Z" } : Jvm.MethodName)) ∈ tG := tG_of (List.mem_of_getElem? (i := 495) (by rfl)) (by rfl)
set_option maxRecDepth 100000 in
theorem wd_496 : (Cond.code ({ cls := "TrainGuard$Train", name := "runSecond", desc := "(LTrainGuard$Line;DI)Z" } : Jvm.MethodName) prog_4_method_10_code (8 : Nat) (Option.some Jvm.ClassFile.FieldType.boolean)) ∈ tG := tG_of (List.mem_of_getElem? (i := 496) (by rfl)) (by rfl)
set_option maxRecDepth 100000 in
theorem wd_497 : (Cond.methodLink "TrainGuard$Train" (66 : Nat) ({ cls := "TrainGuard$Train", name := "wishedSpeed", desc := "(D)D" } : Jvm.MethodName)) ∈ tG := tG_of (List.mem_of_getElem? (i := 497) (by rfl)) (by rfl)
set_option maxRecDepth 100000 in
theorem wd_499 : (Cond.instanceMethod ({ cls := "TrainGuard$Train", name := "wishedSpeed", desc := "(D)D" } : Jvm.MethodName)) ∈ tG := tG_of (List.mem_of_getElem? (i := 499) (by rfl)) (by rfl)
set_option maxRecDepth 100000 in
theorem wd_500 : (Cond.code ({ cls := "TrainGuard$Train", name := "wishedSpeed", desc := "(D)D" } : Jvm.MethodName) prog_4_method_11_code (5 : Nat) (Option.some Jvm.ClassFile.FieldType.double)) ∈ tG := tG_of (List.mem_of_getElem? (i := 500) (by rfl)) (by rfl)
set_option maxRecDepth 100000 in
theorem wd_501 : (Cond.constantDouble "TrainGuard$Train" (82 : Nat) (4617315517961601024 : UInt64)) ∈ tG := tG_of (List.mem_of_getElem? (i := 501) (by rfl)) (by rfl)
set_option maxRecDepth 100000 in
theorem wd_502 : (Cond.methodLink "TrainGuard$Train" (70 : Nat) ({ cls := "TrainGuard$Train", name := "isSafeBehind", desc := "(LTrainGuard$Line;D)Z" } : Jvm.MethodName)) ∈ tG := tG_of (List.mem_of_getElem? (i := 502) (by rfl)) (by rfl)
set_option maxRecDepth 100000 in
theorem wd_504 : (Cond.instanceMethod ({ cls := "TrainGuard$Train", name := "isSafeBehind", desc := "(LTrainGuard$Line;D)Z" } : Jvm.MethodName)) ∈ tG := tG_of (List.mem_of_getElem? (i := 504) (by rfl)) (by rfl)
set_option maxRecDepth 100000 in
theorem wd_505 : (Cond.code ({ cls := "TrainGuard$Train", name := "isSafeBehind", desc := "(LTrainGuard$Line;D)Z" } : Jvm.MethodName) prog_4_method_14_code (6 : Nat) (Option.some Jvm.ClassFile.FieldType.boolean)) ∈ tG := tG_of (List.mem_of_getElem? (i := 505) (by rfl)) (by rfl)
set_option maxRecDepth 100000 in
theorem wd_506 : (Cond.methodLink "TrainGuard$Train" (87 : Nat) ({ cls := "TrainGuard$Train", name := "wayTo", desc := "(D)D" } : Jvm.MethodName)) ∈ tG := tG_of (List.mem_of_getElem? (i := 506) (by rfl)) (by rfl)
set_option maxRecDepth 100000 in
theorem wd_508 : (Cond.instanceMethod ({ cls := "TrainGuard$Train", name := "wayTo", desc := "(D)D" } : Jvm.MethodName)) ∈ tG := tG_of (List.mem_of_getElem? (i := 508) (by rfl)) (by rfl)
set_option maxRecDepth 100000 in
theorem wd_509 : (Cond.code ({ cls := "TrainGuard$Train", name := "wayTo", desc := "(D)D" } : Jvm.MethodName) prog_4_method_13_code (3 : Nat) (Option.some Jvm.ClassFile.FieldType.double)) ∈ tG := tG_of (List.mem_of_getElem? (i := 509) (by rfl)) (by rfl)
set_option maxRecDepth 100000 in
theorem wd_510 : (Cond.constantDouble "TrainGuard$Train" (90 : Nat) (4593671619917905920 : UInt64)) ∈ tG := tG_of (List.mem_of_getElem? (i := 510) (by rfl)) (by rfl)
set_option maxRecDepth 100000 in
theorem wd_511 : (Cond.methodLink "TrainGuard$Train" (74 : Nat) ({ cls := "TrainGuard$Train", name := "brakedSpeed", desc := "()D" } : Jvm.MethodName)) ∈ tG := tG_of (List.mem_of_getElem? (i := 511) (by rfl)) (by rfl)
set_option maxRecDepth 100000 in
theorem wd_513 : (Cond.instanceMethod ({ cls := "TrainGuard$Train", name := "brakedSpeed", desc := "()D" } : Jvm.MethodName)) ∈ tG := tG_of (List.mem_of_getElem? (i := 513) (by rfl)) (by rfl)
set_option maxRecDepth 100000 in
theorem wd_514 : (Cond.code ({ cls := "TrainGuard$Train", name := "brakedSpeed", desc := "()D" } : Jvm.MethodName) prog_4_method_12_code (3 : Nat) (Option.some Jvm.ClassFile.FieldType.double)) ∈ tG := tG_of (List.mem_of_getElem? (i := 514) (by rfl)) (by rfl)
set_option maxRecDepth 100000 in
theorem wd_515 : (Cond.methodLink "TrainGuard$Train" (78 : Nat) ({ cls := "TrainGuard$Train", name := "move", desc := "(LTrainGuard$Line;DI)V" } : Jvm.MethodName)) ∈ tG := tG_of (List.mem_of_getElem? (i := 515) (by rfl)) (by rfl)
set_option maxRecDepth 100000 in
theorem wd_517 : (Cond.instanceMethod ({ cls := "TrainGuard$Train", name := "move", desc := "(LTrainGuard$Line;DI)V" } : Jvm.MethodName)) ∈ tG := tG_of (List.mem_of_getElem? (i := 517) (by rfl)) (by rfl)
set_option maxRecDepth 100000 in
theorem wd_518 : (Cond.code ({ cls := "TrainGuard$Train", name := "move", desc := "(LTrainGuard$Line;DI)V" } : Jvm.MethodName) prog_4_method_15_code (9 : Nat) (Option.none : Option Jvm.ClassFile.FieldType)) ∈ tG := tG_of (List.mem_of_getElem? (i := 518) (by rfl)) (by rfl)
set_option maxRecDepth 100000 in
theorem wd_519 : (Cond.methodLink "TrainGuard$Train" (92 : Nat) ({ cls := "TrainGuard$Line", name := "hasBeginBetween", desc := "(DD)Z" } : Jvm.MethodName)) ∈ tG := tG_of (List.mem_of_getElem? (i := 519) (by rfl)) (by rfl)
set_option maxRecDepth 100000 in
theorem wd_520 : (Cond.instanceMethod ({ cls := "TrainGuard$Line", name := "hasBeginBetween", desc := "(DD)Z" } : Jvm.MethodName)) ∈ tG := tG_of (List.mem_of_getElem? (i := 520) (by rfl)) (by rfl)
set_option maxRecDepth 100000 in
theorem wd_521 : (Cond.selects "TrainGuard$Line" ({ cls := "TrainGuard$Line", name := "hasBeginBetween", desc := "(DD)Z" } : Jvm.MethodName) ({ cls := "TrainGuard$Line", name := "hasBeginBetween", desc := "(DD)Z" } : Jvm.MethodName)) ∈ tG := tG_of (List.mem_of_getElem? (i := 521) (by rfl)) (by rfl)
set_option maxRecDepth 100000 in
theorem wd_522 : (Cond.code ({ cls := "TrainGuard$Line", name := "hasBeginBetween", desc := "(DD)Z" } : Jvm.MethodName) prog_2_method_14_code (6 : Nat) (Option.some Jvm.ClassFile.FieldType.boolean)) ∈ tG := tG_of (List.mem_of_getElem? (i := 522) (by rfl)) (by rfl)
set_option maxRecDepth 100000 in
theorem wd_523 : (Cond.methodLink "TrainGuard" (179 : Nat) ({ cls := "TrainGuard$Line", name := "freeBelow", desc := "(DI)V" } : Jvm.MethodName)) ∈ tG := tG_of (List.mem_of_getElem? (i := 523) (by rfl)) (by rfl)
set_option maxRecDepth 100000 in
theorem wd_524 : (Cond.instanceMethod ({ cls := "TrainGuard$Line", name := "freeBelow", desc := "(DI)V" } : Jvm.MethodName)) ∈ tG := tG_of (List.mem_of_getElem? (i := 524) (by rfl)) (by rfl)
set_option maxRecDepth 100000 in
theorem wd_525 : (Cond.selects "TrainGuard$Line" ({ cls := "TrainGuard$Line", name := "freeBelow", desc := "(DI)V" } : Jvm.MethodName) ({ cls := "TrainGuard$Line", name := "freeBelow", desc := "(DI)V" } : Jvm.MethodName)) ∈ tG := tG_of (List.mem_of_getElem? (i := 525) (by rfl)) (by rfl)
set_option maxRecDepth 100000 in
theorem wd_526 : (Cond.code ({ cls := "TrainGuard$Line", name := "freeBelow", desc := "(DI)V" } : Jvm.MethodName) prog_2_method_15_code (5 : Nat) (Option.none : Option Jvm.ClassFile.FieldType)) ∈ tG := tG_of (List.mem_of_getElem? (i := 526) (by rfl)) (by rfl)
set_option maxRecDepth 100000 in
theorem wd_527 : (Cond.methodLink "TrainGuardLaw" (119 : Nat) ({ cls := "TrainGuardLaw", name := "wet", desc := "(LTrainGuard;IZ[J)I" } : Jvm.MethodName)) ∈ tG := tG_of (List.mem_of_getElem? (i := 527) (by rfl)) (by rfl)
set_option maxRecDepth 100000 in
theorem wd_528 : (Cond.static ({ cls := "TrainGuardLaw", name := "wet", desc := "(LTrainGuard;IZ[J)I" } : Jvm.MethodName)) ∈ tG := tG_of (List.mem_of_getElem? (i := 528) (by rfl)) (by rfl)
set_option maxRecDepth 100000 in
theorem wd_529 : (Cond.codeWith ({ cls := "TrainGuardLaw", name := "wet", desc := "(LTrainGuard;IZ[J)I" } : Jvm.MethodName) method_12_code (5 : Nat) (Option.some Jvm.ClassFile.FieldType.int) [((0 : Nat), (10 : Nat), (13 : Nat), (13 : Nat)), ((0 : Nat), (10 : Nat), (17 : Nat), (15 : Nat)), ((0 : Nat), (10 : Nat), (21 : Nat), (17 : Nat)), ((0 : Nat), (10 : Nat), (25 : Nat), (19 : Nat))]) ∈ tG := tG_of (List.mem_of_getElem? (i := 529) (by rfl)) (by rfl)
set_option maxRecDepth 100000 in
theorem wd_530 : (Cond.methodLink "TrainGuardLaw" (50 : Nat) ({ cls := "TrainGuard", name := "wet", desc := "(IZ)I" } : Jvm.MethodName)) ∈ tG := tG_of (List.mem_of_getElem? (i := 530) (by rfl)) (by rfl)
set_option maxRecDepth 100000 in
theorem wd_531 : (Cond.instanceMethod ({ cls := "TrainGuard", name := "wet", desc := "(IZ)I" } : Jvm.MethodName)) ∈ tG := tG_of (List.mem_of_getElem? (i := 531) (by rfl)) (by rfl)
set_option maxRecDepth 100000 in
theorem wd_532 : (Cond.selects "TrainGuard" ({ cls := "TrainGuard", name := "wet", desc := "(IZ)I" } : Jvm.MethodName) ({ cls := "TrainGuard", name := "wet", desc := "(IZ)I" } : Jvm.MethodName)) ∈ tG := tG_of (List.mem_of_getElem? (i := 532) (by rfl)) (by rfl)
set_option maxRecDepth 100000 in
theorem wd_533 : (Cond.code ({ cls := "TrainGuard", name := "wet", desc := "(IZ)I" } : Jvm.MethodName) prog_1_method_11_code (3 : Nat) (Option.some Jvm.ClassFile.FieldType.int)) ∈ tG := tG_of (List.mem_of_getElem? (i := 533) (by rfl)) (by rfl)
set_option maxRecDepth 100000 in
theorem wd_534 : (Cond.methodLink "TrainGuardLaw" (123 : Nat) ({ cls := "TrainGuardLaw", name := "acknowledge", desc := "(LTrainGuard;I[J)I" } : Jvm.MethodName)) ∈ tG := tG_of (List.mem_of_getElem? (i := 534) (by rfl)) (by rfl)
set_option maxRecDepth 100000 in
theorem wd_535 : (Cond.static ({ cls := "TrainGuardLaw", name := "acknowledge", desc := "(LTrainGuard;I[J)I" } : Jvm.MethodName)) ∈ tG := tG_of (List.mem_of_getElem? (i := 535) (by rfl)) (by rfl)
set_option maxRecDepth 100000 in
theorem wd_536 : (Cond.codeWith ({ cls := "TrainGuardLaw", name := "acknowledge", desc := "(LTrainGuard;I[J)I" } : Jvm.MethodName) method_13_code (4 : Nat) (Option.some Jvm.ClassFile.FieldType.int) [((0 : Nat), (9 : Nat), (12 : Nat), (13 : Nat)), ((0 : Nat), (9 : Nat), (15 : Nat), (15 : Nat)), ((0 : Nat), (9 : Nat), (18 : Nat), (17 : Nat)), ((0 : Nat), (9 : Nat), (21 : Nat), (19 : Nat))]) ∈ tG := tG_of (List.mem_of_getElem? (i := 536) (by rfl)) (by rfl)
set_option maxRecDepth 100000 in
theorem wd_537 : (Cond.methodLink "TrainGuardLaw" (54 : Nat) ({ cls := "TrainGuard", name := "acknowledge", desc := "(I)I" } : Jvm.MethodName)) ∈ tG := tG_of (List.mem_of_getElem? (i := 537) (by rfl)) (by rfl)
set_option maxRecDepth 100000 in
theorem wd_538 : (Cond.instanceMethod ({ cls := "TrainGuard", name := "acknowledge", desc := "(I)I" } : Jvm.MethodName)) ∈ tG := tG_of (List.mem_of_getElem? (i := 538) (by rfl)) (by rfl)
set_option maxRecDepth 100000 in
theorem wd_539 : (Cond.selects "TrainGuard" ({ cls := "TrainGuard", name := "acknowledge", desc := "(I)I" } : Jvm.MethodName) ({ cls := "TrainGuard", name := "acknowledge", desc := "(I)I" } : Jvm.MethodName)) ∈ tG := tG_of (List.mem_of_getElem? (i := 539) (by rfl)) (by rfl)
set_option maxRecDepth 100000 in
theorem wd_540 : (Cond.code ({ cls := "TrainGuard", name := "acknowledge", desc := "(I)I" } : Jvm.MethodName) prog_1_method_12_code (3 : Nat) (Option.some Jvm.ClassFile.FieldType.int)) ∈ tG := tG_of (List.mem_of_getElem? (i := 540) (by rfl)) (by rfl)
set_option maxRecDepth 100000 in
theorem wd_541 : (Cond.methodLink "TrainGuard" (186 : Nat) ({ cls := "TrainGuard$Train", name := "stands", desc := "()Z" } : Jvm.MethodName)) ∈ tG := tG_of (List.mem_of_getElem? (i := 541) (by rfl)) (by rfl)
set_option maxRecDepth 100000 in
theorem wd_542 : (Cond.methodLink "TrainGuardLaw" (126 : Nat) ({ cls := "TrainGuardLaw", name := "end", desc := "(LTrainGuard;I[J)I" } : Jvm.MethodName)) ∈ tG := tG_of (List.mem_of_getElem? (i := 542) (by rfl)) (by rfl)
set_option maxRecDepth 100000 in
theorem wd_543 : (Cond.static ({ cls := "TrainGuardLaw", name := "end", desc := "(LTrainGuard;I[J)I" } : Jvm.MethodName)) ∈ tG := tG_of (List.mem_of_getElem? (i := 543) (by rfl)) (by rfl)
set_option maxRecDepth 100000 in
theorem wd_544 : (Cond.codeWith ({ cls := "TrainGuardLaw", name := "end", desc := "(LTrainGuard;I[J)I" } : Jvm.MethodName) method_14_code (4 : Nat) (Option.some Jvm.ClassFile.FieldType.int) [((0 : Nat), (9 : Nat), (12 : Nat), (13 : Nat)), ((0 : Nat), (9 : Nat), (15 : Nat), (15 : Nat)), ((0 : Nat), (9 : Nat), (18 : Nat), (17 : Nat)), ((0 : Nat), (9 : Nat), (21 : Nat), (19 : Nat))]) ∈ tG := tG_of (List.mem_of_getElem? (i := 544) (by rfl)) (by rfl)
set_option maxRecDepth 100000 in
theorem wd_545 : (Cond.methodLink "TrainGuardLaw" (57 : Nat) ({ cls := "TrainGuard", name := "end", desc := "(I)I" } : Jvm.MethodName)) ∈ tG := tG_of (List.mem_of_getElem? (i := 545) (by rfl)) (by rfl)
set_option maxRecDepth 100000 in
theorem wd_546 : (Cond.instanceMethod ({ cls := "TrainGuard", name := "end", desc := "(I)I" } : Jvm.MethodName)) ∈ tG := tG_of (List.mem_of_getElem? (i := 546) (by rfl)) (by rfl)
set_option maxRecDepth 100000 in
theorem wd_547 : (Cond.selects "TrainGuard" ({ cls := "TrainGuard", name := "end", desc := "(I)I" } : Jvm.MethodName) ({ cls := "TrainGuard", name := "end", desc := "(I)I" } : Jvm.MethodName)) ∈ tG := tG_of (List.mem_of_getElem? (i := 547) (by rfl)) (by rfl)
set_option maxRecDepth 100000 in
theorem wd_548 : (Cond.code ({ cls := "TrainGuard", name := "end", desc := "(I)I" } : Jvm.MethodName) prog_1_method_13_code (3 : Nat) (Option.some Jvm.ClassFile.FieldType.int)) ∈ tG := tG_of (List.mem_of_getElem? (i := 548) (by rfl)) (by rfl)
set_option maxRecDepth 100000 in
theorem wd_549 : (Cond.methodLink "TrainGuard" (192 : Nat) ({ cls := "TrainGuard", name := "holdOwnPlacesOnly", desc := "(I)V" } : Jvm.MethodName)) ∈ tG := tG_of (List.mem_of_getElem? (i := 549) (by rfl)) (by rfl)
set_option maxRecDepth 100000 in
theorem wd_551 : (Cond.instanceMethod ({ cls := "TrainGuard", name := "holdOwnPlacesOnly", desc := "(I)V" } : Jvm.MethodName)) ∈ tG := tG_of (List.mem_of_getElem? (i := 551) (by rfl)) (by rfl)
set_option maxRecDepth 100000 in
theorem wd_552 : (Cond.code ({ cls := "TrainGuard", name := "holdOwnPlacesOnly", desc := "(I)V" } : Jvm.MethodName) prog_1_method_25_code (3 : Nat) (Option.none : Option Jvm.ClassFile.FieldType)) ∈ tG := tG_of (List.mem_of_getElem? (i := 552) (by rfl)) (by rfl)
set_option maxRecDepth 100000 in
theorem wd_553 : (Cond.methodLink "TrainGuardLaw" (129 : Nat) ({ cls := "TrainGuardLaw", name := "of", desc := "(LTrainGuard;II[D)I" } : Jvm.MethodName)) ∈ tG := tG_of (List.mem_of_getElem? (i := 553) (by rfl)) (by rfl)
set_option maxRecDepth 100000 in
theorem wd_554 : (Cond.static ({ cls := "TrainGuardLaw", name := "of", desc := "(LTrainGuard;II[D)I" } : Jvm.MethodName)) ∈ tG := tG_of (List.mem_of_getElem? (i := 554) (by rfl)) (by rfl)
set_option maxRecDepth 100000 in
theorem wd_555 : (Cond.codeWith ({ cls := "TrainGuardLaw", name := "of", desc := "(LTrainGuard;II[D)I" } : Jvm.MethodName) method_15_code (5 : Nat) (Option.some Jvm.ClassFile.FieldType.int) [((0 : Nat), (9 : Nat), (12 : Nat), (13 : Nat)), ((0 : Nat), (9 : Nat), (16 : Nat), (15 : Nat)), ((0 : Nat), (9 : Nat), (20 : Nat), (17 : Nat)), ((0 : Nat), (9 : Nat), (24 : Nat), (19 : Nat))]) ∈ tG := tG_of (List.mem_of_getElem? (i := 555) (by rfl)) (by rfl)
set_option maxRecDepth 100000 in
theorem wd_556 : (Cond.methodLink "TrainGuardLaw" (60 : Nat) ({ cls := "TrainGuard", name := "of", desc := "(II)D" } : Jvm.MethodName)) ∈ tG := tG_of (List.mem_of_getElem? (i := 556) (by rfl)) (by rfl)
set_option maxRecDepth 100000 in
theorem wd_557 : (Cond.instanceMethod ({ cls := "TrainGuard", name := "of", desc := "(II)D" } : Jvm.MethodName)) ∈ tG := tG_of (List.mem_of_getElem? (i := 557) (by rfl)) (by rfl)
set_option maxRecDepth 100000 in
theorem wd_558 : (Cond.selects "TrainGuard" ({ cls := "TrainGuard", name := "of", desc := "(II)D" } : Jvm.MethodName) ({ cls := "TrainGuard", name := "of", desc := "(II)D" } : Jvm.MethodName)) ∈ tG := tG_of (List.mem_of_getElem? (i := 558) (by rfl)) (by rfl)
set_option maxRecDepth 100000 in
theorem wd_559 : (Cond.code ({ cls := "TrainGuard", name := "of", desc := "(II)D" } : Jvm.MethodName) prog_1_method_14_code (4 : Nat) (Option.some Jvm.ClassFile.FieldType.double)) ∈ tG := tG_of (List.mem_of_getElem? (i := 559) (by rfl)) (by rfl)
set_option maxRecDepth 100000 in
theorem wd_560 : (Cond.constantDouble "TrainGuard" (211 : Nat) (13830554455654793216 : UInt64)) ∈ tG := tG_of (List.mem_of_getElem? (i := 560) (by rfl)) (by rfl)
set_option maxRecDepth 100000 in
theorem wd_561 : (Cond.methodLink "TrainGuard" (213 : Nat) ({ cls := "TrainGuard$Train", name := "brakingWay", desc := "(DD)D" } : Jvm.MethodName)) ∈ tG := tG_of (List.mem_of_getElem? (i := 561) (by rfl)) (by rfl)
set_option maxRecDepth 100000 in
theorem wd_562 : (Cond.methodLink "TrainGuardLaw" (133 : Nat) ({ cls := "TrainGuardLaw", name := "limit", desc := "(LTrainGuard;D[D)I" } : Jvm.MethodName)) ∈ tG := tG_of (List.mem_of_getElem? (i := 562) (by rfl)) (by rfl)
set_option maxRecDepth 100000 in
theorem wd_563 : (Cond.static ({ cls := "TrainGuardLaw", name := "limit", desc := "(LTrainGuard;D[D)I" } : Jvm.MethodName)) ∈ tG := tG_of (List.mem_of_getElem? (i := 563) (by rfl)) (by rfl)
set_option maxRecDepth 100000 in
theorem wd_564 : (Cond.codeWith ({ cls := "TrainGuardLaw", name := "limit", desc := "(LTrainGuard;D[D)I" } : Jvm.MethodName) method_16_code (5 : Nat) (Option.some Jvm.ClassFile.FieldType.int) [((0 : Nat), (8 : Nat), (11 : Nat), (13 : Nat)), ((0 : Nat), (8 : Nat), (15 : Nat), (15 : Nat)), ((0 : Nat), (8 : Nat), (19 : Nat), (17 : Nat)), ((0 : Nat), (8 : Nat), (23 : Nat), (19 : Nat))]) ∈ tG := tG_of (List.mem_of_getElem? (i := 564) (by rfl)) (by rfl)
set_option maxRecDepth 100000 in
theorem wd_565 : (Cond.methodLink "TrainGuardLaw" (64 : Nat) ({ cls := "TrainGuard", name := "limit", desc := "(D)D" } : Jvm.MethodName)) ∈ tG := tG_of (List.mem_of_getElem? (i := 565) (by rfl)) (by rfl)
set_option maxRecDepth 100000 in
theorem wd_566 : (Cond.instanceMethod ({ cls := "TrainGuard", name := "limit", desc := "(D)D" } : Jvm.MethodName)) ∈ tG := tG_of (List.mem_of_getElem? (i := 566) (by rfl)) (by rfl)
set_option maxRecDepth 100000 in
theorem wd_567 : (Cond.selects "TrainGuard" ({ cls := "TrainGuard", name := "limit", desc := "(D)D" } : Jvm.MethodName) ({ cls := "TrainGuard", name := "limit", desc := "(D)D" } : Jvm.MethodName)) ∈ tG := tG_of (List.mem_of_getElem? (i := 567) (by rfl)) (by rfl)
set_option maxRecDepth 100000 in
theorem wd_568 : (Cond.code ({ cls := "TrainGuard", name := "limit", desc := "(D)D" } : Jvm.MethodName) prog_1_method_15_code (3 : Nat) (Option.some Jvm.ClassFile.FieldType.double)) ∈ tG := tG_of (List.mem_of_getElem? (i := 568) (by rfl)) (by rfl)
set_option maxRecDepth 100000 in
theorem wd_569 : (Cond.methodLink "TrainGuard" (217 : Nat) ({ cls := "TrainGuard$Line", name := "lineEnd", desc := "()D" } : Jvm.MethodName)) ∈ tG := tG_of (List.mem_of_getElem? (i := 569) (by rfl)) (by rfl)
set_option maxRecDepth 100000 in
theorem wd_570 : (Cond.methodLink "TrainGuard" (220 : Nat) ({ cls := "TrainGuard$Line", name := "limitAt", desc := "(D)D" } : Jvm.MethodName)) ∈ tG := tG_of (List.mem_of_getElem? (i := 570) (by rfl)) (by rfl)
set_option maxRecDepth 100000 in
theorem wd_571 : (Cond.methodLink "TrainGuardLaw" (137 : Nat) ({ cls := "TrainGuardLaw", name := "mode", desc := "(LTrainGuard;I[J)I" } : Jvm.MethodName)) ∈ tG := tG_of (List.mem_of_getElem? (i := 571) (by rfl)) (by rfl)
set_option maxRecDepth 100000 in
theorem wd_572 : (Cond.static ({ cls := "TrainGuardLaw", name := "mode", desc := "(LTrainGuard;I[J)I" } : Jvm.MethodName)) ∈ tG := tG_of (List.mem_of_getElem? (i := 572) (by rfl)) (by rfl)
set_option maxRecDepth 100000 in
theorem wd_573 : (Cond.codeWith ({ cls := "TrainGuardLaw", name := "mode", desc := "(LTrainGuard;I[J)I" } : Jvm.MethodName) method_17_code (4 : Nat) (Option.some Jvm.ClassFile.FieldType.int) [((0 : Nat), (9 : Nat), (12 : Nat), (13 : Nat)), ((0 : Nat), (9 : Nat), (15 : Nat), (15 : Nat)), ((0 : Nat), (9 : Nat), (18 : Nat), (17 : Nat)), ((0 : Nat), (9 : Nat), (21 : Nat), (19 : Nat))]) ∈ tG := tG_of (List.mem_of_getElem? (i := 573) (by rfl)) (by rfl)
set_option maxRecDepth 100000 in
theorem wd_574 : (Cond.methodLink "TrainGuardLaw" (68 : Nat) ({ cls := "TrainGuard", name := "mode", desc := "(I)I" } : Jvm.MethodName)) ∈ tG := tG_of (List.mem_of_getElem? (i := 574) (by rfl)) (by rfl)
set_option maxRecDepth 100000 in
theorem wd_575 : (Cond.instanceMethod ({ cls := "TrainGuard", name := "mode", desc := "(I)I" } : Jvm.MethodName)) ∈ tG := tG_of (List.mem_of_getElem? (i := 575) (by rfl)) (by rfl)
set_option maxRecDepth 100000 in
theorem wd_576 : (Cond.selects "TrainGuard" ({ cls := "TrainGuard", name := "mode", desc := "(I)I" } : Jvm.MethodName) ({ cls := "TrainGuard", name := "mode", desc := "(I)I" } : Jvm.MethodName)) ∈ tG := tG_of (List.mem_of_getElem? (i := 576) (by rfl)) (by rfl)
set_option maxRecDepth 100000 in
theorem wd_577 : (Cond.code ({ cls := "TrainGuard", name := "mode", desc := "(I)I" } : Jvm.MethodName) prog_1_method_16_code (2 : Nat) (Option.some Jvm.ClassFile.FieldType.int)) ∈ tG := tG_of (List.mem_of_getElem? (i := 577) (by rfl)) (by rfl)
set_option maxRecDepth 100000 in
theorem wd_578 : (Cond.methodLink "TrainGuardLaw" (140 : Nat) ({ cls := "TrainGuardLaw", name := "holds", desc := "(LTrainGuard;II[J)I" } : Jvm.MethodName)) ∈ tG := tG_of (List.mem_of_getElem? (i := 578) (by rfl)) (by rfl)
set_option maxRecDepth 100000 in
theorem wd_579 : (Cond.static ({ cls := "TrainGuardLaw", name := "holds", desc := "(LTrainGuard;II[J)I" } : Jvm.MethodName)) ∈ tG := tG_of (List.mem_of_getElem? (i := 579) (by rfl)) (by rfl)
set_option maxRecDepth 100000 in
theorem wd_580 : (Cond.codeWith ({ cls := "TrainGuardLaw", name := "holds", desc := "(LTrainGuard;II[J)I" } : Jvm.MethodName) method_18_code (5 : Nat) (Option.some Jvm.ClassFile.FieldType.int) [((0 : Nat), (10 : Nat), (13 : Nat), (13 : Nat)), ((0 : Nat), (10 : Nat), (17 : Nat), (15 : Nat)), ((0 : Nat), (10 : Nat), (21 : Nat), (17 : Nat)), ((0 : Nat), (10 : Nat), (25 : Nat), (19 : Nat))]) ∈ tG := tG_of (List.mem_of_getElem? (i := 580) (by rfl)) (by rfl)
set_option maxRecDepth 100000 in
theorem wd_581 : (Cond.methodLink "TrainGuardLaw" (71 : Nat) ({ cls := "TrainGuard", name := "holds", desc := "(II)I" } : Jvm.MethodName)) ∈ tG := tG_of (List.mem_of_getElem? (i := 581) (by rfl)) (by rfl)
set_option maxRecDepth 100000 in
theorem wd_582 : (Cond.instanceMethod ({ cls := "TrainGuard", name := "holds", desc := "(II)I" } : Jvm.MethodName)) ∈ tG := tG_of (List.mem_of_getElem? (i := 582) (by rfl)) (by rfl)
set_option maxRecDepth 100000 in
theorem wd_583 : (Cond.selects "TrainGuard" ({ cls := "TrainGuard", name := "holds", desc := "(II)I" } : Jvm.MethodName) ({ cls := "TrainGuard", name := "holds", desc := "(II)I" } : Jvm.MethodName)) ∈ tG := tG_of (List.mem_of_getElem? (i := 583) (by rfl)) (by rfl)
set_option maxRecDepth 100000 in
theorem wd_584 : (Cond.code ({ cls := "TrainGuard", name := "holds", desc := "(II)I" } : Jvm.MethodName) prog_1_method_17_code (3 : Nat) (Option.some Jvm.ClassFile.FieldType.int)) ∈ tG := tG_of (List.mem_of_getElem? (i := 584) (by rfl)) (by rfl)
set_option maxRecDepth 100000 in
theorem wd_585 : (Cond.classLink "TrainGuardLaw" (75 : Nat) "TrainGuardModel") ∈ tG := tG_of (List.mem_of_getElem? (i := 585) (by rfl)) (by rfl)
set_option maxRecDepth 100000 in
theorem wd_586 : (Cond.instantiable "TrainGuardModel" (25 : Nat)) ∈ tG := tG_of (List.mem_of_getElem? (i := 586) (by rfl)) (by rfl)
set_option maxRecDepth 100000 in
theorem wd_587 : (Cond.methodLink "TrainGuardLaw" (77 : Nat) ({ cls := "TrainGuardModel", name := "<init>", desc := "()V" } : Jvm.MethodName)) ∈ tG := tG_of (List.mem_of_getElem? (i := 587) (by rfl)) (by rfl)
set_option maxRecDepth 100000 in
theorem wd_588 : (Cond.instanceMethod ({ cls := "TrainGuardModel", name := "<init>", desc := "()V" } : Jvm.MethodName)) ∈ tG := tG_of (List.mem_of_getElem? (i := 588) (by rfl)) (by rfl)
set_option maxRecDepth 100000 in
theorem wd_589 : (Cond.code ({ cls := "TrainGuardModel", name := "<init>", desc := "()V" } : Jvm.MethodName) prog_6_method_1_code (1 : Nat) (Option.none : Option Jvm.ClassFile.FieldType)) ∈ tG := tG_of (List.mem_of_getElem? (i := 589) (by rfl)) (by rfl)
set_option maxRecDepth 100000 in
theorem wd_590 : (Cond.methodLink "TrainGuardModel" (1 : Nat) ({ cls := "java/lang/Object", name := "<init>", desc := "()V" } : Jvm.MethodName)) ∈ tG := tG_of (List.mem_of_getElem? (i := 590) (by rfl)) (by rfl)
set_option maxRecDepth 100000 in
theorem wd_591 : (Cond.fieldLink "TrainGuardModel" (66 : Nat) "TrainGuardModel" "thrown" "I") ∈ tG := tG_of (List.mem_of_getElem? (i := 591) (by rfl)) (by rfl)
set_option maxRecDepth 100000 in
theorem wd_592 : (Cond.fieldLink "TrainGuardModel" (79 : Nat) "TrainGuardModel" "sections" "I") ∈ tG := tG_of (List.mem_of_getElem? (i := 592) (by rfl)) (by rfl)
set_option maxRecDepth 100000 in
theorem wd_593 : (Cond.fieldLink "TrainGuardModel" (7 : Nat) "TrainGuardModel" "begin" "[J") ∈ tG := tG_of (List.mem_of_getElem? (i := 593) (by rfl)) (by rfl)
set_option maxRecDepth 100000 in
theorem wd_594 : (Cond.fieldLink "TrainGuardModel" (13 : Nat) "TrainGuardModel" "speedOf" "[J") ∈ tG := tG_of (List.mem_of_getElem? (i := 594) (by rfl)) (by rfl)
set_option maxRecDepth 100000 in
theorem wd_595 : (Cond.fieldLink "TrainGuardModel" (16 : Nat) "TrainGuardModel" "held" "[I") ∈ tG := tG_of (List.mem_of_getElem? (i := 595) (by rfl)) (by rfl)
set_option maxRecDepth 100000 in
theorem wd_596 : (Cond.fieldLink "TrainGuardModel" (86 : Nat) "TrainGuardModel" "restrictions" "I") ∈ tG := tG_of (List.mem_of_getElem? (i := 596) (by rfl)) (by rfl)
set_option maxRecDepth 100000 in
theorem wd_597 : (Cond.fieldLink "TrainGuardModel" (20 : Nat) "TrainGuardModel" "from" "[J") ∈ tG := tG_of (List.mem_of_getElem? (i := 597) (by rfl)) (by rfl)
set_option maxRecDepth 100000 in
theorem wd_598 : (Cond.fieldLink "TrainGuardModel" (23 : Nat) "TrainGuardModel" "to" "[J") ∈ tG := tG_of (List.mem_of_getElem? (i := 598) (by rfl)) (by rfl)
set_option maxRecDepth 100000 in
theorem wd_599 : (Cond.fieldLink "TrainGuardModel" (26 : Nat) "TrainGuardModel" "least" "[J") ∈ tG := tG_of (List.mem_of_getElem? (i := 599) (by rfl)) (by rfl)
set_option maxRecDepth 100000 in
theorem wd_600 : (Cond.fieldLink "TrainGuardModel" (72 : Nat) "TrainGuardModel" "trains" "I") ∈ tG := tG_of (List.mem_of_getElem? (i := 600) (by rfl)) (by rfl)
set_option maxRecDepth 100000 in
theorem wd_601 : (Cond.fieldLink "TrainGuardModel" (29 : Nat) "TrainGuardModel" "length" "[J") ∈ tG := tG_of (List.mem_of_getElem? (i := 601) (by rfl)) (by rfl)
set_option maxRecDepth 100000 in
theorem wd_602 : (Cond.fieldLink "TrainGuardModel" (32 : Nat) "TrainGuardModel" "brake" "[J") ∈ tG := tG_of (List.mem_of_getElem? (i := 602) (by rfl)) (by rfl)
set_option maxRecDepth 100000 in
theorem wd_603 : (Cond.fieldLink "TrainGuardModel" (35 : Nat) "TrainGuardModel" "speed" "[J") ∈ tG := tG_of (List.mem_of_getElem? (i := 603) (by rfl)) (by rfl)
set_option maxRecDepth 100000 in
theorem wd_604 : (Cond.fieldLink "TrainGuardModel" (38 : Nat) "TrainGuardModel" "real" "[J") ∈ tG := tG_of (List.mem_of_getElem? (i := 604) (by rfl)) (by rfl)
set_option maxRecDepth 100000 in
theorem wd_605 : (Cond.fieldLink "TrainGuardModel" (41 : Nat) "TrainGuardModel" "measured" "[J") ∈ tG := tG_of (List.mem_of_getElem? (i := 605) (by rfl)) (by rfl)
set_option maxRecDepth 100000 in
theorem wd_606 : (Cond.fieldLink "TrainGuardModel" (44 : Nat) "TrainGuardModel" "margin" "[J") ∈ tG := tG_of (List.mem_of_getElem? (i := 606) (by rfl)) (by rfl)
set_option maxRecDepth 100000 in
theorem wd_607 : (Cond.fieldLink "TrainGuardModel" (47 : Nat) "TrainGuardModel" "authority" "[J") ∈ tG := tG_of (List.mem_of_getElem? (i := 607) (by rfl)) (by rfl)
set_option maxRecDepth 100000 in
theorem wd_608 : (Cond.fieldLink "TrainGuardModel" (50 : Nat) "TrainGuardModel" "mode" "[I") ∈ tG := tG_of (List.mem_of_getElem? (i := 608) (by rfl)) (by rfl)
set_option maxRecDepth 100000 in
theorem wd_609 : (Cond.fieldLink "TrainGuardModel" (53 : Nat) "TrainGuardModel" "wet" "[Z") ∈ tG := tG_of (List.mem_of_getElem? (i := 609) (by rfl)) (by rfl)
set_option maxRecDepth 100000 in
theorem wd_610 : (Cond.fieldLink "TrainGuardModel" (57 : Nat) "TrainGuardModel" "numbers" "[I") ∈ tG := tG_of (List.mem_of_getElem? (i := 610) (by rfl)) (by rfl)
set_option maxRecDepth 100000 in
theorem wd_611 : (Cond.fieldLink "TrainGuardModel" (60 : Nat) "TrainGuardModel" "message" "[I") ∈ tG := tG_of (List.mem_of_getElem? (i := 611) (by rfl)) (by rfl)
set_option maxRecDepth 100000 in
theorem wd_612 : (Cond.fieldLink "TrainGuardModel" (63 : Nat) "TrainGuardModel" "place" "[J") ∈ tG := tG_of (List.mem_of_getElem? (i := 612) (by rfl)) (by rfl)
set_option maxRecDepth 100000 in
theorem wd_613 : (Cond.fieldLink "TrainGuardModel" (171 : Nat) "TrainGuardModel" "forged" "I") ∈ tG := tG_of (List.mem_of_getElem? (i := 613) (by rfl)) (by rfl)
set_option maxRecDepth 100000 in
theorem wd_614 : (Cond.fieldLink "TrainGuardModel" (179 : Nat) "TrainGuardModel" "braked" "I") ∈ tG := tG_of (List.mem_of_getElem? (i := 614) (by rfl)) (by rfl)
set_option maxRecDepth 100000 in
theorem wd_615 : (Cond.fieldLink "TrainGuardModel" (190 : Nat) "TrainGuardModel" "tripped" "I") ∈ tG := tG_of (List.mem_of_getElem? (i := 615) (by rfl)) (by rfl)
set_option maxRecDepth 100000 in
theorem wd_616 : (Cond.lays "TrainGuardModel" "TrainGuardModel" "thrown" "I") ∈ tG := tG_of (List.mem_of_getElem? (i := 616) (by rfl)) (by rfl)
set_option maxRecDepth 100000 in
theorem wd_618 : (Cond.lays "TrainGuardModel" "TrainGuardModel" "sections" "I") ∈ tG := tG_of (List.mem_of_getElem? (i := 618) (by rfl)) (by rfl)
set_option maxRecDepth 100000 in
theorem wd_620 : (Cond.laysFinal "TrainGuardModel" "TrainGuardModel" "begin" "[J") ∈ tG := tG_of (List.mem_of_getElem? (i := 620) (by rfl)) (by rfl)
set_option maxRecDepth 100000 in
theorem wd_622 : (Cond.laysFinal "TrainGuardModel" "TrainGuardModel" "speedOf" "[J") ∈ tG := tG_of (List.mem_of_getElem? (i := 622) (by rfl)) (by rfl)
set_option maxRecDepth 100000 in
theorem wd_624 : (Cond.laysFinal "TrainGuardModel" "TrainGuardModel" "held" "[I") ∈ tG := tG_of (List.mem_of_getElem? (i := 624) (by rfl)) (by rfl)
set_option maxRecDepth 100000 in
theorem wd_626 : (Cond.lays "TrainGuardModel" "TrainGuardModel" "restrictions" "I") ∈ tG := tG_of (List.mem_of_getElem? (i := 626) (by rfl)) (by rfl)
set_option maxRecDepth 100000 in
theorem wd_628 : (Cond.laysFinal "TrainGuardModel" "TrainGuardModel" "from" "[J") ∈ tG := tG_of (List.mem_of_getElem? (i := 628) (by rfl)) (by rfl)
set_option maxRecDepth 100000 in
theorem wd_630 : (Cond.laysFinal "TrainGuardModel" "TrainGuardModel" "to" "[J") ∈ tG := tG_of (List.mem_of_getElem? (i := 630) (by rfl)) (by rfl)
set_option maxRecDepth 100000 in
theorem wd_632 : (Cond.laysFinal "TrainGuardModel" "TrainGuardModel" "least" "[J") ∈ tG := tG_of (List.mem_of_getElem? (i := 632) (by rfl)) (by rfl)
set_option maxRecDepth 100000 in
theorem wd_634 : (Cond.lays "TrainGuardModel" "TrainGuardModel" "trains" "I") ∈ tG := tG_of (List.mem_of_getElem? (i := 634) (by rfl)) (by rfl)
set_option maxRecDepth 100000 in
theorem wd_636 : (Cond.laysFinal "TrainGuardModel" "TrainGuardModel" "length" "[J") ∈ tG := tG_of (List.mem_of_getElem? (i := 636) (by rfl)) (by rfl)
set_option maxRecDepth 100000 in
theorem wd_638 : (Cond.laysFinal "TrainGuardModel" "TrainGuardModel" "brake" "[J") ∈ tG := tG_of (List.mem_of_getElem? (i := 638) (by rfl)) (by rfl)
set_option maxRecDepth 100000 in
theorem wd_640 : (Cond.laysFinal "TrainGuardModel" "TrainGuardModel" "speed" "[J") ∈ tG := tG_of (List.mem_of_getElem? (i := 640) (by rfl)) (by rfl)
set_option maxRecDepth 100000 in
theorem wd_642 : (Cond.laysFinal "TrainGuardModel" "TrainGuardModel" "real" "[J") ∈ tG := tG_of (List.mem_of_getElem? (i := 642) (by rfl)) (by rfl)
set_option maxRecDepth 100000 in
theorem wd_644 : (Cond.laysFinal "TrainGuardModel" "TrainGuardModel" "measured" "[J") ∈ tG := tG_of (List.mem_of_getElem? (i := 644) (by rfl)) (by rfl)
set_option maxRecDepth 100000 in
theorem wd_646 : (Cond.laysFinal "TrainGuardModel" "TrainGuardModel" "margin" "[J") ∈ tG := tG_of (List.mem_of_getElem? (i := 646) (by rfl)) (by rfl)
set_option maxRecDepth 100000 in
theorem wd_648 : (Cond.laysFinal "TrainGuardModel" "TrainGuardModel" "authority" "[J") ∈ tG := tG_of (List.mem_of_getElem? (i := 648) (by rfl)) (by rfl)
set_option maxRecDepth 100000 in
theorem wd_650 : (Cond.laysFinal "TrainGuardModel" "TrainGuardModel" "mode" "[I") ∈ tG := tG_of (List.mem_of_getElem? (i := 650) (by rfl)) (by rfl)
set_option maxRecDepth 100000 in
theorem wd_652 : (Cond.laysFinal "TrainGuardModel" "TrainGuardModel" "wet" "[Z") ∈ tG := tG_of (List.mem_of_getElem? (i := 652) (by rfl)) (by rfl)
set_option maxRecDepth 100000 in
theorem wd_654 : (Cond.laysFinal "TrainGuardModel" "TrainGuardModel" "numbers" "[I") ∈ tG := tG_of (List.mem_of_getElem? (i := 654) (by rfl)) (by rfl)
set_option maxRecDepth 100000 in
theorem wd_656 : (Cond.laysFinal "TrainGuardModel" "TrainGuardModel" "message" "[I") ∈ tG := tG_of (List.mem_of_getElem? (i := 656) (by rfl)) (by rfl)
set_option maxRecDepth 100000 in
theorem wd_658 : (Cond.laysFinal "TrainGuardModel" "TrainGuardModel" "place" "[J") ∈ tG := tG_of (List.mem_of_getElem? (i := 658) (by rfl)) (by rfl)
set_option maxRecDepth 100000 in
theorem wd_660 : (Cond.lays "TrainGuardModel" "TrainGuardModel" "forged" "I") ∈ tG := tG_of (List.mem_of_getElem? (i := 660) (by rfl)) (by rfl)
set_option maxRecDepth 100000 in
theorem wd_662 : (Cond.lays "TrainGuardModel" "TrainGuardModel" "braked" "I") ∈ tG := tG_of (List.mem_of_getElem? (i := 662) (by rfl)) (by rfl)
set_option maxRecDepth 100000 in
theorem wd_664 : (Cond.lays "TrainGuardModel" "TrainGuardModel" "tripped" "I") ∈ tG := tG_of (List.mem_of_getElem? (i := 664) (by rfl)) (by rfl)
set_option maxRecDepth 100000 in
theorem wd_667 : (Cond.arrayClass Jvm.ClassFile.FieldType.long) ∈ tG := tG_of (List.mem_of_getElem? (i := 667) (by rfl)) (by rfl)
set_option maxRecDepth 100000 in
theorem wd_668 : (Cond.arrayClass Jvm.ClassFile.FieldType.boolean) ∈ tG := tG_of (List.mem_of_getElem? (i := 668) (by rfl)) (by rfl)
set_option maxRecDepth 100000 in
theorem wd_669 : (Cond.methodLink "TrainGuardLaw" (86 : Nat) ({ cls := "TrainGuardModel", name := "thrown", desc := "()I" } : Jvm.MethodName)) ∈ tG := tG_of (List.mem_of_getElem? (i := 669) (by rfl)) (by rfl)
set_option maxRecDepth 100000 in
theorem wd_670 : (Cond.instanceMethod ({ cls := "TrainGuardModel", name := "thrown", desc := "()I" } : Jvm.MethodName)) ∈ tG := tG_of (List.mem_of_getElem? (i := 670) (by rfl)) (by rfl)
set_option maxRecDepth 100000 in
theorem wd_671 : (Cond.selects "TrainGuardModel" ({ cls := "TrainGuardModel", name := "thrown", desc := "()I" } : Jvm.MethodName) ({ cls := "TrainGuardModel", name := "thrown", desc := "()I" } : Jvm.MethodName)) ∈ tG := tG_of (List.mem_of_getElem? (i := 671) (by rfl)) (by rfl)
set_option maxRecDepth 100000 in
theorem wd_672 : (Cond.code ({ cls := "TrainGuardModel", name := "thrown", desc := "()I" } : Jvm.MethodName) prog_6_method_2_code (1 : Nat) (Option.some Jvm.ClassFile.FieldType.int)) ∈ tG := tG_of (List.mem_of_getElem? (i := 672) (by rfl)) (by rfl)
set_option maxRecDepth 100000 in
theorem wd_673 : (Cond.methodLink "TrainGuardLaw" (85 : Nat) ({ cls := "TrainGuardModel", name := "section", desc := "(DD)I" } : Jvm.MethodName)) ∈ tG := tG_of (List.mem_of_getElem? (i := 673) (by rfl)) (by rfl)
set_option maxRecDepth 100000 in
theorem wd_674 : (Cond.instanceMethod ({ cls := "TrainGuardModel", name := "section", desc := "(DD)I" } : Jvm.MethodName)) ∈ tG := tG_of (List.mem_of_getElem? (i := 674) (by rfl)) (by rfl)
set_option maxRecDepth 100000 in
theorem wd_675 : (Cond.selects "TrainGuardModel" ({ cls := "TrainGuardModel", name := "section", desc := "(DD)I" } : Jvm.MethodName) ({ cls := "TrainGuardModel", name := "section", desc := "(DD)I" } : Jvm.MethodName)) ∈ tG := tG_of (List.mem_of_getElem? (i := 675) (by rfl)) (by rfl)
set_option maxRecDepth 100000 in
theorem wd_676 : (Cond.code ({ cls := "TrainGuardModel", name := "section", desc := "(DD)I" } : Jvm.MethodName) prog_6_method_17_code (5 : Nat) (Option.some Jvm.ClassFile.FieldType.int)) ∈ tG := tG_of (List.mem_of_getElem? (i := 676) (by rfl)) (by rfl)
set_option maxRecDepth 100000 in
theorem wd_677 : (Cond.constantDouble "TrainGuardModel" (93 : Nat) (4632233691727265792 : UInt64)) ∈ tG := tG_of (List.mem_of_getElem? (i := 677) (by rfl)) (by rfl)
set_option maxRecDepth 100000 in
theorem wd_678 : (Cond.constantDouble "TrainGuardModel" (95 : Nat) (4652007308841189376 : UInt64)) ∈ tG := tG_of (List.mem_of_getElem? (i := 678) (by rfl)) (by rfl)
set_option maxRecDepth 100000 in
theorem wd_679 : (Cond.methodLink "TrainGuardModel" (97 : Nat) ({ cls := "TrainGuardModel", name := "between", desc := "(DDD)Z" } : Jvm.MethodName)) ∈ tG := tG_of (List.mem_of_getElem? (i := 679) (by rfl)) (by rfl)
set_option maxRecDepth 100000 in
theorem wd_680 : (Cond.static ({ cls := "TrainGuardModel", name := "between", desc := "(DDD)Z" } : Jvm.MethodName)) ∈ tG := tG_of (List.mem_of_getElem? (i := 680) (by rfl)) (by rfl)
set_option maxRecDepth 100000 in
theorem wd_681 : (Cond.code ({ cls := "TrainGuardModel", name := "between", desc := "(DDD)Z" } : Jvm.MethodName) prog_6_method_8_code (6 : Nat) (Option.some Jvm.ClassFile.FieldType.boolean)) ∈ tG := tG_of (List.mem_of_getElem? (i := 681) (by rfl)) (by rfl)
set_option maxRecDepth 100000 in
theorem wd_682 : (Cond.constantDouble "TrainGuardModel" (101 : Nat) (4633641066610819072 : UInt64)) ∈ tG := tG_of (List.mem_of_getElem? (i := 682) (by rfl)) (by rfl)
set_option maxRecDepth 100000 in
theorem wd_683 : (Cond.methodLink "TrainGuardModel" (103 : Nat) ({ cls := "TrainGuardModel", name := "fail", desc := "(I)I" } : Jvm.MethodName)) ∈ tG := tG_of (List.mem_of_getElem? (i := 683) (by rfl)) (by rfl)
set_option maxRecDepth 100000 in
theorem wd_685 : (Cond.instanceMethod ({ cls := "TrainGuardModel", name := "fail", desc := "(I)I" } : Jvm.MethodName)) ∈ tG := tG_of (List.mem_of_getElem? (i := 685) (by rfl)) (by rfl)
set_option maxRecDepth 100000 in
theorem wd_686 : (Cond.code ({ cls := "TrainGuardModel", name := "fail", desc := "(I)I" } : Jvm.MethodName) prog_6_method_3_code (2 : Nat) (Option.some Jvm.ClassFile.FieldType.int)) ∈ tG := tG_of (List.mem_of_getElem? (i := 686) (by rfl)) (by rfl)
set_option maxRecDepth 100000 in
theorem wd_687 : (Cond.methodLink "TrainGuardModel" (107 : Nat) ({ cls := "TrainGuardModel", name := "whole", desc := "(D)J" } : Jvm.MethodName)) ∈ tG := tG_of (List.mem_of_getElem? (i := 687) (by rfl)) (by rfl)
set_option maxRecDepth 100000 in
theorem wd_688 : (Cond.static ({ cls := "TrainGuardModel", name := "whole", desc := "(D)J" } : Jvm.MethodName)) ∈ tG := tG_of (List.mem_of_getElem? (i := 688) (by rfl)) (by rfl)
set_option maxRecDepth 100000 in
theorem wd_689 : (Cond.code ({ cls := "TrainGuardModel", name := "whole", desc := "(D)J" } : Jvm.MethodName) prog_6_method_6_code (2 : Nat) (Option.some Jvm.ClassFile.FieldType.long)) ∈ tG := tG_of (List.mem_of_getElem? (i := 689) (by rfl)) (by rfl)
set_option maxRecDepth 100000 in
theorem wd_690 : (Cond.constantDouble "TrainGuardModel" (70 : Nat) (4643211215818981376 : UInt64)) ∈ tG := tG_of (List.mem_of_getElem? (i := 690) (by rfl)) (by rfl)
set_option maxRecDepth 100000 in
theorem wd_691 : (Cond.methodLink "TrainGuardModel" (111 : Nat) ({ cls := "TrainGuardModel", name := "answer", desc := "(I)I" } : Jvm.MethodName)) ∈ tG := tG_of (List.mem_of_getElem? (i := 691) (by rfl)) (by rfl)
set_option maxRecDepth 100000 in
theorem wd_693 : (Cond.instanceMethod ({ cls := "TrainGuardModel", name := "answer", desc := "(I)I" } : Jvm.MethodName)) ∈ tG := tG_of (List.mem_of_getElem? (i := 693) (by rfl)) (by rfl)
set_option maxRecDepth 100000 in
theorem wd_694 : (Cond.code ({ cls := "TrainGuardModel", name := "answer", desc := "(I)I" } : Jvm.MethodName) prog_6_method_4_code (2 : Nat) (Option.some Jvm.ClassFile.FieldType.int)) ∈ tG := tG_of (List.mem_of_getElem? (i := 694) (by rfl)) (by rfl)
set_option maxRecDepth 100000 in
theorem wd_695 : (Cond.methodLink "TrainGuardLaw" (93 : Nat) ({ cls := "TrainGuardModel", name := "restrict", desc := "(DDD)I" } : Jvm.MethodName)) ∈ tG := tG_of (List.mem_of_getElem? (i := 695) (by rfl)) (by rfl)
set_option maxRecDepth 100000 in
theorem wd_696 : (Cond.instanceMethod ({ cls := "TrainGuardModel", name := "restrict", desc := "(DDD)I" } : Jvm.MethodName)) ∈ tG := tG_of (List.mem_of_getElem? (i := 696) (by rfl)) (by rfl)
set_option maxRecDepth 100000 in
theorem wd_697 : (Cond.selects "TrainGuardModel" ({ cls := "TrainGuardModel", name := "restrict", desc := "(DDD)I" } : Jvm.MethodName) ({ cls := "TrainGuardModel", name := "restrict", desc := "(DDD)I" } : Jvm.MethodName)) ∈ tG := tG_of (List.mem_of_getElem? (i := 697) (by rfl)) (by rfl)
set_option maxRecDepth 100000 in
theorem wd_698 : (Cond.code ({ cls := "TrainGuardModel", name := "restrict", desc := "(DDD)I" } : Jvm.MethodName) prog_6_method_18_code (8 : Nat) (Option.some Jvm.ClassFile.FieldType.int)) ∈ tG := tG_of (List.mem_of_getElem? (i := 698) (by rfl)) (by rfl)
set_option maxRecDepth 100000 in
theorem wd_699 : (Cond.constantDouble "TrainGuardModel" (114 : Nat) (4666723172467343360 : UInt64)) ∈ tG := tG_of (List.mem_of_getElem? (i := 699) (by rfl)) (by rfl)
set_option maxRecDepth 100000 in
theorem wd_700 : (Cond.methodLink "TrainGuardLaw" (97 : Nat) ({ cls := "TrainGuardModel", name := "release", desc := "(I)I" } : Jvm.MethodName)) ∈ tG := tG_of (List.mem_of_getElem? (i := 700) (by rfl)) (by rfl)
set_option maxRecDepth 100000 in
theorem wd_701 : (Cond.instanceMethod ({ cls := "TrainGuardModel", name := "release", desc := "(I)I" } : Jvm.MethodName)) ∈ tG := tG_of (List.mem_of_getElem? (i := 701) (by rfl)) (by rfl)
set_option maxRecDepth 100000 in
theorem wd_702 : (Cond.selects "TrainGuardModel" ({ cls := "TrainGuardModel", name := "release", desc := "(I)I" } : Jvm.MethodName) ({ cls := "TrainGuardModel", name := "release", desc := "(I)I" } : Jvm.MethodName)) ∈ tG := tG_of (List.mem_of_getElem? (i := 702) (by rfl)) (by rfl)
set_option maxRecDepth 100000 in
theorem wd_703 : (Cond.code ({ cls := "TrainGuardModel", name := "release", desc := "(I)I" } : Jvm.MethodName) prog_6_method_19_code (3 : Nat) (Option.some Jvm.ClassFile.FieldType.int)) ∈ tG := tG_of (List.mem_of_getElem? (i := 703) (by rfl)) (by rfl)
set_option maxRecDepth 100000 in
theorem wd_704 : (Cond.methodLink "TrainGuardModel" (75 : Nat) ({ cls := "TrainGuardModel", name := "in", desc := "(III)Z" } : Jvm.MethodName)) ∈ tG := tG_of (List.mem_of_getElem? (i := 704) (by rfl)) (by rfl)
set_option maxRecDepth 100000 in
theorem wd_705 : (Cond.static ({ cls := "TrainGuardModel", name := "in", desc := "(III)Z" } : Jvm.MethodName)) ∈ tG := tG_of (List.mem_of_getElem? (i := 705) (by rfl)) (by rfl)
set_option maxRecDepth 100000 in
theorem wd_706 : (Cond.code ({ cls := "TrainGuardModel", name := "in", desc := "(III)Z" } : Jvm.MethodName) prog_6_method_7_code (3 : Nat) (Option.some Jvm.ClassFile.FieldType.boolean)) ∈ tG := tG_of (List.mem_of_getElem? (i := 706) (by rfl)) (by rfl)
set_option maxRecDepth 100000 in
theorem wd_707 : (Cond.methodLink "TrainGuardLaw" (101 : Nat) ({ cls := "TrainGuardModel", name := "train", desc := "(IDD)I" } : Jvm.MethodName)) ∈ tG := tG_of (List.mem_of_getElem? (i := 707) (by rfl)) (by rfl)
set_option maxRecDepth 100000 in
theorem wd_708 : (Cond.instanceMethod ({ cls := "TrainGuardModel", name := "train", desc := "(IDD)I" } : Jvm.MethodName)) ∈ tG := tG_of (List.mem_of_getElem? (i := 708) (by rfl)) (by rfl)
set_option maxRecDepth 100000 in
theorem wd_709 : (Cond.selects "TrainGuardModel" ({ cls := "TrainGuardModel", name := "train", desc := "(IDD)I" } : Jvm.MethodName) ({ cls := "TrainGuardModel", name := "train", desc := "(IDD)I" } : Jvm.MethodName)) ∈ tG := tG_of (List.mem_of_getElem? (i := 709) (by rfl)) (by rfl)
set_option maxRecDepth 100000 in
theorem wd_710 : (Cond.code ({ cls := "TrainGuardModel", name := "train", desc := "(IDD)I" } : Jvm.MethodName) prog_6_method_20_code (7 : Nat) (Option.some Jvm.ClassFile.FieldType.int)) ∈ tG := tG_of (List.mem_of_getElem? (i := 710) (by rfl)) (by rfl)
set_option maxRecDepth 100000 in
theorem wd_711 : (Cond.methodLink "TrainGuardModel" (116 : Nat) ({ cls := "TrainGuardModel", name := "noSection", desc := "(I)Z" } : Jvm.MethodName)) ∈ tG := tG_of (List.mem_of_getElem? (i := 711) (by rfl)) (by rfl)
set_option maxRecDepth 100000 in
theorem wd_713 : (Cond.instanceMethod ({ cls := "TrainGuardModel", name := "noSection", desc := "(I)Z" } : Jvm.MethodName)) ∈ tG := tG_of (List.mem_of_getElem? (i := 713) (by rfl)) (by rfl)
set_option maxRecDepth 100000 in
theorem wd_714 : (Cond.code ({ cls := "TrainGuardModel", name := "noSection", desc := "(I)Z" } : Jvm.MethodName) prog_6_method_10_code (2 : Nat) (Option.some Jvm.ClassFile.FieldType.boolean)) ∈ tG := tG_of (List.mem_of_getElem? (i := 714) (by rfl)) (by rfl)
set_option maxRecDepth 100000 in
theorem wd_715 : (Cond.constantDouble "TrainGuardModel" (120 : Nat) (4621819117588971520 : UInt64)) ∈ tG := tG_of (List.mem_of_getElem? (i := 715) (by rfl)) (by rfl)
set_option maxRecDepth 100000 in
theorem wd_716 : (Cond.constantDouble "TrainGuardModel" (122 : Nat) (4602678819172646912 : UInt64)) ∈ tG := tG_of (List.mem_of_getElem? (i := 716) (by rfl)) (by rfl)
set_option maxRecDepth 100000 in
theorem wd_717 : (Cond.constantDouble "TrainGuardModel" (124 : Nat) (4611686018427387904 : UInt64)) ∈ tG := tG_of (List.mem_of_getElem? (i := 717) (by rfl)) (by rfl)
set_option maxRecDepth 100000 in
theorem wd_718 : (Cond.methodLink "TrainGuardModel" (126 : Nat) ({ cls := "TrainGuardModel", name := "taken", desc := "(II)Z" } : Jvm.MethodName)) ∈ tG := tG_of (List.mem_of_getElem? (i := 718) (by rfl)) (by rfl)
set_option maxRecDepth 100000 in
theorem wd_720 : (Cond.instanceMethod ({ cls := "TrainGuardModel", name := "taken", desc := "(II)Z" } : Jvm.MethodName)) ∈ tG := tG_of (List.mem_of_getElem? (i := 720) (by rfl)) (by rfl)
set_option maxRecDepth 100000 in
theorem wd_721 : (Cond.code ({ cls := "TrainGuardModel", name := "taken", desc := "(II)Z" } : Jvm.MethodName) prog_6_method_16_code (4 : Nat) (Option.some Jvm.ClassFile.FieldType.boolean)) ∈ tG := tG_of (List.mem_of_getElem? (i := 721) (by rfl)) (by rfl)
set_option maxRecDepth 100000 in
theorem wd_722 : (Cond.methodLink "TrainGuardModel" (89 : Nat) ({ cls := "TrainGuardModel", name := "isIn", desc := "(II)Z" } : Jvm.MethodName)) ∈ tG := tG_of (List.mem_of_getElem? (i := 722) (by rfl)) (by rfl)
set_option maxRecDepth 100000 in
theorem wd_724 : (Cond.instanceMethod ({ cls := "TrainGuardModel", name := "isIn", desc := "(II)Z" } : Jvm.MethodName)) ∈ tG := tG_of (List.mem_of_getElem? (i := 724) (by rfl)) (by rfl)
set_option maxRecDepth 100000 in
theorem wd_725 : (Cond.code ({ cls := "TrainGuardModel", name := "isIn", desc := "(II)Z" } : Jvm.MethodName) prog_6_method_14_code (3 : Nat) (Option.some Jvm.ClassFile.FieldType.boolean)) ∈ tG := tG_of (List.mem_of_getElem? (i := 725) (by rfl)) (by rfl)
set_option maxRecDepth 100000 in
theorem wd_726 : (Cond.constantLong "TrainGuardModel" (129 : Nat) (-1 : Int64)) ∈ tG := tG_of (List.mem_of_getElem? (i := 726) (by rfl)) (by rfl)
set_option maxRecDepth 100000 in
theorem wd_727 : (Cond.methodLink "TrainGuardLaw" (104 : Nat) ({ cls := "TrainGuardModel", name := "start", desc := "(I)I" } : Jvm.MethodName)) ∈ tG := tG_of (List.mem_of_getElem? (i := 727) (by rfl)) (by rfl)
set_option maxRecDepth 100000 in
theorem wd_728 : (Cond.instanceMethod ({ cls := "TrainGuardModel", name := "start", desc := "(I)I" } : Jvm.MethodName)) ∈ tG := tG_of (List.mem_of_getElem? (i := 728) (by rfl)) (by rfl)
set_option maxRecDepth 100000 in
theorem wd_729 : (Cond.selects "TrainGuardModel" ({ cls := "TrainGuardModel", name := "start", desc := "(I)I" } : Jvm.MethodName) ({ cls := "TrainGuardModel", name := "start", desc := "(I)I" } : Jvm.MethodName)) ∈ tG := tG_of (List.mem_of_getElem? (i := 729) (by rfl)) (by rfl)
set_option maxRecDepth 100000 in
theorem wd_730 : (Cond.code ({ cls := "TrainGuardModel", name := "start", desc := "(I)I" } : Jvm.MethodName) prog_6_method_26_code (2 : Nat) (Option.some Jvm.ClassFile.FieldType.int)) ∈ tG := tG_of (List.mem_of_getElem? (i := 730) (by rfl)) (by rfl)
set_option maxRecDepth 100000 in
theorem wd_731 : (Cond.methodLink "TrainGuardModel" (158 : Nat) ({ cls := "TrainGuardModel", name := "noTrain", desc := "(I)Z" } : Jvm.MethodName)) ∈ tG := tG_of (List.mem_of_getElem? (i := 731) (by rfl)) (by rfl)
set_option maxRecDepth 100000 in
theorem wd_733 : (Cond.instanceMethod ({ cls := "TrainGuardModel", name := "noTrain", desc := "(I)Z" } : Jvm.MethodName)) ∈ tG := tG_of (List.mem_of_getElem? (i := 733) (by rfl)) (by rfl)
set_option maxRecDepth 100000 in
theorem wd_734 : (Cond.code ({ cls := "TrainGuardModel", name := "noTrain", desc := "(I)Z" } : Jvm.MethodName) prog_6_method_9_code (2 : Nat) (Option.some Jvm.ClassFile.FieldType.boolean)) ∈ tG := tG_of (List.mem_of_getElem? (i := 734) (by rfl)) (by rfl)
set_option maxRecDepth 100000 in
theorem wd_735 : (Cond.methodLink "TrainGuardModel" (161 : Nat) ({ cls := "TrainGuardModel", name := "ready", desc := "(I)Z" } : Jvm.MethodName)) ∈ tG := tG_of (List.mem_of_getElem? (i := 735) (by rfl)) (by rfl)
set_option maxRecDepth 100000 in
theorem wd_737 : (Cond.instanceMethod ({ cls := "TrainGuardModel", name := "ready", desc := "(I)Z" } : Jvm.MethodName)) ∈ tG := tG_of (List.mem_of_getElem? (i := 737) (by rfl)) (by rfl)
set_option maxRecDepth 100000 in
theorem wd_738 : (Cond.code ({ cls := "TrainGuardModel", name := "ready", desc := "(I)Z" } : Jvm.MethodName) prog_6_method_25_code (2 : Nat) (Option.some Jvm.ClassFile.FieldType.boolean)) ∈ tG := tG_of (List.mem_of_getElem? (i := 738) (by rfl)) (by rfl)
set_option maxRecDepth 100000 in
theorem wd_739 : (Cond.methodLink "TrainGuardModel" (154 : Nat) ({ cls := "TrainGuardModel", name := "safe", desc := "(IJJJ)Z" } : Jvm.MethodName)) ∈ tG := tG_of (List.mem_of_getElem? (i := 739) (by rfl)) (by rfl)
set_option maxRecDepth 100000 in
theorem wd_741 : (Cond.instanceMethod ({ cls := "TrainGuardModel", name := "safe", desc := "(IJJJ)Z" } : Jvm.MethodName)) ∈ tG := tG_of (List.mem_of_getElem? (i := 741) (by rfl)) (by rfl)
set_option maxRecDepth 100000 in
theorem wd_742 : (Cond.code ({ cls := "TrainGuardModel", name := "safe", desc := "(IJJJ)Z" } : Jvm.MethodName) prog_6_method_24_code (11 : Nat) (Option.some Jvm.ClassFile.FieldType.boolean)) ∈ tG := tG_of (List.mem_of_getElem? (i := 742) (by rfl)) (by rfl)
set_option maxRecDepth 100000 in
theorem wd_743 : (Cond.methodLink "TrainGuardModel" (143 : Nat) ({ cls := "TrainGuardModel", name := "safeFor", desc := "(IJJJJJ)Z" } : Jvm.MethodName)) ∈ tG := tG_of (List.mem_of_getElem? (i := 743) (by rfl)) (by rfl)
set_option maxRecDepth 100000 in
theorem wd_745 : (Cond.instanceMethod ({ cls := "TrainGuardModel", name := "safeFor", desc := "(IJJJJJ)Z" } : Jvm.MethodName)) ∈ tG := tG_of (List.mem_of_getElem? (i := 745) (by rfl)) (by rfl)
set_option maxRecDepth 100000 in
theorem wd_746 : (Cond.code ({ cls := "TrainGuardModel", name := "safeFor", desc := "(IJJJJJ)Z" } : Jvm.MethodName) prog_6_method_22_code (14 : Nat) (Option.some Jvm.ClassFile.FieldType.boolean)) ∈ tG := tG_of (List.mem_of_getElem? (i := 746) (by rfl)) (by rfl)
set_option maxRecDepth 100000 in
theorem wd_747 : (Cond.methodLink "TrainGuardModel" (133 : Nat) ({ cls := "TrainGuardModel", name := "ways", desc := "(JJJ)J" } : Jvm.MethodName)) ∈ tG := tG_of (List.mem_of_getElem? (i := 747) (by rfl)) (by rfl)
set_option maxRecDepth 100000 in
theorem wd_748 : (Cond.static ({ cls := "TrainGuardModel", name := "ways", desc := "(JJJ)J" } : Jvm.MethodName)) ∈ tG := tG_of (List.mem_of_getElem? (i := 748) (by rfl)) (by rfl)
set_option maxRecDepth 100000 in
theorem wd_749 : (Cond.code ({ cls := "TrainGuardModel", name := "ways", desc := "(JJJ)J" } : Jvm.MethodName) prog_6_method_21_code (12 : Nat) (Option.some Jvm.ClassFile.FieldType.long)) ∈ tG := tG_of (List.mem_of_getElem? (i := 749) (by rfl)) (by rfl)
set_option maxRecDepth 100000 in
theorem wd_750 : (Cond.constantLong "TrainGuardModel" (131 : Nat) (2 : Int64)) ∈ tG := tG_of (List.mem_of_getElem? (i := 750) (by rfl)) (by rfl)
set_option maxRecDepth 100000 in
theorem wd_751 : (Cond.constantLong "TrainGuardModel" (137 : Nat) (8 : Int64)) ∈ tG := tG_of (List.mem_of_getElem? (i := 751) (by rfl)) (by rfl)
set_option maxRecDepth 100000 in
theorem wd_752 : (Cond.methodLink "TrainGuardModel" (139 : Nat) ({ cls := "TrainGuardModel", name := "lineEnd", desc := "()J" } : Jvm.MethodName)) ∈ tG := tG_of (List.mem_of_getElem? (i := 752) (by rfl)) (by rfl)
set_option maxRecDepth 100000 in
theorem wd_754 : (Cond.instanceMethod ({ cls := "TrainGuardModel", name := "lineEnd", desc := "()J" } : Jvm.MethodName)) ∈ tG := tG_of (List.mem_of_getElem? (i := 754) (by rfl)) (by rfl)
set_option maxRecDepth 100000 in
theorem wd_755 : (Cond.code ({ cls := "TrainGuardModel", name := "lineEnd", desc := "()J" } : Jvm.MethodName) prog_6_method_11_code (1 : Nat) (Option.some Jvm.ClassFile.FieldType.long)) ∈ tG := tG_of (List.mem_of_getElem? (i := 755) (by rfl)) (by rfl)
set_option maxRecDepth 100000 in
theorem wd_756 : (Cond.methodLink "TrainGuardModel" (147 : Nat) ({ cls := "TrainGuardModel", name := "limitAt", desc := "(J)J" } : Jvm.MethodName)) ∈ tG := tG_of (List.mem_of_getElem? (i := 756) (by rfl)) (by rfl)
set_option maxRecDepth 100000 in
theorem wd_758 : (Cond.instanceMethod ({ cls := "TrainGuardModel", name := "limitAt", desc := "(J)J" } : Jvm.MethodName)) ∈ tG := tG_of (List.mem_of_getElem? (i := 758) (by rfl)) (by rfl)
set_option maxRecDepth 100000 in
theorem wd_759 : (Cond.code ({ cls := "TrainGuardModel", name := "limitAt", desc := "(J)J" } : Jvm.MethodName) prog_6_method_13_code (6 : Nat) (Option.some Jvm.ClassFile.FieldType.long)) ∈ tG := tG_of (List.mem_of_getElem? (i := 759) (by rfl)) (by rfl)
set_option maxRecDepth 100000 in
theorem wd_760 : (Cond.methodLink "TrainGuardModel" (82 : Nat) ({ cls := "TrainGuardModel", name := "sectionAt", desc := "(J)I" } : Jvm.MethodName)) ∈ tG := tG_of (List.mem_of_getElem? (i := 760) (by rfl)) (by rfl)
set_option maxRecDepth 100000 in
theorem wd_762 : (Cond.instanceMethod ({ cls := "TrainGuardModel", name := "sectionAt", desc := "(J)I" } : Jvm.MethodName)) ∈ tG := tG_of (List.mem_of_getElem? (i := 762) (by rfl)) (by rfl)
set_option maxRecDepth 100000 in
theorem wd_763 : (Cond.code ({ cls := "TrainGuardModel", name := "sectionAt", desc := "(J)I" } : Jvm.MethodName) prog_6_method_12_code (4 : Nat) (Option.some Jvm.ClassFile.FieldType.int)) ∈ tG := tG_of (List.mem_of_getElem? (i := 763) (by rfl)) (by rfl)
set_option maxRecDepth 100000 in
theorem wd_764 : (Cond.methodLink "TrainGuardModel" (151 : Nat) ({ cls := "TrainGuardModel", name := "within", desc := "(J)J" } : Jvm.MethodName)) ∈ tG := tG_of (List.mem_of_getElem? (i := 764) (by rfl)) (by rfl)
set_option maxRecDepth 100000 in
theorem wd_766 : (Cond.instanceMethod ({ cls := "TrainGuardModel", name := "within", desc := "(J)J" } : Jvm.MethodName)) ∈ tG := tG_of (List.mem_of_getElem? (i := 766) (by rfl)) (by rfl)
set_option maxRecDepth 100000 in
theorem wd_767 : (Cond.code ({ cls := "TrainGuardModel", name := "within", desc := "(J)J" } : Jvm.MethodName) prog_6_method_23_code (3 : Nat) (Option.some Jvm.ClassFile.FieldType.long)) ∈ tG := tG_of (List.mem_of_getElem? (i := 767) (by rfl)) (by rfl)
set_option maxRecDepth 100000 in
theorem wd_768 : (Cond.methodLink "TrainGuardLaw" (108 : Nat) ({ cls := "TrainGuardModel", name := "ask", desc := "(II)I" } : Jvm.MethodName)) ∈ tG := tG_of (List.mem_of_getElem? (i := 768) (by rfl)) (by rfl)
set_option maxRecDepth 100000 in
theorem wd_769 : (Cond.instanceMethod ({ cls := "TrainGuardModel", name := "ask", desc := "(II)I" } : Jvm.MethodName)) ∈ tG := tG_of (List.mem_of_getElem? (i := 769) (by rfl)) (by rfl)
set_option maxRecDepth 100000 in
theorem wd_770 : (Cond.selects "TrainGuardModel" ({ cls := "TrainGuardModel", name := "ask", desc := "(II)I" } : Jvm.MethodName) ({ cls := "TrainGuardModel", name := "ask", desc := "(II)I" } : Jvm.MethodName)) ∈ tG := tG_of (List.mem_of_getElem? (i := 770) (by rfl)) (by rfl)
set_option maxRecDepth 100000 in
theorem wd_771 : (Cond.code ({ cls := "TrainGuardModel", name := "ask", desc := "(II)I" } : Jvm.MethodName) prog_6_method_28_code (4 : Nat) (Option.some Jvm.ClassFile.FieldType.int)) ∈ tG := tG_of (List.mem_of_getElem? (i := 771) (by rfl)) (by rfl)
set_option maxRecDepth 100000 in
theorem wd_772 : (Cond.methodLink "TrainGuardModel" (164 : Nat) ({ cls := "TrainGuardModel", name := "head", desc := "(I)I" } : Jvm.MethodName)) ∈ tG := tG_of (List.mem_of_getElem? (i := 772) (by rfl)) (by rfl)
set_option maxRecDepth 100000 in
theorem wd_774 : (Cond.instanceMethod ({ cls := "TrainGuardModel", name := "head", desc := "(I)I" } : Jvm.MethodName)) ∈ tG := tG_of (List.mem_of_getElem? (i := 774) (by rfl)) (by rfl)
set_option maxRecDepth 100000 in
theorem wd_775 : (Cond.code ({ cls := "TrainGuardModel", name := "head", desc := "(I)I" } : Jvm.MethodName) prog_6_method_15_code (4 : Nat) (Option.some Jvm.ClassFile.FieldType.int)) ∈ tG := tG_of (List.mem_of_getElem? (i := 775) (by rfl)) (by rfl)
set_option maxRecDepth 100000 in
theorem wd_776 : (Cond.methodLink "TrainGuardModel" (167 : Nat) ({ cls := "TrainGuardModel", name := "send", desc := "(IIJ)I" } : Jvm.MethodName)) ∈ tG := tG_of (List.mem_of_getElem? (i := 776) (by rfl)) (by rfl)
set_option maxRecDepth 100000 in
theorem wd_778 : (Cond.instanceMethod ({ cls := "TrainGuardModel", name := "send", desc := "(IIJ)I" } : Jvm.MethodName)) ∈ tG := tG_of (List.mem_of_getElem? (i := 778) (by rfl)) (by rfl)
set_option maxRecDepth 100000 in
theorem wd_779 : (Cond.code ({ cls := "TrainGuardModel", name := "send", desc := "(IIJ)I" } : Jvm.MethodName) prog_6_method_27_code (5 : Nat) (Option.some Jvm.ClassFile.FieldType.int)) ∈ tG := tG_of (List.mem_of_getElem? (i := 779) (by rfl)) (by rfl)
set_option maxRecDepth 100000 in
theorem wd_780 : (Cond.methodLink "TrainGuardLaw" (111 : Nat) ({ cls := "TrainGuardModel", name := "stop", desc := "(I)I" } : Jvm.MethodName)) ∈ tG := tG_of (List.mem_of_getElem? (i := 780) (by rfl)) (by rfl)
set_option maxRecDepth 100000 in
theorem wd_781 : (Cond.instanceMethod ({ cls := "TrainGuardModel", name := "stop", desc := "(I)I" } : Jvm.MethodName)) ∈ tG := tG_of (List.mem_of_getElem? (i := 781) (by rfl)) (by rfl)
set_option maxRecDepth 100000 in
theorem wd_782 : (Cond.selects "TrainGuardModel" ({ cls := "TrainGuardModel", name := "stop", desc := "(I)I" } : Jvm.MethodName) ({ cls := "TrainGuardModel", name := "stop", desc := "(I)I" } : Jvm.MethodName)) ∈ tG := tG_of (List.mem_of_getElem? (i := 782) (by rfl)) (by rfl)
set_option maxRecDepth 100000 in
theorem wd_783 : (Cond.code ({ cls := "TrainGuardModel", name := "stop", desc := "(I)I" } : Jvm.MethodName) prog_6_method_29_code (2 : Nat) (Option.some Jvm.ClassFile.FieldType.int)) ∈ tG := tG_of (List.mem_of_getElem? (i := 783) (by rfl)) (by rfl)
set_option maxRecDepth 100000 in
theorem wd_784 : (Cond.methodLink "TrainGuardLaw" (114 : Nat) ({ cls := "TrainGuardModel", name := "take", desc := "(II)I" } : Jvm.MethodName)) ∈ tG := tG_of (List.mem_of_getElem? (i := 784) (by rfl)) (by rfl)
set_option maxRecDepth 100000 in
theorem wd_785 : (Cond.instanceMethod ({ cls := "TrainGuardModel", name := "take", desc := "(II)I" } : Jvm.MethodName)) ∈ tG := tG_of (List.mem_of_getElem? (i := 785) (by rfl)) (by rfl)
set_option maxRecDepth 100000 in
theorem wd_786 : (Cond.selects "TrainGuardModel" ({ cls := "TrainGuardModel", name := "take", desc := "(II)I" } : Jvm.MethodName) ({ cls := "TrainGuardModel", name := "take", desc := "(II)I" } : Jvm.MethodName)) ∈ tG := tG_of (List.mem_of_getElem? (i := 786) (by rfl)) (by rfl)
set_option maxRecDepth 100000 in
theorem wd_787 : (Cond.code ({ cls := "TrainGuardModel", name := "take", desc := "(II)I" } : Jvm.MethodName) prog_6_method_31_code (3 : Nat) (Option.some Jvm.ClassFile.FieldType.int)) ∈ tG := tG_of (List.mem_of_getElem? (i := 787) (by rfl)) (by rfl)
set_option maxRecDepth 100000 in
theorem wd_788 : (Cond.methodLink "TrainGuardModel" (174 : Nat) ({ cls := "TrainGuardModel", name := "takeAuthority", desc := "(I)I" } : Jvm.MethodName)) ∈ tG := tG_of (List.mem_of_getElem? (i := 788) (by rfl)) (by rfl)
set_option maxRecDepth 100000 in
theorem wd_790 : (Cond.instanceMethod ({ cls := "TrainGuardModel", name := "takeAuthority", desc := "(I)I" } : Jvm.MethodName)) ∈ tG := tG_of (List.mem_of_getElem? (i := 790) (by rfl)) (by rfl)
set_option maxRecDepth 100000 in
theorem wd_791 : (Cond.code ({ cls := "TrainGuardModel", name := "takeAuthority", desc := "(I)I" } : Jvm.MethodName) prog_6_method_30_code (2 : Nat) (Option.some Jvm.ClassFile.FieldType.int)) ∈ tG := tG_of (List.mem_of_getElem? (i := 791) (by rfl)) (by rfl)
set_option maxRecDepth 100000 in
theorem wd_792 : (Cond.methodLink "TrainGuardLaw" (118 : Nat) ({ cls := "TrainGuardModel", name := "second", desc := "(IDI)I" } : Jvm.MethodName)) ∈ tG := tG_of (List.mem_of_getElem? (i := 792) (by rfl)) (by rfl)
set_option maxRecDepth 100000 in
theorem wd_793 : (Cond.instanceMethod ({ cls := "TrainGuardModel", name := "second", desc := "(IDI)I" } : Jvm.MethodName)) ∈ tG := tG_of (List.mem_of_getElem? (i := 793) (by rfl)) (by rfl)
set_option maxRecDepth 100000 in
theorem wd_794 : (Cond.selects "TrainGuardModel" ({ cls := "TrainGuardModel", name := "second", desc := "(IDI)I" } : Jvm.MethodName) ({ cls := "TrainGuardModel", name := "second", desc := "(IDI)I" } : Jvm.MethodName)) ∈ tG := tG_of (List.mem_of_getElem? (i := 794) (by rfl)) (by rfl)
set_option maxRecDepth 100000 in
theorem wd_795 : (Cond.code ({ cls := "TrainGuardModel", name := "second", desc := "(IDI)I" } : Jvm.MethodName) prog_6_method_35_code (5 : Nat) (Option.some Jvm.ClassFile.FieldType.int)) ∈ tG := tG_of (List.mem_of_getElem? (i := 795) (by rfl)) (by rfl)
set_option maxRecDepth 100000 in
theorem wd_796 : (Cond.constantDouble "TrainGuardModel" (193 : Nat) (13835058055282163712 : UInt64)) ∈ tG := tG_of (List.mem_of_getElem? (i := 796) (by rfl)) (by rfl)
set_option maxRecDepth 100000 in
theorem wd_797 : (Cond.methodLink "TrainGuardModel" (195 : Nat) ({ cls := "TrainGuardModel", name := "pass", desc := "(IJI)V" } : Jvm.MethodName)) ∈ tG := tG_of (List.mem_of_getElem? (i := 797) (by rfl)) (by rfl)
set_option maxRecDepth 100000 in
theorem wd_799 : (Cond.instanceMethod ({ cls := "TrainGuardModel", name := "pass", desc := "(IJI)V" } : Jvm.MethodName)) ∈ tG := tG_of (List.mem_of_getElem? (i := 799) (by rfl)) (by rfl)
set_option maxRecDepth 100000 in
theorem wd_800 : (Cond.code ({ cls := "TrainGuardModel", name := "pass", desc := "(IJI)V" } : Jvm.MethodName) prog_6_method_34_code (7 : Nat) (Option.none : Option Jvm.ClassFile.FieldType)) ∈ tG := tG_of (List.mem_of_getElem? (i := 800) (by rfl)) (by rfl)
set_option maxRecDepth 100000 in
theorem wd_801 : (Cond.methodLink "TrainGuardModel" (182 : Nat) ({ cls := "TrainGuardModel", name := "wish", desc := "(IJ)J" } : Jvm.MethodName)) ∈ tG := tG_of (List.mem_of_getElem? (i := 801) (by rfl)) (by rfl)
set_option maxRecDepth 100000 in
theorem wd_803 : (Cond.instanceMethod ({ cls := "TrainGuardModel", name := "wish", desc := "(IJ)J" } : Jvm.MethodName)) ∈ tG := tG_of (List.mem_of_getElem? (i := 803) (by rfl)) (by rfl)
set_option maxRecDepth 100000 in
theorem wd_804 : (Cond.code ({ cls := "TrainGuardModel", name := "wish", desc := "(IJ)J" } : Jvm.MethodName) prog_6_method_32_code (14 : Nat) (Option.some Jvm.ClassFile.FieldType.long)) ∈ tG := tG_of (List.mem_of_getElem? (i := 804) (by rfl)) (by rfl)
set_option maxRecDepth 100000 in
theorem wd_805 : (Cond.constantLong "TrainGuardModel" (177 : Nat) (1280 : Int64)) ∈ tG := tG_of (List.mem_of_getElem? (i := 805) (by rfl)) (by rfl)
set_option maxRecDepth 100000 in
theorem wd_806 : (Cond.methodLink "TrainGuardModel" (186 : Nat) ({ cls := "TrainGuardModel", name := "move", desc := "(IJI)V" } : Jvm.MethodName)) ∈ tG := tG_of (List.mem_of_getElem? (i := 806) (by rfl)) (by rfl)
set_option maxRecDepth 100000 in
theorem wd_808 : (Cond.instanceMethod ({ cls := "TrainGuardModel", name := "move", desc := "(IJI)V" } : Jvm.MethodName)) ∈ tG := tG_of (List.mem_of_getElem? (i := 808) (by rfl)) (by rfl)
set_option maxRecDepth 100000 in
theorem wd_809 : (Cond.code ({ cls := "TrainGuardModel", name := "move", desc := "(IJI)V" } : Jvm.MethodName) prog_6_method_33_code (10 : Nat) (Option.none : Option Jvm.ClassFile.FieldType)) ∈ tG := tG_of (List.mem_of_getElem? (i := 809) (by rfl)) (by rfl)
set_option maxRecDepth 100000 in
theorem wd_810 : (Cond.methodLink "TrainGuardLaw" (122 : Nat) ({ cls := "TrainGuardModel", name := "wet", desc := "(IZ)I" } : Jvm.MethodName)) ∈ tG := tG_of (List.mem_of_getElem? (i := 810) (by rfl)) (by rfl)
set_option maxRecDepth 100000 in
theorem wd_811 : (Cond.instanceMethod ({ cls := "TrainGuardModel", name := "wet", desc := "(IZ)I" } : Jvm.MethodName)) ∈ tG := tG_of (List.mem_of_getElem? (i := 811) (by rfl)) (by rfl)
set_option maxRecDepth 100000 in
theorem wd_812 : (Cond.selects "TrainGuardModel" ({ cls := "TrainGuardModel", name := "wet", desc := "(IZ)I" } : Jvm.MethodName) ({ cls := "TrainGuardModel", name := "wet", desc := "(IZ)I" } : Jvm.MethodName)) ∈ tG := tG_of (List.mem_of_getElem? (i := 812) (by rfl)) (by rfl)
set_option maxRecDepth 100000 in
theorem wd_813 : (Cond.code ({ cls := "TrainGuardModel", name := "wet", desc := "(IZ)I" } : Jvm.MethodName) prog_6_method_36_code (3 : Nat) (Option.some Jvm.ClassFile.FieldType.int)) ∈ tG := tG_of (List.mem_of_getElem? (i := 813) (by rfl)) (by rfl)
set_option maxRecDepth 100000 in
theorem wd_814 : (Cond.methodLink "TrainGuardLaw" (125 : Nat) ({ cls := "TrainGuardModel", name := "acknowledge", desc := "(I)I" } : Jvm.MethodName)) ∈ tG := tG_of (List.mem_of_getElem? (i := 814) (by rfl)) (by rfl)
set_option maxRecDepth 100000 in
theorem wd_815 : (Cond.instanceMethod ({ cls := "TrainGuardModel", name := "acknowledge", desc := "(I)I" } : Jvm.MethodName)) ∈ tG := tG_of (List.mem_of_getElem? (i := 815) (by rfl)) (by rfl)
set_option maxRecDepth 100000 in
theorem wd_816 : (Cond.selects "TrainGuardModel" ({ cls := "TrainGuardModel", name := "acknowledge", desc := "(I)I" } : Jvm.MethodName) ({ cls := "TrainGuardModel", name := "acknowledge", desc := "(I)I" } : Jvm.MethodName)) ∈ tG := tG_of (List.mem_of_getElem? (i := 816) (by rfl)) (by rfl)
set_option maxRecDepth 100000 in
theorem wd_817 : (Cond.code ({ cls := "TrainGuardModel", name := "acknowledge", desc := "(I)I" } : Jvm.MethodName) prog_6_method_37_code (3 : Nat) (Option.some Jvm.ClassFile.FieldType.int)) ∈ tG := tG_of (List.mem_of_getElem? (i := 817) (by rfl)) (by rfl)
set_option maxRecDepth 100000 in
theorem wd_818 : (Cond.methodLink "TrainGuardLaw" (128 : Nat) ({ cls := "TrainGuardModel", name := "end", desc := "(I)I" } : Jvm.MethodName)) ∈ tG := tG_of (List.mem_of_getElem? (i := 818) (by rfl)) (by rfl)
set_option maxRecDepth 100000 in
theorem wd_819 : (Cond.instanceMethod ({ cls := "TrainGuardModel", name := "end", desc := "(I)I" } : Jvm.MethodName)) ∈ tG := tG_of (List.mem_of_getElem? (i := 819) (by rfl)) (by rfl)
set_option maxRecDepth 100000 in
theorem wd_820 : (Cond.selects "TrainGuardModel" ({ cls := "TrainGuardModel", name := "end", desc := "(I)I" } : Jvm.MethodName) ({ cls := "TrainGuardModel", name := "end", desc := "(I)I" } : Jvm.MethodName)) ∈ tG := tG_of (List.mem_of_getElem? (i := 820) (by rfl)) (by rfl)
set_option maxRecDepth 100000 in
theorem wd_821 : (Cond.code ({ cls := "TrainGuardModel", name := "end", desc := "(I)I" } : Jvm.MethodName) prog_6_method_38_code (3 : Nat) (Option.some Jvm.ClassFile.FieldType.int)) ∈ tG := tG_of (List.mem_of_getElem? (i := 821) (by rfl)) (by rfl)
set_option maxRecDepth 100000 in
theorem wd_822 : (Cond.methodLink "TrainGuardLaw" (132 : Nat) ({ cls := "TrainGuardModel", name := "of", desc := "(II)D" } : Jvm.MethodName)) ∈ tG := tG_of (List.mem_of_getElem? (i := 822) (by rfl)) (by rfl)
set_option maxRecDepth 100000 in
theorem wd_823 : (Cond.instanceMethod ({ cls := "TrainGuardModel", name := "of", desc := "(II)D" } : Jvm.MethodName)) ∈ tG := tG_of (List.mem_of_getElem? (i := 823) (by rfl)) (by rfl)
set_option maxRecDepth 100000 in
theorem wd_824 : (Cond.selects "TrainGuardModel" ({ cls := "TrainGuardModel", name := "of", desc := "(II)D" } : Jvm.MethodName) ({ cls := "TrainGuardModel", name := "of", desc := "(II)D" } : Jvm.MethodName)) ∈ tG := tG_of (List.mem_of_getElem? (i := 824) (by rfl)) (by rfl)
set_option maxRecDepth 100000 in
theorem wd_825 : (Cond.code ({ cls := "TrainGuardModel", name := "of", desc := "(II)D" } : Jvm.MethodName) prog_6_method_39_code (3 : Nat) (Option.some Jvm.ClassFile.FieldType.double)) ∈ tG := tG_of (List.mem_of_getElem? (i := 825) (by rfl)) (by rfl)
set_option maxRecDepth 100000 in
theorem wd_826 : (Cond.methodLink "TrainGuardModel" (198 : Nat) ({ cls := "TrainGuardModel", name := "shown", desc := "(J)D" } : Jvm.MethodName)) ∈ tG := tG_of (List.mem_of_getElem? (i := 826) (by rfl)) (by rfl)
set_option maxRecDepth 100000 in
theorem wd_828 : (Cond.instanceMethod ({ cls := "TrainGuardModel", name := "shown", desc := "(J)D" } : Jvm.MethodName)) ∈ tG := tG_of (List.mem_of_getElem? (i := 828) (by rfl)) (by rfl)
set_option maxRecDepth 100000 in
theorem wd_829 : (Cond.code ({ cls := "TrainGuardModel", name := "shown", desc := "(J)D" } : Jvm.MethodName) prog_6_method_5_code (3 : Nat) (Option.some Jvm.ClassFile.FieldType.double)) ∈ tG := tG_of (List.mem_of_getElem? (i := 829) (by rfl)) (by rfl)
set_option maxRecDepth 100000 in
theorem wd_830 : (Cond.constantLong "TrainGuardModel" (202 : Nat) (-256 : Int64)) ∈ tG := tG_of (List.mem_of_getElem? (i := 830) (by rfl)) (by rfl)
set_option maxRecDepth 100000 in
theorem wd_831 : (Cond.methodLink "TrainGuardLaw" (136 : Nat) ({ cls := "TrainGuardModel", name := "limit", desc := "(D)D" } : Jvm.MethodName)) ∈ tG := tG_of (List.mem_of_getElem? (i := 831) (by rfl)) (by rfl)
set_option maxRecDepth 100000 in
theorem wd_832 : (Cond.instanceMethod ({ cls := "TrainGuardModel", name := "limit", desc := "(D)D" } : Jvm.MethodName)) ∈ tG := tG_of (List.mem_of_getElem? (i := 832) (by rfl)) (by rfl)
set_option maxRecDepth 100000 in
theorem wd_833 : (Cond.selects "TrainGuardModel" ({ cls := "TrainGuardModel", name := "limit", desc := "(D)D" } : Jvm.MethodName) ({ cls := "TrainGuardModel", name := "limit", desc := "(D)D" } : Jvm.MethodName)) ∈ tG := tG_of (List.mem_of_getElem? (i := 833) (by rfl)) (by rfl)
set_option maxRecDepth 100000 in
theorem wd_834 : (Cond.code ({ cls := "TrainGuardModel", name := "limit", desc := "(D)D" } : Jvm.MethodName) prog_6_method_40_code (3 : Nat) (Option.some Jvm.ClassFile.FieldType.double)) ∈ tG := tG_of (List.mem_of_getElem? (i := 834) (by rfl)) (by rfl)
set_option maxRecDepth 100000 in
theorem wd_835 : (Cond.methodLink "TrainGuardLaw" (139 : Nat) ({ cls := "TrainGuardModel", name := "mode", desc := "(I)I" } : Jvm.MethodName)) ∈ tG := tG_of (List.mem_of_getElem? (i := 835) (by rfl)) (by rfl)
set_option maxRecDepth 100000 in
theorem wd_836 : (Cond.instanceMethod ({ cls := "TrainGuardModel", name := "mode", desc := "(I)I" } : Jvm.MethodName)) ∈ tG := tG_of (List.mem_of_getElem? (i := 836) (by rfl)) (by rfl)
set_option maxRecDepth 100000 in
theorem wd_837 : (Cond.selects "TrainGuardModel" ({ cls := "TrainGuardModel", name := "mode", desc := "(I)I" } : Jvm.MethodName) ({ cls := "TrainGuardModel", name := "mode", desc := "(I)I" } : Jvm.MethodName)) ∈ tG := tG_of (List.mem_of_getElem? (i := 837) (by rfl)) (by rfl)
set_option maxRecDepth 100000 in
theorem wd_838 : (Cond.code ({ cls := "TrainGuardModel", name := "mode", desc := "(I)I" } : Jvm.MethodName) prog_6_method_41_code (2 : Nat) (Option.some Jvm.ClassFile.FieldType.int)) ∈ tG := tG_of (List.mem_of_getElem? (i := 838) (by rfl)) (by rfl)
set_option maxRecDepth 100000 in
theorem wd_839 : (Cond.methodLink "TrainGuardLaw" (142 : Nat) ({ cls := "TrainGuardModel", name := "holds", desc := "(II)I" } : Jvm.MethodName)) ∈ tG := tG_of (List.mem_of_getElem? (i := 839) (by rfl)) (by rfl)
set_option maxRecDepth 100000 in
theorem wd_840 : (Cond.instanceMethod ({ cls := "TrainGuardModel", name := "holds", desc := "(II)I" } : Jvm.MethodName)) ∈ tG := tG_of (List.mem_of_getElem? (i := 840) (by rfl)) (by rfl)
set_option maxRecDepth 100000 in
theorem wd_841 : (Cond.selects "TrainGuardModel" ({ cls := "TrainGuardModel", name := "holds", desc := "(II)I" } : Jvm.MethodName) ({ cls := "TrainGuardModel", name := "holds", desc := "(II)I" } : Jvm.MethodName)) ∈ tG := tG_of (List.mem_of_getElem? (i := 841) (by rfl)) (by rfl)
set_option maxRecDepth 100000 in
theorem wd_842 : (Cond.code ({ cls := "TrainGuardModel", name := "holds", desc := "(II)I" } : Jvm.MethodName) prog_6_method_42_code (5 : Nat) (Option.some Jvm.ClassFile.FieldType.int)) ∈ tG := tG_of (List.mem_of_getElem? (i := 842) (by rfl)) (by rfl)
set_option maxRecDepth 100000 in
theorem wd_843 : (Cond.methodLink "TrainGuardLaw" (146 : Nat) ({ cls := "TrainGuardModel", name := "count", desc := "(I)I" } : Jvm.MethodName)) ∈ tG := tG_of (List.mem_of_getElem? (i := 843) (by rfl)) (by rfl)
set_option maxRecDepth 100000 in
theorem wd_844 : (Cond.instanceMethod ({ cls := "TrainGuardModel", name := "count", desc := "(I)I" } : Jvm.MethodName)) ∈ tG := tG_of (List.mem_of_getElem? (i := 844) (by rfl)) (by rfl)
set_option maxRecDepth 100000 in
theorem wd_845 : (Cond.selects "TrainGuardModel" ({ cls := "TrainGuardModel", name := "count", desc := "(I)I" } : Jvm.MethodName) ({ cls := "TrainGuardModel", name := "count", desc := "(I)I" } : Jvm.MethodName)) ∈ tG := tG_of (List.mem_of_getElem? (i := 845) (by rfl)) (by rfl)
set_option maxRecDepth 100000 in
theorem wd_846 : (Cond.code ({ cls := "TrainGuardModel", name := "count", desc := "(I)I" } : Jvm.MethodName) prog_6_method_43_code (2 : Nat) (Option.some Jvm.ClassFile.FieldType.int)) ∈ tG := tG_of (List.mem_of_getElem? (i := 846) (by rfl)) (by rfl)
set_option maxRecDepth 100000 in
theorem wd_847 : (Cond.constantDouble "TrainGuardLaw" (78 : Nat) (4593671619917905920 : UInt64)) ∈ tG := tG_of (List.mem_of_getElem? (i := 847) (by rfl)) (by rfl)
theorem inc_L : ∀ w ∈ u_ws Rc_L Fc_L 8, w ∈ tG := by
  show ∀ w ∈ [(Cond.laysFinal "TrainGuard$Line" "TrainGuard$Line" "begins" "[D"), (Cond.laysFinal "TrainGuard$Line" "TrainGuard$Line" "speeds" "[D"), (Cond.laysFinal "TrainGuard$Line" "TrainGuard$Line" "holders" "[I"), (Cond.laysFinal "TrainGuard$Line" "TrainGuard$Line" "froms" "[D"), (Cond.laysFinal "TrainGuard$Line" "TrainGuard$Line" "tos" "[D"), (Cond.laysFinal "TrainGuard$Line" "TrainGuard$Line" "caps" "[D"), (Cond.lays "TrainGuard$Line" "TrainGuard$Line" "sectionCount" "I"), (Cond.lays "TrainGuard$Line" "TrainGuard$Line" "restrictionCount" "I")], w ∈ tG
  exact List.forall_mem_cons.mpr ⟨wd_38, List.forall_mem_cons.mpr ⟨wd_40, List.forall_mem_cons.mpr ⟨wd_42, List.forall_mem_cons.mpr ⟨wd_44, List.forall_mem_cons.mpr ⟨wd_46, List.forall_mem_cons.mpr ⟨wd_48, List.forall_mem_cons.mpr ⟨wd_50, List.forall_mem_cons.mpr ⟨wd_52, fun _ h => absurd h List.not_mem_nil⟩⟩⟩⟩⟩⟩⟩⟩
theorem inc_M : ∀ w ∈ u_ws Rc_M Fc_M 5, w ∈ tG := by
  show ∀ w ∈ [(Cond.lays "TrainGuard$Message" "TrainGuard$Message" "isWaiting" "Z"), (Cond.lays "TrainGuard$Message" "TrainGuard$Message" "isStop" "Z"), (Cond.lays "TrainGuard$Message" "TrainGuard$Message" "number" "I"), (Cond.lays "TrainGuard$Message" "TrainGuard$Message" "place" "D"), (Cond.lays "TrainGuard$Message" "TrainGuard$Message" "mark" "I")], w ∈ tG
  exact List.forall_mem_cons.mpr ⟨wd_78, List.forall_mem_cons.mpr ⟨wd_80, List.forall_mem_cons.mpr ⟨wd_82, List.forall_mem_cons.mpr ⟨wd_84, List.forall_mem_cons.mpr ⟨wd_86, fun _ h => absurd h List.not_mem_nil⟩⟩⟩⟩⟩
theorem inc_T : ∀ w ∈ u_ws Rc_T Fc_T 11, w ∈ tG := by
  show ∀ w ∈ [(Cond.laysFinal "TrainGuard$Train" "TrainGuard$Train" "message" "LTrainGuard$Message;"), (Cond.lays "TrainGuard$Train" "TrainGuard$Train" "length" "D"), (Cond.lays "TrainGuard$Train" "TrainGuard$Train" "brake" "D"), (Cond.lays "TrainGuard$Train" "TrainGuard$Train" "speed" "D"), (Cond.lays "TrainGuard$Train" "TrainGuard$Train" "real" "D"), (Cond.lays "TrainGuard$Train" "TrainGuard$Train" "measured" "D"), (Cond.lays "TrainGuard$Train" "TrainGuard$Train" "margin" "D"), (Cond.lays "TrainGuard$Train" "TrainGuard$Train" "authority" "D"), (Cond.lays "TrainGuard$Train" "TrainGuard$Train" "hasAuthority" "Z"), (Cond.lays "TrainGuard$Train" "TrainGuard$Train" "isWet" "Z"), (Cond.lays "TrainGuard$Train" "TrainGuard$Train" "mode" "I")], w ∈ tG
  exact List.forall_mem_cons.mpr ⟨wd_109, List.forall_mem_cons.mpr ⟨wd_111, List.forall_mem_cons.mpr ⟨wd_113, List.forall_mem_cons.mpr ⟨wd_115, List.forall_mem_cons.mpr ⟨wd_117, List.forall_mem_cons.mpr ⟨wd_119, List.forall_mem_cons.mpr ⟨wd_121, List.forall_mem_cons.mpr ⟨wd_123, List.forall_mem_cons.mpr ⟨wd_125, List.forall_mem_cons.mpr ⟨wd_127, List.forall_mem_cons.mpr ⟨wd_129, fun _ h => absurd h List.not_mem_nil⟩⟩⟩⟩⟩⟩⟩⟩⟩⟩⟩
theorem inc_G : ∀ w ∈ u_ws Rc_G Fc_G 6, w ∈ tG := by
  show ∀ w ∈ [(Cond.laysFinal "TrainGuard" "TrainGuard" "line" "LTrainGuard$Line;"), (Cond.laysFinal "TrainGuard" "TrainGuard" "trains" "[LTrainGuard$Train;"), (Cond.lays "TrainGuard" "TrainGuard" "trainCount" "I"), (Cond.lays "TrainGuard" "TrainGuard" "forgedCount" "I"), (Cond.lays "TrainGuard" "TrainGuard" "guardBrakings" "I"), (Cond.lays "TrainGuard" "TrainGuard" "overruns" "I")], w ∈ tG
  exact List.forall_mem_cons.mpr ⟨wd_138, List.forall_mem_cons.mpr ⟨wd_140, List.forall_mem_cons.mpr ⟨wd_142, List.forall_mem_cons.mpr ⟨wd_144, List.forall_mem_cons.mpr ⟨wd_146, List.forall_mem_cons.mpr ⟨wd_148, fun _ h => absurd h List.not_mem_nil⟩⟩⟩⟩⟩⟩
theorem inc_R : ∀ w ∈ u_ws Rc_R Fc_R 25, w ∈ tG := by
  show ∀ w ∈ [(Cond.lays "TrainGuardModel" "TrainGuardModel" "thrown" "I"), (Cond.lays "TrainGuardModel" "TrainGuardModel" "sections" "I"), (Cond.laysFinal "TrainGuardModel" "TrainGuardModel" "begin" "[J"), (Cond.laysFinal "TrainGuardModel" "TrainGuardModel" "speedOf" "[J"), (Cond.laysFinal "TrainGuardModel" "TrainGuardModel" "held" "[I"), (Cond.lays "TrainGuardModel" "TrainGuardModel" "restrictions" "I"), (Cond.laysFinal "TrainGuardModel" "TrainGuardModel" "from" "[J"), (Cond.laysFinal "TrainGuardModel" "TrainGuardModel" "to" "[J"), (Cond.laysFinal "TrainGuardModel" "TrainGuardModel" "least" "[J"), (Cond.lays "TrainGuardModel" "TrainGuardModel" "trains" "I"), (Cond.laysFinal "TrainGuardModel" "TrainGuardModel" "length" "[J"), (Cond.laysFinal "TrainGuardModel" "TrainGuardModel" "brake" "[J"), (Cond.laysFinal "TrainGuardModel" "TrainGuardModel" "speed" "[J"), (Cond.laysFinal "TrainGuardModel" "TrainGuardModel" "real" "[J"), (Cond.laysFinal "TrainGuardModel" "TrainGuardModel" "measured" "[J"), (Cond.laysFinal "TrainGuardModel" "TrainGuardModel" "margin" "[J"), (Cond.laysFinal "TrainGuardModel" "TrainGuardModel" "authority" "[J"), (Cond.laysFinal "TrainGuardModel" "TrainGuardModel" "mode" "[I"), (Cond.laysFinal "TrainGuardModel" "TrainGuardModel" "wet" "[Z"), (Cond.laysFinal "TrainGuardModel" "TrainGuardModel" "numbers" "[I"), (Cond.laysFinal "TrainGuardModel" "TrainGuardModel" "message" "[I"), (Cond.laysFinal "TrainGuardModel" "TrainGuardModel" "place" "[J"), (Cond.lays "TrainGuardModel" "TrainGuardModel" "forged" "I"), (Cond.lays "TrainGuardModel" "TrainGuardModel" "braked" "I"), (Cond.lays "TrainGuardModel" "TrainGuardModel" "tripped" "I")], w ∈ tG
  exact List.forall_mem_cons.mpr ⟨wd_616, List.forall_mem_cons.mpr ⟨wd_618, List.forall_mem_cons.mpr ⟨wd_620, List.forall_mem_cons.mpr ⟨wd_622, List.forall_mem_cons.mpr ⟨wd_624, List.forall_mem_cons.mpr ⟨wd_626, List.forall_mem_cons.mpr ⟨wd_628, List.forall_mem_cons.mpr ⟨wd_630, List.forall_mem_cons.mpr ⟨wd_632, List.forall_mem_cons.mpr ⟨wd_634, List.forall_mem_cons.mpr ⟨wd_636, List.forall_mem_cons.mpr ⟨wd_638, List.forall_mem_cons.mpr ⟨wd_640, List.forall_mem_cons.mpr ⟨wd_642, List.forall_mem_cons.mpr ⟨wd_644, List.forall_mem_cons.mpr ⟨wd_646, List.forall_mem_cons.mpr ⟨wd_648, List.forall_mem_cons.mpr ⟨wd_650, List.forall_mem_cons.mpr ⟨wd_652, List.forall_mem_cons.mpr ⟨wd_654, List.forall_mem_cons.mpr ⟨wd_656, List.forall_mem_cons.mpr ⟨wd_658, List.forall_mem_cons.mpr ⟨wd_660, List.forall_mem_cons.mpr ⟨wd_662, List.forall_mem_cons.mpr ⟨wd_664, fun _ h => absurd h List.not_mem_nil⟩⟩⟩⟩⟩⟩⟩⟩⟩⟩⟩⟩⟩⟩⟩⟩⟩⟩⟩⟩⟩⟩⟩⟩⟩
theorem tG_gd {c0 : Cond} {ws : List Cond} (h : ∀ w ∈ ws, w ∈ tG) : GoodIn (c0 :: tG) ws := fun w hw => ⟨List.mem_cons_of_mem _ (h w hw), good_of_word (tG_good w (h w hw))⟩
theorem tG_g {ws : List Cond} (h : ∀ w ∈ ws, w ∈ tG) : GoodIn tG ws := fun w hw => ⟨h w hw, good_of_word (tG_good w (h w hw))⟩
theorem ws_0 : Cond.selects "java/lang/Throwable" ⟨"java/lang/Throwable", "fillInStackTrace", "(I)Ljava/lang/Throwable;"⟩ ⟨"java/lang/Throwable", "fillInStackTrace", "(I)Ljava/lang/Throwable;"⟩ ∈ tG := tG_sel (q := (⟨"java/lang/Throwable", "fillInStackTrace", "(I)Ljava/lang/Throwable;"⟩, 6)) (List.mem_of_getElem? (i := 0) (by rfl))
theorem ws_1 : Cond.selects "TrainGuard" ⟨"TrainGuard", "allStandBy", "()Z"⟩ ⟨"TrainGuard", "allStandBy", "()Z"⟩ ∈ tG := tG_sel (q := (⟨"TrainGuard", "allStandBy", "()Z"⟩, 6)) (List.mem_of_getElem? (i := 1) (by rfl))
theorem ws_2 : Cond.selects "TrainGuard" ⟨"TrainGuard", "isFreeFor", "(II)Z"⟩ ⟨"TrainGuard", "isFreeFor", "(II)Z"⟩ ∈ tG := tG_sel (q := (⟨"TrainGuard", "isFreeFor", "(II)Z"⟩, 6)) (List.mem_of_getElem? (i := 2) (by rfl))
theorem ws_3 : Cond.selects "TrainGuard" ⟨"TrainGuard", "firstTrainIn", "(II)I"⟩ ⟨"TrainGuard", "firstTrainIn", "(II)I"⟩ ∈ tG := tG_sel (q := (⟨"TrainGuard", "firstTrainIn", "(II)I"⟩, 6)) (List.mem_of_getElem? (i := 3) (by rfl))
theorem ws_4 : Cond.selects "TrainGuard" ⟨"TrainGuard", "isIn", "(LTrainGuard$Train;I)Z"⟩ ⟨"TrainGuard", "isIn", "(LTrainGuard$Train;I)Z"⟩ ∈ tG := tG_sel (q := (⟨"TrainGuard", "isIn", "(LTrainGuard$Train;I)Z"⟩, 6)) (List.mem_of_getElem? (i := 4) (by rfl))
theorem ws_5 : Cond.selects "TrainGuard" ⟨"TrainGuard", "trainNumbered", "(I)LTrainGuard$Train;"⟩ ⟨"TrainGuard", "trainNumbered", "(I)LTrainGuard$Train;"⟩ ∈ tG := tG_sel (q := (⟨"TrainGuard", "trainNumbered", "(I)LTrainGuard$Train;"⟩, 6)) (List.mem_of_getElem? (i := 5) (by rfl))
theorem ws_6 : Cond.selects "TrainGuard$Train" ⟨"TrainGuard$Train", "isSafeState", "(LTrainGuard$Line;DDD)Z"⟩ ⟨"TrainGuard$Train", "isSafeState", "(LTrainGuard$Line;DDD)Z"⟩ ∈ tG := tG_sel (q := (⟨"TrainGuard$Train", "isSafeState", "(LTrainGuard$Line;DDD)Z"⟩, 11)) (List.mem_of_getElem? (i := 6) (by rfl))
theorem ws_7 : Cond.selects "TrainGuard$Train" ⟨"TrainGuard$Train", "isSafe", "(DDDD)Z"⟩ ⟨"TrainGuard$Train", "isSafe", "(DDDD)Z"⟩ ∈ tG := tG_sel (q := (⟨"TrainGuard$Train", "isSafe", "(DDDD)Z"⟩, 11)) (List.mem_of_getElem? (i := 7) (by rfl))
theorem ws_8 : Cond.selects "TrainGuard$Train" ⟨"TrainGuard$Train", "meetsLimitsAhead", "(LTrainGuard$Line;DD)Z"⟩ ⟨"TrainGuard$Train", "meetsLimitsAhead", "(LTrainGuard$Line;DD)Z"⟩ ∈ tG := tG_sel (q := (⟨"TrainGuard$Train", "meetsLimitsAhead", "(LTrainGuard$Line;DD)Z"⟩, 11)) (List.mem_of_getElem? (i := 8) (by rfl))
theorem ws_9 : Cond.selects "TrainGuard" ⟨"TrainGuard", "headOf", "(LTrainGuard$Train;)I"⟩ ⟨"TrainGuard", "headOf", "(LTrainGuard$Train;)I"⟩ ∈ tG := tG_sel (q := (⟨"TrainGuard", "headOf", "(LTrainGuard$Train;)I"⟩, 6)) (List.mem_of_getElem? (i := 9) (by rfl))
theorem ws_10 : Cond.selects "TrainGuard$Message" ⟨"TrainGuard$Message", "dueMark", "()I"⟩ ⟨"TrainGuard$Message", "dueMark", "()I"⟩ ∈ tG := tG_sel (q := (⟨"TrainGuard$Message", "dueMark", "()I"⟩, 5)) (List.mem_of_getElem? (i := 10) (by rfl))
theorem ws_11 : Cond.selects "TrainGuard$Train" ⟨"TrainGuard$Train", "wishedSpeed", "(D)D"⟩ ⟨"TrainGuard$Train", "wishedSpeed", "(D)D"⟩ ∈ tG := tG_sel (q := (⟨"TrainGuard$Train", "wishedSpeed", "(D)D"⟩, 11)) (List.mem_of_getElem? (i := 11) (by rfl))
theorem ws_12 : Cond.selects "TrainGuard$Train" ⟨"TrainGuard$Train", "isSafeBehind", "(LTrainGuard$Line;D)Z"⟩ ⟨"TrainGuard$Train", "isSafeBehind", "(LTrainGuard$Line;D)Z"⟩ ∈ tG := tG_sel (q := (⟨"TrainGuard$Train", "isSafeBehind", "(LTrainGuard$Line;D)Z"⟩, 11)) (List.mem_of_getElem? (i := 12) (by rfl))
theorem ws_13 : Cond.selects "TrainGuard$Train" ⟨"TrainGuard$Train", "wayTo", "(D)D"⟩ ⟨"TrainGuard$Train", "wayTo", "(D)D"⟩ ∈ tG := tG_sel (q := (⟨"TrainGuard$Train", "wayTo", "(D)D"⟩, 11)) (List.mem_of_getElem? (i := 13) (by rfl))
theorem ws_14 : Cond.selects "TrainGuard$Train" ⟨"TrainGuard$Train", "brakedSpeed", "()D"⟩ ⟨"TrainGuard$Train", "brakedSpeed", "()D"⟩ ∈ tG := tG_sel (q := (⟨"TrainGuard$Train", "brakedSpeed", "()D"⟩, 11)) (List.mem_of_getElem? (i := 14) (by rfl))
theorem ws_15 : Cond.selects "TrainGuard$Train" ⟨"TrainGuard$Train", "move", "(LTrainGuard$Line;DI)V"⟩ ⟨"TrainGuard$Train", "move", "(LTrainGuard$Line;DI)V"⟩ ∈ tG := tG_sel (q := (⟨"TrainGuard$Train", "move", "(LTrainGuard$Line;DI)V"⟩, 11)) (List.mem_of_getElem? (i := 15) (by rfl))
theorem ws_16 : Cond.selects "TrainGuard" ⟨"TrainGuard", "holdOwnPlacesOnly", "(I)V"⟩ ⟨"TrainGuard", "holdOwnPlacesOnly", "(I)V"⟩ ∈ tG := tG_sel (q := (⟨"TrainGuard", "holdOwnPlacesOnly", "(I)V"⟩, 6)) (List.mem_of_getElem? (i := 16) (by rfl))
theorem ws_17 : Cond.selects "TrainGuardModel" ⟨"TrainGuardModel", "fail", "(I)I"⟩ ⟨"TrainGuardModel", "fail", "(I)I"⟩ ∈ tG := tG_sel (q := (⟨"TrainGuardModel", "fail", "(I)I"⟩, 25)) (List.mem_of_getElem? (i := 17) (by rfl))
theorem ws_18 : Cond.selects "TrainGuardModel" ⟨"TrainGuardModel", "answer", "(I)I"⟩ ⟨"TrainGuardModel", "answer", "(I)I"⟩ ∈ tG := tG_sel (q := (⟨"TrainGuardModel", "answer", "(I)I"⟩, 25)) (List.mem_of_getElem? (i := 18) (by rfl))
theorem ws_19 : Cond.selects "TrainGuardModel" ⟨"TrainGuardModel", "noSection", "(I)Z"⟩ ⟨"TrainGuardModel", "noSection", "(I)Z"⟩ ∈ tG := tG_sel (q := (⟨"TrainGuardModel", "noSection", "(I)Z"⟩, 25)) (List.mem_of_getElem? (i := 19) (by rfl))
theorem ws_20 : Cond.selects "TrainGuardModel" ⟨"TrainGuardModel", "taken", "(II)Z"⟩ ⟨"TrainGuardModel", "taken", "(II)Z"⟩ ∈ tG := tG_sel (q := (⟨"TrainGuardModel", "taken", "(II)Z"⟩, 25)) (List.mem_of_getElem? (i := 20) (by rfl))
theorem ws_21 : Cond.selects "TrainGuardModel" ⟨"TrainGuardModel", "isIn", "(II)Z"⟩ ⟨"TrainGuardModel", "isIn", "(II)Z"⟩ ∈ tG := tG_sel (q := (⟨"TrainGuardModel", "isIn", "(II)Z"⟩, 25)) (List.mem_of_getElem? (i := 21) (by rfl))
theorem ws_22 : Cond.selects "TrainGuardModel" ⟨"TrainGuardModel", "noTrain", "(I)Z"⟩ ⟨"TrainGuardModel", "noTrain", "(I)Z"⟩ ∈ tG := tG_sel (q := (⟨"TrainGuardModel", "noTrain", "(I)Z"⟩, 25)) (List.mem_of_getElem? (i := 22) (by rfl))
theorem ws_23 : Cond.selects "TrainGuardModel" ⟨"TrainGuardModel", "ready", "(I)Z"⟩ ⟨"TrainGuardModel", "ready", "(I)Z"⟩ ∈ tG := tG_sel (q := (⟨"TrainGuardModel", "ready", "(I)Z"⟩, 25)) (List.mem_of_getElem? (i := 23) (by rfl))
theorem ws_24 : Cond.selects "TrainGuardModel" ⟨"TrainGuardModel", "safe", "(IJJJ)Z"⟩ ⟨"TrainGuardModel", "safe", "(IJJJ)Z"⟩ ∈ tG := tG_sel (q := (⟨"TrainGuardModel", "safe", "(IJJJ)Z"⟩, 25)) (List.mem_of_getElem? (i := 24) (by rfl))
theorem ws_25 : Cond.selects "TrainGuardModel" ⟨"TrainGuardModel", "safeFor", "(IJJJJJ)Z"⟩ ⟨"TrainGuardModel", "safeFor", "(IJJJJJ)Z"⟩ ∈ tG := tG_sel (q := (⟨"TrainGuardModel", "safeFor", "(IJJJJJ)Z"⟩, 25)) (List.mem_of_getElem? (i := 25) (by rfl))
theorem ws_26 : Cond.selects "TrainGuardModel" ⟨"TrainGuardModel", "lineEnd", "()J"⟩ ⟨"TrainGuardModel", "lineEnd", "()J"⟩ ∈ tG := tG_sel (q := (⟨"TrainGuardModel", "lineEnd", "()J"⟩, 25)) (List.mem_of_getElem? (i := 26) (by rfl))
theorem ws_27 : Cond.selects "TrainGuardModel" ⟨"TrainGuardModel", "limitAt", "(J)J"⟩ ⟨"TrainGuardModel", "limitAt", "(J)J"⟩ ∈ tG := tG_sel (q := (⟨"TrainGuardModel", "limitAt", "(J)J"⟩, 25)) (List.mem_of_getElem? (i := 27) (by rfl))
theorem ws_28 : Cond.selects "TrainGuardModel" ⟨"TrainGuardModel", "sectionAt", "(J)I"⟩ ⟨"TrainGuardModel", "sectionAt", "(J)I"⟩ ∈ tG := tG_sel (q := (⟨"TrainGuardModel", "sectionAt", "(J)I"⟩, 25)) (List.mem_of_getElem? (i := 28) (by rfl))
theorem ws_29 : Cond.selects "TrainGuardModel" ⟨"TrainGuardModel", "within", "(J)J"⟩ ⟨"TrainGuardModel", "within", "(J)J"⟩ ∈ tG := tG_sel (q := (⟨"TrainGuardModel", "within", "(J)J"⟩, 25)) (List.mem_of_getElem? (i := 29) (by rfl))
theorem ws_30 : Cond.selects "TrainGuardModel" ⟨"TrainGuardModel", "head", "(I)I"⟩ ⟨"TrainGuardModel", "head", "(I)I"⟩ ∈ tG := tG_sel (q := (⟨"TrainGuardModel", "head", "(I)I"⟩, 25)) (List.mem_of_getElem? (i := 30) (by rfl))
theorem ws_31 : Cond.selects "TrainGuardModel" ⟨"TrainGuardModel", "send", "(IIJ)I"⟩ ⟨"TrainGuardModel", "send", "(IIJ)I"⟩ ∈ tG := tG_sel (q := (⟨"TrainGuardModel", "send", "(IIJ)I"⟩, 25)) (List.mem_of_getElem? (i := 31) (by rfl))
theorem ws_32 : Cond.selects "TrainGuardModel" ⟨"TrainGuardModel", "takeAuthority", "(I)I"⟩ ⟨"TrainGuardModel", "takeAuthority", "(I)I"⟩ ∈ tG := tG_sel (q := (⟨"TrainGuardModel", "takeAuthority", "(I)I"⟩, 25)) (List.mem_of_getElem? (i := 32) (by rfl))
theorem ws_33 : Cond.selects "TrainGuardModel" ⟨"TrainGuardModel", "pass", "(IJI)V"⟩ ⟨"TrainGuardModel", "pass", "(IJI)V"⟩ ∈ tG := tG_sel (q := (⟨"TrainGuardModel", "pass", "(IJI)V"⟩, 25)) (List.mem_of_getElem? (i := 33) (by rfl))
theorem ws_34 : Cond.selects "TrainGuardModel" ⟨"TrainGuardModel", "wish", "(IJ)J"⟩ ⟨"TrainGuardModel", "wish", "(IJ)J"⟩ ∈ tG := tG_sel (q := (⟨"TrainGuardModel", "wish", "(IJ)J"⟩, 25)) (List.mem_of_getElem? (i := 34) (by rfl))
theorem ws_35 : Cond.selects "TrainGuardModel" ⟨"TrainGuardModel", "move", "(IJI)V"⟩ ⟨"TrainGuardModel", "move", "(IJI)V"⟩ ∈ tG := tG_sel (q := (⟨"TrainGuardModel", "move", "(IJI)V"⟩, 25)) (List.mem_of_getElem? (i := 35) (by rfl))
theorem ws_36 : Cond.selects "TrainGuardModel" ⟨"TrainGuardModel", "shown", "(J)D"⟩ ⟨"TrainGuardModel", "shown", "(J)D"⟩ ∈ tG := tG_sel (q := (⟨"TrainGuardModel", "shown", "(J)D"⟩, 25)) (List.mem_of_getElem? (i := 36) (by rfl))
end
section
abbrev SC : Type := (Nat → Nat → Int32) × (Nat → Nat → UInt64)
abbrev SR : Type := (Nat → Nat → Int32) × (Nat → Nat → Int64)
def pI {α : Type} (S : (Nat → Nat → Int32) × α) (k j : Nat) (v : Int32) : (Nat → Nat → Int32) × α := (va_up S.1 k (va_up (S.1 k) j v), S.2)
def pV {α : Type} (S : (Nat → Nat → Int32) × (Nat → Nat → α)) (k j : Nat) (v : α) : (Nat → Nat → Int32) × (Nat → Nat → α) := (S.1, va_up S.2 k (va_up (S.2 k) j v))
def cTf (ad : Nat → Nat) (S : SC) (i : Nat) : List Value := [.ref (ad (12 + i)), .double (S.2 5 i), .double (S.2 6 i), .double (S.2 7 i), .double (S.2 8 i), .double (S.2 9 i), .double (S.2 10 i), .double (S.2 11 i), .int (S.1 7 i), .int (S.1 8 i), .int (S.1 9 i)]
def cMf (S : SC) (i : Nat) : List Value := [.int (S.1 10 i), .int (S.1 11 i), .int (S.1 12 i), .double (S.2 12 i), .int (S.1 13 i)]
def wC (ca : Nat → ClassId) (ad : Nat → Nat) (S : SC) : va_W := [(ad 0, .inr (3, [.ref (ad 1), .ref (ad 8), .int (S.1 0 0), .int (S.1 1 0), .int (S.1 2 0), .int (S.1 3 0)])), (ad 1, .inr (0, [.ref (ad 2), .ref (ad 3), .ref (ad 4), .ref (ad 5), .ref (ad 6), .ref (ad 7), .int (S.1 4 0), .int (S.1 5 0)])), (ad 2, .inl (ca 2, 11, .inr (.inr (.inr (.inl (S.2 0)))))), (ad 3, .inl (ca 2, 10, .inr (.inr (.inr (.inl (S.2 1)))))), (ad 4, .inl (ca 0, 10, .inl (S.1 6))), (ad 5, .inl (ca 2, 5, .inr (.inr (.inr (.inl (S.2 2)))))), (ad 6, .inl (ca 2, 5, .inr (.inr (.inr (.inl (S.2 3)))))), (ad 7, .inl (ca 2, 5, .inr (.inr (.inr (.inl (S.2 4)))))), (ad 8, .inl (ca 4, 3, .inr (.inr (.inr (.inr (fun j => some (ad (9 + j)))))))), (ad 9, .inr (2, cTf ad S 0)), (ad 10, .inr (2, cTf ad S 1)), (ad 11, .inr (2, cTf ad S 2)), (ad 12, .inr (1, cMf S 0)), (ad 13, .inr (1, cMf S 1)), (ad 14, .inr (1, cMf S 2))]
def wR (ca : Nat → ClassId) (ad : Nat → Nat) (S : SR) : va_W := [(ad 0, .inr (4, [.int (S.1 0 0), .int (S.1 1 0), .ref (ad 1), .ref (ad 2), .ref (ad 3), .int (S.1 2 0), .ref (ad 4), .ref (ad 5), .ref (ad 6), .int (S.1 3 0), .ref (ad 7), .ref (ad 8), .ref (ad 9), .ref (ad 10), .ref (ad 11), .ref (ad 12), .ref (ad 13), .ref (ad 14), .ref (ad 15), .ref (ad 16), .ref (ad 17), .ref (ad 18), .int (S.1 4 0), .int (S.1 5 0), .int (S.1 6 0)])), (ad 1, .inl (ca 1, 11, .inr (.inl (S.2 0)))), (ad 2, .inl (ca 1, 10, .inr (.inl (S.2 1)))), (ad 3, .inl (ca 0, 10, .inl (S.1 7))), (ad 4, .inl (ca 1, 5, .inr (.inl (S.2 2)))), (ad 5, .inl (ca 1, 5, .inr (.inl (S.2 3)))), (ad 6, .inl (ca 1, 5, .inr (.inl (S.2 4)))), (ad 7, .inl (ca 1, 3, .inr (.inl (S.2 5)))), (ad 8, .inl (ca 1, 3, .inr (.inl (S.2 6)))), (ad 9, .inl (ca 1, 3, .inr (.inl (S.2 7)))), (ad 10, .inl (ca 1, 3, .inr (.inl (S.2 8)))), (ad 11, .inl (ca 1, 3, .inr (.inl (S.2 9)))), (ad 12, .inl (ca 1, 3, .inr (.inl (S.2 10)))), (ad 13, .inl (ca 1, 3, .inr (.inl (S.2 11)))), (ad 14, .inl (ca 0, 3, .inl (S.1 8))), (ad 15, .inl (ca 3, 3, .inl (S.1 9))), (ad 16, .inl (ca 0, 3, .inl (S.1 10))), (ad 17, .inl (ca 0, 3, .inl (S.1 11))), (ad 18, .inl (ca 1, 3, .inr (.inl (S.2 12))))]
def tyl (ca : Nat → ClassId) : List (ClassId × FieldType) := [(ca 0, .int), (ca 1, .long), (ca 2, .double), (ca 3, .boolean), (ca 4, .object "TrainGuard$Train")]
def nestL : List Cond := [(Cond.methodLinkNest "TrainGuard" (9 : Nat) ({ cls := "TrainGuard$Line", name := "<init>", desc := "()V" } : Jvm.MethodName) "TrainGuard"), (Cond.fieldLinkNest "TrainGuard" (98 : Nat) "TrainGuard$Line" "holders" "[I" "TrainGuard"), (Cond.fieldLinkNest "TrainGuard" (43 : Nat) "TrainGuard$Line" "sectionCount" "I" "TrainGuard"), (Cond.fieldLinkNest "TrainGuard" (55 : Nat) "TrainGuard$Line" "restrictionCount" "I" "TrainGuard"), (Cond.methodLinkNest "TrainGuard" (22 : Nat) ({ cls := "TrainGuard$Train", name := "<init>", desc := "()V" } : Jvm.MethodName) "TrainGuard"), (Cond.methodLinkNest "TrainGuard$Train" (11 : Nat) ({ cls := "TrainGuard$Message", name := "<init>", desc := "()V" } : Jvm.MethodName) "TrainGuard"), (Cond.fieldLinkNest "TrainGuard" (130 : Nat) "TrainGuard$Message" "isWaiting" "Z" "TrainGuard"), (Cond.fieldLinkNest "TrainGuard" (137 : Nat) "TrainGuard$Message" "isStop" "Z" "TrainGuard"), (Cond.fieldLinkNest "TrainGuard" (152 : Nat) "TrainGuard$Message" "place" "D" "TrainGuard"), (Cond.fieldLinkNest "TrainGuard" (117 : Nat) "TrainGuard$Train" "message" "LTrainGuard$Message;" "TrainGuard"), (Cond.fieldLinkNest "TrainGuard" (205 : Nat) "TrainGuard$Train" "speed" "D" "TrainGuard"), (Cond.fieldLinkNest "TrainGuard" (196 : Nat) "TrainGuard$Train" "real" "D" "TrainGuard"), (Cond.fieldLinkNest "TrainGuard" (199 : Nat) "TrainGuard$Train" "measured" "D" "TrainGuard"), (Cond.fieldLinkNest "TrainGuard" (202 : Nat) "TrainGuard$Train" "margin" "D" "TrainGuard"), (Cond.fieldLinkNest "TrainGuard" (208 : Nat) "TrainGuard$Train" "authority" "D" "TrainGuard"), (Cond.fieldLinkNest "TrainGuard" (189 : Nat) "TrainGuard$Train" "hasAuthority" "Z" "TrainGuard"), (Cond.fieldLinkNest "TrainGuard" (183 : Nat) "TrainGuard$Train" "isWet" "Z" "TrainGuard"), (Cond.fieldLinkNest "TrainGuard" (106 : Nat) "TrainGuard$Train" "mode" "I" "TrainGuard")]
def nW (U : State) : Prop := ∀ w ∈ nestL, va_Nw w U
theorem nW.warm {s U : State} (hW : s.WarmedH U.vm) (h : nW s) : nW U := by
  intro w hw
  have h1 := h w hw
  simp only [nestL, List.mem_cons, List.not_mem_nil, or_false] at hw
  rcases hw with rfl | rfl | rfl | rfl | rfl | rfl | rfl | rfl | rfl | rfl | rfl | rfl | rfl | rfl | rfl | rfl | rfl | rfl <;> first | exact va_Nw.warmF hW h1 | exact va_Nw.warmM hW h1
theorem nW.same {u U : State} (h : u.vm = U.vm) (hZ : nW u) : nW U := by
  intro w hw
  have h1 := hZ w hw
  simp only [nestL, List.mem_cons, List.not_mem_nil, or_false] at hw
  rcases hw with rfl | rfl | rfl | rfl | rfl | rfl | rfl | rfl | rfl | rfl | rfl | rfl | rfl | rfl | rfl | rfl | rfl | rfl <;> exact va_Nw.same rfl h h1
theorem nw_23 {args : Array Value} {s : State} (h : nW s) : (Cond.methodLinkNest "TrainGuard" (9 : Nat) ({ cls := "TrainGuard$Line", name := "<init>", desc := "()V" } : Jvm.MethodName) "TrainGuard").before args s = true := (h _ (List.mem_of_getElem? (i := 0) (by rfl))).use rfl
theorem nw_30 {args : Array Value} {s : State} (h : nW s) : (Cond.fieldLinkNest "TrainGuard" (98 : Nat) "TrainGuard$Line" "holders" "[I" "TrainGuard").before args s = true := (h _ (List.mem_of_getElem? (i := 1) (by rfl))).use rfl
theorem nw_35 {args : Array Value} {s : State} (h : nW s) : (Cond.fieldLinkNest "TrainGuard" (43 : Nat) "TrainGuard$Line" "sectionCount" "I" "TrainGuard").before args s = true := (h _ (List.mem_of_getElem? (i := 2) (by rfl))).use rfl
theorem nw_37 {args : Array Value} {s : State} (h : nW s) : (Cond.fieldLinkNest "TrainGuard" (55 : Nat) "TrainGuard$Line" "restrictionCount" "I" "TrainGuard").before args s = true := (h _ (List.mem_of_getElem? (i := 3) (by rfl))).use rfl
theorem nw_60 {args : Array Value} {s : State} (h : nW s) : (Cond.methodLinkNest "TrainGuard" (22 : Nat) ({ cls := "TrainGuard$Train", name := "<init>", desc := "()V" } : Jvm.MethodName) "TrainGuard").before args s = true := (h _ (List.mem_of_getElem? (i := 4) (by rfl))).use rfl
theorem nw_66 {args : Array Value} {s : State} (h : nW s) : (Cond.methodLinkNest "TrainGuard$Train" (11 : Nat) ({ cls := "TrainGuard$Message", name := "<init>", desc := "()V" } : Jvm.MethodName) "TrainGuard").before args s = true := (h _ (List.mem_of_getElem? (i := 5) (by rfl))).use rfl
theorem nw_71 {args : Array Value} {s : State} (h : nW s) : (Cond.fieldLinkNest "TrainGuard" (130 : Nat) "TrainGuard$Message" "isWaiting" "Z" "TrainGuard").before args s = true := (h _ (List.mem_of_getElem? (i := 6) (by rfl))).use rfl
theorem nw_73 {args : Array Value} {s : State} (h : nW s) : (Cond.fieldLinkNest "TrainGuard" (137 : Nat) "TrainGuard$Message" "isStop" "Z" "TrainGuard").before args s = true := (h _ (List.mem_of_getElem? (i := 7) (by rfl))).use rfl
theorem nw_76 {args : Array Value} {s : State} (h : nW s) : (Cond.fieldLinkNest "TrainGuard" (152 : Nat) "TrainGuard$Message" "place" "D" "TrainGuard").before args s = true := (h _ (List.mem_of_getElem? (i := 8) (by rfl))).use rfl
theorem nw_90 {args : Array Value} {s : State} (h : nW s) : (Cond.fieldLinkNest "TrainGuard" (117 : Nat) "TrainGuard$Train" "message" "LTrainGuard$Message;" "TrainGuard").before args s = true := (h _ (List.mem_of_getElem? (i := 9) (by rfl))).use rfl
theorem nw_94 {args : Array Value} {s : State} (h : nW s) : (Cond.fieldLinkNest "TrainGuard" (205 : Nat) "TrainGuard$Train" "speed" "D" "TrainGuard").before args s = true := (h _ (List.mem_of_getElem? (i := 10) (by rfl))).use rfl
theorem nw_96 {args : Array Value} {s : State} (h : nW s) : (Cond.fieldLinkNest "TrainGuard" (196 : Nat) "TrainGuard$Train" "real" "D" "TrainGuard").before args s = true := (h _ (List.mem_of_getElem? (i := 11) (by rfl))).use rfl
theorem nw_98 {args : Array Value} {s : State} (h : nW s) : (Cond.fieldLinkNest "TrainGuard" (199 : Nat) "TrainGuard$Train" "measured" "D" "TrainGuard").before args s = true := (h _ (List.mem_of_getElem? (i := 12) (by rfl))).use rfl
theorem nw_100 {args : Array Value} {s : State} (h : nW s) : (Cond.fieldLinkNest "TrainGuard" (202 : Nat) "TrainGuard$Train" "margin" "D" "TrainGuard").before args s = true := (h _ (List.mem_of_getElem? (i := 13) (by rfl))).use rfl
theorem nw_102 {args : Array Value} {s : State} (h : nW s) : (Cond.fieldLinkNest "TrainGuard" (208 : Nat) "TrainGuard$Train" "authority" "D" "TrainGuard").before args s = true := (h _ (List.mem_of_getElem? (i := 14) (by rfl))).use rfl
theorem nw_104 {args : Array Value} {s : State} (h : nW s) : (Cond.fieldLinkNest "TrainGuard" (189 : Nat) "TrainGuard$Train" "hasAuthority" "Z" "TrainGuard").before args s = true := (h _ (List.mem_of_getElem? (i := 15) (by rfl))).use rfl
theorem nw_105 {args : Array Value} {s : State} (h : nW s) : (Cond.fieldLinkNest "TrainGuard" (183 : Nat) "TrainGuard$Train" "isWet" "Z" "TrainGuard").before args s = true := (h _ (List.mem_of_getElem? (i := 16) (by rfl))).use rfl
theorem nw_108 {args : Array Value} {s : State} (h : nW s) : (Cond.fieldLinkNest "TrainGuard" (106 : Nat) "TrainGuard$Train" "mode" "I" "TrainGuard").before args s = true := (h _ (List.mem_of_getElem? (i := 17) (by rfl))).use rfl
theorem wC_T {ca : Nat → ClassId} {ad : Nat → Nat} {S : SC} {i : Nat} (hi : i < 3) : (wC ca ad S)[9 + i]? = some (ad (9 + i), .inr (2, cTf ad S i)) := by
  rcases (show i = 0 ∨ i = 1 ∨ i = 2 by omega) with rfl | rfl | rfl <;> rfl
theorem wC_M {ca : Nat → ClassId} {ad : Nat → Nat} {S : SC} {i : Nat} (hi : i < 3) : (wC ca ad S)[12 + i]? = some (ad (12 + i), .inr (1, cMf S i)) := by
  rcases (show i = 0 ∨ i = 1 ∨ i = 2 by omega) with rfl | rfl | rfl <;> rfl
def xPc {St : Type} (D : va_G) (ca : Nat → ClassId) (w : St → va_W) (S : St) (sz : Nat) (vals : List Value) : Array Value → State → Prop := va_Pc vals (fun U => U.heap.size = sz ∧ va_K D cls (tyl ca) U ∧ nW U ∧ va_P D cls (w S) U.heap ∧ va_D (fun _ => True) (w S))
def xAt {St : Type} (D : va_G) (w : St → va_W) (A : Nat → Prop) (S : St) (t : State) : Prop := va_P D cls (w S) t.heap ∧ va_D A (w S)
theorem xPc.blind {St : Type} {D : va_G} {ca : Nat → ClassId} {w : St → va_W} {S : St} {sz : Nat} {vals : List Value} : FrameBlind (xPc D ca w S sz vals) := by
  intro a U g mk q
  obtain ⟨q0, q1, qK, qN, qP, qD⟩ := q
  exact ⟨q0, q1, va_K.moved (u := U) (U := U.calling g mk a) (Vm.Alike.refl U.vm) qK, nW.same (u := U) (U := U.calling g mk a) rfl qN, qP, qD⟩
theorem xPc.pre {St : Type} {D : va_G} {ca : Nat → ClassId} {w : St → va_W} {S : St} {vals : List Value} {s : State} {H : Heap} {A : Nat → Prop} (hK : va_K D cls (tyl ca) s) (hN : nW s) (hP : va_P D cls (w S) H) (hD : va_D A (w S)) : ∀ U : State, U.heap = H → s.WarmedH U.vm → xPc D ca w S H.size vals vals.toArray U :=
  fun U hU hW => ⟨rfl, by rw [hU], va_K.moved hW.alike hK, hN.warm hW, by rw [hU]; exact hP, hD.weaken (fun _ _ _ _ => trivial)⟩
theorem xx_free {A : Nat → Prop} {ws : va_W} {H0 H : Heap} {locs : List Loc} (hD : va_D A ws) (hS : va_S A H0 H locs) (hA : ∀ q, H0.size ≤ q → A q) : ∀ q, va_A ws H.size q → A q := by
  rintro q (⟨k, e, h⟩ | h)
  · exact hD.2 k _ h
  · exact hA q (Nat.le_trans hS.1 h)
theorem xx_met {St : Type} {l : Launch} {D : va_G} {ca : Nat → ClassId} {w : St → va_W} {S : St} {sz : Nat} {vals : List Value} {y : MethodName} {cc : ByteArray} {maxL : Nat} {ret : Option FieldType} {rm : Room} {mc ms : Nat} {Qf : (Nat → Prop) → Array Value → State → Outcome → State → Prop}
    (hy : plainName y.cls = true) (hn : (lg_sl vals).length ≤ maxL)
    (body : ∀ (p : Program) (e : Env) (s : State) (m : MethodId) (args : Array Value) (below : List Frame) (meth : Method) (c : Code) (A : Nat → Prop) (ls : Array Slot), p.tables.exec = Jvm.exec → c.code = cc → meth.sig.returnType = ret → (∀ x ∈ tG, x.before args s = true) → s.vm.findClass y.cls = some m.cls → meth.locks = false → c.maxLocals = maxL →
      va_K D cls (tyl ca) s → nW s → (∀ q : Nat, s.heap.size ≤ q → A q) → va_P D cls (w S) s.heap → va_D A (w S) → va_S A s.heap s.heap [] → lv_has ls maxL (lv_args 0 vals) →
      W p l e rm s m args below meth c s.heap [] 0 0 (MQ below (Qf A) args s mc ms A) (F0 m 0 ls [])) :
    Met l y (Cond.code y cc maxL ret :: tG) rm (xPc D ca w S sz vals) (Qf (va_A (w S) sz)) mc ms (va_A (w S) sz) := by
  refine Met.ofW (cc := cc) (maxL := maxL) (ret := ret) hy rfl ?_
  intro p e s m args below meth c s₁ B hml hv
  obtain ⟨rfl, hsz, hK, hN, hP, hD0⟩ := hv
  have hts := atoms_spec (ws := Cond.code y cc maxL ret :: tG) B.pre
  subst hsz
  have hl := lv_entry vals (n := maxL) hn
  rw [lg_entry_eq]
  exact body p e s m _ below meth c _ _ B.exec B.bytes B.returns (fun x h => hts x (List.mem_cons_of_mem _ h)) (findClass_of_methodNamed B.named) B.notSynchronized hml hK hN (fun q h => Or.inr h) hP (hD0.self (sz := s.heap.size)) va_S.rf hl
section XXC
variable {St : Type} {D : va_G} {ca : Nat → ClassId} {w : St → va_W} {S : St}
variable {p : Program} {l : Launch} {e : Env} {R : Room} {s : State} {m : MethodId} {args : Array Value} {below : List Frame} {meth : Method} {c : Code} {H : Heap} {locs : List Loc} {cells slots : Nat} {Q : State → Prop}
variable {pc : Nat} {ls : Array Slot} {rest st0 : List Value} {a : Array Value} {A : Nat → Prop} {H0 : Heap} {mc ms : Nat}
theorem xx_calli {Q1 : Int32 → St → Prop} (hr : va_Run p l e R s m args below meth c H locs cells slots mc ms (F0 m pc ls st0) rest (va_Qi Q1 (xAt D w (va_A (w S) H.size)) (va_A (w S) H.size) a) (va_A (w S) H.size)) (hD : va_D A (w S)) (hS : va_S A H0 H locs) (hA : ∀ q, H0.size ≤ q → A q)
    (kk : ∀ (r : Int32) (u : St) (H1 : Heap) (locs1 : List Loc), Q1 r u → va_P D cls (w u) H1 → va_D A (w u) → va_S A H0 H1 locs1 → W p l e R s m args below meth c H1 locs1 (cells + mc) (slots + ms) Q (F0 m (pc + 3) ls (.int r :: rest))) : W p l e R s m args below meth c H locs cells slots Q (F0 m pc ls st0) := by
  have hF := xx_free hD hS hA
  refine va_calli hr hS (fun q _ h => hF q h) hF (fun r u t H1 locs1 ht _ hq hB _ _ hS1 => ?_)
  obtain ⟨hP1, hD1⟩ := hB
  rw [ht] at hP1
  exact kk r u H1 locs1 hq hP1 (hD1.weaken (fun _ _ _ h => hF _ h)) hS1
theorem xx_calll {Q1 : Int64 → St → Prop} (hr : va_Run p l e R s m args below meth c H locs cells slots mc ms (F0 m pc ls st0) rest (va_Ql Q1 (xAt D w (va_A (w S) H.size)) (va_A (w S) H.size) a) (va_A (w S) H.size)) (hD : va_D A (w S)) (hS : va_S A H0 H locs) (hA : ∀ q, H0.size ≤ q → A q)
    (kk : ∀ (r : Int64) (u : St) (H1 : Heap) (locs1 : List Loc), Q1 r u → va_P D cls (w u) H1 → va_D A (w u) → va_S A H0 H1 locs1 → W p l e R s m args below meth c H1 locs1 (cells + mc) (slots + ms) Q (F0 m (pc + 3) ls (.long r :: rest))) : W p l e R s m args below meth c H locs cells slots Q (F0 m pc ls st0) := by
  have hF := xx_free hD hS hA
  refine va_calll hr hS (fun q _ h => hF q h) hF (fun r u t H1 locs1 ht _ hq hB _ _ hS1 => ?_)
  obtain ⟨hP1, hD1⟩ := hB
  rw [ht] at hP1
  exact kk r u H1 locs1 hq hP1 (hD1.weaken (fun _ _ _ h => hF _ h)) hS1
theorem xx_calld {Q1 : UInt64 → St → Prop} (hr : va_Run p l e R s m args below meth c H locs cells slots mc ms (F0 m pc ls st0) rest (va_Qd Q1 (xAt D w (va_A (w S) H.size)) (va_A (w S) H.size) a) (va_A (w S) H.size)) (hD : va_D A (w S)) (hS : va_S A H0 H locs) (hA : ∀ q, H0.size ≤ q → A q)
    (kk : ∀ (r : UInt64) (u : St) (H1 : Heap) (locs1 : List Loc), Q1 r u → va_P D cls (w u) H1 → va_D A (w u) → va_S A H0 H1 locs1 → W p l e R s m args below meth c H1 locs1 (cells + mc) (slots + ms) Q (F0 m (pc + 3) ls (.double r :: rest))) : W p l e R s m args below meth c H locs cells slots Q (F0 m pc ls st0) := by
  have hF := xx_free hD hS hA
  refine va_calld hr hS (fun q _ h => hF q h) hF (fun r u t H1 locs1 ht _ hq hB _ _ hS1 => ?_)
  obtain ⟨hP1, hD1⟩ := hB
  rw [ht] at hP1
  exact kk r u H1 locs1 hq hP1 (hD1.weaken (fun _ _ _ h => hF _ h)) hS1
theorem xx_callv {Q1 : St → Prop} (hr : va_Run p l e R s m args below meth c H locs cells slots mc ms (F0 m pc ls st0) rest (va_Qv Q1 (xAt D w (va_A (w S) H.size)) (va_A (w S) H.size) a) (va_A (w S) H.size)) (hD : va_D A (w S)) (hS : va_S A H0 H locs) (hA : ∀ q, H0.size ≤ q → A q)
    (kk : ∀ (u : St) (H1 : Heap) (locs1 : List Loc), Q1 u → va_P D cls (w u) H1 → va_D A (w u) → va_S A H0 H1 locs1 → W p l e R s m args below meth c H1 locs1 (cells + mc) (slots + ms) Q (F0 m (pc + 3) ls rest)) : W p l e R s m args below meth c H locs cells slots Q (F0 m pc ls st0) := by
  have hF := xx_free hD hS hA
  refine va_callv hr hS (fun q _ h => hF q h) hF (fun u t H1 locs1 ht _ hq hB _ _ hS1 => ?_)
  obtain ⟨hP1, hD1⟩ := hB
  rw [ht] at hP1
  exact kk u H1 locs1 hq hP1 (hD1.weaken (fun _ _ _ h => hF _ h)) hS1
end XXC
theorem pt_G_trainCount {ca : Nat → ClassId} {ad : Nat → Nat} {S : SC} {v : Int32} : (wC ca ad S).set 0 (ad 0, .inr (3, ([.ref (ad 1), .ref (ad 8), .int (S.1 0 0), .int (S.1 1 0), .int (S.1 2 0), .int (S.1 3 0)] : List Value).set 2 (.int v))) = wC ca ad (pI S 0 0 v) := rfl
theorem pt_G_forgedCount {ca : Nat → ClassId} {ad : Nat → Nat} {S : SC} {v : Int32} : (wC ca ad S).set 0 (ad 0, .inr (3, ([.ref (ad 1), .ref (ad 8), .int (S.1 0 0), .int (S.1 1 0), .int (S.1 2 0), .int (S.1 3 0)] : List Value).set 3 (.int v))) = wC ca ad (pI S 1 0 v) := rfl
theorem pt_G_guardBrakings {ca : Nat → ClassId} {ad : Nat → Nat} {S : SC} {v : Int32} : (wC ca ad S).set 0 (ad 0, .inr (3, ([.ref (ad 1), .ref (ad 8), .int (S.1 0 0), .int (S.1 1 0), .int (S.1 2 0), .int (S.1 3 0)] : List Value).set 4 (.int v))) = wC ca ad (pI S 2 0 v) := rfl
theorem pt_G_overruns {ca : Nat → ClassId} {ad : Nat → Nat} {S : SC} {v : Int32} : (wC ca ad S).set 0 (ad 0, .inr (3, ([.ref (ad 1), .ref (ad 8), .int (S.1 0 0), .int (S.1 1 0), .int (S.1 2 0), .int (S.1 3 0)] : List Value).set 5 (.int v))) = wC ca ad (pI S 3 0 v) := rfl
theorem pt_L_sectionCount {ca : Nat → ClassId} {ad : Nat → Nat} {S : SC} {v : Int32} : (wC ca ad S).set 1 (ad 1, .inr (0, ([.ref (ad 2), .ref (ad 3), .ref (ad 4), .ref (ad 5), .ref (ad 6), .ref (ad 7), .int (S.1 4 0), .int (S.1 5 0)] : List Value).set 6 (.int v))) = wC ca ad (pI S 4 0 v) := rfl
theorem pt_L_restrictionCount {ca : Nat → ClassId} {ad : Nat → Nat} {S : SC} {v : Int32} : (wC ca ad S).set 1 (ad 1, .inr (0, ([.ref (ad 2), .ref (ad 3), .ref (ad 4), .ref (ad 5), .ref (ad 6), .ref (ad 7), .int (S.1 4 0), .int (S.1 5 0)] : List Value).set 7 (.int v))) = wC ca ad (pI S 5 0 v) := rfl
theorem pt_T_length {ca : Nat → ClassId} {ad : Nat → Nat} {S : SC} {i : Nat} (hi : i < 3) {v : UInt64} : (wC ca ad S).set (9 + i) (ad (9 + i), .inr (2, (cTf ad S i).set 1 (.double v))) = wC ca ad (pV S 5 i v) := by
  rcases (show i = 0 ∨ i = 1 ∨ i = 2 by omega) with rfl | rfl | rfl <;> rfl
theorem pt_T_brake {ca : Nat → ClassId} {ad : Nat → Nat} {S : SC} {i : Nat} (hi : i < 3) {v : UInt64} : (wC ca ad S).set (9 + i) (ad (9 + i), .inr (2, (cTf ad S i).set 2 (.double v))) = wC ca ad (pV S 6 i v) := by
  rcases (show i = 0 ∨ i = 1 ∨ i = 2 by omega) with rfl | rfl | rfl <;> rfl
theorem pt_T_speed {ca : Nat → ClassId} {ad : Nat → Nat} {S : SC} {i : Nat} (hi : i < 3) {v : UInt64} : (wC ca ad S).set (9 + i) (ad (9 + i), .inr (2, (cTf ad S i).set 3 (.double v))) = wC ca ad (pV S 7 i v) := by
  rcases (show i = 0 ∨ i = 1 ∨ i = 2 by omega) with rfl | rfl | rfl <;> rfl
theorem pt_T_real {ca : Nat → ClassId} {ad : Nat → Nat} {S : SC} {i : Nat} (hi : i < 3) {v : UInt64} : (wC ca ad S).set (9 + i) (ad (9 + i), .inr (2, (cTf ad S i).set 4 (.double v))) = wC ca ad (pV S 8 i v) := by
  rcases (show i = 0 ∨ i = 1 ∨ i = 2 by omega) with rfl | rfl | rfl <;> rfl
theorem pt_T_measured {ca : Nat → ClassId} {ad : Nat → Nat} {S : SC} {i : Nat} (hi : i < 3) {v : UInt64} : (wC ca ad S).set (9 + i) (ad (9 + i), .inr (2, (cTf ad S i).set 5 (.double v))) = wC ca ad (pV S 9 i v) := by
  rcases (show i = 0 ∨ i = 1 ∨ i = 2 by omega) with rfl | rfl | rfl <;> rfl
theorem pt_T_margin {ca : Nat → ClassId} {ad : Nat → Nat} {S : SC} {i : Nat} (hi : i < 3) {v : UInt64} : (wC ca ad S).set (9 + i) (ad (9 + i), .inr (2, (cTf ad S i).set 6 (.double v))) = wC ca ad (pV S 10 i v) := by
  rcases (show i = 0 ∨ i = 1 ∨ i = 2 by omega) with rfl | rfl | rfl <;> rfl
theorem pt_T_authority {ca : Nat → ClassId} {ad : Nat → Nat} {S : SC} {i : Nat} (hi : i < 3) {v : UInt64} : (wC ca ad S).set (9 + i) (ad (9 + i), .inr (2, (cTf ad S i).set 7 (.double v))) = wC ca ad (pV S 11 i v) := by
  rcases (show i = 0 ∨ i = 1 ∨ i = 2 by omega) with rfl | rfl | rfl <;> rfl
theorem pt_T_hasAuthority {ca : Nat → ClassId} {ad : Nat → Nat} {S : SC} {i : Nat} (hi : i < 3) {v : Int32} : (wC ca ad S).set (9 + i) (ad (9 + i), .inr (2, (cTf ad S i).set 8 (.int v))) = wC ca ad (pI S 7 i v) := by
  rcases (show i = 0 ∨ i = 1 ∨ i = 2 by omega) with rfl | rfl | rfl <;> rfl
theorem pt_T_isWet {ca : Nat → ClassId} {ad : Nat → Nat} {S : SC} {i : Nat} (hi : i < 3) {v : Int32} : (wC ca ad S).set (9 + i) (ad (9 + i), .inr (2, (cTf ad S i).set 9 (.int v))) = wC ca ad (pI S 8 i v) := by
  rcases (show i = 0 ∨ i = 1 ∨ i = 2 by omega) with rfl | rfl | rfl <;> rfl
theorem pt_T_mode {ca : Nat → ClassId} {ad : Nat → Nat} {S : SC} {i : Nat} (hi : i < 3) {v : Int32} : (wC ca ad S).set (9 + i) (ad (9 + i), .inr (2, (cTf ad S i).set 10 (.int v))) = wC ca ad (pI S 9 i v) := by
  rcases (show i = 0 ∨ i = 1 ∨ i = 2 by omega) with rfl | rfl | rfl <;> rfl
theorem pt_M_isWaiting {ca : Nat → ClassId} {ad : Nat → Nat} {S : SC} {i : Nat} (hi : i < 3) {v : Int32} : (wC ca ad S).set (12 + i) (ad (12 + i), .inr (1, (cMf S i).set 0 (.int v))) = wC ca ad (pI S 10 i v) := by
  rcases (show i = 0 ∨ i = 1 ∨ i = 2 by omega) with rfl | rfl | rfl <;> rfl
theorem pt_M_isStop {ca : Nat → ClassId} {ad : Nat → Nat} {S : SC} {i : Nat} (hi : i < 3) {v : Int32} : (wC ca ad S).set (12 + i) (ad (12 + i), .inr (1, (cMf S i).set 1 (.int v))) = wC ca ad (pI S 11 i v) := by
  rcases (show i = 0 ∨ i = 1 ∨ i = 2 by omega) with rfl | rfl | rfl <;> rfl
theorem pt_M_number {ca : Nat → ClassId} {ad : Nat → Nat} {S : SC} {i : Nat} (hi : i < 3) {v : Int32} : (wC ca ad S).set (12 + i) (ad (12 + i), .inr (1, (cMf S i).set 2 (.int v))) = wC ca ad (pI S 12 i v) := by
  rcases (show i = 0 ∨ i = 1 ∨ i = 2 by omega) with rfl | rfl | rfl <;> rfl
theorem pt_M_place {ca : Nat → ClassId} {ad : Nat → Nat} {S : SC} {i : Nat} (hi : i < 3) {v : UInt64} : (wC ca ad S).set (12 + i) (ad (12 + i), .inr (1, (cMf S i).set 3 (.double v))) = wC ca ad (pV S 12 i v) := by
  rcases (show i = 0 ∨ i = 1 ∨ i = 2 by omega) with rfl | rfl | rfl <;> rfl
theorem pt_M_mark {ca : Nat → ClassId} {ad : Nat → Nat} {S : SC} {i : Nat} (hi : i < 3) {v : Int32} : (wC ca ad S).set (12 + i) (ad (12 + i), .inr (1, (cMf S i).set 4 (.int v))) = wC ca ad (pI S 13 i v) := by
  rcases (show i = 0 ∨ i = 1 ∨ i = 2 by omega) with rfl | rfl | rfl <;> rfl
theorem pt_A_begins {ca : Nat → ClassId} {ad : Nat → Nat} {S : SC} {j : Nat} {v : UInt64} : (wC ca ad S).set 2 (ad 2, .inl (ca 2, 11, .inr (.inr (.inr (.inl (vf_upd (S.2 0) j v)))))) = wC ca ad (pV S 0 j v) := rfl
theorem pt_A_speeds {ca : Nat → ClassId} {ad : Nat → Nat} {S : SC} {j : Nat} {v : UInt64} : (wC ca ad S).set 3 (ad 3, .inl (ca 2, 10, .inr (.inr (.inr (.inl (vf_upd (S.2 1) j v)))))) = wC ca ad (pV S 1 j v) := rfl
theorem pt_A_holders {ca : Nat → ClassId} {ad : Nat → Nat} {S : SC} {j : Nat} {v : Int32} : (wC ca ad S).set 4 (ad 4, .inl (ca 0, 10, .inl (upd (S.1 6) j v))) = wC ca ad (pI S 6 j v) := rfl
theorem pt_A_froms {ca : Nat → ClassId} {ad : Nat → Nat} {S : SC} {j : Nat} {v : UInt64} : (wC ca ad S).set 5 (ad 5, .inl (ca 2, 5, .inr (.inr (.inr (.inl (vf_upd (S.2 2) j v)))))) = wC ca ad (pV S 2 j v) := rfl
theorem pt_A_tos {ca : Nat → ClassId} {ad : Nat → Nat} {S : SC} {j : Nat} {v : UInt64} : (wC ca ad S).set 6 (ad 6, .inl (ca 2, 5, .inr (.inr (.inr (.inl (vf_upd (S.2 3) j v)))))) = wC ca ad (pV S 3 j v) := rfl
theorem pt_A_caps {ca : Nat → ClassId} {ad : Nat → Nat} {S : SC} {j : Nat} {v : UInt64} : (wC ca ad S).set 7 (ad 7, .inl (ca 2, 5, .inr (.inr (.inr (.inl (vf_upd (S.2 4) j v)))))) = wC ca ad (pV S 4 j v) := rfl
theorem pt_R_thrown {ca : Nat → ClassId} {ad : Nat → Nat} {S : SR} {v : Int32} : (wR ca ad S).set 0 (ad 0, .inr (4, ([.int (S.1 0 0), .int (S.1 1 0), .ref (ad 1), .ref (ad 2), .ref (ad 3), .int (S.1 2 0), .ref (ad 4), .ref (ad 5), .ref (ad 6), .int (S.1 3 0), .ref (ad 7), .ref (ad 8), .ref (ad 9), .ref (ad 10), .ref (ad 11), .ref (ad 12), .ref (ad 13), .ref (ad 14), .ref (ad 15), .ref (ad 16), .ref (ad 17), .ref (ad 18), .int (S.1 4 0), .int (S.1 5 0), .int (S.1 6 0)] : List Value).set 0 (.int v))) = wR ca ad (pI S 0 0 v) := rfl
theorem pt_R_sections {ca : Nat → ClassId} {ad : Nat → Nat} {S : SR} {v : Int32} : (wR ca ad S).set 0 (ad 0, .inr (4, ([.int (S.1 0 0), .int (S.1 1 0), .ref (ad 1), .ref (ad 2), .ref (ad 3), .int (S.1 2 0), .ref (ad 4), .ref (ad 5), .ref (ad 6), .int (S.1 3 0), .ref (ad 7), .ref (ad 8), .ref (ad 9), .ref (ad 10), .ref (ad 11), .ref (ad 12), .ref (ad 13), .ref (ad 14), .ref (ad 15), .ref (ad 16), .ref (ad 17), .ref (ad 18), .int (S.1 4 0), .int (S.1 5 0), .int (S.1 6 0)] : List Value).set 1 (.int v))) = wR ca ad (pI S 1 0 v) := rfl
theorem pt_R_restrictions {ca : Nat → ClassId} {ad : Nat → Nat} {S : SR} {v : Int32} : (wR ca ad S).set 0 (ad 0, .inr (4, ([.int (S.1 0 0), .int (S.1 1 0), .ref (ad 1), .ref (ad 2), .ref (ad 3), .int (S.1 2 0), .ref (ad 4), .ref (ad 5), .ref (ad 6), .int (S.1 3 0), .ref (ad 7), .ref (ad 8), .ref (ad 9), .ref (ad 10), .ref (ad 11), .ref (ad 12), .ref (ad 13), .ref (ad 14), .ref (ad 15), .ref (ad 16), .ref (ad 17), .ref (ad 18), .int (S.1 4 0), .int (S.1 5 0), .int (S.1 6 0)] : List Value).set 5 (.int v))) = wR ca ad (pI S 2 0 v) := rfl
theorem pt_R_trains {ca : Nat → ClassId} {ad : Nat → Nat} {S : SR} {v : Int32} : (wR ca ad S).set 0 (ad 0, .inr (4, ([.int (S.1 0 0), .int (S.1 1 0), .ref (ad 1), .ref (ad 2), .ref (ad 3), .int (S.1 2 0), .ref (ad 4), .ref (ad 5), .ref (ad 6), .int (S.1 3 0), .ref (ad 7), .ref (ad 8), .ref (ad 9), .ref (ad 10), .ref (ad 11), .ref (ad 12), .ref (ad 13), .ref (ad 14), .ref (ad 15), .ref (ad 16), .ref (ad 17), .ref (ad 18), .int (S.1 4 0), .int (S.1 5 0), .int (S.1 6 0)] : List Value).set 9 (.int v))) = wR ca ad (pI S 3 0 v) := rfl
theorem pt_R_forged {ca : Nat → ClassId} {ad : Nat → Nat} {S : SR} {v : Int32} : (wR ca ad S).set 0 (ad 0, .inr (4, ([.int (S.1 0 0), .int (S.1 1 0), .ref (ad 1), .ref (ad 2), .ref (ad 3), .int (S.1 2 0), .ref (ad 4), .ref (ad 5), .ref (ad 6), .int (S.1 3 0), .ref (ad 7), .ref (ad 8), .ref (ad 9), .ref (ad 10), .ref (ad 11), .ref (ad 12), .ref (ad 13), .ref (ad 14), .ref (ad 15), .ref (ad 16), .ref (ad 17), .ref (ad 18), .int (S.1 4 0), .int (S.1 5 0), .int (S.1 6 0)] : List Value).set 22 (.int v))) = wR ca ad (pI S 4 0 v) := rfl
theorem pt_R_braked {ca : Nat → ClassId} {ad : Nat → Nat} {S : SR} {v : Int32} : (wR ca ad S).set 0 (ad 0, .inr (4, ([.int (S.1 0 0), .int (S.1 1 0), .ref (ad 1), .ref (ad 2), .ref (ad 3), .int (S.1 2 0), .ref (ad 4), .ref (ad 5), .ref (ad 6), .int (S.1 3 0), .ref (ad 7), .ref (ad 8), .ref (ad 9), .ref (ad 10), .ref (ad 11), .ref (ad 12), .ref (ad 13), .ref (ad 14), .ref (ad 15), .ref (ad 16), .ref (ad 17), .ref (ad 18), .int (S.1 4 0), .int (S.1 5 0), .int (S.1 6 0)] : List Value).set 23 (.int v))) = wR ca ad (pI S 5 0 v) := rfl
theorem pt_R_tripped {ca : Nat → ClassId} {ad : Nat → Nat} {S : SR} {v : Int32} : (wR ca ad S).set 0 (ad 0, .inr (4, ([.int (S.1 0 0), .int (S.1 1 0), .ref (ad 1), .ref (ad 2), .ref (ad 3), .int (S.1 2 0), .ref (ad 4), .ref (ad 5), .ref (ad 6), .int (S.1 3 0), .ref (ad 7), .ref (ad 8), .ref (ad 9), .ref (ad 10), .ref (ad 11), .ref (ad 12), .ref (ad 13), .ref (ad 14), .ref (ad 15), .ref (ad 16), .ref (ad 17), .ref (ad 18), .int (S.1 4 0), .int (S.1 5 0), .int (S.1 6 0)] : List Value).set 24 (.int v))) = wR ca ad (pI S 6 0 v) := rfl
theorem pt_R_held {ca : Nat → ClassId} {ad : Nat → Nat} {S : SR} {j : Nat} {v : Int32} : (wR ca ad S).set 3 (ad 3, .inl (ca 0, 10, .inl (upd (S.1 7) j v))) = wR ca ad (pI S 7 j v) := rfl
theorem pt_R_mode {ca : Nat → ClassId} {ad : Nat → Nat} {S : SR} {j : Nat} {v : Int32} : (wR ca ad S).set 14 (ad 14, .inl (ca 0, 3, .inl (upd (S.1 8) j v))) = wR ca ad (pI S 8 j v) := rfl
theorem pt_R_wet {ca : Nat → ClassId} {ad : Nat → Nat} {S : SR} {j : Nat} {v : Int32} : (wR ca ad S).set 15 (ad 15, .inl (ca 3, 3, .inl (upd (S.1 9) j v))) = wR ca ad (pI S 9 j v) := rfl
theorem pt_R_numbers {ca : Nat → ClassId} {ad : Nat → Nat} {S : SR} {j : Nat} {v : Int32} : (wR ca ad S).set 16 (ad 16, .inl (ca 0, 3, .inl (upd (S.1 10) j v))) = wR ca ad (pI S 10 j v) := rfl
theorem pt_R_message {ca : Nat → ClassId} {ad : Nat → Nat} {S : SR} {j : Nat} {v : Int32} : (wR ca ad S).set 17 (ad 17, .inl (ca 0, 3, .inl (upd (S.1 11) j v))) = wR ca ad (pI S 11 j v) := rfl
theorem pt_R_begin {ca : Nat → ClassId} {ad : Nat → Nat} {S : SR} {j : Nat} {v : Int64} : (wR ca ad S).set 1 (ad 1, .inl (ca 1, 11, .inr (.inl (vp_updL (S.2 0) j v)))) = wR ca ad (pV S 0 j v) := rfl
theorem pt_R_speedOf {ca : Nat → ClassId} {ad : Nat → Nat} {S : SR} {j : Nat} {v : Int64} : (wR ca ad S).set 2 (ad 2, .inl (ca 1, 10, .inr (.inl (vp_updL (S.2 1) j v)))) = wR ca ad (pV S 1 j v) := rfl
theorem pt_R_from {ca : Nat → ClassId} {ad : Nat → Nat} {S : SR} {j : Nat} {v : Int64} : (wR ca ad S).set 4 (ad 4, .inl (ca 1, 5, .inr (.inl (vp_updL (S.2 2) j v)))) = wR ca ad (pV S 2 j v) := rfl
theorem pt_R_to {ca : Nat → ClassId} {ad : Nat → Nat} {S : SR} {j : Nat} {v : Int64} : (wR ca ad S).set 5 (ad 5, .inl (ca 1, 5, .inr (.inl (vp_updL (S.2 3) j v)))) = wR ca ad (pV S 3 j v) := rfl
theorem pt_R_least {ca : Nat → ClassId} {ad : Nat → Nat} {S : SR} {j : Nat} {v : Int64} : (wR ca ad S).set 6 (ad 6, .inl (ca 1, 5, .inr (.inl (vp_updL (S.2 4) j v)))) = wR ca ad (pV S 4 j v) := rfl
theorem pt_R_length {ca : Nat → ClassId} {ad : Nat → Nat} {S : SR} {j : Nat} {v : Int64} : (wR ca ad S).set 7 (ad 7, .inl (ca 1, 3, .inr (.inl (vp_updL (S.2 5) j v)))) = wR ca ad (pV S 5 j v) := rfl
theorem pt_R_brake {ca : Nat → ClassId} {ad : Nat → Nat} {S : SR} {j : Nat} {v : Int64} : (wR ca ad S).set 8 (ad 8, .inl (ca 1, 3, .inr (.inl (vp_updL (S.2 6) j v)))) = wR ca ad (pV S 6 j v) := rfl
theorem pt_R_speed {ca : Nat → ClassId} {ad : Nat → Nat} {S : SR} {j : Nat} {v : Int64} : (wR ca ad S).set 9 (ad 9, .inl (ca 1, 3, .inr (.inl (vp_updL (S.2 7) j v)))) = wR ca ad (pV S 7 j v) := rfl
theorem pt_R_real {ca : Nat → ClassId} {ad : Nat → Nat} {S : SR} {j : Nat} {v : Int64} : (wR ca ad S).set 10 (ad 10, .inl (ca 1, 3, .inr (.inl (vp_updL (S.2 8) j v)))) = wR ca ad (pV S 8 j v) := rfl
theorem pt_R_measured {ca : Nat → ClassId} {ad : Nat → Nat} {S : SR} {j : Nat} {v : Int64} : (wR ca ad S).set 11 (ad 11, .inl (ca 1, 3, .inr (.inl (vp_updL (S.2 9) j v)))) = wR ca ad (pV S 9 j v) := rfl
theorem pt_R_margin {ca : Nat → ClassId} {ad : Nat → Nat} {S : SR} {j : Nat} {v : Int64} : (wR ca ad S).set 12 (ad 12, .inl (ca 1, 3, .inr (.inl (vp_updL (S.2 10) j v)))) = wR ca ad (pV S 10 j v) := rfl
theorem pt_R_authority {ca : Nat → ClassId} {ad : Nat → Nat} {S : SR} {j : Nat} {v : Int64} : (wR ca ad S).set 13 (ad 13, .inl (ca 1, 3, .inr (.inl (vp_updL (S.2 11) j v)))) = wR ca ad (pV S 11 j v) := rfl
theorem pt_R_place {ca : Nat → ClassId} {ad : Nat → Nat} {S : SR} {j : Nat} {v : Int64} : (wR ca ad S).set 18 (ad 18, .inl (ca 1, 3, .inr (.inl (vp_updL (S.2 12) j v)))) = wR ca ad (pV S 12 j v) := rfl
end
section
theorem d_T_rear_0 : decode b_T_rear 0 = .ok (.aload_n 0, 1) := by decide +kernel
theorem d_T_rear_1 : decode b_T_rear 1 = .ok (.getfield 25, 3) := by decide +kernel
theorem d_T_rear_4 : decode b_T_rear 4 = .ok (.aload_n 0, 1) := by decide +kernel
theorem d_T_rear_5 : decode b_T_rear 5 = .ok (.getfield 18, 3) := by decide +kernel
theorem d_T_rear_8 : decode b_T_rear 8 = .ok (.dsub, 1) := by decide +kernel
theorem d_T_rear_9 : decode b_T_rear 9 = .ok (.dreturn, 1) := by decide +kernel
def w_T_rear (S : SC) (i : Nat) (Q : UInt64 → SC → Prop) : Prop := vf_n64 (FP.dsub (S.2 8 i) (S.2 5 i)) ∧ (∀ f1 : UInt64, f1 = FP.dsub (S.2 8 i) (S.2 5 i) → (Q f1 S))
set_option maxRecDepth 100000 in
set_option maxHeartbeats 4000000 in
theorem c_T_rear (l : Launch) (D : va_G) (ca : Nat → ClassId) (ad : Nat → Nat) (sz : Nat) (S : SC) (i : Nat) (hi : i < 3) (Q : UInt64 → SC → Prop) (h : w_T_rear S i Q) : Met l y_T_rear (Cond.code y_T_rear b_T_rear 1 (some Jvm.ClassFile.FieldType.double) :: tG) ({ frames := 0, cells := 0, slots := 0, locals := 0 } : Room) (xPc D ca (wC ca ad) S sz [.ref (ad (9 + i))]) (va_Qd Q (xAt D (wC ca ad) (va_A (wC ca ad S) sz)) (va_A (wC ca ad S) sz)) 0 0 (va_A (wC ca ad S) sz) := by
  refine xx_met (Qf := fun A => va_Qd Q (xAt D (wC ca ad) A) A) (by decide) (Nat.le_of_ble_eq_true rfl) ?_
  intro p e s m args below meth c A ls hx hb hr hw hown hlocks hml hK hN hA hP hD hS hl
  have hown : s.vm.findClass "TrainGuard$Train" = some m.cls := hown
  have hl : lv_has ls 1 [(0, .ref (ad (9 + i)))] := hl
  have hH9 : ∀ H : Heap, H = s.heap → va_P D cls (wC ca ad S) H → va_S A s.heap H [] → W p l e ({ frames := 0, cells := 0, slots := 0, locals := 0 } : Room) s m args below meth c H [] 0 0 (MQ below ((fun A => va_Qd Q (xAt D (wC ca ad) A) A) A) args s 0 0 A) (F0 m 0 ls []) := by
    clear hP hS
    intro H hH hP hS
    obtain ⟨locs, hlo⟩ : ∃ z : List Loc, z = [] := ⟨_, rfl⟩
    rw [← hlo] at hS ⊢
    refine lv_aload_n hx hb d_T_rear_0 rfl (lv_at hl 0 rfl) ?_
    refine va_get (D := D) (ci := 2) (v := .double (S.2 8 i)) (C := Rc_T) (T := Fc_T) (N := 11) hx hb hw inc_T hown hK hP (9 + i) (wC_T hi) rfl 4 (by decide) (hw _ wd_95) (fun _ h9 => h9) rfl d_T_rear_1 ?_
    refine lv_aload_n hx hb d_T_rear_4 rfl (lv_at hl 0 rfl) ?_
    refine va_get (D := D) (ci := 2) (v := .double (S.2 5 i)) (C := Rc_T) (T := Fc_T) (N := 11) hx hb hw inc_T hown hK hP (9 + i) (wC_T hi) rfl 1 (by decide) (hw _ wd_91) (fun _ h9 => h9) rfl d_T_rear_5 ?_
    obtain ⟨hq, h⟩ := h
    refine lv_dsub hx hb d_T_rear_8 hq ?_
    refine lv_topd (fun f1 e_f1 => ?_)
    replace h := h f1 e_f1
    exact W.dret (v := f1) hx hb hr (fun t ht hW => ⟨⟨f1, S, rfl, h, by rw [ht]; exact hP, hD⟩, hS.F ht⟩) hS.2.2 d_T_rear_9
  exact hH9 _ rfl hP hS
theorem d_T_stands_0 : decode b_T_stands 0 = .ok (.aload_n 0, 1) := by decide +kernel
theorem d_T_stands_1 : decode b_T_stands 1 = .ok (.getfield 31, 3) := by decide +kernel
theorem d_T_stands_4 : decode b_T_stands 4 = .ok (.dconst 0, 1) := by decide +kernel
theorem d_T_stands_5 : decode b_T_stands 5 = .ok (.dcmp .l, 1) := by decide +kernel
theorem d_T_stands_6 : decode b_T_stands 6 = .ok (.ifCond .ne 7, 3) := by decide +kernel
theorem d_T_stands_9 : decode b_T_stands 9 = .ok (.iconst 1, 1) := by decide +kernel
theorem d_T_stands_10 : decode b_T_stands 10 = .ok (.goto 4, 3) := by decide +kernel
theorem d_T_stands_13 : decode b_T_stands 13 = .ok (.iconst 0, 1) := by decide +kernel
theorem d_T_stands_14 : decode b_T_stands 14 = .ok (.ireturn, 1) := by decide +kernel
def w_T_stands (S : SC) (i : Nat) (Q : Int32 → SC → Prop) : Prop := ((¬ (Op.cmpValue (FP.dcmp (S.2 7 i) FP.dconst0) .l) = 0) → (Q 0 S)) ∧ (((Op.cmpValue (FP.dcmp (S.2 7 i) FP.dconst0) .l) = 0) → (Q 1 S))
set_option maxRecDepth 100000 in
set_option maxHeartbeats 4000000 in
theorem c_T_stands (l : Launch) (D : va_G) (ca : Nat → ClassId) (ad : Nat → Nat) (sz : Nat) (S : SC) (i : Nat) (hi : i < 3) (Q : Int32 → SC → Prop) (h : w_T_stands S i Q) : Met l y_T_stands (Cond.code y_T_stands b_T_stands 1 (some Jvm.ClassFile.FieldType.boolean) :: tG) ({ frames := 0, cells := 0, slots := 0, locals := 0 } : Room) (xPc D ca (wC ca ad) S sz [.ref (ad (9 + i))]) (va_Qi Q (xAt D (wC ca ad) (va_A (wC ca ad S) sz)) (va_A (wC ca ad S) sz)) 0 0 (va_A (wC ca ad S) sz) := by
  refine xx_met (Qf := fun A => va_Qi Q (xAt D (wC ca ad) A) A) (by decide) (Nat.le_of_ble_eq_true rfl) ?_
  intro p e s m args below meth c A ls hx hb hr hw hown hlocks hml hK hN hA hP hD hS hl
  have hown : s.vm.findClass "TrainGuard$Train" = some m.cls := hown
  have hl : lv_has ls 1 [(0, .ref (ad (9 + i)))] := hl
  have hH9 : ∀ H : Heap, H = s.heap → va_P D cls (wC ca ad S) H → va_S A s.heap H [] → W p l e ({ frames := 0, cells := 0, slots := 0, locals := 0 } : Room) s m args below meth c H [] 0 0 (MQ below ((fun A => va_Qi Q (xAt D (wC ca ad) A) A) A) args s 0 0 A) (F0 m 0 ls []) := by
    clear hP hS
    intro H hH hP hS
    obtain ⟨locs, hlo⟩ : ∃ z : List Loc, z = [] := ⟨_, rfl⟩
    rw [← hlo] at hS ⊢
    refine lv_aload_n hx hb d_T_stands_0 rfl (lv_at hl 0 rfl) ?_
    refine va_get (D := D) (ci := 2) (v := .double (S.2 7 i)) (C := Rc_T) (T := Fc_T) (N := 11) hx hb hw inc_T hown hK hP (9 + i) (wC_T hi) rfl 3 (by decide) (hw _ wd_93) (fun _ h9 => h9) rfl d_T_stands_1 ?_
    refine lv_dconst0 hx hb d_T_stands_4 ?_
    refine lv_dcmp hx hb d_T_stands_5 ?_
    refine lv_if_ne (tgt := 13) hx hb d_T_stands_6 (by decide) (fun hc => ?_) (fun hc => ?_)
    · replace h := h.1 hc
      refine lv_iconst (v := 0) hx hb d_T_stands_13 (by decide) ?_
      exact W.zret (v := 0) hx hb hr rfl (fun t ht hW => ⟨⟨0, S, rfl, h, by rw [ht]; exact hP, hD⟩, hS.F ht⟩) hS.2.2 d_T_stands_14
    · replace h := h.2 hc
      refine lv_iconst (v := 1) hx hb d_T_stands_9 (by decide) ?_
      refine lv_goto (tgt := 14) hx hb d_T_stands_10 (by decide) ?_
      exact W.zret (v := 1) hx hb hr rfl (fun t ht hW => ⟨⟨1, S, rfl, h, by rw [ht]; exact hP, hD⟩, hS.F ht⟩) hS.2.2 d_T_stands_14
  exact hH9 _ rfl hP hS
theorem d_T_wayTo_0 : decode b_T_wayTo 0 = .ok (.aload_n 0, 1) := by decide +kernel
theorem d_T_wayTo_1 : decode b_T_wayTo 1 = .ok (.getfield 31, 3) := by decide +kernel
theorem d_T_wayTo_4 : decode b_T_wayTo 4 = .ok (.dload_n 1, 1) := by decide +kernel
theorem d_T_wayTo_5 : decode b_T_wayTo 5 = .ok (.dadd, 1) := by decide +kernel
theorem d_T_wayTo_6 : decode b_T_wayTo 6 = .ok (.ldc2_w 64, 3) := by decide +kernel
theorem d_T_wayTo_9 : decode b_T_wayTo 9 = .ok (.dmul, 1) := by decide +kernel
theorem d_T_wayTo_10 : decode b_T_wayTo 10 = .ok (.dreturn, 1) := by decide +kernel
def w_T_wayTo (S : SC) (i : Nat) (x1 : UInt64) (Q : UInt64 → SC → Prop) : Prop := vf_n64 (FP.dadd (S.2 7 i) x1) ∧ (∀ f1 : UInt64, f1 = FP.dadd (S.2 7 i) x1 → (vf_n64 (FP.dmul f1 (4602678819172646912 : UInt64)) ∧ (∀ f2 : UInt64, f2 = FP.dmul f1 (4602678819172646912 : UInt64) → (Q f2 S))))
set_option maxRecDepth 100000 in
set_option maxHeartbeats 4000000 in
theorem c_T_wayTo (l : Launch) (D : va_G) (ca : Nat → ClassId) (ad : Nat → Nat) (sz : Nat) (S : SC) (i : Nat) (x1 : UInt64) (hi : i < 3) (Q : UInt64 → SC → Prop) (h : w_T_wayTo S i x1 Q) : Met l y_T_wayTo (Cond.code y_T_wayTo b_T_wayTo 3 (some Jvm.ClassFile.FieldType.double) :: tG) ({ frames := 0, cells := 0, slots := 0, locals := 0 } : Room) (xPc D ca (wC ca ad) S sz [.ref (ad (9 + i)), .double x1]) (va_Qd Q (xAt D (wC ca ad) (va_A (wC ca ad S) sz)) (va_A (wC ca ad S) sz)) 0 0 (va_A (wC ca ad S) sz) := by
  refine xx_met (Qf := fun A => va_Qd Q (xAt D (wC ca ad) A) A) (by decide) (Nat.le_of_ble_eq_true rfl) ?_
  intro p e s m args below meth c A ls hx hb hr hw hown hlocks hml hK hN hA hP hD hS hl
  have hown : s.vm.findClass "TrainGuard$Train" = some m.cls := hown
  have hl : lv_has ls 3 [(0, .ref (ad (9 + i))), (1, .double x1)] := hl
  have hH9 : ∀ H : Heap, H = s.heap → va_P D cls (wC ca ad S) H → va_S A s.heap H [] → W p l e ({ frames := 0, cells := 0, slots := 0, locals := 0 } : Room) s m args below meth c H [] 0 0 (MQ below ((fun A => va_Qd Q (xAt D (wC ca ad) A) A) A) args s 0 0 A) (F0 m 0 ls []) := by
    clear hP hS
    intro H hH hP hS
    obtain ⟨locs, hlo⟩ : ∃ z : List Loc, z = [] := ⟨_, rfl⟩
    rw [← hlo] at hS ⊢
    refine lv_aload_n hx hb d_T_wayTo_0 rfl (lv_at hl 0 rfl) ?_
    refine va_get (D := D) (ci := 2) (v := .double (S.2 7 i)) (C := Rc_T) (T := Fc_T) (N := 11) hx hb hw inc_T hown hK hP (9 + i) (wC_T hi) rfl 3 (by decide) (hw _ wd_93) (fun _ h9 => h9) rfl d_T_wayTo_1 ?_
    refine lv_dload_n hx hb d_T_wayTo_4 rfl (lv_at hl 1 rfl) ?_
    obtain ⟨hq, h⟩ := h
    refine lv_dadd hx hb d_T_wayTo_5 hq ?_
    refine lv_topd (fun f1 e_f1 => ?_)
    replace h := h f1 e_f1
    refine lv_ldc2d hx hb hown (hw _ wd_385) d_T_wayTo_6 ?_
    obtain ⟨hq, h⟩ := h
    refine lv_dmul hx hb d_T_wayTo_9 hq ?_
    refine lv_topd (fun f2 e_f2 => ?_)
    replace h := h f2 e_f2
    exact W.dret (v := f2) hx hb hr (fun t ht hW => ⟨⟨f2, S, rfl, h, by rw [ht]; exact hP, hD⟩, hS.F ht⟩) hS.2.2 d_T_wayTo_10
  exact hH9 _ rfl hP hS
theorem d_L_beginOf_0 : decode b_L_beginOf 0 = .ok (.aload_n 0, 1) := by decide +kernel
theorem d_L_beginOf_1 : decode b_L_beginOf 1 = .ok (.getfield 9, 3) := by decide +kernel
theorem d_L_beginOf_4 : decode b_L_beginOf 4 = .ok (.iload_n 1, 1) := by decide +kernel
theorem d_L_beginOf_5 : decode b_L_beginOf 5 = .ok (.daload, 1) := by decide +kernel
theorem d_L_beginOf_6 : decode b_L_beginOf 6 = .ok (.dreturn, 1) := by decide +kernel
def w_L_beginOf (S : SC) (x1 : Int32) (Q : UInt64 → SC → Prop) : Prop := vp_in x1 11 ∧ (Q (S.2 0 x1.toNatClampNeg) S)
set_option maxRecDepth 100000 in
set_option maxHeartbeats 4000000 in
theorem c_L_beginOf (l : Launch) (D : va_G) (ca : Nat → ClassId) (ad : Nat → Nat) (sz : Nat) (S : SC) (x1 : Int32)  (Q : UInt64 → SC → Prop) (h : w_L_beginOf S x1 Q) : Met l y_L_beginOf (Cond.code y_L_beginOf b_L_beginOf 2 (some Jvm.ClassFile.FieldType.double) :: tG) ({ frames := 0, cells := 0, slots := 0, locals := 0 } : Room) (xPc D ca (wC ca ad) S sz [.ref (ad 1), .int x1]) (va_Qd Q (xAt D (wC ca ad) (va_A (wC ca ad S) sz)) (va_A (wC ca ad S) sz)) 0 0 (va_A (wC ca ad S) sz) := by
  refine xx_met (Qf := fun A => va_Qd Q (xAt D (wC ca ad) A) A) (by decide) (Nat.le_of_ble_eq_true rfl) ?_
  intro p e s m args below meth c A ls hx hb hr hw hown hlocks hml hK hN hA hP hD hS hl
  have hown : s.vm.findClass "TrainGuard$Line" = some m.cls := hown
  have hl : lv_has ls 2 [(0, .ref (ad 1)), (1, .int x1)] := hl
  have hH9 : ∀ H : Heap, H = s.heap → va_P D cls (wC ca ad S) H → va_S A s.heap H [] → W p l e ({ frames := 0, cells := 0, slots := 0, locals := 0 } : Room) s m args below meth c H [] 0 0 (MQ below ((fun A => va_Qd Q (xAt D (wC ca ad) A) A) A) args s 0 0 A) (F0 m 0 ls []) := by
    clear hP hS
    intro H hH hP hS
    obtain ⟨locs, hlo⟩ : ∃ z : List Loc, z = [] := ⟨_, rfl⟩
    rw [← hlo] at hS ⊢
    refine lv_aload_n hx hb d_L_beginOf_0 rfl (lv_at hl 0 rfl) ?_
    refine va_get (D := D) (ci := 0) (v := .ref (ad 2)) (C := Rc_L) (T := Fc_L) (N := 8) hx hb hw inc_L hown hK hP 1 rfl rfl 0 (by decide) (hw _ wd_27) (fun _ h9 => h9) rfl d_L_beginOf_1 ?_
    refine lv_iload_n hx hb d_L_beginOf_4 rfl (lv_at hl 1 rfl) ?_
    obtain ⟨hq, h⟩ := h
    refine va_dald (D := D) hx hb hK hP 2 2 rfl rfl hq d_L_beginOf_5 ?_
    exact W.dret (v := (S.2 0 x1.toNatClampNeg)) hx hb hr (fun t ht hW => ⟨⟨S.2 0 x1.toNatClampNeg, S, rfl, h, by rw [ht]; exact hP, hD⟩, hS.F ht⟩) hS.2.2 d_L_beginOf_6
  exact hH9 _ rfl hP hS
theorem d_L_endOf_0 : decode b_L_endOf 0 = .ok (.aload_n 0, 1) := by decide +kernel
theorem d_L_endOf_1 : decode b_L_endOf 1 = .ok (.getfield 9, 3) := by decide +kernel
theorem d_L_endOf_4 : decode b_L_endOf 4 = .ok (.iload_n 1, 1) := by decide +kernel
theorem d_L_endOf_5 : decode b_L_endOf 5 = .ok (.iconst 1, 1) := by decide +kernel
theorem d_L_endOf_6 : decode b_L_endOf 6 = .ok (.iadd, 1) := by decide +kernel
theorem d_L_endOf_7 : decode b_L_endOf 7 = .ok (.daload, 1) := by decide +kernel
theorem d_L_endOf_8 : decode b_L_endOf 8 = .ok (.dreturn, 1) := by decide +kernel
def w_L_endOf (S : SC) (x1 : Int32) (Q : UInt64 → SC → Prop) : Prop := ∀ a1 : Int32, a1 = x1 + 1 → (vp_in a1 11 ∧ (Q (S.2 0 a1.toNatClampNeg) S))
set_option maxRecDepth 100000 in
set_option maxHeartbeats 4000000 in
theorem c_L_endOf (l : Launch) (D : va_G) (ca : Nat → ClassId) (ad : Nat → Nat) (sz : Nat) (S : SC) (x1 : Int32)  (Q : UInt64 → SC → Prop) (h : w_L_endOf S x1 Q) : Met l y_L_endOf (Cond.code y_L_endOf b_L_endOf 2 (some Jvm.ClassFile.FieldType.double) :: tG) ({ frames := 0, cells := 0, slots := 0, locals := 0 } : Room) (xPc D ca (wC ca ad) S sz [.ref (ad 1), .int x1]) (va_Qd Q (xAt D (wC ca ad) (va_A (wC ca ad S) sz)) (va_A (wC ca ad S) sz)) 0 0 (va_A (wC ca ad S) sz) := by
  refine xx_met (Qf := fun A => va_Qd Q (xAt D (wC ca ad) A) A) (by decide) (Nat.le_of_ble_eq_true rfl) ?_
  intro p e s m args below meth c A ls hx hb hr hw hown hlocks hml hK hN hA hP hD hS hl
  have hown : s.vm.findClass "TrainGuard$Line" = some m.cls := hown
  have hl : lv_has ls 2 [(0, .ref (ad 1)), (1, .int x1)] := hl
  have hH9 : ∀ H : Heap, H = s.heap → va_P D cls (wC ca ad S) H → va_S A s.heap H [] → W p l e ({ frames := 0, cells := 0, slots := 0, locals := 0 } : Room) s m args below meth c H [] 0 0 (MQ below ((fun A => va_Qd Q (xAt D (wC ca ad) A) A) A) args s 0 0 A) (F0 m 0 ls []) := by
    clear hP hS
    intro H hH hP hS
    obtain ⟨locs, hlo⟩ : ∃ z : List Loc, z = [] := ⟨_, rfl⟩
    rw [← hlo] at hS ⊢
    refine lv_aload_n hx hb d_L_endOf_0 rfl (lv_at hl 0 rfl) ?_
    refine va_get (D := D) (ci := 0) (v := .ref (ad 2)) (C := Rc_L) (T := Fc_L) (N := 8) hx hb hw inc_L hown hK hP 1 rfl rfl 0 (by decide) (hw _ wd_27) (fun _ h9 => h9) rfl d_L_endOf_1 ?_
    refine lv_iload_n hx hb d_L_endOf_4 rfl (lv_at hl 1 rfl) ?_
    refine lv_iconst (v := 1) hx hb d_L_endOf_5 (by decide) ?_
    refine lv_iadd hx hb d_L_endOf_6 ?_
    refine lv_topi (fun a1 e_a1 => ?_)
    replace h := h a1 e_a1
    obtain ⟨hq, h⟩ := h
    refine va_dald (D := D) hx hb hK hP 2 2 rfl rfl hq d_L_endOf_7 ?_
    exact W.dret (v := (S.2 0 a1.toNatClampNeg)) hx hb hr (fun t ht hW => ⟨⟨S.2 0 a1.toNatClampNeg, S, rfl, h, by rw [ht]; exact hP, hD⟩, hS.F ht⟩) hS.2.2 d_L_endOf_8
  exact hH9 _ rfl hP hS
theorem d_L_lengthOf_0 : decode b_L_lengthOf 0 = .ok (.aload_n 0, 1) := by decide +kernel
theorem d_L_lengthOf_1 : decode b_L_lengthOf 1 = .ok (.iload_n 1, 1) := by decide +kernel
theorem d_L_lengthOf_2 : decode b_L_lengthOf 2 = .ok (.invokevirtual 38, 3) := by decide +kernel
theorem d_L_lengthOf_5 : decode b_L_lengthOf 5 = .ok (.aload_n 0, 1) := by decide +kernel
theorem d_L_lengthOf_6 : decode b_L_lengthOf 6 = .ok (.iload_n 1, 1) := by decide +kernel
theorem d_L_lengthOf_7 : decode b_L_lengthOf 7 = .ok (.invokevirtual 42, 3) := by decide +kernel
theorem d_L_lengthOf_10 : decode b_L_lengthOf 10 = .ok (.dsub, 1) := by decide +kernel
theorem d_L_lengthOf_11 : decode b_L_lengthOf 11 = .ok (.dreturn, 1) := by decide +kernel
theorem gl_L_38 : ∀ w ∈ wsV "TrainGuard$Line" 38 "TrainGuard$Line" y_L_endOf (Cond.code y_L_endOf b_L_endOf 2 (some Jvm.ClassFile.FieldType.double) :: tG), w ∈ tG := by
  intro x hx
  simp only [wsV, List.cons_append, List.nil_append, List.mem_cons] at hx
  rcases hx with rfl | rfl | rfl | rfl | rfl | hx
  · exact wd_327
  · exact wd_328
  · exact wd_329
  · exact wd_2
  · exact wd_330
  · exact hx
theorem gl_L_42 : ∀ w ∈ wsV "TrainGuard$Line" 42 "TrainGuard$Line" y_L_beginOf (Cond.code y_L_beginOf b_L_beginOf 2 (some Jvm.ClassFile.FieldType.double) :: tG), w ∈ tG := by
  intro x hx
  simp only [wsV, List.cons_append, List.nil_append, List.mem_cons] at hx
  rcases hx with rfl | rfl | rfl | rfl | rfl | hx
  · exact wd_331
  · exact wd_332
  · exact wd_333
  · exact wd_2
  · exact wd_334
  · exact hx
def w_L_lengthOf (S : SC) (x1 : Int32) (Q : UInt64 → SC → Prop) : Prop := w_L_endOf S x1 (fun r1 S2 => w_L_beginOf S2 x1 (fun r3 S4 => vf_n64 (FP.dsub r1 r3) ∧ (∀ f5 : UInt64, f5 = FP.dsub r1 r3 → (Q f5 S4))))
set_option maxRecDepth 100000 in
set_option maxHeartbeats 4000000 in
theorem c_L_lengthOf (l : Launch) (D : va_G) (ca : Nat → ClassId) (ad : Nat → Nat) (sz : Nat) (S : SC) (x1 : Int32)  (Q : UInt64 → SC → Prop) (h : w_L_lengthOf S x1 Q) : Met l y_L_lengthOf (Cond.code y_L_lengthOf b_L_lengthOf 2 (some Jvm.ClassFile.FieldType.double) :: tG) ({ frames := 1, cells := 0, slots := 0, locals := 21 } : Room) (xPc D ca (wC ca ad) S sz [.ref (ad 1), .int x1]) (va_Qd Q (xAt D (wC ca ad) (va_A (wC ca ad S) sz)) (va_A (wC ca ad S) sz)) 0 0 (va_A (wC ca ad S) sz) := by
  refine xx_met (Qf := fun A => va_Qd Q (xAt D (wC ca ad) A) A) (by decide) (Nat.le_of_ble_eq_true rfl) ?_
  intro p e s m args below meth c A ls hx hb hr hw hown hlocks hml hK hN hA hP hD hS hl
  have hown : s.vm.findClass "TrainGuard$Line" = some m.cls := hown
  have hl : lv_has ls 2 [(0, .ref (ad 1)), (1, .int x1)] := hl
  have hH9 : ∀ H : Heap, H = s.heap → va_P D cls (wC ca ad S) H → va_S A s.heap H [] → W p l e ({ frames := 1, cells := 0, slots := 0, locals := 21 } : Room) s m args below meth c H [] 0 0 (MQ below ((fun A => va_Qd Q (xAt D (wC ca ad) A) A) A) args s 0 0 A) (F0 m 0 ls []) := by
    clear hP hS
    intro H hH hP hS
    obtain ⟨locs, hlo⟩ : ∃ z : List Loc, z = [] := ⟨_, rfl⟩
    rw [← hlo] at hS ⊢
    refine lv_aload_n hx hb d_L_lengthOf_0 rfl (lv_at hl 0 rfl) ?_
    refine lv_iload_n hx hb d_L_lengthOf_1 rfl (lv_at hl 1 rfl) ?_
    refine xx_calld (va_runV (As := [.int x1]) (rest := []) ⟨hx, hb, hml, hown, hw⟩ (c_L_endOf l D ca ad H.size S x1 _ h) (cwV 1 hw (tG_g gl_L_38) rfl rfl rfl (by decide +kernel) ⟨Nat.le_of_ble_eq_true rfl, Nat.le_of_ble_eq_true rfl⟩) ⟨xPc.blind, va_recv hK hP rfl (q0 := 1) rfl, xPc.pre hK hN hP hD⟩ rfl rfl hl.1 rfl (lv_room (Nat.le_of_ble_eq_true rfl)) d_L_lengthOf_2 ⟨Nat.le_of_ble_eq_true rfl, Nat.le_of_ble_eq_true rfl⟩) hD hS hA (fun r1 S2 H locs h hP hD hS => ?_)
    refine lv_aload_n hx hb d_L_lengthOf_5 rfl (lv_at hl 0 rfl) ?_
    refine lv_iload_n hx hb d_L_lengthOf_6 rfl (lv_at hl 1 rfl) ?_
    refine xx_calld (va_runV (As := [.int x1]) (rest := [.double r1]) ⟨hx, hb, hml, hown, hw⟩ (c_L_beginOf l D ca ad H.size S2 x1 _ h) (cwV 1 hw (tG_g gl_L_42) rfl rfl rfl (by decide +kernel) ⟨Nat.le_of_ble_eq_true rfl, Nat.le_of_ble_eq_true rfl⟩) ⟨xPc.blind, va_recv hK hP rfl (q0 := 1) rfl, xPc.pre hK hN hP hD⟩ rfl rfl hl.1 rfl (lv_room (Nat.le_of_ble_eq_true rfl)) d_L_lengthOf_7 ⟨Nat.le_of_ble_eq_true rfl, Nat.le_of_ble_eq_true rfl⟩) hD hS hA (fun r3 S4 H locs h hP hD hS => ?_)
    obtain ⟨hq, h⟩ := h
    refine lv_dsub hx hb d_L_lengthOf_10 hq ?_
    refine lv_topd (fun f5 e_f5 => ?_)
    replace h := h f5 e_f5
    exact W.dret (v := f5) hx hb hr (fun t ht hW => ⟨⟨f5, S4, rfl, h, by rw [ht]; exact hP, hD⟩, hS.F ht⟩) hS.2.2 d_L_lengthOf_11
  exact hH9 _ rfl hP hS
theorem d_L_hasSection_0 : decode b_L_hasSection 0 = .ok (.iload_n 1, 1) := by decide +kernel
theorem d_L_hasSection_1 : decode b_L_hasSection 1 = .ok (.ifCond .lt 15, 3) := by decide +kernel
theorem d_L_hasSection_4 : decode b_L_hasSection 4 = .ok (.iload_n 1, 1) := by decide +kernel
theorem d_L_hasSection_5 : decode b_L_hasSection 5 = .ok (.aload_n 0, 1) := by decide +kernel
theorem d_L_hasSection_6 : decode b_L_hasSection 6 = .ok (.getfield 31, 3) := by decide +kernel
theorem d_L_hasSection_9 : decode b_L_hasSection 9 = .ok (.if_icmp .ge 7, 3) := by decide +kernel
theorem d_L_hasSection_12 : decode b_L_hasSection 12 = .ok (.iconst 1, 1) := by decide +kernel
theorem d_L_hasSection_13 : decode b_L_hasSection 13 = .ok (.goto 4, 3) := by decide +kernel
theorem d_L_hasSection_16 : decode b_L_hasSection 16 = .ok (.iconst 0, 1) := by decide +kernel
theorem d_L_hasSection_17 : decode b_L_hasSection 17 = .ok (.ireturn, 1) := by decide +kernel
def w_L_hasSection (S : SC) (x1 : Int32) (Q : Int32 → SC → Prop) : Prop := ((x1 < 0) → (Q 0 S)) ∧ ((¬ x1 < 0) → ((((S.1 4 0) ≤ x1) → (Q 0 S)) ∧ ((¬ (S.1 4 0) ≤ x1) → (Q 1 S))))
set_option maxRecDepth 100000 in
set_option maxHeartbeats 4000000 in
theorem c_L_hasSection (l : Launch) (D : va_G) (ca : Nat → ClassId) (ad : Nat → Nat) (sz : Nat) (S : SC) (x1 : Int32)  (Q : Int32 → SC → Prop) (h : w_L_hasSection S x1 Q) : Met l y_L_hasSection (Cond.code y_L_hasSection b_L_hasSection 2 (some Jvm.ClassFile.FieldType.boolean) :: tG) ({ frames := 0, cells := 0, slots := 0, locals := 0 } : Room) (xPc D ca (wC ca ad) S sz [.ref (ad 1), .int x1]) (va_Qi Q (xAt D (wC ca ad) (va_A (wC ca ad S) sz)) (va_A (wC ca ad S) sz)) 0 0 (va_A (wC ca ad S) sz) := by
  refine xx_met (Qf := fun A => va_Qi Q (xAt D (wC ca ad) A) A) (by decide) (Nat.le_of_ble_eq_true rfl) ?_
  intro p e s m args below meth c A ls hx hb hr hw hown hlocks hml hK hN hA hP hD hS hl
  have hown : s.vm.findClass "TrainGuard$Line" = some m.cls := hown
  have hl : lv_has ls 2 [(0, .ref (ad 1)), (1, .int x1)] := hl
  have hH9 : ∀ H : Heap, H = s.heap → va_P D cls (wC ca ad S) H → va_S A s.heap H [] → W p l e ({ frames := 0, cells := 0, slots := 0, locals := 0 } : Room) s m args below meth c H [] 0 0 (MQ below ((fun A => va_Qi Q (xAt D (wC ca ad) A) A) A) args s 0 0 A) (F0 m 0 ls []) := by
    clear hP hS
    intro H hH hP hS
    obtain ⟨locs, hlo⟩ : ∃ z : List Loc, z = [] := ⟨_, rfl⟩
    rw [← hlo] at hS ⊢
    refine lv_iload_n hx hb d_L_hasSection_0 rfl (lv_at hl 1 rfl) ?_
    refine lv_if_lt (tgt := 16) hx hb d_L_hasSection_1 (by decide) (fun hc => ?_) (fun hc => ?_)
    · replace h := h.1 hc
      refine lv_iconst (v := 0) hx hb d_L_hasSection_16 (by decide) ?_
      exact W.zret (v := 0) hx hb hr rfl (fun t ht hW => ⟨⟨0, S, rfl, h, by rw [ht]; exact hP, hD⟩, hS.F ht⟩) hS.2.2 d_L_hasSection_17
    · replace h := h.2 hc
      refine lv_iload_n hx hb d_L_hasSection_4 rfl (lv_at hl 1 rfl) ?_
      refine lv_aload_n hx hb d_L_hasSection_5 rfl (lv_at hl 0 rfl) ?_
      refine va_get (D := D) (ci := 0) (v := .int (S.1 4 0)) (C := Rc_L) (T := Fc_L) (N := 8) hx hb hw inc_L hown hK hP 1 rfl rfl 6 (by decide) (hw _ wd_34) (fun _ h9 => h9) rfl d_L_hasSection_6 ?_
      refine lv_icmp_ge (tgt := 16) hx hb d_L_hasSection_9 (by decide) (fun hc => ?_) (fun hc => ?_)
      · replace h := h.1 hc
        refine lv_iconst (v := 0) hx hb d_L_hasSection_16 (by decide) ?_
        exact W.zret (v := 0) hx hb hr rfl (fun t ht hW => ⟨⟨0, S, rfl, h, by rw [ht]; exact hP, hD⟩, hS.F ht⟩) hS.2.2 d_L_hasSection_17
      · replace h := h.2 hc
        refine lv_iconst (v := 1) hx hb d_L_hasSection_12 (by decide) ?_
        refine lv_goto (tgt := 17) hx hb d_L_hasSection_13 (by decide) ?_
        exact W.zret (v := 1) hx hb hr rfl (fun t ht hW => ⟨⟨1, S, rfl, h, by rw [ht]; exact hP, hD⟩, hS.F ht⟩) hS.2.2 d_L_hasSection_17
  exact hH9 _ rfl hP hS
theorem d_L_lineEnd_0 : decode b_L_lineEnd 0 = .ok (.aload_n 0, 1) := by decide +kernel
theorem d_L_lineEnd_1 : decode b_L_lineEnd 1 = .ok (.getfield 9, 3) := by decide +kernel
theorem d_L_lineEnd_4 : decode b_L_lineEnd 4 = .ok (.aload_n 0, 1) := by decide +kernel
theorem d_L_lineEnd_5 : decode b_L_lineEnd 5 = .ok (.getfield 31, 3) := by decide +kernel
theorem d_L_lineEnd_8 : decode b_L_lineEnd 8 = .ok (.daload, 1) := by decide +kernel
theorem d_L_lineEnd_9 : decode b_L_lineEnd 9 = .ok (.dreturn, 1) := by decide +kernel
def w_L_lineEnd (S : SC) (Q : UInt64 → SC → Prop) : Prop := vp_in (S.1 4 0) 11 ∧ (Q (S.2 0 (S.1 4 0).toNatClampNeg) S)
set_option maxRecDepth 100000 in
set_option maxHeartbeats 4000000 in
theorem c_L_lineEnd (l : Launch) (D : va_G) (ca : Nat → ClassId) (ad : Nat → Nat) (sz : Nat) (S : SC)   (Q : UInt64 → SC → Prop) (h : w_L_lineEnd S  Q) : Met l y_L_lineEnd (Cond.code y_L_lineEnd b_L_lineEnd 1 (some Jvm.ClassFile.FieldType.double) :: tG) ({ frames := 0, cells := 0, slots := 0, locals := 0 } : Room) (xPc D ca (wC ca ad) S sz [.ref (ad 1)]) (va_Qd Q (xAt D (wC ca ad) (va_A (wC ca ad S) sz)) (va_A (wC ca ad S) sz)) 0 0 (va_A (wC ca ad S) sz) := by
  refine xx_met (Qf := fun A => va_Qd Q (xAt D (wC ca ad) A) A) (by decide) (Nat.le_of_ble_eq_true rfl) ?_
  intro p e s m args below meth c A ls hx hb hr hw hown hlocks hml hK hN hA hP hD hS hl
  have hown : s.vm.findClass "TrainGuard$Line" = some m.cls := hown
  have hl : lv_has ls 1 [(0, .ref (ad 1))] := hl
  have hH9 : ∀ H : Heap, H = s.heap → va_P D cls (wC ca ad S) H → va_S A s.heap H [] → W p l e ({ frames := 0, cells := 0, slots := 0, locals := 0 } : Room) s m args below meth c H [] 0 0 (MQ below ((fun A => va_Qd Q (xAt D (wC ca ad) A) A) A) args s 0 0 A) (F0 m 0 ls []) := by
    clear hP hS
    intro H hH hP hS
    obtain ⟨locs, hlo⟩ : ∃ z : List Loc, z = [] := ⟨_, rfl⟩
    rw [← hlo] at hS ⊢
    refine lv_aload_n hx hb d_L_lineEnd_0 rfl (lv_at hl 0 rfl) ?_
    refine va_get (D := D) (ci := 0) (v := .ref (ad 2)) (C := Rc_L) (T := Fc_L) (N := 8) hx hb hw inc_L hown hK hP 1 rfl rfl 0 (by decide) (hw _ wd_27) (fun _ h9 => h9) rfl d_L_lineEnd_1 ?_
    refine lv_aload_n hx hb d_L_lineEnd_4 rfl (lv_at hl 0 rfl) ?_
    refine va_get (D := D) (ci := 0) (v := .int (S.1 4 0)) (C := Rc_L) (T := Fc_L) (N := 8) hx hb hw inc_L hown hK hP 1 rfl rfl 6 (by decide) (hw _ wd_34) (fun _ h9 => h9) rfl d_L_lineEnd_5 ?_
    obtain ⟨hq, h⟩ := h
    refine va_dald (D := D) hx hb hK hP 2 2 rfl rfl hq d_L_lineEnd_8 ?_
    exact W.dret (v := (S.2 0 (S.1 4 0).toNatClampNeg)) hx hb hr (fun t ht hW => ⟨⟨S.2 0 (S.1 4 0).toNatClampNeg, S, rfl, h, by rw [ht]; exact hP, hD⟩, hS.F ht⟩) hS.2.2 d_L_lineEnd_9
  exact hH9 _ rfl hP hS
end
