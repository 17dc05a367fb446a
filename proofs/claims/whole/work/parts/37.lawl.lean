-- the law: what it calls, its world
theorem gs_law_80 : ∀ w ∈ va_wsS "TrainGuardLaw" 80 y_W_section (Cond.codeWith y_W_section b_W_section 7 (some Jvm.ClassFile.FieldType.int) [(0, 11, 14, 13), (0, 11, 18, 15), (0, 11, 22, 17), (0, 11, 26, 19)] :: tG), w ∈ tG := by
  intro x hx
  simp only [va_wsS, List.cons_append, List.nil_append, List.mem_cons] at hx
  rcases hx with rfl | rfl | rfl | rfl | hx
  · exact wd_155
  · exact wd_156
  · exact wd_0
  · exact wd_157
  · exact hx
theorem gv_law_85 : ∀ w ∈ wsV "TrainGuardLaw" 85 "TrainGuardModel" y_R_section (Cond.code y_R_section b_R_section 5 (some Jvm.ClassFile.FieldType.int) :: tG), w ∈ tG := by
  intro x hx
  simp only [wsV, List.cons_append, List.nil_append, List.mem_cons] at hx
  rcases hx with rfl | rfl | rfl | rfl | rfl | hx
  · exact wd_673
  · exact wd_674
  · exact wd_675
  · exact wd_5
  · exact wd_676
  · exact hx
theorem gv_law_86 : ∀ w ∈ wsV "TrainGuardLaw" 86 "TrainGuardModel" y_R_thrown (Cond.code y_R_thrown b_R_thrown 1 (some Jvm.ClassFile.FieldType.int) :: tG), w ∈ tG := by
  intro x hx
  simp only [wsV, List.cons_append, List.nil_append, List.mem_cons] at hx
  rcases hx with rfl | rfl | rfl | rfl | rfl | hx
  · exact wd_669
  · exact wd_670
  · exact wd_671
  · exact wd_5
  · exact wd_672
  · exact hx
theorem gs_law_90 : ∀ w ∈ va_wsS "TrainGuardLaw" 90 y_W_restrict (Cond.codeWith y_W_restrict b_W_restrict 9 (some Jvm.ClassFile.FieldType.int) [(0, 13, 16, 13), (0, 13, 20, 15), (0, 13, 24, 17), (0, 13, 28, 19)] :: tG), w ∈ tG := by
  intro x hx
  simp only [va_wsS, List.cons_append, List.nil_append, List.mem_cons] at hx
  rcases hx with rfl | rfl | rfl | rfl | hx
  · exact wd_264
  · exact wd_265
  · exact wd_0
  · exact wd_266
  · exact hx
theorem gv_law_93 : ∀ w ∈ wsV "TrainGuardLaw" 93 "TrainGuardModel" y_R_restrict (Cond.code y_R_restrict b_R_restrict 8 (some Jvm.ClassFile.FieldType.int) :: tG), w ∈ tG := by
  intro x hx
  simp only [wsV, List.cons_append, List.nil_append, List.mem_cons] at hx
  rcases hx with rfl | rfl | rfl | rfl | rfl | hx
  · exact wd_695
  · exact wd_696
  · exact wd_697
  · exact wd_5
  · exact wd_698
  · exact hx
theorem gs_law_94 : ∀ w ∈ va_wsS "TrainGuardLaw" 94 y_W_release (Cond.codeWith y_W_release b_W_release 4 (some Jvm.ClassFile.FieldType.int) [(0, 9, 12, 13), (0, 9, 15, 15), (0, 9, 18, 17), (0, 9, 21, 19)] :: tG), w ∈ tG := by
  intro x hx
  simp only [va_wsS, List.cons_append, List.nil_append, List.mem_cons] at hx
  rcases hx with rfl | rfl | rfl | rfl | hx
  · exact wd_298
  · exact wd_299
  · exact wd_0
  · exact wd_300
  · exact hx
theorem gv_law_97 : ∀ w ∈ wsV "TrainGuardLaw" 97 "TrainGuardModel" y_R_release (Cond.code y_R_release b_R_release 3 (some Jvm.ClassFile.FieldType.int) :: tG), w ∈ tG := by
  intro x hx
  simp only [wsV, List.cons_append, List.nil_append, List.mem_cons] at hx
  rcases hx with rfl | rfl | rfl | rfl | rfl | hx
  · exact wd_700
  · exact wd_701
  · exact wd_702
  · exact wd_5
  · exact wd_703
  · exact hx
theorem gs_law_98 : ∀ w ∈ va_wsS "TrainGuardLaw" 98 y_W_train (Cond.codeWith y_W_train b_W_train 8 (some Jvm.ClassFile.FieldType.int) [(0, 13, 16, 13), (0, 13, 20, 15), (0, 13, 24, 17), (0, 13, 28, 19)] :: tG), w ∈ tG := by
  intro x hx
  simp only [va_wsS, List.cons_append, List.nil_append, List.mem_cons] at hx
  rcases hx with rfl | rfl | rfl | rfl | hx
  · exact wd_309
  · exact wd_310
  · exact wd_0
  · exact wd_311
  · exact hx
theorem gv_law_101 : ∀ w ∈ wsV "TrainGuardLaw" 101 "TrainGuardModel" y_R_train (Cond.code y_R_train b_R_train 7 (some Jvm.ClassFile.FieldType.int) :: tG), w ∈ tG := by
  intro x hx
  simp only [wsV, List.cons_append, List.nil_append, List.mem_cons] at hx
  rcases hx with rfl | rfl | rfl | rfl | rfl | hx
  · exact wd_707
  · exact wd_708
  · exact wd_709
  · exact wd_5
  · exact wd_710
  · exact hx
theorem gs_law_102 : ∀ w ∈ va_wsS "TrainGuardLaw" 102 y_W_start (Cond.codeWith y_W_start b_W_start 4 (some Jvm.ClassFile.FieldType.int) [(0, 9, 12, 13), (0, 9, 15, 15), (0, 9, 18, 17), (0, 9, 21, 19)] :: tG), w ∈ tG := by
  intro x hx
  simp only [va_wsS, List.cons_append, List.nil_append, List.mem_cons] at hx
  rcases hx with rfl | rfl | rfl | rfl | hx
  · exact wd_357
  · exact wd_358
  · exact wd_0
  · exact wd_359
  · exact hx
theorem gv_law_104 : ∀ w ∈ wsV "TrainGuardLaw" 104 "TrainGuardModel" y_R_start (Cond.code y_R_start b_R_start 2 (some Jvm.ClassFile.FieldType.int) :: tG), w ∈ tG := by
  intro x hx
  simp only [wsV, List.cons_append, List.nil_append, List.mem_cons] at hx
  rcases hx with rfl | rfl | rfl | rfl | rfl | hx
  · exact wd_727
  · exact wd_728
  · exact wd_729
  · exact wd_5
  · exact wd_730
  · exact hx
theorem gs_law_105 : ∀ w ∈ va_wsS "TrainGuardLaw" 105 y_W_ask (Cond.codeWith y_W_ask b_W_ask 5 (some Jvm.ClassFile.FieldType.int) [(0, 10, 13, 13), (0, 10, 17, 15), (0, 10, 21, 17), (0, 10, 25, 19)] :: tG), w ∈ tG := by
  intro x hx
  simp only [va_wsS, List.cons_append, List.nil_append, List.mem_cons] at hx
  rcases hx with rfl | rfl | rfl | rfl | hx
  · exact wd_412
  · exact wd_413
  · exact wd_0
  · exact wd_414
  · exact hx
theorem gv_law_108 : ∀ w ∈ wsV "TrainGuardLaw" 108 "TrainGuardModel" y_R_ask (Cond.code y_R_ask b_R_ask 4 (some Jvm.ClassFile.FieldType.int) :: tG), w ∈ tG := by
  intro x hx
  simp only [wsV, List.cons_append, List.nil_append, List.mem_cons] at hx
  rcases hx with rfl | rfl | rfl | rfl | rfl | hx
  · exact wd_768
  · exact wd_769
  · exact wd_770
  · exact wd_5
  · exact wd_771
  · exact hx
theorem gs_law_109 : ∀ w ∈ va_wsS "TrainGuardLaw" 109 y_W_stop (Cond.codeWith y_W_stop b_W_stop 4 (some Jvm.ClassFile.FieldType.int) [(0, 9, 12, 13), (0, 9, 15, 15), (0, 9, 18, 17), (0, 9, 21, 19)] :: tG), w ∈ tG := by
  intro x hx
  simp only [va_wsS, List.cons_append, List.nil_append, List.mem_cons] at hx
  rcases hx with rfl | rfl | rfl | rfl | hx
  · exact wd_432
  · exact wd_433
  · exact wd_0
  · exact wd_434
  · exact hx
theorem gv_law_111 : ∀ w ∈ wsV "TrainGuardLaw" 111 "TrainGuardModel" y_R_stop (Cond.code y_R_stop b_R_stop 2 (some Jvm.ClassFile.FieldType.int) :: tG), w ∈ tG := by
  intro x hx
  simp only [wsV, List.cons_append, List.nil_append, List.mem_cons] at hx
  rcases hx with rfl | rfl | rfl | rfl | rfl | hx
  · exact wd_780
  · exact wd_781
  · exact wd_782
  · exact wd_5
  · exact wd_783
  · exact hx
theorem gs_law_112 : ∀ w ∈ va_wsS "TrainGuardLaw" 112 y_W_take (Cond.codeWith y_W_take b_W_take 5 (some Jvm.ClassFile.FieldType.int) [(0, 10, 13, 13), (0, 10, 17, 15), (0, 10, 21, 17), (0, 10, 25, 19)] :: tG), w ∈ tG := by
  intro x hx
  simp only [va_wsS, List.cons_append, List.nil_append, List.mem_cons] at hx
  rcases hx with rfl | rfl | rfl | rfl | hx
  · exact wd_439
  · exact wd_440
  · exact wd_0
  · exact wd_441
  · exact hx
theorem gv_law_114 : ∀ w ∈ wsV "TrainGuardLaw" 114 "TrainGuardModel" y_R_take (Cond.code y_R_take b_R_take 3 (some Jvm.ClassFile.FieldType.int) :: tG), w ∈ tG := by
  intro x hx
  simp only [wsV, List.cons_append, List.nil_append, List.mem_cons] at hx
  rcases hx with rfl | rfl | rfl | rfl | rfl | hx
  · exact wd_784
  · exact wd_785
  · exact wd_786
  · exact wd_5
  · exact wd_787
  · exact hx
theorem gs_law_115 : ∀ w ∈ va_wsS "TrainGuardLaw" 115 y_W_second (Cond.codeWith y_W_second b_W_second 7 (some Jvm.ClassFile.FieldType.int) [(0, 13, 16, 13), (0, 13, 20, 15), (0, 13, 24, 17), (0, 13, 28, 19)] :: tG), w ∈ tG := by
  intro x hx
  simp only [va_wsS, List.cons_append, List.nil_append, List.mem_cons] at hx
  rcases hx with rfl | rfl | rfl | rfl | hx
  · exact wd_485
  · exact wd_486
  · exact wd_0
  · exact wd_487
  · exact hx
theorem gv_law_118 : ∀ w ∈ wsV "TrainGuardLaw" 118 "TrainGuardModel" y_R_second (Cond.code y_R_second b_R_second 5 (some Jvm.ClassFile.FieldType.int) :: tG), w ∈ tG := by
  intro x hx
  simp only [wsV, List.cons_append, List.nil_append, List.mem_cons] at hx
  rcases hx with rfl | rfl | rfl | rfl | rfl | hx
  · exact wd_792
  · exact wd_793
  · exact wd_794
  · exact wd_5
  · exact wd_795
  · exact hx
theorem gs_law_119 : ∀ w ∈ va_wsS "TrainGuardLaw" 119 y_W_wet (Cond.codeWith y_W_wet b_W_wet 5 (some Jvm.ClassFile.FieldType.int) [(0, 10, 13, 13), (0, 10, 17, 15), (0, 10, 21, 17), (0, 10, 25, 19)] :: tG), w ∈ tG := by
  intro x hx
  simp only [va_wsS, List.cons_append, List.nil_append, List.mem_cons] at hx
  rcases hx with rfl | rfl | rfl | rfl | hx
  · exact wd_527
  · exact wd_528
  · exact wd_0
  · exact wd_529
  · exact hx
theorem gv_law_122 : ∀ w ∈ wsV "TrainGuardLaw" 122 "TrainGuardModel" y_R_wet (Cond.code y_R_wet b_R_wet 3 (some Jvm.ClassFile.FieldType.int) :: tG), w ∈ tG := by
  intro x hx
  simp only [wsV, List.cons_append, List.nil_append, List.mem_cons] at hx
  rcases hx with rfl | rfl | rfl | rfl | rfl | hx
  · exact wd_810
  · exact wd_811
  · exact wd_812
  · exact wd_5
  · exact wd_813
  · exact hx
theorem gs_law_123 : ∀ w ∈ va_wsS "TrainGuardLaw" 123 y_W_acknowledge (Cond.codeWith y_W_acknowledge b_W_acknowledge 4 (some Jvm.ClassFile.FieldType.int) [(0, 9, 12, 13), (0, 9, 15, 15), (0, 9, 18, 17), (0, 9, 21, 19)] :: tG), w ∈ tG := by
  intro x hx
  simp only [va_wsS, List.cons_append, List.nil_append, List.mem_cons] at hx
  rcases hx with rfl | rfl | rfl | rfl | hx
  · exact wd_534
  · exact wd_535
  · exact wd_0
  · exact wd_536
  · exact hx
theorem gv_law_125 : ∀ w ∈ wsV "TrainGuardLaw" 125 "TrainGuardModel" y_R_acknowledge (Cond.code y_R_acknowledge b_R_acknowledge 3 (some Jvm.ClassFile.FieldType.int) :: tG), w ∈ tG := by
  intro x hx
  simp only [wsV, List.cons_append, List.nil_append, List.mem_cons] at hx
  rcases hx with rfl | rfl | rfl | rfl | rfl | hx
  · exact wd_814
  · exact wd_815
  · exact wd_816
  · exact wd_5
  · exact wd_817
  · exact hx
theorem gs_law_126 : ∀ w ∈ va_wsS "TrainGuardLaw" 126 y_W_end (Cond.codeWith y_W_end b_W_end 4 (some Jvm.ClassFile.FieldType.int) [(0, 9, 12, 13), (0, 9, 15, 15), (0, 9, 18, 17), (0, 9, 21, 19)] :: tG), w ∈ tG := by
  intro x hx
  simp only [va_wsS, List.cons_append, List.nil_append, List.mem_cons] at hx
  rcases hx with rfl | rfl | rfl | rfl | hx
  · exact wd_542
  · exact wd_543
  · exact wd_0
  · exact wd_544
  · exact hx
theorem gv_law_128 : ∀ w ∈ wsV "TrainGuardLaw" 128 "TrainGuardModel" y_R_end (Cond.code y_R_end b_R_end 3 (some Jvm.ClassFile.FieldType.int) :: tG), w ∈ tG := by
  intro x hx
  simp only [wsV, List.cons_append, List.nil_append, List.mem_cons] at hx
  rcases hx with rfl | rfl | rfl | rfl | rfl | hx
  · exact wd_818
  · exact wd_819
  · exact wd_820
  · exact wd_5
  · exact wd_821
  · exact hx
theorem gs_law_129 : ∀ w ∈ va_wsS "TrainGuardLaw" 129 y_W_of (Cond.codeWith y_W_of b_W_of 5 (some Jvm.ClassFile.FieldType.int) [(0, 9, 12, 13), (0, 9, 16, 15), (0, 9, 20, 17), (0, 9, 24, 19)] :: tG), w ∈ tG := by
  intro x hx
  simp only [va_wsS, List.cons_append, List.nil_append, List.mem_cons] at hx
  rcases hx with rfl | rfl | rfl | rfl | hx
  · exact wd_553
  · exact wd_554
  · exact wd_0
  · exact wd_555
  · exact hx
theorem gv_law_132 : ∀ w ∈ wsV "TrainGuardLaw" 132 "TrainGuardModel" y_R_of (Cond.code y_R_of b_R_of 3 (some Jvm.ClassFile.FieldType.double) :: tG), w ∈ tG := by
  intro x hx
  simp only [wsV, List.cons_append, List.nil_append, List.mem_cons] at hx
  rcases hx with rfl | rfl | rfl | rfl | rfl | hx
  · exact wd_822
  · exact wd_823
  · exact wd_824
  · exact wd_5
  · exact wd_825
  · exact hx
theorem gs_law_133 : ∀ w ∈ va_wsS "TrainGuardLaw" 133 y_W_limit (Cond.codeWith y_W_limit b_W_limit 5 (some Jvm.ClassFile.FieldType.int) [(0, 8, 11, 13), (0, 8, 15, 15), (0, 8, 19, 17), (0, 8, 23, 19)] :: tG), w ∈ tG := by
  intro x hx
  simp only [va_wsS, List.cons_append, List.nil_append, List.mem_cons] at hx
  rcases hx with rfl | rfl | rfl | rfl | hx
  · exact wd_562
  · exact wd_563
  · exact wd_0
  · exact wd_564
  · exact hx
theorem gv_law_136 : ∀ w ∈ wsV "TrainGuardLaw" 136 "TrainGuardModel" y_R_limit (Cond.code y_R_limit b_R_limit 3 (some Jvm.ClassFile.FieldType.double) :: tG), w ∈ tG := by
  intro x hx
  simp only [wsV, List.cons_append, List.nil_append, List.mem_cons] at hx
  rcases hx with rfl | rfl | rfl | rfl | rfl | hx
  · exact wd_831
  · exact wd_832
  · exact wd_833
  · exact wd_5
  · exact wd_834
  · exact hx
theorem gs_law_137 : ∀ w ∈ va_wsS "TrainGuardLaw" 137 y_W_mode (Cond.codeWith y_W_mode b_W_mode 4 (some Jvm.ClassFile.FieldType.int) [(0, 9, 12, 13), (0, 9, 15, 15), (0, 9, 18, 17), (0, 9, 21, 19)] :: tG), w ∈ tG := by
  intro x hx
  simp only [va_wsS, List.cons_append, List.nil_append, List.mem_cons] at hx
  rcases hx with rfl | rfl | rfl | rfl | hx
  · exact wd_571
  · exact wd_572
  · exact wd_0
  · exact wd_573
  · exact hx
theorem gv_law_139 : ∀ w ∈ wsV "TrainGuardLaw" 139 "TrainGuardModel" y_R_mode (Cond.code y_R_mode b_R_mode 2 (some Jvm.ClassFile.FieldType.int) :: tG), w ∈ tG := by
  intro x hx
  simp only [wsV, List.cons_append, List.nil_append, List.mem_cons] at hx
  rcases hx with rfl | rfl | rfl | rfl | rfl | hx
  · exact wd_835
  · exact wd_836
  · exact wd_837
  · exact wd_5
  · exact wd_838
  · exact hx
theorem gs_law_140 : ∀ w ∈ va_wsS "TrainGuardLaw" 140 y_W_holds (Cond.codeWith y_W_holds b_W_holds 5 (some Jvm.ClassFile.FieldType.int) [(0, 10, 13, 13), (0, 10, 17, 15), (0, 10, 21, 17), (0, 10, 25, 19)] :: tG), w ∈ tG := by
  intro x hx
  simp only [va_wsS, List.cons_append, List.nil_append, List.mem_cons] at hx
  rcases hx with rfl | rfl | rfl | rfl | hx
  · exact wd_578
  · exact wd_579
  · exact wd_0
  · exact wd_580
  · exact hx
theorem gv_law_142 : ∀ w ∈ wsV "TrainGuardLaw" 142 "TrainGuardModel" y_R_holds (Cond.code y_R_holds b_R_holds 5 (some Jvm.ClassFile.FieldType.int) :: tG), w ∈ tG := by
  intro x hx
  simp only [wsV, List.cons_append, List.nil_append, List.mem_cons] at hx
  rcases hx with rfl | rfl | rfl | rfl | rfl | hx
  · exact wd_839
  · exact wd_840
  · exact wd_841
  · exact wd_5
  · exact wd_842
  · exact hx
theorem gv_law_143 : ∀ w ∈ wsV "TrainGuardLaw" 143 "TrainGuard" y_G_count (Cond.code y_G_count b_G_count 2 (some Jvm.ClassFile.FieldType.int) :: tG), w ∈ tG := by
  intro x hx
  simp only [wsV, List.cons_append, List.nil_append, List.mem_cons] at hx
  rcases hx with rfl | rfl | rfl | rfl | rfl | hx
  · exact wd_151
  · exact wd_152
  · exact wd_153
  · exact wd_1
  · exact wd_154
  · exact hx
theorem gv_law_146 : ∀ w ∈ wsV "TrainGuardLaw" 146 "TrainGuardModel" y_R_count (Cond.code y_R_count b_R_count 2 (some Jvm.ClassFile.FieldType.int) :: tG), w ∈ tG := by
  intro x hx
  simp only [wsV, List.cons_append, List.nil_append, List.mem_cons] at hx
  rcases hx with rfl | rfl | rfl | rfl | rfl | hx
  · exact wd_843
  · exact wd_844
  · exact wd_845
  · exact wd_5
  · exact wd_846
  · exact hx
def LI (ca : Nat → ClassId) (ad ae : Nat → Nat) (o od : Nat) (S : SC) (M : SR) (f : Nat → Int64) (g : Nat → UInt64) : va_W := (o, .inl (ca 1, 1, .inr (.inl f))) :: (od, .inl (ca 2, 1, .inr (.inr (.inr (.inl g))))) :: (wC ca ad S ++ wR ca ae M)
def LA (s : State) : Nat → Prop := fun q : Nat => s.heap.size ≤ q
/-- what holds of the law's start all along -/
def LK (p : Program) (l : Launch) (s : State) (m : MethodId) (meth : Method) (c : Code) (b L : Nat) (xs : Nat → Int32) (D : va_G) (ca : Nat → ClassId) : Prop := (l.stackTraces = false ∧ L ≤ 2048) ∧ lw_At p s m meth c b L xs ∧ va_K D cls (tyl ca) s ∧ nW s ∧ nX s ∧ nC s ∧ zW (LA s) s s.heap
