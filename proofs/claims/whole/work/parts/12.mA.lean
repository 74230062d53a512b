def cd_Ta_init : List ab_A := [.inl (aLdA 0 1), .inl (aOI 2), .inl (aLdA 0 3), .inl (aC (.int 2000) 4), .inr (.inr (.inr (1, 0, 5))), .inl (aPR 7 0 6), .inl (aLdA 0 7), .inl (aC (.int 0) 8), .inl (aPI 7 1 9), .inr (.inl 0)]
def m_Ta_init : ab_M := (g_Ta_init, cd_Ta_init, [0, 1, 4, 5, 8, 10, 13, 14, 15, 18], [])
set_option maxRecDepth 100000 in
set_option maxHeartbeats 4000000 in
theorem ok_Ta_init : ab_ok m_Ta_init 0 (ab_cd m_Ta_init) :=
  ⟨s_aload_n (q := 0) (by decide +kernel) rfl rfl,
   s_objInit (by decide +kernel) q147 q140 q141 rfl,
   s_aload_n (q := 0) (by decide +kernel) rfl rfl,
   s_sipush (n := 2000) (by decide +kernel) rfl rfl,
   ⟨(by decide +kernel), rfl⟩,
   s_aPR (by decide +kernel) fp_Ta_9 rfl rfl,
   s_aload_n (q := 0) (by decide +kernel) rfl rfl,
   s_iconst (n := 0) (by decide +kernel) rfl rfl,
   s_aPI (by decide +kernel) (fp_Ta_15 _) rfl rfl,
   ⟨(by decide +kernel), rfl⟩,
   trivial⟩
def cd_Sc_init : List ab_A := [.inl (aLdA 0 1), .inl (aOI 2), .inl (aLdA 0 3), .inl (aC (.int 40) 4), .inr (.inr (.inr (0, 0, 5))), .inl (aPR 6 0 6), .inl (aLdA 0 7), .inl (aC (.int 0) 8), .inl (aPI 6 1 9), .inr (.inl 0)]
def m_Sc_init : ab_M := (g_Sc_init, cd_Sc_init, [0, 1, 4, 5, 7, 9, 12, 13, 14, 17], [])
set_option maxRecDepth 100000 in
set_option maxHeartbeats 4000000 in
theorem ok_Sc_init : ab_ok m_Sc_init 0 (ab_cd m_Sc_init) :=
  ⟨s_aload_n (q := 0) (by decide +kernel) rfl rfl,
   s_objInit (by decide +kernel) q279 q140 q141 rfl,
   s_aload_n (q := 0) (by decide +kernel) rfl rfl,
   s_bipush (n := 40) (by decide +kernel) rfl rfl,
   ⟨(by decide +kernel), rfl⟩,
   s_aPR (by decide +kernel) fp_Sc_9 rfl rfl,
   s_aload_n (q := 0) (by decide +kernel) rfl rfl,
   s_iconst (n := 0) (by decide +kernel) rfl rfl,
   s_aPI (by decide +kernel) (fp_Sc_15 _) rfl rfl,
   ⟨(by decide +kernel), rfl⟩,
   trivial⟩
def cd_Te_init : List ab_A := [.inl (aLdA 0 1), .inl (aOI 2), .inl (aLdA 0 3), .inl (aC (.int 5) 4), .inr (.inr (.inr (3, 0, 5))), .inl (aPR 8 0 6), .inl (aLdA 0 7), .inl (aC (.int 5) 8), .inr (.inr (.inr (0, 0, 9))), .inl (aPR 8 1 10), .inl (aLdA 0 11), .inl (aC (.int 15) 12), .inr (.inr (.inr (0, 0, 13))), .inl (aPR 8 2 14), .inl (aLdA 0 15), .inl (aC (.int 6) 16), .inr (.inr (.inr (3, 0, 17))), .inl (aPR 8 3 18), .inl (aLdA 0 19), .inl (aC (.int 6) 20), .inr (.inr (.inr (0, 0, 21))), .inl (aPR 8 4 22), .inl (aLdA 0 23), .inl (aC (.int 18) 24), .inr (.inr (.inr (0, 0, 25))), .inl (aPR 8 5 26), .inl (aLdA 0 27), .inl (aC (.int 12) 28), .inr (.inr (.inr (0, 0, 29))), .inl (aPR 8 6 30), .inl (aLdA 0 31), .inr (.inr (.inr (2 + 10, 6, 32))), .inl (a_dup 33), .inr (.inr (.inl (5, g_La_init, 0, 34))), .inl (aPR 8 7 35), .inl (aLdA 0 36), .inr (.inr (.inr (2 + 10, 6, 37))), .inl (a_dup 38), .inr (.inr (.inl (5, g_La_init, 0, 39))), .inl (aPR 8 8 40), .inl (aLdA 0 41), .inr (.inr (.inr (2 + 10, 6, 42))), .inl (a_dup 43), .inr (.inr (.inl (5, g_La_init, 0, 44))), .inl (aPR 8 9 45), .inl (aLdA 0 46), .inr (.inr (.inr (2 + 10, 6, 47))), .inl (a_dup 48), .inr (.inr (.inl (5, g_La_init, 0, 49))), .inl (aPR 8 10 50), .inl (aLdA 0 51), .inl (aC (.int 0) 52), .inl (aPI 8 11 53), .inl (aLdA 0 54), .inl (aC (.int 0) 55), .inl (aPI 8 12 56), .inl (aLdA 0 57), .inl (aC (.int 0) 58), .inl (aPI 8 13 59), .inl (aLdA 0 60), .inl (aC (.int 0) 61), .inl (aPI 8 14 62), .inl (aLdA 0 63), .inl (aC (.int 0) 64), .inl (aPI 8 15 65), .inl (aLdA 0 66), .inr (.inr (.inl (0, g_Te_clear, 0, 67))), .inr (.inl 0)]
def m_Te_init : ab_M := (g_Te_init, cd_Te_init, [0, 1, 4, 5, 6, 8, 11, 12, 13, 15, 18, 19, 21, 23, 26, 27, 29, 31, 34, 35, 37, 39, 42, 43, 45, 47, 50, 51, 53, 55, 58, 59, 62, 63, 66, 69, 70, 73, 74, 77, 80, 81, 84, 85, 88, 91, 92, 95, 96, 99, 102, 103, 104, 107, 108, 109, 112, 113, 114, 117, 118, 119, 122, 123, 124, 127, 128, 131], [])
set_option maxRecDepth 100000 in
set_option maxHeartbeats 4000000 in
theorem ok_Te_init : ab_ok m_Te_init 0 (ab_cd m_Te_init) :=
  ⟨s_aload_n (q := 0) (by decide +kernel) rfl rfl,
   s_objInit (by decide +kernel) q293 q140 q141 rfl,
   s_aload_n (q := 0) (by decide +kernel) rfl rfl,
   s_iconst (n := 5) (by decide +kernel) rfl rfl,
   ⟨(by decide +kernel), rfl⟩,
   s_aPR (by decide +kernel) fp_Te_9 rfl rfl,
   s_aload_n (q := 0) (by decide +kernel) rfl rfl,
   s_iconst (n := 5) (by decide +kernel) rfl rfl,
   ⟨(by decide +kernel), rfl⟩,
   s_aPR (by decide +kernel) fp_Te_15 rfl rfl,
   s_aload_n (q := 0) (by decide +kernel) rfl rfl,
   s_bipush (n := 15) (by decide +kernel) rfl rfl,
   ⟨(by decide +kernel), rfl⟩,
   s_aPR (by decide +kernel) fp_Te_19 rfl rfl,
   s_aload_n (q := 0) (by decide +kernel) rfl rfl,
   s_bipush (n := 6) (by decide +kernel) rfl rfl,
   ⟨(by decide +kernel), rfl⟩,
   s_aPR (by decide +kernel) fp_Te_22 rfl rfl,
   s_aload_n (q := 0) (by decide +kernel) rfl rfl,
   s_bipush (n := 6) (by decide +kernel) rfl rfl,
   ⟨(by decide +kernel), rfl⟩,
   s_aPR (by decide +kernel) fp_Te_25 rfl rfl,
   s_aload_n (q := 0) (by decide +kernel) rfl rfl,
   s_bipush (n := 18) (by decide +kernel) rfl rfl,
   ⟨(by decide +kernel), rfl⟩,
   s_aPR (by decide +kernel) fp_Te_28 rfl rfl,
   s_aload_n (q := 0) (by decide +kernel) rfl rfl,
   s_bipush (n := 12) (by decide +kernel) rfl rfl,
   ⟨(by decide +kernel), rfl⟩,
   s_aPR (by decide +kernel) fp_Te_31 rfl rfl,
   s_aload_n (q := 0) (by decide +kernel) rfl rfl,
   ⟨⟨RX2, TX2, 34, (by decide +kernel), rfl, inX2, tyX2_ok, by decide, q294, q295, q123⟩, rfl⟩,
   s_dup (by decide +kernel) rfl,
   ⟨⟨cs_La_init.1, cs_La_init.2.1, cs_La_init.2.2.1, cs_La_init.2.2.2, 36, _, (by decide +kernel), q296, q297, rfl, rfl⟩, rfl⟩,
   s_aPR (by decide +kernel) fp_Te_37 rfl rfl,
   s_aload_n (q := 0) (by decide +kernel) rfl rfl,
   ⟨⟨RX2, TX2, 34, (by decide +kernel), rfl, inX2, tyX2_ok, by decide, q294, q295, q123⟩, rfl⟩,
   s_dup (by decide +kernel) rfl,
   ⟨⟨cs_La_init.1, cs_La_init.2.1, cs_La_init.2.2.1, cs_La_init.2.2.2, 36, _, (by decide +kernel), q296, q297, rfl, rfl⟩, rfl⟩,
   s_aPR (by decide +kernel) fp_Te_41 rfl rfl,
   s_aload_n (q := 0) (by decide +kernel) rfl rfl,
   ⟨⟨RX2, TX2, 34, (by decide +kernel), rfl, inX2, tyX2_ok, by decide, q294, q295, q123⟩, rfl⟩,
   s_dup (by decide +kernel) rfl,
   ⟨⟨cs_La_init.1, cs_La_init.2.1, cs_La_init.2.2.1, cs_La_init.2.2.2, 36, _, (by decide +kernel), q296, q297, rfl, rfl⟩, rfl⟩,
   s_aPR (by decide +kernel) fp_Te_44 rfl rfl,
   s_aload_n (q := 0) (by decide +kernel) rfl rfl,
   ⟨⟨RX2, TX2, 34, (by decide +kernel), rfl, inX2, tyX2_ok, by decide, q294, q295, q123⟩, rfl⟩,
   s_dup (by decide +kernel) rfl,
   ⟨⟨cs_La_init.1, cs_La_init.2.1, cs_La_init.2.2.1, cs_La_init.2.2.2, 36, _, (by decide +kernel), q296, q297, rfl, rfl⟩, rfl⟩,
   s_aPR (by decide +kernel) fp_Te_47 rfl rfl,
   s_aload_n (q := 0) (by decide +kernel) rfl rfl,
   s_iconst (n := 0) (by decide +kernel) rfl rfl,
   s_aPI (by decide +kernel) (fp_Te_50 _) rfl rfl,
   s_aload_n (q := 0) (by decide +kernel) rfl rfl,
   s_iconst (n := 0) (by decide +kernel) rfl rfl,
   s_aPI (by decide +kernel) (fp_Te_54 _) rfl rfl,
   s_aload_n (q := 0) (by decide +kernel) rfl rfl,
   s_iconst (n := 0) (by decide +kernel) rfl rfl,
   s_aPI (by decide +kernel) (fp_Te_57 _) rfl rfl,
   s_aload_n (q := 0) (by decide +kernel) rfl rfl,
   s_iconst (n := 0) (by decide +kernel) rfl rfl,
   s_aPI (by decide +kernel) (fp_Te_60 _) rfl rfl,
   s_aload_n (q := 0) (by decide +kernel) rfl rfl,
   s_iconst (n := 0) (by decide +kernel) rfl rfl,
   s_aPI (by decide +kernel) (fp_Te_63 _) rfl rfl,
   s_aload_n (q := 0) (by decide +kernel) rfl rfl,
   ⟨⟨cs_Te_clear.1, cs_Te_clear.2.1, cs_Te_clear.2.2.1, cs_Te_clear.2.2.2, 66, (by decide +kernel), q319, q320, q321⟩, rfl⟩,
   ⟨(by decide +kernel), rfl⟩,
   trivial⟩
def cd_La_init : List ab_A := [.inl (aLdA 0 1), .inl (aOI 2), .inl (aLdA 0 3), .inl (aC (.int 400) 4), .inr (.inr (.inr (0, 0, 5))), .inl (aPR 2 0 6), .inl (aLdA 0 7), .inl (aC (.int 13) 8), .inr (.inr (.inr (0, 0, 9))), .inl (aPR 2 1 10), .inl (aLdA 0 11), .inl (aC (.int 15) 12), .inr (.inr (.inr (0, 0, 13))), .inl (aPR 2 2 14), .inl (aLdA 0 15), .inl (aC (.int 0) 16), .inl (aPI 2 3 17), .inl (aLdA 0 18), .inl (aC (.int 0) 19), .inl (aPI 2 4 20), .inl (aLdA 0 21), .inl (aC (.int 0) 22), .inl (aPZ 2 5 23), .inr (.inl 0)]
def m_La_init : ab_M := (g_La_init, cd_La_init, [0, 1, 4, 5, 8, 10, 13, 14, 16, 18, 21, 22, 24, 26, 29, 30, 31, 34, 35, 36, 39, 40, 41, 44], [])
set_option maxRecDepth 100000 in
set_option maxHeartbeats 4000000 in
theorem ok_La_init : ab_ok m_La_init 0 (ab_cd m_La_init) :=
  ⟨s_aload_n (q := 0) (by decide +kernel) rfl rfl,
   s_objInit (by decide +kernel) q299 q140 q141 rfl,
   s_aload_n (q := 0) (by decide +kernel) rfl rfl,
   s_sipush (n := 400) (by decide +kernel) rfl rfl,
   ⟨(by decide +kernel), rfl⟩,
   s_aPR (by decide +kernel) fp_La_9 rfl rfl,
   s_aload_n (q := 0) (by decide +kernel) rfl rfl,
   s_bipush (n := 13) (by decide +kernel) rfl rfl,
   ⟨(by decide +kernel), rfl⟩,
   s_aPR (by decide +kernel) fp_La_15 rfl rfl,
   s_aload_n (q := 0) (by decide +kernel) rfl rfl,
   s_bipush (n := 15) (by decide +kernel) rfl rfl,
   ⟨(by decide +kernel), rfl⟩,
   s_aPR (by decide +kernel) fp_La_18 rfl rfl,
   s_aload_n (q := 0) (by decide +kernel) rfl rfl,
   s_iconst (n := 0) (by decide +kernel) rfl rfl,
   s_aPI (by decide +kernel) (fp_La_21 _) rfl rfl,
   s_aload_n (q := 0) (by decide +kernel) rfl rfl,
   s_iconst (n := 0) (by decide +kernel) rfl rfl,
   s_aPI (by decide +kernel) (fp_La_25 _) rfl rfl,
   s_aload_n (q := 0) (by decide +kernel) rfl rfl,
   s_iconst (n := 0) (by decide +kernel) rfl rfl,
   s_aPZ (by decide +kernel) (fp_La_28 _) rfl rfl,
   ⟨(by decide +kernel), rfl⟩,
   trivial⟩
def cd_Te_clear : List ab_A := [.inl (aLdA 0 1), .inl (aC (.int 0) 2), .inl (aPI 8 11 3), .inl (aLdA 0 4), .inl (aC (.int 0) 5), .inl (aPI 8 12 6), .inl (aLdA 0 7), .inl (aC (.int 0) 8), .inl (aPI 8 13 9), .inl (aLdA 0 10), .inl (aC (.int 0) 11), .inl (aPI 8 14 12), .inl (aLdA 0 13), .inl (aC (.int 0) 14), .inl (aPI 8 15 15), .inl (aLdA 0 16), .inl (aGR 8 7 17), .inl (aC (.int (-268)) 18), .inr (.inr (.inl (0, g_La_setTo, 1, 19))), .inl (aLdA 0 20), .inl (aGR 8 8 21), .inl (aC (.int 0) 22), .inr (.inr (.inl (0, g_La_setTo, 1, 23))), .inl (aLdA 0 24), .inl (aGR 8 9 25), .inl (aC (.int (-271)) 26), .inr (.inr (.inl (0, g_La_setTo, 1, 27))), .inl (aLdA 0 28), .inl (aGR 8 10 29), .inl (aC (.int 0) 30), .inr (.inr (.inl (0, g_La_setTo, 1, 31))), .inr (.inl 0)]
def m_Te_clear : ab_M := (g_Te_clear, cd_Te_clear, [0, 1, 2, 5, 6, 7, 10, 11, 12, 15, 16, 17, 20, 21, 22, 25, 26, 29, 32, 35, 36, 39, 40, 43, 44, 47, 50, 53, 54, 57, 58, 61], [])
set_option maxRecDepth 100000 in
set_option maxHeartbeats 4000000 in
theorem ok_Te_clear : ab_ok m_Te_clear 0 (ab_cd m_Te_clear) :=
  ⟨s_aload_n (q := 0) (by decide +kernel) rfl rfl,
   s_iconst (n := 0) (by decide +kernel) rfl rfl,
   s_aPI (by decide +kernel) (fp_Te_50 _) rfl rfl,
   s_aload_n (q := 0) (by decide +kernel) rfl rfl,
   s_iconst (n := 0) (by decide +kernel) rfl rfl,
   s_aPI (by decide +kernel) (fp_Te_54 _) rfl rfl,
   s_aload_n (q := 0) (by decide +kernel) rfl rfl,
   s_iconst (n := 0) (by decide +kernel) rfl rfl,
   s_aPI (by decide +kernel) (fp_Te_57 _) rfl rfl,
   s_aload_n (q := 0) (by decide +kernel) rfl rfl,
   s_iconst (n := 0) (by decide +kernel) rfl rfl,
   s_aPI (by decide +kernel) (fp_Te_60 _) rfl rfl,
   s_aload_n (q := 0) (by decide +kernel) rfl rfl,
   s_iconst (n := 0) (by decide +kernel) rfl rfl,
   s_aPI (by decide +kernel) (fp_Te_63 _) rfl rfl,
   s_aload_n (q := 0) (by decide +kernel) rfl rfl,
   s_aGR (by decide +kernel) fl_Te_37 rfl rfl,
   s_sipush (n := (-268)) (by decide +kernel) rfl rfl,
   ⟨⟨cs_La_setTo.1, cs_La_setTo.2.1, cs_La_setTo.2.2.1, cs_La_setTo.2.2.2, 69, (by decide +kernel), q323, q324, q325⟩, rfl⟩,
   s_aload_n (q := 0) (by decide +kernel) rfl rfl,
   s_aGR (by decide +kernel) fl_Te_41 rfl rfl,
   s_iconst (n := 0) (by decide +kernel) rfl rfl,
   ⟨⟨cs_La_setTo.1, cs_La_setTo.2.1, cs_La_setTo.2.2.1, cs_La_setTo.2.2.2, 69, (by decide +kernel), q323, q324, q325⟩, rfl⟩,
   s_aload_n (q := 0) (by decide +kernel) rfl rfl,
   s_aGR (by decide +kernel) fl_Te_44 rfl rfl,
   s_sipush (n := (-271)) (by decide +kernel) rfl rfl,
   ⟨⟨cs_La_setTo.1, cs_La_setTo.2.1, cs_La_setTo.2.2.1, cs_La_setTo.2.2.2, 69, (by decide +kernel), q323, q324, q325⟩, rfl⟩,
   s_aload_n (q := 0) (by decide +kernel) rfl rfl,
   s_aGR (by decide +kernel) fl_Te_47 rfl rfl,
   s_iconst (n := 0) (by decide +kernel) rfl rfl,
   ⟨⟨cs_La_setTo.1, cs_La_setTo.2.1, cs_La_setTo.2.2.1, cs_La_setTo.2.2.2, 69, (by decide +kernel), q323, q324, q325⟩, rfl⟩,
   ⟨(by decide +kernel), rfl⟩,
   trivial⟩
def cd_La_setTo : List ab_A := [.inl (aLdA 0 1), .inr (.inr (.inl (0, g_La_clear, 0, 2))), .inl (aLdA 0 3), .inl (aLdI 1 4), .inr (.inr (.inl (0, g_La_add, 1, 5))), .inl (aLdA 0 6), .inr (.inr (.inl (0, g_La_endPart, 0, 7))), .inr (.inl 0)]
def m_La_setTo : ab_M := (g_La_setTo, cd_La_setTo, [0, 1, 4, 5, 6, 9, 10, 13], [])
set_option maxRecDepth 100000 in
set_option maxHeartbeats 4000000 in
theorem ok_La_setTo : ab_ok m_La_setTo 0 (ab_cd m_La_setTo) :=
  ⟨s_aload_n (q := 0) (by decide +kernel) rfl rfl,
   ⟨⟨cs_La_clear.1, cs_La_clear.2.1, cs_La_clear.2.2.1, cs_La_clear.2.2.2, 32, (by decide +kernel), q327, q328, q329⟩, rfl⟩,
   s_aload_n (q := 0) (by decide +kernel) rfl rfl,
   s_iload_n (q := 1) (by decide +kernel) rfl rfl,
   ⟨⟨cs_La_add.1, cs_La_add.2.1, cs_La_add.2.2.1, cs_La_add.2.2.2, 35, (by decide +kernel), q331, q332, q333⟩, rfl⟩,
   s_aload_n (q := 0) (by decide +kernel) rfl rfl,
   ⟨⟨cs_La_endPart.1, cs_La_endPart.2.1, cs_La_endPart.2.2.1, cs_La_endPart.2.2.2, 39, (by decide +kernel), q335, q336, q337⟩, rfl⟩,
   ⟨(by decide +kernel), rfl⟩,
   trivial⟩
def cd_La_clear : List ab_A := [.inl (aLdA 0 1), .inl (aC (.int 0) 2), .inl (aPI 2 3 3), .inl (aLdA 0 4), .inl (aC (.int 0) 5), .inl (aPI 2 4 6), .inr (.inl 0)]
def m_La_clear : ab_M := (g_La_clear, cd_La_clear, [0, 1, 2, 5, 6, 7, 10], [])
set_option maxRecDepth 100000 in
set_option maxHeartbeats 4000000 in
theorem ok_La_clear : ab_ok m_La_clear 0 (ab_cd m_La_clear) :=
  ⟨s_aload_n (q := 0) (by decide +kernel) rfl rfl,
   s_iconst (n := 0) (by decide +kernel) rfl rfl,
   s_aPI (by decide +kernel) (fp_La_21 _) rfl rfl,
   s_aload_n (q := 0) (by decide +kernel) rfl rfl,
   s_iconst (n := 0) (by decide +kernel) rfl rfl,
   s_aPI (by decide +kernel) (fp_La_25 _) rfl rfl,
   ⟨(by decide +kernel), rfl⟩,
   trivial⟩
def cd_La_add : List ab_A := [.inl (aLdA 0 1), .inl (aGI 2 3 2), .inl (aIf_lt 21 3), .inl (aLdA 0 4), .inl (aGI 2 3 5), .inl (aLdA 0 6), .inl (aGR 2 0 7), .inl (aLn 8), .inl (aIc_ge 21 9), .inl (aLdA 0 10), .inl (aGR 2 0 11), .inl (aLdA 0 12), .inl (aGI 2 3 13), .inl (aLdI 1 14), .inl (aIS 15), .inl (aLdA 0 16), .inl (a_dup 17), .inl (aGI 2 3 18), .inl (aC (.int 1) 19), .inl (a_iadd 20), .inl (aPI 2 3 21), .inr (.inl 0)]
def m_La_add : ab_M := (g_La_add, cd_La_add, [0, 1, 4, 7, 8, 11, 12, 15, 16, 19, 20, 23, 24, 27, 28, 29, 30, 31, 34, 35, 36, 39], [])
set_option maxRecDepth 100000 in
set_option maxHeartbeats 4000000 in
theorem ok_La_add : ab_ok m_La_add 0 (ab_cd m_La_add) :=
  ⟨s_aload_n (q := 0) (by decide +kernel) rfl rfl,
   s_aGI (by decide +kernel) fl_La_21 rfl rfl,
   s_aIf_lt (o := 35) (by decide +kernel) (by decide +kernel) rfl,
   s_aload_n (q := 0) (by decide +kernel) rfl rfl,
   s_aGI (by decide +kernel) fl_La_21 rfl rfl,
   s_aload_n (q := 0) (by decide +kernel) rfl rfl,
   s_aGR (by decide +kernel) fl_La_9 rfl rfl,
   s_arraylength (by decide +kernel) rfl,
   s_aIc_ge (o := 23) (by decide +kernel) (by decide +kernel) rfl,
   s_aload_n (q := 0) (by decide +kernel) rfl rfl,
   s_aGR (by decide +kernel) fl_La_9 rfl rfl,
   s_aload_n (q := 0) (by decide +kernel) rfl rfl,
   s_aGI (by decide +kernel) fl_La_21 rfl rfl,
   s_iload_n (q := 1) (by decide +kernel) rfl rfl,
   s_iastore (by decide +kernel) rfl,
   s_aload_n (q := 0) (by decide +kernel) rfl rfl,
   s_dup (by decide +kernel) rfl,
   s_aGI (by decide +kernel) fl_La_21 rfl rfl,
   s_iconst (n := 1) (by decide +kernel) rfl rfl,
   s_iadd (by decide +kernel) rfl,
   s_aPI (by decide +kernel) (fp_La_21 _) rfl rfl,
   ⟨(by decide +kernel), rfl⟩,
   trivial⟩
def cd_La_endPart : List ab_A := [.inl (aLdA 0 1), .inl (aGI 2 4 2), .inl (aIf_lt 22 3), .inl (aLdA 0 4), .inl (aGI 2 4 5), .inl (aLdA 0 6), .inl (aGR 2 1 7), .inl (aLn 8), .inl (aIc_ge 22 9), .inl (aLdA 0 10), .inl (aGR 2 1 11), .inl (aLdA 0 12), .inl (aGI 2 4 13), .inl (aLdA 0 14), .inl (aGI 2 3 15), .inl (aIS 16), .inl (aLdA 0 17), .inl (a_dup 18), .inl (aGI 2 4 19), .inl (aC (.int 1) 20), .inl (a_iadd 21), .inl (aPI 2 4 22), .inr (.inl 0)]
def m_La_endPart : ab_M := (g_La_endPart, cd_La_endPart, [0, 1, 4, 7, 8, 11, 12, 15, 16, 19, 20, 23, 24, 27, 28, 31, 32, 33, 34, 37, 38, 39, 42], [])
set_option maxRecDepth 100000 in
set_option maxHeartbeats 4000000 in
theorem ok_La_endPart : ab_ok m_La_endPart 0 (ab_cd m_La_endPart) :=
  ⟨s_aload_n (q := 0) (by decide +kernel) rfl rfl,
   s_aGI (by decide +kernel) fl_La_25 rfl rfl,
   s_aIf_lt (o := 38) (by decide +kernel) (by decide +kernel) rfl,
   s_aload_n (q := 0) (by decide +kernel) rfl rfl,
   s_aGI (by decide +kernel) fl_La_25 rfl rfl,
   s_aload_n (q := 0) (by decide +kernel) rfl rfl,
   s_aGR (by decide +kernel) fl_La_15 rfl rfl,
   s_arraylength (by decide +kernel) rfl,
   s_aIc_ge (o := 26) (by decide +kernel) (by decide +kernel) rfl,
   s_aload_n (q := 0) (by decide +kernel) rfl rfl,
   s_aGR (by decide +kernel) fl_La_15 rfl rfl,
   s_aload_n (q := 0) (by decide +kernel) rfl rfl,
   s_aGI (by decide +kernel) fl_La_25 rfl rfl,
   s_aload_n (q := 0) (by decide +kernel) rfl rfl,
   s_aGI (by decide +kernel) fl_La_21 rfl rfl,
   s_iastore (by decide +kernel) rfl,
   s_aload_n (q := 0) (by decide +kernel) rfl rfl,
   s_dup (by decide +kernel) rfl,
   s_aGI (by decide +kernel) fl_La_25 rfl rfl,
   s_iconst (n := 1) (by decide +kernel) rfl rfl,
   s_iadd (by decide +kernel) rfl,
   s_aPI (by decide +kernel) (fp_La_25 _) rfl rfl,
   ⟨(by decide +kernel), rfl⟩,
   trivial⟩
def cd_Me_init : List ab_A := [.inl (aLdA 0 1), .inl (aOI 2), .inl (aLdA 0 3), .inl (aC (.int 1600) 4), .inr (.inr (.inr (0, 0, 5))), .inl (aPR 3 0 6), .inl (aLdA 0 7), .inl (aC (.int 120) 8), .inr (.inr (.inr (0, 0, 9))), .inl (aPR 3 1 10), .inl (aLdA 0 11), .inl (aC (.int 0) 12), .inl (aPI 3 2 13), .inl (aLdA 0 14), .inl (aC (.int 0) 15), .inl (aPI 3 3 16), .inl (aLdA 0 17), .inl (aC (.int 0) 18), .inl (aPI 3 4 19), .inr (.inl 0)]
def m_Me_init : ab_M := (g_Me_init, cd_Me_init, [0, 1, 4, 5, 8, 10, 13, 14, 16, 18, 21, 22, 23, 26, 27, 28, 31, 32, 33, 36], [])
set_option maxRecDepth 100000 in
set_option maxHeartbeats 4000000 in
theorem ok_Me_init : ab_ok m_Me_init 0 (ab_cd m_Me_init) :=
  ⟨s_aload_n (q := 0) (by decide +kernel) rfl rfl,
   s_objInit (by decide +kernel) q446 q140 q141 rfl,
   s_aload_n (q := 0) (by decide +kernel) rfl rfl,
   s_sipush (n := 1600) (by decide +kernel) rfl rfl,
   ⟨(by decide +kernel), rfl⟩,
   s_aPR (by decide +kernel) fp_Me_9 rfl rfl,
   s_aload_n (q := 0) (by decide +kernel) rfl rfl,
   s_bipush (n := 120) (by decide +kernel) rfl rfl,
   ⟨(by decide +kernel), rfl⟩,
   s_aPR (by decide +kernel) fp_Me_15 rfl rfl,
   s_aload_n (q := 0) (by decide +kernel) rfl rfl,
   s_iconst (n := 0) (by decide +kernel) rfl rfl,
   s_aPI (by decide +kernel) (fp_Me_18 _) rfl rfl,
   s_aload_n (q := 0) (by decide +kernel) rfl rfl,
   s_iconst (n := 0) (by decide +kernel) rfl rfl,
   s_aPI (by decide +kernel) (fp_Me_22 _) rfl rfl,
   s_aload_n (q := 0) (by decide +kernel) rfl rfl,
   s_iconst (n := 0) (by decide +kernel) rfl rfl,
   s_aPI (by decide +kernel) (fp_Me_25 _) rfl rfl,
   ⟨(by decide +kernel), rfl⟩,
   trivial⟩
def cd_Tl_init : List ab_A := [.inl (aLdA 0 1), .inl (aOI 2), .inl (aLdA 0 3), .inl (aC (.int 20) 4), .inr (.inr (.inr (0, 0, 5))), .inl (aPR 10 0 6), .inl (aLdA 0 7), .inl (aC (.int 20) 8), .inr (.inr (.inr (0, 0, 9))), .inl (aPR 10 1 10), .inl (aLdA 0 11), .inl (aC (.int 20) 12), .inr (.inr (.inr (2, 0, 13))), .inl (aPR 10 2 14), .inl (aLdA 0 15), .inl (aC (.int 0) 16), .inl (aPI 10 3 17), .inr (.inl 0)]
def m_Tl_init : ab_M := (g_Tl_init, cd_Tl_init, [0, 1, 4, 5, 7, 9, 12, 13, 15, 17, 20, 21, 23, 25, 28, 29, 30, 33], [])
set_option maxRecDepth 100000 in
set_option maxHeartbeats 4000000 in
theorem ok_Tl_init : ab_ok m_Tl_init 0 (ab_cd m_Tl_init) :=
  ⟨s_aload_n (q := 0) (by decide +kernel) rfl rfl,
   s_objInit (by decide +kernel) q469 q140 q141 rfl,
   s_aload_n (q := 0) (by decide +kernel) rfl rfl,
   s_bipush (n := 20) (by decide +kernel) rfl rfl,
   ⟨(by decide +kernel), rfl⟩,
   s_aPR (by decide +kernel) fp_Tl_9 rfl rfl,
   s_aload_n (q := 0) (by decide +kernel) rfl rfl,
   s_bipush (n := 20) (by decide +kernel) rfl rfl,
   ⟨(by decide +kernel), rfl⟩,
   s_aPR (by decide +kernel) fp_Tl_15 rfl rfl,
   s_aload_n (q := 0) (by decide +kernel) rfl rfl,
   s_bipush (n := 20) (by decide +kernel) rfl rfl,
   ⟨(by decide +kernel), rfl⟩,
   s_aPR (by decide +kernel) fp_Tl_18 rfl rfl,
   s_aload_n (q := 0) (by decide +kernel) rfl rfl,
   s_iconst (n := 0) (by decide +kernel) rfl rfl,
   s_aPI (by decide +kernel) (fp_Tl_22 _) rfl rfl,
   ⟨(by decide +kernel), rfl⟩,
   trivial⟩
def cd_Ta_hasRoom : List ab_A := [.inl (aLdI 1 1), .inl (aLdA 0 2), .inl (aGR 7 0 3), .inl (aLn 4), .inl (aLdA 0 5), .inl (aGI 7 1 6), .inl (a_isub 7), .inl (aIc_gt 10 8), .inl (aC (.int 1) 9), .inl (aGo 11), .inl (aC (.int 0) 11), .inr (.inl 4)]
def m_Ta_hasRoom : ab_M := (g_Ta_hasRoom, cd_Ta_hasRoom, [0, 1, 2, 5, 6, 7, 10, 11, 14, 15, 18, 19], [])
set_option maxRecDepth 100000 in
set_option maxHeartbeats 4000000 in
theorem ok_Ta_hasRoom : ab_ok m_Ta_hasRoom 0 (ab_cd m_Ta_hasRoom) :=
  ⟨s_iload_n (q := 1) (by decide +kernel) rfl rfl,
   s_aload_n (q := 0) (by decide +kernel) rfl rfl,
   s_aGR (by decide +kernel) fl_Ta_9 rfl rfl,
   s_arraylength (by decide +kernel) rfl,
   s_aload_n (q := 0) (by decide +kernel) rfl rfl,
   s_aGI (by decide +kernel) fl_Ta_15 rfl rfl,
   s_isub (by decide +kernel) rfl,
   s_aIc_gt (o := 7) (by decide +kernel) (by decide +kernel) rfl,
   s_iconst (n := 1) (by decide +kernel) rfl rfl,
   s_goto (o := 4) (by decide +kernel) (by decide +kernel),
   s_iconst (n := 0) (by decide +kernel) rfl rfl,
   ⟨(by decide +kernel), rfl⟩,
   trivial⟩
def cd_Ta_addFour : List ab_A := [.inl (aC (.int 24) 1), .inl (aStI 2 2), .inl (aLdI 2 3), .inl (aIf_lt 30 4), .inl (aLdA 0 5), .inl (aGI 7 1 6), .inl (aIf_lt 28 7), .inl (aLdA 0 8), .inl (aGI 7 1 9), .inl (aLdA 0 10), .inl (aGR 7 0 11), .inl (aLn 12), .inl (aIc_ge 28 13), .inl (aLdA 0 14), .inl (aGR 7 0 15), .inl (aLdA 0 16), .inl (aGI 7 1 17), .inl (aLdI 1 18), .inl (aLdI 2 19), .inl (a_iushr 20), .inl (a_i2b 21), .inl (aBS 22), .inl (aLdA 0 23), .inl (a_dup 24), .inl (aGI 7 1 25), .inl (aC (.int 1) 26), .inl (a_iadd 27), .inl (aPI 7 1 28), .inl (aInc 2 (-8) 29), .inl (aGo 2), .inr (.inl 0)]
def m_Ta_addFour : ab_M := (g_Ta_addFour, cd_Ta_addFour, [0, 2, 3, 4, 7, 8, 11, 14, 15, 18, 19, 22, 23, 26, 27, 30, 31, 34, 35, 36, 37, 38, 39, 40, 41, 44, 45, 46, 49, 52, 55], [(2, [true, true, true])])
set_option maxRecDepth 100000 in
set_option maxHeartbeats 4000000 in
theorem ok_Ta_addFour : ab_ok m_Ta_addFour 0 (ab_cd m_Ta_addFour) :=
  ⟨s_bipush (n := 24) (by decide +kernel) rfl rfl,
   s_istore_n (q := 2) (by decide +kernel) rfl (Nat.le_of_ble_eq_true rfl) rfl,
   s_iload_n (q := 2) (by decide +kernel) rfl rfl,
   s_aIf_lt (o := 51) (by decide +kernel) (by decide +kernel) rfl,
   s_aload_n (q := 0) (by decide +kernel) rfl rfl,
   s_aGI (by decide +kernel) fl_Ta_15 rfl rfl,
   s_aIf_lt (o := 38) (by decide +kernel) (by decide +kernel) rfl,
   s_aload_n (q := 0) (by decide +kernel) rfl rfl,
   s_aGI (by decide +kernel) fl_Ta_15 rfl rfl,
   s_aload_n (q := 0) (by decide +kernel) rfl rfl,
   s_aGR (by decide +kernel) fl_Ta_9 rfl rfl,
   s_arraylength (by decide +kernel) rfl,
   s_aIc_ge (o := 26) (by decide +kernel) (by decide +kernel) rfl,
   s_aload_n (q := 0) (by decide +kernel) rfl rfl,
   s_aGR (by decide +kernel) fl_Ta_9 rfl rfl,
   s_aload_n (q := 0) (by decide +kernel) rfl rfl,
   s_aGI (by decide +kernel) fl_Ta_15 rfl rfl,
   s_iload_n (q := 1) (by decide +kernel) rfl rfl,
   s_iload_n (q := 2) (by decide +kernel) rfl rfl,
   s_iushr (by decide +kernel) rfl,
   s_i2b (by decide +kernel) rfl,
   s_bastore (by decide +kernel) rfl,
   s_aload_n (q := 0) (by decide +kernel) rfl rfl,
   s_dup (by decide +kernel) rfl,
   s_aGI (by decide +kernel) fl_Ta_15 rfl rfl,
   s_iconst (n := 1) (by decide +kernel) rfl rfl,
   s_iadd (by decide +kernel) rfl,
   s_aPI (by decide +kernel) (fp_Ta_15 _) rfl rfl,
   s_iinc (q := (-8)) (by decide +kernel) rfl (Nat.le_of_ble_eq_true rfl) rfl,
   s_goto (o := (-49)) (by decide +kernel) (by decide +kernel),
   ⟨(by decide +kernel), rfl⟩,
   trivial⟩
def cd_Ta_drop : List ab_A := [.inl (aLdI 1 1), .inl (aIf_lt 6 2), .inl (aLdI 1 3), .inl (aLdA 0 4), .inl (aGI 7 1 5), .inl (aIc_le 8 6), .inl (aC (.int 0) 7), .inr (.inl 4), .inl (aLdA 0 9), .inl (a_dup 10), .inl (aGI 7 1 11), .inl (aLdI 1 12), .inl (a_isub 13), .inl (aPI 7 1 14), .inl (aC (.int 1) 15), .inr (.inl 4)]
def m_Ta_drop : ab_M := (g_Ta_drop, cd_Ta_drop, [0, 1, 4, 5, 6, 9, 12, 13, 14, 15, 16, 19, 20, 21, 24, 25], [])
set_option maxRecDepth 100000 in
set_option maxHeartbeats 4000000 in
theorem ok_Ta_drop : ab_ok m_Ta_drop 0 (ab_cd m_Ta_drop) :=
  ⟨s_iload_n (q := 1) (by decide +kernel) rfl rfl,
   s_aIf_lt (o := 11) (by decide +kernel) (by decide +kernel) rfl,
   s_iload_n (q := 1) (by decide +kernel) rfl rfl,
   s_aload_n (q := 0) (by decide +kernel) rfl rfl,
   s_aGI (by decide +kernel) fl_Ta_15 rfl rfl,
   s_aIc_le (o := 5) (by decide +kernel) (by decide +kernel) rfl,
   s_iconst (n := 0) (by decide +kernel) rfl rfl,
   ⟨(by decide +kernel), rfl⟩,
   s_aload_n (q := 0) (by decide +kernel) rfl rfl,
   s_dup (by decide +kernel) rfl,
   s_aGI (by decide +kernel) fl_Ta_15 rfl rfl,
   s_iload_n (q := 1) (by decide +kernel) rfl rfl,
   s_isub (by decide +kernel) rfl,
   s_aPI (by decide +kernel) (fp_Ta_15 _) rfl rfl,
   s_iconst (n := 1) (by decide +kernel) rfl rfl,
   ⟨(by decide +kernel), rfl⟩,
   trivial⟩
def cd_Ta_byteAt : List ab_A := [.inl (aLdI 1 1), .inl (aIf_lt 18 2), .inl (aLdI 1 3), .inl (aLdA 0 4), .inl (aGI 7 1 5), .inl (aIc_ge 18 6), .inl (aLdI 1 7), .inl (aLdA 0 8), .inl (aGR 7 0 9), .inl (aLn 10), .inl (aIc_ge 18 11), .inl (aLdA 0 12), .inl (aGR 7 0 13), .inl (aLdI 1 14), .inl (aBA 15), .inl (aC (.int 255) 16), .inl (a_iand 17), .inl (aGo 19), .inl (aC (.int (-1)) 19), .inr (.inl 1)]
def m_Ta_byteAt : ab_M := (g_Ta_byteAt, cd_Ta_byteAt, [0, 1, 4, 5, 6, 9, 12, 13, 14, 17, 18, 21, 22, 25, 26, 27, 30, 31, 34, 35], [])
set_option maxRecDepth 100000 in
set_option maxHeartbeats 4000000 in
theorem ok_Ta_byteAt : ab_ok m_Ta_byteAt 0 (ab_cd m_Ta_byteAt) :=
  ⟨s_iload_n (q := 1) (by decide +kernel) rfl rfl,
   s_aIf_lt (o := 33) (by decide +kernel) (by decide +kernel) rfl,
   s_iload_n (q := 1) (by decide +kernel) rfl rfl,
   s_aload_n (q := 0) (by decide +kernel) rfl rfl,
   s_aGI (by decide +kernel) fl_Ta_15 rfl rfl,
   s_aIc_ge (o := 25) (by decide +kernel) (by decide +kernel) rfl,
   s_iload_n (q := 1) (by decide +kernel) rfl rfl,
   s_aload_n (q := 0) (by decide +kernel) rfl rfl,
   s_aGR (by decide +kernel) fl_Ta_9 rfl rfl,
   s_arraylength (by decide +kernel) rfl,
   s_aIc_ge (o := 16) (by decide +kernel) (by decide +kernel) rfl,
   s_aload_n (q := 0) (by decide +kernel) rfl rfl,
   s_aGR (by decide +kernel) fl_Ta_9 rfl rfl,
   s_iload_n (q := 1) (by decide +kernel) rfl rfl,
   s_baload (by decide +kernel) rfl,
   s_sipush (n := 255) (by decide +kernel) rfl rfl,
   s_iand (by decide +kernel) rfl,
   s_goto (o := 4) (by decide +kernel) (by decide +kernel),
   s_iconst (n := (-1)) (by decide +kernel) rfl rfl,
   ⟨(by decide +kernel), rfl⟩,
   trivial⟩
def cd_JM_max : List ab_A := [.inl (aLdI 0 1), .inl (aLdI 1 2), .inl (aIc_lt 5 3), .inl (aLdI 0 4), .inl (aGo 6), .inl (aLdI 1 6), .inr (.inl 1)]
def m_JM_max : ab_M := (g_JM_max, cd_JM_max, [0, 1, 2, 5, 6, 9, 10], [])
set_option maxRecDepth 100000 in
set_option maxHeartbeats 4000000 in
theorem ok_JM_max : ab_ok m_JM_max 0 (ab_cd m_JM_max) :=
  ⟨s_iload_n (q := 0) (by decide +kernel) rfl rfl,
   s_iload_n (q := 1) (by decide +kernel) rfl rfl,
   s_aIc_lt (o := 7) (by decide +kernel) (by decide +kernel) rfl,
   s_iload_n (q := 0) (by decide +kernel) rfl rfl,
   s_goto (o := 4) (by decide +kernel) (by decide +kernel),
   s_iload_n (q := 1) (by decide +kernel) rfl rfl,
   ⟨(by decide +kernel), rfl⟩,
   trivial⟩
def cd_JM_min : List ab_A := [.inl (aLdI 0 1), .inl (aLdI 1 2), .inl (aIc_gt 5 3), .inl (aLdI 0 4), .inl (aGo 6), .inl (aLdI 1 6), .inr (.inl 1)]
def m_JM_min : ab_M := (g_JM_min, cd_JM_min, [0, 1, 2, 5, 6, 9, 10], [])
set_option maxRecDepth 100000 in
set_option maxHeartbeats 4000000 in
theorem ok_JM_min : ab_ok m_JM_min 0 (ab_cd m_JM_min) :=
  ⟨s_iload_n (q := 0) (by decide +kernel) rfl rfl,
   s_iload_n (q := 1) (by decide +kernel) rfl rfl,
   s_aIc_gt (o := 7) (by decide +kernel) (by decide +kernel) rfl,
   s_iload_n (q := 0) (by decide +kernel) rfl rfl,
   s_goto (o := 4) (by decide +kernel) (by decide +kernel),
   s_iload_n (q := 1) (by decide +kernel) rfl rfl,
   ⟨(by decide +kernel), rfl⟩,
   trivial⟩
def cd_Te_hasName : List ab_A := [.inl (aC (.int 0) 1), .inl (aStI 3 2), .inl (aLdI 3 3), .inl (aLdA 0 4), .inl (aGI 8 11 5), .inl (aIc_ge 22 6), .inl (aLdI 3 7), .inl (aLdA 0 8), .inl (aGR 8 0 9), .inl (aLn 10), .inl (aIc_ge 22 11), .inl (aLdA 0 12), .inl (aGR 8 0 13), .inl (aLdI 3 14), .inl (aLA 15), .inl (aLdL 1 16), .inl (a_lcmp 17), .inl (aIf_ne 20 18), .inl (aC (.int 1) 19), .inr (.inl 4), .inl (aInc 3 1 21), .inl (aGo 2), .inl (aLdA 0 23), .inl (aLdL 1 24), .inr (.inr (.inl (0, g_Te_deedNamed, 1, 25))), .inl (aC (.int (-1)) 26), .inl (aIc_eq 29 27), .inl (aC (.int 1) 28), .inl (aGo 30), .inl (aC (.int 0) 30), .inr (.inl 4)]
def m_Te_hasName : ab_M := (g_Te_hasName, cd_Te_hasName, [0, 1, 2, 3, 4, 7, 10, 11, 12, 15, 16, 19, 20, 23, 24, 25, 26, 27, 30, 31, 32, 35, 38, 39, 40, 43, 44, 47, 48, 51, 52], [(2, [true, true, false, true])])
set_option maxRecDepth 100000 in
set_option maxHeartbeats 4000000 in
theorem ok_Te_hasName : ab_ok m_Te_hasName 0 (ab_cd m_Te_hasName) :=
  ⟨s_iconst (n := 0) (by decide +kernel) rfl rfl,
   s_istore_n (q := 3) (by decide +kernel) rfl (Nat.le_of_ble_eq_true rfl) rfl,
   s_iload_n (q := 3) (by decide +kernel) rfl rfl,
   s_aload_n (q := 0) (by decide +kernel) rfl rfl,
   s_aGI (by decide +kernel) fl_Te_50 rfl rfl,
   s_aIc_ge (o := 31) (by decide +kernel) (by decide +kernel) rfl,
   s_iload_n (q := 3) (by decide +kernel) rfl rfl,
   s_aload_n (q := 0) (by decide +kernel) rfl rfl,
   s_aGR (by decide +kernel) fl_Te_9 rfl rfl,
   s_arraylength (by decide +kernel) rfl,
   s_aIc_ge (o := 22) (by decide +kernel) (by decide +kernel) rfl,
   s_aload_n (q := 0) (by decide +kernel) rfl rfl,
   s_aGR (by decide +kernel) fl_Te_9 rfl rfl,
   s_iload_n (q := 3) (by decide +kernel) rfl rfl,
   s_laload (by decide +kernel) rfl,
   s_lload_n (q := 1) (by decide +kernel) rfl rfl,
   s_lcmp (by decide +kernel) rfl,
   s_aIf_ne (o := 5) (by decide +kernel) (by decide +kernel) rfl,
   s_iconst (n := 1) (by decide +kernel) rfl rfl,
   ⟨(by decide +kernel), rfl⟩,
   s_iinc (q := 1) (by decide +kernel) rfl (Nat.le_of_ble_eq_true rfl) rfl,
   s_goto (o := (-33)) (by decide +kernel) (by decide +kernel),
   s_aload_n (q := 0) (by decide +kernel) rfl rfl,
   s_lload_n (q := 1) (by decide +kernel) rfl rfl,
   ⟨⟨cs_Te_deedNamed.1, cs_Te_deedNamed.2.1, cs_Te_deedNamed.2.2.1, cs_Te_deedNamed.2.2.2, 77, (by decide +kernel), q736, q737, q738⟩, rfl⟩,
   s_iconst (n := (-1)) (by decide +kernel) rfl rfl,
   s_aIc_eq (o := 7) (by decide +kernel) (by decide +kernel) rfl,
   s_iconst (n := 1) (by decide +kernel) rfl rfl,
   s_goto (o := 4) (by decide +kernel) (by decide +kernel),
   s_iconst (n := 0) (by decide +kernel) rfl rfl,
   ⟨(by decide +kernel), rfl⟩,
   trivial⟩
def cd_Te_deedNamed : List ab_A := [.inl (aC (.int 0) 1), .inl (aStI 3 2), .inl (aLdI 3 3), .inl (aLdA 0 4), .inl (aGI 8 12 5), .inl (aIc_ge 22 6), .inl (aLdI 3 7), .inl (aLdA 0 8), .inl (aGR 8 3 9), .inl (aLn 10), .inl (aIc_ge 22 11), .inl (aLdA 0 12), .inl (aGR 8 3 13), .inl (aLdI 3 14), .inl (aLA 15), .inl (aLdL 1 16), .inl (a_lcmp 17), .inl (aIf_ne 20 18), .inl (aLdI 3 19), .inr (.inl 1), .inl (aInc 3 1 21), .inl (aGo 2), .inl (aC (.int (-1)) 23), .inr (.inl 1)]
def m_Te_deedNamed : ab_M := (g_Te_deedNamed, cd_Te_deedNamed, [0, 1, 2, 3, 4, 7, 10, 11, 12, 15, 16, 19, 20, 23, 24, 25, 26, 27, 30, 31, 32, 35, 38, 39], [(2, [true, true, false, true])])
set_option maxRecDepth 100000 in
set_option maxHeartbeats 4000000 in
theorem ok_Te_deedNamed : ab_ok m_Te_deedNamed 0 (ab_cd m_Te_deedNamed) :=
  ⟨s_iconst (n := 0) (by decide +kernel) rfl rfl,
   s_istore_n (q := 3) (by decide +kernel) rfl (Nat.le_of_ble_eq_true rfl) rfl,
   s_iload_n (q := 3) (by decide +kernel) rfl rfl,
   s_aload_n (q := 0) (by decide +kernel) rfl rfl,
   s_aGI (by decide +kernel) fl_Te_54 rfl rfl,
   s_aIc_ge (o := 31) (by decide +kernel) (by decide +kernel) rfl,
   s_iload_n (q := 3) (by decide +kernel) rfl rfl,
   s_aload_n (q := 0) (by decide +kernel) rfl rfl,
   s_aGR (by decide +kernel) fl_Te_22 rfl rfl,
   s_arraylength (by decide +kernel) rfl,
   s_aIc_ge (o := 22) (by decide +kernel) (by decide +kernel) rfl,
   s_aload_n (q := 0) (by decide +kernel) rfl rfl,
   s_aGR (by decide +kernel) fl_Te_22 rfl rfl,
   s_iload_n (q := 3) (by decide +kernel) rfl rfl,
   s_laload (by decide +kernel) rfl,
   s_lload_n (q := 1) (by decide +kernel) rfl rfl,
   s_lcmp (by decide +kernel) rfl,
   s_aIf_ne (o := 5) (by decide +kernel) (by decide +kernel) rfl,
   s_iload_n (q := 3) (by decide +kernel) rfl rfl,
   ⟨(by decide +kernel), rfl⟩,
   s_iinc (q := 1) (by decide +kernel) rfl (Nat.le_of_ble_eq_true rfl) rfl,
   s_goto (o := (-33)) (by decide +kernel) (by decide +kernel),
   s_iconst (n := (-1)) (by decide +kernel) rfl rfl,
   ⟨(by decide +kernel), rfl⟩,
   trivial⟩
def cd_Te_firstOf : List ab_A := [.inl (aLdA 0 1), .inl (aGR 8 2 2), .inl (aLdI 1 3), .inl (aC (.int 3) 4), .inl (a_imul 5), .inl (aLdI 2 6), .inl (a_iadd 7), .inr (.inr (.inl (4, g_SF_at, 2, 8))), .inr (.inl 1)]
def m_Te_firstOf : ab_M := (g_Te_firstOf, cd_Te_firstOf, [0, 1, 4, 5, 6, 7, 8, 9, 12], [])
set_option maxRecDepth 100000 in
set_option maxHeartbeats 4000000 in
theorem ok_Te_firstOf : ab_ok m_Te_firstOf 0 (ab_cd m_Te_firstOf) :=
  ⟨s_aload_n (q := 0) (by decide +kernel) rfl rfl,
   s_aGR (by decide +kernel) fl_Te_19 rfl rfl,
   s_iload_n (q := 1) (by decide +kernel) rfl rfl,
   s_iconst (n := 3) (by decide +kernel) rfl rfl,
   s_imul (by decide +kernel) rfl,
   s_iload_n (q := 2) (by decide +kernel) rfl rfl,
   s_iadd (by decide +kernel) rfl,
   ⟨⟨cs_SF_at.1, cs_SF_at.2.1, cs_SF_at.2.2.1, cs_SF_at.2.2.2, 73, _, (by decide +kernel), q799, q800⟩, rfl⟩,
   ⟨(by decide +kernel), rfl⟩,
   trivial⟩
def cd_Sc_setLevel : List ab_A := [.inl (aLdA 0 1), .inl (aGR 6 0 2), .inl (aLdI 1 3), .inl (aC (.int 3) 4), .inl (a_imul 5), .inl (aLdI 2 6), .inl (a_iadd 7), .inl (aLdI 3 8), .inr (.inr (.inl (4, g_SF_put, 3, 9))), .inl (aLdA 0 10), .inl (a_dup 11), .inl (aGI 6 1 12), .inl (aC (.int 1) 13), .inl (a_iadd 14), .inl (aPI 6 1 15), .inr (.inl 0)]
def m_Sc_setLevel : ab_M := (g_Sc_setLevel, cd_Sc_setLevel, [0, 1, 4, 5, 6, 7, 8, 9, 10, 13, 14, 15, 18, 19, 20, 23], [])
set_option maxRecDepth 100000 in
set_option maxHeartbeats 4000000 in
theorem ok_Sc_setLevel : ab_ok m_Sc_setLevel 0 (ab_cd m_Sc_setLevel) :=
  ⟨s_aload_n (q := 0) (by decide +kernel) rfl rfl,
   s_aGR (by decide +kernel) fl_Sc_9 rfl rfl,
   s_iload_n (q := 1) (by decide +kernel) rfl rfl,
   s_iconst (n := 3) (by decide +kernel) rfl rfl,
   s_imul (by decide +kernel) rfl,
   s_iload_n (q := 2) (by decide +kernel) rfl rfl,
   s_iadd (by decide +kernel) rfl,
   s_iload_n (q := 3) (by decide +kernel) rfl rfl,
   ⟨⟨cs_SF_put.1, cs_SF_put.2.1, cs_SF_put.2.2.1, cs_SF_put.2.2.2, 23, _, (by decide +kernel), q806, q629⟩, rfl⟩,
   s_aload_n (q := 0) (by decide +kernel) rfl rfl,
   s_dup (by decide +kernel) rfl,
   s_aGI (by decide +kernel) fl_Sc_15 rfl rfl,
   s_iconst (n := 1) (by decide +kernel) rfl rfl,
   s_iadd (by decide +kernel) rfl,
   s_aPI (by decide +kernel) (fp_Sc_15 _) rfl rfl,
   ⟨(by decide +kernel), rfl⟩,
   trivial⟩
def cd_Sc_setPrint : List ab_A := [.inl (aLdA 0 1), .inl (aGR 6 0 2), .inl (aC (.int 15) 3), .inl (aLdI 1 4), .inl (aC (.int 3) 5), .inl (a_imul 6), .inl (a_iadd 7), .inl (aLdI 2 8), .inl (a_iadd 9), .inl (aLdI 3 10), .inr (.inr (.inl (4, g_SF_put, 3, 11))), .inl (aLdA 0 12), .inl (a_dup 13), .inl (aGI 6 1 14), .inl (aC (.int 1) 15), .inl (a_iadd 16), .inl (aPI 6 1 17), .inr (.inl 0)]
def m_Sc_setPrint : ab_M := (g_Sc_setPrint, cd_Sc_setPrint, [0, 1, 4, 6, 7, 8, 9, 10, 11, 12, 13, 16, 17, 18, 21, 22, 23, 26], [])
set_option maxRecDepth 100000 in
set_option maxHeartbeats 4000000 in
theorem ok_Sc_setPrint : ab_ok m_Sc_setPrint 0 (ab_cd m_Sc_setPrint) :=
  ⟨s_aload_n (q := 0) (by decide +kernel) rfl rfl,
   s_aGR (by decide +kernel) fl_Sc_9 rfl rfl,
   s_bipush (n := 15) (by decide +kernel) rfl rfl,
   s_iload_n (q := 1) (by decide +kernel) rfl rfl,
   s_iconst (n := 3) (by decide +kernel) rfl rfl,
   s_imul (by decide +kernel) rfl,
   s_iadd (by decide +kernel) rfl,
   s_iload_n (q := 2) (by decide +kernel) rfl rfl,
   s_iadd (by decide +kernel) rfl,
   s_iload_n (q := 3) (by decide +kernel) rfl rfl,
   ⟨⟨cs_SF_put.1, cs_SF_put.2.1, cs_SF_put.2.2.1, cs_SF_put.2.2.2, 23, _, (by decide +kernel), q806, q629⟩, rfl⟩,
   s_aload_n (q := 0) (by decide +kernel) rfl rfl,
   s_dup (by decide +kernel) rfl,
   s_aGI (by decide +kernel) fl_Sc_15 rfl rfl,
   s_iconst (n := 1) (by decide +kernel) rfl rfl,
   s_iadd (by decide +kernel) rfl,
   s_aPI (by decide +kernel) (fp_Sc_15 _) rfl rfl,
   ⟨(by decide +kernel), rfl⟩,
   trivial⟩
def cd_Sc_setSealer : List ab_A := [.inl (aLdA 0 1), .inl (aGR 6 0 2), .inl (aC (.int 33) 3), .inl (aLdI 1 4), .inl (a_iadd 5), .inl (aLdI 2 6), .inr (.inr (.inl (4, g_SF_put, 3, 7))), .inl (aLdA 0 8), .inl (a_dup 9), .inl (aGI 6 1 10), .inl (aC (.int 1) 11), .inl (a_iadd 12), .inl (aPI 6 1 13), .inr (.inl 0)]
def m_Sc_setSealer : ab_M := (g_Sc_setSealer, cd_Sc_setSealer, [0, 1, 4, 6, 7, 8, 9, 12, 13, 14, 17, 18, 19, 22], [])
set_option maxRecDepth 100000 in
set_option maxHeartbeats 4000000 in
theorem ok_Sc_setSealer : ab_ok m_Sc_setSealer 0 (ab_cd m_Sc_setSealer) :=
  ⟨s_aload_n (q := 0) (by decide +kernel) rfl rfl,
   s_aGR (by decide +kernel) fl_Sc_9 rfl rfl,
   s_bipush (n := 33) (by decide +kernel) rfl rfl,
   s_iload_n (q := 1) (by decide +kernel) rfl rfl,
   s_iadd (by decide +kernel) rfl,
   s_iload_n (q := 2) (by decide +kernel) rfl rfl,
   ⟨⟨cs_SF_put.1, cs_SF_put.2.1, cs_SF_put.2.2.1, cs_SF_put.2.2.2, 23, _, (by decide +kernel), q806, q629⟩, rfl⟩,
   s_aload_n (q := 0) (by decide +kernel) rfl rfl,
   s_dup (by decide +kernel) rfl,
   s_aGI (by decide +kernel) fl_Sc_15 rfl rfl,
   s_iconst (n := 1) (by decide +kernel) rfl rfl,
   s_iadd (by decide +kernel) rfl,
   s_aPI (by decide +kernel) (fp_Sc_15 _) rfl rfl,
   ⟨(by decide +kernel), rfl⟩,
   trivial⟩
def cd_Sc_setYear : List ab_A := [.inl (aLdA 0 1), .inl (aGR 6 0 2), .inl (aC (.int 39) 3), .inl (aLdI 1 4), .inl (aIS 5), .inl (aLdA 0 6), .inl (a_dup 7), .inl (aGI 6 1 8), .inl (aC (.int 1) 9), .inl (a_iadd 10), .inl (aPI 6 1 11), .inr (.inl 0)]
def m_Sc_setYear : ab_M := (g_Sc_setYear, cd_Sc_setYear, [0, 1, 4, 6, 7, 8, 9, 10, 13, 14, 15, 18], [])
set_option maxRecDepth 100000 in
set_option maxHeartbeats 4000000 in
theorem ok_Sc_setYear : ab_ok m_Sc_setYear 0 (ab_cd m_Sc_setYear) :=
  ⟨s_aload_n (q := 0) (by decide +kernel) rfl rfl,
   s_aGR (by decide +kernel) fl_Sc_9 rfl rfl,
   s_bipush (n := 39) (by decide +kernel) rfl rfl,
   s_iload_n (q := 1) (by decide +kernel) rfl rfl,
   s_iastore (by decide +kernel) rfl,
   s_aload_n (q := 0) (by decide +kernel) rfl rfl,
   s_dup (by decide +kernel) rfl,
   s_aGI (by decide +kernel) fl_Sc_15 rfl rfl,
   s_iconst (n := 1) (by decide +kernel) rfl rfl,
   s_iadd (by decide +kernel) rfl,
   s_aPI (by decide +kernel) (fp_Sc_15 _) rfl rfl,
   ⟨(by decide +kernel), rfl⟩,
   trivial⟩
def cd_Me_clearAll : List ab_A := [.inl (aLdA 0 1), .inl (aC (.int 0) 2), .inl (aPI 3 4 3), .inl (aLdA 0 4), .inl (aC (.int 0) 5), .inl (aPI 3 2 6), .inr (.inl 0)]
def m_Me_clearAll : ab_M := (g_Me_clearAll, cd_Me_clearAll, [0, 1, 2, 5, 6, 7, 10], [])
set_option maxRecDepth 100000 in
set_option maxHeartbeats 4000000 in
theorem ok_Me_clearAll : ab_ok m_Me_clearAll 0 (ab_cd m_Me_clearAll) :=
  ⟨s_aload_n (q := 0) (by decide +kernel) rfl rfl,
   s_iconst (n := 0) (by decide +kernel) rfl rfl,
   s_aPI (by decide +kernel) (fp_Me_25 _) rfl rfl,
   s_aload_n (q := 0) (by decide +kernel) rfl rfl,
   s_iconst (n := 0) (by decide +kernel) rfl rfl,
   s_aPI (by decide +kernel) (fp_Me_18 _) rfl rfl,
   ⟨(by decide +kernel), rfl⟩,
   trivial⟩
def cd_Tl_drop : List ab_A := [.inl (aLdA 0 1), .inl (aGI 10 3 2), .inl (aStI 1 3), .inl (aLdA 0 4), .inl (aC (.int 0) 5), .inl (aPI 10 3 6), .inl (aLdI 1 7), .inr (.inl 1)]
def m_Tl_drop : ab_M := (g_Tl_drop, cd_Tl_drop, [0, 1, 4, 5, 6, 7, 10, 11], [])
set_option maxRecDepth 100000 in
set_option maxHeartbeats 4000000 in
theorem ok_Tl_drop : ab_ok m_Tl_drop 0 (ab_cd m_Tl_drop) :=
  ⟨s_aload_n (q := 0) (by decide +kernel) rfl rfl,
   s_aGI (by decide +kernel) fl_Tl_22 rfl rfl,
   s_istore_n (q := 1) (by decide +kernel) rfl (Nat.le_of_ble_eq_true rfl) rfl,
   s_aload_n (q := 0) (by decide +kernel) rfl rfl,
   s_iconst (n := 0) (by decide +kernel) rfl rfl,
   s_aPI (by decide +kernel) (fp_Tl_22 _) rfl rfl,
   s_iload_n (q := 1) (by decide +kernel) rfl rfl,
   ⟨(by decide +kernel), rfl⟩,
   trivial⟩
def cd_Sc_levelOf : List ab_A := [.inl (aLdA 0 1), .inl (aGR 6 0 2), .inl (aLdI 1 3), .inl (aC (.int 3) 4), .inl (a_imul 5), .inl (aLdI 2 6), .inl (a_iadd 7), .inr (.inr (.inl (4, g_SF_at, 2, 8))), .inr (.inl 1)]
def m_Sc_levelOf : ab_M := (g_Sc_levelOf, cd_Sc_levelOf, [0, 1, 4, 5, 6, 7, 8, 9, 12], [])
set_option maxRecDepth 100000 in
set_option maxHeartbeats 4000000 in
theorem ok_Sc_levelOf : ab_ok m_Sc_levelOf 0 (ab_cd m_Sc_levelOf) :=
  ⟨s_aload_n (q := 0) (by decide +kernel) rfl rfl,
   s_aGR (by decide +kernel) fl_Sc_9 rfl rfl,
   s_iload_n (q := 1) (by decide +kernel) rfl rfl,
   s_iconst (n := 3) (by decide +kernel) rfl rfl,
   s_imul (by decide +kernel) rfl,
   s_iload_n (q := 2) (by decide +kernel) rfl rfl,
   s_iadd (by decide +kernel) rfl,
   ⟨⟨cs_SF_at.1, cs_SF_at.2.1, cs_SF_at.2.2.1, cs_SF_at.2.2.2, 19, _, (by decide +kernel), q847, q800⟩, rfl⟩,
   ⟨(by decide +kernel), rfl⟩,
   trivial⟩
def cd_Sc_yearNow : List ab_A := [.inl (aLdA 0 1), .inl (aGR 6 0 2), .inl (aC (.int 39) 3), .inl (aIA 4), .inr (.inl 1)]
def m_Sc_yearNow : ab_M := (g_Sc_yearNow, cd_Sc_yearNow, [0, 1, 4, 6, 7], [])
set_option maxRecDepth 100000 in
set_option maxHeartbeats 4000000 in
theorem ok_Sc_yearNow : ab_ok m_Sc_yearNow 0 (ab_cd m_Sc_yearNow) :=
  ⟨s_aload_n (q := 0) (by decide +kernel) rfl rfl,
   s_aGR (by decide +kernel) fl_Sc_9 rfl rfl,
   s_bipush (n := 39) (by decide +kernel) rfl rfl,
   s_iaload (by decide +kernel) rfl,
   ⟨(by decide +kernel), rfl⟩,
   trivial⟩
def cd_Sc_sealerOf : List ab_A := [.inl (aLdI 1 1), .inl (aIf_lt 12 2), .inl (aLdI 1 3), .inl (aC (.int 6) 4), .inl (aIc_ge 12 5), .inl (aLdA 0 6), .inl (aGR 6 0 7), .inl (aC (.int 33) 8), .inl (aLdI 1 9), .inl (a_iadd 10), .inl (aIA 11), .inl (aGo 13), .inl (aC (.int (-2)) 13), .inr (.inl 1)]
def m_Sc_sealerOf : ab_M := (g_Sc_sealerOf, cd_Sc_sealerOf, [0, 1, 4, 5, 7, 10, 11, 14, 16, 17, 18, 19, 22, 24], [])
set_option maxRecDepth 100000 in
set_option maxHeartbeats 4000000 in
theorem ok_Sc_sealerOf : ab_ok m_Sc_sealerOf 0 (ab_cd m_Sc_sealerOf) :=
  ⟨s_iload_n (q := 1) (by decide +kernel) rfl rfl,
   s_aIf_lt (o := 21) (by decide +kernel) (by decide +kernel) rfl,
   s_iload_n (q := 1) (by decide +kernel) rfl rfl,
   s_bipush (n := 6) (by decide +kernel) rfl rfl,
   s_aIc_ge (o := 15) (by decide +kernel) (by decide +kernel) rfl,
   s_aload_n (q := 0) (by decide +kernel) rfl rfl,
   s_aGR (by decide +kernel) fl_Sc_9 rfl rfl,
   s_bipush (n := 33) (by decide +kernel) rfl rfl,
   s_iload_n (q := 1) (by decide +kernel) rfl rfl,
   s_iadd (by decide +kernel) rfl,
   s_iaload (by decide +kernel) rfl,
   s_goto (o := 5) (by decide +kernel) (by decide +kernel),
   s_bipush (n := (-2)) (by decide +kernel) rfl rfl,
   ⟨(by decide +kernel), rfl⟩,
   trivial⟩
def cd_JI_bitCount : List ab_A := [.inl (aLdI 0 1), .inl (aLdI 0 2), .inl (aC (.int 1) 3), .inl (a_iushr 4), .inl (aC (.int 1431655765) 5), .inl (a_iand 6), .inl (a_isub 7), .inl (aStI 0 8), .inl (aLdI 0 9), .inl (aC (.int 858993459) 10), .inl (a_iand 11), .inl (aLdI 0 12), .inl (aC (.int 2) 13), .inl (a_iushr 14), .inl (aC (.int 858993459) 15), .inl (a_iand 16), .inl (a_iadd 17), .inl (aStI 0 18), .inl (aLdI 0 19), .inl (aLdI 0 20), .inl (aC (.int 4) 21), .inl (a_iushr 22), .inl (a_iadd 23), .inl (aC (.int 252645135) 24), .inl (a_iand 25), .inl (aStI 0 26), .inl (aLdI 0 27), .inl (aLdI 0 28), .inl (aC (.int 8) 29), .inl (a_iushr 30), .inl (a_iadd 31), .inl (aStI 0 32), .inl (aLdI 0 33), .inl (aLdI 0 34), .inl (aC (.int 16) 35), .inl (a_iushr 36), .inl (a_iadd 37), .inl (aStI 0 38), .inl (aLdI 0 39), .inl (aC (.int 63) 40), .inl (a_iand 41), .inr (.inl 1)]
def m_JI_bitCount : ab_M := (g_JI_bitCount, cd_JI_bitCount, [0, 1, 2, 3, 4, 7, 8, 9, 10, 11, 14, 15, 16, 17, 18, 21, 22, 23, 24, 25, 26, 27, 28, 29, 32, 33, 34, 35, 36, 38, 39, 40, 41, 42, 43, 45, 46, 47, 48, 49, 51, 52], [])
set_option maxRecDepth 100000 in
set_option maxHeartbeats 4000000 in
theorem ok_JI_bitCount : ab_ok m_JI_bitCount 0 (ab_cd m_JI_bitCount) :=
  ⟨s_iload_n (q := 0) (by decide +kernel) rfl rfl,
   s_iload_n (q := 0) (by decide +kernel) rfl rfl,
   s_iconst (n := 1) (by decide +kernel) rfl rfl,
   s_iushr (by decide +kernel) rfl,
   s_ldcw (by decide +kernel) q873 rfl,
   s_iand (by decide +kernel) rfl,
   s_isub (by decide +kernel) rfl,
   s_istore_n (q := 0) (by decide +kernel) rfl (Nat.le_of_ble_eq_true rfl) rfl,
   s_iload_n (q := 0) (by decide +kernel) rfl rfl,
   s_ldcw (by decide +kernel) q874 rfl,
   s_iand (by decide +kernel) rfl,
   s_iload_n (q := 0) (by decide +kernel) rfl rfl,
   s_iconst (n := 2) (by decide +kernel) rfl rfl,
   s_iushr (by decide +kernel) rfl,
   s_ldcw (by decide +kernel) q874 rfl,
   s_iand (by decide +kernel) rfl,
   s_iadd (by decide +kernel) rfl,
   s_istore_n (q := 0) (by decide +kernel) rfl (Nat.le_of_ble_eq_true rfl) rfl,
   s_iload_n (q := 0) (by decide +kernel) rfl rfl,
   s_iload_n (q := 0) (by decide +kernel) rfl rfl,
   s_iconst (n := 4) (by decide +kernel) rfl rfl,
   s_iushr (by decide +kernel) rfl,
   s_iadd (by decide +kernel) rfl,
   s_ldcw (by decide +kernel) q875 rfl,
   s_iand (by decide +kernel) rfl,
   s_istore_n (q := 0) (by decide +kernel) rfl (Nat.le_of_ble_eq_true rfl) rfl,
   s_iload_n (q := 0) (by decide +kernel) rfl rfl,
   s_iload_n (q := 0) (by decide +kernel) rfl rfl,
   s_bipush (n := 8) (by decide +kernel) rfl rfl,
   s_iushr (by decide +kernel) rfl,
   s_iadd (by decide +kernel) rfl,
   s_istore_n (q := 0) (by decide +kernel) rfl (Nat.le_of_ble_eq_true rfl) rfl,
   s_iload_n (q := 0) (by decide +kernel) rfl rfl,
   s_iload_n (q := 0) (by decide +kernel) rfl rfl,
   s_bipush (n := 16) (by decide +kernel) rfl rfl,
   s_iushr (by decide +kernel) rfl,
   s_iadd (by decide +kernel) rfl,
   s_istore_n (q := 0) (by decide +kernel) rfl (Nat.le_of_ble_eq_true rfl) rfl,
   s_iload_n (q := 0) (by decide +kernel) rfl rfl,
   s_bipush (n := 63) (by decide +kernel) rfl rfl,
   s_iand (by decide +kernel) rfl,
   ⟨(by decide +kernel), rfl⟩,
   trivial⟩
def cd_Te_needOf : List ab_A := [.inl (aLdA 0 1), .inl (aGR 8 5 2), .inl (aLdI 1 3), .inl (aC (.int 3) 4), .inl (a_imul 5), .inl (aLdI 2 6), .inl (a_iadd 7), .inr (.inr (.inl (4, g_SF_at, 2, 8))), .inr (.inl 1)]
def m_Te_needOf : ab_M := (g_Te_needOf, cd_Te_needOf, [0, 1, 4, 5, 6, 7, 8, 9, 12], [])
set_option maxRecDepth 100000 in
set_option maxHeartbeats 4000000 in
theorem ok_Te_needOf : ab_ok m_Te_needOf 0 (ab_cd m_Te_needOf) :=
  ⟨s_aload_n (q := 0) (by decide +kernel) rfl rfl,
   s_aGR (by decide +kernel) fl_Te_28 rfl rfl,
   s_iload_n (q := 1) (by decide +kernel) rfl rfl,
   s_iconst (n := 3) (by decide +kernel) rfl rfl,
   s_imul (by decide +kernel) rfl,
   s_iload_n (q := 2) (by decide +kernel) rfl rfl,
   s_iadd (by decide +kernel) rfl,
   ⟨⟨cs_SF_at.1, cs_SF_at.2.1, cs_SF_at.2.2.1, cs_SF_at.2.2.2, 73, _, (by decide +kernel), q799, q800⟩, rfl⟩,
   ⟨(by decide +kernel), rfl⟩,
   trivial⟩
def cd_Sc_printOf : List ab_A := [.inl (aLdA 0 1), .inl (aGR 6 0 2), .inl (aC (.int 15) 3), .inl (aLdI 1 4), .inl (aC (.int 3) 5), .inl (a_imul 6), .inl (a_iadd 7), .inl (aLdI 2 8), .inl (a_iadd 9), .inr (.inr (.inl (4, g_SF_at, 2, 10))), .inr (.inl 1)]
def m_Sc_printOf : ab_M := (g_Sc_printOf, cd_Sc_printOf, [0, 1, 4, 6, 7, 8, 9, 10, 11, 12, 15], [])
set_option maxRecDepth 100000 in
set_option maxHeartbeats 4000000 in
theorem ok_Sc_printOf : ab_ok m_Sc_printOf 0 (ab_cd m_Sc_printOf) :=
  ⟨s_aload_n (q := 0) (by decide +kernel) rfl rfl,
   s_aGR (by decide +kernel) fl_Sc_9 rfl rfl,
   s_bipush (n := 15) (by decide +kernel) rfl rfl,
   s_iload_n (q := 1) (by decide +kernel) rfl rfl,
   s_iconst (n := 3) (by decide +kernel) rfl rfl,
   s_imul (by decide +kernel) rfl,
   s_iadd (by decide +kernel) rfl,
   s_iload_n (q := 2) (by decide +kernel) rfl rfl,
   s_iadd (by decide +kernel) rfl,
   ⟨⟨cs_SF_at.1, cs_SF_at.2.1, cs_SF_at.2.2.1, cs_SF_at.2.2.2, 19, _, (by decide +kernel), q847, q800⟩, rfl⟩,
   ⟨(by decide +kernel), rfl⟩,
   trivial⟩
def cd_Te_worthOf : List ab_A := [.inl (aLdA 0 1), .inl (aGR 8 4 2), .inl (aLdI 1 3), .inr (.inr (.inl (4, g_SF_at, 2, 4))), .inr (.inl 1)]
def m_Te_worthOf : ab_M := (g_Te_worthOf, cd_Te_worthOf, [0, 1, 4, 5, 8], [])
set_option maxRecDepth 100000 in
set_option maxHeartbeats 4000000 in
theorem ok_Te_worthOf : ab_ok m_Te_worthOf 0 (ab_cd m_Te_worthOf) :=
  ⟨s_aload_n (q := 0) (by decide +kernel) rfl rfl,
   s_aGR (by decide +kernel) fl_Te_25 rfl rfl,
   s_iload_n (q := 1) (by decide +kernel) rfl rfl,
   ⟨⟨cs_SF_at.1, cs_SF_at.2.1, cs_SF_at.2.2.1, cs_SF_at.2.2.2, 73, _, (by decide +kernel), q799, q800⟩, rfl⟩,
   ⟨(by decide +kernel), rfl⟩,
   trivial⟩
def cd_JA_fill : List ab_A := [.inl (aC (.int 0) 1), .inl (aStI 2 2), .inl (aLdA 0 3), .inl (aLn 4), .inl (aStI 3 5), .inl (aLdI 2 6), .inl (aLdI 3 7), .inl (aIc_ge 14 8), .inl (aLdA 0 9), .inl (aLdI 2 10), .inl (aLdI 1 11), .inl (aIS 12), .inl (aInc 2 1 13), .inl (aGo 5), .inr (.inl 0)]
def m_JA_fill : ab_M := (g_JA_fill, cd_JA_fill, [0, 1, 2, 3, 4, 5, 6, 7, 10, 11, 12, 13, 14, 17, 20], [(5, [true, true, true, true])])
set_option maxRecDepth 100000 in
set_option maxHeartbeats 4000000 in
theorem ok_JA_fill : ab_ok m_JA_fill 0 (ab_cd m_JA_fill) :=
  ⟨s_iconst (n := 0) (by decide +kernel) rfl rfl,
   s_istore_n (q := 2) (by decide +kernel) rfl (Nat.le_of_ble_eq_true rfl) rfl,
   s_aload_n (q := 0) (by decide +kernel) rfl rfl,
   s_arraylength (by decide +kernel) rfl,
   s_istore_n (q := 3) (by decide +kernel) rfl (Nat.le_of_ble_eq_true rfl) rfl,
   s_iload_n (q := 2) (by decide +kernel) rfl rfl,
   s_iload_n (q := 3) (by decide +kernel) rfl rfl,
   s_aIc_ge (o := 13) (by decide +kernel) (by decide +kernel) rfl,
   s_aload_n (q := 0) (by decide +kernel) rfl rfl,
   s_iload_n (q := 2) (by decide +kernel) rfl rfl,
   s_iload_n (q := 1) (by decide +kernel) rfl rfl,
   s_iastore (by decide +kernel) rfl,
   s_iinc (q := 1) (by decide +kernel) rfl (Nat.le_of_ble_eq_true rfl) rfl,
   s_goto (o := (-12)) (by decide +kernel) (by decide +kernel),
   ⟨(by decide +kernel), rfl⟩,
   trivial⟩
def cd_La_valueOf : List ab_A := [.inl (aLdA 0 1), .inl (aC (.int 0) 2), .inl (aPZ 2 5 3), .inl (aC (.int 0) 4), .inl (aStI 2 5), .inl (aLdI 2 6), .inl (aC (.int 3) 7), .inl (a_iadd 8), .inl (aLdA 0 9), .inl (aGI 2 4 10), .inl (aIc_ge 37 11), .inl (aLdA 0 12), .inl (aLdI 2 13), .inl (aLdA 1 14), .inr (.inr (.inl (0, g_La_partOf, 2, 15))), .inl (aLdA 0 16), .inl (aLdI 2 17), .inl (aC (.int 1) 18), .inl (a_iadd 19), .inl (aLdA 1 20), .inr (.inr (.inl (0, g_La_partOf, 2, 21))), .inl (aIc_ge 24 22), .inl (aC (.int 1) 23), .inl (aGo 25), .inl (aC (.int 0) 25), .inl (aStI 3 26), .inl (aLdA 0 27), .inl (aGI 2 5 28), .inl (aIf_eq 31 29), .inl (aC (.int 0) 30), .inr (.inl 1), .inl (aLdI 3 32), .inl (aIf_eq 35 33), .inl (aInc 2 2 34), .inl (aGo 37), .inl (aInc 2 3 36), .inl (aGo 5), .inl (aLdA 0 38), .inl (aLdI 2 39), .inl (aLdA 1 40), .inr (.inr (.inl (0, g_La_partOf, 2, 41))), .inl (aStI 3 42), .inl (aLdA 0 43), .inl (aGI 2 5 44), .inl (aIf_eq 47 45), .inl (aC (.int 0) 46), .inl (aGo 48), .inl (aLdI 3 48), .inr (.inl 1)]
def m_La_valueOf : ab_M := (g_La_valueOf, cd_La_valueOf, [0, 1, 2, 5, 6, 7, 8, 9, 10, 11, 14, 17, 18, 19, 20, 23, 24, 25, 26, 27, 28, 31, 34, 35, 38, 39, 40, 41, 44, 47, 48, 49, 50, 53, 56, 59, 62, 65, 66, 67, 68, 71, 72, 73, 76, 79, 80, 83, 84], [(5, [true, true, true, false])])
set_option maxRecDepth 100000 in
set_option maxHeartbeats 4000000 in
theorem ok_La_valueOf : ab_ok m_La_valueOf 0 (ab_cd m_La_valueOf) :=
  ⟨s_aload_n (q := 0) (by decide +kernel) rfl rfl,
   s_iconst (n := 0) (by decide +kernel) rfl rfl,
   s_aPZ (by decide +kernel) (fp_La_28 _) rfl rfl,
   s_iconst (n := 0) (by decide +kernel) rfl rfl,
   s_istore_n (q := 2) (by decide +kernel) rfl (Nat.le_of_ble_eq_true rfl) rfl,
   s_iload_n (q := 2) (by decide +kernel) rfl rfl,
   s_iconst (n := 3) (by decide +kernel) rfl rfl,
   s_iadd (by decide +kernel) rfl,
   s_aload_n (q := 0) (by decide +kernel) rfl rfl,
   s_aGI (by decide +kernel) fl_La_25 rfl rfl,
   s_aIc_ge (o := 51) (by decide +kernel) (by decide +kernel) rfl,
   s_aload_n (q := 0) (by decide +kernel) rfl rfl,
   s_iload_n (q := 2) (by decide +kernel) rfl rfl,
   s_aload_n (q := 1) (by decide +kernel) rfl rfl,
   ⟨⟨cs_La_partOf.1, cs_La_partOf.2.1, cs_La_partOf.2.2.1, cs_La_partOf.2.2.2, 42, (by decide +kernel), q929, q931, q21⟩, rfl⟩,
   s_aload_n (q := 0) (by decide +kernel) rfl rfl,
   s_iload_n (q := 2) (by decide +kernel) rfl rfl,
   s_iconst (n := 1) (by decide +kernel) rfl rfl,
   s_iadd (by decide +kernel) rfl,
   s_aload_n (q := 1) (by decide +kernel) rfl rfl,
   ⟨⟨cs_La_partOf.1, cs_La_partOf.2.1, cs_La_partOf.2.2.1, cs_La_partOf.2.2.2, 42, (by decide +kernel), q929, q931, q21⟩, rfl⟩,
   s_aIc_ge (o := 7) (by decide +kernel) (by decide +kernel) rfl,
   s_iconst (n := 1) (by decide +kernel) rfl rfl,
   s_goto (o := 4) (by decide +kernel) (by decide +kernel),
   s_iconst (n := 0) (by decide +kernel) rfl rfl,
   s_istore_n (q := 3) (by decide +kernel) rfl (Nat.le_of_ble_eq_true rfl) rfl,
   s_aload_n (q := 0) (by decide +kernel) rfl rfl,
   s_aGI (by decide +kernel) fl_La_28 rfl rfl,
   s_aIf_eq (o := 5) (by decide +kernel) (by decide +kernel) rfl,
   s_iconst (n := 0) (by decide +kernel) rfl rfl,
   ⟨(by decide +kernel), rfl⟩,
   s_iload_n (q := 3) (by decide +kernel) rfl rfl,
   s_aIf_eq (o := 9) (by decide +kernel) (by decide +kernel) rfl,
   s_iinc (q := 2) (by decide +kernel) rfl (Nat.le_of_ble_eq_true rfl) rfl,
   s_goto (o := 9) (by decide +kernel) (by decide +kernel),
   s_iinc (q := 3) (by decide +kernel) rfl (Nat.le_of_ble_eq_true rfl) rfl,
   s_goto (o := (-55)) (by decide +kernel) (by decide +kernel),
   s_aload_n (q := 0) (by decide +kernel) rfl rfl,
   s_iload_n (q := 2) (by decide +kernel) rfl rfl,
   s_aload_n (q := 1) (by decide +kernel) rfl rfl,
   ⟨⟨cs_La_partOf.1, cs_La_partOf.2.1, cs_La_partOf.2.2.1, cs_La_partOf.2.2.2, 42, (by decide +kernel), q929, q931, q21⟩, rfl⟩,
   s_istore_n (q := 3) (by decide +kernel) rfl (Nat.le_of_ble_eq_true rfl) rfl,
   s_aload_n (q := 0) (by decide +kernel) rfl rfl,
   s_aGI (by decide +kernel) fl_La_28 rfl rfl,
   s_aIf_eq (o := 7) (by decide +kernel) (by decide +kernel) rfl,
   s_iconst (n := 0) (by decide +kernel) rfl rfl,
   s_goto (o := 4) (by decide +kernel) (by decide +kernel),
   s_iload_n (q := 3) (by decide +kernel) rfl rfl,
   ⟨(by decide +kernel), rfl⟩,
   trivial⟩
def cd_La_partOf : List ab_A := [.inl (aLdI 1 1), .inl (aIf_lt 12 2), .inl (aLdI 1 3), .inl (aLdA 0 4), .inl (aGR 2 1 5), .inl (aLn 6), .inl (aIc_ge 12 7), .inl (aLdA 0 8), .inl (aGR 2 1 9), .inl (aLdI 1 10), .inl (aIA 11), .inl (aGo 13), .inl (aC (.int 0) 13), .inl (aStI 3 14), .inl (aC (.int 0) 15), .inl (aStI 4 16), .inl (aLdI 1 17), .inl (aIf_le 30 18), .inl (aLdI 1 19), .inl (aLdA 0 20), .inl (aGR 2 1 21), .inl (aLn 22), .inl (aIc_gt 30 23), .inl (aLdA 0 24), .inl (aGR 2 1 25), .inl (aLdI 1 26), .inl (aC (.int 1) 27), .inl (a_isub 28), .inl (aIA 29), .inl (aGo 31), .inl (aC (.int 0) 31), .inl (aStI 5 32), .inl (aLdI 5 33), .inl (aIf_lt 119 34), .inl (aLdI 5 35), .inl (aLdI 3 36), .inl (aIc_ge 119 37), .inl (aLdI 5 38), .inl (aLdA 0 39), .inl (aGR 2 0 40), .inl (aLn 41), .inl (aIc_ge 119 42), .inl (aLdA 0 43), .inl (aGR 2 0 44), .inl (aLdI 5 45), .inl (aIA 46), .inl (aStI 6 47), .inl (aLdI 6 48), .inl (a_ineg 49), .inl (aC (.int 268) 50), .inl (a_isub 51), .inl (aStI 7 52), .inl (aLdI 6 53), .inl (aIf_lt 66 54), .inl (aLdI 4 55), .inl (aLdA 0 56), .inl (aGR 2 2 57), .inl (aLn 58), .inl (aIc_ge 66 59), .inl (aLdA 0 60), .inl (aGR 2 2 61), .inl (aLdI 4 62), .inl (aLdI 6 63), .inl (aIS 64), .inl (aInc 4 1 65), .inl (aGo 117), .inl (aLdI 7 67), .inl (aIf_lt 86 68), .inl (aLdI 7 69), .inl (aLdA 2 70), .inl (aLn 71), .inl (aIc_ge 86 72), .inl (aLdI 4 73), .inl (aLdA 0 74), .inl (aGR 2 2 75), .inl (aLn 76), .inl (aIc_ge 86 77), .inl (aLdA 0 78), .inl (aGR 2 2 79), .inl (aLdI 4 80), .inl (aLdA 2 81), .inl (aLdI 7 82), .inl (aIA 83), .inl (aIS 84), .inl (aInc 4 1 85), .inl (aGo 117), .inl (aLdI 4 87), .inl (aC (.int 2) 88), .inl (aIc_lt 117 89), .inl (aLdI 4 90), .inl (aLdA 0 91), .inl (aGR 2 2 92), .inl (aLn 93), .inl (aIc_gt 117 94), .inl (aLdA 0 95), .inl (aGR 2 2 96), .inl (aLdI 4 97), .inl (aC (.int 2) 98), .inl (a_isub 99), .inl (aLdA 0 100), .inl (aLdI 6 101), .inl (a_ineg 102), .inl (aLdA 0 103), .inl (aGR 2 2 104), .inl (aLdI 4 105), .inl (aC (.int 2) 106), .inl (a_isub 107), .inl (aIA 108), .inl (aLdA 0 109), .inl (aGR 2 2 110), .inl (aLdI 4 111), .inl (aC (.int 1) 112), .inl (a_isub 113), .inl (aIA 114), .inr (.inr (.inl (0, g_La_joined, 3, 115))), .inl (aIS 116), .inl (aInc 4 (-1) 117), .inl (aInc 5 1 118), .inl (aGo 32), .inl (aLdA 0 120), .inl (aGR 2 2 121), .inl (aC (.int 0) 122), .inl (aIA 123), .inr (.inl 1)]
def m_La_partOf : ab_M := (g_La_partOf, cd_La_partOf, [0, 1, 4, 5, 6, 9, 10, 13, 14, 17, 18, 19, 22, 23, 24, 25, 27, 28, 31, 32, 33, 36, 37, 40, 41, 44, 45, 46, 47, 48, 51, 52, 54, 56, 59, 61, 62, 65, 67, 68, 71, 72, 75, 76, 79, 81, 82, 84, 86, 87, 90, 91, 93, 95, 98, 100, 101, 104, 105, 108, 109, 112, 114, 116, 117, 120, 123, 125, 128, 130, 131, 132, 135, 137, 138, 141, 142, 145, 146, 149, 151, 152, 154, 155, 156, 159, 162, 164, 165, 168, 170, 171, 174, 175, 178, 179, 182, 184, 185, 186, 187, 189, 190, 191, 194, 196, 197, 198, 199, 200, 203, 205, 206, 207, 208, 211, 212, 215, 218, 221, 222, 225, 226, 227], [(32, [true, false, true, true, true, true, false, false])])
set_option maxRecDepth 100000 in
set_option maxHeartbeats 4000000 in
theorem ok_La_partOf : ab_ok m_La_partOf 0 (ab_cd m_La_partOf) :=
  ⟨s_iload_n (q := 1) (by decide +kernel) rfl rfl,
   s_aIf_lt (o := 21) (by decide +kernel) (by decide +kernel) rfl,
   s_iload_n (q := 1) (by decide +kernel) rfl rfl,
   s_aload_n (q := 0) (by decide +kernel) rfl rfl,
   s_aGR (by decide +kernel) fl_La_15 rfl rfl,
   s_arraylength (by decide +kernel) rfl,
   s_aIc_ge (o := 12) (by decide +kernel) (by decide +kernel) rfl,
   s_aload_n (q := 0) (by decide +kernel) rfl rfl,
   s_aGR (by decide +kernel) fl_La_15 rfl rfl,
   s_iload_n (q := 1) (by decide +kernel) rfl rfl,
   s_iaload (by decide +kernel) rfl,
   s_goto (o := 4) (by decide +kernel) (by decide +kernel),
   s_iconst (n := 0) (by decide +kernel) rfl rfl,
   s_istore_n (q := 3) (by decide +kernel) rfl (Nat.le_of_ble_eq_true rfl) rfl,
   s_iconst (n := 0) (by decide +kernel) rfl rfl,
   s_istore (by decide +kernel) (Nat.le_of_ble_eq_true rfl) rfl,
   s_iload_n (q := 1) (by decide +kernel) rfl rfl,
   s_aIf_le (o := 23) (by decide +kernel) (by decide +kernel) rfl,
   s_iload_n (q := 1) (by decide +kernel) rfl rfl,
   s_aload_n (q := 0) (by decide +kernel) rfl rfl,
   s_aGR (by decide +kernel) fl_La_15 rfl rfl,
   s_arraylength (by decide +kernel) rfl,
   s_aIc_gt (o := 14) (by decide +kernel) (by decide +kernel) rfl,
   s_aload_n (q := 0) (by decide +kernel) rfl rfl,
   s_aGR (by decide +kernel) fl_La_15 rfl rfl,
   s_iload_n (q := 1) (by decide +kernel) rfl rfl,
   s_iconst (n := 1) (by decide +kernel) rfl rfl,
   s_isub (by decide +kernel) rfl,
   s_iaload (by decide +kernel) rfl,
   s_goto (o := 4) (by decide +kernel) (by decide +kernel),
   s_iconst (n := 0) (by decide +kernel) rfl rfl,
   s_istore (by decide +kernel) (Nat.le_of_ble_eq_true rfl) rfl,
   s_iload (by decide +kernel) rfl,
   s_aIf_lt (o := 165) (by decide +kernel) (by decide +kernel) rfl,
   s_iload (by decide +kernel) rfl,
   s_iload_n (q := 3) (by decide +kernel) rfl rfl,
   s_aIc_ge (o := 159) (by decide +kernel) (by decide +kernel) rfl,
   s_iload (by decide +kernel) rfl,
   s_aload_n (q := 0) (by decide +kernel) rfl rfl,
   s_aGR (by decide +kernel) fl_La_9 rfl rfl,
   s_arraylength (by decide +kernel) rfl,
   s_aIc_ge (o := 149) (by decide +kernel) (by decide +kernel) rfl,
   s_aload_n (q := 0) (by decide +kernel) rfl rfl,
   s_aGR (by decide +kernel) fl_La_9 rfl rfl,
   s_iload (by decide +kernel) rfl,
   s_iaload (by decide +kernel) rfl,
   s_istore (by decide +kernel) (Nat.le_of_ble_eq_true rfl) rfl,
   s_iload (by decide +kernel) rfl,
   s_ineg (by decide +kernel) rfl,
   s_sipush (n := 268) (by decide +kernel) rfl rfl,
   s_isub (by decide +kernel) rfl,
   s_istore (by decide +kernel) (Nat.le_of_ble_eq_true rfl) rfl,
   s_iload (by decide +kernel) rfl,
   s_aIf_lt (o := 28) (by decide +kernel) (by decide +kernel) rfl,
   s_iload (by decide +kernel) rfl,
   s_aload_n (q := 0) (by decide +kernel) rfl rfl,
   s_aGR (by decide +kernel) fl_La_18 rfl rfl,
   s_arraylength (by decide +kernel) rfl,
   s_aIc_ge (o := 18) (by decide +kernel) (by decide +kernel) rfl,
   s_aload_n (q := 0) (by decide +kernel) rfl rfl,
   s_aGR (by decide +kernel) fl_La_18 rfl rfl,
   s_iload (by decide +kernel) rfl,
   s_iload (by decide +kernel) rfl,
   s_iastore (by decide +kernel) rfl,
   s_iinc (q := 1) (by decide +kernel) rfl (Nat.le_of_ble_eq_true rfl) rfl,
   s_goto (o := 95) (by decide +kernel) (by decide +kernel),
   s_iload (by decide +kernel) rfl,
   s_aIf_lt (o := 37) (by decide +kernel) (by decide +kernel) rfl,
   s_iload (by decide +kernel) rfl,
   s_aload_n (q := 2) (by decide +kernel) rfl rfl,
   s_arraylength (by decide +kernel) rfl,
   s_aIc_ge (o := 30) (by decide +kernel) (by decide +kernel) rfl,
   s_iload (by decide +kernel) rfl,
   s_aload_n (q := 0) (by decide +kernel) rfl rfl,
   s_aGR (by decide +kernel) fl_La_18 rfl rfl,
   s_arraylength (by decide +kernel) rfl,
   s_aIc_ge (o := 20) (by decide +kernel) (by decide +kernel) rfl,
   s_aload_n (q := 0) (by decide +kernel) rfl rfl,
   s_aGR (by decide +kernel) fl_La_18 rfl rfl,
   s_iload (by decide +kernel) rfl,
   s_aload_n (q := 2) (by decide +kernel) rfl rfl,
   s_iload (by decide +kernel) rfl,
   s_iaload (by decide +kernel) rfl,
   s_iastore (by decide +kernel) rfl,
   s_iinc (q := 1) (by decide +kernel) rfl (Nat.le_of_ble_eq_true rfl) rfl,
   s_goto (o := 56) (by decide +kernel) (by decide +kernel),
   s_iload (by decide +kernel) rfl,
   s_iconst (n := 2) (by decide +kernel) rfl rfl,
   s_aIc_lt (o := 50) (by decide +kernel) (by decide +kernel) rfl,
   s_iload (by decide +kernel) rfl,
   s_aload_n (q := 0) (by decide +kernel) rfl rfl,
   s_aGR (by decide +kernel) fl_La_18 rfl rfl,
   s_arraylength (by decide +kernel) rfl,
   s_aIc_gt (o := 40) (by decide +kernel) (by decide +kernel) rfl,
   s_aload_n (q := 0) (by decide +kernel) rfl rfl,
   s_aGR (by decide +kernel) fl_La_18 rfl rfl,
   s_iload (by decide +kernel) rfl,
   s_iconst (n := 2) (by decide +kernel) rfl rfl,
   s_isub (by decide +kernel) rfl,
   s_aload_n (q := 0) (by decide +kernel) rfl rfl,
   s_iload (by decide +kernel) rfl,
   s_ineg (by decide +kernel) rfl,
   s_aload_n (q := 0) (by decide +kernel) rfl rfl,
   s_aGR (by decide +kernel) fl_La_18 rfl rfl,
   s_iload (by decide +kernel) rfl,
   s_iconst (n := 2) (by decide +kernel) rfl rfl,
   s_isub (by decide +kernel) rfl,
   s_iaload (by decide +kernel) rfl,
   s_aload_n (q := 0) (by decide +kernel) rfl rfl,
   s_aGR (by decide +kernel) fl_La_18 rfl rfl,
   s_iload (by decide +kernel) rfl,
   s_iconst (n := 1) (by decide +kernel) rfl rfl,
   s_isub (by decide +kernel) rfl,
   s_iaload (by decide +kernel) rfl,
   ⟨⟨cs_La_joined.1, cs_La_joined.2.1, cs_La_joined.2.2.1, cs_La_joined.2.2.2, 46, (by decide +kernel), q933, q935, q22⟩, rfl⟩,
   s_iastore (by decide +kernel) rfl,
   s_iinc (q := (-1)) (by decide +kernel) rfl (Nat.le_of_ble_eq_true rfl) rfl,
   s_iinc (q := 1) (by decide +kernel) rfl (Nat.le_of_ble_eq_true rfl) rfl,
   s_goto (o := (-164)) (by decide +kernel) (by decide +kernel),
   s_aload_n (q := 0) (by decide +kernel) rfl rfl,
   s_aGR (by decide +kernel) fl_La_18 rfl rfl,
   s_iconst (n := 0) (by decide +kernel) rfl rfl,
   s_iaload (by decide +kernel) rfl,
   ⟨(by decide +kernel), rfl⟩,
   trivial⟩
def cd_La_joined : List ab_A := [.inl (aLdI 1 1), .inl (aSw 42 [10, 2, 14, 6] 14), .inl (aLdI 2 3), .inl (aLdI 3 4), .inl (a_iadd 5), .inr (.inl 1), .inl (aLdI 2 7), .inl (aLdI 3 8), .inl (a_isub 9), .inr (.inl 1), .inl (aLdI 2 11), .inl (aLdI 3 12), .inl (a_imul 13), .inr (.inl 1), .inl (aLdA 0 15), .inl (a_dup 16), .inl (aGI 2 5 17), .inl (aLdI 3 18), .inl (aIf_ne 21 19), .inl (aC (.int 1) 20), .inl (aGo 22), .inl (aC (.int 0) 22), .inl (a_ior 23), .inl (aPZ 2 5 24), .inl (aLdI 3 25), .inl (aIf_ne 28 26), .inl (aC (.int 0) 27), .inl (aGo 31), .inl (aLdI 2 29), .inl (aLdI 3 30), .inl (a_idiv 31), .inr (.inl 1)]
def m_La_joined : ab_M := (g_La_joined, cd_La_joined, [0, 1, 32, 33, 34, 35, 36, 37, 38, 39, 40, 41, 42, 43, 44, 45, 46, 49, 50, 53, 54, 57, 58, 59, 62, 63, 66, 67, 70, 71, 72, 73], [])
set_option maxRecDepth 100000 in
set_option maxHeartbeats 4000000 in
theorem ok_La_joined : ab_ok m_La_joined 0 (ab_cd m_La_joined) :=
  ⟨s_iload_n (q := 1) (by decide +kernel) rfl rfl,
   s_sw (o := 43) (hi := 45) (os := #[39, 31, 43, 35]) (ln := 31) (by decide +kernel) (by decide +kernel) (by decide +kernel) (by decide +kernel),
   s_iload_n (q := 2) (by decide +kernel) rfl rfl,
   s_iload_n (q := 3) (by decide +kernel) rfl rfl,
   s_iadd (by decide +kernel) rfl,
   ⟨(by decide +kernel), rfl⟩,
   s_iload_n (q := 2) (by decide +kernel) rfl rfl,
   s_iload_n (q := 3) (by decide +kernel) rfl rfl,
   s_isub (by decide +kernel) rfl,
   ⟨(by decide +kernel), rfl⟩,
   s_iload_n (q := 2) (by decide +kernel) rfl rfl,
   s_iload_n (q := 3) (by decide +kernel) rfl rfl,
   s_imul (by decide +kernel) rfl,
   ⟨(by decide +kernel), rfl⟩,
   s_aload_n (q := 0) (by decide +kernel) rfl rfl,
   s_dup (by decide +kernel) rfl,
   s_aGI (by decide +kernel) fl_La_28 rfl rfl,
   s_iload_n (q := 3) (by decide +kernel) rfl rfl,
   s_aIf_ne (o := 7) (by decide +kernel) (by decide +kernel) rfl,
   s_iconst (n := 1) (by decide +kernel) rfl rfl,
   s_goto (o := 4) (by decide +kernel) (by decide +kernel),
   s_iconst (n := 0) (by decide +kernel) rfl rfl,
   s_ior (by decide +kernel) rfl,
   s_aPZ (by decide +kernel) (fp_La_28 _) rfl rfl,
   s_iload_n (q := 3) (by decide +kernel) rfl rfl,
   s_aIf_ne (o := 7) (by decide +kernel) (by decide +kernel) rfl,
   s_iconst (n := 0) (by decide +kernel) rfl rfl,
   s_goto (o := 6) (by decide +kernel) (by decide +kernel),
   s_iload_n (q := 2) (by decide +kernel) rfl rfl,
   s_iload_n (q := 3) (by decide +kernel) rfl rfl,
   s_idiv (by decide +kernel) rfl,
   ⟨(by decide +kernel), rfl⟩,
   trivial⟩
def cd_Te_treatyDeed : List ab_A := [.inl (aLdA 0 1), .inl (aGR 8 6 2), .inl (aLdI 1 3), .inl (aC (.int 2) 4), .inl (a_imul 5), .inl (aLdI 2 6), .inl (a_iadd 7), .inr (.inr (.inl (4, g_SF_at, 2, 8))), .inr (.inl 1)]
def m_Te_treatyDeed : ab_M := (g_Te_treatyDeed, cd_Te_treatyDeed, [0, 1, 4, 5, 6, 7, 8, 9, 12], [])
set_option maxRecDepth 100000 in
set_option maxHeartbeats 4000000 in
theorem ok_Te_treatyDeed : ab_ok m_Te_treatyDeed 0 (ab_cd m_Te_treatyDeed) :=
  ⟨s_aload_n (q := 0) (by decide +kernel) rfl rfl,
   s_aGR (by decide +kernel) fl_Te_31 rfl rfl,
   s_iload_n (q := 1) (by decide +kernel) rfl rfl,
   s_iconst (n := 2) (by decide +kernel) rfl rfl,
   s_imul (by decide +kernel) rfl,
   s_iload_n (q := 2) (by decide +kernel) rfl rfl,
   s_iadd (by decide +kernel) rfl,
   ⟨⟨cs_SF_at.1, cs_SF_at.2.1, cs_SF_at.2.2.1, cs_SF_at.2.2.2, 73, _, (by decide +kernel), q799, q800⟩, rfl⟩,
   ⟨(by decide +kernel), rfl⟩,
   trivial⟩
def cd_Me_remember : List ab_A := [.inl (aLdA 1 1), .inl (aLdA 0 2), .inl (aGR 3 0 3), .inl (aLdA 0 4), .inl (aGI 3 3 5), .inr (.inr (.inl (0, g_Sc_copyTo, 2, 6))), .inl (aLdA 0 7), .inl (aLdA 0 8), .inl (aGI 3 3 9), .inl (aC (.int 1) 10), .inl (a_iadd 11), .inl (aC (.int 40) 12), .inl (aIc_ge 18 13), .inl (aLdA 0 14), .inl (aGI 3 3 15), .inl (aC (.int 1) 16), .inl (a_iadd 17), .inl (aGo 19), .inl (aC (.int 0) 19), .inl (aPI 3 3 20), .inl (aLdA 0 21), .inl (aLdA 0 22), .inl (aGI 3 4 23), .inl (aC (.int 1) 24), .inl (a_iadd 25), .inl (aC (.int 40) 26), .inr (.inr (.inl (1, g_JM_min, 2, 27))), .inl (aPI 3 4 28), .inr (.inl 0)]
def m_Me_remember : ab_M := (g_Me_remember, cd_Me_remember, [0, 1, 2, 5, 6, 9, 12, 13, 14, 17, 18, 19, 21, 24, 25, 28, 29, 30, 33, 34, 37, 38, 39, 42, 43, 44, 46, 49, 52], [])
set_option maxRecDepth 100000 in
set_option maxHeartbeats 4000000 in
theorem ok_Me_remember : ab_ok m_Me_remember 0 (ab_cd m_Me_remember) :=
  ⟨s_aload_n (q := 1) (by decide +kernel) rfl rfl,
   s_aload_n (q := 0) (by decide +kernel) rfl rfl,
   s_aGR (by decide +kernel) fl_Me_9 rfl rfl,
   s_aload_n (q := 0) (by decide +kernel) rfl rfl,
   s_aGI (by decide +kernel) fl_Me_22 rfl rfl,
   ⟨⟨cs_Sc_copyTo.1, cs_Sc_copyTo.2.1, cs_Sc_copyTo.2.2.1, cs_Sc_copyTo.2.2.2, 28, (by decide +kernel), q995, q996, q997⟩, rfl⟩,
   s_aload_n (q := 0) (by decide +kernel) rfl rfl,
   s_aload_n (q := 0) (by decide +kernel) rfl rfl,
   s_aGI (by decide +kernel) fl_Me_22 rfl rfl,
   s_iconst (n := 1) (by decide +kernel) rfl rfl,
   s_iadd (by decide +kernel) rfl,
   s_bipush (n := 40) (by decide +kernel) rfl rfl,
   s_aIc_ge (o := 12) (by decide +kernel) (by decide +kernel) rfl,
   s_aload_n (q := 0) (by decide +kernel) rfl rfl,
   s_aGI (by decide +kernel) fl_Me_22 rfl rfl,
   s_iconst (n := 1) (by decide +kernel) rfl rfl,
   s_iadd (by decide +kernel) rfl,
   s_goto (o := 4) (by decide +kernel) (by decide +kernel),
   s_iconst (n := 0) (by decide +kernel) rfl rfl,
   s_aPI (by decide +kernel) (fp_Me_22 _) rfl rfl,
   s_aload_n (q := 0) (by decide +kernel) rfl rfl,
   s_aload_n (q := 0) (by decide +kernel) rfl rfl,
   s_aGI (by decide +kernel) fl_Me_25 rfl rfl,
   s_iconst (n := 1) (by decide +kernel) rfl rfl,
   s_iadd (by decide +kernel) rfl,
   s_bipush (n := 40) (by decide +kernel) rfl rfl,
   ⟨⟨cs_JM_min.1, cs_JM_min.2.1, cs_JM_min.2.2.1, cs_JM_min.2.2.2, 34, (by decide +kernel), q1002, q658⟩, rfl⟩,
   s_aPI (by decide +kernel) (fp_Me_25 _) rfl rfl,
   ⟨(by decide +kernel), rfl⟩,
   trivial⟩
def cd_Sc_copyTo : List ab_A := [.inl (aLdI 2 1), .inl (aIf_lt 17 2), .inl (aLdI 2 3), .inl (aLdA 1 4), .inl (aLn 5), .inl (aC (.int 40) 6), .inl (a_idiv 7), .inl (aIc_ge 17 8), .inl (aLdA 0 9), .inl (aGR 6 0 10), .inl (aC (.int 0) 11), .inl (aLdA 1 12), .inl (aLdI 2 13), .inl (aC (.int 40) 14), .inl (a_imul 15), .inl (aC (.int 40) 16), .inl (aCp 17), .inr (.inl 0)]
def m_Sc_copyTo : ab_M := (g_Sc_copyTo, cd_Sc_copyTo, [0, 1, 4, 5, 6, 7, 9, 10, 13, 14, 17, 18, 19, 20, 22, 23, 25, 28], [])
set_option maxRecDepth 100000 in
set_option maxHeartbeats 4000000 in
theorem ok_Sc_copyTo : ab_ok m_Sc_copyTo 0 (ab_cd m_Sc_copyTo) :=
  ⟨s_iload_n (q := 2) (by decide +kernel) rfl rfl,
   s_aIf_lt (o := 27) (by decide +kernel) (by decide +kernel) rfl,
   s_iload_n (q := 2) (by decide +kernel) rfl rfl,
   s_aload_n (q := 1) (by decide +kernel) rfl rfl,
   s_arraylength (by decide +kernel) rfl,
   s_bipush (n := 40) (by decide +kernel) rfl rfl,
   s_idiv (by decide +kernel) rfl,
   s_aIc_ge (o := 18) (by decide +kernel) (by decide +kernel) rfl,
   s_aload_n (q := 0) (by decide +kernel) rfl rfl,
   s_aGR (by decide +kernel) fl_Sc_9 rfl rfl,
   s_iconst (n := 0) (by decide +kernel) rfl rfl,
   s_aload_n (q := 1) (by decide +kernel) rfl rfl,
   s_iload_n (q := 2) (by decide +kernel) rfl rfl,
   s_bipush (n := 40) (by decide +kernel) rfl rfl,
   s_imul (by decide +kernel) rfl,
   s_bipush (n := 40) (by decide +kernel) rfl rfl,
   s_copy (by decide +kernel) q999 q1001 q1000 q133 rfl,
   ⟨(by decide +kernel), rfl⟩,
   trivial⟩
def cd_Me_recall : List ab_A := [.inl (aLdA 0 1), .inl (aGI 3 4 2), .inl (aIf_ne 5 3), .inl (aC (.int 0) 4), .inr (.inl 4), .inl (aLdA 0 6), .inl (aLdA 0 7), .inl (aGI 3 3 8), .inl (aIf_le 14 9), .inl (aLdA 0 10), .inl (aGI 3 3 11), .inl (aC (.int 1) 12), .inl (a_isub 13), .inl (aGo 15), .inl (aC (.int 39) 15), .inl (aPI 3 3 16), .inl (aLdA 0 17), .inl (a_dup 18), .inl (aGI 3 4 19), .inl (aC (.int 1) 20), .inl (a_isub 21), .inl (aPI 3 4 22), .inl (aLdA 1 23), .inl (aLdA 0 24), .inl (aGR 3 0 25), .inl (aLdA 0 26), .inl (aGI 3 3 27), .inr (.inr (.inl (0, g_Sc_copyFrom, 2, 28))), .inl (aC (.int 1) 29), .inr (.inl 4)]
def m_Me_recall : ab_M := (g_Me_recall, cd_Me_recall, [0, 1, 4, 7, 8, 9, 10, 11, 14, 17, 18, 21, 22, 23, 26, 28, 31, 32, 33, 36, 37, 38, 41, 42, 43, 46, 47, 50, 53, 54], [])
set_option maxRecDepth 100000 in
set_option maxHeartbeats 4000000 in
theorem ok_Me_recall : ab_ok m_Me_recall 0 (ab_cd m_Me_recall) :=
  ⟨s_aload_n (q := 0) (by decide +kernel) rfl rfl,
   s_aGI (by decide +kernel) fl_Me_25 rfl rfl,
   s_aIf_ne (o := 5) (by decide +kernel) (by decide +kernel) rfl,
   s_iconst (n := 0) (by decide +kernel) rfl rfl,
   ⟨(by decide +kernel), rfl⟩,
   s_aload_n (q := 0) (by decide +kernel) rfl rfl,
   s_aload_n (q := 0) (by decide +kernel) rfl rfl,
   s_aGI (by decide +kernel) fl_Me_22 rfl rfl,
   s_aIf_le (o := 12) (by decide +kernel) (by decide +kernel) rfl,
   s_aload_n (q := 0) (by decide +kernel) rfl rfl,
   s_aGI (by decide +kernel) fl_Me_22 rfl rfl,
   s_iconst (n := 1) (by decide +kernel) rfl rfl,
   s_isub (by decide +kernel) rfl,
   s_goto (o := 5) (by decide +kernel) (by decide +kernel),
   s_bipush (n := 39) (by decide +kernel) rfl rfl,
   s_aPI (by decide +kernel) (fp_Me_22 _) rfl rfl,
   s_aload_n (q := 0) (by decide +kernel) rfl rfl,
   s_dup (by decide +kernel) rfl,
   s_aGI (by decide +kernel) fl_Me_25 rfl rfl,
   s_iconst (n := 1) (by decide +kernel) rfl rfl,
   s_isub (by decide +kernel) rfl,
   s_aPI (by decide +kernel) (fp_Me_25 _) rfl rfl,
   s_aload_n (q := 1) (by decide +kernel) rfl rfl,
   s_aload_n (q := 0) (by decide +kernel) rfl rfl,
   s_aGR (by decide +kernel) fl_Me_9 rfl rfl,
   s_aload_n (q := 0) (by decide +kernel) rfl rfl,
   s_aGI (by decide +kernel) fl_Me_22 rfl rfl,
   ⟨⟨cs_Sc_copyFrom.1, cs_Sc_copyFrom.2.1, cs_Sc_copyFrom.2.2.1, cs_Sc_copyFrom.2.2.2, 40, (by decide +kernel), q1046, q1047, q1048⟩, rfl⟩,
   s_iconst (n := 1) (by decide +kernel) rfl rfl,
   ⟨(by decide +kernel), rfl⟩,
   trivial⟩
def cd_Sc_copyFrom : List ab_A := [.inl (aLdI 2 1), .inl (aIf_lt 23 2), .inl (aLdI 2 3), .inl (aLdA 1 4), .inl (aLn 5), .inl (aC (.int 40) 6), .inl (a_idiv 7), .inl (aIc_ge 23 8), .inl (aLdA 1 9), .inl (aLdI 2 10), .inl (aC (.int 40) 11), .inl (a_imul 12), .inl (aLdA 0 13), .inl (aGR 6 0 14), .inl (aC (.int 0) 15), .inl (aC (.int 40) 16), .inl (aCp 17), .inl (aLdA 0 18), .inl (a_dup 19), .inl (aGI 6 1 20), .inl (aC (.int 1) 21), .inl (a_iadd 22), .inl (aPI 6 1 23), .inr (.inl 0)]
def m_Sc_copyFrom : ab_M := (g_Sc_copyFrom, cd_Sc_copyFrom, [0, 1, 4, 5, 6, 7, 9, 10, 13, 14, 15, 17, 18, 19, 22, 23, 25, 28, 29, 30, 33, 34, 35, 38], [])
set_option maxRecDepth 100000 in
set_option maxHeartbeats 4000000 in
theorem ok_Sc_copyFrom : ab_ok m_Sc_copyFrom 0 (ab_cd m_Sc_copyFrom) :=
  ⟨s_iload_n (q := 2) (by decide +kernel) rfl rfl,
   s_aIf_lt (o := 37) (by decide +kernel) (by decide +kernel) rfl,
   s_iload_n (q := 2) (by decide +kernel) rfl rfl,
   s_aload_n (q := 1) (by decide +kernel) rfl rfl,
   s_arraylength (by decide +kernel) rfl,
   s_bipush (n := 40) (by decide +kernel) rfl rfl,
   s_idiv (by decide +kernel) rfl,
   s_aIc_ge (o := 28) (by decide +kernel) (by decide +kernel) rfl,
   s_aload_n (q := 1) (by decide +kernel) rfl rfl,
   s_iload_n (q := 2) (by decide +kernel) rfl rfl,
   s_bipush (n := 40) (by decide +kernel) rfl rfl,
   s_imul (by decide +kernel) rfl,
   s_aload_n (q := 0) (by decide +kernel) rfl rfl,
   s_aGR (by decide +kernel) fl_Sc_9 rfl rfl,
   s_iconst (n := 0) (by decide +kernel) rfl rfl,
   s_bipush (n := 40) (by decide +kernel) rfl rfl,
   s_copy (by decide +kernel) q999 q1001 q1000 q133 rfl,
   s_aload_n (q := 0) (by decide +kernel) rfl rfl,
   s_dup (by decide +kernel) rfl,
   s_aGI (by decide +kernel) fl_Sc_15 rfl rfl,
   s_iconst (n := 1) (by decide +kernel) rfl rfl,
   s_iadd (by decide +kernel) rfl,
   s_aPI (by decide +kernel) (fp_Sc_15 _) rfl rfl,
   ⟨(by decide +kernel), rfl⟩,
   trivial⟩
def cd_JM_floorDiv : List ab_A := [.inl (aLdI 0 1), .inl (aLdI 1 2), .inl (a_idiv 3), .inl (aStI 2 4), .inl (aLdI 0 5), .inl (aLdI 1 6), .inl (a_ixor 7), .inl (aIf_ge 17 8), .inl (aLdI 2 9), .inl (aLdI 1 10), .inl (a_imul 11), .inl (aLdI 0 12), .inl (aIc_eq 17 13), .inl (aLdI 2 14), .inl (aC (.int 1) 15), .inl (a_isub 16), .inr (.inl 1), .inl (aLdI 2 18), .inr (.inl 1)]
def m_JM_floorDiv : ab_M := (g_JM_floorDiv, cd_JM_floorDiv, [0, 1, 2, 3, 4, 5, 6, 7, 10, 11, 12, 13, 14, 17, 18, 19, 20, 21, 22], [])
set_option maxRecDepth 100000 in
set_option maxHeartbeats 4000000 in
theorem ok_JM_floorDiv : ab_ok m_JM_floorDiv 0 (ab_cd m_JM_floorDiv) :=
  ⟨s_iload_n (q := 0) (by decide +kernel) rfl rfl,
   s_iload_n (q := 1) (by decide +kernel) rfl rfl,
   s_idiv (by decide +kernel) rfl,
   s_istore_n (q := 2) (by decide +kernel) rfl (Nat.le_of_ble_eq_true rfl) rfl,
   s_iload_n (q := 0) (by decide +kernel) rfl rfl,
   s_iload_n (q := 1) (by decide +kernel) rfl rfl,
   s_ixor (by decide +kernel) rfl,
   s_aIf_ge (o := 14) (by decide +kernel) (by decide +kernel) rfl,
   s_iload_n (q := 2) (by decide +kernel) rfl rfl,
   s_iload_n (q := 1) (by decide +kernel) rfl rfl,
   s_imul (by decide +kernel) rfl,
   s_iload_n (q := 0) (by decide +kernel) rfl rfl,
   s_aIc_eq (o := 7) (by decide +kernel) (by decide +kernel) rfl,
   s_iload_n (q := 2) (by decide +kernel) rfl rfl,
   s_iconst (n := 1) (by decide +kernel) rfl rfl,
   s_isub (by decide +kernel) rfl,
   ⟨(by decide +kernel), rfl⟩,
   s_iload_n (q := 2) (by decide +kernel) rfl rfl,
   ⟨(by decide +kernel), rfl⟩,
   trivial⟩
def cd_JM_abs : List ab_A := [.inl (aLdI 0 1), .inl (aIf_ge 5 2), .inl (aLdI 0 3), .inl (a_ineg 4), .inl (aGo 6), .inl (aLdI 0 6), .inr (.inl 1)]
def m_JM_abs : ab_M := (g_JM_abs, cd_JM_abs, [0, 1, 4, 5, 6, 9, 10], [])
set_option maxRecDepth 100000 in
set_option maxHeartbeats 4000000 in
theorem ok_JM_abs : ab_ok m_JM_abs 0 (ab_cd m_JM_abs) :=
  ⟨s_iload_n (q := 0) (by decide +kernel) rfl rfl,
   s_aIf_ge (o := 8) (by decide +kernel) (by decide +kernel) rfl,
   s_iload_n (q := 0) (by decide +kernel) rfl rfl,
   s_ineg (by decide +kernel) rfl,
   s_goto (o := 4) (by decide +kernel) (by decide +kernel),
   s_iload_n (q := 0) (by decide +kernel) rfl rfl,
   ⟨(by decide +kernel), rfl⟩,
   trivial⟩
def cd_Tl_add : List ab_A := [.inl (aLdA 0 1), .inl (aGI 10 3 2), .inl (aIf_lt 7 3), .inl (aLdA 0 4), .inl (aGI 10 3 5), .inl (aC (.int 20) 6), .inl (aIc_lt 9 7), .inl (aC (.int (-1)) 8), .inr (.inl 1), .inl (aLdA 0 10), .inl (aGR 10 0 11), .inl (aLdA 0 12), .inl (aGI 10 3 13), .inl (aLdI 1 14), .inl (aIS 15), .inl (aLdA 0 16), .inl (aGR 10 1 17), .inl (aLdA 0 18), .inl (aGI 10 3 19), .inl (aLdI 2 20), .inl (aIS 21), .inl (aLdA 0 22), .inl (aGR 10 2 23), .inl (aLdA 0 24), .inl (aGI 10 3 25), .inl (aLdI 3 26), .inl (aBS 27), .inl (aLdA 0 28), .inl (a_dup 29), .inl (aGI 10 3 30), .inl (aC (.int 1) 31), .inl (a_iadd 32), .inl (aPI 10 3 33), .inl (aLdA 0 34), .inl (aGI 10 3 35), .inl (aC (.int 1) 36), .inl (a_isub 37), .inr (.inl 1)]
def m_Tl_add : ab_M := (g_Tl_add, cd_Tl_add, [0, 1, 4, 7, 8, 11, 13, 16, 17, 18, 19, 22, 23, 26, 27, 28, 29, 32, 33, 36, 37, 38, 39, 42, 43, 46, 47, 48, 49, 50, 53, 54, 55, 58, 59, 62, 63, 64], [])
set_option maxRecDepth 100000 in
set_option maxHeartbeats 4000000 in
theorem ok_Tl_add : ab_ok m_Tl_add 0 (ab_cd m_Tl_add) :=
  ⟨s_aload_n (q := 0) (by decide +kernel) rfl rfl,
   s_aGI (by decide +kernel) fl_Tl_22 rfl rfl,
   s_aIf_lt (o := 12) (by decide +kernel) (by decide +kernel) rfl,
   s_aload_n (q := 0) (by decide +kernel) rfl rfl,
   s_aGI (by decide +kernel) fl_Tl_22 rfl rfl,
   s_bipush (n := 20) (by decide +kernel) rfl rfl,
   s_aIc_lt (o := 5) (by decide +kernel) (by decide +kernel) rfl,
   s_iconst (n := (-1)) (by decide +kernel) rfl rfl,
   ⟨(by decide +kernel), rfl⟩,
   s_aload_n (q := 0) (by decide +kernel) rfl rfl,
   s_aGR (by decide +kernel) fl_Tl_9 rfl rfl,
   s_aload_n (q := 0) (by decide +kernel) rfl rfl,
   s_aGI (by decide +kernel) fl_Tl_22 rfl rfl,
   s_iload_n (q := 1) (by decide +kernel) rfl rfl,
   s_iastore (by decide +kernel) rfl,
   s_aload_n (q := 0) (by decide +kernel) rfl rfl,
   s_aGR (by decide +kernel) fl_Tl_15 rfl rfl,
   s_aload_n (q := 0) (by decide +kernel) rfl rfl,
   s_aGI (by decide +kernel) fl_Tl_22 rfl rfl,
   s_iload_n (q := 2) (by decide +kernel) rfl rfl,
   s_iastore (by decide +kernel) rfl,
   s_aload_n (q := 0) (by decide +kernel) rfl rfl,
   s_aGR (by decide +kernel) fl_Tl_18 rfl rfl,
   s_aload_n (q := 0) (by decide +kernel) rfl rfl,
   s_aGI (by decide +kernel) fl_Tl_22 rfl rfl,
   s_iload_n (q := 3) (by decide +kernel) rfl rfl,
   s_bastore (by decide +kernel) rfl,
   s_aload_n (q := 0) (by decide +kernel) rfl rfl,
   s_dup (by decide +kernel) rfl,
   s_aGI (by decide +kernel) fl_Tl_22 rfl rfl,
   s_iconst (n := 1) (by decide +kernel) rfl rfl,
   s_iadd (by decide +kernel) rfl,
   s_aPI (by decide +kernel) (fp_Tl_22 _) rfl rfl,
   s_aload_n (q := 0) (by decide +kernel) rfl rfl,
   s_aGI (by decide +kernel) fl_Tl_22 rfl rfl,
   s_iconst (n := 1) (by decide +kernel) rfl rfl,
   s_isub (by decide +kernel) rfl,
   ⟨(by decide +kernel), rfl⟩,
   trivial⟩
def cd_Tl_isKnown : List ab_A := [.inl (aLdI 1 1), .inl (aIf_lt 8 2), .inl (aLdI 1 3), .inl (aLdA 0 4), .inl (aGI 10 3 5), .inl (aIc_gt 8 6), .inl (aC (.int 1) 7), .inl (aGo 9), .inl (aC (.int 0) 9), .inr (.inl 4)]
def m_Tl_isKnown : ab_M := (g_Tl_isKnown, cd_Tl_isKnown, [0, 1, 4, 5, 6, 9, 12, 13, 16, 17], [])
set_option maxRecDepth 100000 in
set_option maxHeartbeats 4000000 in
theorem ok_Tl_isKnown : ab_ok m_Tl_isKnown 0 (ab_cd m_Tl_isKnown) :=
  ⟨s_iload_n (q := 1) (by decide +kernel) rfl rfl,
   s_aIf_lt (o := 15) (by decide +kernel) (by decide +kernel) rfl,
   s_iload_n (q := 1) (by decide +kernel) rfl rfl,
   s_aload_n (q := 0) (by decide +kernel) rfl rfl,
   s_aGI (by decide +kernel) fl_Tl_22 rfl rfl,
   s_aIc_gt (o := 7) (by decide +kernel) (by decide +kernel) rfl,
   s_iconst (n := 1) (by decide +kernel) rfl rfl,
   s_goto (o := 4) (by decide +kernel) (by decide +kernel),
   s_iconst (n := 0) (by decide +kernel) rfl rfl,
   ⟨(by decide +kernel), rfl⟩,
   trivial⟩
def cd_Tl_fits : List ab_A := [.inl (aC (.int 0) 1), .inl (aStI 3 2), .inl (aLdI 3 3), .inl (aLdI 1 4), .inl (aIc_ge 33 5), .inl (aLdI 3 6), .inl (aC (.int 20) 7), .inl (aIc_ge 33 8), .inl (aLdA 2 9), .inl (aLdA 0 10), .inl (aGR 10 0 11), .inl (aLdI 3 12), .inl (aIA 13), .inr (.inr (.inl (4, g_SF_at, 2, 14))), .inl (aLdA 0 15), .inl (aGR 10 1 16), .inl (aLdI 3 17), .inl (aIA 18), .inl (aIc_lt 21 19), .inl (aC (.int 1) 20), .inl (aGo 22), .inl (aC (.int 0) 22), .inl (aStI 4 23), .inl (aLdI 4 24), .inl (aLdA 0 25), .inl (aGR 10 2 26), .inl (aLdI 3 27), .inl (aBA 28), .inl (aIc_eq 31 29), .inl (aC (.int 0) 30), .inr (.inl 4), .inl (aInc 3 1 32), .inl (aGo 2), .inl (aC (.int 1) 34), .inr (.inl 4)]
def m_Tl_fits : ab_M := (g_Tl_fits, cd_Tl_fits, [0, 1, 2, 3, 4, 7, 8, 10, 13, 14, 15, 18, 19, 20, 23, 24, 27, 28, 29, 32, 33, 36, 37, 39, 41, 42, 45, 46, 47, 50, 51, 52, 55, 58, 59], [(2, [true, true, true, true, false])])
set_option maxRecDepth 100000 in
set_option maxHeartbeats 4000000 in
theorem ok_Tl_fits : ab_ok m_Tl_fits 0 (ab_cd m_Tl_fits) :=
  ⟨s_iconst (n := 0) (by decide +kernel) rfl rfl,
   s_istore_n (q := 3) (by decide +kernel) rfl (Nat.le_of_ble_eq_true rfl) rfl,
   s_iload_n (q := 3) (by decide +kernel) rfl rfl,
   s_iload_n (q := 1) (by decide +kernel) rfl rfl,
   s_aIc_ge (o := 54) (by decide +kernel) (by decide +kernel) rfl,
   s_iload_n (q := 3) (by decide +kernel) rfl rfl,
   s_bipush (n := 20) (by decide +kernel) rfl rfl,
   s_aIc_ge (o := 48) (by decide +kernel) (by decide +kernel) rfl,
   s_aload_n (q := 2) (by decide +kernel) rfl rfl,
   s_aload_n (q := 0) (by decide +kernel) rfl rfl,
   s_aGR (by decide +kernel) fl_Tl_9 rfl rfl,
   s_iload_n (q := 3) (by decide +kernel) rfl rfl,
   s_iaload (by decide +kernel) rfl,
   ⟨⟨cs_SF_at.1, cs_SF_at.2.1, cs_SF_at.2.2.1, cs_SF_at.2.2.2, 26, _, (by decide +kernel), q1366, q800⟩, rfl⟩,
   s_aload_n (q := 0) (by decide +kernel) rfl rfl,
   s_aGR (by decide +kernel) fl_Tl_15 rfl rfl,
   s_iload_n (q := 3) (by decide +kernel) rfl rfl,
   s_iaload (by decide +kernel) rfl,
   s_aIc_lt (o := 7) (by decide +kernel) (by decide +kernel) rfl,
   s_iconst (n := 1) (by decide +kernel) rfl rfl,
   s_goto (o := 4) (by decide +kernel) (by decide +kernel),
   s_iconst (n := 0) (by decide +kernel) rfl rfl,
   s_istore (by decide +kernel) (Nat.le_of_ble_eq_true rfl) rfl,
   s_iload (by decide +kernel) rfl,
   s_aload_n (q := 0) (by decide +kernel) rfl rfl,
   s_aGR (by decide +kernel) fl_Tl_18 rfl rfl,
   s_iload_n (q := 3) (by decide +kernel) rfl rfl,
   s_baload (by decide +kernel) rfl,
   s_aIc_eq (o := 5) (by decide +kernel) (by decide +kernel) rfl,
   s_iconst (n := 0) (by decide +kernel) rfl rfl,
   ⟨(by decide +kernel), rfl⟩,
   s_iinc (q := 1) (by decide +kernel) rfl (Nat.le_of_ble_eq_true rfl) rfl,
   s_goto (o := (-53)) (by decide +kernel) (by decide +kernel),
   s_iconst (n := 1) (by decide +kernel) rfl rfl,
   ⟨(by decide +kernel), rfl⟩,
   trivial⟩
def cd_Me_fillSlot : List ab_A := [.inl (aLdI 1 1), .inl (aIf_lt 5 2), .inl (aLdI 1 3), .inl (aC (.int 3) 4), .inl (aIc_lt 7 5), .inl (aC (.int 0) 6), .inr (.inl 4), .inl (aLdA 2 8), .inl (aLdA 0 9), .inl (aGR 3 1 10), .inl (aLdI 1 11), .inr (.inr (.inl (0, g_Sc_copyTo, 2, 12))), .inl (aLdA 0 13), .inl (a_dup 14), .inl (aGI 3 2 15), .inl (aC (.int 1) 16), .inl (aLdI 1 17), .inl (a_ishl 18), .inl (a_ior 19), .inl (aPI 3 2 20), .inl (aC (.int 1) 21), .inr (.inl 4)]
def m_Me_fillSlot : ab_M := (g_Me_fillSlot, cd_Me_fillSlot, [0, 1, 4, 5, 6, 9, 10, 11, 12, 13, 16, 17, 20, 21, 22, 25, 26, 27, 28, 29, 32, 33], [])
set_option maxRecDepth 100000 in
set_option maxHeartbeats 4000000 in
theorem ok_Me_fillSlot : ab_ok m_Me_fillSlot 0 (ab_cd m_Me_fillSlot) :=
  ⟨s_iload_n (q := 1) (by decide +kernel) rfl rfl,
   s_aIf_lt (o := 8) (by decide +kernel) (by decide +kernel) rfl,
   s_iload_n (q := 1) (by decide +kernel) rfl rfl,
   s_iconst (n := 3) (by decide +kernel) rfl rfl,
   s_aIc_lt (o := 5) (by decide +kernel) (by decide +kernel) rfl,
   s_iconst (n := 0) (by decide +kernel) rfl rfl,
   ⟨(by decide +kernel), rfl⟩,
   s_aload_n (q := 2) (by decide +kernel) rfl rfl,
   s_aload_n (q := 0) (by decide +kernel) rfl rfl,
   s_aGR (by decide +kernel) fl_Me_15 rfl rfl,
   s_iload_n (q := 1) (by decide +kernel) rfl rfl,
   ⟨⟨cs_Sc_copyTo.1, cs_Sc_copyTo.2.1, cs_Sc_copyTo.2.2.1, cs_Sc_copyTo.2.2.2, 28, (by decide +kernel), q995, q996, q997⟩, rfl⟩,
   s_aload_n (q := 0) (by decide +kernel) rfl rfl,
   s_dup (by decide +kernel) rfl,
   s_aGI (by decide +kernel) fl_Me_18 rfl rfl,
   s_iconst (n := 1) (by decide +kernel) rfl rfl,
   s_iload_n (q := 1) (by decide +kernel) rfl rfl,
   s_ishl (by decide +kernel) rfl,
   s_ior (by decide +kernel) rfl,
   s_aPI (by decide +kernel) (fp_Me_18 _) rfl rfl,
   s_iconst (n := 1) (by decide +kernel) rfl rfl,
   ⟨(by decide +kernel), rfl⟩,
   trivial⟩
def cd_Me_takeSlot : List ab_A := [.inl (aLdI 1 1), .inl (aIf_lt 10 2), .inl (aLdI 1 3), .inl (aC (.int 3) 4), .inl (aIc_ge 10 5), .inl (aLdA 0 6), .inl (aGI 3 2 7), .inl (aLdI 1 8), .inr (.inr (.inl (4, g_SF_hasBit, 2, 9))), .inl (aIf_ne 12 10), .inl (aC (.int 0) 11), .inr (.inl 4), .inl (aLdA 2 13), .inl (aLdA 0 14), .inl (aGR 3 1 15), .inl (aLdI 1 16), .inr (.inr (.inl (0, g_Sc_copyFrom, 2, 17))), .inl (aLdA 0 18), .inl (aC (.int 0) 19), .inl (aPI 3 4 20), .inl (aC (.int 1) 21), .inr (.inl 4)]
def m_Me_takeSlot : ab_M := (g_Me_takeSlot, cd_Me_takeSlot, [0, 1, 4, 5, 6, 9, 10, 13, 14, 17, 20, 21, 22, 23, 24, 27, 28, 31, 32, 33, 36, 37], [])
set_option maxRecDepth 100000 in
set_option maxHeartbeats 4000000 in
theorem ok_Me_takeSlot : ab_ok m_Me_takeSlot 0 (ab_cd m_Me_takeSlot) :=
  ⟨s_iload_n (q := 1) (by decide +kernel) rfl rfl,
   s_aIf_lt (o := 19) (by decide +kernel) (by decide +kernel) rfl,
   s_iload_n (q := 1) (by decide +kernel) rfl rfl,
   s_iconst (n := 3) (by decide +kernel) rfl rfl,
   s_aIc_ge (o := 14) (by decide +kernel) (by decide +kernel) rfl,
   s_aload_n (q := 0) (by decide +kernel) rfl rfl,
   s_aGI (by decide +kernel) fl_Me_18 rfl rfl,
   s_iload_n (q := 1) (by decide +kernel) rfl rfl,
   ⟨⟨cs_SF_hasBit.1, cs_SF_hasBit.2.1, cs_SF_hasBit.2.2.1, cs_SF_hasBit.2.2.2, 43, _, (by decide +kernel), q1392, q1067⟩, rfl⟩,
   s_aIf_ne (o := 5) (by decide +kernel) (by decide +kernel) rfl,
   s_iconst (n := 0) (by decide +kernel) rfl rfl,
   ⟨(by decide +kernel), rfl⟩,
   s_aload_n (q := 2) (by decide +kernel) rfl rfl,
   s_aload_n (q := 0) (by decide +kernel) rfl rfl,
   s_aGR (by decide +kernel) fl_Me_15 rfl rfl,
   s_iload_n (q := 1) (by decide +kernel) rfl rfl,
   ⟨⟨cs_Sc_copyFrom.1, cs_Sc_copyFrom.2.1, cs_Sc_copyFrom.2.2.1, cs_Sc_copyFrom.2.2.2, 40, (by decide +kernel), q1046, q1047, q1048⟩, rfl⟩,
   s_aload_n (q := 0) (by decide +kernel) rfl rfl,
   s_iconst (n := 0) (by decide +kernel) rfl rfl,
   s_aPI (by decide +kernel) (fp_Me_25 _) rfl rfl,
   s_iconst (n := 1) (by decide +kernel) rfl rfl,
   ⟨(by decide +kernel), rfl⟩,
   trivial⟩
def cd_Me_slotsFull : List ab_A := [.inl (aLdA 0 1), .inl (aGI 3 2 2), .inr (.inr (.inl (1, g_JI_bitCount, 1, 3))), .inr (.inl 1)]
def m_Me_slotsFull : ab_M := (g_Me_slotsFull, cd_Me_slotsFull, [0, 1, 4, 7], [])
set_option maxRecDepth 100000 in
set_option maxHeartbeats 4000000 in
theorem ok_Me_slotsFull : ab_ok m_Me_slotsFull 0 (ab_cd m_Me_slotsFull) :=
  ⟨s_aload_n (q := 0) (by decide +kernel) rfl rfl,
   s_aGI (by decide +kernel) fl_Me_18 rfl rfl,
   ⟨⟨cs_JI_bitCount.1, cs_JI_bitCount.2.1, cs_JI_bitCount.2.2.1, cs_JI_bitCount.2.2.2, 47, (by decide +kernel), q1407, q871⟩, rfl⟩,
   ⟨(by decide +kernel), rfl⟩,
   trivial⟩
