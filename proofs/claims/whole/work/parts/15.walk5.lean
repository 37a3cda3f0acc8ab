theorem dX11_takeRead_0 : decode cX11_takeRead 0 = .ok (.aload_n 0, 1) := by decide +kernel
theorem dX11_takeRead_1 : decode cX11_takeRead 1 = .ok (.aload_n 0, 1) := by decide +kernel
theorem dX11_takeRead_2 : decode cX11_takeRead 2 = .ok (.getfield 136, 3) := by decide +kernel
theorem dX11_takeRead_5 : decode cX11_takeRead 5 = .ok (.putfield 90, 3) := by decide +kernel
theorem dX11_takeRead_8 : decode cX11_takeRead 8 = .ok (.aload_n 0, 1) := by decide +kernel
theorem dX11_takeRead_9 : decode cX11_takeRead 9 = .ok (.aload_n 0, 1) := by decide +kernel
theorem dX11_takeRead_10 : decode cX11_takeRead 10 = .ok (.getfield 139, 3) := by decide +kernel
theorem dX11_takeRead_13 : decode cX11_takeRead 13 = .ok (.putfield 165, 3) := by decide +kernel
theorem dX11_takeRead_16 : decode cX11_takeRead 16 = .ok (.aload_n 0, 1) := by decide +kernel
theorem dX11_takeRead_17 : decode cX11_takeRead 17 = .ok (.aload_n 0, 1) := by decide +kernel
theorem dX11_takeRead_18 : decode cX11_takeRead 18 = .ok (.getfield 142, 3) := by decide +kernel
theorem dX11_takeRead_21 : decode cX11_takeRead 21 = .ok (.putfield 93, 3) := by decide +kernel
theorem dX11_takeRead_24 : decode cX11_takeRead 24 = .ok (.aload_n 0, 1) := by decide +kernel
theorem dX11_takeRead_25 : decode cX11_takeRead 25 = .ok (.aload_n 0, 1) := by decide +kernel
theorem dX11_takeRead_26 : decode cX11_takeRead 26 = .ok (.getfield 145, 3) := by decide +kernel
theorem dX11_takeRead_29 : decode cX11_takeRead 29 = .ok (.putfield 100, 3) := by decide +kernel
theorem dX11_takeRead_32 : decode cX11_takeRead 32 = .ok (.iconst 0, 1) := by decide +kernel
theorem dX11_takeRead_33 : decode cX11_takeRead 33 = .ok (.istore_n 1, 1) := by decide +kernel
theorem dX11_takeRead_34 : decode cX11_takeRead 34 = .ok (.iload_n 1, 1) := by decide +kernel
theorem dX11_takeRead_35 : decode cX11_takeRead 35 = .ok (.bipush 70, 2) := by decide +kernel
theorem dX11_takeRead_37 : decode cX11_takeRead 37 = .ok (.if_icmp .ge 16, 3) := by decide +kernel
theorem dX11_takeRead_40 : decode cX11_takeRead 40 = .ok (.aload_n 0, 1) := by decide +kernel
theorem dX11_takeRead_41 : decode cX11_takeRead 41 = .ok (.getfield 22, 3) := by decide +kernel
theorem dX11_takeRead_44 : decode cX11_takeRead 44 = .ok (.iload_n 1, 1) := by decide +kernel
theorem dX11_takeRead_45 : decode cX11_takeRead 45 = .ok (.iconst 0, 1) := by decide +kernel
theorem dX11_takeRead_46 : decode cX11_takeRead 46 = .ok (.iastore, 1) := by decide +kernel
theorem dX11_takeRead_47 : decode cX11_takeRead 47 = .ok (.iinc 1 1, 3) := by decide +kernel
theorem dX11_takeRead_50 : decode cX11_takeRead 50 = .ok (.goto (-16), 3) := by decide +kernel
theorem dX11_takeRead_53 : decode cX11_takeRead 53 = .ok (.aload_n 0, 1) := by decide +kernel
theorem dX11_takeRead_54 : decode cX11_takeRead 54 = .ok (.getfield 22, 3) := by decide +kernel
theorem dX11_takeRead_57 : decode cX11_takeRead 57 = .ok (.iconst 1, 1) := by decide +kernel
theorem dX11_takeRead_58 : decode cX11_takeRead 58 = .ok (.aload_n 0, 1) := by decide +kernel
theorem dX11_takeRead_59 : decode cX11_takeRead 59 = .ok (.getfield 139, 3) := by decide +kernel
theorem dX11_takeRead_62 : decode cX11_takeRead 62 = .ok (.iastore, 1) := by decide +kernel
theorem dX11_takeRead_63 : decode cX11_takeRead 63 = .ok (.iconst 0, 1) := by decide +kernel
theorem dX11_takeRead_64 : decode cX11_takeRead 64 = .ok (.istore_n 1, 1) := by decide +kernel
theorem dX11_takeRead_65 : decode cX11_takeRead 65 = .ok (.iload_n 1, 1) := by decide +kernel
theorem dX11_takeRead_66 : decode cX11_takeRead 66 = .ok (.bipush 6, 2) := by decide +kernel
theorem dX11_takeRead_68 : decode cX11_takeRead 68 = .ok (.if_icmp .ge 21, 3) := by decide +kernel
theorem dX11_takeRead_71 : decode cX11_takeRead 71 = .ok (.aload_n 0, 1) := by decide +kernel
theorem dX11_takeRead_72 : decode cX11_takeRead 72 = .ok (.getfield 7, 3) := by decide +kernel
theorem dX11_takeRead_75 : decode cX11_takeRead 75 = .ok (.iload_n 1, 1) := by decide +kernel
theorem dX11_takeRead_76 : decode cX11_takeRead 76 = .ok (.aload_n 0, 1) := by decide +kernel
theorem dX11_takeRead_77 : decode cX11_takeRead 77 = .ok (.getfield 47, 3) := by decide +kernel
theorem dX11_takeRead_80 : decode cX11_takeRead 80 = .ok (.iload_n 1, 1) := by decide +kernel
theorem dX11_takeRead_81 : decode cX11_takeRead 81 = .ok (.iaload, 1) := by decide +kernel
theorem dX11_takeRead_82 : decode cX11_takeRead 82 = .ok (.iastore, 1) := by decide +kernel
theorem dX11_takeRead_83 : decode cX11_takeRead 83 = .ok (.iinc 1 1, 3) := by decide +kernel
theorem dX11_takeRead_86 : decode cX11_takeRead 86 = .ok (.goto (-21), 3) := by decide +kernel
theorem dX11_takeRead_89 : decode cX11_takeRead 89 = .ok (.iconst 0, 1) := by decide +kernel
theorem dX11_takeRead_90 : decode cX11_takeRead 90 = .ok (.istore_n 1, 1) := by decide +kernel
theorem dX11_takeRead_91 : decode cX11_takeRead 91 = .ok (.iload_n 1, 1) := by decide +kernel
theorem dX11_takeRead_92 : decode cX11_takeRead 92 = .ok (.bipush 30, 2) := by decide +kernel
theorem dX11_takeRead_94 : decode cX11_takeRead 94 = .ok (.if_icmp .ge 49, 3) := by decide +kernel
theorem dX11_takeRead_97 : decode cX11_takeRead 97 = .ok (.aload_n 0, 1) := by decide +kernel
theorem dX11_takeRead_98 : decode cX11_takeRead 98 = .ok (.getfield 13, 3) := by decide +kernel
theorem dX11_takeRead_101 : decode cX11_takeRead 101 = .ok (.iload_n 1, 1) := by decide +kernel
theorem dX11_takeRead_102 : decode cX11_takeRead 102 = .ok (.iload_n 1, 1) := by decide +kernel
theorem dX11_takeRead_103 : decode cX11_takeRead 103 = .ok (.iconst 5, 1) := by decide +kernel
theorem dX11_takeRead_104 : decode cX11_takeRead 104 = .ok (.aload_n 0, 1) := by decide +kernel
theorem dX11_takeRead_105 : decode cX11_takeRead 105 = .ok (.getfield 93, 3) := by decide +kernel
theorem dX11_takeRead_108 : decode cX11_takeRead 108 = .ok (.imul, 1) := by decide +kernel
theorem dX11_takeRead_109 : decode cX11_takeRead 109 = .ok (.if_icmp .ge 12, 3) := by decide +kernel
theorem dX11_takeRead_112 : decode cX11_takeRead 112 = .ok (.aload_n 0, 1) := by decide +kernel
theorem dX11_takeRead_113 : decode cX11_takeRead 113 = .ok (.getfield 50, 3) := by decide +kernel
theorem dX11_takeRead_116 : decode cX11_takeRead 116 = .ok (.iload_n 1, 1) := by decide +kernel
theorem dX11_takeRead_117 : decode cX11_takeRead 117 = .ok (.iaload, 1) := by decide +kernel
theorem dX11_takeRead_118 : decode cX11_takeRead 118 = .ok (.goto 4, 3) := by decide +kernel
theorem dX11_takeRead_121 : decode cX11_takeRead 121 = .ok (.iconst 0, 1) := by decide +kernel
theorem dX11_takeRead_122 : decode cX11_takeRead 122 = .ok (.iastore, 1) := by decide +kernel
theorem dX11_takeRead_123 : decode cX11_takeRead 123 = .ok (.aload_n 0, 1) := by decide +kernel
theorem dX11_takeRead_124 : decode cX11_takeRead 124 = .ok (.getfield 22, 3) := by decide +kernel
theorem dX11_takeRead_127 : decode cX11_takeRead 127 = .ok (.iconst 4, 1) := by decide +kernel
theorem dX11_takeRead_128 : decode cX11_takeRead 128 = .ok (.iload_n 1, 1) := by decide +kernel
theorem dX11_takeRead_129 : decode cX11_takeRead 129 = .ok (.iadd, 1) := by decide +kernel
theorem dX11_takeRead_130 : decode cX11_takeRead 130 = .ok (.aload_n 0, 1) := by decide +kernel
theorem dX11_takeRead_131 : decode cX11_takeRead 131 = .ok (.getfield 13, 3) := by decide +kernel
theorem dX11_takeRead_134 : decode cX11_takeRead 134 = .ok (.iload_n 1, 1) := by decide +kernel
theorem dX11_takeRead_135 : decode cX11_takeRead 135 = .ok (.iaload, 1) := by decide +kernel
theorem dX11_takeRead_136 : decode cX11_takeRead 136 = .ok (.iastore, 1) := by decide +kernel
theorem dX11_takeRead_137 : decode cX11_takeRead 137 = .ok (.iinc 1 1, 3) := by decide +kernel
theorem dX11_takeRead_140 : decode cX11_takeRead 140 = .ok (.goto (-49), 3) := by decide +kernel
theorem dX11_takeRead_143 : decode cX11_takeRead 143 = .ok (.iconst 0, 1) := by decide +kernel
theorem dX11_takeRead_144 : decode cX11_takeRead 144 = .ok (.istore_n 1, 1) := by decide +kernel
theorem dX11_takeRead_145 : decode cX11_takeRead 145 = .ok (.iload_n 1, 1) := by decide +kernel
theorem dX11_takeRead_146 : decode cX11_takeRead 146 = .ok (.bipush 8, 2) := by decide +kernel
theorem dX11_takeRead_148 : decode cX11_takeRead 148 = .ok (.if_icmp .ge 33, 3) := by decide +kernel
theorem dX11_takeRead_151 : decode cX11_takeRead 151 = .ok (.aload_n 0, 1) := by decide +kernel
theorem dX11_takeRead_152 : decode cX11_takeRead 152 = .ok (.getfield 16, 3) := by decide +kernel
theorem dX11_takeRead_155 : decode cX11_takeRead 155 = .ok (.iload_n 1, 1) := by decide +kernel
theorem dX11_takeRead_156 : decode cX11_takeRead 156 = .ok (.aload_n 0, 1) := by decide +kernel
theorem dX11_takeRead_157 : decode cX11_takeRead 157 = .ok (.getfield 53, 3) := by decide +kernel
theorem dX11_takeRead_160 : decode cX11_takeRead 160 = .ok (.iload_n 1, 1) := by decide +kernel
theorem dX11_takeRead_161 : decode cX11_takeRead 161 = .ok (.iaload, 1) := by decide +kernel
theorem dX11_takeRead_162 : decode cX11_takeRead 162 = .ok (.iastore, 1) := by decide +kernel
theorem dX11_takeRead_163 : decode cX11_takeRead 163 = .ok (.aload_n 0, 1) := by decide +kernel
theorem dX11_takeRead_164 : decode cX11_takeRead 164 = .ok (.getfield 19, 3) := by decide +kernel
theorem dX11_takeRead_167 : decode cX11_takeRead 167 = .ok (.iload_n 1, 1) := by decide +kernel
theorem dX11_takeRead_168 : decode cX11_takeRead 168 = .ok (.aload_n 0, 1) := by decide +kernel
theorem dX11_takeRead_169 : decode cX11_takeRead 169 = .ok (.getfield 56, 3) := by decide +kernel
theorem dX11_takeRead_172 : decode cX11_takeRead 172 = .ok (.iload_n 1, 1) := by decide +kernel
theorem dX11_takeRead_173 : decode cX11_takeRead 173 = .ok (.iaload, 1) := by decide +kernel
theorem dX11_takeRead_174 : decode cX11_takeRead 174 = .ok (.iastore, 1) := by decide +kernel
theorem dX11_takeRead_175 : decode cX11_takeRead 175 = .ok (.iinc 1 1, 3) := by decide +kernel
theorem dX11_takeRead_178 : decode cX11_takeRead 178 = .ok (.goto (-33), 3) := by decide +kernel
theorem dX11_takeRead_181 : decode cX11_takeRead 181 = .ok (.return_, 1) := by decide +kernel
set_option maxRecDepth 100000 in
set_option maxHeartbeats 4000000 in
theorem mX11_takeRead {w : WX} {adr : Nat → Nat → Nat} (hj : Ij adr)  (S : St) : ∀ (l : Launch) (r : Int32) (S2 : St), fX11_takeRead S = some (r, S2) → Mv l w adr yX11_takeRead cX11_takeRead 2 none 0 0 [.ref (adr 35 0)] S S2 := by
  refine mv_of (lv := [(0, .ref (adr 35 0))]) hj (plainFor_of_name (by decide +kernel)) rfl (Nat.le_of_ble_eq_true rfl) (fun k C Rr => ?_)
  have C : Cx w adr k cX11_takeRead RX11 2 0 0 := C
  refine ge_aload_n (n := 1) C 0 rfl dX11_takeRead_0 rfl rfl ?_
  refine ge_aload_n (n := 2) C 0 rfl dX11_takeRead_1 rfl rfl ?_
  refine gt_X11_136 (n := 5) C (by decide) dX11_takeRead_2 rfl ?_
  refine pt_X11_90 (n := 8) C (by decide) dX11_takeRead_5 rfl (fun S_5 => ?_)
  refine ge_aload_n (n := 9) C 0 rfl dX11_takeRead_8 rfl rfl ?_
  refine ge_aload_n (n := 10) C 0 rfl dX11_takeRead_9 rfl rfl ?_
  refine gt_X11_139 (n := 13) C (by decide) dX11_takeRead_10 rfl ?_
  refine pt_X11_165 (n := 16) C (by decide) dX11_takeRead_13 rfl (fun S_13 => ?_)
  refine ge_aload_n (n := 17) C 0 rfl dX11_takeRead_16 rfl rfl ?_
  refine ge_aload_n (n := 18) C 0 rfl dX11_takeRead_17 rfl rfl ?_
  refine gt_X11_142 (n := 21) C (by decide) dX11_takeRead_18 rfl ?_
  refine pt_X11_93 (n := 24) C (by decide) dX11_takeRead_21 rfl (fun S_21 => ?_)
  refine ge_aload_n (n := 25) C 0 rfl dX11_takeRead_24 rfl rfl ?_
  refine ge_aload_n (n := 26) C 0 rfl dX11_takeRead_25 rfl rfl ?_
  refine gt_X11_145 (n := 29) C (by decide) dX11_takeRead_26 rfl ?_
  refine pt_X11_100 (n := 32) C (by decide) dX11_takeRead_29 rfl (fun S_29 => ?_)
  refine ge_iconst (v := 0) (n := 33) C dX11_takeRead_32 (by decide) rfl ?_
  refine ge_istore_n (n := 34) (lv2 := [(1, .int (0 : Int32)), (0, .ref (adr 35 0))]) C dX11_takeRead_33 rfl rfl (by decide) rfl ?_
  refine ge_jn (fun (jj : St → Op) => ∀ (S_53 : St), Ge w adr k 53 [(0, .ref (adr 35 0))] [] S_53 (jj S_53)) (fun S_53 => ?_) (fun kk34 hkk34 => ?_)
  · refine ge_aload_n (n := 54) C 0 rfl dX11_takeRead_53 rfl rfl ?_
    refine gt_X11_22 (n := 57) C (by decide) dX11_takeRead_54 rfl ?_
    refine ge_iconst (v := 1) (n := 58) C dX11_takeRead_57 (by decide) rfl ?_
    refine ge_aload_n (n := 59) C 0 rfl dX11_takeRead_58 rfl rfl ?_
    refine gt_X11_139 (n := 62) C (by decide) dX11_takeRead_59 rfl ?_
    refine as_40 (n := 63) C (by decide) dX11_takeRead_62 rfl (fun S_62 => ?_)
    refine ge_iconst (v := 0) (n := 64) C dX11_takeRead_63 (by decide) rfl ?_
    refine ge_istore_n (n := 65) (lv2 := [(1, .int (0 : Int32)), (0, .ref (adr 35 0))]) C dX11_takeRead_64 rfl rfl (by decide) rfl ?_
    refine ge_jn (fun (jj : St → Op) => ∀ (S_89 : St), Ge w adr k 89 [(0, .ref (adr 35 0))] [] S_89 (jj S_89)) (fun S_89 => ?_) (fun kk65 hkk65 => ?_)
    · refine ge_iconst (v := 0) (n := 90) C dX11_takeRead_89 (by decide) rfl ?_
      refine ge_istore_n (n := 91) (lv2 := [(1, .int (0 : Int32)), (0, .ref (adr 35 0))]) C dX11_takeRead_90 rfl rfl (by decide) rfl ?_
      refine ge_jn (fun (jj : St → Op) => ∀ (S_143 : St), Ge w adr k 143 [(0, .ref (adr 35 0))] [] S_143 (jj S_143)) (fun S_143 => ?_) (fun kk91 hkk91 => ?_)
      · refine ge_iconst (v := 0) (n := 144) C dX11_takeRead_143 (by decide) rfl ?_
        refine ge_istore_n (n := 145) (lv2 := [(1, .int (0 : Int32)), (0, .ref (adr 35 0))]) C dX11_takeRead_144 rfl rfl (by decide) rfl ?_
        refine ge_jn (fun (jj : St → Op) => ∀ (S_181 : St), Ge w adr k 181 [] [] S_181 (jj S_181)) (fun S_181 => ?_) (fun kk145 hkk145 => ?_)
        · exact ge_vret C Rr dX11_takeRead_181
        refine ge_lop (fun (jj : Int32 → St → Op) => ∀ (x1_145 : Int32) (S_145 : St), Ge w adr k 145 [(1, .int x1_145), (0, .ref (adr 35 0))] [] S_145 (jj x1_145 S_145)) (fun _ _ => ge_none) (fun ag145 hag145 x1_145 S_145 => ?_) FU (0 : Int32) S_143
        refine ge_iload_n (n := 146) C 0 rfl dX11_takeRead_145 rfl rfl ?_
        refine ge_bipush (v := 8) (n := 148) C dX11_takeRead_146 (by decide) rfl ?_
        refine ge_icmp_ge (t := 181) (n := 151) C dX11_takeRead_148 (by decide) rfl (fun h_148 => ?_) (fun h_148 => ?_)
        · refine ge_sub [] rfl ?_
          exact hkk145 S_145
        · refine ge_aload_n (n := 152) C 1 rfl dX11_takeRead_151 rfl rfl ?_
          refine gt_X11_16 (n := 155) C (by decide) dX11_takeRead_152 rfl ?_
          refine ge_iload_n (n := 156) C 0 rfl dX11_takeRead_155 rfl rfl ?_
          refine ge_aload_n (n := 157) C 1 rfl dX11_takeRead_156 rfl rfl ?_
          refine gt_X11_53 (n := 160) C (by decide) dX11_takeRead_157 rfl ?_
          refine ge_iload_n (n := 161) C 0 rfl dX11_takeRead_160 rfl rfl ?_
          refine al_49 (n := 162) C (by decide) dX11_takeRead_161 rfl ?_
          refine as_38 (n := 163) C (by decide) dX11_takeRead_162 rfl (fun S_162 => ?_)
          refine ge_aload_n (n := 164) C 1 rfl dX11_takeRead_163 rfl rfl ?_
          refine gt_X11_19 (n := 167) C (by decide) dX11_takeRead_164 rfl ?_
          refine ge_iload_n (n := 168) C 0 rfl dX11_takeRead_167 rfl rfl ?_
          refine ge_aload_n (n := 169) C 1 rfl dX11_takeRead_168 rfl rfl ?_
          refine gt_X11_56 (n := 172) C (by decide) dX11_takeRead_169 rfl ?_
          refine ge_iload_n (n := 173) C 0 rfl dX11_takeRead_172 rfl rfl ?_
          refine al_50 (n := 174) C (by decide) dX11_takeRead_173 rfl ?_
          refine as_39 (n := 175) C (by decide) dX11_takeRead_174 rfl (fun S_174 => ?_)
          refine ge_iinc (n := 178) (v := (x1_145 + (1 : Int32))) (lv2 := [(1, .int (x1_145 + (1 : Int32))), (0, .ref (adr 35 0))]) C 0 rfl dX11_takeRead_175 rfl rfl (by decide) rfl ?_
          refine ge_goto (n := 145) C dX11_takeRead_178 (by decide) ?_
          exact hag145 (x1_145 + (1 : Int32)) S_174
      refine ge_lop (fun (jj : Int32 → St → Op) => ∀ (x1_91 : Int32) (S_91 : St), Ge w adr k 91 [(1, .int x1_91), (0, .ref (adr 35 0))] [] S_91 (jj x1_91 S_91)) (fun _ _ => ge_none) (fun ag91 hag91 x1_91 S_91 => ?_) FU (0 : Int32) S_89
      refine ge_iload_n (n := 92) C 0 rfl dX11_takeRead_91 rfl rfl ?_
      refine ge_bipush (v := 30) (n := 94) C dX11_takeRead_92 (by decide) rfl ?_
      refine ge_icmp_ge (t := 143) (n := 97) C dX11_takeRead_94 (by decide) rfl (fun h_94 => ?_) (fun h_94 => ?_)
      · refine ge_sub [1] rfl ?_
        exact hkk91 S_91
      · refine ge_aload_n (n := 98) C 1 rfl dX11_takeRead_97 rfl rfl ?_
        refine gt_X11_13 (n := 101) C (by decide) dX11_takeRead_98 rfl ?_
        refine ge_iload_n (n := 102) C 0 rfl dX11_takeRead_101 rfl rfl ?_
        refine ge_iload_n (n := 103) C 0 rfl dX11_takeRead_102 rfl rfl ?_
        refine ge_iconst (v := 5) (n := 104) C dX11_takeRead_103 (by decide) rfl ?_
        refine ge_aload_n (n := 105) C 1 rfl dX11_takeRead_104 rfl rfl ?_
        refine gt_X11_93 (n := 108) C (by decide) dX11_takeRead_105 rfl ?_
        refine ge_imul (n := 109) C dX11_takeRead_108 rfl ?_
        refine ge_jn (fun (jj : Int32 → Op) => ∀ (v0_122 : Int32), Ge w adr k 122 [(1, .int x1_91), (0, .ref (adr 35 0))] [.int v0_122, .int x1_91, .ref (adr 37 0)] S_91 (jj v0_122)) (fun v0_122 => ?_) (fun j122 hj122 => ?_)
        · refine as_37 (n := 123) C (by decide) dX11_takeRead_122 rfl (fun S_122 => ?_)
          refine ge_aload_n (n := 124) C 1 rfl dX11_takeRead_123 rfl rfl ?_
          refine gt_X11_22 (n := 127) C (by decide) dX11_takeRead_124 rfl ?_
          refine ge_iconst (v := 4) (n := 128) C dX11_takeRead_127 (by decide) rfl ?_
          refine ge_iload_n (n := 129) C 0 rfl dX11_takeRead_128 rfl rfl ?_
          refine ge_iadd (n := 130) C dX11_takeRead_129 rfl ?_
          refine ge_aload_n (n := 131) C 1 rfl dX11_takeRead_130 rfl rfl ?_
          refine gt_X11_13 (n := 134) C (by decide) dX11_takeRead_131 rfl ?_
          refine ge_iload_n (n := 135) C 0 rfl dX11_takeRead_134 rfl rfl ?_
          refine al_37 (n := 136) C (by decide) dX11_takeRead_135 rfl ?_
          refine as_40 (n := 137) C (by decide) dX11_takeRead_136 rfl (fun S_136 => ?_)
          refine ge_iinc (n := 140) (v := (x1_91 + (1 : Int32))) (lv2 := [(1, .int (x1_91 + (1 : Int32))), (0, .ref (adr 35 0))]) C 0 rfl dX11_takeRead_137 rfl rfl (by decide) rfl ?_
          refine ge_goto (n := 91) C dX11_takeRead_140 (by decide) ?_
          exact hag91 (x1_91 + (1 : Int32)) S_136
        refine ge_icmp_ge (t := 121) (n := 112) C dX11_takeRead_109 (by decide) rfl (fun h_109 => ?_) (fun h_109 => ?_)
        · refine ge_iconst (v := 0) (n := 122) C dX11_takeRead_121 (by decide) rfl ?_
          exact hj122 (0 : Int32)
        · refine ge_aload_n (n := 113) C 1 rfl dX11_takeRead_112 rfl rfl ?_
          refine gt_X11_50 (n := 116) C (by decide) dX11_takeRead_113 rfl ?_
          refine ge_iload_n (n := 117) C 0 rfl dX11_takeRead_116 rfl rfl ?_
          refine al_48 (n := 118) C (by decide) dX11_takeRead_117 rfl ?_
          refine ge_goto (n := 122) C dX11_takeRead_118 (by decide) ?_
          exact hj122 (S_91 48 0 (Int32.toNatClampNeg x1_91))
    refine ge_lop (fun (jj : Int32 → St → Op) => ∀ (x1_65 : Int32) (S_65 : St), Ge w adr k 65 [(1, .int x1_65), (0, .ref (adr 35 0))] [] S_65 (jj x1_65 S_65)) (fun _ _ => ge_none) (fun ag65 hag65 x1_65 S_65 => ?_) FU (0 : Int32) S_62
    refine ge_iload_n (n := 66) C 0 rfl dX11_takeRead_65 rfl rfl ?_
    refine ge_bipush (v := 6) (n := 68) C dX11_takeRead_66 (by decide) rfl ?_
    refine ge_icmp_ge (t := 89) (n := 71) C dX11_takeRead_68 (by decide) rfl (fun h_68 => ?_) (fun h_68 => ?_)
    · refine ge_sub [1] rfl ?_
      exact hkk65 S_65
    · refine ge_aload_n (n := 72) C 1 rfl dX11_takeRead_71 rfl rfl ?_
      refine gt_X11_7 (n := 75) C (by decide) dX11_takeRead_72 rfl ?_
      refine ge_iload_n (n := 76) C 0 rfl dX11_takeRead_75 rfl rfl ?_
      refine ge_aload_n (n := 77) C 1 rfl dX11_takeRead_76 rfl rfl ?_
      refine gt_X11_47 (n := 80) C (by decide) dX11_takeRead_77 rfl ?_
      refine ge_iload_n (n := 81) C 0 rfl dX11_takeRead_80 rfl rfl ?_
      refine al_47 (n := 82) C (by decide) dX11_takeRead_81 rfl ?_
      refine as_36 (n := 83) C (by decide) dX11_takeRead_82 rfl (fun S_82 => ?_)
      refine ge_iinc (n := 86) (v := (x1_65 + (1 : Int32))) (lv2 := [(1, .int (x1_65 + (1 : Int32))), (0, .ref (adr 35 0))]) C 0 rfl dX11_takeRead_83 rfl rfl (by decide) rfl ?_
      refine ge_goto (n := 65) C dX11_takeRead_86 (by decide) ?_
      exact hag65 (x1_65 + (1 : Int32)) S_82
  refine ge_lop (fun (jj : Int32 → St → Op) => ∀ (x1_34 : Int32) (S_34 : St), Ge w adr k 34 [(1, .int x1_34), (0, .ref (adr 35 0))] [] S_34 (jj x1_34 S_34)) (fun _ _ => ge_none) (fun ag34 hag34 x1_34 S_34 => ?_) FU (0 : Int32) S_29
  refine ge_iload_n (n := 35) C 0 rfl dX11_takeRead_34 rfl rfl ?_
  refine ge_bipush (v := 70) (n := 37) C dX11_takeRead_35 (by decide) rfl ?_
  refine ge_icmp_ge (t := 53) (n := 40) C dX11_takeRead_37 (by decide) rfl (fun h_37 => ?_) (fun h_37 => ?_)
  · refine ge_sub [1] rfl ?_
    exact hkk34 S_34
  · refine ge_aload_n (n := 41) C 1 rfl dX11_takeRead_40 rfl rfl ?_
    refine gt_X11_22 (n := 44) C (by decide) dX11_takeRead_41 rfl ?_
    refine ge_iload_n (n := 45) C 0 rfl dX11_takeRead_44 rfl rfl ?_
    refine ge_iconst (v := 0) (n := 46) C dX11_takeRead_45 (by decide) rfl ?_
    refine as_40 (n := 47) C (by decide) dX11_takeRead_46 rfl (fun S_46 => ?_)
    refine ge_iinc (n := 50) (v := (x1_34 + (1 : Int32))) (lv2 := [(1, .int (x1_34 + (1 : Int32))), (0, .ref (adr 35 0))]) C 0 rfl dX11_takeRead_47 rfl rfl (by decide) rfl ?_
    refine ge_goto (n := 34) C dX11_takeRead_50 (by decide) ?_
    exact hag34 (x1_34 + (1 : Int32)) S_46
theorem dX11_yard_0 : decode cX11_yard 0 = .ok (.aload_n 0, 1) := by decide +kernel
theorem dX11_yard_1 : decode cX11_yard 1 = .ok (.iconst (-1), 1) := by decide +kernel
theorem dX11_yard_2 : decode cX11_yard 2 = .ok (.putfield 43, 3) := by decide +kernel
theorem dX11_yard_5 : decode cX11_yard 5 = .ok (.aload_n 0, 1) := by decide +kernel
theorem dX11_yard_6 : decode cX11_yard 6 = .ok (.iconst 0, 1) := by decide +kernel
theorem dX11_yard_7 : decode cX11_yard 7 = .ok (.putfield 112, 3) := by decide +kernel
theorem dX11_yard_10 : decode cX11_yard 10 = .ok (.aload_n 0, 1) := by decide +kernel
theorem dX11_yard_11 : decode cX11_yard 11 = .ok (.iconst 0, 1) := by decide +kernel
theorem dX11_yard_12 : decode cX11_yard 12 = .ok (.putfield 136, 3) := by decide +kernel
theorem dX11_yard_15 : decode cX11_yard 15 = .ok (.aload_n 0, 1) := by decide +kernel
theorem dX11_yard_16 : decode cX11_yard 16 = .ok (.iconst 0, 1) := by decide +kernel
theorem dX11_yard_17 : decode cX11_yard 17 = .ok (.putfield 139, 3) := by decide +kernel
theorem dX11_yard_20 : decode cX11_yard 20 = .ok (.aload_n 0, 1) := by decide +kernel
theorem dX11_yard_21 : decode cX11_yard 21 = .ok (.iconst 0, 1) := by decide +kernel
theorem dX11_yard_22 : decode cX11_yard 22 = .ok (.putfield 142, 3) := by decide +kernel
theorem dX11_yard_25 : decode cX11_yard 25 = .ok (.aload_n 0, 1) := by decide +kernel
theorem dX11_yard_26 : decode cX11_yard 26 = .ok (.iconst 0, 1) := by decide +kernel
theorem dX11_yard_27 : decode cX11_yard 27 = .ok (.putfield 145, 3) := by decide +kernel
theorem dX11_yard_30 : decode cX11_yard 30 = .ok (.iconst 0, 1) := by decide +kernel
theorem dX11_yard_31 : decode cX11_yard 31 = .ok (.istore_n 1, 1) := by decide +kernel
theorem dX11_yard_32 : decode cX11_yard 32 = .ok (.iload_n 1, 1) := by decide +kernel
theorem dX11_yard_33 : decode cX11_yard 33 = .ok (.ifCond .ne 18, 3) := by decide +kernel
theorem dX11_yard_36 : decode cX11_yard 36 = .ok (.aload_n 0, 1) := by decide +kernel
theorem dX11_yard_37 : decode cX11_yard 37 = .ok (.invokevirtual 115, 3) := by decide +kernel
theorem dX11_yard_40 : decode cX11_yard 40 = .ok (.ifCond .lt 11, 3) := by decide +kernel
theorem dX11_yard_43 : decode cX11_yard 43 = .ok (.aload_n 0, 1) := by decide +kernel
theorem dX11_yard_44 : decode cX11_yard 44 = .ok (.invokevirtual 168, 3) := by decide +kernel
theorem dX11_yard_47 : decode cX11_yard 47 = .ok (.istore_n 1, 1) := by decide +kernel
theorem dX11_yard_48 : decode cX11_yard 48 = .ok (.goto (-16), 3) := by decide +kernel
theorem dX11_yard_51 : decode cX11_yard 51 = .ok (.aload_n 0, 1) := by decide +kernel
theorem dX11_yard_52 : decode cX11_yard 52 = .ok (.iconst 0, 1) := by decide +kernel
theorem dX11_yard_53 : decode cX11_yard 53 = .ok (.putfield 108, 3) := by decide +kernel
theorem dX11_yard_56 : decode cX11_yard 56 = .ok (.iload_n 1, 1) := by decide +kernel
theorem dX11_yard_57 : decode cX11_yard 57 = .ok (.ifCond .le 8, 3) := by decide +kernel
theorem dX11_yard_60 : decode cX11_yard 60 = .ok (.bipush (-10), 2) := by decide +kernel
theorem dX11_yard_62 : decode cX11_yard 62 = .ok (.iload_n 1, 1) := by decide +kernel
theorem dX11_yard_63 : decode cX11_yard 63 = .ok (.isub, 1) := by decide +kernel
theorem dX11_yard_64 : decode cX11_yard 64 = .ok (.ireturn, 1) := by decide +kernel
theorem dX11_yard_65 : decode cX11_yard 65 = .ok (.aload_n 0, 1) := by decide +kernel
theorem dX11_yard_66 : decode cX11_yard 66 = .ok (.invokevirtual 171, 3) := by decide +kernel
theorem dX11_yard_69 : decode cX11_yard 69 = .ok (.aload_n 0, 1) := by decide +kernel
theorem dX11_yard_70 : decode cX11_yard 70 = .ok (.iconst 0, 1) := by decide +kernel
theorem dX11_yard_71 : decode cX11_yard 71 = .ok (.putfield 174, 3) := by decide +kernel
theorem dX11_yard_74 : decode cX11_yard 74 = .ok (.aload_n 0, 1) := by decide +kernel
theorem dX11_yard_75 : decode cX11_yard 75 = .ok (.iconst 0, 1) := by decide +kernel
theorem dX11_yard_76 : decode cX11_yard 76 = .ok (.putfield 177, 3) := by decide +kernel
theorem dX11_yard_79 : decode cX11_yard 79 = .ok (.aload_n 0, 1) := by decide +kernel
theorem dX11_yard_80 : decode cX11_yard 80 = .ok (.iconst 0, 1) := by decide +kernel
theorem dX11_yard_81 : decode cX11_yard 81 = .ok (.putfield 180, 3) := by decide +kernel
theorem dX11_yard_84 : decode cX11_yard 84 = .ok (.aload_n 0, 1) := by decide +kernel
theorem dX11_yard_85 : decode cX11_yard 85 = .ok (.getfield 87, 3) := by decide +kernel
theorem dX11_yard_88 : decode cX11_yard 88 = .ok (.iconst 0, 1) := by decide +kernel
theorem dX11_yard_89 : decode cX11_yard 89 = .ok (.iconst 0, 1) := by decide +kernel
theorem dX11_yard_90 : decode cX11_yard 90 = .ok (.bastore, 1) := by decide +kernel
theorem dX11_yard_91 : decode cX11_yard 91 = .ok (.aload_n 0, 1) := by decide +kernel
theorem dX11_yard_92 : decode cX11_yard 92 = .ok (.getfield 87, 3) := by decide +kernel
theorem dX11_yard_95 : decode cX11_yard 95 = .ok (.iconst 1, 1) := by decide +kernel
theorem dX11_yard_96 : decode cX11_yard 96 = .ok (.iconst 0, 1) := by decide +kernel
theorem dX11_yard_97 : decode cX11_yard 97 = .ok (.bastore, 1) := by decide +kernel
theorem dX11_yard_98 : decode cX11_yard 98 = .ok (.aload_n 0, 1) := by decide +kernel
theorem dX11_yard_99 : decode cX11_yard 99 = .ok (.getfield 93, 3) := by decide +kernel
theorem dX11_yard_102 : decode cX11_yard 102 = .ok (.ireturn, 1) := by decide +kernel
set_option maxRecDepth 100000 in
set_option maxHeartbeats 4000000 in
theorem mX11_yard {w : WX} {adr : Nat → Nat → Nat} (hj : Ij adr)  (S : St) : ∀ (l : Launch) (r : Int32) (S2 : St), fX11_yard S = some (r, S2) → Mi l w adr yX11_yard cX11_yard 2 (some .int) 5 114 [.ref (adr 35 0)] S r S2 := by
  refine mi_of (lv := [(0, .ref (adr 35 0))]) hj (plainFor_of_name (by decide +kernel)) rfl (Nat.le_of_ble_eq_true rfl) (fun k C Rr => ?_)
  have C : Cx w adr k cX11_yard RX11 2 5 114 := C
  refine ge_aload_n (n := 1) C 0 rfl dX11_yard_0 rfl rfl ?_
  refine ge_iconst (v := -1) (n := 2) C dX11_yard_1 (by decide) rfl ?_
  refine pt_X11_43 (n := 5) C (by decide) dX11_yard_2 rfl (fun S_2 => ?_)
  refine ge_aload_n (n := 6) C 0 rfl dX11_yard_5 rfl rfl ?_
  refine ge_iconst (v := 0) (n := 7) C dX11_yard_6 (by decide) rfl ?_
  refine pt_X11_112 (n := 10) C (by decide) dX11_yard_7 rfl (fun S_7 => ?_)
  refine ge_aload_n (n := 11) C 0 rfl dX11_yard_10 rfl rfl ?_
  refine ge_iconst (v := 0) (n := 12) C dX11_yard_11 (by decide) rfl ?_
  refine pt_X11_136 (n := 15) C (by decide) dX11_yard_12 rfl (fun S_12 => ?_)
  refine ge_aload_n (n := 16) C 0 rfl dX11_yard_15 rfl rfl ?_
  refine ge_iconst (v := 0) (n := 17) C dX11_yard_16 (by decide) rfl ?_
  refine pt_X11_139 (n := 20) C (by decide) dX11_yard_17 rfl (fun S_17 => ?_)
  refine ge_aload_n (n := 21) C 0 rfl dX11_yard_20 rfl rfl ?_
  refine ge_iconst (v := 0) (n := 22) C dX11_yard_21 (by decide) rfl ?_
  refine pt_X11_142 (n := 25) C (by decide) dX11_yard_22 rfl (fun S_22 => ?_)
  refine ge_aload_n (n := 26) C 0 rfl dX11_yard_25 rfl rfl ?_
  refine ge_iconst (v := 0) (n := 27) C dX11_yard_26 (by decide) rfl ?_
  refine pt_X11_145 (n := 30) C (by decide) dX11_yard_27 rfl (fun S_27 => ?_)
  refine ge_iconst (v := 0) (n := 31) C dX11_yard_30 (by decide) rfl ?_
  refine ge_istore_n (n := 32) (lv2 := [(1, .int (0 : Int32)), (0, .ref (adr 35 0))]) C dX11_yard_31 rfl rfl (by decide) rfl ?_
  refine ge_jn (fun (jj : Int32 → St → Op) => ∀ (x1_51 : Int32) (S_51 : St), Ge w adr k 51 [(1, .int x1_51), (0, .ref (adr 35 0))] [] S_51 (jj x1_51 S_51)) (fun x1_51 S_51 => ?_) (fun kk32 hkk32 => ?_)
  · refine ge_aload_n (n := 52) C 1 rfl dX11_yard_51 rfl rfl ?_
    refine ge_iconst (v := 0) (n := 53) C dX11_yard_52 (by decide) rfl ?_
    refine pt_X11_108 (n := 56) C (by decide) dX11_yard_53 rfl (fun S_53 => ?_)
    refine ge_iload_n (n := 57) C 0 rfl dX11_yard_56 rfl rfl ?_
    refine ge_if_le (t := 65) (n := 60) C dX11_yard_57 (by decide) rfl (fun h_57 => ?_) (fun h_57 => ?_)
    · refine ge_aload_n (n := 66) C 1 rfl dX11_yard_65 rfl rfl ?_
      refine ge_callVv (n := 69) C (mX11_takeRead hj S_53) gv_X11_171 (cl_35 (by decide)) rfl rfl hc_X11_takeRead ⟨Nat.le_of_ble_eq_true rfl, Nat.le_of_ble_eq_true rfl⟩ rfl rfl (Nat.le_of_ble_eq_true rfl) dX11_yard_66 rfl (fun _ S_66 => ?_)
      refine ge_aload_n (n := 70) C 1 rfl dX11_yard_69 rfl rfl ?_
      refine ge_iconst (v := 0) (n := 71) C dX11_yard_70 (by decide) rfl ?_
      refine pt_X11_174 (n := 74) C (by decide) dX11_yard_71 rfl (fun S_71 => ?_)
      refine ge_aload_n (n := 75) C 1 rfl dX11_yard_74 rfl rfl ?_
      refine ge_iconst (v := 0) (n := 76) C dX11_yard_75 (by decide) rfl ?_
      refine pt_X11_177 (n := 79) C (by decide) dX11_yard_76 rfl (fun S_76 => ?_)
      refine ge_aload_n (n := 80) C 1 rfl dX11_yard_79 rfl rfl ?_
      refine ge_iconst (v := 0) (n := 81) C dX11_yard_80 (by decide) rfl ?_
      refine pt_X11_180 (n := 84) C (by decide) dX11_yard_81 rfl (fun S_81 => ?_)
      refine ge_aload_n (n := 85) C 1 rfl dX11_yard_84 rfl rfl ?_
      refine gt_X11_87 (n := 88) C (by decide) dX11_yard_85 rfl ?_
      refine ge_iconst (v := 0) (n := 89) C dX11_yard_88 (by decide) rfl ?_
      refine ge_iconst (v := 0) (n := 90) C dX11_yard_89 (by decide) rfl ?_
      refine as_60 (n := 91) C (by decide) dX11_yard_90 rfl (fun S_90 => ?_)
      refine ge_aload_n (n := 92) C 1 rfl dX11_yard_91 rfl rfl ?_
      refine gt_X11_87 (n := 95) C (by decide) dX11_yard_92 rfl ?_
      refine ge_iconst (v := 1) (n := 96) C dX11_yard_95 (by decide) rfl ?_
      refine ge_iconst (v := 0) (n := 97) C dX11_yard_96 (by decide) rfl ?_
      refine as_60 (n := 98) C (by decide) dX11_yard_97 rfl (fun S_97 => ?_)
      refine ge_aload_n (n := 99) C 1 rfl dX11_yard_98 rfl rfl ?_
      refine gt_X11_93 (n := 102) C (by decide) dX11_yard_99 rfl ?_
      exact ge_iret C Rr dX11_yard_102
    · refine ge_bipush (v := -10) (n := 62) C dX11_yard_60 (by decide) rfl ?_
      refine ge_iload_n (n := 63) C 0 rfl dX11_yard_62 rfl rfl ?_
      refine ge_isub (n := 64) C dX11_yard_63 rfl ?_
      exact ge_iret C Rr dX11_yard_64
  refine ge_lop (fun (jj : Int32 → St → Op) => ∀ (x1_32 : Int32) (S_32 : St), Ge w adr k 32 [(1, .int x1_32), (0, .ref (adr 35 0))] [] S_32 (jj x1_32 S_32)) (fun _ _ => ge_none) (fun ag32 hag32 x1_32 S_32 => ?_) FU (0 : Int32) S_27
  refine ge_iload_n (n := 33) C 0 rfl dX11_yard_32 rfl rfl ?_
  refine ge_if_ne (t := 51) (n := 36) C dX11_yard_33 (by decide) rfl (fun h_33 => ?_) (fun h_33 => ?_)
  · exact hkk32 x1_32 S_32
  · refine ge_aload_n (n := 37) C 1 rfl dX11_yard_36 rfl rfl ?_
    refine ge_callVi (n := 40) C (mX11_here hj S_32) gv_X11_115 (cl_35 (by decide)) rfl rfl hc_X11_here ⟨Nat.le_of_ble_eq_true rfl, Nat.le_of_ble_eq_true rfl⟩ rfl rfl (Nat.le_of_ble_eq_true rfl) dX11_yard_37 rfl (fun r_37 S_37 => ?_)
    refine ge_if_lt (t := 51) (n := 43) C dX11_yard_40 (by decide) rfl (fun h_40 => ?_) (fun h_40 => ?_)
    · exact hkk32 x1_32 S_37
    · refine ge_aload_n (n := 44) C 1 rfl dX11_yard_43 rfl rfl ?_
      refine ge_callVi (n := 47) C (mX11_takeClause hj S_37) gv_X11_168 (cl_35 (by decide)) rfl rfl hc_X11_takeClause ⟨Nat.le_of_ble_eq_true rfl, Nat.le_of_ble_eq_true rfl⟩ rfl rfl (Nat.le_of_ble_eq_true rfl) dX11_yard_44 rfl (fun r_44 S_44 => ?_)
      refine ge_istore_n (n := 48) (lv2 := [(1, .int r_44), (0, .ref (adr 35 0))]) C dX11_yard_47 rfl rfl (by decide) rfl ?_
      refine ge_goto (n := 32) C dX11_yard_48 (by decide) ?_
      exact hag32 r_44 S_44
theorem dX11_fault_0 : decode cX11_fault 0 = .ok (.aload_n 0, 1) := by decide +kernel
theorem dX11_fault_1 : decode cX11_fault 1 = .ok (.getfield 43, 3) := by decide +kernel
theorem dX11_fault_4 : decode cX11_fault 4 = .ok (.ireturn, 1) := by decide +kernel
set_option maxRecDepth 100000 in
set_option maxHeartbeats 4000000 in
theorem mX11_fault {w : WX} {adr : Nat → Nat → Nat} (hj : Ij adr)  (S : St) : ∀ (l : Launch) (r : Int32) (S2 : St), fX11_fault S = some (r, S2) → Mi l w adr yX11_fault cX11_fault 1 (some .int) 0 0 [.ref (adr 35 0)] S r S2 := by
  refine mi_of (lv := [(0, .ref (adr 35 0))]) hj (plainFor_of_name (by decide +kernel)) rfl (Nat.le_of_ble_eq_true rfl) (fun k C Rr => ?_)
  have C : Cx w adr k cX11_fault RX11 1 0 0 := C
  refine ge_aload_n (n := 1) C 0 rfl dX11_fault_0 rfl rfl ?_
  refine gt_X11_43 (n := 4) C (by decide) dX11_fault_1 rfl ?_
  exact ge_iret C Rr dX11_fault_4
theorem dX11_capped_0 : decode cX11_capped 0 = .ok (.iload_n 0, 1) := by decide +kernel
theorem dX11_capped_1 : decode cX11_capped 1 = .ok (.bipush 99, 2) := by decide +kernel
theorem dX11_capped_3 : decode cX11_capped 3 = .ok (.if_icmp .le 8, 3) := by decide +kernel
theorem dX11_capped_6 : decode cX11_capped 6 = .ok (.bipush 99, 2) := by decide +kernel
theorem dX11_capped_8 : decode cX11_capped 8 = .ok (.goto 4, 3) := by decide +kernel
theorem dX11_capped_11 : decode cX11_capped 11 = .ok (.iload_n 0, 1) := by decide +kernel
theorem dX11_capped_12 : decode cX11_capped 12 = .ok (.ireturn, 1) := by decide +kernel
set_option maxRecDepth 100000 in
set_option maxHeartbeats 4000000 in
theorem mX11_capped {w : WX} {adr : Nat → Nat → Nat} (hj : Ij adr) (a0 : Int32) (S : St) : ∀ (l : Launch) (r : Int32) (S2 : St), fX11_capped a0 S = some (r, S2) → Mi l w adr yX11_capped cX11_capped 1 (some .int) 0 0 [.int a0] S r S2 := by
  refine mi_of (lv := [(0, .int a0)]) hj (plainFor_of_name (by decide +kernel)) rfl (Nat.le_of_ble_eq_true rfl) (fun k C Rr => ?_)
  have C : Cx w adr k cX11_capped RX11 1 0 0 := C
  refine ge_iload_n (n := 1) C 0 rfl dX11_capped_0 rfl rfl ?_
  refine ge_bipush (v := 99) (n := 3) C dX11_capped_1 (by decide) rfl ?_
  refine ge_icmp_le (t := 11) (n := 6) C dX11_capped_3 (by decide) rfl (fun h_3 => ?_) (fun h_3 => ?_)
  · refine ge_iload_n (n := 12) C 0 rfl dX11_capped_11 rfl rfl ?_
    exact ge_iret C Rr dX11_capped_12
  · refine ge_bipush (v := 99) (n := 8) C dX11_capped_6 (by decide) rfl ?_
    refine ge_goto (n := 12) C dX11_capped_8 (by decide) ?_
    exact ge_iret C Rr dX11_capped_12
theorem dX11_tans_0 : decode cX11_tans 0 = .ok (.iconst 0, 1) := by decide +kernel
theorem dX11_tans_1 : decode cX11_tans 1 = .ok (.istore 4, 2) := by decide +kernel
theorem dX11_tans_3 : decode cX11_tans 3 = .ok (.iconst 1, 1) := by decide +kernel
theorem dX11_tans_4 : decode cX11_tans 4 = .ok (.istore 5, 2) := by decide +kernel
theorem dX11_tans_6 : decode cX11_tans 6 = .ok (.iload 5, 2) := by decide +kernel
theorem dX11_tans_8 : decode cX11_tans 8 = .ok (.iconst 5, 1) := by decide +kernel
theorem dX11_tans_9 : decode cX11_tans 9 = .ok (.if_icmp .ge 35, 3) := by decide +kernel
theorem dX11_tans_12 : decode cX11_tans 12 = .ok (.aload_n 0, 1) := by decide +kernel
theorem dX11_tans_13 : decode cX11_tans 13 = .ok (.getfield 62, 3) := by decide +kernel
theorem dX11_tans_16 : decode cX11_tans 16 = .ok (.iload 5, 2) := by decide +kernel
theorem dX11_tans_18 : decode cX11_tans 18 = .ok (.iaload, 1) := by decide +kernel
theorem dX11_tans_19 : decode cX11_tans 19 = .ok (.aload_n 0, 1) := by decide +kernel
theorem dX11_tans_20 : decode cX11_tans 20 = .ok (.getfield 62, 3) := by decide +kernel
theorem dX11_tans_23 : decode cX11_tans 23 = .ok (.iload 4, 2) := by decide +kernel
theorem dX11_tans_25 : decode cX11_tans 25 = .ok (.iaload, 1) := by decide +kernel
theorem dX11_tans_26 : decode cX11_tans 26 = .ok (.if_icmp .ge 8, 3) := by decide +kernel
theorem dX11_tans_29 : decode cX11_tans 29 = .ok (.iload 5, 2) := by decide +kernel
theorem dX11_tans_31 : decode cX11_tans 31 = .ok (.goto 5, 3) := by decide +kernel
theorem dX11_tans_34 : decode cX11_tans 34 = .ok (.iload 4, 2) := by decide +kernel
theorem dX11_tans_36 : decode cX11_tans 36 = .ok (.istore 4, 2) := by decide +kernel
theorem dX11_tans_38 : decode cX11_tans 38 = .ok (.iinc 5 1, 3) := by decide +kernel
theorem dX11_tans_41 : decode cX11_tans 41 = .ok (.goto (-35), 3) := by decide +kernel
theorem dX11_tans_44 : decode cX11_tans 44 = .ok (.iconst 0, 1) := by decide +kernel
theorem dX11_tans_45 : decode cX11_tans 45 = .ok (.istore 5, 2) := by decide +kernel
theorem dX11_tans_47 : decode cX11_tans 47 = .ok (.iload 5, 2) := by decide +kernel
theorem dX11_tans_49 : decode cX11_tans 49 = .ok (.iconst 5, 1) := by decide +kernel
theorem dX11_tans_50 : decode cX11_tans 50 = .ok (.if_icmp .ge 98, 3) := by decide +kernel
theorem dX11_tans_53 : decode cX11_tans 53 = .ok (.iload_n 1, 1) := by decide +kernel
theorem dX11_tans_54 : decode cX11_tans 54 = .ok (.iconst 1, 1) := by decide +kernel
theorem dX11_tans_55 : decode cX11_tans 55 = .ok (.if_icmp .ne 21, 3) := by decide +kernel
theorem dX11_tans_58 : decode cX11_tans 58 = .ok (.iload 5, 2) := by decide +kernel
theorem dX11_tans_60 : decode cX11_tans 60 = .ok (.iconst 2, 1) := by decide +kernel
theorem dX11_tans_61 : decode cX11_tans 61 = .ok (.if_icmp .ne 7, 3) := by decide +kernel
theorem dX11_tans_64 : decode cX11_tans 64 = .ok (.iconst 0, 1) := by decide +kernel
theorem dX11_tans_65 : decode cX11_tans 65 = .ok (.goto 55, 3) := by decide +kernel
theorem dX11_tans_68 : decode cX11_tans 68 = .ok (.iload_n 2, 1) := by decide +kernel
theorem dX11_tans_69 : decode cX11_tans 69 = .ok (.iconst 2, 1) := by decide +kernel
theorem dX11_tans_70 : decode cX11_tans 70 = .ok (.idiv, 1) := by decide +kernel
theorem dX11_tans_71 : decode cX11_tans 71 = .ok (.iconst 1, 1) := by decide +kernel
theorem dX11_tans_72 : decode cX11_tans 72 = .ok (.iadd, 1) := by decide +kernel
theorem dX11_tans_73 : decode cX11_tans 73 = .ok (.goto 47, 3) := by decide +kernel
theorem dX11_tans_76 : decode cX11_tans 76 = .ok (.iload_n 1, 1) := by decide +kernel
theorem dX11_tans_77 : decode cX11_tans 77 = .ok (.iconst 2, 1) := by decide +kernel
theorem dX11_tans_78 : decode cX11_tans 78 = .ok (.if_icmp .ne 19, 3) := by decide +kernel
theorem dX11_tans_81 : decode cX11_tans 81 = .ok (.iload 5, 2) := by decide +kernel
theorem dX11_tans_83 : decode cX11_tans 83 = .ok (.iload_n 3, 1) := by decide +kernel
theorem dX11_tans_84 : decode cX11_tans 84 = .ok (.iconst 5, 1) := by decide +kernel
theorem dX11_tans_85 : decode cX11_tans 85 = .ok (.irem, 1) := by decide +kernel
theorem dX11_tans_86 : decode cX11_tans 86 = .ok (.if_icmp .ne 7, 3) := by decide +kernel
theorem dX11_tans_89 : decode cX11_tans 89 = .ok (.iconst 1, 1) := by decide +kernel
theorem dX11_tans_90 : decode cX11_tans 90 = .ok (.goto 30, 3) := by decide +kernel
theorem dX11_tans_93 : decode cX11_tans 93 = .ok (.iconst 0, 1) := by decide +kernel
theorem dX11_tans_94 : decode cX11_tans 94 = .ok (.goto 26, 3) := by decide +kernel
theorem dX11_tans_97 : decode cX11_tans 97 = .ok (.iload_n 1, 1) := by decide +kernel
theorem dX11_tans_98 : decode cX11_tans 98 = .ok (.iconst 3, 1) := by decide +kernel
theorem dX11_tans_99 : decode cX11_tans 99 = .ok (.if_icmp .ne 20, 3) := by decide +kernel
theorem dX11_tans_102 : decode cX11_tans 102 = .ok (.iload 5, 2) := by decide +kernel
theorem dX11_tans_104 : decode cX11_tans 104 = .ok (.iload 4, 2) := by decide +kernel
theorem dX11_tans_106 : decode cX11_tans 106 = .ok (.if_icmp .ne 9, 3) := by decide +kernel
theorem dX11_tans_109 : decode cX11_tans 109 = .ok (.iconst 3, 1) := by decide +kernel
theorem dX11_tans_110 : decode cX11_tans 110 = .ok (.iload_n 2, 1) := by decide +kernel
theorem dX11_tans_111 : decode cX11_tans 111 = .ok (.imul, 1) := by decide +kernel
theorem dX11_tans_112 : decode cX11_tans 112 = .ok (.goto 8, 3) := by decide +kernel
theorem dX11_tans_115 : decode cX11_tans 115 = .ok (.iconst 0, 1) := by decide +kernel
theorem dX11_tans_116 : decode cX11_tans 116 = .ok (.goto 4, 3) := by decide +kernel
theorem dX11_tans_119 : decode cX11_tans 119 = .ok (.iload_n 2, 1) := by decide +kernel
theorem dX11_tans_120 : decode cX11_tans 120 = .ok (.istore 6, 2) := by decide +kernel
theorem dX11_tans_122 : decode cX11_tans 122 = .ok (.aload_n 0, 1) := by decide +kernel
theorem dX11_tans_123 : decode cX11_tans 123 = .ok (.getfield 62, 3) := by decide +kernel
theorem dX11_tans_126 : decode cX11_tans 126 = .ok (.iload 5, 2) := by decide +kernel
theorem dX11_tans_128 : decode cX11_tans 128 = .ok (.aload_n 0, 1) := by decide +kernel
theorem dX11_tans_129 : decode cX11_tans 129 = .ok (.getfield 62, 3) := by decide +kernel
theorem dX11_tans_132 : decode cX11_tans 132 = .ok (.iload 5, 2) := by decide +kernel
theorem dX11_tans_134 : decode cX11_tans 134 = .ok (.iaload, 1) := by decide +kernel
theorem dX11_tans_135 : decode cX11_tans 135 = .ok (.iload 6, 2) := by decide +kernel
theorem dX11_tans_137 : decode cX11_tans 137 = .ok (.iadd, 1) := by decide +kernel
theorem dX11_tans_138 : decode cX11_tans 138 = .ok (.invokestatic 183, 3) := by decide +kernel
theorem dX11_tans_141 : decode cX11_tans 141 = .ok (.iastore, 1) := by decide +kernel
theorem dX11_tans_142 : decode cX11_tans 142 = .ok (.iinc 5 1, 3) := by decide +kernel
theorem dX11_tans_145 : decode cX11_tans 145 = .ok (.goto (-98), 3) := by decide +kernel
theorem dX11_tans_148 : decode cX11_tans 148 = .ok (.return_, 1) := by decide +kernel
set_option maxRecDepth 100000 in
set_option maxHeartbeats 4000000 in
theorem mX11_tans {w : WX} {adr : Nat → Nat → Nat} (hj : Ij adr) (a1 : Int32) (a2 : Int32) (a3 : Int32) (S : St) : ∀ (l : Launch) (r : Int32) (S2 : St), fX11_tans a1 a2 a3 S = some (r, S2) → Mv l w adr yX11_tans cX11_tans 7 none 1 20 [.ref (adr 35 0), .int a1, .int a2, .int a3] S S2 := by
  refine mv_of (lv := [(0, .ref (adr 35 0)), (1, .int a1), (2, .int a2), (3, .int a3)]) hj (plainFor_of_name (by decide +kernel)) rfl (Nat.le_of_ble_eq_true rfl) (fun k C Rr => ?_)
  have C : Cx w adr k cX11_tans RX11 7 1 20 := C
  refine ge_iconst (v := 0) (n := 1) C dX11_tans_0 (by decide) rfl ?_
  refine ge_istore (n := 3) (lv2 := [(4, .int (0 : Int32)), (0, .ref (adr 35 0)), (1, .int a1), (2, .int a2), (3, .int a3)]) C dX11_tans_1 rfl (by decide) rfl ?_
  refine ge_iconst (v := 1) (n := 4) C dX11_tans_3 (by decide) rfl ?_
  refine ge_istore (n := 6) (lv2 := [(5, .int (1 : Int32)), (4, .int (0 : Int32)), (0, .ref (adr 35 0)), (1, .int a1), (2, .int a2), (3, .int a3)]) C dX11_tans_4 rfl (by decide) rfl ?_
  refine ge_jn (fun (jj : Int32 → Op) => ∀ (x4_44 : Int32), Ge w adr k 44 [(4, .int x4_44), (0, .ref (adr 35 0)), (1, .int a1), (2, .int a2), (3, .int a3)] [] S (jj x4_44)) (fun x4_44 => ?_) (fun kk6 hkk6 => ?_)
  · refine ge_iconst (v := 0) (n := 45) C dX11_tans_44 (by decide) rfl ?_
    refine ge_istore (n := 47) (lv2 := [(5, .int (0 : Int32)), (4, .int x4_44), (0, .ref (adr 35 0)), (1, .int a1), (2, .int a2), (3, .int a3)]) C dX11_tans_45 rfl (by decide) rfl ?_
    refine ge_jn (fun (jj : St → Op) => ∀ (S_148 : St), Ge w adr k 148 [] [] S_148 (jj S_148)) (fun S_148 => ?_) (fun kk47 hkk47 => ?_)
    · exact ge_vret C Rr dX11_tans_148
    refine ge_lop (fun (jj : Int32 → St → Op) => ∀ (x5_47 : Int32) (S_47 : St), Ge w adr k 47 [(5, .int x5_47), (4, .int x4_44), (0, .ref (adr 35 0)), (1, .int a1), (2, .int a2), (3, .int a3)] [] S_47 (jj x5_47 S_47)) (fun _ _ => ge_none) (fun ag47 hag47 x5_47 S_47 => ?_) FU (0 : Int32) S
    refine ge_iload (n := 49) C 0 rfl dX11_tans_47 rfl ?_
    refine ge_iconst (v := 5) (n := 50) C dX11_tans_49 (by decide) rfl ?_
    refine ge_icmp_ge (t := 148) (n := 53) C dX11_tans_50 (by decide) rfl (fun h_50 => ?_) (fun h_50 => ?_)
    · refine ge_sub [] rfl ?_
      exact hkk47 S_47
    · refine ge_iload_n (n := 54) C 3 rfl dX11_tans_53 rfl rfl ?_
      refine ge_iconst (v := 1) (n := 55) C dX11_tans_54 (by decide) rfl ?_
      refine ge_jn (fun (jj : Int32 → Op) => ∀ (v0_120 : Int32), Ge w adr k 120 [(5, .int x5_47), (4, .int x4_44), (0, .ref (adr 35 0)), (1, .int a1), (2, .int a2), (3, .int a3)] [.int v0_120] S_47 (jj v0_120)) (fun v0_120 => ?_) (fun j120 hj120 => ?_)
      · refine ge_istore (n := 122) (lv2 := [(6, .int v0_120), (5, .int x5_47), (4, .int x4_44), (0, .ref (adr 35 0)), (1, .int a1), (2, .int a2), (3, .int a3)]) C dX11_tans_120 rfl (by decide) rfl ?_
        refine ge_aload_n (n := 123) C 3 rfl dX11_tans_122 rfl rfl ?_
        refine gt_X11_62 (n := 126) C (by decide) dX11_tans_123 rfl ?_
        refine ge_iload (n := 128) C 1 rfl dX11_tans_126 rfl ?_
        refine ge_aload_n (n := 129) C 3 rfl dX11_tans_128 rfl rfl ?_
        refine gt_X11_62 (n := 132) C (by decide) dX11_tans_129 rfl ?_
        refine ge_iload (n := 134) C 1 rfl dX11_tans_132 rfl ?_
        refine al_52 (n := 135) C (by decide) dX11_tans_134 rfl ?_
        refine ge_iload (n := 137) C 0 rfl dX11_tans_135 rfl ?_
        refine ge_iadd (n := 138) C dX11_tans_137 rfl ?_
        refine ge_callSi (n := 141) C (mX11_capped hj ((S_47 52 0 (Int32.toNatClampNeg x5_47)) + v0_120) S_47) gv_X11_183 hc_X11_capped ⟨Nat.le_of_ble_eq_true rfl, Nat.le_of_ble_eq_true rfl⟩ rfl rfl (Nat.le_of_ble_eq_true rfl) dX11_tans_138 rfl (fun r_138 S_138 => ?_)
        refine as_52 (n := 142) C (by decide) dX11_tans_141 rfl (fun S_141 => ?_)
        refine ge_iinc (n := 145) (v := (x5_47 + (1 : Int32))) (lv2 := [(5, .int (x5_47 + (1 : Int32))), (6, .int v0_120), (4, .int x4_44), (0, .ref (adr 35 0)), (1, .int a1), (2, .int a2), (3, .int a3)]) C 1 rfl dX11_tans_142 rfl rfl (by decide) rfl ?_
        refine ge_goto (n := 47) C dX11_tans_145 (by decide) ?_
        refine ge_sub [0, 2, 3, 4, 5, 6] rfl ?_
        exact hag47 (x5_47 + (1 : Int32)) S_141
      refine ge_icmp_ne (t := 76) (n := 58) C dX11_tans_55 (by decide) rfl (fun h_55 => ?_) (fun h_55 => ?_)
      · refine ge_iload_n (n := 77) C 3 rfl dX11_tans_76 rfl rfl ?_
        refine ge_iconst (v := 2) (n := 78) C dX11_tans_77 (by decide) rfl ?_
        refine ge_icmp_ne (t := 97) (n := 81) C dX11_tans_78 (by decide) rfl (fun h_78 => ?_) (fun h_78 => ?_)
        · refine ge_iload_n (n := 98) C 3 rfl dX11_tans_97 rfl rfl ?_
          refine ge_iconst (v := 3) (n := 99) C dX11_tans_98 (by decide) rfl ?_
          refine ge_icmp_ne (t := 119) (n := 102) C dX11_tans_99 (by decide) rfl (fun h_99 => ?_) (fun h_99 => ?_)
          · refine ge_iload_n (n := 120) C 4 rfl dX11_tans_119 rfl rfl ?_
            exact hj120 a2
          · refine ge_iload (n := 104) C 0 rfl dX11_tans_102 rfl ?_
            refine ge_iload (n := 106) C 1 rfl dX11_tans_104 rfl ?_
            refine ge_icmp_ne (t := 115) (n := 109) C dX11_tans_106 (by decide) rfl (fun h_106 => ?_) (fun h_106 => ?_)
            · refine ge_iconst (v := 0) (n := 116) C dX11_tans_115 (by decide) rfl ?_
              refine ge_goto (n := 120) C dX11_tans_116 (by decide) ?_
              exact hj120 (0 : Int32)
            · refine ge_iconst (v := 3) (n := 110) C dX11_tans_109 (by decide) rfl ?_
              refine ge_iload_n (n := 111) C 4 rfl dX11_tans_110 rfl rfl ?_
              refine ge_imul (n := 112) C dX11_tans_111 rfl ?_
              refine ge_goto (n := 120) C dX11_tans_112 (by decide) ?_
              exact hj120 ((3 : Int32) * a2)
        · refine ge_iload (n := 83) C 0 rfl dX11_tans_81 rfl ?_
          refine ge_iload_n (n := 84) C 5 rfl dX11_tans_83 rfl rfl ?_
          refine ge_iconst (v := 5) (n := 85) C dX11_tans_84 (by decide) rfl ?_
          refine ge_irem0 (n := 86) C (by decide) dX11_tans_85 rfl ?_
          refine ge_icmp_ne (t := 93) (n := 89) C dX11_tans_86 (by decide) rfl (fun h_86 => ?_) (fun h_86 => ?_)
          · refine ge_iconst (v := 0) (n := 94) C dX11_tans_93 (by decide) rfl ?_
            refine ge_goto (n := 120) C dX11_tans_94 (by decide) ?_
            exact hj120 (0 : Int32)
          · refine ge_iconst (v := 1) (n := 90) C dX11_tans_89 (by decide) rfl ?_
            refine ge_goto (n := 120) C dX11_tans_90 (by decide) ?_
            exact hj120 (1 : Int32)
      · refine ge_iload (n := 60) C 0 rfl dX11_tans_58 rfl ?_
        refine ge_iconst (v := 2) (n := 61) C dX11_tans_60 (by decide) rfl ?_
        refine ge_icmp_ne (t := 68) (n := 64) C dX11_tans_61 (by decide) rfl (fun h_61 => ?_) (fun h_61 => ?_)
        · refine ge_iload_n (n := 69) C 4 rfl dX11_tans_68 rfl rfl ?_
          refine ge_iconst (v := 2) (n := 70) C dX11_tans_69 (by decide) rfl ?_
          refine ge_idiv0 (n := 71) C (by decide) dX11_tans_70 rfl ?_
          refine ge_iconst (v := 1) (n := 72) C dX11_tans_71 (by decide) rfl ?_
          refine ge_iadd (n := 73) C dX11_tans_72 rfl ?_
          refine ge_goto (n := 120) C dX11_tans_73 (by decide) ?_
          exact hj120 ((a2 / (2 : Int32)) + (1 : Int32))
        · refine ge_iconst (v := 0) (n := 65) C dX11_tans_64 (by decide) rfl ?_
          refine ge_goto (n := 120) C dX11_tans_65 (by decide) ?_
          exact hj120 (0 : Int32)
  refine ge_lop (fun (jj : Int32 → Int32 → Op) => ∀ (x5_6 : Int32) (x4_6 : Int32), Ge w adr k 6 [(5, .int x5_6), (4, .int x4_6), (0, .ref (adr 35 0)), (1, .int a1), (2, .int a2), (3, .int a3)] [] S (jj x5_6 x4_6)) (fun _ _ => ge_none) (fun ag6 hag6 x5_6 x4_6 => ?_) FU (1 : Int32) (0 : Int32)
  refine ge_iload (n := 8) C 0 rfl dX11_tans_6 rfl ?_
  refine ge_iconst (v := 5) (n := 9) C dX11_tans_8 (by decide) rfl ?_
  refine ge_icmp_ge (t := 44) (n := 12) C dX11_tans_9 (by decide) rfl (fun h_9 => ?_) (fun h_9 => ?_)
  · refine ge_sub [1, 2, 3, 4, 5] rfl ?_
    exact hkk6 x4_6
  · refine ge_aload_n (n := 13) C 2 rfl dX11_tans_12 rfl rfl ?_
    refine gt_X11_62 (n := 16) C (by decide) dX11_tans_13 rfl ?_
    refine ge_iload (n := 18) C 0 rfl dX11_tans_16 rfl ?_
    refine al_52 (n := 19) C (by decide) dX11_tans_18 rfl ?_
    refine ge_aload_n (n := 20) C 2 rfl dX11_tans_19 rfl rfl ?_
    refine gt_X11_62 (n := 23) C (by decide) dX11_tans_20 rfl ?_
    refine ge_iload (n := 25) C 1 rfl dX11_tans_23 rfl ?_
    refine al_52 (n := 26) C (by decide) dX11_tans_25 rfl ?_
    refine ge_icmp_ge (t := 34) (n := 29) C dX11_tans_26 (by decide) rfl (fun h_26 => ?_) (fun h_26 => ?_)
    · refine ge_iload (n := 36) C 1 rfl dX11_tans_34 rfl ?_
      refine ge_istore (n := 38) (lv2 := [(4, .int x4_6), (5, .int x5_6), (0, .ref (adr 35 0)), (1, .int a1), (2, .int a2), (3, .int a3)]) C dX11_tans_36 rfl (by decide) rfl ?_
      refine ge_iinc (n := 41) (v := (x5_6 + (1 : Int32))) (lv2 := [(5, .int (x5_6 + (1 : Int32))), (4, .int x4_6), (0, .ref (adr 35 0)), (1, .int a1), (2, .int a2), (3, .int a3)]) C 1 rfl dX11_tans_38 rfl rfl (by decide) rfl ?_
      refine ge_goto (n := 6) C dX11_tans_41 (by decide) ?_
      exact hag6 (x5_6 + (1 : Int32)) x4_6
    · refine ge_iload (n := 31) C 0 rfl dX11_tans_29 rfl ?_
      refine ge_goto (n := 36) C dX11_tans_31 (by decide) ?_
      refine ge_istore (n := 38) (lv2 := [(4, .int x5_6), (5, .int x5_6), (0, .ref (adr 35 0)), (1, .int a1), (2, .int a2), (3, .int a3)]) C dX11_tans_36 rfl (by decide) rfl ?_
      refine ge_iinc (n := 41) (v := (x5_6 + (1 : Int32))) (lv2 := [(5, .int (x5_6 + (1 : Int32))), (4, .int x5_6), (0, .ref (adr 35 0)), (1, .int a1), (2, .int a2), (3, .int a3)]) C 1 rfl dX11_tans_38 rfl rfl (by decide) rfl ?_
      refine ge_goto (n := 6) C dX11_tans_41 (by decide) ?_
      exact hag6 (x5_6 + (1 : Int32)) x5_6
theorem dX11_takesSkin_0 : decode cX11_takesSkin 0 = .ok (.iconst 0, 1) := by decide +kernel
theorem dX11_takesSkin_1 : decode cX11_takesSkin 1 = .ok (.istore_n 2, 1) := by decide +kernel
theorem dX11_takesSkin_2 : decode cX11_takesSkin 2 = .ok (.iload_n 2, 1) := by decide +kernel
theorem dX11_takesSkin_3 : decode cX11_takesSkin 3 = .ok (.iconst 5, 1) := by decide +kernel
theorem dX11_takesSkin_4 : decode cX11_takesSkin 4 = .ok (.if_icmp .ge 46, 3) := by decide +kernel
theorem dX11_takesSkin_7 : decode cX11_takesSkin 7 = .ok (.aload_n 0, 1) := by decide +kernel
theorem dX11_takesSkin_8 : decode cX11_takesSkin 8 = .ok (.getfield 59, 3) := by decide +kernel
theorem dX11_takesSkin_11 : decode cX11_takesSkin 11 = .ok (.iload_n 2, 1) := by decide +kernel
theorem dX11_takesSkin_12 : decode cX11_takesSkin 12 = .ok (.aload_n 0, 1) := by decide +kernel
theorem dX11_takesSkin_13 : decode cX11_takesSkin 13 = .ok (.getfield 22, 3) := by decide +kernel
theorem dX11_takesSkin_16 : decode cX11_takesSkin 16 = .ok (.iconst 4, 1) := by decide +kernel
theorem dX11_takesSkin_17 : decode cX11_takesSkin 17 = .ok (.iconst 5, 1) := by decide +kernel
theorem dX11_takesSkin_18 : decode cX11_takesSkin 18 = .ok (.iload_n 1, 1) := by decide +kernel
theorem dX11_takesSkin_19 : decode cX11_takesSkin 19 = .ok (.imul, 1) := by decide +kernel
theorem dX11_takesSkin_20 : decode cX11_takesSkin 20 = .ok (.iadd, 1) := by decide +kernel
theorem dX11_takesSkin_21 : decode cX11_takesSkin 21 = .ok (.iload_n 2, 1) := by decide +kernel
theorem dX11_takesSkin_22 : decode cX11_takesSkin 22 = .ok (.iadd, 1) := by decide +kernel
theorem dX11_takesSkin_23 : decode cX11_takesSkin 23 = .ok (.iaload, 1) := by decide +kernel
theorem dX11_takesSkin_24 : decode cX11_takesSkin 24 = .ok (.iastore, 1) := by decide +kernel
theorem dX11_takesSkin_25 : decode cX11_takesSkin 25 = .ok (.aload_n 0, 1) := by decide +kernel
theorem dX11_takesSkin_26 : decode cX11_takesSkin 26 = .ok (.getfield 62, 3) := by decide +kernel
theorem dX11_takesSkin_29 : decode cX11_takesSkin 29 = .ok (.iload_n 2, 1) := by decide +kernel
theorem dX11_takesSkin_30 : decode cX11_takesSkin 30 = .ok (.aload_n 0, 1) := by decide +kernel
theorem dX11_takesSkin_31 : decode cX11_takesSkin 31 = .ok (.getfield 22, 3) := by decide +kernel
theorem dX11_takesSkin_34 : decode cX11_takesSkin 34 = .ok (.bipush 34, 2) := by decide +kernel
theorem dX11_takesSkin_36 : decode cX11_takesSkin 36 = .ok (.iconst 5, 1) := by decide +kernel
theorem dX11_takesSkin_37 : decode cX11_takesSkin 37 = .ok (.iload_n 1, 1) := by decide +kernel
theorem dX11_takesSkin_38 : decode cX11_takesSkin 38 = .ok (.imul, 1) := by decide +kernel
theorem dX11_takesSkin_39 : decode cX11_takesSkin 39 = .ok (.iadd, 1) := by decide +kernel
theorem dX11_takesSkin_40 : decode cX11_takesSkin 40 = .ok (.iload_n 2, 1) := by decide +kernel
theorem dX11_takesSkin_41 : decode cX11_takesSkin 41 = .ok (.iadd, 1) := by decide +kernel
theorem dX11_takesSkin_42 : decode cX11_takesSkin 42 = .ok (.iaload, 1) := by decide +kernel
theorem dX11_takesSkin_43 : decode cX11_takesSkin 43 = .ok (.iastore, 1) := by decide +kernel
theorem dX11_takesSkin_44 : decode cX11_takesSkin 44 = .ok (.iinc 2 1, 3) := by decide +kernel
theorem dX11_takesSkin_47 : decode cX11_takesSkin 47 = .ok (.goto (-45), 3) := by decide +kernel
theorem dX11_takesSkin_50 : decode cX11_takesSkin 50 = .ok (.return_, 1) := by decide +kernel
set_option maxRecDepth 100000 in
set_option maxHeartbeats 4000000 in
theorem mX11_takesSkin {w : WX} {adr : Nat → Nat → Nat} (hj : Ij adr) (a1 : Int32) (S : St) : ∀ (l : Launch) (r : Int32) (S2 : St), fX11_takesSkin a1 S = some (r, S2) → Mv l w adr yX11_takesSkin cX11_takesSkin 3 none 0 0 [.ref (adr 35 0), .int a1] S S2 := by
  refine mv_of (lv := [(0, .ref (adr 35 0)), (1, .int a1)]) hj (plainFor_of_name (by decide +kernel)) rfl (Nat.le_of_ble_eq_true rfl) (fun k C Rr => ?_)
  have C : Cx w adr k cX11_takesSkin RX11 3 0 0 := C
  refine ge_iconst (v := 0) (n := 1) C dX11_takesSkin_0 (by decide) rfl ?_
  refine ge_istore_n (n := 2) (lv2 := [(2, .int (0 : Int32)), (0, .ref (adr 35 0)), (1, .int a1)]) C dX11_takesSkin_1 rfl rfl (by decide) rfl ?_
  refine ge_jn (fun (jj : St → Op) => ∀ (S_50 : St), Ge w adr k 50 [] [] S_50 (jj S_50)) (fun S_50 => ?_) (fun kk2 hkk2 => ?_)
  · exact ge_vret C Rr dX11_takesSkin_50
  refine ge_lop (fun (jj : Int32 → St → Op) => ∀ (x2_2 : Int32) (S_2 : St), Ge w adr k 2 [(2, .int x2_2), (0, .ref (adr 35 0)), (1, .int a1)] [] S_2 (jj x2_2 S_2)) (fun _ _ => ge_none) (fun ag2 hag2 x2_2 S_2 => ?_) FU (0 : Int32) S
  refine ge_iload_n (n := 3) C 0 rfl dX11_takesSkin_2 rfl rfl ?_
  refine ge_iconst (v := 5) (n := 4) C dX11_takesSkin_3 (by decide) rfl ?_
  refine ge_icmp_ge (t := 50) (n := 7) C dX11_takesSkin_4 (by decide) rfl (fun h_4 => ?_) (fun h_4 => ?_)
  · refine ge_sub [] rfl ?_
    exact hkk2 S_2
  · refine ge_aload_n (n := 8) C 1 rfl dX11_takesSkin_7 rfl rfl ?_
    refine gt_X11_59 (n := 11) C (by decide) dX11_takesSkin_8 rfl ?_
    refine ge_iload_n (n := 12) C 0 rfl dX11_takesSkin_11 rfl rfl ?_
    refine ge_aload_n (n := 13) C 1 rfl dX11_takesSkin_12 rfl rfl ?_
    refine gt_X11_22 (n := 16) C (by decide) dX11_takesSkin_13 rfl ?_
    refine ge_iconst (v := 4) (n := 17) C dX11_takesSkin_16 (by decide) rfl ?_
    refine ge_iconst (v := 5) (n := 18) C dX11_takesSkin_17 (by decide) rfl ?_
    refine ge_iload_n (n := 19) C 2 rfl dX11_takesSkin_18 rfl rfl ?_
    refine ge_imul (n := 20) C dX11_takesSkin_19 rfl ?_
    refine ge_iadd (n := 21) C dX11_takesSkin_20 rfl ?_
    refine ge_iload_n (n := 22) C 0 rfl dX11_takesSkin_21 rfl rfl ?_
    refine ge_iadd (n := 23) C dX11_takesSkin_22 rfl ?_
    refine al_40 (n := 24) C (by decide) dX11_takesSkin_23 rfl ?_
    refine as_51 (n := 25) C (by decide) dX11_takesSkin_24 rfl (fun S_24 => ?_)
    refine ge_aload_n (n := 26) C 1 rfl dX11_takesSkin_25 rfl rfl ?_
    refine gt_X11_62 (n := 29) C (by decide) dX11_takesSkin_26 rfl ?_
    refine ge_iload_n (n := 30) C 0 rfl dX11_takesSkin_29 rfl rfl ?_
    refine ge_aload_n (n := 31) C 1 rfl dX11_takesSkin_30 rfl rfl ?_
    refine gt_X11_22 (n := 34) C (by decide) dX11_takesSkin_31 rfl ?_
    refine ge_bipush (v := 34) (n := 36) C dX11_takesSkin_34 (by decide) rfl ?_
    refine ge_iconst (v := 5) (n := 37) C dX11_takesSkin_36 (by decide) rfl ?_
    refine ge_iload_n (n := 38) C 2 rfl dX11_takesSkin_37 rfl rfl ?_
    refine ge_imul (n := 39) C dX11_takesSkin_38 rfl ?_
    refine ge_iadd (n := 40) C dX11_takesSkin_39 rfl ?_
    refine ge_iload_n (n := 41) C 0 rfl dX11_takesSkin_40 rfl rfl ?_
    refine ge_iadd (n := 42) C dX11_takesSkin_41 rfl ?_
    refine al_40 (n := 43) C (by decide) dX11_takesSkin_42 rfl ?_
    refine as_52 (n := 44) C (by decide) dX11_takesSkin_43 rfl (fun S_43 => ?_)
    refine ge_iinc (n := 47) (v := (x2_2 + (1 : Int32))) (lv2 := [(2, .int (x2_2 + (1 : Int32))), (0, .ref (adr 35 0)), (1, .int a1)]) C 0 rfl dX11_takesSkin_44 rfl rfl (by decide) rfl ?_
    refine ge_goto (n := 2) C dX11_takesSkin_47 (by decide) ?_
    exact hag2 (x2_2 + (1 : Int32)) S_43
theorem dX11_takesFirst_0 : decode cX11_takesFirst 0 = .ok (.iconst 0, 1) := by decide +kernel
theorem dX11_takesFirst_1 : decode cX11_takesFirst 1 = .ok (.istore_n 2, 1) := by decide +kernel
theorem dX11_takesFirst_2 : decode cX11_takesFirst 2 = .ok (.iload_n 2, 1) := by decide +kernel
theorem dX11_takesFirst_3 : decode cX11_takesFirst 3 = .ok (.iconst 5, 1) := by decide +kernel
theorem dX11_takesFirst_4 : decode cX11_takesFirst 4 = .ok (.if_icmp .ge 32, 3) := by decide +kernel
theorem dX11_takesFirst_7 : decode cX11_takesFirst 7 = .ok (.aload_n 0, 1) := by decide +kernel
theorem dX11_takesFirst_8 : decode cX11_takesFirst 8 = .ok (.getfield 59, 3) := by decide +kernel
theorem dX11_takesFirst_11 : decode cX11_takesFirst 11 = .ok (.iload_n 2, 1) := by decide +kernel
theorem dX11_takesFirst_12 : decode cX11_takesFirst 12 = .ok (.aload_n 0, 1) := by decide +kernel
theorem dX11_takesFirst_13 : decode cX11_takesFirst 13 = .ok (.getfield 13, 3) := by decide +kernel
theorem dX11_takesFirst_16 : decode cX11_takesFirst 16 = .ok (.iconst 5, 1) := by decide +kernel
theorem dX11_takesFirst_17 : decode cX11_takesFirst 17 = .ok (.iload_n 1, 1) := by decide +kernel
theorem dX11_takesFirst_18 : decode cX11_takesFirst 18 = .ok (.imul, 1) := by decide +kernel
theorem dX11_takesFirst_19 : decode cX11_takesFirst 19 = .ok (.iload_n 2, 1) := by decide +kernel
theorem dX11_takesFirst_20 : decode cX11_takesFirst 20 = .ok (.iadd, 1) := by decide +kernel
theorem dX11_takesFirst_21 : decode cX11_takesFirst 21 = .ok (.iaload, 1) := by decide +kernel
theorem dX11_takesFirst_22 : decode cX11_takesFirst 22 = .ok (.iastore, 1) := by decide +kernel
theorem dX11_takesFirst_23 : decode cX11_takesFirst 23 = .ok (.aload_n 0, 1) := by decide +kernel
theorem dX11_takesFirst_24 : decode cX11_takesFirst 24 = .ok (.getfield 62, 3) := by decide +kernel
theorem dX11_takesFirst_27 : decode cX11_takesFirst 27 = .ok (.iload_n 2, 1) := by decide +kernel
theorem dX11_takesFirst_28 : decode cX11_takesFirst 28 = .ok (.iconst 0, 1) := by decide +kernel
theorem dX11_takesFirst_29 : decode cX11_takesFirst 29 = .ok (.iastore, 1) := by decide +kernel
theorem dX11_takesFirst_30 : decode cX11_takesFirst 30 = .ok (.iinc 2 1, 3) := by decide +kernel
theorem dX11_takesFirst_33 : decode cX11_takesFirst 33 = .ok (.goto (-31), 3) := by decide +kernel
theorem dX11_takesFirst_36 : decode cX11_takesFirst 36 = .ok (.return_, 1) := by decide +kernel
set_option maxRecDepth 100000 in
set_option maxHeartbeats 4000000 in
theorem mX11_takesFirst {w : WX} {adr : Nat → Nat → Nat} (hj : Ij adr) (a1 : Int32) (S : St) : ∀ (l : Launch) (r : Int32) (S2 : St), fX11_takesFirst a1 S = some (r, S2) → Mv l w adr yX11_takesFirst cX11_takesFirst 3 none 0 0 [.ref (adr 35 0), .int a1] S S2 := by
  refine mv_of (lv := [(0, .ref (adr 35 0)), (1, .int a1)]) hj (plainFor_of_name (by decide +kernel)) rfl (Nat.le_of_ble_eq_true rfl) (fun k C Rr => ?_)
  have C : Cx w adr k cX11_takesFirst RX11 3 0 0 := C
  refine ge_iconst (v := 0) (n := 1) C dX11_takesFirst_0 (by decide) rfl ?_
  refine ge_istore_n (n := 2) (lv2 := [(2, .int (0 : Int32)), (0, .ref (adr 35 0)), (1, .int a1)]) C dX11_takesFirst_1 rfl rfl (by decide) rfl ?_
  refine ge_jn (fun (jj : St → Op) => ∀ (S_36 : St), Ge w adr k 36 [] [] S_36 (jj S_36)) (fun S_36 => ?_) (fun kk2 hkk2 => ?_)
  · exact ge_vret C Rr dX11_takesFirst_36
  refine ge_lop (fun (jj : Int32 → St → Op) => ∀ (x2_2 : Int32) (S_2 : St), Ge w adr k 2 [(2, .int x2_2), (0, .ref (adr 35 0)), (1, .int a1)] [] S_2 (jj x2_2 S_2)) (fun _ _ => ge_none) (fun ag2 hag2 x2_2 S_2 => ?_) FU (0 : Int32) S
  refine ge_iload_n (n := 3) C 0 rfl dX11_takesFirst_2 rfl rfl ?_
  refine ge_iconst (v := 5) (n := 4) C dX11_takesFirst_3 (by decide) rfl ?_
  refine ge_icmp_ge (t := 36) (n := 7) C dX11_takesFirst_4 (by decide) rfl (fun h_4 => ?_) (fun h_4 => ?_)
  · refine ge_sub [] rfl ?_
    exact hkk2 S_2
  · refine ge_aload_n (n := 8) C 1 rfl dX11_takesFirst_7 rfl rfl ?_
    refine gt_X11_59 (n := 11) C (by decide) dX11_takesFirst_8 rfl ?_
    refine ge_iload_n (n := 12) C 0 rfl dX11_takesFirst_11 rfl rfl ?_
    refine ge_aload_n (n := 13) C 1 rfl dX11_takesFirst_12 rfl rfl ?_
    refine gt_X11_13 (n := 16) C (by decide) dX11_takesFirst_13 rfl ?_
    refine ge_iconst (v := 5) (n := 17) C dX11_takesFirst_16 (by decide) rfl ?_
    refine ge_iload_n (n := 18) C 2 rfl dX11_takesFirst_17 rfl rfl ?_
    refine ge_imul (n := 19) C dX11_takesFirst_18 rfl ?_
    refine ge_iload_n (n := 20) C 0 rfl dX11_takesFirst_19 rfl rfl ?_
    refine ge_iadd (n := 21) C dX11_takesFirst_20 rfl ?_
    refine al_37 (n := 22) C (by decide) dX11_takesFirst_21 rfl ?_
    refine as_51 (n := 23) C (by decide) dX11_takesFirst_22 rfl (fun S_22 => ?_)
    refine ge_aload_n (n := 24) C 1 rfl dX11_takesFirst_23 rfl rfl ?_
    refine gt_X11_62 (n := 27) C (by decide) dX11_takesFirst_24 rfl ?_
    refine ge_iload_n (n := 28) C 0 rfl dX11_takesFirst_27 rfl rfl ?_
    refine ge_iconst (v := 0) (n := 29) C dX11_takesFirst_28 (by decide) rfl ?_
    refine as_52 (n := 30) C (by decide) dX11_takesFirst_29 rfl (fun S_29 => ?_)
    refine ge_iinc (n := 33) (v := (x2_2 + (1 : Int32))) (lv2 := [(2, .int (x2_2 + (1 : Int32))), (0, .ref (adr 35 0)), (1, .int a1)]) C 0 rfl dX11_takesFirst_30 rfl rfl (by decide) rfl ?_
    refine ge_goto (n := 2) C dX11_takesFirst_33 (by decide) ?_
    exact hag2 (x2_2 + (1 : Int32)) S_29
theorem dX11_hurts_0 : decode cX11_hurts 0 = .ok (.aload_n 0, 1) := by decide +kernel
theorem dX11_hurts_1 : decode cX11_hurts 1 = .ok (.getfield 19, 3) := by decide +kernel
theorem dX11_hurts_4 : decode cX11_hurts 4 = .ok (.iload_n 1, 1) := by decide +kernel
theorem dX11_hurts_5 : decode cX11_hurts 5 = .ok (.iaload, 1) := by decide +kernel
theorem dX11_hurts_6 : decode cX11_hurts 6 = .ok (.aload_n 0, 1) := by decide +kernel
theorem dX11_hurts_7 : decode cX11_hurts 7 = .ok (.getfield 59, 3) := by decide +kernel
theorem dX11_hurts_10 : decode cX11_hurts 10 = .ok (.aload_n 0, 1) := by decide +kernel
theorem dX11_hurts_11 : decode cX11_hurts 11 = .ok (.getfield 16, 3) := by decide +kernel
theorem dX11_hurts_14 : decode cX11_hurts 14 = .ok (.iload_n 1, 1) := by decide +kernel
theorem dX11_hurts_15 : decode cX11_hurts 15 = .ok (.iaload, 1) := by decide +kernel
theorem dX11_hurts_16 : decode cX11_hurts 16 = .ok (.iaload, 1) := by decide +kernel
theorem dX11_hurts_17 : decode cX11_hurts 17 = .ok (.iadd, 1) := by decide +kernel
theorem dX11_hurts_18 : decode cX11_hurts 18 = .ok (.aload_n 0, 1) := by decide +kernel
theorem dX11_hurts_19 : decode cX11_hurts 19 = .ok (.getfield 62, 3) := by decide +kernel
theorem dX11_hurts_22 : decode cX11_hurts 22 = .ok (.aload_n 0, 1) := by decide +kernel
theorem dX11_hurts_23 : decode cX11_hurts 23 = .ok (.getfield 16, 3) := by decide +kernel
theorem dX11_hurts_26 : decode cX11_hurts 26 = .ok (.iload_n 1, 1) := by decide +kernel
theorem dX11_hurts_27 : decode cX11_hurts 27 = .ok (.iaload, 1) := by decide +kernel
theorem dX11_hurts_28 : decode cX11_hurts 28 = .ok (.iaload, 1) := by decide +kernel
theorem dX11_hurts_29 : decode cX11_hurts 29 = .ok (.isub, 1) := by decide +kernel
theorem dX11_hurts_30 : decode cX11_hurts 30 = .ok (.istore_n 2, 1) := by decide +kernel
theorem dX11_hurts_31 : decode cX11_hurts 31 = .ok (.iload_n 2, 1) := by decide +kernel
theorem dX11_hurts_32 : decode cX11_hurts 32 = .ok (.ifCond .ge 7, 3) := by decide +kernel
theorem dX11_hurts_35 : decode cX11_hurts 35 = .ok (.iconst 0, 1) := by decide +kernel
theorem dX11_hurts_36 : decode cX11_hurts 36 = .ok (.goto 4, 3) := by decide +kernel
theorem dX11_hurts_39 : decode cX11_hurts 39 = .ok (.iload_n 2, 1) := by decide +kernel
theorem dX11_hurts_40 : decode cX11_hurts 40 = .ok (.ireturn, 1) := by decide +kernel
set_option maxRecDepth 100000 in
set_option maxHeartbeats 4000000 in
theorem mX11_hurts {w : WX} {adr : Nat → Nat → Nat} (hj : Ij adr) (a1 : Int32) (S : St) : ∀ (l : Launch) (r : Int32) (S2 : St), fX11_hurts a1 S = some (r, S2) → Mi l w adr yX11_hurts cX11_hurts 3 (some .int) 0 0 [.ref (adr 35 0), .int a1] S r S2 := by
  refine mi_of (lv := [(0, .ref (adr 35 0)), (1, .int a1)]) hj (plainFor_of_name (by decide +kernel)) rfl (Nat.le_of_ble_eq_true rfl) (fun k C Rr => ?_)
  have C : Cx w adr k cX11_hurts RX11 3 0 0 := C
  refine ge_aload_n (n := 1) C 0 rfl dX11_hurts_0 rfl rfl ?_
  refine gt_X11_19 (n := 4) C (by decide) dX11_hurts_1 rfl ?_
  refine ge_iload_n (n := 5) C 1 rfl dX11_hurts_4 rfl rfl ?_
  refine al_39 (n := 6) C (by decide) dX11_hurts_5 rfl ?_
  refine ge_aload_n (n := 7) C 0 rfl dX11_hurts_6 rfl rfl ?_
  refine gt_X11_59 (n := 10) C (by decide) dX11_hurts_7 rfl ?_
  refine ge_aload_n (n := 11) C 0 rfl dX11_hurts_10 rfl rfl ?_
  refine gt_X11_16 (n := 14) C (by decide) dX11_hurts_11 rfl ?_
  refine ge_iload_n (n := 15) C 1 rfl dX11_hurts_14 rfl rfl ?_
  refine al_38 (n := 16) C (by decide) dX11_hurts_15 rfl ?_
  refine al_51 (n := 17) C (by decide) dX11_hurts_16 rfl ?_
  refine ge_iadd (n := 18) C dX11_hurts_17 rfl ?_
  refine ge_aload_n (n := 19) C 0 rfl dX11_hurts_18 rfl rfl ?_
  refine gt_X11_62 (n := 22) C (by decide) dX11_hurts_19 rfl ?_
  refine ge_aload_n (n := 23) C 0 rfl dX11_hurts_22 rfl rfl ?_
  refine gt_X11_16 (n := 26) C (by decide) dX11_hurts_23 rfl ?_
  refine ge_iload_n (n := 27) C 1 rfl dX11_hurts_26 rfl rfl ?_
  refine al_38 (n := 28) C (by decide) dX11_hurts_27 rfl ?_
  refine al_52 (n := 29) C (by decide) dX11_hurts_28 rfl ?_
  refine ge_isub (n := 30) C dX11_hurts_29 rfl ?_
  refine ge_bi (fun x2_30 => ?_)
  refine ge_istore_n (n := 31) (lv2 := [(2, .int x2_30), (0, .ref (adr 35 0)), (1, .int a1)]) C dX11_hurts_30 rfl rfl (by decide) rfl ?_
  refine ge_iload_n (n := 32) C 0 rfl dX11_hurts_31 rfl rfl ?_
  refine ge_if_ge (t := 39) (n := 35) C dX11_hurts_32 (by decide) rfl (fun h_32 => ?_) (fun h_32 => ?_)
  · refine ge_iload_n (n := 40) C 0 rfl dX11_hurts_39 rfl rfl ?_
    exact ge_iret C Rr dX11_hurts_40
  · refine ge_iconst (v := 0) (n := 36) C dX11_hurts_35 (by decide) rfl ?_
    refine ge_goto (n := 40) C dX11_hurts_36 (by decide) ?_
    exact ge_iret C Rr dX11_hurts_40
theorem dX11_borneNow_0 : decode cX11_borneNow 0 = .ok (.iconst 0, 1) := by decide +kernel
theorem dX11_borneNow_1 : decode cX11_borneNow 1 = .ok (.istore_n 1, 1) := by decide +kernel
theorem dX11_borneNow_2 : decode cX11_borneNow 2 = .ok (.iconst 0, 1) := by decide +kernel
theorem dX11_borneNow_3 : decode cX11_borneNow 3 = .ok (.istore_n 2, 1) := by decide +kernel
theorem dX11_borneNow_4 : decode cX11_borneNow 4 = .ok (.iload_n 2, 1) := by decide +kernel
theorem dX11_borneNow_5 : decode cX11_borneNow 5 = .ok (.aload_n 0, 1) := by decide +kernel
theorem dX11_borneNow_6 : decode cX11_borneNow 6 = .ok (.getfield 100, 3) := by decide +kernel
theorem dX11_borneNow_9 : decode cX11_borneNow 9 = .ok (.if_icmp .ge 28, 3) := by decide +kernel
theorem dX11_borneNow_12 : decode cX11_borneNow 12 = .ok (.iload_n 1, 1) := by decide +kernel
theorem dX11_borneNow_13 : decode cX11_borneNow 13 = .ok (.aload_n 0, 1) := by decide +kernel
theorem dX11_borneNow_14 : decode cX11_borneNow 14 = .ok (.iload_n 2, 1) := by decide +kernel
theorem dX11_borneNow_15 : decode cX11_borneNow 15 = .ok (.invokevirtual 186, 3) := by decide +kernel
theorem dX11_borneNow_18 : decode cX11_borneNow 18 = .ok (.iconst 5, 1) := by decide +kernel
theorem dX11_borneNow_19 : decode cX11_borneNow 19 = .ok (.if_icmp .gt 9, 3) := by decide +kernel
theorem dX11_borneNow_22 : decode cX11_borneNow 22 = .ok (.iconst 1, 1) := by decide +kernel
theorem dX11_borneNow_23 : decode cX11_borneNow 23 = .ok (.iload_n 2, 1) := by decide +kernel
theorem dX11_borneNow_24 : decode cX11_borneNow 24 = .ok (.ishl, 1) := by decide +kernel
theorem dX11_borneNow_25 : decode cX11_borneNow 25 = .ok (.goto 4, 3) := by decide +kernel
theorem dX11_borneNow_28 : decode cX11_borneNow 28 = .ok (.iconst 0, 1) := by decide +kernel
theorem dX11_borneNow_29 : decode cX11_borneNow 29 = .ok (.ior, 1) := by decide +kernel
theorem dX11_borneNow_30 : decode cX11_borneNow 30 = .ok (.istore_n 1, 1) := by decide +kernel
theorem dX11_borneNow_31 : decode cX11_borneNow 31 = .ok (.iinc 2 1, 3) := by decide +kernel
theorem dX11_borneNow_34 : decode cX11_borneNow 34 = .ok (.goto (-30), 3) := by decide +kernel
theorem dX11_borneNow_37 : decode cX11_borneNow 37 = .ok (.iload_n 1, 1) := by decide +kernel
theorem dX11_borneNow_38 : decode cX11_borneNow 38 = .ok (.ireturn, 1) := by decide +kernel
set_option maxRecDepth 100000 in
set_option maxHeartbeats 4000000 in
theorem mX11_borneNow {w : WX} {adr : Nat → Nat → Nat} (hj : Ij adr)  (S : St) : ∀ (l : Launch) (r : Int32) (S2 : St), fX11_borneNow S = some (r, S2) → Mi l w adr yX11_borneNow cX11_borneNow 3 (some .int) 1 22 [.ref (adr 35 0)] S r S2 := by
  refine mi_of (lv := [(0, .ref (adr 35 0))]) hj (plainFor_of_name (by decide +kernel)) rfl (Nat.le_of_ble_eq_true rfl) (fun k C Rr => ?_)
  have C : Cx w adr k cX11_borneNow RX11 3 1 22 := C
  refine ge_iconst (v := 0) (n := 1) C dX11_borneNow_0 (by decide) rfl ?_
  refine ge_istore_n (n := 2) (lv2 := [(1, .int (0 : Int32)), (0, .ref (adr 35 0))]) C dX11_borneNow_1 rfl rfl (by decide) rfl ?_
  refine ge_iconst (v := 0) (n := 3) C dX11_borneNow_2 (by decide) rfl ?_
  refine ge_istore_n (n := 4) (lv2 := [(2, .int (0 : Int32)), (1, .int (0 : Int32)), (0, .ref (adr 35 0))]) C dX11_borneNow_3 rfl rfl (by decide) rfl ?_
  refine ge_jn (fun (jj : Int32 → St → Op) => ∀ (x1_37 : Int32) (S_37 : St), Ge w adr k 37 [(1, .int x1_37)] [] S_37 (jj x1_37 S_37)) (fun x1_37 S_37 => ?_) (fun kk4 hkk4 => ?_)
  · refine ge_iload_n (n := 38) C 0 rfl dX11_borneNow_37 rfl rfl ?_
    exact ge_iret C Rr dX11_borneNow_38
  refine ge_lop (fun (jj : Int32 → Int32 → St → Op) => ∀ (x2_4 : Int32) (x1_4 : Int32) (S_4 : St), Ge w adr k 4 [(2, .int x2_4), (1, .int x1_4), (0, .ref (adr 35 0))] [] S_4 (jj x2_4 x1_4 S_4)) (fun _ _ _ => ge_none) (fun ag4 hag4 x2_4 x1_4 S_4 => ?_) FU (0 : Int32) (0 : Int32) S
  refine ge_iload_n (n := 5) C 0 rfl dX11_borneNow_4 rfl rfl ?_
  refine ge_aload_n (n := 6) C 2 rfl dX11_borneNow_5 rfl rfl ?_
  refine gt_X11_100 (n := 9) C (by decide) dX11_borneNow_6 rfl ?_
  refine ge_icmp_ge (t := 37) (n := 12) C dX11_borneNow_9 (by decide) rfl (fun h_9 => ?_) (fun h_9 => ?_)
  · refine ge_sub [1] rfl ?_
    exact hkk4 x1_4 S_4
  · refine ge_iload_n (n := 13) C 1 rfl dX11_borneNow_12 rfl rfl ?_
    refine ge_aload_n (n := 14) C 2 rfl dX11_borneNow_13 rfl rfl ?_
    refine ge_iload_n (n := 15) C 0 rfl dX11_borneNow_14 rfl rfl ?_
    refine ge_callVi (n := 18) C (mX11_hurts hj x2_4 S_4) gv_X11_186 (cl_35 (by decide)) rfl rfl hc_X11_hurts ⟨Nat.le_of_ble_eq_true rfl, Nat.le_of_ble_eq_true rfl⟩ rfl rfl (Nat.le_of_ble_eq_true rfl) dX11_borneNow_15 rfl (fun r_15 S_15 => ?_)
    refine ge_iconst (v := 5) (n := 19) C dX11_borneNow_18 (by decide) rfl ?_
    refine ge_icmp_gt (t := 28) (n := 22) C dX11_borneNow_19 (by decide) rfl (fun h_19 => ?_) (fun h_19 => ?_)
    · refine ge_iconst (v := 0) (n := 29) C dX11_borneNow_28 (by decide) rfl ?_
      refine ge_ior (n := 30) C dX11_borneNow_29 rfl ?_
      refine ge_bi (fun x1_30 => ?_)
      refine ge_istore_n (n := 31) (lv2 := [(1, .int x1_30), (2, .int x2_4), (0, .ref (adr 35 0))]) C dX11_borneNow_30 rfl rfl (by decide) rfl ?_
      refine ge_iinc (n := 34) (v := (x2_4 + (1 : Int32))) (lv2 := [(2, .int (x2_4 + (1 : Int32))), (1, .int x1_30), (0, .ref (adr 35 0))]) C 1 rfl dX11_borneNow_31 rfl rfl (by decide) rfl ?_
      refine ge_goto (n := 4) C dX11_borneNow_34 (by decide) ?_
      exact hag4 (x2_4 + (1 : Int32)) x1_30 S_15
    · refine ge_iconst (v := 1) (n := 23) C dX11_borneNow_22 (by decide) rfl ?_
      refine ge_iload_n (n := 24) C 0 rfl dX11_borneNow_23 rfl rfl ?_
      refine ge_ishl (n := 25) C dX11_borneNow_24 rfl ?_
      refine ge_goto (n := 29) C dX11_borneNow_25 (by decide) ?_
      refine ge_ior (n := 30) C dX11_borneNow_29 rfl ?_
      refine ge_bi (fun x1_30 => ?_)
      refine ge_istore_n (n := 31) (lv2 := [(1, .int x1_30), (2, .int x2_4), (0, .ref (adr 35 0))]) C dX11_borneNow_30 rfl rfl (by decide) rfl ?_
      refine ge_iinc (n := 34) (v := (x2_4 + (1 : Int32))) (lv2 := [(2, .int (x2_4 + (1 : Int32))), (1, .int x1_30), (0, .ref (adr 35 0))]) C 1 rfl dX11_borneNow_31 rfl rfl (by decide) rfl ?_
      refine ge_goto (n := 4) C dX11_borneNow_34 (by decide) ?_
      exact hag4 (x2_4 + (1 : Int32)) x1_30 S_15
theorem dX11_feltNow_0 : decode cX11_feltNow 0 = .ok (.iconst 0, 1) := by decide +kernel
theorem dX11_feltNow_1 : decode cX11_feltNow 1 = .ok (.istore_n 1, 1) := by decide +kernel
theorem dX11_feltNow_2 : decode cX11_feltNow 2 = .ok (.iconst 0, 1) := by decide +kernel
theorem dX11_feltNow_3 : decode cX11_feltNow 3 = .ok (.istore_n 2, 1) := by decide +kernel
theorem dX11_feltNow_4 : decode cX11_feltNow 4 = .ok (.iload_n 2, 1) := by decide +kernel
theorem dX11_feltNow_5 : decode cX11_feltNow 5 = .ok (.aload_n 0, 1) := by decide +kernel
theorem dX11_feltNow_6 : decode cX11_feltNow 6 = .ok (.getfield 100, 3) := by decide +kernel
theorem dX11_feltNow_9 : decode cX11_feltNow 9 = .ok (.if_icmp .ge 28, 3) := by decide +kernel
theorem dX11_feltNow_12 : decode cX11_feltNow 12 = .ok (.iload_n 1, 1) := by decide +kernel
theorem dX11_feltNow_13 : decode cX11_feltNow 13 = .ok (.aload_n 0, 1) := by decide +kernel
theorem dX11_feltNow_14 : decode cX11_feltNow 14 = .ok (.iload_n 2, 1) := by decide +kernel
theorem dX11_feltNow_15 : decode cX11_feltNow 15 = .ok (.invokevirtual 186, 3) := by decide +kernel
theorem dX11_feltNow_18 : decode cX11_feltNow 18 = .ok (.iconst 1, 1) := by decide +kernel
theorem dX11_feltNow_19 : decode cX11_feltNow 19 = .ok (.if_icmp .lt 9, 3) := by decide +kernel
theorem dX11_feltNow_22 : decode cX11_feltNow 22 = .ok (.iconst 1, 1) := by decide +kernel
theorem dX11_feltNow_23 : decode cX11_feltNow 23 = .ok (.iload_n 2, 1) := by decide +kernel
theorem dX11_feltNow_24 : decode cX11_feltNow 24 = .ok (.ishl, 1) := by decide +kernel
theorem dX11_feltNow_25 : decode cX11_feltNow 25 = .ok (.goto 4, 3) := by decide +kernel
theorem dX11_feltNow_28 : decode cX11_feltNow 28 = .ok (.iconst 0, 1) := by decide +kernel
theorem dX11_feltNow_29 : decode cX11_feltNow 29 = .ok (.ior, 1) := by decide +kernel
theorem dX11_feltNow_30 : decode cX11_feltNow 30 = .ok (.istore_n 1, 1) := by decide +kernel
theorem dX11_feltNow_31 : decode cX11_feltNow 31 = .ok (.iinc 2 1, 3) := by decide +kernel
theorem dX11_feltNow_34 : decode cX11_feltNow 34 = .ok (.goto (-30), 3) := by decide +kernel
theorem dX11_feltNow_37 : decode cX11_feltNow 37 = .ok (.iload_n 1, 1) := by decide +kernel
theorem dX11_feltNow_38 : decode cX11_feltNow 38 = .ok (.ireturn, 1) := by decide +kernel
set_option maxRecDepth 100000 in
set_option maxHeartbeats 4000000 in
theorem mX11_feltNow {w : WX} {adr : Nat → Nat → Nat} (hj : Ij adr)  (S : St) : ∀ (l : Launch) (r : Int32) (S2 : St), fX11_feltNow S = some (r, S2) → Mi l w adr yX11_feltNow cX11_feltNow 3 (some .int) 1 22 [.ref (adr 35 0)] S r S2 := by
  refine mi_of (lv := [(0, .ref (adr 35 0))]) hj (plainFor_of_name (by decide +kernel)) rfl (Nat.le_of_ble_eq_true rfl) (fun k C Rr => ?_)
  have C : Cx w adr k cX11_feltNow RX11 3 1 22 := C
  refine ge_iconst (v := 0) (n := 1) C dX11_feltNow_0 (by decide) rfl ?_
  refine ge_istore_n (n := 2) (lv2 := [(1, .int (0 : Int32)), (0, .ref (adr 35 0))]) C dX11_feltNow_1 rfl rfl (by decide) rfl ?_
  refine ge_iconst (v := 0) (n := 3) C dX11_feltNow_2 (by decide) rfl ?_
  refine ge_istore_n (n := 4) (lv2 := [(2, .int (0 : Int32)), (1, .int (0 : Int32)), (0, .ref (adr 35 0))]) C dX11_feltNow_3 rfl rfl (by decide) rfl ?_
  refine ge_jn (fun (jj : Int32 → St → Op) => ∀ (x1_37 : Int32) (S_37 : St), Ge w adr k 37 [(1, .int x1_37)] [] S_37 (jj x1_37 S_37)) (fun x1_37 S_37 => ?_) (fun kk4 hkk4 => ?_)
  · refine ge_iload_n (n := 38) C 0 rfl dX11_feltNow_37 rfl rfl ?_
    exact ge_iret C Rr dX11_feltNow_38
  refine ge_lop (fun (jj : Int32 → Int32 → St → Op) => ∀ (x2_4 : Int32) (x1_4 : Int32) (S_4 : St), Ge w adr k 4 [(2, .int x2_4), (1, .int x1_4), (0, .ref (adr 35 0))] [] S_4 (jj x2_4 x1_4 S_4)) (fun _ _ _ => ge_none) (fun ag4 hag4 x2_4 x1_4 S_4 => ?_) FU (0 : Int32) (0 : Int32) S
  refine ge_iload_n (n := 5) C 0 rfl dX11_feltNow_4 rfl rfl ?_
  refine ge_aload_n (n := 6) C 2 rfl dX11_feltNow_5 rfl rfl ?_
  refine gt_X11_100 (n := 9) C (by decide) dX11_feltNow_6 rfl ?_
  refine ge_icmp_ge (t := 37) (n := 12) C dX11_feltNow_9 (by decide) rfl (fun h_9 => ?_) (fun h_9 => ?_)
  · refine ge_sub [1] rfl ?_
    exact hkk4 x1_4 S_4
  · refine ge_iload_n (n := 13) C 1 rfl dX11_feltNow_12 rfl rfl ?_
    refine ge_aload_n (n := 14) C 2 rfl dX11_feltNow_13 rfl rfl ?_
    refine ge_iload_n (n := 15) C 0 rfl dX11_feltNow_14 rfl rfl ?_
    refine ge_callVi (n := 18) C (mX11_hurts hj x2_4 S_4) gv_X11_186 (cl_35 (by decide)) rfl rfl hc_X11_hurts ⟨Nat.le_of_ble_eq_true rfl, Nat.le_of_ble_eq_true rfl⟩ rfl rfl (Nat.le_of_ble_eq_true rfl) dX11_feltNow_15 rfl (fun r_15 S_15 => ?_)
    refine ge_iconst (v := 1) (n := 19) C dX11_feltNow_18 (by decide) rfl ?_
    refine ge_icmp_lt (t := 28) (n := 22) C dX11_feltNow_19 (by decide) rfl (fun h_19 => ?_) (fun h_19 => ?_)
    · refine ge_iconst (v := 0) (n := 29) C dX11_feltNow_28 (by decide) rfl ?_
      refine ge_ior (n := 30) C dX11_feltNow_29 rfl ?_
      refine ge_bi (fun x1_30 => ?_)
      refine ge_istore_n (n := 31) (lv2 := [(1, .int x1_30), (2, .int x2_4), (0, .ref (adr 35 0))]) C dX11_feltNow_30 rfl rfl (by decide) rfl ?_
      refine ge_iinc (n := 34) (v := (x2_4 + (1 : Int32))) (lv2 := [(2, .int (x2_4 + (1 : Int32))), (1, .int x1_30), (0, .ref (adr 35 0))]) C 1 rfl dX11_feltNow_31 rfl rfl (by decide) rfl ?_
      refine ge_goto (n := 4) C dX11_feltNow_34 (by decide) ?_
      exact hag4 (x2_4 + (1 : Int32)) x1_30 S_15
    · refine ge_iconst (v := 1) (n := 23) C dX11_feltNow_22 (by decide) rfl ?_
      refine ge_iload_n (n := 24) C 0 rfl dX11_feltNow_23 rfl rfl ?_
      refine ge_ishl (n := 25) C dX11_feltNow_24 rfl ?_
      refine ge_goto (n := 29) C dX11_feltNow_25 (by decide) ?_
      refine ge_ior (n := 30) C dX11_feltNow_29 rfl ?_
      refine ge_bi (fun x1_30 => ?_)
      refine ge_istore_n (n := 31) (lv2 := [(1, .int x1_30), (2, .int x2_4), (0, .ref (adr 35 0))]) C dX11_feltNow_30 rfl rfl (by decide) rfl ?_
      refine ge_iinc (n := 34) (v := (x2_4 + (1 : Int32))) (lv2 := [(2, .int (x2_4 + (1 : Int32))), (1, .int x1_30), (0, .ref (adr 35 0))]) C 1 rfl dX11_feltNow_31 rfl rfl (by decide) rfl ?_
      refine ge_goto (n := 4) C dX11_feltNow_34 (by decide) ?_
      exact hag4 (x2_4 + (1 : Int32)) x1_30 S_15
theorem dX11_hurtOf_0 : decode cX11_hurtOf 0 = .ok (.aload_n 0, 1) := by decide +kernel
theorem dX11_hurtOf_1 : decode cX11_hurtOf 1 = .ok (.iload_n 1, 1) := by decide +kernel
theorem dX11_hurtOf_2 : decode cX11_hurtOf 2 = .ok (.invokevirtual 189, 3) := by decide +kernel
theorem dX11_hurtOf_5 : decode cX11_hurtOf 5 = .ok (.aload_n 0, 1) := by decide +kernel
theorem dX11_hurtOf_6 : decode cX11_hurtOf 6 = .ok (.iload_n 2, 1) := by decide +kernel
theorem dX11_hurtOf_7 : decode cX11_hurtOf 7 = .ok (.invokevirtual 186, 3) := by decide +kernel
theorem dX11_hurtOf_10 : decode cX11_hurtOf 10 = .ok (.ireturn, 1) := by decide +kernel
set_option maxRecDepth 100000 in
set_option maxHeartbeats 4000000 in
theorem mX11_hurtOf {w : WX} {adr : Nat → Nat → Nat} (hj : Ij adr) (a1 : Int32) (a2 : Int32) (S : St) : ∀ (l : Launch) (r : Int32) (S2 : St), fX11_hurtOf a1 a2 S = some (r, S2) → Mi l w adr yX11_hurtOf cX11_hurtOf 3 (some .int) 1 22 [.ref (adr 35 0), .int a1, .int a2] S r S2 := by
  refine mi_of (lv := [(0, .ref (adr 35 0)), (1, .int a1), (2, .int a2)]) hj (plainFor_of_name (by decide +kernel)) rfl (Nat.le_of_ble_eq_true rfl) (fun k C Rr => ?_)
  have C : Cx w adr k cX11_hurtOf RX11 3 1 22 := C
  refine ge_aload_n (n := 1) C 0 rfl dX11_hurtOf_0 rfl rfl ?_
  refine ge_iload_n (n := 2) C 1 rfl dX11_hurtOf_1 rfl rfl ?_
  refine ge_callVv (n := 5) C (mX11_takesSkin hj a1 S) gv_X11_189 (cl_35 (by decide)) rfl rfl hc_X11_takesSkin ⟨Nat.le_of_ble_eq_true rfl, Nat.le_of_ble_eq_true rfl⟩ rfl rfl (Nat.le_of_ble_eq_true rfl) dX11_hurtOf_2 rfl (fun _ S_2 => ?_)
  refine ge_aload_n (n := 6) C 0 rfl dX11_hurtOf_5 rfl rfl ?_
  refine ge_iload_n (n := 7) C 2 rfl dX11_hurtOf_6 rfl rfl ?_
  refine ge_callVi (n := 10) C (mX11_hurts hj a2 S_2) gv_X11_186 (cl_35 (by decide)) rfl rfl hc_X11_hurts ⟨Nat.le_of_ble_eq_true rfl, Nat.le_of_ble_eq_true rfl⟩ rfl rfl (Nat.le_of_ble_eq_true rfl) dX11_hurtOf_7 rfl (fun r_7 S_7 => ?_)
  exact ge_iret C Rr dX11_hurtOf_10
theorem dX11_woundsAll_0 : decode cX11_woundsAll 0 = .ok (.iconst 0, 1) := by decide +kernel
theorem dX11_woundsAll_1 : decode cX11_woundsAll 1 = .ok (.istore_n 1, 1) := by decide +kernel
theorem dX11_woundsAll_2 : decode cX11_woundsAll 2 = .ok (.iconst 0, 1) := by decide +kernel
theorem dX11_woundsAll_3 : decode cX11_woundsAll 3 = .ok (.istore_n 2, 1) := by decide +kernel
theorem dX11_woundsAll_4 : decode cX11_woundsAll 4 = .ok (.iload_n 2, 1) := by decide +kernel
theorem dX11_woundsAll_5 : decode cX11_woundsAll 5 = .ok (.aload_n 0, 1) := by decide +kernel
theorem dX11_woundsAll_6 : decode cX11_woundsAll 6 = .ok (.getfield 93, 3) := by decide +kernel
theorem dX11_woundsAll_9 : decode cX11_woundsAll 9 = .ok (.if_icmp .ge 21, 3) := by decide +kernel
theorem dX11_woundsAll_12 : decode cX11_woundsAll 12 = .ok (.iload_n 1, 1) := by decide +kernel
theorem dX11_woundsAll_13 : decode cX11_woundsAll 13 = .ok (.aload_n 0, 1) := by decide +kernel
theorem dX11_woundsAll_14 : decode cX11_woundsAll 14 = .ok (.getfield 22, 3) := by decide +kernel
theorem dX11_woundsAll_17 : decode cX11_woundsAll 17 = .ok (.bipush 64, 2) := by decide +kernel
theorem dX11_woundsAll_19 : decode cX11_woundsAll 19 = .ok (.iload_n 2, 1) := by decide +kernel
theorem dX11_woundsAll_20 : decode cX11_woundsAll 20 = .ok (.iadd, 1) := by decide +kernel
theorem dX11_woundsAll_21 : decode cX11_woundsAll 21 = .ok (.iaload, 1) := by decide +kernel
theorem dX11_woundsAll_22 : decode cX11_woundsAll 22 = .ok (.iadd, 1) := by decide +kernel
theorem dX11_woundsAll_23 : decode cX11_woundsAll 23 = .ok (.istore_n 1, 1) := by decide +kernel
theorem dX11_woundsAll_24 : decode cX11_woundsAll 24 = .ok (.iinc 2 1, 3) := by decide +kernel
theorem dX11_woundsAll_27 : decode cX11_woundsAll 27 = .ok (.goto (-23), 3) := by decide +kernel
theorem dX11_woundsAll_30 : decode cX11_woundsAll 30 = .ok (.iload_n 1, 1) := by decide +kernel
theorem dX11_woundsAll_31 : decode cX11_woundsAll 31 = .ok (.ireturn, 1) := by decide +kernel
set_option maxRecDepth 100000 in
set_option maxHeartbeats 4000000 in
theorem mX11_woundsAll {w : WX} {adr : Nat → Nat → Nat} (hj : Ij adr)  (S : St) : ∀ (l : Launch) (r : Int32) (S2 : St), fX11_woundsAll S = some (r, S2) → Mi l w adr yX11_woundsAll cX11_woundsAll 3 (some .int) 0 0 [.ref (adr 35 0)] S r S2 := by
  refine mi_of (lv := [(0, .ref (adr 35 0))]) hj (plainFor_of_name (by decide +kernel)) rfl (Nat.le_of_ble_eq_true rfl) (fun k C Rr => ?_)
  have C : Cx w adr k cX11_woundsAll RX11 3 0 0 := C
  refine ge_iconst (v := 0) (n := 1) C dX11_woundsAll_0 (by decide) rfl ?_
  refine ge_istore_n (n := 2) (lv2 := [(1, .int (0 : Int32)), (0, .ref (adr 35 0))]) C dX11_woundsAll_1 rfl rfl (by decide) rfl ?_
  refine ge_iconst (v := 0) (n := 3) C dX11_woundsAll_2 (by decide) rfl ?_
  refine ge_istore_n (n := 4) (lv2 := [(2, .int (0 : Int32)), (1, .int (0 : Int32)), (0, .ref (adr 35 0))]) C dX11_woundsAll_3 rfl rfl (by decide) rfl ?_
  refine ge_jn (fun (jj : Int32 → Op) => ∀ (x1_30 : Int32), Ge w adr k 30 [(1, .int x1_30)] [] S (jj x1_30)) (fun x1_30 => ?_) (fun kk4 hkk4 => ?_)
  · refine ge_iload_n (n := 31) C 0 rfl dX11_woundsAll_30 rfl rfl ?_
    exact ge_iret C Rr dX11_woundsAll_31
  refine ge_lop (fun (jj : Int32 → Int32 → Op) => ∀ (x2_4 : Int32) (x1_4 : Int32), Ge w adr k 4 [(2, .int x2_4), (1, .int x1_4), (0, .ref (adr 35 0))] [] S (jj x2_4 x1_4)) (fun _ _ => ge_none) (fun ag4 hag4 x2_4 x1_4 => ?_) FU (0 : Int32) (0 : Int32)
  refine ge_iload_n (n := 5) C 0 rfl dX11_woundsAll_4 rfl rfl ?_
  refine ge_aload_n (n := 6) C 2 rfl dX11_woundsAll_5 rfl rfl ?_
  refine gt_X11_93 (n := 9) C (by decide) dX11_woundsAll_6 rfl ?_
  refine ge_icmp_ge (t := 30) (n := 12) C dX11_woundsAll_9 (by decide) rfl (fun h_9 => ?_) (fun h_9 => ?_)
  · refine ge_sub [1] rfl ?_
    exact hkk4 x1_4
  · refine ge_iload_n (n := 13) C 1 rfl dX11_woundsAll_12 rfl rfl ?_
    refine ge_aload_n (n := 14) C 2 rfl dX11_woundsAll_13 rfl rfl ?_
    refine gt_X11_22 (n := 17) C (by decide) dX11_woundsAll_14 rfl ?_
    refine ge_bipush (v := 64) (n := 19) C dX11_woundsAll_17 (by decide) rfl ?_
    refine ge_iload_n (n := 20) C 0 rfl dX11_woundsAll_19 rfl rfl ?_
    refine ge_iadd (n := 21) C dX11_woundsAll_20 rfl ?_
    refine al_40 (n := 22) C (by decide) dX11_woundsAll_21 rfl ?_
    refine ge_iadd (n := 23) C dX11_woundsAll_22 rfl ?_
    refine ge_bi (fun x1_23 => ?_)
    refine ge_istore_n (n := 24) (lv2 := [(1, .int x1_23), (2, .int x2_4), (0, .ref (adr 35 0))]) C dX11_woundsAll_23 rfl rfl (by decide) rfl ?_
    refine ge_iinc (n := 27) (v := (x2_4 + (1 : Int32))) (lv2 := [(2, .int (x2_4 + (1 : Int32))), (1, .int x1_23), (0, .ref (adr 35 0))]) C 1 rfl dX11_woundsAll_24 rfl rfl (by decide) rfl ?_
    refine ge_goto (n := 4) C dX11_woundsAll_27 (by decide) ?_
    exact hag4 (x2_4 + (1 : Int32)) x1_23
theorem dX11_bestMan_0 : decode cX11_bestMan 0 = .ok (.iconst (-1), 1) := by decide +kernel
theorem dX11_bestMan_1 : decode cX11_bestMan 1 = .ok (.istore_n 1, 1) := by decide +kernel
theorem dX11_bestMan_2 : decode cX11_bestMan 2 = .ok (.ldc 193, 2) := by decide +kernel
theorem dX11_bestMan_4 : decode cX11_bestMan 4 = .ok (.istore_n 2, 1) := by decide +kernel
theorem dX11_bestMan_5 : decode cX11_bestMan 5 = .ok (.iconst 0, 1) := by decide +kernel
theorem dX11_bestMan_6 : decode cX11_bestMan 6 = .ok (.istore_n 3, 1) := by decide +kernel
theorem dX11_bestMan_7 : decode cX11_bestMan 7 = .ok (.iload_n 3, 1) := by decide +kernel
theorem dX11_bestMan_8 : decode cX11_bestMan 8 = .ok (.aload_n 0, 1) := by decide +kernel
theorem dX11_bestMan_9 : decode cX11_bestMan 9 = .ok (.getfield 93, 3) := by decide +kernel
theorem dX11_bestMan_12 : decode cX11_bestMan 12 = .ok (.if_icmp .ge 67, 3) := by decide +kernel
theorem dX11_bestMan_15 : decode cX11_bestMan 15 = .ok (.iconst 0, 1) := by decide +kernel
theorem dX11_bestMan_16 : decode cX11_bestMan 16 = .ok (.istore 4, 2) := by decide +kernel
theorem dX11_bestMan_18 : decode cX11_bestMan 18 = .ok (.iconst 0, 1) := by decide +kernel
theorem dX11_bestMan_19 : decode cX11_bestMan 19 = .ok (.istore 5, 2) := by decide +kernel
theorem dX11_bestMan_21 : decode cX11_bestMan 21 = .ok (.iload 5, 2) := by decide +kernel
theorem dX11_bestMan_23 : decode cX11_bestMan 23 = .ok (.aload_n 0, 1) := by decide +kernel
theorem dX11_bestMan_24 : decode cX11_bestMan 24 = .ok (.getfield 100, 3) := by decide +kernel
theorem dX11_bestMan_27 : decode cX11_bestMan 27 = .ok (.if_icmp .ge 21, 3) := by decide +kernel
theorem dX11_bestMan_30 : decode cX11_bestMan 30 = .ok (.iload 4, 2) := by decide +kernel
theorem dX11_bestMan_32 : decode cX11_bestMan 32 = .ok (.aload_n 0, 1) := by decide +kernel
theorem dX11_bestMan_33 : decode cX11_bestMan 33 = .ok (.iload_n 3, 1) := by decide +kernel
theorem dX11_bestMan_34 : decode cX11_bestMan 34 = .ok (.iload 5, 2) := by decide +kernel
theorem dX11_bestMan_36 : decode cX11_bestMan 36 = .ok (.invokevirtual 194, 3) := by decide +kernel
theorem dX11_bestMan_39 : decode cX11_bestMan 39 = .ok (.iadd, 1) := by decide +kernel
theorem dX11_bestMan_40 : decode cX11_bestMan 40 = .ok (.istore 4, 2) := by decide +kernel
theorem dX11_bestMan_42 : decode cX11_bestMan 42 = .ok (.iinc 5 1, 3) := by decide +kernel
theorem dX11_bestMan_45 : decode cX11_bestMan 45 = .ok (.goto (-24), 3) := by decide +kernel
theorem dX11_bestMan_48 : decode cX11_bestMan 48 = .ok (.iload 4, 2) := by decide +kernel
theorem dX11_bestMan_50 : decode cX11_bestMan 50 = .ok (.iload_n 2, 1) := by decide +kernel
theorem dX11_bestMan_51 : decode cX11_bestMan 51 = .ok (.if_icmp .ge 7, 3) := by decide +kernel
theorem dX11_bestMan_54 : decode cX11_bestMan 54 = .ok (.iload_n 3, 1) := by decide +kernel
theorem dX11_bestMan_55 : decode cX11_bestMan 55 = .ok (.goto 4, 3) := by decide +kernel
theorem dX11_bestMan_58 : decode cX11_bestMan 58 = .ok (.iload_n 1, 1) := by decide +kernel
theorem dX11_bestMan_59 : decode cX11_bestMan 59 = .ok (.istore_n 1, 1) := by decide +kernel
theorem dX11_bestMan_60 : decode cX11_bestMan 60 = .ok (.iload 4, 2) := by decide +kernel
theorem dX11_bestMan_62 : decode cX11_bestMan 62 = .ok (.iload_n 2, 1) := by decide +kernel
theorem dX11_bestMan_63 : decode cX11_bestMan 63 = .ok (.if_icmp .ge 8, 3) := by decide +kernel
theorem dX11_bestMan_66 : decode cX11_bestMan 66 = .ok (.iload 4, 2) := by decide +kernel
theorem dX11_bestMan_68 : decode cX11_bestMan 68 = .ok (.goto 4, 3) := by decide +kernel
theorem dX11_bestMan_71 : decode cX11_bestMan 71 = .ok (.iload_n 2, 1) := by decide +kernel
theorem dX11_bestMan_72 : decode cX11_bestMan 72 = .ok (.istore_n 2, 1) := by decide +kernel
theorem dX11_bestMan_73 : decode cX11_bestMan 73 = .ok (.iinc 3 1, 3) := by decide +kernel
theorem dX11_bestMan_76 : decode cX11_bestMan 76 = .ok (.goto (-69), 3) := by decide +kernel
theorem dX11_bestMan_79 : decode cX11_bestMan 79 = .ok (.iload_n 1, 1) := by decide +kernel
theorem dX11_bestMan_80 : decode cX11_bestMan 80 = .ok (.ireturn, 1) := by decide +kernel
set_option maxRecDepth 100000 in
set_option maxHeartbeats 4000000 in
theorem mX11_bestMan {w : WX} {adr : Nat → Nat → Nat} (hj : Ij adr)  (S : St) : ∀ (l : Launch) (r : Int32) (S2 : St), fX11_bestMan S = some (r, S2) → Mi l w adr yX11_bestMan cX11_bestMan 6 (some .int) 2 44 [.ref (adr 35 0)] S r S2 := by
  refine mi_of (lv := [(0, .ref (adr 35 0))]) hj (plainFor_of_name (by decide +kernel)) rfl (Nat.le_of_ble_eq_true rfl) (fun k C Rr => ?_)
  have C : Cx w adr k cX11_bestMan RX11 6 2 44 := C
  refine ge_iconst (v := -1) (n := 1) C dX11_bestMan_0 (by decide) rfl ?_
  refine ge_istore_n (n := 2) (lv2 := [(1, .int (-1 : Int32)), (0, .ref (adr 35 0))]) C dX11_bestMan_1 rfl rfl (by decide) rfl ?_
  refine ge_ldc (n := 4) C kc_X11_193 dX11_bestMan_2 rfl ?_
  refine ge_istore_n (n := 5) (lv2 := [(2, .int (1000000 : Int32)), (1, .int (-1 : Int32)), (0, .ref (adr 35 0))]) C dX11_bestMan_4 rfl rfl (by decide) rfl ?_
  refine ge_iconst (v := 0) (n := 6) C dX11_bestMan_5 (by decide) rfl ?_
  refine ge_istore_n (n := 7) (lv2 := [(3, .int (0 : Int32)), (2, .int (1000000 : Int32)), (1, .int (-1 : Int32)), (0, .ref (adr 35 0))]) C dX11_bestMan_6 rfl rfl (by decide) rfl ?_
  refine ge_jn (fun (jj : Int32 → St → Op) => ∀ (x1_79 : Int32) (S_79 : St), Ge w adr k 79 [(1, .int x1_79)] [] S_79 (jj x1_79 S_79)) (fun x1_79 S_79 => ?_) (fun kk7 hkk7 => ?_)
  · refine ge_iload_n (n := 80) C 0 rfl dX11_bestMan_79 rfl rfl ?_
    exact ge_iret C Rr dX11_bestMan_80
  refine ge_lop (fun (jj : Int32 → Int32 → Int32 → St → Op) => ∀ (x3_7 : Int32) (x2_7 : Int32) (x1_7 : Int32) (S_7 : St), Ge w adr k 7 [(3, .int x3_7), (2, .int x2_7), (1, .int x1_7), (0, .ref (adr 35 0))] [] S_7 (jj x3_7 x2_7 x1_7 S_7)) (fun _ _ _ _ => ge_none) (fun ag7 hag7 x3_7 x2_7 x1_7 S_7 => ?_) FU (0 : Int32) (1000000 : Int32) (-1 : Int32) S
  refine ge_iload_n (n := 8) C 0 rfl dX11_bestMan_7 rfl rfl ?_
  refine ge_aload_n (n := 9) C 3 rfl dX11_bestMan_8 rfl rfl ?_
  refine gt_X11_93 (n := 12) C (by decide) dX11_bestMan_9 rfl ?_
  refine ge_icmp_ge (t := 79) (n := 15) C dX11_bestMan_12 (by decide) rfl (fun h_12 => ?_) (fun h_12 => ?_)
  · refine ge_sub [2] rfl ?_
    exact hkk7 x1_7 S_7
  · refine ge_iconst (v := 0) (n := 16) C dX11_bestMan_15 (by decide) rfl ?_
    refine ge_istore (n := 18) (lv2 := [(4, .int (0 : Int32)), (3, .int x3_7), (2, .int x2_7), (1, .int x1_7), (0, .ref (adr 35 0))]) C dX11_bestMan_16 rfl (by decide) rfl ?_
    refine ge_iconst (v := 0) (n := 19) C dX11_bestMan_18 (by decide) rfl ?_
    refine ge_istore (n := 21) (lv2 := [(5, .int (0 : Int32)), (4, .int (0 : Int32)), (3, .int x3_7), (2, .int x2_7), (1, .int x1_7), (0, .ref (adr 35 0))]) C dX11_bestMan_19 rfl (by decide) rfl ?_
    refine ge_jn (fun (jj : Int32 → St → Op) => ∀ (x4_48 : Int32) (S_48 : St), Ge w adr k 48 [(4, .int x4_48), (3, .int x3_7), (2, .int x2_7), (1, .int x1_7), (0, .ref (adr 35 0))] [] S_48 (jj x4_48 S_48)) (fun x4_48 S_48 => ?_) (fun kk21 hkk21 => ?_)
    · refine ge_iload (n := 50) C 0 rfl dX11_bestMan_48 rfl ?_
      refine ge_iload_n (n := 51) C 2 rfl dX11_bestMan_50 rfl rfl ?_
      refine ge_jn (fun (jj : Int32 → Op) => ∀ (v0_59 : Int32), Ge w adr k 59 [(4, .int x4_48), (3, .int x3_7), (2, .int x2_7), (0, .ref (adr 35 0))] [.int v0_59] S_48 (jj v0_59)) (fun v0_59 => ?_) (fun j59 hj59 => ?_)
      · refine ge_istore_n (n := 60) (lv2 := [(1, .int v0_59), (4, .int x4_48), (3, .int x3_7), (2, .int x2_7), (0, .ref (adr 35 0))]) C dX11_bestMan_59 rfl rfl (by decide) rfl ?_
        refine ge_iload (n := 62) C 1 rfl dX11_bestMan_60 rfl ?_
        refine ge_iload_n (n := 63) C 3 rfl dX11_bestMan_62 rfl rfl ?_
        refine ge_icmp_ge (t := 71) (n := 66) C dX11_bestMan_63 (by decide) rfl (fun h_63 => ?_) (fun h_63 => ?_)
        · refine ge_iload_n (n := 72) C 3 rfl dX11_bestMan_71 rfl rfl ?_
          refine ge_istore_n (n := 73) (lv2 := [(2, .int x2_7), (1, .int v0_59), (4, .int x4_48), (3, .int x3_7), (0, .ref (adr 35 0))]) C dX11_bestMan_72 rfl rfl (by decide) rfl ?_
          refine ge_iinc (n := 76) (v := (x3_7 + (1 : Int32))) (lv2 := [(3, .int (x3_7 + (1 : Int32))), (2, .int x2_7), (1, .int v0_59), (4, .int x4_48), (0, .ref (adr 35 0))]) C 3 rfl dX11_bestMan_73 rfl rfl (by decide) rfl ?_
          refine ge_goto (n := 7) C dX11_bestMan_76 (by decide) ?_
          refine ge_sub [0, 1, 2, 4] rfl ?_
          exact hag7 (x3_7 + (1 : Int32)) x2_7 v0_59 S_48
        · refine ge_iload (n := 68) C 1 rfl dX11_bestMan_66 rfl ?_
          refine ge_goto (n := 72) C dX11_bestMan_68 (by decide) ?_
          refine ge_istore_n (n := 73) (lv2 := [(2, .int x4_48), (1, .int v0_59), (4, .int x4_48), (3, .int x3_7), (0, .ref (adr 35 0))]) C dX11_bestMan_72 rfl rfl (by decide) rfl ?_
          refine ge_iinc (n := 76) (v := (x3_7 + (1 : Int32))) (lv2 := [(3, .int (x3_7 + (1 : Int32))), (2, .int x4_48), (1, .int v0_59), (4, .int x4_48), (0, .ref (adr 35 0))]) C 3 rfl dX11_bestMan_73 rfl rfl (by decide) rfl ?_
          refine ge_goto (n := 7) C dX11_bestMan_76 (by decide) ?_
          refine ge_sub [0, 1, 2, 4] rfl ?_
          exact hag7 (x3_7 + (1 : Int32)) x4_48 v0_59 S_48
      refine ge_icmp_ge (t := 58) (n := 54) C dX11_bestMan_51 (by decide) rfl (fun h_51 => ?_) (fun h_51 => ?_)
      · refine ge_iload_n (n := 59) C 3 rfl dX11_bestMan_58 rfl rfl ?_
        refine ge_sub [0, 1, 2, 4] rfl ?_
        exact hj59 x1_7
      · refine ge_iload_n (n := 55) C 1 rfl dX11_bestMan_54 rfl rfl ?_
        refine ge_goto (n := 59) C dX11_bestMan_55 (by decide) ?_
        refine ge_sub [0, 1, 2, 4] rfl ?_
        exact hj59 x3_7
    refine ge_lop (fun (jj : Int32 → Int32 → St → Op) => ∀ (x5_21 : Int32) (x4_21 : Int32) (S_21 : St), Ge w adr k 21 [(5, .int x5_21), (4, .int x4_21), (3, .int x3_7), (2, .int x2_7), (1, .int x1_7), (0, .ref (adr 35 0))] [] S_21 (jj x5_21 x4_21 S_21)) (fun _ _ _ => ge_none) (fun ag21 hag21 x5_21 x4_21 S_21 => ?_) FU (0 : Int32) (0 : Int32) S_7
    refine ge_iload (n := 23) C 0 rfl dX11_bestMan_21 rfl ?_
    refine ge_aload_n (n := 24) C 5 rfl dX11_bestMan_23 rfl rfl ?_
    refine gt_X11_100 (n := 27) C (by decide) dX11_bestMan_24 rfl ?_
    refine ge_icmp_ge (t := 48) (n := 30) C dX11_bestMan_27 (by decide) rfl (fun h_27 => ?_) (fun h_27 => ?_)
    · refine ge_sub [1, 2, 3, 4, 5] rfl ?_
      exact hkk21 x4_21 S_21
    · refine ge_iload (n := 32) C 1 rfl dX11_bestMan_30 rfl ?_
      refine ge_aload_n (n := 33) C 5 rfl dX11_bestMan_32 rfl rfl ?_
      refine ge_iload_n (n := 34) C 2 rfl dX11_bestMan_33 rfl rfl ?_
      refine ge_iload (n := 36) C 0 rfl dX11_bestMan_34 rfl ?_
      refine ge_callVi (n := 39) C (mX11_hurtOf hj x3_7 x5_21 S_21) gv_X11_194 (cl_35 (by decide)) rfl rfl hc_X11_hurtOf ⟨Nat.le_of_ble_eq_true rfl, Nat.le_of_ble_eq_true rfl⟩ rfl rfl (Nat.le_of_ble_eq_true rfl) dX11_bestMan_36 rfl (fun r_36 S_36 => ?_)
      refine ge_iadd (n := 40) C dX11_bestMan_39 rfl ?_
      refine ge_bi (fun x4_40 => ?_)
      refine ge_istore (n := 42) (lv2 := [(4, .int x4_40), (5, .int x5_21), (3, .int x3_7), (2, .int x2_7), (1, .int x1_7), (0, .ref (adr 35 0))]) C dX11_bestMan_40 rfl (by decide) rfl ?_
      refine ge_iinc (n := 45) (v := (x5_21 + (1 : Int32))) (lv2 := [(5, .int (x5_21 + (1 : Int32))), (4, .int x4_40), (3, .int x3_7), (2, .int x2_7), (1, .int x1_7), (0, .ref (adr 35 0))]) C 1 rfl dX11_bestMan_42 rfl rfl (by decide) rfl ?_
      refine ge_goto (n := 21) C dX11_bestMan_45 (by decide) ?_
      exact hag21 (x5_21 + (1 : Int32)) x4_40 S_36
theorem dX11_chosen_0 : decode cX11_chosen 0 = .ok (.iconst (-1), 1) := by decide +kernel
theorem dX11_chosen_1 : decode cX11_chosen 1 = .ok (.istore_n 1, 1) := by decide +kernel
theorem dX11_chosen_2 : decode cX11_chosen 2 = .ok (.iconst 0, 1) := by decide +kernel
theorem dX11_chosen_3 : decode cX11_chosen 3 = .ok (.istore_n 2, 1) := by decide +kernel
theorem dX11_chosen_4 : decode cX11_chosen 4 = .ok (.iconst 0, 1) := by decide +kernel
theorem dX11_chosen_5 : decode cX11_chosen 5 = .ok (.istore_n 3, 1) := by decide +kernel
theorem dX11_chosen_6 : decode cX11_chosen 6 = .ok (.iload_n 3, 1) := by decide +kernel
theorem dX11_chosen_7 : decode cX11_chosen 7 = .ok (.aload_n 0, 1) := by decide +kernel
theorem dX11_chosen_8 : decode cX11_chosen 8 = .ok (.getfield 93, 3) := by decide +kernel
theorem dX11_chosen_11 : decode cX11_chosen 11 = .ok (.if_icmp .ge 16, 3) := by decide +kernel
theorem dX11_chosen_14 : decode cX11_chosen 14 = .ok (.aload_n 0, 1) := by decide +kernel
theorem dX11_chosen_15 : decode cX11_chosen 15 = .ok (.getfield 65, 3) := by decide +kernel
theorem dX11_chosen_18 : decode cX11_chosen 18 = .ok (.iload_n 3, 1) := by decide +kernel
theorem dX11_chosen_19 : decode cX11_chosen 19 = .ok (.iconst 0, 1) := by decide +kernel
theorem dX11_chosen_20 : decode cX11_chosen 20 = .ok (.iastore, 1) := by decide +kernel
theorem dX11_chosen_21 : decode cX11_chosen 21 = .ok (.iinc 3 1, 3) := by decide +kernel
theorem dX11_chosen_24 : decode cX11_chosen 24 = .ok (.goto (-18), 3) := by decide +kernel
theorem dX11_chosen_27 : decode cX11_chosen 27 = .ok (.iconst 0, 1) := by decide +kernel
theorem dX11_chosen_28 : decode cX11_chosen 28 = .ok (.istore_n 3, 1) := by decide +kernel
theorem dX11_chosen_29 : decode cX11_chosen 29 = .ok (.iload_n 3, 1) := by decide +kernel
theorem dX11_chosen_30 : decode cX11_chosen 30 = .ok (.aload_n 0, 1) := by decide +kernel
theorem dX11_chosen_31 : decode cX11_chosen 31 = .ok (.getfield 100, 3) := by decide +kernel
theorem dX11_chosen_34 : decode cX11_chosen 34 = .ok (.if_icmp .ge 74, 3) := by decide +kernel
theorem dX11_chosen_37 : decode cX11_chosen 37 = .ok (.aload_n 0, 1) := by decide +kernel
theorem dX11_chosen_38 : decode cX11_chosen 38 = .ok (.getfield 93, 3) := by decide +kernel
theorem dX11_chosen_41 : decode cX11_chosen 41 = .ok (.ifCond .le 67, 3) := by decide +kernel
theorem dX11_chosen_44 : decode cX11_chosen 44 = .ok (.iconst 0, 1) := by decide +kernel
theorem dX11_chosen_45 : decode cX11_chosen 45 = .ok (.istore 4, 2) := by decide +kernel
theorem dX11_chosen_47 : decode cX11_chosen 47 = .ok (.iconst 1, 1) := by decide +kernel
theorem dX11_chosen_48 : decode cX11_chosen 48 = .ok (.istore 5, 2) := by decide +kernel
theorem dX11_chosen_50 : decode cX11_chosen 50 = .ok (.iload 5, 2) := by decide +kernel
theorem dX11_chosen_52 : decode cX11_chosen 52 = .ok (.aload_n 0, 1) := by decide +kernel
theorem dX11_chosen_53 : decode cX11_chosen 53 = .ok (.getfield 93, 3) := by decide +kernel
theorem dX11_chosen_56 : decode cX11_chosen 56 = .ok (.if_icmp .ge 35, 3) := by decide +kernel
theorem dX11_chosen_59 : decode cX11_chosen 59 = .ok (.aload_n 0, 1) := by decide +kernel
theorem dX11_chosen_60 : decode cX11_chosen 60 = .ok (.iload 5, 2) := by decide +kernel
theorem dX11_chosen_62 : decode cX11_chosen 62 = .ok (.iload_n 3, 1) := by decide +kernel
theorem dX11_chosen_63 : decode cX11_chosen 63 = .ok (.invokevirtual 194, 3) := by decide +kernel
theorem dX11_chosen_66 : decode cX11_chosen 66 = .ok (.aload_n 0, 1) := by decide +kernel
theorem dX11_chosen_67 : decode cX11_chosen 67 = .ok (.iload 4, 2) := by decide +kernel
theorem dX11_chosen_69 : decode cX11_chosen 69 = .ok (.iload_n 3, 1) := by decide +kernel
theorem dX11_chosen_70 : decode cX11_chosen 70 = .ok (.invokevirtual 194, 3) := by decide +kernel
theorem dX11_chosen_73 : decode cX11_chosen 73 = .ok (.if_icmp .ge 8, 3) := by decide +kernel
theorem dX11_chosen_76 : decode cX11_chosen 76 = .ok (.iload 5, 2) := by decide +kernel
theorem dX11_chosen_78 : decode cX11_chosen 78 = .ok (.goto 5, 3) := by decide +kernel
theorem dX11_chosen_81 : decode cX11_chosen 81 = .ok (.iload 4, 2) := by decide +kernel
theorem dX11_chosen_83 : decode cX11_chosen 83 = .ok (.istore 4, 2) := by decide +kernel
theorem dX11_chosen_85 : decode cX11_chosen 85 = .ok (.iinc 5 1, 3) := by decide +kernel
theorem dX11_chosen_88 : decode cX11_chosen 88 = .ok (.goto (-38), 3) := by decide +kernel
theorem dX11_chosen_91 : decode cX11_chosen 91 = .ok (.aload_n 0, 1) := by decide +kernel
theorem dX11_chosen_92 : decode cX11_chosen 92 = .ok (.getfield 65, 3) := by decide +kernel
theorem dX11_chosen_95 : decode cX11_chosen 95 = .ok (.iload 4, 2) := by decide +kernel
theorem dX11_chosen_97 : decode cX11_chosen 97 = .ok (.dup2, 1) := by decide +kernel
theorem dX11_chosen_98 : decode cX11_chosen 98 = .ok (.iaload, 1) := by decide +kernel
theorem dX11_chosen_99 : decode cX11_chosen 99 = .ok (.iconst 1, 1) := by decide +kernel
theorem dX11_chosen_100 : decode cX11_chosen 100 = .ok (.iadd, 1) := by decide +kernel
theorem dX11_chosen_101 : decode cX11_chosen 101 = .ok (.iastore, 1) := by decide +kernel
theorem dX11_chosen_102 : decode cX11_chosen 102 = .ok (.iinc 3 1, 3) := by decide +kernel
theorem dX11_chosen_105 : decode cX11_chosen 105 = .ok (.goto (-76), 3) := by decide +kernel
theorem dX11_chosen_108 : decode cX11_chosen 108 = .ok (.iconst 0, 1) := by decide +kernel
theorem dX11_chosen_109 : decode cX11_chosen 109 = .ok (.istore_n 3, 1) := by decide +kernel
theorem dX11_chosen_110 : decode cX11_chosen 110 = .ok (.iload_n 3, 1) := by decide +kernel
theorem dX11_chosen_111 : decode cX11_chosen 111 = .ok (.aload_n 0, 1) := by decide +kernel
theorem dX11_chosen_112 : decode cX11_chosen 112 = .ok (.getfield 93, 3) := by decide +kernel
theorem dX11_chosen_115 : decode cX11_chosen 115 = .ok (.if_icmp .ge 46, 3) := by decide +kernel
theorem dX11_chosen_118 : decode cX11_chosen 118 = .ok (.aload_n 0, 1) := by decide +kernel
theorem dX11_chosen_119 : decode cX11_chosen 119 = .ok (.getfield 65, 3) := by decide +kernel
theorem dX11_chosen_122 : decode cX11_chosen 122 = .ok (.iload_n 3, 1) := by decide +kernel
theorem dX11_chosen_123 : decode cX11_chosen 123 = .ok (.iaload, 1) := by decide +kernel
theorem dX11_chosen_124 : decode cX11_chosen 124 = .ok (.iload_n 2, 1) := by decide +kernel
theorem dX11_chosen_125 : decode cX11_chosen 125 = .ok (.if_icmp .le 7, 3) := by decide +kernel
theorem dX11_chosen_128 : decode cX11_chosen 128 = .ok (.iload_n 3, 1) := by decide +kernel
theorem dX11_chosen_129 : decode cX11_chosen 129 = .ok (.goto 4, 3) := by decide +kernel
theorem dX11_chosen_132 : decode cX11_chosen 132 = .ok (.iload_n 1, 1) := by decide +kernel
theorem dX11_chosen_133 : decode cX11_chosen 133 = .ok (.istore_n 1, 1) := by decide +kernel
theorem dX11_chosen_134 : decode cX11_chosen 134 = .ok (.aload_n 0, 1) := by decide +kernel
theorem dX11_chosen_135 : decode cX11_chosen 135 = .ok (.getfield 65, 3) := by decide +kernel
theorem dX11_chosen_138 : decode cX11_chosen 138 = .ok (.iload_n 3, 1) := by decide +kernel
theorem dX11_chosen_139 : decode cX11_chosen 139 = .ok (.iaload, 1) := by decide +kernel
theorem dX11_chosen_140 : decode cX11_chosen 140 = .ok (.iload_n 2, 1) := by decide +kernel
theorem dX11_chosen_141 : decode cX11_chosen 141 = .ok (.if_icmp .le 12, 3) := by decide +kernel
theorem dX11_chosen_144 : decode cX11_chosen 144 = .ok (.aload_n 0, 1) := by decide +kernel
theorem dX11_chosen_145 : decode cX11_chosen 145 = .ok (.getfield 65, 3) := by decide +kernel
theorem dX11_chosen_148 : decode cX11_chosen 148 = .ok (.iload_n 3, 1) := by decide +kernel
theorem dX11_chosen_149 : decode cX11_chosen 149 = .ok (.iaload, 1) := by decide +kernel
theorem dX11_chosen_150 : decode cX11_chosen 150 = .ok (.goto 4, 3) := by decide +kernel
theorem dX11_chosen_153 : decode cX11_chosen 153 = .ok (.iload_n 2, 1) := by decide +kernel
theorem dX11_chosen_154 : decode cX11_chosen 154 = .ok (.istore_n 2, 1) := by decide +kernel
theorem dX11_chosen_155 : decode cX11_chosen 155 = .ok (.iinc 3 1, 3) := by decide +kernel
theorem dX11_chosen_158 : decode cX11_chosen 158 = .ok (.goto (-48), 3) := by decide +kernel
theorem dX11_chosen_161 : decode cX11_chosen 161 = .ok (.iload_n 1, 1) := by decide +kernel
theorem dX11_chosen_162 : decode cX11_chosen 162 = .ok (.ireturn, 1) := by decide +kernel
set_option maxRecDepth 100000 in
set_option maxHeartbeats 4000000 in
theorem mX11_chosen {w : WX} {adr : Nat → Nat → Nat} (hj : Ij adr)  (S : St) : ∀ (l : Launch) (r : Int32) (S2 : St), fX11_chosen S = some (r, S2) → Mi l w adr yX11_chosen cX11_chosen 6 (some .int) 2 44 [.ref (adr 35 0)] S r S2 := by
  refine mi_of (lv := [(0, .ref (adr 35 0))]) hj (plainFor_of_name (by decide +kernel)) rfl (Nat.le_of_ble_eq_true rfl) (fun k C Rr => ?_)
  have C : Cx w adr k cX11_chosen RX11 6 2 44 := C
  refine ge_iconst (v := -1) (n := 1) C dX11_chosen_0 (by decide) rfl ?_
  refine ge_istore_n (n := 2) (lv2 := [(1, .int (-1 : Int32)), (0, .ref (adr 35 0))]) C dX11_chosen_1 rfl rfl (by decide) rfl ?_
  refine ge_iconst (v := 0) (n := 3) C dX11_chosen_2 (by decide) rfl ?_
  refine ge_istore_n (n := 4) (lv2 := [(2, .int (0 : Int32)), (1, .int (-1 : Int32)), (0, .ref (adr 35 0))]) C dX11_chosen_3 rfl rfl (by decide) rfl ?_
  refine ge_iconst (v := 0) (n := 5) C dX11_chosen_4 (by decide) rfl ?_
  refine ge_istore_n (n := 6) (lv2 := [(3, .int (0 : Int32)), (2, .int (0 : Int32)), (1, .int (-1 : Int32)), (0, .ref (adr 35 0))]) C dX11_chosen_5 rfl rfl (by decide) rfl ?_
  refine ge_jn (fun (jj : St → Op) => ∀ (S_27 : St), Ge w adr k 27 [(2, .int (0 : Int32)), (1, .int (-1 : Int32)), (0, .ref (adr 35 0))] [] S_27 (jj S_27)) (fun S_27 => ?_) (fun kk6 hkk6 => ?_)
  · refine ge_iconst (v := 0) (n := 28) C dX11_chosen_27 (by decide) rfl ?_
    refine ge_istore_n (n := 29) (lv2 := [(3, .int (0 : Int32)), (2, .int (0 : Int32)), (1, .int (-1 : Int32)), (0, .ref (adr 35 0))]) C dX11_chosen_28 rfl rfl (by decide) rfl ?_
    refine ge_jn (fun (jj : St → Op) => ∀ (S_108 : St), Ge w adr k 108 [(2, .int (0 : Int32)), (1, .int (-1 : Int32)), (0, .ref (adr 35 0))] [] S_108 (jj S_108)) (fun S_108 => ?_) (fun kk29 hkk29 => ?_)
    · refine ge_iconst (v := 0) (n := 109) C dX11_chosen_108 (by decide) rfl ?_
      refine ge_istore_n (n := 110) (lv2 := [(3, .int (0 : Int32)), (2, .int (0 : Int32)), (1, .int (-1 : Int32)), (0, .ref (adr 35 0))]) C dX11_chosen_109 rfl rfl (by decide) rfl ?_
      refine ge_jn (fun (jj : Int32 → Op) => ∀ (x1_161 : Int32), Ge w adr k 161 [(1, .int x1_161)] [] S_108 (jj x1_161)) (fun x1_161 => ?_) (fun kk110 hkk110 => ?_)
      · refine ge_iload_n (n := 162) C 0 rfl dX11_chosen_161 rfl rfl ?_
        exact ge_iret C Rr dX11_chosen_162
      refine ge_lop (fun (jj : Int32 → Int32 → Int32 → Op) => ∀ (x3_110 : Int32) (x2_110 : Int32) (x1_110 : Int32), Ge w adr k 110 [(3, .int x3_110), (2, .int x2_110), (1, .int x1_110), (0, .ref (adr 35 0))] [] S_108 (jj x3_110 x2_110 x1_110)) (fun _ _ _ => ge_none) (fun ag110 hag110 x3_110 x2_110 x1_110 => ?_) FU (0 : Int32) (0 : Int32) (-1 : Int32)
      refine ge_iload_n (n := 111) C 0 rfl dX11_chosen_110 rfl rfl ?_
      refine ge_aload_n (n := 112) C 3 rfl dX11_chosen_111 rfl rfl ?_
      refine gt_X11_93 (n := 115) C (by decide) dX11_chosen_112 rfl ?_
      refine ge_icmp_ge (t := 161) (n := 118) C dX11_chosen_115 (by decide) rfl (fun h_115 => ?_) (fun h_115 => ?_)
      · refine ge_sub [2] rfl ?_
        exact hkk110 x1_110
      · refine ge_aload_n (n := 119) C 3 rfl dX11_chosen_118 rfl rfl ?_
        refine gt_X11_65 (n := 122) C (by decide) dX11_chosen_119 rfl ?_
        refine ge_iload_n (n := 123) C 0 rfl dX11_chosen_122 rfl rfl ?_
        refine al_53 (n := 124) C (by decide) dX11_chosen_123 rfl ?_
        refine ge_iload_n (n := 125) C 1 rfl dX11_chosen_124 rfl rfl ?_
        refine ge_jn (fun (jj : Int32 → Op) => ∀ (v0_133 : Int32), Ge w adr k 133 [(3, .int x3_110), (2, .int x2_110), (0, .ref (adr 35 0))] [.int v0_133] S_108 (jj v0_133)) (fun v0_133 => ?_) (fun j133 hj133 => ?_)
        · refine ge_istore_n (n := 134) (lv2 := [(1, .int v0_133), (3, .int x3_110), (2, .int x2_110), (0, .ref (adr 35 0))]) C dX11_chosen_133 rfl rfl (by decide) rfl ?_
          refine ge_aload_n (n := 135) C 3 rfl dX11_chosen_134 rfl rfl ?_
          refine gt_X11_65 (n := 138) C (by decide) dX11_chosen_135 rfl ?_
          refine ge_iload_n (n := 139) C 1 rfl dX11_chosen_138 rfl rfl ?_
          refine al_53 (n := 140) C (by decide) dX11_chosen_139 rfl ?_
          refine ge_iload_n (n := 141) C 2 rfl dX11_chosen_140 rfl rfl ?_
          refine ge_icmp_le (t := 153) (n := 144) C dX11_chosen_141 (by decide) rfl (fun h_141 => ?_) (fun h_141 => ?_)
          · refine ge_iload_n (n := 154) C 2 rfl dX11_chosen_153 rfl rfl ?_
            refine ge_istore_n (n := 155) (lv2 := [(2, .int x2_110), (1, .int v0_133), (3, .int x3_110), (0, .ref (adr 35 0))]) C dX11_chosen_154 rfl rfl (by decide) rfl ?_
            refine ge_iinc (n := 158) (v := (x3_110 + (1 : Int32))) (lv2 := [(3, .int (x3_110 + (1 : Int32))), (2, .int x2_110), (1, .int v0_133), (0, .ref (adr 35 0))]) C 2 rfl dX11_chosen_155 rfl rfl (by decide) rfl ?_
            refine ge_goto (n := 110) C dX11_chosen_158 (by decide) ?_
            exact hag110 (x3_110 + (1 : Int32)) x2_110 v0_133
          · refine ge_aload_n (n := 145) C 3 rfl dX11_chosen_144 rfl rfl ?_
            refine gt_X11_65 (n := 148) C (by decide) dX11_chosen_145 rfl ?_
            refine ge_iload_n (n := 149) C 1 rfl dX11_chosen_148 rfl rfl ?_
            refine al_53 (n := 150) C (by decide) dX11_chosen_149 rfl ?_
            refine ge_goto (n := 154) C dX11_chosen_150 (by decide) ?_
            refine ge_bi (fun x2_154 => ?_)
            refine ge_istore_n (n := 155) (lv2 := [(2, .int x2_154), (1, .int v0_133), (3, .int x3_110), (0, .ref (adr 35 0))]) C dX11_chosen_154 rfl rfl (by decide) rfl ?_
            refine ge_iinc (n := 158) (v := (x3_110 + (1 : Int32))) (lv2 := [(3, .int (x3_110 + (1 : Int32))), (2, .int x2_154), (1, .int v0_133), (0, .ref (adr 35 0))]) C 2 rfl dX11_chosen_155 rfl rfl (by decide) rfl ?_
            refine ge_goto (n := 110) C dX11_chosen_158 (by decide) ?_
            exact hag110 (x3_110 + (1 : Int32)) x2_154 v0_133
        refine ge_icmp_le (t := 132) (n := 128) C dX11_chosen_125 (by decide) rfl (fun h_125 => ?_) (fun h_125 => ?_)
        · refine ge_iload_n (n := 133) C 2 rfl dX11_chosen_132 rfl rfl ?_
          refine ge_sub [0, 1, 3] rfl ?_
          exact hj133 x1_110
        · refine ge_iload_n (n := 129) C 0 rfl dX11_chosen_128 rfl rfl ?_
          refine ge_goto (n := 133) C dX11_chosen_129 (by decide) ?_
          refine ge_sub [0, 1, 3] rfl ?_
          exact hj133 x3_110
    refine ge_lop (fun (jj : Int32 → St → Op) => ∀ (x3_29 : Int32) (S_29 : St), Ge w adr k 29 [(3, .int x3_29), (2, .int (0 : Int32)), (1, .int (-1 : Int32)), (0, .ref (adr 35 0))] [] S_29 (jj x3_29 S_29)) (fun _ _ => ge_none) (fun ag29 hag29 x3_29 S_29 => ?_) FU (0 : Int32) S_27
    refine ge_iload_n (n := 30) C 0 rfl dX11_chosen_29 rfl rfl ?_
    refine ge_aload_n (n := 31) C 3 rfl dX11_chosen_30 rfl rfl ?_
    refine gt_X11_100 (n := 34) C (by decide) dX11_chosen_31 rfl ?_
    refine ge_icmp_ge (t := 108) (n := 37) C dX11_chosen_34 (by decide) rfl (fun h_34 => ?_) (fun h_34 => ?_)
    · refine ge_sub [1, 2, 3] rfl ?_
      exact hkk29 S_29
    · refine ge_aload_n (n := 38) C 3 rfl dX11_chosen_37 rfl rfl ?_
      refine gt_X11_93 (n := 41) C (by decide) dX11_chosen_38 rfl ?_
      refine ge_if_le (t := 108) (n := 44) C dX11_chosen_41 (by decide) rfl (fun h_41 => ?_) (fun h_41 => ?_)
      · refine ge_sub [1, 2, 3] rfl ?_
        exact hkk29 S_29
      · refine ge_iconst (v := 0) (n := 45) C dX11_chosen_44 (by decide) rfl ?_
        refine ge_istore (n := 47) (lv2 := [(4, .int (0 : Int32)), (3, .int x3_29), (2, .int (0 : Int32)), (1, .int (-1 : Int32)), (0, .ref (adr 35 0))]) C dX11_chosen_45 rfl (by decide) rfl ?_
        refine ge_iconst (v := 1) (n := 48) C dX11_chosen_47 (by decide) rfl ?_
        refine ge_istore (n := 50) (lv2 := [(5, .int (1 : Int32)), (4, .int (0 : Int32)), (3, .int x3_29), (2, .int (0 : Int32)), (1, .int (-1 : Int32)), (0, .ref (adr 35 0))]) C dX11_chosen_48 rfl (by decide) rfl ?_
        refine ge_jn (fun (jj : Int32 → St → Op) => ∀ (x4_91 : Int32) (S_91 : St), Ge w adr k 91 [(4, .int x4_91), (3, .int x3_29), (2, .int (0 : Int32)), (1, .int (-1 : Int32)), (0, .ref (adr 35 0))] [] S_91 (jj x4_91 S_91)) (fun x4_91 S_91 => ?_) (fun kk50 hkk50 => ?_)
        · refine ge_aload_n (n := 92) C 4 rfl dX11_chosen_91 rfl rfl ?_
          refine gt_X11_65 (n := 95) C (by decide) dX11_chosen_92 rfl ?_
          refine ge_iload (n := 97) C 0 rfl dX11_chosen_95 rfl ?_
          refine ge_dup2 (n := 98) C dX11_chosen_97 rfl rfl rfl ?_
          refine al_53 (n := 99) C (by decide) dX11_chosen_98 rfl ?_
          refine ge_iconst (v := 1) (n := 100) C dX11_chosen_99 (by decide) rfl ?_
          refine ge_iadd (n := 101) C dX11_chosen_100 rfl ?_
          refine as_53 (n := 102) C (by decide) dX11_chosen_101 rfl (fun S_101 => ?_)
          refine ge_iinc (n := 105) (v := (x3_29 + (1 : Int32))) (lv2 := [(3, .int (x3_29 + (1 : Int32))), (4, .int x4_91), (2, .int (0 : Int32)), (1, .int (-1 : Int32)), (0, .ref (adr 35 0))]) C 1 rfl dX11_chosen_102 rfl rfl (by decide) rfl ?_
          refine ge_goto (n := 29) C dX11_chosen_105 (by decide) ?_
          refine ge_sub [0, 2, 3, 4] rfl ?_
          exact hag29 (x3_29 + (1 : Int32)) S_101
        refine ge_lop (fun (jj : Int32 → Int32 → St → Op) => ∀ (x5_50 : Int32) (x4_50 : Int32) (S_50 : St), Ge w adr k 50 [(5, .int x5_50), (4, .int x4_50), (3, .int x3_29), (2, .int (0 : Int32)), (1, .int (-1 : Int32)), (0, .ref (adr 35 0))] [] S_50 (jj x5_50 x4_50 S_50)) (fun _ _ _ => ge_none) (fun ag50 hag50 x5_50 x4_50 S_50 => ?_) FU (1 : Int32) (0 : Int32) S_29
        refine ge_iload (n := 52) C 0 rfl dX11_chosen_50 rfl ?_
        refine ge_aload_n (n := 53) C 5 rfl dX11_chosen_52 rfl rfl ?_
        refine gt_X11_93 (n := 56) C (by decide) dX11_chosen_53 rfl ?_
        refine ge_icmp_ge (t := 91) (n := 59) C dX11_chosen_56 (by decide) rfl (fun h_56 => ?_) (fun h_56 => ?_)
        · refine ge_sub [1, 2, 3, 4, 5] rfl ?_
          exact hkk50 x4_50 S_50
        · refine ge_aload_n (n := 60) C 5 rfl dX11_chosen_59 rfl rfl ?_
          refine ge_iload (n := 62) C 0 rfl dX11_chosen_60 rfl ?_
          refine ge_iload_n (n := 63) C 2 rfl dX11_chosen_62 rfl rfl ?_
          refine ge_callVi (n := 66) C (mX11_hurtOf hj x5_50 x3_29 S_50) gv_X11_194 (cl_35 (by decide)) rfl rfl hc_X11_hurtOf ⟨Nat.le_of_ble_eq_true rfl, Nat.le_of_ble_eq_true rfl⟩ rfl rfl (Nat.le_of_ble_eq_true rfl) dX11_chosen_63 rfl (fun r_63 S_63 => ?_)
          refine ge_aload_n (n := 67) C 5 rfl dX11_chosen_66 rfl rfl ?_
          refine ge_iload (n := 69) C 1 rfl dX11_chosen_67 rfl ?_
          refine ge_iload_n (n := 70) C 2 rfl dX11_chosen_69 rfl rfl ?_
          refine ge_callVi (n := 73) C (mX11_hurtOf hj x4_50 x3_29 S_63) gv_X11_194 (cl_35 (by decide)) rfl rfl hc_X11_hurtOf ⟨Nat.le_of_ble_eq_true rfl, Nat.le_of_ble_eq_true rfl⟩ rfl rfl (Nat.le_of_ble_eq_true rfl) dX11_chosen_70 rfl (fun r_70 S_70 => ?_)
          refine ge_icmp_ge (t := 81) (n := 76) C dX11_chosen_73 (by decide) rfl (fun h_73 => ?_) (fun h_73 => ?_)
          · refine ge_iload (n := 83) C 1 rfl dX11_chosen_81 rfl ?_
            refine ge_istore (n := 85) (lv2 := [(4, .int x4_50), (5, .int x5_50), (3, .int x3_29), (2, .int (0 : Int32)), (1, .int (-1 : Int32)), (0, .ref (adr 35 0))]) C dX11_chosen_83 rfl (by decide) rfl ?_
            refine ge_iinc (n := 88) (v := (x5_50 + (1 : Int32))) (lv2 := [(5, .int (x5_50 + (1 : Int32))), (4, .int x4_50), (3, .int x3_29), (2, .int (0 : Int32)), (1, .int (-1 : Int32)), (0, .ref (adr 35 0))]) C 1 rfl dX11_chosen_85 rfl rfl (by decide) rfl ?_
            refine ge_goto (n := 50) C dX11_chosen_88 (by decide) ?_
            exact hag50 (x5_50 + (1 : Int32)) x4_50 S_70
          · refine ge_iload (n := 78) C 0 rfl dX11_chosen_76 rfl ?_
            refine ge_goto (n := 83) C dX11_chosen_78 (by decide) ?_
            refine ge_istore (n := 85) (lv2 := [(4, .int x5_50), (5, .int x5_50), (3, .int x3_29), (2, .int (0 : Int32)), (1, .int (-1 : Int32)), (0, .ref (adr 35 0))]) C dX11_chosen_83 rfl (by decide) rfl ?_
            refine ge_iinc (n := 88) (v := (x5_50 + (1 : Int32))) (lv2 := [(5, .int (x5_50 + (1 : Int32))), (4, .int x5_50), (3, .int x3_29), (2, .int (0 : Int32)), (1, .int (-1 : Int32)), (0, .ref (adr 35 0))]) C 1 rfl dX11_chosen_85 rfl rfl (by decide) rfl ?_
            refine ge_goto (n := 50) C dX11_chosen_88 (by decide) ?_
            exact hag50 (x5_50 + (1 : Int32)) x5_50 S_70
  refine ge_lop (fun (jj : Int32 → St → Op) => ∀ (x3_6 : Int32) (S_6 : St), Ge w adr k 6 [(3, .int x3_6), (2, .int (0 : Int32)), (1, .int (-1 : Int32)), (0, .ref (adr 35 0))] [] S_6 (jj x3_6 S_6)) (fun _ _ => ge_none) (fun ag6 hag6 x3_6 S_6 => ?_) FU (0 : Int32) S
  refine ge_iload_n (n := 7) C 0 rfl dX11_chosen_6 rfl rfl ?_
  refine ge_aload_n (n := 8) C 3 rfl dX11_chosen_7 rfl rfl ?_
  refine gt_X11_93 (n := 11) C (by decide) dX11_chosen_8 rfl ?_
  refine ge_icmp_ge (t := 27) (n := 14) C dX11_chosen_11 (by decide) rfl (fun h_11 => ?_) (fun h_11 => ?_)
  · refine ge_sub [1, 2, 3] rfl ?_
    exact hkk6 S_6
  · refine ge_aload_n (n := 15) C 3 rfl dX11_chosen_14 rfl rfl ?_
    refine gt_X11_65 (n := 18) C (by decide) dX11_chosen_15 rfl ?_
    refine ge_iload_n (n := 19) C 0 rfl dX11_chosen_18 rfl rfl ?_
    refine ge_iconst (v := 0) (n := 20) C dX11_chosen_19 (by decide) rfl ?_
    refine as_53 (n := 21) C (by decide) dX11_chosen_20 rfl (fun S_20 => ?_)
    refine ge_iinc (n := 24) (v := (x3_6 + (1 : Int32))) (lv2 := [(3, .int (x3_6 + (1 : Int32))), (2, .int (0 : Int32)), (1, .int (-1 : Int32)), (0, .ref (adr 35 0))]) C 0 rfl dX11_chosen_21 rfl rfl (by decide) rfl ?_
    refine ge_goto (n := 6) C dX11_chosen_24 (by decide) ?_
    exact hag6 (x3_6 + (1 : Int32)) S_20
theorem dX11_tender_0 : decode cX11_tender 0 = .ok (.iconst (-1), 1) := by decide +kernel
theorem dX11_tender_1 : decode cX11_tender 1 = .ok (.istore_n 1, 1) := by decide +kernel
theorem dX11_tender_2 : decode cX11_tender 2 = .ok (.ldc 197, 2) := by decide +kernel
theorem dX11_tender_4 : decode cX11_tender 4 = .ok (.istore_n 2, 1) := by decide +kernel
theorem dX11_tender_5 : decode cX11_tender 5 = .ok (.iconst 0, 1) := by decide +kernel
theorem dX11_tender_6 : decode cX11_tender 6 = .ok (.istore_n 3, 1) := by decide +kernel
theorem dX11_tender_7 : decode cX11_tender 7 = .ok (.iload_n 3, 1) := by decide +kernel
theorem dX11_tender_8 : decode cX11_tender 8 = .ok (.iconst 5, 1) := by decide +kernel
theorem dX11_tender_9 : decode cX11_tender 9 = .ok (.aload_n 0, 1) := by decide +kernel
theorem dX11_tender_10 : decode cX11_tender 10 = .ok (.getfield 93, 3) := by decide +kernel
theorem dX11_tender_13 : decode cX11_tender 13 = .ok (.imul, 1) := by decide +kernel
theorem dX11_tender_14 : decode cX11_tender 14 = .ok (.if_icmp .ge 63, 3) := by decide +kernel
theorem dX11_tender_17 : decode cX11_tender 17 = .ok (.aload_n 0, 1) := by decide +kernel
theorem dX11_tender_18 : decode cX11_tender 18 = .ok (.getfield 22, 3) := by decide +kernel
theorem dX11_tender_21 : decode cX11_tender 21 = .ok (.iconst 4, 1) := by decide +kernel
theorem dX11_tender_22 : decode cX11_tender 22 = .ok (.iload_n 3, 1) := by decide +kernel
theorem dX11_tender_23 : decode cX11_tender 23 = .ok (.iadd, 1) := by decide +kernel
theorem dX11_tender_24 : decode cX11_tender 24 = .ok (.iaload, 1) := by decide +kernel
theorem dX11_tender_25 : decode cX11_tender 25 = .ok (.aload_n 0, 1) := by decide +kernel
theorem dX11_tender_26 : decode cX11_tender 26 = .ok (.getfield 22, 3) := by decide +kernel
theorem dX11_tender_29 : decode cX11_tender 29 = .ok (.bipush 34, 2) := by decide +kernel
theorem dX11_tender_31 : decode cX11_tender 31 = .ok (.iload_n 3, 1) := by decide +kernel
theorem dX11_tender_32 : decode cX11_tender 32 = .ok (.iadd, 1) := by decide +kernel
theorem dX11_tender_33 : decode cX11_tender 33 = .ok (.iaload, 1) := by decide +kernel
theorem dX11_tender_34 : decode cX11_tender 34 = .ok (.isub, 1) := by decide +kernel
theorem dX11_tender_35 : decode cX11_tender 35 = .ok (.istore 4, 2) := by decide +kernel
theorem dX11_tender_37 : decode cX11_tender 37 = .ok (.iload 4, 2) := by decide +kernel
theorem dX11_tender_39 : decode cX11_tender 39 = .ok (.iload_n 2, 1) := by decide +kernel
theorem dX11_tender_40 : decode cX11_tender 40 = .ok (.if_icmp .le 16, 3) := by decide +kernel
theorem dX11_tender_43 : decode cX11_tender 43 = .ok (.bipush 10, 2) := by decide +kernel
theorem dX11_tender_45 : decode cX11_tender 45 = .ok (.iload_n 3, 1) := by decide +kernel
theorem dX11_tender_46 : decode cX11_tender 46 = .ok (.iconst 5, 1) := by decide +kernel
theorem dX11_tender_47 : decode cX11_tender 47 = .ok (.idiv, 1) := by decide +kernel
theorem dX11_tender_48 : decode cX11_tender 48 = .ok (.imul, 1) := by decide +kernel
theorem dX11_tender_49 : decode cX11_tender 49 = .ok (.iload_n 3, 1) := by decide +kernel
theorem dX11_tender_50 : decode cX11_tender 50 = .ok (.iconst 5, 1) := by decide +kernel
theorem dX11_tender_51 : decode cX11_tender 51 = .ok (.irem, 1) := by decide +kernel
theorem dX11_tender_52 : decode cX11_tender 52 = .ok (.iadd, 1) := by decide +kernel
theorem dX11_tender_53 : decode cX11_tender 53 = .ok (.goto 4, 3) := by decide +kernel
theorem dX11_tender_56 : decode cX11_tender 56 = .ok (.iload_n 1, 1) := by decide +kernel
theorem dX11_tender_57 : decode cX11_tender 57 = .ok (.istore_n 1, 1) := by decide +kernel
theorem dX11_tender_58 : decode cX11_tender 58 = .ok (.iload 4, 2) := by decide +kernel
theorem dX11_tender_60 : decode cX11_tender 60 = .ok (.iload_n 2, 1) := by decide +kernel
theorem dX11_tender_61 : decode cX11_tender 61 = .ok (.if_icmp .le 8, 3) := by decide +kernel
theorem dX11_tender_64 : decode cX11_tender 64 = .ok (.iload 4, 2) := by decide +kernel
theorem dX11_tender_66 : decode cX11_tender 66 = .ok (.goto 4, 3) := by decide +kernel
theorem dX11_tender_69 : decode cX11_tender 69 = .ok (.iload_n 2, 1) := by decide +kernel
theorem dX11_tender_70 : decode cX11_tender 70 = .ok (.istore_n 2, 1) := by decide +kernel
theorem dX11_tender_71 : decode cX11_tender 71 = .ok (.iinc 3 1, 3) := by decide +kernel
theorem dX11_tender_74 : decode cX11_tender 74 = .ok (.goto (-67), 3) := by decide +kernel
theorem dX11_tender_77 : decode cX11_tender 77 = .ok (.iload_n 1, 1) := by decide +kernel
theorem dX11_tender_78 : decode cX11_tender 78 = .ok (.ireturn, 1) := by decide +kernel
set_option maxRecDepth 100000 in
set_option maxHeartbeats 4000000 in
theorem mX11_tender {w : WX} {adr : Nat → Nat → Nat} (hj : Ij adr)  (S : St) : ∀ (l : Launch) (r : Int32) (S2 : St), fX11_tender S = some (r, S2) → Mi l w adr yX11_tender cX11_tender 5 (some .int) 0 0 [.ref (adr 35 0)] S r S2 := by
  refine mi_of (lv := [(0, .ref (adr 35 0))]) hj (plainFor_of_name (by decide +kernel)) rfl (Nat.le_of_ble_eq_true rfl) (fun k C Rr => ?_)
  have C : Cx w adr k cX11_tender RX11 5 0 0 := C
  refine ge_iconst (v := -1) (n := 1) C dX11_tender_0 (by decide) rfl ?_
  refine ge_istore_n (n := 2) (lv2 := [(1, .int (-1 : Int32)), (0, .ref (adr 35 0))]) C dX11_tender_1 rfl rfl (by decide) rfl ?_
  refine ge_ldc (n := 4) C kc_X11_197 dX11_tender_2 rfl ?_
  refine ge_istore_n (n := 5) (lv2 := [(2, .int (-1000000 : Int32)), (1, .int (-1 : Int32)), (0, .ref (adr 35 0))]) C dX11_tender_4 rfl rfl (by decide) rfl ?_
  refine ge_iconst (v := 0) (n := 6) C dX11_tender_5 (by decide) rfl ?_
  refine ge_istore_n (n := 7) (lv2 := [(3, .int (0 : Int32)), (2, .int (-1000000 : Int32)), (1, .int (-1 : Int32)), (0, .ref (adr 35 0))]) C dX11_tender_6 rfl rfl (by decide) rfl ?_
  refine ge_jn (fun (jj : Int32 → Op) => ∀ (x1_77 : Int32), Ge w adr k 77 [(1, .int x1_77)] [] S (jj x1_77)) (fun x1_77 => ?_) (fun kk7 hkk7 => ?_)
  · refine ge_iload_n (n := 78) C 0 rfl dX11_tender_77 rfl rfl ?_
    exact ge_iret C Rr dX11_tender_78
  refine ge_lop (fun (jj : Int32 → Int32 → Int32 → Op) => ∀ (x3_7 : Int32) (x2_7 : Int32) (x1_7 : Int32), Ge w adr k 7 [(3, .int x3_7), (2, .int x2_7), (1, .int x1_7), (0, .ref (adr 35 0))] [] S (jj x3_7 x2_7 x1_7)) (fun _ _ _ => ge_none) (fun ag7 hag7 x3_7 x2_7 x1_7 => ?_) FU (0 : Int32) (-1000000 : Int32) (-1 : Int32)
  refine ge_iload_n (n := 8) C 0 rfl dX11_tender_7 rfl rfl ?_
  refine ge_iconst (v := 5) (n := 9) C dX11_tender_8 (by decide) rfl ?_
  refine ge_aload_n (n := 10) C 3 rfl dX11_tender_9 rfl rfl ?_
  refine gt_X11_93 (n := 13) C (by decide) dX11_tender_10 rfl ?_
  refine ge_imul (n := 14) C dX11_tender_13 rfl ?_
  refine ge_icmp_ge (t := 77) (n := 17) C dX11_tender_14 (by decide) rfl (fun h_14 => ?_) (fun h_14 => ?_)
  · refine ge_sub [2] rfl ?_
    exact hkk7 x1_7
  · refine ge_aload_n (n := 18) C 3 rfl dX11_tender_17 rfl rfl ?_
    refine gt_X11_22 (n := 21) C (by decide) dX11_tender_18 rfl ?_
    refine ge_iconst (v := 4) (n := 22) C dX11_tender_21 (by decide) rfl ?_
    refine ge_iload_n (n := 23) C 0 rfl dX11_tender_22 rfl rfl ?_
    refine ge_iadd (n := 24) C dX11_tender_23 rfl ?_
    refine al_40 (n := 25) C (by decide) dX11_tender_24 rfl ?_
    refine ge_aload_n (n := 26) C 3 rfl dX11_tender_25 rfl rfl ?_
    refine gt_X11_22 (n := 29) C (by decide) dX11_tender_26 rfl ?_
    refine ge_bipush (v := 34) (n := 31) C dX11_tender_29 (by decide) rfl ?_
    refine ge_iload_n (n := 32) C 0 rfl dX11_tender_31 rfl rfl ?_
    refine ge_iadd (n := 33) C dX11_tender_32 rfl ?_
    refine al_40 (n := 34) C (by decide) dX11_tender_33 rfl ?_
    refine ge_isub (n := 35) C dX11_tender_34 rfl ?_
    refine ge_bi (fun x4_35 => ?_)
    refine ge_istore (n := 37) (lv2 := [(4, .int x4_35), (3, .int x3_7), (2, .int x2_7), (1, .int x1_7), (0, .ref (adr 35 0))]) C dX11_tender_35 rfl (by decide) rfl ?_
    refine ge_iload (n := 39) C 0 rfl dX11_tender_37 rfl ?_
    refine ge_iload_n (n := 40) C 2 rfl dX11_tender_39 rfl rfl ?_
    refine ge_jn (fun (jj : Int32 → Op) => ∀ (v0_57 : Int32), Ge w adr k 57 [(4, .int x4_35), (3, .int x3_7), (2, .int x2_7), (0, .ref (adr 35 0))] [.int v0_57] S (jj v0_57)) (fun v0_57 => ?_) (fun j57 hj57 => ?_)
    · refine ge_istore_n (n := 58) (lv2 := [(1, .int v0_57), (4, .int x4_35), (3, .int x3_7), (2, .int x2_7), (0, .ref (adr 35 0))]) C dX11_tender_57 rfl rfl (by decide) rfl ?_
      refine ge_iload (n := 60) C 1 rfl dX11_tender_58 rfl ?_
      refine ge_iload_n (n := 61) C 3 rfl dX11_tender_60 rfl rfl ?_
      refine ge_icmp_le (t := 69) (n := 64) C dX11_tender_61 (by decide) rfl (fun h_61 => ?_) (fun h_61 => ?_)
      · refine ge_iload_n (n := 70) C 3 rfl dX11_tender_69 rfl rfl ?_
        refine ge_istore_n (n := 71) (lv2 := [(2, .int x2_7), (1, .int v0_57), (4, .int x4_35), (3, .int x3_7), (0, .ref (adr 35 0))]) C dX11_tender_70 rfl rfl (by decide) rfl ?_
        refine ge_iinc (n := 74) (v := (x3_7 + (1 : Int32))) (lv2 := [(3, .int (x3_7 + (1 : Int32))), (2, .int x2_7), (1, .int v0_57), (4, .int x4_35), (0, .ref (adr 35 0))]) C 3 rfl dX11_tender_71 rfl rfl (by decide) rfl ?_
        refine ge_goto (n := 7) C dX11_tender_74 (by decide) ?_
        refine ge_sub [0, 1, 2, 4] rfl ?_
        exact hag7 (x3_7 + (1 : Int32)) x2_7 v0_57
      · refine ge_iload (n := 66) C 1 rfl dX11_tender_64 rfl ?_
        refine ge_goto (n := 70) C dX11_tender_66 (by decide) ?_
        refine ge_istore_n (n := 71) (lv2 := [(2, .int x4_35), (1, .int v0_57), (4, .int x4_35), (3, .int x3_7), (0, .ref (adr 35 0))]) C dX11_tender_70 rfl rfl (by decide) rfl ?_
        refine ge_iinc (n := 74) (v := (x3_7 + (1 : Int32))) (lv2 := [(3, .int (x3_7 + (1 : Int32))), (2, .int x4_35), (1, .int v0_57), (4, .int x4_35), (0, .ref (adr 35 0))]) C 3 rfl dX11_tender_71 rfl rfl (by decide) rfl ?_
        refine ge_goto (n := 7) C dX11_tender_74 (by decide) ?_
        refine ge_sub [0, 1, 2, 4] rfl ?_
        exact hag7 (x3_7 + (1 : Int32)) x4_35 v0_57
    refine ge_icmp_le (t := 56) (n := 43) C dX11_tender_40 (by decide) rfl (fun h_40 => ?_) (fun h_40 => ?_)
    · refine ge_iload_n (n := 57) C 3 rfl dX11_tender_56 rfl rfl ?_
      refine ge_sub [0, 1, 2, 4] rfl ?_
      exact hj57 x1_7
    · refine ge_bipush (v := 10) (n := 45) C dX11_tender_43 (by decide) rfl ?_
      refine ge_iload_n (n := 46) C 1 rfl dX11_tender_45 rfl rfl ?_
      refine ge_iconst (v := 5) (n := 47) C dX11_tender_46 (by decide) rfl ?_
      refine ge_idiv0 (n := 48) C (by decide) dX11_tender_47 rfl ?_
      refine ge_imul (n := 49) C dX11_tender_48 rfl ?_
      refine ge_iload_n (n := 50) C 1 rfl dX11_tender_49 rfl rfl ?_
      refine ge_iconst (v := 5) (n := 51) C dX11_tender_50 (by decide) rfl ?_
      refine ge_irem0 (n := 52) C (by decide) dX11_tender_51 rfl ?_
      refine ge_iadd (n := 53) C dX11_tender_52 rfl ?_
      refine ge_goto (n := 57) C dX11_tender_53 (by decide) ?_
      refine ge_sub [0, 1, 2, 4] rfl ?_
      exact hj57 (((10 : Int32) * (x3_7 / (5 : Int32))) + (irm x3_7 (5 : Int32)))
theorem dX11_told_0 : decode cX11_told 0 = .ok (.iload_n 1, 1) := by decide +kernel
theorem dX11_told_1 : decode cX11_told 1 = .ok (.tableswitch 158 0 14 #[75, 80, 87, 92, 97, 102, 109, 116, 123, 128, 133, 138, 143, 148, 153], 75) := by decide +kernel
theorem dX11_told_76 : decode cX11_told 76 = .ok (.aload_n 0, 1) := by decide +kernel
theorem dX11_told_77 : decode cX11_told 77 = .ok (.getfield 90, 3) := by decide +kernel
theorem dX11_told_80 : decode cX11_told 80 = .ok (.ireturn, 1) := by decide +kernel
theorem dX11_told_81 : decode cX11_told 81 = .ok (.aload_n 0, 1) := by decide +kernel
theorem dX11_told_82 : decode cX11_told 82 = .ok (.getfield 22, 3) := by decide +kernel
theorem dX11_told_85 : decode cX11_told 85 = .ok (.iconst 1, 1) := by decide +kernel
theorem dX11_told_86 : decode cX11_told 86 = .ok (.iaload, 1) := by decide +kernel
theorem dX11_told_87 : decode cX11_told 87 = .ok (.ireturn, 1) := by decide +kernel
theorem dX11_told_88 : decode cX11_told 88 = .ok (.aload_n 0, 1) := by decide +kernel
theorem dX11_told_89 : decode cX11_told 89 = .ok (.getfield 93, 3) := by decide +kernel
theorem dX11_told_92 : decode cX11_told 92 = .ok (.ireturn, 1) := by decide +kernel
theorem dX11_told_93 : decode cX11_told 93 = .ok (.aload_n 0, 1) := by decide +kernel
theorem dX11_told_94 : decode cX11_told 94 = .ok (.getfield 100, 3) := by decide +kernel
theorem dX11_told_97 : decode cX11_told 97 = .ok (.ireturn, 1) := by decide +kernel
theorem dX11_told_98 : decode cX11_told 98 = .ok (.aload_n 0, 1) := by decide +kernel
theorem dX11_told_99 : decode cX11_told 99 = .ok (.getfield 108, 3) := by decide +kernel
theorem dX11_told_102 : decode cX11_told 102 = .ok (.ireturn, 1) := by decide +kernel
theorem dX11_told_103 : decode cX11_told 103 = .ok (.aload_n 0, 1) := by decide +kernel
theorem dX11_told_104 : decode cX11_told 104 = .ok (.getfield 22, 3) := by decide +kernel
theorem dX11_told_107 : decode cX11_told 107 = .ok (.iconst 0, 1) := by decide +kernel
theorem dX11_told_108 : decode cX11_told 108 = .ok (.iaload, 1) := by decide +kernel
theorem dX11_told_109 : decode cX11_told 109 = .ok (.ireturn, 1) := by decide +kernel
theorem dX11_told_110 : decode cX11_told 110 = .ok (.aload_n 0, 1) := by decide +kernel
theorem dX11_told_111 : decode cX11_told 111 = .ok (.getfield 22, 3) := by decide +kernel
theorem dX11_told_114 : decode cX11_told 114 = .ok (.iconst 2, 1) := by decide +kernel
theorem dX11_told_115 : decode cX11_told 115 = .ok (.iaload, 1) := by decide +kernel
theorem dX11_told_116 : decode cX11_told 116 = .ok (.ireturn, 1) := by decide +kernel
theorem dX11_told_117 : decode cX11_told 117 = .ok (.aload_n 0, 1) := by decide +kernel
theorem dX11_told_118 : decode cX11_told 118 = .ok (.getfield 22, 3) := by decide +kernel
theorem dX11_told_121 : decode cX11_told 121 = .ok (.iconst 3, 1) := by decide +kernel
theorem dX11_told_122 : decode cX11_told 122 = .ok (.iaload, 1) := by decide +kernel
theorem dX11_told_123 : decode cX11_told 123 = .ok (.ireturn, 1) := by decide +kernel
theorem dX11_told_124 : decode cX11_told 124 = .ok (.aload_n 0, 1) := by decide +kernel
theorem dX11_told_125 : decode cX11_told 125 = .ok (.invokevirtual 198, 3) := by decide +kernel
theorem dX11_told_128 : decode cX11_told 128 = .ok (.ireturn, 1) := by decide +kernel
theorem dX11_told_129 : decode cX11_told 129 = .ok (.aload_n 0, 1) := by decide +kernel
theorem dX11_told_130 : decode cX11_told 130 = .ok (.invokevirtual 201, 3) := by decide +kernel
theorem dX11_told_133 : decode cX11_told 133 = .ok (.ireturn, 1) := by decide +kernel
theorem dX11_told_134 : decode cX11_told 134 = .ok (.aload_n 0, 1) := by decide +kernel
theorem dX11_told_135 : decode cX11_told 135 = .ok (.invokevirtual 204, 3) := by decide +kernel
theorem dX11_told_138 : decode cX11_told 138 = .ok (.ireturn, 1) := by decide +kernel
theorem dX11_told_139 : decode cX11_told 139 = .ok (.aload_n 0, 1) := by decide +kernel
theorem dX11_told_140 : decode cX11_told 140 = .ok (.invokevirtual 207, 3) := by decide +kernel
theorem dX11_told_143 : decode cX11_told 143 = .ok (.ireturn, 1) := by decide +kernel
theorem dX11_told_144 : decode cX11_told 144 = .ok (.aload_n 0, 1) := by decide +kernel
theorem dX11_told_145 : decode cX11_told 145 = .ok (.getfield 174, 3) := by decide +kernel
theorem dX11_told_148 : decode cX11_told 148 = .ok (.ireturn, 1) := by decide +kernel
theorem dX11_told_149 : decode cX11_told 149 = .ok (.aload_n 0, 1) := by decide +kernel
theorem dX11_told_150 : decode cX11_told 150 = .ok (.getfield 177, 3) := by decide +kernel
theorem dX11_told_153 : decode cX11_told 153 = .ok (.ireturn, 1) := by decide +kernel
theorem dX11_told_154 : decode cX11_told 154 = .ok (.aload_n 0, 1) := by decide +kernel
theorem dX11_told_155 : decode cX11_told 155 = .ok (.getfield 180, 3) := by decide +kernel
theorem dX11_told_158 : decode cX11_told 158 = .ok (.ireturn, 1) := by decide +kernel
theorem dX11_told_159 : decode cX11_told 159 = .ok (.ldc 107, 2) := by decide +kernel
theorem dX11_told_161 : decode cX11_told 161 = .ok (.ireturn, 1) := by decide +kernel
set_option maxRecDepth 100000 in
set_option maxHeartbeats 4000000 in
theorem mX11_told {w : WX} {adr : Nat → Nat → Nat} (hj : Ij adr) (a1 : Int32) (S : St) : ∀ (l : Launch) (r : Int32) (S2 : St), fX11_told a1 S = some (r, S2) → Mi l w adr yX11_told cX11_told 2 (some .int) 3 69 [.ref (adr 35 0), .int a1] S r S2 := by
  refine mi_of (lv := [(0, .ref (adr 35 0)), (1, .int a1)]) hj (plainFor_of_name (by decide +kernel)) rfl (Nat.le_of_ble_eq_true rfl) (fun k C Rr => ?_)
  have C : Cx w adr k cX11_told RX11 2 3 69 := C
  refine ge_iload_n (n := 1) C 1 rfl dX11_told_0 rfl rfl ?_
  refine ge_if (fun hs_0 => ?_) (fun hs_0 => ?_)
  · refine ge_tsIn (t := 76) C dX11_told_1 (by rw [hs_0]; decide) (by rw [hs_0]; decide) (by rw [hs_0]; rfl) (by decide) ?_
    refine ge_aload_n (n := 77) C 0 rfl dX11_told_76 rfl rfl ?_
    refine gt_X11_90 (n := 80) C (by decide) dX11_told_77 rfl ?_
    exact ge_iret C Rr dX11_told_80
  refine ge_if (fun hs_1 => ?_) (fun hs_1 => ?_)
  · refine ge_tsIn (t := 81) C dX11_told_1 (by rw [hs_1]; decide) (by rw [hs_1]; decide) (by rw [hs_1]; rfl) (by decide) ?_
    refine ge_aload_n (n := 82) C 0 rfl dX11_told_81 rfl rfl ?_
    refine gt_X11_22 (n := 85) C (by decide) dX11_told_82 rfl ?_
    refine ge_iconst (v := 1) (n := 86) C dX11_told_85 (by decide) rfl ?_
    refine al_40 (n := 87) C (by decide) dX11_told_86 rfl ?_
    exact ge_iret C Rr dX11_told_87
  refine ge_if (fun hs_2 => ?_) (fun hs_2 => ?_)
  · refine ge_tsIn (t := 88) C dX11_told_1 (by rw [hs_2]; decide) (by rw [hs_2]; decide) (by rw [hs_2]; rfl) (by decide) ?_
    refine ge_aload_n (n := 89) C 0 rfl dX11_told_88 rfl rfl ?_
    refine gt_X11_93 (n := 92) C (by decide) dX11_told_89 rfl ?_
    exact ge_iret C Rr dX11_told_92
  refine ge_if (fun hs_3 => ?_) (fun hs_3 => ?_)
  · refine ge_tsIn (t := 93) C dX11_told_1 (by rw [hs_3]; decide) (by rw [hs_3]; decide) (by rw [hs_3]; rfl) (by decide) ?_
    refine ge_aload_n (n := 94) C 0 rfl dX11_told_93 rfl rfl ?_
    refine gt_X11_100 (n := 97) C (by decide) dX11_told_94 rfl ?_
    exact ge_iret C Rr dX11_told_97
  refine ge_if (fun hs_4 => ?_) (fun hs_4 => ?_)
  · refine ge_tsIn (t := 98) C dX11_told_1 (by rw [hs_4]; decide) (by rw [hs_4]; decide) (by rw [hs_4]; rfl) (by decide) ?_
    refine ge_aload_n (n := 99) C 0 rfl dX11_told_98 rfl rfl ?_
    refine gt_X11_108 (n := 102) C (by decide) dX11_told_99 rfl ?_
    exact ge_iret C Rr dX11_told_102
  refine ge_if (fun hs_5 => ?_) (fun hs_5 => ?_)
  · refine ge_tsIn (t := 103) C dX11_told_1 (by rw [hs_5]; decide) (by rw [hs_5]; decide) (by rw [hs_5]; rfl) (by decide) ?_
    refine ge_aload_n (n := 104) C 0 rfl dX11_told_103 rfl rfl ?_
    refine gt_X11_22 (n := 107) C (by decide) dX11_told_104 rfl ?_
    refine ge_iconst (v := 0) (n := 108) C dX11_told_107 (by decide) rfl ?_
    refine al_40 (n := 109) C (by decide) dX11_told_108 rfl ?_
    exact ge_iret C Rr dX11_told_109
  refine ge_if (fun hs_6 => ?_) (fun hs_6 => ?_)
  · refine ge_tsIn (t := 110) C dX11_told_1 (by rw [hs_6]; decide) (by rw [hs_6]; decide) (by rw [hs_6]; rfl) (by decide) ?_
    refine ge_aload_n (n := 111) C 0 rfl dX11_told_110 rfl rfl ?_
    refine gt_X11_22 (n := 114) C (by decide) dX11_told_111 rfl ?_
    refine ge_iconst (v := 2) (n := 115) C dX11_told_114 (by decide) rfl ?_
    refine al_40 (n := 116) C (by decide) dX11_told_115 rfl ?_
    exact ge_iret C Rr dX11_told_116
  refine ge_if (fun hs_7 => ?_) (fun hs_7 => ?_)
  · refine ge_tsIn (t := 117) C dX11_told_1 (by rw [hs_7]; decide) (by rw [hs_7]; decide) (by rw [hs_7]; rfl) (by decide) ?_
    refine ge_aload_n (n := 118) C 0 rfl dX11_told_117 rfl rfl ?_
    refine gt_X11_22 (n := 121) C (by decide) dX11_told_118 rfl ?_
    refine ge_iconst (v := 3) (n := 122) C dX11_told_121 (by decide) rfl ?_
    refine al_40 (n := 123) C (by decide) dX11_told_122 rfl ?_
    exact ge_iret C Rr dX11_told_123
  refine ge_if (fun hs_8 => ?_) (fun hs_8 => ?_)
  · refine ge_tsIn (t := 124) C dX11_told_1 (by rw [hs_8]; decide) (by rw [hs_8]; decide) (by rw [hs_8]; rfl) (by decide) ?_
    refine ge_aload_n (n := 125) C 0 rfl dX11_told_124 rfl rfl ?_
    refine ge_callVi (n := 128) C (mX11_woundsAll hj S) gv_X11_198 (cl_35 (by decide)) rfl rfl hc_X11_woundsAll ⟨Nat.le_of_ble_eq_true rfl, Nat.le_of_ble_eq_true rfl⟩ rfl rfl (Nat.le_of_ble_eq_true rfl) dX11_told_125 rfl (fun r_125 S_125 => ?_)
    exact ge_iret C Rr dX11_told_128
  refine ge_if (fun hs_9 => ?_) (fun hs_9 => ?_)
  · refine ge_tsIn (t := 129) C dX11_told_1 (by rw [hs_9]; decide) (by rw [hs_9]; decide) (by rw [hs_9]; rfl) (by decide) ?_
    refine ge_aload_n (n := 130) C 0 rfl dX11_told_129 rfl rfl ?_
    refine ge_callVi (n := 133) C (mX11_bestMan hj S) gv_X11_201 (cl_35 (by decide)) rfl rfl hc_X11_bestMan ⟨Nat.le_of_ble_eq_true rfl, Nat.le_of_ble_eq_true rfl⟩ rfl rfl (Nat.le_of_ble_eq_true rfl) dX11_told_130 rfl (fun r_130 S_130 => ?_)
    exact ge_iret C Rr dX11_told_133
  refine ge_if (fun hs_10 => ?_) (fun hs_10 => ?_)
  · refine ge_tsIn (t := 134) C dX11_told_1 (by rw [hs_10]; decide) (by rw [hs_10]; decide) (by rw [hs_10]; rfl) (by decide) ?_
    refine ge_aload_n (n := 135) C 0 rfl dX11_told_134 rfl rfl ?_
    refine ge_callVi (n := 138) C (mX11_chosen hj S) gv_X11_204 (cl_35 (by decide)) rfl rfl hc_X11_chosen ⟨Nat.le_of_ble_eq_true rfl, Nat.le_of_ble_eq_true rfl⟩ rfl rfl (Nat.le_of_ble_eq_true rfl) dX11_told_135 rfl (fun r_135 S_135 => ?_)
    exact ge_iret C Rr dX11_told_138
  refine ge_if (fun hs_11 => ?_) (fun hs_11 => ?_)
  · refine ge_tsIn (t := 139) C dX11_told_1 (by rw [hs_11]; decide) (by rw [hs_11]; decide) (by rw [hs_11]; rfl) (by decide) ?_
    refine ge_aload_n (n := 140) C 0 rfl dX11_told_139 rfl rfl ?_
    refine ge_callVi (n := 143) C (mX11_tender hj S) gv_X11_207 (cl_35 (by decide)) rfl rfl hc_X11_tender ⟨Nat.le_of_ble_eq_true rfl, Nat.le_of_ble_eq_true rfl⟩ rfl rfl (Nat.le_of_ble_eq_true rfl) dX11_told_140 rfl (fun r_140 S_140 => ?_)
    exact ge_iret C Rr dX11_told_143
  refine ge_if (fun hs_12 => ?_) (fun hs_12 => ?_)
  · refine ge_tsIn (t := 144) C dX11_told_1 (by rw [hs_12]; decide) (by rw [hs_12]; decide) (by rw [hs_12]; rfl) (by decide) ?_
    refine ge_aload_n (n := 145) C 0 rfl dX11_told_144 rfl rfl ?_
    refine gt_X11_174 (n := 148) C (by decide) dX11_told_145 rfl ?_
    exact ge_iret C Rr dX11_told_148
  refine ge_if (fun hs_13 => ?_) (fun hs_13 => ?_)
  · refine ge_tsIn (t := 149) C dX11_told_1 (by rw [hs_13]; decide) (by rw [hs_13]; decide) (by rw [hs_13]; rfl) (by decide) ?_
    refine ge_aload_n (n := 150) C 0 rfl dX11_told_149 rfl rfl ?_
    refine gt_X11_177 (n := 153) C (by decide) dX11_told_150 rfl ?_
    exact ge_iret C Rr dX11_told_153
  refine ge_if (fun hs_14 => ?_) (fun hs_14 => ?_)
  · refine ge_tsIn (t := 154) C dX11_told_1 (by rw [hs_14]; decide) (by rw [hs_14]; decide) (by rw [hs_14]; rfl) (by decide) ?_
    refine ge_aload_n (n := 155) C 0 rfl dX11_told_154 rfl rfl ?_
    refine gt_X11_180 (n := 158) C (by decide) dX11_told_155 rfl ?_
    exact ge_iret C Rr dX11_told_158
  refine ge_tsOut (t := 159) C dX11_told_1 (ts_out (n := 15) (by decide) (by decide) (fun i hi => match i, hi with
    | 0, _ => hs_0
    | 1, _ => hs_1
    | 2, _ => hs_2
    | 3, _ => hs_3
    | 4, _ => hs_4
    | 5, _ => hs_5
    | 6, _ => hs_6
    | 7, _ => hs_7
    | 8, _ => hs_8
    | 9, _ => hs_9
    | 10, _ => hs_10
    | 11, _ => hs_11
    | 12, _ => hs_12
    | 13, _ => hs_13
    | 14, _ => hs_14
    | i + 15, hi => absurd hi (by omega))) (by decide) ?_
  refine ge_ldc (n := 161) C kc_X11_107 dX11_told_159 rfl ?_
  exact ge_iret C Rr dX11_told_161
theorem dX11_man_0 : decode cX11_man 0 = .ok (.aload_n 0, 1) := by decide +kernel
theorem dX11_man_1 : decode cX11_man 1 = .ok (.iload_n 1, 1) := by decide +kernel
theorem dX11_man_2 : decode cX11_man 2 = .ok (.invokevirtual 210, 3) := by decide +kernel
theorem dX11_man_5 : decode cX11_man 5 = .ok (.ifCond .ne 6, 3) := by decide +kernel
theorem dX11_man_8 : decode cX11_man 8 = .ok (.ldc 213, 2) := by decide +kernel
theorem dX11_man_10 : decode cX11_man 10 = .ok (.ireturn, 1) := by decide +kernel
theorem dX11_man_11 : decode cX11_man 11 = .ok (.aload_n 0, 1) := by decide +kernel
theorem dX11_man_12 : decode cX11_man 12 = .ok (.iload_n 1, 1) := by decide +kernel
theorem dX11_man_13 : decode cX11_man 13 = .ok (.invokevirtual 189, 3) := by decide +kernel
theorem dX11_man_16 : decode cX11_man 16 = .ok (.iload_n 2, 1) := by decide +kernel
theorem dX11_man_17 : decode cX11_man 17 = .ok (.tableswitch 73 0 4 #[35, 42, 53, 63, 68], 35) := by decide +kernel
theorem dX11_man_52 : decode cX11_man 52 = .ok (.aload_n 0, 1) := by decide +kernel
theorem dX11_man_53 : decode cX11_man 53 = .ok (.getfield 7, 3) := by decide +kernel
theorem dX11_man_56 : decode cX11_man 56 = .ok (.iload_n 1, 1) := by decide +kernel
theorem dX11_man_57 : decode cX11_man 57 = .ok (.iaload, 1) := by decide +kernel
theorem dX11_man_58 : decode cX11_man 58 = .ok (.ireturn, 1) := by decide +kernel
theorem dX11_man_59 : decode cX11_man 59 = .ok (.aload_n 0, 1) := by decide +kernel
theorem dX11_man_60 : decode cX11_man 60 = .ok (.getfield 22, 3) := by decide +kernel
theorem dX11_man_63 : decode cX11_man 63 = .ok (.iconst 2, 1) := by decide +kernel
theorem dX11_man_64 : decode cX11_man 64 = .ok (.iaload, 1) := by decide +kernel
theorem dX11_man_65 : decode cX11_man 65 = .ok (.iload_n 1, 1) := by decide +kernel
theorem dX11_man_66 : decode cX11_man 66 = .ok (.ishr, 1) := by decide +kernel
theorem dX11_man_67 : decode cX11_man 67 = .ok (.iconst 1, 1) := by decide +kernel
theorem dX11_man_68 : decode cX11_man 68 = .ok (.iand, 1) := by decide +kernel
theorem dX11_man_69 : decode cX11_man 69 = .ok (.ireturn, 1) := by decide +kernel
theorem dX11_man_70 : decode cX11_man 70 = .ok (.aload_n 0, 1) := by decide +kernel
theorem dX11_man_71 : decode cX11_man 71 = .ok (.getfield 22, 3) := by decide +kernel
theorem dX11_man_74 : decode cX11_man 74 = .ok (.bipush 64, 2) := by decide +kernel
theorem dX11_man_76 : decode cX11_man 76 = .ok (.iload_n 1, 1) := by decide +kernel
theorem dX11_man_77 : decode cX11_man 77 = .ok (.iadd, 1) := by decide +kernel
theorem dX11_man_78 : decode cX11_man 78 = .ok (.iaload, 1) := by decide +kernel
theorem dX11_man_79 : decode cX11_man 79 = .ok (.ireturn, 1) := by decide +kernel
theorem dX11_man_80 : decode cX11_man 80 = .ok (.aload_n 0, 1) := by decide +kernel
theorem dX11_man_81 : decode cX11_man 81 = .ok (.invokevirtual 214, 3) := by decide +kernel
theorem dX11_man_84 : decode cX11_man 84 = .ok (.ireturn, 1) := by decide +kernel
theorem dX11_man_85 : decode cX11_man 85 = .ok (.aload_n 0, 1) := by decide +kernel
theorem dX11_man_86 : decode cX11_man 86 = .ok (.invokevirtual 217, 3) := by decide +kernel
theorem dX11_man_89 : decode cX11_man 89 = .ok (.ireturn, 1) := by decide +kernel
theorem dX11_man_90 : decode cX11_man 90 = .ok (.ldc 107, 2) := by decide +kernel
theorem dX11_man_92 : decode cX11_man 92 = .ok (.ireturn, 1) := by decide +kernel
set_option maxRecDepth 100000 in
set_option maxHeartbeats 4000000 in
theorem mX11_man {w : WX} {adr : Nat → Nat → Nat} (hj : Ij adr) (a1 : Int32) (a2 : Int32) (S : St) : ∀ (l : Launch) (r : Int32) (S2 : St), fX11_man a1 a2 S = some (r, S2) → Mi l w adr yX11_man cX11_man 3 (some .int) 2 46 [.ref (adr 35 0), .int a1, .int a2] S r S2 := by
  refine mi_of (lv := [(0, .ref (adr 35 0)), (1, .int a1), (2, .int a2)]) hj (plainFor_of_name (by decide +kernel)) rfl (Nat.le_of_ble_eq_true rfl) (fun k C Rr => ?_)
  have C : Cx w adr k cX11_man RX11 3 2 46 := C
  refine ge_aload_n (n := 1) C 0 rfl dX11_man_0 rfl rfl ?_
  refine ge_iload_n (n := 2) C 1 rfl dX11_man_1 rfl rfl ?_
  refine ge_callVi (n := 5) C (mX11_isMan hj a1 S) gv_X11_210 (cl_35 (by decide)) rfl rfl hc_X11_isMan ⟨Nat.le_of_ble_eq_true rfl, Nat.le_of_ble_eq_true rfl⟩ rfl rfl (Nat.le_of_ble_eq_true rfl) dX11_man_2 rfl (fun r_2 S_2 => ?_)
  refine ge_if_ne (t := 11) (n := 8) C dX11_man_5 (by decide) rfl (fun h_5 => ?_) (fun h_5 => ?_)
  · refine ge_aload_n (n := 12) C 0 rfl dX11_man_11 rfl rfl ?_
    refine ge_iload_n (n := 13) C 1 rfl dX11_man_12 rfl rfl ?_
    refine ge_callVv (n := 16) C (mX11_takesSkin hj a1 S_2) gv_X11_189 (cl_35 (by decide)) rfl rfl hc_X11_takesSkin ⟨Nat.le_of_ble_eq_true rfl, Nat.le_of_ble_eq_true rfl⟩ rfl rfl (Nat.le_of_ble_eq_true rfl) dX11_man_13 rfl (fun _ S_13 => ?_)
    refine ge_iload_n (n := 17) C 2 rfl dX11_man_16 rfl rfl ?_
    refine ge_if (fun hs_0 => ?_) (fun hs_0 => ?_)
    · refine ge_tsIn (t := 52) C dX11_man_17 (by rw [hs_0]; decide) (by rw [hs_0]; decide) (by rw [hs_0]; rfl) (by decide) ?_
      refine ge_aload_n (n := 53) C 0 rfl dX11_man_52 rfl rfl ?_
      refine gt_X11_7 (n := 56) C (by decide) dX11_man_53 rfl ?_
      refine ge_iload_n (n := 57) C 1 rfl dX11_man_56 rfl rfl ?_
      refine al_36 (n := 58) C (by decide) dX11_man_57 rfl ?_
      exact ge_iret C Rr dX11_man_58
    refine ge_if (fun hs_1 => ?_) (fun hs_1 => ?_)
    · refine ge_tsIn (t := 59) C dX11_man_17 (by rw [hs_1]; decide) (by rw [hs_1]; decide) (by rw [hs_1]; rfl) (by decide) ?_
      refine ge_aload_n (n := 60) C 0 rfl dX11_man_59 rfl rfl ?_
      refine gt_X11_22 (n := 63) C (by decide) dX11_man_60 rfl ?_
      refine ge_iconst (v := 2) (n := 64) C dX11_man_63 (by decide) rfl ?_
      refine al_40 (n := 65) C (by decide) dX11_man_64 rfl ?_
      refine ge_iload_n (n := 66) C 1 rfl dX11_man_65 rfl rfl ?_
      refine ge_ishr (n := 67) C dX11_man_66 rfl ?_
      refine ge_iconst (v := 1) (n := 68) C dX11_man_67 (by decide) rfl ?_
      refine ge_iand (n := 69) C dX11_man_68 rfl ?_
      exact ge_iret C Rr dX11_man_69
    refine ge_if (fun hs_2 => ?_) (fun hs_2 => ?_)
    · refine ge_tsIn (t := 70) C dX11_man_17 (by rw [hs_2]; decide) (by rw [hs_2]; decide) (by rw [hs_2]; rfl) (by decide) ?_
      refine ge_aload_n (n := 71) C 0 rfl dX11_man_70 rfl rfl ?_
      refine gt_X11_22 (n := 74) C (by decide) dX11_man_71 rfl ?_
      refine ge_bipush (v := 64) (n := 76) C dX11_man_74 (by decide) rfl ?_
      refine ge_iload_n (n := 77) C 1 rfl dX11_man_76 rfl rfl ?_
      refine ge_iadd (n := 78) C dX11_man_77 rfl ?_
      refine al_40 (n := 79) C (by decide) dX11_man_78 rfl ?_
      exact ge_iret C Rr dX11_man_79
    refine ge_if (fun hs_3 => ?_) (fun hs_3 => ?_)
    · refine ge_tsIn (t := 80) C dX11_man_17 (by rw [hs_3]; decide) (by rw [hs_3]; decide) (by rw [hs_3]; rfl) (by decide) ?_
      refine ge_aload_n (n := 81) C 0 rfl dX11_man_80 rfl rfl ?_
      refine ge_callVi (n := 84) C (mX11_borneNow hj S_13) gv_X11_214 (cl_35 (by decide)) rfl rfl hc_X11_borneNow ⟨Nat.le_of_ble_eq_true rfl, Nat.le_of_ble_eq_true rfl⟩ rfl rfl (Nat.le_of_ble_eq_true rfl) dX11_man_81 rfl (fun r_81 S_81 => ?_)
      exact ge_iret C Rr dX11_man_84
    refine ge_if (fun hs_4 => ?_) (fun hs_4 => ?_)
    · refine ge_tsIn (t := 85) C dX11_man_17 (by rw [hs_4]; decide) (by rw [hs_4]; decide) (by rw [hs_4]; rfl) (by decide) ?_
      refine ge_aload_n (n := 86) C 0 rfl dX11_man_85 rfl rfl ?_
      refine ge_callVi (n := 89) C (mX11_feltNow hj S_13) gv_X11_217 (cl_35 (by decide)) rfl rfl hc_X11_feltNow ⟨Nat.le_of_ble_eq_true rfl, Nat.le_of_ble_eq_true rfl⟩ rfl rfl (Nat.le_of_ble_eq_true rfl) dX11_man_86 rfl (fun r_86 S_86 => ?_)
      exact ge_iret C Rr dX11_man_89
    refine ge_tsOut (t := 90) C dX11_man_17 (ts_out (n := 5) (by decide) (by decide) (fun i hi => match i, hi with
      | 0, _ => hs_0
      | 1, _ => hs_1
      | 2, _ => hs_2
      | 3, _ => hs_3
      | 4, _ => hs_4
      | i + 5, hi => absurd hi (by omega))) (by decide) ?_
    refine ge_ldc (n := 92) C kc_X11_107 dX11_man_90 rfl ?_
    exact ge_iret C Rr dX11_man_92
  · refine ge_ldc (n := 10) C kc_X11_213 dX11_man_8 rfl ?_
    exact ge_iret C Rr dX11_man_10
