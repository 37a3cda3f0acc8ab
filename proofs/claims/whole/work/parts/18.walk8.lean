theorem dX11_ask_0 : decode cX11_ask 0 = .ok (.aload_n 0, 1) := by decide +kernel
theorem dX11_ask_1 : decode cX11_ask 1 = .ok (.iload_n 1, 1) := by decide +kernel
theorem dX11_ask_2 : decode cX11_ask 2 = .ok (.invokevirtual 210, 3) := by decide +kernel
theorem dX11_ask_5 : decode cX11_ask 5 = .ok (.ifCond .ne 6, 3) := by decide +kernel
theorem dX11_ask_8 : decode cX11_ask 8 = .ok (.ldc 213, 2) := by decide +kernel
theorem dX11_ask_10 : decode cX11_ask 10 = .ok (.ireturn, 1) := by decide +kernel
theorem dX11_ask_11 : decode cX11_ask 11 = .ok (.aload_n 0, 1) := by decide +kernel
theorem dX11_ask_12 : decode cX11_ask 12 = .ok (.iload_n 1, 1) := by decide +kernel
theorem dX11_ask_13 : decode cX11_ask 13 = .ok (.invokevirtual 300, 3) := by decide +kernel
theorem dX11_ask_16 : decode cX11_ask 16 = .ok (.istore_n 2, 1) := by decide +kernel
theorem dX11_ask_17 : decode cX11_ask 17 = .ok (.iconst (-1), 1) := by decide +kernel
theorem dX11_ask_18 : decode cX11_ask 18 = .ok (.istore_n 3, 1) := by decide +kernel
theorem dX11_ask_19 : decode cX11_ask 19 = .ok (.iconst 0, 1) := by decide +kernel
theorem dX11_ask_20 : decode cX11_ask 20 = .ok (.istore 4, 2) := by decide +kernel
theorem dX11_ask_22 : decode cX11_ask 22 = .ok (.iload 4, 2) := by decide +kernel
theorem dX11_ask_24 : decode cX11_ask 24 = .ok (.aload_n 0, 1) := by decide +kernel
theorem dX11_ask_25 : decode cX11_ask 25 = .ok (.getfield 100, 3) := by decide +kernel
theorem dX11_ask_28 : decode cX11_ask 28 = .ok (.if_icmp .ge 148, 3) := by decide +kernel
theorem dX11_ask_31 : decode cX11_ask 31 = .ok (.iconst 0, 1) := by decide +kernel
theorem dX11_ask_32 : decode cX11_ask 32 = .ok (.istore 5, 2) := by decide +kernel
theorem dX11_ask_34 : decode cX11_ask 34 = .ok (.iconst 0, 1) := by decide +kernel
theorem dX11_ask_35 : decode cX11_ask 35 = .ok (.istore 6, 2) := by decide +kernel
theorem dX11_ask_37 : decode cX11_ask 37 = .ok (.iload 6, 2) := by decide +kernel
theorem dX11_ask_39 : decode cX11_ask 39 = .ok (.bipush 60, 2) := by decide +kernel
theorem dX11_ask_41 : decode cX11_ask 41 = .ok (.if_icmp .gt 103, 3) := by decide +kernel
theorem dX11_ask_44 : decode cX11_ask 44 = .ok (.iconst 0, 1) := by decide +kernel
theorem dX11_ask_45 : decode cX11_ask 45 = .ok (.istore 7, 2) := by decide +kernel
theorem dX11_ask_47 : decode cX11_ask 47 = .ok (.iconst 0, 1) := by decide +kernel
theorem dX11_ask_48 : decode cX11_ask 48 = .ok (.istore 8, 2) := by decide +kernel
theorem dX11_ask_50 : decode cX11_ask 50 = .ok (.iload 8, 2) := by decide +kernel
theorem dX11_ask_52 : decode cX11_ask 52 = .ok (.bipush 60, 2) := by decide +kernel
theorem dX11_ask_54 : decode cX11_ask 54 = .ok (.if_icmp .gt 68, 3) := by decide +kernel
theorem dX11_ask_57 : decode cX11_ask 57 = .ok (.iload 7, 2) := by decide +kernel
theorem dX11_ask_59 : decode cX11_ask 59 = .ok (.aload_n 0, 1) := by decide +kernel
theorem dX11_ask_60 : decode cX11_ask 60 = .ok (.getfield 77, 3) := by decide +kernel
theorem dX11_ask_63 : decode cX11_ask 63 = .ok (.iload 6, 2) := by decide +kernel
theorem dX11_ask_65 : decode cX11_ask 65 = .ok (.baload, 1) := by decide +kernel
theorem dX11_ask_66 : decode cX11_ask 66 = .ok (.ifCond .eq 46, 3) := by decide +kernel
theorem dX11_ask_69 : decode cX11_ask 69 = .ok (.aload_n 0, 1) := by decide +kernel
theorem dX11_ask_70 : decode cX11_ask 70 = .ok (.getfield 77, 3) := by decide +kernel
theorem dX11_ask_73 : decode cX11_ask 73 = .ok (.iload 8, 2) := by decide +kernel
theorem dX11_ask_75 : decode cX11_ask 75 = .ok (.baload, 1) := by decide +kernel
theorem dX11_ask_76 : decode cX11_ask 76 = .ok (.ifCond .eq 36, 3) := by decide +kernel
theorem dX11_ask_79 : decode cX11_ask 79 = .ok (.aload_n 0, 1) := by decide +kernel
theorem dX11_ask_80 : decode cX11_ask 80 = .ok (.getfield 81, 3) := by decide +kernel
theorem dX11_ask_83 : decode cX11_ask 83 = .ok (.bipush 8, 2) := by decide +kernel
theorem dX11_ask_85 : decode cX11_ask 85 = .ok (.iload 6, 2) := by decide +kernel
theorem dX11_ask_87 : decode cX11_ask 87 = .ok (.imul, 1) := by decide +kernel
theorem dX11_ask_88 : decode cX11_ask 88 = .ok (.iload 4, 2) := by decide +kernel
theorem dX11_ask_90 : decode cX11_ask 90 = .ok (.iadd, 1) := by decide +kernel
theorem dX11_ask_91 : decode cX11_ask 91 = .ok (.iaload, 1) := by decide +kernel
theorem dX11_ask_92 : decode cX11_ask 92 = .ok (.aload_n 0, 1) := by decide +kernel
theorem dX11_ask_93 : decode cX11_ask 93 = .ok (.getfield 81, 3) := by decide +kernel
theorem dX11_ask_96 : decode cX11_ask 96 = .ok (.bipush 8, 2) := by decide +kernel
theorem dX11_ask_98 : decode cX11_ask 98 = .ok (.iload 8, 2) := by decide +kernel
theorem dX11_ask_100 : decode cX11_ask 100 = .ok (.imul, 1) := by decide +kernel
theorem dX11_ask_101 : decode cX11_ask 101 = .ok (.iload 4, 2) := by decide +kernel
theorem dX11_ask_103 : decode cX11_ask 103 = .ok (.iadd, 1) := by decide +kernel
theorem dX11_ask_104 : decode cX11_ask 104 = .ok (.iaload, 1) := by decide +kernel
theorem dX11_ask_105 : decode cX11_ask 105 = .ok (.if_icmp .ne 7, 3) := by decide +kernel
theorem dX11_ask_108 : decode cX11_ask 108 = .ok (.iconst 1, 1) := by decide +kernel
theorem dX11_ask_109 : decode cX11_ask 109 = .ok (.goto 4, 3) := by decide +kernel
theorem dX11_ask_112 : decode cX11_ask 112 = .ok (.iconst 0, 1) := by decide +kernel
theorem dX11_ask_113 : decode cX11_ask 113 = .ok (.iadd, 1) := by decide +kernel
theorem dX11_ask_114 : decode cX11_ask 114 = .ok (.istore 7, 2) := by decide +kernel
theorem dX11_ask_116 : decode cX11_ask 116 = .ok (.iinc 8 1, 3) := by decide +kernel
theorem dX11_ask_119 : decode cX11_ask 119 = .ok (.goto (-69), 3) := by decide +kernel
theorem dX11_ask_122 : decode cX11_ask 122 = .ok (.iload 7, 2) := by decide +kernel
theorem dX11_ask_124 : decode cX11_ask 124 = .ok (.iload 5, 2) := by decide +kernel
theorem dX11_ask_126 : decode cX11_ask 126 = .ok (.if_icmp .le 8, 3) := by decide +kernel
theorem dX11_ask_129 : decode cX11_ask 129 = .ok (.iload 7, 2) := by decide +kernel
theorem dX11_ask_131 : decode cX11_ask 131 = .ok (.goto 5, 3) := by decide +kernel
theorem dX11_ask_134 : decode cX11_ask 134 = .ok (.iload 5, 2) := by decide +kernel
theorem dX11_ask_136 : decode cX11_ask 136 = .ok (.istore 5, 2) := by decide +kernel
theorem dX11_ask_138 : decode cX11_ask 138 = .ok (.iinc 6 1, 3) := by decide +kernel
theorem dX11_ask_141 : decode cX11_ask 141 = .ok (.goto (-104), 3) := by decide +kernel
theorem dX11_ask_144 : decode cX11_ask 144 = .ok (.iload 5, 2) := by decide +kernel
theorem dX11_ask_146 : decode cX11_ask 146 = .ok (.iload_n 2, 1) := by decide +kernel
theorem dX11_ask_147 : decode cX11_ask 147 = .ok (.if_icmp .ge 8, 3) := by decide +kernel
theorem dX11_ask_150 : decode cX11_ask 150 = .ok (.iload 4, 2) := by decide +kernel
theorem dX11_ask_152 : decode cX11_ask 152 = .ok (.goto 4, 3) := by decide +kernel
theorem dX11_ask_155 : decode cX11_ask 155 = .ok (.iload_n 3, 1) := by decide +kernel
theorem dX11_ask_156 : decode cX11_ask 156 = .ok (.istore_n 3, 1) := by decide +kernel
theorem dX11_ask_157 : decode cX11_ask 157 = .ok (.iload 5, 2) := by decide +kernel
theorem dX11_ask_159 : decode cX11_ask 159 = .ok (.iload_n 2, 1) := by decide +kernel
theorem dX11_ask_160 : decode cX11_ask 160 = .ok (.if_icmp .ge 8, 3) := by decide +kernel
theorem dX11_ask_163 : decode cX11_ask 163 = .ok (.iload 5, 2) := by decide +kernel
theorem dX11_ask_165 : decode cX11_ask 165 = .ok (.goto 4, 3) := by decide +kernel
theorem dX11_ask_168 : decode cX11_ask 168 = .ok (.iload_n 2, 1) := by decide +kernel
theorem dX11_ask_169 : decode cX11_ask 169 = .ok (.istore_n 2, 1) := by decide +kernel
theorem dX11_ask_170 : decode cX11_ask 170 = .ok (.iinc 4 1, 3) := by decide +kernel
theorem dX11_ask_173 : decode cX11_ask 173 = .ok (.goto (-151), 3) := by decide +kernel
theorem dX11_ask_176 : decode cX11_ask 176 = .ok (.iload_n 3, 1) := by decide +kernel
theorem dX11_ask_177 : decode cX11_ask 177 = .ok (.ireturn, 1) := by decide +kernel
set_option maxRecDepth 100000 in
set_option maxHeartbeats 4000000 in
theorem mX11_ask {w : WX} {adr : Nat → Nat → Nat} (hj : Ij adr) (a1 : Int32) (S : St) : ∀ (l : Launch) (r : Int32) (S2 : St), fX11_ask a1 S = some (r, S2) → Mi l w adr yX11_ask cX11_ask 9 (some .int) 3 70 [.ref (adr 35 0), .int a1] S r S2 := by
  refine mi_of (lv := [(0, .ref (adr 35 0)), (1, .int a1)]) hj (plainFor_of_name (by decide +kernel)) rfl (Nat.le_of_ble_eq_true rfl) (fun k C Rr => ?_)
  have C : Cx w adr k cX11_ask RX11 9 3 70 := C
  refine ge_aload_n (n := 1) C 0 rfl dX11_ask_0 rfl rfl ?_
  refine ge_iload_n (n := 2) C 1 rfl dX11_ask_1 rfl rfl ?_
  refine ge_callVi (n := 5) C (mX11_isMan hj a1 S) gv_X11_210 (cl_35 (by decide)) rfl rfl hc_X11_isMan ⟨Nat.le_of_ble_eq_true rfl, Nat.le_of_ble_eq_true rfl⟩ rfl rfl (Nat.le_of_ble_eq_true rfl) dX11_ask_2 rfl (fun r_2 S_2 => ?_)
  refine ge_if_ne (t := 11) (n := 8) C dX11_ask_5 (by decide) rfl (fun h_5 => ?_) (fun h_5 => ?_)
  · refine ge_aload_n (n := 12) C 0 rfl dX11_ask_11 rfl rfl ?_
    refine ge_iload_n (n := 13) C 1 rfl dX11_ask_12 rfl rfl ?_
    refine ge_callVi (n := 16) C (mX11_laysStays hj a1 S_2) gv_X11_300 (cl_35 (by decide)) rfl rfl hc_X11_laysStays ⟨Nat.le_of_ble_eq_true rfl, Nat.le_of_ble_eq_true rfl⟩ rfl rfl (Nat.le_of_ble_eq_true rfl) dX11_ask_13 rfl (fun r_13 S_13 => ?_)
    refine ge_istore_n (n := 17) (lv2 := [(2, .int r_13), (0, .ref (adr 35 0)), (1, .int a1)]) C dX11_ask_16 rfl rfl (by decide) rfl ?_
    refine ge_iconst (v := -1) (n := 18) C dX11_ask_17 (by decide) rfl ?_
    refine ge_istore_n (n := 19) (lv2 := [(3, .int (-1 : Int32)), (2, .int r_13), (0, .ref (adr 35 0)), (1, .int a1)]) C dX11_ask_18 rfl rfl (by decide) rfl ?_
    refine ge_iconst (v := 0) (n := 20) C dX11_ask_19 (by decide) rfl ?_
    refine ge_istore (n := 22) (lv2 := [(4, .int (0 : Int32)), (3, .int (-1 : Int32)), (2, .int r_13), (0, .ref (adr 35 0)), (1, .int a1)]) C dX11_ask_20 rfl (by decide) rfl ?_
    refine ge_jn (fun (jj : Int32 → Op) => ∀ (x3_176 : Int32), Ge w adr k 176 [(3, .int x3_176)] [] S_13 (jj x3_176)) (fun x3_176 => ?_) (fun kk22 hkk22 => ?_)
    · refine ge_iload_n (n := 177) C 0 rfl dX11_ask_176 rfl rfl ?_
      exact ge_iret C Rr dX11_ask_177
    refine ge_sub [0, 1, 2, 3] rfl ?_
    refine ge_lop (fun (jj : Int32 → Int32 → Int32 → Op) => ∀ (x4_22 : Int32) (x3_22 : Int32) (x2_22 : Int32), Ge w adr k 22 [(4, .int x4_22), (3, .int x3_22), (2, .int x2_22), (0, .ref (adr 35 0))] [] S_13 (jj x4_22 x3_22 x2_22)) (fun _ _ _ => ge_none) (fun ag22 hag22 x4_22 x3_22 x2_22 => ?_) FU (0 : Int32) (-1 : Int32) r_13
    refine ge_iload (n := 24) C 0 rfl dX11_ask_22 rfl ?_
    refine ge_aload_n (n := 25) C 3 rfl dX11_ask_24 rfl rfl ?_
    refine gt_X11_100 (n := 28) C (by decide) dX11_ask_25 rfl ?_
    refine ge_icmp_ge (t := 176) (n := 31) C dX11_ask_28 (by decide) rfl (fun h_28 => ?_) (fun h_28 => ?_)
    · refine ge_sub [1] rfl ?_
      exact hkk22 x3_22
    · refine ge_iconst (v := 0) (n := 32) C dX11_ask_31 (by decide) rfl ?_
      refine ge_istore (n := 34) (lv2 := [(5, .int (0 : Int32)), (4, .int x4_22), (3, .int x3_22), (2, .int x2_22), (0, .ref (adr 35 0))]) C dX11_ask_32 rfl (by decide) rfl ?_
      refine ge_iconst (v := 0) (n := 35) C dX11_ask_34 (by decide) rfl ?_
      refine ge_istore (n := 37) (lv2 := [(6, .int (0 : Int32)), (5, .int (0 : Int32)), (4, .int x4_22), (3, .int x3_22), (2, .int x2_22), (0, .ref (adr 35 0))]) C dX11_ask_35 rfl (by decide) rfl ?_
      refine ge_jn (fun (jj : Int32 → Op) => ∀ (x5_144 : Int32), Ge w adr k 144 [(5, .int x5_144), (4, .int x4_22), (3, .int x3_22), (2, .int x2_22), (0, .ref (adr 35 0))] [] S_13 (jj x5_144)) (fun x5_144 => ?_) (fun kk37 hkk37 => ?_)
      · refine ge_iload (n := 146) C 0 rfl dX11_ask_144 rfl ?_
        refine ge_iload_n (n := 147) C 3 rfl dX11_ask_146 rfl rfl ?_
        refine ge_jn (fun (jj : Int32 → Op) => ∀ (v0_156 : Int32), Ge w adr k 156 [(5, .int x5_144), (4, .int x4_22), (2, .int x2_22), (0, .ref (adr 35 0))] [.int v0_156] S_13 (jj v0_156)) (fun v0_156 => ?_) (fun j156 hj156 => ?_)
        · refine ge_istore_n (n := 157) (lv2 := [(3, .int v0_156), (5, .int x5_144), (4, .int x4_22), (2, .int x2_22), (0, .ref (adr 35 0))]) C dX11_ask_156 rfl rfl (by decide) rfl ?_
          refine ge_iload (n := 159) C 1 rfl dX11_ask_157 rfl ?_
          refine ge_iload_n (n := 160) C 3 rfl dX11_ask_159 rfl rfl ?_
          refine ge_icmp_ge (t := 168) (n := 163) C dX11_ask_160 (by decide) rfl (fun h_160 => ?_) (fun h_160 => ?_)
          · refine ge_iload_n (n := 169) C 3 rfl dX11_ask_168 rfl rfl ?_
            refine ge_istore_n (n := 170) (lv2 := [(2, .int x2_22), (3, .int v0_156), (5, .int x5_144), (4, .int x4_22), (0, .ref (adr 35 0))]) C dX11_ask_169 rfl rfl (by decide) rfl ?_
            refine ge_iinc (n := 173) (v := (x4_22 + (1 : Int32))) (lv2 := [(4, .int (x4_22 + (1 : Int32))), (2, .int x2_22), (3, .int v0_156), (5, .int x5_144), (0, .ref (adr 35 0))]) C 3 rfl dX11_ask_170 rfl rfl (by decide) rfl ?_
            refine ge_goto (n := 22) C dX11_ask_173 (by decide) ?_
            refine ge_sub [0, 2, 1, 4] rfl ?_
            exact hag22 (x4_22 + (1 : Int32)) v0_156 x2_22
          · refine ge_iload (n := 165) C 1 rfl dX11_ask_163 rfl ?_
            refine ge_goto (n := 169) C dX11_ask_165 (by decide) ?_
            refine ge_istore_n (n := 170) (lv2 := [(2, .int x5_144), (3, .int v0_156), (5, .int x5_144), (4, .int x4_22), (0, .ref (adr 35 0))]) C dX11_ask_169 rfl rfl (by decide) rfl ?_
            refine ge_iinc (n := 173) (v := (x4_22 + (1 : Int32))) (lv2 := [(4, .int (x4_22 + (1 : Int32))), (2, .int x5_144), (3, .int v0_156), (5, .int x5_144), (0, .ref (adr 35 0))]) C 3 rfl dX11_ask_170 rfl rfl (by decide) rfl ?_
            refine ge_goto (n := 22) C dX11_ask_173 (by decide) ?_
            refine ge_sub [0, 2, 1, 4] rfl ?_
            exact hag22 (x4_22 + (1 : Int32)) v0_156 x5_144
        refine ge_icmp_ge (t := 155) (n := 150) C dX11_ask_147 (by decide) rfl (fun h_147 => ?_) (fun h_147 => ?_)
        · refine ge_iload_n (n := 156) C 2 rfl dX11_ask_155 rfl rfl ?_
          refine ge_sub [0, 1, 3, 4] rfl ?_
          exact hj156 x3_22
        · refine ge_iload (n := 152) C 1 rfl dX11_ask_150 rfl ?_
          refine ge_goto (n := 156) C dX11_ask_152 (by decide) ?_
          refine ge_sub [0, 1, 3, 4] rfl ?_
          exact hj156 x4_22
      refine ge_lop (fun (jj : Int32 → Int32 → Op) => ∀ (x6_37 : Int32) (x5_37 : Int32), Ge w adr k 37 [(6, .int x6_37), (5, .int x5_37), (4, .int x4_22), (3, .int x3_22), (2, .int x2_22), (0, .ref (adr 35 0))] [] S_13 (jj x6_37 x5_37)) (fun _ _ => ge_none) (fun ag37 hag37 x6_37 x5_37 => ?_) FU (0 : Int32) (0 : Int32)
      refine ge_iload (n := 39) C 0 rfl dX11_ask_37 rfl ?_
      refine ge_bipush (v := 60) (n := 41) C dX11_ask_39 (by decide) rfl ?_
      refine ge_icmp_gt (t := 144) (n := 44) C dX11_ask_41 (by decide) rfl (fun h_41 => ?_) (fun h_41 => ?_)
      · refine ge_sub [1, 2, 3, 4, 5] rfl ?_
        exact hkk37 x5_37
      · refine ge_iconst (v := 0) (n := 45) C dX11_ask_44 (by decide) rfl ?_
        refine ge_istore (n := 47) (lv2 := [(7, .int (0 : Int32)), (6, .int x6_37), (5, .int x5_37), (4, .int x4_22), (3, .int x3_22), (2, .int x2_22), (0, .ref (adr 35 0))]) C dX11_ask_45 rfl (by decide) rfl ?_
        refine ge_iconst (v := 0) (n := 48) C dX11_ask_47 (by decide) rfl ?_
        refine ge_istore (n := 50) (lv2 := [(8, .int (0 : Int32)), (7, .int (0 : Int32)), (6, .int x6_37), (5, .int x5_37), (4, .int x4_22), (3, .int x3_22), (2, .int x2_22), (0, .ref (adr 35 0))]) C dX11_ask_48 rfl (by decide) rfl ?_
        refine ge_jn (fun (jj : Int32 → Op) => ∀ (x7_122 : Int32), Ge w adr k 122 [(7, .int x7_122), (6, .int x6_37), (5, .int x5_37), (4, .int x4_22), (3, .int x3_22), (2, .int x2_22), (0, .ref (adr 35 0))] [] S_13 (jj x7_122)) (fun x7_122 => ?_) (fun kk50 hkk50 => ?_)
        · refine ge_iload (n := 124) C 0 rfl dX11_ask_122 rfl ?_
          refine ge_iload (n := 126) C 2 rfl dX11_ask_124 rfl ?_
          refine ge_icmp_le (t := 134) (n := 129) C dX11_ask_126 (by decide) rfl (fun h_126 => ?_) (fun h_126 => ?_)
          · refine ge_iload (n := 136) C 2 rfl dX11_ask_134 rfl ?_
            refine ge_istore (n := 138) (lv2 := [(5, .int x5_37), (7, .int x7_122), (6, .int x6_37), (4, .int x4_22), (3, .int x3_22), (2, .int x2_22), (0, .ref (adr 35 0))]) C dX11_ask_136 rfl (by decide) rfl ?_
            refine ge_iinc (n := 141) (v := (x6_37 + (1 : Int32))) (lv2 := [(6, .int (x6_37 + (1 : Int32))), (5, .int x5_37), (7, .int x7_122), (4, .int x4_22), (3, .int x3_22), (2, .int x2_22), (0, .ref (adr 35 0))]) C 2 rfl dX11_ask_138 rfl rfl (by decide) rfl ?_
            refine ge_goto (n := 37) C dX11_ask_141 (by decide) ?_
            refine ge_sub [0, 1, 3, 4, 5, 6] rfl ?_
            exact hag37 (x6_37 + (1 : Int32)) x5_37
          · refine ge_iload (n := 131) C 0 rfl dX11_ask_129 rfl ?_
            refine ge_goto (n := 136) C dX11_ask_131 (by decide) ?_
            refine ge_istore (n := 138) (lv2 := [(5, .int x7_122), (7, .int x7_122), (6, .int x6_37), (4, .int x4_22), (3, .int x3_22), (2, .int x2_22), (0, .ref (adr 35 0))]) C dX11_ask_136 rfl (by decide) rfl ?_
            refine ge_iinc (n := 141) (v := (x6_37 + (1 : Int32))) (lv2 := [(6, .int (x6_37 + (1 : Int32))), (5, .int x7_122), (7, .int x7_122), (4, .int x4_22), (3, .int x3_22), (2, .int x2_22), (0, .ref (adr 35 0))]) C 2 rfl dX11_ask_138 rfl rfl (by decide) rfl ?_
            refine ge_goto (n := 37) C dX11_ask_141 (by decide) ?_
            refine ge_sub [0, 1, 3, 4, 5, 6] rfl ?_
            exact hag37 (x6_37 + (1 : Int32)) x7_122
        refine ge_lop (fun (jj : Int32 → Int32 → Op) => ∀ (x8_50 : Int32) (x7_50 : Int32), Ge w adr k 50 [(8, .int x8_50), (7, .int x7_50), (6, .int x6_37), (5, .int x5_37), (4, .int x4_22), (3, .int x3_22), (2, .int x2_22), (0, .ref (adr 35 0))] [] S_13 (jj x8_50 x7_50)) (fun _ _ => ge_none) (fun ag50 hag50 x8_50 x7_50 => ?_) FU (0 : Int32) (0 : Int32)
        refine ge_iload (n := 52) C 0 rfl dX11_ask_50 rfl ?_
        refine ge_bipush (v := 60) (n := 54) C dX11_ask_52 (by decide) rfl ?_
        refine ge_icmp_gt (t := 122) (n := 57) C dX11_ask_54 (by decide) rfl (fun h_54 => ?_) (fun h_54 => ?_)
        · refine ge_sub [1, 2, 3, 4, 5, 6, 7] rfl ?_
          exact hkk50 x7_50
        · refine ge_iload (n := 59) C 1 rfl dX11_ask_57 rfl ?_
          refine ge_aload_n (n := 60) C 7 rfl dX11_ask_59 rfl rfl ?_
          refine gt_X11_77 (n := 63) C (by decide) dX11_ask_60 rfl ?_
          refine ge_iload (n := 65) C 2 rfl dX11_ask_63 rfl ?_
          refine al_57 (n := 66) C (by decide) dX11_ask_65 rfl ?_
          refine ge_if_eq (t := 112) (n := 69) C dX11_ask_66 (by decide) rfl (fun h_66 => ?_) (fun h_66 => ?_)
          · refine ge_iconst (v := 0) (n := 113) C dX11_ask_112 (by decide) rfl ?_
            refine ge_iadd (n := 114) C dX11_ask_113 rfl ?_
            refine ge_bi (fun x7_114 => ?_)
            refine ge_istore (n := 116) (lv2 := [(7, .int x7_114), (8, .int x8_50), (6, .int x6_37), (5, .int x5_37), (4, .int x4_22), (3, .int x3_22), (2, .int x2_22), (0, .ref (adr 35 0))]) C dX11_ask_114 rfl (by decide) rfl ?_
            refine ge_iinc (n := 119) (v := (x8_50 + (1 : Int32))) (lv2 := [(8, .int (x8_50 + (1 : Int32))), (7, .int x7_114), (6, .int x6_37), (5, .int x5_37), (4, .int x4_22), (3, .int x3_22), (2, .int x2_22), (0, .ref (adr 35 0))]) C 1 rfl dX11_ask_116 rfl rfl (by decide) rfl ?_
            refine ge_goto (n := 50) C dX11_ask_119 (by decide) ?_
            exact hag50 (x8_50 + (1 : Int32)) x7_114
          · refine ge_aload_n (n := 70) C 7 rfl dX11_ask_69 rfl rfl ?_
            refine gt_X11_77 (n := 73) C (by decide) dX11_ask_70 rfl ?_
            refine ge_iload (n := 75) C 0 rfl dX11_ask_73 rfl ?_
            refine al_57 (n := 76) C (by decide) dX11_ask_75 rfl ?_
            refine ge_if_eq (t := 112) (n := 79) C dX11_ask_76 (by decide) rfl (fun h_76 => ?_) (fun h_76 => ?_)
            · refine ge_iconst (v := 0) (n := 113) C dX11_ask_112 (by decide) rfl ?_
              refine ge_iadd (n := 114) C dX11_ask_113 rfl ?_
              refine ge_bi (fun x7_114 => ?_)
              refine ge_istore (n := 116) (lv2 := [(7, .int x7_114), (8, .int x8_50), (6, .int x6_37), (5, .int x5_37), (4, .int x4_22), (3, .int x3_22), (2, .int x2_22), (0, .ref (adr 35 0))]) C dX11_ask_114 rfl (by decide) rfl ?_
              refine ge_iinc (n := 119) (v := (x8_50 + (1 : Int32))) (lv2 := [(8, .int (x8_50 + (1 : Int32))), (7, .int x7_114), (6, .int x6_37), (5, .int x5_37), (4, .int x4_22), (3, .int x3_22), (2, .int x2_22), (0, .ref (adr 35 0))]) C 1 rfl dX11_ask_116 rfl rfl (by decide) rfl ?_
              refine ge_goto (n := 50) C dX11_ask_119 (by decide) ?_
              exact hag50 (x8_50 + (1 : Int32)) x7_114
            · refine ge_aload_n (n := 80) C 7 rfl dX11_ask_79 rfl rfl ?_
              refine gt_X11_81 (n := 83) C (by decide) dX11_ask_80 rfl ?_
              refine ge_bipush (v := 8) (n := 85) C dX11_ask_83 (by decide) rfl ?_
              refine ge_iload (n := 87) C 2 rfl dX11_ask_85 rfl ?_
              refine ge_imul (n := 88) C dX11_ask_87 rfl ?_
              refine ge_iload (n := 90) C 4 rfl dX11_ask_88 rfl ?_
              refine ge_iadd (n := 91) C dX11_ask_90 rfl ?_
              refine al_58 (n := 92) C (by decide) dX11_ask_91 rfl ?_
              refine ge_aload_n (n := 93) C 7 rfl dX11_ask_92 rfl rfl ?_
              refine gt_X11_81 (n := 96) C (by decide) dX11_ask_93 rfl ?_
              refine ge_bipush (v := 8) (n := 98) C dX11_ask_96 (by decide) rfl ?_
              refine ge_iload (n := 100) C 0 rfl dX11_ask_98 rfl ?_
              refine ge_imul (n := 101) C dX11_ask_100 rfl ?_
              refine ge_iload (n := 103) C 4 rfl dX11_ask_101 rfl ?_
              refine ge_iadd (n := 104) C dX11_ask_103 rfl ?_
              refine al_58 (n := 105) C (by decide) dX11_ask_104 rfl ?_
              refine ge_icmp_ne (t := 112) (n := 108) C dX11_ask_105 (by decide) rfl (fun h_105 => ?_) (fun h_105 => ?_)
              · refine ge_iconst (v := 0) (n := 113) C dX11_ask_112 (by decide) rfl ?_
                refine ge_iadd (n := 114) C dX11_ask_113 rfl ?_
                refine ge_bi (fun x7_114 => ?_)
                refine ge_istore (n := 116) (lv2 := [(7, .int x7_114), (8, .int x8_50), (6, .int x6_37), (5, .int x5_37), (4, .int x4_22), (3, .int x3_22), (2, .int x2_22), (0, .ref (adr 35 0))]) C dX11_ask_114 rfl (by decide) rfl ?_
                refine ge_iinc (n := 119) (v := (x8_50 + (1 : Int32))) (lv2 := [(8, .int (x8_50 + (1 : Int32))), (7, .int x7_114), (6, .int x6_37), (5, .int x5_37), (4, .int x4_22), (3, .int x3_22), (2, .int x2_22), (0, .ref (adr 35 0))]) C 1 rfl dX11_ask_116 rfl rfl (by decide) rfl ?_
                refine ge_goto (n := 50) C dX11_ask_119 (by decide) ?_
                exact hag50 (x8_50 + (1 : Int32)) x7_114
              · refine ge_iconst (v := 1) (n := 109) C dX11_ask_108 (by decide) rfl ?_
                refine ge_goto (n := 113) C dX11_ask_109 (by decide) ?_
                refine ge_iadd (n := 114) C dX11_ask_113 rfl ?_
                refine ge_bi (fun x7_114 => ?_)
                refine ge_istore (n := 116) (lv2 := [(7, .int x7_114), (8, .int x8_50), (6, .int x6_37), (5, .int x5_37), (4, .int x4_22), (3, .int x3_22), (2, .int x2_22), (0, .ref (adr 35 0))]) C dX11_ask_114 rfl (by decide) rfl ?_
                refine ge_iinc (n := 119) (v := (x8_50 + (1 : Int32))) (lv2 := [(8, .int (x8_50 + (1 : Int32))), (7, .int x7_114), (6, .int x6_37), (5, .int x5_37), (4, .int x4_22), (3, .int x3_22), (2, .int x2_22), (0, .ref (adr 35 0))]) C 1 rfl dX11_ask_116 rfl rfl (by decide) rfl ?_
                refine ge_goto (n := 50) C dX11_ask_119 (by decide) ?_
                exact hag50 (x8_50 + (1 : Int32)) x7_114
  · refine ge_ldc (n := 10) C kc_X11_213 dX11_ask_8 rfl ?_
    exact ge_iret C Rr dX11_ask_10
theorem dX11_write_0 : decode cX11_write 0 = .ok (.aload_n 0, 1) := by decide +kernel
theorem dX11_write_1 : decode cX11_write 1 = .ok (.iload_n 1, 1) := by decide +kernel
theorem dX11_write_2 : decode cX11_write 2 = .ok (.invokevirtual 210, 3) := by decide +kernel
theorem dX11_write_5 : decode cX11_write 5 = .ok (.ifCond .ne 6, 3) := by decide +kernel
theorem dX11_write_8 : decode cX11_write 8 = .ok (.ldc 213, 2) := by decide +kernel
theorem dX11_write_10 : decode cX11_write 10 = .ok (.ireturn, 1) := by decide +kernel
theorem dX11_write_11 : decode cX11_write 11 = .ok (.iload_n 2, 1) := by decide +kernel
theorem dX11_write_12 : decode cX11_write 12 = .ok (.i2l, 1) := by decide +kernel
theorem dX11_write_13 : decode cX11_write 13 = .ok (.lconst 0, 1) := by decide +kernel
theorem dX11_write_14 : decode cX11_write 14 = .ok (.ldc2_w 303, 3) := by decide +kernel
theorem dX11_write_17 : decode cX11_write 17 = .ok (.invokestatic 96, 3) := by decide +kernel
theorem dX11_write_20 : decode cX11_write 20 = .ok (.ifCond .ne 6, 3) := by decide +kernel
theorem dX11_write_23 : decode cX11_write 23 = .ok (.ldc 107, 2) := by decide +kernel
theorem dX11_write_25 : decode cX11_write 25 = .ok (.ireturn, 1) := by decide +kernel
theorem dX11_write_26 : decode cX11_write 26 = .ok (.aload_n 0, 1) := by decide +kernel
theorem dX11_write_27 : decode cX11_write 27 = .ok (.getfield 177, 3) := by decide +kernel
theorem dX11_write_30 : decode cX11_write 30 = .ok (.bipush 15, 2) := by decide +kernel
theorem dX11_write_32 : decode cX11_write 32 = .ok (.if_icmp .ne 6, 3) := by decide +kernel
theorem dX11_write_35 : decode cX11_write 35 = .ok (.ldc 111, 2) := by decide +kernel
theorem dX11_write_37 : decode cX11_write 37 = .ok (.ireturn, 1) := by decide +kernel
theorem dX11_write_38 : decode cX11_write 38 = .ok (.aload_n 0, 1) := by decide +kernel
theorem dX11_write_39 : decode cX11_write 39 = .ok (.getfield 34, 3) := by decide +kernel
theorem dX11_write_42 : decode cX11_write 42 = .ok (.aload_n 0, 1) := by decide +kernel
theorem dX11_write_43 : decode cX11_write 43 = .ok (.getfield 177, 3) := by decide +kernel
theorem dX11_write_46 : decode cX11_write 46 = .ok (.iload_n 1, 1) := by decide +kernel
theorem dX11_write_47 : decode cX11_write 47 = .ok (.iastore, 1) := by decide +kernel
theorem dX11_write_48 : decode cX11_write 48 = .ok (.aload_n 0, 1) := by decide +kernel
theorem dX11_write_49 : decode cX11_write 49 = .ok (.getfield 37, 3) := by decide +kernel
theorem dX11_write_52 : decode cX11_write 52 = .ok (.aload_n 0, 1) := by decide +kernel
theorem dX11_write_53 : decode cX11_write 53 = .ok (.getfield 177, 3) := by decide +kernel
theorem dX11_write_56 : decode cX11_write 56 = .ok (.iload_n 2, 1) := by decide +kernel
theorem dX11_write_57 : decode cX11_write 57 = .ok (.iastore, 1) := by decide +kernel
theorem dX11_write_58 : decode cX11_write 58 = .ok (.aload_n 0, 1) := by decide +kernel
theorem dX11_write_59 : decode cX11_write 59 = .ok (.dup, 1) := by decide +kernel
theorem dX11_write_60 : decode cX11_write 60 = .ok (.getfield 177, 3) := by decide +kernel
theorem dX11_write_63 : decode cX11_write 63 = .ok (.iconst 1, 1) := by decide +kernel
theorem dX11_write_64 : decode cX11_write 64 = .ok (.iadd, 1) := by decide +kernel
theorem dX11_write_65 : decode cX11_write 65 = .ok (.putfield 177, 3) := by decide +kernel
theorem dX11_write_68 : decode cX11_write 68 = .ok (.aload_n 0, 1) := by decide +kernel
theorem dX11_write_69 : decode cX11_write 69 = .ok (.getfield 177, 3) := by decide +kernel
theorem dX11_write_72 : decode cX11_write 72 = .ok (.ireturn, 1) := by decide +kernel
set_option maxRecDepth 100000 in
set_option maxHeartbeats 4000000 in
theorem mX11_write {w : WX} {adr : Nat → Nat → Nat} (hj : Ij adr) (a1 : Int32) (a2 : Int32) (S : St) : ∀ (l : Launch) (r : Int32) (S2 : St), fX11_write a1 a2 S = some (r, S2) → Mi l w adr yX11_write cX11_write 3 (some .int) 2 46 [.ref (adr 35 0), .int a1, .int a2] S r S2 := by
  refine mi_of (lv := [(0, .ref (adr 35 0)), (1, .int a1), (2, .int a2)]) hj (plainFor_of_name (by decide +kernel)) rfl (Nat.le_of_ble_eq_true rfl) (fun k C Rr => ?_)
  have C : Cx w adr k cX11_write RX11 3 2 46 := C
  refine ge_aload_n (n := 1) C 0 rfl dX11_write_0 rfl rfl ?_
  refine ge_iload_n (n := 2) C 1 rfl dX11_write_1 rfl rfl ?_
  refine ge_callVi (n := 5) C (mX11_isMan hj a1 S) gv_X11_210 (cl_35 (by decide)) rfl rfl hc_X11_isMan ⟨Nat.le_of_ble_eq_true rfl, Nat.le_of_ble_eq_true rfl⟩ rfl rfl (Nat.le_of_ble_eq_true rfl) dX11_write_2 rfl (fun r_2 S_2 => ?_)
  refine ge_if_ne (t := 11) (n := 8) C dX11_write_5 (by decide) rfl (fun h_5 => ?_) (fun h_5 => ?_)
  · refine ge_iload_n (n := 12) C 2 rfl dX11_write_11 rfl rfl ?_
    refine ge_i2l (n := 13) C dX11_write_12 rfl ?_
    refine ge_lconst (v := 0) (n := 14) C dX11_write_13 (by decide) rfl ?_
    refine ge_ldc2 (n := 17) C kl_X11_303 dX11_write_14 rfl ?_
    refine ge_callSi (n := 20) C (mX11_within hj (Int32.toInt64 a2) (0 : Int64) (99999 : Int64) S_2) gv_X11_96 hc_X11_within ⟨Nat.le_of_ble_eq_true rfl, Nat.le_of_ble_eq_true rfl⟩ rfl rfl (Nat.le_of_ble_eq_true rfl) dX11_write_17 rfl (fun r_17 S_17 => ?_)
    refine ge_if_ne (t := 26) (n := 23) C dX11_write_20 (by decide) rfl (fun h_20 => ?_) (fun h_20 => ?_)
    · refine ge_aload_n (n := 27) C 0 rfl dX11_write_26 rfl rfl ?_
      refine gt_X11_177 (n := 30) C (by decide) dX11_write_27 rfl ?_
      refine ge_bipush (v := 15) (n := 32) C dX11_write_30 (by decide) rfl ?_
      refine ge_icmp_ne (t := 38) (n := 35) C dX11_write_32 (by decide) rfl (fun h_32 => ?_) (fun h_32 => ?_)
      · refine ge_aload_n (n := 39) C 0 rfl dX11_write_38 rfl rfl ?_
        refine gt_X11_34 (n := 42) C (by decide) dX11_write_39 rfl ?_
        refine ge_aload_n (n := 43) C 0 rfl dX11_write_42 rfl rfl ?_
        refine gt_X11_177 (n := 46) C (by decide) dX11_write_43 rfl ?_
        refine ge_iload_n (n := 47) C 1 rfl dX11_write_46 rfl rfl ?_
        refine as_44 (n := 48) C (by decide) dX11_write_47 rfl (fun S_47 => ?_)
        refine ge_aload_n (n := 49) C 0 rfl dX11_write_48 rfl rfl ?_
        refine gt_X11_37 (n := 52) C (by decide) dX11_write_49 rfl ?_
        refine ge_aload_n (n := 53) C 0 rfl dX11_write_52 rfl rfl ?_
        refine gt_X11_177 (n := 56) C (by decide) dX11_write_53 rfl ?_
        refine ge_iload_n (n := 57) C 2 rfl dX11_write_56 rfl rfl ?_
        refine as_45 (n := 58) C (by decide) dX11_write_57 rfl (fun S_57 => ?_)
        refine ge_aload_n (n := 59) C 0 rfl dX11_write_58 rfl rfl ?_
        refine ge_dup (n := 60) C dX11_write_59 rfl rfl ?_
        refine gt_X11_177 (n := 63) C (by decide) dX11_write_60 rfl ?_
        refine ge_iconst (v := 1) (n := 64) C dX11_write_63 (by decide) rfl ?_
        refine ge_iadd (n := 65) C dX11_write_64 rfl ?_
        refine pt_X11_177 (n := 68) C (by decide) dX11_write_65 rfl (fun S_65 => ?_)
        refine ge_aload_n (n := 69) C 0 rfl dX11_write_68 rfl rfl ?_
        refine gt_X11_177 (n := 72) C (by decide) dX11_write_69 rfl ?_
        exact ge_iret C Rr dX11_write_72
      · refine ge_ldc (n := 37) C kc_X11_111 dX11_write_35 rfl ?_
        exact ge_iret C Rr dX11_write_37
    · refine ge_ldc (n := 25) C kc_X11_107 dX11_write_23 rfl ?_
      exact ge_iret C Rr dX11_write_25
  · refine ge_ldc (n := 10) C kc_X11_213 dX11_write_8 rfl ?_
    exact ge_iret C Rr dX11_write_10
theorem dX11_tear_0 : decode cX11_tear 0 = .ok (.aload_n 0, 1) := by decide +kernel
theorem dX11_tear_1 : decode cX11_tear 1 = .ok (.getfield 174, 3) := by decide +kernel
theorem dX11_tear_4 : decode cX11_tear 4 = .ok (.aload_n 0, 1) := by decide +kernel
theorem dX11_tear_5 : decode cX11_tear 5 = .ok (.getfield 177, 3) := by decide +kernel
theorem dX11_tear_8 : decode cX11_tear 8 = .ok (.iadd, 1) := by decide +kernel
theorem dX11_tear_9 : decode cX11_tear 9 = .ok (.istore_n 1, 1) := by decide +kernel
theorem dX11_tear_10 : decode cX11_tear 10 = .ok (.aload_n 0, 1) := by decide +kernel
theorem dX11_tear_11 : decode cX11_tear 11 = .ok (.iconst 0, 1) := by decide +kernel
theorem dX11_tear_12 : decode cX11_tear 12 = .ok (.putfield 174, 3) := by decide +kernel
theorem dX11_tear_15 : decode cX11_tear 15 = .ok (.aload_n 0, 1) := by decide +kernel
theorem dX11_tear_16 : decode cX11_tear 16 = .ok (.iconst 0, 1) := by decide +kernel
theorem dX11_tear_17 : decode cX11_tear 17 = .ok (.putfield 177, 3) := by decide +kernel
theorem dX11_tear_20 : decode cX11_tear 20 = .ok (.iload_n 1, 1) := by decide +kernel
theorem dX11_tear_21 : decode cX11_tear 21 = .ok (.ireturn, 1) := by decide +kernel
set_option maxRecDepth 100000 in
set_option maxHeartbeats 4000000 in
theorem mX11_tear {w : WX} {adr : Nat → Nat → Nat} (hj : Ij adr)  (S : St) : ∀ (l : Launch) (r : Int32) (S2 : St), fX11_tear S = some (r, S2) → Mi l w adr yX11_tear cX11_tear 2 (some .int) 0 0 [.ref (adr 35 0)] S r S2 := by
  refine mi_of (lv := [(0, .ref (adr 35 0))]) hj (plainFor_of_name (by decide +kernel)) rfl (Nat.le_of_ble_eq_true rfl) (fun k C Rr => ?_)
  have C : Cx w adr k cX11_tear RX11 2 0 0 := C
  refine ge_aload_n (n := 1) C 0 rfl dX11_tear_0 rfl rfl ?_
  refine gt_X11_174 (n := 4) C (by decide) dX11_tear_1 rfl ?_
  refine ge_aload_n (n := 5) C 0 rfl dX11_tear_4 rfl rfl ?_
  refine gt_X11_177 (n := 8) C (by decide) dX11_tear_5 rfl ?_
  refine ge_iadd (n := 9) C dX11_tear_8 rfl ?_
  refine ge_bi (fun x1_9 => ?_)
  refine ge_istore_n (n := 10) (lv2 := [(1, .int x1_9), (0, .ref (adr 35 0))]) C dX11_tear_9 rfl rfl (by decide) rfl ?_
  refine ge_aload_n (n := 11) C 1 rfl dX11_tear_10 rfl rfl ?_
  refine ge_iconst (v := 0) (n := 12) C dX11_tear_11 (by decide) rfl ?_
  refine pt_X11_174 (n := 15) C (by decide) dX11_tear_12 rfl (fun S_12 => ?_)
  refine ge_aload_n (n := 16) C 1 rfl dX11_tear_15 rfl rfl ?_
  refine ge_iconst (v := 0) (n := 17) C dX11_tear_16 (by decide) rfl ?_
  refine pt_X11_177 (n := 20) C (by decide) dX11_tear_17 rfl (fun S_17 => ?_)
  refine ge_iload_n (n := 21) C 0 rfl dX11_tear_20 rfl rfl ?_
  exact ge_iret C Rr dX11_tear_21
theorem dX11_judge_0 : decode cX11_judge 0 = .ok (.iconst 0, 1) := by decide +kernel
theorem dX11_judge_1 : decode cX11_judge 1 = .ok (.istore_n 1, 1) := by decide +kernel
theorem dX11_judge_2 : decode cX11_judge 2 = .ok (.iload_n 1, 1) := by decide +kernel
theorem dX11_judge_3 : decode cX11_judge 3 = .ok (.aload_n 0, 1) := by decide +kernel
theorem dX11_judge_4 : decode cX11_judge 4 = .ok (.getfield 177, 3) := by decide +kernel
theorem dX11_judge_7 : decode cX11_judge 7 = .ok (.if_icmp .ge 34, 3) := by decide +kernel
theorem dX11_judge_10 : decode cX11_judge 10 = .ok (.aload_n 0, 1) := by decide +kernel
theorem dX11_judge_11 : decode cX11_judge 11 = .ok (.getfield 22, 3) := by decide +kernel
theorem dX11_judge_14 : decode cX11_judge 14 = .ok (.bipush 64, 2) := by decide +kernel
theorem dX11_judge_16 : decode cX11_judge 16 = .ok (.aload_n 0, 1) := by decide +kernel
theorem dX11_judge_17 : decode cX11_judge 17 = .ok (.getfield 34, 3) := by decide +kernel
theorem dX11_judge_20 : decode cX11_judge 20 = .ok (.iload_n 1, 1) := by decide +kernel
theorem dX11_judge_21 : decode cX11_judge 21 = .ok (.iaload, 1) := by decide +kernel
theorem dX11_judge_22 : decode cX11_judge 22 = .ok (.iadd, 1) := by decide +kernel
theorem dX11_judge_23 : decode cX11_judge 23 = .ok (.iaload, 1) := by decide +kernel
theorem dX11_judge_24 : decode cX11_judge 24 = .ok (.aload_n 0, 1) := by decide +kernel
theorem dX11_judge_25 : decode cX11_judge 25 = .ok (.getfield 37, 3) := by decide +kernel
theorem dX11_judge_28 : decode cX11_judge 28 = .ok (.iload_n 1, 1) := by decide +kernel
theorem dX11_judge_29 : decode cX11_judge 29 = .ok (.iaload, 1) := by decide +kernel
theorem dX11_judge_30 : decode cX11_judge 30 = .ok (.if_icmp .eq 5, 3) := by decide +kernel
theorem dX11_judge_33 : decode cX11_judge 33 = .ok (.iload_n 1, 1) := by decide +kernel
theorem dX11_judge_34 : decode cX11_judge 34 = .ok (.ireturn, 1) := by decide +kernel
theorem dX11_judge_35 : decode cX11_judge 35 = .ok (.iinc 1 1, 3) := by decide +kernel
theorem dX11_judge_38 : decode cX11_judge 38 = .ok (.goto (-36), 3) := by decide +kernel
theorem dX11_judge_41 : decode cX11_judge 41 = .ok (.iconst (-1), 1) := by decide +kernel
theorem dX11_judge_42 : decode cX11_judge 42 = .ok (.ireturn, 1) := by decide +kernel
set_option maxRecDepth 100000 in
set_option maxHeartbeats 4000000 in
theorem mX11_judge {w : WX} {adr : Nat → Nat → Nat} (hj : Ij adr)  (S : St) : ∀ (l : Launch) (r : Int32) (S2 : St), fX11_judge S = some (r, S2) → Mi l w adr yX11_judge cX11_judge 2 (some .int) 0 0 [.ref (adr 35 0)] S r S2 := by
  refine mi_of (lv := [(0, .ref (adr 35 0))]) hj (plainFor_of_name (by decide +kernel)) rfl (Nat.le_of_ble_eq_true rfl) (fun k C Rr => ?_)
  have C : Cx w adr k cX11_judge RX11 2 0 0 := C
  refine ge_iconst (v := 0) (n := 1) C dX11_judge_0 (by decide) rfl ?_
  refine ge_istore_n (n := 2) (lv2 := [(1, .int (0 : Int32)), (0, .ref (adr 35 0))]) C dX11_judge_1 rfl rfl (by decide) rfl ?_
  refine ge_jn (fun (jj : Op) => Ge w adr k 41 [] [] S (jj)) ?_ (fun kk2 hkk2 => ?_)
  · refine ge_iconst (v := -1) (n := 42) C dX11_judge_41 (by decide) rfl ?_
    exact ge_iret C Rr dX11_judge_42
  refine ge_lop (fun (jj : Int32 → Op) => ∀ (x1_2 : Int32), Ge w adr k 2 [(1, .int x1_2), (0, .ref (adr 35 0))] [] S (jj x1_2)) (fun _ => ge_none) (fun ag2 hag2 x1_2 => ?_) FU (0 : Int32)
  refine ge_iload_n (n := 3) C 0 rfl dX11_judge_2 rfl rfl ?_
  refine ge_aload_n (n := 4) C 1 rfl dX11_judge_3 rfl rfl ?_
  refine gt_X11_177 (n := 7) C (by decide) dX11_judge_4 rfl ?_
  refine ge_icmp_ge (t := 41) (n := 10) C dX11_judge_7 (by decide) rfl (fun h_7 => ?_) (fun h_7 => ?_)
  · refine ge_sub [] rfl ?_
    exact hkk2
  · refine ge_aload_n (n := 11) C 1 rfl dX11_judge_10 rfl rfl ?_
    refine gt_X11_22 (n := 14) C (by decide) dX11_judge_11 rfl ?_
    refine ge_bipush (v := 64) (n := 16) C dX11_judge_14 (by decide) rfl ?_
    refine ge_aload_n (n := 17) C 1 rfl dX11_judge_16 rfl rfl ?_
    refine gt_X11_34 (n := 20) C (by decide) dX11_judge_17 rfl ?_
    refine ge_iload_n (n := 21) C 0 rfl dX11_judge_20 rfl rfl ?_
    refine al_44 (n := 22) C (by decide) dX11_judge_21 rfl ?_
    refine ge_iadd (n := 23) C dX11_judge_22 rfl ?_
    refine al_40 (n := 24) C (by decide) dX11_judge_23 rfl ?_
    refine ge_aload_n (n := 25) C 1 rfl dX11_judge_24 rfl rfl ?_
    refine gt_X11_37 (n := 28) C (by decide) dX11_judge_25 rfl ?_
    refine ge_iload_n (n := 29) C 0 rfl dX11_judge_28 rfl rfl ?_
    refine al_45 (n := 30) C (by decide) dX11_judge_29 rfl ?_
    refine ge_icmp_eq (t := 35) (n := 33) C dX11_judge_30 (by decide) rfl (fun h_30 => ?_) (fun h_30 => ?_)
    · refine ge_iinc (n := 38) (v := (x1_2 + (1 : Int32))) (lv2 := [(1, .int (x1_2 + (1 : Int32))), (0, .ref (adr 35 0))]) C 0 rfl dX11_judge_35 rfl rfl (by decide) rfl ?_
      refine ge_goto (n := 2) C dX11_judge_38 (by decide) ?_
      exact hag2 (x1_2 + (1 : Int32))
    · refine ge_iload_n (n := 34) C 0 rfl dX11_judge_33 rfl rfl ?_
      exact ge_iret C Rr dX11_judge_34
theorem dX11_seed_0 : decode cX11_seed 0 = .ok (.iload_n 1, 1) := by decide +kernel
theorem dX11_seed_1 : decode cX11_seed 1 = .ok (.ifCond .ge 6, 3) := by decide +kernel
theorem dX11_seed_4 : decode cX11_seed 4 = .ok (.ldc 107, 2) := by decide +kernel
theorem dX11_seed_6 : decode cX11_seed 6 = .ok (.ireturn, 1) := by decide +kernel
theorem dX11_seed_7 : decode cX11_seed 7 = .ok (.aload_n 0, 1) := by decide +kernel
theorem dX11_seed_8 : decode cX11_seed 8 = .ok (.getfield 265, 3) := by decide +kernel
theorem dX11_seed_11 : decode cX11_seed 11 = .ok (.istore_n 2, 1) := by decide +kernel
theorem dX11_seed_12 : decode cX11_seed 12 = .ok (.aload_n 0, 1) := by decide +kernel
theorem dX11_seed_13 : decode cX11_seed 13 = .ok (.iload_n 1, 1) := by decide +kernel
theorem dX11_seed_14 : decode cX11_seed 14 = .ok (.putfield 265, 3) := by decide +kernel
theorem dX11_seed_17 : decode cX11_seed 17 = .ok (.iload_n 2, 1) := by decide +kernel
theorem dX11_seed_18 : decode cX11_seed 18 = .ok (.ireturn, 1) := by decide +kernel
set_option maxRecDepth 100000 in
set_option maxHeartbeats 4000000 in
theorem mX11_seed {w : WX} {adr : Nat → Nat → Nat} (hj : Ij adr) (a1 : Int32) (S : St) : ∀ (l : Launch) (r : Int32) (S2 : St), fX11_seed a1 S = some (r, S2) → Mi l w adr yX11_seed cX11_seed 3 (some .int) 0 0 [.ref (adr 35 0), .int a1] S r S2 := by
  refine mi_of (lv := [(0, .ref (adr 35 0)), (1, .int a1)]) hj (plainFor_of_name (by decide +kernel)) rfl (Nat.le_of_ble_eq_true rfl) (fun k C Rr => ?_)
  have C : Cx w adr k cX11_seed RX11 3 0 0 := C
  refine ge_iload_n (n := 1) C 1 rfl dX11_seed_0 rfl rfl ?_
  refine ge_if_ge (t := 7) (n := 4) C dX11_seed_1 (by decide) rfl (fun h_1 => ?_) (fun h_1 => ?_)
  · refine ge_aload_n (n := 8) C 0 rfl dX11_seed_7 rfl rfl ?_
    refine gt_X11_265 (n := 11) C (by decide) dX11_seed_8 rfl ?_
    refine ge_bi (fun x2_11 => ?_)
    refine ge_istore_n (n := 12) (lv2 := [(2, .int x2_11), (0, .ref (adr 35 0)), (1, .int a1)]) C dX11_seed_11 rfl rfl (by decide) rfl ?_
    refine ge_aload_n (n := 13) C 1 rfl dX11_seed_12 rfl rfl ?_
    refine ge_iload_n (n := 14) C 2 rfl dX11_seed_13 rfl rfl ?_
    refine pt_X11_265 (n := 17) C (by decide) dX11_seed_14 rfl (fun S_14 => ?_)
    refine ge_iload_n (n := 18) C 0 rfl dX11_seed_17 rfl rfl ?_
    exact ge_iret C Rr dX11_seed_18
  · refine ge_ldc (n := 6) C kc_X11_107 dX11_seed_4 rfl ?_
    exact ge_iret C Rr dX11_seed_6
theorem dX11_keep_0 : decode cX11_keep 0 = .ok (.iload_n 1, 1) := by decide +kernel
theorem dX11_keep_1 : decode cX11_keep 1 = .ok (.i2l, 1) := by decide +kernel
theorem dX11_keep_2 : decode cX11_keep 2 = .ok (.lconst 0, 1) := by decide +kernel
theorem dX11_keep_3 : decode cX11_keep 3 = .ok (.lconst 1, 1) := by decide +kernel
theorem dX11_keep_4 : decode cX11_keep 4 = .ok (.invokestatic 96, 3) := by decide +kernel
theorem dX11_keep_7 : decode cX11_keep 7 = .ok (.ifCond .ne 6, 3) := by decide +kernel
theorem dX11_keep_10 : decode cX11_keep 10 = .ok (.ldc 213, 2) := by decide +kernel
theorem dX11_keep_12 : decode cX11_keep 12 = .ok (.ireturn, 1) := by decide +kernel
theorem dX11_keep_13 : decode cX11_keep 13 = .ok (.iconst 0, 1) := by decide +kernel
theorem dX11_keep_14 : decode cX11_keep 14 = .ok (.istore_n 2, 1) := by decide +kernel
theorem dX11_keep_15 : decode cX11_keep 15 = .ok (.iload_n 2, 1) := by decide +kernel
theorem dX11_keep_16 : decode cX11_keep 16 = .ok (.bipush 70, 2) := by decide +kernel
theorem dX11_keep_18 : decode cX11_keep 18 = .ok (.if_icmp .ge 26, 3) := by decide +kernel
theorem dX11_keep_21 : decode cX11_keep 21 = .ok (.aload_n 0, 1) := by decide +kernel
theorem dX11_keep_22 : decode cX11_keep 22 = .ok (.getfield 84, 3) := by decide +kernel
theorem dX11_keep_25 : decode cX11_keep 25 = .ok (.bipush 71, 2) := by decide +kernel
theorem dX11_keep_27 : decode cX11_keep 27 = .ok (.iload_n 1, 1) := by decide +kernel
theorem dX11_keep_28 : decode cX11_keep 28 = .ok (.imul, 1) := by decide +kernel
theorem dX11_keep_29 : decode cX11_keep 29 = .ok (.iload_n 2, 1) := by decide +kernel
theorem dX11_keep_30 : decode cX11_keep 30 = .ok (.iadd, 1) := by decide +kernel
theorem dX11_keep_31 : decode cX11_keep 31 = .ok (.aload_n 0, 1) := by decide +kernel
theorem dX11_keep_32 : decode cX11_keep 32 = .ok (.getfield 22, 3) := by decide +kernel
theorem dX11_keep_35 : decode cX11_keep 35 = .ok (.iload_n 2, 1) := by decide +kernel
theorem dX11_keep_36 : decode cX11_keep 36 = .ok (.iaload, 1) := by decide +kernel
theorem dX11_keep_37 : decode cX11_keep 37 = .ok (.iastore, 1) := by decide +kernel
theorem dX11_keep_38 : decode cX11_keep 38 = .ok (.iinc 2 1, 3) := by decide +kernel
theorem dX11_keep_41 : decode cX11_keep 41 = .ok (.goto (-26), 3) := by decide +kernel
theorem dX11_keep_44 : decode cX11_keep 44 = .ok (.aload_n 0, 1) := by decide +kernel
theorem dX11_keep_45 : decode cX11_keep 45 = .ok (.getfield 84, 3) := by decide +kernel
theorem dX11_keep_48 : decode cX11_keep 48 = .ok (.bipush 71, 2) := by decide +kernel
theorem dX11_keep_50 : decode cX11_keep 50 = .ok (.iload_n 1, 1) := by decide +kernel
theorem dX11_keep_51 : decode cX11_keep 51 = .ok (.imul, 1) := by decide +kernel
theorem dX11_keep_52 : decode cX11_keep 52 = .ok (.bipush 70, 2) := by decide +kernel
theorem dX11_keep_54 : decode cX11_keep 54 = .ok (.iadd, 1) := by decide +kernel
theorem dX11_keep_55 : decode cX11_keep 55 = .ok (.aload_n 0, 1) := by decide +kernel
theorem dX11_keep_56 : decode cX11_keep 56 = .ok (.getfield 265, 3) := by decide +kernel
theorem dX11_keep_59 : decode cX11_keep 59 = .ok (.iastore, 1) := by decide +kernel
theorem dX11_keep_60 : decode cX11_keep 60 = .ok (.aload_n 0, 1) := by decide +kernel
theorem dX11_keep_61 : decode cX11_keep 61 = .ok (.getfield 87, 3) := by decide +kernel
theorem dX11_keep_64 : decode cX11_keep 64 = .ok (.iload_n 1, 1) := by decide +kernel
theorem dX11_keep_65 : decode cX11_keep 65 = .ok (.iconst 1, 1) := by decide +kernel
theorem dX11_keep_66 : decode cX11_keep 66 = .ok (.bastore, 1) := by decide +kernel
theorem dX11_keep_67 : decode cX11_keep 67 = .ok (.aload_n 0, 1) := by decide +kernel
theorem dX11_keep_68 : decode cX11_keep 68 = .ok (.iconst 0, 1) := by decide +kernel
theorem dX11_keep_69 : decode cX11_keep 69 = .ok (.putfield 180, 3) := by decide +kernel
theorem dX11_keep_72 : decode cX11_keep 72 = .ok (.iconst 1, 1) := by decide +kernel
theorem dX11_keep_73 : decode cX11_keep 73 = .ok (.ireturn, 1) := by decide +kernel
set_option maxRecDepth 100000 in
set_option maxHeartbeats 4000000 in
theorem mX11_keep {w : WX} {adr : Nat → Nat → Nat} (hj : Ij adr) (a1 : Int32) (S : St) : ∀ (l : Launch) (r : Int32) (S2 : St), fX11_keep a1 S = some (r, S2) → Mi l w adr yX11_keep cX11_keep 3 (some .int) 1 25 [.ref (adr 35 0), .int a1] S r S2 := by
  refine mi_of (lv := [(0, .ref (adr 35 0)), (1, .int a1)]) hj (plainFor_of_name (by decide +kernel)) rfl (Nat.le_of_ble_eq_true rfl) (fun k C Rr => ?_)
  have C : Cx w adr k cX11_keep RX11 3 1 25 := C
  refine ge_iload_n (n := 1) C 1 rfl dX11_keep_0 rfl rfl ?_
  refine ge_i2l (n := 2) C dX11_keep_1 rfl ?_
  refine ge_lconst (v := 0) (n := 3) C dX11_keep_2 (by decide) rfl ?_
  refine ge_lconst (v := 1) (n := 4) C dX11_keep_3 (by decide) rfl ?_
  refine ge_callSi (n := 7) C (mX11_within hj (Int32.toInt64 a1) (0 : Int64) (1 : Int64) S) gv_X11_96 hc_X11_within ⟨Nat.le_of_ble_eq_true rfl, Nat.le_of_ble_eq_true rfl⟩ rfl rfl (Nat.le_of_ble_eq_true rfl) dX11_keep_4 rfl (fun r_4 S_4 => ?_)
  refine ge_if_ne (t := 13) (n := 10) C dX11_keep_7 (by decide) rfl (fun h_7 => ?_) (fun h_7 => ?_)
  · refine ge_iconst (v := 0) (n := 14) C dX11_keep_13 (by decide) rfl ?_
    refine ge_istore_n (n := 15) (lv2 := [(2, .int (0 : Int32)), (0, .ref (adr 35 0)), (1, .int a1)]) C dX11_keep_14 rfl rfl (by decide) rfl ?_
    refine ge_jn (fun (jj : St → Op) => ∀ (S_44 : St), Ge w adr k 44 [(0, .ref (adr 35 0)), (1, .int a1)] [] S_44 (jj S_44)) (fun S_44 => ?_) (fun kk15 hkk15 => ?_)
    · refine ge_aload_n (n := 45) C 0 rfl dX11_keep_44 rfl rfl ?_
      refine gt_X11_84 (n := 48) C (by decide) dX11_keep_45 rfl ?_
      refine ge_bipush (v := 71) (n := 50) C dX11_keep_48 (by decide) rfl ?_
      refine ge_iload_n (n := 51) C 1 rfl dX11_keep_50 rfl rfl ?_
      refine ge_imul (n := 52) C dX11_keep_51 rfl ?_
      refine ge_bipush (v := 70) (n := 54) C dX11_keep_52 (by decide) rfl ?_
      refine ge_iadd (n := 55) C dX11_keep_54 rfl ?_
      refine ge_aload_n (n := 56) C 0 rfl dX11_keep_55 rfl rfl ?_
      refine gt_X11_265 (n := 59) C (by decide) dX11_keep_56 rfl ?_
      refine as_59 (n := 60) C (by decide) dX11_keep_59 rfl (fun S_59 => ?_)
      refine ge_aload_n (n := 61) C 0 rfl dX11_keep_60 rfl rfl ?_
      refine gt_X11_87 (n := 64) C (by decide) dX11_keep_61 rfl ?_
      refine ge_iload_n (n := 65) C 1 rfl dX11_keep_64 rfl rfl ?_
      refine ge_iconst (v := 1) (n := 66) C dX11_keep_65 (by decide) rfl ?_
      refine as_60 (n := 67) C (by decide) dX11_keep_66 rfl (fun S_66 => ?_)
      refine ge_aload_n (n := 68) C 0 rfl dX11_keep_67 rfl rfl ?_
      refine ge_iconst (v := 0) (n := 69) C dX11_keep_68 (by decide) rfl ?_
      refine pt_X11_180 (n := 72) C (by decide) dX11_keep_69 rfl (fun S_69 => ?_)
      refine ge_iconst (v := 1) (n := 73) C dX11_keep_72 (by decide) rfl ?_
      exact ge_iret C Rr dX11_keep_73
    refine ge_lop (fun (jj : Int32 → St → Op) => ∀ (x2_15 : Int32) (S_15 : St), Ge w adr k 15 [(2, .int x2_15), (0, .ref (adr 35 0)), (1, .int a1)] [] S_15 (jj x2_15 S_15)) (fun _ _ => ge_none) (fun ag15 hag15 x2_15 S_15 => ?_) FU (0 : Int32) S_4
    refine ge_iload_n (n := 16) C 0 rfl dX11_keep_15 rfl rfl ?_
    refine ge_bipush (v := 70) (n := 18) C dX11_keep_16 (by decide) rfl ?_
    refine ge_icmp_ge (t := 44) (n := 21) C dX11_keep_18 (by decide) rfl (fun h_18 => ?_) (fun h_18 => ?_)
    · refine ge_sub [1, 2] rfl ?_
      exact hkk15 S_15
    · refine ge_aload_n (n := 22) C 1 rfl dX11_keep_21 rfl rfl ?_
      refine gt_X11_84 (n := 25) C (by decide) dX11_keep_22 rfl ?_
      refine ge_bipush (v := 71) (n := 27) C dX11_keep_25 (by decide) rfl ?_
      refine ge_iload_n (n := 28) C 2 rfl dX11_keep_27 rfl rfl ?_
      refine ge_imul (n := 29) C dX11_keep_28 rfl ?_
      refine ge_iload_n (n := 30) C 0 rfl dX11_keep_29 rfl rfl ?_
      refine ge_iadd (n := 31) C dX11_keep_30 rfl ?_
      refine ge_aload_n (n := 32) C 1 rfl dX11_keep_31 rfl rfl ?_
      refine gt_X11_22 (n := 35) C (by decide) dX11_keep_32 rfl ?_
      refine ge_iload_n (n := 36) C 0 rfl dX11_keep_35 rfl rfl ?_
      refine al_40 (n := 37) C (by decide) dX11_keep_36 rfl ?_
      refine as_59 (n := 38) C (by decide) dX11_keep_37 rfl (fun S_37 => ?_)
      refine ge_iinc (n := 41) (v := (x2_15 + (1 : Int32))) (lv2 := [(2, .int (x2_15 + (1 : Int32))), (0, .ref (adr 35 0)), (1, .int a1)]) C 0 rfl dX11_keep_38 rfl rfl (by decide) rfl ?_
      refine ge_goto (n := 15) C dX11_keep_41 (by decide) ?_
      exact hag15 (x2_15 + (1 : Int32)) S_37
  · refine ge_ldc (n := 12) C kc_X11_213 dX11_keep_10 rfl ?_
    exact ge_iret C Rr dX11_keep_12
theorem dX11_goBack_0 : decode cX11_goBack 0 = .ok (.iload_n 1, 1) := by decide +kernel
theorem dX11_goBack_1 : decode cX11_goBack 1 = .ok (.i2l, 1) := by decide +kernel
theorem dX11_goBack_2 : decode cX11_goBack 2 = .ok (.lconst 0, 1) := by decide +kernel
theorem dX11_goBack_3 : decode cX11_goBack 3 = .ok (.lconst 1, 1) := by decide +kernel
theorem dX11_goBack_4 : decode cX11_goBack 4 = .ok (.invokestatic 96, 3) := by decide +kernel
theorem dX11_goBack_7 : decode cX11_goBack 7 = .ok (.ifCond .ne 6, 3) := by decide +kernel
theorem dX11_goBack_10 : decode cX11_goBack 10 = .ok (.ldc 213, 2) := by decide +kernel
theorem dX11_goBack_12 : decode cX11_goBack 12 = .ok (.ireturn, 1) := by decide +kernel
theorem dX11_goBack_13 : decode cX11_goBack 13 = .ok (.aload_n 0, 1) := by decide +kernel
theorem dX11_goBack_14 : decode cX11_goBack 14 = .ok (.getfield 87, 3) := by decide +kernel
theorem dX11_goBack_17 : decode cX11_goBack 17 = .ok (.iload_n 1, 1) := by decide +kernel
theorem dX11_goBack_18 : decode cX11_goBack 18 = .ok (.baload, 1) := by decide +kernel
theorem dX11_goBack_19 : decode cX11_goBack 19 = .ok (.ifCond .ne 6, 3) := by decide +kernel
theorem dX11_goBack_22 : decode cX11_goBack 22 = .ok (.ldc 236, 2) := by decide +kernel
theorem dX11_goBack_24 : decode cX11_goBack 24 = .ok (.ireturn, 1) := by decide +kernel
theorem dX11_goBack_25 : decode cX11_goBack 25 = .ok (.iconst 0, 1) := by decide +kernel
theorem dX11_goBack_26 : decode cX11_goBack 26 = .ok (.istore_n 2, 1) := by decide +kernel
theorem dX11_goBack_27 : decode cX11_goBack 27 = .ok (.iload_n 2, 1) := by decide +kernel
theorem dX11_goBack_28 : decode cX11_goBack 28 = .ok (.bipush 70, 2) := by decide +kernel
theorem dX11_goBack_30 : decode cX11_goBack 30 = .ok (.if_icmp .ge 26, 3) := by decide +kernel
theorem dX11_goBack_33 : decode cX11_goBack 33 = .ok (.aload_n 0, 1) := by decide +kernel
theorem dX11_goBack_34 : decode cX11_goBack 34 = .ok (.getfield 22, 3) := by decide +kernel
theorem dX11_goBack_37 : decode cX11_goBack 37 = .ok (.iload_n 2, 1) := by decide +kernel
theorem dX11_goBack_38 : decode cX11_goBack 38 = .ok (.aload_n 0, 1) := by decide +kernel
theorem dX11_goBack_39 : decode cX11_goBack 39 = .ok (.getfield 84, 3) := by decide +kernel
theorem dX11_goBack_42 : decode cX11_goBack 42 = .ok (.bipush 71, 2) := by decide +kernel
theorem dX11_goBack_44 : decode cX11_goBack 44 = .ok (.iload_n 1, 1) := by decide +kernel
theorem dX11_goBack_45 : decode cX11_goBack 45 = .ok (.imul, 1) := by decide +kernel
theorem dX11_goBack_46 : decode cX11_goBack 46 = .ok (.iload_n 2, 1) := by decide +kernel
theorem dX11_goBack_47 : decode cX11_goBack 47 = .ok (.iadd, 1) := by decide +kernel
theorem dX11_goBack_48 : decode cX11_goBack 48 = .ok (.iaload, 1) := by decide +kernel
theorem dX11_goBack_49 : decode cX11_goBack 49 = .ok (.iastore, 1) := by decide +kernel
theorem dX11_goBack_50 : decode cX11_goBack 50 = .ok (.iinc 2 1, 3) := by decide +kernel
theorem dX11_goBack_53 : decode cX11_goBack 53 = .ok (.goto (-26), 3) := by decide +kernel
theorem dX11_goBack_56 : decode cX11_goBack 56 = .ok (.aload_n 0, 1) := by decide +kernel
theorem dX11_goBack_57 : decode cX11_goBack 57 = .ok (.aload_n 0, 1) := by decide +kernel
theorem dX11_goBack_58 : decode cX11_goBack 58 = .ok (.getfield 84, 3) := by decide +kernel
theorem dX11_goBack_61 : decode cX11_goBack 61 = .ok (.bipush 71, 2) := by decide +kernel
theorem dX11_goBack_63 : decode cX11_goBack 63 = .ok (.iload_n 1, 1) := by decide +kernel
theorem dX11_goBack_64 : decode cX11_goBack 64 = .ok (.imul, 1) := by decide +kernel
theorem dX11_goBack_65 : decode cX11_goBack 65 = .ok (.bipush 70, 2) := by decide +kernel
theorem dX11_goBack_67 : decode cX11_goBack 67 = .ok (.iadd, 1) := by decide +kernel
theorem dX11_goBack_68 : decode cX11_goBack 68 = .ok (.iaload, 1) := by decide +kernel
theorem dX11_goBack_69 : decode cX11_goBack 69 = .ok (.putfield 265, 3) := by decide +kernel
theorem dX11_goBack_72 : decode cX11_goBack 72 = .ok (.aload_n 0, 1) := by decide +kernel
theorem dX11_goBack_73 : decode cX11_goBack 73 = .ok (.iconst 0, 1) := by decide +kernel
theorem dX11_goBack_74 : decode cX11_goBack 74 = .ok (.putfield 180, 3) := by decide +kernel
theorem dX11_goBack_77 : decode cX11_goBack 77 = .ok (.iconst 1, 1) := by decide +kernel
theorem dX11_goBack_78 : decode cX11_goBack 78 = .ok (.ireturn, 1) := by decide +kernel
set_option maxRecDepth 100000 in
set_option maxHeartbeats 4000000 in
theorem mX11_goBack {w : WX} {adr : Nat → Nat → Nat} (hj : Ij adr) (a1 : Int32) (S : St) : ∀ (l : Launch) (r : Int32) (S2 : St), fX11_goBack a1 S = some (r, S2) → Mi l w adr yX11_goBack cX11_goBack 3 (some .int) 1 25 [.ref (adr 35 0), .int a1] S r S2 := by
  refine mi_of (lv := [(0, .ref (adr 35 0)), (1, .int a1)]) hj (plainFor_of_name (by decide +kernel)) rfl (Nat.le_of_ble_eq_true rfl) (fun k C Rr => ?_)
  have C : Cx w adr k cX11_goBack RX11 3 1 25 := C
  refine ge_iload_n (n := 1) C 1 rfl dX11_goBack_0 rfl rfl ?_
  refine ge_i2l (n := 2) C dX11_goBack_1 rfl ?_
  refine ge_lconst (v := 0) (n := 3) C dX11_goBack_2 (by decide) rfl ?_
  refine ge_lconst (v := 1) (n := 4) C dX11_goBack_3 (by decide) rfl ?_
  refine ge_callSi (n := 7) C (mX11_within hj (Int32.toInt64 a1) (0 : Int64) (1 : Int64) S) gv_X11_96 hc_X11_within ⟨Nat.le_of_ble_eq_true rfl, Nat.le_of_ble_eq_true rfl⟩ rfl rfl (Nat.le_of_ble_eq_true rfl) dX11_goBack_4 rfl (fun r_4 S_4 => ?_)
  refine ge_if_ne (t := 13) (n := 10) C dX11_goBack_7 (by decide) rfl (fun h_7 => ?_) (fun h_7 => ?_)
  · refine ge_aload_n (n := 14) C 0 rfl dX11_goBack_13 rfl rfl ?_
    refine gt_X11_87 (n := 17) C (by decide) dX11_goBack_14 rfl ?_
    refine ge_iload_n (n := 18) C 1 rfl dX11_goBack_17 rfl rfl ?_
    refine al_60 (n := 19) C (by decide) dX11_goBack_18 rfl ?_
    refine ge_if_ne (t := 25) (n := 22) C dX11_goBack_19 (by decide) rfl (fun h_19 => ?_) (fun h_19 => ?_)
    · refine ge_iconst (v := 0) (n := 26) C dX11_goBack_25 (by decide) rfl ?_
      refine ge_istore_n (n := 27) (lv2 := [(2, .int (0 : Int32)), (0, .ref (adr 35 0)), (1, .int a1)]) C dX11_goBack_26 rfl rfl (by decide) rfl ?_
      refine ge_jn (fun (jj : St → Op) => ∀ (S_56 : St), Ge w adr k 56 [(0, .ref (adr 35 0)), (1, .int a1)] [] S_56 (jj S_56)) (fun S_56 => ?_) (fun kk27 hkk27 => ?_)
      · refine ge_aload_n (n := 57) C 0 rfl dX11_goBack_56 rfl rfl ?_
        refine ge_aload_n (n := 58) C 0 rfl dX11_goBack_57 rfl rfl ?_
        refine gt_X11_84 (n := 61) C (by decide) dX11_goBack_58 rfl ?_
        refine ge_bipush (v := 71) (n := 63) C dX11_goBack_61 (by decide) rfl ?_
        refine ge_iload_n (n := 64) C 1 rfl dX11_goBack_63 rfl rfl ?_
        refine ge_imul (n := 65) C dX11_goBack_64 rfl ?_
        refine ge_bipush (v := 70) (n := 67) C dX11_goBack_65 (by decide) rfl ?_
        refine ge_iadd (n := 68) C dX11_goBack_67 rfl ?_
        refine al_59 (n := 69) C (by decide) dX11_goBack_68 rfl ?_
        refine pt_X11_265 (n := 72) C (by decide) dX11_goBack_69 rfl (fun S_69 => ?_)
        refine ge_aload_n (n := 73) C 0 rfl dX11_goBack_72 rfl rfl ?_
        refine ge_iconst (v := 0) (n := 74) C dX11_goBack_73 (by decide) rfl ?_
        refine pt_X11_180 (n := 77) C (by decide) dX11_goBack_74 rfl (fun S_74 => ?_)
        refine ge_iconst (v := 1) (n := 78) C dX11_goBack_77 (by decide) rfl ?_
        exact ge_iret C Rr dX11_goBack_78
      refine ge_lop (fun (jj : Int32 → St → Op) => ∀ (x2_27 : Int32) (S_27 : St), Ge w adr k 27 [(2, .int x2_27), (0, .ref (adr 35 0)), (1, .int a1)] [] S_27 (jj x2_27 S_27)) (fun _ _ => ge_none) (fun ag27 hag27 x2_27 S_27 => ?_) FU (0 : Int32) S_4
      refine ge_iload_n (n := 28) C 0 rfl dX11_goBack_27 rfl rfl ?_
      refine ge_bipush (v := 70) (n := 30) C dX11_goBack_28 (by decide) rfl ?_
      refine ge_icmp_ge (t := 56) (n := 33) C dX11_goBack_30 (by decide) rfl (fun h_30 => ?_) (fun h_30 => ?_)
      · refine ge_sub [1, 2] rfl ?_
        exact hkk27 S_27
      · refine ge_aload_n (n := 34) C 1 rfl dX11_goBack_33 rfl rfl ?_
        refine gt_X11_22 (n := 37) C (by decide) dX11_goBack_34 rfl ?_
        refine ge_iload_n (n := 38) C 0 rfl dX11_goBack_37 rfl rfl ?_
        refine ge_aload_n (n := 39) C 1 rfl dX11_goBack_38 rfl rfl ?_
        refine gt_X11_84 (n := 42) C (by decide) dX11_goBack_39 rfl ?_
        refine ge_bipush (v := 71) (n := 44) C dX11_goBack_42 (by decide) rfl ?_
        refine ge_iload_n (n := 45) C 2 rfl dX11_goBack_44 rfl rfl ?_
        refine ge_imul (n := 46) C dX11_goBack_45 rfl ?_
        refine ge_iload_n (n := 47) C 0 rfl dX11_goBack_46 rfl rfl ?_
        refine ge_iadd (n := 48) C dX11_goBack_47 rfl ?_
        refine al_59 (n := 49) C (by decide) dX11_goBack_48 rfl ?_
        refine as_40 (n := 50) C (by decide) dX11_goBack_49 rfl (fun S_49 => ?_)
        refine ge_iinc (n := 53) (v := (x2_27 + (1 : Int32))) (lv2 := [(2, .int (x2_27 + (1 : Int32))), (0, .ref (adr 35 0)), (1, .int a1)]) C 0 rfl dX11_goBack_50 rfl rfl (by decide) rfl ?_
        refine ge_goto (n := 27) C dX11_goBack_53 (by decide) ?_
        exact hag27 (x2_27 + (1 : Int32)) S_49
    · refine ge_ldc (n := 24) C kc_X11_236 dX11_goBack_22 rfl ?_
      exact ge_iret C Rr dX11_goBack_24
  · refine ge_ldc (n := 12) C kc_X11_213 dX11_goBack_10 rfl ?_
    exact ge_iret C Rr dX11_goBack_12
