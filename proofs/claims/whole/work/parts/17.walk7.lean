theorem dX11_edge_0 : decode cX11_edge 0 = .ok (.aload_n 0, 1) := by decide +kernel
theorem dX11_edge_1 : decode cX11_edge 1 = .ok (.iload_n 1, 1) := by decide +kernel
theorem dX11_edge_2 : decode cX11_edge 2 = .ok (.invokevirtual 210, 3) := by decide +kernel
theorem dX11_edge_5 : decode cX11_edge 5 = .ok (.ifCond .eq 19, 3) := by decide +kernel
theorem dX11_edge_8 : decode cX11_edge 8 = .ok (.aload_n 0, 1) := by decide +kernel
theorem dX11_edge_9 : decode cX11_edge 9 = .ok (.iload_n 2, 1) := by decide +kernel
theorem dX11_edge_10 : decode cX11_edge 10 = .ok (.invokevirtual 283, 3) := by decide +kernel
theorem dX11_edge_13 : decode cX11_edge 13 = .ok (.ifCond .eq 11, 3) := by decide +kernel
theorem dX11_edge_16 : decode cX11_edge 16 = .ok (.aload_n 0, 1) := by decide +kernel
theorem dX11_edge_17 : decode cX11_edge 17 = .ok (.iload_n 3, 1) := by decide +kernel
theorem dX11_edge_18 : decode cX11_edge 18 = .ok (.invokevirtual 283, 3) := by decide +kernel
theorem dX11_edge_21 : decode cX11_edge 21 = .ok (.ifCond .ne 6, 3) := by decide +kernel
theorem dX11_edge_24 : decode cX11_edge 24 = .ok (.ldc 213, 2) := by decide +kernel
theorem dX11_edge_26 : decode cX11_edge 26 = .ok (.ireturn, 1) := by decide +kernel
theorem dX11_edge_27 : decode cX11_edge 27 = .ok (.iload 4, 2) := by decide +kernel
theorem dX11_edge_29 : decode cX11_edge 29 = .ok (.i2l, 1) := by decide +kernel
theorem dX11_edge_30 : decode cX11_edge 30 = .ok (.lconst 0, 1) := by decide +kernel
theorem dX11_edge_31 : decode cX11_edge 31 = .ok (.ldc2_w 286, 3) := by decide +kernel
theorem dX11_edge_34 : decode cX11_edge 34 = .ok (.invokestatic 96, 3) := by decide +kernel
theorem dX11_edge_37 : decode cX11_edge 37 = .ok (.ifCond .ne 6, 3) := by decide +kernel
theorem dX11_edge_40 : decode cX11_edge 40 = .ok (.ldc 107, 2) := by decide +kernel
theorem dX11_edge_42 : decode cX11_edge 42 = .ok (.ireturn, 1) := by decide +kernel
theorem dX11_edge_43 : decode cX11_edge 43 = .ok (.iconst 0, 1) := by decide +kernel
theorem dX11_edge_44 : decode cX11_edge 44 = .ok (.istore 5, 2) := by decide +kernel
theorem dX11_edge_46 : decode cX11_edge 46 = .ok (.iconst (-1), 1) := by decide +kernel
theorem dX11_edge_47 : decode cX11_edge 47 = .ok (.istore 6, 2) := by decide +kernel
theorem dX11_edge_49 : decode cX11_edge 49 = .ok (.iconst (-1), 1) := by decide +kernel
theorem dX11_edge_50 : decode cX11_edge 50 = .ok (.istore 7, 2) := by decide +kernel
theorem dX11_edge_52 : decode cX11_edge 52 = .ok (.aload_n 0, 1) := by decide +kernel
theorem dX11_edge_53 : decode cX11_edge 53 = .ok (.iload_n 1, 1) := by decide +kernel
theorem dX11_edge_54 : decode cX11_edge 54 = .ok (.invokevirtual 189, 3) := by decide +kernel
theorem dX11_edge_57 : decode cX11_edge 57 = .ok (.iconst 0, 1) := by decide +kernel
theorem dX11_edge_58 : decode cX11_edge 58 = .ok (.istore 8, 2) := by decide +kernel
theorem dX11_edge_60 : decode cX11_edge 60 = .ok (.iload 8, 2) := by decide +kernel
theorem dX11_edge_62 : decode cX11_edge 62 = .ok (.sipush 200, 3) := by decide +kernel
theorem dX11_edge_65 : decode cX11_edge 65 = .ok (.if_icmp .gt 75, 3) := by decide +kernel
theorem dX11_edge_68 : decode cX11_edge 68 = .ok (.aload_n 0, 1) := by decide +kernel
theorem dX11_edge_69 : decode cX11_edge 69 = .ok (.invokevirtual 214, 3) := by decide +kernel
theorem dX11_edge_72 : decode cX11_edge 72 = .ok (.iload_n 2, 1) := by decide +kernel
theorem dX11_edge_73 : decode cX11_edge 73 = .ok (.iand, 1) := by decide +kernel
theorem dX11_edge_74 : decode cX11_edge 74 = .ok (.iload_n 2, 1) := by decide +kernel
theorem dX11_edge_75 : decode cX11_edge 75 = .ok (.if_icmp .ne 34, 3) := by decide +kernel
theorem dX11_edge_78 : decode cX11_edge 78 = .ok (.aload_n 0, 1) := by decide +kernel
theorem dX11_edge_79 : decode cX11_edge 79 = .ok (.invokevirtual 217, 3) := by decide +kernel
theorem dX11_edge_82 : decode cX11_edge 82 = .ok (.iload_n 3, 1) := by decide +kernel
theorem dX11_edge_83 : decode cX11_edge 83 = .ok (.iand, 1) := by decide +kernel
theorem dX11_edge_84 : decode cX11_edge 84 = .ok (.iload_n 3, 1) := by decide +kernel
theorem dX11_edge_85 : decode cX11_edge 85 = .ok (.if_icmp .ne 24, 3) := by decide +kernel
theorem dX11_edge_88 : decode cX11_edge 88 = .ok (.iload 5, 2) := by decide +kernel
theorem dX11_edge_90 : decode cX11_edge 90 = .ok (.ifCond .ne 8, 3) := by decide +kernel
theorem dX11_edge_93 : decode cX11_edge 93 = .ok (.iload 8, 2) := by decide +kernel
theorem dX11_edge_95 : decode cX11_edge 95 = .ok (.goto 5, 3) := by decide +kernel
theorem dX11_edge_98 : decode cX11_edge 98 = .ok (.iload 6, 2) := by decide +kernel
theorem dX11_edge_100 : decode cX11_edge 100 = .ok (.istore 6, 2) := by decide +kernel
theorem dX11_edge_102 : decode cX11_edge 102 = .ok (.iload 8, 2) := by decide +kernel
theorem dX11_edge_104 : decode cX11_edge 104 = .ok (.istore 7, 2) := by decide +kernel
theorem dX11_edge_106 : decode cX11_edge 106 = .ok (.iinc 5 1, 3) := by decide +kernel
theorem dX11_edge_109 : decode cX11_edge 109 = .ok (.aload_n 0, 1) := by decide +kernel
theorem dX11_edge_110 : decode cX11_edge 110 = .ok (.aload_n 0, 1) := by decide +kernel
theorem dX11_edge_111 : decode cX11_edge 111 = .ok (.getfield 7, 3) := by decide +kernel
theorem dX11_edge_114 : decode cX11_edge 114 = .ok (.iload_n 1, 1) := by decide +kernel
theorem dX11_edge_115 : decode cX11_edge 115 = .ok (.iaload, 1) := by decide +kernel
theorem dX11_edge_116 : decode cX11_edge 116 = .ok (.aload_n 0, 1) := by decide +kernel
theorem dX11_edge_117 : decode cX11_edge 117 = .ok (.getfield 22, 3) := by decide +kernel
theorem dX11_edge_120 : decode cX11_edge 120 = .ok (.iconst 1, 1) := by decide +kernel
theorem dX11_edge_121 : decode cX11_edge 121 = .ok (.iaload, 1) := by decide +kernel
theorem dX11_edge_122 : decode cX11_edge 122 = .ok (.aload_n 0, 1) := by decide +kernel
theorem dX11_edge_123 : decode cX11_edge 123 = .ok (.getfield 22, 3) := by decide +kernel
theorem dX11_edge_126 : decode cX11_edge 126 = .ok (.iconst 0, 1) := by decide +kernel
theorem dX11_edge_127 : decode cX11_edge 127 = .ok (.iaload, 1) := by decide +kernel
theorem dX11_edge_128 : decode cX11_edge 128 = .ok (.iload 8, 2) := by decide +kernel
theorem dX11_edge_130 : decode cX11_edge 130 = .ok (.iadd, 1) := by decide +kernel
theorem dX11_edge_131 : decode cX11_edge 131 = .ok (.invokevirtual 230, 3) := by decide +kernel
theorem dX11_edge_134 : decode cX11_edge 134 = .ok (.iinc 8 1, 3) := by decide +kernel
theorem dX11_edge_137 : decode cX11_edge 137 = .ok (.goto (-77), 3) := by decide +kernel
theorem dX11_edge_140 : decode cX11_edge 140 = .ok (.iload 4, 2) := by decide +kernel
theorem dX11_edge_142 : decode cX11_edge 142 = .ok (.ifCond .ne 8, 3) := by decide +kernel
theorem dX11_edge_145 : decode cX11_edge 145 = .ok (.iload 5, 2) := by decide +kernel
theorem dX11_edge_147 : decode cX11_edge 147 = .ok (.goto 16, 3) := by decide +kernel
theorem dX11_edge_150 : decode cX11_edge 150 = .ok (.iload 4, 2) := by decide +kernel
theorem dX11_edge_152 : decode cX11_edge 152 = .ok (.iconst 1, 1) := by decide +kernel
theorem dX11_edge_153 : decode cX11_edge 153 = .ok (.if_icmp .ne 8, 3) := by decide +kernel
theorem dX11_edge_156 : decode cX11_edge 156 = .ok (.iload 6, 2) := by decide +kernel
theorem dX11_edge_158 : decode cX11_edge 158 = .ok (.goto 5, 3) := by decide +kernel
theorem dX11_edge_161 : decode cX11_edge 161 = .ok (.iload 7, 2) := by decide +kernel
theorem dX11_edge_163 : decode cX11_edge 163 = .ok (.ireturn, 1) := by decide +kernel
set_option maxRecDepth 100000 in
set_option maxHeartbeats 4000000 in
theorem mX11_edge {w : WX} {adr : Nat → Nat → Nat} (hj : Ij adr) (a1 : Int32) (a2 : Int32) (a3 : Int32) (a4 : Int32) (S : St) : ∀ (l : Launch) (r : Int32) (S2 : St), fX11_edge a1 a2 a3 a4 S = some (r, S2) → Mi l w adr yX11_edge cX11_edge 9 (some .int) 2 46 [.ref (adr 35 0), .int a1, .int a2, .int a3, .int a4] S r S2 := by
  refine mi_of (lv := [(0, .ref (adr 35 0)), (1, .int a1), (2, .int a2), (3, .int a3), (4, .int a4)]) hj (plainFor_of_name (by decide +kernel)) rfl (Nat.le_of_ble_eq_true rfl) (fun k C Rr => ?_)
  have C : Cx w adr k cX11_edge RX11 9 2 46 := C
  refine ge_aload_n (n := 1) C 0 rfl dX11_edge_0 rfl rfl ?_
  refine ge_iload_n (n := 2) C 1 rfl dX11_edge_1 rfl rfl ?_
  refine ge_callVi (n := 5) C (mX11_isMan hj a1 S) gv_X11_210 (cl_35 (by decide)) rfl rfl hc_X11_isMan ⟨Nat.le_of_ble_eq_true rfl, Nat.le_of_ble_eq_true rfl⟩ rfl rfl (Nat.le_of_ble_eq_true rfl) dX11_edge_2 rfl (fun r_2 S_2 => ?_)
  refine ge_if_eq (t := 24) (n := 8) C dX11_edge_5 (by decide) rfl (fun h_5 => ?_) (fun h_5 => ?_)
  · refine ge_ldc (n := 26) C kc_X11_213 dX11_edge_24 rfl ?_
    exact ge_iret C Rr dX11_edge_26
  · refine ge_aload_n (n := 9) C 0 rfl dX11_edge_8 rfl rfl ?_
    refine ge_iload_n (n := 10) C 2 rfl dX11_edge_9 rfl rfl ?_
    refine ge_callVi (n := 13) C (mX11_areSayings hj a2 S_2) gv_X11_283 (cl_35 (by decide)) rfl rfl hc_X11_areSayings ⟨Nat.le_of_ble_eq_true rfl, Nat.le_of_ble_eq_true rfl⟩ rfl rfl (Nat.le_of_ble_eq_true rfl) dX11_edge_10 rfl (fun r_10 S_10 => ?_)
    refine ge_if_eq (t := 24) (n := 16) C dX11_edge_13 (by decide) rfl (fun h_13 => ?_) (fun h_13 => ?_)
    · refine ge_ldc (n := 26) C kc_X11_213 dX11_edge_24 rfl ?_
      exact ge_iret C Rr dX11_edge_26
    · refine ge_aload_n (n := 17) C 0 rfl dX11_edge_16 rfl rfl ?_
      refine ge_iload_n (n := 18) C 3 rfl dX11_edge_17 rfl rfl ?_
      refine ge_callVi (n := 21) C (mX11_areSayings hj a3 S_10) gv_X11_283 (cl_35 (by decide)) rfl rfl hc_X11_areSayings ⟨Nat.le_of_ble_eq_true rfl, Nat.le_of_ble_eq_true rfl⟩ rfl rfl (Nat.le_of_ble_eq_true rfl) dX11_edge_18 rfl (fun r_18 S_18 => ?_)
      refine ge_if_ne (t := 27) (n := 24) C dX11_edge_21 (by decide) rfl (fun h_21 => ?_) (fun h_21 => ?_)
      · refine ge_iload (n := 29) C 4 rfl dX11_edge_27 rfl ?_
        refine ge_i2l (n := 30) C dX11_edge_29 rfl ?_
        refine ge_lconst (v := 0) (n := 31) C dX11_edge_30 (by decide) rfl ?_
        refine ge_ldc2 (n := 34) C kl_X11_286 dX11_edge_31 rfl ?_
        refine ge_callSi (n := 37) C (mX11_within hj (Int32.toInt64 a4) (0 : Int64) (2 : Int64) S_18) gv_X11_96 hc_X11_within ⟨Nat.le_of_ble_eq_true rfl, Nat.le_of_ble_eq_true rfl⟩ rfl rfl (Nat.le_of_ble_eq_true rfl) dX11_edge_34 rfl (fun r_34 S_34 => ?_)
        refine ge_if_ne (t := 43) (n := 40) C dX11_edge_37 (by decide) rfl (fun h_37 => ?_) (fun h_37 => ?_)
        · refine ge_iconst (v := 0) (n := 44) C dX11_edge_43 (by decide) rfl ?_
          refine ge_istore (n := 46) (lv2 := [(5, .int (0 : Int32)), (0, .ref (adr 35 0)), (1, .int a1), (2, .int a2), (3, .int a3), (4, .int a4)]) C dX11_edge_44 rfl (by decide) rfl ?_
          refine ge_iconst (v := -1) (n := 47) C dX11_edge_46 (by decide) rfl ?_
          refine ge_istore (n := 49) (lv2 := [(6, .int (-1 : Int32)), (5, .int (0 : Int32)), (0, .ref (adr 35 0)), (1, .int a1), (2, .int a2), (3, .int a3), (4, .int a4)]) C dX11_edge_47 rfl (by decide) rfl ?_
          refine ge_iconst (v := -1) (n := 50) C dX11_edge_49 (by decide) rfl ?_
          refine ge_istore (n := 52) (lv2 := [(7, .int (-1 : Int32)), (6, .int (-1 : Int32)), (5, .int (0 : Int32)), (0, .ref (adr 35 0)), (1, .int a1), (2, .int a2), (3, .int a3), (4, .int a4)]) C dX11_edge_50 rfl (by decide) rfl ?_
          refine ge_aload_n (n := 53) C 3 rfl dX11_edge_52 rfl rfl ?_
          refine ge_iload_n (n := 54) C 4 rfl dX11_edge_53 rfl rfl ?_
          refine ge_callVv (n := 57) C (mX11_takesSkin hj a1 S_34) gv_X11_189 (cl_35 (by decide)) rfl rfl hc_X11_takesSkin ⟨Nat.le_of_ble_eq_true rfl, Nat.le_of_ble_eq_true rfl⟩ rfl rfl (Nat.le_of_ble_eq_true rfl) dX11_edge_54 rfl (fun _ S_54 => ?_)
          refine ge_iconst (v := 0) (n := 58) C dX11_edge_57 (by decide) rfl ?_
          refine ge_istore (n := 60) (lv2 := [(8, .int (0 : Int32)), (7, .int (-1 : Int32)), (6, .int (-1 : Int32)), (5, .int (0 : Int32)), (0, .ref (adr 35 0)), (1, .int a1), (2, .int a2), (3, .int a3), (4, .int a4)]) C dX11_edge_58 rfl (by decide) rfl ?_
          refine ge_jn (fun (jj : Int32 → Int32 → Int32 → St → Op) => ∀ (x7_140 : Int32) (x6_140 : Int32) (x5_140 : Int32) (S_140 : St), Ge w adr k 140 [(7, .int x7_140), (6, .int x6_140), (5, .int x5_140), (4, .int a4)] [] S_140 (jj x7_140 x6_140 x5_140 S_140)) (fun x7_140 x6_140 x5_140 S_140 => ?_) (fun kk60 hkk60 => ?_)
          · refine ge_iload (n := 142) C 3 rfl dX11_edge_140 rfl ?_
            refine ge_if_ne (t := 150) (n := 145) C dX11_edge_142 (by decide) rfl (fun h_142 => ?_) (fun h_142 => ?_)
            · refine ge_iload (n := 152) C 3 rfl dX11_edge_150 rfl ?_
              refine ge_iconst (v := 1) (n := 153) C dX11_edge_152 (by decide) rfl ?_
              refine ge_icmp_ne (t := 161) (n := 156) C dX11_edge_153 (by decide) rfl (fun h_153 => ?_) (fun h_153 => ?_)
              · refine ge_iload (n := 163) C 0 rfl dX11_edge_161 rfl ?_
                exact ge_iret C Rr dX11_edge_163
              · refine ge_iload (n := 158) C 1 rfl dX11_edge_156 rfl ?_
                refine ge_goto (n := 163) C dX11_edge_158 (by decide) ?_
                exact ge_iret C Rr dX11_edge_163
            · refine ge_iload (n := 147) C 2 rfl dX11_edge_145 rfl ?_
              refine ge_goto (n := 163) C dX11_edge_147 (by decide) ?_
              exact ge_iret C Rr dX11_edge_163
          refine ge_lop (fun (jj : Int32 → Int32 → Int32 → Int32 → St → Op) => ∀ (x8_60 : Int32) (x7_60 : Int32) (x6_60 : Int32) (x5_60 : Int32) (S_60 : St), Ge w adr k 60 [(8, .int x8_60), (7, .int x7_60), (6, .int x6_60), (5, .int x5_60), (0, .ref (adr 35 0)), (1, .int a1), (2, .int a2), (3, .int a3), (4, .int a4)] [] S_60 (jj x8_60 x7_60 x6_60 x5_60 S_60)) (fun _ _ _ _ _ => ge_none) (fun ag60 hag60 x8_60 x7_60 x6_60 x5_60 S_60 => ?_) FU (0 : Int32) (-1 : Int32) (-1 : Int32) (0 : Int32) S_54
          refine ge_iload (n := 62) C 0 rfl dX11_edge_60 rfl ?_
          refine ge_sipush (v := 200) (n := 65) C dX11_edge_62 (by decide) rfl ?_
          refine ge_icmp_gt (t := 140) (n := 68) C dX11_edge_65 (by decide) rfl (fun h_65 => ?_) (fun h_65 => ?_)
          · refine ge_sub [1, 2, 3, 8] rfl ?_
            exact hkk60 x7_60 x6_60 x5_60 S_60
          · refine ge_aload_n (n := 69) C 4 rfl dX11_edge_68 rfl rfl ?_
            refine ge_callVi (n := 72) C (mX11_borneNow hj S_60) gv_X11_214 (cl_35 (by decide)) rfl rfl hc_X11_borneNow ⟨Nat.le_of_ble_eq_true rfl, Nat.le_of_ble_eq_true rfl⟩ rfl rfl (Nat.le_of_ble_eq_true rfl) dX11_edge_69 rfl (fun r_69 S_69 => ?_)
            refine ge_iload_n (n := 73) C 6 rfl dX11_edge_72 rfl rfl ?_
            refine ge_iand (n := 74) C dX11_edge_73 rfl ?_
            refine ge_iload_n (n := 75) C 6 rfl dX11_edge_74 rfl rfl ?_
            refine ge_jn (fun (jj : Int32 → Int32 → Int32 → St → Op) => ∀ (x7_109 : Int32) (x6_109 : Int32) (x5_109 : Int32) (S_109 : St), Ge w adr k 109 [(8, .int x8_60), (7, .int x7_109), (6, .int x6_109), (5, .int x5_109), (0, .ref (adr 35 0)), (1, .int a1), (2, .int a2), (3, .int a3), (4, .int a4)] [] S_109 (jj x7_109 x6_109 x5_109 S_109)) (fun x7_109 x6_109 x5_109 S_109 => ?_) (fun j109 hj109 => ?_)
            · refine ge_aload_n (n := 110) C 4 rfl dX11_edge_109 rfl rfl ?_
              refine ge_aload_n (n := 111) C 4 rfl dX11_edge_110 rfl rfl ?_
              refine gt_X11_7 (n := 114) C (by decide) dX11_edge_111 rfl ?_
              refine ge_iload_n (n := 115) C 5 rfl dX11_edge_114 rfl rfl ?_
              refine al_36 (n := 116) C (by decide) dX11_edge_115 rfl ?_
              refine ge_aload_n (n := 117) C 4 rfl dX11_edge_116 rfl rfl ?_
              refine gt_X11_22 (n := 120) C (by decide) dX11_edge_117 rfl ?_
              refine ge_iconst (v := 1) (n := 121) C dX11_edge_120 (by decide) rfl ?_
              refine al_40 (n := 122) C (by decide) dX11_edge_121 rfl ?_
              refine ge_aload_n (n := 123) C 4 rfl dX11_edge_122 rfl rfl ?_
              refine gt_X11_22 (n := 126) C (by decide) dX11_edge_123 rfl ?_
              refine ge_iconst (v := 0) (n := 127) C dX11_edge_126 (by decide) rfl ?_
              refine al_40 (n := 128) C (by decide) dX11_edge_127 rfl ?_
              refine ge_iload (n := 130) C 0 rfl dX11_edge_128 rfl ?_
              refine ge_iadd (n := 131) C dX11_edge_130 rfl ?_
              refine ge_callVv (n := 134) C (mX11_tans hj (S_109 36 0 (Int32.toNatClampNeg a1)) (S_109 40 0 (Int32.toNatClampNeg (1 : Int32))) ((S_109 40 0 (Int32.toNatClampNeg (0 : Int32))) + x8_60) S_109) gv_X11_230 (cl_35 (by decide)) rfl rfl hc_X11_tans ⟨Nat.le_of_ble_eq_true rfl, Nat.le_of_ble_eq_true rfl⟩ rfl rfl (Nat.le_of_ble_eq_true rfl) dX11_edge_131 rfl (fun _ S_131 => ?_)
              refine ge_iinc (n := 137) (v := (x8_60 + (1 : Int32))) (lv2 := [(8, .int (x8_60 + (1 : Int32))), (7, .int x7_109), (6, .int x6_109), (5, .int x5_109), (0, .ref (adr 35 0)), (1, .int a1), (2, .int a2), (3, .int a3), (4, .int a4)]) C 0 rfl dX11_edge_134 rfl rfl (by decide) rfl ?_
              refine ge_goto (n := 60) C dX11_edge_137 (by decide) ?_
              exact hag60 (x8_60 + (1 : Int32)) x7_109 x6_109 x5_109 S_131
            refine ge_icmp_ne (t := 109) (n := 78) C dX11_edge_75 (by decide) rfl (fun h_75 => ?_) (fun h_75 => ?_)
            · exact hj109 x7_60 x6_60 x5_60 S_69
            · refine ge_aload_n (n := 79) C 4 rfl dX11_edge_78 rfl rfl ?_
              refine ge_callVi (n := 82) C (mX11_feltNow hj S_69) gv_X11_217 (cl_35 (by decide)) rfl rfl hc_X11_feltNow ⟨Nat.le_of_ble_eq_true rfl, Nat.le_of_ble_eq_true rfl⟩ rfl rfl (Nat.le_of_ble_eq_true rfl) dX11_edge_79 rfl (fun r_79 S_79 => ?_)
              refine ge_iload_n (n := 83) C 7 rfl dX11_edge_82 rfl rfl ?_
              refine ge_iand (n := 84) C dX11_edge_83 rfl ?_
              refine ge_iload_n (n := 85) C 7 rfl dX11_edge_84 rfl rfl ?_
              refine ge_icmp_ne (t := 109) (n := 88) C dX11_edge_85 (by decide) rfl (fun h_85 => ?_) (fun h_85 => ?_)
              · exact hj109 x7_60 x6_60 x5_60 S_79
              · refine ge_iload (n := 90) C 3 rfl dX11_edge_88 rfl ?_
                refine ge_jn (fun (jj : Int32 → Op) => ∀ (v0_100 : Int32), Ge w adr k 100 [(8, .int x8_60), (5, .int x5_60), (0, .ref (adr 35 0)), (1, .int a1), (2, .int a2), (3, .int a3), (4, .int a4)] [.int v0_100] S_79 (jj v0_100)) (fun v0_100 => ?_) (fun j100 hj100 => ?_)
                · refine ge_istore (n := 102) (lv2 := [(6, .int v0_100), (8, .int x8_60), (5, .int x5_60), (0, .ref (adr 35 0)), (1, .int a1), (2, .int a2), (3, .int a3), (4, .int a4)]) C dX11_edge_100 rfl (by decide) rfl ?_
                  refine ge_iload (n := 104) C 1 rfl dX11_edge_102 rfl ?_
                  refine ge_istore (n := 106) (lv2 := [(7, .int x8_60), (6, .int v0_100), (8, .int x8_60), (5, .int x5_60), (0, .ref (adr 35 0)), (1, .int a1), (2, .int a2), (3, .int a3), (4, .int a4)]) C dX11_edge_104 rfl (by decide) rfl ?_
                  refine ge_iinc (n := 109) (v := (x5_60 + (1 : Int32))) (lv2 := [(5, .int (x5_60 + (1 : Int32))), (7, .int x8_60), (6, .int v0_100), (8, .int x8_60), (0, .ref (adr 35 0)), (1, .int a1), (2, .int a2), (3, .int a3), (4, .int a4)]) C 3 rfl dX11_edge_106 rfl rfl (by decide) rfl ?_
                  refine ge_sub [3, 1, 2, 0, 4, 5, 6, 7, 8] rfl ?_
                  exact hj109 x8_60 v0_100 (x5_60 + (1 : Int32)) S_79
                refine ge_if_ne (t := 98) (n := 93) C dX11_edge_90 (by decide) rfl (fun h_90 => ?_) (fun h_90 => ?_)
                · refine ge_iload (n := 100) C 2 rfl dX11_edge_98 rfl ?_
                  refine ge_sub [0, 3, 4, 5, 6, 7, 8] rfl ?_
                  exact hj100 x6_60
                · refine ge_iload (n := 95) C 0 rfl dX11_edge_93 rfl ?_
                  refine ge_goto (n := 100) C dX11_edge_95 (by decide) ?_
                  refine ge_sub [0, 3, 4, 5, 6, 7, 8] rfl ?_
                  exact hj100 x8_60
        · refine ge_ldc (n := 42) C kc_X11_107 dX11_edge_40 rfl ?_
          exact ge_iret C Rr dX11_edge_42
      · refine ge_ldc (n := 26) C kc_X11_213 dX11_edge_24 rfl ?_
        exact ge_iret C Rr dX11_edge_26
theorem dX11_scraping_0 : decode cX11_scraping 0 = .ok (.aload_n 0, 1) := by decide +kernel
theorem dX11_scraping_1 : decode cX11_scraping 1 = .ok (.iload_n 1, 1) := by decide +kernel
theorem dX11_scraping_2 : decode cX11_scraping 2 = .ok (.invokevirtual 210, 3) := by decide +kernel
theorem dX11_scraping_5 : decode cX11_scraping 5 = .ok (.ifCond .eq 11, 3) := by decide +kernel
theorem dX11_scraping_8 : decode cX11_scraping 8 = .ok (.aload_n 0, 1) := by decide +kernel
theorem dX11_scraping_9 : decode cX11_scraping 9 = .ok (.iload_n 2, 1) := by decide +kernel
theorem dX11_scraping_10 : decode cX11_scraping 10 = .ok (.invokevirtual 283, 3) := by decide +kernel
theorem dX11_scraping_13 : decode cX11_scraping 13 = .ok (.ifCond .ne 6, 3) := by decide +kernel
theorem dX11_scraping_16 : decode cX11_scraping 16 = .ok (.ldc 213, 2) := by decide +kernel
theorem dX11_scraping_18 : decode cX11_scraping 18 = .ok (.ireturn, 1) := by decide +kernel
theorem dX11_scraping_19 : decode cX11_scraping 19 = .ok (.aload_n 0, 1) := by decide +kernel
theorem dX11_scraping_20 : decode cX11_scraping 20 = .ok (.iload_n 1, 1) := by decide +kernel
theorem dX11_scraping_21 : decode cX11_scraping 21 = .ok (.invokevirtual 189, 3) := by decide +kernel
theorem dX11_scraping_24 : decode cX11_scraping 24 = .ok (.iconst 0, 1) := by decide +kernel
theorem dX11_scraping_25 : decode cX11_scraping 25 = .ok (.istore_n 3, 1) := by decide +kernel
theorem dX11_scraping_26 : decode cX11_scraping 26 = .ok (.iconst 0, 1) := by decide +kernel
theorem dX11_scraping_27 : decode cX11_scraping 27 = .ok (.istore 4, 2) := by decide +kernel
theorem dX11_scraping_29 : decode cX11_scraping 29 = .ok (.iload 4, 2) := by decide +kernel
theorem dX11_scraping_31 : decode cX11_scraping 31 = .ok (.iconst 5, 1) := by decide +kernel
theorem dX11_scraping_32 : decode cX11_scraping 32 = .ok (.if_icmp .ge 110, 3) := by decide +kernel
theorem dX11_scraping_35 : decode cX11_scraping 35 = .ok (.iconst 0, 1) := by decide +kernel
theorem dX11_scraping_36 : decode cX11_scraping 36 = .ok (.istore 5, 2) := by decide +kernel
theorem dX11_scraping_38 : decode cX11_scraping 38 = .ok (.iconst 0, 1) := by decide +kernel
theorem dX11_scraping_39 : decode cX11_scraping 39 = .ok (.istore 6, 2) := by decide +kernel
theorem dX11_scraping_41 : decode cX11_scraping 41 = .ok (.iload 6, 2) := by decide +kernel
theorem dX11_scraping_43 : decode cX11_scraping 43 = .ok (.aload_n 0, 1) := by decide +kernel
theorem dX11_scraping_44 : decode cX11_scraping 44 = .ok (.getfield 100, 3) := by decide +kernel
theorem dX11_scraping_47 : decode cX11_scraping 47 = .ok (.if_icmp .ge 70, 3) := by decide +kernel
theorem dX11_scraping_50 : decode cX11_scraping 50 = .ok (.iload_n 2, 1) := by decide +kernel
theorem dX11_scraping_51 : decode cX11_scraping 51 = .ok (.iload 6, 2) := by decide +kernel
theorem dX11_scraping_53 : decode cX11_scraping 53 = .ok (.invokestatic 226, 3) := by decide +kernel
theorem dX11_scraping_56 : decode cX11_scraping 56 = .ok (.ifCond .eq 32, 3) := by decide +kernel
theorem dX11_scraping_59 : decode cX11_scraping 59 = .ok (.aload_n 0, 1) := by decide +kernel
theorem dX11_scraping_60 : decode cX11_scraping 60 = .ok (.getfield 16, 3) := by decide +kernel
theorem dX11_scraping_63 : decode cX11_scraping 63 = .ok (.iload 6, 2) := by decide +kernel
theorem dX11_scraping_65 : decode cX11_scraping 65 = .ok (.iaload, 1) := by decide +kernel
theorem dX11_scraping_66 : decode cX11_scraping 66 = .ok (.iload 4, 2) := by decide +kernel
theorem dX11_scraping_68 : decode cX11_scraping 68 = .ok (.if_icmp .ne 20, 3) := by decide +kernel
theorem dX11_scraping_71 : decode cX11_scraping 71 = .ok (.aload_n 0, 1) := by decide +kernel
theorem dX11_scraping_72 : decode cX11_scraping 72 = .ok (.iload 6, 2) := by decide +kernel
theorem dX11_scraping_74 : decode cX11_scraping 74 = .ok (.invokevirtual 186, 3) := by decide +kernel
theorem dX11_scraping_77 : decode cX11_scraping 77 = .ok (.iconst 5, 1) := by decide +kernel
theorem dX11_scraping_78 : decode cX11_scraping 78 = .ok (.isub, 1) := by decide +kernel
theorem dX11_scraping_79 : decode cX11_scraping 79 = .ok (.iload 5, 2) := by decide +kernel
theorem dX11_scraping_81 : decode cX11_scraping 81 = .ok (.if_icmp .le 7, 3) := by decide +kernel
theorem dX11_scraping_84 : decode cX11_scraping 84 = .ok (.iconst 1, 1) := by decide +kernel
theorem dX11_scraping_85 : decode cX11_scraping 85 = .ok (.goto 4, 3) := by decide +kernel
theorem dX11_scraping_88 : decode cX11_scraping 88 = .ok (.iconst 0, 1) := by decide +kernel
theorem dX11_scraping_89 : decode cX11_scraping 89 = .ok (.istore 7, 2) := by decide +kernel
theorem dX11_scraping_91 : decode cX11_scraping 91 = .ok (.iload 7, 2) := by decide +kernel
theorem dX11_scraping_93 : decode cX11_scraping 93 = .ok (.ifCond .eq 14, 3) := by decide +kernel
theorem dX11_scraping_96 : decode cX11_scraping 96 = .ok (.aload_n 0, 1) := by decide +kernel
theorem dX11_scraping_97 : decode cX11_scraping 97 = .ok (.iload 6, 2) := by decide +kernel
theorem dX11_scraping_99 : decode cX11_scraping 99 = .ok (.invokevirtual 186, 3) := by decide +kernel
theorem dX11_scraping_102 : decode cX11_scraping 102 = .ok (.iconst 5, 1) := by decide +kernel
theorem dX11_scraping_103 : decode cX11_scraping 103 = .ok (.isub, 1) := by decide +kernel
theorem dX11_scraping_104 : decode cX11_scraping 104 = .ok (.goto 5, 3) := by decide +kernel
theorem dX11_scraping_107 : decode cX11_scraping 107 = .ok (.iload 5, 2) := by decide +kernel
theorem dX11_scraping_109 : decode cX11_scraping 109 = .ok (.istore 5, 2) := by decide +kernel
theorem dX11_scraping_111 : decode cX11_scraping 111 = .ok (.iinc 6 1, 3) := by decide +kernel
theorem dX11_scraping_114 : decode cX11_scraping 114 = .ok (.goto (-73), 3) := by decide +kernel
theorem dX11_scraping_117 : decode cX11_scraping 117 = .ok (.iload 5, 2) := by decide +kernel
theorem dX11_scraping_119 : decode cX11_scraping 119 = .ok (.aload_n 0, 1) := by decide +kernel
theorem dX11_scraping_120 : decode cX11_scraping 120 = .ok (.getfield 59, 3) := by decide +kernel
theorem dX11_scraping_123 : decode cX11_scraping 123 = .ok (.iload 4, 2) := by decide +kernel
theorem dX11_scraping_125 : decode cX11_scraping 125 = .ok (.iaload, 1) := by decide +kernel
theorem dX11_scraping_126 : decode cX11_scraping 126 = .ok (.if_icmp .le 5, 3) := by decide +kernel
theorem dX11_scraping_129 : decode cX11_scraping 129 = .ok (.iconst (-1), 1) := by decide +kernel
theorem dX11_scraping_130 : decode cX11_scraping 130 = .ok (.ireturn, 1) := by decide +kernel
theorem dX11_scraping_131 : decode cX11_scraping 131 = .ok (.iload_n 3, 1) := by decide +kernel
theorem dX11_scraping_132 : decode cX11_scraping 132 = .ok (.iload 5, 2) := by decide +kernel
theorem dX11_scraping_134 : decode cX11_scraping 134 = .ok (.iadd, 1) := by decide +kernel
theorem dX11_scraping_135 : decode cX11_scraping 135 = .ok (.istore_n 3, 1) := by decide +kernel
theorem dX11_scraping_136 : decode cX11_scraping 136 = .ok (.iinc 4 1, 3) := by decide +kernel
theorem dX11_scraping_139 : decode cX11_scraping 139 = .ok (.goto (-110), 3) := by decide +kernel
theorem dX11_scraping_142 : decode cX11_scraping 142 = .ok (.iload_n 3, 1) := by decide +kernel
theorem dX11_scraping_143 : decode cX11_scraping 143 = .ok (.ireturn, 1) := by decide +kernel
set_option maxRecDepth 100000 in
set_option maxHeartbeats 4000000 in
theorem mX11_scraping {w : WX} {adr : Nat → Nat → Nat} (hj : Ij adr) (a1 : Int32) (a2 : Int32) (S : St) : ∀ (l : Launch) (r : Int32) (S2 : St), fX11_scraping a1 a2 S = some (r, S2) → Mi l w adr yX11_scraping cX11_scraping 8 (some .int) 2 46 [.ref (adr 35 0), .int a1, .int a2] S r S2 := by
  refine mi_of (lv := [(0, .ref (adr 35 0)), (1, .int a1), (2, .int a2)]) hj (plainFor_of_name (by decide +kernel)) rfl (Nat.le_of_ble_eq_true rfl) (fun k C Rr => ?_)
  have C : Cx w adr k cX11_scraping RX11 8 2 46 := C
  refine ge_aload_n (n := 1) C 0 rfl dX11_scraping_0 rfl rfl ?_
  refine ge_iload_n (n := 2) C 1 rfl dX11_scraping_1 rfl rfl ?_
  refine ge_callVi (n := 5) C (mX11_isMan hj a1 S) gv_X11_210 (cl_35 (by decide)) rfl rfl hc_X11_isMan ⟨Nat.le_of_ble_eq_true rfl, Nat.le_of_ble_eq_true rfl⟩ rfl rfl (Nat.le_of_ble_eq_true rfl) dX11_scraping_2 rfl (fun r_2 S_2 => ?_)
  refine ge_if_eq (t := 16) (n := 8) C dX11_scraping_5 (by decide) rfl (fun h_5 => ?_) (fun h_5 => ?_)
  · refine ge_ldc (n := 18) C kc_X11_213 dX11_scraping_16 rfl ?_
    exact ge_iret C Rr dX11_scraping_18
  · refine ge_aload_n (n := 9) C 0 rfl dX11_scraping_8 rfl rfl ?_
    refine ge_iload_n (n := 10) C 2 rfl dX11_scraping_9 rfl rfl ?_
    refine ge_callVi (n := 13) C (mX11_areSayings hj a2 S_2) gv_X11_283 (cl_35 (by decide)) rfl rfl hc_X11_areSayings ⟨Nat.le_of_ble_eq_true rfl, Nat.le_of_ble_eq_true rfl⟩ rfl rfl (Nat.le_of_ble_eq_true rfl) dX11_scraping_10 rfl (fun r_10 S_10 => ?_)
    refine ge_if_ne (t := 19) (n := 16) C dX11_scraping_13 (by decide) rfl (fun h_13 => ?_) (fun h_13 => ?_)
    · refine ge_aload_n (n := 20) C 0 rfl dX11_scraping_19 rfl rfl ?_
      refine ge_iload_n (n := 21) C 1 rfl dX11_scraping_20 rfl rfl ?_
      refine ge_callVv (n := 24) C (mX11_takesSkin hj a1 S_10) gv_X11_189 (cl_35 (by decide)) rfl rfl hc_X11_takesSkin ⟨Nat.le_of_ble_eq_true rfl, Nat.le_of_ble_eq_true rfl⟩ rfl rfl (Nat.le_of_ble_eq_true rfl) dX11_scraping_21 rfl (fun _ S_21 => ?_)
      refine ge_iconst (v := 0) (n := 25) C dX11_scraping_24 (by decide) rfl ?_
      refine ge_istore_n (n := 26) (lv2 := [(3, .int (0 : Int32)), (0, .ref (adr 35 0)), (1, .int a1), (2, .int a2)]) C dX11_scraping_25 rfl rfl (by decide) rfl ?_
      refine ge_iconst (v := 0) (n := 27) C dX11_scraping_26 (by decide) rfl ?_
      refine ge_istore (n := 29) (lv2 := [(4, .int (0 : Int32)), (3, .int (0 : Int32)), (0, .ref (adr 35 0)), (1, .int a1), (2, .int a2)]) C dX11_scraping_27 rfl (by decide) rfl ?_
      refine ge_jn (fun (jj : Int32 → St → Op) => ∀ (x3_142 : Int32) (S_142 : St), Ge w adr k 142 [(3, .int x3_142)] [] S_142 (jj x3_142 S_142)) (fun x3_142 S_142 => ?_) (fun kk29 hkk29 => ?_)
      · refine ge_iload_n (n := 143) C 0 rfl dX11_scraping_142 rfl rfl ?_
        exact ge_iret C Rr dX11_scraping_143
      refine ge_sub [0, 1, 2, 4] rfl ?_
      refine ge_lop (fun (jj : Int32 → Int32 → St → Op) => ∀ (x4_29 : Int32) (x3_29 : Int32) (S_29 : St), Ge w adr k 29 [(4, .int x4_29), (3, .int x3_29), (0, .ref (adr 35 0)), (2, .int a2)] [] S_29 (jj x4_29 x3_29 S_29)) (fun _ _ _ => ge_none) (fun ag29 hag29 x4_29 x3_29 S_29 => ?_) FU (0 : Int32) (0 : Int32) S_21
      refine ge_iload (n := 31) C 0 rfl dX11_scraping_29 rfl ?_
      refine ge_iconst (v := 5) (n := 32) C dX11_scraping_31 (by decide) rfl ?_
      refine ge_icmp_ge (t := 142) (n := 35) C dX11_scraping_32 (by decide) rfl (fun h_32 => ?_) (fun h_32 => ?_)
      · refine ge_sub [1] rfl ?_
        exact hkk29 x3_29 S_29
      · refine ge_iconst (v := 0) (n := 36) C dX11_scraping_35 (by decide) rfl ?_
        refine ge_istore (n := 38) (lv2 := [(5, .int (0 : Int32)), (4, .int x4_29), (3, .int x3_29), (0, .ref (adr 35 0)), (2, .int a2)]) C dX11_scraping_36 rfl (by decide) rfl ?_
        refine ge_iconst (v := 0) (n := 39) C dX11_scraping_38 (by decide) rfl ?_
        refine ge_istore (n := 41) (lv2 := [(6, .int (0 : Int32)), (5, .int (0 : Int32)), (4, .int x4_29), (3, .int x3_29), (0, .ref (adr 35 0)), (2, .int a2)]) C dX11_scraping_39 rfl (by decide) rfl ?_
        refine ge_jn (fun (jj : Int32 → St → Op) => ∀ (x5_117 : Int32) (S_117 : St), Ge w adr k 117 [(5, .int x5_117), (4, .int x4_29), (3, .int x3_29), (0, .ref (adr 35 0)), (2, .int a2)] [] S_117 (jj x5_117 S_117)) (fun x5_117 S_117 => ?_) (fun kk41 hkk41 => ?_)
        · refine ge_iload (n := 119) C 0 rfl dX11_scraping_117 rfl ?_
          refine ge_aload_n (n := 120) C 3 rfl dX11_scraping_119 rfl rfl ?_
          refine gt_X11_59 (n := 123) C (by decide) dX11_scraping_120 rfl ?_
          refine ge_iload (n := 125) C 1 rfl dX11_scraping_123 rfl ?_
          refine al_51 (n := 126) C (by decide) dX11_scraping_125 rfl ?_
          refine ge_icmp_le (t := 131) (n := 129) C dX11_scraping_126 (by decide) rfl (fun h_126 => ?_) (fun h_126 => ?_)
          · refine ge_iload_n (n := 132) C 2 rfl dX11_scraping_131 rfl rfl ?_
            refine ge_iload (n := 134) C 0 rfl dX11_scraping_132 rfl ?_
            refine ge_iadd (n := 135) C dX11_scraping_134 rfl ?_
            refine ge_bi (fun x3_135 => ?_)
            refine ge_istore_n (n := 136) (lv2 := [(3, .int x3_135), (5, .int x5_117), (4, .int x4_29), (0, .ref (adr 35 0)), (2, .int a2)]) C dX11_scraping_135 rfl rfl (by decide) rfl ?_
            refine ge_iinc (n := 139) (v := (x4_29 + (1 : Int32))) (lv2 := [(4, .int (x4_29 + (1 : Int32))), (3, .int x3_135), (5, .int x5_117), (0, .ref (adr 35 0)), (2, .int a2)]) C 2 rfl dX11_scraping_136 rfl rfl (by decide) rfl ?_
            refine ge_goto (n := 29) C dX11_scraping_139 (by decide) ?_
            refine ge_sub [0, 1, 3, 4] rfl ?_
            exact hag29 (x4_29 + (1 : Int32)) x3_135 S_117
          · refine ge_iconst (v := -1) (n := 130) C dX11_scraping_129 (by decide) rfl ?_
            exact ge_iret C Rr dX11_scraping_130
        refine ge_lop (fun (jj : Int32 → Int32 → St → Op) => ∀ (x6_41 : Int32) (x5_41 : Int32) (S_41 : St), Ge w adr k 41 [(6, .int x6_41), (5, .int x5_41), (4, .int x4_29), (3, .int x3_29), (0, .ref (adr 35 0)), (2, .int a2)] [] S_41 (jj x6_41 x5_41 S_41)) (fun _ _ _ => ge_none) (fun ag41 hag41 x6_41 x5_41 S_41 => ?_) FU (0 : Int32) (0 : Int32) S_29
        refine ge_iload (n := 43) C 0 rfl dX11_scraping_41 rfl ?_
        refine ge_aload_n (n := 44) C 4 rfl dX11_scraping_43 rfl rfl ?_
        refine gt_X11_100 (n := 47) C (by decide) dX11_scraping_44 rfl ?_
        refine ge_icmp_ge (t := 117) (n := 50) C dX11_scraping_47 (by decide) rfl (fun h_47 => ?_) (fun h_47 => ?_)
        · refine ge_sub [1, 2, 3, 4, 5] rfl ?_
          exact hkk41 x5_41 S_41
        · refine ge_iload_n (n := 51) C 5 rfl dX11_scraping_50 rfl rfl ?_
          refine ge_iload (n := 53) C 0 rfl dX11_scraping_51 rfl ?_
          refine ge_callSi (n := 56) C (mX11_has hj a2 x6_41 S_41) gv_X11_226 hc_X11_has ⟨Nat.le_of_ble_eq_true rfl, Nat.le_of_ble_eq_true rfl⟩ rfl rfl (Nat.le_of_ble_eq_true rfl) dX11_scraping_53 rfl (fun r_53 S_53 => ?_)
          refine ge_jn (fun (jj : Int32 → St → Op) => ∀ (v0_89 : Int32) (S_89 : St), Ge w adr k 89 [(6, .int x6_41), (5, .int x5_41), (4, .int x4_29), (3, .int x3_29), (0, .ref (adr 35 0)), (2, .int a2)] [.int v0_89] S_89 (jj v0_89 S_89)) (fun v0_89 S_89 => ?_) (fun j89 hj89 => ?_)
          · refine ge_istore (n := 91) (lv2 := [(7, .int v0_89), (6, .int x6_41), (5, .int x5_41), (4, .int x4_29), (3, .int x3_29), (0, .ref (adr 35 0)), (2, .int a2)]) C dX11_scraping_89 rfl (by decide) rfl ?_
            refine ge_iload (n := 93) C 0 rfl dX11_scraping_91 rfl ?_
            refine ge_if_eq (t := 107) (n := 96) C dX11_scraping_93 (by decide) rfl (fun h_93 => ?_) (fun h_93 => ?_)
            · refine ge_iload (n := 109) C 2 rfl dX11_scraping_107 rfl ?_
              refine ge_istore (n := 111) (lv2 := [(5, .int x5_41), (7, .int v0_89), (6, .int x6_41), (4, .int x4_29), (3, .int x3_29), (0, .ref (adr 35 0)), (2, .int a2)]) C dX11_scraping_109 rfl (by decide) rfl ?_
              refine ge_iinc (n := 114) (v := (x6_41 + (1 : Int32))) (lv2 := [(6, .int (x6_41 + (1 : Int32))), (5, .int x5_41), (7, .int v0_89), (4, .int x4_29), (3, .int x3_29), (0, .ref (adr 35 0)), (2, .int a2)]) C 2 rfl dX11_scraping_111 rfl rfl (by decide) rfl ?_
              refine ge_goto (n := 41) C dX11_scraping_114 (by decide) ?_
              refine ge_sub [0, 1, 3, 4, 5, 6] rfl ?_
              exact hag41 (x6_41 + (1 : Int32)) x5_41 S_89
            · refine ge_aload_n (n := 97) C 5 rfl dX11_scraping_96 rfl rfl ?_
              refine ge_iload (n := 99) C 1 rfl dX11_scraping_97 rfl ?_
              refine ge_callVi (n := 102) C (mX11_hurts hj x6_41 S_89) gv_X11_186 (cl_35 (by decide)) rfl rfl hc_X11_hurts ⟨Nat.le_of_ble_eq_true rfl, Nat.le_of_ble_eq_true rfl⟩ rfl rfl (Nat.le_of_ble_eq_true rfl) dX11_scraping_99 rfl (fun r_99 S_99 => ?_)
              refine ge_iconst (v := 5) (n := 103) C dX11_scraping_102 (by decide) rfl ?_
              refine ge_isub (n := 104) C dX11_scraping_103 rfl ?_
              refine ge_goto (n := 109) C dX11_scraping_104 (by decide) ?_
              refine ge_bi (fun x5_109 => ?_)
              refine ge_istore (n := 111) (lv2 := [(5, .int x5_109), (7, .int v0_89), (6, .int x6_41), (4, .int x4_29), (3, .int x3_29), (0, .ref (adr 35 0)), (2, .int a2)]) C dX11_scraping_109 rfl (by decide) rfl ?_
              refine ge_iinc (n := 114) (v := (x6_41 + (1 : Int32))) (lv2 := [(6, .int (x6_41 + (1 : Int32))), (5, .int x5_109), (7, .int v0_89), (4, .int x4_29), (3, .int x3_29), (0, .ref (adr 35 0)), (2, .int a2)]) C 2 rfl dX11_scraping_111 rfl rfl (by decide) rfl ?_
              refine ge_goto (n := 41) C dX11_scraping_114 (by decide) ?_
              refine ge_sub [0, 1, 3, 4, 5, 6] rfl ?_
              exact hag41 (x6_41 + (1 : Int32)) x5_109 S_99
          refine ge_jn (fun (jj : St → Op) => ∀ (S_88 : St), Ge w adr k 88 [(6, .int x6_41), (5, .int x5_41), (4, .int x4_29), (3, .int x3_29), (0, .ref (adr 35 0)), (2, .int a2)] [] S_88 (jj S_88)) (fun S_88 => ?_) (fun j88 hj88 => ?_)
          · refine ge_iconst (v := 0) (n := 89) C dX11_scraping_88 (by decide) rfl ?_
            exact hj89 (0 : Int32) S_88
          refine ge_if_eq (t := 88) (n := 59) C dX11_scraping_56 (by decide) rfl (fun h_56 => ?_) (fun h_56 => ?_)
          · exact hj88 S_53
          · refine ge_aload_n (n := 60) C 4 rfl dX11_scraping_59 rfl rfl ?_
            refine gt_X11_16 (n := 63) C (by decide) dX11_scraping_60 rfl ?_
            refine ge_iload (n := 65) C 0 rfl dX11_scraping_63 rfl ?_
            refine al_38 (n := 66) C (by decide) dX11_scraping_65 rfl ?_
            refine ge_iload (n := 68) C 2 rfl dX11_scraping_66 rfl ?_
            refine ge_icmp_ne (t := 88) (n := 71) C dX11_scraping_68 (by decide) rfl (fun h_68 => ?_) (fun h_68 => ?_)
            · exact hj88 S_53
            · refine ge_aload_n (n := 72) C 4 rfl dX11_scraping_71 rfl rfl ?_
              refine ge_iload (n := 74) C 0 rfl dX11_scraping_72 rfl ?_
              refine ge_callVi (n := 77) C (mX11_hurts hj x6_41 S_53) gv_X11_186 (cl_35 (by decide)) rfl rfl hc_X11_hurts ⟨Nat.le_of_ble_eq_true rfl, Nat.le_of_ble_eq_true rfl⟩ rfl rfl (Nat.le_of_ble_eq_true rfl) dX11_scraping_74 rfl (fun r_74 S_74 => ?_)
              refine ge_iconst (v := 5) (n := 78) C dX11_scraping_77 (by decide) rfl ?_
              refine ge_isub (n := 79) C dX11_scraping_78 rfl ?_
              refine ge_iload (n := 81) C 1 rfl dX11_scraping_79 rfl ?_
              refine ge_icmp_le (t := 88) (n := 84) C dX11_scraping_81 (by decide) rfl (fun h_81 => ?_) (fun h_81 => ?_)
              · exact hj88 S_74
              · refine ge_iconst (v := 1) (n := 85) C dX11_scraping_84 (by decide) rfl ?_
                refine ge_goto (n := 89) C dX11_scraping_85 (by decide) ?_
                exact hj89 (1 : Int32) S_74
    · refine ge_ldc (n := 18) C kc_X11_213 dX11_scraping_16 rfl ?_
      exact ge_iret C Rr dX11_scraping_18
theorem dX11_goThrough_0 : decode cX11_goThrough 0 = .ok (.iconst 1, 1) := by decide +kernel
theorem dX11_goThrough_1 : decode cX11_goThrough 1 = .ok (.istore_n 3, 1) := by decide +kernel
theorem dX11_goThrough_2 : decode cX11_goThrough 2 = .ok (.iconst 1, 1) := by decide +kernel
theorem dX11_goThrough_3 : decode cX11_goThrough 3 = .ok (.istore 4, 2) := by decide +kernel
theorem dX11_goThrough_5 : decode cX11_goThrough 5 = .ok (.iconst 0, 1) := by decide +kernel
theorem dX11_goThrough_6 : decode cX11_goThrough 6 = .ok (.istore 5, 2) := by decide +kernel
theorem dX11_goThrough_8 : decode cX11_goThrough 8 = .ok (.iload 5, 2) := by decide +kernel
theorem dX11_goThrough_10 : decode cX11_goThrough 10 = .ok (.aload_n 0, 1) := by decide +kernel
theorem dX11_goThrough_11 : decode cX11_goThrough 11 = .ok (.getfield 93, 3) := by decide +kernel
theorem dX11_goThrough_14 : decode cX11_goThrough 14 = .ok (.if_icmp .ge 61, 3) := by decide +kernel
theorem dX11_goThrough_17 : decode cX11_goThrough 17 = .ok (.iload_n 3, 1) := by decide +kernel
theorem dX11_goThrough_18 : decode cX11_goThrough 18 = .ok (.iload_n 1, 1) := by decide +kernel
theorem dX11_goThrough_19 : decode cX11_goThrough 19 = .ok (.iload 5, 2) := by decide +kernel
theorem dX11_goThrough_21 : decode cX11_goThrough 21 = .ok (.invokestatic 226, 3) := by decide +kernel
theorem dX11_goThrough_24 : decode cX11_goThrough 24 = .ok (.ifCond .eq 10, 3) := by decide +kernel
theorem dX11_goThrough_27 : decode cX11_goThrough 27 = .ok (.aload_n 0, 1) := by decide +kernel
theorem dX11_goThrough_28 : decode cX11_goThrough 28 = .ok (.getfield 90, 3) := by decide +kernel
theorem dX11_goThrough_31 : decode cX11_goThrough 31 = .ok (.goto 4, 3) := by decide +kernel
theorem dX11_goThrough_34 : decode cX11_goThrough 34 = .ok (.iconst 1, 1) := by decide +kernel
theorem dX11_goThrough_35 : decode cX11_goThrough 35 = .ok (.imul, 1) := by decide +kernel
theorem dX11_goThrough_36 : decode cX11_goThrough 36 = .ok (.istore_n 3, 1) := by decide +kernel
theorem dX11_goThrough_37 : decode cX11_goThrough 37 = .ok (.iload 4, 2) := by decide +kernel
theorem dX11_goThrough_39 : decode cX11_goThrough 39 = .ok (.ifCond .eq 27, 3) := by decide +kernel
theorem dX11_goThrough_42 : decode cX11_goThrough 42 = .ok (.iload_n 1, 1) := by decide +kernel
theorem dX11_goThrough_43 : decode cX11_goThrough 43 = .ok (.iload 5, 2) := by decide +kernel
theorem dX11_goThrough_45 : decode cX11_goThrough 45 = .ok (.invokestatic 226, 3) := by decide +kernel
theorem dX11_goThrough_48 : decode cX11_goThrough 48 = .ok (.ifCond .eq 14, 3) := by decide +kernel
theorem dX11_goThrough_51 : decode cX11_goThrough 51 = .ok (.aload_n 0, 1) := by decide +kernel
theorem dX11_goThrough_52 : decode cX11_goThrough 52 = .ok (.getfield 71, 3) := by decide +kernel
theorem dX11_goThrough_55 : decode cX11_goThrough 55 = .ok (.iload 5, 2) := by decide +kernel
theorem dX11_goThrough_57 : decode cX11_goThrough 57 = .ok (.iaload, 1) := by decide +kernel
theorem dX11_goThrough_58 : decode cX11_goThrough 58 = .ok (.iload_n 2, 1) := by decide +kernel
theorem dX11_goThrough_59 : decode cX11_goThrough 59 = .ok (.if_icmp .gt 7, 3) := by decide +kernel
theorem dX11_goThrough_62 : decode cX11_goThrough 62 = .ok (.iconst 1, 1) := by decide +kernel
theorem dX11_goThrough_63 : decode cX11_goThrough 63 = .ok (.goto 4, 3) := by decide +kernel
theorem dX11_goThrough_66 : decode cX11_goThrough 66 = .ok (.iconst 0, 1) := by decide +kernel
theorem dX11_goThrough_67 : decode cX11_goThrough 67 = .ok (.istore 4, 2) := by decide +kernel
theorem dX11_goThrough_69 : decode cX11_goThrough 69 = .ok (.iinc 5 1, 3) := by decide +kernel
theorem dX11_goThrough_72 : decode cX11_goThrough 72 = .ok (.goto (-64), 3) := by decide +kernel
theorem dX11_goThrough_75 : decode cX11_goThrough 75 = .ok (.iconst 0, 1) := by decide +kernel
theorem dX11_goThrough_76 : decode cX11_goThrough 76 = .ok (.istore 5, 2) := by decide +kernel
theorem dX11_goThrough_78 : decode cX11_goThrough 78 = .ok (.iconst 0, 1) := by decide +kernel
theorem dX11_goThrough_79 : decode cX11_goThrough 79 = .ok (.istore 6, 2) := by decide +kernel
theorem dX11_goThrough_81 : decode cX11_goThrough 81 = .ok (.iload 6, 2) := by decide +kernel
theorem dX11_goThrough_83 : decode cX11_goThrough 83 = .ok (.iload_n 3, 1) := by decide +kernel
theorem dX11_goThrough_84 : decode cX11_goThrough 84 = .ok (.if_icmp .ge 139, 3) := by decide +kernel
theorem dX11_goThrough_87 : decode cX11_goThrough 87 = .ok (.iload 4, 2) := by decide +kernel
theorem dX11_goThrough_89 : decode cX11_goThrough 89 = .ok (.ifCond .eq 134, 3) := by decide +kernel
theorem dX11_goThrough_92 : decode cX11_goThrough 92 = .ok (.iload 5, 2) := by decide +kernel
theorem dX11_goThrough_94 : decode cX11_goThrough 94 = .ok (.ifCond .ne 129, 3) := by decide +kernel
theorem dX11_goThrough_97 : decode cX11_goThrough 97 = .ok (.iload 6, 2) := by decide +kernel
theorem dX11_goThrough_99 : decode cX11_goThrough 99 = .ok (.istore 7, 2) := by decide +kernel
theorem dX11_goThrough_101 : decode cX11_goThrough 101 = .ok (.aload_n 0, 1) := by decide +kernel
theorem dX11_goThrough_102 : decode cX11_goThrough 102 = .ok (.getfield 74, 3) := by decide +kernel
theorem dX11_goThrough_105 : decode cX11_goThrough 105 = .ok (.iconst 0, 1) := by decide +kernel
theorem dX11_goThrough_106 : decode cX11_goThrough 106 = .ok (.iconst 0, 1) := by decide +kernel
theorem dX11_goThrough_107 : decode cX11_goThrough 107 = .ok (.iastore, 1) := by decide +kernel
theorem dX11_goThrough_108 : decode cX11_goThrough 108 = .ok (.aload_n 0, 1) := by decide +kernel
theorem dX11_goThrough_109 : decode cX11_goThrough 109 = .ok (.getfield 74, 3) := by decide +kernel
theorem dX11_goThrough_112 : decode cX11_goThrough 112 = .ok (.iconst 1, 1) := by decide +kernel
theorem dX11_goThrough_113 : decode cX11_goThrough 113 = .ok (.iconst 0, 1) := by decide +kernel
theorem dX11_goThrough_114 : decode cX11_goThrough 114 = .ok (.iastore, 1) := by decide +kernel
theorem dX11_goThrough_115 : decode cX11_goThrough 115 = .ok (.aload_n 0, 1) := by decide +kernel
theorem dX11_goThrough_116 : decode cX11_goThrough 116 = .ok (.getfield 74, 3) := by decide +kernel
theorem dX11_goThrough_119 : decode cX11_goThrough 119 = .ok (.iconst 2, 1) := by decide +kernel
theorem dX11_goThrough_120 : decode cX11_goThrough 120 = .ok (.iconst 0, 1) := by decide +kernel
theorem dX11_goThrough_121 : decode cX11_goThrough 121 = .ok (.iastore, 1) := by decide +kernel
theorem dX11_goThrough_122 : decode cX11_goThrough 122 = .ok (.iconst 0, 1) := by decide +kernel
theorem dX11_goThrough_123 : decode cX11_goThrough 123 = .ok (.istore 8, 2) := by decide +kernel
theorem dX11_goThrough_125 : decode cX11_goThrough 125 = .ok (.iload 8, 2) := by decide +kernel
theorem dX11_goThrough_127 : decode cX11_goThrough 127 = .ok (.aload_n 0, 1) := by decide +kernel
theorem dX11_goThrough_128 : decode cX11_goThrough 128 = .ok (.getfield 93, 3) := by decide +kernel
theorem dX11_goThrough_131 : decode cX11_goThrough 131 = .ok (.if_icmp .ge 49, 3) := by decide +kernel
theorem dX11_goThrough_134 : decode cX11_goThrough 134 = .ok (.iload_n 1, 1) := by decide +kernel
theorem dX11_goThrough_135 : decode cX11_goThrough 135 = .ok (.iload 8, 2) := by decide +kernel
theorem dX11_goThrough_137 : decode cX11_goThrough 137 = .ok (.invokestatic 226, 3) := by decide +kernel
theorem dX11_goThrough_140 : decode cX11_goThrough 140 = .ok (.ifCond .eq 34, 3) := by decide +kernel
theorem dX11_goThrough_143 : decode cX11_goThrough 143 = .ok (.aload_n 0, 1) := by decide +kernel
theorem dX11_goThrough_144 : decode cX11_goThrough 144 = .ok (.getfield 74, 3) := by decide +kernel
theorem dX11_goThrough_147 : decode cX11_goThrough 147 = .ok (.iload 7, 2) := by decide +kernel
theorem dX11_goThrough_149 : decode cX11_goThrough 149 = .ok (.aload_n 0, 1) := by decide +kernel
theorem dX11_goThrough_150 : decode cX11_goThrough 150 = .ok (.getfield 90, 3) := by decide +kernel
theorem dX11_goThrough_153 : decode cX11_goThrough 153 = .ok (.irem, 1) := by decide +kernel
theorem dX11_goThrough_154 : decode cX11_goThrough 154 = .ok (.dup2, 1) := by decide +kernel
theorem dX11_goThrough_155 : decode cX11_goThrough 155 = .ok (.iaload, 1) := by decide +kernel
theorem dX11_goThrough_156 : decode cX11_goThrough 156 = .ok (.aload_n 0, 1) := by decide +kernel
theorem dX11_goThrough_157 : decode cX11_goThrough 157 = .ok (.getfield 71, 3) := by decide +kernel
theorem dX11_goThrough_160 : decode cX11_goThrough 160 = .ok (.iload 8, 2) := by decide +kernel
theorem dX11_goThrough_162 : decode cX11_goThrough 162 = .ok (.iaload, 1) := by decide +kernel
theorem dX11_goThrough_163 : decode cX11_goThrough 163 = .ok (.iadd, 1) := by decide +kernel
theorem dX11_goThrough_164 : decode cX11_goThrough 164 = .ok (.iastore, 1) := by decide +kernel
theorem dX11_goThrough_165 : decode cX11_goThrough 165 = .ok (.iload 7, 2) := by decide +kernel
theorem dX11_goThrough_167 : decode cX11_goThrough 167 = .ok (.aload_n 0, 1) := by decide +kernel
theorem dX11_goThrough_168 : decode cX11_goThrough 168 = .ok (.getfield 90, 3) := by decide +kernel
theorem dX11_goThrough_171 : decode cX11_goThrough 171 = .ok (.idiv, 1) := by decide +kernel
theorem dX11_goThrough_172 : decode cX11_goThrough 172 = .ok (.istore 7, 2) := by decide +kernel
theorem dX11_goThrough_174 : decode cX11_goThrough 174 = .ok (.iinc 8 1, 3) := by decide +kernel
theorem dX11_goThrough_177 : decode cX11_goThrough 177 = .ok (.goto (-52), 3) := by decide +kernel
theorem dX11_goThrough_180 : decode cX11_goThrough 180 = .ok (.aload_n 0, 1) := by decide +kernel
theorem dX11_goThrough_181 : decode cX11_goThrough 181 = .ok (.getfield 74, 3) := by decide +kernel
theorem dX11_goThrough_184 : decode cX11_goThrough 184 = .ok (.iconst 0, 1) := by decide +kernel
theorem dX11_goThrough_185 : decode cX11_goThrough 185 = .ok (.iaload, 1) := by decide +kernel
theorem dX11_goThrough_186 : decode cX11_goThrough 186 = .ok (.iload_n 2, 1) := by decide +kernel
theorem dX11_goThrough_187 : decode cX11_goThrough 187 = .ok (.if_icmp .gt 27, 3) := by decide +kernel
theorem dX11_goThrough_190 : decode cX11_goThrough 190 = .ok (.aload_n 0, 1) := by decide +kernel
theorem dX11_goThrough_191 : decode cX11_goThrough 191 = .ok (.getfield 74, 3) := by decide +kernel
theorem dX11_goThrough_194 : decode cX11_goThrough 194 = .ok (.iconst 1, 1) := by decide +kernel
theorem dX11_goThrough_195 : decode cX11_goThrough 195 = .ok (.iaload, 1) := by decide +kernel
theorem dX11_goThrough_196 : decode cX11_goThrough 196 = .ok (.iload_n 2, 1) := by decide +kernel
theorem dX11_goThrough_197 : decode cX11_goThrough 197 = .ok (.if_icmp .gt 17, 3) := by decide +kernel
theorem dX11_goThrough_200 : decode cX11_goThrough 200 = .ok (.aload_n 0, 1) := by decide +kernel
theorem dX11_goThrough_201 : decode cX11_goThrough 201 = .ok (.getfield 74, 3) := by decide +kernel
theorem dX11_goThrough_204 : decode cX11_goThrough 204 = .ok (.iconst 2, 1) := by decide +kernel
theorem dX11_goThrough_205 : decode cX11_goThrough 205 = .ok (.iaload, 1) := by decide +kernel
theorem dX11_goThrough_206 : decode cX11_goThrough 206 = .ok (.iload_n 2, 1) := by decide +kernel
theorem dX11_goThrough_207 : decode cX11_goThrough 207 = .ok (.if_icmp .gt 7, 3) := by decide +kernel
theorem dX11_goThrough_210 : decode cX11_goThrough 210 = .ok (.iconst 1, 1) := by decide +kernel
theorem dX11_goThrough_211 : decode cX11_goThrough 211 = .ok (.goto 4, 3) := by decide +kernel
theorem dX11_goThrough_214 : decode cX11_goThrough 214 = .ok (.iconst 0, 1) := by decide +kernel
theorem dX11_goThrough_215 : decode cX11_goThrough 215 = .ok (.istore 5, 2) := by decide +kernel
theorem dX11_goThrough_217 : decode cX11_goThrough 217 = .ok (.iinc 6 1, 3) := by decide +kernel
theorem dX11_goThrough_220 : decode cX11_goThrough 220 = .ok (.goto (-139), 3) := by decide +kernel
theorem dX11_goThrough_223 : decode cX11_goThrough 223 = .ok (.iload 5, 2) := by decide +kernel
theorem dX11_goThrough_225 : decode cX11_goThrough 225 = .ok (.ireturn, 1) := by decide +kernel
set_option maxRecDepth 100000 in
set_option maxHeartbeats 4000000 in
theorem mX11_goThrough {w : WX} {adr : Nat → Nat → Nat} (hj : Ij adr) (a1 : Int32) (a2 : Int32) (S : St) : ∀ (l : Launch) (r : Int32) (S2 : St), fX11_goThrough a1 a2 S = some (r, S2) → Mi l w adr yX11_goThrough cX11_goThrough 9 (some .boolean) 1 21 [.ref (adr 35 0), .int a1, .int a2] S r S2 := by
  refine mi_of (lv := [(0, .ref (adr 35 0)), (1, .int a1), (2, .int a2)]) hj (plainFor_of_name (by decide +kernel)) rfl (Nat.le_of_ble_eq_true rfl) (fun k C Rr => ?_)
  have C : Cx w adr k cX11_goThrough RX11 9 1 21 := C
  refine ge_iconst (v := 1) (n := 1) C dX11_goThrough_0 (by decide) rfl ?_
  refine ge_istore_n (n := 2) (lv2 := [(3, .int (1 : Int32)), (0, .ref (adr 35 0)), (1, .int a1), (2, .int a2)]) C dX11_goThrough_1 rfl rfl (by decide) rfl ?_
  refine ge_iconst (v := 1) (n := 3) C dX11_goThrough_2 (by decide) rfl ?_
  refine ge_istore (n := 5) (lv2 := [(4, .int (1 : Int32)), (3, .int (1 : Int32)), (0, .ref (adr 35 0)), (1, .int a1), (2, .int a2)]) C dX11_goThrough_3 rfl (by decide) rfl ?_
  refine ge_iconst (v := 0) (n := 6) C dX11_goThrough_5 (by decide) rfl ?_
  refine ge_istore (n := 8) (lv2 := [(5, .int (0 : Int32)), (4, .int (1 : Int32)), (3, .int (1 : Int32)), (0, .ref (adr 35 0)), (1, .int a1), (2, .int a2)]) C dX11_goThrough_6 rfl (by decide) rfl ?_
  refine ge_jn (fun (jj : Int32 → Int32 → St → Op) => ∀ (x4_75 : Int32) (x3_75 : Int32) (S_75 : St), Ge w adr k 75 [(4, .int x4_75), (3, .int x3_75), (0, .ref (adr 35 0)), (1, .int a1), (2, .int a2)] [] S_75 (jj x4_75 x3_75 S_75)) (fun x4_75 x3_75 S_75 => ?_) (fun kk8 hkk8 => ?_)
  · refine ge_iconst (v := 0) (n := 76) C dX11_goThrough_75 (by decide) rfl ?_
    refine ge_istore (n := 78) (lv2 := [(5, .int (0 : Int32)), (4, .int x4_75), (3, .int x3_75), (0, .ref (adr 35 0)), (1, .int a1), (2, .int a2)]) C dX11_goThrough_76 rfl (by decide) rfl ?_
    refine ge_iconst (v := 0) (n := 79) C dX11_goThrough_78 (by decide) rfl ?_
    refine ge_istore (n := 81) (lv2 := [(6, .int (0 : Int32)), (5, .int (0 : Int32)), (4, .int x4_75), (3, .int x3_75), (0, .ref (adr 35 0)), (1, .int a1), (2, .int a2)]) C dX11_goThrough_79 rfl (by decide) rfl ?_
    refine ge_jn (fun (jj : Int32 → St → Op) => ∀ (x5_223 : Int32) (S_223 : St), Ge w adr k 223 [(5, .int x5_223)] [] S_223 (jj x5_223 S_223)) (fun x5_223 S_223 => ?_) (fun kk81 hkk81 => ?_)
    · refine ge_iload (n := 225) C 0 rfl dX11_goThrough_223 rfl ?_
      exact ge_zretb C Rr dX11_goThrough_225
    refine ge_lop (fun (jj : Int32 → Int32 → St → Op) => ∀ (x6_81 : Int32) (x5_81 : Int32) (S_81 : St), Ge w adr k 81 [(6, .int x6_81), (5, .int x5_81), (4, .int x4_75), (3, .int x3_75), (0, .ref (adr 35 0)), (1, .int a1), (2, .int a2)] [] S_81 (jj x6_81 x5_81 S_81)) (fun _ _ _ => ge_none) (fun ag81 hag81 x6_81 x5_81 S_81 => ?_) FU (0 : Int32) (0 : Int32) S_75
    refine ge_iload (n := 83) C 0 rfl dX11_goThrough_81 rfl ?_
    refine ge_iload_n (n := 84) C 3 rfl dX11_goThrough_83 rfl rfl ?_
    refine ge_icmp_ge (t := 223) (n := 87) C dX11_goThrough_84 (by decide) rfl (fun h_84 => ?_) (fun h_84 => ?_)
    · refine ge_sub [1] rfl ?_
      exact hkk81 x5_81 S_81
    · refine ge_iload (n := 89) C 2 rfl dX11_goThrough_87 rfl ?_
      refine ge_if_eq (t := 223) (n := 92) C dX11_goThrough_89 (by decide) rfl (fun h_89 => ?_) (fun h_89 => ?_)
      · refine ge_sub [1] rfl ?_
        exact hkk81 x5_81 S_81
      · refine ge_iload (n := 94) C 1 rfl dX11_goThrough_92 rfl ?_
        refine ge_if_ne (t := 223) (n := 97) C dX11_goThrough_94 (by decide) rfl (fun h_94 => ?_) (fun h_94 => ?_)
        · refine ge_sub [1] rfl ?_
          exact hkk81 x5_81 S_81
        · refine ge_iload (n := 99) C 0 rfl dX11_goThrough_97 rfl ?_
          refine ge_istore (n := 101) (lv2 := [(7, .int x6_81), (6, .int x6_81), (5, .int x5_81), (4, .int x4_75), (3, .int x3_75), (0, .ref (adr 35 0)), (1, .int a1), (2, .int a2)]) C dX11_goThrough_99 rfl (by decide) rfl ?_
          refine ge_aload_n (n := 102) C 5 rfl dX11_goThrough_101 rfl rfl ?_
          refine gt_X11_74 (n := 105) C (by decide) dX11_goThrough_102 rfl ?_
          refine ge_iconst (v := 0) (n := 106) C dX11_goThrough_105 (by decide) rfl ?_
          refine ge_iconst (v := 0) (n := 107) C dX11_goThrough_106 (by decide) rfl ?_
          refine as_56 (n := 108) C (by decide) dX11_goThrough_107 rfl (fun S_107 => ?_)
          refine ge_aload_n (n := 109) C 5 rfl dX11_goThrough_108 rfl rfl ?_
          refine gt_X11_74 (n := 112) C (by decide) dX11_goThrough_109 rfl ?_
          refine ge_iconst (v := 1) (n := 113) C dX11_goThrough_112 (by decide) rfl ?_
          refine ge_iconst (v := 0) (n := 114) C dX11_goThrough_113 (by decide) rfl ?_
          refine as_56 (n := 115) C (by decide) dX11_goThrough_114 rfl (fun S_114 => ?_)
          refine ge_aload_n (n := 116) C 5 rfl dX11_goThrough_115 rfl rfl ?_
          refine gt_X11_74 (n := 119) C (by decide) dX11_goThrough_116 rfl ?_
          refine ge_iconst (v := 2) (n := 120) C dX11_goThrough_119 (by decide) rfl ?_
          refine ge_iconst (v := 0) (n := 121) C dX11_goThrough_120 (by decide) rfl ?_
          refine as_56 (n := 122) C (by decide) dX11_goThrough_121 rfl (fun S_121 => ?_)
          refine ge_iconst (v := 0) (n := 123) C dX11_goThrough_122 (by decide) rfl ?_
          refine ge_istore (n := 125) (lv2 := [(8, .int (0 : Int32)), (7, .int x6_81), (6, .int x6_81), (5, .int x5_81), (4, .int x4_75), (3, .int x3_75), (0, .ref (adr 35 0)), (1, .int a1), (2, .int a2)]) C dX11_goThrough_123 rfl (by decide) rfl ?_
          refine ge_jn (fun (jj : St → Op) => ∀ (S_180 : St), Ge w adr k 180 [(6, .int x6_81), (4, .int x4_75), (3, .int x3_75), (0, .ref (adr 35 0)), (1, .int a1), (2, .int a2)] [] S_180 (jj S_180)) (fun S_180 => ?_) (fun kk125 hkk125 => ?_)
          · refine ge_aload_n (n := 181) C 3 rfl dX11_goThrough_180 rfl rfl ?_
            refine gt_X11_74 (n := 184) C (by decide) dX11_goThrough_181 rfl ?_
            refine ge_iconst (v := 0) (n := 185) C dX11_goThrough_184 (by decide) rfl ?_
            refine al_56 (n := 186) C (by decide) dX11_goThrough_185 rfl ?_
            refine ge_iload_n (n := 187) C 5 rfl dX11_goThrough_186 rfl rfl ?_
            refine ge_icmp_gt (t := 214) (n := 190) C dX11_goThrough_187 (by decide) rfl (fun h_187 => ?_) (fun h_187 => ?_)
            · refine ge_iconst (v := 0) (n := 215) C dX11_goThrough_214 (by decide) rfl ?_
              refine ge_istore (n := 217) (lv2 := [(5, .int (0 : Int32)), (6, .int x6_81), (4, .int x4_75), (3, .int x3_75), (0, .ref (adr 35 0)), (1, .int a1), (2, .int a2)]) C dX11_goThrough_215 rfl (by decide) rfl ?_
              refine ge_iinc (n := 220) (v := (x6_81 + (1 : Int32))) (lv2 := [(6, .int (x6_81 + (1 : Int32))), (5, .int (0 : Int32)), (4, .int x4_75), (3, .int x3_75), (0, .ref (adr 35 0)), (1, .int a1), (2, .int a2)]) C 1 rfl dX11_goThrough_217 rfl rfl (by decide) rfl ?_
              refine ge_goto (n := 81) C dX11_goThrough_220 (by decide) ?_
              exact hag81 (x6_81 + (1 : Int32)) (0 : Int32) S_180
            · refine ge_aload_n (n := 191) C 3 rfl dX11_goThrough_190 rfl rfl ?_
              refine gt_X11_74 (n := 194) C (by decide) dX11_goThrough_191 rfl ?_
              refine ge_iconst (v := 1) (n := 195) C dX11_goThrough_194 (by decide) rfl ?_
              refine al_56 (n := 196) C (by decide) dX11_goThrough_195 rfl ?_
              refine ge_iload_n (n := 197) C 5 rfl dX11_goThrough_196 rfl rfl ?_
              refine ge_icmp_gt (t := 214) (n := 200) C dX11_goThrough_197 (by decide) rfl (fun h_197 => ?_) (fun h_197 => ?_)
              · refine ge_iconst (v := 0) (n := 215) C dX11_goThrough_214 (by decide) rfl ?_
                refine ge_istore (n := 217) (lv2 := [(5, .int (0 : Int32)), (6, .int x6_81), (4, .int x4_75), (3, .int x3_75), (0, .ref (adr 35 0)), (1, .int a1), (2, .int a2)]) C dX11_goThrough_215 rfl (by decide) rfl ?_
                refine ge_iinc (n := 220) (v := (x6_81 + (1 : Int32))) (lv2 := [(6, .int (x6_81 + (1 : Int32))), (5, .int (0 : Int32)), (4, .int x4_75), (3, .int x3_75), (0, .ref (adr 35 0)), (1, .int a1), (2, .int a2)]) C 1 rfl dX11_goThrough_217 rfl rfl (by decide) rfl ?_
                refine ge_goto (n := 81) C dX11_goThrough_220 (by decide) ?_
                exact hag81 (x6_81 + (1 : Int32)) (0 : Int32) S_180
              · refine ge_aload_n (n := 201) C 3 rfl dX11_goThrough_200 rfl rfl ?_
                refine gt_X11_74 (n := 204) C (by decide) dX11_goThrough_201 rfl ?_
                refine ge_iconst (v := 2) (n := 205) C dX11_goThrough_204 (by decide) rfl ?_
                refine al_56 (n := 206) C (by decide) dX11_goThrough_205 rfl ?_
                refine ge_iload_n (n := 207) C 5 rfl dX11_goThrough_206 rfl rfl ?_
                refine ge_icmp_gt (t := 214) (n := 210) C dX11_goThrough_207 (by decide) rfl (fun h_207 => ?_) (fun h_207 => ?_)
                · refine ge_iconst (v := 0) (n := 215) C dX11_goThrough_214 (by decide) rfl ?_
                  refine ge_istore (n := 217) (lv2 := [(5, .int (0 : Int32)), (6, .int x6_81), (4, .int x4_75), (3, .int x3_75), (0, .ref (adr 35 0)), (1, .int a1), (2, .int a2)]) C dX11_goThrough_215 rfl (by decide) rfl ?_
                  refine ge_iinc (n := 220) (v := (x6_81 + (1 : Int32))) (lv2 := [(6, .int (x6_81 + (1 : Int32))), (5, .int (0 : Int32)), (4, .int x4_75), (3, .int x3_75), (0, .ref (adr 35 0)), (1, .int a1), (2, .int a2)]) C 1 rfl dX11_goThrough_217 rfl rfl (by decide) rfl ?_
                  refine ge_goto (n := 81) C dX11_goThrough_220 (by decide) ?_
                  exact hag81 (x6_81 + (1 : Int32)) (0 : Int32) S_180
                · refine ge_iconst (v := 1) (n := 211) C dX11_goThrough_210 (by decide) rfl ?_
                  refine ge_goto (n := 215) C dX11_goThrough_211 (by decide) ?_
                  refine ge_istore (n := 217) (lv2 := [(5, .int (1 : Int32)), (6, .int x6_81), (4, .int x4_75), (3, .int x3_75), (0, .ref (adr 35 0)), (1, .int a1), (2, .int a2)]) C dX11_goThrough_215 rfl (by decide) rfl ?_
                  refine ge_iinc (n := 220) (v := (x6_81 + (1 : Int32))) (lv2 := [(6, .int (x6_81 + (1 : Int32))), (5, .int (1 : Int32)), (4, .int x4_75), (3, .int x3_75), (0, .ref (adr 35 0)), (1, .int a1), (2, .int a2)]) C 1 rfl dX11_goThrough_217 rfl rfl (by decide) rfl ?_
                  refine ge_goto (n := 81) C dX11_goThrough_220 (by decide) ?_
                  exact hag81 (x6_81 + (1 : Int32)) (1 : Int32) S_180
          refine ge_sub [0, 1, 2, 4, 5, 6, 7, 8] rfl ?_
          refine ge_lop (fun (jj : Int32 → Int32 → St → Op) => ∀ (x8_125 : Int32) (x7_125 : Int32) (S_125 : St), Ge w adr k 125 [(8, .int x8_125), (7, .int x7_125), (6, .int x6_81), (4, .int x4_75), (3, .int x3_75), (0, .ref (adr 35 0)), (1, .int a1), (2, .int a2)] [] S_125 (jj x8_125 x7_125 S_125)) (fun _ _ _ => ge_none) (fun ag125 hag125 x8_125 x7_125 S_125 => ?_) FU (0 : Int32) x6_81 S_121
          refine ge_iload (n := 127) C 0 rfl dX11_goThrough_125 rfl ?_
          refine ge_aload_n (n := 128) C 5 rfl dX11_goThrough_127 rfl rfl ?_
          refine gt_X11_93 (n := 131) C (by decide) dX11_goThrough_128 rfl ?_
          refine ge_icmp_ge (t := 180) (n := 134) C dX11_goThrough_131 (by decide) rfl (fun h_131 => ?_) (fun h_131 => ?_)
          · refine ge_sub [2, 3, 4, 5, 6, 7] rfl ?_
            exact hkk125 S_125
          · refine ge_iload_n (n := 135) C 6 rfl dX11_goThrough_134 rfl rfl ?_
            refine ge_iload (n := 137) C 0 rfl dX11_goThrough_135 rfl ?_
            refine ge_callSi (n := 140) C (mX11_has hj a1 x8_125 S_125) gv_X11_226 hc_X11_has ⟨Nat.le_of_ble_eq_true rfl, Nat.le_of_ble_eq_true rfl⟩ rfl rfl (Nat.le_of_ble_eq_true rfl) dX11_goThrough_137 rfl (fun r_137 S_137 => ?_)
            refine ge_if_eq (t := 174) (n := 143) C dX11_goThrough_140 (by decide) rfl (fun h_140 => ?_) (fun h_140 => ?_)
            · refine ge_iinc (n := 177) (v := (x8_125 + (1 : Int32))) (lv2 := [(8, .int (x8_125 + (1 : Int32))), (7, .int x7_125), (6, .int x6_81), (4, .int x4_75), (3, .int x3_75), (0, .ref (adr 35 0)), (1, .int a1), (2, .int a2)]) C 0 rfl dX11_goThrough_174 rfl rfl (by decide) rfl ?_
              refine ge_goto (n := 125) C dX11_goThrough_177 (by decide) ?_
              exact hag125 (x8_125 + (1 : Int32)) x7_125 S_137
            · refine ge_aload_n (n := 144) C 5 rfl dX11_goThrough_143 rfl rfl ?_
              refine gt_X11_74 (n := 147) C (by decide) dX11_goThrough_144 rfl ?_
              refine ge_iload (n := 149) C 1 rfl dX11_goThrough_147 rfl ?_
              refine ge_aload_n (n := 150) C 5 rfl dX11_goThrough_149 rfl rfl ?_
              refine gt_X11_90 (n := 153) C (by decide) dX11_goThrough_150 rfl ?_
              refine ge_irem (n := 154) C dX11_goThrough_153 rfl (fun _ => ?_)
              refine ge_dup2 (n := 155) C dX11_goThrough_154 rfl rfl rfl ?_
              refine al_56 (n := 156) C (by decide) dX11_goThrough_155 rfl ?_
              refine ge_aload_n (n := 157) C 5 rfl dX11_goThrough_156 rfl rfl ?_
              refine gt_X11_71 (n := 160) C (by decide) dX11_goThrough_157 rfl ?_
              refine ge_iload (n := 162) C 0 rfl dX11_goThrough_160 rfl ?_
              refine al_55 (n := 163) C (by decide) dX11_goThrough_162 rfl ?_
              refine ge_iadd (n := 164) C dX11_goThrough_163 rfl ?_
              refine as_56 (n := 165) C (by decide) dX11_goThrough_164 rfl (fun S_164 => ?_)
              refine ge_iload (n := 167) C 1 rfl dX11_goThrough_165 rfl ?_
              refine ge_aload_n (n := 168) C 5 rfl dX11_goThrough_167 rfl rfl ?_
              refine gt_X11_90 (n := 171) C (by decide) dX11_goThrough_168 rfl ?_
              refine ge_idiv (n := 172) C dX11_goThrough_171 rfl (fun _ => ?_)
              refine ge_bi (fun x7_172 => ?_)
              refine ge_istore (n := 174) (lv2 := [(7, .int x7_172), (8, .int x8_125), (6, .int x6_81), (4, .int x4_75), (3, .int x3_75), (0, .ref (adr 35 0)), (1, .int a1), (2, .int a2)]) C dX11_goThrough_172 rfl (by decide) rfl ?_
              refine ge_iinc (n := 177) (v := (x8_125 + (1 : Int32))) (lv2 := [(8, .int (x8_125 + (1 : Int32))), (7, .int x7_172), (6, .int x6_81), (4, .int x4_75), (3, .int x3_75), (0, .ref (adr 35 0)), (1, .int a1), (2, .int a2)]) C 1 rfl dX11_goThrough_174 rfl rfl (by decide) rfl ?_
              refine ge_goto (n := 125) C dX11_goThrough_177 (by decide) ?_
              exact hag125 (x8_125 + (1 : Int32)) x7_172 S_164
  refine ge_lop (fun (jj : Int32 → Int32 → Int32 → St → Op) => ∀ (x5_8 : Int32) (x4_8 : Int32) (x3_8 : Int32) (S_8 : St), Ge w adr k 8 [(5, .int x5_8), (4, .int x4_8), (3, .int x3_8), (0, .ref (adr 35 0)), (1, .int a1), (2, .int a2)] [] S_8 (jj x5_8 x4_8 x3_8 S_8)) (fun _ _ _ _ => ge_none) (fun ag8 hag8 x5_8 x4_8 x3_8 S_8 => ?_) FU (0 : Int32) (1 : Int32) (1 : Int32) S
  refine ge_iload (n := 10) C 0 rfl dX11_goThrough_8 rfl ?_
  refine ge_aload_n (n := 11) C 3 rfl dX11_goThrough_10 rfl rfl ?_
  refine gt_X11_93 (n := 14) C (by decide) dX11_goThrough_11 rfl ?_
  refine ge_icmp_ge (t := 75) (n := 17) C dX11_goThrough_14 (by decide) rfl (fun h_14 => ?_) (fun h_14 => ?_)
  · refine ge_sub [1, 2, 3, 4, 5] rfl ?_
    exact hkk8 x4_8 x3_8 S_8
  · refine ge_iload_n (n := 18) C 2 rfl dX11_goThrough_17 rfl rfl ?_
    refine ge_iload_n (n := 19) C 4 rfl dX11_goThrough_18 rfl rfl ?_
    refine ge_iload (n := 21) C 0 rfl dX11_goThrough_19 rfl ?_
    refine ge_callSi (n := 24) C (mX11_has hj a1 x5_8 S_8) gv_X11_226 hc_X11_has ⟨Nat.le_of_ble_eq_true rfl, Nat.le_of_ble_eq_true rfl⟩ rfl rfl (Nat.le_of_ble_eq_true rfl) dX11_goThrough_21 rfl (fun r_21 S_21 => ?_)
    refine ge_jn (fun (jj : Int32 → Op) => ∀ (v0_35 : Int32), Ge w adr k 35 [(5, .int x5_8), (4, .int x4_8), (0, .ref (adr 35 0)), (1, .int a1), (2, .int a2)] [.int v0_35, .int x3_8] S_21 (jj v0_35)) (fun v0_35 => ?_) (fun j35 hj35 => ?_)
    · refine ge_imul (n := 36) C dX11_goThrough_35 rfl ?_
      refine ge_bi (fun x3_36 => ?_)
      refine ge_istore_n (n := 37) (lv2 := [(3, .int x3_36), (5, .int x5_8), (4, .int x4_8), (0, .ref (adr 35 0)), (1, .int a1), (2, .int a2)]) C dX11_goThrough_36 rfl rfl (by decide) rfl ?_
      refine ge_iload (n := 39) C 2 rfl dX11_goThrough_37 rfl ?_
      refine ge_if_eq (t := 66) (n := 42) C dX11_goThrough_39 (by decide) rfl (fun h_39 => ?_) (fun h_39 => ?_)
      · refine ge_iconst (v := 0) (n := 67) C dX11_goThrough_66 (by decide) rfl ?_
        refine ge_istore (n := 69) (lv2 := [(4, .int (0 : Int32)), (3, .int x3_36), (5, .int x5_8), (0, .ref (adr 35 0)), (1, .int a1), (2, .int a2)]) C dX11_goThrough_67 rfl (by decide) rfl ?_
        refine ge_iinc (n := 72) (v := (x5_8 + (1 : Int32))) (lv2 := [(5, .int (x5_8 + (1 : Int32))), (4, .int (0 : Int32)), (3, .int x3_36), (0, .ref (adr 35 0)), (1, .int a1), (2, .int a2)]) C 2 rfl dX11_goThrough_69 rfl rfl (by decide) rfl ?_
        refine ge_goto (n := 8) C dX11_goThrough_72 (by decide) ?_
        exact hag8 (x5_8 + (1 : Int32)) (0 : Int32) x3_36 S_21
      · refine ge_iload_n (n := 43) C 4 rfl dX11_goThrough_42 rfl rfl ?_
        refine ge_iload (n := 45) C 1 rfl dX11_goThrough_43 rfl ?_
        refine ge_callSi (n := 48) C (mX11_has hj a1 x5_8 S_21) gv_X11_226 hc_X11_has ⟨Nat.le_of_ble_eq_true rfl, Nat.le_of_ble_eq_true rfl⟩ rfl rfl (Nat.le_of_ble_eq_true rfl) dX11_goThrough_45 rfl (fun r_45 S_45 => ?_)
        refine ge_if_eq (t := 62) (n := 51) C dX11_goThrough_48 (by decide) rfl (fun h_48 => ?_) (fun h_48 => ?_)
        · refine ge_iconst (v := 1) (n := 63) C dX11_goThrough_62 (by decide) rfl ?_
          refine ge_goto (n := 67) C dX11_goThrough_63 (by decide) ?_
          refine ge_istore (n := 69) (lv2 := [(4, .int (1 : Int32)), (3, .int x3_36), (5, .int x5_8), (0, .ref (adr 35 0)), (1, .int a1), (2, .int a2)]) C dX11_goThrough_67 rfl (by decide) rfl ?_
          refine ge_iinc (n := 72) (v := (x5_8 + (1 : Int32))) (lv2 := [(5, .int (x5_8 + (1 : Int32))), (4, .int (1 : Int32)), (3, .int x3_36), (0, .ref (adr 35 0)), (1, .int a1), (2, .int a2)]) C 2 rfl dX11_goThrough_69 rfl rfl (by decide) rfl ?_
          refine ge_goto (n := 8) C dX11_goThrough_72 (by decide) ?_
          exact hag8 (x5_8 + (1 : Int32)) (1 : Int32) x3_36 S_45
        · refine ge_aload_n (n := 52) C 3 rfl dX11_goThrough_51 rfl rfl ?_
          refine gt_X11_71 (n := 55) C (by decide) dX11_goThrough_52 rfl ?_
          refine ge_iload (n := 57) C 1 rfl dX11_goThrough_55 rfl ?_
          refine al_55 (n := 58) C (by decide) dX11_goThrough_57 rfl ?_
          refine ge_iload_n (n := 59) C 5 rfl dX11_goThrough_58 rfl rfl ?_
          refine ge_icmp_gt (t := 66) (n := 62) C dX11_goThrough_59 (by decide) rfl (fun h_59 => ?_) (fun h_59 => ?_)
          · refine ge_iconst (v := 0) (n := 67) C dX11_goThrough_66 (by decide) rfl ?_
            refine ge_istore (n := 69) (lv2 := [(4, .int (0 : Int32)), (3, .int x3_36), (5, .int x5_8), (0, .ref (adr 35 0)), (1, .int a1), (2, .int a2)]) C dX11_goThrough_67 rfl (by decide) rfl ?_
            refine ge_iinc (n := 72) (v := (x5_8 + (1 : Int32))) (lv2 := [(5, .int (x5_8 + (1 : Int32))), (4, .int (0 : Int32)), (3, .int x3_36), (0, .ref (adr 35 0)), (1, .int a1), (2, .int a2)]) C 2 rfl dX11_goThrough_69 rfl rfl (by decide) rfl ?_
            refine ge_goto (n := 8) C dX11_goThrough_72 (by decide) ?_
            exact hag8 (x5_8 + (1 : Int32)) (0 : Int32) x3_36 S_45
          · refine ge_iconst (v := 1) (n := 63) C dX11_goThrough_62 (by decide) rfl ?_
            refine ge_goto (n := 67) C dX11_goThrough_63 (by decide) ?_
            refine ge_istore (n := 69) (lv2 := [(4, .int (1 : Int32)), (3, .int x3_36), (5, .int x5_8), (0, .ref (adr 35 0)), (1, .int a1), (2, .int a2)]) C dX11_goThrough_67 rfl (by decide) rfl ?_
            refine ge_iinc (n := 72) (v := (x5_8 + (1 : Int32))) (lv2 := [(5, .int (x5_8 + (1 : Int32))), (4, .int (1 : Int32)), (3, .int x3_36), (0, .ref (adr 35 0)), (1, .int a1), (2, .int a2)]) C 2 rfl dX11_goThrough_69 rfl rfl (by decide) rfl ?_
            refine ge_goto (n := 8) C dX11_goThrough_72 (by decide) ?_
            exact hag8 (x5_8 + (1 : Int32)) (1 : Int32) x3_36 S_45
    refine ge_if_eq (t := 34) (n := 27) C dX11_goThrough_24 (by decide) rfl (fun h_24 => ?_) (fun h_24 => ?_)
    · refine ge_iconst (v := 1) (n := 35) C dX11_goThrough_34 (by decide) rfl ?_
      refine ge_sub [0, 1, 3, 4, 5] rfl ?_
      exact hj35 (1 : Int32)
    · refine ge_aload_n (n := 28) C 3 rfl dX11_goThrough_27 rfl rfl ?_
      refine gt_X11_90 (n := 31) C (by decide) dX11_goThrough_28 rfl ?_
      refine ge_goto (n := 35) C dX11_goThrough_31 (by decide) ?_
      refine ge_sub [0, 1, 3, 4, 5] rfl ?_
      exact hj35 (S_21 35 0 0)
theorem dX11_through_0 : decode cX11_through 0 = .ok (.iload_n 1, 1) := by decide +kernel
theorem dX11_through_1 : decode cX11_through 1 = .ok (.i2l, 1) := by decide +kernel
theorem dX11_through_2 : decode cX11_through 2 = .ok (.lconst 0, 1) := by decide +kernel
theorem dX11_through_3 : decode cX11_through 3 = .ok (.ldc2_w 281, 3) := by decide +kernel
theorem dX11_through_6 : decode cX11_through 6 = .ok (.invokestatic 96, 3) := by decide +kernel
theorem dX11_through_9 : decode cX11_through 9 = .ok (.ifCond .eq 13, 3) := by decide +kernel
theorem dX11_through_12 : decode cX11_through 12 = .ok (.iload_n 2, 1) := by decide +kernel
theorem dX11_through_13 : decode cX11_through 13 = .ok (.i2l, 1) := by decide +kernel
theorem dX11_through_14 : decode cX11_through 14 = .ok (.lconst 0, 1) := by decide +kernel
theorem dX11_through_15 : decode cX11_through 15 = .ok (.lconst 1, 1) := by decide +kernel
theorem dX11_through_16 : decode cX11_through 16 = .ok (.invokestatic 96, 3) := by decide +kernel
theorem dX11_through_19 : decode cX11_through 19 = .ok (.ifCond .ne 6, 3) := by decide +kernel
theorem dX11_through_22 : decode cX11_through 22 = .ok (.ldc 107, 2) := by decide +kernel
theorem dX11_through_24 : decode cX11_through 24 = .ok (.ireturn, 1) := by decide +kernel
theorem dX11_through_25 : decode cX11_through 25 = .ok (.aload_n 0, 1) := by decide +kernel
theorem dX11_through_26 : decode cX11_through 26 = .ok (.getfield 90, 3) := by decide +kernel
theorem dX11_through_29 : decode cX11_through 29 = .ok (.ifCond .ne 6, 3) := by decide +kernel
theorem dX11_through_32 : decode cX11_through 32 = .ok (.ldc 236, 2) := by decide +kernel
theorem dX11_through_34 : decode cX11_through 34 = .ok (.ireturn, 1) := by decide +kernel
theorem dX11_through_35 : decode cX11_through 35 = .ok (.iconst 0, 1) := by decide +kernel
theorem dX11_through_36 : decode cX11_through 36 = .ok (.istore_n 3, 1) := by decide +kernel
theorem dX11_through_37 : decode cX11_through 37 = .ok (.iload_n 3, 1) := by decide +kernel
theorem dX11_through_38 : decode cX11_through 38 = .ok (.aload_n 0, 1) := by decide +kernel
theorem dX11_through_39 : decode cX11_through 39 = .ok (.getfield 93, 3) := by decide +kernel
theorem dX11_through_42 : decode cX11_through 42 = .ok (.if_icmp .ge 103, 3) := by decide +kernel
theorem dX11_through_45 : decode cX11_through 45 = .ok (.aload_n 0, 1) := by decide +kernel
theorem dX11_through_46 : decode cX11_through 46 = .ok (.getfield 71, 3) := by decide +kernel
theorem dX11_through_49 : decode cX11_through 49 = .ok (.iload_n 3, 1) := by decide +kernel
theorem dX11_through_50 : decode cX11_through 50 = .ok (.ldc 193, 2) := by decide +kernel
theorem dX11_through_52 : decode cX11_through 52 = .ok (.iastore, 1) := by decide +kernel
theorem dX11_through_53 : decode cX11_through 53 = .ok (.aload_n 0, 1) := by decide +kernel
theorem dX11_through_54 : decode cX11_through 54 = .ok (.iload_n 3, 1) := by decide +kernel
theorem dX11_through_55 : decode cX11_through 55 = .ok (.invokevirtual 189, 3) := by decide +kernel
theorem dX11_through_58 : decode cX11_through 58 = .ok (.iconst 0, 1) := by decide +kernel
theorem dX11_through_59 : decode cX11_through 59 = .ok (.istore 4, 2) := by decide +kernel
theorem dX11_through_61 : decode cX11_through 61 = .ok (.iload 4, 2) := by decide +kernel
theorem dX11_through_63 : decode cX11_through 63 = .ok (.sipush 200, 3) := by decide +kernel
theorem dX11_through_66 : decode cX11_through 66 = .ok (.if_icmp .gt 73, 3) := by decide +kernel
theorem dX11_through_69 : decode cX11_through 69 = .ok (.aload_n 0, 1) := by decide +kernel
theorem dX11_through_70 : decode cX11_through 70 = .ok (.getfield 71, 3) := by decide +kernel
theorem dX11_through_73 : decode cX11_through 73 = .ok (.iload_n 3, 1) := by decide +kernel
theorem dX11_through_74 : decode cX11_through 74 = .ok (.iaload, 1) := by decide +kernel
theorem dX11_through_75 : decode cX11_through 75 = .ok (.ldc 193, 2) := by decide +kernel
theorem dX11_through_77 : decode cX11_through 77 = .ok (.if_icmp .ne 62, 3) := by decide +kernel
theorem dX11_through_80 : decode cX11_through 80 = .ok (.aload_n 0, 1) := by decide +kernel
theorem dX11_through_81 : decode cX11_through 81 = .ok (.getfield 71, 3) := by decide +kernel
theorem dX11_through_84 : decode cX11_through 84 = .ok (.iload_n 3, 1) := by decide +kernel
theorem dX11_through_85 : decode cX11_through 85 = .ok (.aload_n 0, 1) := by decide +kernel
theorem dX11_through_86 : decode cX11_through 86 = .ok (.invokevirtual 214, 3) := by decide +kernel
theorem dX11_through_89 : decode cX11_through 89 = .ok (.iconst 1, 1) := by decide +kernel
theorem dX11_through_90 : decode cX11_through 90 = .ok (.aload_n 0, 1) := by decide +kernel
theorem dX11_through_91 : decode cX11_through 91 = .ok (.getfield 100, 3) := by decide +kernel
theorem dX11_through_94 : decode cX11_through 94 = .ok (.ishl, 1) := by decide +kernel
theorem dX11_through_95 : decode cX11_through 95 = .ok (.iconst 1, 1) := by decide +kernel
theorem dX11_through_96 : decode cX11_through 96 = .ok (.isub, 1) := by decide +kernel
theorem dX11_through_97 : decode cX11_through 97 = .ok (.if_icmp .ne 8, 3) := by decide +kernel
theorem dX11_through_100 : decode cX11_through 100 = .ok (.iload 4, 2) := by decide +kernel
theorem dX11_through_102 : decode cX11_through 102 = .ok (.goto 5, 3) := by decide +kernel
theorem dX11_through_105 : decode cX11_through 105 = .ok (.ldc 193, 2) := by decide +kernel
theorem dX11_through_107 : decode cX11_through 107 = .ok (.iastore, 1) := by decide +kernel
theorem dX11_through_108 : decode cX11_through 108 = .ok (.aload_n 0, 1) := by decide +kernel
theorem dX11_through_109 : decode cX11_through 109 = .ok (.aload_n 0, 1) := by decide +kernel
theorem dX11_through_110 : decode cX11_through 110 = .ok (.getfield 7, 3) := by decide +kernel
theorem dX11_through_113 : decode cX11_through 113 = .ok (.iload_n 3, 1) := by decide +kernel
theorem dX11_through_114 : decode cX11_through 114 = .ok (.iaload, 1) := by decide +kernel
theorem dX11_through_115 : decode cX11_through 115 = .ok (.aload_n 0, 1) := by decide +kernel
theorem dX11_through_116 : decode cX11_through 116 = .ok (.getfield 22, 3) := by decide +kernel
theorem dX11_through_119 : decode cX11_through 119 = .ok (.iconst 1, 1) := by decide +kernel
theorem dX11_through_120 : decode cX11_through 120 = .ok (.iaload, 1) := by decide +kernel
theorem dX11_through_121 : decode cX11_through 121 = .ok (.aload_n 0, 1) := by decide +kernel
theorem dX11_through_122 : decode cX11_through 122 = .ok (.getfield 22, 3) := by decide +kernel
theorem dX11_through_125 : decode cX11_through 125 = .ok (.iconst 0, 1) := by decide +kernel
theorem dX11_through_126 : decode cX11_through 126 = .ok (.iaload, 1) := by decide +kernel
theorem dX11_through_127 : decode cX11_through 127 = .ok (.iload 4, 2) := by decide +kernel
theorem dX11_through_129 : decode cX11_through 129 = .ok (.iadd, 1) := by decide +kernel
theorem dX11_through_130 : decode cX11_through 130 = .ok (.invokevirtual 230, 3) := by decide +kernel
theorem dX11_through_133 : decode cX11_through 133 = .ok (.iinc 4 1, 3) := by decide +kernel
theorem dX11_through_136 : decode cX11_through 136 = .ok (.goto (-75), 3) := by decide +kernel
theorem dX11_through_139 : decode cX11_through 139 = .ok (.iinc 3 1, 3) := by decide +kernel
theorem dX11_through_142 : decode cX11_through 142 = .ok (.goto (-105), 3) := by decide +kernel
theorem dX11_through_145 : decode cX11_through 145 = .ok (.iconst 0, 1) := by decide +kernel
theorem dX11_through_146 : decode cX11_through 146 = .ok (.istore_n 3, 1) := by decide +kernel
theorem dX11_through_147 : decode cX11_through 147 = .ok (.iconst 1, 1) := by decide +kernel
theorem dX11_through_148 : decode cX11_through 148 = .ok (.istore 4, 2) := by decide +kernel
theorem dX11_through_150 : decode cX11_through 150 = .ok (.iload 4, 2) := by decide +kernel
theorem dX11_through_152 : decode cX11_through 152 = .ok (.iconst 1, 1) := by decide +kernel
theorem dX11_through_153 : decode cX11_through 153 = .ok (.aload_n 0, 1) := by decide +kernel
theorem dX11_through_154 : decode cX11_through 154 = .ok (.getfield 93, 3) := by decide +kernel
theorem dX11_through_157 : decode cX11_through 157 = .ok (.ishl, 1) := by decide +kernel
theorem dX11_through_158 : decode cX11_through 158 = .ok (.if_icmp .ge 38, 3) := by decide +kernel
theorem dX11_through_161 : decode cX11_through 161 = .ok (.iload 4, 2) := by decide +kernel
theorem dX11_through_163 : decode cX11_through 163 = .ok (.invokestatic 246, 3) := by decide +kernel
theorem dX11_through_166 : decode cX11_through 166 = .ok (.iload_n 3, 1) := by decide +kernel
theorem dX11_through_167 : decode cX11_through 167 = .ok (.invokestatic 246, 3) := by decide +kernel
theorem dX11_through_170 : decode cX11_through 170 = .ok (.if_icmp .le 18, 3) := by decide +kernel
theorem dX11_through_173 : decode cX11_through 173 = .ok (.aload_n 0, 1) := by decide +kernel
theorem dX11_through_174 : decode cX11_through 174 = .ok (.iload 4, 2) := by decide +kernel
theorem dX11_through_176 : decode cX11_through 176 = .ok (.iload_n 1, 1) := by decide +kernel
theorem dX11_through_177 : decode cX11_through 177 = .ok (.invokevirtual 288, 3) := by decide +kernel
theorem dX11_through_180 : decode cX11_through 180 = .ok (.ifCond .eq 8, 3) := by decide +kernel
theorem dX11_through_183 : decode cX11_through 183 = .ok (.iload 4, 2) := by decide +kernel
theorem dX11_through_185 : decode cX11_through 185 = .ok (.goto 4, 3) := by decide +kernel
theorem dX11_through_188 : decode cX11_through 188 = .ok (.iload_n 3, 1) := by decide +kernel
theorem dX11_through_189 : decode cX11_through 189 = .ok (.istore_n 3, 1) := by decide +kernel
theorem dX11_through_190 : decode cX11_through 190 = .ok (.iinc 4 1, 3) := by decide +kernel
theorem dX11_through_193 : decode cX11_through 193 = .ok (.goto (-43), 3) := by decide +kernel
theorem dX11_through_196 : decode cX11_through 196 = .ok (.iload_n 2, 1) := by decide +kernel
theorem dX11_through_197 : decode cX11_through 197 = .ok (.ifCond .ne 10, 3) := by decide +kernel
theorem dX11_through_200 : decode cX11_through 200 = .ok (.iload_n 3, 1) := by decide +kernel
theorem dX11_through_201 : decode cX11_through 201 = .ok (.invokestatic 246, 3) := by decide +kernel
theorem dX11_through_204 : decode cX11_through 204 = .ok (.goto 4, 3) := by decide +kernel
theorem dX11_through_207 : decode cX11_through 207 = .ok (.iload_n 3, 1) := by decide +kernel
theorem dX11_through_208 : decode cX11_through 208 = .ok (.ireturn, 1) := by decide +kernel
set_option maxRecDepth 100000 in
set_option maxHeartbeats 4000000 in
theorem mX11_through {w : WX} {adr : Nat → Nat → Nat} (hj : Ij adr) (a1 : Int32) (a2 : Int32) (S : St) : ∀ (l : Launch) (r : Int32) (S2 : St), fX11_through a1 a2 S = some (r, S2) → Mi l w adr yX11_through cX11_through 5 (some .int) 2 49 [.ref (adr 35 0), .int a1, .int a2] S r S2 := by
  refine mi_of (lv := [(0, .ref (adr 35 0)), (1, .int a1), (2, .int a2)]) hj (plainFor_of_name (by decide +kernel)) rfl (Nat.le_of_ble_eq_true rfl) (fun k C Rr => ?_)
  have C : Cx w adr k cX11_through RX11 5 2 49 := C
  refine ge_iload_n (n := 1) C 1 rfl dX11_through_0 rfl rfl ?_
  refine ge_i2l (n := 2) C dX11_through_1 rfl ?_
  refine ge_lconst (v := 0) (n := 3) C dX11_through_2 (by decide) rfl ?_
  refine ge_ldc2 (n := 6) C kl_X11_281 dX11_through_3 rfl ?_
  refine ge_callSi (n := 9) C (mX11_within hj (Int32.toInt64 a1) (0 : Int64) (200 : Int64) S) gv_X11_96 hc_X11_within ⟨Nat.le_of_ble_eq_true rfl, Nat.le_of_ble_eq_true rfl⟩ rfl rfl (Nat.le_of_ble_eq_true rfl) dX11_through_6 rfl (fun r_6 S_6 => ?_)
  refine ge_if_eq (t := 22) (n := 12) C dX11_through_9 (by decide) rfl (fun h_9 => ?_) (fun h_9 => ?_)
  · refine ge_ldc (n := 24) C kc_X11_107 dX11_through_22 rfl ?_
    exact ge_iret C Rr dX11_through_24
  · refine ge_iload_n (n := 13) C 2 rfl dX11_through_12 rfl rfl ?_
    refine ge_i2l (n := 14) C dX11_through_13 rfl ?_
    refine ge_lconst (v := 0) (n := 15) C dX11_through_14 (by decide) rfl ?_
    refine ge_lconst (v := 1) (n := 16) C dX11_through_15 (by decide) rfl ?_
    refine ge_callSi (n := 19) C (mX11_within hj (Int32.toInt64 a2) (0 : Int64) (1 : Int64) S_6) gv_X11_96 hc_X11_within ⟨Nat.le_of_ble_eq_true rfl, Nat.le_of_ble_eq_true rfl⟩ rfl rfl (Nat.le_of_ble_eq_true rfl) dX11_through_16 rfl (fun r_16 S_16 => ?_)
    refine ge_if_ne (t := 25) (n := 22) C dX11_through_19 (by decide) rfl (fun h_19 => ?_) (fun h_19 => ?_)
    · refine ge_aload_n (n := 26) C 0 rfl dX11_through_25 rfl rfl ?_
      refine gt_X11_90 (n := 29) C (by decide) dX11_through_26 rfl ?_
      refine ge_if_ne (t := 35) (n := 32) C dX11_through_29 (by decide) rfl (fun h_29 => ?_) (fun h_29 => ?_)
      · refine ge_iconst (v := 0) (n := 36) C dX11_through_35 (by decide) rfl ?_
        refine ge_istore_n (n := 37) (lv2 := [(3, .int (0 : Int32)), (0, .ref (adr 35 0)), (1, .int a1), (2, .int a2)]) C dX11_through_36 rfl rfl (by decide) rfl ?_
        refine ge_jn (fun (jj : St → Op) => ∀ (S_145 : St), Ge w adr k 145 [(0, .ref (adr 35 0)), (1, .int a1), (2, .int a2)] [] S_145 (jj S_145)) (fun S_145 => ?_) (fun kk37 hkk37 => ?_)
        · refine ge_iconst (v := 0) (n := 146) C dX11_through_145 (by decide) rfl ?_
          refine ge_istore_n (n := 147) (lv2 := [(3, .int (0 : Int32)), (0, .ref (adr 35 0)), (1, .int a1), (2, .int a2)]) C dX11_through_146 rfl rfl (by decide) rfl ?_
          refine ge_iconst (v := 1) (n := 148) C dX11_through_147 (by decide) rfl ?_
          refine ge_istore (n := 150) (lv2 := [(4, .int (1 : Int32)), (3, .int (0 : Int32)), (0, .ref (adr 35 0)), (1, .int a1), (2, .int a2)]) C dX11_through_148 rfl (by decide) rfl ?_
          refine ge_jn (fun (jj : Int32 → St → Op) => ∀ (x3_196 : Int32) (S_196 : St), Ge w adr k 196 [(3, .int x3_196), (2, .int a2)] [] S_196 (jj x3_196 S_196)) (fun x3_196 S_196 => ?_) (fun kk150 hkk150 => ?_)
          · refine ge_iload_n (n := 197) C 1 rfl dX11_through_196 rfl rfl ?_
            refine ge_if_ne (t := 207) (n := 200) C dX11_through_197 (by decide) rfl (fun h_197 => ?_) (fun h_197 => ?_)
            · refine ge_iload_n (n := 208) C 0 rfl dX11_through_207 rfl rfl ?_
              exact ge_iret C Rr dX11_through_208
            · refine ge_iload_n (n := 201) C 0 rfl dX11_through_200 rfl rfl ?_
              refine ge_callSi (n := 204) C (mX11_ones hj x3_196 S_196) gv_X11_246 hc_X11_ones ⟨Nat.le_of_ble_eq_true rfl, Nat.le_of_ble_eq_true rfl⟩ rfl rfl (Nat.le_of_ble_eq_true rfl) dX11_through_201 rfl (fun r_201 S_201 => ?_)
              refine ge_goto (n := 208) C dX11_through_204 (by decide) ?_
              exact ge_iret C Rr dX11_through_208
          refine ge_lop (fun (jj : Int32 → Int32 → St → Op) => ∀ (x4_150 : Int32) (x3_150 : Int32) (S_150 : St), Ge w adr k 150 [(4, .int x4_150), (3, .int x3_150), (0, .ref (adr 35 0)), (1, .int a1), (2, .int a2)] [] S_150 (jj x4_150 x3_150 S_150)) (fun _ _ _ => ge_none) (fun ag150 hag150 x4_150 x3_150 S_150 => ?_) FU (1 : Int32) (0 : Int32) S_145
          refine ge_iload (n := 152) C 0 rfl dX11_through_150 rfl ?_
          refine ge_iconst (v := 1) (n := 153) C dX11_through_152 (by decide) rfl ?_
          refine ge_aload_n (n := 154) C 2 rfl dX11_through_153 rfl rfl ?_
          refine gt_X11_93 (n := 157) C (by decide) dX11_through_154 rfl ?_
          refine ge_ishl (n := 158) C dX11_through_157 rfl ?_
          refine ge_icmp_ge (t := 196) (n := 161) C dX11_through_158 (by decide) rfl (fun h_158 => ?_) (fun h_158 => ?_)
          · refine ge_sub [1, 4] rfl ?_
            exact hkk150 x3_150 S_150
          · refine ge_iload (n := 163) C 0 rfl dX11_through_161 rfl ?_
            refine ge_callSi (n := 166) C (mX11_ones hj x4_150 S_150) gv_X11_246 hc_X11_ones ⟨Nat.le_of_ble_eq_true rfl, Nat.le_of_ble_eq_true rfl⟩ rfl rfl (Nat.le_of_ble_eq_true rfl) dX11_through_163 rfl (fun r_163 S_163 => ?_)
            refine ge_iload_n (n := 167) C 1 rfl dX11_through_166 rfl rfl ?_
            refine ge_callSi (n := 170) C (mX11_ones hj x3_150 S_163) gv_X11_246 hc_X11_ones ⟨Nat.le_of_ble_eq_true rfl, Nat.le_of_ble_eq_true rfl⟩ rfl rfl (Nat.le_of_ble_eq_true rfl) dX11_through_167 rfl (fun r_167 S_167 => ?_)
            refine ge_icmp_le (t := 188) (n := 173) C dX11_through_170 (by decide) rfl (fun h_170 => ?_) (fun h_170 => ?_)
            · refine ge_iload_n (n := 189) C 1 rfl dX11_through_188 rfl rfl ?_
              refine ge_istore_n (n := 190) (lv2 := [(3, .int x3_150), (4, .int x4_150), (0, .ref (adr 35 0)), (1, .int a1), (2, .int a2)]) C dX11_through_189 rfl rfl (by decide) rfl ?_
              refine ge_iinc (n := 193) (v := (x4_150 + (1 : Int32))) (lv2 := [(4, .int (x4_150 + (1 : Int32))), (3, .int x3_150), (0, .ref (adr 35 0)), (1, .int a1), (2, .int a2)]) C 1 rfl dX11_through_190 rfl rfl (by decide) rfl ?_
              refine ge_goto (n := 150) C dX11_through_193 (by decide) ?_
              exact hag150 (x4_150 + (1 : Int32)) x3_150 S_167
            · refine ge_aload_n (n := 174) C 2 rfl dX11_through_173 rfl rfl ?_
              refine ge_iload (n := 176) C 0 rfl dX11_through_174 rfl ?_
              refine ge_iload_n (n := 177) C 3 rfl dX11_through_176 rfl rfl ?_
              refine ge_callVi (n := 180) C (mX11_goThrough hj x4_150 a1 S_167) gv_X11_288 (cl_35 (by decide)) rfl rfl hc_X11_goThrough ⟨Nat.le_of_ble_eq_true rfl, Nat.le_of_ble_eq_true rfl⟩ rfl rfl (Nat.le_of_ble_eq_true rfl) dX11_through_177 rfl (fun r_177 S_177 => ?_)
              refine ge_if_eq (t := 188) (n := 183) C dX11_through_180 (by decide) rfl (fun h_180 => ?_) (fun h_180 => ?_)
              · refine ge_iload_n (n := 189) C 1 rfl dX11_through_188 rfl rfl ?_
                refine ge_istore_n (n := 190) (lv2 := [(3, .int x3_150), (4, .int x4_150), (0, .ref (adr 35 0)), (1, .int a1), (2, .int a2)]) C dX11_through_189 rfl rfl (by decide) rfl ?_
                refine ge_iinc (n := 193) (v := (x4_150 + (1 : Int32))) (lv2 := [(4, .int (x4_150 + (1 : Int32))), (3, .int x3_150), (0, .ref (adr 35 0)), (1, .int a1), (2, .int a2)]) C 1 rfl dX11_through_190 rfl rfl (by decide) rfl ?_
                refine ge_goto (n := 150) C dX11_through_193 (by decide) ?_
                exact hag150 (x4_150 + (1 : Int32)) x3_150 S_177
              · refine ge_iload (n := 185) C 0 rfl dX11_through_183 rfl ?_
                refine ge_goto (n := 189) C dX11_through_185 (by decide) ?_
                refine ge_istore_n (n := 190) (lv2 := [(3, .int x4_150), (4, .int x4_150), (0, .ref (adr 35 0)), (1, .int a1), (2, .int a2)]) C dX11_through_189 rfl rfl (by decide) rfl ?_
                refine ge_iinc (n := 193) (v := (x4_150 + (1 : Int32))) (lv2 := [(4, .int (x4_150 + (1 : Int32))), (3, .int x4_150), (0, .ref (adr 35 0)), (1, .int a1), (2, .int a2)]) C 1 rfl dX11_through_190 rfl rfl (by decide) rfl ?_
                refine ge_goto (n := 150) C dX11_through_193 (by decide) ?_
                exact hag150 (x4_150 + (1 : Int32)) x4_150 S_177
        refine ge_lop (fun (jj : Int32 → St → Op) => ∀ (x3_37 : Int32) (S_37 : St), Ge w adr k 37 [(3, .int x3_37), (0, .ref (adr 35 0)), (1, .int a1), (2, .int a2)] [] S_37 (jj x3_37 S_37)) (fun _ _ => ge_none) (fun ag37 hag37 x3_37 S_37 => ?_) FU (0 : Int32) S_16
        refine ge_iload_n (n := 38) C 0 rfl dX11_through_37 rfl rfl ?_
        refine ge_aload_n (n := 39) C 1 rfl dX11_through_38 rfl rfl ?_
        refine gt_X11_93 (n := 42) C (by decide) dX11_through_39 rfl ?_
        refine ge_icmp_ge (t := 145) (n := 45) C dX11_through_42 (by decide) rfl (fun h_42 => ?_) (fun h_42 => ?_)
        · refine ge_sub [1, 2, 3] rfl ?_
          exact hkk37 S_37
        · refine ge_aload_n (n := 46) C 1 rfl dX11_through_45 rfl rfl ?_
          refine gt_X11_71 (n := 49) C (by decide) dX11_through_46 rfl ?_
          refine ge_iload_n (n := 50) C 0 rfl dX11_through_49 rfl rfl ?_
          refine ge_ldc (n := 52) C kc_X11_193 dX11_through_50 rfl ?_
          refine as_55 (n := 53) C (by decide) dX11_through_52 rfl (fun S_52 => ?_)
          refine ge_aload_n (n := 54) C 1 rfl dX11_through_53 rfl rfl ?_
          refine ge_iload_n (n := 55) C 0 rfl dX11_through_54 rfl rfl ?_
          refine ge_callVv (n := 58) C (mX11_takesSkin hj x3_37 S_52) gv_X11_189 (cl_35 (by decide)) rfl rfl hc_X11_takesSkin ⟨Nat.le_of_ble_eq_true rfl, Nat.le_of_ble_eq_true rfl⟩ rfl rfl (Nat.le_of_ble_eq_true rfl) dX11_through_55 rfl (fun _ S_55 => ?_)
          refine ge_iconst (v := 0) (n := 59) C dX11_through_58 (by decide) rfl ?_
          refine ge_istore (n := 61) (lv2 := [(4, .int (0 : Int32)), (3, .int x3_37), (0, .ref (adr 35 0)), (1, .int a1), (2, .int a2)]) C dX11_through_59 rfl (by decide) rfl ?_
          refine ge_jn (fun (jj : St → Op) => ∀ (S_139 : St), Ge w adr k 139 [(3, .int x3_37), (0, .ref (adr 35 0)), (1, .int a1), (2, .int a2)] [] S_139 (jj S_139)) (fun S_139 => ?_) (fun kk61 hkk61 => ?_)
          · refine ge_iinc (n := 142) (v := (x3_37 + (1 : Int32))) (lv2 := [(3, .int (x3_37 + (1 : Int32))), (0, .ref (adr 35 0)), (1, .int a1), (2, .int a2)]) C 0 rfl dX11_through_139 rfl rfl (by decide) rfl ?_
            refine ge_goto (n := 37) C dX11_through_142 (by decide) ?_
            exact hag37 (x3_37 + (1 : Int32)) S_139
          refine ge_lop (fun (jj : Int32 → St → Op) => ∀ (x4_61 : Int32) (S_61 : St), Ge w adr k 61 [(4, .int x4_61), (3, .int x3_37), (0, .ref (adr 35 0)), (1, .int a1), (2, .int a2)] [] S_61 (jj x4_61 S_61)) (fun _ _ => ge_none) (fun ag61 hag61 x4_61 S_61 => ?_) FU (0 : Int32) S_55
          refine ge_iload (n := 63) C 0 rfl dX11_through_61 rfl ?_
          refine ge_sipush (v := 200) (n := 66) C dX11_through_63 (by decide) rfl ?_
          refine ge_icmp_gt (t := 139) (n := 69) C dX11_through_66 (by decide) rfl (fun h_66 => ?_) (fun h_66 => ?_)
          · refine ge_sub [1, 2, 3, 4] rfl ?_
            exact hkk61 S_61
          · refine ge_aload_n (n := 70) C 2 rfl dX11_through_69 rfl rfl ?_
            refine gt_X11_71 (n := 73) C (by decide) dX11_through_70 rfl ?_
            refine ge_iload_n (n := 74) C 1 rfl dX11_through_73 rfl rfl ?_
            refine al_55 (n := 75) C (by decide) dX11_through_74 rfl ?_
            refine ge_ldc (n := 77) C kc_X11_193 dX11_through_75 rfl ?_
            refine ge_icmp_ne (t := 139) (n := 80) C dX11_through_77 (by decide) rfl (fun h_77 => ?_) (fun h_77 => ?_)
            · refine ge_sub [1, 2, 3, 4] rfl ?_
              exact hkk61 S_61
            · refine ge_aload_n (n := 81) C 2 rfl dX11_through_80 rfl rfl ?_
              refine gt_X11_71 (n := 84) C (by decide) dX11_through_81 rfl ?_
              refine ge_iload_n (n := 85) C 1 rfl dX11_through_84 rfl rfl ?_
              refine ge_aload_n (n := 86) C 2 rfl dX11_through_85 rfl rfl ?_
              refine ge_callVi (n := 89) C (mX11_borneNow hj S_61) gv_X11_214 (cl_35 (by decide)) rfl rfl hc_X11_borneNow ⟨Nat.le_of_ble_eq_true rfl, Nat.le_of_ble_eq_true rfl⟩ rfl rfl (Nat.le_of_ble_eq_true rfl) dX11_through_86 rfl (fun r_86 S_86 => ?_)
              refine ge_iconst (v := 1) (n := 90) C dX11_through_89 (by decide) rfl ?_
              refine ge_aload_n (n := 91) C 2 rfl dX11_through_90 rfl rfl ?_
              refine gt_X11_100 (n := 94) C (by decide) dX11_through_91 rfl ?_
              refine ge_ishl (n := 95) C dX11_through_94 rfl ?_
              refine ge_iconst (v := 1) (n := 96) C dX11_through_95 (by decide) rfl ?_
              refine ge_isub (n := 97) C dX11_through_96 rfl ?_
              refine ge_jn (fun (jj : Int32 → Op) => ∀ (v0_107 : Int32), Ge w adr k 107 [(4, .int x4_61), (3, .int x3_37), (0, .ref (adr 35 0)), (1, .int a1), (2, .int a2)] [.int v0_107, .int x3_37, .ref (adr 55 0)] S_86 (jj v0_107)) (fun v0_107 => ?_) (fun j107 hj107 => ?_)
              · refine as_55 (n := 108) C (by decide) dX11_through_107 rfl (fun S_107 => ?_)
                refine ge_aload_n (n := 109) C 2 rfl dX11_through_108 rfl rfl ?_
                refine ge_aload_n (n := 110) C 2 rfl dX11_through_109 rfl rfl ?_
                refine gt_X11_7 (n := 113) C (by decide) dX11_through_110 rfl ?_
                refine ge_iload_n (n := 114) C 1 rfl dX11_through_113 rfl rfl ?_
                refine al_36 (n := 115) C (by decide) dX11_through_114 rfl ?_
                refine ge_aload_n (n := 116) C 2 rfl dX11_through_115 rfl rfl ?_
                refine gt_X11_22 (n := 119) C (by decide) dX11_through_116 rfl ?_
                refine ge_iconst (v := 1) (n := 120) C dX11_through_119 (by decide) rfl ?_
                refine al_40 (n := 121) C (by decide) dX11_through_120 rfl ?_
                refine ge_aload_n (n := 122) C 2 rfl dX11_through_121 rfl rfl ?_
                refine gt_X11_22 (n := 125) C (by decide) dX11_through_122 rfl ?_
                refine ge_iconst (v := 0) (n := 126) C dX11_through_125 (by decide) rfl ?_
                refine al_40 (n := 127) C (by decide) dX11_through_126 rfl ?_
                refine ge_iload (n := 129) C 0 rfl dX11_through_127 rfl ?_
                refine ge_iadd (n := 130) C dX11_through_129 rfl ?_
                refine ge_callVv (n := 133) C (mX11_tans hj (S_107 36 0 (Int32.toNatClampNeg x3_37)) (S_107 40 0 (Int32.toNatClampNeg (1 : Int32))) ((S_107 40 0 (Int32.toNatClampNeg (0 : Int32))) + x4_61) S_107) gv_X11_230 (cl_35 (by decide)) rfl rfl hc_X11_tans ⟨Nat.le_of_ble_eq_true rfl, Nat.le_of_ble_eq_true rfl⟩ rfl rfl (Nat.le_of_ble_eq_true rfl) dX11_through_130 rfl (fun _ S_130 => ?_)
                refine ge_iinc (n := 136) (v := (x4_61 + (1 : Int32))) (lv2 := [(4, .int (x4_61 + (1 : Int32))), (3, .int x3_37), (0, .ref (adr 35 0)), (1, .int a1), (2, .int a2)]) C 0 rfl dX11_through_133 rfl rfl (by decide) rfl ?_
                refine ge_goto (n := 61) C dX11_through_136 (by decide) ?_
                exact hag61 (x4_61 + (1 : Int32)) S_130
              refine ge_icmp_ne (t := 105) (n := 100) C dX11_through_97 (by decide) rfl (fun h_97 => ?_) (fun h_97 => ?_)
              · refine ge_ldc (n := 107) C kc_X11_193 dX11_through_105 rfl ?_
                exact hj107 (1000000 : Int32)
              · refine ge_iload (n := 102) C 0 rfl dX11_through_100 rfl ?_
                refine ge_goto (n := 107) C dX11_through_102 (by decide) ?_
                exact hj107 x4_61
      · refine ge_ldc (n := 34) C kc_X11_236 dX11_through_32 rfl ?_
        exact ge_iret C Rr dX11_through_34
    · refine ge_ldc (n := 24) C kc_X11_107 dX11_through_22 rfl ?_
      exact ge_iret C Rr dX11_through_24
theorem dX11_over_0 : decode cX11_over 0 = .ok (.aload_n 0, 1) := by decide +kernel
theorem dX11_over_1 : decode cX11_over 1 = .ok (.iload_n 1, 1) := by decide +kernel
theorem dX11_over_2 : decode cX11_over 2 = .ok (.invokevirtual 210, 3) := by decide +kernel
theorem dX11_over_5 : decode cX11_over 5 = .ok (.ifCond .eq 16, 3) := by decide +kernel
theorem dX11_over_8 : decode cX11_over 8 = .ok (.aload_n 0, 1) := by decide +kernel
theorem dX11_over_9 : decode cX11_over 9 = .ok (.iload_n 2, 1) := by decide +kernel
theorem dX11_over_10 : decode cX11_over 10 = .ok (.invokevirtual 210, 3) := by decide +kernel
theorem dX11_over_13 : decode cX11_over 13 = .ok (.ifCond .eq 8, 3) := by decide +kernel
theorem dX11_over_16 : decode cX11_over 16 = .ok (.iload_n 1, 1) := by decide +kernel
theorem dX11_over_17 : decode cX11_over 17 = .ok (.iload_n 2, 1) := by decide +kernel
theorem dX11_over_18 : decode cX11_over 18 = .ok (.if_icmp .ne 6, 3) := by decide +kernel
theorem dX11_over_21 : decode cX11_over 21 = .ok (.ldc 213, 2) := by decide +kernel
theorem dX11_over_23 : decode cX11_over 23 = .ok (.ireturn, 1) := by decide +kernel
theorem dX11_over_24 : decode cX11_over 24 = .ok (.iconst 0, 1) := by decide +kernel
theorem dX11_over_25 : decode cX11_over 25 = .ok (.istore_n 3, 1) := by decide +kernel
theorem dX11_over_26 : decode cX11_over 26 = .ok (.iconst 0, 1) := by decide +kernel
theorem dX11_over_27 : decode cX11_over 27 = .ok (.istore 4, 2) := by decide +kernel
theorem dX11_over_29 : decode cX11_over 29 = .ok (.iload 4, 2) := by decide +kernel
theorem dX11_over_31 : decode cX11_over 31 = .ok (.iconst 5, 1) := by decide +kernel
theorem dX11_over_32 : decode cX11_over 32 = .ok (.if_icmp .ge 67, 3) := by decide +kernel
theorem dX11_over_35 : decode cX11_over 35 = .ok (.aload_n 0, 1) := by decide +kernel
theorem dX11_over_36 : decode cX11_over 36 = .ok (.getfield 22, 3) := by decide +kernel
theorem dX11_over_39 : decode cX11_over 39 = .ok (.bipush 34, 2) := by decide +kernel
theorem dX11_over_41 : decode cX11_over 41 = .ok (.iconst 5, 1) := by decide +kernel
theorem dX11_over_42 : decode cX11_over 42 = .ok (.iload_n 1, 1) := by decide +kernel
theorem dX11_over_43 : decode cX11_over 43 = .ok (.imul, 1) := by decide +kernel
theorem dX11_over_44 : decode cX11_over 44 = .ok (.iadd, 1) := by decide +kernel
theorem dX11_over_45 : decode cX11_over 45 = .ok (.iload 4, 2) := by decide +kernel
theorem dX11_over_47 : decode cX11_over 47 = .ok (.iadd, 1) := by decide +kernel
theorem dX11_over_48 : decode cX11_over 48 = .ok (.iaload, 1) := by decide +kernel
theorem dX11_over_49 : decode cX11_over 49 = .ok (.istore 5, 2) := by decide +kernel
theorem dX11_over_51 : decode cX11_over 51 = .ok (.aload_n 0, 1) := by decide +kernel
theorem dX11_over_52 : decode cX11_over 52 = .ok (.getfield 22, 3) := by decide +kernel
theorem dX11_over_55 : decode cX11_over 55 = .ok (.bipush 34, 2) := by decide +kernel
theorem dX11_over_57 : decode cX11_over 57 = .ok (.iconst 5, 1) := by decide +kernel
theorem dX11_over_58 : decode cX11_over 58 = .ok (.iload_n 2, 1) := by decide +kernel
theorem dX11_over_59 : decode cX11_over 59 = .ok (.imul, 1) := by decide +kernel
theorem dX11_over_60 : decode cX11_over 60 = .ok (.iadd, 1) := by decide +kernel
theorem dX11_over_61 : decode cX11_over 61 = .ok (.iload 4, 2) := by decide +kernel
theorem dX11_over_63 : decode cX11_over 63 = .ok (.iadd, 1) := by decide +kernel
theorem dX11_over_64 : decode cX11_over 64 = .ok (.iaload, 1) := by decide +kernel
theorem dX11_over_65 : decode cX11_over 65 = .ok (.istore 6, 2) := by decide +kernel
theorem dX11_over_67 : decode cX11_over 67 = .ok (.iload_n 3, 1) := by decide +kernel
theorem dX11_over_68 : decode cX11_over 68 = .ok (.iload 5, 2) := by decide +kernel
theorem dX11_over_70 : decode cX11_over 70 = .ok (.iload 6, 2) := by decide +kernel
theorem dX11_over_72 : decode cX11_over 72 = .ok (.if_icmp .le 7, 3) := by decide +kernel
theorem dX11_over_75 : decode cX11_over 75 = .ok (.iconst 1, 1) := by decide +kernel
theorem dX11_over_76 : decode cX11_over 76 = .ok (.goto 15, 3) := by decide +kernel
theorem dX11_over_79 : decode cX11_over 79 = .ok (.iload 5, 2) := by decide +kernel
theorem dX11_over_81 : decode cX11_over 81 = .ok (.iload 6, 2) := by decide +kernel
theorem dX11_over_83 : decode cX11_over 83 = .ok (.if_icmp .ge 7, 3) := by decide +kernel
theorem dX11_over_86 : decode cX11_over 86 = .ok (.iconst (-1), 1) := by decide +kernel
theorem dX11_over_87 : decode cX11_over 87 = .ok (.goto 4, 3) := by decide +kernel
theorem dX11_over_90 : decode cX11_over 90 = .ok (.iconst 0, 1) := by decide +kernel
theorem dX11_over_91 : decode cX11_over 91 = .ok (.iadd, 1) := by decide +kernel
theorem dX11_over_92 : decode cX11_over 92 = .ok (.istore_n 3, 1) := by decide +kernel
theorem dX11_over_93 : decode cX11_over 93 = .ok (.iinc 4 1, 3) := by decide +kernel
theorem dX11_over_96 : decode cX11_over 96 = .ok (.goto (-67), 3) := by decide +kernel
theorem dX11_over_99 : decode cX11_over 99 = .ok (.iload_n 3, 1) := by decide +kernel
theorem dX11_over_100 : decode cX11_over 100 = .ok (.ifCond .le 7, 3) := by decide +kernel
theorem dX11_over_103 : decode cX11_over 103 = .ok (.iconst 1, 1) := by decide +kernel
theorem dX11_over_104 : decode cX11_over 104 = .ok (.goto 4, 3) := by decide +kernel
theorem dX11_over_107 : decode cX11_over 107 = .ok (.iconst 0, 1) := by decide +kernel
theorem dX11_over_108 : decode cX11_over 108 = .ok (.ireturn, 1) := by decide +kernel
set_option maxRecDepth 100000 in
set_option maxHeartbeats 4000000 in
theorem mX11_over {w : WX} {adr : Nat → Nat → Nat} (hj : Ij adr) (a1 : Int32) (a2 : Int32) (S : St) : ∀ (l : Launch) (r : Int32) (S2 : St), fX11_over a1 a2 S = some (r, S2) → Mi l w adr yX11_over cX11_over 7 (some .int) 2 46 [.ref (adr 35 0), .int a1, .int a2] S r S2 := by
  refine mi_of (lv := [(0, .ref (adr 35 0)), (1, .int a1), (2, .int a2)]) hj (plainFor_of_name (by decide +kernel)) rfl (Nat.le_of_ble_eq_true rfl) (fun k C Rr => ?_)
  have C : Cx w adr k cX11_over RX11 7 2 46 := C
  refine ge_aload_n (n := 1) C 0 rfl dX11_over_0 rfl rfl ?_
  refine ge_iload_n (n := 2) C 1 rfl dX11_over_1 rfl rfl ?_
  refine ge_callVi (n := 5) C (mX11_isMan hj a1 S) gv_X11_210 (cl_35 (by decide)) rfl rfl hc_X11_isMan ⟨Nat.le_of_ble_eq_true rfl, Nat.le_of_ble_eq_true rfl⟩ rfl rfl (Nat.le_of_ble_eq_true rfl) dX11_over_2 rfl (fun r_2 S_2 => ?_)
  refine ge_if_eq (t := 21) (n := 8) C dX11_over_5 (by decide) rfl (fun h_5 => ?_) (fun h_5 => ?_)
  · refine ge_ldc (n := 23) C kc_X11_213 dX11_over_21 rfl ?_
    exact ge_iret C Rr dX11_over_23
  · refine ge_aload_n (n := 9) C 0 rfl dX11_over_8 rfl rfl ?_
    refine ge_iload_n (n := 10) C 2 rfl dX11_over_9 rfl rfl ?_
    refine ge_callVi (n := 13) C (mX11_isMan hj a2 S_2) gv_X11_210 (cl_35 (by decide)) rfl rfl hc_X11_isMan ⟨Nat.le_of_ble_eq_true rfl, Nat.le_of_ble_eq_true rfl⟩ rfl rfl (Nat.le_of_ble_eq_true rfl) dX11_over_10 rfl (fun r_10 S_10 => ?_)
    refine ge_if_eq (t := 21) (n := 16) C dX11_over_13 (by decide) rfl (fun h_13 => ?_) (fun h_13 => ?_)
    · refine ge_ldc (n := 23) C kc_X11_213 dX11_over_21 rfl ?_
      exact ge_iret C Rr dX11_over_23
    · refine ge_iload_n (n := 17) C 1 rfl dX11_over_16 rfl rfl ?_
      refine ge_iload_n (n := 18) C 2 rfl dX11_over_17 rfl rfl ?_
      refine ge_icmp_ne (t := 24) (n := 21) C dX11_over_18 (by decide) rfl (fun h_18 => ?_) (fun h_18 => ?_)
      · refine ge_iconst (v := 0) (n := 25) C dX11_over_24 (by decide) rfl ?_
        refine ge_istore_n (n := 26) (lv2 := [(3, .int (0 : Int32)), (0, .ref (adr 35 0)), (1, .int a1), (2, .int a2)]) C dX11_over_25 rfl rfl (by decide) rfl ?_
        refine ge_iconst (v := 0) (n := 27) C dX11_over_26 (by decide) rfl ?_
        refine ge_istore (n := 29) (lv2 := [(4, .int (0 : Int32)), (3, .int (0 : Int32)), (0, .ref (adr 35 0)), (1, .int a1), (2, .int a2)]) C dX11_over_27 rfl (by decide) rfl ?_
        refine ge_jn (fun (jj : Int32 → Op) => ∀ (x3_99 : Int32), Ge w adr k 99 [(3, .int x3_99)] [] S_10 (jj x3_99)) (fun x3_99 => ?_) (fun kk29 hkk29 => ?_)
        · refine ge_iload_n (n := 100) C 0 rfl dX11_over_99 rfl rfl ?_
          refine ge_if_le (t := 107) (n := 103) C dX11_over_100 (by decide) rfl (fun h_100 => ?_) (fun h_100 => ?_)
          · refine ge_iconst (v := 0) (n := 108) C dX11_over_107 (by decide) rfl ?_
            exact ge_iret C Rr dX11_over_108
          · refine ge_iconst (v := 1) (n := 104) C dX11_over_103 (by decide) rfl ?_
            refine ge_goto (n := 108) C dX11_over_104 (by decide) ?_
            exact ge_iret C Rr dX11_over_108
        refine ge_lop (fun (jj : Int32 → Int32 → Op) => ∀ (x4_29 : Int32) (x3_29 : Int32), Ge w adr k 29 [(4, .int x4_29), (3, .int x3_29), (0, .ref (adr 35 0)), (1, .int a1), (2, .int a2)] [] S_10 (jj x4_29 x3_29)) (fun _ _ => ge_none) (fun ag29 hag29 x4_29 x3_29 => ?_) FU (0 : Int32) (0 : Int32)
        refine ge_iload (n := 31) C 0 rfl dX11_over_29 rfl ?_
        refine ge_iconst (v := 5) (n := 32) C dX11_over_31 (by decide) rfl ?_
        refine ge_icmp_ge (t := 99) (n := 35) C dX11_over_32 (by decide) rfl (fun h_32 => ?_) (fun h_32 => ?_)
        · refine ge_sub [1] rfl ?_
          exact hkk29 x3_29
        · refine ge_aload_n (n := 36) C 2 rfl dX11_over_35 rfl rfl ?_
          refine gt_X11_22 (n := 39) C (by decide) dX11_over_36 rfl ?_
          refine ge_bipush (v := 34) (n := 41) C dX11_over_39 (by decide) rfl ?_
          refine ge_iconst (v := 5) (n := 42) C dX11_over_41 (by decide) rfl ?_
          refine ge_iload_n (n := 43) C 3 rfl dX11_over_42 rfl rfl ?_
          refine ge_imul (n := 44) C dX11_over_43 rfl ?_
          refine ge_iadd (n := 45) C dX11_over_44 rfl ?_
          refine ge_iload (n := 47) C 0 rfl dX11_over_45 rfl ?_
          refine ge_iadd (n := 48) C dX11_over_47 rfl ?_
          refine al_40 (n := 49) C (by decide) dX11_over_48 rfl ?_
          refine ge_bi (fun x5_49 => ?_)
          refine ge_istore (n := 51) (lv2 := [(5, .int x5_49), (4, .int x4_29), (3, .int x3_29), (0, .ref (adr 35 0)), (1, .int a1), (2, .int a2)]) C dX11_over_49 rfl (by decide) rfl ?_
          refine ge_aload_n (n := 52) C 3 rfl dX11_over_51 rfl rfl ?_
          refine gt_X11_22 (n := 55) C (by decide) dX11_over_52 rfl ?_
          refine ge_bipush (v := 34) (n := 57) C dX11_over_55 (by decide) rfl ?_
          refine ge_iconst (v := 5) (n := 58) C dX11_over_57 (by decide) rfl ?_
          refine ge_iload_n (n := 59) C 5 rfl dX11_over_58 rfl rfl ?_
          refine ge_imul (n := 60) C dX11_over_59 rfl ?_
          refine ge_iadd (n := 61) C dX11_over_60 rfl ?_
          refine ge_iload (n := 63) C 1 rfl dX11_over_61 rfl ?_
          refine ge_iadd (n := 64) C dX11_over_63 rfl ?_
          refine al_40 (n := 65) C (by decide) dX11_over_64 rfl ?_
          refine ge_bi (fun x6_65 => ?_)
          refine ge_istore (n := 67) (lv2 := [(6, .int x6_65), (5, .int x5_49), (4, .int x4_29), (3, .int x3_29), (0, .ref (adr 35 0)), (1, .int a1), (2, .int a2)]) C dX11_over_65 rfl (by decide) rfl ?_
          refine ge_iload_n (n := 68) C 3 rfl dX11_over_67 rfl rfl ?_
          refine ge_iload (n := 70) C 1 rfl dX11_over_68 rfl ?_
          refine ge_iload (n := 72) C 0 rfl dX11_over_70 rfl ?_
          refine ge_icmp_le (t := 79) (n := 75) C dX11_over_72 (by decide) rfl (fun h_72 => ?_) (fun h_72 => ?_)
          · refine ge_iload (n := 81) C 1 rfl dX11_over_79 rfl ?_
            refine ge_iload (n := 83) C 0 rfl dX11_over_81 rfl ?_
            refine ge_icmp_ge (t := 90) (n := 86) C dX11_over_83 (by decide) rfl (fun h_83 => ?_) (fun h_83 => ?_)
            · refine ge_iconst (v := 0) (n := 91) C dX11_over_90 (by decide) rfl ?_
              refine ge_iadd (n := 92) C dX11_over_91 rfl ?_
              refine ge_bi (fun x3_92 => ?_)
              refine ge_istore_n (n := 93) (lv2 := [(3, .int x3_92), (6, .int x6_65), (5, .int x5_49), (4, .int x4_29), (0, .ref (adr 35 0)), (1, .int a1), (2, .int a2)]) C dX11_over_92 rfl rfl (by decide) rfl ?_
              refine ge_iinc (n := 96) (v := (x4_29 + (1 : Int32))) (lv2 := [(4, .int (x4_29 + (1 : Int32))), (3, .int x3_92), (6, .int x6_65), (5, .int x5_49), (0, .ref (adr 35 0)), (1, .int a1), (2, .int a2)]) C 3 rfl dX11_over_93 rfl rfl (by decide) rfl ?_
              refine ge_goto (n := 29) C dX11_over_96 (by decide) ?_
              refine ge_sub [0, 1, 4, 5, 6] rfl ?_
              exact hag29 (x4_29 + (1 : Int32)) x3_92
            · refine ge_iconst (v := -1) (n := 87) C dX11_over_86 (by decide) rfl ?_
              refine ge_goto (n := 91) C dX11_over_87 (by decide) ?_
              refine ge_iadd (n := 92) C dX11_over_91 rfl ?_
              refine ge_bi (fun x3_92 => ?_)
              refine ge_istore_n (n := 93) (lv2 := [(3, .int x3_92), (6, .int x6_65), (5, .int x5_49), (4, .int x4_29), (0, .ref (adr 35 0)), (1, .int a1), (2, .int a2)]) C dX11_over_92 rfl rfl (by decide) rfl ?_
              refine ge_iinc (n := 96) (v := (x4_29 + (1 : Int32))) (lv2 := [(4, .int (x4_29 + (1 : Int32))), (3, .int x3_92), (6, .int x6_65), (5, .int x5_49), (0, .ref (adr 35 0)), (1, .int a1), (2, .int a2)]) C 3 rfl dX11_over_93 rfl rfl (by decide) rfl ?_
              refine ge_goto (n := 29) C dX11_over_96 (by decide) ?_
              refine ge_sub [0, 1, 4, 5, 6] rfl ?_
              exact hag29 (x4_29 + (1 : Int32)) x3_92
          · refine ge_iconst (v := 1) (n := 76) C dX11_over_75 (by decide) rfl ?_
            refine ge_goto (n := 91) C dX11_over_76 (by decide) ?_
            refine ge_iadd (n := 92) C dX11_over_91 rfl ?_
            refine ge_bi (fun x3_92 => ?_)
            refine ge_istore_n (n := 93) (lv2 := [(3, .int x3_92), (6, .int x6_65), (5, .int x5_49), (4, .int x4_29), (0, .ref (adr 35 0)), (1, .int a1), (2, .int a2)]) C dX11_over_92 rfl rfl (by decide) rfl ?_
            refine ge_iinc (n := 96) (v := (x4_29 + (1 : Int32))) (lv2 := [(4, .int (x4_29 + (1 : Int32))), (3, .int x3_92), (6, .int x6_65), (5, .int x5_49), (0, .ref (adr 35 0)), (1, .int a1), (2, .int a2)]) C 3 rfl dX11_over_93 rfl rfl (by decide) rfl ?_
            refine ge_goto (n := 29) C dX11_over_96 (by decide) ?_
            refine ge_sub [0, 1, 4, 5, 6] rfl ?_
            exact hag29 (x4_29 + (1 : Int32)) x3_92
      · refine ge_ldc (n := 23) C kc_X11_213 dX11_over_21 rfl ?_
        exact ge_iret C Rr dX11_over_23
theorem dX11_quiet_0 : decode cX11_quiet 0 = .ok (.iload_n 1, 1) := by decide +kernel
theorem dX11_quiet_1 : decode cX11_quiet 1 = .ok (.i2l, 1) := by decide +kernel
theorem dX11_quiet_2 : decode cX11_quiet 2 = .ok (.lconst 0, 1) := by decide +kernel
theorem dX11_quiet_3 : decode cX11_quiet 3 = .ok (.ldc2_w 234, 3) := by decide +kernel
theorem dX11_quiet_6 : decode cX11_quiet 6 = .ok (.invokestatic 96, 3) := by decide +kernel
theorem dX11_quiet_9 : decode cX11_quiet 9 = .ok (.ifCond .eq 15, 3) := by decide +kernel
theorem dX11_quiet_12 : decode cX11_quiet 12 = .ok (.iload_n 2, 1) := by decide +kernel
theorem dX11_quiet_13 : decode cX11_quiet 13 = .ok (.i2l, 1) := by decide +kernel
theorem dX11_quiet_14 : decode cX11_quiet 14 = .ok (.lconst 0, 1) := by decide +kernel
theorem dX11_quiet_15 : decode cX11_quiet 15 = .ok (.ldc2_w 291, 3) := by decide +kernel
theorem dX11_quiet_18 : decode cX11_quiet 18 = .ok (.invokestatic 96, 3) := by decide +kernel
theorem dX11_quiet_21 : decode cX11_quiet 21 = .ok (.ifCond .ne 6, 3) := by decide +kernel
theorem dX11_quiet_24 : decode cX11_quiet 24 = .ok (.ldc 107, 2) := by decide +kernel
theorem dX11_quiet_26 : decode cX11_quiet 26 = .ok (.ireturn, 1) := by decide +kernel
theorem dX11_quiet_27 : decode cX11_quiet 27 = .ok (.ldc2_w 293, 3) := by decide +kernel
theorem dX11_quiet_30 : decode cX11_quiet 30 = .ok (.lstore_n 3, 1) := by decide +kernel
theorem dX11_quiet_31 : decode cX11_quiet 31 = .ok (.iconst 0, 1) := by decide +kernel
theorem dX11_quiet_32 : decode cX11_quiet 32 = .ok (.istore 5, 2) := by decide +kernel
theorem dX11_quiet_34 : decode cX11_quiet 34 = .ok (.iload 5, 2) := by decide +kernel
theorem dX11_quiet_36 : decode cX11_quiet 36 = .ok (.iload_n 1, 1) := by decide +kernel
theorem dX11_quiet_37 : decode cX11_quiet 37 = .ok (.if_icmp .ge 18, 3) := by decide +kernel
theorem dX11_quiet_40 : decode cX11_quiet 40 = .ok (.lload_n 3, 1) := by decide +kernel
theorem dX11_quiet_41 : decode cX11_quiet 41 = .ok (.iload_n 2, 1) := by decide +kernel
theorem dX11_quiet_42 : decode cX11_quiet 42 = .ok (.i2l, 1) := by decide +kernel
theorem dX11_quiet_43 : decode cX11_quiet 43 = .ok (.lmul, 1) := by decide +kernel
theorem dX11_quiet_44 : decode cX11_quiet 44 = .ok (.ldc2_w 291, 3) := by decide +kernel
theorem dX11_quiet_47 : decode cX11_quiet 47 = .ok (.ldiv, 1) := by decide +kernel
theorem dX11_quiet_48 : decode cX11_quiet 48 = .ok (.lstore_n 3, 1) := by decide +kernel
theorem dX11_quiet_49 : decode cX11_quiet 49 = .ok (.iinc 5 1, 3) := by decide +kernel
theorem dX11_quiet_52 : decode cX11_quiet 52 = .ok (.goto (-18), 3) := by decide +kernel
theorem dX11_quiet_55 : decode cX11_quiet 55 = .ok (.lload_n 3, 1) := by decide +kernel
theorem dX11_quiet_56 : decode cX11_quiet 56 = .ok (.l2i, 1) := by decide +kernel
theorem dX11_quiet_57 : decode cX11_quiet 57 = .ok (.ireturn, 1) := by decide +kernel
set_option maxRecDepth 100000 in
set_option maxHeartbeats 4000000 in
theorem mX11_quiet {w : WX} {adr : Nat → Nat → Nat} (hj : Ij adr) (a1 : Int32) (a2 : Int32) (S : St) : ∀ (l : Launch) (r : Int32) (S2 : St), fX11_quiet a1 a2 S = some (r, S2) → Mi l w adr yX11_quiet cX11_quiet 6 (some .int) 1 25 [.ref (adr 35 0), .int a1, .int a2] S r S2 := by
  refine mi_of (lv := [(0, .ref (adr 35 0)), (1, .int a1), (2, .int a2)]) hj (plainFor_of_name (by decide +kernel)) rfl (Nat.le_of_ble_eq_true rfl) (fun k C Rr => ?_)
  have C : Cx w adr k cX11_quiet RX11 6 1 25 := C
  refine ge_iload_n (n := 1) C 1 rfl dX11_quiet_0 rfl rfl ?_
  refine ge_i2l (n := 2) C dX11_quiet_1 rfl ?_
  refine ge_lconst (v := 0) (n := 3) C dX11_quiet_2 (by decide) rfl ?_
  refine ge_ldc2 (n := 6) C kl_X11_234 dX11_quiet_3 rfl ?_
  refine ge_callSi (n := 9) C (mX11_within hj (Int32.toInt64 a1) (0 : Int64) (60 : Int64) S) gv_X11_96 hc_X11_within ⟨Nat.le_of_ble_eq_true rfl, Nat.le_of_ble_eq_true rfl⟩ rfl rfl (Nat.le_of_ble_eq_true rfl) dX11_quiet_6 rfl (fun r_6 S_6 => ?_)
  refine ge_if_eq (t := 24) (n := 12) C dX11_quiet_9 (by decide) rfl (fun h_9 => ?_) (fun h_9 => ?_)
  · refine ge_ldc (n := 26) C kc_X11_107 dX11_quiet_24 rfl ?_
    exact ge_iret C Rr dX11_quiet_26
  · refine ge_iload_n (n := 13) C 2 rfl dX11_quiet_12 rfl rfl ?_
    refine ge_i2l (n := 14) C dX11_quiet_13 rfl ?_
    refine ge_lconst (v := 0) (n := 15) C dX11_quiet_14 (by decide) rfl ?_
    refine ge_ldc2 (n := 18) C kl_X11_291 dX11_quiet_15 rfl ?_
    refine ge_callSi (n := 21) C (mX11_within hj (Int32.toInt64 a2) (0 : Int64) (100 : Int64) S_6) gv_X11_96 hc_X11_within ⟨Nat.le_of_ble_eq_true rfl, Nat.le_of_ble_eq_true rfl⟩ rfl rfl (Nat.le_of_ble_eq_true rfl) dX11_quiet_18 rfl (fun r_18 S_18 => ?_)
    refine ge_if_ne (t := 27) (n := 24) C dX11_quiet_21 (by decide) rfl (fun h_21 => ?_) (fun h_21 => ?_)
    · refine ge_ldc2 (n := 30) C kl_X11_293 dX11_quiet_27 rfl ?_
      refine ge_lstore_n (n := 31) (lv2 := [(3, .long (1000000000 : Int64)), (0, .ref (adr 35 0)), (1, .int a1), (2, .int a2)]) C dX11_quiet_30 rfl rfl (by decide) rfl ?_
      refine ge_iconst (v := 0) (n := 32) C dX11_quiet_31 (by decide) rfl ?_
      refine ge_istore (n := 34) (lv2 := [(5, .int (0 : Int32)), (3, .long (1000000000 : Int64)), (0, .ref (adr 35 0)), (1, .int a1), (2, .int a2)]) C dX11_quiet_32 rfl (by decide) rfl ?_
      refine ge_jn (fun (jj : Int64 → Op) => ∀ (x3_55 : Int64), Ge w adr k 55 [(3, .long x3_55)] [] S_18 (jj x3_55)) (fun x3_55 => ?_) (fun kk34 hkk34 => ?_)
      · refine ge_lload_n (n := 56) C 0 rfl dX11_quiet_55 rfl rfl ?_
        refine ge_l2i (n := 57) C dX11_quiet_56 rfl ?_
        exact ge_iret C Rr dX11_quiet_57
      refine ge_sub [0, 1, 3, 4] rfl ?_
      refine ge_lop (fun (jj : Int32 → Int64 → Op) => ∀ (x5_34 : Int32) (x3_34 : Int64), Ge w adr k 34 [(5, .int x5_34), (3, .long x3_34), (1, .int a1), (2, .int a2)] [] S_18 (jj x5_34 x3_34)) (fun _ _ => ge_none) (fun ag34 hag34 x5_34 x3_34 => ?_) FU (0 : Int32) (1000000000 : Int64)
      refine ge_iload (n := 36) C 0 rfl dX11_quiet_34 rfl ?_
      refine ge_iload_n (n := 37) C 2 rfl dX11_quiet_36 rfl rfl ?_
      refine ge_icmp_ge (t := 55) (n := 40) C dX11_quiet_37 (by decide) rfl (fun h_37 => ?_) (fun h_37 => ?_)
      · refine ge_sub [1] rfl ?_
        exact hkk34 x3_34
      · refine ge_lload_n (n := 41) C 1 rfl dX11_quiet_40 rfl rfl ?_
        refine ge_iload_n (n := 42) C 3 rfl dX11_quiet_41 rfl rfl ?_
        refine ge_i2l (n := 43) C dX11_quiet_42 rfl ?_
        refine ge_lmul (n := 44) C dX11_quiet_43 rfl ?_
        refine ge_ldc2 (n := 47) C kl_X11_291 dX11_quiet_44 rfl ?_
        refine ge_ldiv (n := 48) C (by decide) dX11_quiet_47 rfl ?_
        refine ge_bl (fun x3_48 => ?_)
        refine ge_lstore_n (n := 49) (lv2 := [(3, .long x3_48), (5, .int x5_34), (1, .int a1), (2, .int a2)]) C dX11_quiet_48 rfl rfl (by decide) rfl ?_
        refine ge_iinc (n := 52) (v := (x5_34 + (1 : Int32))) (lv2 := [(5, .int (x5_34 + (1 : Int32))), (3, .long x3_48), (1, .int a1), (2, .int a2)]) C 1 rfl dX11_quiet_49 rfl rfl (by decide) rfl ?_
        refine ge_goto (n := 34) C dX11_quiet_52 (by decide) ?_
        exact hag34 (x5_34 + (1 : Int32)) x3_48
    · refine ge_ldc (n := 26) C kc_X11_107 dX11_quiet_24 rfl ?_
      exact ge_iret C Rr dX11_quiet_26
theorem dX11_hear_0 : decode cX11_hear 0 = .ok (.aload_n 0, 1) := by decide +kernel
theorem dX11_hear_1 : decode cX11_hear 1 = .ok (.iload_n 1, 1) := by decide +kernel
theorem dX11_hear_2 : decode cX11_hear 2 = .ok (.invokevirtual 210, 3) := by decide +kernel
theorem dX11_hear_5 : decode cX11_hear 5 = .ok (.ifCond .eq 11, 3) := by decide +kernel
theorem dX11_hear_8 : decode cX11_hear 8 = .ok (.aload_n 0, 1) := by decide +kernel
theorem dX11_hear_9 : decode cX11_hear 9 = .ok (.iload_n 2, 1) := by decide +kernel
theorem dX11_hear_10 : decode cX11_hear 10 = .ok (.invokevirtual 223, 3) := by decide +kernel
theorem dX11_hear_13 : decode cX11_hear 13 = .ok (.ifCond .ne 6, 3) := by decide +kernel
theorem dX11_hear_16 : decode cX11_hear 16 = .ok (.ldc 213, 2) := by decide +kernel
theorem dX11_hear_18 : decode cX11_hear 18 = .ok (.ireturn, 1) := by decide +kernel
theorem dX11_hear_19 : decode cX11_hear 19 = .ok (.iload_n 3, 1) := by decide +kernel
theorem dX11_hear_20 : decode cX11_hear 20 = .ok (.i2l, 1) := by decide +kernel
theorem dX11_hear_21 : decode cX11_hear 21 = .ok (.lconst 0, 1) := by decide +kernel
theorem dX11_hear_22 : decode cX11_hear 22 = .ok (.ldc2_w 295, 3) := by decide +kernel
theorem dX11_hear_25 : decode cX11_hear 25 = .ok (.invokestatic 96, 3) := by decide +kernel
theorem dX11_hear_28 : decode cX11_hear 28 = .ok (.ifCond .ne 6, 3) := by decide +kernel
theorem dX11_hear_31 : decode cX11_hear 31 = .ok (.ldc 107, 2) := by decide +kernel
theorem dX11_hear_33 : decode cX11_hear 33 = .ok (.ireturn, 1) := by decide +kernel
theorem dX11_hear_34 : decode cX11_hear 34 = .ok (.aload_n 0, 1) := by decide +kernel
theorem dX11_hear_35 : decode cX11_hear 35 = .ok (.getfield 174, 3) := by decide +kernel
theorem dX11_hear_38 : decode cX11_hear 38 = .ok (.bipush 6, 2) := by decide +kernel
theorem dX11_hear_40 : decode cX11_hear 40 = .ok (.if_icmp .ne 6, 3) := by decide +kernel
theorem dX11_hear_43 : decode cX11_hear 43 = .ok (.ldc 111, 2) := by decide +kernel
theorem dX11_hear_45 : decode cX11_hear 45 = .ok (.ireturn, 1) := by decide +kernel
theorem dX11_hear_46 : decode cX11_hear 46 = .ok (.aload_n 0, 1) := by decide +kernel
theorem dX11_hear_47 : decode cX11_hear 47 = .ok (.getfield 25, 3) := by decide +kernel
theorem dX11_hear_50 : decode cX11_hear 50 = .ok (.aload_n 0, 1) := by decide +kernel
theorem dX11_hear_51 : decode cX11_hear 51 = .ok (.getfield 174, 3) := by decide +kernel
theorem dX11_hear_54 : decode cX11_hear 54 = .ok (.iload_n 1, 1) := by decide +kernel
theorem dX11_hear_55 : decode cX11_hear 55 = .ok (.iastore, 1) := by decide +kernel
theorem dX11_hear_56 : decode cX11_hear 56 = .ok (.aload_n 0, 1) := by decide +kernel
theorem dX11_hear_57 : decode cX11_hear 57 = .ok (.getfield 28, 3) := by decide +kernel
theorem dX11_hear_60 : decode cX11_hear 60 = .ok (.aload_n 0, 1) := by decide +kernel
theorem dX11_hear_61 : decode cX11_hear 61 = .ok (.getfield 174, 3) := by decide +kernel
theorem dX11_hear_64 : decode cX11_hear 64 = .ok (.iload_n 2, 1) := by decide +kernel
theorem dX11_hear_65 : decode cX11_hear 65 = .ok (.iastore, 1) := by decide +kernel
theorem dX11_hear_66 : decode cX11_hear 66 = .ok (.aload_n 0, 1) := by decide +kernel
theorem dX11_hear_67 : decode cX11_hear 67 = .ok (.getfield 31, 3) := by decide +kernel
theorem dX11_hear_70 : decode cX11_hear 70 = .ok (.aload_n 0, 1) := by decide +kernel
theorem dX11_hear_71 : decode cX11_hear 71 = .ok (.getfield 174, 3) := by decide +kernel
theorem dX11_hear_74 : decode cX11_hear 74 = .ok (.iload_n 3, 1) := by decide +kernel
theorem dX11_hear_75 : decode cX11_hear 75 = .ok (.iastore, 1) := by decide +kernel
theorem dX11_hear_76 : decode cX11_hear 76 = .ok (.aload_n 0, 1) := by decide +kernel
theorem dX11_hear_77 : decode cX11_hear 77 = .ok (.dup, 1) := by decide +kernel
theorem dX11_hear_78 : decode cX11_hear 78 = .ok (.getfield 174, 3) := by decide +kernel
theorem dX11_hear_81 : decode cX11_hear 81 = .ok (.iconst 1, 1) := by decide +kernel
theorem dX11_hear_82 : decode cX11_hear 82 = .ok (.iadd, 1) := by decide +kernel
theorem dX11_hear_83 : decode cX11_hear 83 = .ok (.putfield 174, 3) := by decide +kernel
theorem dX11_hear_86 : decode cX11_hear 86 = .ok (.aload_n 0, 1) := by decide +kernel
theorem dX11_hear_87 : decode cX11_hear 87 = .ok (.getfield 174, 3) := by decide +kernel
theorem dX11_hear_90 : decode cX11_hear 90 = .ok (.ireturn, 1) := by decide +kernel
set_option maxRecDepth 100000 in
set_option maxHeartbeats 4000000 in
theorem mX11_hear {w : WX} {adr : Nat → Nat → Nat} (hj : Ij adr) (a1 : Int32) (a2 : Int32) (a3 : Int32) (S : St) : ∀ (l : Launch) (r : Int32) (S2 : St), fX11_hear a1 a2 a3 S = some (r, S2) → Mi l w adr yX11_hear cX11_hear 4 (some .int) 2 46 [.ref (adr 35 0), .int a1, .int a2, .int a3] S r S2 := by
  refine mi_of (lv := [(0, .ref (adr 35 0)), (1, .int a1), (2, .int a2), (3, .int a3)]) hj (plainFor_of_name (by decide +kernel)) rfl (Nat.le_of_ble_eq_true rfl) (fun k C Rr => ?_)
  have C : Cx w adr k cX11_hear RX11 4 2 46 := C
  refine ge_aload_n (n := 1) C 0 rfl dX11_hear_0 rfl rfl ?_
  refine ge_iload_n (n := 2) C 1 rfl dX11_hear_1 rfl rfl ?_
  refine ge_callVi (n := 5) C (mX11_isMan hj a1 S) gv_X11_210 (cl_35 (by decide)) rfl rfl hc_X11_isMan ⟨Nat.le_of_ble_eq_true rfl, Nat.le_of_ble_eq_true rfl⟩ rfl rfl (Nat.le_of_ble_eq_true rfl) dX11_hear_2 rfl (fun r_2 S_2 => ?_)
  refine ge_if_eq (t := 16) (n := 8) C dX11_hear_5 (by decide) rfl (fun h_5 => ?_) (fun h_5 => ?_)
  · refine ge_ldc (n := 18) C kc_X11_213 dX11_hear_16 rfl ?_
    exact ge_iret C Rr dX11_hear_18
  · refine ge_aload_n (n := 9) C 0 rfl dX11_hear_8 rfl rfl ?_
    refine ge_iload_n (n := 10) C 2 rfl dX11_hear_9 rfl rfl ?_
    refine ge_callVi (n := 13) C (mX11_isSaying hj a2 S_2) gv_X11_223 (cl_35 (by decide)) rfl rfl hc_X11_isSaying ⟨Nat.le_of_ble_eq_true rfl, Nat.le_of_ble_eq_true rfl⟩ rfl rfl (Nat.le_of_ble_eq_true rfl) dX11_hear_10 rfl (fun r_10 S_10 => ?_)
    refine ge_if_ne (t := 19) (n := 16) C dX11_hear_13 (by decide) rfl (fun h_13 => ?_) (fun h_13 => ?_)
    · refine ge_iload_n (n := 20) C 3 rfl dX11_hear_19 rfl rfl ?_
      refine ge_i2l (n := 21) C dX11_hear_20 rfl ?_
      refine ge_lconst (v := 0) (n := 22) C dX11_hear_21 (by decide) rfl ?_
      refine ge_ldc2 (n := 25) C kl_X11_295 dX11_hear_22 rfl ?_
      refine ge_callSi (n := 28) C (mX11_within hj (Int32.toInt64 a3) (0 : Int64) (99 : Int64) S_10) gv_X11_96 hc_X11_within ⟨Nat.le_of_ble_eq_true rfl, Nat.le_of_ble_eq_true rfl⟩ rfl rfl (Nat.le_of_ble_eq_true rfl) dX11_hear_25 rfl (fun r_25 S_25 => ?_)
      refine ge_if_ne (t := 34) (n := 31) C dX11_hear_28 (by decide) rfl (fun h_28 => ?_) (fun h_28 => ?_)
      · refine ge_aload_n (n := 35) C 0 rfl dX11_hear_34 rfl rfl ?_
        refine gt_X11_174 (n := 38) C (by decide) dX11_hear_35 rfl ?_
        refine ge_bipush (v := 6) (n := 40) C dX11_hear_38 (by decide) rfl ?_
        refine ge_icmp_ne (t := 46) (n := 43) C dX11_hear_40 (by decide) rfl (fun h_40 => ?_) (fun h_40 => ?_)
        · refine ge_aload_n (n := 47) C 0 rfl dX11_hear_46 rfl rfl ?_
          refine gt_X11_25 (n := 50) C (by decide) dX11_hear_47 rfl ?_
          refine ge_aload_n (n := 51) C 0 rfl dX11_hear_50 rfl rfl ?_
          refine gt_X11_174 (n := 54) C (by decide) dX11_hear_51 rfl ?_
          refine ge_iload_n (n := 55) C 1 rfl dX11_hear_54 rfl rfl ?_
          refine as_41 (n := 56) C (by decide) dX11_hear_55 rfl (fun S_55 => ?_)
          refine ge_aload_n (n := 57) C 0 rfl dX11_hear_56 rfl rfl ?_
          refine gt_X11_28 (n := 60) C (by decide) dX11_hear_57 rfl ?_
          refine ge_aload_n (n := 61) C 0 rfl dX11_hear_60 rfl rfl ?_
          refine gt_X11_174 (n := 64) C (by decide) dX11_hear_61 rfl ?_
          refine ge_iload_n (n := 65) C 2 rfl dX11_hear_64 rfl rfl ?_
          refine as_42 (n := 66) C (by decide) dX11_hear_65 rfl (fun S_65 => ?_)
          refine ge_aload_n (n := 67) C 0 rfl dX11_hear_66 rfl rfl ?_
          refine gt_X11_31 (n := 70) C (by decide) dX11_hear_67 rfl ?_
          refine ge_aload_n (n := 71) C 0 rfl dX11_hear_70 rfl rfl ?_
          refine gt_X11_174 (n := 74) C (by decide) dX11_hear_71 rfl ?_
          refine ge_iload_n (n := 75) C 3 rfl dX11_hear_74 rfl rfl ?_
          refine as_43 (n := 76) C (by decide) dX11_hear_75 rfl (fun S_75 => ?_)
          refine ge_aload_n (n := 77) C 0 rfl dX11_hear_76 rfl rfl ?_
          refine ge_dup (n := 78) C dX11_hear_77 rfl rfl ?_
          refine gt_X11_174 (n := 81) C (by decide) dX11_hear_78 rfl ?_
          refine ge_iconst (v := 1) (n := 82) C dX11_hear_81 (by decide) rfl ?_
          refine ge_iadd (n := 83) C dX11_hear_82 rfl ?_
          refine pt_X11_174 (n := 86) C (by decide) dX11_hear_83 rfl (fun S_83 => ?_)
          refine ge_aload_n (n := 87) C 0 rfl dX11_hear_86 rfl rfl ?_
          refine gt_X11_174 (n := 90) C (by decide) dX11_hear_87 rfl ?_
          exact ge_iret C Rr dX11_hear_90
        · refine ge_ldc (n := 45) C kc_X11_111 dX11_hear_43 rfl ?_
          exact ge_iret C Rr dX11_hear_45
      · refine ge_ldc (n := 33) C kc_X11_107 dX11_hear_31 rfl ?_
        exact ge_iret C Rr dX11_hear_33
    · refine ge_ldc (n := 18) C kc_X11_213 dX11_hear_16 rfl ?_
      exact ge_iret C Rr dX11_hear_18
theorem dX11_laysStays_0 : decode cX11_laysStays 0 = .ok (.iconst 0, 1) := by decide +kernel
theorem dX11_laysStays_1 : decode cX11_laysStays 1 = .ok (.istore_n 2, 1) := by decide +kernel
theorem dX11_laysStays_2 : decode cX11_laysStays 2 = .ok (.aload_n 0, 1) := by decide +kernel
theorem dX11_laysStays_3 : decode cX11_laysStays 3 = .ok (.iload_n 1, 1) := by decide +kernel
theorem dX11_laysStays_4 : decode cX11_laysStays 4 = .ok (.invokevirtual 297, 3) := by decide +kernel
theorem dX11_laysStays_7 : decode cX11_laysStays 7 = .ok (.iconst 0, 1) := by decide +kernel
theorem dX11_laysStays_8 : decode cX11_laysStays 8 = .ok (.istore_n 3, 1) := by decide +kernel
theorem dX11_laysStays_9 : decode cX11_laysStays 9 = .ok (.iload_n 3, 1) := by decide +kernel
theorem dX11_laysStays_10 : decode cX11_laysStays 10 = .ok (.bipush 60, 2) := by decide +kernel
theorem dX11_laysStays_12 : decode cX11_laysStays 12 = .ok (.if_icmp .gt 154, 3) := by decide +kernel
theorem dX11_laysStays_15 : decode cX11_laysStays 15 = .ok (.aload_n 0, 1) := by decide +kernel
theorem dX11_laysStays_16 : decode cX11_laysStays 16 = .ok (.getfield 77, 3) := by decide +kernel
theorem dX11_laysStays_19 : decode cX11_laysStays 19 = .ok (.iload_n 3, 1) := by decide +kernel
theorem dX11_laysStays_20 : decode cX11_laysStays 20 = .ok (.iconst 1, 1) := by decide +kernel
theorem dX11_laysStays_21 : decode cX11_laysStays 21 = .ok (.bastore, 1) := by decide +kernel
theorem dX11_laysStays_22 : decode cX11_laysStays 22 = .ok (.iconst 0, 1) := by decide +kernel
theorem dX11_laysStays_23 : decode cX11_laysStays 23 = .ok (.istore 4, 2) := by decide +kernel
theorem dX11_laysStays_25 : decode cX11_laysStays 25 = .ok (.iload 4, 2) := by decide +kernel
theorem dX11_laysStays_27 : decode cX11_laysStays 27 = .ok (.aload_n 0, 1) := by decide +kernel
theorem dX11_laysStays_28 : decode cX11_laysStays 28 = .ok (.getfield 174, 3) := by decide +kernel
theorem dX11_laysStays_31 : decode cX11_laysStays 31 = .ok (.if_icmp .ge 61, 3) := by decide +kernel
theorem dX11_laysStays_34 : decode cX11_laysStays 34 = .ok (.aload_n 0, 1) := by decide +kernel
theorem dX11_laysStays_35 : decode cX11_laysStays 35 = .ok (.getfield 77, 3) := by decide +kernel
theorem dX11_laysStays_38 : decode cX11_laysStays 38 = .ok (.iload_n 3, 1) := by decide +kernel
theorem dX11_laysStays_39 : decode cX11_laysStays 39 = .ok (.aload_n 0, 1) := by decide +kernel
theorem dX11_laysStays_40 : decode cX11_laysStays 40 = .ok (.getfield 77, 3) := by decide +kernel
theorem dX11_laysStays_43 : decode cX11_laysStays 43 = .ok (.iload_n 3, 1) := by decide +kernel
theorem dX11_laysStays_44 : decode cX11_laysStays 44 = .ok (.baload, 1) := by decide +kernel
theorem dX11_laysStays_45 : decode cX11_laysStays 45 = .ok (.ifCond .eq 39, 3) := by decide +kernel
theorem dX11_laysStays_48 : decode cX11_laysStays 48 = .ok (.aload_n 0, 1) := by decide +kernel
theorem dX11_laysStays_49 : decode cX11_laysStays 49 = .ok (.getfield 25, 3) := by decide +kernel
theorem dX11_laysStays_52 : decode cX11_laysStays 52 = .ok (.iload 4, 2) := by decide +kernel
theorem dX11_laysStays_54 : decode cX11_laysStays 54 = .ok (.iaload, 1) := by decide +kernel
theorem dX11_laysStays_55 : decode cX11_laysStays 55 = .ok (.iload_n 1, 1) := by decide +kernel
theorem dX11_laysStays_56 : decode cX11_laysStays 56 = .ok (.if_icmp .ne 24, 3) := by decide +kernel
theorem dX11_laysStays_59 : decode cX11_laysStays 59 = .ok (.aload_n 0, 1) := by decide +kernel
theorem dX11_laysStays_60 : decode cX11_laysStays 60 = .ok (.aload_n 0, 1) := by decide +kernel
theorem dX11_laysStays_61 : decode cX11_laysStays 61 = .ok (.getfield 28, 3) := by decide +kernel
theorem dX11_laysStays_64 : decode cX11_laysStays 64 = .ok (.iload 4, 2) := by decide +kernel
theorem dX11_laysStays_66 : decode cX11_laysStays 66 = .ok (.iaload, 1) := by decide +kernel
theorem dX11_laysStays_67 : decode cX11_laysStays 67 = .ok (.invokevirtual 186, 3) := by decide +kernel
theorem dX11_laysStays_70 : decode cX11_laysStays 70 = .ok (.aload_n 0, 1) := by decide +kernel
theorem dX11_laysStays_71 : decode cX11_laysStays 71 = .ok (.getfield 31, 3) := by decide +kernel
theorem dX11_laysStays_74 : decode cX11_laysStays 74 = .ok (.iload 4, 2) := by decide +kernel
theorem dX11_laysStays_76 : decode cX11_laysStays 76 = .ok (.iaload, 1) := by decide +kernel
theorem dX11_laysStays_77 : decode cX11_laysStays 77 = .ok (.if_icmp .ne 7, 3) := by decide +kernel
theorem dX11_laysStays_80 : decode cX11_laysStays 80 = .ok (.iconst 1, 1) := by decide +kernel
theorem dX11_laysStays_81 : decode cX11_laysStays 81 = .ok (.goto 4, 3) := by decide +kernel
theorem dX11_laysStays_84 : decode cX11_laysStays 84 = .ok (.iconst 0, 1) := by decide +kernel
theorem dX11_laysStays_85 : decode cX11_laysStays 85 = .ok (.bastore, 1) := by decide +kernel
theorem dX11_laysStays_86 : decode cX11_laysStays 86 = .ok (.iinc 4 1, 3) := by decide +kernel
theorem dX11_laysStays_89 : decode cX11_laysStays 89 = .ok (.goto (-64), 3) := by decide +kernel
theorem dX11_laysStays_92 : decode cX11_laysStays 92 = .ok (.iconst 0, 1) := by decide +kernel
theorem dX11_laysStays_93 : decode cX11_laysStays 93 = .ok (.istore 4, 2) := by decide +kernel
theorem dX11_laysStays_95 : decode cX11_laysStays 95 = .ok (.iload 4, 2) := by decide +kernel
theorem dX11_laysStays_97 : decode cX11_laysStays 97 = .ok (.aload_n 0, 1) := by decide +kernel
theorem dX11_laysStays_98 : decode cX11_laysStays 98 = .ok (.getfield 100, 3) := by decide +kernel
theorem dX11_laysStays_101 : decode cX11_laysStays 101 = .ok (.if_icmp .ge 27, 3) := by decide +kernel
theorem dX11_laysStays_104 : decode cX11_laysStays 104 = .ok (.aload_n 0, 1) := by decide +kernel
theorem dX11_laysStays_105 : decode cX11_laysStays 105 = .ok (.getfield 81, 3) := by decide +kernel
theorem dX11_laysStays_108 : decode cX11_laysStays 108 = .ok (.bipush 8, 2) := by decide +kernel
theorem dX11_laysStays_110 : decode cX11_laysStays 110 = .ok (.iload_n 3, 1) := by decide +kernel
theorem dX11_laysStays_111 : decode cX11_laysStays 111 = .ok (.imul, 1) := by decide +kernel
theorem dX11_laysStays_112 : decode cX11_laysStays 112 = .ok (.iload 4, 2) := by decide +kernel
theorem dX11_laysStays_114 : decode cX11_laysStays 114 = .ok (.iadd, 1) := by decide +kernel
theorem dX11_laysStays_115 : decode cX11_laysStays 115 = .ok (.aload_n 0, 1) := by decide +kernel
theorem dX11_laysStays_116 : decode cX11_laysStays 116 = .ok (.iload 4, 2) := by decide +kernel
theorem dX11_laysStays_118 : decode cX11_laysStays 118 = .ok (.invokevirtual 186, 3) := by decide +kernel
theorem dX11_laysStays_121 : decode cX11_laysStays 121 = .ok (.iastore, 1) := by decide +kernel
theorem dX11_laysStays_122 : decode cX11_laysStays 122 = .ok (.iinc 4 1, 3) := by decide +kernel
theorem dX11_laysStays_125 : decode cX11_laysStays 125 = .ok (.goto (-30), 3) := by decide +kernel
theorem dX11_laysStays_128 : decode cX11_laysStays 128 = .ok (.iload_n 2, 1) := by decide +kernel
theorem dX11_laysStays_129 : decode cX11_laysStays 129 = .ok (.aload_n 0, 1) := by decide +kernel
theorem dX11_laysStays_130 : decode cX11_laysStays 130 = .ok (.getfield 77, 3) := by decide +kernel
theorem dX11_laysStays_133 : decode cX11_laysStays 133 = .ok (.iload_n 3, 1) := by decide +kernel
theorem dX11_laysStays_134 : decode cX11_laysStays 134 = .ok (.baload, 1) := by decide +kernel
theorem dX11_laysStays_135 : decode cX11_laysStays 135 = .ok (.ifCond .eq 7, 3) := by decide +kernel
theorem dX11_laysStays_138 : decode cX11_laysStays 138 = .ok (.iconst 1, 1) := by decide +kernel
theorem dX11_laysStays_139 : decode cX11_laysStays 139 = .ok (.goto 4, 3) := by decide +kernel
theorem dX11_laysStays_142 : decode cX11_laysStays 142 = .ok (.iconst 0, 1) := by decide +kernel
theorem dX11_laysStays_143 : decode cX11_laysStays 143 = .ok (.iadd, 1) := by decide +kernel
theorem dX11_laysStays_144 : decode cX11_laysStays 144 = .ok (.istore_n 2, 1) := by decide +kernel
theorem dX11_laysStays_145 : decode cX11_laysStays 145 = .ok (.aload_n 0, 1) := by decide +kernel
theorem dX11_laysStays_146 : decode cX11_laysStays 146 = .ok (.aload_n 0, 1) := by decide +kernel
theorem dX11_laysStays_147 : decode cX11_laysStays 147 = .ok (.getfield 7, 3) := by decide +kernel
theorem dX11_laysStays_150 : decode cX11_laysStays 150 = .ok (.iload_n 1, 1) := by decide +kernel
theorem dX11_laysStays_151 : decode cX11_laysStays 151 = .ok (.iaload, 1) := by decide +kernel
theorem dX11_laysStays_152 : decode cX11_laysStays 152 = .ok (.aload_n 0, 1) := by decide +kernel
theorem dX11_laysStays_153 : decode cX11_laysStays 153 = .ok (.getfield 165, 3) := by decide +kernel
theorem dX11_laysStays_156 : decode cX11_laysStays 156 = .ok (.iload_n 3, 1) := by decide +kernel
theorem dX11_laysStays_157 : decode cX11_laysStays 157 = .ok (.invokevirtual 230, 3) := by decide +kernel
theorem dX11_laysStays_160 : decode cX11_laysStays 160 = .ok (.iinc 3 1, 3) := by decide +kernel
theorem dX11_laysStays_163 : decode cX11_laysStays 163 = .ok (.goto (-154), 3) := by decide +kernel
theorem dX11_laysStays_166 : decode cX11_laysStays 166 = .ok (.iload_n 2, 1) := by decide +kernel
theorem dX11_laysStays_167 : decode cX11_laysStays 167 = .ok (.ireturn, 1) := by decide +kernel
set_option maxRecDepth 100000 in
set_option maxHeartbeats 4000000 in
theorem mX11_laysStays {w : WX} {adr : Nat → Nat → Nat} (hj : Ij adr) (a1 : Int32) (S : St) : ∀ (l : Launch) (r : Int32) (S2 : St), fX11_laysStays a1 S = some (r, S2) → Mi l w adr yX11_laysStays cX11_laysStays 5 (some .int) 2 46 [.ref (adr 35 0), .int a1] S r S2 := by
  refine mi_of (lv := [(0, .ref (adr 35 0)), (1, .int a1)]) hj (plainFor_of_name (by decide +kernel)) rfl (Nat.le_of_ble_eq_true rfl) (fun k C Rr => ?_)
  have C : Cx w adr k cX11_laysStays RX11 5 2 46 := C
  refine ge_iconst (v := 0) (n := 1) C dX11_laysStays_0 (by decide) rfl ?_
  refine ge_istore_n (n := 2) (lv2 := [(2, .int (0 : Int32)), (0, .ref (adr 35 0)), (1, .int a1)]) C dX11_laysStays_1 rfl rfl (by decide) rfl ?_
  refine ge_aload_n (n := 3) C 1 rfl dX11_laysStays_2 rfl rfl ?_
  refine ge_iload_n (n := 4) C 2 rfl dX11_laysStays_3 rfl rfl ?_
  refine ge_callVv (n := 7) C (mX11_takesFirst hj a1 S) gv_X11_297 (cl_35 (by decide)) rfl rfl hc_X11_takesFirst ⟨Nat.le_of_ble_eq_true rfl, Nat.le_of_ble_eq_true rfl⟩ rfl rfl (Nat.le_of_ble_eq_true rfl) dX11_laysStays_4 rfl (fun _ S_4 => ?_)
  refine ge_iconst (v := 0) (n := 8) C dX11_laysStays_7 (by decide) rfl ?_
  refine ge_istore_n (n := 9) (lv2 := [(3, .int (0 : Int32)), (2, .int (0 : Int32)), (0, .ref (adr 35 0)), (1, .int a1)]) C dX11_laysStays_8 rfl rfl (by decide) rfl ?_
  refine ge_jn (fun (jj : Int32 → St → Op) => ∀ (x2_166 : Int32) (S_166 : St), Ge w adr k 166 [(2, .int x2_166)] [] S_166 (jj x2_166 S_166)) (fun x2_166 S_166 => ?_) (fun kk9 hkk9 => ?_)
  · refine ge_iload_n (n := 167) C 0 rfl dX11_laysStays_166 rfl rfl ?_
    exact ge_iret C Rr dX11_laysStays_167
  refine ge_lop (fun (jj : Int32 → Int32 → St → Op) => ∀ (x3_9 : Int32) (x2_9 : Int32) (S_9 : St), Ge w adr k 9 [(3, .int x3_9), (2, .int x2_9), (0, .ref (adr 35 0)), (1, .int a1)] [] S_9 (jj x3_9 x2_9 S_9)) (fun _ _ _ => ge_none) (fun ag9 hag9 x3_9 x2_9 S_9 => ?_) FU (0 : Int32) (0 : Int32) S_4
  refine ge_iload_n (n := 10) C 0 rfl dX11_laysStays_9 rfl rfl ?_
  refine ge_bipush (v := 60) (n := 12) C dX11_laysStays_10 (by decide) rfl ?_
  refine ge_icmp_gt (t := 166) (n := 15) C dX11_laysStays_12 (by decide) rfl (fun h_12 => ?_) (fun h_12 => ?_)
  · refine ge_sub [1] rfl ?_
    exact hkk9 x2_9 S_9
  · refine ge_aload_n (n := 16) C 2 rfl dX11_laysStays_15 rfl rfl ?_
    refine gt_X11_77 (n := 19) C (by decide) dX11_laysStays_16 rfl ?_
    refine ge_iload_n (n := 20) C 0 rfl dX11_laysStays_19 rfl rfl ?_
    refine ge_iconst (v := 1) (n := 21) C dX11_laysStays_20 (by decide) rfl ?_
    refine as_57 (n := 22) C (by decide) dX11_laysStays_21 rfl (fun S_21 => ?_)
    refine ge_iconst (v := 0) (n := 23) C dX11_laysStays_22 (by decide) rfl ?_
    refine ge_istore (n := 25) (lv2 := [(4, .int (0 : Int32)), (3, .int x3_9), (2, .int x2_9), (0, .ref (adr 35 0)), (1, .int a1)]) C dX11_laysStays_23 rfl (by decide) rfl ?_
    refine ge_jn (fun (jj : St → Op) => ∀ (S_92 : St), Ge w adr k 92 [(3, .int x3_9), (2, .int x2_9), (0, .ref (adr 35 0)), (1, .int a1)] [] S_92 (jj S_92)) (fun S_92 => ?_) (fun kk25 hkk25 => ?_)
    · refine ge_iconst (v := 0) (n := 93) C dX11_laysStays_92 (by decide) rfl ?_
      refine ge_istore (n := 95) (lv2 := [(4, .int (0 : Int32)), (3, .int x3_9), (2, .int x2_9), (0, .ref (adr 35 0)), (1, .int a1)]) C dX11_laysStays_93 rfl (by decide) rfl ?_
      refine ge_jn (fun (jj : St → Op) => ∀ (S_128 : St), Ge w adr k 128 [(3, .int x3_9), (2, .int x2_9), (0, .ref (adr 35 0)), (1, .int a1)] [] S_128 (jj S_128)) (fun S_128 => ?_) (fun kk95 hkk95 => ?_)
      · refine ge_iload_n (n := 129) C 1 rfl dX11_laysStays_128 rfl rfl ?_
        refine ge_aload_n (n := 130) C 2 rfl dX11_laysStays_129 rfl rfl ?_
        refine gt_X11_77 (n := 133) C (by decide) dX11_laysStays_130 rfl ?_
        refine ge_iload_n (n := 134) C 0 rfl dX11_laysStays_133 rfl rfl ?_
        refine al_57 (n := 135) C (by decide) dX11_laysStays_134 rfl ?_
        refine ge_jn (fun (jj : Int32 → Op) => ∀ (v0_143 : Int32), Ge w adr k 143 [(3, .int x3_9), (0, .ref (adr 35 0)), (1, .int a1)] [.int v0_143, .int x2_9] S_128 (jj v0_143)) (fun v0_143 => ?_) (fun j143 hj143 => ?_)
        · refine ge_iadd (n := 144) C dX11_laysStays_143 rfl ?_
          refine ge_bi (fun x2_144 => ?_)
          refine ge_istore_n (n := 145) (lv2 := [(2, .int x2_144), (3, .int x3_9), (0, .ref (adr 35 0)), (1, .int a1)]) C dX11_laysStays_144 rfl rfl (by decide) rfl ?_
          refine ge_aload_n (n := 146) C 2 rfl dX11_laysStays_145 rfl rfl ?_
          refine ge_aload_n (n := 147) C 2 rfl dX11_laysStays_146 rfl rfl ?_
          refine gt_X11_7 (n := 150) C (by decide) dX11_laysStays_147 rfl ?_
          refine ge_iload_n (n := 151) C 3 rfl dX11_laysStays_150 rfl rfl ?_
          refine al_36 (n := 152) C (by decide) dX11_laysStays_151 rfl ?_
          refine ge_aload_n (n := 153) C 2 rfl dX11_laysStays_152 rfl rfl ?_
          refine gt_X11_165 (n := 156) C (by decide) dX11_laysStays_153 rfl ?_
          refine ge_iload_n (n := 157) C 1 rfl dX11_laysStays_156 rfl rfl ?_
          refine ge_callVv (n := 160) C (mX11_tans hj (S_128 36 0 (Int32.toNatClampNeg a1)) (S_128 35 0 1) x3_9 S_128) gv_X11_230 (cl_35 (by decide)) rfl rfl hc_X11_tans ⟨Nat.le_of_ble_eq_true rfl, Nat.le_of_ble_eq_true rfl⟩ rfl rfl (Nat.le_of_ble_eq_true rfl) dX11_laysStays_157 rfl (fun _ S_157 => ?_)
          refine ge_iinc (n := 163) (v := (x3_9 + (1 : Int32))) (lv2 := [(3, .int (x3_9 + (1 : Int32))), (2, .int x2_144), (0, .ref (adr 35 0)), (1, .int a1)]) C 1 rfl dX11_laysStays_160 rfl rfl (by decide) rfl ?_
          refine ge_goto (n := 9) C dX11_laysStays_163 (by decide) ?_
          exact hag9 (x3_9 + (1 : Int32)) x2_144 S_157
        refine ge_if_eq (t := 142) (n := 138) C dX11_laysStays_135 (by decide) rfl (fun h_135 => ?_) (fun h_135 => ?_)
        · refine ge_iconst (v := 0) (n := 143) C dX11_laysStays_142 (by decide) rfl ?_
          refine ge_sub [0, 2, 3] rfl ?_
          exact hj143 (0 : Int32)
        · refine ge_iconst (v := 1) (n := 139) C dX11_laysStays_138 (by decide) rfl ?_
          refine ge_goto (n := 143) C dX11_laysStays_139 (by decide) ?_
          refine ge_sub [0, 2, 3] rfl ?_
          exact hj143 (1 : Int32)
      refine ge_lop (fun (jj : Int32 → St → Op) => ∀ (x4_95 : Int32) (S_95 : St), Ge w adr k 95 [(4, .int x4_95), (3, .int x3_9), (2, .int x2_9), (0, .ref (adr 35 0)), (1, .int a1)] [] S_95 (jj x4_95 S_95)) (fun _ _ => ge_none) (fun ag95 hag95 x4_95 S_95 => ?_) FU (0 : Int32) S_92
      refine ge_iload (n := 97) C 0 rfl dX11_laysStays_95 rfl ?_
      refine ge_aload_n (n := 98) C 3 rfl dX11_laysStays_97 rfl rfl ?_
      refine gt_X11_100 (n := 101) C (by decide) dX11_laysStays_98 rfl ?_
      refine ge_icmp_ge (t := 128) (n := 104) C dX11_laysStays_101 (by decide) rfl (fun h_101 => ?_) (fun h_101 => ?_)
      · refine ge_sub [1, 2, 3, 4] rfl ?_
        exact hkk95 S_95
      · refine ge_aload_n (n := 105) C 3 rfl dX11_laysStays_104 rfl rfl ?_
        refine gt_X11_81 (n := 108) C (by decide) dX11_laysStays_105 rfl ?_
        refine ge_bipush (v := 8) (n := 110) C dX11_laysStays_108 (by decide) rfl ?_
        refine ge_iload_n (n := 111) C 1 rfl dX11_laysStays_110 rfl rfl ?_
        refine ge_imul (n := 112) C dX11_laysStays_111 rfl ?_
        refine ge_iload (n := 114) C 0 rfl dX11_laysStays_112 rfl ?_
        refine ge_iadd (n := 115) C dX11_laysStays_114 rfl ?_
        refine ge_aload_n (n := 116) C 3 rfl dX11_laysStays_115 rfl rfl ?_
        refine ge_iload (n := 118) C 0 rfl dX11_laysStays_116 rfl ?_
        refine ge_callVi (n := 121) C (mX11_hurts hj x4_95 S_95) gv_X11_186 (cl_35 (by decide)) rfl rfl hc_X11_hurts ⟨Nat.le_of_ble_eq_true rfl, Nat.le_of_ble_eq_true rfl⟩ rfl rfl (Nat.le_of_ble_eq_true rfl) dX11_laysStays_118 rfl (fun r_118 S_118 => ?_)
        refine as_58 (n := 122) C (by decide) dX11_laysStays_121 rfl (fun S_121 => ?_)
        refine ge_iinc (n := 125) (v := (x4_95 + (1 : Int32))) (lv2 := [(4, .int (x4_95 + (1 : Int32))), (3, .int x3_9), (2, .int x2_9), (0, .ref (adr 35 0)), (1, .int a1)]) C 0 rfl dX11_laysStays_122 rfl rfl (by decide) rfl ?_
        refine ge_goto (n := 95) C dX11_laysStays_125 (by decide) ?_
        exact hag95 (x4_95 + (1 : Int32)) S_121
    refine ge_lop (fun (jj : Int32 → St → Op) => ∀ (x4_25 : Int32) (S_25 : St), Ge w adr k 25 [(4, .int x4_25), (3, .int x3_9), (2, .int x2_9), (0, .ref (adr 35 0)), (1, .int a1)] [] S_25 (jj x4_25 S_25)) (fun _ _ => ge_none) (fun ag25 hag25 x4_25 S_25 => ?_) FU (0 : Int32) S_21
    refine ge_iload (n := 27) C 0 rfl dX11_laysStays_25 rfl ?_
    refine ge_aload_n (n := 28) C 3 rfl dX11_laysStays_27 rfl rfl ?_
    refine gt_X11_174 (n := 31) C (by decide) dX11_laysStays_28 rfl ?_
    refine ge_icmp_ge (t := 92) (n := 34) C dX11_laysStays_31 (by decide) rfl (fun h_31 => ?_) (fun h_31 => ?_)
    · refine ge_sub [1, 2, 3, 4] rfl ?_
      exact hkk25 S_25
    · refine ge_aload_n (n := 35) C 3 rfl dX11_laysStays_34 rfl rfl ?_
      refine gt_X11_77 (n := 38) C (by decide) dX11_laysStays_35 rfl ?_
      refine ge_iload_n (n := 39) C 1 rfl dX11_laysStays_38 rfl rfl ?_
      refine ge_aload_n (n := 40) C 3 rfl dX11_laysStays_39 rfl rfl ?_
      refine gt_X11_77 (n := 43) C (by decide) dX11_laysStays_40 rfl ?_
      refine ge_iload_n (n := 44) C 1 rfl dX11_laysStays_43 rfl rfl ?_
      refine al_57 (n := 45) C (by decide) dX11_laysStays_44 rfl ?_
      refine ge_jn (fun (jj : Int32 → St → Op) => ∀ (v0_85 : Int32) (S_85 : St), Ge w adr k 85 [(4, .int x4_25), (3, .int x3_9), (2, .int x2_9), (0, .ref (adr 35 0)), (1, .int a1)] [.int v0_85, .int x3_9, .ref (adr 57 0)] S_85 (jj v0_85 S_85)) (fun v0_85 S_85 => ?_) (fun j85 hj85 => ?_)
      · refine as_57 (n := 86) C (by decide) dX11_laysStays_85 rfl (fun S_85 => ?_)
        refine ge_iinc (n := 89) (v := (x4_25 + (1 : Int32))) (lv2 := [(4, .int (x4_25 + (1 : Int32))), (3, .int x3_9), (2, .int x2_9), (0, .ref (adr 35 0)), (1, .int a1)]) C 0 rfl dX11_laysStays_86 rfl rfl (by decide) rfl ?_
        refine ge_goto (n := 25) C dX11_laysStays_89 (by decide) ?_
        exact hag25 (x4_25 + (1 : Int32)) S_85
      refine ge_jn (fun (jj : St → Op) => ∀ (S_84 : St), Ge w adr k 84 [(4, .int x4_25), (3, .int x3_9), (2, .int x2_9), (0, .ref (adr 35 0)), (1, .int a1)] [.int x3_9, .ref (adr 57 0)] S_84 (jj S_84)) (fun S_84 => ?_) (fun j84 hj84 => ?_)
      · refine ge_iconst (v := 0) (n := 85) C dX11_laysStays_84 (by decide) rfl ?_
        exact hj85 (0 : Int32) S_84
      refine ge_if_eq (t := 84) (n := 48) C dX11_laysStays_45 (by decide) rfl (fun h_45 => ?_) (fun h_45 => ?_)
      · exact hj84 S_25
      · refine ge_aload_n (n := 49) C 3 rfl dX11_laysStays_48 rfl rfl ?_
        refine gt_X11_25 (n := 52) C (by decide) dX11_laysStays_49 rfl ?_
        refine ge_iload (n := 54) C 0 rfl dX11_laysStays_52 rfl ?_
        refine al_41 (n := 55) C (by decide) dX11_laysStays_54 rfl ?_
        refine ge_iload_n (n := 56) C 4 rfl dX11_laysStays_55 rfl rfl ?_
        refine ge_jn (fun (jj : St → Op) => ∀ (S_80 : St), Ge w adr k 80 [(4, .int x4_25), (3, .int x3_9), (2, .int x2_9), (0, .ref (adr 35 0)), (1, .int a1)] [.int x3_9, .ref (adr 57 0)] S_80 (jj S_80)) (fun S_80 => ?_) (fun j80 hj80 => ?_)
        · refine ge_iconst (v := 1) (n := 81) C dX11_laysStays_80 (by decide) rfl ?_
          refine ge_goto (n := 85) C dX11_laysStays_81 (by decide) ?_
          exact hj85 (1 : Int32) S_80
        refine ge_icmp_ne (t := 80) (n := 59) C dX11_laysStays_56 (by decide) rfl (fun h_56 => ?_) (fun h_56 => ?_)
        · exact hj80 S_25
        · refine ge_aload_n (n := 60) C 3 rfl dX11_laysStays_59 rfl rfl ?_
          refine ge_aload_n (n := 61) C 3 rfl dX11_laysStays_60 rfl rfl ?_
          refine gt_X11_28 (n := 64) C (by decide) dX11_laysStays_61 rfl ?_
          refine ge_iload (n := 66) C 0 rfl dX11_laysStays_64 rfl ?_
          refine al_42 (n := 67) C (by decide) dX11_laysStays_66 rfl ?_
          refine ge_callVi (n := 70) C (mX11_hurts hj (S_25 42 0 (Int32.toNatClampNeg x4_25)) S_25) gv_X11_186 (cl_35 (by decide)) rfl rfl hc_X11_hurts ⟨Nat.le_of_ble_eq_true rfl, Nat.le_of_ble_eq_true rfl⟩ rfl rfl (Nat.le_of_ble_eq_true rfl) dX11_laysStays_67 rfl (fun r_67 S_67 => ?_)
          refine ge_aload_n (n := 71) C 3 rfl dX11_laysStays_70 rfl rfl ?_
          refine gt_X11_31 (n := 74) C (by decide) dX11_laysStays_71 rfl ?_
          refine ge_iload (n := 76) C 0 rfl dX11_laysStays_74 rfl ?_
          refine al_43 (n := 77) C (by decide) dX11_laysStays_76 rfl ?_
          refine ge_icmp_ne (t := 84) (n := 80) C dX11_laysStays_77 (by decide) rfl (fun h_77 => ?_) (fun h_77 => ?_)
          · exact hj84 S_67
          · exact hj80 S_67
theorem dX11_stays_0 : decode cX11_stays 0 = .ok (.aload_n 0, 1) := by decide +kernel
theorem dX11_stays_1 : decode cX11_stays 1 = .ok (.iload_n 1, 1) := by decide +kernel
theorem dX11_stays_2 : decode cX11_stays 2 = .ok (.invokevirtual 210, 3) := by decide +kernel
theorem dX11_stays_5 : decode cX11_stays 5 = .ok (.ifCond .ne 6, 3) := by decide +kernel
theorem dX11_stays_8 : decode cX11_stays 8 = .ok (.ldc 213, 2) := by decide +kernel
theorem dX11_stays_10 : decode cX11_stays 10 = .ok (.ireturn, 1) := by decide +kernel
theorem dX11_stays_11 : decode cX11_stays 11 = .ok (.iload_n 2, 1) := by decide +kernel
theorem dX11_stays_12 : decode cX11_stays 12 = .ok (.i2l, 1) := by decide +kernel
theorem dX11_stays_13 : decode cX11_stays 13 = .ok (.lconst 0, 1) := by decide +kernel
theorem dX11_stays_14 : decode cX11_stays 14 = .ok (.ldc2_w 286, 3) := by decide +kernel
theorem dX11_stays_17 : decode cX11_stays 17 = .ok (.invokestatic 96, 3) := by decide +kernel
theorem dX11_stays_20 : decode cX11_stays 20 = .ok (.ifCond .ne 6, 3) := by decide +kernel
theorem dX11_stays_23 : decode cX11_stays 23 = .ok (.ldc 107, 2) := by decide +kernel
theorem dX11_stays_25 : decode cX11_stays 25 = .ok (.ireturn, 1) := by decide +kernel
theorem dX11_stays_26 : decode cX11_stays 26 = .ok (.aload_n 0, 1) := by decide +kernel
theorem dX11_stays_27 : decode cX11_stays 27 = .ok (.iload_n 1, 1) := by decide +kernel
theorem dX11_stays_28 : decode cX11_stays 28 = .ok (.invokevirtual 300, 3) := by decide +kernel
theorem dX11_stays_31 : decode cX11_stays 31 = .ok (.istore_n 3, 1) := by decide +kernel
theorem dX11_stays_32 : decode cX11_stays 32 = .ok (.iconst (-1), 1) := by decide +kernel
theorem dX11_stays_33 : decode cX11_stays 33 = .ok (.istore 4, 2) := by decide +kernel
theorem dX11_stays_35 : decode cX11_stays 35 = .ok (.iconst (-1), 1) := by decide +kernel
theorem dX11_stays_36 : decode cX11_stays 36 = .ok (.istore 5, 2) := by decide +kernel
theorem dX11_stays_38 : decode cX11_stays 38 = .ok (.iconst 0, 1) := by decide +kernel
theorem dX11_stays_39 : decode cX11_stays 39 = .ok (.istore 6, 2) := by decide +kernel
theorem dX11_stays_41 : decode cX11_stays 41 = .ok (.iload 6, 2) := by decide +kernel
theorem dX11_stays_43 : decode cX11_stays 43 = .ok (.bipush 60, 2) := by decide +kernel
theorem dX11_stays_45 : decode cX11_stays 45 = .ok (.if_icmp .gt 52, 3) := by decide +kernel
theorem dX11_stays_48 : decode cX11_stays 48 = .ok (.aload_n 0, 1) := by decide +kernel
theorem dX11_stays_49 : decode cX11_stays 49 = .ok (.getfield 77, 3) := by decide +kernel
theorem dX11_stays_52 : decode cX11_stays 52 = .ok (.iload 6, 2) := by decide +kernel
theorem dX11_stays_54 : decode cX11_stays 54 = .ok (.baload, 1) := by decide +kernel
theorem dX11_stays_55 : decode cX11_stays 55 = .ok (.ifCond .eq 13, 3) := by decide +kernel
theorem dX11_stays_58 : decode cX11_stays 58 = .ok (.iload 4, 2) := by decide +kernel
theorem dX11_stays_60 : decode cX11_stays 60 = .ok (.ifCond .ge 8, 3) := by decide +kernel
theorem dX11_stays_63 : decode cX11_stays 63 = .ok (.iload 6, 2) := by decide +kernel
theorem dX11_stays_65 : decode cX11_stays 65 = .ok (.goto 5, 3) := by decide +kernel
theorem dX11_stays_68 : decode cX11_stays 68 = .ok (.iload 4, 2) := by decide +kernel
theorem dX11_stays_70 : decode cX11_stays 70 = .ok (.istore 4, 2) := by decide +kernel
theorem dX11_stays_72 : decode cX11_stays 72 = .ok (.aload_n 0, 1) := by decide +kernel
theorem dX11_stays_73 : decode cX11_stays 73 = .ok (.getfield 77, 3) := by decide +kernel
theorem dX11_stays_76 : decode cX11_stays 76 = .ok (.iload 6, 2) := by decide +kernel
theorem dX11_stays_78 : decode cX11_stays 78 = .ok (.baload, 1) := by decide +kernel
theorem dX11_stays_79 : decode cX11_stays 79 = .ok (.ifCond .eq 8, 3) := by decide +kernel
theorem dX11_stays_82 : decode cX11_stays 82 = .ok (.iload 6, 2) := by decide +kernel
theorem dX11_stays_84 : decode cX11_stays 84 = .ok (.goto 5, 3) := by decide +kernel
theorem dX11_stays_87 : decode cX11_stays 87 = .ok (.iload 5, 2) := by decide +kernel
theorem dX11_stays_89 : decode cX11_stays 89 = .ok (.istore 5, 2) := by decide +kernel
theorem dX11_stays_91 : decode cX11_stays 91 = .ok (.iinc 6 1, 3) := by decide +kernel
theorem dX11_stays_94 : decode cX11_stays 94 = .ok (.goto (-53), 3) := by decide +kernel
theorem dX11_stays_97 : decode cX11_stays 97 = .ok (.iload_n 2, 1) := by decide +kernel
theorem dX11_stays_98 : decode cX11_stays 98 = .ok (.ifCond .ne 7, 3) := by decide +kernel
theorem dX11_stays_101 : decode cX11_stays 101 = .ok (.iload_n 3, 1) := by decide +kernel
theorem dX11_stays_102 : decode cX11_stays 102 = .ok (.goto 15, 3) := by decide +kernel
theorem dX11_stays_105 : decode cX11_stays 105 = .ok (.iload_n 2, 1) := by decide +kernel
theorem dX11_stays_106 : decode cX11_stays 106 = .ok (.iconst 1, 1) := by decide +kernel
theorem dX11_stays_107 : decode cX11_stays 107 = .ok (.if_icmp .ne 8, 3) := by decide +kernel
theorem dX11_stays_110 : decode cX11_stays 110 = .ok (.iload 4, 2) := by decide +kernel
theorem dX11_stays_112 : decode cX11_stays 112 = .ok (.goto 5, 3) := by decide +kernel
theorem dX11_stays_115 : decode cX11_stays 115 = .ok (.iload 5, 2) := by decide +kernel
theorem dX11_stays_117 : decode cX11_stays 117 = .ok (.ireturn, 1) := by decide +kernel
set_option maxRecDepth 100000 in
set_option maxHeartbeats 4000000 in
theorem mX11_stays {w : WX} {adr : Nat → Nat → Nat} (hj : Ij adr) (a1 : Int32) (a2 : Int32) (S : St) : ∀ (l : Launch) (r : Int32) (S2 : St), fX11_stays a1 a2 S = some (r, S2) → Mi l w adr yX11_stays cX11_stays 7 (some .int) 3 70 [.ref (adr 35 0), .int a1, .int a2] S r S2 := by
  refine mi_of (lv := [(0, .ref (adr 35 0)), (1, .int a1), (2, .int a2)]) hj (plainFor_of_name (by decide +kernel)) rfl (Nat.le_of_ble_eq_true rfl) (fun k C Rr => ?_)
  have C : Cx w adr k cX11_stays RX11 7 3 70 := C
  refine ge_aload_n (n := 1) C 0 rfl dX11_stays_0 rfl rfl ?_
  refine ge_iload_n (n := 2) C 1 rfl dX11_stays_1 rfl rfl ?_
  refine ge_callVi (n := 5) C (mX11_isMan hj a1 S) gv_X11_210 (cl_35 (by decide)) rfl rfl hc_X11_isMan ⟨Nat.le_of_ble_eq_true rfl, Nat.le_of_ble_eq_true rfl⟩ rfl rfl (Nat.le_of_ble_eq_true rfl) dX11_stays_2 rfl (fun r_2 S_2 => ?_)
  refine ge_if_ne (t := 11) (n := 8) C dX11_stays_5 (by decide) rfl (fun h_5 => ?_) (fun h_5 => ?_)
  · refine ge_iload_n (n := 12) C 2 rfl dX11_stays_11 rfl rfl ?_
    refine ge_i2l (n := 13) C dX11_stays_12 rfl ?_
    refine ge_lconst (v := 0) (n := 14) C dX11_stays_13 (by decide) rfl ?_
    refine ge_ldc2 (n := 17) C kl_X11_286 dX11_stays_14 rfl ?_
    refine ge_callSi (n := 20) C (mX11_within hj (Int32.toInt64 a2) (0 : Int64) (2 : Int64) S_2) gv_X11_96 hc_X11_within ⟨Nat.le_of_ble_eq_true rfl, Nat.le_of_ble_eq_true rfl⟩ rfl rfl (Nat.le_of_ble_eq_true rfl) dX11_stays_17 rfl (fun r_17 S_17 => ?_)
    refine ge_if_ne (t := 26) (n := 23) C dX11_stays_20 (by decide) rfl (fun h_20 => ?_) (fun h_20 => ?_)
    · refine ge_aload_n (n := 27) C 0 rfl dX11_stays_26 rfl rfl ?_
      refine ge_iload_n (n := 28) C 1 rfl dX11_stays_27 rfl rfl ?_
      refine ge_callVi (n := 31) C (mX11_laysStays hj a1 S_17) gv_X11_300 (cl_35 (by decide)) rfl rfl hc_X11_laysStays ⟨Nat.le_of_ble_eq_true rfl, Nat.le_of_ble_eq_true rfl⟩ rfl rfl (Nat.le_of_ble_eq_true rfl) dX11_stays_28 rfl (fun r_28 S_28 => ?_)
      refine ge_istore_n (n := 32) (lv2 := [(3, .int r_28), (0, .ref (adr 35 0)), (1, .int a1), (2, .int a2)]) C dX11_stays_31 rfl rfl (by decide) rfl ?_
      refine ge_iconst (v := -1) (n := 33) C dX11_stays_32 (by decide) rfl ?_
      refine ge_istore (n := 35) (lv2 := [(4, .int (-1 : Int32)), (3, .int r_28), (0, .ref (adr 35 0)), (1, .int a1), (2, .int a2)]) C dX11_stays_33 rfl (by decide) rfl ?_
      refine ge_iconst (v := -1) (n := 36) C dX11_stays_35 (by decide) rfl ?_
      refine ge_istore (n := 38) (lv2 := [(5, .int (-1 : Int32)), (4, .int (-1 : Int32)), (3, .int r_28), (0, .ref (adr 35 0)), (1, .int a1), (2, .int a2)]) C dX11_stays_36 rfl (by decide) rfl ?_
      refine ge_iconst (v := 0) (n := 39) C dX11_stays_38 (by decide) rfl ?_
      refine ge_istore (n := 41) (lv2 := [(6, .int (0 : Int32)), (5, .int (-1 : Int32)), (4, .int (-1 : Int32)), (3, .int r_28), (0, .ref (adr 35 0)), (1, .int a1), (2, .int a2)]) C dX11_stays_39 rfl (by decide) rfl ?_
      refine ge_jn (fun (jj : Int32 → Int32 → Op) => ∀ (x5_97 : Int32) (x4_97 : Int32), Ge w adr k 97 [(5, .int x5_97), (4, .int x4_97), (3, .int r_28), (2, .int a2)] [] S_28 (jj x5_97 x4_97)) (fun x5_97 x4_97 => ?_) (fun kk41 hkk41 => ?_)
      · refine ge_iload_n (n := 98) C 3 rfl dX11_stays_97 rfl rfl ?_
        refine ge_if_ne (t := 105) (n := 101) C dX11_stays_98 (by decide) rfl (fun h_98 => ?_) (fun h_98 => ?_)
        · refine ge_iload_n (n := 106) C 3 rfl dX11_stays_105 rfl rfl ?_
          refine ge_iconst (v := 1) (n := 107) C dX11_stays_106 (by decide) rfl ?_
          refine ge_icmp_ne (t := 115) (n := 110) C dX11_stays_107 (by decide) rfl (fun h_107 => ?_) (fun h_107 => ?_)
          · refine ge_iload (n := 117) C 0 rfl dX11_stays_115 rfl ?_
            exact ge_iret C Rr dX11_stays_117
          · refine ge_iload (n := 112) C 1 rfl dX11_stays_110 rfl ?_
            refine ge_goto (n := 117) C dX11_stays_112 (by decide) ?_
            exact ge_iret C Rr dX11_stays_117
        · refine ge_iload_n (n := 102) C 2 rfl dX11_stays_101 rfl rfl ?_
          refine ge_goto (n := 117) C dX11_stays_102 (by decide) ?_
          exact ge_iret C Rr dX11_stays_117
      refine ge_sub [0, 1, 2, 3, 4, 6] rfl ?_
      refine ge_lop (fun (jj : Int32 → Int32 → Int32 → Op) => ∀ (x6_41 : Int32) (x5_41 : Int32) (x4_41 : Int32), Ge w adr k 41 [(6, .int x6_41), (5, .int x5_41), (4, .int x4_41), (3, .int r_28), (0, .ref (adr 35 0)), (2, .int a2)] [] S_28 (jj x6_41 x5_41 x4_41)) (fun _ _ _ => ge_none) (fun ag41 hag41 x6_41 x5_41 x4_41 => ?_) FU (0 : Int32) (-1 : Int32) (-1 : Int32)
      refine ge_iload (n := 43) C 0 rfl dX11_stays_41 rfl ?_
      refine ge_bipush (v := 60) (n := 45) C dX11_stays_43 (by decide) rfl ?_
      refine ge_icmp_gt (t := 97) (n := 48) C dX11_stays_45 (by decide) rfl (fun h_45 => ?_) (fun h_45 => ?_)
      · refine ge_sub [1, 2, 3, 5] rfl ?_
        exact hkk41 x5_41 x4_41
      · refine ge_aload_n (n := 49) C 4 rfl dX11_stays_48 rfl rfl ?_
        refine gt_X11_77 (n := 52) C (by decide) dX11_stays_49 rfl ?_
        refine ge_iload (n := 54) C 0 rfl dX11_stays_52 rfl ?_
        refine al_57 (n := 55) C (by decide) dX11_stays_54 rfl ?_
        refine ge_jn (fun (jj : Int32 → Op) => ∀ (v0_70 : Int32), Ge w adr k 70 [(6, .int x6_41), (5, .int x5_41), (3, .int r_28), (0, .ref (adr 35 0)), (2, .int a2)] [.int v0_70] S_28 (jj v0_70)) (fun v0_70 => ?_) (fun j70 hj70 => ?_)
        · refine ge_istore (n := 72) (lv2 := [(4, .int v0_70), (6, .int x6_41), (5, .int x5_41), (3, .int r_28), (0, .ref (adr 35 0)), (2, .int a2)]) C dX11_stays_70 rfl (by decide) rfl ?_
          refine ge_aload_n (n := 73) C 4 rfl dX11_stays_72 rfl rfl ?_
          refine gt_X11_77 (n := 76) C (by decide) dX11_stays_73 rfl ?_
          refine ge_iload (n := 78) C 1 rfl dX11_stays_76 rfl ?_
          refine al_57 (n := 79) C (by decide) dX11_stays_78 rfl ?_
          refine ge_if_eq (t := 87) (n := 82) C dX11_stays_79 (by decide) rfl (fun h_79 => ?_) (fun h_79 => ?_)
          · refine ge_iload (n := 89) C 2 rfl dX11_stays_87 rfl ?_
            refine ge_istore (n := 91) (lv2 := [(5, .int x5_41), (4, .int v0_70), (6, .int x6_41), (3, .int r_28), (0, .ref (adr 35 0)), (2, .int a2)]) C dX11_stays_89 rfl (by decide) rfl ?_
            refine ge_iinc (n := 94) (v := (x6_41 + (1 : Int32))) (lv2 := [(6, .int (x6_41 + (1 : Int32))), (5, .int x5_41), (4, .int v0_70), (3, .int r_28), (0, .ref (adr 35 0)), (2, .int a2)]) C 2 rfl dX11_stays_91 rfl rfl (by decide) rfl ?_
            refine ge_goto (n := 41) C dX11_stays_94 (by decide) ?_
            exact hag41 (x6_41 + (1 : Int32)) x5_41 v0_70
          · refine ge_iload (n := 84) C 1 rfl dX11_stays_82 rfl ?_
            refine ge_goto (n := 89) C dX11_stays_84 (by decide) ?_
            refine ge_istore (n := 91) (lv2 := [(5, .int x6_41), (4, .int v0_70), (6, .int x6_41), (3, .int r_28), (0, .ref (adr 35 0)), (2, .int a2)]) C dX11_stays_89 rfl (by decide) rfl ?_
            refine ge_iinc (n := 94) (v := (x6_41 + (1 : Int32))) (lv2 := [(6, .int (x6_41 + (1 : Int32))), (5, .int x6_41), (4, .int v0_70), (3, .int r_28), (0, .ref (adr 35 0)), (2, .int a2)]) C 2 rfl dX11_stays_91 rfl rfl (by decide) rfl ?_
            refine ge_goto (n := 41) C dX11_stays_94 (by decide) ?_
            exact hag41 (x6_41 + (1 : Int32)) x6_41 v0_70
        refine ge_jn (fun (jj : Op) => Ge w adr k 68 [(6, .int x6_41), (5, .int x5_41), (4, .int x4_41), (3, .int r_28), (0, .ref (adr 35 0)), (2, .int a2)] [] S_28 (jj)) ?_ (fun j68 hj68 => ?_)
        · refine ge_iload (n := 70) C 2 rfl dX11_stays_68 rfl ?_
          refine ge_sub [0, 1, 3, 4, 5] rfl ?_
          exact hj70 x4_41
        refine ge_if_eq (t := 68) (n := 58) C dX11_stays_55 (by decide) rfl (fun h_55 => ?_) (fun h_55 => ?_)
        · exact hj68
        · refine ge_iload (n := 60) C 2 rfl dX11_stays_58 rfl ?_
          refine ge_if_ge (t := 68) (n := 63) C dX11_stays_60 (by decide) rfl (fun h_60 => ?_) (fun h_60 => ?_)
          · exact hj68
          · refine ge_iload (n := 65) C 0 rfl dX11_stays_63 rfl ?_
            refine ge_goto (n := 70) C dX11_stays_65 (by decide) ?_
            refine ge_sub [0, 1, 3, 4, 5] rfl ?_
            exact hj70 x6_41
    · refine ge_ldc (n := 25) C kc_X11_107 dX11_stays_23 rfl ?_
      exact ge_iret C Rr dX11_stays_25
  · refine ge_ldc (n := 10) C kc_X11_213 dX11_stays_8 rfl ?_
    exact ge_iret C Rr dX11_stays_10
