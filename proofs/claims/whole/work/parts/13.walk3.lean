theorem dX10_man_0 : decode cX10_man 0 = .ok (.aload_n 0, 1) := by decide +kernel
theorem dX10_man_1 : decode cX10_man 1 = .ok (.getfield 19, 3) := by decide +kernel
theorem dX10_man_4 : decode cX10_man 4 = .ok (.iload_n 1, 1) := by decide +kernel
theorem dX10_man_5 : decode cX10_man 5 = .ok (.invokevirtual 145, 3) := by decide +kernel
theorem dX10_man_8 : decode cX10_man 8 = .ok (.ifCond .ne 6, 3) := by decide +kernel
theorem dX10_man_11 : decode cX10_man 11 = .ok (.ldc 149, 2) := by decide +kernel
theorem dX10_man_13 : decode cX10_man 13 = .ok (.ireturn, 1) := by decide +kernel
theorem dX10_man_14 : decode cX10_man 14 = .ok (.aload_n 0, 1) := by decide +kernel
theorem dX10_man_15 : decode cX10_man 15 = .ok (.getfield 31, 3) := by decide +kernel
theorem dX10_man_18 : decode cX10_man 18 = .ok (.getfield 150, 3) := by decide +kernel
theorem dX10_man_21 : decode cX10_man 21 = .ok (.iload_n 1, 1) := by decide +kernel
theorem dX10_man_22 : decode cX10_man 22 = .ok (.aaload, 1) := by decide +kernel
theorem dX10_man_23 : decode cX10_man 23 = .ok (.astore_n 3, 1) := by decide +kernel
theorem dX10_man_24 : decode cX10_man 24 = .ok (.iload_n 2, 1) := by decide +kernel
theorem dX10_man_25 : decode cX10_man 25 = .ok (.tableswitch 68 0 4 #[35, 40, 45, 50, 59], 35) := by decide +kernel
theorem dX10_man_60 : decode cX10_man 60 = .ok (.aload_n 3, 1) := by decide +kernel
theorem dX10_man_61 : decode cX10_man 61 = .ok (.getfield 153, 3) := by decide +kernel
theorem dX10_man_64 : decode cX10_man 64 = .ok (.ireturn, 1) := by decide +kernel
theorem dX10_man_65 : decode cX10_man 65 = .ok (.aload_n 3, 1) := by decide +kernel
theorem dX10_man_66 : decode cX10_man 66 = .ok (.getfield 158, 3) := by decide +kernel
theorem dX10_man_69 : decode cX10_man 69 = .ok (.ireturn, 1) := by decide +kernel
theorem dX10_man_70 : decode cX10_man 70 = .ok (.aload_n 3, 1) := by decide +kernel
theorem dX10_man_71 : decode cX10_man 71 = .ok (.getfield 161, 3) := by decide +kernel
theorem dX10_man_74 : decode cX10_man 74 = .ok (.ireturn, 1) := by decide +kernel
theorem dX10_man_75 : decode cX10_man 75 = .ok (.aload_n 0, 1) := by decide +kernel
theorem dX10_man_76 : decode cX10_man 76 = .ok (.getfield 19, 3) := by decide +kernel
theorem dX10_man_79 : decode cX10_man 79 = .ok (.aload_n 3, 1) := by decide +kernel
theorem dX10_man_80 : decode cX10_man 80 = .ok (.invokevirtual 164, 3) := by decide +kernel
theorem dX10_man_83 : decode cX10_man 83 = .ok (.ireturn, 1) := by decide +kernel
theorem dX10_man_84 : decode cX10_man 84 = .ok (.aload_n 0, 1) := by decide +kernel
theorem dX10_man_85 : decode cX10_man 85 = .ok (.getfield 19, 3) := by decide +kernel
theorem dX10_man_88 : decode cX10_man 88 = .ok (.aload_n 3, 1) := by decide +kernel
theorem dX10_man_89 : decode cX10_man 89 = .ok (.invokevirtual 168, 3) := by decide +kernel
theorem dX10_man_92 : decode cX10_man 92 = .ok (.ireturn, 1) := by decide +kernel
theorem dX10_man_93 : decode cX10_man 93 = .ok (.ldc 81, 2) := by decide +kernel
theorem dX10_man_95 : decode cX10_man 95 = .ok (.ireturn, 1) := by decide +kernel
set_option maxRecDepth 100000 in
set_option maxHeartbeats 4000000 in
theorem mX10_man {w : WX} {adr : Nat → Nat → Nat} (hj : Ij adr) (a1 : Int32) (a2 : Int32) (S : St) : ∀ (l : Launch) (r : Int32) (S2 : St), fX10_man a1 a2 S = some (r, S2) → Mi l w adr yX10_man cX10_man 4 (some .int) 3 67 [.ref (adr 0 0), .int a1, .int a2] S r S2 := by
  refine mi_of (lv := [(0, .ref (adr 0 0)), (1, .int a1), (2, .int a2)]) hj (plainFor_of_name (by decide +kernel)) rfl (Nat.le_of_ble_eq_true rfl) (fun k C Rr => ?_)
  have C : Cx w adr k cX10_man RX10 4 3 67 := C
  refine ge_aload_n (n := 1) C 0 rfl dX10_man_0 rfl rfl ?_
  refine gt_X10_19 (n := 4) C (by decide) dX10_man_1 rfl ?_
  refine ge_iload_n (n := 5) C 1 rfl dX10_man_4 rfl rfl ?_
  refine ge_callVi (n := 8) C (mX6_hasMan hj (o0 := (pid (S 0 0 1))) (pid_lt _) a1 S) gv_X10_145 (cl_3 (pid_lt _)) rfl rfl hc_X6_hasMan ⟨Nat.le_of_ble_eq_true rfl, Nat.le_of_ble_eq_true rfl⟩ rfl rfl (Nat.le_of_ble_eq_true rfl) dX10_man_5 rfl (fun r_5 S_5 => ?_)
  refine ge_if_ne (t := 14) (n := 11) C dX10_man_8 (by decide) rfl (fun h_8 => ?_) (fun h_8 => ?_)
  · refine ge_aload_n (n := 15) C 0 rfl dX10_man_14 rfl rfl ?_
    refine gt_X10_31 (n := 18) C (by decide) dX10_man_15 rfl ?_
    refine gt_X10_150 (n := 21) C (by decide) dX10_man_18 rfl ?_
    refine ge_iload_n (n := 22) C 1 rfl dX10_man_21 rfl rfl ?_
    refine al_10 (n := 23) C (by decide) dX10_man_22 rfl (fun h_22 => ?_)
    refine ge_astore_n (n := 24) (lv2 := [(3, .ref (adr 11 (Int32.toNatClampNeg a1))), (0, .ref (adr 0 0)), (1, .int a1), (2, .int a2)]) C dX10_man_23 rfl rfl (by decide) rfl ?_
    refine ge_iload_n (n := 25) C 3 rfl dX10_man_24 rfl rfl ?_
    refine ge_if (fun hs_0 => ?_) (fun hs_0 => ?_)
    · refine ge_tsIn (t := 60) C dX10_man_25 (by rw [hs_0]; decide) (by rw [hs_0]; decide) (by rw [hs_0]; rfl) (by decide) ?_
      refine ge_aload_n (n := 61) C 0 rfl dX10_man_60 rfl rfl ?_
      refine gt_X10_153 (n := 64) C (bd_c h_22 (by decide)) dX10_man_61 rfl ?_
      exact ge_iret C Rr dX10_man_64
    refine ge_if (fun hs_1 => ?_) (fun hs_1 => ?_)
    · refine ge_tsIn (t := 65) C dX10_man_25 (by rw [hs_1]; decide) (by rw [hs_1]; decide) (by rw [hs_1]; rfl) (by decide) ?_
      refine ge_aload_n (n := 66) C 0 rfl dX10_man_65 rfl rfl ?_
      refine gt_X10_158 (n := 69) C (bd_c h_22 (by decide)) dX10_man_66 rfl ?_
      exact ge_iret C Rr dX10_man_69
    refine ge_if (fun hs_2 => ?_) (fun hs_2 => ?_)
    · refine ge_tsIn (t := 70) C dX10_man_25 (by rw [hs_2]; decide) (by rw [hs_2]; decide) (by rw [hs_2]; rfl) (by decide) ?_
      refine ge_aload_n (n := 71) C 0 rfl dX10_man_70 rfl rfl ?_
      refine gt_X10_161 (n := 74) C (bd_c h_22 (by decide)) dX10_man_71 rfl ?_
      exact ge_iret C Rr dX10_man_74
    refine ge_if (fun hs_3 => ?_) (fun hs_3 => ?_)
    · refine ge_tsIn (t := 75) C dX10_man_25 (by rw [hs_3]; decide) (by rw [hs_3]; decide) (by rw [hs_3]; rfl) (by decide) ?_
      refine ge_aload_n (n := 76) C 1 rfl dX10_man_75 rfl rfl ?_
      refine gt_X10_19 (n := 79) C (by decide) dX10_man_76 rfl ?_
      refine ge_aload_n (n := 80) C 0 rfl dX10_man_79 rfl rfl ?_
      refine ge_callVi (n := 83) C (mX6_setBorne hj (o0 := (pid (S_5 0 0 1))) (pid_lt _) (o1 := (Int32.toNatClampNeg a1)) (bd_c h_22 (by decide)) S_5) gv_X10_164 (cl_3 (pid_lt _)) rfl rfl hc_X6_setBorne ⟨Nat.le_of_ble_eq_true rfl, Nat.le_of_ble_eq_true rfl⟩ rfl rfl (Nat.le_of_ble_eq_true rfl) dX10_man_80 rfl (fun r_80 S_80 => ?_)
      exact ge_iret C Rr dX10_man_83
    refine ge_if (fun hs_4 => ?_) (fun hs_4 => ?_)
    · refine ge_tsIn (t := 84) C dX10_man_25 (by rw [hs_4]; decide) (by rw [hs_4]; decide) (by rw [hs_4]; rfl) (by decide) ?_
      refine ge_aload_n (n := 85) C 1 rfl dX10_man_84 rfl rfl ?_
      refine gt_X10_19 (n := 88) C (by decide) dX10_man_85 rfl ?_
      refine ge_aload_n (n := 89) C 0 rfl dX10_man_88 rfl rfl ?_
      refine ge_callVi (n := 92) C (mX6_setFelt hj (o0 := (pid (S_5 0 0 1))) (pid_lt _) (o1 := (Int32.toNatClampNeg a1)) (bd_c h_22 (by decide)) S_5) gv_X10_168 (cl_3 (pid_lt _)) rfl rfl hc_X6_setFelt ⟨Nat.le_of_ble_eq_true rfl, Nat.le_of_ble_eq_true rfl⟩ rfl rfl (Nat.le_of_ble_eq_true rfl) dX10_man_89 rfl (fun r_89 S_89 => ?_)
      exact ge_iret C Rr dX10_man_92
    refine ge_tsOut (t := 93) C dX10_man_25 (ts_out (n := 5) (by decide) (by decide) (fun i hi => match i, hi with
      | 0, _ => hs_0
      | 1, _ => hs_1
      | 2, _ => hs_2
      | 3, _ => hs_3
      | 4, _ => hs_4
      | i + 5, hi => absurd hi (by omega))) (by decide) ?_
    refine ge_ldc (n := 95) C kc_X10_81 dX10_man_93 rfl ?_
    exact ge_iret C Rr dX10_man_95
  · refine ge_ldc (n := 13) C kc_X10_149 dX10_man_11 rfl ?_
    exact ge_iret C Rr dX10_man_13
theorem dX10_skin_0 : decode cX10_skin 0 = .ok (.aload_n 0, 1) := by decide +kernel
theorem dX10_skin_1 : decode cX10_skin 1 = .ok (.getfield 19, 3) := by decide +kernel
theorem dX10_skin_4 : decode cX10_skin 4 = .ok (.iload_n 1, 1) := by decide +kernel
theorem dX10_skin_5 : decode cX10_skin 5 = .ok (.invokevirtual 145, 3) := by decide +kernel
theorem dX10_skin_8 : decode cX10_skin 8 = .ok (.ifCond .ne 6, 3) := by decide +kernel
theorem dX10_skin_11 : decode cX10_skin 11 = .ok (.ldc 149, 2) := by decide +kernel
theorem dX10_skin_13 : decode cX10_skin 13 = .ok (.ireturn, 1) := by decide +kernel
theorem dX10_skin_14 : decode cX10_skin 14 = .ok (.iload_n 2, 1) := by decide +kernel
theorem dX10_skin_15 : decode cX10_skin 15 = .ok (.iconst 0, 1) := by decide +kernel
theorem dX10_skin_16 : decode cX10_skin 16 = .ok (.iconst 4, 1) := by decide +kernel
theorem dX10_skin_17 : decode cX10_skin 17 = .ok (.invokestatic 77, 3) := by decide +kernel
theorem dX10_skin_20 : decode cX10_skin 20 = .ok (.ifCond .ne 12, 3) := by decide +kernel
theorem dX10_skin_23 : decode cX10_skin 23 = .ok (.iload_n 3, 1) := by decide +kernel
theorem dX10_skin_24 : decode cX10_skin 24 = .ok (.iconst 0, 1) := by decide +kernel
theorem dX10_skin_25 : decode cX10_skin 25 = .ok (.iconst 1, 1) := by decide +kernel
theorem dX10_skin_26 : decode cX10_skin 26 = .ok (.invokestatic 77, 3) := by decide +kernel
theorem dX10_skin_29 : decode cX10_skin 29 = .ok (.ifCond .eq 6, 3) := by decide +kernel
theorem dX10_skin_32 : decode cX10_skin 32 = .ok (.ldc 81, 2) := by decide +kernel
theorem dX10_skin_34 : decode cX10_skin 34 = .ok (.ireturn, 1) := by decide +kernel
theorem dX10_skin_35 : decode cX10_skin 35 = .ok (.aload_n 0, 1) := by decide +kernel
theorem dX10_skin_36 : decode cX10_skin 36 = .ok (.getfield 31, 3) := by decide +kernel
theorem dX10_skin_39 : decode cX10_skin 39 = .ok (.getfield 150, 3) := by decide +kernel
theorem dX10_skin_42 : decode cX10_skin 42 = .ok (.iload_n 1, 1) := by decide +kernel
theorem dX10_skin_43 : decode cX10_skin 43 = .ok (.aaload, 1) := by decide +kernel
theorem dX10_skin_44 : decode cX10_skin 44 = .ok (.astore 4, 2) := by decide +kernel
theorem dX10_skin_46 : decode cX10_skin 46 = .ok (.iload_n 3, 1) := by decide +kernel
theorem dX10_skin_47 : decode cX10_skin 47 = .ok (.ifCond .ne 13, 3) := by decide +kernel
theorem dX10_skin_50 : decode cX10_skin 50 = .ok (.aload 4, 2) := by decide +kernel
theorem dX10_skin_52 : decode cX10_skin 52 = .ok (.getfield 171, 3) := by decide +kernel
theorem dX10_skin_55 : decode cX10_skin 55 = .ok (.iload_n 2, 1) := by decide +kernel
theorem dX10_skin_56 : decode cX10_skin 56 = .ok (.iaload, 1) := by decide +kernel
theorem dX10_skin_57 : decode cX10_skin 57 = .ok (.goto 10, 3) := by decide +kernel
theorem dX10_skin_60 : decode cX10_skin 60 = .ok (.aload 4, 2) := by decide +kernel
theorem dX10_skin_62 : decode cX10_skin 62 = .ok (.getfield 175, 3) := by decide +kernel
theorem dX10_skin_65 : decode cX10_skin 65 = .ok (.iload_n 2, 1) := by decide +kernel
theorem dX10_skin_66 : decode cX10_skin 66 = .ok (.iaload, 1) := by decide +kernel
theorem dX10_skin_67 : decode cX10_skin 67 = .ok (.ireturn, 1) := by decide +kernel
set_option maxRecDepth 100000 in
set_option maxHeartbeats 4000000 in
theorem mX10_skin {w : WX} {adr : Nat → Nat → Nat} (hj : Ij adr) (a1 : Int32) (a2 : Int32) (a3 : Int32) (S : St) : ∀ (l : Launch) (r : Int32) (S2 : St), fX10_skin a1 a2 a3 S = some (r, S2) → Mi l w adr yX10_skin cX10_skin 5 (some .int) 1 22 [.ref (adr 0 0), .int a1, .int a2, .int a3] S r S2 := by
  refine mi_of (lv := [(0, .ref (adr 0 0)), (1, .int a1), (2, .int a2), (3, .int a3)]) hj (plainFor_of_name (by decide +kernel)) rfl (Nat.le_of_ble_eq_true rfl) (fun k C Rr => ?_)
  have C : Cx w adr k cX10_skin RX10 5 1 22 := C
  refine ge_aload_n (n := 1) C 0 rfl dX10_skin_0 rfl rfl ?_
  refine gt_X10_19 (n := 4) C (by decide) dX10_skin_1 rfl ?_
  refine ge_iload_n (n := 5) C 1 rfl dX10_skin_4 rfl rfl ?_
  refine ge_callVi (n := 8) C (mX6_hasMan hj (o0 := (pid (S 0 0 1))) (pid_lt _) a1 S) gv_X10_145 (cl_3 (pid_lt _)) rfl rfl hc_X6_hasMan ⟨Nat.le_of_ble_eq_true rfl, Nat.le_of_ble_eq_true rfl⟩ rfl rfl (Nat.le_of_ble_eq_true rfl) dX10_skin_5 rfl (fun r_5 S_5 => ?_)
  refine ge_if_ne (t := 14) (n := 11) C dX10_skin_8 (by decide) rfl (fun h_8 => ?_) (fun h_8 => ?_)
  · refine ge_iload_n (n := 15) C 2 rfl dX10_skin_14 rfl rfl ?_
    refine ge_iconst (v := 0) (n := 16) C dX10_skin_15 (by decide) rfl ?_
    refine ge_iconst (v := 4) (n := 17) C dX10_skin_16 (by decide) rfl ?_
    refine ge_callSi (n := 20) C (mX10_isOutside hj a2 (0 : Int32) (4 : Int32) S_5) gv_X10_77 hc_X10_isOutside ⟨Nat.le_of_ble_eq_true rfl, Nat.le_of_ble_eq_true rfl⟩ rfl rfl (Nat.le_of_ble_eq_true rfl) dX10_skin_17 rfl (fun r_17 S_17 => ?_)
    refine ge_if_ne (t := 32) (n := 23) C dX10_skin_20 (by decide) rfl (fun h_20 => ?_) (fun h_20 => ?_)
    · refine ge_ldc (n := 34) C kc_X10_81 dX10_skin_32 rfl ?_
      exact ge_iret C Rr dX10_skin_34
    · refine ge_iload_n (n := 24) C 3 rfl dX10_skin_23 rfl rfl ?_
      refine ge_iconst (v := 0) (n := 25) C dX10_skin_24 (by decide) rfl ?_
      refine ge_iconst (v := 1) (n := 26) C dX10_skin_25 (by decide) rfl ?_
      refine ge_callSi (n := 29) C (mX10_isOutside hj a3 (0 : Int32) (1 : Int32) S_17) gv_X10_77 hc_X10_isOutside ⟨Nat.le_of_ble_eq_true rfl, Nat.le_of_ble_eq_true rfl⟩ rfl rfl (Nat.le_of_ble_eq_true rfl) dX10_skin_26 rfl (fun r_26 S_26 => ?_)
      refine ge_if_eq (t := 35) (n := 32) C dX10_skin_29 (by decide) rfl (fun h_29 => ?_) (fun h_29 => ?_)
      · refine ge_aload_n (n := 36) C 0 rfl dX10_skin_35 rfl rfl ?_
        refine gt_X10_31 (n := 39) C (by decide) dX10_skin_36 rfl ?_
        refine gt_X10_150 (n := 42) C (by decide) dX10_skin_39 rfl ?_
        refine ge_iload_n (n := 43) C 1 rfl dX10_skin_42 rfl rfl ?_
        refine al_10 (n := 44) C (by decide) dX10_skin_43 rfl (fun h_43 => ?_)
        refine ge_astore (n := 46) (lv2 := [(4, .ref (adr 11 (Int32.toNatClampNeg a1))), (0, .ref (adr 0 0)), (1, .int a1), (2, .int a2), (3, .int a3)]) C dX10_skin_44 rfl (by decide) rfl ?_
        refine ge_iload_n (n := 47) C 4 rfl dX10_skin_46 rfl rfl ?_
        refine ge_if_ne (t := 60) (n := 50) C dX10_skin_47 (by decide) rfl (fun h_47 => ?_) (fun h_47 => ?_)
        · refine ge_aload (n := 62) C 0 rfl dX10_skin_60 rfl ?_
          refine gt_X10_175 (n := 65) C (bd_c h_43 (by decide)) dX10_skin_62 rfl ?_
          refine ge_iload_n (n := 66) C 3 rfl dX10_skin_65 rfl rfl ?_
          refine al_13 (n := 67) C (bd_c h_43 (by decide)) dX10_skin_66 rfl ?_
          exact ge_iret C Rr dX10_skin_67
        · refine ge_aload (n := 52) C 0 rfl dX10_skin_50 rfl ?_
          refine gt_X10_171 (n := 55) C (bd_c h_43 (by decide)) dX10_skin_52 rfl ?_
          refine ge_iload_n (n := 56) C 3 rfl dX10_skin_55 rfl rfl ?_
          refine al_12 (n := 57) C (bd_c h_43 (by decide)) dX10_skin_56 rfl ?_
          refine ge_goto (n := 67) C dX10_skin_57 (by decide) ?_
          exact ge_iret C Rr dX10_skin_67
      · refine ge_ldc (n := 34) C kc_X10_81 dX10_skin_32 rfl ?_
        exact ge_iret C Rr dX10_skin_34
  · refine ge_ldc (n := 13) C kc_X10_149 dX10_skin_11 rfl ?_
    exact ge_iret C Rr dX10_skin_13
theorem dX10_saying_0 : decode cX10_saying 0 = .ok (.aload_n 0, 1) := by decide +kernel
theorem dX10_saying_1 : decode cX10_saying 1 = .ok (.getfield 19, 3) := by decide +kernel
theorem dX10_saying_4 : decode cX10_saying 4 = .ok (.iload_n 1, 1) := by decide +kernel
theorem dX10_saying_5 : decode cX10_saying 5 = .ok (.invokevirtual 178, 3) := by decide +kernel
theorem dX10_saying_8 : decode cX10_saying 8 = .ok (.ifCond .ne 6, 3) := by decide +kernel
theorem dX10_saying_11 : decode cX10_saying 11 = .ok (.ldc 149, 2) := by decide +kernel
theorem dX10_saying_13 : decode cX10_saying 13 = .ok (.ireturn, 1) := by decide +kernel
theorem dX10_saying_14 : decode cX10_saying 14 = .ok (.iload_n 2, 1) := by decide +kernel
theorem dX10_saying_15 : decode cX10_saying 15 = .ok (.iconst 0, 1) := by decide +kernel
theorem dX10_saying_16 : decode cX10_saying 16 = .ok (.iconst 1, 1) := by decide +kernel
theorem dX10_saying_17 : decode cX10_saying 17 = .ok (.invokestatic 77, 3) := by decide +kernel
theorem dX10_saying_20 : decode cX10_saying 20 = .ok (.ifCond .eq 6, 3) := by decide +kernel
theorem dX10_saying_23 : decode cX10_saying 23 = .ok (.ldc 81, 2) := by decide +kernel
theorem dX10_saying_25 : decode cX10_saying 25 = .ok (.ireturn, 1) := by decide +kernel
theorem dX10_saying_26 : decode cX10_saying 26 = .ok (.iload_n 2, 1) := by decide +kernel
theorem dX10_saying_27 : decode cX10_saying 27 = .ok (.ifCond .ne 15, 3) := by decide +kernel
theorem dX10_saying_30 : decode cX10_saying 30 = .ok (.aload_n 0, 1) := by decide +kernel
theorem dX10_saying_31 : decode cX10_saying 31 = .ok (.getfield 19, 3) := by decide +kernel
theorem dX10_saying_34 : decode cX10_saying 34 = .ok (.getfield 181, 3) := by decide +kernel
theorem dX10_saying_37 : decode cX10_saying 37 = .ok (.iload_n 1, 1) := by decide +kernel
theorem dX10_saying_38 : decode cX10_saying 38 = .ok (.iaload, 1) := by decide +kernel
theorem dX10_saying_39 : decode cX10_saying 39 = .ok (.goto 12, 3) := by decide +kernel
theorem dX10_saying_42 : decode cX10_saying 42 = .ok (.aload_n 0, 1) := by decide +kernel
theorem dX10_saying_43 : decode cX10_saying 43 = .ok (.getfield 19, 3) := by decide +kernel
theorem dX10_saying_46 : decode cX10_saying 46 = .ok (.getfield 184, 3) := by decide +kernel
theorem dX10_saying_49 : decode cX10_saying 49 = .ok (.iload_n 1, 1) := by decide +kernel
theorem dX10_saying_50 : decode cX10_saying 50 = .ok (.iaload, 1) := by decide +kernel
theorem dX10_saying_51 : decode cX10_saying 51 = .ok (.ireturn, 1) := by decide +kernel
set_option maxRecDepth 100000 in
set_option maxHeartbeats 4000000 in
theorem mX10_saying {w : WX} {adr : Nat → Nat → Nat} (hj : Ij adr) (a1 : Int32) (a2 : Int32) (S : St) : ∀ (l : Launch) (r : Int32) (S2 : St), fX10_saying a1 a2 S = some (r, S2) → Mi l w adr yX10_saying cX10_saying 3 (some .int) 1 22 [.ref (adr 0 0), .int a1, .int a2] S r S2 := by
  refine mi_of (lv := [(0, .ref (adr 0 0)), (1, .int a1), (2, .int a2)]) hj (plainFor_of_name (by decide +kernel)) rfl (Nat.le_of_ble_eq_true rfl) (fun k C Rr => ?_)
  have C : Cx w adr k cX10_saying RX10 3 1 22 := C
  refine ge_aload_n (n := 1) C 0 rfl dX10_saying_0 rfl rfl ?_
  refine gt_X10_19 (n := 4) C (by decide) dX10_saying_1 rfl ?_
  refine ge_iload_n (n := 5) C 1 rfl dX10_saying_4 rfl rfl ?_
  refine ge_callVi (n := 8) C (mX6_hasSaying hj (o0 := (pid (S 0 0 1))) (pid_lt _) a1 S) gv_X10_178 (cl_3 (pid_lt _)) rfl rfl hc_X6_hasSaying ⟨Nat.le_of_ble_eq_true rfl, Nat.le_of_ble_eq_true rfl⟩ rfl rfl (Nat.le_of_ble_eq_true rfl) dX10_saying_5 rfl (fun r_5 S_5 => ?_)
  refine ge_if_ne (t := 14) (n := 11) C dX10_saying_8 (by decide) rfl (fun h_8 => ?_) (fun h_8 => ?_)
  · refine ge_iload_n (n := 15) C 2 rfl dX10_saying_14 rfl rfl ?_
    refine ge_iconst (v := 0) (n := 16) C dX10_saying_15 (by decide) rfl ?_
    refine ge_iconst (v := 1) (n := 17) C dX10_saying_16 (by decide) rfl ?_
    refine ge_callSi (n := 20) C (mX10_isOutside hj a2 (0 : Int32) (1 : Int32) S_5) gv_X10_77 hc_X10_isOutside ⟨Nat.le_of_ble_eq_true rfl, Nat.le_of_ble_eq_true rfl⟩ rfl rfl (Nat.le_of_ble_eq_true rfl) dX10_saying_17 rfl (fun r_17 S_17 => ?_)
    refine ge_if_eq (t := 26) (n := 23) C dX10_saying_20 (by decide) rfl (fun h_20 => ?_) (fun h_20 => ?_)
    · refine ge_iload_n (n := 27) C 2 rfl dX10_saying_26 rfl rfl ?_
      refine ge_if_ne (t := 42) (n := 30) C dX10_saying_27 (by decide) rfl (fun h_27 => ?_) (fun h_27 => ?_)
      · refine ge_aload_n (n := 43) C 0 rfl dX10_saying_42 rfl rfl ?_
        refine gt_X10_19 (n := 46) C (by decide) dX10_saying_43 rfl ?_
        refine gt_X10_184 (n := 49) C (pid_lt _) dX10_saying_46 rfl ?_
        refine ge_iload_n (n := 50) C 1 rfl dX10_saying_49 rfl rfl ?_
        refine al_8 (n := 51) C (pid_lt _) dX10_saying_50 rfl ?_
        exact ge_iret C Rr dX10_saying_51
      · refine ge_aload_n (n := 31) C 0 rfl dX10_saying_30 rfl rfl ?_
        refine gt_X10_19 (n := 34) C (by decide) dX10_saying_31 rfl ?_
        refine gt_X10_181 (n := 37) C (pid_lt _) dX10_saying_34 rfl ?_
        refine ge_iload_n (n := 38) C 1 rfl dX10_saying_37 rfl rfl ?_
        refine al_7 (n := 39) C (pid_lt _) dX10_saying_38 rfl ?_
        refine ge_goto (n := 51) C dX10_saying_39 (by decide) ?_
        exact ge_iret C Rr dX10_saying_51
    · refine ge_ldc (n := 25) C kc_X10_81 dX10_saying_23 rfl ?_
      exact ge_iret C Rr dX10_saying_25
  · refine ge_ldc (n := 13) C kc_X10_149 dX10_saying_11 rfl ?_
    exact ge_iret C Rr dX10_saying_13
theorem dX10_hurt_0 : decode cX10_hurt 0 = .ok (.aload_n 0, 1) := by decide +kernel
theorem dX10_hurt_1 : decode cX10_hurt 1 = .ok (.getfield 19, 3) := by decide +kernel
theorem dX10_hurt_4 : decode cX10_hurt 4 = .ok (.iload_n 1, 1) := by decide +kernel
theorem dX10_hurt_5 : decode cX10_hurt 5 = .ok (.invokevirtual 145, 3) := by decide +kernel
theorem dX10_hurt_8 : decode cX10_hurt 8 = .ok (.ifCond .eq 14, 3) := by decide +kernel
theorem dX10_hurt_11 : decode cX10_hurt 11 = .ok (.aload_n 0, 1) := by decide +kernel
theorem dX10_hurt_12 : decode cX10_hurt 12 = .ok (.getfield 19, 3) := by decide +kernel
theorem dX10_hurt_15 : decode cX10_hurt 15 = .ok (.iload_n 2, 1) := by decide +kernel
theorem dX10_hurt_16 : decode cX10_hurt 16 = .ok (.invokevirtual 178, 3) := by decide +kernel
theorem dX10_hurt_19 : decode cX10_hurt 19 = .ok (.ifCond .ne 6, 3) := by decide +kernel
theorem dX10_hurt_22 : decode cX10_hurt 22 = .ok (.ldc 149, 2) := by decide +kernel
theorem dX10_hurt_24 : decode cX10_hurt 24 = .ok (.ireturn, 1) := by decide +kernel
theorem dX10_hurt_25 : decode cX10_hurt 25 = .ok (.aload_n 0, 1) := by decide +kernel
theorem dX10_hurt_26 : decode cX10_hurt 26 = .ok (.getfield 19, 3) := by decide +kernel
theorem dX10_hurt_29 : decode cX10_hurt 29 = .ok (.aload_n 0, 1) := by decide +kernel
theorem dX10_hurt_30 : decode cX10_hurt 30 = .ok (.getfield 31, 3) := by decide +kernel
theorem dX10_hurt_33 : decode cX10_hurt 33 = .ok (.getfield 150, 3) := by decide +kernel
theorem dX10_hurt_36 : decode cX10_hurt 36 = .ok (.iload_n 1, 1) := by decide +kernel
theorem dX10_hurt_37 : decode cX10_hurt 37 = .ok (.aaload, 1) := by decide +kernel
theorem dX10_hurt_38 : decode cX10_hurt 38 = .ok (.iload_n 2, 1) := by decide +kernel
theorem dX10_hurt_39 : decode cX10_hurt 39 = .ok (.invokevirtual 187, 3) := by decide +kernel
theorem dX10_hurt_42 : decode cX10_hurt 42 = .ok (.ireturn, 1) := by decide +kernel
set_option maxRecDepth 100000 in
set_option maxHeartbeats 4000000 in
theorem mX10_hurt {w : WX} {adr : Nat → Nat → Nat} (hj : Ij adr) (a1 : Int32) (a2 : Int32) (S : St) : ∀ (l : Launch) (r : Int32) (S2 : St), fX10_hurt a1 a2 S = some (r, S2) → Mi l w adr yX10_hurt cX10_hurt 3 (some .int) 2 44 [.ref (adr 0 0), .int a1, .int a2] S r S2 := by
  refine mi_of (lv := [(0, .ref (adr 0 0)), (1, .int a1), (2, .int a2)]) hj (plainFor_of_name (by decide +kernel)) rfl (Nat.le_of_ble_eq_true rfl) (fun k C Rr => ?_)
  have C : Cx w adr k cX10_hurt RX10 3 2 44 := C
  refine ge_aload_n (n := 1) C 0 rfl dX10_hurt_0 rfl rfl ?_
  refine gt_X10_19 (n := 4) C (by decide) dX10_hurt_1 rfl ?_
  refine ge_iload_n (n := 5) C 1 rfl dX10_hurt_4 rfl rfl ?_
  refine ge_callVi (n := 8) C (mX6_hasMan hj (o0 := (pid (S 0 0 1))) (pid_lt _) a1 S) gv_X10_145 (cl_3 (pid_lt _)) rfl rfl hc_X6_hasMan ⟨Nat.le_of_ble_eq_true rfl, Nat.le_of_ble_eq_true rfl⟩ rfl rfl (Nat.le_of_ble_eq_true rfl) dX10_hurt_5 rfl (fun r_5 S_5 => ?_)
  refine ge_if_eq (t := 22) (n := 11) C dX10_hurt_8 (by decide) rfl (fun h_8 => ?_) (fun h_8 => ?_)
  · refine ge_ldc (n := 24) C kc_X10_149 dX10_hurt_22 rfl ?_
    exact ge_iret C Rr dX10_hurt_24
  · refine ge_aload_n (n := 12) C 0 rfl dX10_hurt_11 rfl rfl ?_
    refine gt_X10_19 (n := 15) C (by decide) dX10_hurt_12 rfl ?_
    refine ge_iload_n (n := 16) C 2 rfl dX10_hurt_15 rfl rfl ?_
    refine ge_callVi (n := 19) C (mX6_hasSaying hj (o0 := (pid (S_5 0 0 1))) (pid_lt _) a2 S_5) gv_X10_178 (cl_3 (pid_lt _)) rfl rfl hc_X6_hasSaying ⟨Nat.le_of_ble_eq_true rfl, Nat.le_of_ble_eq_true rfl⟩ rfl rfl (Nat.le_of_ble_eq_true rfl) dX10_hurt_16 rfl (fun r_16 S_16 => ?_)
    refine ge_if_ne (t := 25) (n := 22) C dX10_hurt_19 (by decide) rfl (fun h_19 => ?_) (fun h_19 => ?_)
    · refine ge_aload_n (n := 26) C 0 rfl dX10_hurt_25 rfl rfl ?_
      refine gt_X10_19 (n := 29) C (by decide) dX10_hurt_26 rfl ?_
      refine ge_aload_n (n := 30) C 0 rfl dX10_hurt_29 rfl rfl ?_
      refine gt_X10_31 (n := 33) C (by decide) dX10_hurt_30 rfl ?_
      refine gt_X10_150 (n := 36) C (by decide) dX10_hurt_33 rfl ?_
      refine ge_iload_n (n := 37) C 1 rfl dX10_hurt_36 rfl rfl ?_
      refine al_10 (n := 38) C (by decide) dX10_hurt_37 rfl (fun h_37 => ?_)
      refine ge_iload_n (n := 39) C 2 rfl dX10_hurt_38 rfl rfl ?_
      refine ge_callVi (n := 42) C (mX6_pain hj (o0 := (pid (S_16 0 0 1))) (pid_lt _) (o1 := (Int32.toNatClampNeg a1)) (bd_c h_37 (by decide)) a2 S_16) gv_X10_187 (cl_3 (pid_lt _)) rfl rfl hc_X6_pain ⟨Nat.le_of_ble_eq_true rfl, Nat.le_of_ble_eq_true rfl⟩ rfl rfl (Nat.le_of_ble_eq_true rfl) dX10_hurt_39 rfl (fun r_39 S_39 => ?_)
      exact ge_iret C Rr dX10_hurt_42
    · refine ge_ldc (n := 24) C kc_X10_149 dX10_hurt_22 rfl ?_
      exact ge_iret C Rr dX10_hurt_24
theorem dX10_refusalOfMonths_0 : decode cX10_refusalOfMonths 0 = .ok (.iload_n 1, 1) := by decide +kernel
theorem dX10_refusalOfMonths_1 : decode cX10_refusalOfMonths 1 = .ok (.iconst 1, 1) := by decide +kernel
theorem dX10_refusalOfMonths_2 : decode cX10_refusalOfMonths 2 = .ok (.bipush 60, 2) := by decide +kernel
theorem dX10_refusalOfMonths_4 : decode cX10_refusalOfMonths 4 = .ok (.invokestatic 77, 3) := by decide +kernel
theorem dX10_refusalOfMonths_7 : decode cX10_refusalOfMonths 7 = .ok (.ifCond .eq 6, 3) := by decide +kernel
theorem dX10_refusalOfMonths_10 : decode cX10_refusalOfMonths 10 = .ok (.ldc 81, 2) := by decide +kernel
theorem dX10_refusalOfMonths_12 : decode cX10_refusalOfMonths 12 = .ok (.ireturn, 1) := by decide +kernel
theorem dX10_refusalOfMonths_13 : decode cX10_refusalOfMonths 13 = .ok (.aload_n 0, 1) := by decide +kernel
theorem dX10_refusalOfMonths_14 : decode cX10_refusalOfMonths 14 = .ok (.getfield 19, 3) := by decide +kernel
theorem dX10_refusalOfMonths_17 : decode cX10_refusalOfMonths 17 = .ok (.invokevirtual 213, 3) := by decide +kernel
theorem dX10_refusalOfMonths_20 : decode cX10_refusalOfMonths 20 = .ok (.ifCond .eq 6, 3) := by decide +kernel
theorem dX10_refusalOfMonths_23 : decode cX10_refusalOfMonths 23 = .ok (.ldc 201, 2) := by decide +kernel
theorem dX10_refusalOfMonths_25 : decode cX10_refusalOfMonths 25 = .ok (.ireturn, 1) := by decide +kernel
theorem dX10_refusalOfMonths_26 : decode cX10_refusalOfMonths 26 = .ok (.aload_n 0, 1) := by decide +kernel
theorem dX10_refusalOfMonths_27 : decode cX10_refusalOfMonths 27 = .ok (.getfield 31, 3) := by decide +kernel
theorem dX10_refusalOfMonths_30 : decode cX10_refusalOfMonths 30 = .ok (.getfield 123, 3) := by decide +kernel
theorem dX10_refusalOfMonths_33 : decode cX10_refusalOfMonths 33 = .ok (.sipush 9000, 3) := by decide +kernel
theorem dX10_refusalOfMonths_36 : decode cX10_refusalOfMonths 36 = .ok (.if_icmp .le 8, 3) := by decide +kernel
theorem dX10_refusalOfMonths_39 : decode cX10_refusalOfMonths 39 = .ok (.ldc 86, 2) := by decide +kernel
theorem dX10_refusalOfMonths_41 : decode cX10_refusalOfMonths 41 = .ok (.goto 4, 3) := by decide +kernel
theorem dX10_refusalOfMonths_44 : decode cX10_refusalOfMonths 44 = .ok (.iconst 0, 1) := by decide +kernel
theorem dX10_refusalOfMonths_45 : decode cX10_refusalOfMonths 45 = .ok (.ireturn, 1) := by decide +kernel
set_option maxRecDepth 100000 in
set_option maxHeartbeats 4000000 in
theorem mX10_refusalOfMonths {w : WX} {adr : Nat → Nat → Nat} (hj : Ij adr) (a1 : Int32) (S : St) : ∀ (l : Launch) (r : Int32) (S2 : St), fX10_refusalOfMonths a1 S = some (r, S2) → Mi l w adr yX10_refusalOfMonths cX10_refusalOfMonths 2 (some .int) 1 22 [.ref (adr 0 0), .int a1] S r S2 := by
  refine mi_of (lv := [(0, .ref (adr 0 0)), (1, .int a1)]) hj (plainFor_of_name (by decide +kernel)) rfl (Nat.le_of_ble_eq_true rfl) (fun k C Rr => ?_)
  have C : Cx w adr k cX10_refusalOfMonths RX10 2 1 22 := C
  refine ge_iload_n (n := 1) C 1 rfl dX10_refusalOfMonths_0 rfl rfl ?_
  refine ge_iconst (v := 1) (n := 2) C dX10_refusalOfMonths_1 (by decide) rfl ?_
  refine ge_bipush (v := 60) (n := 4) C dX10_refusalOfMonths_2 (by decide) rfl ?_
  refine ge_callSi (n := 7) C (mX10_isOutside hj a1 (1 : Int32) (60 : Int32) S) gv_X10_77 hc_X10_isOutside ⟨Nat.le_of_ble_eq_true rfl, Nat.le_of_ble_eq_true rfl⟩ rfl rfl (Nat.le_of_ble_eq_true rfl) dX10_refusalOfMonths_4 rfl (fun r_4 S_4 => ?_)
  refine ge_if_eq (t := 13) (n := 10) C dX10_refusalOfMonths_7 (by decide) rfl (fun h_7 => ?_) (fun h_7 => ?_)
  · refine ge_aload_n (n := 14) C 0 rfl dX10_refusalOfMonths_13 rfl rfl ?_
    refine gt_X10_19 (n := 17) C (by decide) dX10_refusalOfMonths_14 rfl ?_
    refine ge_callVi (n := 20) C (mX6_isNone hj (o0 := (pid (S_4 0 0 1))) (pid_lt _) S_4) gv_X10_213 (cl_3 (pid_lt _)) rfl rfl hc_X6_isNone ⟨Nat.le_of_ble_eq_true rfl, Nat.le_of_ble_eq_true rfl⟩ rfl rfl (Nat.le_of_ble_eq_true rfl) dX10_refusalOfMonths_17 rfl (fun r_17 S_17 => ?_)
    refine ge_if_eq (t := 26) (n := 23) C dX10_refusalOfMonths_20 (by decide) rfl (fun h_20 => ?_) (fun h_20 => ?_)
    · refine ge_aload_n (n := 27) C 0 rfl dX10_refusalOfMonths_26 rfl rfl ?_
      refine gt_X10_31 (n := 30) C (by decide) dX10_refusalOfMonths_27 rfl ?_
      refine gt_X10_123 (n := 33) C (by decide) dX10_refusalOfMonths_30 rfl ?_
      refine ge_sipush (v := 9000) (n := 36) C dX10_refusalOfMonths_33 (by decide) rfl ?_
      refine ge_icmp_le (t := 44) (n := 39) C dX10_refusalOfMonths_36 (by decide) rfl (fun h_36 => ?_) (fun h_36 => ?_)
      · refine ge_iconst (v := 0) (n := 45) C dX10_refusalOfMonths_44 (by decide) rfl ?_
        exact ge_iret C Rr dX10_refusalOfMonths_45
      · refine ge_ldc (n := 41) C kc_X10_86 dX10_refusalOfMonths_39 rfl ?_
        refine ge_goto (n := 45) C dX10_refusalOfMonths_41 (by decide) ?_
        exact ge_iret C Rr dX10_refusalOfMonths_45
    · refine ge_ldc (n := 25) C kc_X10_201 dX10_refusalOfMonths_23 rfl ?_
      exact ge_iret C Rr dX10_refusalOfMonths_25
  · refine ge_ldc (n := 12) C kc_X10_81 dX10_refusalOfMonths_10 rfl ?_
    exact ge_iret C Rr dX10_refusalOfMonths_12
theorem dX10_month_0 : decode cX10_month 0 = .ok (.aload_n 0, 1) := by decide +kernel
theorem dX10_month_1 : decode cX10_month 1 = .ok (.iload_n 1, 1) := by decide +kernel
theorem dX10_month_2 : decode cX10_month 2 = .ok (.invokevirtual 191, 3) := by decide +kernel
theorem dX10_month_5 : decode cX10_month 5 = .ok (.istore_n 2, 1) := by decide +kernel
theorem dX10_month_6 : decode cX10_month 6 = .ok (.iload_n 2, 1) := by decide +kernel
theorem dX10_month_7 : decode cX10_month 7 = .ok (.ifCond .eq 5, 3) := by decide +kernel
theorem dX10_month_10 : decode cX10_month 10 = .ok (.iload_n 2, 1) := by decide +kernel
theorem dX10_month_11 : decode cX10_month 11 = .ok (.ireturn, 1) := by decide +kernel
theorem dX10_month_12 : decode cX10_month 12 = .ok (.aload_n 0, 1) := by decide +kernel
theorem dX10_month_13 : decode cX10_month 13 = .ok (.getfield 38, 3) := by decide +kernel
theorem dX10_month_16 : decode cX10_month 16 = .ok (.aload_n 0, 1) := by decide +kernel
theorem dX10_month_17 : decode cX10_month 17 = .ok (.getfield 31, 3) := by decide +kernel
theorem dX10_month_20 : decode cX10_month 20 = .ok (.invokevirtual 194, 3) := by decide +kernel
theorem dX10_month_23 : decode cX10_month 23 = .ok (.iconst 0, 1) := by decide +kernel
theorem dX10_month_24 : decode cX10_month 24 = .ok (.istore_n 3, 1) := by decide +kernel
theorem dX10_month_25 : decode cX10_month 25 = .ok (.iload_n 3, 1) := by decide +kernel
theorem dX10_month_26 : decode cX10_month 26 = .ok (.iload_n 1, 1) := by decide +kernel
theorem dX10_month_27 : decode cX10_month 27 = .ok (.if_icmp .ge 16, 3) := by decide +kernel
theorem dX10_month_30 : decode cX10_month 30 = .ok (.aload_n 0, 1) := by decide +kernel
theorem dX10_month_31 : decode cX10_month 31 = .ok (.getfield 31, 3) := by decide +kernel
theorem dX10_month_34 : decode cX10_month 34 = .ok (.invokevirtual 198, 3) := by decide +kernel
theorem dX10_month_37 : decode cX10_month 37 = .ok (.iinc 3 1, 3) := by decide +kernel
theorem dX10_month_40 : decode cX10_month 40 = .ok (.goto (-15), 3) := by decide +kernel
theorem dX10_month_43 : decode cX10_month 43 = .ok (.aload_n 0, 1) := by decide +kernel
theorem dX10_month_44 : decode cX10_month 44 = .ok (.getfield 31, 3) := by decide +kernel
theorem dX10_month_47 : decode cX10_month 47 = .ok (.getfield 123, 3) := by decide +kernel
theorem dX10_month_50 : decode cX10_month 50 = .ok (.ireturn, 1) := by decide +kernel
set_option maxRecDepth 100000 in
set_option maxHeartbeats 4000000 in
theorem mX10_month {w : WX} {adr : Nat → Nat → Nat} (hj : Ij adr) (a1 : Int32) (S : St) : ∀ (l : Launch) (r : Int32) (S2 : St), fX10_month a1 S = some (r, S2) → Mi l w adr yX10_month cX10_month 4 (some .int) 5 109 [.ref (adr 0 0), .int a1] S r S2 := by
  refine mi_of (lv := [(0, .ref (adr 0 0)), (1, .int a1)]) hj (plainFor_of_name (by decide +kernel)) rfl (Nat.le_of_ble_eq_true rfl) (fun k C Rr => ?_)
  have C : Cx w adr k cX10_month RX10 4 5 109 := C
  refine ge_aload_n (n := 1) C 0 rfl dX10_month_0 rfl rfl ?_
  refine ge_iload_n (n := 2) C 1 rfl dX10_month_1 rfl rfl ?_
  refine ge_callVi (n := 5) C (mX10_refusalOfMonths hj a1 S) gv_X10_191 (cl_0 (by decide)) rfl rfl hc_X10_refusalOfMonths ⟨Nat.le_of_ble_eq_true rfl, Nat.le_of_ble_eq_true rfl⟩ rfl rfl (Nat.le_of_ble_eq_true rfl) dX10_month_2 rfl (fun r_2 S_2 => ?_)
  refine ge_istore_n (n := 6) (lv2 := [(2, .int r_2), (0, .ref (adr 0 0)), (1, .int a1)]) C dX10_month_5 rfl rfl (by decide) rfl ?_
  refine ge_iload_n (n := 7) C 0 rfl dX10_month_6 rfl rfl ?_
  refine ge_if_eq (t := 12) (n := 10) C dX10_month_7 (by decide) rfl (fun h_7 => ?_) (fun h_7 => ?_)
  · refine ge_aload_n (n := 13) C 1 rfl dX10_month_12 rfl rfl ?_
    refine gt_X10_38 (n := 16) C (by decide) dX10_month_13 rfl ?_
    refine ge_aload_n (n := 17) C 1 rfl dX10_month_16 rfl rfl ?_
    refine gt_X10_31 (n := 20) C (by decide) dX10_month_17 rfl ?_
    refine ge_callVv (n := 23) C (mX4_push hj S_2) gv_X10_194 (cl_14 (by decide)) rfl rfl hc_X4_push ⟨Nat.le_of_ble_eq_true rfl, Nat.le_of_ble_eq_true rfl⟩ rfl rfl (Nat.le_of_ble_eq_true rfl) dX10_month_20 rfl (fun _ S_20 => ?_)
    refine ge_iconst (v := 0) (n := 24) C dX10_month_23 (by decide) rfl ?_
    refine ge_istore_n (n := 25) (lv2 := [(3, .int (0 : Int32)), (2, .int r_2), (0, .ref (adr 0 0)), (1, .int a1)]) C dX10_month_24 rfl rfl (by decide) rfl ?_
    refine ge_jn (fun (jj : St → Op) => ∀ (S_43 : St), Ge w adr k 43 [(0, .ref (adr 0 0))] [] S_43 (jj S_43)) (fun S_43 => ?_) (fun kk25 hkk25 => ?_)
    · refine ge_aload_n (n := 44) C 0 rfl dX10_month_43 rfl rfl ?_
      refine gt_X10_31 (n := 47) C (by decide) dX10_month_44 rfl ?_
      refine gt_X10_123 (n := 50) C (by decide) dX10_month_47 rfl ?_
      exact ge_iret C Rr dX10_month_50
    refine ge_sub [0, 2, 3] rfl ?_
    refine ge_lop (fun (jj : Int32 → St → Op) => ∀ (x3_25 : Int32) (S_25 : St), Ge w adr k 25 [(3, .int x3_25), (0, .ref (adr 0 0)), (1, .int a1)] [] S_25 (jj x3_25 S_25)) (fun _ _ => ge_none) (fun ag25 hag25 x3_25 S_25 => ?_) FU (0 : Int32) S_20
    refine ge_iload_n (n := 26) C 0 rfl dX10_month_25 rfl rfl ?_
    refine ge_iload_n (n := 27) C 2 rfl dX10_month_26 rfl rfl ?_
    refine ge_icmp_ge (t := 43) (n := 30) C dX10_month_27 (by decide) rfl (fun h_27 => ?_) (fun h_27 => ?_)
    · refine ge_sub [1] rfl ?_
      exact hkk25 S_25
    · refine ge_aload_n (n := 31) C 1 rfl dX10_month_30 rfl rfl ?_
      refine gt_X10_31 (n := 34) C (by decide) dX10_month_31 rfl ?_
      refine ge_callVv (n := 37) C (mX7_passMonth hj S_25) gv_X10_198 (cl_9 (by decide)) rfl rfl hc_X7_passMonth ⟨Nat.le_of_ble_eq_true rfl, Nat.le_of_ble_eq_true rfl⟩ rfl rfl (Nat.le_of_ble_eq_true rfl) dX10_month_34 rfl (fun _ S_34 => ?_)
      refine ge_iinc (n := 40) (v := (x3_25 + (1 : Int32))) (lv2 := [(3, .int (x3_25 + (1 : Int32))), (0, .ref (adr 0 0)), (1, .int a1)]) C 0 rfl dX10_month_37 rfl rfl (by decide) rfl ?_
      refine ge_goto (n := 25) C dX10_month_40 (by decide) ?_
      exact hag25 (x3_25 + (1 : Int32)) S_34
  · refine ge_iload_n (n := 11) C 0 rfl dX10_month_10 rfl rfl ?_
    exact ge_iret C Rr dX10_month_11
theorem dX10_in_0 : decode cX10_in 0 = .ok (.aload_n 0, 1) := by decide +kernel
theorem dX10_in_1 : decode cX10_in 1 = .ok (.getfield 19, 3) := by decide +kernel
theorem dX10_in_4 : decode cX10_in 4 = .ok (.iload_n 1, 1) := by decide +kernel
theorem dX10_in_5 : decode cX10_in 5 = .ok (.invokevirtual 145, 3) := by decide +kernel
theorem dX10_in_8 : decode cX10_in 8 = .ok (.ifCond .ne 6, 3) := by decide +kernel
theorem dX10_in_11 : decode cX10_in 11 = .ok (.ldc 149, 2) := by decide +kernel
theorem dX10_in_13 : decode cX10_in 13 = .ok (.ireturn, 1) := by decide +kernel
theorem dX10_in_14 : decode cX10_in 14 = .ok (.aload_n 0, 1) := by decide +kernel
theorem dX10_in_15 : decode cX10_in 15 = .ok (.getfield 31, 3) := by decide +kernel
theorem dX10_in_18 : decode cX10_in 18 = .ok (.getfield 150, 3) := by decide +kernel
theorem dX10_in_21 : decode cX10_in 21 = .ok (.iload_n 1, 1) := by decide +kernel
theorem dX10_in_22 : decode cX10_in 22 = .ok (.aaload, 1) := by decide +kernel
theorem dX10_in_23 : decode cX10_in 23 = .ok (.getfield 158, 3) := by decide +kernel
theorem dX10_in_26 : decode cX10_in 26 = .ok (.iconst 1, 1) := by decide +kernel
theorem dX10_in_27 : decode cX10_in 27 = .ok (.if_icmp .ne 6, 3) := by decide +kernel
theorem dX10_in_30 : decode cX10_in 30 = .ok (.ldc 201, 2) := by decide +kernel
theorem dX10_in_32 : decode cX10_in 32 = .ok (.ireturn, 1) := by decide +kernel
theorem dX10_in_33 : decode cX10_in 33 = .ok (.aload_n 0, 1) := by decide +kernel
theorem dX10_in_34 : decode cX10_in 34 = .ok (.getfield 31, 3) := by decide +kernel
theorem dX10_in_37 : decode cX10_in 37 = .ok (.invokevirtual 202, 3) := by decide +kernel
theorem dX10_in_40 : decode cX10_in 40 = .ok (.ifCond .gt 6, 3) := by decide +kernel
theorem dX10_in_43 : decode cX10_in 43 = .ok (.ldc 86, 2) := by decide +kernel
theorem dX10_in_45 : decode cX10_in 45 = .ok (.ireturn, 1) := by decide +kernel
theorem dX10_in_46 : decode cX10_in 46 = .ok (.aload_n 0, 1) := by decide +kernel
theorem dX10_in_47 : decode cX10_in 47 = .ok (.getfield 38, 3) := by decide +kernel
theorem dX10_in_50 : decode cX10_in 50 = .ok (.aload_n 0, 1) := by decide +kernel
theorem dX10_in_51 : decode cX10_in 51 = .ok (.getfield 31, 3) := by decide +kernel
theorem dX10_in_54 : decode cX10_in 54 = .ok (.invokevirtual 194, 3) := by decide +kernel
theorem dX10_in_57 : decode cX10_in 57 = .ok (.aload_n 0, 1) := by decide +kernel
theorem dX10_in_58 : decode cX10_in 58 = .ok (.getfield 31, 3) := by decide +kernel
theorem dX10_in_61 : decode cX10_in 61 = .ok (.getfield 150, 3) := by decide +kernel
theorem dX10_in_64 : decode cX10_in 64 = .ok (.iload_n 1, 1) := by decide +kernel
theorem dX10_in_65 : decode cX10_in 65 = .ok (.aaload, 1) := by decide +kernel
theorem dX10_in_66 : decode cX10_in 66 = .ok (.iconst 1, 1) := by decide +kernel
theorem dX10_in_67 : decode cX10_in 67 = .ok (.putfield 158, 3) := by decide +kernel
theorem dX10_in_70 : decode cX10_in 70 = .ok (.aload_n 0, 1) := by decide +kernel
theorem dX10_in_71 : decode cX10_in 71 = .ok (.getfield 31, 3) := by decide +kernel
theorem dX10_in_74 : decode cX10_in 74 = .ok (.invokevirtual 202, 3) := by decide +kernel
theorem dX10_in_77 : decode cX10_in 77 = .ok (.ireturn, 1) := by decide +kernel
set_option maxRecDepth 100000 in
set_option maxHeartbeats 4000000 in
theorem mX10_in {w : WX} {adr : Nat → Nat → Nat} (hj : Ij adr) (a1 : Int32) (S : St) : ∀ (l : Launch) (r : Int32) (S2 : St), fX10_in a1 S = some (r, S2) → Mi l w adr yX10_in cX10_in 2 (some .int) 3 66 [.ref (adr 0 0), .int a1] S r S2 := by
  refine mi_of (lv := [(0, .ref (adr 0 0)), (1, .int a1)]) hj (plainFor_of_name (by decide +kernel)) rfl (Nat.le_of_ble_eq_true rfl) (fun k C Rr => ?_)
  have C : Cx w adr k cX10_in RX10 2 3 66 := C
  refine ge_aload_n (n := 1) C 0 rfl dX10_in_0 rfl rfl ?_
  refine gt_X10_19 (n := 4) C (by decide) dX10_in_1 rfl ?_
  refine ge_iload_n (n := 5) C 1 rfl dX10_in_4 rfl rfl ?_
  refine ge_callVi (n := 8) C (mX6_hasMan hj (o0 := (pid (S 0 0 1))) (pid_lt _) a1 S) gv_X10_145 (cl_3 (pid_lt _)) rfl rfl hc_X6_hasMan ⟨Nat.le_of_ble_eq_true rfl, Nat.le_of_ble_eq_true rfl⟩ rfl rfl (Nat.le_of_ble_eq_true rfl) dX10_in_5 rfl (fun r_5 S_5 => ?_)
  refine ge_if_ne (t := 14) (n := 11) C dX10_in_8 (by decide) rfl (fun h_8 => ?_) (fun h_8 => ?_)
  · refine ge_aload_n (n := 15) C 0 rfl dX10_in_14 rfl rfl ?_
    refine gt_X10_31 (n := 18) C (by decide) dX10_in_15 rfl ?_
    refine gt_X10_150 (n := 21) C (by decide) dX10_in_18 rfl ?_
    refine ge_iload_n (n := 22) C 1 rfl dX10_in_21 rfl rfl ?_
    refine al_10 (n := 23) C (by decide) dX10_in_22 rfl (fun h_22 => ?_)
    refine gt_X10_158 (n := 26) C (bd_c h_22 (by decide)) dX10_in_23 rfl ?_
    refine ge_iconst (v := 1) (n := 27) C dX10_in_26 (by decide) rfl ?_
    refine ge_icmp_ne (t := 33) (n := 30) C dX10_in_27 (by decide) rfl (fun h_27 => ?_) (fun h_27 => ?_)
    · refine ge_aload_n (n := 34) C 0 rfl dX10_in_33 rfl rfl ?_
      refine gt_X10_31 (n := 37) C (by decide) dX10_in_34 rfl ?_
      refine ge_callVi (n := 40) C (mX7_freePits hj S_5) gv_X10_202 (cl_9 (by decide)) rfl rfl hc_X7_freePits ⟨Nat.le_of_ble_eq_true rfl, Nat.le_of_ble_eq_true rfl⟩ rfl rfl (Nat.le_of_ble_eq_true rfl) dX10_in_37 rfl (fun r_37 S_37 => ?_)
      refine ge_if_gt (t := 46) (n := 43) C dX10_in_40 (by decide) rfl (fun h_40 => ?_) (fun h_40 => ?_)
      · refine ge_aload_n (n := 47) C 0 rfl dX10_in_46 rfl rfl ?_
        refine gt_X10_38 (n := 50) C (by decide) dX10_in_47 rfl ?_
        refine ge_aload_n (n := 51) C 0 rfl dX10_in_50 rfl rfl ?_
        refine gt_X10_31 (n := 54) C (by decide) dX10_in_51 rfl ?_
        refine ge_callVv (n := 57) C (mX4_push hj S_37) gv_X10_194 (cl_14 (by decide)) rfl rfl hc_X4_push ⟨Nat.le_of_ble_eq_true rfl, Nat.le_of_ble_eq_true rfl⟩ rfl rfl (Nat.le_of_ble_eq_true rfl) dX10_in_54 rfl (fun _ S_54 => ?_)
        refine ge_aload_n (n := 58) C 0 rfl dX10_in_57 rfl rfl ?_
        refine gt_X10_31 (n := 61) C (by decide) dX10_in_58 rfl ?_
        refine gt_X10_150 (n := 64) C (by decide) dX10_in_61 rfl ?_
        refine ge_iload_n (n := 65) C 1 rfl dX10_in_64 rfl rfl ?_
        refine al_10 (n := 66) C (by decide) dX10_in_65 rfl (fun h_65 => ?_)
        refine ge_iconst (v := 1) (n := 67) C dX10_in_66 (by decide) rfl ?_
        refine pt_X10_158 (n := 70) C (bd_c h_65 (by decide)) dX10_in_67 rfl (fun S_67 => ?_)
        refine ge_aload_n (n := 71) C 0 rfl dX10_in_70 rfl rfl ?_
        refine gt_X10_31 (n := 74) C (by decide) dX10_in_71 rfl ?_
        refine ge_callVi (n := 77) C (mX7_freePits hj S_67) gv_X10_202 (cl_9 (by decide)) rfl rfl hc_X7_freePits ⟨Nat.le_of_ble_eq_true rfl, Nat.le_of_ble_eq_true rfl⟩ rfl rfl (Nat.le_of_ble_eq_true rfl) dX10_in_74 rfl (fun r_74 S_74 => ?_)
        exact ge_iret C Rr dX10_in_77
      · refine ge_ldc (n := 45) C kc_X10_86 dX10_in_43 rfl ?_
        exact ge_iret C Rr dX10_in_45
    · refine ge_ldc (n := 32) C kc_X10_201 dX10_in_30 rfl ?_
      exact ge_iret C Rr dX10_in_32
  · refine ge_ldc (n := 13) C kc_X10_149 dX10_in_11 rfl ?_
    exact ge_iret C Rr dX10_in_13
theorem dX10_out_0 : decode cX10_out 0 = .ok (.aload_n 0, 1) := by decide +kernel
theorem dX10_out_1 : decode cX10_out 1 = .ok (.getfield 19, 3) := by decide +kernel
theorem dX10_out_4 : decode cX10_out 4 = .ok (.iload_n 1, 1) := by decide +kernel
theorem dX10_out_5 : decode cX10_out 5 = .ok (.invokevirtual 145, 3) := by decide +kernel
theorem dX10_out_8 : decode cX10_out 8 = .ok (.ifCond .ne 6, 3) := by decide +kernel
theorem dX10_out_11 : decode cX10_out 11 = .ok (.ldc 149, 2) := by decide +kernel
theorem dX10_out_13 : decode cX10_out 13 = .ok (.ireturn, 1) := by decide +kernel
theorem dX10_out_14 : decode cX10_out 14 = .ok (.aload_n 0, 1) := by decide +kernel
theorem dX10_out_15 : decode cX10_out 15 = .ok (.getfield 31, 3) := by decide +kernel
theorem dX10_out_18 : decode cX10_out 18 = .ok (.getfield 150, 3) := by decide +kernel
theorem dX10_out_21 : decode cX10_out 21 = .ok (.iload_n 1, 1) := by decide +kernel
theorem dX10_out_22 : decode cX10_out 22 = .ok (.aaload, 1) := by decide +kernel
theorem dX10_out_23 : decode cX10_out 23 = .ok (.getfield 158, 3) := by decide +kernel
theorem dX10_out_26 : decode cX10_out 26 = .ok (.ifCond .ne 6, 3) := by decide +kernel
theorem dX10_out_29 : decode cX10_out 29 = .ok (.ldc 201, 2) := by decide +kernel
theorem dX10_out_31 : decode cX10_out 31 = .ok (.ireturn, 1) := by decide +kernel
theorem dX10_out_32 : decode cX10_out 32 = .ok (.aload_n 0, 1) := by decide +kernel
theorem dX10_out_33 : decode cX10_out 33 = .ok (.getfield 38, 3) := by decide +kernel
theorem dX10_out_36 : decode cX10_out 36 = .ok (.aload_n 0, 1) := by decide +kernel
theorem dX10_out_37 : decode cX10_out 37 = .ok (.getfield 31, 3) := by decide +kernel
theorem dX10_out_40 : decode cX10_out 40 = .ok (.invokevirtual 194, 3) := by decide +kernel
theorem dX10_out_43 : decode cX10_out 43 = .ok (.aload_n 0, 1) := by decide +kernel
theorem dX10_out_44 : decode cX10_out 44 = .ok (.getfield 31, 3) := by decide +kernel
theorem dX10_out_47 : decode cX10_out 47 = .ok (.getfield 150, 3) := by decide +kernel
theorem dX10_out_50 : decode cX10_out 50 = .ok (.iload_n 1, 1) := by decide +kernel
theorem dX10_out_51 : decode cX10_out 51 = .ok (.aaload, 1) := by decide +kernel
theorem dX10_out_52 : decode cX10_out 52 = .ok (.iconst 0, 1) := by decide +kernel
theorem dX10_out_53 : decode cX10_out 53 = .ok (.putfield 158, 3) := by decide +kernel
theorem dX10_out_56 : decode cX10_out 56 = .ok (.aload_n 0, 1) := by decide +kernel
theorem dX10_out_57 : decode cX10_out 57 = .ok (.getfield 19, 3) := by decide +kernel
theorem dX10_out_60 : decode cX10_out 60 = .ok (.aload_n 0, 1) := by decide +kernel
theorem dX10_out_61 : decode cX10_out 61 = .ok (.getfield 31, 3) := by decide +kernel
theorem dX10_out_64 : decode cX10_out 64 = .ok (.getfield 150, 3) := by decide +kernel
theorem dX10_out_67 : decode cX10_out 67 = .ok (.iload_n 1, 1) := by decide +kernel
theorem dX10_out_68 : decode cX10_out 68 = .ok (.aaload, 1) := by decide +kernel
theorem dX10_out_69 : decode cX10_out 69 = .ok (.invokevirtual 164, 3) := by decide +kernel
theorem dX10_out_72 : decode cX10_out 72 = .ok (.ireturn, 1) := by decide +kernel
set_option maxRecDepth 100000 in
set_option maxHeartbeats 4000000 in
theorem mX10_out {w : WX} {adr : Nat → Nat → Nat} (hj : Ij adr) (a1 : Int32) (S : St) : ∀ (l : Launch) (r : Int32) (S2 : St), fX10_out a1 S = some (r, S2) → Mi l w adr yX10_out cX10_out 2 (some .int) 3 67 [.ref (adr 0 0), .int a1] S r S2 := by
  refine mi_of (lv := [(0, .ref (adr 0 0)), (1, .int a1)]) hj (plainFor_of_name (by decide +kernel)) rfl (Nat.le_of_ble_eq_true rfl) (fun k C Rr => ?_)
  have C : Cx w adr k cX10_out RX10 2 3 67 := C
  refine ge_aload_n (n := 1) C 0 rfl dX10_out_0 rfl rfl ?_
  refine gt_X10_19 (n := 4) C (by decide) dX10_out_1 rfl ?_
  refine ge_iload_n (n := 5) C 1 rfl dX10_out_4 rfl rfl ?_
  refine ge_callVi (n := 8) C (mX6_hasMan hj (o0 := (pid (S 0 0 1))) (pid_lt _) a1 S) gv_X10_145 (cl_3 (pid_lt _)) rfl rfl hc_X6_hasMan ⟨Nat.le_of_ble_eq_true rfl, Nat.le_of_ble_eq_true rfl⟩ rfl rfl (Nat.le_of_ble_eq_true rfl) dX10_out_5 rfl (fun r_5 S_5 => ?_)
  refine ge_if_ne (t := 14) (n := 11) C dX10_out_8 (by decide) rfl (fun h_8 => ?_) (fun h_8 => ?_)
  · refine ge_aload_n (n := 15) C 0 rfl dX10_out_14 rfl rfl ?_
    refine gt_X10_31 (n := 18) C (by decide) dX10_out_15 rfl ?_
    refine gt_X10_150 (n := 21) C (by decide) dX10_out_18 rfl ?_
    refine ge_iload_n (n := 22) C 1 rfl dX10_out_21 rfl rfl ?_
    refine al_10 (n := 23) C (by decide) dX10_out_22 rfl (fun h_22 => ?_)
    refine gt_X10_158 (n := 26) C (bd_c h_22 (by decide)) dX10_out_23 rfl ?_
    refine ge_if_ne (t := 32) (n := 29) C dX10_out_26 (by decide) rfl (fun h_26 => ?_) (fun h_26 => ?_)
    · refine ge_aload_n (n := 33) C 0 rfl dX10_out_32 rfl rfl ?_
      refine gt_X10_38 (n := 36) C (by decide) dX10_out_33 rfl ?_
      refine ge_aload_n (n := 37) C 0 rfl dX10_out_36 rfl rfl ?_
      refine gt_X10_31 (n := 40) C (by decide) dX10_out_37 rfl ?_
      refine ge_callVv (n := 43) C (mX4_push hj S_5) gv_X10_194 (cl_14 (by decide)) rfl rfl hc_X4_push ⟨Nat.le_of_ble_eq_true rfl, Nat.le_of_ble_eq_true rfl⟩ rfl rfl (Nat.le_of_ble_eq_true rfl) dX10_out_40 rfl (fun _ S_40 => ?_)
      refine ge_aload_n (n := 44) C 0 rfl dX10_out_43 rfl rfl ?_
      refine gt_X10_31 (n := 47) C (by decide) dX10_out_44 rfl ?_
      refine gt_X10_150 (n := 50) C (by decide) dX10_out_47 rfl ?_
      refine ge_iload_n (n := 51) C 1 rfl dX10_out_50 rfl rfl ?_
      refine al_10 (n := 52) C (by decide) dX10_out_51 rfl (fun h_51 => ?_)
      refine ge_iconst (v := 0) (n := 53) C dX10_out_52 (by decide) rfl ?_
      refine pt_X10_158 (n := 56) C (bd_c h_51 (by decide)) dX10_out_53 rfl (fun S_53 => ?_)
      refine ge_aload_n (n := 57) C 0 rfl dX10_out_56 rfl rfl ?_
      refine gt_X10_19 (n := 60) C (by decide) dX10_out_57 rfl ?_
      refine ge_aload_n (n := 61) C 0 rfl dX10_out_60 rfl rfl ?_
      refine gt_X10_31 (n := 64) C (by decide) dX10_out_61 rfl ?_
      refine gt_X10_150 (n := 67) C (by decide) dX10_out_64 rfl ?_
      refine ge_iload_n (n := 68) C 1 rfl dX10_out_67 rfl rfl ?_
      refine al_10 (n := 69) C (by decide) dX10_out_68 rfl (fun h_68 => ?_)
      refine ge_callVi (n := 72) C (mX6_setBorne hj (o0 := (pid (S_53 0 0 1))) (pid_lt _) (o1 := (Int32.toNatClampNeg a1)) (bd_c h_68 (by decide)) S_53) gv_X10_164 (cl_3 (pid_lt _)) rfl rfl hc_X6_setBorne ⟨Nat.le_of_ble_eq_true rfl, Nat.le_of_ble_eq_true rfl⟩ rfl rfl (Nat.le_of_ble_eq_true rfl) dX10_out_69 rfl (fun r_69 S_69 => ?_)
      exact ge_iret C Rr dX10_out_72
    · refine ge_ldc (n := 31) C kc_X10_201 dX10_out_29 rfl ?_
      exact ge_iret C Rr dX10_out_31
  · refine ge_ldc (n := 13) C kc_X10_149 dX10_out_11 rfl ?_
    exact ge_iret C Rr dX10_out_13
theorem dX10_scrape_0 : decode cX10_scrape 0 = .ok (.aload_n 0, 1) := by decide +kernel
theorem dX10_scrape_1 : decode cX10_scrape 1 = .ok (.getfield 19, 3) := by decide +kernel
theorem dX10_scrape_4 : decode cX10_scrape 4 = .ok (.iload_n 1, 1) := by decide +kernel
theorem dX10_scrape_5 : decode cX10_scrape 5 = .ok (.invokevirtual 145, 3) := by decide +kernel
theorem dX10_scrape_8 : decode cX10_scrape 8 = .ok (.ifCond .ne 6, 3) := by decide +kernel
theorem dX10_scrape_11 : decode cX10_scrape 11 = .ok (.ldc 149, 2) := by decide +kernel
theorem dX10_scrape_13 : decode cX10_scrape 13 = .ok (.ireturn, 1) := by decide +kernel
theorem dX10_scrape_14 : decode cX10_scrape 14 = .ok (.iload_n 2, 1) := by decide +kernel
theorem dX10_scrape_15 : decode cX10_scrape 15 = .ok (.iconst 0, 1) := by decide +kernel
theorem dX10_scrape_16 : decode cX10_scrape 16 = .ok (.iconst 4, 1) := by decide +kernel
theorem dX10_scrape_17 : decode cX10_scrape 17 = .ok (.invokestatic 77, 3) := by decide +kernel
theorem dX10_scrape_20 : decode cX10_scrape 20 = .ok (.ifCond .ne 13, 3) := by decide +kernel
theorem dX10_scrape_23 : decode cX10_scrape 23 = .ok (.iload_n 3, 1) := by decide +kernel
theorem dX10_scrape_24 : decode cX10_scrape 24 = .ok (.iconst 1, 1) := by decide +kernel
theorem dX10_scrape_25 : decode cX10_scrape 25 = .ok (.bipush 30, 2) := by decide +kernel
theorem dX10_scrape_27 : decode cX10_scrape 27 = .ok (.invokestatic 77, 3) := by decide +kernel
theorem dX10_scrape_30 : decode cX10_scrape 30 = .ok (.ifCond .eq 6, 3) := by decide +kernel
theorem dX10_scrape_33 : decode cX10_scrape 33 = .ok (.ldc 81, 2) := by decide +kernel
theorem dX10_scrape_35 : decode cX10_scrape 35 = .ok (.ireturn, 1) := by decide +kernel
theorem dX10_scrape_36 : decode cX10_scrape 36 = .ok (.aload_n 0, 1) := by decide +kernel
theorem dX10_scrape_37 : decode cX10_scrape 37 = .ok (.getfield 31, 3) := by decide +kernel
theorem dX10_scrape_40 : decode cX10_scrape 40 = .ok (.getfield 150, 3) := by decide +kernel
theorem dX10_scrape_43 : decode cX10_scrape 43 = .ok (.iload_n 1, 1) := by decide +kernel
theorem dX10_scrape_44 : decode cX10_scrape 44 = .ok (.aaload, 1) := by decide +kernel
theorem dX10_scrape_45 : decode cX10_scrape 45 = .ok (.getfield 171, 3) := by decide +kernel
theorem dX10_scrape_48 : decode cX10_scrape 48 = .ok (.iload_n 2, 1) := by decide +kernel
theorem dX10_scrape_49 : decode cX10_scrape 49 = .ok (.iaload, 1) := by decide +kernel
theorem dX10_scrape_50 : decode cX10_scrape 50 = .ok (.iload_n 3, 1) := by decide +kernel
theorem dX10_scrape_51 : decode cX10_scrape 51 = .ok (.if_icmp .ge 6, 3) := by decide +kernel
theorem dX10_scrape_54 : decode cX10_scrape 54 = .ok (.ldc 201, 2) := by decide +kernel
theorem dX10_scrape_56 : decode cX10_scrape 56 = .ok (.ireturn, 1) := by decide +kernel
theorem dX10_scrape_57 : decode cX10_scrape 57 = .ok (.aload_n 0, 1) := by decide +kernel
theorem dX10_scrape_58 : decode cX10_scrape 58 = .ok (.getfield 38, 3) := by decide +kernel
theorem dX10_scrape_61 : decode cX10_scrape 61 = .ok (.aload_n 0, 1) := by decide +kernel
theorem dX10_scrape_62 : decode cX10_scrape 62 = .ok (.getfield 31, 3) := by decide +kernel
theorem dX10_scrape_65 : decode cX10_scrape 65 = .ok (.invokevirtual 194, 3) := by decide +kernel
theorem dX10_scrape_68 : decode cX10_scrape 68 = .ok (.aload_n 0, 1) := by decide +kernel
theorem dX10_scrape_69 : decode cX10_scrape 69 = .ok (.getfield 31, 3) := by decide +kernel
theorem dX10_scrape_72 : decode cX10_scrape 72 = .ok (.iload_n 1, 1) := by decide +kernel
theorem dX10_scrape_73 : decode cX10_scrape 73 = .ok (.iload_n 2, 1) := by decide +kernel
theorem dX10_scrape_74 : decode cX10_scrape 74 = .ok (.iload_n 3, 1) := by decide +kernel
theorem dX10_scrape_75 : decode cX10_scrape 75 = .ok (.invokevirtual 205, 3) := by decide +kernel
theorem dX10_scrape_78 : decode cX10_scrape 78 = .ok (.aload_n 0, 1) := by decide +kernel
theorem dX10_scrape_79 : decode cX10_scrape 79 = .ok (.getfield 31, 3) := by decide +kernel
theorem dX10_scrape_82 : decode cX10_scrape 82 = .ok (.getfield 150, 3) := by decide +kernel
theorem dX10_scrape_85 : decode cX10_scrape 85 = .ok (.iload_n 1, 1) := by decide +kernel
theorem dX10_scrape_86 : decode cX10_scrape 86 = .ok (.aaload, 1) := by decide +kernel
theorem dX10_scrape_87 : decode cX10_scrape 87 = .ok (.getfield 171, 3) := by decide +kernel
theorem dX10_scrape_90 : decode cX10_scrape 90 = .ok (.iload_n 2, 1) := by decide +kernel
theorem dX10_scrape_91 : decode cX10_scrape 91 = .ok (.iaload, 1) := by decide +kernel
theorem dX10_scrape_92 : decode cX10_scrape 92 = .ok (.ireturn, 1) := by decide +kernel
set_option maxRecDepth 100000 in
set_option maxHeartbeats 4000000 in
theorem mX10_scrape {w : WX} {adr : Nat → Nat → Nat} (hj : Ij adr) (a1 : Int32) (a2 : Int32) (a3 : Int32) (S : St) : ∀ (l : Launch) (r : Int32) (S2 : St), fX10_scrape a1 a2 a3 S = some (r, S2) → Mi l w adr yX10_scrape cX10_scrape 4 (some .int) 3 66 [.ref (adr 0 0), .int a1, .int a2, .int a3] S r S2 := by
  refine mi_of (lv := [(0, .ref (adr 0 0)), (1, .int a1), (2, .int a2), (3, .int a3)]) hj (plainFor_of_name (by decide +kernel)) rfl (Nat.le_of_ble_eq_true rfl) (fun k C Rr => ?_)
  have C : Cx w adr k cX10_scrape RX10 4 3 66 := C
  refine ge_aload_n (n := 1) C 0 rfl dX10_scrape_0 rfl rfl ?_
  refine gt_X10_19 (n := 4) C (by decide) dX10_scrape_1 rfl ?_
  refine ge_iload_n (n := 5) C 1 rfl dX10_scrape_4 rfl rfl ?_
  refine ge_callVi (n := 8) C (mX6_hasMan hj (o0 := (pid (S 0 0 1))) (pid_lt _) a1 S) gv_X10_145 (cl_3 (pid_lt _)) rfl rfl hc_X6_hasMan ⟨Nat.le_of_ble_eq_true rfl, Nat.le_of_ble_eq_true rfl⟩ rfl rfl (Nat.le_of_ble_eq_true rfl) dX10_scrape_5 rfl (fun r_5 S_5 => ?_)
  refine ge_if_ne (t := 14) (n := 11) C dX10_scrape_8 (by decide) rfl (fun h_8 => ?_) (fun h_8 => ?_)
  · refine ge_iload_n (n := 15) C 2 rfl dX10_scrape_14 rfl rfl ?_
    refine ge_iconst (v := 0) (n := 16) C dX10_scrape_15 (by decide) rfl ?_
    refine ge_iconst (v := 4) (n := 17) C dX10_scrape_16 (by decide) rfl ?_
    refine ge_callSi (n := 20) C (mX10_isOutside hj a2 (0 : Int32) (4 : Int32) S_5) gv_X10_77 hc_X10_isOutside ⟨Nat.le_of_ble_eq_true rfl, Nat.le_of_ble_eq_true rfl⟩ rfl rfl (Nat.le_of_ble_eq_true rfl) dX10_scrape_17 rfl (fun r_17 S_17 => ?_)
    refine ge_if_ne (t := 33) (n := 23) C dX10_scrape_20 (by decide) rfl (fun h_20 => ?_) (fun h_20 => ?_)
    · refine ge_ldc (n := 35) C kc_X10_81 dX10_scrape_33 rfl ?_
      exact ge_iret C Rr dX10_scrape_35
    · refine ge_iload_n (n := 24) C 3 rfl dX10_scrape_23 rfl rfl ?_
      refine ge_iconst (v := 1) (n := 25) C dX10_scrape_24 (by decide) rfl ?_
      refine ge_bipush (v := 30) (n := 27) C dX10_scrape_25 (by decide) rfl ?_
      refine ge_callSi (n := 30) C (mX10_isOutside hj a3 (1 : Int32) (30 : Int32) S_17) gv_X10_77 hc_X10_isOutside ⟨Nat.le_of_ble_eq_true rfl, Nat.le_of_ble_eq_true rfl⟩ rfl rfl (Nat.le_of_ble_eq_true rfl) dX10_scrape_27 rfl (fun r_27 S_27 => ?_)
      refine ge_if_eq (t := 36) (n := 33) C dX10_scrape_30 (by decide) rfl (fun h_30 => ?_) (fun h_30 => ?_)
      · refine ge_aload_n (n := 37) C 0 rfl dX10_scrape_36 rfl rfl ?_
        refine gt_X10_31 (n := 40) C (by decide) dX10_scrape_37 rfl ?_
        refine gt_X10_150 (n := 43) C (by decide) dX10_scrape_40 rfl ?_
        refine ge_iload_n (n := 44) C 1 rfl dX10_scrape_43 rfl rfl ?_
        refine al_10 (n := 45) C (by decide) dX10_scrape_44 rfl (fun h_44 => ?_)
        refine gt_X10_171 (n := 48) C (bd_c h_44 (by decide)) dX10_scrape_45 rfl ?_
        refine ge_iload_n (n := 49) C 2 rfl dX10_scrape_48 rfl rfl ?_
        refine al_12 (n := 50) C (bd_c h_44 (by decide)) dX10_scrape_49 rfl ?_
        refine ge_iload_n (n := 51) C 3 rfl dX10_scrape_50 rfl rfl ?_
        refine ge_icmp_ge (t := 57) (n := 54) C dX10_scrape_51 (by decide) rfl (fun h_51 => ?_) (fun h_51 => ?_)
        · refine ge_aload_n (n := 58) C 0 rfl dX10_scrape_57 rfl rfl ?_
          refine gt_X10_38 (n := 61) C (by decide) dX10_scrape_58 rfl ?_
          refine ge_aload_n (n := 62) C 0 rfl dX10_scrape_61 rfl rfl ?_
          refine gt_X10_31 (n := 65) C (by decide) dX10_scrape_62 rfl ?_
          refine ge_callVv (n := 68) C (mX4_push hj S_27) gv_X10_194 (cl_14 (by decide)) rfl rfl hc_X4_push ⟨Nat.le_of_ble_eq_true rfl, Nat.le_of_ble_eq_true rfl⟩ rfl rfl (Nat.le_of_ble_eq_true rfl) dX10_scrape_65 rfl (fun _ S_65 => ?_)
          refine ge_aload_n (n := 69) C 0 rfl dX10_scrape_68 rfl rfl ?_
          refine gt_X10_31 (n := 72) C (by decide) dX10_scrape_69 rfl ?_
          refine ge_iload_n (n := 73) C 1 rfl dX10_scrape_72 rfl rfl ?_
          refine ge_iload_n (n := 74) C 2 rfl dX10_scrape_73 rfl rfl ?_
          refine ge_iload_n (n := 75) C 3 rfl dX10_scrape_74 rfl rfl ?_
          refine ge_callVv (n := 78) C (mX7_scrapeOff hj a1 a2 a3 S_65) gv_X10_205 (cl_9 (by decide)) rfl rfl hc_X7_scrapeOff ⟨Nat.le_of_ble_eq_true rfl, Nat.le_of_ble_eq_true rfl⟩ rfl rfl (Nat.le_of_ble_eq_true rfl) dX10_scrape_75 rfl (fun _ S_75 => ?_)
          refine ge_aload_n (n := 79) C 0 rfl dX10_scrape_78 rfl rfl ?_
          refine gt_X10_31 (n := 82) C (by decide) dX10_scrape_79 rfl ?_
          refine gt_X10_150 (n := 85) C (by decide) dX10_scrape_82 rfl ?_
          refine ge_iload_n (n := 86) C 1 rfl dX10_scrape_85 rfl rfl ?_
          refine al_10 (n := 87) C (by decide) dX10_scrape_86 rfl (fun h_86 => ?_)
          refine gt_X10_171 (n := 90) C (bd_c h_86 (by decide)) dX10_scrape_87 rfl ?_
          refine ge_iload_n (n := 91) C 2 rfl dX10_scrape_90 rfl rfl ?_
          refine al_12 (n := 92) C (bd_c h_86 (by decide)) dX10_scrape_91 rfl ?_
          exact ge_iret C Rr dX10_scrape_92
        · refine ge_ldc (n := 56) C kc_X10_201 dX10_scrape_54 rfl ?_
          exact ge_iret C Rr dX10_scrape_56
      · refine ge_ldc (n := 35) C kc_X10_81 dX10_scrape_33 rfl ?_
        exact ge_iret C Rr dX10_scrape_35
  · refine ge_ldc (n := 13) C kc_X10_149 dX10_scrape_11 rfl ?_
    exact ge_iret C Rr dX10_scrape_13
theorem dX10_say_0 : decode cX10_say 0 = .ok (.aload_n 0, 1) := by decide +kernel
theorem dX10_say_1 : decode cX10_say 1 = .ok (.getfield 19, 3) := by decide +kernel
theorem dX10_say_4 : decode cX10_say 4 = .ok (.iload_n 1, 1) := by decide +kernel
theorem dX10_say_5 : decode cX10_say 5 = .ok (.invokevirtual 178, 3) := by decide +kernel
theorem dX10_say_8 : decode cX10_say 8 = .ok (.ifCond .eq 14, 3) := by decide +kernel
theorem dX10_say_11 : decode cX10_say 11 = .ok (.aload_n 0, 1) := by decide +kernel
theorem dX10_say_12 : decode cX10_say 12 = .ok (.getfield 19, 3) := by decide +kernel
theorem dX10_say_15 : decode cX10_say 15 = .ok (.iload_n 2, 1) := by decide +kernel
theorem dX10_say_16 : decode cX10_say 16 = .ok (.invokevirtual 145, 3) := by decide +kernel
theorem dX10_say_19 : decode cX10_say 19 = .ok (.ifCond .ne 6, 3) := by decide +kernel
theorem dX10_say_22 : decode cX10_say 22 = .ok (.ldc 149, 2) := by decide +kernel
theorem dX10_say_24 : decode cX10_say 24 = .ok (.ireturn, 1) := by decide +kernel
theorem dX10_say_25 : decode cX10_say 25 = .ok (.aload_n 0, 1) := by decide +kernel
theorem dX10_say_26 : decode cX10_say 26 = .ok (.getfield 38, 3) := by decide +kernel
theorem dX10_say_29 : decode cX10_say 29 = .ok (.aload_n 0, 1) := by decide +kernel
theorem dX10_say_30 : decode cX10_say 30 = .ok (.getfield 31, 3) := by decide +kernel
theorem dX10_say_33 : decode cX10_say 33 = .ok (.invokevirtual 194, 3) := by decide +kernel
theorem dX10_say_36 : decode cX10_say 36 = .ok (.aload_n 0, 1) := by decide +kernel
theorem dX10_say_37 : decode cX10_say 37 = .ok (.getfield 31, 3) := by decide +kernel
theorem dX10_say_40 : decode cX10_say 40 = .ok (.iload_n 2, 1) := by decide +kernel
theorem dX10_say_41 : decode cX10_say 41 = .ok (.iload_n 1, 1) := by decide +kernel
theorem dX10_say_42 : decode cX10_say 42 = .ok (.invokevirtual 209, 3) := by decide +kernel
theorem dX10_say_45 : decode cX10_say 45 = .ok (.aload_n 0, 1) := by decide +kernel
theorem dX10_say_46 : decode cX10_say 46 = .ok (.getfield 31, 3) := by decide +kernel
theorem dX10_say_49 : decode cX10_say 49 = .ok (.getfield 150, 3) := by decide +kernel
theorem dX10_say_52 : decode cX10_say 52 = .ok (.iload_n 2, 1) := by decide +kernel
theorem dX10_say_53 : decode cX10_say 53 = .ok (.aaload, 1) := by decide +kernel
theorem dX10_say_54 : decode cX10_say 54 = .ok (.getfield 161, 3) := by decide +kernel
theorem dX10_say_57 : decode cX10_say 57 = .ok (.ireturn, 1) := by decide +kernel
set_option maxRecDepth 100000 in
set_option maxHeartbeats 4000000 in
theorem mX10_say {w : WX} {adr : Nat → Nat → Nat} (hj : Ij adr) (a1 : Int32) (a2 : Int32) (S : St) : ∀ (l : Launch) (r : Int32) (S2 : St), fX10_say a1 a2 S = some (r, S2) → Mi l w adr yX10_say cX10_say 3 (some .int) 3 66 [.ref (adr 0 0), .int a1, .int a2] S r S2 := by
  refine mi_of (lv := [(0, .ref (adr 0 0)), (1, .int a1), (2, .int a2)]) hj (plainFor_of_name (by decide +kernel)) rfl (Nat.le_of_ble_eq_true rfl) (fun k C Rr => ?_)
  have C : Cx w adr k cX10_say RX10 3 3 66 := C
  refine ge_aload_n (n := 1) C 0 rfl dX10_say_0 rfl rfl ?_
  refine gt_X10_19 (n := 4) C (by decide) dX10_say_1 rfl ?_
  refine ge_iload_n (n := 5) C 1 rfl dX10_say_4 rfl rfl ?_
  refine ge_callVi (n := 8) C (mX6_hasSaying hj (o0 := (pid (S 0 0 1))) (pid_lt _) a1 S) gv_X10_178 (cl_3 (pid_lt _)) rfl rfl hc_X6_hasSaying ⟨Nat.le_of_ble_eq_true rfl, Nat.le_of_ble_eq_true rfl⟩ rfl rfl (Nat.le_of_ble_eq_true rfl) dX10_say_5 rfl (fun r_5 S_5 => ?_)
  refine ge_if_eq (t := 22) (n := 11) C dX10_say_8 (by decide) rfl (fun h_8 => ?_) (fun h_8 => ?_)
  · refine ge_ldc (n := 24) C kc_X10_149 dX10_say_22 rfl ?_
    exact ge_iret C Rr dX10_say_24
  · refine ge_aload_n (n := 12) C 0 rfl dX10_say_11 rfl rfl ?_
    refine gt_X10_19 (n := 15) C (by decide) dX10_say_12 rfl ?_
    refine ge_iload_n (n := 16) C 2 rfl dX10_say_15 rfl rfl ?_
    refine ge_callVi (n := 19) C (mX6_hasMan hj (o0 := (pid (S_5 0 0 1))) (pid_lt _) a2 S_5) gv_X10_145 (cl_3 (pid_lt _)) rfl rfl hc_X6_hasMan ⟨Nat.le_of_ble_eq_true rfl, Nat.le_of_ble_eq_true rfl⟩ rfl rfl (Nat.le_of_ble_eq_true rfl) dX10_say_16 rfl (fun r_16 S_16 => ?_)
    refine ge_if_ne (t := 25) (n := 22) C dX10_say_19 (by decide) rfl (fun h_19 => ?_) (fun h_19 => ?_)
    · refine ge_aload_n (n := 26) C 0 rfl dX10_say_25 rfl rfl ?_
      refine gt_X10_38 (n := 29) C (by decide) dX10_say_26 rfl ?_
      refine ge_aload_n (n := 30) C 0 rfl dX10_say_29 rfl rfl ?_
      refine gt_X10_31 (n := 33) C (by decide) dX10_say_30 rfl ?_
      refine ge_callVv (n := 36) C (mX4_push hj S_16) gv_X10_194 (cl_14 (by decide)) rfl rfl hc_X4_push ⟨Nat.le_of_ble_eq_true rfl, Nat.le_of_ble_eq_true rfl⟩ rfl rfl (Nat.le_of_ble_eq_true rfl) dX10_say_33 rfl (fun _ S_33 => ?_)
      refine ge_aload_n (n := 37) C 0 rfl dX10_say_36 rfl rfl ?_
      refine gt_X10_31 (n := 40) C (by decide) dX10_say_37 rfl ?_
      refine ge_iload_n (n := 41) C 2 rfl dX10_say_40 rfl rfl ?_
      refine ge_iload_n (n := 42) C 1 rfl dX10_say_41 rfl rfl ?_
      refine ge_callVv (n := 45) C (mX7_wound hj a2 a1 S_33) gv_X10_209 (cl_9 (by decide)) rfl rfl hc_X7_wound ⟨Nat.le_of_ble_eq_true rfl, Nat.le_of_ble_eq_true rfl⟩ rfl rfl (Nat.le_of_ble_eq_true rfl) dX10_say_42 rfl (fun _ S_42 => ?_)
      refine ge_aload_n (n := 46) C 0 rfl dX10_say_45 rfl rfl ?_
      refine gt_X10_31 (n := 49) C (by decide) dX10_say_46 rfl ?_
      refine gt_X10_150 (n := 52) C (by decide) dX10_say_49 rfl ?_
      refine ge_iload_n (n := 53) C 2 rfl dX10_say_52 rfl rfl ?_
      refine al_10 (n := 54) C (by decide) dX10_say_53 rfl (fun h_53 => ?_)
      refine gt_X10_161 (n := 57) C (bd_c h_53 (by decide)) dX10_say_54 rfl ?_
      exact ge_iret C Rr dX10_say_57
    · refine ge_ldc (n := 24) C kc_X10_149 dX10_say_22 rfl ?_
      exact ge_iret C Rr dX10_say_24
theorem dX10_bark_0 : decode cX10_bark 0 = .ok (.iload_n 1, 1) := by decide +kernel
theorem dX10_bark_1 : decode cX10_bark 1 = .ok (.iconst 1, 1) := by decide +kernel
theorem dX10_bark_2 : decode cX10_bark 2 = .ok (.bipush 9, 2) := by decide +kernel
theorem dX10_bark_4 : decode cX10_bark 4 = .ok (.invokestatic 77, 3) := by decide +kernel
theorem dX10_bark_7 : decode cX10_bark 7 = .ok (.ifCond .eq 6, 3) := by decide +kernel
theorem dX10_bark_10 : decode cX10_bark 10 = .ok (.ldc 81, 2) := by decide +kernel
theorem dX10_bark_12 : decode cX10_bark 12 = .ok (.ireturn, 1) := by decide +kernel
theorem dX10_bark_13 : decode cX10_bark 13 = .ok (.aload_n 0, 1) := by decide +kernel
theorem dX10_bark_14 : decode cX10_bark 14 = .ok (.getfield 19, 3) := by decide +kernel
theorem dX10_bark_17 : decode cX10_bark 17 = .ok (.invokevirtual 213, 3) := by decide +kernel
theorem dX10_bark_20 : decode cX10_bark 20 = .ok (.ifCond .eq 6, 3) := by decide +kernel
theorem dX10_bark_23 : decode cX10_bark 23 = .ok (.ldc 201, 2) := by decide +kernel
theorem dX10_bark_25 : decode cX10_bark 25 = .ok (.ireturn, 1) := by decide +kernel
theorem dX10_bark_26 : decode cX10_bark 26 = .ok (.aload_n 0, 1) := by decide +kernel
theorem dX10_bark_27 : decode cX10_bark 27 = .ok (.getfield 38, 3) := by decide +kernel
theorem dX10_bark_30 : decode cX10_bark 30 = .ok (.aload_n 0, 1) := by decide +kernel
theorem dX10_bark_31 : decode cX10_bark 31 = .ok (.getfield 31, 3) := by decide +kernel
theorem dX10_bark_34 : decode cX10_bark 34 = .ok (.invokevirtual 194, 3) := by decide +kernel
theorem dX10_bark_37 : decode cX10_bark 37 = .ok (.aload_n 0, 1) := by decide +kernel
theorem dX10_bark_38 : decode cX10_bark 38 = .ok (.getfield 31, 3) := by decide +kernel
theorem dX10_bark_41 : decode cX10_bark 41 = .ok (.getfield 117, 3) := by decide +kernel
theorem dX10_bark_44 : decode cX10_bark 44 = .ok (.istore_n 2, 1) := by decide +kernel
theorem dX10_bark_45 : decode cX10_bark 45 = .ok (.aload_n 0, 1) := by decide +kernel
theorem dX10_bark_46 : decode cX10_bark 46 = .ok (.getfield 31, 3) := by decide +kernel
theorem dX10_bark_49 : decode cX10_bark 49 = .ok (.iload_n 1, 1) := by decide +kernel
theorem dX10_bark_50 : decode cX10_bark 50 = .ok (.putfield 117, 3) := by decide +kernel
theorem dX10_bark_53 : decode cX10_bark 53 = .ok (.iload_n 2, 1) := by decide +kernel
theorem dX10_bark_54 : decode cX10_bark 54 = .ok (.ireturn, 1) := by decide +kernel
set_option maxRecDepth 100000 in
set_option maxHeartbeats 4000000 in
theorem mX10_bark {w : WX} {adr : Nat → Nat → Nat} (hj : Ij adr) (a1 : Int32) (S : St) : ∀ (l : Launch) (r : Int32) (S2 : St), fX10_bark a1 S = some (r, S2) → Mi l w adr yX10_bark cX10_bark 3 (some .int) 3 66 [.ref (adr 0 0), .int a1] S r S2 := by
  refine mi_of (lv := [(0, .ref (adr 0 0)), (1, .int a1)]) hj (plainFor_of_name (by decide +kernel)) rfl (Nat.le_of_ble_eq_true rfl) (fun k C Rr => ?_)
  have C : Cx w adr k cX10_bark RX10 3 3 66 := C
  refine ge_iload_n (n := 1) C 1 rfl dX10_bark_0 rfl rfl ?_
  refine ge_iconst (v := 1) (n := 2) C dX10_bark_1 (by decide) rfl ?_
  refine ge_bipush (v := 9) (n := 4) C dX10_bark_2 (by decide) rfl ?_
  refine ge_callSi (n := 7) C (mX10_isOutside hj a1 (1 : Int32) (9 : Int32) S) gv_X10_77 hc_X10_isOutside ⟨Nat.le_of_ble_eq_true rfl, Nat.le_of_ble_eq_true rfl⟩ rfl rfl (Nat.le_of_ble_eq_true rfl) dX10_bark_4 rfl (fun r_4 S_4 => ?_)
  refine ge_if_eq (t := 13) (n := 10) C dX10_bark_7 (by decide) rfl (fun h_7 => ?_) (fun h_7 => ?_)
  · refine ge_aload_n (n := 14) C 0 rfl dX10_bark_13 rfl rfl ?_
    refine gt_X10_19 (n := 17) C (by decide) dX10_bark_14 rfl ?_
    refine ge_callVi (n := 20) C (mX6_isNone hj (o0 := (pid (S_4 0 0 1))) (pid_lt _) S_4) gv_X10_213 (cl_3 (pid_lt _)) rfl rfl hc_X6_isNone ⟨Nat.le_of_ble_eq_true rfl, Nat.le_of_ble_eq_true rfl⟩ rfl rfl (Nat.le_of_ble_eq_true rfl) dX10_bark_17 rfl (fun r_17 S_17 => ?_)
    refine ge_if_eq (t := 26) (n := 23) C dX10_bark_20 (by decide) rfl (fun h_20 => ?_) (fun h_20 => ?_)
    · refine ge_aload_n (n := 27) C 0 rfl dX10_bark_26 rfl rfl ?_
      refine gt_X10_38 (n := 30) C (by decide) dX10_bark_27 rfl ?_
      refine ge_aload_n (n := 31) C 0 rfl dX10_bark_30 rfl rfl ?_
      refine gt_X10_31 (n := 34) C (by decide) dX10_bark_31 rfl ?_
      refine ge_callVv (n := 37) C (mX4_push hj S_17) gv_X10_194 (cl_14 (by decide)) rfl rfl hc_X4_push ⟨Nat.le_of_ble_eq_true rfl, Nat.le_of_ble_eq_true rfl⟩ rfl rfl (Nat.le_of_ble_eq_true rfl) dX10_bark_34 rfl (fun _ S_34 => ?_)
      refine ge_aload_n (n := 38) C 0 rfl dX10_bark_37 rfl rfl ?_
      refine gt_X10_31 (n := 41) C (by decide) dX10_bark_38 rfl ?_
      refine gt_X10_117 (n := 44) C (by decide) dX10_bark_41 rfl ?_
      refine ge_bi (fun x2_44 => ?_)
      refine ge_istore_n (n := 45) (lv2 := [(2, .int x2_44), (0, .ref (adr 0 0)), (1, .int a1)]) C dX10_bark_44 rfl rfl (by decide) rfl ?_
      refine ge_aload_n (n := 46) C 1 rfl dX10_bark_45 rfl rfl ?_
      refine gt_X10_31 (n := 49) C (by decide) dX10_bark_46 rfl ?_
      refine ge_iload_n (n := 50) C 2 rfl dX10_bark_49 rfl rfl ?_
      refine pt_X10_117 (n := 53) C (by decide) dX10_bark_50 rfl (fun S_50 => ?_)
      refine ge_iload_n (n := 54) C 0 rfl dX10_bark_53 rfl rfl ?_
      exact ge_iret C Rr dX10_bark_54
    · refine ge_ldc (n := 25) C kc_X10_201 dX10_bark_23 rfl ?_
      exact ge_iret C Rr dX10_bark_25
  · refine ge_ldc (n := 12) C kc_X10_81 dX10_bark_10 rfl ?_
    exact ge_iret C Rr dX10_bark_12
theorem dX10_drift_0 : decode cX10_drift 0 = .ok (.aload_n 0, 1) := by decide +kernel
theorem dX10_drift_1 : decode cX10_drift 1 = .ok (.iload_n 1, 1) := by decide +kernel
theorem dX10_drift_2 : decode cX10_drift 2 = .ok (.invokevirtual 191, 3) := by decide +kernel
theorem dX10_drift_5 : decode cX10_drift 5 = .ok (.istore_n 2, 1) := by decide +kernel
theorem dX10_drift_6 : decode cX10_drift 6 = .ok (.iload_n 2, 1) := by decide +kernel
theorem dX10_drift_7 : decode cX10_drift 7 = .ok (.ifCond .eq 5, 3) := by decide +kernel
theorem dX10_drift_10 : decode cX10_drift 10 = .ok (.iload_n 2, 1) := by decide +kernel
theorem dX10_drift_11 : decode cX10_drift 11 = .ok (.ireturn, 1) := by decide +kernel
theorem dX10_drift_12 : decode cX10_drift 12 = .ok (.aload_n 0, 1) := by decide +kernel
theorem dX10_drift_13 : decode cX10_drift 13 = .ok (.getfield 38, 3) := by decide +kernel
theorem dX10_drift_16 : decode cX10_drift 16 = .ok (.aload_n 0, 1) := by decide +kernel
theorem dX10_drift_17 : decode cX10_drift 17 = .ok (.getfield 31, 3) := by decide +kernel
theorem dX10_drift_20 : decode cX10_drift 20 = .ok (.invokevirtual 194, 3) := by decide +kernel
theorem dX10_drift_23 : decode cX10_drift 23 = .ok (.iconst 0, 1) := by decide +kernel
theorem dX10_drift_24 : decode cX10_drift 24 = .ok (.istore_n 3, 1) := by decide +kernel
theorem dX10_drift_25 : decode cX10_drift 25 = .ok (.iload_n 3, 1) := by decide +kernel
theorem dX10_drift_26 : decode cX10_drift 26 = .ok (.iload_n 1, 1) := by decide +kernel
theorem dX10_drift_27 : decode cX10_drift 27 = .ok (.if_icmp .ge 27, 3) := by decide +kernel
theorem dX10_drift_30 : decode cX10_drift 30 = .ok (.aload_n 0, 1) := by decide +kernel
theorem dX10_drift_31 : decode cX10_drift 31 = .ok (.getfield 31, 3) := by decide +kernel
theorem dX10_drift_34 : decode cX10_drift 34 = .ok (.aload_n 0, 1) := by decide +kernel
theorem dX10_drift_35 : decode cX10_drift 35 = .ok (.getfield 45, 3) := by decide +kernel
theorem dX10_drift_38 : decode cX10_drift 38 = .ok (.invokevirtual 217, 3) := by decide +kernel
theorem dX10_drift_41 : decode cX10_drift 41 = .ok (.aload_n 0, 1) := by decide +kernel
theorem dX10_drift_42 : decode cX10_drift 42 = .ok (.getfield 31, 3) := by decide +kernel
theorem dX10_drift_45 : decode cX10_drift 45 = .ok (.invokevirtual 198, 3) := by decide +kernel
theorem dX10_drift_48 : decode cX10_drift 48 = .ok (.iinc 3 1, 3) := by decide +kernel
theorem dX10_drift_51 : decode cX10_drift 51 = .ok (.goto (-26), 3) := by decide +kernel
theorem dX10_drift_54 : decode cX10_drift 54 = .ok (.aload_n 0, 1) := by decide +kernel
theorem dX10_drift_55 : decode cX10_drift 55 = .ok (.getfield 31, 3) := by decide +kernel
theorem dX10_drift_58 : decode cX10_drift 58 = .ok (.getfield 123, 3) := by decide +kernel
theorem dX10_drift_61 : decode cX10_drift 61 = .ok (.ireturn, 1) := by decide +kernel
set_option maxRecDepth 100000 in
set_option maxHeartbeats 4000000 in
theorem mX10_drift {w : WX} {adr : Nat → Nat → Nat} (hj : Ij adr) (a1 : Int32) (S : St) : ∀ (l : Launch) (r : Int32) (S2 : St), fX10_drift a1 S = some (r, S2) → Mi l w adr yX10_drift cX10_drift 4 (some .int) 5 109 [.ref (adr 0 0), .int a1] S r S2 := by
  refine mi_of (lv := [(0, .ref (adr 0 0)), (1, .int a1)]) hj (plainFor_of_name (by decide +kernel)) rfl (Nat.le_of_ble_eq_true rfl) (fun k C Rr => ?_)
  have C : Cx w adr k cX10_drift RX10 4 5 109 := C
  refine ge_aload_n (n := 1) C 0 rfl dX10_drift_0 rfl rfl ?_
  refine ge_iload_n (n := 2) C 1 rfl dX10_drift_1 rfl rfl ?_
  refine ge_callVi (n := 5) C (mX10_refusalOfMonths hj a1 S) gv_X10_191 (cl_0 (by decide)) rfl rfl hc_X10_refusalOfMonths ⟨Nat.le_of_ble_eq_true rfl, Nat.le_of_ble_eq_true rfl⟩ rfl rfl (Nat.le_of_ble_eq_true rfl) dX10_drift_2 rfl (fun r_2 S_2 => ?_)
  refine ge_istore_n (n := 6) (lv2 := [(2, .int r_2), (0, .ref (adr 0 0)), (1, .int a1)]) C dX10_drift_5 rfl rfl (by decide) rfl ?_
  refine ge_iload_n (n := 7) C 0 rfl dX10_drift_6 rfl rfl ?_
  refine ge_if_eq (t := 12) (n := 10) C dX10_drift_7 (by decide) rfl (fun h_7 => ?_) (fun h_7 => ?_)
  · refine ge_aload_n (n := 13) C 1 rfl dX10_drift_12 rfl rfl ?_
    refine gt_X10_38 (n := 16) C (by decide) dX10_drift_13 rfl ?_
    refine ge_aload_n (n := 17) C 1 rfl dX10_drift_16 rfl rfl ?_
    refine gt_X10_31 (n := 20) C (by decide) dX10_drift_17 rfl ?_
    refine ge_callVv (n := 23) C (mX4_push hj S_2) gv_X10_194 (cl_14 (by decide)) rfl rfl hc_X4_push ⟨Nat.le_of_ble_eq_true rfl, Nat.le_of_ble_eq_true rfl⟩ rfl rfl (Nat.le_of_ble_eq_true rfl) dX10_drift_20 rfl (fun _ S_20 => ?_)
    refine ge_iconst (v := 0) (n := 24) C dX10_drift_23 (by decide) rfl ?_
    refine ge_istore_n (n := 25) (lv2 := [(3, .int (0 : Int32)), (2, .int r_2), (0, .ref (adr 0 0)), (1, .int a1)]) C dX10_drift_24 rfl rfl (by decide) rfl ?_
    refine ge_jn (fun (jj : St → Op) => ∀ (S_54 : St), Ge w adr k 54 [(0, .ref (adr 0 0))] [] S_54 (jj S_54)) (fun S_54 => ?_) (fun kk25 hkk25 => ?_)
    · refine ge_aload_n (n := 55) C 0 rfl dX10_drift_54 rfl rfl ?_
      refine gt_X10_31 (n := 58) C (by decide) dX10_drift_55 rfl ?_
      refine gt_X10_123 (n := 61) C (by decide) dX10_drift_58 rfl ?_
      exact ge_iret C Rr dX10_drift_61
    refine ge_sub [0, 2, 3] rfl ?_
    refine ge_lop (fun (jj : Int32 → St → Op) => ∀ (x3_25 : Int32) (S_25 : St), Ge w adr k 25 [(3, .int x3_25), (0, .ref (adr 0 0)), (1, .int a1)] [] S_25 (jj x3_25 S_25)) (fun _ _ => ge_none) (fun ag25 hag25 x3_25 S_25 => ?_) FU (0 : Int32) S_20
    refine ge_iload_n (n := 26) C 0 rfl dX10_drift_25 rfl rfl ?_
    refine ge_iload_n (n := 27) C 2 rfl dX10_drift_26 rfl rfl ?_
    refine ge_icmp_ge (t := 54) (n := 30) C dX10_drift_27 (by decide) rfl (fun h_27 => ?_) (fun h_27 => ?_)
    · refine ge_sub [1] rfl ?_
      exact hkk25 S_25
    · refine ge_aload_n (n := 31) C 1 rfl dX10_drift_30 rfl rfl ?_
      refine gt_X10_31 (n := 34) C (by decide) dX10_drift_31 rfl ?_
      refine ge_aload_n (n := 35) C 1 rfl dX10_drift_34 rfl rfl ?_
      refine gt_X10_45 (n := 38) C (by decide) dX10_drift_35 rfl ?_
      refine ge_callVv (n := 41) C (mX7_stir hj S_25) gv_X10_217 (cl_9 (by decide)) rfl rfl hc_X7_stir ⟨Nat.le_of_ble_eq_true rfl, Nat.le_of_ble_eq_true rfl⟩ rfl rfl (Nat.le_of_ble_eq_true rfl) dX10_drift_38 rfl (fun _ S_38 => ?_)
      refine ge_aload_n (n := 42) C 1 rfl dX10_drift_41 rfl rfl ?_
      refine gt_X10_31 (n := 45) C (by decide) dX10_drift_42 rfl ?_
      refine ge_callVv (n := 48) C (mX7_passMonth hj S_38) gv_X10_198 (cl_9 (by decide)) rfl rfl hc_X7_passMonth ⟨Nat.le_of_ble_eq_true rfl, Nat.le_of_ble_eq_true rfl⟩ rfl rfl (Nat.le_of_ble_eq_true rfl) dX10_drift_45 rfl (fun _ S_45 => ?_)
      refine ge_iinc (n := 51) (v := (x3_25 + (1 : Int32))) (lv2 := [(3, .int (x3_25 + (1 : Int32))), (0, .ref (adr 0 0)), (1, .int a1)]) C 0 rfl dX10_drift_48 rfl rfl (by decide) rfl ?_
      refine ge_goto (n := 25) C dX10_drift_51 (by decide) ?_
      exact hag25 (x3_25 + (1 : Int32)) S_45
  · refine ge_iload_n (n := 11) C 0 rfl dX10_drift_10 rfl rfl ?_
    exact ge_iret C Rr dX10_drift_11
theorem dX10_undo_0 : decode cX10_undo 0 = .ok (.aload_n 0, 1) := by decide +kernel
theorem dX10_undo_1 : decode cX10_undo 1 = .ok (.getfield 38, 3) := by decide +kernel
theorem dX10_undo_4 : decode cX10_undo 4 = .ok (.getfield 100, 3) := by decide +kernel
theorem dX10_undo_7 : decode cX10_undo 7 = .ok (.ifCond .gt 6, 3) := by decide +kernel
theorem dX10_undo_10 : decode cX10_undo 10 = .ok (.ldc 201, 2) := by decide +kernel
theorem dX10_undo_12 : decode cX10_undo 12 = .ok (.ireturn, 1) := by decide +kernel
theorem dX10_undo_13 : decode cX10_undo 13 = .ok (.aload_n 0, 1) := by decide +kernel
theorem dX10_undo_14 : decode cX10_undo 14 = .ok (.getfield 38, 3) := by decide +kernel
theorem dX10_undo_17 : decode cX10_undo 17 = .ok (.aload_n 0, 1) := by decide +kernel
theorem dX10_undo_18 : decode cX10_undo 18 = .ok (.getfield 31, 3) := by decide +kernel
theorem dX10_undo_21 : decode cX10_undo 21 = .ok (.invokevirtual 221, 3) := by decide +kernel
theorem dX10_undo_24 : decode cX10_undo 24 = .ok (.aload_n 0, 1) := by decide +kernel
theorem dX10_undo_25 : decode cX10_undo 25 = .ok (.getfield 38, 3) := by decide +kernel
theorem dX10_undo_28 : decode cX10_undo 28 = .ok (.getfield 100, 3) := by decide +kernel
theorem dX10_undo_31 : decode cX10_undo 31 = .ok (.ireturn, 1) := by decide +kernel
set_option maxRecDepth 100000 in
set_option maxHeartbeats 4000000 in
theorem mX10_undo {w : WX} {adr : Nat → Nat → Nat} (hj : Ij adr)  (S : St) : ∀ (l : Launch) (r : Int32) (S2 : St), fX10_undo S = some (r, S2) → Mi l w adr yX10_undo cX10_undo 1 (some .int) 3 66 [.ref (adr 0 0)] S r S2 := by
  refine mi_of (lv := [(0, .ref (adr 0 0))]) hj (plainFor_of_name (by decide +kernel)) rfl (Nat.le_of_ble_eq_true rfl) (fun k C Rr => ?_)
  have C : Cx w adr k cX10_undo RX10 1 3 66 := C
  refine ge_aload_n (n := 1) C 0 rfl dX10_undo_0 rfl rfl ?_
  refine gt_X10_38 (n := 4) C (by decide) dX10_undo_1 rfl ?_
  refine gt_X10_100 (n := 7) C (by decide) dX10_undo_4 rfl ?_
  refine ge_if_gt (t := 13) (n := 10) C dX10_undo_7 (by decide) rfl (fun h_7 => ?_) (fun h_7 => ?_)
  · refine ge_aload_n (n := 14) C 0 rfl dX10_undo_13 rfl rfl ?_
    refine gt_X10_38 (n := 17) C (by decide) dX10_undo_14 rfl ?_
    refine ge_aload_n (n := 18) C 0 rfl dX10_undo_17 rfl rfl ?_
    refine gt_X10_31 (n := 21) C (by decide) dX10_undo_18 rfl ?_
    refine ge_callVv (n := 24) C (mX4_pop hj S) gv_X10_221 (cl_14 (by decide)) rfl rfl hc_X4_pop ⟨Nat.le_of_ble_eq_true rfl, Nat.le_of_ble_eq_true rfl⟩ rfl rfl (Nat.le_of_ble_eq_true rfl) dX10_undo_21 rfl (fun _ S_21 => ?_)
    refine ge_aload_n (n := 25) C 0 rfl dX10_undo_24 rfl rfl ?_
    refine gt_X10_38 (n := 28) C (by decide) dX10_undo_25 rfl ?_
    refine gt_X10_100 (n := 31) C (by decide) dX10_undo_28 rfl ?_
    exact ge_iret C Rr dX10_undo_31
  · refine ge_ldc (n := 12) C kc_X10_201 dX10_undo_10 rfl ?_
    exact ge_iret C Rr dX10_undo_12
theorem dX10_thick_0 : decode cX10_thick 0 = .ok (.aload_n 0, 1) := by decide +kernel
theorem dX10_thick_1 : decode cX10_thick 1 = .ok (.getfield 19, 3) := by decide +kernel
theorem dX10_thick_4 : decode cX10_thick 4 = .ok (.iload_n 1, 1) := by decide +kernel
theorem dX10_thick_5 : decode cX10_thick 5 = .ok (.invokevirtual 145, 3) := by decide +kernel
theorem dX10_thick_8 : decode cX10_thick 8 = .ok (.ifCond .ne 6, 3) := by decide +kernel
theorem dX10_thick_11 : decode cX10_thick 11 = .ok (.ldc 149, 2) := by decide +kernel
theorem dX10_thick_13 : decode cX10_thick 13 = .ok (.ireturn, 1) := by decide +kernel
theorem dX10_thick_14 : decode cX10_thick 14 = .ok (.iload_n 2, 1) := by decide +kernel
theorem dX10_thick_15 : decode cX10_thick 15 = .ok (.iconst 0, 1) := by decide +kernel
theorem dX10_thick_16 : decode cX10_thick 16 = .ok (.iconst 4, 1) := by decide +kernel
theorem dX10_thick_17 : decode cX10_thick 17 = .ok (.invokestatic 77, 3) := by decide +kernel
theorem dX10_thick_20 : decode cX10_thick 20 = .ok (.ifCond .ne 14, 3) := by decide +kernel
theorem dX10_thick_23 : decode cX10_thick 23 = .ok (.iload_n 3, 1) := by decide +kernel
theorem dX10_thick_24 : decode cX10_thick 24 = .ok (.iconst 0, 1) := by decide +kernel
theorem dX10_thick_25 : decode cX10_thick 25 = .ok (.sipush 200, 3) := by decide +kernel
theorem dX10_thick_28 : decode cX10_thick 28 = .ok (.invokestatic 77, 3) := by decide +kernel
theorem dX10_thick_31 : decode cX10_thick 31 = .ok (.ifCond .eq 6, 3) := by decide +kernel
theorem dX10_thick_34 : decode cX10_thick 34 = .ok (.ldc 81, 2) := by decide +kernel
theorem dX10_thick_36 : decode cX10_thick 36 = .ok (.ireturn, 1) := by decide +kernel
theorem dX10_thick_37 : decode cX10_thick 37 = .ok (.aload_n 0, 1) := by decide +kernel
theorem dX10_thick_38 : decode cX10_thick 38 = .ok (.getfield 66, 3) := by decide +kernel
theorem dX10_thick_41 : decode cX10_thick 41 = .ok (.aload_n 0, 1) := by decide +kernel
theorem dX10_thick_42 : decode cX10_thick 42 = .ok (.getfield 31, 3) := by decide +kernel
theorem dX10_thick_45 : decode cX10_thick 45 = .ok (.iload_n 1, 1) := by decide +kernel
theorem dX10_thick_46 : decode cX10_thick 46 = .ok (.invokevirtual 224, 3) := by decide +kernel
theorem dX10_thick_49 : decode cX10_thick 49 = .ok (.iconst 0, 1) := by decide +kernel
theorem dX10_thick_50 : decode cX10_thick 50 = .ok (.istore 4, 2) := by decide +kernel
theorem dX10_thick_52 : decode cX10_thick 52 = .ok (.iload 4, 2) := by decide +kernel
theorem dX10_thick_54 : decode cX10_thick 54 = .ok (.iload_n 3, 1) := by decide +kernel
theorem dX10_thick_55 : decode cX10_thick 55 = .ok (.if_icmp .ge 16, 3) := by decide +kernel
theorem dX10_thick_58 : decode cX10_thick 58 = .ok (.aload_n 0, 1) := by decide +kernel
theorem dX10_thick_59 : decode cX10_thick 59 = .ok (.getfield 66, 3) := by decide +kernel
theorem dX10_thick_62 : decode cX10_thick 62 = .ok (.invokevirtual 228, 3) := by decide +kernel
theorem dX10_thick_65 : decode cX10_thick 65 = .ok (.iinc 4 1, 3) := by decide +kernel
theorem dX10_thick_68 : decode cX10_thick 68 = .ok (.goto (-16), 3) := by decide +kernel
theorem dX10_thick_71 : decode cX10_thick 71 = .ok (.aload_n 0, 1) := by decide +kernel
theorem dX10_thick_72 : decode cX10_thick 72 = .ok (.getfield 66, 3) := by decide +kernel
theorem dX10_thick_75 : decode cX10_thick 75 = .ok (.getfield 229, 3) := by decide +kernel
theorem dX10_thick_78 : decode cX10_thick 78 = .ok (.getfield 175, 3) := by decide +kernel
theorem dX10_thick_81 : decode cX10_thick 81 = .ok (.iload_n 2, 1) := by decide +kernel
theorem dX10_thick_82 : decode cX10_thick 82 = .ok (.iaload, 1) := by decide +kernel
theorem dX10_thick_83 : decode cX10_thick 83 = .ok (.ireturn, 1) := by decide +kernel
set_option maxRecDepth 100000 in
set_option maxHeartbeats 4000000 in
theorem mX10_thick {w : WX} {adr : Nat → Nat → Nat} (hj : Ij adr) (a1 : Int32) (a2 : Int32) (a3 : Int32) (S : St) : ∀ (l : Launch) (r : Int32) (S2 : St), fX10_thick a1 a2 a3 S = some (r, S2) → Mi l w adr yX10_thick cX10_thick 5 (some .int) 5 108 [.ref (adr 0 0), .int a1, .int a2, .int a3] S r S2 := by
  refine mi_of (lv := [(0, .ref (adr 0 0)), (1, .int a1), (2, .int a2), (3, .int a3)]) hj (plainFor_of_name (by decide +kernel)) rfl (Nat.le_of_ble_eq_true rfl) (fun k C Rr => ?_)
  have C : Cx w adr k cX10_thick RX10 5 5 108 := C
  refine ge_aload_n (n := 1) C 0 rfl dX10_thick_0 rfl rfl ?_
  refine gt_X10_19 (n := 4) C (by decide) dX10_thick_1 rfl ?_
  refine ge_iload_n (n := 5) C 1 rfl dX10_thick_4 rfl rfl ?_
  refine ge_callVi (n := 8) C (mX6_hasMan hj (o0 := (pid (S 0 0 1))) (pid_lt _) a1 S) gv_X10_145 (cl_3 (pid_lt _)) rfl rfl hc_X6_hasMan ⟨Nat.le_of_ble_eq_true rfl, Nat.le_of_ble_eq_true rfl⟩ rfl rfl (Nat.le_of_ble_eq_true rfl) dX10_thick_5 rfl (fun r_5 S_5 => ?_)
  refine ge_if_ne (t := 14) (n := 11) C dX10_thick_8 (by decide) rfl (fun h_8 => ?_) (fun h_8 => ?_)
  · refine ge_iload_n (n := 15) C 2 rfl dX10_thick_14 rfl rfl ?_
    refine ge_iconst (v := 0) (n := 16) C dX10_thick_15 (by decide) rfl ?_
    refine ge_iconst (v := 4) (n := 17) C dX10_thick_16 (by decide) rfl ?_
    refine ge_callSi (n := 20) C (mX10_isOutside hj a2 (0 : Int32) (4 : Int32) S_5) gv_X10_77 hc_X10_isOutside ⟨Nat.le_of_ble_eq_true rfl, Nat.le_of_ble_eq_true rfl⟩ rfl rfl (Nat.le_of_ble_eq_true rfl) dX10_thick_17 rfl (fun r_17 S_17 => ?_)
    refine ge_if_ne (t := 34) (n := 23) C dX10_thick_20 (by decide) rfl (fun h_20 => ?_) (fun h_20 => ?_)
    · refine ge_ldc (n := 36) C kc_X10_81 dX10_thick_34 rfl ?_
      exact ge_iret C Rr dX10_thick_36
    · refine ge_iload_n (n := 24) C 3 rfl dX10_thick_23 rfl rfl ?_
      refine ge_iconst (v := 0) (n := 25) C dX10_thick_24 (by decide) rfl ?_
      refine ge_sipush (v := 200) (n := 28) C dX10_thick_25 (by decide) rfl ?_
      refine ge_callSi (n := 31) C (mX10_isOutside hj a3 (0 : Int32) (200 : Int32) S_17) gv_X10_77 hc_X10_isOutside ⟨Nat.le_of_ble_eq_true rfl, Nat.le_of_ble_eq_true rfl⟩ rfl rfl (Nat.le_of_ble_eq_true rfl) dX10_thick_28 rfl (fun r_28 S_28 => ?_)
      refine ge_if_eq (t := 37) (n := 34) C dX10_thick_31 (by decide) rfl (fun h_31 => ?_) (fun h_31 => ?_)
      · refine ge_aload_n (n := 38) C 0 rfl dX10_thick_37 rfl rfl ?_
        refine gt_X10_66 (n := 41) C (by decide) dX10_thick_38 rfl ?_
        refine ge_aload_n (n := 42) C 0 rfl dX10_thick_41 rfl rfl ?_
        refine gt_X10_31 (n := 45) C (by decide) dX10_thick_42 rfl ?_
        refine ge_iload_n (n := 46) C 1 rfl dX10_thick_45 rfl rfl ?_
        refine ge_callVv (n := 49) C (mX9_startNow hj a1 S_28) gv_X10_224 (cl_30 (by decide)) rfl rfl hc_X9_startNow ⟨Nat.le_of_ble_eq_true rfl, Nat.le_of_ble_eq_true rfl⟩ rfl rfl (Nat.le_of_ble_eq_true rfl) dX10_thick_46 rfl (fun _ S_46 => ?_)
        refine ge_iconst (v := 0) (n := 50) C dX10_thick_49 (by decide) rfl ?_
        refine ge_istore (n := 52) (lv2 := [(4, .int (0 : Int32)), (0, .ref (adr 0 0)), (1, .int a1), (2, .int a2), (3, .int a3)]) C dX10_thick_50 rfl (by decide) rfl ?_
        refine ge_jn (fun (jj : St → Op) => ∀ (S_71 : St), Ge w adr k 71 [(0, .ref (adr 0 0)), (2, .int a2)] [] S_71 (jj S_71)) (fun S_71 => ?_) (fun kk52 hkk52 => ?_)
        · refine ge_aload_n (n := 72) C 0 rfl dX10_thick_71 rfl rfl ?_
          refine gt_X10_66 (n := 75) C (by decide) dX10_thick_72 rfl ?_
          refine gt_X10_229 (n := 78) C (by decide) dX10_thick_75 rfl ?_
          refine gt_X10_175 (n := 81) C (by decide) dX10_thick_78 rfl ?_
          refine ge_iload_n (n := 82) C 1 rfl dX10_thick_81 rfl rfl ?_
          refine al_13 (n := 83) C (by decide) dX10_thick_82 rfl ?_
          exact ge_iret C Rr dX10_thick_83
        refine ge_sub [0, 1, 3, 4] rfl ?_
        refine ge_lop (fun (jj : Int32 → St → Op) => ∀ (x4_52 : Int32) (S_52 : St), Ge w adr k 52 [(4, .int x4_52), (0, .ref (adr 0 0)), (2, .int a2), (3, .int a3)] [] S_52 (jj x4_52 S_52)) (fun _ _ => ge_none) (fun ag52 hag52 x4_52 S_52 => ?_) FU (0 : Int32) S_46
        refine ge_iload (n := 54) C 0 rfl dX10_thick_52 rfl ?_
        refine ge_iload_n (n := 55) C 3 rfl dX10_thick_54 rfl rfl ?_
        refine ge_icmp_ge (t := 71) (n := 58) C dX10_thick_55 (by decide) rfl (fun h_55 => ?_) (fun h_55 => ?_)
        · refine ge_sub [1, 2] rfl ?_
          exact hkk52 S_52
        · refine ge_aload_n (n := 59) C 1 rfl dX10_thick_58 rfl rfl ?_
          refine gt_X10_66 (n := 62) C (by decide) dX10_thick_59 rfl ?_
          refine ge_callVv (n := 65) C (mX9_passMonth hj S_52) gv_X10_228 (cl_30 (by decide)) rfl rfl hc_X9_passMonth ⟨Nat.le_of_ble_eq_true rfl, Nat.le_of_ble_eq_true rfl⟩ rfl rfl (Nat.le_of_ble_eq_true rfl) dX10_thick_62 rfl (fun _ S_62 => ?_)
          refine ge_iinc (n := 68) (v := (x4_52 + (1 : Int32))) (lv2 := [(4, .int (x4_52 + (1 : Int32))), (0, .ref (adr 0 0)), (2, .int a2), (3, .int a3)]) C 0 rfl dX10_thick_65 rfl rfl (by decide) rfl ?_
          refine ge_goto (n := 52) C dX10_thick_68 (by decide) ?_
          exact hag52 (x4_52 + (1 : Int32)) S_62
      · refine ge_ldc (n := 36) C kc_X10_81 dX10_thick_34 rfl ?_
        exact ge_iret C Rr dX10_thick_36
  · refine ge_ldc (n := 13) C kc_X10_149 dX10_thick_11 rfl ?_
    exact ge_iret C Rr dX10_thick_13
theorem dX10_when_0 : decode cX10_when 0 = .ok (.aload_n 0, 1) := by decide +kernel
theorem dX10_when_1 : decode cX10_when 1 = .ok (.getfield 19, 3) := by decide +kernel
theorem dX10_when_4 : decode cX10_when 4 = .ok (.iload_n 1, 1) := by decide +kernel
theorem dX10_when_5 : decode cX10_when 5 = .ok (.invokevirtual 145, 3) := by decide +kernel
theorem dX10_when_8 : decode cX10_when 8 = .ok (.ifCond .eq 14, 3) := by decide +kernel
theorem dX10_when_11 : decode cX10_when 11 = .ok (.aload_n 0, 1) := by decide +kernel
theorem dX10_when_12 : decode cX10_when 12 = .ok (.getfield 19, 3) := by decide +kernel
theorem dX10_when_15 : decode cX10_when 15 = .ok (.iload_n 2, 1) := by decide +kernel
theorem dX10_when_16 : decode cX10_when 16 = .ok (.invokevirtual 178, 3) := by decide +kernel
theorem dX10_when_19 : decode cX10_when 19 = .ok (.ifCond .ne 6, 3) := by decide +kernel
theorem dX10_when_22 : decode cX10_when 22 = .ok (.ldc 149, 2) := by decide +kernel
theorem dX10_when_24 : decode cX10_when 24 = .ok (.ireturn, 1) := by decide +kernel
theorem dX10_when_25 : decode cX10_when 25 = .ok (.iload_n 3, 1) := by decide +kernel
theorem dX10_when_26 : decode cX10_when 26 = .ok (.iconst 0, 1) := by decide +kernel
theorem dX10_when_27 : decode cX10_when 27 = .ok (.iconst 1, 1) := by decide +kernel
theorem dX10_when_28 : decode cX10_when 28 = .ok (.invokestatic 77, 3) := by decide +kernel
theorem dX10_when_31 : decode cX10_when 31 = .ok (.ifCond .eq 6, 3) := by decide +kernel
theorem dX10_when_34 : decode cX10_when 34 = .ok (.ldc 81, 2) := by decide +kernel
theorem dX10_when_36 : decode cX10_when 36 = .ok (.ireturn, 1) := by decide +kernel
theorem dX10_when_37 : decode cX10_when 37 = .ok (.aload_n 0, 1) := by decide +kernel
theorem dX10_when_38 : decode cX10_when 38 = .ok (.getfield 66, 3) := by decide +kernel
theorem dX10_when_41 : decode cX10_when 41 = .ok (.aload_n 0, 1) := by decide +kernel
theorem dX10_when_42 : decode cX10_when 42 = .ok (.getfield 31, 3) := by decide +kernel
theorem dX10_when_45 : decode cX10_when 45 = .ok (.iload_n 1, 1) := by decide +kernel
theorem dX10_when_46 : decode cX10_when 46 = .ok (.invokevirtual 224, 3) := by decide +kernel
theorem dX10_when_49 : decode cX10_when 49 = .ok (.iload_n 3, 1) := by decide +kernel
theorem dX10_when_50 : decode cX10_when 50 = .ok (.ifCond .ne 20, 3) := by decide +kernel
theorem dX10_when_53 : decode cX10_when 53 = .ok (.aload_n 0, 1) := by decide +kernel
theorem dX10_when_54 : decode cX10_when 54 = .ok (.getfield 66, 3) := by decide +kernel
theorem dX10_when_57 : decode cX10_when 57 = .ok (.aload_n 0, 1) := by decide +kernel
theorem dX10_when_58 : decode cX10_when 58 = .ok (.getfield 19, 3) := by decide +kernel
theorem dX10_when_61 : decode cX10_when 61 = .ok (.iconst 1, 1) := by decide +kernel
theorem dX10_when_62 : decode cX10_when 62 = .ok (.iload_n 2, 1) := by decide +kernel
theorem dX10_when_63 : decode cX10_when 63 = .ok (.ishl, 1) := by decide +kernel
theorem dX10_when_64 : decode cX10_when 64 = .ok (.invokevirtual 233, 3) := by decide +kernel
theorem dX10_when_67 : decode cX10_when 67 = .ok (.goto 15, 3) := by decide +kernel
theorem dX10_when_70 : decode cX10_when 70 = .ok (.aload_n 0, 1) := by decide +kernel
theorem dX10_when_71 : decode cX10_when 71 = .ok (.getfield 66, 3) := by decide +kernel
theorem dX10_when_74 : decode cX10_when 74 = .ok (.aload_n 0, 1) := by decide +kernel
theorem dX10_when_75 : decode cX10_when 75 = .ok (.getfield 19, 3) := by decide +kernel
theorem dX10_when_78 : decode cX10_when 78 = .ok (.iload_n 2, 1) := by decide +kernel
theorem dX10_when_79 : decode cX10_when 79 = .ok (.invokevirtual 237, 3) := by decide +kernel
theorem dX10_when_82 : decode cX10_when 82 = .ok (.ireturn, 1) := by decide +kernel
set_option maxRecDepth 100000 in
set_option maxHeartbeats 4000000 in
theorem mX10_when {w : WX} {adr : Nat → Nat → Nat} (hj : Ij adr) (a1 : Int32) (a2 : Int32) (a3 : Int32) (S : St) : ∀ (l : Launch) (r : Int32) (S2 : St), fX10_when a1 a2 a3 S = some (r, S2) → Mi l w adr yX10_when cX10_when 4 (some .int) 6 132 [.ref (adr 0 0), .int a1, .int a2, .int a3] S r S2 := by
  refine mi_of (lv := [(0, .ref (adr 0 0)), (1, .int a1), (2, .int a2), (3, .int a3)]) hj (plainFor_of_name (by decide +kernel)) rfl (Nat.le_of_ble_eq_true rfl) (fun k C Rr => ?_)
  have C : Cx w adr k cX10_when RX10 4 6 132 := C
  refine ge_aload_n (n := 1) C 0 rfl dX10_when_0 rfl rfl ?_
  refine gt_X10_19 (n := 4) C (by decide) dX10_when_1 rfl ?_
  refine ge_iload_n (n := 5) C 1 rfl dX10_when_4 rfl rfl ?_
  refine ge_callVi (n := 8) C (mX6_hasMan hj (o0 := (pid (S 0 0 1))) (pid_lt _) a1 S) gv_X10_145 (cl_3 (pid_lt _)) rfl rfl hc_X6_hasMan ⟨Nat.le_of_ble_eq_true rfl, Nat.le_of_ble_eq_true rfl⟩ rfl rfl (Nat.le_of_ble_eq_true rfl) dX10_when_5 rfl (fun r_5 S_5 => ?_)
  refine ge_if_eq (t := 22) (n := 11) C dX10_when_8 (by decide) rfl (fun h_8 => ?_) (fun h_8 => ?_)
  · refine ge_ldc (n := 24) C kc_X10_149 dX10_when_22 rfl ?_
    exact ge_iret C Rr dX10_when_24
  · refine ge_aload_n (n := 12) C 0 rfl dX10_when_11 rfl rfl ?_
    refine gt_X10_19 (n := 15) C (by decide) dX10_when_12 rfl ?_
    refine ge_iload_n (n := 16) C 2 rfl dX10_when_15 rfl rfl ?_
    refine ge_callVi (n := 19) C (mX6_hasSaying hj (o0 := (pid (S_5 0 0 1))) (pid_lt _) a2 S_5) gv_X10_178 (cl_3 (pid_lt _)) rfl rfl hc_X6_hasSaying ⟨Nat.le_of_ble_eq_true rfl, Nat.le_of_ble_eq_true rfl⟩ rfl rfl (Nat.le_of_ble_eq_true rfl) dX10_when_16 rfl (fun r_16 S_16 => ?_)
    refine ge_if_ne (t := 25) (n := 22) C dX10_when_19 (by decide) rfl (fun h_19 => ?_) (fun h_19 => ?_)
    · refine ge_iload_n (n := 26) C 3 rfl dX10_when_25 rfl rfl ?_
      refine ge_iconst (v := 0) (n := 27) C dX10_when_26 (by decide) rfl ?_
      refine ge_iconst (v := 1) (n := 28) C dX10_when_27 (by decide) rfl ?_
      refine ge_callSi (n := 31) C (mX10_isOutside hj a3 (0 : Int32) (1 : Int32) S_16) gv_X10_77 hc_X10_isOutside ⟨Nat.le_of_ble_eq_true rfl, Nat.le_of_ble_eq_true rfl⟩ rfl rfl (Nat.le_of_ble_eq_true rfl) dX10_when_28 rfl (fun r_28 S_28 => ?_)
      refine ge_if_eq (t := 37) (n := 34) C dX10_when_31 (by decide) rfl (fun h_31 => ?_) (fun h_31 => ?_)
      · refine ge_aload_n (n := 38) C 0 rfl dX10_when_37 rfl rfl ?_
        refine gt_X10_66 (n := 41) C (by decide) dX10_when_38 rfl ?_
        refine ge_aload_n (n := 42) C 0 rfl dX10_when_41 rfl rfl ?_
        refine gt_X10_31 (n := 45) C (by decide) dX10_when_42 rfl ?_
        refine ge_iload_n (n := 46) C 1 rfl dX10_when_45 rfl rfl ?_
        refine ge_callVv (n := 49) C (mX9_startNow hj a1 S_28) gv_X10_224 (cl_30 (by decide)) rfl rfl hc_X9_startNow ⟨Nat.le_of_ble_eq_true rfl, Nat.le_of_ble_eq_true rfl⟩ rfl rfl (Nat.le_of_ble_eq_true rfl) dX10_when_46 rfl (fun _ S_46 => ?_)
        refine ge_iload_n (n := 50) C 3 rfl dX10_when_49 rfl rfl ?_
        refine ge_if_ne (t := 70) (n := 53) C dX10_when_50 (by decide) rfl (fun h_50 => ?_) (fun h_50 => ?_)
        · refine ge_aload_n (n := 71) C 0 rfl dX10_when_70 rfl rfl ?_
          refine gt_X10_66 (n := 74) C (by decide) dX10_when_71 rfl ?_
          refine ge_aload_n (n := 75) C 0 rfl dX10_when_74 rfl rfl ?_
          refine gt_X10_19 (n := 78) C (by decide) dX10_when_75 rfl ?_
          refine ge_iload_n (n := 79) C 2 rfl dX10_when_78 rfl rfl ?_
          refine ge_callVi (n := 82) C (mX9_lastFeeling hj (o1 := (pid (S_46 0 0 1))) (pid_lt _) a2 S_46) gv_X10_237 (cl_30 (by decide)) rfl rfl hc_X9_lastFeeling ⟨Nat.le_of_ble_eq_true rfl, Nat.le_of_ble_eq_true rfl⟩ rfl rfl (Nat.le_of_ble_eq_true rfl) dX10_when_79 rfl (fun r_79 S_79 => ?_)
          exact ge_iret C Rr dX10_when_82
        · refine ge_aload_n (n := 54) C 0 rfl dX10_when_53 rfl rfl ?_
          refine gt_X10_66 (n := 57) C (by decide) dX10_when_54 rfl ?_
          refine ge_aload_n (n := 58) C 0 rfl dX10_when_57 rfl rfl ?_
          refine gt_X10_19 (n := 61) C (by decide) dX10_when_58 rfl ?_
          refine ge_iconst (v := 1) (n := 62) C dX10_when_61 (by decide) rfl ?_
          refine ge_iload_n (n := 63) C 2 rfl dX10_when_62 rfl rfl ?_
          refine ge_ishl (n := 64) C dX10_when_63 rfl ?_
          refine ge_callVi (n := 67) C (mX9_firstBearing hj (o1 := (pid (S_46 0 0 1))) (pid_lt _) ((1 : Int32) <<< (a2 &&& (31 : Int32))) S_46) gv_X10_233 (cl_30 (by decide)) rfl rfl hc_X9_firstBearing ⟨Nat.le_of_ble_eq_true rfl, Nat.le_of_ble_eq_true rfl⟩ rfl rfl (Nat.le_of_ble_eq_true rfl) dX10_when_64 rfl (fun r_64 S_64 => ?_)
          refine ge_goto (n := 82) C dX10_when_67 (by decide) ?_
          exact ge_iret C Rr dX10_when_82
      · refine ge_ldc (n := 36) C kc_X10_81 dX10_when_34 rfl ?_
        exact ge_iret C Rr dX10_when_36
    · refine ge_ldc (n := 24) C kc_X10_149 dX10_when_22 rfl ?_
      exact ge_iret C Rr dX10_when_24
theorem dX10_edge_0 : decode cX10_edge 0 = .ok (.aload_n 0, 1) := by decide +kernel
theorem dX10_edge_1 : decode cX10_edge 1 = .ok (.getfield 19, 3) := by decide +kernel
theorem dX10_edge_4 : decode cX10_edge 4 = .ok (.iload_n 1, 1) := by decide +kernel
theorem dX10_edge_5 : decode cX10_edge 5 = .ok (.invokevirtual 145, 3) := by decide +kernel
theorem dX10_edge_8 : decode cX10_edge 8 = .ok (.ifCond .eq 25, 3) := by decide +kernel
theorem dX10_edge_11 : decode cX10_edge 11 = .ok (.aload_n 0, 1) := by decide +kernel
theorem dX10_edge_12 : decode cX10_edge 12 = .ok (.getfield 19, 3) := by decide +kernel
theorem dX10_edge_15 : decode cX10_edge 15 = .ok (.iload_n 2, 1) := by decide +kernel
theorem dX10_edge_16 : decode cX10_edge 16 = .ok (.invokevirtual 240, 3) := by decide +kernel
theorem dX10_edge_19 : decode cX10_edge 19 = .ok (.ifCond .eq 14, 3) := by decide +kernel
theorem dX10_edge_22 : decode cX10_edge 22 = .ok (.aload_n 0, 1) := by decide +kernel
theorem dX10_edge_23 : decode cX10_edge 23 = .ok (.getfield 19, 3) := by decide +kernel
theorem dX10_edge_26 : decode cX10_edge 26 = .ok (.iload_n 3, 1) := by decide +kernel
theorem dX10_edge_27 : decode cX10_edge 27 = .ok (.invokevirtual 240, 3) := by decide +kernel
theorem dX10_edge_30 : decode cX10_edge 30 = .ok (.ifCond .ne 6, 3) := by decide +kernel
theorem dX10_edge_33 : decode cX10_edge 33 = .ok (.ldc 149, 2) := by decide +kernel
theorem dX10_edge_35 : decode cX10_edge 35 = .ok (.ireturn, 1) := by decide +kernel
theorem dX10_edge_36 : decode cX10_edge 36 = .ok (.iload 4, 2) := by decide +kernel
theorem dX10_edge_38 : decode cX10_edge 38 = .ok (.iconst 0, 1) := by decide +kernel
theorem dX10_edge_39 : decode cX10_edge 39 = .ok (.iconst 2, 1) := by decide +kernel
theorem dX10_edge_40 : decode cX10_edge 40 = .ok (.invokestatic 77, 3) := by decide +kernel
theorem dX10_edge_43 : decode cX10_edge 43 = .ok (.ifCond .eq 6, 3) := by decide +kernel
theorem dX10_edge_46 : decode cX10_edge 46 = .ok (.ldc 81, 2) := by decide +kernel
theorem dX10_edge_48 : decode cX10_edge 48 = .ok (.ireturn, 1) := by decide +kernel
theorem dX10_edge_49 : decode cX10_edge 49 = .ok (.aload_n 0, 1) := by decide +kernel
theorem dX10_edge_50 : decode cX10_edge 50 = .ok (.getfield 66, 3) := by decide +kernel
theorem dX10_edge_53 : decode cX10_edge 53 = .ok (.aload_n 0, 1) := by decide +kernel
theorem dX10_edge_54 : decode cX10_edge 54 = .ok (.getfield 31, 3) := by decide +kernel
theorem dX10_edge_57 : decode cX10_edge 57 = .ok (.iload_n 1, 1) := by decide +kernel
theorem dX10_edge_58 : decode cX10_edge 58 = .ok (.invokevirtual 224, 3) := by decide +kernel
theorem dX10_edge_61 : decode cX10_edge 61 = .ok (.iconst 0, 1) := by decide +kernel
theorem dX10_edge_62 : decode cX10_edge 62 = .ok (.istore 5, 2) := by decide +kernel
theorem dX10_edge_64 : decode cX10_edge 64 = .ok (.iload 5, 2) := by decide +kernel
theorem dX10_edge_66 : decode cX10_edge 66 = .ok (.sipush 200, 3) := by decide +kernel
theorem dX10_edge_69 : decode cX10_edge 69 = .ok (.if_icmp .gt 61, 3) := by decide +kernel
theorem dX10_edge_72 : decode cX10_edge 72 = .ok (.aload_n 0, 1) := by decide +kernel
theorem dX10_edge_73 : decode cX10_edge 73 = .ok (.getfield 19, 3) := by decide +kernel
theorem dX10_edge_76 : decode cX10_edge 76 = .ok (.aload_n 0, 1) := by decide +kernel
theorem dX10_edge_77 : decode cX10_edge 77 = .ok (.getfield 66, 3) := by decide +kernel
theorem dX10_edge_80 : decode cX10_edge 80 = .ok (.getfield 229, 3) := by decide +kernel
theorem dX10_edge_83 : decode cX10_edge 83 = .ok (.iload_n 2, 1) := by decide +kernel
theorem dX10_edge_84 : decode cX10_edge 84 = .ok (.invokevirtual 243, 3) := by decide +kernel
theorem dX10_edge_87 : decode cX10_edge 87 = .ok (.ifCond .eq 30, 3) := by decide +kernel
theorem dX10_edge_90 : decode cX10_edge 90 = .ok (.aload_n 0, 1) := by decide +kernel
theorem dX10_edge_91 : decode cX10_edge 91 = .ok (.getfield 19, 3) := by decide +kernel
theorem dX10_edge_94 : decode cX10_edge 94 = .ok (.aload_n 0, 1) := by decide +kernel
theorem dX10_edge_95 : decode cX10_edge 95 = .ok (.getfield 66, 3) := by decide +kernel
theorem dX10_edge_98 : decode cX10_edge 98 = .ok (.getfield 229, 3) := by decide +kernel
theorem dX10_edge_101 : decode cX10_edge 101 = .ok (.iload_n 3, 1) := by decide +kernel
theorem dX10_edge_102 : decode cX10_edge 102 = .ok (.invokevirtual 247, 3) := by decide +kernel
theorem dX10_edge_105 : decode cX10_edge 105 = .ok (.ifCond .eq 12, 3) := by decide +kernel
theorem dX10_edge_108 : decode cX10_edge 108 = .ok (.aload_n 0, 1) := by decide +kernel
theorem dX10_edge_109 : decode cX10_edge 109 = .ok (.getfield 66, 3) := by decide +kernel
theorem dX10_edge_112 : decode cX10_edge 112 = .ok (.iload 5, 2) := by decide +kernel
theorem dX10_edge_114 : decode cX10_edge 114 = .ok (.invokevirtual 250, 3) := by decide +kernel
theorem dX10_edge_117 : decode cX10_edge 117 = .ok (.aload_n 0, 1) := by decide +kernel
theorem dX10_edge_118 : decode cX10_edge 118 = .ok (.getfield 66, 3) := by decide +kernel
theorem dX10_edge_121 : decode cX10_edge 121 = .ok (.invokevirtual 228, 3) := by decide +kernel
theorem dX10_edge_124 : decode cX10_edge 124 = .ok (.iinc 5 1, 3) := by decide +kernel
theorem dX10_edge_127 : decode cX10_edge 127 = .ok (.goto (-63), 3) := by decide +kernel
theorem dX10_edge_130 : decode cX10_edge 130 = .ok (.aload_n 0, 1) := by decide +kernel
theorem dX10_edge_131 : decode cX10_edge 131 = .ok (.getfield 66, 3) := by decide +kernel
theorem dX10_edge_134 : decode cX10_edge 134 = .ok (.iload 4, 2) := by decide +kernel
theorem dX10_edge_136 : decode cX10_edge 136 = .ok (.invokevirtual 254, 3) := by decide +kernel
theorem dX10_edge_139 : decode cX10_edge 139 = .ok (.ireturn, 1) := by decide +kernel
set_option maxRecDepth 100000 in
set_option maxHeartbeats 4000000 in
theorem mX10_edge {w : WX} {adr : Nat → Nat → Nat} (hj : Ij adr) (a1 : Int32) (a2 : Int32) (a3 : Int32) (a4 : Int32) (S : St) : ∀ (l : Launch) (r : Int32) (S2 : St), fX10_edge a1 a2 a3 a4 S = some (r, S2) → Mi l w adr yX10_edge cX10_edge 6 (some .int) 5 108 [.ref (adr 0 0), .int a1, .int a2, .int a3, .int a4] S r S2 := by
  refine mi_of (lv := [(0, .ref (adr 0 0)), (1, .int a1), (2, .int a2), (3, .int a3), (4, .int a4)]) hj (plainFor_of_name (by decide +kernel)) rfl (Nat.le_of_ble_eq_true rfl) (fun k C Rr => ?_)
  have C : Cx w adr k cX10_edge RX10 6 5 108 := C
  refine ge_aload_n (n := 1) C 0 rfl dX10_edge_0 rfl rfl ?_
  refine gt_X10_19 (n := 4) C (by decide) dX10_edge_1 rfl ?_
  refine ge_iload_n (n := 5) C 1 rfl dX10_edge_4 rfl rfl ?_
  refine ge_callVi (n := 8) C (mX6_hasMan hj (o0 := (pid (S 0 0 1))) (pid_lt _) a1 S) gv_X10_145 (cl_3 (pid_lt _)) rfl rfl hc_X6_hasMan ⟨Nat.le_of_ble_eq_true rfl, Nat.le_of_ble_eq_true rfl⟩ rfl rfl (Nat.le_of_ble_eq_true rfl) dX10_edge_5 rfl (fun r_5 S_5 => ?_)
  refine ge_if_eq (t := 33) (n := 11) C dX10_edge_8 (by decide) rfl (fun h_8 => ?_) (fun h_8 => ?_)
  · refine ge_ldc (n := 35) C kc_X10_149 dX10_edge_33 rfl ?_
    exact ge_iret C Rr dX10_edge_35
  · refine ge_aload_n (n := 12) C 0 rfl dX10_edge_11 rfl rfl ?_
    refine gt_X10_19 (n := 15) C (by decide) dX10_edge_12 rfl ?_
    refine ge_iload_n (n := 16) C 2 rfl dX10_edge_15 rfl rfl ?_
    refine ge_callVi (n := 19) C (mX6_hasSet hj (o0 := (pid (S_5 0 0 1))) (pid_lt _) a2 S_5) gv_X10_240 (cl_3 (pid_lt _)) rfl rfl hc_X6_hasSet ⟨Nat.le_of_ble_eq_true rfl, Nat.le_of_ble_eq_true rfl⟩ rfl rfl (Nat.le_of_ble_eq_true rfl) dX10_edge_16 rfl (fun r_16 S_16 => ?_)
    refine ge_if_eq (t := 33) (n := 22) C dX10_edge_19 (by decide) rfl (fun h_19 => ?_) (fun h_19 => ?_)
    · refine ge_ldc (n := 35) C kc_X10_149 dX10_edge_33 rfl ?_
      exact ge_iret C Rr dX10_edge_35
    · refine ge_aload_n (n := 23) C 0 rfl dX10_edge_22 rfl rfl ?_
      refine gt_X10_19 (n := 26) C (by decide) dX10_edge_23 rfl ?_
      refine ge_iload_n (n := 27) C 3 rfl dX10_edge_26 rfl rfl ?_
      refine ge_callVi (n := 30) C (mX6_hasSet hj (o0 := (pid (S_16 0 0 1))) (pid_lt _) a3 S_16) gv_X10_240 (cl_3 (pid_lt _)) rfl rfl hc_X6_hasSet ⟨Nat.le_of_ble_eq_true rfl, Nat.le_of_ble_eq_true rfl⟩ rfl rfl (Nat.le_of_ble_eq_true rfl) dX10_edge_27 rfl (fun r_27 S_27 => ?_)
      refine ge_if_ne (t := 36) (n := 33) C dX10_edge_30 (by decide) rfl (fun h_30 => ?_) (fun h_30 => ?_)
      · refine ge_iload (n := 38) C 4 rfl dX10_edge_36 rfl ?_
        refine ge_iconst (v := 0) (n := 39) C dX10_edge_38 (by decide) rfl ?_
        refine ge_iconst (v := 2) (n := 40) C dX10_edge_39 (by decide) rfl ?_
        refine ge_callSi (n := 43) C (mX10_isOutside hj a4 (0 : Int32) (2 : Int32) S_27) gv_X10_77 hc_X10_isOutside ⟨Nat.le_of_ble_eq_true rfl, Nat.le_of_ble_eq_true rfl⟩ rfl rfl (Nat.le_of_ble_eq_true rfl) dX10_edge_40 rfl (fun r_40 S_40 => ?_)
        refine ge_if_eq (t := 49) (n := 46) C dX10_edge_43 (by decide) rfl (fun h_43 => ?_) (fun h_43 => ?_)
        · refine ge_aload_n (n := 50) C 0 rfl dX10_edge_49 rfl rfl ?_
          refine gt_X10_66 (n := 53) C (by decide) dX10_edge_50 rfl ?_
          refine ge_aload_n (n := 54) C 0 rfl dX10_edge_53 rfl rfl ?_
          refine gt_X10_31 (n := 57) C (by decide) dX10_edge_54 rfl ?_
          refine ge_iload_n (n := 58) C 1 rfl dX10_edge_57 rfl rfl ?_
          refine ge_callVv (n := 61) C (mX9_startNow hj a1 S_40) gv_X10_224 (cl_30 (by decide)) rfl rfl hc_X9_startNow ⟨Nat.le_of_ble_eq_true rfl, Nat.le_of_ble_eq_true rfl⟩ rfl rfl (Nat.le_of_ble_eq_true rfl) dX10_edge_58 rfl (fun _ S_58 => ?_)
          refine ge_iconst (v := 0) (n := 62) C dX10_edge_61 (by decide) rfl ?_
          refine ge_istore (n := 64) (lv2 := [(5, .int (0 : Int32)), (0, .ref (adr 0 0)), (1, .int a1), (2, .int a2), (3, .int a3), (4, .int a4)]) C dX10_edge_62 rfl (by decide) rfl ?_
          refine ge_jn (fun (jj : St → Op) => ∀ (S_130 : St), Ge w adr k 130 [(0, .ref (adr 0 0)), (4, .int a4)] [] S_130 (jj S_130)) (fun S_130 => ?_) (fun kk64 hkk64 => ?_)
          · refine ge_aload_n (n := 131) C 0 rfl dX10_edge_130 rfl rfl ?_
            refine gt_X10_66 (n := 134) C (by decide) dX10_edge_131 rfl ?_
            refine ge_iload (n := 136) C 1 rfl dX10_edge_134 rfl ?_
            refine ge_callVi (n := 139) C (mX9_noted hj a4 S_130) gv_X10_254 (cl_30 (by decide)) rfl rfl hc_X9_noted ⟨Nat.le_of_ble_eq_true rfl, Nat.le_of_ble_eq_true rfl⟩ rfl rfl (Nat.le_of_ble_eq_true rfl) dX10_edge_136 rfl (fun r_136 S_136 => ?_)
            exact ge_iret C Rr dX10_edge_139
          refine ge_sub [0, 1, 3, 4, 5] rfl ?_
          refine ge_lop (fun (jj : Int32 → St → Op) => ∀ (x5_64 : Int32) (S_64 : St), Ge w adr k 64 [(5, .int x5_64), (0, .ref (adr 0 0)), (2, .int a2), (3, .int a3), (4, .int a4)] [] S_64 (jj x5_64 S_64)) (fun _ _ => ge_none) (fun ag64 hag64 x5_64 S_64 => ?_) FU (0 : Int32) S_58
          refine ge_iload (n := 66) C 0 rfl dX10_edge_64 rfl ?_
          refine ge_sipush (v := 200) (n := 69) C dX10_edge_66 (by decide) rfl ?_
          refine ge_icmp_gt (t := 130) (n := 72) C dX10_edge_69 (by decide) rfl (fun h_69 => ?_) (fun h_69 => ?_)
          · refine ge_sub [1, 4] rfl ?_
            exact hkk64 S_64
          · refine ge_aload_n (n := 73) C 1 rfl dX10_edge_72 rfl rfl ?_
            refine gt_X10_19 (n := 76) C (by decide) dX10_edge_73 rfl ?_
            refine ge_aload_n (n := 77) C 1 rfl dX10_edge_76 rfl rfl ?_
            refine gt_X10_66 (n := 80) C (by decide) dX10_edge_77 rfl ?_
            refine gt_X10_229 (n := 83) C (by decide) dX10_edge_80 rfl ?_
            refine ge_iload_n (n := 84) C 2 rfl dX10_edge_83 rfl rfl ?_
            refine ge_callVi (n := 87) C (mX6_bearsAll hj (o0 := (pid (S_64 0 0 1))) (pid_lt _) (o1 := 6) (by decide) a2 S_64) gv_X10_243 (cl_3 (pid_lt _)) rfl rfl hc_X6_bearsAll ⟨Nat.le_of_ble_eq_true rfl, Nat.le_of_ble_eq_true rfl⟩ rfl rfl (Nat.le_of_ble_eq_true rfl) dX10_edge_84 rfl (fun r_84 S_84 => ?_)
            refine ge_jn (fun (jj : St → Op) => ∀ (S_117 : St), Ge w adr k 117 [(5, .int x5_64), (0, .ref (adr 0 0)), (2, .int a2), (3, .int a3), (4, .int a4)] [] S_117 (jj S_117)) (fun S_117 => ?_) (fun j117 hj117 => ?_)
            · refine ge_aload_n (n := 118) C 1 rfl dX10_edge_117 rfl rfl ?_
              refine gt_X10_66 (n := 121) C (by decide) dX10_edge_118 rfl ?_
              refine ge_callVv (n := 124) C (mX9_passMonth hj S_117) gv_X10_228 (cl_30 (by decide)) rfl rfl hc_X9_passMonth ⟨Nat.le_of_ble_eq_true rfl, Nat.le_of_ble_eq_true rfl⟩ rfl rfl (Nat.le_of_ble_eq_true rfl) dX10_edge_121 rfl (fun _ S_121 => ?_)
              refine ge_iinc (n := 127) (v := (x5_64 + (1 : Int32))) (lv2 := [(5, .int (x5_64 + (1 : Int32))), (0, .ref (adr 0 0)), (2, .int a2), (3, .int a3), (4, .int a4)]) C 0 rfl dX10_edge_124 rfl rfl (by decide) rfl ?_
              refine ge_goto (n := 64) C dX10_edge_127 (by decide) ?_
              exact hag64 (x5_64 + (1 : Int32)) S_121
            refine ge_if_eq (t := 117) (n := 90) C dX10_edge_87 (by decide) rfl (fun h_87 => ?_) (fun h_87 => ?_)
            · exact hj117 S_84
            · refine ge_aload_n (n := 91) C 1 rfl dX10_edge_90 rfl rfl ?_
              refine gt_X10_19 (n := 94) C (by decide) dX10_edge_91 rfl ?_
              refine ge_aload_n (n := 95) C 1 rfl dX10_edge_94 rfl rfl ?_
              refine gt_X10_66 (n := 98) C (by decide) dX10_edge_95 rfl ?_
              refine gt_X10_229 (n := 101) C (by decide) dX10_edge_98 rfl ?_
              refine ge_iload_n (n := 102) C 3 rfl dX10_edge_101 rfl rfl ?_
              refine ge_callVi (n := 105) C (mX6_feelsAll hj (o0 := (pid (S_84 0 0 1))) (pid_lt _) (o1 := 6) (by decide) a3 S_84) gv_X10_247 (cl_3 (pid_lt _)) rfl rfl hc_X6_feelsAll ⟨Nat.le_of_ble_eq_true rfl, Nat.le_of_ble_eq_true rfl⟩ rfl rfl (Nat.le_of_ble_eq_true rfl) dX10_edge_102 rfl (fun r_102 S_102 => ?_)
              refine ge_if_eq (t := 117) (n := 108) C dX10_edge_105 (by decide) rfl (fun h_105 => ?_) (fun h_105 => ?_)
              · exact hj117 S_102
              · refine ge_aload_n (n := 109) C 1 rfl dX10_edge_108 rfl rfl ?_
                refine gt_X10_66 (n := 112) C (by decide) dX10_edge_109 rfl ?_
                refine ge_iload (n := 114) C 0 rfl dX10_edge_112 rfl ?_
                refine ge_callVv (n := 117) C (mX9_note hj x5_64 S_102) gv_X10_250 (cl_30 (by decide)) rfl rfl hc_X9_note ⟨Nat.le_of_ble_eq_true rfl, Nat.le_of_ble_eq_true rfl⟩ rfl rfl (Nat.le_of_ble_eq_true rfl) dX10_edge_114 rfl (fun _ S_114 => ?_)
                exact hj117 S_114
        · refine ge_ldc (n := 48) C kc_X10_81 dX10_edge_46 rfl ?_
          exact ge_iret C Rr dX10_edge_48
      · refine ge_ldc (n := 35) C kc_X10_149 dX10_edge_33 rfl ?_
        exact ge_iret C Rr dX10_edge_35
theorem dX10_scraping_0 : decode cX10_scraping 0 = .ok (.aload_n 0, 1) := by decide +kernel
theorem dX10_scraping_1 : decode cX10_scraping 1 = .ok (.getfield 19, 3) := by decide +kernel
theorem dX10_scraping_4 : decode cX10_scraping 4 = .ok (.iload_n 1, 1) := by decide +kernel
theorem dX10_scraping_5 : decode cX10_scraping 5 = .ok (.invokevirtual 145, 3) := by decide +kernel
theorem dX10_scraping_8 : decode cX10_scraping 8 = .ok (.ifCond .eq 14, 3) := by decide +kernel
theorem dX10_scraping_11 : decode cX10_scraping 11 = .ok (.aload_n 0, 1) := by decide +kernel
theorem dX10_scraping_12 : decode cX10_scraping 12 = .ok (.getfield 19, 3) := by decide +kernel
theorem dX10_scraping_15 : decode cX10_scraping 15 = .ok (.iload_n 2, 1) := by decide +kernel
theorem dX10_scraping_16 : decode cX10_scraping 16 = .ok (.invokevirtual 240, 3) := by decide +kernel
theorem dX10_scraping_19 : decode cX10_scraping 19 = .ok (.ifCond .ne 6, 3) := by decide +kernel
theorem dX10_scraping_22 : decode cX10_scraping 22 = .ok (.ldc 149, 2) := by decide +kernel
theorem dX10_scraping_24 : decode cX10_scraping 24 = .ok (.ireturn, 1) := by decide +kernel
theorem dX10_scraping_25 : decode cX10_scraping 25 = .ok (.aload_n 0, 1) := by decide +kernel
theorem dX10_scraping_26 : decode cX10_scraping 26 = .ok (.getfield 19, 3) := by decide +kernel
theorem dX10_scraping_29 : decode cX10_scraping 29 = .ok (.aload_n 0, 1) := by decide +kernel
theorem dX10_scraping_30 : decode cX10_scraping 30 = .ok (.getfield 31, 3) := by decide +kernel
theorem dX10_scraping_33 : decode cX10_scraping 33 = .ok (.getfield 150, 3) := by decide +kernel
theorem dX10_scraping_36 : decode cX10_scraping 36 = .ok (.iload_n 1, 1) := by decide +kernel
theorem dX10_scraping_37 : decode cX10_scraping 37 = .ok (.aaload, 1) := by decide +kernel
theorem dX10_scraping_38 : decode cX10_scraping 38 = .ok (.iload_n 2, 1) := by decide +kernel
theorem dX10_scraping_39 : decode cX10_scraping 39 = .ok (.invokevirtual 257, 3) := by decide +kernel
theorem dX10_scraping_42 : decode cX10_scraping 42 = .ok (.ireturn, 1) := by decide +kernel
set_option maxRecDepth 100000 in
set_option maxHeartbeats 4000000 in
theorem mX10_scraping {w : WX} {adr : Nat → Nat → Nat} (hj : Ij adr) (a1 : Int32) (a2 : Int32) (S : St) : ∀ (l : Launch) (r : Int32) (S2 : St), fX10_scraping a1 a2 S = some (r, S2) → Mi l w adr yX10_scraping cX10_scraping 3 (some .int) 4 94 [.ref (adr 0 0), .int a1, .int a2] S r S2 := by
  refine mi_of (lv := [(0, .ref (adr 0 0)), (1, .int a1), (2, .int a2)]) hj (plainFor_of_name (by decide +kernel)) rfl (Nat.le_of_ble_eq_true rfl) (fun k C Rr => ?_)
  have C : Cx w adr k cX10_scraping RX10 3 4 94 := C
  refine ge_aload_n (n := 1) C 0 rfl dX10_scraping_0 rfl rfl ?_
  refine gt_X10_19 (n := 4) C (by decide) dX10_scraping_1 rfl ?_
  refine ge_iload_n (n := 5) C 1 rfl dX10_scraping_4 rfl rfl ?_
  refine ge_callVi (n := 8) C (mX6_hasMan hj (o0 := (pid (S 0 0 1))) (pid_lt _) a1 S) gv_X10_145 (cl_3 (pid_lt _)) rfl rfl hc_X6_hasMan ⟨Nat.le_of_ble_eq_true rfl, Nat.le_of_ble_eq_true rfl⟩ rfl rfl (Nat.le_of_ble_eq_true rfl) dX10_scraping_5 rfl (fun r_5 S_5 => ?_)
  refine ge_if_eq (t := 22) (n := 11) C dX10_scraping_8 (by decide) rfl (fun h_8 => ?_) (fun h_8 => ?_)
  · refine ge_ldc (n := 24) C kc_X10_149 dX10_scraping_22 rfl ?_
    exact ge_iret C Rr dX10_scraping_24
  · refine ge_aload_n (n := 12) C 0 rfl dX10_scraping_11 rfl rfl ?_
    refine gt_X10_19 (n := 15) C (by decide) dX10_scraping_12 rfl ?_
    refine ge_iload_n (n := 16) C 2 rfl dX10_scraping_15 rfl rfl ?_
    refine ge_callVi (n := 19) C (mX6_hasSet hj (o0 := (pid (S_5 0 0 1))) (pid_lt _) a2 S_5) gv_X10_240 (cl_3 (pid_lt _)) rfl rfl hc_X6_hasSet ⟨Nat.le_of_ble_eq_true rfl, Nat.le_of_ble_eq_true rfl⟩ rfl rfl (Nat.le_of_ble_eq_true rfl) dX10_scraping_16 rfl (fun r_16 S_16 => ?_)
    refine ge_if_ne (t := 25) (n := 22) C dX10_scraping_19 (by decide) rfl (fun h_19 => ?_) (fun h_19 => ?_)
    · refine ge_aload_n (n := 26) C 0 rfl dX10_scraping_25 rfl rfl ?_
      refine gt_X10_19 (n := 29) C (by decide) dX10_scraping_26 rfl ?_
      refine ge_aload_n (n := 30) C 0 rfl dX10_scraping_29 rfl rfl ?_
      refine gt_X10_31 (n := 33) C (by decide) dX10_scraping_30 rfl ?_
      refine gt_X10_150 (n := 36) C (by decide) dX10_scraping_33 rfl ?_
      refine ge_iload_n (n := 37) C 1 rfl dX10_scraping_36 rfl rfl ?_
      refine al_10 (n := 38) C (by decide) dX10_scraping_37 rfl (fun h_37 => ?_)
      refine ge_iload_n (n := 39) C 2 rfl dX10_scraping_38 rfl rfl ?_
      refine ge_callVi (n := 42) C (mX6_leastScraping hj (o0 := (pid (S_16 0 0 1))) (pid_lt _) (o1 := (Int32.toNatClampNeg a1)) (bd_c h_37 (by decide)) a2 S_16) gv_X10_257 (cl_3 (pid_lt _)) rfl rfl hc_X6_leastScraping ⟨Nat.le_of_ble_eq_true rfl, Nat.le_of_ble_eq_true rfl⟩ rfl rfl (Nat.le_of_ble_eq_true rfl) dX10_scraping_39 rfl (fun r_39 S_39 => ?_)
      exact ge_iret C Rr dX10_scraping_42
    · refine ge_ldc (n := 24) C kc_X10_149 dX10_scraping_22 rfl ?_
      exact ge_iret C Rr dX10_scraping_24
theorem dX10_through_0 : decode cX10_through 0 = .ok (.iload_n 1, 1) := by decide +kernel
theorem dX10_through_1 : decode cX10_through 1 = .ok (.iconst 0, 1) := by decide +kernel
theorem dX10_through_2 : decode cX10_through 2 = .ok (.sipush 200, 3) := by decide +kernel
theorem dX10_through_5 : decode cX10_through 5 = .ok (.invokestatic 77, 3) := by decide +kernel
theorem dX10_through_8 : decode cX10_through 8 = .ok (.ifCond .ne 12, 3) := by decide +kernel
theorem dX10_through_11 : decode cX10_through 11 = .ok (.iload_n 2, 1) := by decide +kernel
theorem dX10_through_12 : decode cX10_through 12 = .ok (.iconst 0, 1) := by decide +kernel
theorem dX10_through_13 : decode cX10_through 13 = .ok (.iconst 1, 1) := by decide +kernel
theorem dX10_through_14 : decode cX10_through 14 = .ok (.invokestatic 77, 3) := by decide +kernel
theorem dX10_through_17 : decode cX10_through 17 = .ok (.ifCond .eq 6, 3) := by decide +kernel
theorem dX10_through_20 : decode cX10_through 20 = .ok (.ldc 81, 2) := by decide +kernel
theorem dX10_through_22 : decode cX10_through 22 = .ok (.ireturn, 1) := by decide +kernel
theorem dX10_through_23 : decode cX10_through 23 = .ok (.aload_n 0, 1) := by decide +kernel
theorem dX10_through_24 : decode cX10_through 24 = .ok (.getfield 19, 3) := by decide +kernel
theorem dX10_through_27 : decode cX10_through 27 = .ok (.invokevirtual 213, 3) := by decide +kernel
theorem dX10_through_30 : decode cX10_through 30 = .ok (.ifCond .eq 6, 3) := by decide +kernel
theorem dX10_through_33 : decode cX10_through 33 = .ok (.ldc 201, 2) := by decide +kernel
theorem dX10_through_35 : decode cX10_through 35 = .ok (.ireturn, 1) := by decide +kernel
theorem dX10_through_36 : decode cX10_through 36 = .ok (.iconst 0, 1) := by decide +kernel
theorem dX10_through_37 : decode cX10_through 37 = .ok (.istore_n 3, 1) := by decide +kernel
theorem dX10_through_38 : decode cX10_through 38 = .ok (.iload_n 3, 1) := by decide +kernel
theorem dX10_through_39 : decode cX10_through 39 = .ok (.aload_n 0, 1) := by decide +kernel
theorem dX10_through_40 : decode cX10_through 40 = .ok (.getfield 19, 3) := by decide +kernel
theorem dX10_through_43 : decode cX10_through 43 = .ok (.getfield 108, 3) := by decide +kernel
theorem dX10_through_46 : decode cX10_through 46 = .ok (.if_icmp .ge 48, 3) := by decide +kernel
theorem dX10_through_49 : decode cX10_through 49 = .ok (.aload_n 0, 1) := by decide +kernel
theorem dX10_through_50 : decode cX10_through 50 = .ok (.getfield 66, 3) := by decide +kernel
theorem dX10_through_53 : decode cX10_through 53 = .ok (.aload_n 0, 1) := by decide +kernel
theorem dX10_through_54 : decode cX10_through 54 = .ok (.getfield 31, 3) := by decide +kernel
theorem dX10_through_57 : decode cX10_through 57 = .ok (.iload_n 3, 1) := by decide +kernel
theorem dX10_through_58 : decode cX10_through 58 = .ok (.invokevirtual 224, 3) := by decide +kernel
theorem dX10_through_61 : decode cX10_through 61 = .ok (.aload_n 0, 1) := by decide +kernel
theorem dX10_through_62 : decode cX10_through 62 = .ok (.getfield 73, 3) := by decide +kernel
theorem dX10_through_65 : decode cX10_through 65 = .ok (.getfield 260, 3) := by decide +kernel
theorem dX10_through_68 : decode cX10_through 68 = .ok (.iload_n 3, 1) := by decide +kernel
theorem dX10_through_69 : decode cX10_through 69 = .ok (.aload_n 0, 1) := by decide +kernel
theorem dX10_through_70 : decode cX10_through 70 = .ok (.getfield 66, 3) := by decide +kernel
theorem dX10_through_73 : decode cX10_through 73 = .ok (.aload_n 0, 1) := by decide +kernel
theorem dX10_through_74 : decode cX10_through 74 = .ok (.getfield 19, 3) := by decide +kernel
theorem dX10_through_77 : decode cX10_through 77 = .ok (.aload_n 0, 1) := by decide +kernel
theorem dX10_through_78 : decode cX10_through 78 = .ok (.getfield 19, 3) := by decide +kernel
theorem dX10_through_81 : decode cX10_through 81 = .ok (.invokevirtual 263, 3) := by decide +kernel
theorem dX10_through_84 : decode cX10_through 84 = .ok (.invokevirtual 233, 3) := by decide +kernel
theorem dX10_through_87 : decode cX10_through 87 = .ok (.iastore, 1) := by decide +kernel
theorem dX10_through_88 : decode cX10_through 88 = .ok (.iinc 3 1, 3) := by decide +kernel
theorem dX10_through_91 : decode cX10_through 91 = .ok (.goto (-53), 3) := by decide +kernel
theorem dX10_through_94 : decode cX10_through 94 = .ok (.aload_n 0, 1) := by decide +kernel
theorem dX10_through_95 : decode cX10_through 95 = .ok (.getfield 73, 3) := by decide +kernel
theorem dX10_through_98 : decode cX10_through 98 = .ok (.aload_n 0, 1) := by decide +kernel
theorem dX10_through_99 : decode cX10_through 99 = .ok (.getfield 19, 3) := by decide +kernel
theorem dX10_through_102 : decode cX10_through 102 = .ok (.getfield 108, 3) := by decide +kernel
theorem dX10_through_105 : decode cX10_through 105 = .ok (.iload_n 1, 1) := by decide +kernel
theorem dX10_through_106 : decode cX10_through 106 = .ok (.invokevirtual 266, 3) := by decide +kernel
theorem dX10_through_109 : decode cX10_through 109 = .ok (.aload_n 0, 1) := by decide +kernel
theorem dX10_through_110 : decode cX10_through 110 = .ok (.getfield 73, 3) := by decide +kernel
theorem dX10_through_113 : decode cX10_through 113 = .ok (.aload_n 0, 1) := by decide +kernel
theorem dX10_through_114 : decode cX10_through 114 = .ok (.getfield 19, 3) := by decide +kernel
theorem dX10_through_117 : decode cX10_through 117 = .ok (.getfield 108, 3) := by decide +kernel
theorem dX10_through_120 : decode cX10_through 120 = .ok (.aload_n 0, 1) := by decide +kernel
theorem dX10_through_121 : decode cX10_through 121 = .ok (.getfield 19, 3) := by decide +kernel
theorem dX10_through_124 : decode cX10_through 124 = .ok (.getfield 114, 3) := by decide +kernel
theorem dX10_through_127 : decode cX10_through 127 = .ok (.invokevirtual 269, 3) := by decide +kernel
theorem dX10_through_130 : decode cX10_through 130 = .ok (.istore_n 3, 1) := by decide +kernel
theorem dX10_through_131 : decode cX10_through 131 = .ok (.iload_n 2, 1) := by decide +kernel
theorem dX10_through_132 : decode cX10_through 132 = .ok (.ifCond .ne 10, 3) := by decide +kernel
theorem dX10_through_135 : decode cX10_through 135 = .ok (.iload_n 3, 1) := by decide +kernel
theorem dX10_through_136 : decode cX10_through 136 = .ok (.invokestatic 273, 3) := by decide +kernel
theorem dX10_through_139 : decode cX10_through 139 = .ok (.goto 4, 3) := by decide +kernel
theorem dX10_through_142 : decode cX10_through 142 = .ok (.iload_n 3, 1) := by decide +kernel
theorem dX10_through_143 : decode cX10_through 143 = .ok (.ireturn, 1) := by decide +kernel
set_option maxRecDepth 100000 in
set_option maxHeartbeats 4000000 in
theorem mX10_through {w : WX} {adr : Nat → Nat → Nat} (hj : Ij adr) (a1 : Int32) (a2 : Int32) (S : St) : ∀ (l : Launch) (r : Int32) (S2 : St), fX10_through a1 a2 S = some (r, S2) → Mi l w adr yX10_through cX10_through 4 (some .int) 6 131 [.ref (adr 0 0), .int a1, .int a2] S r S2 := by
  refine mi_of (lv := [(0, .ref (adr 0 0)), (1, .int a1), (2, .int a2)]) hj (plainFor_of_name (by decide +kernel)) rfl (Nat.le_of_ble_eq_true rfl) (fun k C Rr => ?_)
  have C : Cx w adr k cX10_through RX10 4 6 131 := C
  refine ge_iload_n (n := 1) C 1 rfl dX10_through_0 rfl rfl ?_
  refine ge_iconst (v := 0) (n := 2) C dX10_through_1 (by decide) rfl ?_
  refine ge_sipush (v := 200) (n := 5) C dX10_through_2 (by decide) rfl ?_
  refine ge_callSi (n := 8) C (mX10_isOutside hj a1 (0 : Int32) (200 : Int32) S) gv_X10_77 hc_X10_isOutside ⟨Nat.le_of_ble_eq_true rfl, Nat.le_of_ble_eq_true rfl⟩ rfl rfl (Nat.le_of_ble_eq_true rfl) dX10_through_5 rfl (fun r_5 S_5 => ?_)
  refine ge_if_ne (t := 20) (n := 11) C dX10_through_8 (by decide) rfl (fun h_8 => ?_) (fun h_8 => ?_)
  · refine ge_ldc (n := 22) C kc_X10_81 dX10_through_20 rfl ?_
    exact ge_iret C Rr dX10_through_22
  · refine ge_iload_n (n := 12) C 2 rfl dX10_through_11 rfl rfl ?_
    refine ge_iconst (v := 0) (n := 13) C dX10_through_12 (by decide) rfl ?_
    refine ge_iconst (v := 1) (n := 14) C dX10_through_13 (by decide) rfl ?_
    refine ge_callSi (n := 17) C (mX10_isOutside hj a2 (0 : Int32) (1 : Int32) S_5) gv_X10_77 hc_X10_isOutside ⟨Nat.le_of_ble_eq_true rfl, Nat.le_of_ble_eq_true rfl⟩ rfl rfl (Nat.le_of_ble_eq_true rfl) dX10_through_14 rfl (fun r_14 S_14 => ?_)
    refine ge_if_eq (t := 23) (n := 20) C dX10_through_17 (by decide) rfl (fun h_17 => ?_) (fun h_17 => ?_)
    · refine ge_aload_n (n := 24) C 0 rfl dX10_through_23 rfl rfl ?_
      refine gt_X10_19 (n := 27) C (by decide) dX10_through_24 rfl ?_
      refine ge_callVi (n := 30) C (mX6_isNone hj (o0 := (pid (S_14 0 0 1))) (pid_lt _) S_14) gv_X10_213 (cl_3 (pid_lt _)) rfl rfl hc_X6_isNone ⟨Nat.le_of_ble_eq_true rfl, Nat.le_of_ble_eq_true rfl⟩ rfl rfl (Nat.le_of_ble_eq_true rfl) dX10_through_27 rfl (fun r_27 S_27 => ?_)
      refine ge_if_eq (t := 36) (n := 33) C dX10_through_30 (by decide) rfl (fun h_30 => ?_) (fun h_30 => ?_)
      · refine ge_iconst (v := 0) (n := 37) C dX10_through_36 (by decide) rfl ?_
        refine ge_istore_n (n := 38) (lv2 := [(3, .int (0 : Int32)), (0, .ref (adr 0 0)), (1, .int a1), (2, .int a2)]) C dX10_through_37 rfl rfl (by decide) rfl ?_
        refine ge_jn (fun (jj : St → Op) => ∀ (S_94 : St), Ge w adr k 94 [(0, .ref (adr 0 0)), (1, .int a1), (2, .int a2)] [] S_94 (jj S_94)) (fun S_94 => ?_) (fun kk38 hkk38 => ?_)
        · refine ge_aload_n (n := 95) C 0 rfl dX10_through_94 rfl rfl ?_
          refine gt_X10_73 (n := 98) C (by decide) dX10_through_95 rfl ?_
          refine ge_aload_n (n := 99) C 0 rfl dX10_through_98 rfl rfl ?_
          refine gt_X10_19 (n := 102) C (by decide) dX10_through_99 rfl ?_
          refine gt_X10_108 (n := 105) C (pid_lt _) dX10_through_102 rfl ?_
          refine ge_iload_n (n := 106) C 1 rfl dX10_through_105 rfl rfl ?_
          refine ge_callVv (n := 109) C (mX5_fill hj (S_94 3 (pid (S_94 0 0 1)) 2) a1 S_94) gv_X10_266 (cl_31 (by decide)) rfl rfl hc_X5_fill ⟨Nat.le_of_ble_eq_true rfl, Nat.le_of_ble_eq_true rfl⟩ rfl rfl (Nat.le_of_ble_eq_true rfl) dX10_through_106 rfl (fun _ S_106 => ?_)
          refine ge_aload_n (n := 110) C 0 rfl dX10_through_109 rfl rfl ?_
          refine gt_X10_73 (n := 113) C (by decide) dX10_through_110 rfl ?_
          refine ge_aload_n (n := 114) C 0 rfl dX10_through_113 rfl rfl ?_
          refine gt_X10_19 (n := 117) C (by decide) dX10_through_114 rfl ?_
          refine gt_X10_108 (n := 120) C (pid_lt _) dX10_through_117 rfl ?_
          refine ge_aload_n (n := 121) C 0 rfl dX10_through_120 rfl rfl ?_
          refine gt_X10_19 (n := 124) C (by decide) dX10_through_121 rfl ?_
          refine gt_X10_114 (n := 127) C (pid_lt _) dX10_through_124 rfl ?_
          refine ge_callVi (n := 130) C (mX5_mostWithin hj (S_106 3 (pid (S_106 0 0 1)) 2) (S_106 3 (pid (S_106 0 0 1)) 0) S_106) gv_X10_269 (cl_31 (by decide)) rfl rfl hc_X5_mostWithin ⟨Nat.le_of_ble_eq_true rfl, Nat.le_of_ble_eq_true rfl⟩ rfl rfl (Nat.le_of_ble_eq_true rfl) dX10_through_127 rfl (fun r_127 S_127 => ?_)
          refine ge_istore_n (n := 131) (lv2 := [(3, .int r_127), (0, .ref (adr 0 0)), (1, .int a1), (2, .int a2)]) C dX10_through_130 rfl rfl (by decide) rfl ?_
          refine ge_iload_n (n := 132) C 3 rfl dX10_through_131 rfl rfl ?_
          refine ge_if_ne (t := 142) (n := 135) C dX10_through_132 (by decide) rfl (fun h_132 => ?_) (fun h_132 => ?_)
          · refine ge_iload_n (n := 143) C 0 rfl dX10_through_142 rfl rfl ?_
            exact ge_iret C Rr dX10_through_143
          · refine ge_iload_n (n := 136) C 0 rfl dX10_through_135 rfl rfl ?_
            refine ge_callSi (n := 139) C (mJ6_bitCount_0f7a4 hj r_127 S_127) gv_X10_273 hc_J6_bitCount_0f7a4 ⟨Nat.le_of_ble_eq_true rfl, Nat.le_of_ble_eq_true rfl⟩ rfl rfl (Nat.le_of_ble_eq_true rfl) dX10_through_136 rfl (fun r_136 S_136 => ?_)
            refine ge_goto (n := 143) C dX10_through_139 (by decide) ?_
            exact ge_iret C Rr dX10_through_143
        refine ge_lop (fun (jj : Int32 → St → Op) => ∀ (x3_38 : Int32) (S_38 : St), Ge w adr k 38 [(3, .int x3_38), (0, .ref (adr 0 0)), (1, .int a1), (2, .int a2)] [] S_38 (jj x3_38 S_38)) (fun _ _ => ge_none) (fun ag38 hag38 x3_38 S_38 => ?_) FU (0 : Int32) S_27
        refine ge_iload_n (n := 39) C 0 rfl dX10_through_38 rfl rfl ?_
        refine ge_aload_n (n := 40) C 1 rfl dX10_through_39 rfl rfl ?_
        refine gt_X10_19 (n := 43) C (by decide) dX10_through_40 rfl ?_
        refine gt_X10_108 (n := 46) C (pid_lt _) dX10_through_43 rfl ?_
        refine ge_icmp_ge (t := 94) (n := 49) C dX10_through_46 (by decide) rfl (fun h_46 => ?_) (fun h_46 => ?_)
        · refine ge_sub [1, 2, 3] rfl ?_
          exact hkk38 S_38
        · refine ge_aload_n (n := 50) C 1 rfl dX10_through_49 rfl rfl ?_
          refine gt_X10_66 (n := 53) C (by decide) dX10_through_50 rfl ?_
          refine ge_aload_n (n := 54) C 1 rfl dX10_through_53 rfl rfl ?_
          refine gt_X10_31 (n := 57) C (by decide) dX10_through_54 rfl ?_
          refine ge_iload_n (n := 58) C 0 rfl dX10_through_57 rfl rfl ?_
          refine ge_callVv (n := 61) C (mX9_startNow hj x3_38 S_38) gv_X10_224 (cl_30 (by decide)) rfl rfl hc_X9_startNow ⟨Nat.le_of_ble_eq_true rfl, Nat.le_of_ble_eq_true rfl⟩ rfl rfl (Nat.le_of_ble_eq_true rfl) dX10_through_58 rfl (fun _ S_58 => ?_)
          refine ge_aload_n (n := 62) C 1 rfl dX10_through_61 rfl rfl ?_
          refine gt_X10_73 (n := 65) C (by decide) dX10_through_62 rfl ?_
          refine gt_X10_260 (n := 68) C (by decide) dX10_through_65 rfl ?_
          refine ge_iload_n (n := 69) C 0 rfl dX10_through_68 rfl rfl ?_
          refine ge_aload_n (n := 70) C 1 rfl dX10_through_69 rfl rfl ?_
          refine gt_X10_66 (n := 73) C (by decide) dX10_through_70 rfl ?_
          refine ge_aload_n (n := 74) C 1 rfl dX10_through_73 rfl rfl ?_
          refine gt_X10_19 (n := 77) C (by decide) dX10_through_74 rfl ?_
          refine ge_aload_n (n := 78) C 1 rfl dX10_through_77 rfl rfl ?_
          refine gt_X10_19 (n := 81) C (by decide) dX10_through_78 rfl ?_
          refine ge_callVi (n := 84) C (mX6_everySaying hj (o0 := (pid (S_58 0 0 1))) (pid_lt _) S_58) gv_X10_263 (cl_3 (pid_lt _)) rfl rfl hc_X6_everySaying ⟨Nat.le_of_ble_eq_true rfl, Nat.le_of_ble_eq_true rfl⟩ rfl rfl (Nat.le_of_ble_eq_true rfl) dX10_through_81 rfl (fun r_81 S_81 => ?_)
          refine ge_callVi (n := 87) C (mX9_firstBearing hj (o1 := (pid (S_58 0 0 1))) (pid_lt _) r_81 S_81) gv_X10_233 (cl_30 (by decide)) rfl rfl hc_X9_firstBearing ⟨Nat.le_of_ble_eq_true rfl, Nat.le_of_ble_eq_true rfl⟩ rfl rfl (Nat.le_of_ble_eq_true rfl) dX10_through_84 rfl (fun r_84 S_84 => ?_)
          refine as_32 (n := 88) C (by decide) dX10_through_87 rfl (fun S_87 => ?_)
          refine ge_iinc (n := 91) (v := (x3_38 + (1 : Int32))) (lv2 := [(3, .int (x3_38 + (1 : Int32))), (0, .ref (adr 0 0)), (1, .int a1), (2, .int a2)]) C 0 rfl dX10_through_88 rfl rfl (by decide) rfl ?_
          refine ge_goto (n := 38) C dX10_through_91 (by decide) ?_
          exact hag38 (x3_38 + (1 : Int32)) S_87
      · refine ge_ldc (n := 35) C kc_X10_201 dX10_through_33 rfl ?_
        exact ge_iret C Rr dX10_through_35
    · refine ge_ldc (n := 22) C kc_X10_81 dX10_through_20 rfl ?_
      exact ge_iret C Rr dX10_through_22
theorem dX10_over_0 : decode cX10_over 0 = .ok (.aload_n 0, 1) := by decide +kernel
theorem dX10_over_1 : decode cX10_over 1 = .ok (.getfield 19, 3) := by decide +kernel
theorem dX10_over_4 : decode cX10_over 4 = .ok (.iload_n 1, 1) := by decide +kernel
theorem dX10_over_5 : decode cX10_over 5 = .ok (.invokevirtual 145, 3) := by decide +kernel
theorem dX10_over_8 : decode cX10_over 8 = .ok (.ifCond .eq 19, 3) := by decide +kernel
theorem dX10_over_11 : decode cX10_over 11 = .ok (.aload_n 0, 1) := by decide +kernel
theorem dX10_over_12 : decode cX10_over 12 = .ok (.getfield 19, 3) := by decide +kernel
theorem dX10_over_15 : decode cX10_over 15 = .ok (.iload_n 2, 1) := by decide +kernel
theorem dX10_over_16 : decode cX10_over 16 = .ok (.invokevirtual 145, 3) := by decide +kernel
theorem dX10_over_19 : decode cX10_over 19 = .ok (.ifCond .eq 8, 3) := by decide +kernel
theorem dX10_over_22 : decode cX10_over 22 = .ok (.iload_n 1, 1) := by decide +kernel
theorem dX10_over_23 : decode cX10_over 23 = .ok (.iload_n 2, 1) := by decide +kernel
theorem dX10_over_24 : decode cX10_over 24 = .ok (.if_icmp .ne 6, 3) := by decide +kernel
theorem dX10_over_27 : decode cX10_over 27 = .ok (.ldc 149, 2) := by decide +kernel
theorem dX10_over_29 : decode cX10_over 29 = .ok (.ireturn, 1) := by decide +kernel
theorem dX10_over_30 : decode cX10_over 30 = .ok (.aload_n 0, 1) := by decide +kernel
theorem dX10_over_31 : decode cX10_over 31 = .ok (.getfield 31, 3) := by decide +kernel
theorem dX10_over_34 : decode cX10_over 34 = .ok (.getfield 150, 3) := by decide +kernel
theorem dX10_over_37 : decode cX10_over 37 = .ok (.iload_n 1, 1) := by decide +kernel
theorem dX10_over_38 : decode cX10_over 38 = .ok (.aaload, 1) := by decide +kernel
theorem dX10_over_39 : decode cX10_over 39 = .ok (.aload_n 0, 1) := by decide +kernel
theorem dX10_over_40 : decode cX10_over 40 = .ok (.getfield 31, 3) := by decide +kernel
theorem dX10_over_43 : decode cX10_over 43 = .ok (.getfield 150, 3) := by decide +kernel
theorem dX10_over_46 : decode cX10_over 46 = .ok (.iload_n 2, 1) := by decide +kernel
theorem dX10_over_47 : decode cX10_over 47 = .ok (.aaload, 1) := by decide +kernel
theorem dX10_over_48 : decode cX10_over 48 = .ok (.invokevirtual 278, 3) := by decide +kernel
theorem dX10_over_51 : decode cX10_over 51 = .ok (.ifCond .eq 7, 3) := by decide +kernel
theorem dX10_over_54 : decode cX10_over 54 = .ok (.iconst 1, 1) := by decide +kernel
theorem dX10_over_55 : decode cX10_over 55 = .ok (.goto 4, 3) := by decide +kernel
theorem dX10_over_58 : decode cX10_over 58 = .ok (.iconst 0, 1) := by decide +kernel
theorem dX10_over_59 : decode cX10_over 59 = .ok (.ireturn, 1) := by decide +kernel
set_option maxRecDepth 100000 in
set_option maxHeartbeats 4000000 in
theorem mX10_over {w : WX} {adr : Nat → Nat → Nat} (hj : Ij adr) (a1 : Int32) (a2 : Int32) (S : St) : ∀ (l : Launch) (r : Int32) (S2 : St), fX10_over a1 a2 S = some (r, S2) → Mi l w adr yX10_over cX10_over 3 (some .int) 2 44 [.ref (adr 0 0), .int a1, .int a2] S r S2 := by
  refine mi_of (lv := [(0, .ref (adr 0 0)), (1, .int a1), (2, .int a2)]) hj (plainFor_of_name (by decide +kernel)) rfl (Nat.le_of_ble_eq_true rfl) (fun k C Rr => ?_)
  have C : Cx w adr k cX10_over RX10 3 2 44 := C
  refine ge_aload_n (n := 1) C 0 rfl dX10_over_0 rfl rfl ?_
  refine gt_X10_19 (n := 4) C (by decide) dX10_over_1 rfl ?_
  refine ge_iload_n (n := 5) C 1 rfl dX10_over_4 rfl rfl ?_
  refine ge_callVi (n := 8) C (mX6_hasMan hj (o0 := (pid (S 0 0 1))) (pid_lt _) a1 S) gv_X10_145 (cl_3 (pid_lt _)) rfl rfl hc_X6_hasMan ⟨Nat.le_of_ble_eq_true rfl, Nat.le_of_ble_eq_true rfl⟩ rfl rfl (Nat.le_of_ble_eq_true rfl) dX10_over_5 rfl (fun r_5 S_5 => ?_)
  refine ge_if_eq (t := 27) (n := 11) C dX10_over_8 (by decide) rfl (fun h_8 => ?_) (fun h_8 => ?_)
  · refine ge_ldc (n := 29) C kc_X10_149 dX10_over_27 rfl ?_
    exact ge_iret C Rr dX10_over_29
  · refine ge_aload_n (n := 12) C 0 rfl dX10_over_11 rfl rfl ?_
    refine gt_X10_19 (n := 15) C (by decide) dX10_over_12 rfl ?_
    refine ge_iload_n (n := 16) C 2 rfl dX10_over_15 rfl rfl ?_
    refine ge_callVi (n := 19) C (mX6_hasMan hj (o0 := (pid (S_5 0 0 1))) (pid_lt _) a2 S_5) gv_X10_145 (cl_3 (pid_lt _)) rfl rfl hc_X6_hasMan ⟨Nat.le_of_ble_eq_true rfl, Nat.le_of_ble_eq_true rfl⟩ rfl rfl (Nat.le_of_ble_eq_true rfl) dX10_over_16 rfl (fun r_16 S_16 => ?_)
    refine ge_if_eq (t := 27) (n := 22) C dX10_over_19 (by decide) rfl (fun h_19 => ?_) (fun h_19 => ?_)
    · refine ge_ldc (n := 29) C kc_X10_149 dX10_over_27 rfl ?_
      exact ge_iret C Rr dX10_over_29
    · refine ge_iload_n (n := 23) C 1 rfl dX10_over_22 rfl rfl ?_
      refine ge_iload_n (n := 24) C 2 rfl dX10_over_23 rfl rfl ?_
      refine ge_icmp_ne (t := 30) (n := 27) C dX10_over_24 (by decide) rfl (fun h_24 => ?_) (fun h_24 => ?_)
      · refine ge_aload_n (n := 31) C 0 rfl dX10_over_30 rfl rfl ?_
        refine gt_X10_31 (n := 34) C (by decide) dX10_over_31 rfl ?_
        refine gt_X10_150 (n := 37) C (by decide) dX10_over_34 rfl ?_
        refine ge_iload_n (n := 38) C 1 rfl dX10_over_37 rfl rfl ?_
        refine al_10 (n := 39) C (by decide) dX10_over_38 rfl (fun h_38 => ?_)
        refine ge_aload_n (n := 40) C 0 rfl dX10_over_39 rfl rfl ?_
        refine gt_X10_31 (n := 43) C (by decide) dX10_over_40 rfl ?_
        refine gt_X10_150 (n := 46) C (by decide) dX10_over_43 rfl ?_
        refine ge_iload_n (n := 47) C 2 rfl dX10_over_46 rfl rfl ?_
        refine al_10 (n := 48) C (by decide) dX10_over_47 rfl (fun h_47 => ?_)
        refine ge_callVi (n := 51) C (mX3_isOver hj (o0 := (Int32.toNatClampNeg a1)) (bd_c h_38 (by decide)) (o1 := (Int32.toNatClampNeg a2)) (bd_c h_47 (by decide)) S_16) gv_X10_278 (cl_11 (bd_c h_38 (by decide))) rfl rfl hc_X3_isOver ⟨Nat.le_of_ble_eq_true rfl, Nat.le_of_ble_eq_true rfl⟩ rfl rfl (Nat.le_of_ble_eq_true rfl) dX10_over_48 rfl (fun r_48 S_48 => ?_)
        refine ge_if_eq (t := 58) (n := 54) C dX10_over_51 (by decide) rfl (fun h_51 => ?_) (fun h_51 => ?_)
        · refine ge_iconst (v := 0) (n := 59) C dX10_over_58 (by decide) rfl ?_
          exact ge_iret C Rr dX10_over_59
        · refine ge_iconst (v := 1) (n := 55) C dX10_over_54 (by decide) rfl ?_
          refine ge_goto (n := 59) C dX10_over_55 (by decide) ?_
          exact ge_iret C Rr dX10_over_59
      · refine ge_ldc (n := 29) C kc_X10_149 dX10_over_27 rfl ?_
        exact ge_iret C Rr dX10_over_29
theorem dX10_quiet_0 : decode cX10_quiet 0 = .ok (.iload_n 1, 1) := by decide +kernel
theorem dX10_quiet_1 : decode cX10_quiet 1 = .ok (.iconst 0, 1) := by decide +kernel
theorem dX10_quiet_2 : decode cX10_quiet 2 = .ok (.bipush 60, 2) := by decide +kernel
theorem dX10_quiet_4 : decode cX10_quiet 4 = .ok (.invokestatic 77, 3) := by decide +kernel
theorem dX10_quiet_7 : decode cX10_quiet 7 = .ok (.ifCond .ne 13, 3) := by decide +kernel
theorem dX10_quiet_10 : decode cX10_quiet 10 = .ok (.iload_n 2, 1) := by decide +kernel
theorem dX10_quiet_11 : decode cX10_quiet 11 = .ok (.iconst 0, 1) := by decide +kernel
theorem dX10_quiet_12 : decode cX10_quiet 12 = .ok (.bipush 100, 2) := by decide +kernel
theorem dX10_quiet_14 : decode cX10_quiet 14 = .ok (.invokestatic 77, 3) := by decide +kernel
theorem dX10_quiet_17 : decode cX10_quiet 17 = .ok (.ifCond .eq 6, 3) := by decide +kernel
theorem dX10_quiet_20 : decode cX10_quiet 20 = .ok (.ldc 81, 2) := by decide +kernel
theorem dX10_quiet_22 : decode cX10_quiet 22 = .ok (.ireturn, 1) := by decide +kernel
theorem dX10_quiet_23 : decode cX10_quiet 23 = .ok (.ldc2_w 282, 3) := by decide +kernel
theorem dX10_quiet_26 : decode cX10_quiet 26 = .ok (.lstore_n 3, 1) := by decide +kernel
theorem dX10_quiet_27 : decode cX10_quiet 27 = .ok (.iconst 0, 1) := by decide +kernel
theorem dX10_quiet_28 : decode cX10_quiet 28 = .ok (.istore 5, 2) := by decide +kernel
theorem dX10_quiet_30 : decode cX10_quiet 30 = .ok (.iload 5, 2) := by decide +kernel
theorem dX10_quiet_32 : decode cX10_quiet 32 = .ok (.iload_n 1, 1) := by decide +kernel
theorem dX10_quiet_33 : decode cX10_quiet 33 = .ok (.if_icmp .ge 18, 3) := by decide +kernel
theorem dX10_quiet_36 : decode cX10_quiet 36 = .ok (.lload_n 3, 1) := by decide +kernel
theorem dX10_quiet_37 : decode cX10_quiet 37 = .ok (.iload_n 2, 1) := by decide +kernel
theorem dX10_quiet_38 : decode cX10_quiet 38 = .ok (.i2l, 1) := by decide +kernel
theorem dX10_quiet_39 : decode cX10_quiet 39 = .ok (.lmul, 1) := by decide +kernel
theorem dX10_quiet_40 : decode cX10_quiet 40 = .ok (.ldc2_w 284, 3) := by decide +kernel
theorem dX10_quiet_43 : decode cX10_quiet 43 = .ok (.ldiv, 1) := by decide +kernel
theorem dX10_quiet_44 : decode cX10_quiet 44 = .ok (.lstore_n 3, 1) := by decide +kernel
theorem dX10_quiet_45 : decode cX10_quiet 45 = .ok (.iinc 5 1, 3) := by decide +kernel
theorem dX10_quiet_48 : decode cX10_quiet 48 = .ok (.goto (-18), 3) := by decide +kernel
theorem dX10_quiet_51 : decode cX10_quiet 51 = .ok (.lload_n 3, 1) := by decide +kernel
theorem dX10_quiet_52 : decode cX10_quiet 52 = .ok (.l2i, 1) := by decide +kernel
theorem dX10_quiet_53 : decode cX10_quiet 53 = .ok (.ireturn, 1) := by decide +kernel
set_option maxRecDepth 100000 in
set_option maxHeartbeats 4000000 in
theorem mX10_quiet {w : WX} {adr : Nat → Nat → Nat} (hj : Ij adr) (a1 : Int32) (a2 : Int32) (S : St) : ∀ (l : Launch) (r : Int32) (S2 : St), fX10_quiet a1 a2 S = some (r, S2) → Mi l w adr yX10_quiet cX10_quiet 6 (some .int) 1 22 [.ref (adr 0 0), .int a1, .int a2] S r S2 := by
  refine mi_of (lv := [(0, .ref (adr 0 0)), (1, .int a1), (2, .int a2)]) hj (plainFor_of_name (by decide +kernel)) rfl (Nat.le_of_ble_eq_true rfl) (fun k C Rr => ?_)
  have C : Cx w adr k cX10_quiet RX10 6 1 22 := C
  refine ge_iload_n (n := 1) C 1 rfl dX10_quiet_0 rfl rfl ?_
  refine ge_iconst (v := 0) (n := 2) C dX10_quiet_1 (by decide) rfl ?_
  refine ge_bipush (v := 60) (n := 4) C dX10_quiet_2 (by decide) rfl ?_
  refine ge_callSi (n := 7) C (mX10_isOutside hj a1 (0 : Int32) (60 : Int32) S) gv_X10_77 hc_X10_isOutside ⟨Nat.le_of_ble_eq_true rfl, Nat.le_of_ble_eq_true rfl⟩ rfl rfl (Nat.le_of_ble_eq_true rfl) dX10_quiet_4 rfl (fun r_4 S_4 => ?_)
  refine ge_if_ne (t := 20) (n := 10) C dX10_quiet_7 (by decide) rfl (fun h_7 => ?_) (fun h_7 => ?_)
  · refine ge_ldc (n := 22) C kc_X10_81 dX10_quiet_20 rfl ?_
    exact ge_iret C Rr dX10_quiet_22
  · refine ge_iload_n (n := 11) C 2 rfl dX10_quiet_10 rfl rfl ?_
    refine ge_iconst (v := 0) (n := 12) C dX10_quiet_11 (by decide) rfl ?_
    refine ge_bipush (v := 100) (n := 14) C dX10_quiet_12 (by decide) rfl ?_
    refine ge_callSi (n := 17) C (mX10_isOutside hj a2 (0 : Int32) (100 : Int32) S_4) gv_X10_77 hc_X10_isOutside ⟨Nat.le_of_ble_eq_true rfl, Nat.le_of_ble_eq_true rfl⟩ rfl rfl (Nat.le_of_ble_eq_true rfl) dX10_quiet_14 rfl (fun r_14 S_14 => ?_)
    refine ge_if_eq (t := 23) (n := 20) C dX10_quiet_17 (by decide) rfl (fun h_17 => ?_) (fun h_17 => ?_)
    · refine ge_ldc2 (n := 26) C kl_X10_282 dX10_quiet_23 rfl ?_
      refine ge_lstore_n (n := 27) (lv2 := [(3, .long (1000000000 : Int64)), (0, .ref (adr 0 0)), (1, .int a1), (2, .int a2)]) C dX10_quiet_26 rfl rfl (by decide) rfl ?_
      refine ge_iconst (v := 0) (n := 28) C dX10_quiet_27 (by decide) rfl ?_
      refine ge_istore (n := 30) (lv2 := [(5, .int (0 : Int32)), (3, .long (1000000000 : Int64)), (0, .ref (adr 0 0)), (1, .int a1), (2, .int a2)]) C dX10_quiet_28 rfl (by decide) rfl ?_
      refine ge_jn (fun (jj : Int64 → Op) => ∀ (x3_51 : Int64), Ge w adr k 51 [(3, .long x3_51)] [] S_14 (jj x3_51)) (fun x3_51 => ?_) (fun kk30 hkk30 => ?_)
      · refine ge_lload_n (n := 52) C 0 rfl dX10_quiet_51 rfl rfl ?_
        refine ge_l2i (n := 53) C dX10_quiet_52 rfl ?_
        exact ge_iret C Rr dX10_quiet_53
      refine ge_sub [0, 1, 3, 4] rfl ?_
      refine ge_lop (fun (jj : Int32 → Int64 → Op) => ∀ (x5_30 : Int32) (x3_30 : Int64), Ge w adr k 30 [(5, .int x5_30), (3, .long x3_30), (1, .int a1), (2, .int a2)] [] S_14 (jj x5_30 x3_30)) (fun _ _ => ge_none) (fun ag30 hag30 x5_30 x3_30 => ?_) FU (0 : Int32) (1000000000 : Int64)
      refine ge_iload (n := 32) C 0 rfl dX10_quiet_30 rfl ?_
      refine ge_iload_n (n := 33) C 2 rfl dX10_quiet_32 rfl rfl ?_
      refine ge_icmp_ge (t := 51) (n := 36) C dX10_quiet_33 (by decide) rfl (fun h_33 => ?_) (fun h_33 => ?_)
      · refine ge_sub [1] rfl ?_
        exact hkk30 x3_30
      · refine ge_lload_n (n := 37) C 1 rfl dX10_quiet_36 rfl rfl ?_
        refine ge_iload_n (n := 38) C 3 rfl dX10_quiet_37 rfl rfl ?_
        refine ge_i2l (n := 39) C dX10_quiet_38 rfl ?_
        refine ge_lmul (n := 40) C dX10_quiet_39 rfl ?_
        refine ge_ldc2 (n := 43) C kl_X10_284 dX10_quiet_40 rfl ?_
        refine ge_ldiv (n := 44) C (by decide) dX10_quiet_43 rfl ?_
        refine ge_bl (fun x3_44 => ?_)
        refine ge_lstore_n (n := 45) (lv2 := [(3, .long x3_44), (5, .int x5_30), (1, .int a1), (2, .int a2)]) C dX10_quiet_44 rfl rfl (by decide) rfl ?_
        refine ge_iinc (n := 48) (v := (x5_30 + (1 : Int32))) (lv2 := [(5, .int (x5_30 + (1 : Int32))), (3, .long x3_44), (1, .int a1), (2, .int a2)]) C 1 rfl dX10_quiet_45 rfl rfl (by decide) rfl ?_
        refine ge_goto (n := 30) C dX10_quiet_48 (by decide) ?_
        exact hag30 (x5_30 + (1 : Int32)) x3_44
    · refine ge_ldc (n := 22) C kc_X10_81 dX10_quiet_20 rfl ?_
      exact ge_iret C Rr dX10_quiet_22
