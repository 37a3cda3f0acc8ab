theorem dX10_hear_0 : decode cX10_hear 0 = .ok (.aload_n 0, 1) := by decide +kernel
theorem dX10_hear_1 : decode cX10_hear 1 = .ok (.getfield 19, 3) := by decide +kernel
theorem dX10_hear_4 : decode cX10_hear 4 = .ok (.iload_n 1, 1) := by decide +kernel
theorem dX10_hear_5 : decode cX10_hear 5 = .ok (.invokevirtual 145, 3) := by decide +kernel
theorem dX10_hear_8 : decode cX10_hear 8 = .ok (.ifCond .eq 14, 3) := by decide +kernel
theorem dX10_hear_11 : decode cX10_hear 11 = .ok (.aload_n 0, 1) := by decide +kernel
theorem dX10_hear_12 : decode cX10_hear 12 = .ok (.getfield 19, 3) := by decide +kernel
theorem dX10_hear_15 : decode cX10_hear 15 = .ok (.iload_n 2, 1) := by decide +kernel
theorem dX10_hear_16 : decode cX10_hear 16 = .ok (.invokevirtual 178, 3) := by decide +kernel
theorem dX10_hear_19 : decode cX10_hear 19 = .ok (.ifCond .ne 6, 3) := by decide +kernel
theorem dX10_hear_22 : decode cX10_hear 22 = .ok (.ldc 149, 2) := by decide +kernel
theorem dX10_hear_24 : decode cX10_hear 24 = .ok (.ireturn, 1) := by decide +kernel
theorem dX10_hear_25 : decode cX10_hear 25 = .ok (.iload_n 3, 1) := by decide +kernel
theorem dX10_hear_26 : decode cX10_hear 26 = .ok (.iconst 0, 1) := by decide +kernel
theorem dX10_hear_27 : decode cX10_hear 27 = .ok (.bipush 99, 2) := by decide +kernel
theorem dX10_hear_29 : decode cX10_hear 29 = .ok (.invokestatic 77, 3) := by decide +kernel
theorem dX10_hear_32 : decode cX10_hear 32 = .ok (.ifCond .eq 6, 3) := by decide +kernel
theorem dX10_hear_35 : decode cX10_hear 35 = .ok (.ldc 81, 2) := by decide +kernel
theorem dX10_hear_37 : decode cX10_hear 37 = .ok (.ireturn, 1) := by decide +kernel
theorem dX10_hear_38 : decode cX10_hear 38 = .ok (.aload_n 0, 1) := by decide +kernel
theorem dX10_hear_39 : decode cX10_hear 39 = .ok (.getfield 52, 3) := by decide +kernel
theorem dX10_hear_42 : decode cX10_hear 42 = .ok (.getfield 106, 3) := by decide +kernel
theorem dX10_hear_45 : decode cX10_hear 45 = .ok (.bipush 6, 2) := by decide +kernel
theorem dX10_hear_47 : decode cX10_hear 47 = .ok (.if_icmp .lt 6, 3) := by decide +kernel
theorem dX10_hear_50 : decode cX10_hear 50 = .ok (.ldc 86, 2) := by decide +kernel
theorem dX10_hear_52 : decode cX10_hear 52 = .ok (.ireturn, 1) := by decide +kernel
theorem dX10_hear_53 : decode cX10_hear 53 = .ok (.aload_n 0, 1) := by decide +kernel
theorem dX10_hear_54 : decode cX10_hear 54 = .ok (.getfield 52, 3) := by decide +kernel
theorem dX10_hear_57 : decode cX10_hear 57 = .ok (.iload_n 1, 1) := by decide +kernel
theorem dX10_hear_58 : decode cX10_hear 58 = .ok (.iload_n 2, 1) := by decide +kernel
theorem dX10_hear_59 : decode cX10_hear 59 = .ok (.iload_n 3, 1) := by decide +kernel
theorem dX10_hear_60 : decode cX10_hear 60 = .ok (.invokevirtual 286, 3) := by decide +kernel
theorem dX10_hear_63 : decode cX10_hear 63 = .ok (.ireturn, 1) := by decide +kernel
set_option maxRecDepth 100000 in
set_option maxHeartbeats 4000000 in
theorem mX10_hear {w : WX} {adr : Nat → Nat → Nat} (hj : Ij adr) (a1 : Int32) (a2 : Int32) (a3 : Int32) (S : St) : ∀ (l : Launch) (r : Int32) (S2 : St), fX10_hear a1 a2 a3 S = some (r, S2) → Mi l w adr yX10_hear cX10_hear 4 (some .int) 1 23 [.ref (adr 0 0), .int a1, .int a2, .int a3] S r S2 := by
  refine mi_of (lv := [(0, .ref (adr 0 0)), (1, .int a1), (2, .int a2), (3, .int a3)]) hj (plainFor_of_name (by decide +kernel)) rfl (Nat.le_of_ble_eq_true rfl) (fun k C Rr => ?_)
  have C : Cx w adr k cX10_hear RX10 4 1 23 := C
  refine ge_aload_n (n := 1) C 0 rfl dX10_hear_0 rfl rfl ?_
  refine gt_X10_19 (n := 4) C (by decide) dX10_hear_1 rfl ?_
  refine ge_iload_n (n := 5) C 1 rfl dX10_hear_4 rfl rfl ?_
  refine ge_callVi (n := 8) C (mX6_hasMan hj (o0 := (pid (S 0 0 1))) (pid_lt _) a1 S) gv_X10_145 (cl_3 (pid_lt _)) rfl rfl hc_X6_hasMan ⟨Nat.le_of_ble_eq_true rfl, Nat.le_of_ble_eq_true rfl⟩ rfl rfl (Nat.le_of_ble_eq_true rfl) dX10_hear_5 rfl (fun r_5 S_5 => ?_)
  refine ge_if_eq (t := 22) (n := 11) C dX10_hear_8 (by decide) rfl (fun h_8 => ?_) (fun h_8 => ?_)
  · refine ge_ldc (n := 24) C kc_X10_149 dX10_hear_22 rfl ?_
    exact ge_iret C Rr dX10_hear_24
  · refine ge_aload_n (n := 12) C 0 rfl dX10_hear_11 rfl rfl ?_
    refine gt_X10_19 (n := 15) C (by decide) dX10_hear_12 rfl ?_
    refine ge_iload_n (n := 16) C 2 rfl dX10_hear_15 rfl rfl ?_
    refine ge_callVi (n := 19) C (mX6_hasSaying hj (o0 := (pid (S_5 0 0 1))) (pid_lt _) a2 S_5) gv_X10_178 (cl_3 (pid_lt _)) rfl rfl hc_X6_hasSaying ⟨Nat.le_of_ble_eq_true rfl, Nat.le_of_ble_eq_true rfl⟩ rfl rfl (Nat.le_of_ble_eq_true rfl) dX10_hear_16 rfl (fun r_16 S_16 => ?_)
    refine ge_if_ne (t := 25) (n := 22) C dX10_hear_19 (by decide) rfl (fun h_19 => ?_) (fun h_19 => ?_)
    · refine ge_iload_n (n := 26) C 3 rfl dX10_hear_25 rfl rfl ?_
      refine ge_iconst (v := 0) (n := 27) C dX10_hear_26 (by decide) rfl ?_
      refine ge_bipush (v := 99) (n := 29) C dX10_hear_27 (by decide) rfl ?_
      refine ge_callSi (n := 32) C (mX10_isOutside hj a3 (0 : Int32) (99 : Int32) S_16) gv_X10_77 hc_X10_isOutside ⟨Nat.le_of_ble_eq_true rfl, Nat.le_of_ble_eq_true rfl⟩ rfl rfl (Nat.le_of_ble_eq_true rfl) dX10_hear_29 rfl (fun r_29 S_29 => ?_)
      refine ge_if_eq (t := 38) (n := 35) C dX10_hear_32 (by decide) rfl (fun h_32 => ?_) (fun h_32 => ?_)
      · refine ge_aload_n (n := 39) C 0 rfl dX10_hear_38 rfl rfl ?_
        refine gt_X10_52 (n := 42) C (by decide) dX10_hear_39 rfl ?_
        refine gt_X10_106 (n := 45) C (by decide) dX10_hear_42 rfl ?_
        refine ge_bipush (v := 6) (n := 47) C dX10_hear_45 (by decide) rfl ?_
        refine ge_icmp_lt (t := 53) (n := 50) C dX10_hear_47 (by decide) rfl (fun h_47 => ?_) (fun h_47 => ?_)
        · refine ge_aload_n (n := 54) C 0 rfl dX10_hear_53 rfl rfl ?_
          refine gt_X10_52 (n := 57) C (by decide) dX10_hear_54 rfl ?_
          refine ge_iload_n (n := 58) C 1 rfl dX10_hear_57 rfl rfl ?_
          refine ge_iload_n (n := 59) C 2 rfl dX10_hear_58 rfl rfl ?_
          refine ge_iload_n (n := 60) C 3 rfl dX10_hear_59 rfl rfl ?_
          refine ge_callVi (n := 63) C (mX2_add hj a1 a2 a3 S_29) gv_X10_286 (cl_20 (by decide)) rfl rfl hc_X2_add ⟨Nat.le_of_ble_eq_true rfl, Nat.le_of_ble_eq_true rfl⟩ rfl rfl (Nat.le_of_ble_eq_true rfl) dX10_hear_60 rfl (fun r_60 S_60 => ?_)
          exact ge_iret C Rr dX10_hear_63
        · refine ge_ldc (n := 52) C kc_X10_86 dX10_hear_50 rfl ?_
          exact ge_iret C Rr dX10_hear_52
      · refine ge_ldc (n := 37) C kc_X10_81 dX10_hear_35 rfl ?_
        exact ge_iret C Rr dX10_hear_37
    · refine ge_ldc (n := 24) C kc_X10_149 dX10_hear_22 rfl ?_
      exact ge_iret C Rr dX10_hear_24
theorem dX10_stays_0 : decode cX10_stays 0 = .ok (.aload_n 0, 1) := by decide +kernel
theorem dX10_stays_1 : decode cX10_stays 1 = .ok (.getfield 19, 3) := by decide +kernel
theorem dX10_stays_4 : decode cX10_stays 4 = .ok (.iload_n 1, 1) := by decide +kernel
theorem dX10_stays_5 : decode cX10_stays 5 = .ok (.invokevirtual 145, 3) := by decide +kernel
theorem dX10_stays_8 : decode cX10_stays 8 = .ok (.ifCond .ne 6, 3) := by decide +kernel
theorem dX10_stays_11 : decode cX10_stays 11 = .ok (.ldc 149, 2) := by decide +kernel
theorem dX10_stays_13 : decode cX10_stays 13 = .ok (.ireturn, 1) := by decide +kernel
theorem dX10_stays_14 : decode cX10_stays 14 = .ok (.iload_n 2, 1) := by decide +kernel
theorem dX10_stays_15 : decode cX10_stays 15 = .ok (.iconst 0, 1) := by decide +kernel
theorem dX10_stays_16 : decode cX10_stays 16 = .ok (.iconst 2, 1) := by decide +kernel
theorem dX10_stays_17 : decode cX10_stays 17 = .ok (.invokestatic 77, 3) := by decide +kernel
theorem dX10_stays_20 : decode cX10_stays 20 = .ok (.ifCond .eq 6, 3) := by decide +kernel
theorem dX10_stays_23 : decode cX10_stays 23 = .ok (.ldc 81, 2) := by decide +kernel
theorem dX10_stays_25 : decode cX10_stays 25 = .ok (.ireturn, 1) := by decide +kernel
theorem dX10_stays_26 : decode cX10_stays 26 = .ok (.aload_n 0, 1) := by decide +kernel
theorem dX10_stays_27 : decode cX10_stays 27 = .ok (.getfield 66, 3) := by decide +kernel
theorem dX10_stays_30 : decode cX10_stays 30 = .ok (.aload_n 0, 1) := by decide +kernel
theorem dX10_stays_31 : decode cX10_stays 31 = .ok (.getfield 19, 3) := by decide +kernel
theorem dX10_stays_34 : decode cX10_stays 34 = .ok (.iload_n 1, 1) := by decide +kernel
theorem dX10_stays_35 : decode cX10_stays 35 = .ok (.invokevirtual 289, 3) := by decide +kernel
theorem dX10_stays_38 : decode cX10_stays 38 = .ok (.iconst 0, 1) := by decide +kernel
theorem dX10_stays_39 : decode cX10_stays 39 = .ok (.istore_n 3, 1) := by decide +kernel
theorem dX10_stays_40 : decode cX10_stays 40 = .ok (.iload_n 3, 1) := by decide +kernel
theorem dX10_stays_41 : decode cX10_stays 41 = .ok (.bipush 60, 2) := by decide +kernel
theorem dX10_stays_43 : decode cX10_stays 43 = .ok (.if_icmp .gt 46, 3) := by decide +kernel
theorem dX10_stays_46 : decode cX10_stays 46 = .ok (.aload_n 0, 1) := by decide +kernel
theorem dX10_stays_47 : decode cX10_stays 47 = .ok (.getfield 52, 3) := by decide +kernel
theorem dX10_stays_50 : decode cX10_stays 50 = .ok (.aload_n 0, 1) := by decide +kernel
theorem dX10_stays_51 : decode cX10_stays 51 = .ok (.getfield 19, 3) := by decide +kernel
theorem dX10_stays_54 : decode cX10_stays 54 = .ok (.aload_n 0, 1) := by decide +kernel
theorem dX10_stays_55 : decode cX10_stays 55 = .ok (.getfield 66, 3) := by decide +kernel
theorem dX10_stays_58 : decode cX10_stays 58 = .ok (.getfield 229, 3) := by decide +kernel
theorem dX10_stays_61 : decode cX10_stays 61 = .ok (.iload_n 1, 1) := by decide +kernel
theorem dX10_stays_62 : decode cX10_stays 62 = .ok (.invokevirtual 293, 3) := by decide +kernel
theorem dX10_stays_65 : decode cX10_stays 65 = .ok (.ifCond .eq 11, 3) := by decide +kernel
theorem dX10_stays_68 : decode cX10_stays 68 = .ok (.aload_n 0, 1) := by decide +kernel
theorem dX10_stays_69 : decode cX10_stays 69 = .ok (.getfield 66, 3) := by decide +kernel
theorem dX10_stays_72 : decode cX10_stays 72 = .ok (.iload_n 3, 1) := by decide +kernel
theorem dX10_stays_73 : decode cX10_stays 73 = .ok (.invokevirtual 250, 3) := by decide +kernel
theorem dX10_stays_76 : decode cX10_stays 76 = .ok (.aload_n 0, 1) := by decide +kernel
theorem dX10_stays_77 : decode cX10_stays 77 = .ok (.getfield 66, 3) := by decide +kernel
theorem dX10_stays_80 : decode cX10_stays 80 = .ok (.invokevirtual 228, 3) := by decide +kernel
theorem dX10_stays_83 : decode cX10_stays 83 = .ok (.iinc 3 1, 3) := by decide +kernel
theorem dX10_stays_86 : decode cX10_stays 86 = .ok (.goto (-46), 3) := by decide +kernel
theorem dX10_stays_89 : decode cX10_stays 89 = .ok (.aload_n 0, 1) := by decide +kernel
theorem dX10_stays_90 : decode cX10_stays 90 = .ok (.getfield 66, 3) := by decide +kernel
theorem dX10_stays_93 : decode cX10_stays 93 = .ok (.iload_n 2, 1) := by decide +kernel
theorem dX10_stays_94 : decode cX10_stays 94 = .ok (.invokevirtual 254, 3) := by decide +kernel
theorem dX10_stays_97 : decode cX10_stays 97 = .ok (.ireturn, 1) := by decide +kernel
set_option maxRecDepth 100000 in
set_option maxHeartbeats 4000000 in
theorem mX10_stays {w : WX} {adr : Nat → Nat → Nat} (hj : Ij adr) (a1 : Int32) (a2 : Int32) (S : St) : ∀ (l : Launch) (r : Int32) (S2 : St), fX10_stays a1 a2 S = some (r, S2) → Mi l w adr yX10_stays cX10_stays 4 (some .int) 5 108 [.ref (adr 0 0), .int a1, .int a2] S r S2 := by
  refine mi_of (lv := [(0, .ref (adr 0 0)), (1, .int a1), (2, .int a2)]) hj (plainFor_of_name (by decide +kernel)) rfl (Nat.le_of_ble_eq_true rfl) (fun k C Rr => ?_)
  have C : Cx w adr k cX10_stays RX10 4 5 108 := C
  refine ge_aload_n (n := 1) C 0 rfl dX10_stays_0 rfl rfl ?_
  refine gt_X10_19 (n := 4) C (by decide) dX10_stays_1 rfl ?_
  refine ge_iload_n (n := 5) C 1 rfl dX10_stays_4 rfl rfl ?_
  refine ge_callVi (n := 8) C (mX6_hasMan hj (o0 := (pid (S 0 0 1))) (pid_lt _) a1 S) gv_X10_145 (cl_3 (pid_lt _)) rfl rfl hc_X6_hasMan ⟨Nat.le_of_ble_eq_true rfl, Nat.le_of_ble_eq_true rfl⟩ rfl rfl (Nat.le_of_ble_eq_true rfl) dX10_stays_5 rfl (fun r_5 S_5 => ?_)
  refine ge_if_ne (t := 14) (n := 11) C dX10_stays_8 (by decide) rfl (fun h_8 => ?_) (fun h_8 => ?_)
  · refine ge_iload_n (n := 15) C 2 rfl dX10_stays_14 rfl rfl ?_
    refine ge_iconst (v := 0) (n := 16) C dX10_stays_15 (by decide) rfl ?_
    refine ge_iconst (v := 2) (n := 17) C dX10_stays_16 (by decide) rfl ?_
    refine ge_callSi (n := 20) C (mX10_isOutside hj a2 (0 : Int32) (2 : Int32) S_5) gv_X10_77 hc_X10_isOutside ⟨Nat.le_of_ble_eq_true rfl, Nat.le_of_ble_eq_true rfl⟩ rfl rfl (Nat.le_of_ble_eq_true rfl) dX10_stays_17 rfl (fun r_17 S_17 => ?_)
    refine ge_if_eq (t := 26) (n := 23) C dX10_stays_20 (by decide) rfl (fun h_20 => ?_) (fun h_20 => ?_)
    · refine ge_aload_n (n := 27) C 0 rfl dX10_stays_26 rfl rfl ?_
      refine gt_X10_66 (n := 30) C (by decide) dX10_stays_27 rfl ?_
      refine ge_aload_n (n := 31) C 0 rfl dX10_stays_30 rfl rfl ?_
      refine gt_X10_19 (n := 34) C (by decide) dX10_stays_31 rfl ?_
      refine ge_iload_n (n := 35) C 1 rfl dX10_stays_34 rfl rfl ?_
      refine ge_callVv (n := 38) C (mX9_startFirst hj (o1 := (pid (S_17 0 0 1))) (pid_lt _) a1 S_17) gv_X10_289 (cl_30 (by decide)) rfl rfl hc_X9_startFirst ⟨Nat.le_of_ble_eq_true rfl, Nat.le_of_ble_eq_true rfl⟩ rfl rfl (Nat.le_of_ble_eq_true rfl) dX10_stays_35 rfl (fun _ S_35 => ?_)
      refine ge_iconst (v := 0) (n := 39) C dX10_stays_38 (by decide) rfl ?_
      refine ge_istore_n (n := 40) (lv2 := [(3, .int (0 : Int32)), (0, .ref (adr 0 0)), (1, .int a1), (2, .int a2)]) C dX10_stays_39 rfl rfl (by decide) rfl ?_
      refine ge_jn (fun (jj : St → Op) => ∀ (S_89 : St), Ge w adr k 89 [(0, .ref (adr 0 0)), (2, .int a2)] [] S_89 (jj S_89)) (fun S_89 => ?_) (fun kk40 hkk40 => ?_)
      · refine ge_aload_n (n := 90) C 0 rfl dX10_stays_89 rfl rfl ?_
        refine gt_X10_66 (n := 93) C (by decide) dX10_stays_90 rfl ?_
        refine ge_iload_n (n := 94) C 1 rfl dX10_stays_93 rfl rfl ?_
        refine ge_callVi (n := 97) C (mX9_noted hj a2 S_89) gv_X10_254 (cl_30 (by decide)) rfl rfl hc_X9_noted ⟨Nat.le_of_ble_eq_true rfl, Nat.le_of_ble_eq_true rfl⟩ rfl rfl (Nat.le_of_ble_eq_true rfl) dX10_stays_94 rfl (fun r_94 S_94 => ?_)
        exact ge_iret C Rr dX10_stays_97
      refine ge_lop (fun (jj : Int32 → St → Op) => ∀ (x3_40 : Int32) (S_40 : St), Ge w adr k 40 [(3, .int x3_40), (0, .ref (adr 0 0)), (1, .int a1), (2, .int a2)] [] S_40 (jj x3_40 S_40)) (fun _ _ => ge_none) (fun ag40 hag40 x3_40 S_40 => ?_) FU (0 : Int32) S_35
      refine ge_iload_n (n := 41) C 0 rfl dX10_stays_40 rfl rfl ?_
      refine ge_bipush (v := 60) (n := 43) C dX10_stays_41 (by decide) rfl ?_
      refine ge_icmp_gt (t := 89) (n := 46) C dX10_stays_43 (by decide) rfl (fun h_43 => ?_) (fun h_43 => ?_)
      · refine ge_sub [1, 3] rfl ?_
        exact hkk40 S_40
      · refine ge_aload_n (n := 47) C 1 rfl dX10_stays_46 rfl rfl ?_
        refine gt_X10_52 (n := 50) C (by decide) dX10_stays_47 rfl ?_
        refine ge_aload_n (n := 51) C 1 rfl dX10_stays_50 rfl rfl ?_
        refine gt_X10_19 (n := 54) C (by decide) dX10_stays_51 rfl ?_
        refine ge_aload_n (n := 55) C 1 rfl dX10_stays_54 rfl rfl ?_
        refine gt_X10_66 (n := 58) C (by decide) dX10_stays_55 rfl ?_
        refine gt_X10_229 (n := 61) C (by decide) dX10_stays_58 rfl ?_
        refine ge_iload_n (n := 62) C 2 rfl dX10_stays_61 rfl rfl ?_
        refine ge_callVi (n := 65) C (mX2_agree hj (o1 := (pid (S_40 0 0 1))) (pid_lt _) (o2 := 6) (by decide) a1 S_40) gv_X10_293 (cl_20 (by decide)) rfl rfl hc_X2_agree ⟨Nat.le_of_ble_eq_true rfl, Nat.le_of_ble_eq_true rfl⟩ rfl rfl (Nat.le_of_ble_eq_true rfl) dX10_stays_62 rfl (fun r_62 S_62 => ?_)
        refine ge_jn (fun (jj : St → Op) => ∀ (S_76 : St), Ge w adr k 76 [(3, .int x3_40), (0, .ref (adr 0 0)), (1, .int a1), (2, .int a2)] [] S_76 (jj S_76)) (fun S_76 => ?_) (fun j76 hj76 => ?_)
        · refine ge_aload_n (n := 77) C 1 rfl dX10_stays_76 rfl rfl ?_
          refine gt_X10_66 (n := 80) C (by decide) dX10_stays_77 rfl ?_
          refine ge_callVv (n := 83) C (mX9_passMonth hj S_76) gv_X10_228 (cl_30 (by decide)) rfl rfl hc_X9_passMonth ⟨Nat.le_of_ble_eq_true rfl, Nat.le_of_ble_eq_true rfl⟩ rfl rfl (Nat.le_of_ble_eq_true rfl) dX10_stays_80 rfl (fun _ S_80 => ?_)
          refine ge_iinc (n := 86) (v := (x3_40 + (1 : Int32))) (lv2 := [(3, .int (x3_40 + (1 : Int32))), (0, .ref (adr 0 0)), (1, .int a1), (2, .int a2)]) C 0 rfl dX10_stays_83 rfl rfl (by decide) rfl ?_
          refine ge_goto (n := 40) C dX10_stays_86 (by decide) ?_
          exact hag40 (x3_40 + (1 : Int32)) S_80
        refine ge_if_eq (t := 76) (n := 68) C dX10_stays_65 (by decide) rfl (fun h_65 => ?_) (fun h_65 => ?_)
        · exact hj76 S_62
        · refine ge_aload_n (n := 69) C 1 rfl dX10_stays_68 rfl rfl ?_
          refine gt_X10_66 (n := 72) C (by decide) dX10_stays_69 rfl ?_
          refine ge_iload_n (n := 73) C 0 rfl dX10_stays_72 rfl rfl ?_
          refine ge_callVv (n := 76) C (mX9_note hj x3_40 S_62) gv_X10_250 (cl_30 (by decide)) rfl rfl hc_X9_note ⟨Nat.le_of_ble_eq_true rfl, Nat.le_of_ble_eq_true rfl⟩ rfl rfl (Nat.le_of_ble_eq_true rfl) dX10_stays_73 rfl (fun _ S_73 => ?_)
          exact hj76 S_73
    · refine ge_ldc (n := 25) C kc_X10_81 dX10_stays_23 rfl ?_
      exact ge_iret C Rr dX10_stays_25
  · refine ge_ldc (n := 13) C kc_X10_149 dX10_stays_11 rfl ?_
    exact ge_iret C Rr dX10_stays_13
theorem dX10_ask_0 : decode cX10_ask 0 = .ok (.aload_n 0, 1) := by decide +kernel
theorem dX10_ask_1 : decode cX10_ask 1 = .ok (.getfield 19, 3) := by decide +kernel
theorem dX10_ask_4 : decode cX10_ask 4 = .ok (.iload_n 1, 1) := by decide +kernel
theorem dX10_ask_5 : decode cX10_ask 5 = .ok (.invokevirtual 145, 3) := by decide +kernel
theorem dX10_ask_8 : decode cX10_ask 8 = .ok (.ifCond .ne 6, 3) := by decide +kernel
theorem dX10_ask_11 : decode cX10_ask 11 = .ok (.ldc 149, 2) := by decide +kernel
theorem dX10_ask_13 : decode cX10_ask 13 = .ok (.ireturn, 1) := by decide +kernel
theorem dX10_ask_14 : decode cX10_ask 14 = .ok (.aload_n 0, 1) := by decide +kernel
theorem dX10_ask_15 : decode cX10_ask 15 = .ok (.getfield 52, 3) := by decide +kernel
theorem dX10_ask_18 : decode cX10_ask 18 = .ok (.invokevirtual 297, 3) := by decide +kernel
theorem dX10_ask_21 : decode cX10_ask 21 = .ok (.aload_n 0, 1) := by decide +kernel
theorem dX10_ask_22 : decode cX10_ask 22 = .ok (.getfield 66, 3) := by decide +kernel
theorem dX10_ask_25 : decode cX10_ask 25 = .ok (.aload_n 0, 1) := by decide +kernel
theorem dX10_ask_26 : decode cX10_ask 26 = .ok (.getfield 19, 3) := by decide +kernel
theorem dX10_ask_29 : decode cX10_ask 29 = .ok (.iload_n 1, 1) := by decide +kernel
theorem dX10_ask_30 : decode cX10_ask 30 = .ok (.invokevirtual 289, 3) := by decide +kernel
theorem dX10_ask_33 : decode cX10_ask 33 = .ok (.iconst 0, 1) := by decide +kernel
theorem dX10_ask_34 : decode cX10_ask 34 = .ok (.istore_n 2, 1) := by decide +kernel
theorem dX10_ask_35 : decode cX10_ask 35 = .ok (.iload_n 2, 1) := by decide +kernel
theorem dX10_ask_36 : decode cX10_ask 36 = .ok (.bipush 60, 2) := by decide +kernel
theorem dX10_ask_38 : decode cX10_ask 38 = .ok (.if_icmp .gt 56, 3) := by decide +kernel
theorem dX10_ask_41 : decode cX10_ask 41 = .ok (.aload_n 0, 1) := by decide +kernel
theorem dX10_ask_42 : decode cX10_ask 42 = .ok (.getfield 52, 3) := by decide +kernel
theorem dX10_ask_45 : decode cX10_ask 45 = .ok (.aload_n 0, 1) := by decide +kernel
theorem dX10_ask_46 : decode cX10_ask 46 = .ok (.getfield 19, 3) := by decide +kernel
theorem dX10_ask_49 : decode cX10_ask 49 = .ok (.aload_n 0, 1) := by decide +kernel
theorem dX10_ask_50 : decode cX10_ask 50 = .ok (.getfield 66, 3) := by decide +kernel
theorem dX10_ask_53 : decode cX10_ask 53 = .ok (.getfield 229, 3) := by decide +kernel
theorem dX10_ask_56 : decode cX10_ask 56 = .ok (.iload_n 1, 1) := by decide +kernel
theorem dX10_ask_57 : decode cX10_ask 57 = .ok (.invokevirtual 293, 3) := by decide +kernel
theorem dX10_ask_60 : decode cX10_ask 60 = .ok (.ifCond .eq 21, 3) := by decide +kernel
theorem dX10_ask_63 : decode cX10_ask 63 = .ok (.aload_n 0, 1) := by decide +kernel
theorem dX10_ask_64 : decode cX10_ask 64 = .ok (.getfield 52, 3) := by decide +kernel
theorem dX10_ask_67 : decode cX10_ask 67 = .ok (.aload_n 0, 1) := by decide +kernel
theorem dX10_ask_68 : decode cX10_ask 68 = .ok (.getfield 19, 3) := by decide +kernel
theorem dX10_ask_71 : decode cX10_ask 71 = .ok (.aload_n 0, 1) := by decide +kernel
theorem dX10_ask_72 : decode cX10_ask 72 = .ok (.getfield 66, 3) := by decide +kernel
theorem dX10_ask_75 : decode cX10_ask 75 = .ok (.getfield 229, 3) := by decide +kernel
theorem dX10_ask_78 : decode cX10_ask 78 = .ok (.invokevirtual 300, 3) := by decide +kernel
theorem dX10_ask_81 : decode cX10_ask 81 = .ok (.aload_n 0, 1) := by decide +kernel
theorem dX10_ask_82 : decode cX10_ask 82 = .ok (.getfield 66, 3) := by decide +kernel
theorem dX10_ask_85 : decode cX10_ask 85 = .ok (.invokevirtual 228, 3) := by decide +kernel
theorem dX10_ask_88 : decode cX10_ask 88 = .ok (.iinc 2 1, 3) := by decide +kernel
theorem dX10_ask_91 : decode cX10_ask 91 = .ok (.goto (-56), 3) := by decide +kernel
theorem dX10_ask_94 : decode cX10_ask 94 = .ok (.aload_n 0, 1) := by decide +kernel
theorem dX10_ask_95 : decode cX10_ask 95 = .ok (.getfield 52, 3) := by decide +kernel
theorem dX10_ask_98 : decode cX10_ask 98 = .ok (.aload_n 0, 1) := by decide +kernel
theorem dX10_ask_99 : decode cX10_ask 99 = .ok (.getfield 19, 3) := by decide +kernel
theorem dX10_ask_102 : decode cX10_ask 102 = .ok (.getfield 120, 3) := by decide +kernel
theorem dX10_ask_105 : decode cX10_ask 105 = .ok (.invokevirtual 304, 3) := by decide +kernel
theorem dX10_ask_108 : decode cX10_ask 108 = .ok (.ireturn, 1) := by decide +kernel
set_option maxRecDepth 100000 in
set_option maxHeartbeats 4000000 in
theorem mX10_ask {w : WX} {adr : Nat → Nat → Nat} (hj : Ij adr) (a1 : Int32) (S : St) : ∀ (l : Launch) (r : Int32) (S2 : St), fX10_ask a1 S = some (r, S2) → Mi l w adr yX10_ask cX10_ask 3 (some .int) 5 108 [.ref (adr 0 0), .int a1] S r S2 := by
  refine mi_of (lv := [(0, .ref (adr 0 0)), (1, .int a1)]) hj (plainFor_of_name (by decide +kernel)) rfl (Nat.le_of_ble_eq_true rfl) (fun k C Rr => ?_)
  have C : Cx w adr k cX10_ask RX10 3 5 108 := C
  refine ge_aload_n (n := 1) C 0 rfl dX10_ask_0 rfl rfl ?_
  refine gt_X10_19 (n := 4) C (by decide) dX10_ask_1 rfl ?_
  refine ge_iload_n (n := 5) C 1 rfl dX10_ask_4 rfl rfl ?_
  refine ge_callVi (n := 8) C (mX6_hasMan hj (o0 := (pid (S 0 0 1))) (pid_lt _) a1 S) gv_X10_145 (cl_3 (pid_lt _)) rfl rfl hc_X6_hasMan ⟨Nat.le_of_ble_eq_true rfl, Nat.le_of_ble_eq_true rfl⟩ rfl rfl (Nat.le_of_ble_eq_true rfl) dX10_ask_5 rfl (fun r_5 S_5 => ?_)
  refine ge_if_ne (t := 14) (n := 11) C dX10_ask_8 (by decide) rfl (fun h_8 => ?_) (fun h_8 => ?_)
  · refine ge_aload_n (n := 15) C 0 rfl dX10_ask_14 rfl rfl ?_
    refine gt_X10_52 (n := 18) C (by decide) dX10_ask_15 rfl ?_
    refine ge_callVv (n := 21) C (mX2_clearParts hj S_5) gv_X10_297 (cl_20 (by decide)) rfl rfl hc_X2_clearParts ⟨Nat.le_of_ble_eq_true rfl, Nat.le_of_ble_eq_true rfl⟩ rfl rfl (Nat.le_of_ble_eq_true rfl) dX10_ask_18 rfl (fun _ S_18 => ?_)
    refine ge_aload_n (n := 22) C 0 rfl dX10_ask_21 rfl rfl ?_
    refine gt_X10_66 (n := 25) C (by decide) dX10_ask_22 rfl ?_
    refine ge_aload_n (n := 26) C 0 rfl dX10_ask_25 rfl rfl ?_
    refine gt_X10_19 (n := 29) C (by decide) dX10_ask_26 rfl ?_
    refine ge_iload_n (n := 30) C 1 rfl dX10_ask_29 rfl rfl ?_
    refine ge_callVv (n := 33) C (mX9_startFirst hj (o1 := (pid (S_18 0 0 1))) (pid_lt _) a1 S_18) gv_X10_289 (cl_30 (by decide)) rfl rfl hc_X9_startFirst ⟨Nat.le_of_ble_eq_true rfl, Nat.le_of_ble_eq_true rfl⟩ rfl rfl (Nat.le_of_ble_eq_true rfl) dX10_ask_30 rfl (fun _ S_30 => ?_)
    refine ge_iconst (v := 0) (n := 34) C dX10_ask_33 (by decide) rfl ?_
    refine ge_istore_n (n := 35) (lv2 := [(2, .int (0 : Int32)), (0, .ref (adr 0 0)), (1, .int a1)]) C dX10_ask_34 rfl rfl (by decide) rfl ?_
    refine ge_jn (fun (jj : St → Op) => ∀ (S_94 : St), Ge w adr k 94 [(0, .ref (adr 0 0))] [] S_94 (jj S_94)) (fun S_94 => ?_) (fun kk35 hkk35 => ?_)
    · refine ge_aload_n (n := 95) C 0 rfl dX10_ask_94 rfl rfl ?_
      refine gt_X10_52 (n := 98) C (by decide) dX10_ask_95 rfl ?_
      refine ge_aload_n (n := 99) C 0 rfl dX10_ask_98 rfl rfl ?_
      refine gt_X10_19 (n := 102) C (by decide) dX10_ask_99 rfl ?_
      refine gt_X10_120 (n := 105) C (pid_lt _) dX10_ask_102 rfl ?_
      refine ge_callVi (n := 108) C (mX2_bestParting hj (S_94 3 (pid (S_94 0 0 1)) 3) S_94) gv_X10_304 (cl_20 (by decide)) rfl rfl hc_X2_bestParting ⟨Nat.le_of_ble_eq_true rfl, Nat.le_of_ble_eq_true rfl⟩ rfl rfl (Nat.le_of_ble_eq_true rfl) dX10_ask_105 rfl (fun r_105 S_105 => ?_)
      exact ge_iret C Rr dX10_ask_108
    refine ge_lop (fun (jj : Int32 → St → Op) => ∀ (x2_35 : Int32) (S_35 : St), Ge w adr k 35 [(2, .int x2_35), (0, .ref (adr 0 0)), (1, .int a1)] [] S_35 (jj x2_35 S_35)) (fun _ _ => ge_none) (fun ag35 hag35 x2_35 S_35 => ?_) FU (0 : Int32) S_30
    refine ge_iload_n (n := 36) C 0 rfl dX10_ask_35 rfl rfl ?_
    refine ge_bipush (v := 60) (n := 38) C dX10_ask_36 (by decide) rfl ?_
    refine ge_icmp_gt (t := 94) (n := 41) C dX10_ask_38 (by decide) rfl (fun h_38 => ?_) (fun h_38 => ?_)
    · refine ge_sub [1] rfl ?_
      exact hkk35 S_35
    · refine ge_aload_n (n := 42) C 1 rfl dX10_ask_41 rfl rfl ?_
      refine gt_X10_52 (n := 45) C (by decide) dX10_ask_42 rfl ?_
      refine ge_aload_n (n := 46) C 1 rfl dX10_ask_45 rfl rfl ?_
      refine gt_X10_19 (n := 49) C (by decide) dX10_ask_46 rfl ?_
      refine ge_aload_n (n := 50) C 1 rfl dX10_ask_49 rfl rfl ?_
      refine gt_X10_66 (n := 53) C (by decide) dX10_ask_50 rfl ?_
      refine gt_X10_229 (n := 56) C (by decide) dX10_ask_53 rfl ?_
      refine ge_iload_n (n := 57) C 2 rfl dX10_ask_56 rfl rfl ?_
      refine ge_callVi (n := 60) C (mX2_agree hj (o1 := (pid (S_35 0 0 1))) (pid_lt _) (o2 := 6) (by decide) a1 S_35) gv_X10_293 (cl_20 (by decide)) rfl rfl hc_X2_agree ⟨Nat.le_of_ble_eq_true rfl, Nat.le_of_ble_eq_true rfl⟩ rfl rfl (Nat.le_of_ble_eq_true rfl) dX10_ask_57 rfl (fun r_57 S_57 => ?_)
      refine ge_jn (fun (jj : St → Op) => ∀ (S_81 : St), Ge w adr k 81 [(2, .int x2_35), (0, .ref (adr 0 0)), (1, .int a1)] [] S_81 (jj S_81)) (fun S_81 => ?_) (fun j81 hj81 => ?_)
      · refine ge_aload_n (n := 82) C 1 rfl dX10_ask_81 rfl rfl ?_
        refine gt_X10_66 (n := 85) C (by decide) dX10_ask_82 rfl ?_
        refine ge_callVv (n := 88) C (mX9_passMonth hj S_81) gv_X10_228 (cl_30 (by decide)) rfl rfl hc_X9_passMonth ⟨Nat.le_of_ble_eq_true rfl, Nat.le_of_ble_eq_true rfl⟩ rfl rfl (Nat.le_of_ble_eq_true rfl) dX10_ask_85 rfl (fun _ S_85 => ?_)
        refine ge_iinc (n := 91) (v := (x2_35 + (1 : Int32))) (lv2 := [(2, .int (x2_35 + (1 : Int32))), (0, .ref (adr 0 0)), (1, .int a1)]) C 0 rfl dX10_ask_88 rfl rfl (by decide) rfl ?_
        refine ge_goto (n := 35) C dX10_ask_91 (by decide) ?_
        exact hag35 (x2_35 + (1 : Int32)) S_85
      refine ge_if_eq (t := 81) (n := 63) C dX10_ask_60 (by decide) rfl (fun h_60 => ?_) (fun h_60 => ?_)
      · exact hj81 S_57
      · refine ge_aload_n (n := 64) C 1 rfl dX10_ask_63 rfl rfl ?_
        refine gt_X10_52 (n := 67) C (by decide) dX10_ask_64 rfl ?_
        refine ge_aload_n (n := 68) C 1 rfl dX10_ask_67 rfl rfl ?_
        refine gt_X10_19 (n := 71) C (by decide) dX10_ask_68 rfl ?_
        refine ge_aload_n (n := 72) C 1 rfl dX10_ask_71 rfl rfl ?_
        refine gt_X10_66 (n := 75) C (by decide) dX10_ask_72 rfl ?_
        refine gt_X10_229 (n := 78) C (by decide) dX10_ask_75 rfl ?_
        refine ge_callVv (n := 81) C (mX2_part hj (o1 := (pid (S_57 0 0 1))) (pid_lt _) (o2 := 6) (by decide) S_57) gv_X10_300 (cl_20 (by decide)) rfl rfl hc_X2_part ⟨Nat.le_of_ble_eq_true rfl, Nat.le_of_ble_eq_true rfl⟩ rfl rfl (Nat.le_of_ble_eq_true rfl) dX10_ask_78 rfl (fun _ S_78 => ?_)
        exact hj81 S_78
  · refine ge_ldc (n := 13) C kc_X10_149 dX10_ask_11 rfl ?_
    exact ge_iret C Rr dX10_ask_13
theorem dX10_write_0 : decode cX10_write 0 = .ok (.aload_n 0, 1) := by decide +kernel
theorem dX10_write_1 : decode cX10_write 1 = .ok (.getfield 19, 3) := by decide +kernel
theorem dX10_write_4 : decode cX10_write 4 = .ok (.iload_n 1, 1) := by decide +kernel
theorem dX10_write_5 : decode cX10_write 5 = .ok (.invokevirtual 145, 3) := by decide +kernel
theorem dX10_write_8 : decode cX10_write 8 = .ok (.ifCond .ne 6, 3) := by decide +kernel
theorem dX10_write_11 : decode cX10_write 11 = .ok (.ldc 149, 2) := by decide +kernel
theorem dX10_write_13 : decode cX10_write 13 = .ok (.ireturn, 1) := by decide +kernel
theorem dX10_write_14 : decode cX10_write 14 = .ok (.iload_n 2, 1) := by decide +kernel
theorem dX10_write_15 : decode cX10_write 15 = .ok (.iconst 0, 1) := by decide +kernel
theorem dX10_write_16 : decode cX10_write 16 = .ok (.ldc_w 307, 3) := by decide +kernel
theorem dX10_write_19 : decode cX10_write 19 = .ok (.invokestatic 77, 3) := by decide +kernel
theorem dX10_write_22 : decode cX10_write 22 = .ok (.ifCond .eq 6, 3) := by decide +kernel
theorem dX10_write_25 : decode cX10_write 25 = .ok (.ldc 81, 2) := by decide +kernel
theorem dX10_write_27 : decode cX10_write 27 = .ok (.ireturn, 1) := by decide +kernel
theorem dX10_write_28 : decode cX10_write 28 = .ok (.aload_n 0, 1) := by decide +kernel
theorem dX10_write_29 : decode cX10_write 29 = .ok (.getfield 59, 3) := by decide +kernel
theorem dX10_write_32 : decode cX10_write 32 = .ok (.getfield 107, 3) := by decide +kernel
theorem dX10_write_35 : decode cX10_write 35 = .ok (.bipush 15, 2) := by decide +kernel
theorem dX10_write_37 : decode cX10_write 37 = .ok (.if_icmp .lt 6, 3) := by decide +kernel
theorem dX10_write_40 : decode cX10_write 40 = .ok (.ldc 86, 2) := by decide +kernel
theorem dX10_write_42 : decode cX10_write 42 = .ok (.ireturn, 1) := by decide +kernel
theorem dX10_write_43 : decode cX10_write 43 = .ok (.aload_n 0, 1) := by decide +kernel
theorem dX10_write_44 : decode cX10_write 44 = .ok (.getfield 59, 3) := by decide +kernel
theorem dX10_write_47 : decode cX10_write 47 = .ok (.iload_n 1, 1) := by decide +kernel
theorem dX10_write_48 : decode cX10_write 48 = .ok (.iload_n 2, 1) := by decide +kernel
theorem dX10_write_49 : decode cX10_write 49 = .ok (.invokevirtual 308, 3) := by decide +kernel
theorem dX10_write_52 : decode cX10_write 52 = .ok (.ireturn, 1) := by decide +kernel
set_option maxRecDepth 100000 in
set_option maxHeartbeats 4000000 in
theorem mX10_write {w : WX} {adr : Nat → Nat → Nat} (hj : Ij adr) (a1 : Int32) (a2 : Int32) (S : St) : ∀ (l : Launch) (r : Int32) (S2 : St), fX10_write a1 a2 S = some (r, S2) → Mi l w adr yX10_write cX10_write 3 (some .int) 1 22 [.ref (adr 0 0), .int a1, .int a2] S r S2 := by
  refine mi_of (lv := [(0, .ref (adr 0 0)), (1, .int a1), (2, .int a2)]) hj (plainFor_of_name (by decide +kernel)) rfl (Nat.le_of_ble_eq_true rfl) (fun k C Rr => ?_)
  have C : Cx w adr k cX10_write RX10 3 1 22 := C
  refine ge_aload_n (n := 1) C 0 rfl dX10_write_0 rfl rfl ?_
  refine gt_X10_19 (n := 4) C (by decide) dX10_write_1 rfl ?_
  refine ge_iload_n (n := 5) C 1 rfl dX10_write_4 rfl rfl ?_
  refine ge_callVi (n := 8) C (mX6_hasMan hj (o0 := (pid (S 0 0 1))) (pid_lt _) a1 S) gv_X10_145 (cl_3 (pid_lt _)) rfl rfl hc_X6_hasMan ⟨Nat.le_of_ble_eq_true rfl, Nat.le_of_ble_eq_true rfl⟩ rfl rfl (Nat.le_of_ble_eq_true rfl) dX10_write_5 rfl (fun r_5 S_5 => ?_)
  refine ge_if_ne (t := 14) (n := 11) C dX10_write_8 (by decide) rfl (fun h_8 => ?_) (fun h_8 => ?_)
  · refine ge_iload_n (n := 15) C 2 rfl dX10_write_14 rfl rfl ?_
    refine ge_iconst (v := 0) (n := 16) C dX10_write_15 (by decide) rfl ?_
    refine ge_ldcw (n := 19) C kc_X10_307 dX10_write_16 rfl ?_
    refine ge_callSi (n := 22) C (mX10_isOutside hj a2 (0 : Int32) (99999 : Int32) S_5) gv_X10_77 hc_X10_isOutside ⟨Nat.le_of_ble_eq_true rfl, Nat.le_of_ble_eq_true rfl⟩ rfl rfl (Nat.le_of_ble_eq_true rfl) dX10_write_19 rfl (fun r_19 S_19 => ?_)
    refine ge_if_eq (t := 28) (n := 25) C dX10_write_22 (by decide) rfl (fun h_22 => ?_) (fun h_22 => ?_)
    · refine ge_aload_n (n := 29) C 0 rfl dX10_write_28 rfl rfl ?_
      refine gt_X10_59 (n := 32) C (by decide) dX10_write_29 rfl ?_
      refine gt_X10_107 (n := 35) C (by decide) dX10_write_32 rfl ?_
      refine ge_bipush (v := 15) (n := 37) C dX10_write_35 (by decide) rfl ?_
      refine ge_icmp_lt (t := 43) (n := 40) C dX10_write_37 (by decide) rfl (fun h_37 => ?_) (fun h_37 => ?_)
      · refine ge_aload_n (n := 44) C 0 rfl dX10_write_43 rfl rfl ?_
        refine gt_X10_59 (n := 47) C (by decide) dX10_write_44 rfl ?_
        refine ge_iload_n (n := 48) C 1 rfl dX10_write_47 rfl rfl ?_
        refine ge_iload_n (n := 49) C 2 rfl dX10_write_48 rfl rfl ?_
        refine ge_callVi (n := 52) C (mX0_add hj a1 a2 S_19) gv_X10_308 (cl_27 (by decide)) rfl rfl hc_X0_add ⟨Nat.le_of_ble_eq_true rfl, Nat.le_of_ble_eq_true rfl⟩ rfl rfl (Nat.le_of_ble_eq_true rfl) dX10_write_49 rfl (fun r_49 S_49 => ?_)
        exact ge_iret C Rr dX10_write_52
      · refine ge_ldc (n := 42) C kc_X10_86 dX10_write_40 rfl ?_
        exact ge_iret C Rr dX10_write_42
    · refine ge_ldc (n := 27) C kc_X10_81 dX10_write_25 rfl ?_
      exact ge_iret C Rr dX10_write_27
  · refine ge_ldc (n := 13) C kc_X10_149 dX10_write_11 rfl ?_
    exact ge_iret C Rr dX10_write_13
theorem dX10_tear_0 : decode cX10_tear 0 = .ok (.aload_n 0, 1) := by decide +kernel
theorem dX10_tear_1 : decode cX10_tear 1 = .ok (.getfield 52, 3) := by decide +kernel
theorem dX10_tear_4 : decode cX10_tear 4 = .ok (.getfield 106, 3) := by decide +kernel
theorem dX10_tear_7 : decode cX10_tear 7 = .ok (.aload_n 0, 1) := by decide +kernel
theorem dX10_tear_8 : decode cX10_tear 8 = .ok (.getfield 59, 3) := by decide +kernel
theorem dX10_tear_11 : decode cX10_tear 11 = .ok (.getfield 107, 3) := by decide +kernel
theorem dX10_tear_14 : decode cX10_tear 14 = .ok (.iadd, 1) := by decide +kernel
theorem dX10_tear_15 : decode cX10_tear 15 = .ok (.istore_n 1, 1) := by decide +kernel
theorem dX10_tear_16 : decode cX10_tear 16 = .ok (.aload_n 0, 1) := by decide +kernel
theorem dX10_tear_17 : decode cX10_tear 17 = .ok (.getfield 52, 3) := by decide +kernel
theorem dX10_tear_20 : decode cX10_tear 20 = .ok (.iconst 0, 1) := by decide +kernel
theorem dX10_tear_21 : decode cX10_tear 21 = .ok (.putfield 106, 3) := by decide +kernel
theorem dX10_tear_24 : decode cX10_tear 24 = .ok (.aload_n 0, 1) := by decide +kernel
theorem dX10_tear_25 : decode cX10_tear 25 = .ok (.getfield 59, 3) := by decide +kernel
theorem dX10_tear_28 : decode cX10_tear 28 = .ok (.iconst 0, 1) := by decide +kernel
theorem dX10_tear_29 : decode cX10_tear 29 = .ok (.putfield 107, 3) := by decide +kernel
theorem dX10_tear_32 : decode cX10_tear 32 = .ok (.iload_n 1, 1) := by decide +kernel
theorem dX10_tear_33 : decode cX10_tear 33 = .ok (.ireturn, 1) := by decide +kernel
set_option maxRecDepth 100000 in
set_option maxHeartbeats 4000000 in
theorem mX10_tear {w : WX} {adr : Nat → Nat → Nat} (hj : Ij adr)  (S : St) : ∀ (l : Launch) (r : Int32) (S2 : St), fX10_tear S = some (r, S2) → Mi l w adr yX10_tear cX10_tear 2 (some .int) 0 0 [.ref (adr 0 0)] S r S2 := by
  refine mi_of (lv := [(0, .ref (adr 0 0))]) hj (plainFor_of_name (by decide +kernel)) rfl (Nat.le_of_ble_eq_true rfl) (fun k C Rr => ?_)
  have C : Cx w adr k cX10_tear RX10 2 0 0 := C
  refine ge_aload_n (n := 1) C 0 rfl dX10_tear_0 rfl rfl ?_
  refine gt_X10_52 (n := 4) C (by decide) dX10_tear_1 rfl ?_
  refine gt_X10_106 (n := 7) C (by decide) dX10_tear_4 rfl ?_
  refine ge_aload_n (n := 8) C 0 rfl dX10_tear_7 rfl rfl ?_
  refine gt_X10_59 (n := 11) C (by decide) dX10_tear_8 rfl ?_
  refine gt_X10_107 (n := 14) C (by decide) dX10_tear_11 rfl ?_
  refine ge_iadd (n := 15) C dX10_tear_14 rfl ?_
  refine ge_bi (fun x1_15 => ?_)
  refine ge_istore_n (n := 16) (lv2 := [(1, .int x1_15), (0, .ref (adr 0 0))]) C dX10_tear_15 rfl rfl (by decide) rfl ?_
  refine ge_aload_n (n := 17) C 1 rfl dX10_tear_16 rfl rfl ?_
  refine gt_X10_52 (n := 20) C (by decide) dX10_tear_17 rfl ?_
  refine ge_iconst (v := 0) (n := 21) C dX10_tear_20 (by decide) rfl ?_
  refine pt_X10_106 (n := 24) C (by decide) dX10_tear_21 rfl (fun S_21 => ?_)
  refine ge_aload_n (n := 25) C 1 rfl dX10_tear_24 rfl rfl ?_
  refine gt_X10_59 (n := 28) C (by decide) dX10_tear_25 rfl ?_
  refine ge_iconst (v := 0) (n := 29) C dX10_tear_28 (by decide) rfl ?_
  refine pt_X10_107 (n := 32) C (by decide) dX10_tear_29 rfl (fun S_29 => ?_)
  refine ge_iload_n (n := 33) C 0 rfl dX10_tear_32 rfl rfl ?_
  exact ge_iret C Rr dX10_tear_33
theorem dX10_judge_0 : decode cX10_judge 0 = .ok (.aload_n 0, 1) := by decide +kernel
theorem dX10_judge_1 : decode cX10_judge 1 = .ok (.getfield 59, 3) := by decide +kernel
theorem dX10_judge_4 : decode cX10_judge 4 = .ok (.aload_n 0, 1) := by decide +kernel
theorem dX10_judge_5 : decode cX10_judge 5 = .ok (.getfield 31, 3) := by decide +kernel
theorem dX10_judge_8 : decode cX10_judge 8 = .ok (.invokevirtual 310, 3) := by decide +kernel
theorem dX10_judge_11 : decode cX10_judge 11 = .ok (.ireturn, 1) := by decide +kernel
set_option maxRecDepth 100000 in
set_option maxHeartbeats 4000000 in
theorem mX10_judge {w : WX} {adr : Nat → Nat → Nat} (hj : Ij adr)  (S : St) : ∀ (l : Launch) (r : Int32) (S2 : St), fX10_judge S = some (r, S2) → Mi l w adr yX10_judge cX10_judge 1 (some .int) 1 22 [.ref (adr 0 0)] S r S2 := by
  refine mi_of (lv := [(0, .ref (adr 0 0))]) hj (plainFor_of_name (by decide +kernel)) rfl (Nat.le_of_ble_eq_true rfl) (fun k C Rr => ?_)
  have C : Cx w adr k cX10_judge RX10 1 1 22 := C
  refine ge_aload_n (n := 1) C 0 rfl dX10_judge_0 rfl rfl ?_
  refine gt_X10_59 (n := 4) C (by decide) dX10_judge_1 rfl ?_
  refine ge_aload_n (n := 5) C 0 rfl dX10_judge_4 rfl rfl ?_
  refine gt_X10_31 (n := 8) C (by decide) dX10_judge_5 rfl ?_
  refine ge_callVi (n := 11) C (mX0_firstWrong hj S) gv_X10_310 (cl_27 (by decide)) rfl rfl hc_X0_firstWrong ⟨Nat.le_of_ble_eq_true rfl, Nat.le_of_ble_eq_true rfl⟩ rfl rfl (Nat.le_of_ble_eq_true rfl) dX10_judge_8 rfl (fun r_8 S_8 => ?_)
  exact ge_iret C Rr dX10_judge_11
theorem dX10_seed_0 : decode cX10_seed 0 = .ok (.iload_n 1, 1) := by decide +kernel
theorem dX10_seed_1 : decode cX10_seed 1 = .ok (.ifCond .ge 6, 3) := by decide +kernel
theorem dX10_seed_4 : decode cX10_seed 4 = .ok (.ldc 81, 2) := by decide +kernel
theorem dX10_seed_6 : decode cX10_seed 6 = .ok (.ireturn, 1) := by decide +kernel
theorem dX10_seed_7 : decode cX10_seed 7 = .ok (.aload_n 0, 1) := by decide +kernel
theorem dX10_seed_8 : decode cX10_seed 8 = .ok (.getfield 45, 3) := by decide +kernel
theorem dX10_seed_11 : decode cX10_seed 11 = .ok (.getfield 314, 3) := by decide +kernel
theorem dX10_seed_14 : decode cX10_seed 14 = .ok (.istore_n 2, 1) := by decide +kernel
theorem dX10_seed_15 : decode cX10_seed 15 = .ok (.aload_n 0, 1) := by decide +kernel
theorem dX10_seed_16 : decode cX10_seed 16 = .ok (.getfield 45, 3) := by decide +kernel
theorem dX10_seed_19 : decode cX10_seed 19 = .ok (.iload_n 1, 1) := by decide +kernel
theorem dX10_seed_20 : decode cX10_seed 20 = .ok (.putfield 314, 3) := by decide +kernel
theorem dX10_seed_23 : decode cX10_seed 23 = .ok (.iload_n 2, 1) := by decide +kernel
theorem dX10_seed_24 : decode cX10_seed 24 = .ok (.ireturn, 1) := by decide +kernel
set_option maxRecDepth 100000 in
set_option maxHeartbeats 4000000 in
theorem mX10_seed {w : WX} {adr : Nat → Nat → Nat} (hj : Ij adr) (a1 : Int32) (S : St) : ∀ (l : Launch) (r : Int32) (S2 : St), fX10_seed a1 S = some (r, S2) → Mi l w adr yX10_seed cX10_seed 3 (some .int) 0 0 [.ref (adr 0 0), .int a1] S r S2 := by
  refine mi_of (lv := [(0, .ref (adr 0 0)), (1, .int a1)]) hj (plainFor_of_name (by decide +kernel)) rfl (Nat.le_of_ble_eq_true rfl) (fun k C Rr => ?_)
  have C : Cx w adr k cX10_seed RX10 3 0 0 := C
  refine ge_iload_n (n := 1) C 1 rfl dX10_seed_0 rfl rfl ?_
  refine ge_if_ge (t := 7) (n := 4) C dX10_seed_1 (by decide) rfl (fun h_1 => ?_) (fun h_1 => ?_)
  · refine ge_aload_n (n := 8) C 0 rfl dX10_seed_7 rfl rfl ?_
    refine gt_X10_45 (n := 11) C (by decide) dX10_seed_8 rfl ?_
    refine gt_X10_314 (n := 14) C (by decide) dX10_seed_11 rfl ?_
    refine ge_bi (fun x2_14 => ?_)
    refine ge_istore_n (n := 15) (lv2 := [(2, .int x2_14), (0, .ref (adr 0 0)), (1, .int a1)]) C dX10_seed_14 rfl rfl (by decide) rfl ?_
    refine ge_aload_n (n := 16) C 1 rfl dX10_seed_15 rfl rfl ?_
    refine gt_X10_45 (n := 19) C (by decide) dX10_seed_16 rfl ?_
    refine ge_iload_n (n := 20) C 2 rfl dX10_seed_19 rfl rfl ?_
    refine pt_X10_314 (n := 23) C (by decide) dX10_seed_20 rfl (fun S_20 => ?_)
    refine ge_iload_n (n := 24) C 0 rfl dX10_seed_23 rfl rfl ?_
    exact ge_iret C Rr dX10_seed_24
  · refine ge_ldc (n := 6) C kc_X10_81 dX10_seed_4 rfl ?_
    exact ge_iret C Rr dX10_seed_6
theorem dX10_keep_0 : decode cX10_keep 0 = .ok (.iload_n 1, 1) := by decide +kernel
theorem dX10_keep_1 : decode cX10_keep 1 = .ok (.iconst 0, 1) := by decide +kernel
theorem dX10_keep_2 : decode cX10_keep 2 = .ok (.iconst 1, 1) := by decide +kernel
theorem dX10_keep_3 : decode cX10_keep 3 = .ok (.invokestatic 77, 3) := by decide +kernel
theorem dX10_keep_6 : decode cX10_keep 6 = .ok (.ifCond .eq 6, 3) := by decide +kernel
theorem dX10_keep_9 : decode cX10_keep 9 = .ok (.ldc 149, 2) := by decide +kernel
theorem dX10_keep_11 : decode cX10_keep 11 = .ok (.ireturn, 1) := by decide +kernel
theorem dX10_keep_12 : decode cX10_keep 12 = .ok (.aload_n 0, 1) := by decide +kernel
theorem dX10_keep_13 : decode cX10_keep 13 = .ok (.getfield 38, 3) := by decide +kernel
theorem dX10_keep_16 : decode cX10_keep 16 = .ok (.iload_n 1, 1) := by decide +kernel
theorem dX10_keep_17 : decode cX10_keep 17 = .ok (.aload_n 0, 1) := by decide +kernel
theorem dX10_keep_18 : decode cX10_keep 18 = .ok (.getfield 31, 3) := by decide +kernel
theorem dX10_keep_21 : decode cX10_keep 21 = .ok (.aload_n 0, 1) := by decide +kernel
theorem dX10_keep_22 : decode cX10_keep 22 = .ok (.getfield 45, 3) := by decide +kernel
theorem dX10_keep_25 : decode cX10_keep 25 = .ok (.invokevirtual 317, 3) := by decide +kernel
theorem dX10_keep_28 : decode cX10_keep 28 = .ok (.aload_n 0, 1) := by decide +kernel
theorem dX10_keep_29 : decode cX10_keep 29 = .ok (.getfield 38, 3) := by decide +kernel
theorem dX10_keep_32 : decode cX10_keep 32 = .ok (.iconst 0, 1) := by decide +kernel
theorem dX10_keep_33 : decode cX10_keep 33 = .ok (.putfield 100, 3) := by decide +kernel
theorem dX10_keep_36 : decode cX10_keep 36 = .ok (.iconst 1, 1) := by decide +kernel
theorem dX10_keep_37 : decode cX10_keep 37 = .ok (.ireturn, 1) := by decide +kernel
set_option maxRecDepth 100000 in
set_option maxHeartbeats 4000000 in
theorem mX10_keep {w : WX} {adr : Nat → Nat → Nat} (hj : Ij adr) (a1 : Int32) (S : St) : ∀ (l : Launch) (r : Int32) (S2 : St), fX10_keep a1 S = some (r, S2) → Mi l w adr yX10_keep cX10_keep 2 (some .int) 3 68 [.ref (adr 0 0), .int a1] S r S2 := by
  refine mi_of (lv := [(0, .ref (adr 0 0)), (1, .int a1)]) hj (plainFor_of_name (by decide +kernel)) rfl (Nat.le_of_ble_eq_true rfl) (fun k C Rr => ?_)
  have C : Cx w adr k cX10_keep RX10 2 3 68 := C
  refine ge_iload_n (n := 1) C 1 rfl dX10_keep_0 rfl rfl ?_
  refine ge_iconst (v := 0) (n := 2) C dX10_keep_1 (by decide) rfl ?_
  refine ge_iconst (v := 1) (n := 3) C dX10_keep_2 (by decide) rfl ?_
  refine ge_callSi (n := 6) C (mX10_isOutside hj a1 (0 : Int32) (1 : Int32) S) gv_X10_77 hc_X10_isOutside ⟨Nat.le_of_ble_eq_true rfl, Nat.le_of_ble_eq_true rfl⟩ rfl rfl (Nat.le_of_ble_eq_true rfl) dX10_keep_3 rfl (fun r_3 S_3 => ?_)
  refine ge_if_eq (t := 12) (n := 9) C dX10_keep_6 (by decide) rfl (fun h_6 => ?_) (fun h_6 => ?_)
  · refine ge_aload_n (n := 13) C 0 rfl dX10_keep_12 rfl rfl ?_
    refine gt_X10_38 (n := 16) C (by decide) dX10_keep_13 rfl ?_
    refine ge_iload_n (n := 17) C 1 rfl dX10_keep_16 rfl rfl ?_
    refine ge_aload_n (n := 18) C 0 rfl dX10_keep_17 rfl rfl ?_
    refine gt_X10_31 (n := 21) C (by decide) dX10_keep_18 rfl ?_
    refine ge_aload_n (n := 22) C 0 rfl dX10_keep_21 rfl rfl ?_
    refine gt_X10_45 (n := 25) C (by decide) dX10_keep_22 rfl ?_
    refine ge_callVv (n := 28) C (mX4_keepImage hj a1 S_3) gv_X10_317 (cl_14 (by decide)) rfl rfl hc_X4_keepImage ⟨Nat.le_of_ble_eq_true rfl, Nat.le_of_ble_eq_true rfl⟩ rfl rfl (Nat.le_of_ble_eq_true rfl) dX10_keep_25 rfl (fun _ S_25 => ?_)
    refine ge_aload_n (n := 29) C 0 rfl dX10_keep_28 rfl rfl ?_
    refine gt_X10_38 (n := 32) C (by decide) dX10_keep_29 rfl ?_
    refine ge_iconst (v := 0) (n := 33) C dX10_keep_32 (by decide) rfl ?_
    refine pt_X10_100 (n := 36) C (by decide) dX10_keep_33 rfl (fun S_33 => ?_)
    refine ge_iconst (v := 1) (n := 37) C dX10_keep_36 (by decide) rfl ?_
    exact ge_iret C Rr dX10_keep_37
  · refine ge_ldc (n := 11) C kc_X10_149 dX10_keep_9 rfl ?_
    exact ge_iret C Rr dX10_keep_11
theorem dX10_goBack_0 : decode cX10_goBack 0 = .ok (.iload_n 1, 1) := by decide +kernel
theorem dX10_goBack_1 : decode cX10_goBack 1 = .ok (.iconst 0, 1) := by decide +kernel
theorem dX10_goBack_2 : decode cX10_goBack 2 = .ok (.iconst 1, 1) := by decide +kernel
theorem dX10_goBack_3 : decode cX10_goBack 3 = .ok (.invokestatic 77, 3) := by decide +kernel
theorem dX10_goBack_6 : decode cX10_goBack 6 = .ok (.ifCond .eq 6, 3) := by decide +kernel
theorem dX10_goBack_9 : decode cX10_goBack 9 = .ok (.ldc 149, 2) := by decide +kernel
theorem dX10_goBack_11 : decode cX10_goBack 11 = .ok (.ireturn, 1) := by decide +kernel
theorem dX10_goBack_12 : decode cX10_goBack 12 = .ok (.aload_n 0, 1) := by decide +kernel
theorem dX10_goBack_13 : decode cX10_goBack 13 = .ok (.getfield 38, 3) := by decide +kernel
theorem dX10_goBack_16 : decode cX10_goBack 16 = .ok (.iload_n 1, 1) := by decide +kernel
theorem dX10_goBack_17 : decode cX10_goBack 17 = .ok (.invokevirtual 321, 3) := by decide +kernel
theorem dX10_goBack_20 : decode cX10_goBack 20 = .ok (.ifCond .ne 6, 3) := by decide +kernel
theorem dX10_goBack_23 : decode cX10_goBack 23 = .ok (.ldc 201, 2) := by decide +kernel
theorem dX10_goBack_25 : decode cX10_goBack 25 = .ok (.ireturn, 1) := by decide +kernel
theorem dX10_goBack_26 : decode cX10_goBack 26 = .ok (.aload_n 0, 1) := by decide +kernel
theorem dX10_goBack_27 : decode cX10_goBack 27 = .ok (.getfield 38, 3) := by decide +kernel
theorem dX10_goBack_30 : decode cX10_goBack 30 = .ok (.iload_n 1, 1) := by decide +kernel
theorem dX10_goBack_31 : decode cX10_goBack 31 = .ok (.aload_n 0, 1) := by decide +kernel
theorem dX10_goBack_32 : decode cX10_goBack 32 = .ok (.getfield 31, 3) := by decide +kernel
theorem dX10_goBack_35 : decode cX10_goBack 35 = .ok (.aload_n 0, 1) := by decide +kernel
theorem dX10_goBack_36 : decode cX10_goBack 36 = .ok (.getfield 45, 3) := by decide +kernel
theorem dX10_goBack_39 : decode cX10_goBack 39 = .ok (.invokevirtual 324, 3) := by decide +kernel
theorem dX10_goBack_42 : decode cX10_goBack 42 = .ok (.aload_n 0, 1) := by decide +kernel
theorem dX10_goBack_43 : decode cX10_goBack 43 = .ok (.getfield 38, 3) := by decide +kernel
theorem dX10_goBack_46 : decode cX10_goBack 46 = .ok (.iconst 0, 1) := by decide +kernel
theorem dX10_goBack_47 : decode cX10_goBack 47 = .ok (.putfield 100, 3) := by decide +kernel
theorem dX10_goBack_50 : decode cX10_goBack 50 = .ok (.iconst 1, 1) := by decide +kernel
theorem dX10_goBack_51 : decode cX10_goBack 51 = .ok (.ireturn, 1) := by decide +kernel
set_option maxRecDepth 100000 in
set_option maxHeartbeats 4000000 in
theorem mX10_goBack {w : WX} {adr : Nat → Nat → Nat} (hj : Ij adr) (a1 : Int32) (S : St) : ∀ (l : Launch) (r : Int32) (S2 : St), fX10_goBack a1 S = some (r, S2) → Mi l w adr yX10_goBack cX10_goBack 2 (some .int) 3 68 [.ref (adr 0 0), .int a1] S r S2 := by
  refine mi_of (lv := [(0, .ref (adr 0 0)), (1, .int a1)]) hj (plainFor_of_name (by decide +kernel)) rfl (Nat.le_of_ble_eq_true rfl) (fun k C Rr => ?_)
  have C : Cx w adr k cX10_goBack RX10 2 3 68 := C
  refine ge_iload_n (n := 1) C 1 rfl dX10_goBack_0 rfl rfl ?_
  refine ge_iconst (v := 0) (n := 2) C dX10_goBack_1 (by decide) rfl ?_
  refine ge_iconst (v := 1) (n := 3) C dX10_goBack_2 (by decide) rfl ?_
  refine ge_callSi (n := 6) C (mX10_isOutside hj a1 (0 : Int32) (1 : Int32) S) gv_X10_77 hc_X10_isOutside ⟨Nat.le_of_ble_eq_true rfl, Nat.le_of_ble_eq_true rfl⟩ rfl rfl (Nat.le_of_ble_eq_true rfl) dX10_goBack_3 rfl (fun r_3 S_3 => ?_)
  refine ge_if_eq (t := 12) (n := 9) C dX10_goBack_6 (by decide) rfl (fun h_6 => ?_) (fun h_6 => ?_)
  · refine ge_aload_n (n := 13) C 0 rfl dX10_goBack_12 rfl rfl ?_
    refine gt_X10_38 (n := 16) C (by decide) dX10_goBack_13 rfl ?_
    refine ge_iload_n (n := 17) C 1 rfl dX10_goBack_16 rfl rfl ?_
    refine ge_callVi (n := 20) C (mX4_hasImage hj a1 S_3) gv_X10_321 (cl_14 (by decide)) rfl rfl hc_X4_hasImage ⟨Nat.le_of_ble_eq_true rfl, Nat.le_of_ble_eq_true rfl⟩ rfl rfl (Nat.le_of_ble_eq_true rfl) dX10_goBack_17 rfl (fun r_17 S_17 => ?_)
    refine ge_if_ne (t := 26) (n := 23) C dX10_goBack_20 (by decide) rfl (fun h_20 => ?_) (fun h_20 => ?_)
    · refine ge_aload_n (n := 27) C 0 rfl dX10_goBack_26 rfl rfl ?_
      refine gt_X10_38 (n := 30) C (by decide) dX10_goBack_27 rfl ?_
      refine ge_iload_n (n := 31) C 1 rfl dX10_goBack_30 rfl rfl ?_
      refine ge_aload_n (n := 32) C 0 rfl dX10_goBack_31 rfl rfl ?_
      refine gt_X10_31 (n := 35) C (by decide) dX10_goBack_32 rfl ?_
      refine ge_aload_n (n := 36) C 0 rfl dX10_goBack_35 rfl rfl ?_
      refine gt_X10_45 (n := 39) C (by decide) dX10_goBack_36 rfl ?_
      refine ge_callVv (n := 42) C (mX4_loadImage hj a1 S_17) gv_X10_324 (cl_14 (by decide)) rfl rfl hc_X4_loadImage ⟨Nat.le_of_ble_eq_true rfl, Nat.le_of_ble_eq_true rfl⟩ rfl rfl (Nat.le_of_ble_eq_true rfl) dX10_goBack_39 rfl (fun _ S_39 => ?_)
      refine ge_aload_n (n := 43) C 0 rfl dX10_goBack_42 rfl rfl ?_
      refine gt_X10_38 (n := 46) C (by decide) dX10_goBack_43 rfl ?_
      refine ge_iconst (v := 0) (n := 47) C dX10_goBack_46 (by decide) rfl ?_
      refine pt_X10_100 (n := 50) C (by decide) dX10_goBack_47 rfl (fun S_47 => ?_)
      refine ge_iconst (v := 1) (n := 51) C dX10_goBack_50 (by decide) rfl ?_
      exact ge_iret C Rr dX10_goBack_51
    · refine ge_ldc (n := 25) C kc_X10_201 dX10_goBack_23 rfl ?_
      exact ge_iret C Rr dX10_goBack_25
  · refine ge_ldc (n := 11) C kc_X10_149 dX10_goBack_9 rfl ?_
    exact ge_iret C Rr dX10_goBack_11
theorem dX11_within_0 : decode cX11_within 0 = .ok (.lload_n 0, 1) := by decide +kernel
theorem dX11_within_1 : decode cX11_within 1 = .ok (.lload_n 2, 1) := by decide +kernel
theorem dX11_within_2 : decode cX11_within 2 = .ok (.lcmp, 1) := by decide +kernel
theorem dX11_within_3 : decode cX11_within 3 = .ok (.ifCond .lt 14, 3) := by decide +kernel
theorem dX11_within_6 : decode cX11_within 6 = .ok (.lload_n 0, 1) := by decide +kernel
theorem dX11_within_7 : decode cX11_within 7 = .ok (.lload 4, 2) := by decide +kernel
theorem dX11_within_9 : decode cX11_within 9 = .ok (.lcmp, 1) := by decide +kernel
theorem dX11_within_10 : decode cX11_within 10 = .ok (.ifCond .gt 7, 3) := by decide +kernel
theorem dX11_within_13 : decode cX11_within 13 = .ok (.iconst 1, 1) := by decide +kernel
theorem dX11_within_14 : decode cX11_within 14 = .ok (.goto 4, 3) := by decide +kernel
theorem dX11_within_17 : decode cX11_within 17 = .ok (.iconst 0, 1) := by decide +kernel
theorem dX11_within_18 : decode cX11_within 18 = .ok (.ireturn, 1) := by decide +kernel
set_option maxRecDepth 100000 in
set_option maxHeartbeats 4000000 in
theorem mX11_within {w : WX} {adr : Nat → Nat → Nat} (hj : Ij adr) (a0 : Int64) (a2 : Int64) (a4 : Int64) (S : St) : ∀ (l : Launch) (r : Int32) (S2 : St), fX11_within a0 a2 a4 S = some (r, S2) → Mi l w adr yX11_within cX11_within 6 (some .boolean) 0 0 [.long a0, .long a2, .long a4] S r S2 := by
  refine mi_of (lv := [(0, .long a0), (2, .long a2), (4, .long a4)]) hj (plainFor_of_name (by decide +kernel)) rfl (Nat.le_of_ble_eq_true rfl) (fun k C Rr => ?_)
  have C : Cx w adr k cX11_within RX11 6 0 0 := C
  refine ge_lload_n (n := 1) C 0 rfl dX11_within_0 rfl rfl ?_
  refine ge_lload_n (n := 2) C 1 rfl dX11_within_1 rfl rfl ?_
  refine ge_lcmp (n := 3) C dX11_within_2 rfl ?_
  refine ge_if_lt (t := 17) (n := 6) C dX11_within_3 (by decide) rfl (fun h_3 => ?_) (fun h_3 => ?_)
  · refine ge_iconst (v := 0) (n := 18) C dX11_within_17 (by decide) rfl ?_
    exact ge_zret C Rr (by decide) dX11_within_18
  · refine ge_lload_n (n := 7) C 0 rfl dX11_within_6 rfl rfl ?_
    refine ge_lload (n := 9) C 2 rfl dX11_within_7 rfl ?_
    refine ge_lcmp (n := 10) C dX11_within_9 rfl ?_
    refine ge_if_gt (t := 17) (n := 13) C dX11_within_10 (by decide) rfl (fun h_10 => ?_) (fun h_10 => ?_)
    · refine ge_iconst (v := 0) (n := 18) C dX11_within_17 (by decide) rfl ?_
      exact ge_zret C Rr (by decide) dX11_within_18
    · refine ge_iconst (v := 1) (n := 14) C dX11_within_13 (by decide) rfl ?_
      refine ge_goto (n := 18) C dX11_within_14 (by decide) ?_
      exact ge_zret C Rr (by decide) dX11_within_18
theorem dX11_has_0 : decode cX11_has 0 = .ok (.iload_n 0, 1) := by decide +kernel
theorem dX11_has_1 : decode cX11_has 1 = .ok (.iload_n 1, 1) := by decide +kernel
theorem dX11_has_2 : decode cX11_has 2 = .ok (.ishr, 1) := by decide +kernel
theorem dX11_has_3 : decode cX11_has 3 = .ok (.iconst 1, 1) := by decide +kernel
theorem dX11_has_4 : decode cX11_has 4 = .ok (.iand, 1) := by decide +kernel
theorem dX11_has_5 : decode cX11_has 5 = .ok (.iconst 1, 1) := by decide +kernel
theorem dX11_has_6 : decode cX11_has 6 = .ok (.if_icmp .ne 7, 3) := by decide +kernel
theorem dX11_has_9 : decode cX11_has 9 = .ok (.iconst 1, 1) := by decide +kernel
theorem dX11_has_10 : decode cX11_has 10 = .ok (.goto 4, 3) := by decide +kernel
theorem dX11_has_13 : decode cX11_has 13 = .ok (.iconst 0, 1) := by decide +kernel
theorem dX11_has_14 : decode cX11_has 14 = .ok (.ireturn, 1) := by decide +kernel
set_option maxRecDepth 100000 in
set_option maxHeartbeats 4000000 in
theorem mX11_has {w : WX} {adr : Nat → Nat → Nat} (hj : Ij adr) (a0 : Int32) (a1 : Int32) (S : St) : ∀ (l : Launch) (r : Int32) (S2 : St), fX11_has a0 a1 S = some (r, S2) → Mi l w adr yX11_has cX11_has 2 (some .boolean) 0 0 [.int a0, .int a1] S r S2 := by
  refine mi_of (lv := [(0, .int a0), (1, .int a1)]) hj (plainFor_of_name (by decide +kernel)) rfl (Nat.le_of_ble_eq_true rfl) (fun k C Rr => ?_)
  have C : Cx w adr k cX11_has RX11 2 0 0 := C
  refine ge_iload_n (n := 1) C 0 rfl dX11_has_0 rfl rfl ?_
  refine ge_iload_n (n := 2) C 1 rfl dX11_has_1 rfl rfl ?_
  refine ge_ishr (n := 3) C dX11_has_2 rfl ?_
  refine ge_iconst (v := 1) (n := 4) C dX11_has_3 (by decide) rfl ?_
  refine ge_iand (n := 5) C dX11_has_4 rfl ?_
  refine ge_iconst (v := 1) (n := 6) C dX11_has_5 (by decide) rfl ?_
  refine ge_icmp_ne (t := 13) (n := 9) C dX11_has_6 (by decide) rfl (fun h_6 => ?_) (fun h_6 => ?_)
  · refine ge_iconst (v := 0) (n := 14) C dX11_has_13 (by decide) rfl ?_
    exact ge_zret C Rr (by decide) dX11_has_14
  · refine ge_iconst (v := 1) (n := 10) C dX11_has_9 (by decide) rfl ?_
    refine ge_goto (n := 14) C dX11_has_10 (by decide) ?_
    exact ge_zret C Rr (by decide) dX11_has_14
theorem dX11_ones_0 : decode cX11_ones 0 = .ok (.iconst 0, 1) := by decide +kernel
theorem dX11_ones_1 : decode cX11_ones 1 = .ok (.istore_n 1, 1) := by decide +kernel
theorem dX11_ones_2 : decode cX11_ones 2 = .ok (.iconst 0, 1) := by decide +kernel
theorem dX11_ones_3 : decode cX11_ones 3 = .ok (.istore_n 2, 1) := by decide +kernel
theorem dX11_ones_4 : decode cX11_ones 4 = .ok (.iload_n 2, 1) := by decide +kernel
theorem dX11_ones_5 : decode cX11_ones 5 = .ok (.bipush 8, 2) := by decide +kernel
theorem dX11_ones_7 : decode cX11_ones 7 = .ok (.if_icmp .ge 17, 3) := by decide +kernel
theorem dX11_ones_10 : decode cX11_ones 10 = .ok (.iload_n 1, 1) := by decide +kernel
theorem dX11_ones_11 : decode cX11_ones 11 = .ok (.iload_n 0, 1) := by decide +kernel
theorem dX11_ones_12 : decode cX11_ones 12 = .ok (.iload_n 2, 1) := by decide +kernel
theorem dX11_ones_13 : decode cX11_ones 13 = .ok (.ishr, 1) := by decide +kernel
theorem dX11_ones_14 : decode cX11_ones 14 = .ok (.iconst 1, 1) := by decide +kernel
theorem dX11_ones_15 : decode cX11_ones 15 = .ok (.iand, 1) := by decide +kernel
theorem dX11_ones_16 : decode cX11_ones 16 = .ok (.iadd, 1) := by decide +kernel
theorem dX11_ones_17 : decode cX11_ones 17 = .ok (.istore_n 1, 1) := by decide +kernel
theorem dX11_ones_18 : decode cX11_ones 18 = .ok (.iinc 2 1, 3) := by decide +kernel
theorem dX11_ones_21 : decode cX11_ones 21 = .ok (.goto (-17), 3) := by decide +kernel
theorem dX11_ones_24 : decode cX11_ones 24 = .ok (.iload_n 1, 1) := by decide +kernel
theorem dX11_ones_25 : decode cX11_ones 25 = .ok (.ireturn, 1) := by decide +kernel
set_option maxRecDepth 100000 in
set_option maxHeartbeats 4000000 in
theorem mX11_ones {w : WX} {adr : Nat → Nat → Nat} (hj : Ij adr) (a0 : Int32) (S : St) : ∀ (l : Launch) (r : Int32) (S2 : St), fX11_ones a0 S = some (r, S2) → Mi l w adr yX11_ones cX11_ones 3 (some .int) 0 0 [.int a0] S r S2 := by
  refine mi_of (lv := [(0, .int a0)]) hj (plainFor_of_name (by decide +kernel)) rfl (Nat.le_of_ble_eq_true rfl) (fun k C Rr => ?_)
  have C : Cx w adr k cX11_ones RX11 3 0 0 := C
  refine ge_iconst (v := 0) (n := 1) C dX11_ones_0 (by decide) rfl ?_
  refine ge_istore_n (n := 2) (lv2 := [(1, .int (0 : Int32)), (0, .int a0)]) C dX11_ones_1 rfl rfl (by decide) rfl ?_
  refine ge_iconst (v := 0) (n := 3) C dX11_ones_2 (by decide) rfl ?_
  refine ge_istore_n (n := 4) (lv2 := [(2, .int (0 : Int32)), (1, .int (0 : Int32)), (0, .int a0)]) C dX11_ones_3 rfl rfl (by decide) rfl ?_
  refine ge_jn (fun (jj : Int32 → Op) => ∀ (x1_24 : Int32), Ge w adr k 24 [(1, .int x1_24)] [] S (jj x1_24)) (fun x1_24 => ?_) (fun kk4 hkk4 => ?_)
  · refine ge_iload_n (n := 25) C 0 rfl dX11_ones_24 rfl rfl ?_
    exact ge_iret C Rr dX11_ones_25
  refine ge_lop (fun (jj : Int32 → Int32 → Op) => ∀ (x2_4 : Int32) (x1_4 : Int32), Ge w adr k 4 [(2, .int x2_4), (1, .int x1_4), (0, .int a0)] [] S (jj x2_4 x1_4)) (fun _ _ => ge_none) (fun ag4 hag4 x2_4 x1_4 => ?_) FU (0 : Int32) (0 : Int32)
  refine ge_iload_n (n := 5) C 0 rfl dX11_ones_4 rfl rfl ?_
  refine ge_bipush (v := 8) (n := 7) C dX11_ones_5 (by decide) rfl ?_
  refine ge_icmp_ge (t := 24) (n := 10) C dX11_ones_7 (by decide) rfl (fun h_7 => ?_) (fun h_7 => ?_)
  · refine ge_sub [1] rfl ?_
    exact hkk4 x1_4
  · refine ge_iload_n (n := 11) C 1 rfl dX11_ones_10 rfl rfl ?_
    refine ge_iload_n (n := 12) C 2 rfl dX11_ones_11 rfl rfl ?_
    refine ge_iload_n (n := 13) C 0 rfl dX11_ones_12 rfl rfl ?_
    refine ge_ishr (n := 14) C dX11_ones_13 rfl ?_
    refine ge_iconst (v := 1) (n := 15) C dX11_ones_14 (by decide) rfl ?_
    refine ge_iand (n := 16) C dX11_ones_15 rfl ?_
    refine ge_iadd (n := 17) C dX11_ones_16 rfl ?_
    refine ge_bi (fun x1_17 => ?_)
    refine ge_istore_n (n := 18) (lv2 := [(1, .int x1_17), (2, .int x2_4), (0, .int a0)]) C dX11_ones_17 rfl rfl (by decide) rfl ?_
    refine ge_iinc (n := 21) (v := (x2_4 + (1 : Int32))) (lv2 := [(2, .int (x2_4 + (1 : Int32))), (1, .int x1_17), (0, .int a0)]) C 1 rfl dX11_ones_18 rfl rfl (by decide) rfl ?_
    refine ge_goto (n := 4) C dX11_ones_21 (by decide) ?_
    exact hag4 (x2_4 + (1 : Int32)) x1_17
theorem dX11_isMan_0 : decode cX11_isMan 0 = .ok (.iload_n 1, 1) := by decide +kernel
theorem dX11_isMan_1 : decode cX11_isMan 1 = .ok (.i2l, 1) := by decide +kernel
theorem dX11_isMan_2 : decode cX11_isMan 2 = .ok (.lconst 0, 1) := by decide +kernel
theorem dX11_isMan_3 : decode cX11_isMan 3 = .ok (.aload_n 0, 1) := by decide +kernel
theorem dX11_isMan_4 : decode cX11_isMan 4 = .ok (.getfield 93, 3) := by decide +kernel
theorem dX11_isMan_7 : decode cX11_isMan 7 = .ok (.iconst 1, 1) := by decide +kernel
theorem dX11_isMan_8 : decode cX11_isMan 8 = .ok (.isub, 1) := by decide +kernel
theorem dX11_isMan_9 : decode cX11_isMan 9 = .ok (.i2l, 1) := by decide +kernel
theorem dX11_isMan_10 : decode cX11_isMan 10 = .ok (.invokestatic 96, 3) := by decide +kernel
theorem dX11_isMan_13 : decode cX11_isMan 13 = .ok (.ireturn, 1) := by decide +kernel
set_option maxRecDepth 100000 in
set_option maxHeartbeats 4000000 in
theorem mX11_isMan {w : WX} {adr : Nat → Nat → Nat} (hj : Ij adr) (a1 : Int32) (S : St) : ∀ (l : Launch) (r : Int32) (S2 : St), fX11_isMan a1 S = some (r, S2) → Mi l w adr yX11_isMan cX11_isMan 2 (some .boolean) 1 25 [.ref (adr 35 0), .int a1] S r S2 := by
  refine mi_of (lv := [(0, .ref (adr 35 0)), (1, .int a1)]) hj (plainFor_of_name (by decide +kernel)) rfl (Nat.le_of_ble_eq_true rfl) (fun k C Rr => ?_)
  have C : Cx w adr k cX11_isMan RX11 2 1 25 := C
  refine ge_iload_n (n := 1) C 1 rfl dX11_isMan_0 rfl rfl ?_
  refine ge_i2l (n := 2) C dX11_isMan_1 rfl ?_
  refine ge_lconst (v := 0) (n := 3) C dX11_isMan_2 (by decide) rfl ?_
  refine ge_aload_n (n := 4) C 0 rfl dX11_isMan_3 rfl rfl ?_
  refine gt_X11_93 (n := 7) C (by decide) dX11_isMan_4 rfl ?_
  refine ge_iconst (v := 1) (n := 8) C dX11_isMan_7 (by decide) rfl ?_
  refine ge_isub (n := 9) C dX11_isMan_8 rfl ?_
  refine ge_i2l (n := 10) C dX11_isMan_9 rfl ?_
  refine ge_callSi (n := 13) C (mX11_within hj (Int32.toInt64 a1) (0 : Int64) (Int32.toInt64 ((S 35 0 2) - (1 : Int32))) S) gv_X11_96 hc_X11_within ⟨Nat.le_of_ble_eq_true rfl, Nat.le_of_ble_eq_true rfl⟩ rfl rfl (Nat.le_of_ble_eq_true rfl) dX11_isMan_10 rfl (fun r_10 S_10 => ?_)
  exact ge_zretb C Rr dX11_isMan_13
theorem dX11_isSaying_0 : decode cX11_isSaying 0 = .ok (.iload_n 1, 1) := by decide +kernel
theorem dX11_isSaying_1 : decode cX11_isSaying 1 = .ok (.i2l, 1) := by decide +kernel
theorem dX11_isSaying_2 : decode cX11_isSaying 2 = .ok (.lconst 0, 1) := by decide +kernel
theorem dX11_isSaying_3 : decode cX11_isSaying 3 = .ok (.aload_n 0, 1) := by decide +kernel
theorem dX11_isSaying_4 : decode cX11_isSaying 4 = .ok (.getfield 100, 3) := by decide +kernel
theorem dX11_isSaying_7 : decode cX11_isSaying 7 = .ok (.iconst 1, 1) := by decide +kernel
theorem dX11_isSaying_8 : decode cX11_isSaying 8 = .ok (.isub, 1) := by decide +kernel
theorem dX11_isSaying_9 : decode cX11_isSaying 9 = .ok (.i2l, 1) := by decide +kernel
theorem dX11_isSaying_10 : decode cX11_isSaying 10 = .ok (.invokestatic 96, 3) := by decide +kernel
theorem dX11_isSaying_13 : decode cX11_isSaying 13 = .ok (.ireturn, 1) := by decide +kernel
set_option maxRecDepth 100000 in
set_option maxHeartbeats 4000000 in
theorem mX11_isSaying {w : WX} {adr : Nat → Nat → Nat} (hj : Ij adr) (a1 : Int32) (S : St) : ∀ (l : Launch) (r : Int32) (S2 : St), fX11_isSaying a1 S = some (r, S2) → Mi l w adr yX11_isSaying cX11_isSaying 2 (some .boolean) 1 25 [.ref (adr 35 0), .int a1] S r S2 := by
  refine mi_of (lv := [(0, .ref (adr 35 0)), (1, .int a1)]) hj (plainFor_of_name (by decide +kernel)) rfl (Nat.le_of_ble_eq_true rfl) (fun k C Rr => ?_)
  have C : Cx w adr k cX11_isSaying RX11 2 1 25 := C
  refine ge_iload_n (n := 1) C 1 rfl dX11_isSaying_0 rfl rfl ?_
  refine ge_i2l (n := 2) C dX11_isSaying_1 rfl ?_
  refine ge_lconst (v := 0) (n := 3) C dX11_isSaying_2 (by decide) rfl ?_
  refine ge_aload_n (n := 4) C 0 rfl dX11_isSaying_3 rfl rfl ?_
  refine gt_X11_100 (n := 7) C (by decide) dX11_isSaying_4 rfl ?_
  refine ge_iconst (v := 1) (n := 8) C dX11_isSaying_7 (by decide) rfl ?_
  refine ge_isub (n := 9) C dX11_isSaying_8 rfl ?_
  refine ge_i2l (n := 10) C dX11_isSaying_9 rfl ?_
  refine ge_callSi (n := 13) C (mX11_within hj (Int32.toInt64 a1) (0 : Int64) (Int32.toInt64 ((S 35 0 5) - (1 : Int32))) S) gv_X11_96 hc_X11_within ⟨Nat.le_of_ble_eq_true rfl, Nat.le_of_ble_eq_true rfl⟩ rfl rfl (Nat.le_of_ble_eq_true rfl) dX11_isSaying_10 rfl (fun r_10 S_10 => ?_)
  exact ge_zretb C Rr dX11_isSaying_13
theorem dX11_areSayings_0 : decode cX11_areSayings 0 = .ok (.iload_n 1, 1) := by decide +kernel
theorem dX11_areSayings_1 : decode cX11_areSayings 1 = .ok (.i2l, 1) := by decide +kernel
theorem dX11_areSayings_2 : decode cX11_areSayings 2 = .ok (.lconst 0, 1) := by decide +kernel
theorem dX11_areSayings_3 : decode cX11_areSayings 3 = .ok (.iconst 1, 1) := by decide +kernel
theorem dX11_areSayings_4 : decode cX11_areSayings 4 = .ok (.aload_n 0, 1) := by decide +kernel
theorem dX11_areSayings_5 : decode cX11_areSayings 5 = .ok (.getfield 100, 3) := by decide +kernel
theorem dX11_areSayings_8 : decode cX11_areSayings 8 = .ok (.ishl, 1) := by decide +kernel
theorem dX11_areSayings_9 : decode cX11_areSayings 9 = .ok (.iconst 1, 1) := by decide +kernel
theorem dX11_areSayings_10 : decode cX11_areSayings 10 = .ok (.isub, 1) := by decide +kernel
theorem dX11_areSayings_11 : decode cX11_areSayings 11 = .ok (.i2l, 1) := by decide +kernel
theorem dX11_areSayings_12 : decode cX11_areSayings 12 = .ok (.invokestatic 96, 3) := by decide +kernel
theorem dX11_areSayings_15 : decode cX11_areSayings 15 = .ok (.ireturn, 1) := by decide +kernel
set_option maxRecDepth 100000 in
set_option maxHeartbeats 4000000 in
theorem mX11_areSayings {w : WX} {adr : Nat → Nat → Nat} (hj : Ij adr) (a1 : Int32) (S : St) : ∀ (l : Launch) (r : Int32) (S2 : St), fX11_areSayings a1 S = some (r, S2) → Mi l w adr yX11_areSayings cX11_areSayings 2 (some .boolean) 1 25 [.ref (adr 35 0), .int a1] S r S2 := by
  refine mi_of (lv := [(0, .ref (adr 35 0)), (1, .int a1)]) hj (plainFor_of_name (by decide +kernel)) rfl (Nat.le_of_ble_eq_true rfl) (fun k C Rr => ?_)
  have C : Cx w adr k cX11_areSayings RX11 2 1 25 := C
  refine ge_iload_n (n := 1) C 1 rfl dX11_areSayings_0 rfl rfl ?_
  refine ge_i2l (n := 2) C dX11_areSayings_1 rfl ?_
  refine ge_lconst (v := 0) (n := 3) C dX11_areSayings_2 (by decide) rfl ?_
  refine ge_iconst (v := 1) (n := 4) C dX11_areSayings_3 (by decide) rfl ?_
  refine ge_aload_n (n := 5) C 0 rfl dX11_areSayings_4 rfl rfl ?_
  refine gt_X11_100 (n := 8) C (by decide) dX11_areSayings_5 rfl ?_
  refine ge_ishl (n := 9) C dX11_areSayings_8 rfl ?_
  refine ge_iconst (v := 1) (n := 10) C dX11_areSayings_9 (by decide) rfl ?_
  refine ge_isub (n := 11) C dX11_areSayings_10 rfl ?_
  refine ge_i2l (n := 12) C dX11_areSayings_11 rfl ?_
  refine ge_callSi (n := 15) C (mX11_within hj (Int32.toInt64 a1) (0 : Int64) (Int32.toInt64 (((1 : Int32) <<< ((S 35 0 5) &&& (31 : Int32))) - (1 : Int32))) S) gv_X11_96 hc_X11_within ⟨Nat.le_of_ble_eq_true rfl, Nat.le_of_ble_eq_true rfl⟩ rfl rfl (Nat.le_of_ble_eq_true rfl) dX11_areSayings_12 rfl (fun r_12 S_12 => ?_)
  exact ge_zretb C Rr dX11_areSayings_15
theorem dX11_isPlace_0 : decode cX11_isPlace 0 = .ok (.iload_n 0, 1) := by decide +kernel
theorem dX11_isPlace_1 : decode cX11_isPlace 1 = .ok (.i2l, 1) := by decide +kernel
theorem dX11_isPlace_2 : decode cX11_isPlace 2 = .ok (.lconst 0, 1) := by decide +kernel
theorem dX11_isPlace_3 : decode cX11_isPlace 3 = .ok (.ldc2_w 103, 3) := by decide +kernel
theorem dX11_isPlace_6 : decode cX11_isPlace 6 = .ok (.invokestatic 96, 3) := by decide +kernel
theorem dX11_isPlace_9 : decode cX11_isPlace 9 = .ok (.ireturn, 1) := by decide +kernel
set_option maxRecDepth 100000 in
set_option maxHeartbeats 4000000 in
theorem mX11_isPlace {w : WX} {adr : Nat → Nat → Nat} (hj : Ij adr) (a0 : Int32) (S : St) : ∀ (l : Launch) (r : Int32) (S2 : St), fX11_isPlace a0 S = some (r, S2) → Mi l w adr yX11_isPlace cX11_isPlace 1 (some .boolean) 1 25 [.int a0] S r S2 := by
  refine mi_of (lv := [(0, .int a0)]) hj (plainFor_of_name (by decide +kernel)) rfl (Nat.le_of_ble_eq_true rfl) (fun k C Rr => ?_)
  have C : Cx w adr k cX11_isPlace RX11 1 1 25 := C
  refine ge_iload_n (n := 1) C 0 rfl dX11_isPlace_0 rfl rfl ?_
  refine ge_i2l (n := 2) C dX11_isPlace_1 rfl ?_
  refine ge_lconst (v := 0) (n := 3) C dX11_isPlace_2 (by decide) rfl ?_
  refine ge_ldc2 (n := 6) C kl_X11_103 dX11_isPlace_3 rfl ?_
  refine ge_callSi (n := 9) C (mX11_within hj (Int32.toInt64 a0) (0 : Int64) (4 : Int64) S) gv_X11_96 hc_X11_within ⟨Nat.le_of_ble_eq_true rfl, Nat.le_of_ble_eq_true rfl⟩ rfl rfl (Nat.le_of_ble_eq_true rfl) dX11_isPlace_6 rfl (fun r_6 S_6 => ?_)
  exact ge_zretb C Rr dX11_isPlace_9
theorem dX11_feed_0 : decode cX11_feed 0 = .ok (.iload_n 1, 1) := by decide +kernel
theorem dX11_feed_1 : decode cX11_feed 1 = .ok (.i2l, 1) := by decide +kernel
theorem dX11_feed_2 : decode cX11_feed 2 = .ok (.lconst 0, 1) := by decide +kernel
theorem dX11_feed_3 : decode cX11_feed 3 = .ok (.ldc2_w 105, 3) := by decide +kernel
theorem dX11_feed_6 : decode cX11_feed 6 = .ok (.invokestatic 96, 3) := by decide +kernel
theorem dX11_feed_9 : decode cX11_feed 9 = .ok (.ifCond .ne 6, 3) := by decide +kernel
theorem dX11_feed_12 : decode cX11_feed 12 = .ok (.ldc 107, 2) := by decide +kernel
theorem dX11_feed_14 : decode cX11_feed 14 = .ok (.ireturn, 1) := by decide +kernel
theorem dX11_feed_15 : decode cX11_feed 15 = .ok (.aload_n 0, 1) := by decide +kernel
theorem dX11_feed_16 : decode cX11_feed 16 = .ok (.getfield 108, 3) := by decide +kernel
theorem dX11_feed_19 : decode cX11_feed 19 = .ok (.sipush 240, 3) := by decide +kernel
theorem dX11_feed_22 : decode cX11_feed 22 = .ok (.if_icmp .ne 6, 3) := by decide +kernel
theorem dX11_feed_25 : decode cX11_feed 25 = .ok (.ldc 111, 2) := by decide +kernel
theorem dX11_feed_27 : decode cX11_feed 27 = .ok (.ireturn, 1) := by decide +kernel
theorem dX11_feed_28 : decode cX11_feed 28 = .ok (.aload_n 0, 1) := by decide +kernel
theorem dX11_feed_29 : decode cX11_feed 29 = .ok (.getfield 40, 3) := by decide +kernel
theorem dX11_feed_32 : decode cX11_feed 32 = .ok (.aload_n 0, 1) := by decide +kernel
theorem dX11_feed_33 : decode cX11_feed 33 = .ok (.getfield 108, 3) := by decide +kernel
theorem dX11_feed_36 : decode cX11_feed 36 = .ok (.iload_n 1, 1) := by decide +kernel
theorem dX11_feed_37 : decode cX11_feed 37 = .ok (.iastore, 1) := by decide +kernel
theorem dX11_feed_38 : decode cX11_feed 38 = .ok (.aload_n 0, 1) := by decide +kernel
theorem dX11_feed_39 : decode cX11_feed 39 = .ok (.dup, 1) := by decide +kernel
theorem dX11_feed_40 : decode cX11_feed 40 = .ok (.getfield 108, 3) := by decide +kernel
theorem dX11_feed_43 : decode cX11_feed 43 = .ok (.iconst 1, 1) := by decide +kernel
theorem dX11_feed_44 : decode cX11_feed 44 = .ok (.iadd, 1) := by decide +kernel
theorem dX11_feed_45 : decode cX11_feed 45 = .ok (.putfield 108, 3) := by decide +kernel
theorem dX11_feed_48 : decode cX11_feed 48 = .ok (.aload_n 0, 1) := by decide +kernel
theorem dX11_feed_49 : decode cX11_feed 49 = .ok (.getfield 108, 3) := by decide +kernel
theorem dX11_feed_52 : decode cX11_feed 52 = .ok (.ireturn, 1) := by decide +kernel
set_option maxRecDepth 100000 in
set_option maxHeartbeats 4000000 in
theorem mX11_feed {w : WX} {adr : Nat → Nat → Nat} (hj : Ij adr) (a1 : Int32) (S : St) : ∀ (l : Launch) (r : Int32) (S2 : St), fX11_feed a1 S = some (r, S2) → Mi l w adr yX11_feed cX11_feed 2 (some .int) 1 25 [.ref (adr 35 0), .int a1] S r S2 := by
  refine mi_of (lv := [(0, .ref (adr 35 0)), (1, .int a1)]) hj (plainFor_of_name (by decide +kernel)) rfl (Nat.le_of_ble_eq_true rfl) (fun k C Rr => ?_)
  have C : Cx w adr k cX11_feed RX11 2 1 25 := C
  refine ge_iload_n (n := 1) C 1 rfl dX11_feed_0 rfl rfl ?_
  refine ge_i2l (n := 2) C dX11_feed_1 rfl ?_
  refine ge_lconst (v := 0) (n := 3) C dX11_feed_2 (by decide) rfl ?_
  refine ge_ldc2 (n := 6) C kl_X11_105 dX11_feed_3 rfl ?_
  refine ge_callSi (n := 9) C (mX11_within hj (Int32.toInt64 a1) (0 : Int64) (255 : Int64) S) gv_X11_96 hc_X11_within ⟨Nat.le_of_ble_eq_true rfl, Nat.le_of_ble_eq_true rfl⟩ rfl rfl (Nat.le_of_ble_eq_true rfl) dX11_feed_6 rfl (fun r_6 S_6 => ?_)
  refine ge_if_ne (t := 15) (n := 12) C dX11_feed_9 (by decide) rfl (fun h_9 => ?_) (fun h_9 => ?_)
  · refine ge_aload_n (n := 16) C 0 rfl dX11_feed_15 rfl rfl ?_
    refine gt_X11_108 (n := 19) C (by decide) dX11_feed_16 rfl ?_
    refine ge_sipush (v := 240) (n := 22) C dX11_feed_19 (by decide) rfl ?_
    refine ge_icmp_ne (t := 28) (n := 25) C dX11_feed_22 (by decide) rfl (fun h_22 => ?_) (fun h_22 => ?_)
    · refine ge_aload_n (n := 29) C 0 rfl dX11_feed_28 rfl rfl ?_
      refine gt_X11_40 (n := 32) C (by decide) dX11_feed_29 rfl ?_
      refine ge_aload_n (n := 33) C 0 rfl dX11_feed_32 rfl rfl ?_
      refine gt_X11_108 (n := 36) C (by decide) dX11_feed_33 rfl ?_
      refine ge_iload_n (n := 37) C 1 rfl dX11_feed_36 rfl rfl ?_
      refine as_46 (n := 38) C (by decide) dX11_feed_37 rfl (fun S_37 => ?_)
      refine ge_aload_n (n := 39) C 0 rfl dX11_feed_38 rfl rfl ?_
      refine ge_dup (n := 40) C dX11_feed_39 rfl rfl ?_
      refine gt_X11_108 (n := 43) C (by decide) dX11_feed_40 rfl ?_
      refine ge_iconst (v := 1) (n := 44) C dX11_feed_43 (by decide) rfl ?_
      refine ge_iadd (n := 45) C dX11_feed_44 rfl ?_
      refine pt_X11_108 (n := 48) C (by decide) dX11_feed_45 rfl (fun S_45 => ?_)
      refine ge_aload_n (n := 49) C 0 rfl dX11_feed_48 rfl rfl ?_
      refine gt_X11_108 (n := 52) C (by decide) dX11_feed_49 rfl ?_
      exact ge_iret C Rr dX11_feed_52
    · refine ge_ldc (n := 27) C kc_X11_111 dX11_feed_25 rfl ?_
      exact ge_iret C Rr dX11_feed_27
  · refine ge_ldc (n := 14) C kc_X11_107 dX11_feed_12 rfl ?_
    exact ge_iret C Rr dX11_feed_14
theorem dX11_here_0 : decode cX11_here 0 = .ok (.aload_n 0, 1) := by decide +kernel
theorem dX11_here_1 : decode cX11_here 1 = .ok (.getfield 112, 3) := by decide +kernel
theorem dX11_here_4 : decode cX11_here 4 = .ok (.aload_n 0, 1) := by decide +kernel
theorem dX11_here_5 : decode cX11_here 5 = .ok (.getfield 108, 3) := by decide +kernel
theorem dX11_here_8 : decode cX11_here 8 = .ok (.if_icmp .ge 30, 3) := by decide +kernel
theorem dX11_here_11 : decode cX11_here 11 = .ok (.aload_n 0, 1) := by decide +kernel
theorem dX11_here_12 : decode cX11_here 12 = .ok (.getfield 40, 3) := by decide +kernel
theorem dX11_here_15 : decode cX11_here 15 = .ok (.aload_n 0, 1) := by decide +kernel
theorem dX11_here_16 : decode cX11_here 16 = .ok (.getfield 112, 3) := by decide +kernel
theorem dX11_here_19 : decode cX11_here 19 = .ok (.iaload, 1) := by decide +kernel
theorem dX11_here_20 : decode cX11_here 20 = .ok (.bipush 32, 2) := by decide +kernel
theorem dX11_here_22 : decode cX11_here 22 = .ok (.if_icmp .ne 16, 3) := by decide +kernel
theorem dX11_here_25 : decode cX11_here 25 = .ok (.aload_n 0, 1) := by decide +kernel
theorem dX11_here_26 : decode cX11_here 26 = .ok (.dup, 1) := by decide +kernel
theorem dX11_here_27 : decode cX11_here 27 = .ok (.getfield 112, 3) := by decide +kernel
theorem dX11_here_30 : decode cX11_here 30 = .ok (.iconst 1, 1) := by decide +kernel
theorem dX11_here_31 : decode cX11_here 31 = .ok (.iadd, 1) := by decide +kernel
theorem dX11_here_32 : decode cX11_here 32 = .ok (.putfield 112, 3) := by decide +kernel
theorem dX11_here_35 : decode cX11_here 35 = .ok (.goto (-35), 3) := by decide +kernel
theorem dX11_here_38 : decode cX11_here 38 = .ok (.aload_n 0, 1) := by decide +kernel
theorem dX11_here_39 : decode cX11_here 39 = .ok (.getfield 112, 3) := by decide +kernel
theorem dX11_here_42 : decode cX11_here 42 = .ok (.aload_n 0, 1) := by decide +kernel
theorem dX11_here_43 : decode cX11_here 43 = .ok (.getfield 108, 3) := by decide +kernel
theorem dX11_here_46 : decode cX11_here 46 = .ok (.if_icmp .ge 15, 3) := by decide +kernel
theorem dX11_here_49 : decode cX11_here 49 = .ok (.aload_n 0, 1) := by decide +kernel
theorem dX11_here_50 : decode cX11_here 50 = .ok (.getfield 40, 3) := by decide +kernel
theorem dX11_here_53 : decode cX11_here 53 = .ok (.aload_n 0, 1) := by decide +kernel
theorem dX11_here_54 : decode cX11_here 54 = .ok (.getfield 112, 3) := by decide +kernel
theorem dX11_here_57 : decode cX11_here 57 = .ok (.iaload, 1) := by decide +kernel
theorem dX11_here_58 : decode cX11_here 58 = .ok (.goto 4, 3) := by decide +kernel
theorem dX11_here_61 : decode cX11_here 61 = .ok (.iconst (-1), 1) := by decide +kernel
theorem dX11_here_62 : decode cX11_here 62 = .ok (.ireturn, 1) := by decide +kernel
set_option maxRecDepth 100000 in
set_option maxHeartbeats 4000000 in
theorem mX11_here {w : WX} {adr : Nat → Nat → Nat} (hj : Ij adr)  (S : St) : ∀ (l : Launch) (r : Int32) (S2 : St), fX11_here S = some (r, S2) → Mi l w adr yX11_here cX11_here 1 (some .int) 0 0 [.ref (adr 35 0)] S r S2 := by
  refine mi_of (lv := [(0, .ref (adr 35 0))]) hj (plainFor_of_name (by decide +kernel)) rfl (Nat.le_of_ble_eq_true rfl) (fun k C Rr => ?_)
  have C : Cx w adr k cX11_here RX11 1 0 0 := C
  refine ge_jn (fun (jj : St → Op) => ∀ (S_38 : St), Ge w adr k 38 [(0, .ref (adr 35 0))] [] S_38 (jj S_38)) (fun S_38 => ?_) (fun kk0 hkk0 => ?_)
  · refine ge_aload_n (n := 39) C 0 rfl dX11_here_38 rfl rfl ?_
    refine gt_X11_112 (n := 42) C (by decide) dX11_here_39 rfl ?_
    refine ge_aload_n (n := 43) C 0 rfl dX11_here_42 rfl rfl ?_
    refine gt_X11_108 (n := 46) C (by decide) dX11_here_43 rfl ?_
    refine ge_icmp_ge (t := 61) (n := 49) C dX11_here_46 (by decide) rfl (fun h_46 => ?_) (fun h_46 => ?_)
    · refine ge_iconst (v := -1) (n := 62) C dX11_here_61 (by decide) rfl ?_
      exact ge_iret C Rr dX11_here_62
    · refine ge_aload_n (n := 50) C 0 rfl dX11_here_49 rfl rfl ?_
      refine gt_X11_40 (n := 53) C (by decide) dX11_here_50 rfl ?_
      refine ge_aload_n (n := 54) C 0 rfl dX11_here_53 rfl rfl ?_
      refine gt_X11_112 (n := 57) C (by decide) dX11_here_54 rfl ?_
      refine al_46 (n := 58) C (by decide) dX11_here_57 rfl ?_
      refine ge_goto (n := 62) C dX11_here_58 (by decide) ?_
      exact ge_iret C Rr dX11_here_62
  refine ge_lop (fun (jj : St → Op) => ∀ (S_0 : St), Ge w adr k 0 [(0, .ref (adr 35 0))] [] S_0 (jj S_0)) (fun _ => ge_none) (fun ag0 hag0 S_0 => ?_) FU S
  refine ge_aload_n (n := 1) C 0 rfl dX11_here_0 rfl rfl ?_
  refine gt_X11_112 (n := 4) C (by decide) dX11_here_1 rfl ?_
  refine ge_aload_n (n := 5) C 0 rfl dX11_here_4 rfl rfl ?_
  refine gt_X11_108 (n := 8) C (by decide) dX11_here_5 rfl ?_
  refine ge_icmp_ge (t := 38) (n := 11) C dX11_here_8 (by decide) rfl (fun h_8 => ?_) (fun h_8 => ?_)
  · exact hkk0 S_0
  · refine ge_aload_n (n := 12) C 0 rfl dX11_here_11 rfl rfl ?_
    refine gt_X11_40 (n := 15) C (by decide) dX11_here_12 rfl ?_
    refine ge_aload_n (n := 16) C 0 rfl dX11_here_15 rfl rfl ?_
    refine gt_X11_112 (n := 19) C (by decide) dX11_here_16 rfl ?_
    refine al_46 (n := 20) C (by decide) dX11_here_19 rfl ?_
    refine ge_bipush (v := 32) (n := 22) C dX11_here_20 (by decide) rfl ?_
    refine ge_icmp_ne (t := 38) (n := 25) C dX11_here_22 (by decide) rfl (fun h_22 => ?_) (fun h_22 => ?_)
    · exact hkk0 S_0
    · refine ge_aload_n (n := 26) C 0 rfl dX11_here_25 rfl rfl ?_
      refine ge_dup (n := 27) C dX11_here_26 rfl rfl ?_
      refine gt_X11_112 (n := 30) C (by decide) dX11_here_27 rfl ?_
      refine ge_iconst (v := 1) (n := 31) C dX11_here_30 (by decide) rfl ?_
      refine ge_iadd (n := 32) C dX11_here_31 rfl ?_
      refine pt_X11_112 (n := 35) C (by decide) dX11_here_32 rfl (fun S_32 => ?_)
      refine ge_goto (n := 0) C dX11_here_35 (by decide) ?_
      exact hag0 S_32
theorem dX11_fails_0 : decode cX11_fails 0 = .ok (.aload_n 0, 1) := by decide +kernel
theorem dX11_fails_1 : decode cX11_fails 1 = .ok (.iload_n 2, 1) := by decide +kernel
theorem dX11_fails_2 : decode cX11_fails 2 = .ok (.putfield 43, 3) := by decide +kernel
theorem dX11_fails_5 : decode cX11_fails 5 = .ok (.iload_n 1, 1) := by decide +kernel
theorem dX11_fails_6 : decode cX11_fails 6 = .ok (.ireturn, 1) := by decide +kernel
set_option maxRecDepth 100000 in
set_option maxHeartbeats 4000000 in
theorem mX11_fails {w : WX} {adr : Nat → Nat → Nat} (hj : Ij adr) (a1 : Int32) (a2 : Int32) (S : St) : ∀ (l : Launch) (r : Int32) (S2 : St), fX11_fails a1 a2 S = some (r, S2) → Mi l w adr yX11_fails cX11_fails 3 (some .int) 0 0 [.ref (adr 35 0), .int a1, .int a2] S r S2 := by
  refine mi_of (lv := [(0, .ref (adr 35 0)), (1, .int a1), (2, .int a2)]) hj (plainFor_of_name (by decide +kernel)) rfl (Nat.le_of_ble_eq_true rfl) (fun k C Rr => ?_)
  have C : Cx w adr k cX11_fails RX11 3 0 0 := C
  refine ge_aload_n (n := 1) C 0 rfl dX11_fails_0 rfl rfl ?_
  refine ge_iload_n (n := 2) C 2 rfl dX11_fails_1 rfl rfl ?_
  refine pt_X11_43 (n := 5) C (by decide) dX11_fails_2 rfl (fun S_2 => ?_)
  refine ge_iload_n (n := 6) C 1 rfl dX11_fails_5 rfl rfl ?_
  exact ge_iret C Rr dX11_fails_6
theorem dX11_takeNumber_0 : decode cX11_takeNumber 0 = .ok (.aload_n 0, 1) := by decide +kernel
theorem dX11_takeNumber_1 : decode cX11_takeNumber 1 = .ok (.invokevirtual 115, 3) := by decide +kernel
theorem dX11_takeNumber_4 : decode cX11_takeNumber 4 = .ok (.istore_n 3, 1) := by decide +kernel
theorem dX11_takeNumber_5 : decode cX11_takeNumber 5 = .ok (.iload_n 3, 1) := by decide +kernel
theorem dX11_takeNumber_6 : decode cX11_takeNumber 6 = .ok (.i2l, 1) := by decide +kernel
theorem dX11_takeNumber_7 : decode cX11_takeNumber 7 = .ok (.ldc2_w 119, 3) := by decide +kernel
theorem dX11_takeNumber_10 : decode cX11_takeNumber 10 = .ok (.ldc2_w 121, 3) := by decide +kernel
theorem dX11_takeNumber_13 : decode cX11_takeNumber 13 = .ok (.invokestatic 96, 3) := by decide +kernel
theorem dX11_takeNumber_16 : decode cX11_takeNumber 16 = .ok (.ifCond .ne 13, 3) := by decide +kernel
theorem dX11_takeNumber_19 : decode cX11_takeNumber 19 = .ok (.aload_n 0, 1) := by decide +kernel
theorem dX11_takeNumber_20 : decode cX11_takeNumber 20 = .ok (.iconst 1, 1) := by decide +kernel
theorem dX11_takeNumber_21 : decode cX11_takeNumber 21 = .ok (.aload_n 0, 1) := by decide +kernel
theorem dX11_takeNumber_22 : decode cX11_takeNumber 22 = .ok (.getfield 112, 3) := by decide +kernel
theorem dX11_takeNumber_25 : decode cX11_takeNumber 25 = .ok (.invokevirtual 123, 3) := by decide +kernel
theorem dX11_takeNumber_28 : decode cX11_takeNumber 28 = .ok (.ireturn, 1) := by decide +kernel
theorem dX11_takeNumber_29 : decode cX11_takeNumber 29 = .ok (.aload_n 0, 1) := by decide +kernel
theorem dX11_takeNumber_30 : decode cX11_takeNumber 30 = .ok (.aload_n 0, 1) := by decide +kernel
theorem dX11_takeNumber_31 : decode cX11_takeNumber 31 = .ok (.getfield 112, 3) := by decide +kernel
theorem dX11_takeNumber_34 : decode cX11_takeNumber 34 = .ok (.putfield 127, 3) := by decide +kernel
theorem dX11_takeNumber_37 : decode cX11_takeNumber 37 = .ok (.aload_n 0, 1) := by decide +kernel
theorem dX11_takeNumber_38 : decode cX11_takeNumber 38 = .ok (.iconst 0, 1) := by decide +kernel
theorem dX11_takeNumber_39 : decode cX11_takeNumber 39 = .ok (.putfield 130, 3) := by decide +kernel
theorem dX11_takeNumber_42 : decode cX11_takeNumber 42 = .ok (.aload_n 0, 1) := by decide +kernel
theorem dX11_takeNumber_43 : decode cX11_takeNumber 43 = .ok (.getfield 112, 3) := by decide +kernel
theorem dX11_takeNumber_46 : decode cX11_takeNumber 46 = .ok (.aload_n 0, 1) := by decide +kernel
theorem dX11_takeNumber_47 : decode cX11_takeNumber 47 = .ok (.getfield 108, 3) := by decide +kernel
theorem dX11_takeNumber_50 : decode cX11_takeNumber 50 = .ok (.if_icmp .ge 79, 3) := by decide +kernel
theorem dX11_takeNumber_53 : decode cX11_takeNumber 53 = .ok (.aload_n 0, 1) := by decide +kernel
theorem dX11_takeNumber_54 : decode cX11_takeNumber 54 = .ok (.getfield 40, 3) := by decide +kernel
theorem dX11_takeNumber_57 : decode cX11_takeNumber 57 = .ok (.aload_n 0, 1) := by decide +kernel
theorem dX11_takeNumber_58 : decode cX11_takeNumber 58 = .ok (.getfield 112, 3) := by decide +kernel
theorem dX11_takeNumber_61 : decode cX11_takeNumber 61 = .ok (.iaload, 1) := by decide +kernel
theorem dX11_takeNumber_62 : decode cX11_takeNumber 62 = .ok (.i2l, 1) := by decide +kernel
theorem dX11_takeNumber_63 : decode cX11_takeNumber 63 = .ok (.ldc2_w 119, 3) := by decide +kernel
theorem dX11_takeNumber_66 : decode cX11_takeNumber 66 = .ok (.ldc2_w 121, 3) := by decide +kernel
theorem dX11_takeNumber_69 : decode cX11_takeNumber 69 = .ok (.invokestatic 96, 3) := by decide +kernel
theorem dX11_takeNumber_72 : decode cX11_takeNumber 72 = .ok (.ifCond .eq 57, 3) := by decide +kernel
theorem dX11_takeNumber_75 : decode cX11_takeNumber 75 = .ok (.aload_n 0, 1) := by decide +kernel
theorem dX11_takeNumber_76 : decode cX11_takeNumber 76 = .ok (.aload_n 0, 1) := by decide +kernel
theorem dX11_takeNumber_77 : decode cX11_takeNumber 77 = .ok (.getfield 130, 3) := by decide +kernel
theorem dX11_takeNumber_80 : decode cX11_takeNumber 80 = .ok (.sipush 10000, 3) := by decide +kernel
theorem dX11_takeNumber_83 : decode cX11_takeNumber 83 = .ok (.if_icmp .le 10, 3) := by decide +kernel
theorem dX11_takeNumber_86 : decode cX11_takeNumber 86 = .ok (.aload_n 0, 1) := by decide +kernel
theorem dX11_takeNumber_87 : decode cX11_takeNumber 87 = .ok (.getfield 130, 3) := by decide +kernel
theorem dX11_takeNumber_90 : decode cX11_takeNumber 90 = .ok (.goto 23, 3) := by decide +kernel
theorem dX11_takeNumber_93 : decode cX11_takeNumber 93 = .ok (.bipush 10, 2) := by decide +kernel
theorem dX11_takeNumber_95 : decode cX11_takeNumber 95 = .ok (.aload_n 0, 1) := by decide +kernel
theorem dX11_takeNumber_96 : decode cX11_takeNumber 96 = .ok (.getfield 130, 3) := by decide +kernel
theorem dX11_takeNumber_99 : decode cX11_takeNumber 99 = .ok (.imul, 1) := by decide +kernel
theorem dX11_takeNumber_100 : decode cX11_takeNumber 100 = .ok (.aload_n 0, 1) := by decide +kernel
theorem dX11_takeNumber_101 : decode cX11_takeNumber 101 = .ok (.getfield 40, 3) := by decide +kernel
theorem dX11_takeNumber_104 : decode cX11_takeNumber 104 = .ok (.aload_n 0, 1) := by decide +kernel
theorem dX11_takeNumber_105 : decode cX11_takeNumber 105 = .ok (.getfield 112, 3) := by decide +kernel
theorem dX11_takeNumber_108 : decode cX11_takeNumber 108 = .ok (.iaload, 1) := by decide +kernel
theorem dX11_takeNumber_109 : decode cX11_takeNumber 109 = .ok (.iadd, 1) := by decide +kernel
theorem dX11_takeNumber_110 : decode cX11_takeNumber 110 = .ok (.bipush 48, 2) := by decide +kernel
theorem dX11_takeNumber_112 : decode cX11_takeNumber 112 = .ok (.isub, 1) := by decide +kernel
theorem dX11_takeNumber_113 : decode cX11_takeNumber 113 = .ok (.putfield 130, 3) := by decide +kernel
theorem dX11_takeNumber_116 : decode cX11_takeNumber 116 = .ok (.aload_n 0, 1) := by decide +kernel
theorem dX11_takeNumber_117 : decode cX11_takeNumber 117 = .ok (.dup, 1) := by decide +kernel
theorem dX11_takeNumber_118 : decode cX11_takeNumber 118 = .ok (.getfield 112, 3) := by decide +kernel
theorem dX11_takeNumber_121 : decode cX11_takeNumber 121 = .ok (.iconst 1, 1) := by decide +kernel
theorem dX11_takeNumber_122 : decode cX11_takeNumber 122 = .ok (.iadd, 1) := by decide +kernel
theorem dX11_takeNumber_123 : decode cX11_takeNumber 123 = .ok (.putfield 112, 3) := by decide +kernel
theorem dX11_takeNumber_126 : decode cX11_takeNumber 126 = .ok (.goto (-84), 3) := by decide +kernel
theorem dX11_takeNumber_129 : decode cX11_takeNumber 129 = .ok (.aload_n 0, 1) := by decide +kernel
theorem dX11_takeNumber_130 : decode cX11_takeNumber 130 = .ok (.getfield 112, 3) := by decide +kernel
theorem dX11_takeNumber_133 : decode cX11_takeNumber 133 = .ok (.aload_n 0, 1) := by decide +kernel
theorem dX11_takeNumber_134 : decode cX11_takeNumber 134 = .ok (.getfield 127, 3) := by decide +kernel
theorem dX11_takeNumber_137 : decode cX11_takeNumber 137 = .ok (.isub, 1) := by decide +kernel
theorem dX11_takeNumber_138 : decode cX11_takeNumber 138 = .ok (.iconst 3, 1) := by decide +kernel
theorem dX11_takeNumber_139 : decode cX11_takeNumber 139 = .ok (.if_icmp .gt 18, 3) := by decide +kernel
theorem dX11_takeNumber_142 : decode cX11_takeNumber 142 = .ok (.aload_n 0, 1) := by decide +kernel
theorem dX11_takeNumber_143 : decode cX11_takeNumber 143 = .ok (.getfield 130, 3) := by decide +kernel
theorem dX11_takeNumber_146 : decode cX11_takeNumber 146 = .ok (.i2l, 1) := by decide +kernel
theorem dX11_takeNumber_147 : decode cX11_takeNumber 147 = .ok (.iload_n 1, 1) := by decide +kernel
theorem dX11_takeNumber_148 : decode cX11_takeNumber 148 = .ok (.i2l, 1) := by decide +kernel
theorem dX11_takeNumber_149 : decode cX11_takeNumber 149 = .ok (.iload_n 2, 1) := by decide +kernel
theorem dX11_takeNumber_150 : decode cX11_takeNumber 150 = .ok (.i2l, 1) := by decide +kernel
theorem dX11_takeNumber_151 : decode cX11_takeNumber 151 = .ok (.invokestatic 96, 3) := by decide +kernel
theorem dX11_takeNumber_154 : decode cX11_takeNumber 154 = .ok (.ifCond .ne 15, 3) := by decide +kernel
theorem dX11_takeNumber_157 : decode cX11_takeNumber 157 = .ok (.aload_n 0, 1) := by decide +kernel
theorem dX11_takeNumber_158 : decode cX11_takeNumber 158 = .ok (.iconst 2, 1) := by decide +kernel
theorem dX11_takeNumber_159 : decode cX11_takeNumber 159 = .ok (.aload_n 0, 1) := by decide +kernel
theorem dX11_takeNumber_160 : decode cX11_takeNumber 160 = .ok (.getfield 127, 3) := by decide +kernel
theorem dX11_takeNumber_163 : decode cX11_takeNumber 163 = .ok (.invokevirtual 123, 3) := by decide +kernel
theorem dX11_takeNumber_166 : decode cX11_takeNumber 166 = .ok (.goto 4, 3) := by decide +kernel
theorem dX11_takeNumber_169 : decode cX11_takeNumber 169 = .ok (.iconst 0, 1) := by decide +kernel
theorem dX11_takeNumber_170 : decode cX11_takeNumber 170 = .ok (.ireturn, 1) := by decide +kernel
set_option maxRecDepth 100000 in
set_option maxHeartbeats 4000000 in
theorem mX11_takeNumber {w : WX} {adr : Nat → Nat → Nat} (hj : Ij adr) (a1 : Int32) (a2 : Int32) (S : St) : ∀ (l : Launch) (r : Int32) (S2 : St), fX11_takeNumber a1 a2 S = some (r, S2) → Mi l w adr yX11_takeNumber cX11_takeNumber 4 (some .int) 1 25 [.ref (adr 35 0), .int a1, .int a2] S r S2 := by
  refine mi_of (lv := [(0, .ref (adr 35 0)), (1, .int a1), (2, .int a2)]) hj (plainFor_of_name (by decide +kernel)) rfl (Nat.le_of_ble_eq_true rfl) (fun k C Rr => ?_)
  have C : Cx w adr k cX11_takeNumber RX11 4 1 25 := C
  refine ge_aload_n (n := 1) C 0 rfl dX11_takeNumber_0 rfl rfl ?_
  refine ge_callVi (n := 4) C (mX11_here hj S) gv_X11_115 (cl_35 (by decide)) rfl rfl hc_X11_here ⟨Nat.le_of_ble_eq_true rfl, Nat.le_of_ble_eq_true rfl⟩ rfl rfl (Nat.le_of_ble_eq_true rfl) dX11_takeNumber_1 rfl (fun r_1 S_1 => ?_)
  refine ge_istore_n (n := 5) (lv2 := [(3, .int r_1), (0, .ref (adr 35 0)), (1, .int a1), (2, .int a2)]) C dX11_takeNumber_4 rfl rfl (by decide) rfl ?_
  refine ge_iload_n (n := 6) C 0 rfl dX11_takeNumber_5 rfl rfl ?_
  refine ge_i2l (n := 7) C dX11_takeNumber_6 rfl ?_
  refine ge_ldc2 (n := 10) C kl_X11_119 dX11_takeNumber_7 rfl ?_
  refine ge_ldc2 (n := 13) C kl_X11_121 dX11_takeNumber_10 rfl ?_
  refine ge_callSi (n := 16) C (mX11_within hj (Int32.toInt64 r_1) (48 : Int64) (57 : Int64) S_1) gv_X11_96 hc_X11_within ⟨Nat.le_of_ble_eq_true rfl, Nat.le_of_ble_eq_true rfl⟩ rfl rfl (Nat.le_of_ble_eq_true rfl) dX11_takeNumber_13 rfl (fun r_13 S_13 => ?_)
  refine ge_if_ne (t := 29) (n := 19) C dX11_takeNumber_16 (by decide) rfl (fun h_16 => ?_) (fun h_16 => ?_)
  · refine ge_aload_n (n := 30) C 1 rfl dX11_takeNumber_29 rfl rfl ?_
    refine ge_aload_n (n := 31) C 1 rfl dX11_takeNumber_30 rfl rfl ?_
    refine gt_X11_112 (n := 34) C (by decide) dX11_takeNumber_31 rfl ?_
    refine pt_X11_127 (n := 37) C (by decide) dX11_takeNumber_34 rfl (fun S_34 => ?_)
    refine ge_aload_n (n := 38) C 1 rfl dX11_takeNumber_37 rfl rfl ?_
    refine ge_iconst (v := 0) (n := 39) C dX11_takeNumber_38 (by decide) rfl ?_
    refine pt_X11_130 (n := 42) C (by decide) dX11_takeNumber_39 rfl (fun S_39 => ?_)
    refine ge_jn (fun (jj : St → Op) => ∀ (S_129 : St), Ge w adr k 129 [(0, .ref (adr 35 0)), (1, .int a1), (2, .int a2)] [] S_129 (jj S_129)) (fun S_129 => ?_) (fun kk42 hkk42 => ?_)
    · refine ge_aload_n (n := 130) C 0 rfl dX11_takeNumber_129 rfl rfl ?_
      refine gt_X11_112 (n := 133) C (by decide) dX11_takeNumber_130 rfl ?_
      refine ge_aload_n (n := 134) C 0 rfl dX11_takeNumber_133 rfl rfl ?_
      refine gt_X11_127 (n := 137) C (by decide) dX11_takeNumber_134 rfl ?_
      refine ge_isub (n := 138) C dX11_takeNumber_137 rfl ?_
      refine ge_iconst (v := 3) (n := 139) C dX11_takeNumber_138 (by decide) rfl ?_
      refine ge_jn (fun (jj : St → Op) => ∀ (S_157 : St), Ge w adr k 157 [(0, .ref (adr 35 0))] [] S_157 (jj S_157)) (fun S_157 => ?_) (fun j157 hj157 => ?_)
      · refine ge_aload_n (n := 158) C 0 rfl dX11_takeNumber_157 rfl rfl ?_
        refine ge_iconst (v := 2) (n := 159) C dX11_takeNumber_158 (by decide) rfl ?_
        refine ge_aload_n (n := 160) C 0 rfl dX11_takeNumber_159 rfl rfl ?_
        refine gt_X11_127 (n := 163) C (by decide) dX11_takeNumber_160 rfl ?_
        refine ge_callVi (n := 166) C (mX11_fails hj (2 : Int32) (S_157 35 0 22) S_157) gv_X11_123 (cl_35 (by decide)) rfl rfl hc_X11_fails ⟨Nat.le_of_ble_eq_true rfl, Nat.le_of_ble_eq_true rfl⟩ rfl rfl (Nat.le_of_ble_eq_true rfl) dX11_takeNumber_163 rfl (fun r_163 S_163 => ?_)
        refine ge_goto (n := 170) C dX11_takeNumber_166 (by decide) ?_
        exact ge_iret C Rr dX11_takeNumber_170
      refine ge_icmp_gt (t := 157) (n := 142) C dX11_takeNumber_139 (by decide) rfl (fun h_139 => ?_) (fun h_139 => ?_)
      · refine ge_sub [0] rfl ?_
        exact hj157 S_129
      · refine ge_aload_n (n := 143) C 0 rfl dX11_takeNumber_142 rfl rfl ?_
        refine gt_X11_130 (n := 146) C (by decide) dX11_takeNumber_143 rfl ?_
        refine ge_i2l (n := 147) C dX11_takeNumber_146 rfl ?_
        refine ge_iload_n (n := 148) C 1 rfl dX11_takeNumber_147 rfl rfl ?_
        refine ge_i2l (n := 149) C dX11_takeNumber_148 rfl ?_
        refine ge_iload_n (n := 150) C 2 rfl dX11_takeNumber_149 rfl rfl ?_
        refine ge_i2l (n := 151) C dX11_takeNumber_150 rfl ?_
        refine ge_callSi (n := 154) C (mX11_within hj (Int32.toInt64 (S_129 35 0 21)) (Int32.toInt64 a1) (Int32.toInt64 a2) S_129) gv_X11_96 hc_X11_within ⟨Nat.le_of_ble_eq_true rfl, Nat.le_of_ble_eq_true rfl⟩ rfl rfl (Nat.le_of_ble_eq_true rfl) dX11_takeNumber_151 rfl (fun r_151 S_151 => ?_)
        refine ge_if_ne (t := 169) (n := 157) C dX11_takeNumber_154 (by decide) rfl (fun h_154 => ?_) (fun h_154 => ?_)
        · refine ge_iconst (v := 0) (n := 170) C dX11_takeNumber_169 (by decide) rfl ?_
          exact ge_iret C Rr dX11_takeNumber_170
        · refine ge_sub [0] rfl ?_
          exact hj157 S_151
    refine ge_sub [1, 2, 3] rfl ?_
    refine ge_lop (fun (jj : St → Op) => ∀ (S_42 : St), Ge w adr k 42 [(0, .ref (adr 35 0)), (1, .int a1), (2, .int a2)] [] S_42 (jj S_42)) (fun _ => ge_none) (fun ag42 hag42 S_42 => ?_) FU S_39
    refine ge_aload_n (n := 43) C 0 rfl dX11_takeNumber_42 rfl rfl ?_
    refine gt_X11_112 (n := 46) C (by decide) dX11_takeNumber_43 rfl ?_
    refine ge_aload_n (n := 47) C 0 rfl dX11_takeNumber_46 rfl rfl ?_
    refine gt_X11_108 (n := 50) C (by decide) dX11_takeNumber_47 rfl ?_
    refine ge_icmp_ge (t := 129) (n := 53) C dX11_takeNumber_50 (by decide) rfl (fun h_50 => ?_) (fun h_50 => ?_)
    · exact hkk42 S_42
    · refine ge_aload_n (n := 54) C 0 rfl dX11_takeNumber_53 rfl rfl ?_
      refine gt_X11_40 (n := 57) C (by decide) dX11_takeNumber_54 rfl ?_
      refine ge_aload_n (n := 58) C 0 rfl dX11_takeNumber_57 rfl rfl ?_
      refine gt_X11_112 (n := 61) C (by decide) dX11_takeNumber_58 rfl ?_
      refine al_46 (n := 62) C (by decide) dX11_takeNumber_61 rfl ?_
      refine ge_i2l (n := 63) C dX11_takeNumber_62 rfl ?_
      refine ge_ldc2 (n := 66) C kl_X11_119 dX11_takeNumber_63 rfl ?_
      refine ge_ldc2 (n := 69) C kl_X11_121 dX11_takeNumber_66 rfl ?_
      refine ge_callSi (n := 72) C (mX11_within hj (Int32.toInt64 (S_42 46 0 (Int32.toNatClampNeg (S_42 35 0 20)))) (48 : Int64) (57 : Int64) S_42) gv_X11_96 hc_X11_within ⟨Nat.le_of_ble_eq_true rfl, Nat.le_of_ble_eq_true rfl⟩ rfl rfl (Nat.le_of_ble_eq_true rfl) dX11_takeNumber_69 rfl (fun r_69 S_69 => ?_)
      refine ge_if_eq (t := 129) (n := 75) C dX11_takeNumber_72 (by decide) rfl (fun h_72 => ?_) (fun h_72 => ?_)
      · exact hkk42 S_69
      · refine ge_aload_n (n := 76) C 0 rfl dX11_takeNumber_75 rfl rfl ?_
        refine ge_aload_n (n := 77) C 0 rfl dX11_takeNumber_76 rfl rfl ?_
        refine gt_X11_130 (n := 80) C (by decide) dX11_takeNumber_77 rfl ?_
        refine ge_sipush (v := 10000) (n := 83) C dX11_takeNumber_80 (by decide) rfl ?_
        refine ge_jn (fun (jj : Int32 → Op) => ∀ (v0_113 : Int32), Ge w adr k 113 [(0, .ref (adr 35 0)), (1, .int a1), (2, .int a2)] [.int v0_113, .ref (adr 35 0)] S_69 (jj v0_113)) (fun v0_113 => ?_) (fun j113 hj113 => ?_)
        · refine pt_X11_130 (n := 116) C (by decide) dX11_takeNumber_113 rfl (fun S_113 => ?_)
          refine ge_aload_n (n := 117) C 0 rfl dX11_takeNumber_116 rfl rfl ?_
          refine ge_dup (n := 118) C dX11_takeNumber_117 rfl rfl ?_
          refine gt_X11_112 (n := 121) C (by decide) dX11_takeNumber_118 rfl ?_
          refine ge_iconst (v := 1) (n := 122) C dX11_takeNumber_121 (by decide) rfl ?_
          refine ge_iadd (n := 123) C dX11_takeNumber_122 rfl ?_
          refine pt_X11_112 (n := 126) C (by decide) dX11_takeNumber_123 rfl (fun S_123 => ?_)
          refine ge_goto (n := 42) C dX11_takeNumber_126 (by decide) ?_
          exact hag42 S_123
        refine ge_icmp_le (t := 93) (n := 86) C dX11_takeNumber_83 (by decide) rfl (fun h_83 => ?_) (fun h_83 => ?_)
        · refine ge_bipush (v := 10) (n := 95) C dX11_takeNumber_93 (by decide) rfl ?_
          refine ge_aload_n (n := 96) C 0 rfl dX11_takeNumber_95 rfl rfl ?_
          refine gt_X11_130 (n := 99) C (by decide) dX11_takeNumber_96 rfl ?_
          refine ge_imul (n := 100) C dX11_takeNumber_99 rfl ?_
          refine ge_aload_n (n := 101) C 0 rfl dX11_takeNumber_100 rfl rfl ?_
          refine gt_X11_40 (n := 104) C (by decide) dX11_takeNumber_101 rfl ?_
          refine ge_aload_n (n := 105) C 0 rfl dX11_takeNumber_104 rfl rfl ?_
          refine gt_X11_112 (n := 108) C (by decide) dX11_takeNumber_105 rfl ?_
          refine al_46 (n := 109) C (by decide) dX11_takeNumber_108 rfl ?_
          refine ge_iadd (n := 110) C dX11_takeNumber_109 rfl ?_
          refine ge_bipush (v := 48) (n := 112) C dX11_takeNumber_110 (by decide) rfl ?_
          refine ge_isub (n := 113) C dX11_takeNumber_112 rfl ?_
          exact hj113 ((((10 : Int32) * (S_69 35 0 21)) + (S_69 46 0 (Int32.toNatClampNeg (S_69 35 0 20)))) - (48 : Int32))
        · refine ge_aload_n (n := 87) C 0 rfl dX11_takeNumber_86 rfl rfl ?_
          refine gt_X11_130 (n := 90) C (by decide) dX11_takeNumber_87 rfl ?_
          refine ge_goto (n := 113) C dX11_takeNumber_90 (by decide) ?_
          exact hj113 (S_69 35 0 21)
  · refine ge_aload_n (n := 20) C 1 rfl dX11_takeNumber_19 rfl rfl ?_
    refine ge_iconst (v := 1) (n := 21) C dX11_takeNumber_20 (by decide) rfl ?_
    refine ge_aload_n (n := 22) C 1 rfl dX11_takeNumber_21 rfl rfl ?_
    refine gt_X11_112 (n := 25) C (by decide) dX11_takeNumber_22 rfl ?_
    refine ge_callVi (n := 28) C (mX11_fails hj (1 : Int32) (S_13 35 0 20) S_13) gv_X11_123 (cl_35 (by decide)) rfl rfl hc_X11_fails ⟨Nat.le_of_ble_eq_true rfl, Nat.le_of_ble_eq_true rfl⟩ rfl rfl (Nat.le_of_ble_eq_true rfl) dX11_takeNumber_25 rfl (fun r_25 S_25 => ?_)
    exact ge_iret C Rr dX11_takeNumber_28
theorem dX11_takePits_0 : decode cX11_takePits 0 = .ok (.aload_n 0, 1) := by decide +kernel
theorem dX11_takePits_1 : decode cX11_takePits 1 = .ok (.iconst 1, 1) := by decide +kernel
theorem dX11_takePits_2 : decode cX11_takePits 2 = .ok (.iconst 3, 1) := by decide +kernel
theorem dX11_takePits_3 : decode cX11_takePits 3 = .ok (.invokevirtual 133, 3) := by decide +kernel
theorem dX11_takePits_6 : decode cX11_takePits 6 = .ok (.istore_n 1, 1) := by decide +kernel
theorem dX11_takePits_7 : decode cX11_takePits 7 = .ok (.iload_n 1, 1) := by decide +kernel
theorem dX11_takePits_8 : decode cX11_takePits 8 = .ok (.ifCond .le 5, 3) := by decide +kernel
theorem dX11_takePits_11 : decode cX11_takePits 11 = .ok (.iload_n 1, 1) := by decide +kernel
theorem dX11_takePits_12 : decode cX11_takePits 12 = .ok (.ireturn, 1) := by decide +kernel
theorem dX11_takePits_13 : decode cX11_takePits 13 = .ok (.aload_n 0, 1) := by decide +kernel
theorem dX11_takePits_14 : decode cX11_takePits 14 = .ok (.getfield 130, 3) := by decide +kernel
theorem dX11_takePits_17 : decode cX11_takePits 17 = .ok (.istore_n 2, 1) := by decide +kernel
theorem dX11_takePits_18 : decode cX11_takePits 18 = .ok (.aload_n 0, 1) := by decide +kernel
theorem dX11_takePits_19 : decode cX11_takePits 19 = .ok (.iconst 1, 1) := by decide +kernel
theorem dX11_takePits_20 : decode cX11_takePits 20 = .ok (.bipush 9, 2) := by decide +kernel
theorem dX11_takePits_22 : decode cX11_takePits 22 = .ok (.invokevirtual 133, 3) := by decide +kernel
theorem dX11_takePits_25 : decode cX11_takePits 25 = .ok (.istore_n 1, 1) := by decide +kernel
theorem dX11_takePits_26 : decode cX11_takePits 26 = .ok (.aload_n 0, 1) := by decide +kernel
theorem dX11_takePits_27 : decode cX11_takePits 27 = .ok (.iload_n 2, 1) := by decide +kernel
theorem dX11_takePits_28 : decode cX11_takePits 28 = .ok (.putfield 136, 3) := by decide +kernel
theorem dX11_takePits_31 : decode cX11_takePits 31 = .ok (.aload_n 0, 1) := by decide +kernel
theorem dX11_takePits_32 : decode cX11_takePits 32 = .ok (.aload_n 0, 1) := by decide +kernel
theorem dX11_takePits_33 : decode cX11_takePits 33 = .ok (.getfield 130, 3) := by decide +kernel
theorem dX11_takePits_36 : decode cX11_takePits 36 = .ok (.putfield 139, 3) := by decide +kernel
theorem dX11_takePits_39 : decode cX11_takePits 39 = .ok (.iload_n 1, 1) := by decide +kernel
theorem dX11_takePits_40 : decode cX11_takePits 40 = .ok (.ireturn, 1) := by decide +kernel
set_option maxRecDepth 100000 in
set_option maxHeartbeats 4000000 in
theorem mX11_takePits {w : WX} {adr : Nat → Nat → Nat} (hj : Ij adr)  (S : St) : ∀ (l : Launch) (r : Int32) (S2 : St), fX11_takePits S = some (r, S2) → Mi l w adr yX11_takePits cX11_takePits 3 (some .int) 2 48 [.ref (adr 35 0)] S r S2 := by
  refine mi_of (lv := [(0, .ref (adr 35 0))]) hj (plainFor_of_name (by decide +kernel)) rfl (Nat.le_of_ble_eq_true rfl) (fun k C Rr => ?_)
  have C : Cx w adr k cX11_takePits RX11 3 2 48 := C
  refine ge_aload_n (n := 1) C 0 rfl dX11_takePits_0 rfl rfl ?_
  refine ge_iconst (v := 1) (n := 2) C dX11_takePits_1 (by decide) rfl ?_
  refine ge_iconst (v := 3) (n := 3) C dX11_takePits_2 (by decide) rfl ?_
  refine ge_callVi (n := 6) C (mX11_takeNumber hj (1 : Int32) (3 : Int32) S) gv_X11_133 (cl_35 (by decide)) rfl rfl hc_X11_takeNumber ⟨Nat.le_of_ble_eq_true rfl, Nat.le_of_ble_eq_true rfl⟩ rfl rfl (Nat.le_of_ble_eq_true rfl) dX11_takePits_3 rfl (fun r_3 S_3 => ?_)
  refine ge_istore_n (n := 7) (lv2 := [(1, .int r_3), (0, .ref (adr 35 0))]) C dX11_takePits_6 rfl rfl (by decide) rfl ?_
  refine ge_iload_n (n := 8) C 0 rfl dX11_takePits_7 rfl rfl ?_
  refine ge_if_le (t := 13) (n := 11) C dX11_takePits_8 (by decide) rfl (fun h_8 => ?_) (fun h_8 => ?_)
  · refine ge_aload_n (n := 14) C 1 rfl dX11_takePits_13 rfl rfl ?_
    refine gt_X11_130 (n := 17) C (by decide) dX11_takePits_14 rfl ?_
    refine ge_bi (fun x2_17 => ?_)
    refine ge_istore_n (n := 18) (lv2 := [(2, .int x2_17), (1, .int r_3), (0, .ref (adr 35 0))]) C dX11_takePits_17 rfl rfl (by decide) rfl ?_
    refine ge_aload_n (n := 19) C 2 rfl dX11_takePits_18 rfl rfl ?_
    refine ge_iconst (v := 1) (n := 20) C dX11_takePits_19 (by decide) rfl ?_
    refine ge_bipush (v := 9) (n := 22) C dX11_takePits_20 (by decide) rfl ?_
    refine ge_callVi (n := 25) C (mX11_takeNumber hj (1 : Int32) (9 : Int32) S_3) gv_X11_133 (cl_35 (by decide)) rfl rfl hc_X11_takeNumber ⟨Nat.le_of_ble_eq_true rfl, Nat.le_of_ble_eq_true rfl⟩ rfl rfl (Nat.le_of_ble_eq_true rfl) dX11_takePits_22 rfl (fun r_22 S_22 => ?_)
    refine ge_istore_n (n := 26) (lv2 := [(1, .int r_22), (2, .int x2_17), (0, .ref (adr 35 0))]) C dX11_takePits_25 rfl rfl (by decide) rfl ?_
    refine ge_aload_n (n := 27) C 2 rfl dX11_takePits_26 rfl rfl ?_
    refine ge_iload_n (n := 28) C 1 rfl dX11_takePits_27 rfl rfl ?_
    refine pt_X11_136 (n := 31) C (by decide) dX11_takePits_28 rfl (fun S_28 => ?_)
    refine ge_aload_n (n := 32) C 2 rfl dX11_takePits_31 rfl rfl ?_
    refine ge_aload_n (n := 33) C 2 rfl dX11_takePits_32 rfl rfl ?_
    refine gt_X11_130 (n := 36) C (by decide) dX11_takePits_33 rfl ?_
    refine pt_X11_139 (n := 39) C (by decide) dX11_takePits_36 rfl (fun S_36 => ?_)
    refine ge_iload_n (n := 40) C 0 rfl dX11_takePits_39 rfl rfl ?_
    exact ge_iret C Rr dX11_takePits_40
  · refine ge_iload_n (n := 12) C 0 rfl dX11_takePits_11 rfl rfl ?_
    exact ge_iret C Rr dX11_takePits_12
theorem dX11_takeMan_0 : decode cX11_takeMan 0 = .ok (.aload_n 0, 1) := by decide +kernel
theorem dX11_takeMan_1 : decode cX11_takeMan 1 = .ok (.iconst 0, 1) := by decide +kernel
theorem dX11_takeMan_2 : decode cX11_takeMan 2 = .ok (.iconst 3, 1) := by decide +kernel
theorem dX11_takeMan_3 : decode cX11_takeMan 3 = .ok (.invokevirtual 133, 3) := by decide +kernel
theorem dX11_takeMan_6 : decode cX11_takeMan 6 = .ok (.istore_n 1, 1) := by decide +kernel
theorem dX11_takeMan_7 : decode cX11_takeMan 7 = .ok (.aload_n 0, 1) := by decide +kernel
theorem dX11_takeMan_8 : decode cX11_takeMan 8 = .ok (.getfield 47, 3) := by decide +kernel
theorem dX11_takeMan_11 : decode cX11_takeMan 11 = .ok (.aload_n 0, 1) := by decide +kernel
theorem dX11_takeMan_12 : decode cX11_takeMan 12 = .ok (.getfield 142, 3) := by decide +kernel
theorem dX11_takeMan_15 : decode cX11_takeMan 15 = .ok (.aload_n 0, 1) := by decide +kernel
theorem dX11_takeMan_16 : decode cX11_takeMan 16 = .ok (.getfield 130, 3) := by decide +kernel
theorem dX11_takeMan_19 : decode cX11_takeMan 19 = .ok (.iastore, 1) := by decide +kernel
theorem dX11_takeMan_20 : decode cX11_takeMan 20 = .ok (.iconst 0, 1) := by decide +kernel
theorem dX11_takeMan_21 : decode cX11_takeMan 21 = .ok (.istore_n 2, 1) := by decide +kernel
theorem dX11_takeMan_22 : decode cX11_takeMan 22 = .ok (.iload_n 2, 1) := by decide +kernel
theorem dX11_takeMan_23 : decode cX11_takeMan 23 = .ok (.iconst 5, 1) := by decide +kernel
theorem dX11_takeMan_24 : decode cX11_takeMan 24 = .ok (.if_icmp .ge 71, 3) := by decide +kernel
theorem dX11_takeMan_27 : decode cX11_takeMan 27 = .ok (.iload_n 1, 1) := by decide +kernel
theorem dX11_takeMan_28 : decode cX11_takeMan 28 = .ok (.ifCond .ne 67, 3) := by decide +kernel
theorem dX11_takeMan_31 : decode cX11_takeMan 31 = .ok (.iload_n 2, 1) := by decide +kernel
theorem dX11_takeMan_32 : decode cX11_takeMan 32 = .ok (.ifCond .le 32, 3) := by decide +kernel
theorem dX11_takeMan_35 : decode cX11_takeMan 35 = .ok (.aload_n 0, 1) := by decide +kernel
theorem dX11_takeMan_36 : decode cX11_takeMan 36 = .ok (.invokevirtual 115, 3) := by decide +kernel
theorem dX11_takeMan_39 : decode cX11_takeMan 39 = .ok (.bipush 44, 2) := by decide +kernel
theorem dX11_takeMan_41 : decode cX11_takeMan 41 = .ok (.if_icmp .eq 13, 3) := by decide +kernel
theorem dX11_takeMan_44 : decode cX11_takeMan 44 = .ok (.aload_n 0, 1) := by decide +kernel
theorem dX11_takeMan_45 : decode cX11_takeMan 45 = .ok (.iconst 1, 1) := by decide +kernel
theorem dX11_takeMan_46 : decode cX11_takeMan 46 = .ok (.aload_n 0, 1) := by decide +kernel
theorem dX11_takeMan_47 : decode cX11_takeMan 47 = .ok (.getfield 112, 3) := by decide +kernel
theorem dX11_takeMan_50 : decode cX11_takeMan 50 = .ok (.invokevirtual 123, 3) := by decide +kernel
theorem dX11_takeMan_53 : decode cX11_takeMan 53 = .ok (.ireturn, 1) := by decide +kernel
theorem dX11_takeMan_54 : decode cX11_takeMan 54 = .ok (.aload_n 0, 1) := by decide +kernel
theorem dX11_takeMan_55 : decode cX11_takeMan 55 = .ok (.dup, 1) := by decide +kernel
theorem dX11_takeMan_56 : decode cX11_takeMan 56 = .ok (.getfield 112, 3) := by decide +kernel
theorem dX11_takeMan_59 : decode cX11_takeMan 59 = .ok (.iconst 1, 1) := by decide +kernel
theorem dX11_takeMan_60 : decode cX11_takeMan 60 = .ok (.iadd, 1) := by decide +kernel
theorem dX11_takeMan_61 : decode cX11_takeMan 61 = .ok (.putfield 112, 3) := by decide +kernel
theorem dX11_takeMan_64 : decode cX11_takeMan 64 = .ok (.aload_n 0, 1) := by decide +kernel
theorem dX11_takeMan_65 : decode cX11_takeMan 65 = .ok (.iconst 0, 1) := by decide +kernel
theorem dX11_takeMan_66 : decode cX11_takeMan 66 = .ok (.bipush 30, 2) := by decide +kernel
theorem dX11_takeMan_68 : decode cX11_takeMan 68 = .ok (.invokevirtual 133, 3) := by decide +kernel
theorem dX11_takeMan_71 : decode cX11_takeMan 71 = .ok (.istore_n 1, 1) := by decide +kernel
theorem dX11_takeMan_72 : decode cX11_takeMan 72 = .ok (.aload_n 0, 1) := by decide +kernel
theorem dX11_takeMan_73 : decode cX11_takeMan 73 = .ok (.getfield 50, 3) := by decide +kernel
theorem dX11_takeMan_76 : decode cX11_takeMan 76 = .ok (.iconst 5, 1) := by decide +kernel
theorem dX11_takeMan_77 : decode cX11_takeMan 77 = .ok (.aload_n 0, 1) := by decide +kernel
theorem dX11_takeMan_78 : decode cX11_takeMan 78 = .ok (.getfield 142, 3) := by decide +kernel
theorem dX11_takeMan_81 : decode cX11_takeMan 81 = .ok (.imul, 1) := by decide +kernel
theorem dX11_takeMan_82 : decode cX11_takeMan 82 = .ok (.iload_n 2, 1) := by decide +kernel
theorem dX11_takeMan_83 : decode cX11_takeMan 83 = .ok (.iadd, 1) := by decide +kernel
theorem dX11_takeMan_84 : decode cX11_takeMan 84 = .ok (.aload_n 0, 1) := by decide +kernel
theorem dX11_takeMan_85 : decode cX11_takeMan 85 = .ok (.getfield 130, 3) := by decide +kernel
theorem dX11_takeMan_88 : decode cX11_takeMan 88 = .ok (.iastore, 1) := by decide +kernel
theorem dX11_takeMan_89 : decode cX11_takeMan 89 = .ok (.iinc 2 1, 3) := by decide +kernel
theorem dX11_takeMan_92 : decode cX11_takeMan 92 = .ok (.goto (-70), 3) := by decide +kernel
theorem dX11_takeMan_95 : decode cX11_takeMan 95 = .ok (.aload_n 0, 1) := by decide +kernel
theorem dX11_takeMan_96 : decode cX11_takeMan 96 = .ok (.dup, 1) := by decide +kernel
theorem dX11_takeMan_97 : decode cX11_takeMan 97 = .ok (.getfield 142, 3) := by decide +kernel
theorem dX11_takeMan_100 : decode cX11_takeMan 100 = .ok (.iconst 1, 1) := by decide +kernel
theorem dX11_takeMan_101 : decode cX11_takeMan 101 = .ok (.iadd, 1) := by decide +kernel
theorem dX11_takeMan_102 : decode cX11_takeMan 102 = .ok (.putfield 142, 3) := by decide +kernel
theorem dX11_takeMan_105 : decode cX11_takeMan 105 = .ok (.iload_n 1, 1) := by decide +kernel
theorem dX11_takeMan_106 : decode cX11_takeMan 106 = .ok (.ireturn, 1) := by decide +kernel
set_option maxRecDepth 100000 in
set_option maxHeartbeats 4000000 in
theorem mX11_takeMan {w : WX} {adr : Nat → Nat → Nat} (hj : Ij adr)  (S : St) : ∀ (l : Launch) (r : Int32) (S2 : St), fX11_takeMan S = some (r, S2) → Mi l w adr yX11_takeMan cX11_takeMan 3 (some .int) 2 48 [.ref (adr 35 0)] S r S2 := by
  refine mi_of (lv := [(0, .ref (adr 35 0))]) hj (plainFor_of_name (by decide +kernel)) rfl (Nat.le_of_ble_eq_true rfl) (fun k C Rr => ?_)
  have C : Cx w adr k cX11_takeMan RX11 3 2 48 := C
  refine ge_aload_n (n := 1) C 0 rfl dX11_takeMan_0 rfl rfl ?_
  refine ge_iconst (v := 0) (n := 2) C dX11_takeMan_1 (by decide) rfl ?_
  refine ge_iconst (v := 3) (n := 3) C dX11_takeMan_2 (by decide) rfl ?_
  refine ge_callVi (n := 6) C (mX11_takeNumber hj (0 : Int32) (3 : Int32) S) gv_X11_133 (cl_35 (by decide)) rfl rfl hc_X11_takeNumber ⟨Nat.le_of_ble_eq_true rfl, Nat.le_of_ble_eq_true rfl⟩ rfl rfl (Nat.le_of_ble_eq_true rfl) dX11_takeMan_3 rfl (fun r_3 S_3 => ?_)
  refine ge_istore_n (n := 7) (lv2 := [(1, .int r_3), (0, .ref (adr 35 0))]) C dX11_takeMan_6 rfl rfl (by decide) rfl ?_
  refine ge_aload_n (n := 8) C 1 rfl dX11_takeMan_7 rfl rfl ?_
  refine gt_X11_47 (n := 11) C (by decide) dX11_takeMan_8 rfl ?_
  refine ge_aload_n (n := 12) C 1 rfl dX11_takeMan_11 rfl rfl ?_
  refine gt_X11_142 (n := 15) C (by decide) dX11_takeMan_12 rfl ?_
  refine ge_aload_n (n := 16) C 1 rfl dX11_takeMan_15 rfl rfl ?_
  refine gt_X11_130 (n := 19) C (by decide) dX11_takeMan_16 rfl ?_
  refine as_47 (n := 20) C (by decide) dX11_takeMan_19 rfl (fun S_19 => ?_)
  refine ge_iconst (v := 0) (n := 21) C dX11_takeMan_20 (by decide) rfl ?_
  refine ge_istore_n (n := 22) (lv2 := [(2, .int (0 : Int32)), (1, .int r_3), (0, .ref (adr 35 0))]) C dX11_takeMan_21 rfl rfl (by decide) rfl ?_
  refine ge_jn (fun (jj : Int32 → St → Op) => ∀ (x1_95 : Int32) (S_95 : St), Ge w adr k 95 [(1, .int x1_95), (0, .ref (adr 35 0))] [] S_95 (jj x1_95 S_95)) (fun x1_95 S_95 => ?_) (fun kk22 hkk22 => ?_)
  · refine ge_aload_n (n := 96) C 1 rfl dX11_takeMan_95 rfl rfl ?_
    refine ge_dup (n := 97) C dX11_takeMan_96 rfl rfl ?_
    refine gt_X11_142 (n := 100) C (by decide) dX11_takeMan_97 rfl ?_
    refine ge_iconst (v := 1) (n := 101) C dX11_takeMan_100 (by decide) rfl ?_
    refine ge_iadd (n := 102) C dX11_takeMan_101 rfl ?_
    refine pt_X11_142 (n := 105) C (by decide) dX11_takeMan_102 rfl (fun S_102 => ?_)
    refine ge_iload_n (n := 106) C 0 rfl dX11_takeMan_105 rfl rfl ?_
    exact ge_iret C Rr dX11_takeMan_106
  refine ge_lop (fun (jj : Int32 → Int32 → St → Op) => ∀ (x2_22 : Int32) (x1_22 : Int32) (S_22 : St), Ge w adr k 22 [(2, .int x2_22), (1, .int x1_22), (0, .ref (adr 35 0))] [] S_22 (jj x2_22 x1_22 S_22)) (fun _ _ _ => ge_none) (fun ag22 hag22 x2_22 x1_22 S_22 => ?_) FU (0 : Int32) r_3 S_19
  refine ge_iload_n (n := 23) C 0 rfl dX11_takeMan_22 rfl rfl ?_
  refine ge_iconst (v := 5) (n := 24) C dX11_takeMan_23 (by decide) rfl ?_
  refine ge_icmp_ge (t := 95) (n := 27) C dX11_takeMan_24 (by decide) rfl (fun h_24 => ?_) (fun h_24 => ?_)
  · refine ge_sub [1, 2] rfl ?_
    exact hkk22 x1_22 S_22
  · refine ge_iload_n (n := 28) C 1 rfl dX11_takeMan_27 rfl rfl ?_
    refine ge_if_ne (t := 95) (n := 31) C dX11_takeMan_28 (by decide) rfl (fun h_28 => ?_) (fun h_28 => ?_)
    · refine ge_sub [1, 2] rfl ?_
      exact hkk22 x1_22 S_22
    · refine ge_iload_n (n := 32) C 0 rfl dX11_takeMan_31 rfl rfl ?_
      refine ge_jn (fun (jj : St → Op) => ∀ (S_64 : St), Ge w adr k 64 [(2, .int x2_22), (0, .ref (adr 35 0))] [] S_64 (jj S_64)) (fun S_64 => ?_) (fun j64 hj64 => ?_)
      · refine ge_aload_n (n := 65) C 1 rfl dX11_takeMan_64 rfl rfl ?_
        refine ge_iconst (v := 0) (n := 66) C dX11_takeMan_65 (by decide) rfl ?_
        refine ge_bipush (v := 30) (n := 68) C dX11_takeMan_66 (by decide) rfl ?_
        refine ge_callVi (n := 71) C (mX11_takeNumber hj (0 : Int32) (30 : Int32) S_64) gv_X11_133 (cl_35 (by decide)) rfl rfl hc_X11_takeNumber ⟨Nat.le_of_ble_eq_true rfl, Nat.le_of_ble_eq_true rfl⟩ rfl rfl (Nat.le_of_ble_eq_true rfl) dX11_takeMan_68 rfl (fun r_68 S_68 => ?_)
        refine ge_istore_n (n := 72) (lv2 := [(1, .int r_68), (2, .int x2_22), (0, .ref (adr 35 0))]) C dX11_takeMan_71 rfl rfl (by decide) rfl ?_
        refine ge_aload_n (n := 73) C 2 rfl dX11_takeMan_72 rfl rfl ?_
        refine gt_X11_50 (n := 76) C (by decide) dX11_takeMan_73 rfl ?_
        refine ge_iconst (v := 5) (n := 77) C dX11_takeMan_76 (by decide) rfl ?_
        refine ge_aload_n (n := 78) C 2 rfl dX11_takeMan_77 rfl rfl ?_
        refine gt_X11_142 (n := 81) C (by decide) dX11_takeMan_78 rfl ?_
        refine ge_imul (n := 82) C dX11_takeMan_81 rfl ?_
        refine ge_iload_n (n := 83) C 1 rfl dX11_takeMan_82 rfl rfl ?_
        refine ge_iadd (n := 84) C dX11_takeMan_83 rfl ?_
        refine ge_aload_n (n := 85) C 2 rfl dX11_takeMan_84 rfl rfl ?_
        refine gt_X11_130 (n := 88) C (by decide) dX11_takeMan_85 rfl ?_
        refine as_48 (n := 89) C (by decide) dX11_takeMan_88 rfl (fun S_88 => ?_)
        refine ge_iinc (n := 92) (v := (x2_22 + (1 : Int32))) (lv2 := [(2, .int (x2_22 + (1 : Int32))), (1, .int r_68), (0, .ref (adr 35 0))]) C 1 rfl dX11_takeMan_89 rfl rfl (by decide) rfl ?_
        refine ge_goto (n := 22) C dX11_takeMan_92 (by decide) ?_
        exact hag22 (x2_22 + (1 : Int32)) r_68 S_88
      refine ge_if_le (t := 64) (n := 35) C dX11_takeMan_32 (by decide) rfl (fun h_32 => ?_) (fun h_32 => ?_)
      · refine ge_sub [0, 2] rfl ?_
        exact hj64 S_22
      · refine ge_aload_n (n := 36) C 2 rfl dX11_takeMan_35 rfl rfl ?_
        refine ge_callVi (n := 39) C (mX11_here hj S_22) gv_X11_115 (cl_35 (by decide)) rfl rfl hc_X11_here ⟨Nat.le_of_ble_eq_true rfl, Nat.le_of_ble_eq_true rfl⟩ rfl rfl (Nat.le_of_ble_eq_true rfl) dX11_takeMan_36 rfl (fun r_36 S_36 => ?_)
        refine ge_bipush (v := 44) (n := 41) C dX11_takeMan_39 (by decide) rfl ?_
        refine ge_icmp_eq (t := 54) (n := 44) C dX11_takeMan_41 (by decide) rfl (fun h_41 => ?_) (fun h_41 => ?_)
        · refine ge_aload_n (n := 55) C 2 rfl dX11_takeMan_54 rfl rfl ?_
          refine ge_dup (n := 56) C dX11_takeMan_55 rfl rfl ?_
          refine gt_X11_112 (n := 59) C (by decide) dX11_takeMan_56 rfl ?_
          refine ge_iconst (v := 1) (n := 60) C dX11_takeMan_59 (by decide) rfl ?_
          refine ge_iadd (n := 61) C dX11_takeMan_60 rfl ?_
          refine pt_X11_112 (n := 64) C (by decide) dX11_takeMan_61 rfl (fun S_61 => ?_)
          refine ge_sub [0, 2] rfl ?_
          exact hj64 S_61
        · refine ge_aload_n (n := 45) C 2 rfl dX11_takeMan_44 rfl rfl ?_
          refine ge_iconst (v := 1) (n := 46) C dX11_takeMan_45 (by decide) rfl ?_
          refine ge_aload_n (n := 47) C 2 rfl dX11_takeMan_46 rfl rfl ?_
          refine gt_X11_112 (n := 50) C (by decide) dX11_takeMan_47 rfl ?_
          refine ge_callVi (n := 53) C (mX11_fails hj (1 : Int32) (S_36 35 0 20) S_36) gv_X11_123 (cl_35 (by decide)) rfl rfl hc_X11_fails ⟨Nat.le_of_ble_eq_true rfl, Nat.le_of_ble_eq_true rfl⟩ rfl rfl (Nat.le_of_ble_eq_true rfl) dX11_takeMan_50 rfl (fun r_50 S_50 => ?_)
          exact ge_iret C Rr dX11_takeMan_53
theorem dX11_takeSaying_0 : decode cX11_takeSaying 0 = .ok (.aload_n 0, 1) := by decide +kernel
theorem dX11_takeSaying_1 : decode cX11_takeSaying 1 = .ok (.iconst 0, 1) := by decide +kernel
theorem dX11_takeSaying_2 : decode cX11_takeSaying 2 = .ok (.iconst 4, 1) := by decide +kernel
theorem dX11_takeSaying_3 : decode cX11_takeSaying 3 = .ok (.invokevirtual 133, 3) := by decide +kernel
theorem dX11_takeSaying_6 : decode cX11_takeSaying 6 = .ok (.istore_n 1, 1) := by decide +kernel
theorem dX11_takeSaying_7 : decode cX11_takeSaying 7 = .ok (.iload_n 1, 1) := by decide +kernel
theorem dX11_takeSaying_8 : decode cX11_takeSaying 8 = .ok (.ifCond .le 5, 3) := by decide +kernel
theorem dX11_takeSaying_11 : decode cX11_takeSaying 11 = .ok (.iload_n 1, 1) := by decide +kernel
theorem dX11_takeSaying_12 : decode cX11_takeSaying 12 = .ok (.ireturn, 1) := by decide +kernel
theorem dX11_takeSaying_13 : decode cX11_takeSaying 13 = .ok (.aload_n 0, 1) := by decide +kernel
theorem dX11_takeSaying_14 : decode cX11_takeSaying 14 = .ok (.getfield 53, 3) := by decide +kernel
theorem dX11_takeSaying_17 : decode cX11_takeSaying 17 = .ok (.aload_n 0, 1) := by decide +kernel
theorem dX11_takeSaying_18 : decode cX11_takeSaying 18 = .ok (.getfield 145, 3) := by decide +kernel
theorem dX11_takeSaying_21 : decode cX11_takeSaying 21 = .ok (.aload_n 0, 1) := by decide +kernel
theorem dX11_takeSaying_22 : decode cX11_takeSaying 22 = .ok (.getfield 130, 3) := by decide +kernel
theorem dX11_takeSaying_25 : decode cX11_takeSaying 25 = .ok (.iastore, 1) := by decide +kernel
theorem dX11_takeSaying_26 : decode cX11_takeSaying 26 = .ok (.aload_n 0, 1) := by decide +kernel
theorem dX11_takeSaying_27 : decode cX11_takeSaying 27 = .ok (.iconst 1, 1) := by decide +kernel
theorem dX11_takeSaying_28 : decode cX11_takeSaying 28 = .ok (.bipush 60, 2) := by decide +kernel
theorem dX11_takeSaying_30 : decode cX11_takeSaying 30 = .ok (.invokevirtual 133, 3) := by decide +kernel
theorem dX11_takeSaying_33 : decode cX11_takeSaying 33 = .ok (.istore_n 1, 1) := by decide +kernel
theorem dX11_takeSaying_34 : decode cX11_takeSaying 34 = .ok (.aload_n 0, 1) := by decide +kernel
theorem dX11_takeSaying_35 : decode cX11_takeSaying 35 = .ok (.getfield 56, 3) := by decide +kernel
theorem dX11_takeSaying_38 : decode cX11_takeSaying 38 = .ok (.aload_n 0, 1) := by decide +kernel
theorem dX11_takeSaying_39 : decode cX11_takeSaying 39 = .ok (.getfield 145, 3) := by decide +kernel
theorem dX11_takeSaying_42 : decode cX11_takeSaying 42 = .ok (.aload_n 0, 1) := by decide +kernel
theorem dX11_takeSaying_43 : decode cX11_takeSaying 43 = .ok (.getfield 130, 3) := by decide +kernel
theorem dX11_takeSaying_46 : decode cX11_takeSaying 46 = .ok (.iastore, 1) := by decide +kernel
theorem dX11_takeSaying_47 : decode cX11_takeSaying 47 = .ok (.aload_n 0, 1) := by decide +kernel
theorem dX11_takeSaying_48 : decode cX11_takeSaying 48 = .ok (.dup, 1) := by decide +kernel
theorem dX11_takeSaying_49 : decode cX11_takeSaying 49 = .ok (.getfield 145, 3) := by decide +kernel
theorem dX11_takeSaying_52 : decode cX11_takeSaying 52 = .ok (.iconst 1, 1) := by decide +kernel
theorem dX11_takeSaying_53 : decode cX11_takeSaying 53 = .ok (.iadd, 1) := by decide +kernel
theorem dX11_takeSaying_54 : decode cX11_takeSaying 54 = .ok (.putfield 145, 3) := by decide +kernel
theorem dX11_takeSaying_57 : decode cX11_takeSaying 57 = .ok (.iload_n 1, 1) := by decide +kernel
theorem dX11_takeSaying_58 : decode cX11_takeSaying 58 = .ok (.ireturn, 1) := by decide +kernel
set_option maxRecDepth 100000 in
set_option maxHeartbeats 4000000 in
theorem mX11_takeSaying {w : WX} {adr : Nat → Nat → Nat} (hj : Ij adr)  (S : St) : ∀ (l : Launch) (r : Int32) (S2 : St), fX11_takeSaying S = some (r, S2) → Mi l w adr yX11_takeSaying cX11_takeSaying 2 (some .int) 2 48 [.ref (adr 35 0)] S r S2 := by
  refine mi_of (lv := [(0, .ref (adr 35 0))]) hj (plainFor_of_name (by decide +kernel)) rfl (Nat.le_of_ble_eq_true rfl) (fun k C Rr => ?_)
  have C : Cx w adr k cX11_takeSaying RX11 2 2 48 := C
  refine ge_aload_n (n := 1) C 0 rfl dX11_takeSaying_0 rfl rfl ?_
  refine ge_iconst (v := 0) (n := 2) C dX11_takeSaying_1 (by decide) rfl ?_
  refine ge_iconst (v := 4) (n := 3) C dX11_takeSaying_2 (by decide) rfl ?_
  refine ge_callVi (n := 6) C (mX11_takeNumber hj (0 : Int32) (4 : Int32) S) gv_X11_133 (cl_35 (by decide)) rfl rfl hc_X11_takeNumber ⟨Nat.le_of_ble_eq_true rfl, Nat.le_of_ble_eq_true rfl⟩ rfl rfl (Nat.le_of_ble_eq_true rfl) dX11_takeSaying_3 rfl (fun r_3 S_3 => ?_)
  refine ge_istore_n (n := 7) (lv2 := [(1, .int r_3), (0, .ref (adr 35 0))]) C dX11_takeSaying_6 rfl rfl (by decide) rfl ?_
  refine ge_iload_n (n := 8) C 0 rfl dX11_takeSaying_7 rfl rfl ?_
  refine ge_if_le (t := 13) (n := 11) C dX11_takeSaying_8 (by decide) rfl (fun h_8 => ?_) (fun h_8 => ?_)
  · refine ge_aload_n (n := 14) C 1 rfl dX11_takeSaying_13 rfl rfl ?_
    refine gt_X11_53 (n := 17) C (by decide) dX11_takeSaying_14 rfl ?_
    refine ge_aload_n (n := 18) C 1 rfl dX11_takeSaying_17 rfl rfl ?_
    refine gt_X11_145 (n := 21) C (by decide) dX11_takeSaying_18 rfl ?_
    refine ge_aload_n (n := 22) C 1 rfl dX11_takeSaying_21 rfl rfl ?_
    refine gt_X11_130 (n := 25) C (by decide) dX11_takeSaying_22 rfl ?_
    refine as_49 (n := 26) C (by decide) dX11_takeSaying_25 rfl (fun S_25 => ?_)
    refine ge_aload_n (n := 27) C 1 rfl dX11_takeSaying_26 rfl rfl ?_
    refine ge_iconst (v := 1) (n := 28) C dX11_takeSaying_27 (by decide) rfl ?_
    refine ge_bipush (v := 60) (n := 30) C dX11_takeSaying_28 (by decide) rfl ?_
    refine ge_callVi (n := 33) C (mX11_takeNumber hj (1 : Int32) (60 : Int32) S_25) gv_X11_133 (cl_35 (by decide)) rfl rfl hc_X11_takeNumber ⟨Nat.le_of_ble_eq_true rfl, Nat.le_of_ble_eq_true rfl⟩ rfl rfl (Nat.le_of_ble_eq_true rfl) dX11_takeSaying_30 rfl (fun r_30 S_30 => ?_)
    refine ge_istore_n (n := 34) (lv2 := [(1, .int r_30), (0, .ref (adr 35 0))]) C dX11_takeSaying_33 rfl rfl (by decide) rfl ?_
    refine ge_aload_n (n := 35) C 1 rfl dX11_takeSaying_34 rfl rfl ?_
    refine gt_X11_56 (n := 38) C (by decide) dX11_takeSaying_35 rfl ?_
    refine ge_aload_n (n := 39) C 1 rfl dX11_takeSaying_38 rfl rfl ?_
    refine gt_X11_145 (n := 42) C (by decide) dX11_takeSaying_39 rfl ?_
    refine ge_aload_n (n := 43) C 1 rfl dX11_takeSaying_42 rfl rfl ?_
    refine gt_X11_130 (n := 46) C (by decide) dX11_takeSaying_43 rfl ?_
    refine as_50 (n := 47) C (by decide) dX11_takeSaying_46 rfl (fun S_46 => ?_)
    refine ge_aload_n (n := 48) C 1 rfl dX11_takeSaying_47 rfl rfl ?_
    refine ge_dup (n := 49) C dX11_takeSaying_48 rfl rfl ?_
    refine gt_X11_145 (n := 52) C (by decide) dX11_takeSaying_49 rfl ?_
    refine ge_iconst (v := 1) (n := 53) C dX11_takeSaying_52 (by decide) rfl ?_
    refine ge_iadd (n := 54) C dX11_takeSaying_53 rfl ?_
    refine pt_X11_145 (n := 57) C (by decide) dX11_takeSaying_54 rfl (fun S_54 => ?_)
    refine ge_iload_n (n := 58) C 0 rfl dX11_takeSaying_57 rfl rfl ?_
    exact ge_iret C Rr dX11_takeSaying_58
  · refine ge_iload_n (n := 12) C 0 rfl dX11_takeSaying_11 rfl rfl ?_
    exact ge_iret C Rr dX11_takeSaying_12
theorem dX11_isFull_0 : decode cX11_isFull 0 = .ok (.iload_n 1, 1) := by decide +kernel
theorem dX11_isFull_1 : decode cX11_isFull 1 = .ok (.ifCond .ne 18, 3) := by decide +kernel
theorem dX11_isFull_4 : decode cX11_isFull 4 = .ok (.aload_n 0, 1) := by decide +kernel
theorem dX11_isFull_5 : decode cX11_isFull 5 = .ok (.getfield 136, 3) := by decide +kernel
theorem dX11_isFull_8 : decode cX11_isFull 8 = .ok (.ifCond .le 7, 3) := by decide +kernel
theorem dX11_isFull_11 : decode cX11_isFull 11 = .ok (.iconst 1, 1) := by decide +kernel
theorem dX11_isFull_12 : decode cX11_isFull 12 = .ok (.goto 43, 3) := by decide +kernel
theorem dX11_isFull_15 : decode cX11_isFull 15 = .ok (.iconst 0, 1) := by decide +kernel
theorem dX11_isFull_16 : decode cX11_isFull 16 = .ok (.goto 39, 3) := by decide +kernel
theorem dX11_isFull_19 : decode cX11_isFull 19 = .ok (.iload_n 1, 1) := by decide +kernel
theorem dX11_isFull_20 : decode cX11_isFull 20 = .ok (.iconst 1, 1) := by decide +kernel
theorem dX11_isFull_21 : decode cX11_isFull 21 = .ok (.if_icmp .ne 20, 3) := by decide +kernel
theorem dX11_isFull_24 : decode cX11_isFull 24 = .ok (.aload_n 0, 1) := by decide +kernel
theorem dX11_isFull_25 : decode cX11_isFull 25 = .ok (.getfield 142, 3) := by decide +kernel
theorem dX11_isFull_28 : decode cX11_isFull 28 = .ok (.bipush 6, 2) := by decide +kernel
theorem dX11_isFull_30 : decode cX11_isFull 30 = .ok (.if_icmp .ne 7, 3) := by decide +kernel
theorem dX11_isFull_33 : decode cX11_isFull 33 = .ok (.iconst 1, 1) := by decide +kernel
theorem dX11_isFull_34 : decode cX11_isFull 34 = .ok (.goto 21, 3) := by decide +kernel
theorem dX11_isFull_37 : decode cX11_isFull 37 = .ok (.iconst 0, 1) := by decide +kernel
theorem dX11_isFull_38 : decode cX11_isFull 38 = .ok (.goto 17, 3) := by decide +kernel
theorem dX11_isFull_41 : decode cX11_isFull 41 = .ok (.aload_n 0, 1) := by decide +kernel
theorem dX11_isFull_42 : decode cX11_isFull 42 = .ok (.getfield 145, 3) := by decide +kernel
theorem dX11_isFull_45 : decode cX11_isFull 45 = .ok (.bipush 8, 2) := by decide +kernel
theorem dX11_isFull_47 : decode cX11_isFull 47 = .ok (.if_icmp .ne 7, 3) := by decide +kernel
theorem dX11_isFull_50 : decode cX11_isFull 50 = .ok (.iconst 1, 1) := by decide +kernel
theorem dX11_isFull_51 : decode cX11_isFull 51 = .ok (.goto 4, 3) := by decide +kernel
theorem dX11_isFull_54 : decode cX11_isFull 54 = .ok (.iconst 0, 1) := by decide +kernel
theorem dX11_isFull_55 : decode cX11_isFull 55 = .ok (.ireturn, 1) := by decide +kernel
set_option maxRecDepth 100000 in
set_option maxHeartbeats 4000000 in
theorem mX11_isFull {w : WX} {adr : Nat → Nat → Nat} (hj : Ij adr) (a1 : Int32) (S : St) : ∀ (l : Launch) (r : Int32) (S2 : St), fX11_isFull a1 S = some (r, S2) → Mi l w adr yX11_isFull cX11_isFull 2 (some .boolean) 0 0 [.ref (adr 35 0), .int a1] S r S2 := by
  refine mi_of (lv := [(0, .ref (adr 35 0)), (1, .int a1)]) hj (plainFor_of_name (by decide +kernel)) rfl (Nat.le_of_ble_eq_true rfl) (fun k C Rr => ?_)
  have C : Cx w adr k cX11_isFull RX11 2 0 0 := C
  refine ge_iload_n (n := 1) C 1 rfl dX11_isFull_0 rfl rfl ?_
  refine ge_if_ne (t := 19) (n := 4) C dX11_isFull_1 (by decide) rfl (fun h_1 => ?_) (fun h_1 => ?_)
  · refine ge_iload_n (n := 20) C 1 rfl dX11_isFull_19 rfl rfl ?_
    refine ge_iconst (v := 1) (n := 21) C dX11_isFull_20 (by decide) rfl ?_
    refine ge_icmp_ne (t := 41) (n := 24) C dX11_isFull_21 (by decide) rfl (fun h_21 => ?_) (fun h_21 => ?_)
    · refine ge_aload_n (n := 42) C 0 rfl dX11_isFull_41 rfl rfl ?_
      refine gt_X11_145 (n := 45) C (by decide) dX11_isFull_42 rfl ?_
      refine ge_bipush (v := 8) (n := 47) C dX11_isFull_45 (by decide) rfl ?_
      refine ge_icmp_ne (t := 54) (n := 50) C dX11_isFull_47 (by decide) rfl (fun h_47 => ?_) (fun h_47 => ?_)
      · refine ge_iconst (v := 0) (n := 55) C dX11_isFull_54 (by decide) rfl ?_
        exact ge_zret C Rr (by decide) dX11_isFull_55
      · refine ge_iconst (v := 1) (n := 51) C dX11_isFull_50 (by decide) rfl ?_
        refine ge_goto (n := 55) C dX11_isFull_51 (by decide) ?_
        exact ge_zret C Rr (by decide) dX11_isFull_55
    · refine ge_aload_n (n := 25) C 0 rfl dX11_isFull_24 rfl rfl ?_
      refine gt_X11_142 (n := 28) C (by decide) dX11_isFull_25 rfl ?_
      refine ge_bipush (v := 6) (n := 30) C dX11_isFull_28 (by decide) rfl ?_
      refine ge_icmp_ne (t := 37) (n := 33) C dX11_isFull_30 (by decide) rfl (fun h_30 => ?_) (fun h_30 => ?_)
      · refine ge_iconst (v := 0) (n := 38) C dX11_isFull_37 (by decide) rfl ?_
        refine ge_goto (n := 55) C dX11_isFull_38 (by decide) ?_
        exact ge_zret C Rr (by decide) dX11_isFull_55
      · refine ge_iconst (v := 1) (n := 34) C dX11_isFull_33 (by decide) rfl ?_
        refine ge_goto (n := 55) C dX11_isFull_34 (by decide) ?_
        exact ge_zret C Rr (by decide) dX11_isFull_55
  · refine ge_aload_n (n := 5) C 0 rfl dX11_isFull_4 rfl rfl ?_
    refine gt_X11_136 (n := 8) C (by decide) dX11_isFull_5 rfl ?_
    refine ge_if_le (t := 15) (n := 11) C dX11_isFull_8 (by decide) rfl (fun h_8 => ?_) (fun h_8 => ?_)
    · refine ge_iconst (v := 0) (n := 16) C dX11_isFull_15 (by decide) rfl ?_
      refine ge_goto (n := 55) C dX11_isFull_16 (by decide) ?_
      exact ge_zret C Rr (by decide) dX11_isFull_55
    · refine ge_iconst (v := 1) (n := 12) C dX11_isFull_11 (by decide) rfl ?_
      refine ge_goto (n := 55) C dX11_isFull_12 (by decide) ?_
      exact ge_zret C Rr (by decide) dX11_isFull_55
theorem dX11_takeBody_0 : decode cX11_takeBody 0 = .ok (.iload_n 1, 1) := by decide +kernel
theorem dX11_takeBody_1 : decode cX11_takeBody 1 = .ok (.ifCond .ne 10, 3) := by decide +kernel
theorem dX11_takeBody_4 : decode cX11_takeBody 4 = .ok (.aload_n 0, 1) := by decide +kernel
theorem dX11_takeBody_5 : decode cX11_takeBody 5 = .ok (.invokevirtual 148, 3) := by decide +kernel
theorem dX11_takeBody_8 : decode cX11_takeBody 8 = .ok (.goto 19, 3) := by decide +kernel
theorem dX11_takeBody_11 : decode cX11_takeBody 11 = .ok (.iload_n 1, 1) := by decide +kernel
theorem dX11_takeBody_12 : decode cX11_takeBody 12 = .ok (.iconst 1, 1) := by decide +kernel
theorem dX11_takeBody_13 : decode cX11_takeBody 13 = .ok (.if_icmp .ne 10, 3) := by decide +kernel
theorem dX11_takeBody_16 : decode cX11_takeBody 16 = .ok (.aload_n 0, 1) := by decide +kernel
theorem dX11_takeBody_17 : decode cX11_takeBody 17 = .ok (.invokevirtual 151, 3) := by decide +kernel
theorem dX11_takeBody_20 : decode cX11_takeBody 20 = .ok (.goto 7, 3) := by decide +kernel
theorem dX11_takeBody_23 : decode cX11_takeBody 23 = .ok (.aload_n 0, 1) := by decide +kernel
theorem dX11_takeBody_24 : decode cX11_takeBody 24 = .ok (.invokevirtual 154, 3) := by decide +kernel
theorem dX11_takeBody_27 : decode cX11_takeBody 27 = .ok (.ireturn, 1) := by decide +kernel
set_option maxRecDepth 100000 in
set_option maxHeartbeats 4000000 in
theorem mX11_takeBody {w : WX} {adr : Nat → Nat → Nat} (hj : Ij adr) (a1 : Int32) (S : St) : ∀ (l : Launch) (r : Int32) (S2 : St), fX11_takeBody a1 S = some (r, S2) → Mi l w adr yX11_takeBody cX11_takeBody 2 (some .int) 3 70 [.ref (adr 35 0), .int a1] S r S2 := by
  refine mi_of (lv := [(0, .ref (adr 35 0)), (1, .int a1)]) hj (plainFor_of_name (by decide +kernel)) rfl (Nat.le_of_ble_eq_true rfl) (fun k C Rr => ?_)
  have C : Cx w adr k cX11_takeBody RX11 2 3 70 := C
  refine ge_iload_n (n := 1) C 1 rfl dX11_takeBody_0 rfl rfl ?_
  refine ge_if_ne (t := 11) (n := 4) C dX11_takeBody_1 (by decide) rfl (fun h_1 => ?_) (fun h_1 => ?_)
  · refine ge_iload_n (n := 12) C 1 rfl dX11_takeBody_11 rfl rfl ?_
    refine ge_iconst (v := 1) (n := 13) C dX11_takeBody_12 (by decide) rfl ?_
    refine ge_icmp_ne (t := 23) (n := 16) C dX11_takeBody_13 (by decide) rfl (fun h_13 => ?_) (fun h_13 => ?_)
    · refine ge_aload_n (n := 24) C 0 rfl dX11_takeBody_23 rfl rfl ?_
      refine ge_callVi (n := 27) C (mX11_takeSaying hj S) gv_X11_154 (cl_35 (by decide)) rfl rfl hc_X11_takeSaying ⟨Nat.le_of_ble_eq_true rfl, Nat.le_of_ble_eq_true rfl⟩ rfl rfl (Nat.le_of_ble_eq_true rfl) dX11_takeBody_24 rfl (fun r_24 S_24 => ?_)
      exact ge_iret C Rr dX11_takeBody_27
    · refine ge_aload_n (n := 17) C 0 rfl dX11_takeBody_16 rfl rfl ?_
      refine ge_callVi (n := 20) C (mX11_takeMan hj S) gv_X11_151 (cl_35 (by decide)) rfl rfl hc_X11_takeMan ⟨Nat.le_of_ble_eq_true rfl, Nat.le_of_ble_eq_true rfl⟩ rfl rfl (Nat.le_of_ble_eq_true rfl) dX11_takeBody_17 rfl (fun r_17 S_17 => ?_)
      refine ge_goto (n := 27) C dX11_takeBody_20 (by decide) ?_
      exact ge_iret C Rr dX11_takeBody_27
  · refine ge_aload_n (n := 5) C 0 rfl dX11_takeBody_4 rfl rfl ?_
    refine ge_callVi (n := 8) C (mX11_takePits hj S) gv_X11_148 (cl_35 (by decide)) rfl rfl hc_X11_takePits ⟨Nat.le_of_ble_eq_true rfl, Nat.le_of_ble_eq_true rfl⟩ rfl rfl (Nat.le_of_ble_eq_true rfl) dX11_takeBody_5 rfl (fun r_5 S_5 => ?_)
    refine ge_goto (n := 27) C dX11_takeBody_8 (by decide) ?_
    exact ge_iret C Rr dX11_takeBody_27
theorem dX11_takeClause_0 : decode cX11_takeClause 0 = .ok (.aload_n 0, 1) := by decide +kernel
theorem dX11_takeClause_1 : decode cX11_takeClause 1 = .ok (.invokevirtual 115, 3) := by decide +kernel
theorem dX11_takeClause_4 : decode cX11_takeClause 4 = .ok (.istore_n 1, 1) := by decide +kernel
theorem dX11_takeClause_5 : decode cX11_takeClause 5 = .ok (.iload_n 1, 1) := by decide +kernel
theorem dX11_takeClause_6 : decode cX11_takeClause 6 = .ok (.bipush 116, 2) := by decide +kernel
theorem dX11_takeClause_8 : decode cX11_takeClause 8 = .ok (.if_icmp .ne 7, 3) := by decide +kernel
theorem dX11_takeClause_11 : decode cX11_takeClause 11 = .ok (.iconst 0, 1) := by decide +kernel
theorem dX11_takeClause_12 : decode cX11_takeClause 12 = .ok (.goto 24, 3) := by decide +kernel
theorem dX11_takeClause_15 : decode cX11_takeClause 15 = .ok (.iload_n 1, 1) := by decide +kernel
theorem dX11_takeClause_16 : decode cX11_takeClause 16 = .ok (.bipush 109, 2) := by decide +kernel
theorem dX11_takeClause_18 : decode cX11_takeClause 18 = .ok (.if_icmp .ne 7, 3) := by decide +kernel
theorem dX11_takeClause_21 : decode cX11_takeClause 21 = .ok (.iconst 1, 1) := by decide +kernel
theorem dX11_takeClause_22 : decode cX11_takeClause 22 = .ok (.goto 14, 3) := by decide +kernel
theorem dX11_takeClause_25 : decode cX11_takeClause 25 = .ok (.iload_n 1, 1) := by decide +kernel
theorem dX11_takeClause_26 : decode cX11_takeClause 26 = .ok (.bipush 115, 2) := by decide +kernel
theorem dX11_takeClause_28 : decode cX11_takeClause 28 = .ok (.if_icmp .ne 7, 3) := by decide +kernel
theorem dX11_takeClause_31 : decode cX11_takeClause 31 = .ok (.iconst 2, 1) := by decide +kernel
theorem dX11_takeClause_32 : decode cX11_takeClause 32 = .ok (.goto 4, 3) := by decide +kernel
theorem dX11_takeClause_35 : decode cX11_takeClause 35 = .ok (.iconst (-1), 1) := by decide +kernel
theorem dX11_takeClause_36 : decode cX11_takeClause 36 = .ok (.istore_n 2, 1) := by decide +kernel
theorem dX11_takeClause_37 : decode cX11_takeClause 37 = .ok (.iload_n 2, 1) := by decide +kernel
theorem dX11_takeClause_38 : decode cX11_takeClause 38 = .ok (.ifCond .lt 14, 3) := by decide +kernel
theorem dX11_takeClause_41 : decode cX11_takeClause 41 = .ok (.iload_n 2, 1) := by decide +kernel
theorem dX11_takeClause_42 : decode cX11_takeClause 42 = .ok (.ifCond .le 20, 3) := by decide +kernel
theorem dX11_takeClause_45 : decode cX11_takeClause 45 = .ok (.aload_n 0, 1) := by decide +kernel
theorem dX11_takeClause_46 : decode cX11_takeClause 46 = .ok (.getfield 136, 3) := by decide +kernel
theorem dX11_takeClause_49 : decode cX11_takeClause 49 = .ok (.ifCond .ne 13, 3) := by decide +kernel
theorem dX11_takeClause_52 : decode cX11_takeClause 52 = .ok (.aload_n 0, 1) := by decide +kernel
theorem dX11_takeClause_53 : decode cX11_takeClause 53 = .ok (.iconst 1, 1) := by decide +kernel
theorem dX11_takeClause_54 : decode cX11_takeClause 54 = .ok (.aload_n 0, 1) := by decide +kernel
theorem dX11_takeClause_55 : decode cX11_takeClause 55 = .ok (.getfield 112, 3) := by decide +kernel
theorem dX11_takeClause_58 : decode cX11_takeClause 58 = .ok (.invokevirtual 123, 3) := by decide +kernel
theorem dX11_takeClause_61 : decode cX11_takeClause 61 = .ok (.ireturn, 1) := by decide +kernel
theorem dX11_takeClause_62 : decode cX11_takeClause 62 = .ok (.aload_n 0, 1) := by decide +kernel
theorem dX11_takeClause_63 : decode cX11_takeClause 63 = .ok (.iload_n 2, 1) := by decide +kernel
theorem dX11_takeClause_64 : decode cX11_takeClause 64 = .ok (.invokevirtual 157, 3) := by decide +kernel
theorem dX11_takeClause_67 : decode cX11_takeClause 67 = .ok (.ifCond .eq 13, 3) := by decide +kernel
theorem dX11_takeClause_70 : decode cX11_takeClause 70 = .ok (.aload_n 0, 1) := by decide +kernel
theorem dX11_takeClause_71 : decode cX11_takeClause 71 = .ok (.iconst 3, 1) := by decide +kernel
theorem dX11_takeClause_72 : decode cX11_takeClause 72 = .ok (.aload_n 0, 1) := by decide +kernel
theorem dX11_takeClause_73 : decode cX11_takeClause 73 = .ok (.getfield 112, 3) := by decide +kernel
theorem dX11_takeClause_76 : decode cX11_takeClause 76 = .ok (.invokevirtual 123, 3) := by decide +kernel
theorem dX11_takeClause_79 : decode cX11_takeClause 79 = .ok (.ireturn, 1) := by decide +kernel
theorem dX11_takeClause_80 : decode cX11_takeClause 80 = .ok (.aload_n 0, 1) := by decide +kernel
theorem dX11_takeClause_81 : decode cX11_takeClause 81 = .ok (.dup, 1) := by decide +kernel
theorem dX11_takeClause_82 : decode cX11_takeClause 82 = .ok (.getfield 112, 3) := by decide +kernel
theorem dX11_takeClause_85 : decode cX11_takeClause 85 = .ok (.iconst 1, 1) := by decide +kernel
theorem dX11_takeClause_86 : decode cX11_takeClause 86 = .ok (.iadd, 1) := by decide +kernel
theorem dX11_takeClause_87 : decode cX11_takeClause 87 = .ok (.putfield 112, 3) := by decide +kernel
theorem dX11_takeClause_90 : decode cX11_takeClause 90 = .ok (.aload_n 0, 1) := by decide +kernel
theorem dX11_takeClause_91 : decode cX11_takeClause 91 = .ok (.iload_n 2, 1) := by decide +kernel
theorem dX11_takeClause_92 : decode cX11_takeClause 92 = .ok (.invokevirtual 161, 3) := by decide +kernel
theorem dX11_takeClause_95 : decode cX11_takeClause 95 = .ok (.istore_n 3, 1) := by decide +kernel
theorem dX11_takeClause_96 : decode cX11_takeClause 96 = .ok (.iload_n 3, 1) := by decide +kernel
theorem dX11_takeClause_97 : decode cX11_takeClause 97 = .ok (.ifCond .le 5, 3) := by decide +kernel
theorem dX11_takeClause_100 : decode cX11_takeClause 100 = .ok (.iload_n 3, 1) := by decide +kernel
theorem dX11_takeClause_101 : decode cX11_takeClause 101 = .ok (.ireturn, 1) := by decide +kernel
theorem dX11_takeClause_102 : decode cX11_takeClause 102 = .ok (.aload_n 0, 1) := by decide +kernel
theorem dX11_takeClause_103 : decode cX11_takeClause 103 = .ok (.invokevirtual 115, 3) := by decide +kernel
theorem dX11_takeClause_106 : decode cX11_takeClause 106 = .ok (.bipush 59, 2) := by decide +kernel
theorem dX11_takeClause_108 : decode cX11_takeClause 108 = .ok (.if_icmp .eq 13, 3) := by decide +kernel
theorem dX11_takeClause_111 : decode cX11_takeClause 111 = .ok (.aload_n 0, 1) := by decide +kernel
theorem dX11_takeClause_112 : decode cX11_takeClause 112 = .ok (.iconst 1, 1) := by decide +kernel
theorem dX11_takeClause_113 : decode cX11_takeClause 113 = .ok (.aload_n 0, 1) := by decide +kernel
theorem dX11_takeClause_114 : decode cX11_takeClause 114 = .ok (.getfield 112, 3) := by decide +kernel
theorem dX11_takeClause_117 : decode cX11_takeClause 117 = .ok (.invokevirtual 123, 3) := by decide +kernel
theorem dX11_takeClause_120 : decode cX11_takeClause 120 = .ok (.ireturn, 1) := by decide +kernel
theorem dX11_takeClause_121 : decode cX11_takeClause 121 = .ok (.aload_n 0, 1) := by decide +kernel
theorem dX11_takeClause_122 : decode cX11_takeClause 122 = .ok (.dup, 1) := by decide +kernel
theorem dX11_takeClause_123 : decode cX11_takeClause 123 = .ok (.getfield 112, 3) := by decide +kernel
theorem dX11_takeClause_126 : decode cX11_takeClause 126 = .ok (.iconst 1, 1) := by decide +kernel
theorem dX11_takeClause_127 : decode cX11_takeClause 127 = .ok (.iadd, 1) := by decide +kernel
theorem dX11_takeClause_128 : decode cX11_takeClause 128 = .ok (.putfield 112, 3) := by decide +kernel
theorem dX11_takeClause_131 : decode cX11_takeClause 131 = .ok (.iconst 0, 1) := by decide +kernel
theorem dX11_takeClause_132 : decode cX11_takeClause 132 = .ok (.ireturn, 1) := by decide +kernel
set_option maxRecDepth 100000 in
set_option maxHeartbeats 4000000 in
theorem mX11_takeClause {w : WX} {adr : Nat → Nat → Nat} (hj : Ij adr)  (S : St) : ∀ (l : Launch) (r : Int32) (S2 : St), fX11_takeClause S = some (r, S2) → Mi l w adr yX11_takeClause cX11_takeClause 4 (some .int) 4 91 [.ref (adr 35 0)] S r S2 := by
  refine mi_of (lv := [(0, .ref (adr 35 0))]) hj (plainFor_of_name (by decide +kernel)) rfl (Nat.le_of_ble_eq_true rfl) (fun k C Rr => ?_)
  have C : Cx w adr k cX11_takeClause RX11 4 4 91 := C
  refine ge_aload_n (n := 1) C 0 rfl dX11_takeClause_0 rfl rfl ?_
  refine ge_callVi (n := 4) C (mX11_here hj S) gv_X11_115 (cl_35 (by decide)) rfl rfl hc_X11_here ⟨Nat.le_of_ble_eq_true rfl, Nat.le_of_ble_eq_true rfl⟩ rfl rfl (Nat.le_of_ble_eq_true rfl) dX11_takeClause_1 rfl (fun r_1 S_1 => ?_)
  refine ge_istore_n (n := 5) (lv2 := [(1, .int r_1), (0, .ref (adr 35 0))]) C dX11_takeClause_4 rfl rfl (by decide) rfl ?_
  refine ge_iload_n (n := 6) C 0 rfl dX11_takeClause_5 rfl rfl ?_
  refine ge_bipush (v := 116) (n := 8) C dX11_takeClause_6 (by decide) rfl ?_
  refine ge_jn (fun (jj : Int32 → Op) => ∀ (v0_36 : Int32), Ge w adr k 36 [(0, .ref (adr 35 0))] [.int v0_36] S_1 (jj v0_36)) (fun v0_36 => ?_) (fun j36 hj36 => ?_)
  · refine ge_istore_n (n := 37) (lv2 := [(2, .int v0_36), (0, .ref (adr 35 0))]) C dX11_takeClause_36 rfl rfl (by decide) rfl ?_
    refine ge_iload_n (n := 38) C 0 rfl dX11_takeClause_37 rfl rfl ?_
    refine ge_jn (fun (jj : Op) => Ge w adr k 52 [(0, .ref (adr 35 0))] [] S_1 (jj)) ?_ (fun j52 hj52 => ?_)
    · refine ge_aload_n (n := 53) C 0 rfl dX11_takeClause_52 rfl rfl ?_
      refine ge_iconst (v := 1) (n := 54) C dX11_takeClause_53 (by decide) rfl ?_
      refine ge_aload_n (n := 55) C 0 rfl dX11_takeClause_54 rfl rfl ?_
      refine gt_X11_112 (n := 58) C (by decide) dX11_takeClause_55 rfl ?_
      refine ge_callVi (n := 61) C (mX11_fails hj (1 : Int32) (S_1 35 0 20) S_1) gv_X11_123 (cl_35 (by decide)) rfl rfl hc_X11_fails ⟨Nat.le_of_ble_eq_true rfl, Nat.le_of_ble_eq_true rfl⟩ rfl rfl (Nat.le_of_ble_eq_true rfl) dX11_takeClause_58 rfl (fun r_58 S_58 => ?_)
      exact ge_iret C Rr dX11_takeClause_61
    refine ge_if_lt (t := 52) (n := 41) C dX11_takeClause_38 (by decide) rfl (fun h_38 => ?_) (fun h_38 => ?_)
    · refine ge_sub [1] rfl ?_
      exact hj52
    · refine ge_iload_n (n := 42) C 0 rfl dX11_takeClause_41 rfl rfl ?_
      refine ge_jn (fun (jj : Op) => Ge w adr k 62 [(2, .int v0_36), (0, .ref (adr 35 0))] [] S_1 (jj)) ?_ (fun j62 hj62 => ?_)
      · refine ge_aload_n (n := 63) C 1 rfl dX11_takeClause_62 rfl rfl ?_
        refine ge_iload_n (n := 64) C 0 rfl dX11_takeClause_63 rfl rfl ?_
        refine ge_callVi (n := 67) C (mX11_isFull hj v0_36 S_1) gv_X11_157 (cl_35 (by decide)) rfl rfl hc_X11_isFull ⟨Nat.le_of_ble_eq_true rfl, Nat.le_of_ble_eq_true rfl⟩ rfl rfl (Nat.le_of_ble_eq_true rfl) dX11_takeClause_64 rfl (fun r_64 S_64 => ?_)
        refine ge_if_eq (t := 80) (n := 70) C dX11_takeClause_67 (by decide) rfl (fun h_67 => ?_) (fun h_67 => ?_)
        · refine ge_aload_n (n := 81) C 1 rfl dX11_takeClause_80 rfl rfl ?_
          refine ge_dup (n := 82) C dX11_takeClause_81 rfl rfl ?_
          refine gt_X11_112 (n := 85) C (by decide) dX11_takeClause_82 rfl ?_
          refine ge_iconst (v := 1) (n := 86) C dX11_takeClause_85 (by decide) rfl ?_
          refine ge_iadd (n := 87) C dX11_takeClause_86 rfl ?_
          refine pt_X11_112 (n := 90) C (by decide) dX11_takeClause_87 rfl (fun S_87 => ?_)
          refine ge_aload_n (n := 91) C 1 rfl dX11_takeClause_90 rfl rfl ?_
          refine ge_iload_n (n := 92) C 0 rfl dX11_takeClause_91 rfl rfl ?_
          refine ge_callVi (n := 95) C (mX11_takeBody hj v0_36 S_87) gv_X11_161 (cl_35 (by decide)) rfl rfl hc_X11_takeBody ⟨Nat.le_of_ble_eq_true rfl, Nat.le_of_ble_eq_true rfl⟩ rfl rfl (Nat.le_of_ble_eq_true rfl) dX11_takeClause_92 rfl (fun r_92 S_92 => ?_)
          refine ge_istore_n (n := 96) (lv2 := [(3, .int r_92), (2, .int v0_36), (0, .ref (adr 35 0))]) C dX11_takeClause_95 rfl rfl (by decide) rfl ?_
          refine ge_iload_n (n := 97) C 0 rfl dX11_takeClause_96 rfl rfl ?_
          refine ge_if_le (t := 102) (n := 100) C dX11_takeClause_97 (by decide) rfl (fun h_97 => ?_) (fun h_97 => ?_)
          · refine ge_aload_n (n := 103) C 2 rfl dX11_takeClause_102 rfl rfl ?_
            refine ge_callVi (n := 106) C (mX11_here hj S_92) gv_X11_115 (cl_35 (by decide)) rfl rfl hc_X11_here ⟨Nat.le_of_ble_eq_true rfl, Nat.le_of_ble_eq_true rfl⟩ rfl rfl (Nat.le_of_ble_eq_true rfl) dX11_takeClause_103 rfl (fun r_103 S_103 => ?_)
            refine ge_bipush (v := 59) (n := 108) C dX11_takeClause_106 (by decide) rfl ?_
            refine ge_icmp_eq (t := 121) (n := 111) C dX11_takeClause_108 (by decide) rfl (fun h_108 => ?_) (fun h_108 => ?_)
            · refine ge_aload_n (n := 122) C 2 rfl dX11_takeClause_121 rfl rfl ?_
              refine ge_dup (n := 123) C dX11_takeClause_122 rfl rfl ?_
              refine gt_X11_112 (n := 126) C (by decide) dX11_takeClause_123 rfl ?_
              refine ge_iconst (v := 1) (n := 127) C dX11_takeClause_126 (by decide) rfl ?_
              refine ge_iadd (n := 128) C dX11_takeClause_127 rfl ?_
              refine pt_X11_112 (n := 131) C (by decide) dX11_takeClause_128 rfl (fun S_128 => ?_)
              refine ge_iconst (v := 0) (n := 132) C dX11_takeClause_131 (by decide) rfl ?_
              exact ge_iret C Rr dX11_takeClause_132
            · refine ge_aload_n (n := 112) C 2 rfl dX11_takeClause_111 rfl rfl ?_
              refine ge_iconst (v := 1) (n := 113) C dX11_takeClause_112 (by decide) rfl ?_
              refine ge_aload_n (n := 114) C 2 rfl dX11_takeClause_113 rfl rfl ?_
              refine gt_X11_112 (n := 117) C (by decide) dX11_takeClause_114 rfl ?_
              refine ge_callVi (n := 120) C (mX11_fails hj (1 : Int32) (S_103 35 0 20) S_103) gv_X11_123 (cl_35 (by decide)) rfl rfl hc_X11_fails ⟨Nat.le_of_ble_eq_true rfl, Nat.le_of_ble_eq_true rfl⟩ rfl rfl (Nat.le_of_ble_eq_true rfl) dX11_takeClause_117 rfl (fun r_117 S_117 => ?_)
              exact ge_iret C Rr dX11_takeClause_120
          · refine ge_iload_n (n := 101) C 0 rfl dX11_takeClause_100 rfl rfl ?_
            exact ge_iret C Rr dX11_takeClause_101
        · refine ge_aload_n (n := 71) C 1 rfl dX11_takeClause_70 rfl rfl ?_
          refine ge_iconst (v := 3) (n := 72) C dX11_takeClause_71 (by decide) rfl ?_
          refine ge_aload_n (n := 73) C 1 rfl dX11_takeClause_72 rfl rfl ?_
          refine gt_X11_112 (n := 76) C (by decide) dX11_takeClause_73 rfl ?_
          refine ge_callVi (n := 79) C (mX11_fails hj (3 : Int32) (S_64 35 0 20) S_64) gv_X11_123 (cl_35 (by decide)) rfl rfl hc_X11_fails ⟨Nat.le_of_ble_eq_true rfl, Nat.le_of_ble_eq_true rfl⟩ rfl rfl (Nat.le_of_ble_eq_true rfl) dX11_takeClause_76 rfl (fun r_76 S_76 => ?_)
          exact ge_iret C Rr dX11_takeClause_79
      refine ge_if_le (t := 62) (n := 45) C dX11_takeClause_42 (by decide) rfl (fun h_42 => ?_) (fun h_42 => ?_)
      · exact hj62
      · refine ge_aload_n (n := 46) C 1 rfl dX11_takeClause_45 rfl rfl ?_
        refine gt_X11_136 (n := 49) C (by decide) dX11_takeClause_46 rfl ?_
        refine ge_if_ne (t := 62) (n := 52) C dX11_takeClause_49 (by decide) rfl (fun h_49 => ?_) (fun h_49 => ?_)
        · exact hj62
        · refine ge_sub [1] rfl ?_
          exact hj52
  refine ge_icmp_ne (t := 15) (n := 11) C dX11_takeClause_8 (by decide) rfl (fun h_8 => ?_) (fun h_8 => ?_)
  · refine ge_iload_n (n := 16) C 0 rfl dX11_takeClause_15 rfl rfl ?_
    refine ge_bipush (v := 109) (n := 18) C dX11_takeClause_16 (by decide) rfl ?_
    refine ge_icmp_ne (t := 25) (n := 21) C dX11_takeClause_18 (by decide) rfl (fun h_18 => ?_) (fun h_18 => ?_)
    · refine ge_iload_n (n := 26) C 0 rfl dX11_takeClause_25 rfl rfl ?_
      refine ge_bipush (v := 115) (n := 28) C dX11_takeClause_26 (by decide) rfl ?_
      refine ge_icmp_ne (t := 35) (n := 31) C dX11_takeClause_28 (by decide) rfl (fun h_28 => ?_) (fun h_28 => ?_)
      · refine ge_iconst (v := -1) (n := 36) C dX11_takeClause_35 (by decide) rfl ?_
        refine ge_sub [1] rfl ?_
        exact hj36 (-1 : Int32)
      · refine ge_iconst (v := 2) (n := 32) C dX11_takeClause_31 (by decide) rfl ?_
        refine ge_goto (n := 36) C dX11_takeClause_32 (by decide) ?_
        refine ge_sub [1] rfl ?_
        exact hj36 (2 : Int32)
    · refine ge_iconst (v := 1) (n := 22) C dX11_takeClause_21 (by decide) rfl ?_
      refine ge_goto (n := 36) C dX11_takeClause_22 (by decide) ?_
      refine ge_sub [1] rfl ?_
      exact hj36 (1 : Int32)
  · refine ge_iconst (v := 0) (n := 12) C dX11_takeClause_11 (by decide) rfl ?_
    refine ge_goto (n := 36) C dX11_takeClause_12 (by decide) ?_
    refine ge_sub [1] rfl ?_
    exact hj36 (0 : Int32)
