theorem dX11_skin_0 : decode cX11_skin 0 = .ok (.aload_n 0, 1) := by decide +kernel
theorem dX11_skin_1 : decode cX11_skin 1 = .ok (.iload_n 1, 1) := by decide +kernel
theorem dX11_skin_2 : decode cX11_skin 2 = .ok (.invokevirtual 210, 3) := by decide +kernel
theorem dX11_skin_5 : decode cX11_skin 5 = .ok (.ifCond .ne 6, 3) := by decide +kernel
theorem dX11_skin_8 : decode cX11_skin 8 = .ok (.ldc 213, 2) := by decide +kernel
theorem dX11_skin_10 : decode cX11_skin 10 = .ok (.ireturn, 1) := by decide +kernel
theorem dX11_skin_11 : decode cX11_skin 11 = .ok (.iload_n 2, 1) := by decide +kernel
theorem dX11_skin_12 : decode cX11_skin 12 = .ok (.invokestatic 220, 3) := by decide +kernel
theorem dX11_skin_15 : decode cX11_skin 15 = .ok (.ifCond .eq 13, 3) := by decide +kernel
theorem dX11_skin_18 : decode cX11_skin 18 = .ok (.iload_n 3, 1) := by decide +kernel
theorem dX11_skin_19 : decode cX11_skin 19 = .ok (.i2l, 1) := by decide +kernel
theorem dX11_skin_20 : decode cX11_skin 20 = .ok (.lconst 0, 1) := by decide +kernel
theorem dX11_skin_21 : decode cX11_skin 21 = .ok (.lconst 1, 1) := by decide +kernel
theorem dX11_skin_22 : decode cX11_skin 22 = .ok (.invokestatic 96, 3) := by decide +kernel
theorem dX11_skin_25 : decode cX11_skin 25 = .ok (.ifCond .ne 6, 3) := by decide +kernel
theorem dX11_skin_28 : decode cX11_skin 28 = .ok (.ldc 107, 2) := by decide +kernel
theorem dX11_skin_30 : decode cX11_skin 30 = .ok (.ireturn, 1) := by decide +kernel
theorem dX11_skin_31 : decode cX11_skin 31 = .ok (.aload_n 0, 1) := by decide +kernel
theorem dX11_skin_32 : decode cX11_skin 32 = .ok (.getfield 22, 3) := by decide +kernel
theorem dX11_skin_35 : decode cX11_skin 35 = .ok (.iload_n 3, 1) := by decide +kernel
theorem dX11_skin_36 : decode cX11_skin 36 = .ok (.ifCond .ne 7, 3) := by decide +kernel
theorem dX11_skin_39 : decode cX11_skin 39 = .ok (.iconst 4, 1) := by decide +kernel
theorem dX11_skin_40 : decode cX11_skin 40 = .ok (.goto 5, 3) := by decide +kernel
theorem dX11_skin_43 : decode cX11_skin 43 = .ok (.bipush 34, 2) := by decide +kernel
theorem dX11_skin_45 : decode cX11_skin 45 = .ok (.iconst 5, 1) := by decide +kernel
theorem dX11_skin_46 : decode cX11_skin 46 = .ok (.iload_n 1, 1) := by decide +kernel
theorem dX11_skin_47 : decode cX11_skin 47 = .ok (.imul, 1) := by decide +kernel
theorem dX11_skin_48 : decode cX11_skin 48 = .ok (.iadd, 1) := by decide +kernel
theorem dX11_skin_49 : decode cX11_skin 49 = .ok (.iload_n 2, 1) := by decide +kernel
theorem dX11_skin_50 : decode cX11_skin 50 = .ok (.iadd, 1) := by decide +kernel
theorem dX11_skin_51 : decode cX11_skin 51 = .ok (.iaload, 1) := by decide +kernel
theorem dX11_skin_52 : decode cX11_skin 52 = .ok (.ireturn, 1) := by decide +kernel
set_option maxRecDepth 100000 in
set_option maxHeartbeats 4000000 in
theorem mX11_skin {w : WX} {adr : Nat → Nat → Nat} (hj : Ij adr) (a1 : Int32) (a2 : Int32) (a3 : Int32) (S : St) : ∀ (l : Launch) (r : Int32) (S2 : St), fX11_skin a1 a2 a3 S = some (r, S2) → Mi l w adr yX11_skin cX11_skin 4 (some .int) 2 46 [.ref (adr 35 0), .int a1, .int a2, .int a3] S r S2 := by
  refine mi_of (lv := [(0, .ref (adr 35 0)), (1, .int a1), (2, .int a2), (3, .int a3)]) hj (plainFor_of_name (by decide +kernel)) rfl (Nat.le_of_ble_eq_true rfl) (fun k C Rr => ?_)
  have C : Cx w adr k cX11_skin RX11 4 2 46 := C
  refine ge_aload_n (n := 1) C 0 rfl dX11_skin_0 rfl rfl ?_
  refine ge_iload_n (n := 2) C 1 rfl dX11_skin_1 rfl rfl ?_
  refine ge_callVi (n := 5) C (mX11_isMan hj a1 S) gv_X11_210 (cl_35 (by decide)) rfl rfl hc_X11_isMan ⟨Nat.le_of_ble_eq_true rfl, Nat.le_of_ble_eq_true rfl⟩ rfl rfl (Nat.le_of_ble_eq_true rfl) dX11_skin_2 rfl (fun r_2 S_2 => ?_)
  refine ge_if_ne (t := 11) (n := 8) C dX11_skin_5 (by decide) rfl (fun h_5 => ?_) (fun h_5 => ?_)
  · refine ge_iload_n (n := 12) C 2 rfl dX11_skin_11 rfl rfl ?_
    refine ge_callSi (n := 15) C (mX11_isPlace hj a2 S_2) gv_X11_220 hc_X11_isPlace ⟨Nat.le_of_ble_eq_true rfl, Nat.le_of_ble_eq_true rfl⟩ rfl rfl (Nat.le_of_ble_eq_true rfl) dX11_skin_12 rfl (fun r_12 S_12 => ?_)
    refine ge_if_eq (t := 28) (n := 18) C dX11_skin_15 (by decide) rfl (fun h_15 => ?_) (fun h_15 => ?_)
    · refine ge_ldc (n := 30) C kc_X11_107 dX11_skin_28 rfl ?_
      exact ge_iret C Rr dX11_skin_30
    · refine ge_iload_n (n := 19) C 3 rfl dX11_skin_18 rfl rfl ?_
      refine ge_i2l (n := 20) C dX11_skin_19 rfl ?_
      refine ge_lconst (v := 0) (n := 21) C dX11_skin_20 (by decide) rfl ?_
      refine ge_lconst (v := 1) (n := 22) C dX11_skin_21 (by decide) rfl ?_
      refine ge_callSi (n := 25) C (mX11_within hj (Int32.toInt64 a3) (0 : Int64) (1 : Int64) S_12) gv_X11_96 hc_X11_within ⟨Nat.le_of_ble_eq_true rfl, Nat.le_of_ble_eq_true rfl⟩ rfl rfl (Nat.le_of_ble_eq_true rfl) dX11_skin_22 rfl (fun r_22 S_22 => ?_)
      refine ge_if_ne (t := 31) (n := 28) C dX11_skin_25 (by decide) rfl (fun h_25 => ?_) (fun h_25 => ?_)
      · refine ge_aload_n (n := 32) C 0 rfl dX11_skin_31 rfl rfl ?_
        refine gt_X11_22 (n := 35) C (by decide) dX11_skin_32 rfl ?_
        refine ge_iload_n (n := 36) C 3 rfl dX11_skin_35 rfl rfl ?_
        refine ge_jn (fun (jj : Int32 → Op) => ∀ (v0_45 : Int32), Ge w adr k 45 [(1, .int a1), (2, .int a2)] [.int v0_45, .ref (adr 40 0)] S_22 (jj v0_45)) (fun v0_45 => ?_) (fun j45 hj45 => ?_)
        · refine ge_iconst (v := 5) (n := 46) C dX11_skin_45 (by decide) rfl ?_
          refine ge_iload_n (n := 47) C 0 rfl dX11_skin_46 rfl rfl ?_
          refine ge_imul (n := 48) C dX11_skin_47 rfl ?_
          refine ge_iadd (n := 49) C dX11_skin_48 rfl ?_
          refine ge_iload_n (n := 50) C 1 rfl dX11_skin_49 rfl rfl ?_
          refine ge_iadd (n := 51) C dX11_skin_50 rfl ?_
          refine al_40 (n := 52) C (by decide) dX11_skin_51 rfl ?_
          exact ge_iret C Rr dX11_skin_52
        refine ge_if_ne (t := 43) (n := 39) C dX11_skin_36 (by decide) rfl (fun h_36 => ?_) (fun h_36 => ?_)
        · refine ge_bipush (v := 34) (n := 45) C dX11_skin_43 (by decide) rfl ?_
          refine ge_sub [1, 2] rfl ?_
          exact hj45 (34 : Int32)
        · refine ge_iconst (v := 4) (n := 40) C dX11_skin_39 (by decide) rfl ?_
          refine ge_goto (n := 45) C dX11_skin_40 (by decide) ?_
          refine ge_sub [1, 2] rfl ?_
          exact hj45 (4 : Int32)
      · refine ge_ldc (n := 30) C kc_X11_107 dX11_skin_28 rfl ?_
        exact ge_iret C Rr dX11_skin_30
  · refine ge_ldc (n := 10) C kc_X11_213 dX11_skin_8 rfl ?_
    exact ge_iret C Rr dX11_skin_10
theorem dX11_saying_0 : decode cX11_saying 0 = .ok (.aload_n 0, 1) := by decide +kernel
theorem dX11_saying_1 : decode cX11_saying 1 = .ok (.iload_n 1, 1) := by decide +kernel
theorem dX11_saying_2 : decode cX11_saying 2 = .ok (.invokevirtual 223, 3) := by decide +kernel
theorem dX11_saying_5 : decode cX11_saying 5 = .ok (.ifCond .ne 6, 3) := by decide +kernel
theorem dX11_saying_8 : decode cX11_saying 8 = .ok (.ldc 213, 2) := by decide +kernel
theorem dX11_saying_10 : decode cX11_saying 10 = .ok (.ireturn, 1) := by decide +kernel
theorem dX11_saying_11 : decode cX11_saying 11 = .ok (.iload_n 2, 1) := by decide +kernel
theorem dX11_saying_12 : decode cX11_saying 12 = .ok (.ifCond .ne 12, 3) := by decide +kernel
theorem dX11_saying_15 : decode cX11_saying 15 = .ok (.aload_n 0, 1) := by decide +kernel
theorem dX11_saying_16 : decode cX11_saying 16 = .ok (.getfield 16, 3) := by decide +kernel
theorem dX11_saying_19 : decode cX11_saying 19 = .ok (.iload_n 1, 1) := by decide +kernel
theorem dX11_saying_20 : decode cX11_saying 20 = .ok (.iaload, 1) := by decide +kernel
theorem dX11_saying_21 : decode cX11_saying 21 = .ok (.goto 19, 3) := by decide +kernel
theorem dX11_saying_24 : decode cX11_saying 24 = .ok (.iload_n 2, 1) := by decide +kernel
theorem dX11_saying_25 : decode cX11_saying 25 = .ok (.iconst 1, 1) := by decide +kernel
theorem dX11_saying_26 : decode cX11_saying 26 = .ok (.if_icmp .ne 12, 3) := by decide +kernel
theorem dX11_saying_29 : decode cX11_saying 29 = .ok (.aload_n 0, 1) := by decide +kernel
theorem dX11_saying_30 : decode cX11_saying 30 = .ok (.getfield 19, 3) := by decide +kernel
theorem dX11_saying_33 : decode cX11_saying 33 = .ok (.iload_n 1, 1) := by decide +kernel
theorem dX11_saying_34 : decode cX11_saying 34 = .ok (.iaload, 1) := by decide +kernel
theorem dX11_saying_35 : decode cX11_saying 35 = .ok (.goto 5, 3) := by decide +kernel
theorem dX11_saying_38 : decode cX11_saying 38 = .ok (.ldc 107, 2) := by decide +kernel
theorem dX11_saying_40 : decode cX11_saying 40 = .ok (.ireturn, 1) := by decide +kernel
set_option maxRecDepth 100000 in
set_option maxHeartbeats 4000000 in
theorem mX11_saying {w : WX} {adr : Nat → Nat → Nat} (hj : Ij adr) (a1 : Int32) (a2 : Int32) (S : St) : ∀ (l : Launch) (r : Int32) (S2 : St), fX11_saying a1 a2 S = some (r, S2) → Mi l w adr yX11_saying cX11_saying 3 (some .int) 2 46 [.ref (adr 35 0), .int a1, .int a2] S r S2 := by
  refine mi_of (lv := [(0, .ref (adr 35 0)), (1, .int a1), (2, .int a2)]) hj (plainFor_of_name (by decide +kernel)) rfl (Nat.le_of_ble_eq_true rfl) (fun k C Rr => ?_)
  have C : Cx w adr k cX11_saying RX11 3 2 46 := C
  refine ge_aload_n (n := 1) C 0 rfl dX11_saying_0 rfl rfl ?_
  refine ge_iload_n (n := 2) C 1 rfl dX11_saying_1 rfl rfl ?_
  refine ge_callVi (n := 5) C (mX11_isSaying hj a1 S) gv_X11_223 (cl_35 (by decide)) rfl rfl hc_X11_isSaying ⟨Nat.le_of_ble_eq_true rfl, Nat.le_of_ble_eq_true rfl⟩ rfl rfl (Nat.le_of_ble_eq_true rfl) dX11_saying_2 rfl (fun r_2 S_2 => ?_)
  refine ge_if_ne (t := 11) (n := 8) C dX11_saying_5 (by decide) rfl (fun h_5 => ?_) (fun h_5 => ?_)
  · refine ge_iload_n (n := 12) C 2 rfl dX11_saying_11 rfl rfl ?_
    refine ge_if_ne (t := 24) (n := 15) C dX11_saying_12 (by decide) rfl (fun h_12 => ?_) (fun h_12 => ?_)
    · refine ge_iload_n (n := 25) C 2 rfl dX11_saying_24 rfl rfl ?_
      refine ge_iconst (v := 1) (n := 26) C dX11_saying_25 (by decide) rfl ?_
      refine ge_icmp_ne (t := 38) (n := 29) C dX11_saying_26 (by decide) rfl (fun h_26 => ?_) (fun h_26 => ?_)
      · refine ge_ldc (n := 40) C kc_X11_107 dX11_saying_38 rfl ?_
        exact ge_iret C Rr dX11_saying_40
      · refine ge_aload_n (n := 30) C 0 rfl dX11_saying_29 rfl rfl ?_
        refine gt_X11_19 (n := 33) C (by decide) dX11_saying_30 rfl ?_
        refine ge_iload_n (n := 34) C 1 rfl dX11_saying_33 rfl rfl ?_
        refine al_39 (n := 35) C (by decide) dX11_saying_34 rfl ?_
        refine ge_goto (n := 40) C dX11_saying_35 (by decide) ?_
        exact ge_iret C Rr dX11_saying_40
    · refine ge_aload_n (n := 16) C 0 rfl dX11_saying_15 rfl rfl ?_
      refine gt_X11_16 (n := 19) C (by decide) dX11_saying_16 rfl ?_
      refine ge_iload_n (n := 20) C 1 rfl dX11_saying_19 rfl rfl ?_
      refine al_38 (n := 21) C (by decide) dX11_saying_20 rfl ?_
      refine ge_goto (n := 40) C dX11_saying_21 (by decide) ?_
      exact ge_iret C Rr dX11_saying_40
  · refine ge_ldc (n := 10) C kc_X11_213 dX11_saying_8 rfl ?_
    exact ge_iret C Rr dX11_saying_10
theorem dX11_hurt_0 : decode cX11_hurt 0 = .ok (.aload_n 0, 1) := by decide +kernel
theorem dX11_hurt_1 : decode cX11_hurt 1 = .ok (.iload_n 1, 1) := by decide +kernel
theorem dX11_hurt_2 : decode cX11_hurt 2 = .ok (.invokevirtual 210, 3) := by decide +kernel
theorem dX11_hurt_5 : decode cX11_hurt 5 = .ok (.ifCond .eq 20, 3) := by decide +kernel
theorem dX11_hurt_8 : decode cX11_hurt 8 = .ok (.aload_n 0, 1) := by decide +kernel
theorem dX11_hurt_9 : decode cX11_hurt 9 = .ok (.iload_n 2, 1) := by decide +kernel
theorem dX11_hurt_10 : decode cX11_hurt 10 = .ok (.invokevirtual 223, 3) := by decide +kernel
theorem dX11_hurt_13 : decode cX11_hurt 13 = .ok (.ifCond .eq 12, 3) := by decide +kernel
theorem dX11_hurt_16 : decode cX11_hurt 16 = .ok (.aload_n 0, 1) := by decide +kernel
theorem dX11_hurt_17 : decode cX11_hurt 17 = .ok (.iload_n 1, 1) := by decide +kernel
theorem dX11_hurt_18 : decode cX11_hurt 18 = .ok (.iload_n 2, 1) := by decide +kernel
theorem dX11_hurt_19 : decode cX11_hurt 19 = .ok (.invokevirtual 194, 3) := by decide +kernel
theorem dX11_hurt_22 : decode cX11_hurt 22 = .ok (.goto 5, 3) := by decide +kernel
theorem dX11_hurt_25 : decode cX11_hurt 25 = .ok (.ldc 213, 2) := by decide +kernel
theorem dX11_hurt_27 : decode cX11_hurt 27 = .ok (.ireturn, 1) := by decide +kernel
set_option maxRecDepth 100000 in
set_option maxHeartbeats 4000000 in
theorem mX11_hurt {w : WX} {adr : Nat → Nat → Nat} (hj : Ij adr) (a1 : Int32) (a2 : Int32) (S : St) : ∀ (l : Launch) (r : Int32) (S2 : St), fX11_hurt a1 a2 S = some (r, S2) → Mi l w adr yX11_hurt cX11_hurt 3 (some .int) 2 46 [.ref (adr 35 0), .int a1, .int a2] S r S2 := by
  refine mi_of (lv := [(0, .ref (adr 35 0)), (1, .int a1), (2, .int a2)]) hj (plainFor_of_name (by decide +kernel)) rfl (Nat.le_of_ble_eq_true rfl) (fun k C Rr => ?_)
  have C : Cx w adr k cX11_hurt RX11 3 2 46 := C
  refine ge_aload_n (n := 1) C 0 rfl dX11_hurt_0 rfl rfl ?_
  refine ge_iload_n (n := 2) C 1 rfl dX11_hurt_1 rfl rfl ?_
  refine ge_callVi (n := 5) C (mX11_isMan hj a1 S) gv_X11_210 (cl_35 (by decide)) rfl rfl hc_X11_isMan ⟨Nat.le_of_ble_eq_true rfl, Nat.le_of_ble_eq_true rfl⟩ rfl rfl (Nat.le_of_ble_eq_true rfl) dX11_hurt_2 rfl (fun r_2 S_2 => ?_)
  refine ge_if_eq (t := 25) (n := 8) C dX11_hurt_5 (by decide) rfl (fun h_5 => ?_) (fun h_5 => ?_)
  · refine ge_ldc (n := 27) C kc_X11_213 dX11_hurt_25 rfl ?_
    exact ge_iret C Rr dX11_hurt_27
  · refine ge_aload_n (n := 9) C 0 rfl dX11_hurt_8 rfl rfl ?_
    refine ge_iload_n (n := 10) C 2 rfl dX11_hurt_9 rfl rfl ?_
    refine ge_callVi (n := 13) C (mX11_isSaying hj a2 S_2) gv_X11_223 (cl_35 (by decide)) rfl rfl hc_X11_isSaying ⟨Nat.le_of_ble_eq_true rfl, Nat.le_of_ble_eq_true rfl⟩ rfl rfl (Nat.le_of_ble_eq_true rfl) dX11_hurt_10 rfl (fun r_10 S_10 => ?_)
    refine ge_if_eq (t := 25) (n := 16) C dX11_hurt_13 (by decide) rfl (fun h_13 => ?_) (fun h_13 => ?_)
    · refine ge_ldc (n := 27) C kc_X11_213 dX11_hurt_25 rfl ?_
      exact ge_iret C Rr dX11_hurt_27
    · refine ge_aload_n (n := 17) C 0 rfl dX11_hurt_16 rfl rfl ?_
      refine ge_iload_n (n := 18) C 1 rfl dX11_hurt_17 rfl rfl ?_
      refine ge_iload_n (n := 19) C 2 rfl dX11_hurt_18 rfl rfl ?_
      refine ge_callVi (n := 22) C (mX11_hurtOf hj a1 a2 S_10) gv_X11_194 (cl_35 (by decide)) rfl rfl hc_X11_hurtOf ⟨Nat.le_of_ble_eq_true rfl, Nat.le_of_ble_eq_true rfl⟩ rfl rfl (Nat.le_of_ble_eq_true rfl) dX11_hurt_19 rfl (fun r_19 S_19 => ?_)
      refine ge_goto (n := 27) C dX11_hurt_22 (by decide) ?_
      exact ge_iret C Rr dX11_hurt_27
theorem dX11_remember_0 : decode cX11_remember 0 = .ok (.aload_n 0, 1) := by decide +kernel
theorem dX11_remember_1 : decode cX11_remember 1 = .ok (.getfield 180, 3) := by decide +kernel
theorem dX11_remember_4 : decode cX11_remember 4 = .ok (.bipush 16, 2) := by decide +kernel
theorem dX11_remember_6 : decode cX11_remember 6 = .ok (.if_icmp .ne 44, 3) := by decide +kernel
theorem dX11_remember_9 : decode cX11_remember 9 = .ok (.bipush 70, 2) := by decide +kernel
theorem dX11_remember_11 : decode cX11_remember 11 = .ok (.istore_n 1, 1) := by decide +kernel
theorem dX11_remember_12 : decode cX11_remember 12 = .ok (.iload_n 1, 1) := by decide +kernel
theorem dX11_remember_13 : decode cX11_remember 13 = .ok (.sipush 1120, 3) := by decide +kernel
theorem dX11_remember_16 : decode cX11_remember 16 = .ok (.if_icmp .ge 24, 3) := by decide +kernel
theorem dX11_remember_19 : decode cX11_remember 19 = .ok (.aload_n 0, 1) := by decide +kernel
theorem dX11_remember_20 : decode cX11_remember 20 = .ok (.getfield 68, 3) := by decide +kernel
theorem dX11_remember_23 : decode cX11_remember 23 = .ok (.iload_n 1, 1) := by decide +kernel
theorem dX11_remember_24 : decode cX11_remember 24 = .ok (.bipush 70, 2) := by decide +kernel
theorem dX11_remember_26 : decode cX11_remember 26 = .ok (.isub, 1) := by decide +kernel
theorem dX11_remember_27 : decode cX11_remember 27 = .ok (.aload_n 0, 1) := by decide +kernel
theorem dX11_remember_28 : decode cX11_remember 28 = .ok (.getfield 68, 3) := by decide +kernel
theorem dX11_remember_31 : decode cX11_remember 31 = .ok (.iload_n 1, 1) := by decide +kernel
theorem dX11_remember_32 : decode cX11_remember 32 = .ok (.iaload, 1) := by decide +kernel
theorem dX11_remember_33 : decode cX11_remember 33 = .ok (.iastore, 1) := by decide +kernel
theorem dX11_remember_34 : decode cX11_remember 34 = .ok (.iinc 1 1, 3) := by decide +kernel
theorem dX11_remember_37 : decode cX11_remember 37 = .ok (.goto (-25), 3) := by decide +kernel
theorem dX11_remember_40 : decode cX11_remember 40 = .ok (.aload_n 0, 1) := by decide +kernel
theorem dX11_remember_41 : decode cX11_remember 41 = .ok (.dup, 1) := by decide +kernel
theorem dX11_remember_42 : decode cX11_remember 42 = .ok (.getfield 180, 3) := by decide +kernel
theorem dX11_remember_45 : decode cX11_remember 45 = .ok (.iconst 1, 1) := by decide +kernel
theorem dX11_remember_46 : decode cX11_remember 46 = .ok (.isub, 1) := by decide +kernel
theorem dX11_remember_47 : decode cX11_remember 47 = .ok (.putfield 180, 3) := by decide +kernel
theorem dX11_remember_50 : decode cX11_remember 50 = .ok (.iconst 0, 1) := by decide +kernel
theorem dX11_remember_51 : decode cX11_remember 51 = .ok (.istore_n 1, 1) := by decide +kernel
theorem dX11_remember_52 : decode cX11_remember 52 = .ok (.iload_n 1, 1) := by decide +kernel
theorem dX11_remember_53 : decode cX11_remember 53 = .ok (.bipush 70, 2) := by decide +kernel
theorem dX11_remember_55 : decode cX11_remember 55 = .ok (.if_icmp .ge 29, 3) := by decide +kernel
theorem dX11_remember_58 : decode cX11_remember 58 = .ok (.aload_n 0, 1) := by decide +kernel
theorem dX11_remember_59 : decode cX11_remember 59 = .ok (.getfield 68, 3) := by decide +kernel
theorem dX11_remember_62 : decode cX11_remember 62 = .ok (.bipush 70, 2) := by decide +kernel
theorem dX11_remember_64 : decode cX11_remember 64 = .ok (.aload_n 0, 1) := by decide +kernel
theorem dX11_remember_65 : decode cX11_remember 65 = .ok (.getfield 180, 3) := by decide +kernel
theorem dX11_remember_68 : decode cX11_remember 68 = .ok (.imul, 1) := by decide +kernel
theorem dX11_remember_69 : decode cX11_remember 69 = .ok (.iload_n 1, 1) := by decide +kernel
theorem dX11_remember_70 : decode cX11_remember 70 = .ok (.iadd, 1) := by decide +kernel
theorem dX11_remember_71 : decode cX11_remember 71 = .ok (.aload_n 0, 1) := by decide +kernel
theorem dX11_remember_72 : decode cX11_remember 72 = .ok (.getfield 22, 3) := by decide +kernel
theorem dX11_remember_75 : decode cX11_remember 75 = .ok (.iload_n 1, 1) := by decide +kernel
theorem dX11_remember_76 : decode cX11_remember 76 = .ok (.iaload, 1) := by decide +kernel
theorem dX11_remember_77 : decode cX11_remember 77 = .ok (.iastore, 1) := by decide +kernel
theorem dX11_remember_78 : decode cX11_remember 78 = .ok (.iinc 1 1, 3) := by decide +kernel
theorem dX11_remember_81 : decode cX11_remember 81 = .ok (.goto (-29), 3) := by decide +kernel
theorem dX11_remember_84 : decode cX11_remember 84 = .ok (.aload_n 0, 1) := by decide +kernel
theorem dX11_remember_85 : decode cX11_remember 85 = .ok (.dup, 1) := by decide +kernel
theorem dX11_remember_86 : decode cX11_remember 86 = .ok (.getfield 180, 3) := by decide +kernel
theorem dX11_remember_89 : decode cX11_remember 89 = .ok (.iconst 1, 1) := by decide +kernel
theorem dX11_remember_90 : decode cX11_remember 90 = .ok (.iadd, 1) := by decide +kernel
theorem dX11_remember_91 : decode cX11_remember 91 = .ok (.putfield 180, 3) := by decide +kernel
theorem dX11_remember_94 : decode cX11_remember 94 = .ok (.return_, 1) := by decide +kernel
set_option maxRecDepth 100000 in
set_option maxHeartbeats 4000000 in
theorem mX11_remember {w : WX} {adr : Nat → Nat → Nat} (hj : Ij adr)  (S : St) : ∀ (l : Launch) (r : Int32) (S2 : St), fX11_remember S = some (r, S2) → Mv l w adr yX11_remember cX11_remember 2 none 0 0 [.ref (adr 35 0)] S S2 := by
  refine mv_of (lv := [(0, .ref (adr 35 0))]) hj (plainFor_of_name (by decide +kernel)) rfl (Nat.le_of_ble_eq_true rfl) (fun k C Rr => ?_)
  have C : Cx w adr k cX11_remember RX11 2 0 0 := C
  refine ge_aload_n (n := 1) C 0 rfl dX11_remember_0 rfl rfl ?_
  refine gt_X11_180 (n := 4) C (by decide) dX11_remember_1 rfl ?_
  refine ge_bipush (v := 16) (n := 6) C dX11_remember_4 (by decide) rfl ?_
  refine ge_jn (fun (jj : St → Op) => ∀ (S_50 : St), Ge w adr k 50 [(0, .ref (adr 35 0))] [] S_50 (jj S_50)) (fun S_50 => ?_) (fun j50 hj50 => ?_)
  · refine ge_iconst (v := 0) (n := 51) C dX11_remember_50 (by decide) rfl ?_
    refine ge_istore_n (n := 52) (lv2 := [(1, .int (0 : Int32)), (0, .ref (adr 35 0))]) C dX11_remember_51 rfl rfl (by decide) rfl ?_
    refine ge_jn (fun (jj : St → Op) => ∀ (S_84 : St), Ge w adr k 84 [(0, .ref (adr 35 0))] [] S_84 (jj S_84)) (fun S_84 => ?_) (fun kk52 hkk52 => ?_)
    · refine ge_aload_n (n := 85) C 0 rfl dX11_remember_84 rfl rfl ?_
      refine ge_dup (n := 86) C dX11_remember_85 rfl rfl ?_
      refine gt_X11_180 (n := 89) C (by decide) dX11_remember_86 rfl ?_
      refine ge_iconst (v := 1) (n := 90) C dX11_remember_89 (by decide) rfl ?_
      refine ge_iadd (n := 91) C dX11_remember_90 rfl ?_
      refine pt_X11_180 (n := 94) C (by decide) dX11_remember_91 rfl (fun S_91 => ?_)
      exact ge_vret C Rr dX11_remember_94
    refine ge_lop (fun (jj : Int32 → St → Op) => ∀ (x1_52 : Int32) (S_52 : St), Ge w adr k 52 [(1, .int x1_52), (0, .ref (adr 35 0))] [] S_52 (jj x1_52 S_52)) (fun _ _ => ge_none) (fun ag52 hag52 x1_52 S_52 => ?_) FU (0 : Int32) S_50
    refine ge_iload_n (n := 53) C 0 rfl dX11_remember_52 rfl rfl ?_
    refine ge_bipush (v := 70) (n := 55) C dX11_remember_53 (by decide) rfl ?_
    refine ge_icmp_ge (t := 84) (n := 58) C dX11_remember_55 (by decide) rfl (fun h_55 => ?_) (fun h_55 => ?_)
    · refine ge_sub [1] rfl ?_
      exact hkk52 S_52
    · refine ge_aload_n (n := 59) C 1 rfl dX11_remember_58 rfl rfl ?_
      refine gt_X11_68 (n := 62) C (by decide) dX11_remember_59 rfl ?_
      refine ge_bipush (v := 70) (n := 64) C dX11_remember_62 (by decide) rfl ?_
      refine ge_aload_n (n := 65) C 1 rfl dX11_remember_64 rfl rfl ?_
      refine gt_X11_180 (n := 68) C (by decide) dX11_remember_65 rfl ?_
      refine ge_imul (n := 69) C dX11_remember_68 rfl ?_
      refine ge_iload_n (n := 70) C 0 rfl dX11_remember_69 rfl rfl ?_
      refine ge_iadd (n := 71) C dX11_remember_70 rfl ?_
      refine ge_aload_n (n := 72) C 1 rfl dX11_remember_71 rfl rfl ?_
      refine gt_X11_22 (n := 75) C (by decide) dX11_remember_72 rfl ?_
      refine ge_iload_n (n := 76) C 0 rfl dX11_remember_75 rfl rfl ?_
      refine al_40 (n := 77) C (by decide) dX11_remember_76 rfl ?_
      refine as_54 (n := 78) C (by decide) dX11_remember_77 rfl (fun S_77 => ?_)
      refine ge_iinc (n := 81) (v := (x1_52 + (1 : Int32))) (lv2 := [(1, .int (x1_52 + (1 : Int32))), (0, .ref (adr 35 0))]) C 0 rfl dX11_remember_78 rfl rfl (by decide) rfl ?_
      refine ge_goto (n := 52) C dX11_remember_81 (by decide) ?_
      exact hag52 (x1_52 + (1 : Int32)) S_77
  refine ge_icmp_ne (t := 50) (n := 9) C dX11_remember_6 (by decide) rfl (fun h_6 => ?_) (fun h_6 => ?_)
  · exact hj50 S
  · refine ge_bipush (v := 70) (n := 11) C dX11_remember_9 (by decide) rfl ?_
    refine ge_istore_n (n := 12) (lv2 := [(1, .int (70 : Int32)), (0, .ref (adr 35 0))]) C dX11_remember_11 rfl rfl (by decide) rfl ?_
    refine ge_jn (fun (jj : St → Op) => ∀ (S_40 : St), Ge w adr k 40 [(0, .ref (adr 35 0))] [] S_40 (jj S_40)) (fun S_40 => ?_) (fun kk12 hkk12 => ?_)
    · refine ge_aload_n (n := 41) C 0 rfl dX11_remember_40 rfl rfl ?_
      refine ge_dup (n := 42) C dX11_remember_41 rfl rfl ?_
      refine gt_X11_180 (n := 45) C (by decide) dX11_remember_42 rfl ?_
      refine ge_iconst (v := 1) (n := 46) C dX11_remember_45 (by decide) rfl ?_
      refine ge_isub (n := 47) C dX11_remember_46 rfl ?_
      refine pt_X11_180 (n := 50) C (by decide) dX11_remember_47 rfl (fun S_47 => ?_)
      exact hj50 S_47
    refine ge_lop (fun (jj : Int32 → St → Op) => ∀ (x1_12 : Int32) (S_12 : St), Ge w adr k 12 [(1, .int x1_12), (0, .ref (adr 35 0))] [] S_12 (jj x1_12 S_12)) (fun _ _ => ge_none) (fun ag12 hag12 x1_12 S_12 => ?_) FU (70 : Int32) S
    refine ge_iload_n (n := 13) C 0 rfl dX11_remember_12 rfl rfl ?_
    refine ge_sipush (v := 1120) (n := 16) C dX11_remember_13 (by decide) rfl ?_
    refine ge_icmp_ge (t := 40) (n := 19) C dX11_remember_16 (by decide) rfl (fun h_16 => ?_) (fun h_16 => ?_)
    · refine ge_sub [1] rfl ?_
      exact hkk12 S_12
    · refine ge_aload_n (n := 20) C 1 rfl dX11_remember_19 rfl rfl ?_
      refine gt_X11_68 (n := 23) C (by decide) dX11_remember_20 rfl ?_
      refine ge_iload_n (n := 24) C 0 rfl dX11_remember_23 rfl rfl ?_
      refine ge_bipush (v := 70) (n := 26) C dX11_remember_24 (by decide) rfl ?_
      refine ge_isub (n := 27) C dX11_remember_26 rfl ?_
      refine ge_aload_n (n := 28) C 1 rfl dX11_remember_27 rfl rfl ?_
      refine gt_X11_68 (n := 31) C (by decide) dX11_remember_28 rfl ?_
      refine ge_iload_n (n := 32) C 0 rfl dX11_remember_31 rfl rfl ?_
      refine al_54 (n := 33) C (by decide) dX11_remember_32 rfl ?_
      refine as_54 (n := 34) C (by decide) dX11_remember_33 rfl (fun S_33 => ?_)
      refine ge_iinc (n := 37) (v := (x1_12 + (1 : Int32))) (lv2 := [(1, .int (x1_12 + (1 : Int32))), (0, .ref (adr 35 0))]) C 0 rfl dX11_remember_34 rfl rfl (by decide) rfl ?_
      refine ge_goto (n := 12) C dX11_remember_37 (by decide) ?_
      exact hag12 (x1_12 + (1 : Int32)) S_33
theorem dX11_passes_0 : decode cX11_passes 0 = .ok (.iconst 0, 1) := by decide +kernel
theorem dX11_passes_1 : decode cX11_passes 1 = .ok (.istore_n 1, 1) := by decide +kernel
theorem dX11_passes_2 : decode cX11_passes 2 = .ok (.iload_n 1, 1) := by decide +kernel
theorem dX11_passes_3 : decode cX11_passes 3 = .ok (.aload_n 0, 1) := by decide +kernel
theorem dX11_passes_4 : decode cX11_passes 4 = .ok (.getfield 93, 3) := by decide +kernel
theorem dX11_passes_7 : decode cX11_passes 7 = .ok (.if_icmp .ge 81, 3) := by decide +kernel
theorem dX11_passes_10 : decode cX11_passes 10 = .ok (.aload_n 0, 1) := by decide +kernel
theorem dX11_passes_11 : decode cX11_passes 11 = .ok (.getfield 22, 3) := by decide +kernel
theorem dX11_passes_14 : decode cX11_passes 14 = .ok (.iconst 2, 1) := by decide +kernel
theorem dX11_passes_15 : decode cX11_passes 15 = .ok (.iaload, 1) := by decide +kernel
theorem dX11_passes_16 : decode cX11_passes 16 = .ok (.iload_n 1, 1) := by decide +kernel
theorem dX11_passes_17 : decode cX11_passes 17 = .ok (.invokestatic 226, 3) := by decide +kernel
theorem dX11_passes_20 : decode cX11_passes 20 = .ok (.ifCond .eq 62, 3) := by decide +kernel
theorem dX11_passes_23 : decode cX11_passes 23 = .ok (.aload_n 0, 1) := by decide +kernel
theorem dX11_passes_24 : decode cX11_passes 24 = .ok (.iload_n 1, 1) := by decide +kernel
theorem dX11_passes_25 : decode cX11_passes 25 = .ok (.invokevirtual 189, 3) := by decide +kernel
theorem dX11_passes_28 : decode cX11_passes 28 = .ok (.aload_n 0, 1) := by decide +kernel
theorem dX11_passes_29 : decode cX11_passes 29 = .ok (.aload_n 0, 1) := by decide +kernel
theorem dX11_passes_30 : decode cX11_passes 30 = .ok (.getfield 7, 3) := by decide +kernel
theorem dX11_passes_33 : decode cX11_passes 33 = .ok (.iload_n 1, 1) := by decide +kernel
theorem dX11_passes_34 : decode cX11_passes 34 = .ok (.iaload, 1) := by decide +kernel
theorem dX11_passes_35 : decode cX11_passes 35 = .ok (.aload_n 0, 1) := by decide +kernel
theorem dX11_passes_36 : decode cX11_passes 36 = .ok (.getfield 22, 3) := by decide +kernel
theorem dX11_passes_39 : decode cX11_passes 39 = .ok (.iconst 1, 1) := by decide +kernel
theorem dX11_passes_40 : decode cX11_passes 40 = .ok (.iaload, 1) := by decide +kernel
theorem dX11_passes_41 : decode cX11_passes 41 = .ok (.aload_n 0, 1) := by decide +kernel
theorem dX11_passes_42 : decode cX11_passes 42 = .ok (.getfield 22, 3) := by decide +kernel
theorem dX11_passes_45 : decode cX11_passes 45 = .ok (.iconst 0, 1) := by decide +kernel
theorem dX11_passes_46 : decode cX11_passes 46 = .ok (.iaload, 1) := by decide +kernel
theorem dX11_passes_47 : decode cX11_passes 47 = .ok (.invokevirtual 230, 3) := by decide +kernel
theorem dX11_passes_50 : decode cX11_passes 50 = .ok (.iconst 0, 1) := by decide +kernel
theorem dX11_passes_51 : decode cX11_passes 51 = .ok (.istore_n 2, 1) := by decide +kernel
theorem dX11_passes_52 : decode cX11_passes 52 = .ok (.iload_n 2, 1) := by decide +kernel
theorem dX11_passes_53 : decode cX11_passes 53 = .ok (.iconst 5, 1) := by decide +kernel
theorem dX11_passes_54 : decode cX11_passes 54 = .ok (.if_icmp .ge 28, 3) := by decide +kernel
theorem dX11_passes_57 : decode cX11_passes 57 = .ok (.aload_n 0, 1) := by decide +kernel
theorem dX11_passes_58 : decode cX11_passes 58 = .ok (.getfield 22, 3) := by decide +kernel
theorem dX11_passes_61 : decode cX11_passes 61 = .ok (.bipush 34, 2) := by decide +kernel
theorem dX11_passes_63 : decode cX11_passes 63 = .ok (.iconst 5, 1) := by decide +kernel
theorem dX11_passes_64 : decode cX11_passes 64 = .ok (.iload_n 1, 1) := by decide +kernel
theorem dX11_passes_65 : decode cX11_passes 65 = .ok (.imul, 1) := by decide +kernel
theorem dX11_passes_66 : decode cX11_passes 66 = .ok (.iadd, 1) := by decide +kernel
theorem dX11_passes_67 : decode cX11_passes 67 = .ok (.iload_n 2, 1) := by decide +kernel
theorem dX11_passes_68 : decode cX11_passes 68 = .ok (.iadd, 1) := by decide +kernel
theorem dX11_passes_69 : decode cX11_passes 69 = .ok (.aload_n 0, 1) := by decide +kernel
theorem dX11_passes_70 : decode cX11_passes 70 = .ok (.getfield 62, 3) := by decide +kernel
theorem dX11_passes_73 : decode cX11_passes 73 = .ok (.iload_n 2, 1) := by decide +kernel
theorem dX11_passes_74 : decode cX11_passes 74 = .ok (.iaload, 1) := by decide +kernel
theorem dX11_passes_75 : decode cX11_passes 75 = .ok (.iastore, 1) := by decide +kernel
theorem dX11_passes_76 : decode cX11_passes 76 = .ok (.iinc 2 1, 3) := by decide +kernel
theorem dX11_passes_79 : decode cX11_passes 79 = .ok (.goto (-27), 3) := by decide +kernel
theorem dX11_passes_82 : decode cX11_passes 82 = .ok (.iinc 1 1, 3) := by decide +kernel
theorem dX11_passes_85 : decode cX11_passes 85 = .ok (.goto (-83), 3) := by decide +kernel
theorem dX11_passes_88 : decode cX11_passes 88 = .ok (.aload_n 0, 1) := by decide +kernel
theorem dX11_passes_89 : decode cX11_passes 89 = .ok (.getfield 22, 3) := by decide +kernel
theorem dX11_passes_92 : decode cX11_passes 92 = .ok (.iconst 0, 1) := by decide +kernel
theorem dX11_passes_93 : decode cX11_passes 93 = .ok (.dup2, 1) := by decide +kernel
theorem dX11_passes_94 : decode cX11_passes 94 = .ok (.iaload, 1) := by decide +kernel
theorem dX11_passes_95 : decode cX11_passes 95 = .ok (.iconst 1, 1) := by decide +kernel
theorem dX11_passes_96 : decode cX11_passes 96 = .ok (.iadd, 1) := by decide +kernel
theorem dX11_passes_97 : decode cX11_passes 97 = .ok (.iastore, 1) := by decide +kernel
theorem dX11_passes_98 : decode cX11_passes 98 = .ok (.return_, 1) := by decide +kernel
set_option maxRecDepth 100000 in
set_option maxHeartbeats 4000000 in
theorem mX11_passes {w : WX} {adr : Nat → Nat → Nat} (hj : Ij adr)  (S : St) : ∀ (l : Launch) (r : Int32) (S2 : St), fX11_passes S = some (r, S2) → Mv l w adr yX11_passes cX11_passes 3 none 2 46 [.ref (adr 35 0)] S S2 := by
  refine mv_of (lv := [(0, .ref (adr 35 0))]) hj (plainFor_of_name (by decide +kernel)) rfl (Nat.le_of_ble_eq_true rfl) (fun k C Rr => ?_)
  have C : Cx w adr k cX11_passes RX11 3 2 46 := C
  refine ge_iconst (v := 0) (n := 1) C dX11_passes_0 (by decide) rfl ?_
  refine ge_istore_n (n := 2) (lv2 := [(1, .int (0 : Int32)), (0, .ref (adr 35 0))]) C dX11_passes_1 rfl rfl (by decide) rfl ?_
  refine ge_jn (fun (jj : St → Op) => ∀ (S_88 : St), Ge w adr k 88 [(0, .ref (adr 35 0))] [] S_88 (jj S_88)) (fun S_88 => ?_) (fun kk2 hkk2 => ?_)
  · refine ge_aload_n (n := 89) C 0 rfl dX11_passes_88 rfl rfl ?_
    refine gt_X11_22 (n := 92) C (by decide) dX11_passes_89 rfl ?_
    refine ge_iconst (v := 0) (n := 93) C dX11_passes_92 (by decide) rfl ?_
    refine ge_dup2 (n := 94) C dX11_passes_93 rfl rfl rfl ?_
    refine al_40 (n := 95) C (by decide) dX11_passes_94 rfl ?_
    refine ge_iconst (v := 1) (n := 96) C dX11_passes_95 (by decide) rfl ?_
    refine ge_iadd (n := 97) C dX11_passes_96 rfl ?_
    refine as_40 (n := 98) C (by decide) dX11_passes_97 rfl (fun S_97 => ?_)
    exact ge_vret C Rr dX11_passes_98
  refine ge_lop (fun (jj : Int32 → St → Op) => ∀ (x1_2 : Int32) (S_2 : St), Ge w adr k 2 [(1, .int x1_2), (0, .ref (adr 35 0))] [] S_2 (jj x1_2 S_2)) (fun _ _ => ge_none) (fun ag2 hag2 x1_2 S_2 => ?_) FU (0 : Int32) S
  refine ge_iload_n (n := 3) C 0 rfl dX11_passes_2 rfl rfl ?_
  refine ge_aload_n (n := 4) C 1 rfl dX11_passes_3 rfl rfl ?_
  refine gt_X11_93 (n := 7) C (by decide) dX11_passes_4 rfl ?_
  refine ge_icmp_ge (t := 88) (n := 10) C dX11_passes_7 (by decide) rfl (fun h_7 => ?_) (fun h_7 => ?_)
  · refine ge_sub [1] rfl ?_
    exact hkk2 S_2
  · refine ge_aload_n (n := 11) C 1 rfl dX11_passes_10 rfl rfl ?_
    refine gt_X11_22 (n := 14) C (by decide) dX11_passes_11 rfl ?_
    refine ge_iconst (v := 2) (n := 15) C dX11_passes_14 (by decide) rfl ?_
    refine al_40 (n := 16) C (by decide) dX11_passes_15 rfl ?_
    refine ge_iload_n (n := 17) C 0 rfl dX11_passes_16 rfl rfl ?_
    refine ge_callSi (n := 20) C (mX11_has hj (S_2 40 0 (Int32.toNatClampNeg (2 : Int32))) x1_2 S_2) gv_X11_226 hc_X11_has ⟨Nat.le_of_ble_eq_true rfl, Nat.le_of_ble_eq_true rfl⟩ rfl rfl (Nat.le_of_ble_eq_true rfl) dX11_passes_17 rfl (fun r_17 S_17 => ?_)
    refine ge_if_eq (t := 82) (n := 23) C dX11_passes_20 (by decide) rfl (fun h_20 => ?_) (fun h_20 => ?_)
    · refine ge_iinc (n := 85) (v := (x1_2 + (1 : Int32))) (lv2 := [(1, .int (x1_2 + (1 : Int32))), (0, .ref (adr 35 0))]) C 0 rfl dX11_passes_82 rfl rfl (by decide) rfl ?_
      refine ge_goto (n := 2) C dX11_passes_85 (by decide) ?_
      exact hag2 (x1_2 + (1 : Int32)) S_17
    · refine ge_aload_n (n := 24) C 1 rfl dX11_passes_23 rfl rfl ?_
      refine ge_iload_n (n := 25) C 0 rfl dX11_passes_24 rfl rfl ?_
      refine ge_callVv (n := 28) C (mX11_takesSkin hj x1_2 S_17) gv_X11_189 (cl_35 (by decide)) rfl rfl hc_X11_takesSkin ⟨Nat.le_of_ble_eq_true rfl, Nat.le_of_ble_eq_true rfl⟩ rfl rfl (Nat.le_of_ble_eq_true rfl) dX11_passes_25 rfl (fun _ S_25 => ?_)
      refine ge_aload_n (n := 29) C 1 rfl dX11_passes_28 rfl rfl ?_
      refine ge_aload_n (n := 30) C 1 rfl dX11_passes_29 rfl rfl ?_
      refine gt_X11_7 (n := 33) C (by decide) dX11_passes_30 rfl ?_
      refine ge_iload_n (n := 34) C 0 rfl dX11_passes_33 rfl rfl ?_
      refine al_36 (n := 35) C (by decide) dX11_passes_34 rfl ?_
      refine ge_aload_n (n := 36) C 1 rfl dX11_passes_35 rfl rfl ?_
      refine gt_X11_22 (n := 39) C (by decide) dX11_passes_36 rfl ?_
      refine ge_iconst (v := 1) (n := 40) C dX11_passes_39 (by decide) rfl ?_
      refine al_40 (n := 41) C (by decide) dX11_passes_40 rfl ?_
      refine ge_aload_n (n := 42) C 1 rfl dX11_passes_41 rfl rfl ?_
      refine gt_X11_22 (n := 45) C (by decide) dX11_passes_42 rfl ?_
      refine ge_iconst (v := 0) (n := 46) C dX11_passes_45 (by decide) rfl ?_
      refine al_40 (n := 47) C (by decide) dX11_passes_46 rfl ?_
      refine ge_callVv (n := 50) C (mX11_tans hj (S_25 36 0 (Int32.toNatClampNeg x1_2)) (S_25 40 0 (Int32.toNatClampNeg (1 : Int32))) (S_25 40 0 (Int32.toNatClampNeg (0 : Int32))) S_25) gv_X11_230 (cl_35 (by decide)) rfl rfl hc_X11_tans ⟨Nat.le_of_ble_eq_true rfl, Nat.le_of_ble_eq_true rfl⟩ rfl rfl (Nat.le_of_ble_eq_true rfl) dX11_passes_47 rfl (fun _ S_47 => ?_)
      refine ge_iconst (v := 0) (n := 51) C dX11_passes_50 (by decide) rfl ?_
      refine ge_istore_n (n := 52) (lv2 := [(2, .int (0 : Int32)), (1, .int x1_2), (0, .ref (adr 35 0))]) C dX11_passes_51 rfl rfl (by decide) rfl ?_
      refine ge_jn (fun (jj : St → Op) => ∀ (S_82 : St), Ge w adr k 82 [(1, .int x1_2), (0, .ref (adr 35 0))] [] S_82 (jj S_82)) (fun S_82 => ?_) (fun kk52 hkk52 => ?_)
      · refine ge_iinc (n := 85) (v := (x1_2 + (1 : Int32))) (lv2 := [(1, .int (x1_2 + (1 : Int32))), (0, .ref (adr 35 0))]) C 0 rfl dX11_passes_82 rfl rfl (by decide) rfl ?_
        refine ge_goto (n := 2) C dX11_passes_85 (by decide) ?_
        exact hag2 (x1_2 + (1 : Int32)) S_82
      refine ge_lop (fun (jj : Int32 → St → Op) => ∀ (x2_52 : Int32) (S_52 : St), Ge w adr k 52 [(2, .int x2_52), (1, .int x1_2), (0, .ref (adr 35 0))] [] S_52 (jj x2_52 S_52)) (fun _ _ => ge_none) (fun ag52 hag52 x2_52 S_52 => ?_) FU (0 : Int32) S_47
      refine ge_iload_n (n := 53) C 0 rfl dX11_passes_52 rfl rfl ?_
      refine ge_iconst (v := 5) (n := 54) C dX11_passes_53 (by decide) rfl ?_
      refine ge_icmp_ge (t := 82) (n := 57) C dX11_passes_54 (by decide) rfl (fun h_54 => ?_) (fun h_54 => ?_)
      · refine ge_sub [1, 2] rfl ?_
        exact hkk52 S_52
      · refine ge_aload_n (n := 58) C 2 rfl dX11_passes_57 rfl rfl ?_
        refine gt_X11_22 (n := 61) C (by decide) dX11_passes_58 rfl ?_
        refine ge_bipush (v := 34) (n := 63) C dX11_passes_61 (by decide) rfl ?_
        refine ge_iconst (v := 5) (n := 64) C dX11_passes_63 (by decide) rfl ?_
        refine ge_iload_n (n := 65) C 1 rfl dX11_passes_64 rfl rfl ?_
        refine ge_imul (n := 66) C dX11_passes_65 rfl ?_
        refine ge_iadd (n := 67) C dX11_passes_66 rfl ?_
        refine ge_iload_n (n := 68) C 0 rfl dX11_passes_67 rfl rfl ?_
        refine ge_iadd (n := 69) C dX11_passes_68 rfl ?_
        refine ge_aload_n (n := 70) C 2 rfl dX11_passes_69 rfl rfl ?_
        refine gt_X11_62 (n := 73) C (by decide) dX11_passes_70 rfl ?_
        refine ge_iload_n (n := 74) C 0 rfl dX11_passes_73 rfl rfl ?_
        refine al_52 (n := 75) C (by decide) dX11_passes_74 rfl ?_
        refine as_40 (n := 76) C (by decide) dX11_passes_75 rfl (fun S_75 => ?_)
        refine ge_iinc (n := 79) (v := (x2_52 + (1 : Int32))) (lv2 := [(2, .int (x2_52 + (1 : Int32))), (1, .int x1_2), (0, .ref (adr 35 0))]) C 0 rfl dX11_passes_76 rfl rfl (by decide) rfl ?_
        refine ge_goto (n := 52) C dX11_passes_79 (by decide) ?_
        exact hag52 (x2_52 + (1 : Int32)) S_75
theorem dX11_monthsRefused_0 : decode cX11_monthsRefused 0 = .ok (.iload_n 1, 1) := by decide +kernel
theorem dX11_monthsRefused_1 : decode cX11_monthsRefused 1 = .ok (.i2l, 1) := by decide +kernel
theorem dX11_monthsRefused_2 : decode cX11_monthsRefused 2 = .ok (.lconst 1, 1) := by decide +kernel
theorem dX11_monthsRefused_3 : decode cX11_monthsRefused 3 = .ok (.ldc2_w 234, 3) := by decide +kernel
theorem dX11_monthsRefused_6 : decode cX11_monthsRefused 6 = .ok (.invokestatic 96, 3) := by decide +kernel
theorem dX11_monthsRefused_9 : decode cX11_monthsRefused 9 = .ok (.ifCond .ne 6, 3) := by decide +kernel
theorem dX11_monthsRefused_12 : decode cX11_monthsRefused 12 = .ok (.ldc 107, 2) := by decide +kernel
theorem dX11_monthsRefused_14 : decode cX11_monthsRefused 14 = .ok (.ireturn, 1) := by decide +kernel
theorem dX11_monthsRefused_15 : decode cX11_monthsRefused 15 = .ok (.aload_n 0, 1) := by decide +kernel
theorem dX11_monthsRefused_16 : decode cX11_monthsRefused 16 = .ok (.getfield 90, 3) := by decide +kernel
theorem dX11_monthsRefused_19 : decode cX11_monthsRefused 19 = .ok (.ifCond .ne 8, 3) := by decide +kernel
theorem dX11_monthsRefused_22 : decode cX11_monthsRefused 22 = .ok (.ldc 236, 2) := by decide +kernel
theorem dX11_monthsRefused_24 : decode cX11_monthsRefused 24 = .ok (.goto 21, 3) := by decide +kernel
theorem dX11_monthsRefused_27 : decode cX11_monthsRefused 27 = .ok (.aload_n 0, 1) := by decide +kernel
theorem dX11_monthsRefused_28 : decode cX11_monthsRefused 28 = .ok (.getfield 22, 3) := by decide +kernel
theorem dX11_monthsRefused_31 : decode cX11_monthsRefused 31 = .ok (.iconst 0, 1) := by decide +kernel
theorem dX11_monthsRefused_32 : decode cX11_monthsRefused 32 = .ok (.iaload, 1) := by decide +kernel
theorem dX11_monthsRefused_33 : decode cX11_monthsRefused 33 = .ok (.sipush 9000, 3) := by decide +kernel
theorem dX11_monthsRefused_36 : decode cX11_monthsRefused 36 = .ok (.if_icmp .le 8, 3) := by decide +kernel
theorem dX11_monthsRefused_39 : decode cX11_monthsRefused 39 = .ok (.ldc 111, 2) := by decide +kernel
theorem dX11_monthsRefused_41 : decode cX11_monthsRefused 41 = .ok (.goto 4, 3) := by decide +kernel
theorem dX11_monthsRefused_44 : decode cX11_monthsRefused 44 = .ok (.iconst 0, 1) := by decide +kernel
theorem dX11_monthsRefused_45 : decode cX11_monthsRefused 45 = .ok (.ireturn, 1) := by decide +kernel
set_option maxRecDepth 100000 in
set_option maxHeartbeats 4000000 in
theorem mX11_monthsRefused {w : WX} {adr : Nat → Nat → Nat} (hj : Ij adr) (a1 : Int32) (S : St) : ∀ (l : Launch) (r : Int32) (S2 : St), fX11_monthsRefused a1 S = some (r, S2) → Mi l w adr yX11_monthsRefused cX11_monthsRefused 2 (some .int) 1 25 [.ref (adr 35 0), .int a1] S r S2 := by
  refine mi_of (lv := [(0, .ref (adr 35 0)), (1, .int a1)]) hj (plainFor_of_name (by decide +kernel)) rfl (Nat.le_of_ble_eq_true rfl) (fun k C Rr => ?_)
  have C : Cx w adr k cX11_monthsRefused RX11 2 1 25 := C
  refine ge_iload_n (n := 1) C 1 rfl dX11_monthsRefused_0 rfl rfl ?_
  refine ge_i2l (n := 2) C dX11_monthsRefused_1 rfl ?_
  refine ge_lconst (v := 1) (n := 3) C dX11_monthsRefused_2 (by decide) rfl ?_
  refine ge_ldc2 (n := 6) C kl_X11_234 dX11_monthsRefused_3 rfl ?_
  refine ge_callSi (n := 9) C (mX11_within hj (Int32.toInt64 a1) (1 : Int64) (60 : Int64) S) gv_X11_96 hc_X11_within ⟨Nat.le_of_ble_eq_true rfl, Nat.le_of_ble_eq_true rfl⟩ rfl rfl (Nat.le_of_ble_eq_true rfl) dX11_monthsRefused_6 rfl (fun r_6 S_6 => ?_)
  refine ge_if_ne (t := 15) (n := 12) C dX11_monthsRefused_9 (by decide) rfl (fun h_9 => ?_) (fun h_9 => ?_)
  · refine ge_aload_n (n := 16) C 0 rfl dX11_monthsRefused_15 rfl rfl ?_
    refine gt_X11_90 (n := 19) C (by decide) dX11_monthsRefused_16 rfl ?_
    refine ge_if_ne (t := 27) (n := 22) C dX11_monthsRefused_19 (by decide) rfl (fun h_19 => ?_) (fun h_19 => ?_)
    · refine ge_aload_n (n := 28) C 0 rfl dX11_monthsRefused_27 rfl rfl ?_
      refine gt_X11_22 (n := 31) C (by decide) dX11_monthsRefused_28 rfl ?_
      refine ge_iconst (v := 0) (n := 32) C dX11_monthsRefused_31 (by decide) rfl ?_
      refine al_40 (n := 33) C (by decide) dX11_monthsRefused_32 rfl ?_
      refine ge_sipush (v := 9000) (n := 36) C dX11_monthsRefused_33 (by decide) rfl ?_
      refine ge_icmp_le (t := 44) (n := 39) C dX11_monthsRefused_36 (by decide) rfl (fun h_36 => ?_) (fun h_36 => ?_)
      · refine ge_iconst (v := 0) (n := 45) C dX11_monthsRefused_44 (by decide) rfl ?_
        exact ge_iret C Rr dX11_monthsRefused_45
      · refine ge_ldc (n := 41) C kc_X11_111 dX11_monthsRefused_39 rfl ?_
        refine ge_goto (n := 45) C dX11_monthsRefused_41 (by decide) ?_
        exact ge_iret C Rr dX11_monthsRefused_45
    · refine ge_ldc (n := 24) C kc_X11_236 dX11_monthsRefused_22 rfl ?_
      refine ge_goto (n := 45) C dX11_monthsRefused_24 (by decide) ?_
      exact ge_iret C Rr dX11_monthsRefused_45
  · refine ge_ldc (n := 14) C kc_X11_107 dX11_monthsRefused_12 rfl ?_
    exact ge_iret C Rr dX11_monthsRefused_14
theorem dX11_month_0 : decode cX11_month 0 = .ok (.aload_n 0, 1) := by decide +kernel
theorem dX11_month_1 : decode cX11_month 1 = .ok (.iload_n 1, 1) := by decide +kernel
theorem dX11_month_2 : decode cX11_month 2 = .ok (.invokevirtual 237, 3) := by decide +kernel
theorem dX11_month_5 : decode cX11_month 5 = .ok (.istore_n 2, 1) := by decide +kernel
theorem dX11_month_6 : decode cX11_month 6 = .ok (.iload_n 2, 1) := by decide +kernel
theorem dX11_month_7 : decode cX11_month 7 = .ok (.ifCond .eq 5, 3) := by decide +kernel
theorem dX11_month_10 : decode cX11_month 10 = .ok (.iload_n 2, 1) := by decide +kernel
theorem dX11_month_11 : decode cX11_month 11 = .ok (.ireturn, 1) := by decide +kernel
theorem dX11_month_12 : decode cX11_month 12 = .ok (.aload_n 0, 1) := by decide +kernel
theorem dX11_month_13 : decode cX11_month 13 = .ok (.invokevirtual 240, 3) := by decide +kernel
theorem dX11_month_16 : decode cX11_month 16 = .ok (.iconst 0, 1) := by decide +kernel
theorem dX11_month_17 : decode cX11_month 17 = .ok (.istore_n 3, 1) := by decide +kernel
theorem dX11_month_18 : decode cX11_month 18 = .ok (.iload_n 3, 1) := by decide +kernel
theorem dX11_month_19 : decode cX11_month 19 = .ok (.iload_n 1, 1) := by decide +kernel
theorem dX11_month_20 : decode cX11_month 20 = .ok (.if_icmp .ge 13, 3) := by decide +kernel
theorem dX11_month_23 : decode cX11_month 23 = .ok (.aload_n 0, 1) := by decide +kernel
theorem dX11_month_24 : decode cX11_month 24 = .ok (.invokevirtual 243, 3) := by decide +kernel
theorem dX11_month_27 : decode cX11_month 27 = .ok (.iinc 3 1, 3) := by decide +kernel
theorem dX11_month_30 : decode cX11_month 30 = .ok (.goto (-12), 3) := by decide +kernel
theorem dX11_month_33 : decode cX11_month 33 = .ok (.aload_n 0, 1) := by decide +kernel
theorem dX11_month_34 : decode cX11_month 34 = .ok (.getfield 22, 3) := by decide +kernel
theorem dX11_month_37 : decode cX11_month 37 = .ok (.iconst 0, 1) := by decide +kernel
theorem dX11_month_38 : decode cX11_month 38 = .ok (.iaload, 1) := by decide +kernel
theorem dX11_month_39 : decode cX11_month 39 = .ok (.ireturn, 1) := by decide +kernel
set_option maxRecDepth 100000 in
set_option maxHeartbeats 4000000 in
theorem mX11_month {w : WX} {adr : Nat → Nat → Nat} (hj : Ij adr) (a1 : Int32) (S : St) : ∀ (l : Launch) (r : Int32) (S2 : St), fX11_month a1 S = some (r, S2) → Mi l w adr yX11_month cX11_month 4 (some .int) 3 68 [.ref (adr 35 0), .int a1] S r S2 := by
  refine mi_of (lv := [(0, .ref (adr 35 0)), (1, .int a1)]) hj (plainFor_of_name (by decide +kernel)) rfl (Nat.le_of_ble_eq_true rfl) (fun k C Rr => ?_)
  have C : Cx w adr k cX11_month RX11 4 3 68 := C
  refine ge_aload_n (n := 1) C 0 rfl dX11_month_0 rfl rfl ?_
  refine ge_iload_n (n := 2) C 1 rfl dX11_month_1 rfl rfl ?_
  refine ge_callVi (n := 5) C (mX11_monthsRefused hj a1 S) gv_X11_237 (cl_35 (by decide)) rfl rfl hc_X11_monthsRefused ⟨Nat.le_of_ble_eq_true rfl, Nat.le_of_ble_eq_true rfl⟩ rfl rfl (Nat.le_of_ble_eq_true rfl) dX11_month_2 rfl (fun r_2 S_2 => ?_)
  refine ge_istore_n (n := 6) (lv2 := [(2, .int r_2), (0, .ref (adr 35 0)), (1, .int a1)]) C dX11_month_5 rfl rfl (by decide) rfl ?_
  refine ge_iload_n (n := 7) C 0 rfl dX11_month_6 rfl rfl ?_
  refine ge_if_eq (t := 12) (n := 10) C dX11_month_7 (by decide) rfl (fun h_7 => ?_) (fun h_7 => ?_)
  · refine ge_aload_n (n := 13) C 1 rfl dX11_month_12 rfl rfl ?_
    refine ge_callVv (n := 16) C (mX11_remember hj S_2) gv_X11_240 (cl_35 (by decide)) rfl rfl hc_X11_remember ⟨Nat.le_of_ble_eq_true rfl, Nat.le_of_ble_eq_true rfl⟩ rfl rfl (Nat.le_of_ble_eq_true rfl) dX11_month_13 rfl (fun _ S_13 => ?_)
    refine ge_iconst (v := 0) (n := 17) C dX11_month_16 (by decide) rfl ?_
    refine ge_istore_n (n := 18) (lv2 := [(3, .int (0 : Int32)), (2, .int r_2), (0, .ref (adr 35 0)), (1, .int a1)]) C dX11_month_17 rfl rfl (by decide) rfl ?_
    refine ge_jn (fun (jj : St → Op) => ∀ (S_33 : St), Ge w adr k 33 [(0, .ref (adr 35 0))] [] S_33 (jj S_33)) (fun S_33 => ?_) (fun kk18 hkk18 => ?_)
    · refine ge_aload_n (n := 34) C 0 rfl dX11_month_33 rfl rfl ?_
      refine gt_X11_22 (n := 37) C (by decide) dX11_month_34 rfl ?_
      refine ge_iconst (v := 0) (n := 38) C dX11_month_37 (by decide) rfl ?_
      refine al_40 (n := 39) C (by decide) dX11_month_38 rfl ?_
      exact ge_iret C Rr dX11_month_39
    refine ge_sub [0, 2, 3] rfl ?_
    refine ge_lop (fun (jj : Int32 → St → Op) => ∀ (x3_18 : Int32) (S_18 : St), Ge w adr k 18 [(3, .int x3_18), (0, .ref (adr 35 0)), (1, .int a1)] [] S_18 (jj x3_18 S_18)) (fun _ _ => ge_none) (fun ag18 hag18 x3_18 S_18 => ?_) FU (0 : Int32) S_13
    refine ge_iload_n (n := 19) C 0 rfl dX11_month_18 rfl rfl ?_
    refine ge_iload_n (n := 20) C 2 rfl dX11_month_19 rfl rfl ?_
    refine ge_icmp_ge (t := 33) (n := 23) C dX11_month_20 (by decide) rfl (fun h_20 => ?_) (fun h_20 => ?_)
    · refine ge_sub [1] rfl ?_
      exact hkk18 S_18
    · refine ge_aload_n (n := 24) C 1 rfl dX11_month_23 rfl rfl ?_
      refine ge_callVv (n := 27) C (mX11_passes hj S_18) gv_X11_243 (cl_35 (by decide)) rfl rfl hc_X11_passes ⟨Nat.le_of_ble_eq_true rfl, Nat.le_of_ble_eq_true rfl⟩ rfl rfl (Nat.le_of_ble_eq_true rfl) dX11_month_24 rfl (fun _ S_24 => ?_)
      refine ge_iinc (n := 30) (v := (x3_18 + (1 : Int32))) (lv2 := [(3, .int (x3_18 + (1 : Int32))), (0, .ref (adr 35 0)), (1, .int a1)]) C 0 rfl dX11_month_27 rfl rfl (by decide) rfl ?_
      refine ge_goto (n := 18) C dX11_month_30 (by decide) ?_
      exact hag18 (x3_18 + (1 : Int32)) S_24
  · refine ge_iload_n (n := 11) C 0 rfl dX11_month_10 rfl rfl ?_
    exact ge_iret C Rr dX11_month_11
theorem dX11_free_0 : decode cX11_free 0 = .ok (.aload_n 0, 1) := by decide +kernel
theorem dX11_free_1 : decode cX11_free 1 = .ok (.getfield 90, 3) := by decide +kernel
theorem dX11_free_4 : decode cX11_free 4 = .ok (.aload_n 0, 1) := by decide +kernel
theorem dX11_free_5 : decode cX11_free 5 = .ok (.getfield 22, 3) := by decide +kernel
theorem dX11_free_8 : decode cX11_free 8 = .ok (.iconst 2, 1) := by decide +kernel
theorem dX11_free_9 : decode cX11_free 9 = .ok (.iaload, 1) := by decide +kernel
theorem dX11_free_10 : decode cX11_free 10 = .ok (.invokestatic 246, 3) := by decide +kernel
theorem dX11_free_13 : decode cX11_free 13 = .ok (.isub, 1) := by decide +kernel
theorem dX11_free_14 : decode cX11_free 14 = .ok (.ireturn, 1) := by decide +kernel
set_option maxRecDepth 100000 in
set_option maxHeartbeats 4000000 in
theorem mX11_free {w : WX} {adr : Nat → Nat → Nat} (hj : Ij adr)  (S : St) : ∀ (l : Launch) (r : Int32) (S2 : St), fX11_free S = some (r, S2) → Mi l w adr yX11_free cX11_free 1 (some .int) 1 22 [.ref (adr 35 0)] S r S2 := by
  refine mi_of (lv := [(0, .ref (adr 35 0))]) hj (plainFor_of_name (by decide +kernel)) rfl (Nat.le_of_ble_eq_true rfl) (fun k C Rr => ?_)
  have C : Cx w adr k cX11_free RX11 1 1 22 := C
  refine ge_aload_n (n := 1) C 0 rfl dX11_free_0 rfl rfl ?_
  refine gt_X11_90 (n := 4) C (by decide) dX11_free_1 rfl ?_
  refine ge_aload_n (n := 5) C 0 rfl dX11_free_4 rfl rfl ?_
  refine gt_X11_22 (n := 8) C (by decide) dX11_free_5 rfl ?_
  refine ge_iconst (v := 2) (n := 9) C dX11_free_8 (by decide) rfl ?_
  refine al_40 (n := 10) C (by decide) dX11_free_9 rfl ?_
  refine ge_callSi (n := 13) C (mX11_ones hj (S 40 0 (Int32.toNatClampNeg (2 : Int32))) S) gv_X11_246 hc_X11_ones ⟨Nat.le_of_ble_eq_true rfl, Nat.le_of_ble_eq_true rfl⟩ rfl rfl (Nat.le_of_ble_eq_true rfl) dX11_free_10 rfl (fun r_10 S_10 => ?_)
  refine ge_isub (n := 14) C dX11_free_13 rfl ?_
  exact ge_iret C Rr dX11_free_14
theorem dX11_in_0 : decode cX11_in 0 = .ok (.aload_n 0, 1) := by decide +kernel
theorem dX11_in_1 : decode cX11_in 1 = .ok (.iload_n 1, 1) := by decide +kernel
theorem dX11_in_2 : decode cX11_in 2 = .ok (.invokevirtual 210, 3) := by decide +kernel
theorem dX11_in_5 : decode cX11_in 5 = .ok (.ifCond .ne 6, 3) := by decide +kernel
theorem dX11_in_8 : decode cX11_in 8 = .ok (.ldc 213, 2) := by decide +kernel
theorem dX11_in_10 : decode cX11_in 10 = .ok (.ireturn, 1) := by decide +kernel
theorem dX11_in_11 : decode cX11_in 11 = .ok (.aload_n 0, 1) := by decide +kernel
theorem dX11_in_12 : decode cX11_in 12 = .ok (.getfield 22, 3) := by decide +kernel
theorem dX11_in_15 : decode cX11_in 15 = .ok (.iconst 2, 1) := by decide +kernel
theorem dX11_in_16 : decode cX11_in 16 = .ok (.iaload, 1) := by decide +kernel
theorem dX11_in_17 : decode cX11_in 17 = .ok (.iload_n 1, 1) := by decide +kernel
theorem dX11_in_18 : decode cX11_in 18 = .ok (.invokestatic 226, 3) := by decide +kernel
theorem dX11_in_21 : decode cX11_in 21 = .ok (.ifCond .eq 6, 3) := by decide +kernel
theorem dX11_in_24 : decode cX11_in 24 = .ok (.ldc 236, 2) := by decide +kernel
theorem dX11_in_26 : decode cX11_in 26 = .ok (.ireturn, 1) := by decide +kernel
theorem dX11_in_27 : decode cX11_in 27 = .ok (.aload_n 0, 1) := by decide +kernel
theorem dX11_in_28 : decode cX11_in 28 = .ok (.invokevirtual 249, 3) := by decide +kernel
theorem dX11_in_31 : decode cX11_in 31 = .ok (.ifCond .ne 6, 3) := by decide +kernel
theorem dX11_in_34 : decode cX11_in 34 = .ok (.ldc 111, 2) := by decide +kernel
theorem dX11_in_36 : decode cX11_in 36 = .ok (.ireturn, 1) := by decide +kernel
theorem dX11_in_37 : decode cX11_in 37 = .ok (.aload_n 0, 1) := by decide +kernel
theorem dX11_in_38 : decode cX11_in 38 = .ok (.invokevirtual 240, 3) := by decide +kernel
theorem dX11_in_41 : decode cX11_in 41 = .ok (.aload_n 0, 1) := by decide +kernel
theorem dX11_in_42 : decode cX11_in 42 = .ok (.getfield 22, 3) := by decide +kernel
theorem dX11_in_45 : decode cX11_in 45 = .ok (.iconst 2, 1) := by decide +kernel
theorem dX11_in_46 : decode cX11_in 46 = .ok (.dup2, 1) := by decide +kernel
theorem dX11_in_47 : decode cX11_in 47 = .ok (.iaload, 1) := by decide +kernel
theorem dX11_in_48 : decode cX11_in 48 = .ok (.iconst 1, 1) := by decide +kernel
theorem dX11_in_49 : decode cX11_in 49 = .ok (.iload_n 1, 1) := by decide +kernel
theorem dX11_in_50 : decode cX11_in 50 = .ok (.ishl, 1) := by decide +kernel
theorem dX11_in_51 : decode cX11_in 51 = .ok (.ior, 1) := by decide +kernel
theorem dX11_in_52 : decode cX11_in 52 = .ok (.iastore, 1) := by decide +kernel
theorem dX11_in_53 : decode cX11_in 53 = .ok (.aload_n 0, 1) := by decide +kernel
theorem dX11_in_54 : decode cX11_in 54 = .ok (.invokevirtual 249, 3) := by decide +kernel
theorem dX11_in_57 : decode cX11_in 57 = .ok (.ireturn, 1) := by decide +kernel
set_option maxRecDepth 100000 in
set_option maxHeartbeats 4000000 in
theorem mX11_in {w : WX} {adr : Nat → Nat → Nat} (hj : Ij adr) (a1 : Int32) (S : St) : ∀ (l : Launch) (r : Int32) (S2 : St), fX11_in a1 S = some (r, S2) → Mi l w adr yX11_in cX11_in 2 (some .int) 2 46 [.ref (adr 35 0), .int a1] S r S2 := by
  refine mi_of (lv := [(0, .ref (adr 35 0)), (1, .int a1)]) hj (plainFor_of_name (by decide +kernel)) rfl (Nat.le_of_ble_eq_true rfl) (fun k C Rr => ?_)
  have C : Cx w adr k cX11_in RX11 2 2 46 := C
  refine ge_aload_n (n := 1) C 0 rfl dX11_in_0 rfl rfl ?_
  refine ge_iload_n (n := 2) C 1 rfl dX11_in_1 rfl rfl ?_
  refine ge_callVi (n := 5) C (mX11_isMan hj a1 S) gv_X11_210 (cl_35 (by decide)) rfl rfl hc_X11_isMan ⟨Nat.le_of_ble_eq_true rfl, Nat.le_of_ble_eq_true rfl⟩ rfl rfl (Nat.le_of_ble_eq_true rfl) dX11_in_2 rfl (fun r_2 S_2 => ?_)
  refine ge_if_ne (t := 11) (n := 8) C dX11_in_5 (by decide) rfl (fun h_5 => ?_) (fun h_5 => ?_)
  · refine ge_aload_n (n := 12) C 0 rfl dX11_in_11 rfl rfl ?_
    refine gt_X11_22 (n := 15) C (by decide) dX11_in_12 rfl ?_
    refine ge_iconst (v := 2) (n := 16) C dX11_in_15 (by decide) rfl ?_
    refine al_40 (n := 17) C (by decide) dX11_in_16 rfl ?_
    refine ge_iload_n (n := 18) C 1 rfl dX11_in_17 rfl rfl ?_
    refine ge_callSi (n := 21) C (mX11_has hj (S_2 40 0 (Int32.toNatClampNeg (2 : Int32))) a1 S_2) gv_X11_226 hc_X11_has ⟨Nat.le_of_ble_eq_true rfl, Nat.le_of_ble_eq_true rfl⟩ rfl rfl (Nat.le_of_ble_eq_true rfl) dX11_in_18 rfl (fun r_18 S_18 => ?_)
    refine ge_if_eq (t := 27) (n := 24) C dX11_in_21 (by decide) rfl (fun h_21 => ?_) (fun h_21 => ?_)
    · refine ge_aload_n (n := 28) C 0 rfl dX11_in_27 rfl rfl ?_
      refine ge_callVi (n := 31) C (mX11_free hj S_18) gv_X11_249 (cl_35 (by decide)) rfl rfl hc_X11_free ⟨Nat.le_of_ble_eq_true rfl, Nat.le_of_ble_eq_true rfl⟩ rfl rfl (Nat.le_of_ble_eq_true rfl) dX11_in_28 rfl (fun r_28 S_28 => ?_)
      refine ge_if_ne (t := 37) (n := 34) C dX11_in_31 (by decide) rfl (fun h_31 => ?_) (fun h_31 => ?_)
      · refine ge_aload_n (n := 38) C 0 rfl dX11_in_37 rfl rfl ?_
        refine ge_callVv (n := 41) C (mX11_remember hj S_28) gv_X11_240 (cl_35 (by decide)) rfl rfl hc_X11_remember ⟨Nat.le_of_ble_eq_true rfl, Nat.le_of_ble_eq_true rfl⟩ rfl rfl (Nat.le_of_ble_eq_true rfl) dX11_in_38 rfl (fun _ S_38 => ?_)
        refine ge_aload_n (n := 42) C 0 rfl dX11_in_41 rfl rfl ?_
        refine gt_X11_22 (n := 45) C (by decide) dX11_in_42 rfl ?_
        refine ge_iconst (v := 2) (n := 46) C dX11_in_45 (by decide) rfl ?_
        refine ge_dup2 (n := 47) C dX11_in_46 rfl rfl rfl ?_
        refine al_40 (n := 48) C (by decide) dX11_in_47 rfl ?_
        refine ge_iconst (v := 1) (n := 49) C dX11_in_48 (by decide) rfl ?_
        refine ge_iload_n (n := 50) C 1 rfl dX11_in_49 rfl rfl ?_
        refine ge_ishl (n := 51) C dX11_in_50 rfl ?_
        refine ge_ior (n := 52) C dX11_in_51 rfl ?_
        refine as_40 (n := 53) C (by decide) dX11_in_52 rfl (fun S_52 => ?_)
        refine ge_aload_n (n := 54) C 0 rfl dX11_in_53 rfl rfl ?_
        refine ge_callVi (n := 57) C (mX11_free hj S_52) gv_X11_249 (cl_35 (by decide)) rfl rfl hc_X11_free ⟨Nat.le_of_ble_eq_true rfl, Nat.le_of_ble_eq_true rfl⟩ rfl rfl (Nat.le_of_ble_eq_true rfl) dX11_in_54 rfl (fun r_54 S_54 => ?_)
        exact ge_iret C Rr dX11_in_57
      · refine ge_ldc (n := 36) C kc_X11_111 dX11_in_34 rfl ?_
        exact ge_iret C Rr dX11_in_36
    · refine ge_ldc (n := 26) C kc_X11_236 dX11_in_24 rfl ?_
      exact ge_iret C Rr dX11_in_26
  · refine ge_ldc (n := 10) C kc_X11_213 dX11_in_8 rfl ?_
    exact ge_iret C Rr dX11_in_10
theorem dX11_out_0 : decode cX11_out 0 = .ok (.aload_n 0, 1) := by decide +kernel
theorem dX11_out_1 : decode cX11_out 1 = .ok (.iload_n 1, 1) := by decide +kernel
theorem dX11_out_2 : decode cX11_out 2 = .ok (.invokevirtual 210, 3) := by decide +kernel
theorem dX11_out_5 : decode cX11_out 5 = .ok (.ifCond .ne 6, 3) := by decide +kernel
theorem dX11_out_8 : decode cX11_out 8 = .ok (.ldc 213, 2) := by decide +kernel
theorem dX11_out_10 : decode cX11_out 10 = .ok (.ireturn, 1) := by decide +kernel
theorem dX11_out_11 : decode cX11_out 11 = .ok (.aload_n 0, 1) := by decide +kernel
theorem dX11_out_12 : decode cX11_out 12 = .ok (.getfield 22, 3) := by decide +kernel
theorem dX11_out_15 : decode cX11_out 15 = .ok (.iconst 2, 1) := by decide +kernel
theorem dX11_out_16 : decode cX11_out 16 = .ok (.iaload, 1) := by decide +kernel
theorem dX11_out_17 : decode cX11_out 17 = .ok (.iload_n 1, 1) := by decide +kernel
theorem dX11_out_18 : decode cX11_out 18 = .ok (.invokestatic 226, 3) := by decide +kernel
theorem dX11_out_21 : decode cX11_out 21 = .ok (.ifCond .ne 6, 3) := by decide +kernel
theorem dX11_out_24 : decode cX11_out 24 = .ok (.ldc 236, 2) := by decide +kernel
theorem dX11_out_26 : decode cX11_out 26 = .ok (.ireturn, 1) := by decide +kernel
theorem dX11_out_27 : decode cX11_out 27 = .ok (.aload_n 0, 1) := by decide +kernel
theorem dX11_out_28 : decode cX11_out 28 = .ok (.invokevirtual 240, 3) := by decide +kernel
theorem dX11_out_31 : decode cX11_out 31 = .ok (.aload_n 0, 1) := by decide +kernel
theorem dX11_out_32 : decode cX11_out 32 = .ok (.getfield 22, 3) := by decide +kernel
theorem dX11_out_35 : decode cX11_out 35 = .ok (.iconst 2, 1) := by decide +kernel
theorem dX11_out_36 : decode cX11_out 36 = .ok (.dup2, 1) := by decide +kernel
theorem dX11_out_37 : decode cX11_out 37 = .ok (.iaload, 1) := by decide +kernel
theorem dX11_out_38 : decode cX11_out 38 = .ok (.iconst 1, 1) := by decide +kernel
theorem dX11_out_39 : decode cX11_out 39 = .ok (.iload_n 1, 1) := by decide +kernel
theorem dX11_out_40 : decode cX11_out 40 = .ok (.ishl, 1) := by decide +kernel
theorem dX11_out_41 : decode cX11_out 41 = .ok (.iconst (-1), 1) := by decide +kernel
theorem dX11_out_42 : decode cX11_out 42 = .ok (.ixor, 1) := by decide +kernel
theorem dX11_out_43 : decode cX11_out 43 = .ok (.iand, 1) := by decide +kernel
theorem dX11_out_44 : decode cX11_out 44 = .ok (.iastore, 1) := by decide +kernel
theorem dX11_out_45 : decode cX11_out 45 = .ok (.aload_n 0, 1) := by decide +kernel
theorem dX11_out_46 : decode cX11_out 46 = .ok (.iload_n 1, 1) := by decide +kernel
theorem dX11_out_47 : decode cX11_out 47 = .ok (.invokevirtual 189, 3) := by decide +kernel
theorem dX11_out_50 : decode cX11_out 50 = .ok (.aload_n 0, 1) := by decide +kernel
theorem dX11_out_51 : decode cX11_out 51 = .ok (.invokevirtual 214, 3) := by decide +kernel
theorem dX11_out_54 : decode cX11_out 54 = .ok (.ireturn, 1) := by decide +kernel
set_option maxRecDepth 100000 in
set_option maxHeartbeats 4000000 in
theorem mX11_out {w : WX} {adr : Nat → Nat → Nat} (hj : Ij adr) (a1 : Int32) (S : St) : ∀ (l : Launch) (r : Int32) (S2 : St), fX11_out a1 S = some (r, S2) → Mi l w adr yX11_out cX11_out 2 (some .int) 2 46 [.ref (adr 35 0), .int a1] S r S2 := by
  refine mi_of (lv := [(0, .ref (adr 35 0)), (1, .int a1)]) hj (plainFor_of_name (by decide +kernel)) rfl (Nat.le_of_ble_eq_true rfl) (fun k C Rr => ?_)
  have C : Cx w adr k cX11_out RX11 2 2 46 := C
  refine ge_aload_n (n := 1) C 0 rfl dX11_out_0 rfl rfl ?_
  refine ge_iload_n (n := 2) C 1 rfl dX11_out_1 rfl rfl ?_
  refine ge_callVi (n := 5) C (mX11_isMan hj a1 S) gv_X11_210 (cl_35 (by decide)) rfl rfl hc_X11_isMan ⟨Nat.le_of_ble_eq_true rfl, Nat.le_of_ble_eq_true rfl⟩ rfl rfl (Nat.le_of_ble_eq_true rfl) dX11_out_2 rfl (fun r_2 S_2 => ?_)
  refine ge_if_ne (t := 11) (n := 8) C dX11_out_5 (by decide) rfl (fun h_5 => ?_) (fun h_5 => ?_)
  · refine ge_aload_n (n := 12) C 0 rfl dX11_out_11 rfl rfl ?_
    refine gt_X11_22 (n := 15) C (by decide) dX11_out_12 rfl ?_
    refine ge_iconst (v := 2) (n := 16) C dX11_out_15 (by decide) rfl ?_
    refine al_40 (n := 17) C (by decide) dX11_out_16 rfl ?_
    refine ge_iload_n (n := 18) C 1 rfl dX11_out_17 rfl rfl ?_
    refine ge_callSi (n := 21) C (mX11_has hj (S_2 40 0 (Int32.toNatClampNeg (2 : Int32))) a1 S_2) gv_X11_226 hc_X11_has ⟨Nat.le_of_ble_eq_true rfl, Nat.le_of_ble_eq_true rfl⟩ rfl rfl (Nat.le_of_ble_eq_true rfl) dX11_out_18 rfl (fun r_18 S_18 => ?_)
    refine ge_if_ne (t := 27) (n := 24) C dX11_out_21 (by decide) rfl (fun h_21 => ?_) (fun h_21 => ?_)
    · refine ge_aload_n (n := 28) C 0 rfl dX11_out_27 rfl rfl ?_
      refine ge_callVv (n := 31) C (mX11_remember hj S_18) gv_X11_240 (cl_35 (by decide)) rfl rfl hc_X11_remember ⟨Nat.le_of_ble_eq_true rfl, Nat.le_of_ble_eq_true rfl⟩ rfl rfl (Nat.le_of_ble_eq_true rfl) dX11_out_28 rfl (fun _ S_28 => ?_)
      refine ge_aload_n (n := 32) C 0 rfl dX11_out_31 rfl rfl ?_
      refine gt_X11_22 (n := 35) C (by decide) dX11_out_32 rfl ?_
      refine ge_iconst (v := 2) (n := 36) C dX11_out_35 (by decide) rfl ?_
      refine ge_dup2 (n := 37) C dX11_out_36 rfl rfl rfl ?_
      refine al_40 (n := 38) C (by decide) dX11_out_37 rfl ?_
      refine ge_iconst (v := 1) (n := 39) C dX11_out_38 (by decide) rfl ?_
      refine ge_iload_n (n := 40) C 1 rfl dX11_out_39 rfl rfl ?_
      refine ge_ishl (n := 41) C dX11_out_40 rfl ?_
      refine ge_iconst (v := -1) (n := 42) C dX11_out_41 (by decide) rfl ?_
      refine ge_ixor (n := 43) C dX11_out_42 rfl ?_
      refine ge_iand (n := 44) C dX11_out_43 rfl ?_
      refine as_40 (n := 45) C (by decide) dX11_out_44 rfl (fun S_44 => ?_)
      refine ge_aload_n (n := 46) C 0 rfl dX11_out_45 rfl rfl ?_
      refine ge_iload_n (n := 47) C 1 rfl dX11_out_46 rfl rfl ?_
      refine ge_callVv (n := 50) C (mX11_takesSkin hj a1 S_44) gv_X11_189 (cl_35 (by decide)) rfl rfl hc_X11_takesSkin ⟨Nat.le_of_ble_eq_true rfl, Nat.le_of_ble_eq_true rfl⟩ rfl rfl (Nat.le_of_ble_eq_true rfl) dX11_out_47 rfl (fun _ S_47 => ?_)
      refine ge_aload_n (n := 51) C 0 rfl dX11_out_50 rfl rfl ?_
      refine ge_callVi (n := 54) C (mX11_borneNow hj S_47) gv_X11_214 (cl_35 (by decide)) rfl rfl hc_X11_borneNow ⟨Nat.le_of_ble_eq_true rfl, Nat.le_of_ble_eq_true rfl⟩ rfl rfl (Nat.le_of_ble_eq_true rfl) dX11_out_51 rfl (fun r_51 S_51 => ?_)
      exact ge_iret C Rr dX11_out_54
    · refine ge_ldc (n := 26) C kc_X11_236 dX11_out_24 rfl ?_
      exact ge_iret C Rr dX11_out_26
  · refine ge_ldc (n := 10) C kc_X11_213 dX11_out_8 rfl ?_
    exact ge_iret C Rr dX11_out_10
theorem dX11_scrapes_0 : decode cX11_scrapes 0 = .ok (.aload_n 0, 1) := by decide +kernel
theorem dX11_scrapes_1 : decode cX11_scrapes 1 = .ok (.getfield 22, 3) := by decide +kernel
theorem dX11_scrapes_4 : decode cX11_scrapes 4 = .ok (.iconst 4, 1) := by decide +kernel
theorem dX11_scrapes_5 : decode cX11_scrapes 5 = .ok (.iconst 5, 1) := by decide +kernel
theorem dX11_scrapes_6 : decode cX11_scrapes 6 = .ok (.iload_n 1, 1) := by decide +kernel
theorem dX11_scrapes_7 : decode cX11_scrapes 7 = .ok (.imul, 1) := by decide +kernel
theorem dX11_scrapes_8 : decode cX11_scrapes 8 = .ok (.iadd, 1) := by decide +kernel
theorem dX11_scrapes_9 : decode cX11_scrapes 9 = .ok (.iload_n 2, 1) := by decide +kernel
theorem dX11_scrapes_10 : decode cX11_scrapes 10 = .ok (.iadd, 1) := by decide +kernel
theorem dX11_scrapes_11 : decode cX11_scrapes 11 = .ok (.dup2, 1) := by decide +kernel
theorem dX11_scrapes_12 : decode cX11_scrapes 12 = .ok (.iaload, 1) := by decide +kernel
theorem dX11_scrapes_13 : decode cX11_scrapes 13 = .ok (.iload_n 3, 1) := by decide +kernel
theorem dX11_scrapes_14 : decode cX11_scrapes 14 = .ok (.isub, 1) := by decide +kernel
theorem dX11_scrapes_15 : decode cX11_scrapes 15 = .ok (.iastore, 1) := by decide +kernel
theorem dX11_scrapes_16 : decode cX11_scrapes 16 = .ok (.aload_n 0, 1) := by decide +kernel
theorem dX11_scrapes_17 : decode cX11_scrapes 17 = .ok (.getfield 22, 3) := by decide +kernel
theorem dX11_scrapes_20 : decode cX11_scrapes 20 = .ok (.iconst 3, 1) := by decide +kernel
theorem dX11_scrapes_21 : decode cX11_scrapes 21 = .ok (.aload_n 0, 1) := by decide +kernel
theorem dX11_scrapes_22 : decode cX11_scrapes 22 = .ok (.getfield 22, 3) := by decide +kernel
theorem dX11_scrapes_25 : decode cX11_scrapes 25 = .ok (.iconst 3, 1) := by decide +kernel
theorem dX11_scrapes_26 : decode cX11_scrapes 26 = .ok (.iaload, 1) := by decide +kernel
theorem dX11_scrapes_27 : decode cX11_scrapes 27 = .ok (.iload_n 3, 1) := by decide +kernel
theorem dX11_scrapes_28 : decode cX11_scrapes 28 = .ok (.iadd, 1) := by decide +kernel
theorem dX11_scrapes_29 : decode cX11_scrapes 29 = .ok (.ldc 252, 2) := by decide +kernel
theorem dX11_scrapes_31 : decode cX11_scrapes 31 = .ok (.if_icmp .le 8, 3) := by decide +kernel
theorem dX11_scrapes_34 : decode cX11_scrapes 34 = .ok (.ldc 252, 2) := by decide +kernel
theorem dX11_scrapes_36 : decode cX11_scrapes 36 = .ok (.goto 11, 3) := by decide +kernel
theorem dX11_scrapes_39 : decode cX11_scrapes 39 = .ok (.aload_n 0, 1) := by decide +kernel
theorem dX11_scrapes_40 : decode cX11_scrapes 40 = .ok (.getfield 22, 3) := by decide +kernel
theorem dX11_scrapes_43 : decode cX11_scrapes 43 = .ok (.iconst 3, 1) := by decide +kernel
theorem dX11_scrapes_44 : decode cX11_scrapes 44 = .ok (.iaload, 1) := by decide +kernel
theorem dX11_scrapes_45 : decode cX11_scrapes 45 = .ok (.iload_n 3, 1) := by decide +kernel
theorem dX11_scrapes_46 : decode cX11_scrapes 46 = .ok (.iadd, 1) := by decide +kernel
theorem dX11_scrapes_47 : decode cX11_scrapes 47 = .ok (.iastore, 1) := by decide +kernel
theorem dX11_scrapes_48 : decode cX11_scrapes 48 = .ok (.return_, 1) := by decide +kernel
set_option maxRecDepth 100000 in
set_option maxHeartbeats 4000000 in
theorem mX11_scrapes {w : WX} {adr : Nat → Nat → Nat} (hj : Ij adr) (a1 : Int32) (a2 : Int32) (a3 : Int32) (S : St) : ∀ (l : Launch) (r : Int32) (S2 : St), fX11_scrapes a1 a2 a3 S = some (r, S2) → Mv l w adr yX11_scrapes cX11_scrapes 4 none 0 0 [.ref (adr 35 0), .int a1, .int a2, .int a3] S S2 := by
  refine mv_of (lv := [(0, .ref (adr 35 0)), (1, .int a1), (2, .int a2), (3, .int a3)]) hj (plainFor_of_name (by decide +kernel)) rfl (Nat.le_of_ble_eq_true rfl) (fun k C Rr => ?_)
  have C : Cx w adr k cX11_scrapes RX11 4 0 0 := C
  refine ge_aload_n (n := 1) C 0 rfl dX11_scrapes_0 rfl rfl ?_
  refine gt_X11_22 (n := 4) C (by decide) dX11_scrapes_1 rfl ?_
  refine ge_iconst (v := 4) (n := 5) C dX11_scrapes_4 (by decide) rfl ?_
  refine ge_iconst (v := 5) (n := 6) C dX11_scrapes_5 (by decide) rfl ?_
  refine ge_iload_n (n := 7) C 1 rfl dX11_scrapes_6 rfl rfl ?_
  refine ge_imul (n := 8) C dX11_scrapes_7 rfl ?_
  refine ge_iadd (n := 9) C dX11_scrapes_8 rfl ?_
  refine ge_iload_n (n := 10) C 2 rfl dX11_scrapes_9 rfl rfl ?_
  refine ge_iadd (n := 11) C dX11_scrapes_10 rfl ?_
  refine ge_dup2 (n := 12) C dX11_scrapes_11 rfl rfl rfl ?_
  refine al_40 (n := 13) C (by decide) dX11_scrapes_12 rfl ?_
  refine ge_iload_n (n := 14) C 3 rfl dX11_scrapes_13 rfl rfl ?_
  refine ge_isub (n := 15) C dX11_scrapes_14 rfl ?_
  refine as_40 (n := 16) C (by decide) dX11_scrapes_15 rfl (fun S_15 => ?_)
  refine ge_aload_n (n := 17) C 0 rfl dX11_scrapes_16 rfl rfl ?_
  refine gt_X11_22 (n := 20) C (by decide) dX11_scrapes_17 rfl ?_
  refine ge_iconst (v := 3) (n := 21) C dX11_scrapes_20 (by decide) rfl ?_
  refine ge_aload_n (n := 22) C 0 rfl dX11_scrapes_21 rfl rfl ?_
  refine gt_X11_22 (n := 25) C (by decide) dX11_scrapes_22 rfl ?_
  refine ge_iconst (v := 3) (n := 26) C dX11_scrapes_25 (by decide) rfl ?_
  refine al_40 (n := 27) C (by decide) dX11_scrapes_26 rfl ?_
  refine ge_iload_n (n := 28) C 3 rfl dX11_scrapes_27 rfl rfl ?_
  refine ge_iadd (n := 29) C dX11_scrapes_28 rfl ?_
  refine ge_ldc (n := 31) C kc_X11_252 dX11_scrapes_29 rfl ?_
  refine ge_jn (fun (jj : Int32 → Op) => ∀ (v0_47 : Int32), Ge w adr k 47 [] [.int v0_47, .int (3 : Int32), .ref (adr 40 0)] S_15 (jj v0_47)) (fun v0_47 => ?_) (fun j47 hj47 => ?_)
  · refine as_40 (n := 48) C (by decide) dX11_scrapes_47 rfl (fun S_47 => ?_)
    exact ge_vret C Rr dX11_scrapes_48
  refine ge_icmp_le (t := 39) (n := 34) C dX11_scrapes_31 (by decide) rfl (fun h_31 => ?_) (fun h_31 => ?_)
  · refine ge_aload_n (n := 40) C 0 rfl dX11_scrapes_39 rfl rfl ?_
    refine gt_X11_22 (n := 43) C (by decide) dX11_scrapes_40 rfl ?_
    refine ge_iconst (v := 3) (n := 44) C dX11_scrapes_43 (by decide) rfl ?_
    refine al_40 (n := 45) C (by decide) dX11_scrapes_44 rfl ?_
    refine ge_iload_n (n := 46) C 3 rfl dX11_scrapes_45 rfl rfl ?_
    refine ge_iadd (n := 47) C dX11_scrapes_46 rfl ?_
    refine ge_sub [] rfl ?_
    exact hj47 ((S_15 40 0 (Int32.toNatClampNeg (3 : Int32))) + a3)
  · refine ge_ldc (n := 36) C kc_X11_252 dX11_scrapes_34 rfl ?_
    refine ge_goto (n := 47) C dX11_scrapes_36 (by decide) ?_
    refine ge_sub [] rfl ?_
    exact hj47 (999999 : Int32)
theorem dX11_scrape_0 : decode cX11_scrape 0 = .ok (.aload_n 0, 1) := by decide +kernel
theorem dX11_scrape_1 : decode cX11_scrape 1 = .ok (.iload_n 1, 1) := by decide +kernel
theorem dX11_scrape_2 : decode cX11_scrape 2 = .ok (.invokevirtual 210, 3) := by decide +kernel
theorem dX11_scrape_5 : decode cX11_scrape 5 = .ok (.ifCond .ne 6, 3) := by decide +kernel
theorem dX11_scrape_8 : decode cX11_scrape 8 = .ok (.ldc 213, 2) := by decide +kernel
theorem dX11_scrape_10 : decode cX11_scrape 10 = .ok (.ireturn, 1) := by decide +kernel
theorem dX11_scrape_11 : decode cX11_scrape 11 = .ok (.iload_n 2, 1) := by decide +kernel
theorem dX11_scrape_12 : decode cX11_scrape 12 = .ok (.invokestatic 220, 3) := by decide +kernel
theorem dX11_scrape_15 : decode cX11_scrape 15 = .ok (.ifCond .eq 15, 3) := by decide +kernel
theorem dX11_scrape_18 : decode cX11_scrape 18 = .ok (.iload_n 3, 1) := by decide +kernel
theorem dX11_scrape_19 : decode cX11_scrape 19 = .ok (.i2l, 1) := by decide +kernel
theorem dX11_scrape_20 : decode cX11_scrape 20 = .ok (.lconst 1, 1) := by decide +kernel
theorem dX11_scrape_21 : decode cX11_scrape 21 = .ok (.ldc2_w 253, 3) := by decide +kernel
theorem dX11_scrape_24 : decode cX11_scrape 24 = .ok (.invokestatic 96, 3) := by decide +kernel
theorem dX11_scrape_27 : decode cX11_scrape 27 = .ok (.ifCond .ne 6, 3) := by decide +kernel
theorem dX11_scrape_30 : decode cX11_scrape 30 = .ok (.ldc 107, 2) := by decide +kernel
theorem dX11_scrape_32 : decode cX11_scrape 32 = .ok (.ireturn, 1) := by decide +kernel
theorem dX11_scrape_33 : decode cX11_scrape 33 = .ok (.aload_n 0, 1) := by decide +kernel
theorem dX11_scrape_34 : decode cX11_scrape 34 = .ok (.getfield 22, 3) := by decide +kernel
theorem dX11_scrape_37 : decode cX11_scrape 37 = .ok (.iconst 4, 1) := by decide +kernel
theorem dX11_scrape_38 : decode cX11_scrape 38 = .ok (.iconst 5, 1) := by decide +kernel
theorem dX11_scrape_39 : decode cX11_scrape 39 = .ok (.iload_n 1, 1) := by decide +kernel
theorem dX11_scrape_40 : decode cX11_scrape 40 = .ok (.imul, 1) := by decide +kernel
theorem dX11_scrape_41 : decode cX11_scrape 41 = .ok (.iadd, 1) := by decide +kernel
theorem dX11_scrape_42 : decode cX11_scrape 42 = .ok (.iload_n 2, 1) := by decide +kernel
theorem dX11_scrape_43 : decode cX11_scrape 43 = .ok (.iadd, 1) := by decide +kernel
theorem dX11_scrape_44 : decode cX11_scrape 44 = .ok (.iaload, 1) := by decide +kernel
theorem dX11_scrape_45 : decode cX11_scrape 45 = .ok (.iload_n 3, 1) := by decide +kernel
theorem dX11_scrape_46 : decode cX11_scrape 46 = .ok (.if_icmp .ge 6, 3) := by decide +kernel
theorem dX11_scrape_49 : decode cX11_scrape 49 = .ok (.ldc 236, 2) := by decide +kernel
theorem dX11_scrape_51 : decode cX11_scrape 51 = .ok (.ireturn, 1) := by decide +kernel
theorem dX11_scrape_52 : decode cX11_scrape 52 = .ok (.aload_n 0, 1) := by decide +kernel
theorem dX11_scrape_53 : decode cX11_scrape 53 = .ok (.invokevirtual 240, 3) := by decide +kernel
theorem dX11_scrape_56 : decode cX11_scrape 56 = .ok (.aload_n 0, 1) := by decide +kernel
theorem dX11_scrape_57 : decode cX11_scrape 57 = .ok (.iload_n 1, 1) := by decide +kernel
theorem dX11_scrape_58 : decode cX11_scrape 58 = .ok (.iload_n 2, 1) := by decide +kernel
theorem dX11_scrape_59 : decode cX11_scrape 59 = .ok (.iload_n 3, 1) := by decide +kernel
theorem dX11_scrape_60 : decode cX11_scrape 60 = .ok (.invokevirtual 255, 3) := by decide +kernel
theorem dX11_scrape_63 : decode cX11_scrape 63 = .ok (.aload_n 0, 1) := by decide +kernel
theorem dX11_scrape_64 : decode cX11_scrape 64 = .ok (.getfield 22, 3) := by decide +kernel
theorem dX11_scrape_67 : decode cX11_scrape 67 = .ok (.iconst 4, 1) := by decide +kernel
theorem dX11_scrape_68 : decode cX11_scrape 68 = .ok (.iconst 5, 1) := by decide +kernel
theorem dX11_scrape_69 : decode cX11_scrape 69 = .ok (.iload_n 1, 1) := by decide +kernel
theorem dX11_scrape_70 : decode cX11_scrape 70 = .ok (.imul, 1) := by decide +kernel
theorem dX11_scrape_71 : decode cX11_scrape 71 = .ok (.iadd, 1) := by decide +kernel
theorem dX11_scrape_72 : decode cX11_scrape 72 = .ok (.iload_n 2, 1) := by decide +kernel
theorem dX11_scrape_73 : decode cX11_scrape 73 = .ok (.iadd, 1) := by decide +kernel
theorem dX11_scrape_74 : decode cX11_scrape 74 = .ok (.iaload, 1) := by decide +kernel
theorem dX11_scrape_75 : decode cX11_scrape 75 = .ok (.ireturn, 1) := by decide +kernel
set_option maxRecDepth 100000 in
set_option maxHeartbeats 4000000 in
theorem mX11_scrape {w : WX} {adr : Nat → Nat → Nat} (hj : Ij adr) (a1 : Int32) (a2 : Int32) (a3 : Int32) (S : St) : ∀ (l : Launch) (r : Int32) (S2 : St), fX11_scrape a1 a2 a3 S = some (r, S2) → Mi l w adr yX11_scrape cX11_scrape 4 (some .int) 2 46 [.ref (adr 35 0), .int a1, .int a2, .int a3] S r S2 := by
  refine mi_of (lv := [(0, .ref (adr 35 0)), (1, .int a1), (2, .int a2), (3, .int a3)]) hj (plainFor_of_name (by decide +kernel)) rfl (Nat.le_of_ble_eq_true rfl) (fun k C Rr => ?_)
  have C : Cx w adr k cX11_scrape RX11 4 2 46 := C
  refine ge_aload_n (n := 1) C 0 rfl dX11_scrape_0 rfl rfl ?_
  refine ge_iload_n (n := 2) C 1 rfl dX11_scrape_1 rfl rfl ?_
  refine ge_callVi (n := 5) C (mX11_isMan hj a1 S) gv_X11_210 (cl_35 (by decide)) rfl rfl hc_X11_isMan ⟨Nat.le_of_ble_eq_true rfl, Nat.le_of_ble_eq_true rfl⟩ rfl rfl (Nat.le_of_ble_eq_true rfl) dX11_scrape_2 rfl (fun r_2 S_2 => ?_)
  refine ge_if_ne (t := 11) (n := 8) C dX11_scrape_5 (by decide) rfl (fun h_5 => ?_) (fun h_5 => ?_)
  · refine ge_iload_n (n := 12) C 2 rfl dX11_scrape_11 rfl rfl ?_
    refine ge_callSi (n := 15) C (mX11_isPlace hj a2 S_2) gv_X11_220 hc_X11_isPlace ⟨Nat.le_of_ble_eq_true rfl, Nat.le_of_ble_eq_true rfl⟩ rfl rfl (Nat.le_of_ble_eq_true rfl) dX11_scrape_12 rfl (fun r_12 S_12 => ?_)
    refine ge_if_eq (t := 30) (n := 18) C dX11_scrape_15 (by decide) rfl (fun h_15 => ?_) (fun h_15 => ?_)
    · refine ge_ldc (n := 32) C kc_X11_107 dX11_scrape_30 rfl ?_
      exact ge_iret C Rr dX11_scrape_32
    · refine ge_iload_n (n := 19) C 3 rfl dX11_scrape_18 rfl rfl ?_
      refine ge_i2l (n := 20) C dX11_scrape_19 rfl ?_
      refine ge_lconst (v := 1) (n := 21) C dX11_scrape_20 (by decide) rfl ?_
      refine ge_ldc2 (n := 24) C kl_X11_253 dX11_scrape_21 rfl ?_
      refine ge_callSi (n := 27) C (mX11_within hj (Int32.toInt64 a3) (1 : Int64) (30 : Int64) S_12) gv_X11_96 hc_X11_within ⟨Nat.le_of_ble_eq_true rfl, Nat.le_of_ble_eq_true rfl⟩ rfl rfl (Nat.le_of_ble_eq_true rfl) dX11_scrape_24 rfl (fun r_24 S_24 => ?_)
      refine ge_if_ne (t := 33) (n := 30) C dX11_scrape_27 (by decide) rfl (fun h_27 => ?_) (fun h_27 => ?_)
      · refine ge_aload_n (n := 34) C 0 rfl dX11_scrape_33 rfl rfl ?_
        refine gt_X11_22 (n := 37) C (by decide) dX11_scrape_34 rfl ?_
        refine ge_iconst (v := 4) (n := 38) C dX11_scrape_37 (by decide) rfl ?_
        refine ge_iconst (v := 5) (n := 39) C dX11_scrape_38 (by decide) rfl ?_
        refine ge_iload_n (n := 40) C 1 rfl dX11_scrape_39 rfl rfl ?_
        refine ge_imul (n := 41) C dX11_scrape_40 rfl ?_
        refine ge_iadd (n := 42) C dX11_scrape_41 rfl ?_
        refine ge_iload_n (n := 43) C 2 rfl dX11_scrape_42 rfl rfl ?_
        refine ge_iadd (n := 44) C dX11_scrape_43 rfl ?_
        refine al_40 (n := 45) C (by decide) dX11_scrape_44 rfl ?_
        refine ge_iload_n (n := 46) C 3 rfl dX11_scrape_45 rfl rfl ?_
        refine ge_icmp_ge (t := 52) (n := 49) C dX11_scrape_46 (by decide) rfl (fun h_46 => ?_) (fun h_46 => ?_)
        · refine ge_aload_n (n := 53) C 0 rfl dX11_scrape_52 rfl rfl ?_
          refine ge_callVv (n := 56) C (mX11_remember hj S_24) gv_X11_240 (cl_35 (by decide)) rfl rfl hc_X11_remember ⟨Nat.le_of_ble_eq_true rfl, Nat.le_of_ble_eq_true rfl⟩ rfl rfl (Nat.le_of_ble_eq_true rfl) dX11_scrape_53 rfl (fun _ S_53 => ?_)
          refine ge_aload_n (n := 57) C 0 rfl dX11_scrape_56 rfl rfl ?_
          refine ge_iload_n (n := 58) C 1 rfl dX11_scrape_57 rfl rfl ?_
          refine ge_iload_n (n := 59) C 2 rfl dX11_scrape_58 rfl rfl ?_
          refine ge_iload_n (n := 60) C 3 rfl dX11_scrape_59 rfl rfl ?_
          refine ge_callVv (n := 63) C (mX11_scrapes hj a1 a2 a3 S_53) gv_X11_255 (cl_35 (by decide)) rfl rfl hc_X11_scrapes ⟨Nat.le_of_ble_eq_true rfl, Nat.le_of_ble_eq_true rfl⟩ rfl rfl (Nat.le_of_ble_eq_true rfl) dX11_scrape_60 rfl (fun _ S_60 => ?_)
          refine ge_aload_n (n := 64) C 0 rfl dX11_scrape_63 rfl rfl ?_
          refine gt_X11_22 (n := 67) C (by decide) dX11_scrape_64 rfl ?_
          refine ge_iconst (v := 4) (n := 68) C dX11_scrape_67 (by decide) rfl ?_
          refine ge_iconst (v := 5) (n := 69) C dX11_scrape_68 (by decide) rfl ?_
          refine ge_iload_n (n := 70) C 1 rfl dX11_scrape_69 rfl rfl ?_
          refine ge_imul (n := 71) C dX11_scrape_70 rfl ?_
          refine ge_iadd (n := 72) C dX11_scrape_71 rfl ?_
          refine ge_iload_n (n := 73) C 2 rfl dX11_scrape_72 rfl rfl ?_
          refine ge_iadd (n := 74) C dX11_scrape_73 rfl ?_
          refine al_40 (n := 75) C (by decide) dX11_scrape_74 rfl ?_
          exact ge_iret C Rr dX11_scrape_75
        · refine ge_ldc (n := 51) C kc_X11_236 dX11_scrape_49 rfl ?_
          exact ge_iret C Rr dX11_scrape_51
      · refine ge_ldc (n := 32) C kc_X11_107 dX11_scrape_30 rfl ?_
        exact ge_iret C Rr dX11_scrape_32
  · refine ge_ldc (n := 10) C kc_X11_213 dX11_scrape_8 rfl ?_
    exact ge_iret C Rr dX11_scrape_10
theorem dX11_wounds_0 : decode cX11_wounds 0 = .ok (.aload_n 0, 1) := by decide +kernel
theorem dX11_wounds_1 : decode cX11_wounds 1 = .ok (.getfield 22, 3) := by decide +kernel
theorem dX11_wounds_4 : decode cX11_wounds 4 = .ok (.bipush 64, 2) := by decide +kernel
theorem dX11_wounds_6 : decode cX11_wounds 6 = .ok (.iload_n 2, 1) := by decide +kernel
theorem dX11_wounds_7 : decode cX11_wounds 7 = .ok (.iadd, 1) := by decide +kernel
theorem dX11_wounds_8 : decode cX11_wounds 8 = .ok (.iaload, 1) := by decide +kernel
theorem dX11_wounds_9 : decode cX11_wounds 9 = .ok (.aload_n 0, 1) := by decide +kernel
theorem dX11_wounds_10 : decode cX11_wounds 10 = .ok (.iload_n 2, 1) := by decide +kernel
theorem dX11_wounds_11 : decode cX11_wounds 11 = .ok (.iload_n 1, 1) := by decide +kernel
theorem dX11_wounds_12 : decode cX11_wounds 12 = .ok (.invokevirtual 194, 3) := by decide +kernel
theorem dX11_wounds_15 : decode cX11_wounds 15 = .ok (.iadd, 1) := by decide +kernel
theorem dX11_wounds_16 : decode cX11_wounds 16 = .ok (.istore_n 3, 1) := by decide +kernel
theorem dX11_wounds_17 : decode cX11_wounds 17 = .ok (.aload_n 0, 1) := by decide +kernel
theorem dX11_wounds_18 : decode cX11_wounds 18 = .ok (.getfield 22, 3) := by decide +kernel
theorem dX11_wounds_21 : decode cX11_wounds 21 = .ok (.bipush 64, 2) := by decide +kernel
theorem dX11_wounds_23 : decode cX11_wounds 23 = .ok (.iload_n 2, 1) := by decide +kernel
theorem dX11_wounds_24 : decode cX11_wounds 24 = .ok (.iadd, 1) := by decide +kernel
theorem dX11_wounds_25 : decode cX11_wounds 25 = .ok (.iload_n 3, 1) := by decide +kernel
theorem dX11_wounds_26 : decode cX11_wounds 26 = .ok (.ldc_w 258, 3) := by decide +kernel
theorem dX11_wounds_29 : decode cX11_wounds 29 = .ok (.if_icmp .le 9, 3) := by decide +kernel
theorem dX11_wounds_32 : decode cX11_wounds 32 = .ok (.ldc_w 258, 3) := by decide +kernel
theorem dX11_wounds_35 : decode cX11_wounds 35 = .ok (.goto 4, 3) := by decide +kernel
theorem dX11_wounds_38 : decode cX11_wounds 38 = .ok (.iload_n 3, 1) := by decide +kernel
theorem dX11_wounds_39 : decode cX11_wounds 39 = .ok (.iastore, 1) := by decide +kernel
theorem dX11_wounds_40 : decode cX11_wounds 40 = .ok (.return_, 1) := by decide +kernel
set_option maxRecDepth 100000 in
set_option maxHeartbeats 4000000 in
theorem mX11_wounds {w : WX} {adr : Nat → Nat → Nat} (hj : Ij adr) (a1 : Int32) (a2 : Int32) (S : St) : ∀ (l : Launch) (r : Int32) (S2 : St), fX11_wounds a1 a2 S = some (r, S2) → Mv l w adr yX11_wounds cX11_wounds 4 none 2 44 [.ref (adr 35 0), .int a1, .int a2] S S2 := by
  refine mv_of (lv := [(0, .ref (adr 35 0)), (1, .int a1), (2, .int a2)]) hj (plainFor_of_name (by decide +kernel)) rfl (Nat.le_of_ble_eq_true rfl) (fun k C Rr => ?_)
  have C : Cx w adr k cX11_wounds RX11 4 2 44 := C
  refine ge_aload_n (n := 1) C 0 rfl dX11_wounds_0 rfl rfl ?_
  refine gt_X11_22 (n := 4) C (by decide) dX11_wounds_1 rfl ?_
  refine ge_bipush (v := 64) (n := 6) C dX11_wounds_4 (by decide) rfl ?_
  refine ge_iload_n (n := 7) C 2 rfl dX11_wounds_6 rfl rfl ?_
  refine ge_iadd (n := 8) C dX11_wounds_7 rfl ?_
  refine al_40 (n := 9) C (by decide) dX11_wounds_8 rfl ?_
  refine ge_aload_n (n := 10) C 0 rfl dX11_wounds_9 rfl rfl ?_
  refine ge_iload_n (n := 11) C 2 rfl dX11_wounds_10 rfl rfl ?_
  refine ge_iload_n (n := 12) C 1 rfl dX11_wounds_11 rfl rfl ?_
  refine ge_callVi (n := 15) C (mX11_hurtOf hj a2 a1 S) gv_X11_194 (cl_35 (by decide)) rfl rfl hc_X11_hurtOf ⟨Nat.le_of_ble_eq_true rfl, Nat.le_of_ble_eq_true rfl⟩ rfl rfl (Nat.le_of_ble_eq_true rfl) dX11_wounds_12 rfl (fun r_12 S_12 => ?_)
  refine ge_iadd (n := 16) C dX11_wounds_15 rfl ?_
  refine ge_bi (fun x3_16 => ?_)
  refine ge_istore_n (n := 17) (lv2 := [(3, .int x3_16), (0, .ref (adr 35 0)), (1, .int a1), (2, .int a2)]) C dX11_wounds_16 rfl rfl (by decide) rfl ?_
  refine ge_aload_n (n := 18) C 1 rfl dX11_wounds_17 rfl rfl ?_
  refine gt_X11_22 (n := 21) C (by decide) dX11_wounds_18 rfl ?_
  refine ge_bipush (v := 64) (n := 23) C dX11_wounds_21 (by decide) rfl ?_
  refine ge_iload_n (n := 24) C 3 rfl dX11_wounds_23 rfl rfl ?_
  refine ge_iadd (n := 25) C dX11_wounds_24 rfl ?_
  refine ge_iload_n (n := 26) C 0 rfl dX11_wounds_25 rfl rfl ?_
  refine ge_ldcw (n := 29) C kc_X11_258 dX11_wounds_26 rfl ?_
  refine ge_jn (fun (jj : Int32 → Op) => ∀ (v0_39 : Int32), Ge w adr k 39 [] [.int v0_39, .int ((64 : Int32) + a2), .ref (adr 40 0)] S_12 (jj v0_39)) (fun v0_39 => ?_) (fun j39 hj39 => ?_)
  · refine as_40 (n := 40) C (by decide) dX11_wounds_39 rfl (fun S_39 => ?_)
    exact ge_vret C Rr dX11_wounds_40
  refine ge_icmp_le (t := 38) (n := 32) C dX11_wounds_29 (by decide) rfl (fun h_29 => ?_) (fun h_29 => ?_)
  · refine ge_iload_n (n := 39) C 0 rfl dX11_wounds_38 rfl rfl ?_
    refine ge_sub [] rfl ?_
    exact hj39 x3_16
  · refine ge_ldcw (n := 35) C kc_X11_258 dX11_wounds_32 rfl ?_
    refine ge_goto (n := 39) C dX11_wounds_35 (by decide) ?_
    refine ge_sub [] rfl ?_
    exact hj39 (99999 : Int32)
theorem dX11_say_0 : decode cX11_say 0 = .ok (.aload_n 0, 1) := by decide +kernel
theorem dX11_say_1 : decode cX11_say 1 = .ok (.iload_n 1, 1) := by decide +kernel
theorem dX11_say_2 : decode cX11_say 2 = .ok (.invokevirtual 223, 3) := by decide +kernel
theorem dX11_say_5 : decode cX11_say 5 = .ok (.ifCond .eq 11, 3) := by decide +kernel
theorem dX11_say_8 : decode cX11_say 8 = .ok (.aload_n 0, 1) := by decide +kernel
theorem dX11_say_9 : decode cX11_say 9 = .ok (.iload_n 2, 1) := by decide +kernel
theorem dX11_say_10 : decode cX11_say 10 = .ok (.invokevirtual 210, 3) := by decide +kernel
theorem dX11_say_13 : decode cX11_say 13 = .ok (.ifCond .ne 6, 3) := by decide +kernel
theorem dX11_say_16 : decode cX11_say 16 = .ok (.ldc 213, 2) := by decide +kernel
theorem dX11_say_18 : decode cX11_say 18 = .ok (.ireturn, 1) := by decide +kernel
theorem dX11_say_19 : decode cX11_say 19 = .ok (.aload_n 0, 1) := by decide +kernel
theorem dX11_say_20 : decode cX11_say 20 = .ok (.invokevirtual 240, 3) := by decide +kernel
theorem dX11_say_23 : decode cX11_say 23 = .ok (.aload_n 0, 1) := by decide +kernel
theorem dX11_say_24 : decode cX11_say 24 = .ok (.iload_n 1, 1) := by decide +kernel
theorem dX11_say_25 : decode cX11_say 25 = .ok (.iload_n 2, 1) := by decide +kernel
theorem dX11_say_26 : decode cX11_say 26 = .ok (.invokevirtual 259, 3) := by decide +kernel
theorem dX11_say_29 : decode cX11_say 29 = .ok (.aload_n 0, 1) := by decide +kernel
theorem dX11_say_30 : decode cX11_say 30 = .ok (.getfield 22, 3) := by decide +kernel
theorem dX11_say_33 : decode cX11_say 33 = .ok (.bipush 64, 2) := by decide +kernel
theorem dX11_say_35 : decode cX11_say 35 = .ok (.iload_n 2, 1) := by decide +kernel
theorem dX11_say_36 : decode cX11_say 36 = .ok (.iadd, 1) := by decide +kernel
theorem dX11_say_37 : decode cX11_say 37 = .ok (.iaload, 1) := by decide +kernel
theorem dX11_say_38 : decode cX11_say 38 = .ok (.ireturn, 1) := by decide +kernel
set_option maxRecDepth 100000 in
set_option maxHeartbeats 4000000 in
theorem mX11_say {w : WX} {adr : Nat → Nat → Nat} (hj : Ij adr) (a1 : Int32) (a2 : Int32) (S : St) : ∀ (l : Launch) (r : Int32) (S2 : St), fX11_say a1 a2 S = some (r, S2) → Mi l w adr yX11_say cX11_say 3 (some .int) 3 67 [.ref (adr 35 0), .int a1, .int a2] S r S2 := by
  refine mi_of (lv := [(0, .ref (adr 35 0)), (1, .int a1), (2, .int a2)]) hj (plainFor_of_name (by decide +kernel)) rfl (Nat.le_of_ble_eq_true rfl) (fun k C Rr => ?_)
  have C : Cx w adr k cX11_say RX11 3 3 67 := C
  refine ge_aload_n (n := 1) C 0 rfl dX11_say_0 rfl rfl ?_
  refine ge_iload_n (n := 2) C 1 rfl dX11_say_1 rfl rfl ?_
  refine ge_callVi (n := 5) C (mX11_isSaying hj a1 S) gv_X11_223 (cl_35 (by decide)) rfl rfl hc_X11_isSaying ⟨Nat.le_of_ble_eq_true rfl, Nat.le_of_ble_eq_true rfl⟩ rfl rfl (Nat.le_of_ble_eq_true rfl) dX11_say_2 rfl (fun r_2 S_2 => ?_)
  refine ge_if_eq (t := 16) (n := 8) C dX11_say_5 (by decide) rfl (fun h_5 => ?_) (fun h_5 => ?_)
  · refine ge_ldc (n := 18) C kc_X11_213 dX11_say_16 rfl ?_
    exact ge_iret C Rr dX11_say_18
  · refine ge_aload_n (n := 9) C 0 rfl dX11_say_8 rfl rfl ?_
    refine ge_iload_n (n := 10) C 2 rfl dX11_say_9 rfl rfl ?_
    refine ge_callVi (n := 13) C (mX11_isMan hj a2 S_2) gv_X11_210 (cl_35 (by decide)) rfl rfl hc_X11_isMan ⟨Nat.le_of_ble_eq_true rfl, Nat.le_of_ble_eq_true rfl⟩ rfl rfl (Nat.le_of_ble_eq_true rfl) dX11_say_10 rfl (fun r_10 S_10 => ?_)
    refine ge_if_ne (t := 19) (n := 16) C dX11_say_13 (by decide) rfl (fun h_13 => ?_) (fun h_13 => ?_)
    · refine ge_aload_n (n := 20) C 0 rfl dX11_say_19 rfl rfl ?_
      refine ge_callVv (n := 23) C (mX11_remember hj S_10) gv_X11_240 (cl_35 (by decide)) rfl rfl hc_X11_remember ⟨Nat.le_of_ble_eq_true rfl, Nat.le_of_ble_eq_true rfl⟩ rfl rfl (Nat.le_of_ble_eq_true rfl) dX11_say_20 rfl (fun _ S_20 => ?_)
      refine ge_aload_n (n := 24) C 0 rfl dX11_say_23 rfl rfl ?_
      refine ge_iload_n (n := 25) C 1 rfl dX11_say_24 rfl rfl ?_
      refine ge_iload_n (n := 26) C 2 rfl dX11_say_25 rfl rfl ?_
      refine ge_callVv (n := 29) C (mX11_wounds hj a1 a2 S_20) gv_X11_259 (cl_35 (by decide)) rfl rfl hc_X11_wounds ⟨Nat.le_of_ble_eq_true rfl, Nat.le_of_ble_eq_true rfl⟩ rfl rfl (Nat.le_of_ble_eq_true rfl) dX11_say_26 rfl (fun _ S_26 => ?_)
      refine ge_aload_n (n := 30) C 0 rfl dX11_say_29 rfl rfl ?_
      refine gt_X11_22 (n := 33) C (by decide) dX11_say_30 rfl ?_
      refine ge_bipush (v := 64) (n := 35) C dX11_say_33 (by decide) rfl ?_
      refine ge_iload_n (n := 36) C 2 rfl dX11_say_35 rfl rfl ?_
      refine ge_iadd (n := 37) C dX11_say_36 rfl ?_
      refine al_40 (n := 38) C (by decide) dX11_say_37 rfl ?_
      exact ge_iret C Rr dX11_say_38
    · refine ge_ldc (n := 18) C kc_X11_213 dX11_say_16 rfl ?_
      exact ge_iret C Rr dX11_say_18
theorem dX11_bark_0 : decode cX11_bark 0 = .ok (.iload_n 1, 1) := by decide +kernel
theorem dX11_bark_1 : decode cX11_bark 1 = .ok (.i2l, 1) := by decide +kernel
theorem dX11_bark_2 : decode cX11_bark 2 = .ok (.lconst 1, 1) := by decide +kernel
theorem dX11_bark_3 : decode cX11_bark 3 = .ok (.ldc2_w 263, 3) := by decide +kernel
theorem dX11_bark_6 : decode cX11_bark 6 = .ok (.invokestatic 96, 3) := by decide +kernel
theorem dX11_bark_9 : decode cX11_bark 9 = .ok (.ifCond .ne 6, 3) := by decide +kernel
theorem dX11_bark_12 : decode cX11_bark 12 = .ok (.ldc 107, 2) := by decide +kernel
theorem dX11_bark_14 : decode cX11_bark 14 = .ok (.ireturn, 1) := by decide +kernel
theorem dX11_bark_15 : decode cX11_bark 15 = .ok (.aload_n 0, 1) := by decide +kernel
theorem dX11_bark_16 : decode cX11_bark 16 = .ok (.getfield 90, 3) := by decide +kernel
theorem dX11_bark_19 : decode cX11_bark 19 = .ok (.ifCond .ne 6, 3) := by decide +kernel
theorem dX11_bark_22 : decode cX11_bark 22 = .ok (.ldc 236, 2) := by decide +kernel
theorem dX11_bark_24 : decode cX11_bark 24 = .ok (.ireturn, 1) := by decide +kernel
theorem dX11_bark_25 : decode cX11_bark 25 = .ok (.aload_n 0, 1) := by decide +kernel
theorem dX11_bark_26 : decode cX11_bark 26 = .ok (.invokevirtual 240, 3) := by decide +kernel
theorem dX11_bark_29 : decode cX11_bark 29 = .ok (.aload_n 0, 1) := by decide +kernel
theorem dX11_bark_30 : decode cX11_bark 30 = .ok (.getfield 22, 3) := by decide +kernel
theorem dX11_bark_33 : decode cX11_bark 33 = .ok (.iconst 1, 1) := by decide +kernel
theorem dX11_bark_34 : decode cX11_bark 34 = .ok (.iaload, 1) := by decide +kernel
theorem dX11_bark_35 : decode cX11_bark 35 = .ok (.istore_n 2, 1) := by decide +kernel
theorem dX11_bark_36 : decode cX11_bark 36 = .ok (.aload_n 0, 1) := by decide +kernel
theorem dX11_bark_37 : decode cX11_bark 37 = .ok (.getfield 22, 3) := by decide +kernel
theorem dX11_bark_40 : decode cX11_bark 40 = .ok (.iconst 1, 1) := by decide +kernel
theorem dX11_bark_41 : decode cX11_bark 41 = .ok (.iload_n 1, 1) := by decide +kernel
theorem dX11_bark_42 : decode cX11_bark 42 = .ok (.iastore, 1) := by decide +kernel
theorem dX11_bark_43 : decode cX11_bark 43 = .ok (.iload_n 2, 1) := by decide +kernel
theorem dX11_bark_44 : decode cX11_bark 44 = .ok (.ireturn, 1) := by decide +kernel
set_option maxRecDepth 100000 in
set_option maxHeartbeats 4000000 in
theorem mX11_bark {w : WX} {adr : Nat → Nat → Nat} (hj : Ij adr) (a1 : Int32) (S : St) : ∀ (l : Launch) (r : Int32) (S2 : St), fX11_bark a1 S = some (r, S2) → Mi l w adr yX11_bark cX11_bark 3 (some .int) 1 25 [.ref (adr 35 0), .int a1] S r S2 := by
  refine mi_of (lv := [(0, .ref (adr 35 0)), (1, .int a1)]) hj (plainFor_of_name (by decide +kernel)) rfl (Nat.le_of_ble_eq_true rfl) (fun k C Rr => ?_)
  have C : Cx w adr k cX11_bark RX11 3 1 25 := C
  refine ge_iload_n (n := 1) C 1 rfl dX11_bark_0 rfl rfl ?_
  refine ge_i2l (n := 2) C dX11_bark_1 rfl ?_
  refine ge_lconst (v := 1) (n := 3) C dX11_bark_2 (by decide) rfl ?_
  refine ge_ldc2 (n := 6) C kl_X11_263 dX11_bark_3 rfl ?_
  refine ge_callSi (n := 9) C (mX11_within hj (Int32.toInt64 a1) (1 : Int64) (9 : Int64) S) gv_X11_96 hc_X11_within ⟨Nat.le_of_ble_eq_true rfl, Nat.le_of_ble_eq_true rfl⟩ rfl rfl (Nat.le_of_ble_eq_true rfl) dX11_bark_6 rfl (fun r_6 S_6 => ?_)
  refine ge_if_ne (t := 15) (n := 12) C dX11_bark_9 (by decide) rfl (fun h_9 => ?_) (fun h_9 => ?_)
  · refine ge_aload_n (n := 16) C 0 rfl dX11_bark_15 rfl rfl ?_
    refine gt_X11_90 (n := 19) C (by decide) dX11_bark_16 rfl ?_
    refine ge_if_ne (t := 25) (n := 22) C dX11_bark_19 (by decide) rfl (fun h_19 => ?_) (fun h_19 => ?_)
    · refine ge_aload_n (n := 26) C 0 rfl dX11_bark_25 rfl rfl ?_
      refine ge_callVv (n := 29) C (mX11_remember hj S_6) gv_X11_240 (cl_35 (by decide)) rfl rfl hc_X11_remember ⟨Nat.le_of_ble_eq_true rfl, Nat.le_of_ble_eq_true rfl⟩ rfl rfl (Nat.le_of_ble_eq_true rfl) dX11_bark_26 rfl (fun _ S_26 => ?_)
      refine ge_aload_n (n := 30) C 0 rfl dX11_bark_29 rfl rfl ?_
      refine gt_X11_22 (n := 33) C (by decide) dX11_bark_30 rfl ?_
      refine ge_iconst (v := 1) (n := 34) C dX11_bark_33 (by decide) rfl ?_
      refine al_40 (n := 35) C (by decide) dX11_bark_34 rfl ?_
      refine ge_bi (fun x2_35 => ?_)
      refine ge_istore_n (n := 36) (lv2 := [(2, .int x2_35), (0, .ref (adr 35 0)), (1, .int a1)]) C dX11_bark_35 rfl rfl (by decide) rfl ?_
      refine ge_aload_n (n := 37) C 1 rfl dX11_bark_36 rfl rfl ?_
      refine gt_X11_22 (n := 40) C (by decide) dX11_bark_37 rfl ?_
      refine ge_iconst (v := 1) (n := 41) C dX11_bark_40 (by decide) rfl ?_
      refine ge_iload_n (n := 42) C 2 rfl dX11_bark_41 rfl rfl ?_
      refine as_40 (n := 43) C (by decide) dX11_bark_42 rfl (fun S_42 => ?_)
      refine ge_iload_n (n := 44) C 0 rfl dX11_bark_43 rfl rfl ?_
      exact ge_iret C Rr dX11_bark_44
    · refine ge_ldc (n := 24) C kc_X11_236 dX11_bark_22 rfl ?_
      exact ge_iret C Rr dX11_bark_24
  · refine ge_ldc (n := 14) C kc_X11_107 dX11_bark_12 rfl ?_
    exact ge_iret C Rr dX11_bark_14
theorem dX11_draw_0 : decode cX11_draw 0 = .ok (.aload_n 0, 1) := by decide +kernel
theorem dX11_draw_1 : decode cX11_draw 1 = .ok (.aload_n 0, 1) := by decide +kernel
theorem dX11_draw_2 : decode cX11_draw 2 = .ok (.getfield 265, 3) := by decide +kernel
theorem dX11_draw_5 : decode cX11_draw 5 = .ok (.i2l, 1) := by decide +kernel
theorem dX11_draw_6 : decode cX11_draw 6 = .ok (.ldc2_w 268, 3) := by decide +kernel
theorem dX11_draw_9 : decode cX11_draw 9 = .ok (.lmul, 1) := by decide +kernel
theorem dX11_draw_10 : decode cX11_draw 10 = .ok (.ldc2_w 270, 3) := by decide +kernel
theorem dX11_draw_13 : decode cX11_draw 13 = .ok (.ladd, 1) := by decide +kernel
theorem dX11_draw_14 : decode cX11_draw 14 = .ok (.ldc2_w 272, 3) := by decide +kernel
theorem dX11_draw_17 : decode cX11_draw 17 = .ok (.lrem, 1) := by decide +kernel
theorem dX11_draw_18 : decode cX11_draw 18 = .ok (.l2i, 1) := by decide +kernel
theorem dX11_draw_19 : decode cX11_draw 19 = .ok (.putfield 265, 3) := by decide +kernel
theorem dX11_draw_22 : decode cX11_draw 22 = .ok (.aload_n 0, 1) := by decide +kernel
theorem dX11_draw_23 : decode cX11_draw 23 = .ok (.getfield 265, 3) := by decide +kernel
theorem dX11_draw_26 : decode cX11_draw 26 = .ok (.ldc_w 274, 3) := by decide +kernel
theorem dX11_draw_29 : decode cX11_draw 29 = .ok (.idiv, 1) := by decide +kernel
theorem dX11_draw_30 : decode cX11_draw 30 = .ok (.iload_n 1, 1) := by decide +kernel
theorem dX11_draw_31 : decode cX11_draw 31 = .ok (.irem, 1) := by decide +kernel
theorem dX11_draw_32 : decode cX11_draw 32 = .ok (.ireturn, 1) := by decide +kernel
set_option maxRecDepth 100000 in
set_option maxHeartbeats 4000000 in
theorem mX11_draw {w : WX} {adr : Nat → Nat → Nat} (hj : Ij adr) (a1 : Int32) (S : St) : ∀ (l : Launch) (r : Int32) (S2 : St), fX11_draw a1 S = some (r, S2) → Mi l w adr yX11_draw cX11_draw 2 (some .int) 0 0 [.ref (adr 35 0), .int a1] S r S2 := by
  refine mi_of (lv := [(0, .ref (adr 35 0)), (1, .int a1)]) hj (plainFor_of_name (by decide +kernel)) rfl (Nat.le_of_ble_eq_true rfl) (fun k C Rr => ?_)
  have C : Cx w adr k cX11_draw RX11 2 0 0 := C
  refine ge_aload_n (n := 1) C 0 rfl dX11_draw_0 rfl rfl ?_
  refine ge_aload_n (n := 2) C 0 rfl dX11_draw_1 rfl rfl ?_
  refine gt_X11_265 (n := 5) C (by decide) dX11_draw_2 rfl ?_
  refine ge_i2l (n := 6) C dX11_draw_5 rfl ?_
  refine ge_ldc2 (n := 9) C kl_X11_268 dX11_draw_6 rfl ?_
  refine ge_lmul (n := 10) C dX11_draw_9 rfl ?_
  refine ge_ldc2 (n := 13) C kl_X11_270 dX11_draw_10 rfl ?_
  refine ge_ladd (n := 14) C dX11_draw_13 rfl ?_
  refine ge_ldc2 (n := 17) C kl_X11_272 dX11_draw_14 rfl ?_
  refine ge_lrem (n := 18) C (by decide) dX11_draw_17 rfl ?_
  refine ge_l2i (n := 19) C dX11_draw_18 rfl ?_
  refine pt_X11_265 (n := 22) C (by decide) dX11_draw_19 rfl (fun S_19 => ?_)
  refine ge_aload_n (n := 23) C 0 rfl dX11_draw_22 rfl rfl ?_
  refine gt_X11_265 (n := 26) C (by decide) dX11_draw_23 rfl ?_
  refine ge_ldcw (n := 29) C kc_X11_274 dX11_draw_26 rfl ?_
  refine ge_idiv0 (n := 30) C (by decide) dX11_draw_29 rfl ?_
  refine ge_iload_n (n := 31) C 1 rfl dX11_draw_30 rfl rfl ?_
  refine ge_irem (n := 32) C dX11_draw_31 rfl (fun _ => ?_)
  exact ge_iret C Rr dX11_draw_32
theorem dX11_chance_0 : decode cX11_chance 0 = .ok (.aload_n 0, 1) := by decide +kernel
theorem dX11_chance_1 : decode cX11_chance 1 = .ok (.iconst 5, 1) := by decide +kernel
theorem dX11_chance_2 : decode cX11_chance 2 = .ok (.invokevirtual 275, 3) := by decide +kernel
theorem dX11_chance_5 : decode cX11_chance 5 = .ok (.istore_n 1, 1) := by decide +kernel
theorem dX11_chance_6 : decode cX11_chance 6 = .ok (.aload_n 0, 1) := by decide +kernel
theorem dX11_chance_7 : decode cX11_chance 7 = .ok (.aload_n 0, 1) := by decide +kernel
theorem dX11_chance_8 : decode cX11_chance 8 = .ok (.getfield 93, 3) := by decide +kernel
theorem dX11_chance_11 : decode cX11_chance 11 = .ok (.invokevirtual 275, 3) := by decide +kernel
theorem dX11_chance_14 : decode cX11_chance 14 = .ok (.istore_n 2, 1) := by decide +kernel
theorem dX11_chance_15 : decode cX11_chance 15 = .ok (.iload_n 1, 1) := by decide +kernel
theorem dX11_chance_16 : decode cX11_chance 16 = .ok (.ifCond .ne 25, 3) := by decide +kernel
theorem dX11_chance_19 : decode cX11_chance 19 = .ok (.aload_n 0, 1) := by decide +kernel
theorem dX11_chance_20 : decode cX11_chance 20 = .ok (.invokevirtual 249, 3) := by decide +kernel
theorem dX11_chance_23 : decode cX11_chance 23 = .ok (.ifCond .le 18, 3) := by decide +kernel
theorem dX11_chance_26 : decode cX11_chance 26 = .ok (.aload_n 0, 1) := by decide +kernel
theorem dX11_chance_27 : decode cX11_chance 27 = .ok (.getfield 22, 3) := by decide +kernel
theorem dX11_chance_30 : decode cX11_chance 30 = .ok (.iconst 2, 1) := by decide +kernel
theorem dX11_chance_31 : decode cX11_chance 31 = .ok (.dup2, 1) := by decide +kernel
theorem dX11_chance_32 : decode cX11_chance 32 = .ok (.iaload, 1) := by decide +kernel
theorem dX11_chance_33 : decode cX11_chance 33 = .ok (.iconst 1, 1) := by decide +kernel
theorem dX11_chance_34 : decode cX11_chance 34 = .ok (.iload_n 2, 1) := by decide +kernel
theorem dX11_chance_35 : decode cX11_chance 35 = .ok (.ishl, 1) := by decide +kernel
theorem dX11_chance_36 : decode cX11_chance 36 = .ok (.ior, 1) := by decide +kernel
theorem dX11_chance_37 : decode cX11_chance 37 = .ok (.iastore, 1) := by decide +kernel
theorem dX11_chance_38 : decode cX11_chance 38 = .ok (.goto 86, 3) := by decide +kernel
theorem dX11_chance_41 : decode cX11_chance 41 = .ok (.iload_n 1, 1) := by decide +kernel
theorem dX11_chance_42 : decode cX11_chance 42 = .ok (.iconst 1, 1) := by decide +kernel
theorem dX11_chance_43 : decode cX11_chance 43 = .ok (.if_icmp .ne 20, 3) := by decide +kernel
theorem dX11_chance_46 : decode cX11_chance 46 = .ok (.aload_n 0, 1) := by decide +kernel
theorem dX11_chance_47 : decode cX11_chance 47 = .ok (.getfield 22, 3) := by decide +kernel
theorem dX11_chance_50 : decode cX11_chance 50 = .ok (.iconst 2, 1) := by decide +kernel
theorem dX11_chance_51 : decode cX11_chance 51 = .ok (.dup2, 1) := by decide +kernel
theorem dX11_chance_52 : decode cX11_chance 52 = .ok (.iaload, 1) := by decide +kernel
theorem dX11_chance_53 : decode cX11_chance 53 = .ok (.iconst 1, 1) := by decide +kernel
theorem dX11_chance_54 : decode cX11_chance 54 = .ok (.iload_n 2, 1) := by decide +kernel
theorem dX11_chance_55 : decode cX11_chance 55 = .ok (.ishl, 1) := by decide +kernel
theorem dX11_chance_56 : decode cX11_chance 56 = .ok (.iconst (-1), 1) := by decide +kernel
theorem dX11_chance_57 : decode cX11_chance 57 = .ok (.ixor, 1) := by decide +kernel
theorem dX11_chance_58 : decode cX11_chance 58 = .ok (.iand, 1) := by decide +kernel
theorem dX11_chance_59 : decode cX11_chance 59 = .ok (.iastore, 1) := by decide +kernel
theorem dX11_chance_60 : decode cX11_chance 60 = .ok (.goto 64, 3) := by decide +kernel
theorem dX11_chance_63 : decode cX11_chance 63 = .ok (.iload_n 1, 1) := by decide +kernel
theorem dX11_chance_64 : decode cX11_chance 64 = .ok (.iconst 2, 1) := by decide +kernel
theorem dX11_chance_65 : decode cX11_chance 65 = .ok (.if_icmp .ne 26, 3) := by decide +kernel
theorem dX11_chance_68 : decode cX11_chance 68 = .ok (.aload_n 0, 1) := by decide +kernel
theorem dX11_chance_69 : decode cX11_chance 69 = .ok (.getfield 100, 3) := by decide +kernel
theorem dX11_chance_72 : decode cX11_chance 72 = .ok (.ifCond .le 19, 3) := by decide +kernel
theorem dX11_chance_75 : decode cX11_chance 75 = .ok (.aload_n 0, 1) := by decide +kernel
theorem dX11_chance_76 : decode cX11_chance 76 = .ok (.aload_n 0, 1) := by decide +kernel
theorem dX11_chance_77 : decode cX11_chance 77 = .ok (.aload_n 0, 1) := by decide +kernel
theorem dX11_chance_78 : decode cX11_chance 78 = .ok (.getfield 100, 3) := by decide +kernel
theorem dX11_chance_81 : decode cX11_chance 81 = .ok (.invokevirtual 275, 3) := by decide +kernel
theorem dX11_chance_84 : decode cX11_chance 84 = .ok (.iload_n 2, 1) := by decide +kernel
theorem dX11_chance_85 : decode cX11_chance 85 = .ok (.invokevirtual 259, 3) := by decide +kernel
theorem dX11_chance_88 : decode cX11_chance 88 = .ok (.goto 36, 3) := by decide +kernel
theorem dX11_chance_91 : decode cX11_chance 91 = .ok (.iload_n 1, 1) := by decide +kernel
theorem dX11_chance_92 : decode cX11_chance 92 = .ok (.iconst 3, 1) := by decide +kernel
theorem dX11_chance_93 : decode cX11_chance 93 = .ok (.if_icmp .ne 31, 3) := by decide +kernel
theorem dX11_chance_96 : decode cX11_chance 96 = .ok (.aload_n 0, 1) := by decide +kernel
theorem dX11_chance_97 : decode cX11_chance 97 = .ok (.iconst 5, 1) := by decide +kernel
theorem dX11_chance_98 : decode cX11_chance 98 = .ok (.invokevirtual 275, 3) := by decide +kernel
theorem dX11_chance_101 : decode cX11_chance 101 = .ok (.istore_n 3, 1) := by decide +kernel
theorem dX11_chance_102 : decode cX11_chance 102 = .ok (.aload_n 0, 1) := by decide +kernel
theorem dX11_chance_103 : decode cX11_chance 103 = .ok (.getfield 22, 3) := by decide +kernel
theorem dX11_chance_106 : decode cX11_chance 106 = .ok (.iconst 4, 1) := by decide +kernel
theorem dX11_chance_107 : decode cX11_chance 107 = .ok (.iconst 5, 1) := by decide +kernel
theorem dX11_chance_108 : decode cX11_chance 108 = .ok (.iload_n 2, 1) := by decide +kernel
theorem dX11_chance_109 : decode cX11_chance 109 = .ok (.imul, 1) := by decide +kernel
theorem dX11_chance_110 : decode cX11_chance 110 = .ok (.iadd, 1) := by decide +kernel
theorem dX11_chance_111 : decode cX11_chance 111 = .ok (.iload_n 3, 1) := by decide +kernel
theorem dX11_chance_112 : decode cX11_chance 112 = .ok (.iadd, 1) := by decide +kernel
theorem dX11_chance_113 : decode cX11_chance 113 = .ok (.iaload, 1) := by decide +kernel
theorem dX11_chance_114 : decode cX11_chance 114 = .ok (.ifCond .le 10, 3) := by decide +kernel
theorem dX11_chance_117 : decode cX11_chance 117 = .ok (.aload_n 0, 1) := by decide +kernel
theorem dX11_chance_118 : decode cX11_chance 118 = .ok (.iload_n 2, 1) := by decide +kernel
theorem dX11_chance_119 : decode cX11_chance 119 = .ok (.iload_n 3, 1) := by decide +kernel
theorem dX11_chance_120 : decode cX11_chance 120 = .ok (.iconst 1, 1) := by decide +kernel
theorem dX11_chance_121 : decode cX11_chance 121 = .ok (.invokevirtual 255, 3) := by decide +kernel
theorem dX11_chance_124 : decode cX11_chance 124 = .ok (.return_, 1) := by decide +kernel
set_option maxRecDepth 100000 in
set_option maxHeartbeats 4000000 in
theorem mX11_chance {w : WX} {adr : Nat → Nat → Nat} (hj : Ij adr)  (S : St) : ∀ (l : Launch) (r : Int32) (S2 : St), fX11_chance S = some (r, S2) → Mv l w adr yX11_chance cX11_chance 4 none 3 67 [.ref (adr 35 0)] S S2 := by
  refine mv_of (lv := [(0, .ref (adr 35 0))]) hj (plainFor_of_name (by decide +kernel)) rfl (Nat.le_of_ble_eq_true rfl) (fun k C Rr => ?_)
  have C : Cx w adr k cX11_chance RX11 4 3 67 := C
  refine ge_aload_n (n := 1) C 0 rfl dX11_chance_0 rfl rfl ?_
  refine ge_iconst (v := 5) (n := 2) C dX11_chance_1 (by decide) rfl ?_
  refine ge_callVi (n := 5) C (mX11_draw hj (5 : Int32) S) gv_X11_275 (cl_35 (by decide)) rfl rfl hc_X11_draw ⟨Nat.le_of_ble_eq_true rfl, Nat.le_of_ble_eq_true rfl⟩ rfl rfl (Nat.le_of_ble_eq_true rfl) dX11_chance_2 rfl (fun r_2 S_2 => ?_)
  refine ge_istore_n (n := 6) (lv2 := [(1, .int r_2), (0, .ref (adr 35 0))]) C dX11_chance_5 rfl rfl (by decide) rfl ?_
  refine ge_aload_n (n := 7) C 1 rfl dX11_chance_6 rfl rfl ?_
  refine ge_aload_n (n := 8) C 1 rfl dX11_chance_7 rfl rfl ?_
  refine gt_X11_93 (n := 11) C (by decide) dX11_chance_8 rfl ?_
  refine ge_callVi (n := 14) C (mX11_draw hj (S_2 35 0 2) S_2) gv_X11_275 (cl_35 (by decide)) rfl rfl hc_X11_draw ⟨Nat.le_of_ble_eq_true rfl, Nat.le_of_ble_eq_true rfl⟩ rfl rfl (Nat.le_of_ble_eq_true rfl) dX11_chance_11 rfl (fun r_11 S_11 => ?_)
  refine ge_istore_n (n := 15) (lv2 := [(2, .int r_11), (1, .int r_2), (0, .ref (adr 35 0))]) C dX11_chance_14 rfl rfl (by decide) rfl ?_
  refine ge_iload_n (n := 16) C 1 rfl dX11_chance_15 rfl rfl ?_
  refine ge_jn (fun (jj : St → Op) => ∀ (S_41 : St), Ge w adr k 41 [(2, .int r_11), (1, .int r_2), (0, .ref (adr 35 0))] [] S_41 (jj S_41)) (fun S_41 => ?_) (fun j41 hj41 => ?_)
  · refine ge_iload_n (n := 42) C 1 rfl dX11_chance_41 rfl rfl ?_
    refine ge_iconst (v := 1) (n := 43) C dX11_chance_42 (by decide) rfl ?_
    refine ge_icmp_ne (t := 63) (n := 46) C dX11_chance_43 (by decide) rfl (fun h_43 => ?_) (fun h_43 => ?_)
    · refine ge_iload_n (n := 64) C 1 rfl dX11_chance_63 rfl rfl ?_
      refine ge_iconst (v := 2) (n := 65) C dX11_chance_64 (by decide) rfl ?_
      refine ge_jn (fun (jj : Op) => Ge w adr k 91 [(2, .int r_11), (1, .int r_2), (0, .ref (adr 35 0))] [] S_41 (jj)) ?_ (fun j91 hj91 => ?_)
      · refine ge_iload_n (n := 92) C 1 rfl dX11_chance_91 rfl rfl ?_
        refine ge_iconst (v := 3) (n := 93) C dX11_chance_92 (by decide) rfl ?_
        refine ge_icmp_ne (t := 124) (n := 96) C dX11_chance_93 (by decide) rfl (fun h_93 => ?_) (fun h_93 => ?_)
        · exact ge_vret C Rr dX11_chance_124
        · refine ge_aload_n (n := 97) C 2 rfl dX11_chance_96 rfl rfl ?_
          refine ge_iconst (v := 5) (n := 98) C dX11_chance_97 (by decide) rfl ?_
          refine ge_callVi (n := 101) C (mX11_draw hj (5 : Int32) S_41) gv_X11_275 (cl_35 (by decide)) rfl rfl hc_X11_draw ⟨Nat.le_of_ble_eq_true rfl, Nat.le_of_ble_eq_true rfl⟩ rfl rfl (Nat.le_of_ble_eq_true rfl) dX11_chance_98 rfl (fun r_98 S_98 => ?_)
          refine ge_istore_n (n := 102) (lv2 := [(3, .int r_98), (2, .int r_11), (1, .int r_2), (0, .ref (adr 35 0))]) C dX11_chance_101 rfl rfl (by decide) rfl ?_
          refine ge_aload_n (n := 103) C 3 rfl dX11_chance_102 rfl rfl ?_
          refine gt_X11_22 (n := 106) C (by decide) dX11_chance_103 rfl ?_
          refine ge_iconst (v := 4) (n := 107) C dX11_chance_106 (by decide) rfl ?_
          refine ge_iconst (v := 5) (n := 108) C dX11_chance_107 (by decide) rfl ?_
          refine ge_iload_n (n := 109) C 1 rfl dX11_chance_108 rfl rfl ?_
          refine ge_imul (n := 110) C dX11_chance_109 rfl ?_
          refine ge_iadd (n := 111) C dX11_chance_110 rfl ?_
          refine ge_iload_n (n := 112) C 0 rfl dX11_chance_111 rfl rfl ?_
          refine ge_iadd (n := 113) C dX11_chance_112 rfl ?_
          refine al_40 (n := 114) C (by decide) dX11_chance_113 rfl ?_
          refine ge_if_le (t := 124) (n := 117) C dX11_chance_114 (by decide) rfl (fun h_114 => ?_) (fun h_114 => ?_)
          · exact ge_vret C Rr dX11_chance_124
          · refine ge_aload_n (n := 118) C 3 rfl dX11_chance_117 rfl rfl ?_
            refine ge_iload_n (n := 119) C 1 rfl dX11_chance_118 rfl rfl ?_
            refine ge_iload_n (n := 120) C 0 rfl dX11_chance_119 rfl rfl ?_
            refine ge_iconst (v := 1) (n := 121) C dX11_chance_120 (by decide) rfl ?_
            refine ge_callVv (n := 124) C (mX11_scrapes hj r_11 r_98 (1 : Int32) S_98) gv_X11_255 (cl_35 (by decide)) rfl rfl hc_X11_scrapes ⟨Nat.le_of_ble_eq_true rfl, Nat.le_of_ble_eq_true rfl⟩ rfl rfl (Nat.le_of_ble_eq_true rfl) dX11_chance_121 rfl (fun _ S_121 => ?_)
            exact ge_vret C Rr dX11_chance_124
      refine ge_icmp_ne (t := 91) (n := 68) C dX11_chance_65 (by decide) rfl (fun h_65 => ?_) (fun h_65 => ?_)
      · exact hj91
      · refine ge_aload_n (n := 69) C 2 rfl dX11_chance_68 rfl rfl ?_
        refine gt_X11_100 (n := 72) C (by decide) dX11_chance_69 rfl ?_
        refine ge_if_le (t := 91) (n := 75) C dX11_chance_72 (by decide) rfl (fun h_72 => ?_) (fun h_72 => ?_)
        · exact hj91
        · refine ge_aload_n (n := 76) C 2 rfl dX11_chance_75 rfl rfl ?_
          refine ge_aload_n (n := 77) C 2 rfl dX11_chance_76 rfl rfl ?_
          refine ge_aload_n (n := 78) C 2 rfl dX11_chance_77 rfl rfl ?_
          refine gt_X11_100 (n := 81) C (by decide) dX11_chance_78 rfl ?_
          refine ge_callVi (n := 84) C (mX11_draw hj (S_41 35 0 5) S_41) gv_X11_275 (cl_35 (by decide)) rfl rfl hc_X11_draw ⟨Nat.le_of_ble_eq_true rfl, Nat.le_of_ble_eq_true rfl⟩ rfl rfl (Nat.le_of_ble_eq_true rfl) dX11_chance_81 rfl (fun r_81 S_81 => ?_)
          refine ge_iload_n (n := 85) C 0 rfl dX11_chance_84 rfl rfl ?_
          refine ge_callVv (n := 88) C (mX11_wounds hj r_81 r_11 S_81) gv_X11_259 (cl_35 (by decide)) rfl rfl hc_X11_wounds ⟨Nat.le_of_ble_eq_true rfl, Nat.le_of_ble_eq_true rfl⟩ rfl rfl (Nat.le_of_ble_eq_true rfl) dX11_chance_85 rfl (fun _ S_85 => ?_)
          refine ge_goto (n := 124) C dX11_chance_88 (by decide) ?_
          exact ge_vret C Rr dX11_chance_124
    · refine ge_aload_n (n := 47) C 2 rfl dX11_chance_46 rfl rfl ?_
      refine gt_X11_22 (n := 50) C (by decide) dX11_chance_47 rfl ?_
      refine ge_iconst (v := 2) (n := 51) C dX11_chance_50 (by decide) rfl ?_
      refine ge_dup2 (n := 52) C dX11_chance_51 rfl rfl rfl ?_
      refine al_40 (n := 53) C (by decide) dX11_chance_52 rfl ?_
      refine ge_iconst (v := 1) (n := 54) C dX11_chance_53 (by decide) rfl ?_
      refine ge_iload_n (n := 55) C 0 rfl dX11_chance_54 rfl rfl ?_
      refine ge_ishl (n := 56) C dX11_chance_55 rfl ?_
      refine ge_iconst (v := -1) (n := 57) C dX11_chance_56 (by decide) rfl ?_
      refine ge_ixor (n := 58) C dX11_chance_57 rfl ?_
      refine ge_iand (n := 59) C dX11_chance_58 rfl ?_
      refine as_40 (n := 60) C (by decide) dX11_chance_59 rfl (fun S_59 => ?_)
      refine ge_goto (n := 124) C dX11_chance_60 (by decide) ?_
      exact ge_vret C Rr dX11_chance_124
  refine ge_if_ne (t := 41) (n := 19) C dX11_chance_16 (by decide) rfl (fun h_16 => ?_) (fun h_16 => ?_)
  · exact hj41 S_11
  · refine ge_aload_n (n := 20) C 2 rfl dX11_chance_19 rfl rfl ?_
    refine ge_callVi (n := 23) C (mX11_free hj S_11) gv_X11_249 (cl_35 (by decide)) rfl rfl hc_X11_free ⟨Nat.le_of_ble_eq_true rfl, Nat.le_of_ble_eq_true rfl⟩ rfl rfl (Nat.le_of_ble_eq_true rfl) dX11_chance_20 rfl (fun r_20 S_20 => ?_)
    refine ge_if_le (t := 41) (n := 26) C dX11_chance_23 (by decide) rfl (fun h_23 => ?_) (fun h_23 => ?_)
    · exact hj41 S_20
    · refine ge_aload_n (n := 27) C 2 rfl dX11_chance_26 rfl rfl ?_
      refine gt_X11_22 (n := 30) C (by decide) dX11_chance_27 rfl ?_
      refine ge_iconst (v := 2) (n := 31) C dX11_chance_30 (by decide) rfl ?_
      refine ge_dup2 (n := 32) C dX11_chance_31 rfl rfl rfl ?_
      refine al_40 (n := 33) C (by decide) dX11_chance_32 rfl ?_
      refine ge_iconst (v := 1) (n := 34) C dX11_chance_33 (by decide) rfl ?_
      refine ge_iload_n (n := 35) C 0 rfl dX11_chance_34 rfl rfl ?_
      refine ge_ishl (n := 36) C dX11_chance_35 rfl ?_
      refine ge_ior (n := 37) C dX11_chance_36 rfl ?_
      refine as_40 (n := 38) C (by decide) dX11_chance_37 rfl (fun S_37 => ?_)
      refine ge_goto (n := 124) C dX11_chance_38 (by decide) ?_
      exact ge_vret C Rr dX11_chance_124
theorem dX11_drift_0 : decode cX11_drift 0 = .ok (.aload_n 0, 1) := by decide +kernel
theorem dX11_drift_1 : decode cX11_drift 1 = .ok (.iload_n 1, 1) := by decide +kernel
theorem dX11_drift_2 : decode cX11_drift 2 = .ok (.invokevirtual 237, 3) := by decide +kernel
theorem dX11_drift_5 : decode cX11_drift 5 = .ok (.istore_n 2, 1) := by decide +kernel
theorem dX11_drift_6 : decode cX11_drift 6 = .ok (.iload_n 2, 1) := by decide +kernel
theorem dX11_drift_7 : decode cX11_drift 7 = .ok (.ifCond .eq 5, 3) := by decide +kernel
theorem dX11_drift_10 : decode cX11_drift 10 = .ok (.iload_n 2, 1) := by decide +kernel
theorem dX11_drift_11 : decode cX11_drift 11 = .ok (.ireturn, 1) := by decide +kernel
theorem dX11_drift_12 : decode cX11_drift 12 = .ok (.aload_n 0, 1) := by decide +kernel
theorem dX11_drift_13 : decode cX11_drift 13 = .ok (.invokevirtual 240, 3) := by decide +kernel
theorem dX11_drift_16 : decode cX11_drift 16 = .ok (.iconst 0, 1) := by decide +kernel
theorem dX11_drift_17 : decode cX11_drift 17 = .ok (.istore_n 3, 1) := by decide +kernel
theorem dX11_drift_18 : decode cX11_drift 18 = .ok (.iload_n 3, 1) := by decide +kernel
theorem dX11_drift_19 : decode cX11_drift 19 = .ok (.iload_n 1, 1) := by decide +kernel
theorem dX11_drift_20 : decode cX11_drift 20 = .ok (.if_icmp .ge 24, 3) := by decide +kernel
theorem dX11_drift_23 : decode cX11_drift 23 = .ok (.aload_n 0, 1) := by decide +kernel
theorem dX11_drift_24 : decode cX11_drift 24 = .ok (.getfield 93, 3) := by decide +kernel
theorem dX11_drift_27 : decode cX11_drift 27 = .ok (.ifCond .le 7, 3) := by decide +kernel
theorem dX11_drift_30 : decode cX11_drift 30 = .ok (.aload_n 0, 1) := by decide +kernel
theorem dX11_drift_31 : decode cX11_drift 31 = .ok (.invokevirtual 278, 3) := by decide +kernel
theorem dX11_drift_34 : decode cX11_drift 34 = .ok (.aload_n 0, 1) := by decide +kernel
theorem dX11_drift_35 : decode cX11_drift 35 = .ok (.invokevirtual 243, 3) := by decide +kernel
theorem dX11_drift_38 : decode cX11_drift 38 = .ok (.iinc 3 1, 3) := by decide +kernel
theorem dX11_drift_41 : decode cX11_drift 41 = .ok (.goto (-23), 3) := by decide +kernel
theorem dX11_drift_44 : decode cX11_drift 44 = .ok (.aload_n 0, 1) := by decide +kernel
theorem dX11_drift_45 : decode cX11_drift 45 = .ok (.getfield 22, 3) := by decide +kernel
theorem dX11_drift_48 : decode cX11_drift 48 = .ok (.iconst 0, 1) := by decide +kernel
theorem dX11_drift_49 : decode cX11_drift 49 = .ok (.iaload, 1) := by decide +kernel
theorem dX11_drift_50 : decode cX11_drift 50 = .ok (.ireturn, 1) := by decide +kernel
set_option maxRecDepth 100000 in
set_option maxHeartbeats 4000000 in
theorem mX11_drift {w : WX} {adr : Nat → Nat → Nat} (hj : Ij adr) (a1 : Int32) (S : St) : ∀ (l : Launch) (r : Int32) (S2 : St), fX11_drift a1 S = some (r, S2) → Mi l w adr yX11_drift cX11_drift 4 (some .int) 4 90 [.ref (adr 35 0), .int a1] S r S2 := by
  refine mi_of (lv := [(0, .ref (adr 35 0)), (1, .int a1)]) hj (plainFor_of_name (by decide +kernel)) rfl (Nat.le_of_ble_eq_true rfl) (fun k C Rr => ?_)
  have C : Cx w adr k cX11_drift RX11 4 4 90 := C
  refine ge_aload_n (n := 1) C 0 rfl dX11_drift_0 rfl rfl ?_
  refine ge_iload_n (n := 2) C 1 rfl dX11_drift_1 rfl rfl ?_
  refine ge_callVi (n := 5) C (mX11_monthsRefused hj a1 S) gv_X11_237 (cl_35 (by decide)) rfl rfl hc_X11_monthsRefused ⟨Nat.le_of_ble_eq_true rfl, Nat.le_of_ble_eq_true rfl⟩ rfl rfl (Nat.le_of_ble_eq_true rfl) dX11_drift_2 rfl (fun r_2 S_2 => ?_)
  refine ge_istore_n (n := 6) (lv2 := [(2, .int r_2), (0, .ref (adr 35 0)), (1, .int a1)]) C dX11_drift_5 rfl rfl (by decide) rfl ?_
  refine ge_iload_n (n := 7) C 0 rfl dX11_drift_6 rfl rfl ?_
  refine ge_if_eq (t := 12) (n := 10) C dX11_drift_7 (by decide) rfl (fun h_7 => ?_) (fun h_7 => ?_)
  · refine ge_aload_n (n := 13) C 1 rfl dX11_drift_12 rfl rfl ?_
    refine ge_callVv (n := 16) C (mX11_remember hj S_2) gv_X11_240 (cl_35 (by decide)) rfl rfl hc_X11_remember ⟨Nat.le_of_ble_eq_true rfl, Nat.le_of_ble_eq_true rfl⟩ rfl rfl (Nat.le_of_ble_eq_true rfl) dX11_drift_13 rfl (fun _ S_13 => ?_)
    refine ge_iconst (v := 0) (n := 17) C dX11_drift_16 (by decide) rfl ?_
    refine ge_istore_n (n := 18) (lv2 := [(3, .int (0 : Int32)), (2, .int r_2), (0, .ref (adr 35 0)), (1, .int a1)]) C dX11_drift_17 rfl rfl (by decide) rfl ?_
    refine ge_jn (fun (jj : St → Op) => ∀ (S_44 : St), Ge w adr k 44 [(0, .ref (adr 35 0))] [] S_44 (jj S_44)) (fun S_44 => ?_) (fun kk18 hkk18 => ?_)
    · refine ge_aload_n (n := 45) C 0 rfl dX11_drift_44 rfl rfl ?_
      refine gt_X11_22 (n := 48) C (by decide) dX11_drift_45 rfl ?_
      refine ge_iconst (v := 0) (n := 49) C dX11_drift_48 (by decide) rfl ?_
      refine al_40 (n := 50) C (by decide) dX11_drift_49 rfl ?_
      exact ge_iret C Rr dX11_drift_50
    refine ge_sub [0, 2, 3] rfl ?_
    refine ge_lop (fun (jj : Int32 → St → Op) => ∀ (x3_18 : Int32) (S_18 : St), Ge w adr k 18 [(3, .int x3_18), (0, .ref (adr 35 0)), (1, .int a1)] [] S_18 (jj x3_18 S_18)) (fun _ _ => ge_none) (fun ag18 hag18 x3_18 S_18 => ?_) FU (0 : Int32) S_13
    refine ge_iload_n (n := 19) C 0 rfl dX11_drift_18 rfl rfl ?_
    refine ge_iload_n (n := 20) C 2 rfl dX11_drift_19 rfl rfl ?_
    refine ge_icmp_ge (t := 44) (n := 23) C dX11_drift_20 (by decide) rfl (fun h_20 => ?_) (fun h_20 => ?_)
    · refine ge_sub [1] rfl ?_
      exact hkk18 S_18
    · refine ge_aload_n (n := 24) C 1 rfl dX11_drift_23 rfl rfl ?_
      refine gt_X11_93 (n := 27) C (by decide) dX11_drift_24 rfl ?_
      refine ge_jn (fun (jj : St → Op) => ∀ (S_34 : St), Ge w adr k 34 [(3, .int x3_18), (0, .ref (adr 35 0)), (1, .int a1)] [] S_34 (jj S_34)) (fun S_34 => ?_) (fun j34 hj34 => ?_)
      · refine ge_aload_n (n := 35) C 1 rfl dX11_drift_34 rfl rfl ?_
        refine ge_callVv (n := 38) C (mX11_passes hj S_34) gv_X11_243 (cl_35 (by decide)) rfl rfl hc_X11_passes ⟨Nat.le_of_ble_eq_true rfl, Nat.le_of_ble_eq_true rfl⟩ rfl rfl (Nat.le_of_ble_eq_true rfl) dX11_drift_35 rfl (fun _ S_35 => ?_)
        refine ge_iinc (n := 41) (v := (x3_18 + (1 : Int32))) (lv2 := [(3, .int (x3_18 + (1 : Int32))), (0, .ref (adr 35 0)), (1, .int a1)]) C 0 rfl dX11_drift_38 rfl rfl (by decide) rfl ?_
        refine ge_goto (n := 18) C dX11_drift_41 (by decide) ?_
        exact hag18 (x3_18 + (1 : Int32)) S_35
      refine ge_if_le (t := 34) (n := 30) C dX11_drift_27 (by decide) rfl (fun h_27 => ?_) (fun h_27 => ?_)
      · exact hj34 S_18
      · refine ge_aload_n (n := 31) C 1 rfl dX11_drift_30 rfl rfl ?_
        refine ge_callVv (n := 34) C (mX11_chance hj S_18) gv_X11_278 (cl_35 (by decide)) rfl rfl hc_X11_chance ⟨Nat.le_of_ble_eq_true rfl, Nat.le_of_ble_eq_true rfl⟩ rfl rfl (Nat.le_of_ble_eq_true rfl) dX11_drift_31 rfl (fun _ S_31 => ?_)
        exact hj34 S_31
  · refine ge_iload_n (n := 11) C 0 rfl dX11_drift_10 rfl rfl ?_
    exact ge_iret C Rr dX11_drift_11
theorem dX11_undo_0 : decode cX11_undo 0 = .ok (.aload_n 0, 1) := by decide +kernel
theorem dX11_undo_1 : decode cX11_undo 1 = .ok (.getfield 180, 3) := by decide +kernel
theorem dX11_undo_4 : decode cX11_undo 4 = .ok (.ifCond .ne 6, 3) := by decide +kernel
theorem dX11_undo_7 : decode cX11_undo 7 = .ok (.ldc 236, 2) := by decide +kernel
theorem dX11_undo_9 : decode cX11_undo 9 = .ok (.ireturn, 1) := by decide +kernel
theorem dX11_undo_10 : decode cX11_undo 10 = .ok (.aload_n 0, 1) := by decide +kernel
theorem dX11_undo_11 : decode cX11_undo 11 = .ok (.dup, 1) := by decide +kernel
theorem dX11_undo_12 : decode cX11_undo 12 = .ok (.getfield 180, 3) := by decide +kernel
theorem dX11_undo_15 : decode cX11_undo 15 = .ok (.iconst 1, 1) := by decide +kernel
theorem dX11_undo_16 : decode cX11_undo 16 = .ok (.isub, 1) := by decide +kernel
theorem dX11_undo_17 : decode cX11_undo 17 = .ok (.putfield 180, 3) := by decide +kernel
theorem dX11_undo_20 : decode cX11_undo 20 = .ok (.iconst 0, 1) := by decide +kernel
theorem dX11_undo_21 : decode cX11_undo 21 = .ok (.istore_n 1, 1) := by decide +kernel
theorem dX11_undo_22 : decode cX11_undo 22 = .ok (.iload_n 1, 1) := by decide +kernel
theorem dX11_undo_23 : decode cX11_undo 23 = .ok (.bipush 70, 2) := by decide +kernel
theorem dX11_undo_25 : decode cX11_undo 25 = .ok (.if_icmp .ge 29, 3) := by decide +kernel
theorem dX11_undo_28 : decode cX11_undo 28 = .ok (.aload_n 0, 1) := by decide +kernel
theorem dX11_undo_29 : decode cX11_undo 29 = .ok (.getfield 22, 3) := by decide +kernel
theorem dX11_undo_32 : decode cX11_undo 32 = .ok (.iload_n 1, 1) := by decide +kernel
theorem dX11_undo_33 : decode cX11_undo 33 = .ok (.aload_n 0, 1) := by decide +kernel
theorem dX11_undo_34 : decode cX11_undo 34 = .ok (.getfield 68, 3) := by decide +kernel
theorem dX11_undo_37 : decode cX11_undo 37 = .ok (.bipush 70, 2) := by decide +kernel
theorem dX11_undo_39 : decode cX11_undo 39 = .ok (.aload_n 0, 1) := by decide +kernel
theorem dX11_undo_40 : decode cX11_undo 40 = .ok (.getfield 180, 3) := by decide +kernel
theorem dX11_undo_43 : decode cX11_undo 43 = .ok (.imul, 1) := by decide +kernel
theorem dX11_undo_44 : decode cX11_undo 44 = .ok (.iload_n 1, 1) := by decide +kernel
theorem dX11_undo_45 : decode cX11_undo 45 = .ok (.iadd, 1) := by decide +kernel
theorem dX11_undo_46 : decode cX11_undo 46 = .ok (.iaload, 1) := by decide +kernel
theorem dX11_undo_47 : decode cX11_undo 47 = .ok (.iastore, 1) := by decide +kernel
theorem dX11_undo_48 : decode cX11_undo 48 = .ok (.iinc 1 1, 3) := by decide +kernel
theorem dX11_undo_51 : decode cX11_undo 51 = .ok (.goto (-29), 3) := by decide +kernel
theorem dX11_undo_54 : decode cX11_undo 54 = .ok (.aload_n 0, 1) := by decide +kernel
theorem dX11_undo_55 : decode cX11_undo 55 = .ok (.getfield 180, 3) := by decide +kernel
theorem dX11_undo_58 : decode cX11_undo 58 = .ok (.ireturn, 1) := by decide +kernel
set_option maxRecDepth 100000 in
set_option maxHeartbeats 4000000 in
theorem mX11_undo {w : WX} {adr : Nat → Nat → Nat} (hj : Ij adr)  (S : St) : ∀ (l : Launch) (r : Int32) (S2 : St), fX11_undo S = some (r, S2) → Mi l w adr yX11_undo cX11_undo 2 (some .int) 0 0 [.ref (adr 35 0)] S r S2 := by
  refine mi_of (lv := [(0, .ref (adr 35 0))]) hj (plainFor_of_name (by decide +kernel)) rfl (Nat.le_of_ble_eq_true rfl) (fun k C Rr => ?_)
  have C : Cx w adr k cX11_undo RX11 2 0 0 := C
  refine ge_aload_n (n := 1) C 0 rfl dX11_undo_0 rfl rfl ?_
  refine gt_X11_180 (n := 4) C (by decide) dX11_undo_1 rfl ?_
  refine ge_if_ne (t := 10) (n := 7) C dX11_undo_4 (by decide) rfl (fun h_4 => ?_) (fun h_4 => ?_)
  · refine ge_aload_n (n := 11) C 0 rfl dX11_undo_10 rfl rfl ?_
    refine ge_dup (n := 12) C dX11_undo_11 rfl rfl ?_
    refine gt_X11_180 (n := 15) C (by decide) dX11_undo_12 rfl ?_
    refine ge_iconst (v := 1) (n := 16) C dX11_undo_15 (by decide) rfl ?_
    refine ge_isub (n := 17) C dX11_undo_16 rfl ?_
    refine pt_X11_180 (n := 20) C (by decide) dX11_undo_17 rfl (fun S_17 => ?_)
    refine ge_iconst (v := 0) (n := 21) C dX11_undo_20 (by decide) rfl ?_
    refine ge_istore_n (n := 22) (lv2 := [(1, .int (0 : Int32)), (0, .ref (adr 35 0))]) C dX11_undo_21 rfl rfl (by decide) rfl ?_
    refine ge_jn (fun (jj : St → Op) => ∀ (S_54 : St), Ge w adr k 54 [(0, .ref (adr 35 0))] [] S_54 (jj S_54)) (fun S_54 => ?_) (fun kk22 hkk22 => ?_)
    · refine ge_aload_n (n := 55) C 0 rfl dX11_undo_54 rfl rfl ?_
      refine gt_X11_180 (n := 58) C (by decide) dX11_undo_55 rfl ?_
      exact ge_iret C Rr dX11_undo_58
    refine ge_lop (fun (jj : Int32 → St → Op) => ∀ (x1_22 : Int32) (S_22 : St), Ge w adr k 22 [(1, .int x1_22), (0, .ref (adr 35 0))] [] S_22 (jj x1_22 S_22)) (fun _ _ => ge_none) (fun ag22 hag22 x1_22 S_22 => ?_) FU (0 : Int32) S_17
    refine ge_iload_n (n := 23) C 0 rfl dX11_undo_22 rfl rfl ?_
    refine ge_bipush (v := 70) (n := 25) C dX11_undo_23 (by decide) rfl ?_
    refine ge_icmp_ge (t := 54) (n := 28) C dX11_undo_25 (by decide) rfl (fun h_25 => ?_) (fun h_25 => ?_)
    · refine ge_sub [1] rfl ?_
      exact hkk22 S_22
    · refine ge_aload_n (n := 29) C 1 rfl dX11_undo_28 rfl rfl ?_
      refine gt_X11_22 (n := 32) C (by decide) dX11_undo_29 rfl ?_
      refine ge_iload_n (n := 33) C 0 rfl dX11_undo_32 rfl rfl ?_
      refine ge_aload_n (n := 34) C 1 rfl dX11_undo_33 rfl rfl ?_
      refine gt_X11_68 (n := 37) C (by decide) dX11_undo_34 rfl ?_
      refine ge_bipush (v := 70) (n := 39) C dX11_undo_37 (by decide) rfl ?_
      refine ge_aload_n (n := 40) C 1 rfl dX11_undo_39 rfl rfl ?_
      refine gt_X11_180 (n := 43) C (by decide) dX11_undo_40 rfl ?_
      refine ge_imul (n := 44) C dX11_undo_43 rfl ?_
      refine ge_iload_n (n := 45) C 0 rfl dX11_undo_44 rfl rfl ?_
      refine ge_iadd (n := 46) C dX11_undo_45 rfl ?_
      refine al_54 (n := 47) C (by decide) dX11_undo_46 rfl ?_
      refine as_40 (n := 48) C (by decide) dX11_undo_47 rfl (fun S_47 => ?_)
      refine ge_iinc (n := 51) (v := (x1_22 + (1 : Int32))) (lv2 := [(1, .int (x1_22 + (1 : Int32))), (0, .ref (adr 35 0))]) C 0 rfl dX11_undo_48 rfl rfl (by decide) rfl ?_
      refine ge_goto (n := 22) C dX11_undo_51 (by decide) ?_
      exact hag22 (x1_22 + (1 : Int32)) S_47
  · refine ge_ldc (n := 9) C kc_X11_236 dX11_undo_7 rfl ?_
    exact ge_iret C Rr dX11_undo_9
theorem dX11_thick_0 : decode cX11_thick 0 = .ok (.aload_n 0, 1) := by decide +kernel
theorem dX11_thick_1 : decode cX11_thick 1 = .ok (.iload_n 1, 1) := by decide +kernel
theorem dX11_thick_2 : decode cX11_thick 2 = .ok (.invokevirtual 210, 3) := by decide +kernel
theorem dX11_thick_5 : decode cX11_thick 5 = .ok (.ifCond .ne 6, 3) := by decide +kernel
theorem dX11_thick_8 : decode cX11_thick 8 = .ok (.ldc 213, 2) := by decide +kernel
theorem dX11_thick_10 : decode cX11_thick 10 = .ok (.ireturn, 1) := by decide +kernel
theorem dX11_thick_11 : decode cX11_thick 11 = .ok (.iload_n 2, 1) := by decide +kernel
theorem dX11_thick_12 : decode cX11_thick 12 = .ok (.invokestatic 220, 3) := by decide +kernel
theorem dX11_thick_15 : decode cX11_thick 15 = .ok (.ifCond .eq 15, 3) := by decide +kernel
theorem dX11_thick_18 : decode cX11_thick 18 = .ok (.iload_n 3, 1) := by decide +kernel
theorem dX11_thick_19 : decode cX11_thick 19 = .ok (.i2l, 1) := by decide +kernel
theorem dX11_thick_20 : decode cX11_thick 20 = .ok (.lconst 0, 1) := by decide +kernel
theorem dX11_thick_21 : decode cX11_thick 21 = .ok (.ldc2_w 281, 3) := by decide +kernel
theorem dX11_thick_24 : decode cX11_thick 24 = .ok (.invokestatic 96, 3) := by decide +kernel
theorem dX11_thick_27 : decode cX11_thick 27 = .ok (.ifCond .ne 6, 3) := by decide +kernel
theorem dX11_thick_30 : decode cX11_thick 30 = .ok (.ldc 107, 2) := by decide +kernel
theorem dX11_thick_32 : decode cX11_thick 32 = .ok (.ireturn, 1) := by decide +kernel
theorem dX11_thick_33 : decode cX11_thick 33 = .ok (.aload_n 0, 1) := by decide +kernel
theorem dX11_thick_34 : decode cX11_thick 34 = .ok (.iload_n 1, 1) := by decide +kernel
theorem dX11_thick_35 : decode cX11_thick 35 = .ok (.invokevirtual 189, 3) := by decide +kernel
theorem dX11_thick_38 : decode cX11_thick 38 = .ok (.iconst 0, 1) := by decide +kernel
theorem dX11_thick_39 : decode cX11_thick 39 = .ok (.istore 4, 2) := by decide +kernel
theorem dX11_thick_41 : decode cX11_thick 41 = .ok (.iload 4, 2) := by decide +kernel
theorem dX11_thick_43 : decode cX11_thick 43 = .ok (.iload_n 3, 1) := by decide +kernel
theorem dX11_thick_44 : decode cX11_thick 44 = .ok (.if_icmp .ge 34, 3) := by decide +kernel
theorem dX11_thick_47 : decode cX11_thick 47 = .ok (.aload_n 0, 1) := by decide +kernel
theorem dX11_thick_48 : decode cX11_thick 48 = .ok (.aload_n 0, 1) := by decide +kernel
theorem dX11_thick_49 : decode cX11_thick 49 = .ok (.getfield 7, 3) := by decide +kernel
theorem dX11_thick_52 : decode cX11_thick 52 = .ok (.iload_n 1, 1) := by decide +kernel
theorem dX11_thick_53 : decode cX11_thick 53 = .ok (.iaload, 1) := by decide +kernel
theorem dX11_thick_54 : decode cX11_thick 54 = .ok (.aload_n 0, 1) := by decide +kernel
theorem dX11_thick_55 : decode cX11_thick 55 = .ok (.getfield 22, 3) := by decide +kernel
theorem dX11_thick_58 : decode cX11_thick 58 = .ok (.iconst 1, 1) := by decide +kernel
theorem dX11_thick_59 : decode cX11_thick 59 = .ok (.iaload, 1) := by decide +kernel
theorem dX11_thick_60 : decode cX11_thick 60 = .ok (.aload_n 0, 1) := by decide +kernel
theorem dX11_thick_61 : decode cX11_thick 61 = .ok (.getfield 22, 3) := by decide +kernel
theorem dX11_thick_64 : decode cX11_thick 64 = .ok (.iconst 0, 1) := by decide +kernel
theorem dX11_thick_65 : decode cX11_thick 65 = .ok (.iaload, 1) := by decide +kernel
theorem dX11_thick_66 : decode cX11_thick 66 = .ok (.iload 4, 2) := by decide +kernel
theorem dX11_thick_68 : decode cX11_thick 68 = .ok (.iadd, 1) := by decide +kernel
theorem dX11_thick_69 : decode cX11_thick 69 = .ok (.invokevirtual 230, 3) := by decide +kernel
theorem dX11_thick_72 : decode cX11_thick 72 = .ok (.iinc 4 1, 3) := by decide +kernel
theorem dX11_thick_75 : decode cX11_thick 75 = .ok (.goto (-34), 3) := by decide +kernel
theorem dX11_thick_78 : decode cX11_thick 78 = .ok (.aload_n 0, 1) := by decide +kernel
theorem dX11_thick_79 : decode cX11_thick 79 = .ok (.getfield 62, 3) := by decide +kernel
theorem dX11_thick_82 : decode cX11_thick 82 = .ok (.iload_n 2, 1) := by decide +kernel
theorem dX11_thick_83 : decode cX11_thick 83 = .ok (.iaload, 1) := by decide +kernel
theorem dX11_thick_84 : decode cX11_thick 84 = .ok (.ireturn, 1) := by decide +kernel
set_option maxRecDepth 100000 in
set_option maxHeartbeats 4000000 in
theorem mX11_thick {w : WX} {adr : Nat → Nat → Nat} (hj : Ij adr) (a1 : Int32) (a2 : Int32) (a3 : Int32) (S : St) : ∀ (l : Launch) (r : Int32) (S2 : St), fX11_thick a1 a2 a3 S = some (r, S2) → Mi l w adr yX11_thick cX11_thick 5 (some .int) 2 46 [.ref (adr 35 0), .int a1, .int a2, .int a3] S r S2 := by
  refine mi_of (lv := [(0, .ref (adr 35 0)), (1, .int a1), (2, .int a2), (3, .int a3)]) hj (plainFor_of_name (by decide +kernel)) rfl (Nat.le_of_ble_eq_true rfl) (fun k C Rr => ?_)
  have C : Cx w adr k cX11_thick RX11 5 2 46 := C
  refine ge_aload_n (n := 1) C 0 rfl dX11_thick_0 rfl rfl ?_
  refine ge_iload_n (n := 2) C 1 rfl dX11_thick_1 rfl rfl ?_
  refine ge_callVi (n := 5) C (mX11_isMan hj a1 S) gv_X11_210 (cl_35 (by decide)) rfl rfl hc_X11_isMan ⟨Nat.le_of_ble_eq_true rfl, Nat.le_of_ble_eq_true rfl⟩ rfl rfl (Nat.le_of_ble_eq_true rfl) dX11_thick_2 rfl (fun r_2 S_2 => ?_)
  refine ge_if_ne (t := 11) (n := 8) C dX11_thick_5 (by decide) rfl (fun h_5 => ?_) (fun h_5 => ?_)
  · refine ge_iload_n (n := 12) C 2 rfl dX11_thick_11 rfl rfl ?_
    refine ge_callSi (n := 15) C (mX11_isPlace hj a2 S_2) gv_X11_220 hc_X11_isPlace ⟨Nat.le_of_ble_eq_true rfl, Nat.le_of_ble_eq_true rfl⟩ rfl rfl (Nat.le_of_ble_eq_true rfl) dX11_thick_12 rfl (fun r_12 S_12 => ?_)
    refine ge_if_eq (t := 30) (n := 18) C dX11_thick_15 (by decide) rfl (fun h_15 => ?_) (fun h_15 => ?_)
    · refine ge_ldc (n := 32) C kc_X11_107 dX11_thick_30 rfl ?_
      exact ge_iret C Rr dX11_thick_32
    · refine ge_iload_n (n := 19) C 3 rfl dX11_thick_18 rfl rfl ?_
      refine ge_i2l (n := 20) C dX11_thick_19 rfl ?_
      refine ge_lconst (v := 0) (n := 21) C dX11_thick_20 (by decide) rfl ?_
      refine ge_ldc2 (n := 24) C kl_X11_281 dX11_thick_21 rfl ?_
      refine ge_callSi (n := 27) C (mX11_within hj (Int32.toInt64 a3) (0 : Int64) (200 : Int64) S_12) gv_X11_96 hc_X11_within ⟨Nat.le_of_ble_eq_true rfl, Nat.le_of_ble_eq_true rfl⟩ rfl rfl (Nat.le_of_ble_eq_true rfl) dX11_thick_24 rfl (fun r_24 S_24 => ?_)
      refine ge_if_ne (t := 33) (n := 30) C dX11_thick_27 (by decide) rfl (fun h_27 => ?_) (fun h_27 => ?_)
      · refine ge_aload_n (n := 34) C 0 rfl dX11_thick_33 rfl rfl ?_
        refine ge_iload_n (n := 35) C 1 rfl dX11_thick_34 rfl rfl ?_
        refine ge_callVv (n := 38) C (mX11_takesSkin hj a1 S_24) gv_X11_189 (cl_35 (by decide)) rfl rfl hc_X11_takesSkin ⟨Nat.le_of_ble_eq_true rfl, Nat.le_of_ble_eq_true rfl⟩ rfl rfl (Nat.le_of_ble_eq_true rfl) dX11_thick_35 rfl (fun _ S_35 => ?_)
        refine ge_iconst (v := 0) (n := 39) C dX11_thick_38 (by decide) rfl ?_
        refine ge_istore (n := 41) (lv2 := [(4, .int (0 : Int32)), (0, .ref (adr 35 0)), (1, .int a1), (2, .int a2), (3, .int a3)]) C dX11_thick_39 rfl (by decide) rfl ?_
        refine ge_jn (fun (jj : St → Op) => ∀ (S_78 : St), Ge w adr k 78 [(0, .ref (adr 35 0)), (2, .int a2)] [] S_78 (jj S_78)) (fun S_78 => ?_) (fun kk41 hkk41 => ?_)
        · refine ge_aload_n (n := 79) C 0 rfl dX11_thick_78 rfl rfl ?_
          refine gt_X11_62 (n := 82) C (by decide) dX11_thick_79 rfl ?_
          refine ge_iload_n (n := 83) C 1 rfl dX11_thick_82 rfl rfl ?_
          refine al_52 (n := 84) C (by decide) dX11_thick_83 rfl ?_
          exact ge_iret C Rr dX11_thick_84
        refine ge_lop (fun (jj : Int32 → St → Op) => ∀ (x4_41 : Int32) (S_41 : St), Ge w adr k 41 [(4, .int x4_41), (0, .ref (adr 35 0)), (1, .int a1), (2, .int a2), (3, .int a3)] [] S_41 (jj x4_41 S_41)) (fun _ _ => ge_none) (fun ag41 hag41 x4_41 S_41 => ?_) FU (0 : Int32) S_35
        refine ge_iload (n := 43) C 0 rfl dX11_thick_41 rfl ?_
        refine ge_iload_n (n := 44) C 4 rfl dX11_thick_43 rfl rfl ?_
        refine ge_icmp_ge (t := 78) (n := 47) C dX11_thick_44 (by decide) rfl (fun h_44 => ?_) (fun h_44 => ?_)
        · refine ge_sub [1, 3] rfl ?_
          exact hkk41 S_41
        · refine ge_aload_n (n := 48) C 1 rfl dX11_thick_47 rfl rfl ?_
          refine ge_aload_n (n := 49) C 1 rfl dX11_thick_48 rfl rfl ?_
          refine gt_X11_7 (n := 52) C (by decide) dX11_thick_49 rfl ?_
          refine ge_iload_n (n := 53) C 2 rfl dX11_thick_52 rfl rfl ?_
          refine al_36 (n := 54) C (by decide) dX11_thick_53 rfl ?_
          refine ge_aload_n (n := 55) C 1 rfl dX11_thick_54 rfl rfl ?_
          refine gt_X11_22 (n := 58) C (by decide) dX11_thick_55 rfl ?_
          refine ge_iconst (v := 1) (n := 59) C dX11_thick_58 (by decide) rfl ?_
          refine al_40 (n := 60) C (by decide) dX11_thick_59 rfl ?_
          refine ge_aload_n (n := 61) C 1 rfl dX11_thick_60 rfl rfl ?_
          refine gt_X11_22 (n := 64) C (by decide) dX11_thick_61 rfl ?_
          refine ge_iconst (v := 0) (n := 65) C dX11_thick_64 (by decide) rfl ?_
          refine al_40 (n := 66) C (by decide) dX11_thick_65 rfl ?_
          refine ge_iload (n := 68) C 0 rfl dX11_thick_66 rfl ?_
          refine ge_iadd (n := 69) C dX11_thick_68 rfl ?_
          refine ge_callVv (n := 72) C (mX11_tans hj (S_41 36 0 (Int32.toNatClampNeg a1)) (S_41 40 0 (Int32.toNatClampNeg (1 : Int32))) ((S_41 40 0 (Int32.toNatClampNeg (0 : Int32))) + x4_41) S_41) gv_X11_230 (cl_35 (by decide)) rfl rfl hc_X11_tans ⟨Nat.le_of_ble_eq_true rfl, Nat.le_of_ble_eq_true rfl⟩ rfl rfl (Nat.le_of_ble_eq_true rfl) dX11_thick_69 rfl (fun _ S_69 => ?_)
          refine ge_iinc (n := 75) (v := (x4_41 + (1 : Int32))) (lv2 := [(4, .int (x4_41 + (1 : Int32))), (0, .ref (adr 35 0)), (1, .int a1), (2, .int a2), (3, .int a3)]) C 0 rfl dX11_thick_72 rfl rfl (by decide) rfl ?_
          refine ge_goto (n := 41) C dX11_thick_75 (by decide) ?_
          exact hag41 (x4_41 + (1 : Int32)) S_69
      · refine ge_ldc (n := 32) C kc_X11_107 dX11_thick_30 rfl ?_
        exact ge_iret C Rr dX11_thick_32
  · refine ge_ldc (n := 10) C kc_X11_213 dX11_thick_8 rfl ?_
    exact ge_iret C Rr dX11_thick_10
theorem dX11_when_0 : decode cX11_when 0 = .ok (.aload_n 0, 1) := by decide +kernel
theorem dX11_when_1 : decode cX11_when 1 = .ok (.iload_n 1, 1) := by decide +kernel
theorem dX11_when_2 : decode cX11_when 2 = .ok (.invokevirtual 210, 3) := by decide +kernel
theorem dX11_when_5 : decode cX11_when 5 = .ok (.ifCond .eq 11, 3) := by decide +kernel
theorem dX11_when_8 : decode cX11_when 8 = .ok (.aload_n 0, 1) := by decide +kernel
theorem dX11_when_9 : decode cX11_when 9 = .ok (.iload_n 2, 1) := by decide +kernel
theorem dX11_when_10 : decode cX11_when 10 = .ok (.invokevirtual 223, 3) := by decide +kernel
theorem dX11_when_13 : decode cX11_when 13 = .ok (.ifCond .ne 6, 3) := by decide +kernel
theorem dX11_when_16 : decode cX11_when 16 = .ok (.ldc 213, 2) := by decide +kernel
theorem dX11_when_18 : decode cX11_when 18 = .ok (.ireturn, 1) := by decide +kernel
theorem dX11_when_19 : decode cX11_when 19 = .ok (.iload_n 3, 1) := by decide +kernel
theorem dX11_when_20 : decode cX11_when 20 = .ok (.i2l, 1) := by decide +kernel
theorem dX11_when_21 : decode cX11_when 21 = .ok (.lconst 0, 1) := by decide +kernel
theorem dX11_when_22 : decode cX11_when 22 = .ok (.lconst 1, 1) := by decide +kernel
theorem dX11_when_23 : decode cX11_when 23 = .ok (.invokestatic 96, 3) := by decide +kernel
theorem dX11_when_26 : decode cX11_when 26 = .ok (.ifCond .ne 6, 3) := by decide +kernel
theorem dX11_when_29 : decode cX11_when 29 = .ok (.ldc 107, 2) := by decide +kernel
theorem dX11_when_31 : decode cX11_when 31 = .ok (.ireturn, 1) := by decide +kernel
theorem dX11_when_32 : decode cX11_when 32 = .ok (.iconst (-1), 1) := by decide +kernel
theorem dX11_when_33 : decode cX11_when 33 = .ok (.istore 4, 2) := by decide +kernel
theorem dX11_when_35 : decode cX11_when 35 = .ok (.iconst (-1), 1) := by decide +kernel
theorem dX11_when_36 : decode cX11_when 36 = .ok (.istore 5, 2) := by decide +kernel
theorem dX11_when_38 : decode cX11_when 38 = .ok (.aload_n 0, 1) := by decide +kernel
theorem dX11_when_39 : decode cX11_when 39 = .ok (.iload_n 1, 1) := by decide +kernel
theorem dX11_when_40 : decode cX11_when 40 = .ok (.invokevirtual 189, 3) := by decide +kernel
theorem dX11_when_43 : decode cX11_when 43 = .ok (.iconst 0, 1) := by decide +kernel
theorem dX11_when_44 : decode cX11_when 44 = .ok (.istore 6, 2) := by decide +kernel
theorem dX11_when_46 : decode cX11_when 46 = .ok (.iload 6, 2) := by decide +kernel
theorem dX11_when_48 : decode cX11_when 48 = .ok (.sipush 200, 3) := by decide +kernel
theorem dX11_when_51 : decode cX11_when 51 = .ok (.if_icmp .gt 75, 3) := by decide +kernel
theorem dX11_when_54 : decode cX11_when 54 = .ok (.iload 4, 2) := by decide +kernel
theorem dX11_when_56 : decode cX11_when 56 = .ok (.ifCond .ge 17, 3) := by decide +kernel
theorem dX11_when_59 : decode cX11_when 59 = .ok (.aload_n 0, 1) := by decide +kernel
theorem dX11_when_60 : decode cX11_when 60 = .ok (.iload_n 2, 1) := by decide +kernel
theorem dX11_when_61 : decode cX11_when 61 = .ok (.invokevirtual 186, 3) := by decide +kernel
theorem dX11_when_64 : decode cX11_when 64 = .ok (.iconst 5, 1) := by decide +kernel
theorem dX11_when_65 : decode cX11_when 65 = .ok (.if_icmp .gt 8, 3) := by decide +kernel
theorem dX11_when_68 : decode cX11_when 68 = .ok (.iload 6, 2) := by decide +kernel
theorem dX11_when_70 : decode cX11_when 70 = .ok (.goto 5, 3) := by decide +kernel
theorem dX11_when_73 : decode cX11_when 73 = .ok (.iload 4, 2) := by decide +kernel
theorem dX11_when_75 : decode cX11_when 75 = .ok (.istore 4, 2) := by decide +kernel
theorem dX11_when_77 : decode cX11_when 77 = .ok (.aload_n 0, 1) := by decide +kernel
theorem dX11_when_78 : decode cX11_when 78 = .ok (.iload_n 2, 1) := by decide +kernel
theorem dX11_when_79 : decode cX11_when 79 = .ok (.invokevirtual 186, 3) := by decide +kernel
theorem dX11_when_82 : decode cX11_when 82 = .ok (.iconst 1, 1) := by decide +kernel
theorem dX11_when_83 : decode cX11_when 83 = .ok (.if_icmp .lt 8, 3) := by decide +kernel
theorem dX11_when_86 : decode cX11_when 86 = .ok (.iload 6, 2) := by decide +kernel
theorem dX11_when_88 : decode cX11_when 88 = .ok (.goto 5, 3) := by decide +kernel
theorem dX11_when_91 : decode cX11_when 91 = .ok (.iload 5, 2) := by decide +kernel
theorem dX11_when_93 : decode cX11_when 93 = .ok (.istore 5, 2) := by decide +kernel
theorem dX11_when_95 : decode cX11_when 95 = .ok (.aload_n 0, 1) := by decide +kernel
theorem dX11_when_96 : decode cX11_when 96 = .ok (.aload_n 0, 1) := by decide +kernel
theorem dX11_when_97 : decode cX11_when 97 = .ok (.getfield 7, 3) := by decide +kernel
theorem dX11_when_100 : decode cX11_when 100 = .ok (.iload_n 1, 1) := by decide +kernel
theorem dX11_when_101 : decode cX11_when 101 = .ok (.iaload, 1) := by decide +kernel
theorem dX11_when_102 : decode cX11_when 102 = .ok (.aload_n 0, 1) := by decide +kernel
theorem dX11_when_103 : decode cX11_when 103 = .ok (.getfield 22, 3) := by decide +kernel
theorem dX11_when_106 : decode cX11_when 106 = .ok (.iconst 1, 1) := by decide +kernel
theorem dX11_when_107 : decode cX11_when 107 = .ok (.iaload, 1) := by decide +kernel
theorem dX11_when_108 : decode cX11_when 108 = .ok (.aload_n 0, 1) := by decide +kernel
theorem dX11_when_109 : decode cX11_when 109 = .ok (.getfield 22, 3) := by decide +kernel
theorem dX11_when_112 : decode cX11_when 112 = .ok (.iconst 0, 1) := by decide +kernel
theorem dX11_when_113 : decode cX11_when 113 = .ok (.iaload, 1) := by decide +kernel
theorem dX11_when_114 : decode cX11_when 114 = .ok (.iload 6, 2) := by decide +kernel
theorem dX11_when_116 : decode cX11_when 116 = .ok (.iadd, 1) := by decide +kernel
theorem dX11_when_117 : decode cX11_when 117 = .ok (.invokevirtual 230, 3) := by decide +kernel
theorem dX11_when_120 : decode cX11_when 120 = .ok (.iinc 6 1, 3) := by decide +kernel
theorem dX11_when_123 : decode cX11_when 123 = .ok (.goto (-77), 3) := by decide +kernel
theorem dX11_when_126 : decode cX11_when 126 = .ok (.iload_n 3, 1) := by decide +kernel
theorem dX11_when_127 : decode cX11_when 127 = .ok (.ifCond .ne 8, 3) := by decide +kernel
theorem dX11_when_130 : decode cX11_when 130 = .ok (.iload 4, 2) := by decide +kernel
theorem dX11_when_132 : decode cX11_when 132 = .ok (.goto 5, 3) := by decide +kernel
theorem dX11_when_135 : decode cX11_when 135 = .ok (.iload 5, 2) := by decide +kernel
theorem dX11_when_137 : decode cX11_when 137 = .ok (.ireturn, 1) := by decide +kernel
set_option maxRecDepth 100000 in
set_option maxHeartbeats 4000000 in
theorem mX11_when {w : WX} {adr : Nat → Nat → Nat} (hj : Ij adr) (a1 : Int32) (a2 : Int32) (a3 : Int32) (S : St) : ∀ (l : Launch) (r : Int32) (S2 : St), fX11_when a1 a2 a3 S = some (r, S2) → Mi l w adr yX11_when cX11_when 7 (some .int) 2 46 [.ref (adr 35 0), .int a1, .int a2, .int a3] S r S2 := by
  refine mi_of (lv := [(0, .ref (adr 35 0)), (1, .int a1), (2, .int a2), (3, .int a3)]) hj (plainFor_of_name (by decide +kernel)) rfl (Nat.le_of_ble_eq_true rfl) (fun k C Rr => ?_)
  have C : Cx w adr k cX11_when RX11 7 2 46 := C
  refine ge_aload_n (n := 1) C 0 rfl dX11_when_0 rfl rfl ?_
  refine ge_iload_n (n := 2) C 1 rfl dX11_when_1 rfl rfl ?_
  refine ge_callVi (n := 5) C (mX11_isMan hj a1 S) gv_X11_210 (cl_35 (by decide)) rfl rfl hc_X11_isMan ⟨Nat.le_of_ble_eq_true rfl, Nat.le_of_ble_eq_true rfl⟩ rfl rfl (Nat.le_of_ble_eq_true rfl) dX11_when_2 rfl (fun r_2 S_2 => ?_)
  refine ge_if_eq (t := 16) (n := 8) C dX11_when_5 (by decide) rfl (fun h_5 => ?_) (fun h_5 => ?_)
  · refine ge_ldc (n := 18) C kc_X11_213 dX11_when_16 rfl ?_
    exact ge_iret C Rr dX11_when_18
  · refine ge_aload_n (n := 9) C 0 rfl dX11_when_8 rfl rfl ?_
    refine ge_iload_n (n := 10) C 2 rfl dX11_when_9 rfl rfl ?_
    refine ge_callVi (n := 13) C (mX11_isSaying hj a2 S_2) gv_X11_223 (cl_35 (by decide)) rfl rfl hc_X11_isSaying ⟨Nat.le_of_ble_eq_true rfl, Nat.le_of_ble_eq_true rfl⟩ rfl rfl (Nat.le_of_ble_eq_true rfl) dX11_when_10 rfl (fun r_10 S_10 => ?_)
    refine ge_if_ne (t := 19) (n := 16) C dX11_when_13 (by decide) rfl (fun h_13 => ?_) (fun h_13 => ?_)
    · refine ge_iload_n (n := 20) C 3 rfl dX11_when_19 rfl rfl ?_
      refine ge_i2l (n := 21) C dX11_when_20 rfl ?_
      refine ge_lconst (v := 0) (n := 22) C dX11_when_21 (by decide) rfl ?_
      refine ge_lconst (v := 1) (n := 23) C dX11_when_22 (by decide) rfl ?_
      refine ge_callSi (n := 26) C (mX11_within hj (Int32.toInt64 a3) (0 : Int64) (1 : Int64) S_10) gv_X11_96 hc_X11_within ⟨Nat.le_of_ble_eq_true rfl, Nat.le_of_ble_eq_true rfl⟩ rfl rfl (Nat.le_of_ble_eq_true rfl) dX11_when_23 rfl (fun r_23 S_23 => ?_)
      refine ge_if_ne (t := 32) (n := 29) C dX11_when_26 (by decide) rfl (fun h_26 => ?_) (fun h_26 => ?_)
      · refine ge_iconst (v := -1) (n := 33) C dX11_when_32 (by decide) rfl ?_
        refine ge_istore (n := 35) (lv2 := [(4, .int (-1 : Int32)), (0, .ref (adr 35 0)), (1, .int a1), (2, .int a2), (3, .int a3)]) C dX11_when_33 rfl (by decide) rfl ?_
        refine ge_iconst (v := -1) (n := 36) C dX11_when_35 (by decide) rfl ?_
        refine ge_istore (n := 38) (lv2 := [(5, .int (-1 : Int32)), (4, .int (-1 : Int32)), (0, .ref (adr 35 0)), (1, .int a1), (2, .int a2), (3, .int a3)]) C dX11_when_36 rfl (by decide) rfl ?_
        refine ge_aload_n (n := 39) C 2 rfl dX11_when_38 rfl rfl ?_
        refine ge_iload_n (n := 40) C 3 rfl dX11_when_39 rfl rfl ?_
        refine ge_callVv (n := 43) C (mX11_takesSkin hj a1 S_23) gv_X11_189 (cl_35 (by decide)) rfl rfl hc_X11_takesSkin ⟨Nat.le_of_ble_eq_true rfl, Nat.le_of_ble_eq_true rfl⟩ rfl rfl (Nat.le_of_ble_eq_true rfl) dX11_when_40 rfl (fun _ S_40 => ?_)
        refine ge_iconst (v := 0) (n := 44) C dX11_when_43 (by decide) rfl ?_
        refine ge_istore (n := 46) (lv2 := [(6, .int (0 : Int32)), (5, .int (-1 : Int32)), (4, .int (-1 : Int32)), (0, .ref (adr 35 0)), (1, .int a1), (2, .int a2), (3, .int a3)]) C dX11_when_44 rfl (by decide) rfl ?_
        refine ge_jn (fun (jj : Int32 → Int32 → St → Op) => ∀ (x5_126 : Int32) (x4_126 : Int32) (S_126 : St), Ge w adr k 126 [(5, .int x5_126), (4, .int x4_126), (3, .int a3)] [] S_126 (jj x5_126 x4_126 S_126)) (fun x5_126 x4_126 S_126 => ?_) (fun kk46 hkk46 => ?_)
        · refine ge_iload_n (n := 127) C 2 rfl dX11_when_126 rfl rfl ?_
          refine ge_if_ne (t := 135) (n := 130) C dX11_when_127 (by decide) rfl (fun h_127 => ?_) (fun h_127 => ?_)
          · refine ge_iload (n := 137) C 0 rfl dX11_when_135 rfl ?_
            exact ge_iret C Rr dX11_when_137
          · refine ge_iload (n := 132) C 1 rfl dX11_when_130 rfl ?_
            refine ge_goto (n := 137) C dX11_when_132 (by decide) ?_
            exact ge_iret C Rr dX11_when_137
        refine ge_lop (fun (jj : Int32 → Int32 → Int32 → St → Op) => ∀ (x6_46 : Int32) (x5_46 : Int32) (x4_46 : Int32) (S_46 : St), Ge w adr k 46 [(6, .int x6_46), (5, .int x5_46), (4, .int x4_46), (0, .ref (adr 35 0)), (1, .int a1), (2, .int a2), (3, .int a3)] [] S_46 (jj x6_46 x5_46 x4_46 S_46)) (fun _ _ _ _ => ge_none) (fun ag46 hag46 x6_46 x5_46 x4_46 S_46 => ?_) FU (0 : Int32) (-1 : Int32) (-1 : Int32) S_40
        refine ge_iload (n := 48) C 0 rfl dX11_when_46 rfl ?_
        refine ge_sipush (v := 200) (n := 51) C dX11_when_48 (by decide) rfl ?_
        refine ge_icmp_gt (t := 126) (n := 54) C dX11_when_51 (by decide) rfl (fun h_51 => ?_) (fun h_51 => ?_)
        · refine ge_sub [1, 2, 6] rfl ?_
          exact hkk46 x5_46 x4_46 S_46
        · refine ge_iload (n := 56) C 2 rfl dX11_when_54 rfl ?_
          refine ge_jn (fun (jj : Int32 → St → Op) => ∀ (v0_75 : Int32) (S_75 : St), Ge w adr k 75 [(6, .int x6_46), (5, .int x5_46), (0, .ref (adr 35 0)), (1, .int a1), (2, .int a2), (3, .int a3)] [.int v0_75] S_75 (jj v0_75 S_75)) (fun v0_75 S_75 => ?_) (fun j75 hj75 => ?_)
          · refine ge_istore (n := 77) (lv2 := [(4, .int v0_75), (6, .int x6_46), (5, .int x5_46), (0, .ref (adr 35 0)), (1, .int a1), (2, .int a2), (3, .int a3)]) C dX11_when_75 rfl (by decide) rfl ?_
            refine ge_aload_n (n := 78) C 3 rfl dX11_when_77 rfl rfl ?_
            refine ge_iload_n (n := 79) C 5 rfl dX11_when_78 rfl rfl ?_
            refine ge_callVi (n := 82) C (mX11_hurts hj a2 S_75) gv_X11_186 (cl_35 (by decide)) rfl rfl hc_X11_hurts ⟨Nat.le_of_ble_eq_true rfl, Nat.le_of_ble_eq_true rfl⟩ rfl rfl (Nat.le_of_ble_eq_true rfl) dX11_when_79 rfl (fun r_79 S_79 => ?_)
            refine ge_iconst (v := 1) (n := 83) C dX11_when_82 (by decide) rfl ?_
            refine ge_jn (fun (jj : Int32 → Op) => ∀ (v0_93 : Int32), Ge w adr k 93 [(4, .int v0_75), (6, .int x6_46), (0, .ref (adr 35 0)), (1, .int a1), (2, .int a2), (3, .int a3)] [.int v0_93] S_79 (jj v0_93)) (fun v0_93 => ?_) (fun j93 hj93 => ?_)
            · refine ge_istore (n := 95) (lv2 := [(5, .int v0_93), (4, .int v0_75), (6, .int x6_46), (0, .ref (adr 35 0)), (1, .int a1), (2, .int a2), (3, .int a3)]) C dX11_when_93 rfl (by decide) rfl ?_
              refine ge_aload_n (n := 96) C 3 rfl dX11_when_95 rfl rfl ?_
              refine ge_aload_n (n := 97) C 3 rfl dX11_when_96 rfl rfl ?_
              refine gt_X11_7 (n := 100) C (by decide) dX11_when_97 rfl ?_
              refine ge_iload_n (n := 101) C 4 rfl dX11_when_100 rfl rfl ?_
              refine al_36 (n := 102) C (by decide) dX11_when_101 rfl ?_
              refine ge_aload_n (n := 103) C 3 rfl dX11_when_102 rfl rfl ?_
              refine gt_X11_22 (n := 106) C (by decide) dX11_when_103 rfl ?_
              refine ge_iconst (v := 1) (n := 107) C dX11_when_106 (by decide) rfl ?_
              refine al_40 (n := 108) C (by decide) dX11_when_107 rfl ?_
              refine ge_aload_n (n := 109) C 3 rfl dX11_when_108 rfl rfl ?_
              refine gt_X11_22 (n := 112) C (by decide) dX11_when_109 rfl ?_
              refine ge_iconst (v := 0) (n := 113) C dX11_when_112 (by decide) rfl ?_
              refine al_40 (n := 114) C (by decide) dX11_when_113 rfl ?_
              refine ge_iload (n := 116) C 2 rfl dX11_when_114 rfl ?_
              refine ge_iadd (n := 117) C dX11_when_116 rfl ?_
              refine ge_callVv (n := 120) C (mX11_tans hj (S_79 36 0 (Int32.toNatClampNeg a1)) (S_79 40 0 (Int32.toNatClampNeg (1 : Int32))) ((S_79 40 0 (Int32.toNatClampNeg (0 : Int32))) + x6_46) S_79) gv_X11_230 (cl_35 (by decide)) rfl rfl hc_X11_tans ⟨Nat.le_of_ble_eq_true rfl, Nat.le_of_ble_eq_true rfl⟩ rfl rfl (Nat.le_of_ble_eq_true rfl) dX11_when_117 rfl (fun _ S_117 => ?_)
              refine ge_iinc (n := 123) (v := (x6_46 + (1 : Int32))) (lv2 := [(6, .int (x6_46 + (1 : Int32))), (5, .int v0_93), (4, .int v0_75), (0, .ref (adr 35 0)), (1, .int a1), (2, .int a2), (3, .int a3)]) C 2 rfl dX11_when_120 rfl rfl (by decide) rfl ?_
              refine ge_goto (n := 46) C dX11_when_123 (by decide) ?_
              exact hag46 (x6_46 + (1 : Int32)) v0_93 v0_75 S_117
            refine ge_icmp_lt (t := 91) (n := 86) C dX11_when_83 (by decide) rfl (fun h_83 => ?_) (fun h_83 => ?_)
            · refine ge_iload (n := 93) C 2 rfl dX11_when_91 rfl ?_
              refine ge_sub [0, 1, 3, 4, 5, 6] rfl ?_
              exact hj93 x5_46
            · refine ge_iload (n := 88) C 1 rfl dX11_when_86 rfl ?_
              refine ge_goto (n := 93) C dX11_when_88 (by decide) ?_
              refine ge_sub [0, 1, 3, 4, 5, 6] rfl ?_
              exact hj93 x6_46
          refine ge_jn (fun (jj : St → Op) => ∀ (S_73 : St), Ge w adr k 73 [(6, .int x6_46), (5, .int x5_46), (4, .int x4_46), (0, .ref (adr 35 0)), (1, .int a1), (2, .int a2), (3, .int a3)] [] S_73 (jj S_73)) (fun S_73 => ?_) (fun j73 hj73 => ?_)
          · refine ge_iload (n := 75) C 2 rfl dX11_when_73 rfl ?_
            refine ge_sub [0, 1, 3, 4, 5, 6] rfl ?_
            exact hj75 x4_46 S_73
          refine ge_if_ge (t := 73) (n := 59) C dX11_when_56 (by decide) rfl (fun h_56 => ?_) (fun h_56 => ?_)
          · exact hj73 S_46
          · refine ge_aload_n (n := 60) C 3 rfl dX11_when_59 rfl rfl ?_
            refine ge_iload_n (n := 61) C 5 rfl dX11_when_60 rfl rfl ?_
            refine ge_callVi (n := 64) C (mX11_hurts hj a2 S_46) gv_X11_186 (cl_35 (by decide)) rfl rfl hc_X11_hurts ⟨Nat.le_of_ble_eq_true rfl, Nat.le_of_ble_eq_true rfl⟩ rfl rfl (Nat.le_of_ble_eq_true rfl) dX11_when_61 rfl (fun r_61 S_61 => ?_)
            refine ge_iconst (v := 5) (n := 65) C dX11_when_64 (by decide) rfl ?_
            refine ge_icmp_gt (t := 73) (n := 68) C dX11_when_65 (by decide) rfl (fun h_65 => ?_) (fun h_65 => ?_)
            · exact hj73 S_61
            · refine ge_iload (n := 70) C 0 rfl dX11_when_68 rfl ?_
              refine ge_goto (n := 75) C dX11_when_70 (by decide) ?_
              refine ge_sub [0, 1, 3, 4, 5, 6] rfl ?_
              exact hj75 x6_46 S_61
      · refine ge_ldc (n := 31) C kc_X11_107 dX11_when_29 rfl ?_
        exact ge_iret C Rr dX11_when_31
    · refine ge_ldc (n := 18) C kc_X11_213 dX11_when_16 rfl ?_
      exact ge_iret C Rr dX11_when_18
