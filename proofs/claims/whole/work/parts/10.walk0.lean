theorem dX0_add_0 : decode cX0_add 0 = .ok (.aload_n 0, 1) := by decide +kernel
theorem dX0_add_1 : decode cX0_add 1 = .ok (.getfield 18, 3) := by decide +kernel
theorem dX0_add_4 : decode cX0_add 4 = .ok (.bipush 15, 2) := by decide +kernel
theorem dX0_add_6 : decode cX0_add 6 = .ok (.if_icmp .ge 33, 3) := by decide +kernel
theorem dX0_add_9 : decode cX0_add 9 = .ok (.aload_n 0, 1) := by decide +kernel
theorem dX0_add_10 : decode cX0_add 10 = .ok (.getfield 9, 3) := by decide +kernel
theorem dX0_add_13 : decode cX0_add 13 = .ok (.aload_n 0, 1) := by decide +kernel
theorem dX0_add_14 : decode cX0_add 14 = .ok (.getfield 18, 3) := by decide +kernel
theorem dX0_add_17 : decode cX0_add 17 = .ok (.iload_n 1, 1) := by decide +kernel
theorem dX0_add_18 : decode cX0_add 18 = .ok (.iastore, 1) := by decide +kernel
theorem dX0_add_19 : decode cX0_add 19 = .ok (.aload_n 0, 1) := by decide +kernel
theorem dX0_add_20 : decode cX0_add 20 = .ok (.getfield 15, 3) := by decide +kernel
theorem dX0_add_23 : decode cX0_add 23 = .ok (.aload_n 0, 1) := by decide +kernel
theorem dX0_add_24 : decode cX0_add 24 = .ok (.getfield 18, 3) := by decide +kernel
theorem dX0_add_27 : decode cX0_add 27 = .ok (.iload_n 2, 1) := by decide +kernel
theorem dX0_add_28 : decode cX0_add 28 = .ok (.iastore, 1) := by decide +kernel
theorem dX0_add_29 : decode cX0_add 29 = .ok (.aload_n 0, 1) := by decide +kernel
theorem dX0_add_30 : decode cX0_add 30 = .ok (.dup, 1) := by decide +kernel
theorem dX0_add_31 : decode cX0_add 31 = .ok (.getfield 18, 3) := by decide +kernel
theorem dX0_add_34 : decode cX0_add 34 = .ok (.iconst 1, 1) := by decide +kernel
theorem dX0_add_35 : decode cX0_add 35 = .ok (.iadd, 1) := by decide +kernel
theorem dX0_add_36 : decode cX0_add 36 = .ok (.putfield 18, 3) := by decide +kernel
theorem dX0_add_39 : decode cX0_add 39 = .ok (.aload_n 0, 1) := by decide +kernel
theorem dX0_add_40 : decode cX0_add 40 = .ok (.getfield 18, 3) := by decide +kernel
theorem dX0_add_43 : decode cX0_add 43 = .ok (.ireturn, 1) := by decide +kernel
set_option maxRecDepth 100000 in
set_option maxHeartbeats 4000000 in
theorem mX0_add {w : WX} {adr : Nat → Nat → Nat} (hj : Ij adr) (a1 : Int32) (a2 : Int32) (S : St) : ∀ (l : Launch) (r : Int32) (S2 : St), fX0_add a1 a2 S = some (r, S2) → Mi l w adr yX0_add cX0_add 3 (some .int) 0 0 [.ref (adr 27 0), .int a1, .int a2] S r S2 := by
  refine mi_of (lv := [(0, .ref (adr 27 0)), (1, .int a1), (2, .int a2)]) hj (plainFor_of_name (by decide +kernel)) rfl (Nat.le_of_ble_eq_true rfl) (fun k C Rr => ?_)
  have C : Cx w adr k cX0_add RX0 3 0 0 := C
  refine ge_aload_n (n := 1) C 0 rfl dX0_add_0 rfl rfl ?_
  refine gt_X0_18 (n := 4) C (by decide) dX0_add_1 rfl ?_
  refine ge_bipush (v := 15) (n := 6) C dX0_add_4 (by decide) rfl ?_
  refine ge_icmp_ge (t := 39) (n := 9) C dX0_add_6 (by decide) rfl (fun h_6 => ?_) (fun h_6 => ?_)
  · refine ge_aload_n (n := 40) C 0 rfl dX0_add_39 rfl rfl ?_
    refine gt_X0_18 (n := 43) C (by decide) dX0_add_40 rfl ?_
    exact ge_iret C Rr dX0_add_43
  · refine ge_aload_n (n := 10) C 0 rfl dX0_add_9 rfl rfl ?_
    refine gt_X0_9 (n := 13) C (by decide) dX0_add_10 rfl ?_
    refine ge_aload_n (n := 14) C 0 rfl dX0_add_13 rfl rfl ?_
    refine gt_X0_18 (n := 17) C (by decide) dX0_add_14 rfl ?_
    refine ge_iload_n (n := 18) C 1 rfl dX0_add_17 rfl rfl ?_
    refine as_28 (n := 19) C (by decide) dX0_add_18 rfl (fun S_18 => ?_)
    refine ge_aload_n (n := 20) C 0 rfl dX0_add_19 rfl rfl ?_
    refine gt_X0_15 (n := 23) C (by decide) dX0_add_20 rfl ?_
    refine ge_aload_n (n := 24) C 0 rfl dX0_add_23 rfl rfl ?_
    refine gt_X0_18 (n := 27) C (by decide) dX0_add_24 rfl ?_
    refine ge_iload_n (n := 28) C 2 rfl dX0_add_27 rfl rfl ?_
    refine as_29 (n := 29) C (by decide) dX0_add_28 rfl (fun S_28 => ?_)
    refine ge_aload_n (n := 30) C 0 rfl dX0_add_29 rfl rfl ?_
    refine ge_dup (n := 31) C dX0_add_30 rfl rfl ?_
    refine gt_X0_18 (n := 34) C (by decide) dX0_add_31 rfl ?_
    refine ge_iconst (v := 1) (n := 35) C dX0_add_34 (by decide) rfl ?_
    refine ge_iadd (n := 36) C dX0_add_35 rfl ?_
    refine pt_X0_18 (n := 39) C (by decide) dX0_add_36 rfl (fun S_36 => ?_)
    refine ge_aload_n (n := 40) C 0 rfl dX0_add_39 rfl rfl ?_
    refine gt_X0_18 (n := 43) C (by decide) dX0_add_40 rfl ?_
    exact ge_iret C Rr dX0_add_43
theorem dX0_firstWrong_0 : decode cX0_firstWrong 0 = .ok (.iconst 0, 1) := by decide +kernel
theorem dX0_firstWrong_1 : decode cX0_firstWrong 1 = .ok (.istore_n 2, 1) := by decide +kernel
theorem dX0_firstWrong_2 : decode cX0_firstWrong 2 = .ok (.iload_n 2, 1) := by decide +kernel
theorem dX0_firstWrong_3 : decode cX0_firstWrong 3 = .ok (.aload_n 0, 1) := by decide +kernel
theorem dX0_firstWrong_4 : decode cX0_firstWrong 4 = .ok (.getfield 18, 3) := by decide +kernel
theorem dX0_firstWrong_7 : decode cX0_firstWrong 7 = .ok (.if_icmp .ge 34, 3) := by decide +kernel
theorem dX0_firstWrong_10 : decode cX0_firstWrong 10 = .ok (.aload_n 1, 1) := by decide +kernel
theorem dX0_firstWrong_11 : decode cX0_firstWrong 11 = .ok (.getfield 22, 3) := by decide +kernel
theorem dX0_firstWrong_14 : decode cX0_firstWrong 14 = .ok (.aload_n 0, 1) := by decide +kernel
theorem dX0_firstWrong_15 : decode cX0_firstWrong 15 = .ok (.getfield 9, 3) := by decide +kernel
theorem dX0_firstWrong_18 : decode cX0_firstWrong 18 = .ok (.iload_n 2, 1) := by decide +kernel
theorem dX0_firstWrong_19 : decode cX0_firstWrong 19 = .ok (.iaload, 1) := by decide +kernel
theorem dX0_firstWrong_20 : decode cX0_firstWrong 20 = .ok (.aaload, 1) := by decide +kernel
theorem dX0_firstWrong_21 : decode cX0_firstWrong 21 = .ok (.getfield 28, 3) := by decide +kernel
theorem dX0_firstWrong_24 : decode cX0_firstWrong 24 = .ok (.aload_n 0, 1) := by decide +kernel
theorem dX0_firstWrong_25 : decode cX0_firstWrong 25 = .ok (.getfield 15, 3) := by decide +kernel
theorem dX0_firstWrong_28 : decode cX0_firstWrong 28 = .ok (.iload_n 2, 1) := by decide +kernel
theorem dX0_firstWrong_29 : decode cX0_firstWrong 29 = .ok (.iaload, 1) := by decide +kernel
theorem dX0_firstWrong_30 : decode cX0_firstWrong 30 = .ok (.if_icmp .eq 5, 3) := by decide +kernel
theorem dX0_firstWrong_33 : decode cX0_firstWrong 33 = .ok (.iload_n 2, 1) := by decide +kernel
theorem dX0_firstWrong_34 : decode cX0_firstWrong 34 = .ok (.ireturn, 1) := by decide +kernel
theorem dX0_firstWrong_35 : decode cX0_firstWrong 35 = .ok (.iinc 2 1, 3) := by decide +kernel
theorem dX0_firstWrong_38 : decode cX0_firstWrong 38 = .ok (.goto (-36), 3) := by decide +kernel
theorem dX0_firstWrong_41 : decode cX0_firstWrong 41 = .ok (.iconst (-1), 1) := by decide +kernel
theorem dX0_firstWrong_42 : decode cX0_firstWrong 42 = .ok (.ireturn, 1) := by decide +kernel
set_option maxRecDepth 100000 in
set_option maxHeartbeats 4000000 in
theorem mX0_firstWrong {w : WX} {adr : Nat → Nat → Nat} (hj : Ij adr)  (S : St) : ∀ (l : Launch) (r : Int32) (S2 : St), fX0_firstWrong S = some (r, S2) → Mi l w adr yX0_firstWrong cX0_firstWrong 3 (some .int) 0 0 [.ref (adr 27 0), .ref (adr 9 0)] S r S2 := by
  refine mi_of (lv := [(0, .ref (adr 27 0)), (1, .ref (adr 9 0))]) hj (plainFor_of_name (by decide +kernel)) rfl (Nat.le_of_ble_eq_true rfl) (fun k C Rr => ?_)
  have C : Cx w adr k cX0_firstWrong RX0 3 0 0 := C
  refine ge_iconst (v := 0) (n := 1) C dX0_firstWrong_0 (by decide) rfl ?_
  refine ge_istore_n (n := 2) (lv2 := [(2, .int (0 : Int32)), (0, .ref (adr 27 0)), (1, .ref (adr 9 0))]) C dX0_firstWrong_1 rfl rfl (by decide) rfl ?_
  refine ge_jn (fun (jj : Op) => Ge w adr k 41 [] [] S (jj)) ?_ (fun kk2 hkk2 => ?_)
  · refine ge_iconst (v := -1) (n := 42) C dX0_firstWrong_41 (by decide) rfl ?_
    exact ge_iret C Rr dX0_firstWrong_42
  refine ge_lop (fun (jj : Int32 → Op) => ∀ (x2_2 : Int32), Ge w adr k 2 [(2, .int x2_2), (0, .ref (adr 27 0)), (1, .ref (adr 9 0))] [] S (jj x2_2)) (fun _ => ge_none) (fun ag2 hag2 x2_2 => ?_) FU (0 : Int32)
  refine ge_iload_n (n := 3) C 0 rfl dX0_firstWrong_2 rfl rfl ?_
  refine ge_aload_n (n := 4) C 1 rfl dX0_firstWrong_3 rfl rfl ?_
  refine gt_X0_18 (n := 7) C (by decide) dX0_firstWrong_4 rfl ?_
  refine ge_icmp_ge (t := 41) (n := 10) C dX0_firstWrong_7 (by decide) rfl (fun h_7 => ?_) (fun h_7 => ?_)
  · refine ge_sub [] rfl ?_
    exact hkk2
  · refine ge_aload_n (n := 11) C 2 rfl dX0_firstWrong_10 rfl rfl ?_
    refine gt_X0_22 (n := 14) C (by decide) dX0_firstWrong_11 rfl ?_
    refine ge_aload_n (n := 15) C 1 rfl dX0_firstWrong_14 rfl rfl ?_
    refine gt_X0_9 (n := 18) C (by decide) dX0_firstWrong_15 rfl ?_
    refine ge_iload_n (n := 19) C 0 rfl dX0_firstWrong_18 rfl rfl ?_
    refine al_28 (n := 20) C (by decide) dX0_firstWrong_19 rfl ?_
    refine al_10 (n := 21) C (by decide) dX0_firstWrong_20 rfl (fun h_20 => ?_)
    refine gt_X0_28 (n := 24) C (bd_c h_20 (by decide)) dX0_firstWrong_21 rfl ?_
    refine ge_aload_n (n := 25) C 1 rfl dX0_firstWrong_24 rfl rfl ?_
    refine gt_X0_15 (n := 28) C (by decide) dX0_firstWrong_25 rfl ?_
    refine ge_iload_n (n := 29) C 0 rfl dX0_firstWrong_28 rfl rfl ?_
    refine al_29 (n := 30) C (by decide) dX0_firstWrong_29 rfl ?_
    refine ge_icmp_eq (t := 35) (n := 33) C dX0_firstWrong_30 (by decide) rfl (fun h_30 => ?_) (fun h_30 => ?_)
    · refine ge_iinc (n := 38) (v := (x2_2 + (1 : Int32))) (lv2 := [(2, .int (x2_2 + (1 : Int32))), (0, .ref (adr 27 0)), (1, .ref (adr 9 0))]) C 0 rfl dX0_firstWrong_35 rfl rfl (by decide) rfl ?_
      refine ge_goto (n := 2) C dX0_firstWrong_38 (by decide) ?_
      exact hag2 (x2_2 + (1 : Int32))
    · refine ge_iload_n (n := 34) C 0 rfl dX0_firstWrong_33 rfl rfl ?_
      exact ge_iret C Rr dX0_firstWrong_34
theorem dX1_next_0 : decode cX1_next 0 = .ok (.aload_n 0, 1) := by decide +kernel
theorem dX1_next_1 : decode cX1_next 1 = .ok (.aload_n 0, 1) := by decide +kernel
theorem dX1_next_2 : decode cX1_next 2 = .ok (.getfield 7, 3) := by decide +kernel
theorem dX1_next_5 : decode cX1_next 5 = .ok (.i2l, 1) := by decide +kernel
theorem dX1_next_6 : decode cX1_next 6 = .ok (.ldc2_w 13, 3) := by decide +kernel
theorem dX1_next_9 : decode cX1_next 9 = .ok (.lmul, 1) := by decide +kernel
theorem dX1_next_10 : decode cX1_next 10 = .ok (.ldc2_w 15, 3) := by decide +kernel
theorem dX1_next_13 : decode cX1_next 13 = .ok (.ladd, 1) := by decide +kernel
theorem dX1_next_14 : decode cX1_next 14 = .ok (.ldc2_w 17, 3) := by decide +kernel
theorem dX1_next_17 : decode cX1_next 17 = .ok (.land, 1) := by decide +kernel
theorem dX1_next_18 : decode cX1_next 18 = .ok (.l2i, 1) := by decide +kernel
theorem dX1_next_19 : decode cX1_next 19 = .ok (.putfield 7, 3) := by decide +kernel
theorem dX1_next_22 : decode cX1_next 22 = .ok (.iload_n 1, 1) := by decide +kernel
theorem dX1_next_23 : decode cX1_next 23 = .ok (.ifCond .le 15, 3) := by decide +kernel
theorem dX1_next_26 : decode cX1_next 26 = .ok (.aload_n 0, 1) := by decide +kernel
theorem dX1_next_27 : decode cX1_next 27 = .ok (.getfield 7, 3) := by decide +kernel
theorem dX1_next_30 : decode cX1_next 30 = .ok (.ldc 19, 2) := by decide +kernel
theorem dX1_next_32 : decode cX1_next 32 = .ok (.idiv, 1) := by decide +kernel
theorem dX1_next_33 : decode cX1_next 33 = .ok (.iload_n 1, 1) := by decide +kernel
theorem dX1_next_34 : decode cX1_next 34 = .ok (.irem, 1) := by decide +kernel
theorem dX1_next_35 : decode cX1_next 35 = .ok (.goto 4, 3) := by decide +kernel
theorem dX1_next_38 : decode cX1_next 38 = .ok (.iconst 0, 1) := by decide +kernel
theorem dX1_next_39 : decode cX1_next 39 = .ok (.ireturn, 1) := by decide +kernel
set_option maxRecDepth 100000 in
set_option maxHeartbeats 4000000 in
theorem mX1_next {w : WX} {adr : Nat → Nat → Nat} (hj : Ij adr) (a1 : Int32) (S : St) : ∀ (l : Launch) (r : Int32) (S2 : St), fX1_next a1 S = some (r, S2) → Mi l w adr yX1_next cX1_next 2 (some .int) 0 0 [.ref (adr 19 0), .int a1] S r S2 := by
  refine mi_of (lv := [(0, .ref (adr 19 0)), (1, .int a1)]) hj (plainFor_of_name (by decide +kernel)) rfl (Nat.le_of_ble_eq_true rfl) (fun k C Rr => ?_)
  have C : Cx w adr k cX1_next RX1 2 0 0 := C
  refine ge_aload_n (n := 1) C 0 rfl dX1_next_0 rfl rfl ?_
  refine ge_aload_n (n := 2) C 0 rfl dX1_next_1 rfl rfl ?_
  refine gt_X1_7 (n := 5) C (by decide) dX1_next_2 rfl ?_
  refine ge_i2l (n := 6) C dX1_next_5 rfl ?_
  refine ge_ldc2 (n := 9) C kl_X1_13 dX1_next_6 rfl ?_
  refine ge_lmul (n := 10) C dX1_next_9 rfl ?_
  refine ge_ldc2 (n := 13) C kl_X1_15 dX1_next_10 rfl ?_
  refine ge_ladd (n := 14) C dX1_next_13 rfl ?_
  refine ge_ldc2 (n := 17) C kl_X1_17 dX1_next_14 rfl ?_
  refine ge_land (n := 18) C dX1_next_17 rfl ?_
  refine ge_l2i (n := 19) C dX1_next_18 rfl ?_
  refine pt_X1_7 (n := 22) C (by decide) dX1_next_19 rfl (fun S_19 => ?_)
  refine ge_iload_n (n := 23) C 1 rfl dX1_next_22 rfl rfl ?_
  refine ge_if_le (t := 38) (n := 26) C dX1_next_23 (by decide) rfl (fun h_23 => ?_) (fun h_23 => ?_)
  · refine ge_iconst (v := 0) (n := 39) C dX1_next_38 (by decide) rfl ?_
    exact ge_iret C Rr dX1_next_39
  · refine ge_aload_n (n := 27) C 0 rfl dX1_next_26 rfl rfl ?_
    refine gt_X1_7 (n := 30) C (by decide) dX1_next_27 rfl ?_
    refine ge_ldc (n := 32) C kc_X1_19 dX1_next_30 rfl ?_
    refine ge_idiv0 (n := 33) C (by decide) dX1_next_32 rfl ?_
    refine ge_iload_n (n := 34) C 1 rfl dX1_next_33 rfl rfl ?_
    refine ge_irem (n := 35) C dX1_next_34 rfl (fun _ => ?_)
    refine ge_goto (n := 39) C dX1_next_35 (by decide) ?_
    exact ge_iret C Rr dX1_next_39
theorem dX2_add_0 : decode cX2_add 0 = .ok (.aload_n 0, 1) := by decide +kernel
theorem dX2_add_1 : decode cX2_add 1 = .ok (.getfield 30, 3) := by decide +kernel
theorem dX2_add_4 : decode cX2_add 4 = .ok (.bipush 6, 2) := by decide +kernel
theorem dX2_add_6 : decode cX2_add 6 = .ok (.if_icmp .ge 43, 3) := by decide +kernel
theorem dX2_add_9 : decode cX2_add 9 = .ok (.aload_n 0, 1) := by decide +kernel
theorem dX2_add_10 : decode cX2_add 10 = .ok (.getfield 9, 3) := by decide +kernel
theorem dX2_add_13 : decode cX2_add 13 = .ok (.aload_n 0, 1) := by decide +kernel
theorem dX2_add_14 : decode cX2_add 14 = .ok (.getfield 30, 3) := by decide +kernel
theorem dX2_add_17 : decode cX2_add 17 = .ok (.iload_n 1, 1) := by decide +kernel
theorem dX2_add_18 : decode cX2_add 18 = .ok (.iastore, 1) := by decide +kernel
theorem dX2_add_19 : decode cX2_add 19 = .ok (.aload_n 0, 1) := by decide +kernel
theorem dX2_add_20 : decode cX2_add 20 = .ok (.getfield 15, 3) := by decide +kernel
theorem dX2_add_23 : decode cX2_add 23 = .ok (.aload_n 0, 1) := by decide +kernel
theorem dX2_add_24 : decode cX2_add 24 = .ok (.getfield 30, 3) := by decide +kernel
theorem dX2_add_27 : decode cX2_add 27 = .ok (.iload_n 2, 1) := by decide +kernel
theorem dX2_add_28 : decode cX2_add 28 = .ok (.iastore, 1) := by decide +kernel
theorem dX2_add_29 : decode cX2_add 29 = .ok (.aload_n 0, 1) := by decide +kernel
theorem dX2_add_30 : decode cX2_add 30 = .ok (.getfield 18, 3) := by decide +kernel
theorem dX2_add_33 : decode cX2_add 33 = .ok (.aload_n 0, 1) := by decide +kernel
theorem dX2_add_34 : decode cX2_add 34 = .ok (.getfield 30, 3) := by decide +kernel
theorem dX2_add_37 : decode cX2_add 37 = .ok (.iload_n 3, 1) := by decide +kernel
theorem dX2_add_38 : decode cX2_add 38 = .ok (.iastore, 1) := by decide +kernel
theorem dX2_add_39 : decode cX2_add 39 = .ok (.aload_n 0, 1) := by decide +kernel
theorem dX2_add_40 : decode cX2_add 40 = .ok (.dup, 1) := by decide +kernel
theorem dX2_add_41 : decode cX2_add 41 = .ok (.getfield 30, 3) := by decide +kernel
theorem dX2_add_44 : decode cX2_add 44 = .ok (.iconst 1, 1) := by decide +kernel
theorem dX2_add_45 : decode cX2_add 45 = .ok (.iadd, 1) := by decide +kernel
theorem dX2_add_46 : decode cX2_add 46 = .ok (.putfield 30, 3) := by decide +kernel
theorem dX2_add_49 : decode cX2_add 49 = .ok (.aload_n 0, 1) := by decide +kernel
theorem dX2_add_50 : decode cX2_add 50 = .ok (.getfield 30, 3) := by decide +kernel
theorem dX2_add_53 : decode cX2_add 53 = .ok (.ireturn, 1) := by decide +kernel
set_option maxRecDepth 100000 in
set_option maxHeartbeats 4000000 in
theorem mX2_add {w : WX} {adr : Nat → Nat → Nat} (hj : Ij adr) (a1 : Int32) (a2 : Int32) (a3 : Int32) (S : St) : ∀ (l : Launch) (r : Int32) (S2 : St), fX2_add a1 a2 a3 S = some (r, S2) → Mi l w adr yX2_add cX2_add 4 (some .int) 0 0 [.ref (adr 20 0), .int a1, .int a2, .int a3] S r S2 := by
  refine mi_of (lv := [(0, .ref (adr 20 0)), (1, .int a1), (2, .int a2), (3, .int a3)]) hj (plainFor_of_name (by decide +kernel)) rfl (Nat.le_of_ble_eq_true rfl) (fun k C Rr => ?_)
  have C : Cx w adr k cX2_add RX2 4 0 0 := C
  refine ge_aload_n (n := 1) C 0 rfl dX2_add_0 rfl rfl ?_
  refine gt_X2_30 (n := 4) C (by decide) dX2_add_1 rfl ?_
  refine ge_bipush (v := 6) (n := 6) C dX2_add_4 (by decide) rfl ?_
  refine ge_icmp_ge (t := 49) (n := 9) C dX2_add_6 (by decide) rfl (fun h_6 => ?_) (fun h_6 => ?_)
  · refine ge_aload_n (n := 50) C 0 rfl dX2_add_49 rfl rfl ?_
    refine gt_X2_30 (n := 53) C (by decide) dX2_add_50 rfl ?_
    exact ge_iret C Rr dX2_add_53
  · refine ge_aload_n (n := 10) C 0 rfl dX2_add_9 rfl rfl ?_
    refine gt_X2_9 (n := 13) C (by decide) dX2_add_10 rfl ?_
    refine ge_aload_n (n := 14) C 0 rfl dX2_add_13 rfl rfl ?_
    refine gt_X2_30 (n := 17) C (by decide) dX2_add_14 rfl ?_
    refine ge_iload_n (n := 18) C 1 rfl dX2_add_17 rfl rfl ?_
    refine as_21 (n := 19) C (by decide) dX2_add_18 rfl (fun S_18 => ?_)
    refine ge_aload_n (n := 20) C 0 rfl dX2_add_19 rfl rfl ?_
    refine gt_X2_15 (n := 23) C (by decide) dX2_add_20 rfl ?_
    refine ge_aload_n (n := 24) C 0 rfl dX2_add_23 rfl rfl ?_
    refine gt_X2_30 (n := 27) C (by decide) dX2_add_24 rfl ?_
    refine ge_iload_n (n := 28) C 2 rfl dX2_add_27 rfl rfl ?_
    refine as_22 (n := 29) C (by decide) dX2_add_28 rfl (fun S_28 => ?_)
    refine ge_aload_n (n := 30) C 0 rfl dX2_add_29 rfl rfl ?_
    refine gt_X2_18 (n := 33) C (by decide) dX2_add_30 rfl ?_
    refine ge_aload_n (n := 34) C 0 rfl dX2_add_33 rfl rfl ?_
    refine gt_X2_30 (n := 37) C (by decide) dX2_add_34 rfl ?_
    refine ge_iload_n (n := 38) C 3 rfl dX2_add_37 rfl rfl ?_
    refine as_23 (n := 39) C (by decide) dX2_add_38 rfl (fun S_38 => ?_)
    refine ge_aload_n (n := 40) C 0 rfl dX2_add_39 rfl rfl ?_
    refine ge_dup (n := 41) C dX2_add_40 rfl rfl ?_
    refine gt_X2_30 (n := 44) C (by decide) dX2_add_41 rfl ?_
    refine ge_iconst (v := 1) (n := 45) C dX2_add_44 (by decide) rfl ?_
    refine ge_iadd (n := 46) C dX2_add_45 rfl ?_
    refine pt_X2_30 (n := 49) C (by decide) dX2_add_46 rfl (fun S_46 => ?_)
    refine ge_aload_n (n := 50) C 0 rfl dX2_add_49 rfl rfl ?_
    refine gt_X2_30 (n := 53) C (by decide) dX2_add_50 rfl ?_
    exact ge_iret C Rr dX2_add_53
theorem dX6_pain_0 : decode cX6_pain 0 = .ok (.aload_n 0, 1) := by decide +kernel
theorem dX6_pain_1 : decode cX6_pain 1 = .ok (.getfield 20, 3) := by decide +kernel
theorem dX6_pain_4 : decode cX6_pain 4 = .ok (.iload_n 2, 1) := by decide +kernel
theorem dX6_pain_5 : decode cX6_pain 5 = .ok (.iaload, 1) := by decide +kernel
theorem dX6_pain_6 : decode cX6_pain 6 = .ok (.istore_n 3, 1) := by decide +kernel
theorem dX6_pain_7 : decode cX6_pain 7 = .ok (.iconst 0, 1) := by decide +kernel
theorem dX6_pain_8 : decode cX6_pain 8 = .ok (.aload_n 0, 1) := by decide +kernel
theorem dX6_pain_9 : decode cX6_pain 9 = .ok (.getfield 23, 3) := by decide +kernel
theorem dX6_pain_12 : decode cX6_pain 12 = .ok (.iload_n 2, 1) := by decide +kernel
theorem dX6_pain_13 : decode cX6_pain 13 = .ok (.iaload, 1) := by decide +kernel
theorem dX6_pain_14 : decode cX6_pain 14 = .ok (.aload_n 1, 1) := by decide +kernel
theorem dX6_pain_15 : decode cX6_pain 15 = .ok (.getfield 39, 3) := by decide +kernel
theorem dX6_pain_18 : decode cX6_pain 18 = .ok (.iload_n 3, 1) := by decide +kernel
theorem dX6_pain_19 : decode cX6_pain 19 = .ok (.iaload, 1) := by decide +kernel
theorem dX6_pain_20 : decode cX6_pain 20 = .ok (.iadd, 1) := by decide +kernel
theorem dX6_pain_21 : decode cX6_pain 21 = .ok (.aload_n 1, 1) := by decide +kernel
theorem dX6_pain_22 : decode cX6_pain 22 = .ok (.getfield 43, 3) := by decide +kernel
theorem dX6_pain_25 : decode cX6_pain 25 = .ok (.iload_n 3, 1) := by decide +kernel
theorem dX6_pain_26 : decode cX6_pain 26 = .ok (.iaload, 1) := by decide +kernel
theorem dX6_pain_27 : decode cX6_pain 27 = .ok (.isub, 1) := by decide +kernel
theorem dX6_pain_28 : decode cX6_pain 28 = .ok (.invokestatic 46, 3) := by decide +kernel
theorem dX6_pain_31 : decode cX6_pain 31 = .ok (.ireturn, 1) := by decide +kernel
set_option maxRecDepth 100000 in
set_option maxHeartbeats 4000000 in
theorem mX6_pain {w : WX} {adr : Nat → Nat → Nat} (hj : Ij adr) {o0 : Nat} (ho0 : o0 < 2) {o1 : Nat} (ho1 : o1 < 7) (a2 : Int32) (S : St) : ∀ (l : Launch) (r : Int32) (S2 : St), fX6_pain o0 o1 a2 S = some (r, S2) → Mi l w adr yX6_pain cX6_pain 4 (some .int) 1 21 [.ref (adr 3 o0), .ref (adr 11 o1), .int a2] S r S2 := by
  refine mi_of (lv := [(0, .ref (adr 3 o0)), (1, .ref (adr 11 o1)), (2, .int a2)]) hj (plainFor_of_name (by decide +kernel)) rfl (Nat.le_of_ble_eq_true rfl) (fun k C Rr => ?_)
  have C : Cx w adr k cX6_pain RX6 4 1 21 := C
  refine ge_aload_n (n := 1) C 0 rfl dX6_pain_0 rfl rfl ?_
  refine gt_X6_20 (n := 4) C ho0 dX6_pain_1 rfl ?_
  refine ge_iload_n (n := 5) C 2 rfl dX6_pain_4 rfl rfl ?_
  refine al_7 (n := 6) C ho0 dX6_pain_5 rfl ?_
  refine ge_bi (fun x3_6 => ?_)
  refine ge_istore_n (n := 7) (lv2 := [(3, .int x3_6), (0, .ref (adr 3 o0)), (1, .ref (adr 11 o1)), (2, .int a2)]) C dX6_pain_6 rfl rfl (by decide) rfl ?_
  refine ge_iconst (v := 0) (n := 8) C dX6_pain_7 (by decide) rfl ?_
  refine ge_aload_n (n := 9) C 1 rfl dX6_pain_8 rfl rfl ?_
  refine gt_X6_23 (n := 12) C ho0 dX6_pain_9 rfl ?_
  refine ge_iload_n (n := 13) C 3 rfl dX6_pain_12 rfl rfl ?_
  refine al_8 (n := 14) C ho0 dX6_pain_13 rfl ?_
  refine ge_aload_n (n := 15) C 2 rfl dX6_pain_14 rfl rfl ?_
  refine gt_X6_39 (n := 18) C ho1 dX6_pain_15 rfl ?_
  refine ge_iload_n (n := 19) C 0 rfl dX6_pain_18 rfl rfl ?_
  refine al_12 (n := 20) C ho1 dX6_pain_19 rfl ?_
  refine ge_iadd (n := 21) C dX6_pain_20 rfl ?_
  refine ge_aload_n (n := 22) C 2 rfl dX6_pain_21 rfl rfl ?_
  refine gt_X6_43 (n := 25) C ho1 dX6_pain_22 rfl ?_
  refine ge_iload_n (n := 26) C 0 rfl dX6_pain_25 rfl rfl ?_
  refine al_13 (n := 27) C ho1 dX6_pain_26 rfl ?_
  refine ge_isub (n := 28) C dX6_pain_27 rfl ?_
  refine ge_mmax (n := 31) C ml_X6_46 (by decide) (Nat.le_of_ble_eq_true rfl) dX6_pain_28 rfl ?_
  exact ge_iret C Rr dX6_pain_31
theorem dX2_agree_0 : decode cX2_agree 0 = .ok (.iconst 0, 1) := by decide +kernel
theorem dX2_agree_1 : decode cX2_agree 1 = .ok (.istore 4, 2) := by decide +kernel
theorem dX2_agree_3 : decode cX2_agree 3 = .ok (.iload 4, 2) := by decide +kernel
theorem dX2_agree_5 : decode cX2_agree 5 = .ok (.aload_n 0, 1) := by decide +kernel
theorem dX2_agree_6 : decode cX2_agree 6 = .ok (.getfield 30, 3) := by decide +kernel
theorem dX2_agree_9 : decode cX2_agree 9 = .ok (.if_icmp .ge 44, 3) := by decide +kernel
theorem dX2_agree_12 : decode cX2_agree 12 = .ok (.aload_n 0, 1) := by decide +kernel
theorem dX2_agree_13 : decode cX2_agree 13 = .ok (.getfield 9, 3) := by decide +kernel
theorem dX2_agree_16 : decode cX2_agree 16 = .ok (.iload 4, 2) := by decide +kernel
theorem dX2_agree_18 : decode cX2_agree 18 = .ok (.iaload, 1) := by decide +kernel
theorem dX2_agree_19 : decode cX2_agree 19 = .ok (.iload_n 3, 1) := by decide +kernel
theorem dX2_agree_20 : decode cX2_agree 20 = .ok (.if_icmp .ne 27, 3) := by decide +kernel
theorem dX2_agree_23 : decode cX2_agree 23 = .ok (.aload_n 1, 1) := by decide +kernel
theorem dX2_agree_24 : decode cX2_agree 24 = .ok (.aload_n 2, 1) := by decide +kernel
theorem dX2_agree_25 : decode cX2_agree 25 = .ok (.aload_n 0, 1) := by decide +kernel
theorem dX2_agree_26 : decode cX2_agree 26 = .ok (.getfield 15, 3) := by decide +kernel
theorem dX2_agree_29 : decode cX2_agree 29 = .ok (.iload 4, 2) := by decide +kernel
theorem dX2_agree_31 : decode cX2_agree 31 = .ok (.iaload, 1) := by decide +kernel
theorem dX2_agree_32 : decode cX2_agree 32 = .ok (.invokevirtual 34, 3) := by decide +kernel
theorem dX2_agree_35 : decode cX2_agree 35 = .ok (.aload_n 0, 1) := by decide +kernel
theorem dX2_agree_36 : decode cX2_agree 36 = .ok (.getfield 18, 3) := by decide +kernel
theorem dX2_agree_39 : decode cX2_agree 39 = .ok (.iload 4, 2) := by decide +kernel
theorem dX2_agree_41 : decode cX2_agree 41 = .ok (.iaload, 1) := by decide +kernel
theorem dX2_agree_42 : decode cX2_agree 42 = .ok (.if_icmp .eq 5, 3) := by decide +kernel
theorem dX2_agree_45 : decode cX2_agree 45 = .ok (.iconst 0, 1) := by decide +kernel
theorem dX2_agree_46 : decode cX2_agree 46 = .ok (.ireturn, 1) := by decide +kernel
theorem dX2_agree_47 : decode cX2_agree 47 = .ok (.iinc 4 1, 3) := by decide +kernel
theorem dX2_agree_50 : decode cX2_agree 50 = .ok (.goto (-47), 3) := by decide +kernel
theorem dX2_agree_53 : decode cX2_agree 53 = .ok (.iconst 1, 1) := by decide +kernel
theorem dX2_agree_54 : decode cX2_agree 54 = .ok (.ireturn, 1) := by decide +kernel
set_option maxRecDepth 100000 in
set_option maxHeartbeats 4000000 in
theorem mX2_agree {w : WX} {adr : Nat → Nat → Nat} (hj : Ij adr) {o1 : Nat} (ho1 : o1 < 2) {o2 : Nat} (ho2 : o2 < 7) (a3 : Int32) (S : St) : ∀ (l : Launch) (r : Int32) (S2 : St), fX2_agree o1 o2 a3 S = some (r, S2) → Mi l w adr yX2_agree cX2_agree 5 (some .boolean) 2 44 [.ref (adr 20 0), .ref (adr 3 o1), .ref (adr 11 o2), .int a3] S r S2 := by
  refine mi_of (lv := [(0, .ref (adr 20 0)), (1, .ref (adr 3 o1)), (2, .ref (adr 11 o2)), (3, .int a3)]) hj (plainFor_of_name (by decide +kernel)) rfl (Nat.le_of_ble_eq_true rfl) (fun k C Rr => ?_)
  have C : Cx w adr k cX2_agree RX2 5 2 44 := C
  refine ge_iconst (v := 0) (n := 1) C dX2_agree_0 (by decide) rfl ?_
  refine ge_istore (n := 3) (lv2 := [(4, .int (0 : Int32)), (0, .ref (adr 20 0)), (1, .ref (adr 3 o1)), (2, .ref (adr 11 o2)), (3, .int a3)]) C dX2_agree_1 rfl (by decide) rfl ?_
  refine ge_jn (fun (jj : St → Op) => ∀ (S_53 : St), Ge w adr k 53 [] [] S_53 (jj S_53)) (fun S_53 => ?_) (fun kk3 hkk3 => ?_)
  · refine ge_iconst (v := 1) (n := 54) C dX2_agree_53 (by decide) rfl ?_
    exact ge_zret C Rr (by decide) dX2_agree_54
  refine ge_lop (fun (jj : Int32 → St → Op) => ∀ (x4_3 : Int32) (S_3 : St), Ge w adr k 3 [(4, .int x4_3), (0, .ref (adr 20 0)), (1, .ref (adr 3 o1)), (2, .ref (adr 11 o2)), (3, .int a3)] [] S_3 (jj x4_3 S_3)) (fun _ _ => ge_none) (fun ag3 hag3 x4_3 S_3 => ?_) FU (0 : Int32) S
  refine ge_iload (n := 5) C 0 rfl dX2_agree_3 rfl ?_
  refine ge_aload_n (n := 6) C 1 rfl dX2_agree_5 rfl rfl ?_
  refine gt_X2_30 (n := 9) C (by decide) dX2_agree_6 rfl ?_
  refine ge_icmp_ge (t := 53) (n := 12) C dX2_agree_9 (by decide) rfl (fun h_9 => ?_) (fun h_9 => ?_)
  · refine ge_sub [] rfl ?_
    exact hkk3 S_3
  · refine ge_aload_n (n := 13) C 1 rfl dX2_agree_12 rfl rfl ?_
    refine gt_X2_9 (n := 16) C (by decide) dX2_agree_13 rfl ?_
    refine ge_iload (n := 18) C 0 rfl dX2_agree_16 rfl ?_
    refine al_21 (n := 19) C (by decide) dX2_agree_18 rfl ?_
    refine ge_iload_n (n := 20) C 4 rfl dX2_agree_19 rfl rfl ?_
    refine ge_icmp_ne (t := 47) (n := 23) C dX2_agree_20 (by decide) rfl (fun h_20 => ?_) (fun h_20 => ?_)
    · refine ge_iinc (n := 50) (v := (x4_3 + (1 : Int32))) (lv2 := [(4, .int (x4_3 + (1 : Int32))), (0, .ref (adr 20 0)), (1, .ref (adr 3 o1)), (2, .ref (adr 11 o2)), (3, .int a3)]) C 0 rfl dX2_agree_47 rfl rfl (by decide) rfl ?_
      refine ge_goto (n := 3) C dX2_agree_50 (by decide) ?_
      exact hag3 (x4_3 + (1 : Int32)) S_3
    · refine ge_aload_n (n := 24) C 2 rfl dX2_agree_23 rfl rfl ?_
      refine ge_aload_n (n := 25) C 3 rfl dX2_agree_24 rfl rfl ?_
      refine ge_aload_n (n := 26) C 1 rfl dX2_agree_25 rfl rfl ?_
      refine gt_X2_15 (n := 29) C (by decide) dX2_agree_26 rfl ?_
      refine ge_iload (n := 31) C 0 rfl dX2_agree_29 rfl ?_
      refine al_22 (n := 32) C (by decide) dX2_agree_31 rfl ?_
      refine ge_callVi (n := 35) C (mX6_pain hj (o0 := o1) ho1 (o1 := o2) ho2 (S_3 22 0 (Int32.toNatClampNeg x4_3)) S_3) gv_X2_34 (cl_3 ho1) rfl rfl hc_X6_pain ⟨Nat.le_of_ble_eq_true rfl, Nat.le_of_ble_eq_true rfl⟩ rfl rfl (Nat.le_of_ble_eq_true rfl) dX2_agree_32 rfl (fun r_32 S_32 => ?_)
      refine ge_aload_n (n := 36) C 1 rfl dX2_agree_35 rfl rfl ?_
      refine gt_X2_18 (n := 39) C (by decide) dX2_agree_36 rfl ?_
      refine ge_iload (n := 41) C 0 rfl dX2_agree_39 rfl ?_
      refine al_23 (n := 42) C (by decide) dX2_agree_41 rfl ?_
      refine ge_icmp_eq (t := 47) (n := 45) C dX2_agree_42 (by decide) rfl (fun h_42 => ?_) (fun h_42 => ?_)
      · refine ge_iinc (n := 50) (v := (x4_3 + (1 : Int32))) (lv2 := [(4, .int (x4_3 + (1 : Int32))), (0, .ref (adr 20 0)), (1, .ref (adr 3 o1)), (2, .ref (adr 11 o2)), (3, .int a3)]) C 0 rfl dX2_agree_47 rfl rfl (by decide) rfl ?_
        refine ge_goto (n := 3) C dX2_agree_50 (by decide) ?_
        exact hag3 (x4_3 + (1 : Int32)) S_32
      · refine ge_iconst (v := 0) (n := 46) C dX2_agree_45 (by decide) rfl ?_
        exact ge_zret C Rr (by decide) dX2_agree_46
theorem dX2_clearParts_0 : decode cX2_clearParts 0 = .ok (.aload_n 0, 1) := by decide +kernel
theorem dX2_clearParts_1 : decode cX2_clearParts 1 = .ok (.iconst 0, 1) := by decide +kernel
theorem dX2_clearParts_2 : decode cX2_clearParts 2 = .ok (.putfield 39, 3) := by decide +kernel
theorem dX2_clearParts_5 : decode cX2_clearParts 5 = .ok (.iconst 0, 1) := by decide +kernel
theorem dX2_clearParts_6 : decode cX2_clearParts 6 = .ok (.istore_n 1, 1) := by decide +kernel
theorem dX2_clearParts_7 : decode cX2_clearParts 7 = .ok (.iload_n 1, 1) := by decide +kernel
theorem dX2_clearParts_8 : decode cX2_clearParts 8 = .ok (.bipush 8, 2) := by decide +kernel
theorem dX2_clearParts_10 : decode cX2_clearParts 10 = .ok (.if_icmp .ge 23, 3) := by decide +kernel
theorem dX2_clearParts_13 : decode cX2_clearParts 13 = .ok (.aload_n 0, 1) := by decide +kernel
theorem dX2_clearParts_14 : decode cX2_clearParts 14 = .ok (.getfield 21, 3) := by decide +kernel
theorem dX2_clearParts_17 : decode cX2_clearParts 17 = .ok (.iload_n 1, 1) := by decide +kernel
theorem dX2_clearParts_18 : decode cX2_clearParts 18 = .ok (.iconst (-1), 1) := by decide +kernel
theorem dX2_clearParts_19 : decode cX2_clearParts 19 = .ok (.iastore, 1) := by decide +kernel
theorem dX2_clearParts_20 : decode cX2_clearParts 20 = .ok (.aload_n 0, 1) := by decide +kernel
theorem dX2_clearParts_21 : decode cX2_clearParts 21 = .ok (.getfield 27, 3) := by decide +kernel
theorem dX2_clearParts_24 : decode cX2_clearParts 24 = .ok (.iload_n 1, 1) := by decide +kernel
theorem dX2_clearParts_25 : decode cX2_clearParts 25 = .ok (.iconst 0, 1) := by decide +kernel
theorem dX2_clearParts_26 : decode cX2_clearParts 26 = .ok (.iastore, 1) := by decide +kernel
theorem dX2_clearParts_27 : decode cX2_clearParts 27 = .ok (.iinc 1 1, 3) := by decide +kernel
theorem dX2_clearParts_30 : decode cX2_clearParts 30 = .ok (.goto (-23), 3) := by decide +kernel
theorem dX2_clearParts_33 : decode cX2_clearParts 33 = .ok (.return_, 1) := by decide +kernel
set_option maxRecDepth 100000 in
set_option maxHeartbeats 4000000 in
theorem mX2_clearParts {w : WX} {adr : Nat → Nat → Nat} (hj : Ij adr)  (S : St) : ∀ (l : Launch) (r : Int32) (S2 : St), fX2_clearParts S = some (r, S2) → Mv l w adr yX2_clearParts cX2_clearParts 2 none 0 0 [.ref (adr 20 0)] S S2 := by
  refine mv_of (lv := [(0, .ref (adr 20 0))]) hj (plainFor_of_name (by decide +kernel)) rfl (Nat.le_of_ble_eq_true rfl) (fun k C Rr => ?_)
  have C : Cx w adr k cX2_clearParts RX2 2 0 0 := C
  refine ge_aload_n (n := 1) C 0 rfl dX2_clearParts_0 rfl rfl ?_
  refine ge_iconst (v := 0) (n := 2) C dX2_clearParts_1 (by decide) rfl ?_
  refine pt_X2_39 (n := 5) C (by decide) dX2_clearParts_2 rfl (fun S_2 => ?_)
  refine ge_iconst (v := 0) (n := 6) C dX2_clearParts_5 (by decide) rfl ?_
  refine ge_istore_n (n := 7) (lv2 := [(1, .int (0 : Int32)), (0, .ref (adr 20 0))]) C dX2_clearParts_6 rfl rfl (by decide) rfl ?_
  refine ge_jn (fun (jj : St → Op) => ∀ (S_33 : St), Ge w adr k 33 [] [] S_33 (jj S_33)) (fun S_33 => ?_) (fun kk7 hkk7 => ?_)
  · exact ge_vret C Rr dX2_clearParts_33
  refine ge_lop (fun (jj : Int32 → St → Op) => ∀ (x1_7 : Int32) (S_7 : St), Ge w adr k 7 [(1, .int x1_7), (0, .ref (adr 20 0))] [] S_7 (jj x1_7 S_7)) (fun _ _ => ge_none) (fun ag7 hag7 x1_7 S_7 => ?_) FU (0 : Int32) S_2
  refine ge_iload_n (n := 8) C 0 rfl dX2_clearParts_7 rfl rfl ?_
  refine ge_bipush (v := 8) (n := 10) C dX2_clearParts_8 (by decide) rfl ?_
  refine ge_icmp_ge (t := 33) (n := 13) C dX2_clearParts_10 (by decide) rfl (fun h_10 => ?_) (fun h_10 => ?_)
  · refine ge_sub [] rfl ?_
    exact hkk7 S_7
  · refine ge_aload_n (n := 14) C 1 rfl dX2_clearParts_13 rfl rfl ?_
    refine gt_X2_21 (n := 17) C (by decide) dX2_clearParts_14 rfl ?_
    refine ge_iload_n (n := 18) C 0 rfl dX2_clearParts_17 rfl rfl ?_
    refine ge_iconst (v := -1) (n := 19) C dX2_clearParts_18 (by decide) rfl ?_
    refine as_24 (n := 20) C (by decide) dX2_clearParts_19 rfl (fun S_19 => ?_)
    refine ge_aload_n (n := 21) C 1 rfl dX2_clearParts_20 rfl rfl ?_
    refine gt_X2_27 (n := 24) C (by decide) dX2_clearParts_21 rfl ?_
    refine ge_iload_n (n := 25) C 0 rfl dX2_clearParts_24 rfl rfl ?_
    refine ge_iconst (v := 0) (n := 26) C dX2_clearParts_25 (by decide) rfl ?_
    refine as_26 (n := 27) C (by decide) dX2_clearParts_26 rfl (fun S_26 => ?_)
    refine ge_iinc (n := 30) (v := (x1_7 + (1 : Int32))) (lv2 := [(1, .int (x1_7 + (1 : Int32))), (0, .ref (adr 20 0))]) C 0 rfl dX2_clearParts_27 rfl rfl (by decide) rfl ?_
    refine ge_goto (n := 7) C dX2_clearParts_30 (by decide) ?_
    exact hag7 (x1_7 + (1 : Int32)) S_26
theorem dX2_part_0 : decode cX2_part 0 = .ok (.aload_n 0, 1) := by decide +kernel
theorem dX2_part_1 : decode cX2_part 1 = .ok (.dup, 1) := by decide +kernel
theorem dX2_part_2 : decode cX2_part 2 = .ok (.getfield 39, 3) := by decide +kernel
theorem dX2_part_5 : decode cX2_part 5 = .ok (.iconst 1, 1) := by decide +kernel
theorem dX2_part_6 : decode cX2_part 6 = .ok (.iadd, 1) := by decide +kernel
theorem dX2_part_7 : decode cX2_part 7 = .ok (.putfield 39, 3) := by decide +kernel
theorem dX2_part_10 : decode cX2_part 10 = .ok (.iconst 0, 1) := by decide +kernel
theorem dX2_part_11 : decode cX2_part 11 = .ok (.istore_n 3, 1) := by decide +kernel
theorem dX2_part_12 : decode cX2_part 12 = .ok (.iload_n 3, 1) := by decide +kernel
theorem dX2_part_13 : decode cX2_part 13 = .ok (.aload_n 1, 1) := by decide +kernel
theorem dX2_part_14 : decode cX2_part 14 = .ok (.getfield 42, 3) := by decide +kernel
theorem dX2_part_17 : decode cX2_part 17 = .ok (.if_icmp .ge 75, 3) := by decide +kernel
theorem dX2_part_20 : decode cX2_part 20 = .ok (.aload_n 1, 1) := by decide +kernel
theorem dX2_part_21 : decode cX2_part 21 = .ok (.aload_n 2, 1) := by decide +kernel
theorem dX2_part_22 : decode cX2_part 22 = .ok (.iload_n 3, 1) := by decide +kernel
theorem dX2_part_23 : decode cX2_part 23 = .ok (.invokevirtual 34, 3) := by decide +kernel
theorem dX2_part_26 : decode cX2_part 26 = .ok (.istore 4, 2) := by decide +kernel
theorem dX2_part_28 : decode cX2_part 28 = .ok (.aload_n 0, 1) := by decide +kernel
theorem dX2_part_29 : decode cX2_part 29 = .ok (.getfield 24, 3) := by decide +kernel
theorem dX2_part_32 : decode cX2_part 32 = .ok (.iload_n 3, 1) := by decide +kernel
theorem dX2_part_33 : decode cX2_part 33 = .ok (.iload 4, 2) := by decide +kernel
theorem dX2_part_35 : decode cX2_part 35 = .ok (.aload_n 0, 1) := by decide +kernel
theorem dX2_part_36 : decode cX2_part 36 = .ok (.getfield 21, 3) := by decide +kernel
theorem dX2_part_39 : decode cX2_part 39 = .ok (.iload_n 3, 1) := by decide +kernel
theorem dX2_part_40 : decode cX2_part 40 = .ok (.iaload, 1) := by decide +kernel
theorem dX2_part_41 : decode cX2_part 41 = .ok (.if_icmp .ne 14, 3) := by decide +kernel
theorem dX2_part_44 : decode cX2_part 44 = .ok (.aload_n 0, 1) := by decide +kernel
theorem dX2_part_45 : decode cX2_part 45 = .ok (.getfield 24, 3) := by decide +kernel
theorem dX2_part_48 : decode cX2_part 48 = .ok (.iload_n 3, 1) := by decide +kernel
theorem dX2_part_49 : decode cX2_part 49 = .ok (.iaload, 1) := by decide +kernel
theorem dX2_part_50 : decode cX2_part 50 = .ok (.iconst 1, 1) := by decide +kernel
theorem dX2_part_51 : decode cX2_part 51 = .ok (.iadd, 1) := by decide +kernel
theorem dX2_part_52 : decode cX2_part 52 = .ok (.goto 4, 3) := by decide +kernel
theorem dX2_part_55 : decode cX2_part 55 = .ok (.iconst 1, 1) := by decide +kernel
theorem dX2_part_56 : decode cX2_part 56 = .ok (.iastore, 1) := by decide +kernel
theorem dX2_part_57 : decode cX2_part 57 = .ok (.aload_n 0, 1) := by decide +kernel
theorem dX2_part_58 : decode cX2_part 58 = .ok (.getfield 21, 3) := by decide +kernel
theorem dX2_part_61 : decode cX2_part 61 = .ok (.iload_n 3, 1) := by decide +kernel
theorem dX2_part_62 : decode cX2_part 62 = .ok (.iload 4, 2) := by decide +kernel
theorem dX2_part_64 : decode cX2_part 64 = .ok (.iastore, 1) := by decide +kernel
theorem dX2_part_65 : decode cX2_part 65 = .ok (.aload_n 0, 1) := by decide +kernel
theorem dX2_part_66 : decode cX2_part 66 = .ok (.getfield 27, 3) := by decide +kernel
theorem dX2_part_69 : decode cX2_part 69 = .ok (.iload_n 3, 1) := by decide +kernel
theorem dX2_part_70 : decode cX2_part 70 = .ok (.aload_n 0, 1) := by decide +kernel
theorem dX2_part_71 : decode cX2_part 71 = .ok (.getfield 27, 3) := by decide +kernel
theorem dX2_part_74 : decode cX2_part 74 = .ok (.iload_n 3, 1) := by decide +kernel
theorem dX2_part_75 : decode cX2_part 75 = .ok (.iaload, 1) := by decide +kernel
theorem dX2_part_76 : decode cX2_part 76 = .ok (.aload_n 0, 1) := by decide +kernel
theorem dX2_part_77 : decode cX2_part 77 = .ok (.getfield 24, 3) := by decide +kernel
theorem dX2_part_80 : decode cX2_part 80 = .ok (.iload_n 3, 1) := by decide +kernel
theorem dX2_part_81 : decode cX2_part 81 = .ok (.iaload, 1) := by decide +kernel
theorem dX2_part_82 : decode cX2_part 82 = .ok (.invokestatic 45, 3) := by decide +kernel
theorem dX2_part_85 : decode cX2_part 85 = .ok (.iastore, 1) := by decide +kernel
theorem dX2_part_86 : decode cX2_part 86 = .ok (.iinc 3 1, 3) := by decide +kernel
theorem dX2_part_89 : decode cX2_part 89 = .ok (.goto (-77), 3) := by decide +kernel
theorem dX2_part_92 : decode cX2_part 92 = .ok (.return_, 1) := by decide +kernel
set_option maxRecDepth 100000 in
set_option maxHeartbeats 4000000 in
theorem mX2_part {w : WX} {adr : Nat → Nat → Nat} (hj : Ij adr) {o1 : Nat} (ho1 : o1 < 2) {o2 : Nat} (ho2 : o2 < 7) (S : St) : ∀ (l : Launch) (r : Int32) (S2 : St), fX2_part o1 o2 S = some (r, S2) → Mv l w adr yX2_part cX2_part 5 none 2 44 [.ref (adr 20 0), .ref (adr 3 o1), .ref (adr 11 o2)] S S2 := by
  refine mv_of (lv := [(0, .ref (adr 20 0)), (1, .ref (adr 3 o1)), (2, .ref (adr 11 o2))]) hj (plainFor_of_name (by decide +kernel)) rfl (Nat.le_of_ble_eq_true rfl) (fun k C Rr => ?_)
  have C : Cx w adr k cX2_part RX2 5 2 44 := C
  refine ge_aload_n (n := 1) C 0 rfl dX2_part_0 rfl rfl ?_
  refine ge_dup (n := 2) C dX2_part_1 rfl rfl ?_
  refine gt_X2_39 (n := 5) C (by decide) dX2_part_2 rfl ?_
  refine ge_iconst (v := 1) (n := 6) C dX2_part_5 (by decide) rfl ?_
  refine ge_iadd (n := 7) C dX2_part_6 rfl ?_
  refine pt_X2_39 (n := 10) C (by decide) dX2_part_7 rfl (fun S_7 => ?_)
  refine ge_iconst (v := 0) (n := 11) C dX2_part_10 (by decide) rfl ?_
  refine ge_istore_n (n := 12) (lv2 := [(3, .int (0 : Int32)), (0, .ref (adr 20 0)), (1, .ref (adr 3 o1)), (2, .ref (adr 11 o2))]) C dX2_part_11 rfl rfl (by decide) rfl ?_
  refine ge_jn (fun (jj : St → Op) => ∀ (S_92 : St), Ge w adr k 92 [] [] S_92 (jj S_92)) (fun S_92 => ?_) (fun kk12 hkk12 => ?_)
  · exact ge_vret C Rr dX2_part_92
  refine ge_lop (fun (jj : Int32 → St → Op) => ∀ (x3_12 : Int32) (S_12 : St), Ge w adr k 12 [(3, .int x3_12), (0, .ref (adr 20 0)), (1, .ref (adr 3 o1)), (2, .ref (adr 11 o2))] [] S_12 (jj x3_12 S_12)) (fun _ _ => ge_none) (fun ag12 hag12 x3_12 S_12 => ?_) FU (0 : Int32) S_7
  refine ge_iload_n (n := 13) C 0 rfl dX2_part_12 rfl rfl ?_
  refine ge_aload_n (n := 14) C 2 rfl dX2_part_13 rfl rfl ?_
  refine gt_X2_42 (n := 17) C ho1 dX2_part_14 rfl ?_
  refine ge_icmp_ge (t := 92) (n := 20) C dX2_part_17 (by decide) rfl (fun h_17 => ?_) (fun h_17 => ?_)
  · refine ge_sub [] rfl ?_
    exact hkk12 S_12
  · refine ge_aload_n (n := 21) C 2 rfl dX2_part_20 rfl rfl ?_
    refine ge_aload_n (n := 22) C 3 rfl dX2_part_21 rfl rfl ?_
    refine ge_iload_n (n := 23) C 0 rfl dX2_part_22 rfl rfl ?_
    refine ge_callVi (n := 26) C (mX6_pain hj (o0 := o1) ho1 (o1 := o2) ho2 x3_12 S_12) gv_X2_34 (cl_3 ho1) rfl rfl hc_X6_pain ⟨Nat.le_of_ble_eq_true rfl, Nat.le_of_ble_eq_true rfl⟩ rfl rfl (Nat.le_of_ble_eq_true rfl) dX2_part_23 rfl (fun r_23 S_23 => ?_)
    refine ge_istore (n := 28) (lv2 := [(4, .int r_23), (3, .int x3_12), (0, .ref (adr 20 0)), (1, .ref (adr 3 o1)), (2, .ref (adr 11 o2))]) C dX2_part_26 rfl (by decide) rfl ?_
    refine ge_aload_n (n := 29) C 2 rfl dX2_part_28 rfl rfl ?_
    refine gt_X2_24 (n := 32) C (by decide) dX2_part_29 rfl ?_
    refine ge_iload_n (n := 33) C 1 rfl dX2_part_32 rfl rfl ?_
    refine ge_iload (n := 35) C 0 rfl dX2_part_33 rfl ?_
    refine ge_aload_n (n := 36) C 2 rfl dX2_part_35 rfl rfl ?_
    refine gt_X2_21 (n := 39) C (by decide) dX2_part_36 rfl ?_
    refine ge_iload_n (n := 40) C 1 rfl dX2_part_39 rfl rfl ?_
    refine al_24 (n := 41) C (by decide) dX2_part_40 rfl ?_
    refine ge_jn (fun (jj : Int32 → Op) => ∀ (v0_56 : Int32), Ge w adr k 56 [(4, .int r_23), (3, .int x3_12), (0, .ref (adr 20 0)), (1, .ref (adr 3 o1)), (2, .ref (adr 11 o2))] [.int v0_56, .int x3_12, .ref (adr 25 0)] S_23 (jj v0_56)) (fun v0_56 => ?_) (fun j56 hj56 => ?_)
    · refine as_25 (n := 57) C (by decide) dX2_part_56 rfl (fun S_56 => ?_)
      refine ge_aload_n (n := 58) C 2 rfl dX2_part_57 rfl rfl ?_
      refine gt_X2_21 (n := 61) C (by decide) dX2_part_58 rfl ?_
      refine ge_iload_n (n := 62) C 1 rfl dX2_part_61 rfl rfl ?_
      refine ge_iload (n := 64) C 0 rfl dX2_part_62 rfl ?_
      refine as_24 (n := 65) C (by decide) dX2_part_64 rfl (fun S_64 => ?_)
      refine ge_aload_n (n := 66) C 2 rfl dX2_part_65 rfl rfl ?_
      refine gt_X2_27 (n := 69) C (by decide) dX2_part_66 rfl ?_
      refine ge_iload_n (n := 70) C 1 rfl dX2_part_69 rfl rfl ?_
      refine ge_aload_n (n := 71) C 2 rfl dX2_part_70 rfl rfl ?_
      refine gt_X2_27 (n := 74) C (by decide) dX2_part_71 rfl ?_
      refine ge_iload_n (n := 75) C 1 rfl dX2_part_74 rfl rfl ?_
      refine al_26 (n := 76) C (by decide) dX2_part_75 rfl ?_
      refine ge_aload_n (n := 77) C 2 rfl dX2_part_76 rfl rfl ?_
      refine gt_X2_24 (n := 80) C (by decide) dX2_part_77 rfl ?_
      refine ge_iload_n (n := 81) C 1 rfl dX2_part_80 rfl rfl ?_
      refine al_25 (n := 82) C (by decide) dX2_part_81 rfl ?_
      refine ge_mmax (n := 85) C ml_X2_45 (by decide) (Nat.le_of_ble_eq_true rfl) dX2_part_82 rfl ?_
      refine as_26 (n := 86) C (by decide) dX2_part_85 rfl (fun S_85 => ?_)
      refine ge_iinc (n := 89) (v := (x3_12 + (1 : Int32))) (lv2 := [(3, .int (x3_12 + (1 : Int32))), (4, .int r_23), (0, .ref (adr 20 0)), (1, .ref (adr 3 o1)), (2, .ref (adr 11 o2))]) C 1 rfl dX2_part_86 rfl rfl (by decide) rfl ?_
      refine ge_goto (n := 12) C dX2_part_89 (by decide) ?_
      refine ge_sub [0, 2, 3, 4] rfl ?_
      exact hag12 (x3_12 + (1 : Int32)) S_85
    refine ge_icmp_ne (t := 55) (n := 44) C dX2_part_41 (by decide) rfl (fun h_41 => ?_) (fun h_41 => ?_)
    · refine ge_iconst (v := 1) (n := 56) C dX2_part_55 (by decide) rfl ?_
      exact hj56 (1 : Int32)
    · refine ge_aload_n (n := 45) C 2 rfl dX2_part_44 rfl rfl ?_
      refine gt_X2_24 (n := 48) C (by decide) dX2_part_45 rfl ?_
      refine ge_iload_n (n := 49) C 1 rfl dX2_part_48 rfl rfl ?_
      refine al_25 (n := 50) C (by decide) dX2_part_49 rfl ?_
      refine ge_iconst (v := 1) (n := 51) C dX2_part_50 (by decide) rfl ?_
      refine ge_iadd (n := 52) C dX2_part_51 rfl ?_
      refine ge_goto (n := 56) C dX2_part_52 (by decide) ?_
      exact hj56 ((S_23 25 0 (Int32.toNatClampNeg x3_12)) + (1 : Int32))
theorem dX2_bestParting_0 : decode cX2_bestParting 0 = .ok (.iconst (-1), 1) := by decide +kernel
theorem dX2_bestParting_1 : decode cX2_bestParting 1 = .ok (.istore_n 2, 1) := by decide +kernel
theorem dX2_bestParting_2 : decode cX2_bestParting 2 = .ok (.aload_n 0, 1) := by decide +kernel
theorem dX2_bestParting_3 : decode cX2_bestParting 3 = .ok (.getfield 39, 3) := by decide +kernel
theorem dX2_bestParting_6 : decode cX2_bestParting 6 = .ok (.istore_n 3, 1) := by decide +kernel
theorem dX2_bestParting_7 : decode cX2_bestParting 7 = .ok (.iconst 0, 1) := by decide +kernel
theorem dX2_bestParting_8 : decode cX2_bestParting 8 = .ok (.istore 4, 2) := by decide +kernel
theorem dX2_bestParting_10 : decode cX2_bestParting 10 = .ok (.iload 4, 2) := by decide +kernel
theorem dX2_bestParting_12 : decode cX2_bestParting 12 = .ok (.iload_n 1, 1) := by decide +kernel
theorem dX2_bestParting_13 : decode cX2_bestParting 13 = .ok (.if_icmp .ge 31, 3) := by decide +kernel
theorem dX2_bestParting_16 : decode cX2_bestParting 16 = .ok (.aload_n 0, 1) := by decide +kernel
theorem dX2_bestParting_17 : decode cX2_bestParting 17 = .ok (.getfield 27, 3) := by decide +kernel
theorem dX2_bestParting_20 : decode cX2_bestParting 20 = .ok (.iload 4, 2) := by decide +kernel
theorem dX2_bestParting_22 : decode cX2_bestParting 22 = .ok (.iaload, 1) := by decide +kernel
theorem dX2_bestParting_23 : decode cX2_bestParting 23 = .ok (.iload_n 3, 1) := by decide +kernel
theorem dX2_bestParting_24 : decode cX2_bestParting 24 = .ok (.if_icmp .ge 14, 3) := by decide +kernel
theorem dX2_bestParting_27 : decode cX2_bestParting 27 = .ok (.iload 4, 2) := by decide +kernel
theorem dX2_bestParting_29 : decode cX2_bestParting 29 = .ok (.istore_n 2, 1) := by decide +kernel
theorem dX2_bestParting_30 : decode cX2_bestParting 30 = .ok (.aload_n 0, 1) := by decide +kernel
theorem dX2_bestParting_31 : decode cX2_bestParting 31 = .ok (.getfield 27, 3) := by decide +kernel
theorem dX2_bestParting_34 : decode cX2_bestParting 34 = .ok (.iload 4, 2) := by decide +kernel
theorem dX2_bestParting_36 : decode cX2_bestParting 36 = .ok (.iaload, 1) := by decide +kernel
theorem dX2_bestParting_37 : decode cX2_bestParting 37 = .ok (.istore_n 3, 1) := by decide +kernel
theorem dX2_bestParting_38 : decode cX2_bestParting 38 = .ok (.iinc 4 1, 3) := by decide +kernel
theorem dX2_bestParting_41 : decode cX2_bestParting 41 = .ok (.goto (-31), 3) := by decide +kernel
theorem dX2_bestParting_44 : decode cX2_bestParting 44 = .ok (.iload_n 2, 1) := by decide +kernel
theorem dX2_bestParting_45 : decode cX2_bestParting 45 = .ok (.ireturn, 1) := by decide +kernel
set_option maxRecDepth 100000 in
set_option maxHeartbeats 4000000 in
theorem mX2_bestParting {w : WX} {adr : Nat → Nat → Nat} (hj : Ij adr) (a1 : Int32) (S : St) : ∀ (l : Launch) (r : Int32) (S2 : St), fX2_bestParting a1 S = some (r, S2) → Mi l w adr yX2_bestParting cX2_bestParting 5 (some .int) 0 0 [.ref (adr 20 0), .int a1] S r S2 := by
  refine mi_of (lv := [(0, .ref (adr 20 0)), (1, .int a1)]) hj (plainFor_of_name (by decide +kernel)) rfl (Nat.le_of_ble_eq_true rfl) (fun k C Rr => ?_)
  have C : Cx w adr k cX2_bestParting RX2 5 0 0 := C
  refine ge_iconst (v := -1) (n := 1) C dX2_bestParting_0 (by decide) rfl ?_
  refine ge_istore_n (n := 2) (lv2 := [(2, .int (-1 : Int32)), (0, .ref (adr 20 0)), (1, .int a1)]) C dX2_bestParting_1 rfl rfl (by decide) rfl ?_
  refine ge_aload_n (n := 3) C 1 rfl dX2_bestParting_2 rfl rfl ?_
  refine gt_X2_39 (n := 6) C (by decide) dX2_bestParting_3 rfl ?_
  refine ge_bi (fun x3_6 => ?_)
  refine ge_istore_n (n := 7) (lv2 := [(3, .int x3_6), (2, .int (-1 : Int32)), (0, .ref (adr 20 0)), (1, .int a1)]) C dX2_bestParting_6 rfl rfl (by decide) rfl ?_
  refine ge_iconst (v := 0) (n := 8) C dX2_bestParting_7 (by decide) rfl ?_
  refine ge_istore (n := 10) (lv2 := [(4, .int (0 : Int32)), (3, .int x3_6), (2, .int (-1 : Int32)), (0, .ref (adr 20 0)), (1, .int a1)]) C dX2_bestParting_8 rfl (by decide) rfl ?_
  refine ge_jn (fun (jj : Int32 → Op) => ∀ (x2_44 : Int32), Ge w adr k 44 [(2, .int x2_44)] [] S (jj x2_44)) (fun x2_44 => ?_) (fun kk10 hkk10 => ?_)
  · refine ge_iload_n (n := 45) C 0 rfl dX2_bestParting_44 rfl rfl ?_
    exact ge_iret C Rr dX2_bestParting_45
  refine ge_lop (fun (jj : Int32 → Int32 → Int32 → Op) => ∀ (x4_10 : Int32) (x3_10 : Int32) (x2_10 : Int32), Ge w adr k 10 [(4, .int x4_10), (3, .int x3_10), (2, .int x2_10), (0, .ref (adr 20 0)), (1, .int a1)] [] S (jj x4_10 x3_10 x2_10)) (fun _ _ _ => ge_none) (fun ag10 hag10 x4_10 x3_10 x2_10 => ?_) FU (0 : Int32) x3_6 (-1 : Int32)
  refine ge_iload (n := 12) C 0 rfl dX2_bestParting_10 rfl ?_
  refine ge_iload_n (n := 13) C 4 rfl dX2_bestParting_12 rfl rfl ?_
  refine ge_icmp_ge (t := 44) (n := 16) C dX2_bestParting_13 (by decide) rfl (fun h_13 => ?_) (fun h_13 => ?_)
  · refine ge_sub [2] rfl ?_
    exact hkk10 x2_10
  · refine ge_aload_n (n := 17) C 3 rfl dX2_bestParting_16 rfl rfl ?_
    refine gt_X2_27 (n := 20) C (by decide) dX2_bestParting_17 rfl ?_
    refine ge_iload (n := 22) C 0 rfl dX2_bestParting_20 rfl ?_
    refine al_26 (n := 23) C (by decide) dX2_bestParting_22 rfl ?_
    refine ge_iload_n (n := 24) C 1 rfl dX2_bestParting_23 rfl rfl ?_
    refine ge_icmp_ge (t := 38) (n := 27) C dX2_bestParting_24 (by decide) rfl (fun h_24 => ?_) (fun h_24 => ?_)
    · refine ge_iinc (n := 41) (v := (x4_10 + (1 : Int32))) (lv2 := [(4, .int (x4_10 + (1 : Int32))), (3, .int x3_10), (2, .int x2_10), (0, .ref (adr 20 0)), (1, .int a1)]) C 0 rfl dX2_bestParting_38 rfl rfl (by decide) rfl ?_
      refine ge_goto (n := 10) C dX2_bestParting_41 (by decide) ?_
      exact hag10 (x4_10 + (1 : Int32)) x3_10 x2_10
    · refine ge_iload (n := 29) C 0 rfl dX2_bestParting_27 rfl ?_
      refine ge_istore_n (n := 30) (lv2 := [(2, .int x4_10), (4, .int x4_10), (3, .int x3_10), (0, .ref (adr 20 0)), (1, .int a1)]) C dX2_bestParting_29 rfl rfl (by decide) rfl ?_
      refine ge_aload_n (n := 31) C 3 rfl dX2_bestParting_30 rfl rfl ?_
      refine gt_X2_27 (n := 34) C (by decide) dX2_bestParting_31 rfl ?_
      refine ge_iload (n := 36) C 1 rfl dX2_bestParting_34 rfl ?_
      refine al_26 (n := 37) C (by decide) dX2_bestParting_36 rfl ?_
      refine ge_bi (fun x3_37 => ?_)
      refine ge_istore_n (n := 38) (lv2 := [(3, .int x3_37), (2, .int x4_10), (4, .int x4_10), (0, .ref (adr 20 0)), (1, .int a1)]) C dX2_bestParting_37 rfl rfl (by decide) rfl ?_
      refine ge_iinc (n := 41) (v := (x4_10 + (1 : Int32))) (lv2 := [(4, .int (x4_10 + (1 : Int32))), (3, .int x3_37), (2, .int x4_10), (0, .ref (adr 20 0)), (1, .int a1)]) C 2 rfl dX2_bestParting_38 rfl rfl (by decide) rfl ?_
      refine ge_goto (n := 10) C dX2_bestParting_41 (by decide) ?_
      exact hag10 (x4_10 + (1 : Int32)) x3_37 x4_10
theorem dX3_begin_0 : decode cX3_begin 0 = .ok (.aload_n 0, 1) := by decide +kernel
theorem dX3_begin_1 : decode cX3_begin 1 = .ok (.aload_n 1, 1) := by decide +kernel
theorem dX3_begin_2 : decode cX3_begin 2 = .ok (.getfield 18, 3) := by decide +kernel
theorem dX3_begin_5 : decode cX3_begin 5 = .ok (.iload_n 2, 1) := by decide +kernel
theorem dX3_begin_6 : decode cX3_begin 6 = .ok (.iaload, 1) := by decide +kernel
theorem dX3_begin_7 : decode cX3_begin 7 = .ok (.putfield 23, 3) := by decide +kernel
theorem dX3_begin_10 : decode cX3_begin 10 = .ok (.aload_n 0, 1) := by decide +kernel
theorem dX3_begin_11 : decode cX3_begin 11 = .ok (.iconst 0, 1) := by decide +kernel
theorem dX3_begin_12 : decode cX3_begin 12 = .ok (.putfield 26, 3) := by decide +kernel
theorem dX3_begin_15 : decode cX3_begin 15 = .ok (.aload_n 0, 1) := by decide +kernel
theorem dX3_begin_16 : decode cX3_begin 16 = .ok (.iconst 0, 1) := by decide +kernel
theorem dX3_begin_17 : decode cX3_begin 17 = .ok (.putfield 29, 3) := by decide +kernel
theorem dX3_begin_20 : decode cX3_begin 20 = .ok (.iconst 0, 1) := by decide +kernel
theorem dX3_begin_21 : decode cX3_begin 21 = .ok (.istore_n 3, 1) := by decide +kernel
theorem dX3_begin_22 : decode cX3_begin 22 = .ok (.iload_n 3, 1) := by decide +kernel
theorem dX3_begin_23 : decode cX3_begin 23 = .ok (.iconst 5, 1) := by decide +kernel
theorem dX3_begin_24 : decode cX3_begin 24 = .ok (.if_icmp .ge 30, 3) := by decide +kernel
theorem dX3_begin_27 : decode cX3_begin 27 = .ok (.aload_n 0, 1) := by decide +kernel
theorem dX3_begin_28 : decode cX3_begin 28 = .ok (.getfield 9, 3) := by decide +kernel
theorem dX3_begin_31 : decode cX3_begin 31 = .ok (.iload_n 3, 1) := by decide +kernel
theorem dX3_begin_32 : decode cX3_begin 32 = .ok (.aload_n 1, 1) := by decide +kernel
theorem dX3_begin_33 : decode cX3_begin 33 = .ok (.getfield 32, 3) := by decide +kernel
theorem dX3_begin_36 : decode cX3_begin 36 = .ok (.iload_n 2, 1) := by decide +kernel
theorem dX3_begin_37 : decode cX3_begin 37 = .ok (.aaload, 1) := by decide +kernel
theorem dX3_begin_38 : decode cX3_begin 38 = .ok (.iload_n 3, 1) := by decide +kernel
theorem dX3_begin_39 : decode cX3_begin 39 = .ok (.iaload, 1) := by decide +kernel
theorem dX3_begin_40 : decode cX3_begin 40 = .ok (.iastore, 1) := by decide +kernel
theorem dX3_begin_41 : decode cX3_begin 41 = .ok (.aload_n 0, 1) := by decide +kernel
theorem dX3_begin_42 : decode cX3_begin 42 = .ok (.getfield 15, 3) := by decide +kernel
theorem dX3_begin_45 : decode cX3_begin 45 = .ok (.iload_n 3, 1) := by decide +kernel
theorem dX3_begin_46 : decode cX3_begin 46 = .ok (.iconst 0, 1) := by decide +kernel
theorem dX3_begin_47 : decode cX3_begin 47 = .ok (.iastore, 1) := by decide +kernel
theorem dX3_begin_48 : decode cX3_begin 48 = .ok (.iinc 3 1, 3) := by decide +kernel
theorem dX3_begin_51 : decode cX3_begin 51 = .ok (.goto (-29), 3) := by decide +kernel
theorem dX3_begin_54 : decode cX3_begin 54 = .ok (.return_, 1) := by decide +kernel
set_option maxRecDepth 100000 in
set_option maxHeartbeats 4000000 in
theorem mX3_begin {w : WX} {adr : Nat → Nat → Nat} (hj : Ij adr) {o0 : Nat} (ho0 : o0 < 7) {o1 : Nat} (ho1 : o1 < 2) (a2 : Int32) (S : St) : ∀ (l : Launch) (r : Int32) (S2 : St), fX3_begin o0 o1 a2 S = some (r, S2) → Mv l w adr yX3_begin cX3_begin 4 none 0 0 [.ref (adr 11 o0), .ref (adr 3 o1), .int a2] S S2 := by
  refine mv_of (lv := [(0, .ref (adr 11 o0)), (1, .ref (adr 3 o1)), (2, .int a2)]) hj (plainFor_of_name (by decide +kernel)) rfl (Nat.le_of_ble_eq_true rfl) (fun k C Rr => ?_)
  have C : Cx w adr k cX3_begin RX3 4 0 0 := C
  refine ge_aload_n (n := 1) C 0 rfl dX3_begin_0 rfl rfl ?_
  refine ge_aload_n (n := 2) C 1 rfl dX3_begin_1 rfl rfl ?_
  refine gt_X3_18 (n := 5) C ho1 dX3_begin_2 rfl ?_
  refine ge_iload_n (n := 6) C 2 rfl dX3_begin_5 rfl rfl ?_
  refine al_4 (n := 7) C ho1 dX3_begin_6 rfl ?_
  refine pt_X3_23 (n := 10) C ho0 dX3_begin_7 rfl (fun S_7 => ?_)
  refine ge_aload_n (n := 11) C 0 rfl dX3_begin_10 rfl rfl ?_
  refine ge_iconst (v := 0) (n := 12) C dX3_begin_11 (by decide) rfl ?_
  refine pt_X3_26 (n := 15) C ho0 dX3_begin_12 rfl (fun S_12 => ?_)
  refine ge_aload_n (n := 16) C 0 rfl dX3_begin_15 rfl rfl ?_
  refine ge_iconst (v := 0) (n := 17) C dX3_begin_16 (by decide) rfl ?_
  refine pt_X3_29 (n := 20) C ho0 dX3_begin_17 rfl (fun S_17 => ?_)
  refine ge_iconst (v := 0) (n := 21) C dX3_begin_20 (by decide) rfl ?_
  refine ge_istore_n (n := 22) (lv2 := [(3, .int (0 : Int32)), (0, .ref (adr 11 o0)), (1, .ref (adr 3 o1)), (2, .int a2)]) C dX3_begin_21 rfl rfl (by decide) rfl ?_
  refine ge_jn (fun (jj : St → Op) => ∀ (S_54 : St), Ge w adr k 54 [] [] S_54 (jj S_54)) (fun S_54 => ?_) (fun kk22 hkk22 => ?_)
  · exact ge_vret C Rr dX3_begin_54
  refine ge_lop (fun (jj : Int32 → St → Op) => ∀ (x3_22 : Int32) (S_22 : St), Ge w adr k 22 [(3, .int x3_22), (0, .ref (adr 11 o0)), (1, .ref (adr 3 o1)), (2, .int a2)] [] S_22 (jj x3_22 S_22)) (fun _ _ => ge_none) (fun ag22 hag22 x3_22 S_22 => ?_) FU (0 : Int32) S_17
  refine ge_iload_n (n := 23) C 0 rfl dX3_begin_22 rfl rfl ?_
  refine ge_iconst (v := 5) (n := 24) C dX3_begin_23 (by decide) rfl ?_
  refine ge_icmp_ge (t := 54) (n := 27) C dX3_begin_24 (by decide) rfl (fun h_24 => ?_) (fun h_24 => ?_)
  · refine ge_sub [] rfl ?_
    exact hkk22 S_22
  · refine ge_aload_n (n := 28) C 1 rfl dX3_begin_27 rfl rfl ?_
    refine gt_X3_9 (n := 31) C ho0 dX3_begin_28 rfl ?_
    refine ge_iload_n (n := 32) C 0 rfl dX3_begin_31 rfl rfl ?_
    refine ge_aload_n (n := 33) C 2 rfl dX3_begin_32 rfl rfl ?_
    refine gt_X3_32 (n := 36) C ho1 dX3_begin_33 rfl ?_
    refine ge_iload_n (n := 37) C 3 rfl dX3_begin_36 rfl rfl ?_
    refine al_5 (n := 38) C ho1 dX3_begin_37 rfl (fun h_37 => ?_)
    refine ge_iload_n (n := 39) C 0 rfl dX3_begin_38 rfl rfl ?_
    refine al_6 (n := 40) C (bd_pls ho1 h_37) dX3_begin_39 rfl ?_
    refine as_12 (n := 41) C ho0 dX3_begin_40 rfl (fun S_40 => ?_)
    refine ge_aload_n (n := 42) C 1 rfl dX3_begin_41 rfl rfl ?_
    refine gt_X3_15 (n := 45) C ho0 dX3_begin_42 rfl ?_
    refine ge_iload_n (n := 46) C 0 rfl dX3_begin_45 rfl rfl ?_
    refine ge_iconst (v := 0) (n := 47) C dX3_begin_46 (by decide) rfl ?_
    refine as_13 (n := 48) C ho0 dX3_begin_47 rfl (fun S_47 => ?_)
    refine ge_iinc (n := 51) (v := (x3_22 + (1 : Int32))) (lv2 := [(3, .int (x3_22 + (1 : Int32))), (0, .ref (adr 11 o0)), (1, .ref (adr 3 o1)), (2, .int a2)]) C 0 rfl dX3_begin_48 rfl rfl (by decide) rfl ?_
    refine ge_goto (n := 22) C dX3_begin_51 (by decide) ?_
    exact hag22 (x3_22 + (1 : Int32)) S_47
theorem dX3_copySkin_0 : decode cX3_copySkin 0 = .ok (.aload_n 0, 1) := by decide +kernel
theorem dX3_copySkin_1 : decode cX3_copySkin 1 = .ok (.aload_n 1, 1) := by decide +kernel
theorem dX3_copySkin_2 : decode cX3_copySkin 2 = .ok (.getfield 23, 3) := by decide +kernel
theorem dX3_copySkin_5 : decode cX3_copySkin 5 = .ok (.putfield 23, 3) := by decide +kernel
theorem dX3_copySkin_8 : decode cX3_copySkin 8 = .ok (.iconst 0, 1) := by decide +kernel
theorem dX3_copySkin_9 : decode cX3_copySkin 9 = .ok (.istore_n 2, 1) := by decide +kernel
theorem dX3_copySkin_10 : decode cX3_copySkin 10 = .ok (.iload_n 2, 1) := by decide +kernel
theorem dX3_copySkin_11 : decode cX3_copySkin 11 = .ok (.iconst 5, 1) := by decide +kernel
theorem dX3_copySkin_12 : decode cX3_copySkin 12 = .ok (.if_icmp .ge 33, 3) := by decide +kernel
theorem dX3_copySkin_15 : decode cX3_copySkin 15 = .ok (.aload_n 0, 1) := by decide +kernel
theorem dX3_copySkin_16 : decode cX3_copySkin 16 = .ok (.getfield 9, 3) := by decide +kernel
theorem dX3_copySkin_19 : decode cX3_copySkin 19 = .ok (.iload_n 2, 1) := by decide +kernel
theorem dX3_copySkin_20 : decode cX3_copySkin 20 = .ok (.aload_n 1, 1) := by decide +kernel
theorem dX3_copySkin_21 : decode cX3_copySkin 21 = .ok (.getfield 9, 3) := by decide +kernel
theorem dX3_copySkin_24 : decode cX3_copySkin 24 = .ok (.iload_n 2, 1) := by decide +kernel
theorem dX3_copySkin_25 : decode cX3_copySkin 25 = .ok (.iaload, 1) := by decide +kernel
theorem dX3_copySkin_26 : decode cX3_copySkin 26 = .ok (.iastore, 1) := by decide +kernel
theorem dX3_copySkin_27 : decode cX3_copySkin 27 = .ok (.aload_n 0, 1) := by decide +kernel
theorem dX3_copySkin_28 : decode cX3_copySkin 28 = .ok (.getfield 15, 3) := by decide +kernel
theorem dX3_copySkin_31 : decode cX3_copySkin 31 = .ok (.iload_n 2, 1) := by decide +kernel
theorem dX3_copySkin_32 : decode cX3_copySkin 32 = .ok (.aload_n 1, 1) := by decide +kernel
theorem dX3_copySkin_33 : decode cX3_copySkin 33 = .ok (.getfield 15, 3) := by decide +kernel
theorem dX3_copySkin_36 : decode cX3_copySkin 36 = .ok (.iload_n 2, 1) := by decide +kernel
theorem dX3_copySkin_37 : decode cX3_copySkin 37 = .ok (.iaload, 1) := by decide +kernel
theorem dX3_copySkin_38 : decode cX3_copySkin 38 = .ok (.iastore, 1) := by decide +kernel
theorem dX3_copySkin_39 : decode cX3_copySkin 39 = .ok (.iinc 2 1, 3) := by decide +kernel
theorem dX3_copySkin_42 : decode cX3_copySkin 42 = .ok (.goto (-32), 3) := by decide +kernel
theorem dX3_copySkin_45 : decode cX3_copySkin 45 = .ok (.return_, 1) := by decide +kernel
set_option maxRecDepth 100000 in
set_option maxHeartbeats 4000000 in
theorem mX3_copySkin {w : WX} {adr : Nat → Nat → Nat} (hj : Ij adr) {o0 : Nat} (ho0 : o0 < 7) {o1 : Nat} (ho1 : o1 < 7) (S : St) : ∀ (l : Launch) (r : Int32) (S2 : St), fX3_copySkin o0 o1 S = some (r, S2) → Mv l w adr yX3_copySkin cX3_copySkin 3 none 0 0 [.ref (adr 11 o0), .ref (adr 11 o1)] S S2 := by
  refine mv_of (lv := [(0, .ref (adr 11 o0)), (1, .ref (adr 11 o1))]) hj (plainFor_of_name (by decide +kernel)) rfl (Nat.le_of_ble_eq_true rfl) (fun k C Rr => ?_)
  have C : Cx w adr k cX3_copySkin RX3 3 0 0 := C
  refine ge_aload_n (n := 1) C 0 rfl dX3_copySkin_0 rfl rfl ?_
  refine ge_aload_n (n := 2) C 1 rfl dX3_copySkin_1 rfl rfl ?_
  refine gt_X3_23 (n := 5) C ho1 dX3_copySkin_2 rfl ?_
  refine pt_X3_23 (n := 8) C ho0 dX3_copySkin_5 rfl (fun S_5 => ?_)
  refine ge_iconst (v := 0) (n := 9) C dX3_copySkin_8 (by decide) rfl ?_
  refine ge_istore_n (n := 10) (lv2 := [(2, .int (0 : Int32)), (0, .ref (adr 11 o0)), (1, .ref (adr 11 o1))]) C dX3_copySkin_9 rfl rfl (by decide) rfl ?_
  refine ge_jn (fun (jj : St → Op) => ∀ (S_45 : St), Ge w adr k 45 [] [] S_45 (jj S_45)) (fun S_45 => ?_) (fun kk10 hkk10 => ?_)
  · exact ge_vret C Rr dX3_copySkin_45
  refine ge_lop (fun (jj : Int32 → St → Op) => ∀ (x2_10 : Int32) (S_10 : St), Ge w adr k 10 [(2, .int x2_10), (0, .ref (adr 11 o0)), (1, .ref (adr 11 o1))] [] S_10 (jj x2_10 S_10)) (fun _ _ => ge_none) (fun ag10 hag10 x2_10 S_10 => ?_) FU (0 : Int32) S_5
  refine ge_iload_n (n := 11) C 0 rfl dX3_copySkin_10 rfl rfl ?_
  refine ge_iconst (v := 5) (n := 12) C dX3_copySkin_11 (by decide) rfl ?_
  refine ge_icmp_ge (t := 45) (n := 15) C dX3_copySkin_12 (by decide) rfl (fun h_12 => ?_) (fun h_12 => ?_)
  · refine ge_sub [] rfl ?_
    exact hkk10 S_10
  · refine ge_aload_n (n := 16) C 1 rfl dX3_copySkin_15 rfl rfl ?_
    refine gt_X3_9 (n := 19) C ho0 dX3_copySkin_16 rfl ?_
    refine ge_iload_n (n := 20) C 0 rfl dX3_copySkin_19 rfl rfl ?_
    refine ge_aload_n (n := 21) C 2 rfl dX3_copySkin_20 rfl rfl ?_
    refine gt_X3_9 (n := 24) C ho1 dX3_copySkin_21 rfl ?_
    refine ge_iload_n (n := 25) C 0 rfl dX3_copySkin_24 rfl rfl ?_
    refine al_12 (n := 26) C ho1 dX3_copySkin_25 rfl ?_
    refine as_12 (n := 27) C ho0 dX3_copySkin_26 rfl (fun S_26 => ?_)
    refine ge_aload_n (n := 28) C 1 rfl dX3_copySkin_27 rfl rfl ?_
    refine gt_X3_15 (n := 31) C ho0 dX3_copySkin_28 rfl ?_
    refine ge_iload_n (n := 32) C 0 rfl dX3_copySkin_31 rfl rfl ?_
    refine ge_aload_n (n := 33) C 2 rfl dX3_copySkin_32 rfl rfl ?_
    refine gt_X3_15 (n := 36) C ho1 dX3_copySkin_33 rfl ?_
    refine ge_iload_n (n := 37) C 0 rfl dX3_copySkin_36 rfl rfl ?_
    refine al_13 (n := 38) C ho1 dX3_copySkin_37 rfl ?_
    refine as_13 (n := 39) C ho0 dX3_copySkin_38 rfl (fun S_38 => ?_)
    refine ge_iinc (n := 42) (v := (x2_10 + (1 : Int32))) (lv2 := [(2, .int (x2_10 + (1 : Int32))), (0, .ref (adr 11 o0)), (1, .ref (adr 11 o1))]) C 0 rfl dX3_copySkin_39 rfl rfl (by decide) rfl ?_
    refine ge_goto (n := 10) C dX3_copySkin_42 (by decide) ?_
    exact hag10 (x2_10 + (1 : Int32)) S_38
theorem dX3_thicken_0 : decode cX3_thicken 0 = .ok (.aload_n 0, 1) := by decide +kernel
theorem dX3_thicken_1 : decode cX3_thicken 1 = .ok (.getfield 15, 3) := by decide +kernel
theorem dX3_thicken_4 : decode cX3_thicken 4 = .ok (.iload_n 1, 1) := by decide +kernel
theorem dX3_thicken_5 : decode cX3_thicken 5 = .ok (.bipush 99, 2) := by decide +kernel
theorem dX3_thicken_7 : decode cX3_thicken 7 = .ok (.aload_n 0, 1) := by decide +kernel
theorem dX3_thicken_8 : decode cX3_thicken 8 = .ok (.getfield 15, 3) := by decide +kernel
theorem dX3_thicken_11 : decode cX3_thicken 11 = .ok (.iload_n 1, 1) := by decide +kernel
theorem dX3_thicken_12 : decode cX3_thicken 12 = .ok (.iaload, 1) := by decide +kernel
theorem dX3_thicken_13 : decode cX3_thicken 13 = .ok (.iload_n 2, 1) := by decide +kernel
theorem dX3_thicken_14 : decode cX3_thicken 14 = .ok (.iadd, 1) := by decide +kernel
theorem dX3_thicken_15 : decode cX3_thicken 15 = .ok (.invokestatic 52, 3) := by decide +kernel
theorem dX3_thicken_18 : decode cX3_thicken 18 = .ok (.iastore, 1) := by decide +kernel
theorem dX3_thicken_19 : decode cX3_thicken 19 = .ok (.return_, 1) := by decide +kernel
set_option maxRecDepth 100000 in
set_option maxHeartbeats 4000000 in
theorem mX3_thicken {w : WX} {adr : Nat → Nat → Nat} (hj : Ij adr) {o0 : Nat} (ho0 : o0 < 7) (a1 : Int32) (a2 : Int32) (S : St) : ∀ (l : Launch) (r : Int32) (S2 : St), fX3_thicken o0 a1 a2 S = some (r, S2) → Mv l w adr yX3_thicken cX3_thicken 3 none 1 21 [.ref (adr 11 o0), .int a1, .int a2] S S2 := by
  refine mv_of (lv := [(0, .ref (adr 11 o0)), (1, .int a1), (2, .int a2)]) hj (plainFor_of_name (by decide +kernel)) rfl (Nat.le_of_ble_eq_true rfl) (fun k C Rr => ?_)
  have C : Cx w adr k cX3_thicken RX3 3 1 21 := C
  refine ge_aload_n (n := 1) C 0 rfl dX3_thicken_0 rfl rfl ?_
  refine gt_X3_15 (n := 4) C ho0 dX3_thicken_1 rfl ?_
  refine ge_iload_n (n := 5) C 1 rfl dX3_thicken_4 rfl rfl ?_
  refine ge_bipush (v := 99) (n := 7) C dX3_thicken_5 (by decide) rfl ?_
  refine ge_aload_n (n := 8) C 0 rfl dX3_thicken_7 rfl rfl ?_
  refine gt_X3_15 (n := 11) C ho0 dX3_thicken_8 rfl ?_
  refine ge_iload_n (n := 12) C 1 rfl dX3_thicken_11 rfl rfl ?_
  refine al_13 (n := 13) C ho0 dX3_thicken_12 rfl ?_
  refine ge_iload_n (n := 14) C 2 rfl dX3_thicken_13 rfl rfl ?_
  refine ge_iadd (n := 15) C dX3_thicken_14 rfl ?_
  refine ge_mmin (n := 18) C ml_X3_52 (by decide) (Nat.le_of_ble_eq_true rfl) dX3_thicken_15 rfl ?_
  refine as_13 (n := 19) C ho0 dX3_thicken_18 rfl (fun S_18 => ?_)
  exact ge_vret C Rr dX3_thicken_19
theorem dX3_thickenAll_0 : decode cX3_thickenAll 0 = .ok (.iconst 0, 1) := by decide +kernel
theorem dX3_thickenAll_1 : decode cX3_thickenAll 1 = .ok (.istore_n 3, 1) := by decide +kernel
theorem dX3_thickenAll_2 : decode cX3_thickenAll 2 = .ok (.iload_n 3, 1) := by decide +kernel
theorem dX3_thickenAll_3 : decode cX3_thickenAll 3 = .ok (.iconst 5, 1) := by decide +kernel
theorem dX3_thickenAll_4 : decode cX3_thickenAll 4 = .ok (.if_icmp .ge 20, 3) := by decide +kernel
theorem dX3_thickenAll_7 : decode cX3_thickenAll 7 = .ok (.iload_n 3, 1) := by decide +kernel
theorem dX3_thickenAll_8 : decode cX3_thickenAll 8 = .ok (.iload_n 2, 1) := by decide +kernel
theorem dX3_thickenAll_9 : decode cX3_thickenAll 9 = .ok (.if_icmp .eq 9, 3) := by decide +kernel
theorem dX3_thickenAll_12 : decode cX3_thickenAll 12 = .ok (.aload_n 0, 1) := by decide +kernel
theorem dX3_thickenAll_13 : decode cX3_thickenAll 13 = .ok (.iload_n 3, 1) := by decide +kernel
theorem dX3_thickenAll_14 : decode cX3_thickenAll 14 = .ok (.iload_n 1, 1) := by decide +kernel
theorem dX3_thickenAll_15 : decode cX3_thickenAll 15 = .ok (.invokevirtual 45, 3) := by decide +kernel
theorem dX3_thickenAll_18 : decode cX3_thickenAll 18 = .ok (.iinc 3 1, 3) := by decide +kernel
theorem dX3_thickenAll_21 : decode cX3_thickenAll 21 = .ok (.goto (-19), 3) := by decide +kernel
theorem dX3_thickenAll_24 : decode cX3_thickenAll 24 = .ok (.return_, 1) := by decide +kernel
set_option maxRecDepth 100000 in
set_option maxHeartbeats 4000000 in
theorem mX3_thickenAll {w : WX} {adr : Nat → Nat → Nat} (hj : Ij adr) {o0 : Nat} (ho0 : o0 < 7) (a1 : Int32) (a2 : Int32) (S : St) : ∀ (l : Launch) (r : Int32) (S2 : St), fX3_thickenAll o0 a1 a2 S = some (r, S2) → Mv l w adr yX3_thickenAll cX3_thickenAll 4 none 2 43 [.ref (adr 11 o0), .int a1, .int a2] S S2 := by
  refine mv_of (lv := [(0, .ref (adr 11 o0)), (1, .int a1), (2, .int a2)]) hj (plainFor_of_name (by decide +kernel)) rfl (Nat.le_of_ble_eq_true rfl) (fun k C Rr => ?_)
  have C : Cx w adr k cX3_thickenAll RX3 4 2 43 := C
  refine ge_iconst (v := 0) (n := 1) C dX3_thickenAll_0 (by decide) rfl ?_
  refine ge_istore_n (n := 2) (lv2 := [(3, .int (0 : Int32)), (0, .ref (adr 11 o0)), (1, .int a1), (2, .int a2)]) C dX3_thickenAll_1 rfl rfl (by decide) rfl ?_
  refine ge_jn (fun (jj : St → Op) => ∀ (S_24 : St), Ge w adr k 24 [] [] S_24 (jj S_24)) (fun S_24 => ?_) (fun kk2 hkk2 => ?_)
  · exact ge_vret C Rr dX3_thickenAll_24
  refine ge_lop (fun (jj : Int32 → St → Op) => ∀ (x3_2 : Int32) (S_2 : St), Ge w adr k 2 [(3, .int x3_2), (0, .ref (adr 11 o0)), (1, .int a1), (2, .int a2)] [] S_2 (jj x3_2 S_2)) (fun _ _ => ge_none) (fun ag2 hag2 x3_2 S_2 => ?_) FU (0 : Int32) S
  refine ge_iload_n (n := 3) C 0 rfl dX3_thickenAll_2 rfl rfl ?_
  refine ge_iconst (v := 5) (n := 4) C dX3_thickenAll_3 (by decide) rfl ?_
  refine ge_icmp_ge (t := 24) (n := 7) C dX3_thickenAll_4 (by decide) rfl (fun h_4 => ?_) (fun h_4 => ?_)
  · refine ge_sub [] rfl ?_
    exact hkk2 S_2
  · refine ge_iload_n (n := 8) C 0 rfl dX3_thickenAll_7 rfl rfl ?_
    refine ge_iload_n (n := 9) C 3 rfl dX3_thickenAll_8 rfl rfl ?_
    refine ge_icmp_eq (t := 18) (n := 12) C dX3_thickenAll_9 (by decide) rfl (fun h_9 => ?_) (fun h_9 => ?_)
    · refine ge_iinc (n := 21) (v := (x3_2 + (1 : Int32))) (lv2 := [(3, .int (x3_2 + (1 : Int32))), (0, .ref (adr 11 o0)), (1, .int a1), (2, .int a2)]) C 0 rfl dX3_thickenAll_18 rfl rfl (by decide) rfl ?_
      refine ge_goto (n := 2) C dX3_thickenAll_21 (by decide) ?_
      exact hag2 (x3_2 + (1 : Int32)) S_2
    · refine ge_aload_n (n := 13) C 1 rfl dX3_thickenAll_12 rfl rfl ?_
      refine ge_iload_n (n := 14) C 0 rfl dX3_thickenAll_13 rfl rfl ?_
      refine ge_iload_n (n := 15) C 2 rfl dX3_thickenAll_14 rfl rfl ?_
      refine ge_callVv (n := 18) C (mX3_thicken hj (o0 := o0) ho0 x3_2 a1 S_2) gv_X3_45 (cl_11 ho0) rfl rfl hc_X3_thicken ⟨Nat.le_of_ble_eq_true rfl, Nat.le_of_ble_eq_true rfl⟩ rfl rfl (Nat.le_of_ble_eq_true rfl) dX3_thickenAll_15 rfl (fun _ S_15 => ?_)
      refine ge_iinc (n := 21) (v := (x3_2 + (1 : Int32))) (lv2 := [(3, .int (x3_2 + (1 : Int32))), (0, .ref (adr 11 o0)), (1, .int a1), (2, .int a2)]) C 0 rfl dX3_thickenAll_18 rfl rfl (by decide) rfl ?_
      refine ge_goto (n := 2) C dX3_thickenAll_21 (by decide) ?_
      exact hag2 (x3_2 + (1 : Int32)) S_15
theorem dJ9_floorMod_7cf53_0 : decode cJ9_floorMod_7cf53 0 = .ok (.iload_n 0, 1) := by decide +kernel
theorem dJ9_floorMod_7cf53_1 : decode cJ9_floorMod_7cf53 1 = .ok (.iload_n 1, 1) := by decide +kernel
theorem dJ9_floorMod_7cf53_2 : decode cJ9_floorMod_7cf53 2 = .ok (.irem, 1) := by decide +kernel
theorem dJ9_floorMod_7cf53_3 : decode cJ9_floorMod_7cf53 3 = .ok (.istore_n 2, 1) := by decide +kernel
theorem dJ9_floorMod_7cf53_4 : decode cJ9_floorMod_7cf53 4 = .ok (.iload_n 0, 1) := by decide +kernel
theorem dJ9_floorMod_7cf53_5 : decode cJ9_floorMod_7cf53 5 = .ok (.iload_n 1, 1) := by decide +kernel
theorem dJ9_floorMod_7cf53_6 : decode cJ9_floorMod_7cf53 6 = .ok (.ixor, 1) := by decide +kernel
theorem dJ9_floorMod_7cf53_7 : decode cJ9_floorMod_7cf53 7 = .ok (.ifCond .ge 11, 3) := by decide +kernel
theorem dJ9_floorMod_7cf53_10 : decode cJ9_floorMod_7cf53 10 = .ok (.iload_n 2, 1) := by decide +kernel
theorem dJ9_floorMod_7cf53_11 : decode cJ9_floorMod_7cf53 11 = .ok (.ifCond .eq 7, 3) := by decide +kernel
theorem dJ9_floorMod_7cf53_14 : decode cJ9_floorMod_7cf53 14 = .ok (.iload_n 2, 1) := by decide +kernel
theorem dJ9_floorMod_7cf53_15 : decode cJ9_floorMod_7cf53 15 = .ok (.iload_n 1, 1) := by decide +kernel
theorem dJ9_floorMod_7cf53_16 : decode cJ9_floorMod_7cf53 16 = .ok (.iadd, 1) := by decide +kernel
theorem dJ9_floorMod_7cf53_17 : decode cJ9_floorMod_7cf53 17 = .ok (.ireturn, 1) := by decide +kernel
theorem dJ9_floorMod_7cf53_18 : decode cJ9_floorMod_7cf53 18 = .ok (.iload_n 2, 1) := by decide +kernel
theorem dJ9_floorMod_7cf53_19 : decode cJ9_floorMod_7cf53 19 = .ok (.ireturn, 1) := by decide +kernel
set_option maxRecDepth 100000 in
set_option maxHeartbeats 4000000 in
theorem mJ9_floorMod_7cf53 {w : WX} {adr : Nat → Nat → Nat} (hj : Ij adr) (a0 : Int32) (a1 : Int32) (S : St) : ∀ (l : Launch) (r : Int32) (S2 : St), fJ9_floorMod_7cf53 a0 a1 S = some (r, S2) → Mi l w adr yJ9_floorMod_7cf53 cJ9_floorMod_7cf53 3 (some .int) 0 0 [.int a0, .int a1] S r S2 := by
  refine mi_of (lv := [(0, .int a0), (1, .int a1)]) hj (by decide +kernel) rfl (Nat.le_of_ble_eq_true rfl) (fun k C Rr => ?_)
  have C : Cx w adr k cJ9_floorMod_7cf53 RJ9 3 0 0 := C
  refine ge_iload_n (n := 1) C 0 rfl dJ9_floorMod_7cf53_0 rfl rfl ?_
  refine ge_iload_n (n := 2) C 1 rfl dJ9_floorMod_7cf53_1 rfl rfl ?_
  refine ge_irem (n := 3) C dJ9_floorMod_7cf53_2 rfl (fun _ => ?_)
  refine ge_bi (fun x2_3 => ?_)
  refine ge_istore_n (n := 4) (lv2 := [(2, .int x2_3), (0, .int a0), (1, .int a1)]) C dJ9_floorMod_7cf53_3 rfl rfl (by decide) rfl ?_
  refine ge_iload_n (n := 5) C 1 rfl dJ9_floorMod_7cf53_4 rfl rfl ?_
  refine ge_iload_n (n := 6) C 2 rfl dJ9_floorMod_7cf53_5 rfl rfl ?_
  refine ge_ixor (n := 7) C dJ9_floorMod_7cf53_6 rfl ?_
  refine ge_if_ge (t := 18) (n := 10) C dJ9_floorMod_7cf53_7 (by decide) rfl (fun h_7 => ?_) (fun h_7 => ?_)
  · refine ge_iload_n (n := 19) C 0 rfl dJ9_floorMod_7cf53_18 rfl rfl ?_
    exact ge_iret C Rr dJ9_floorMod_7cf53_19
  · refine ge_iload_n (n := 11) C 0 rfl dJ9_floorMod_7cf53_10 rfl rfl ?_
    refine ge_if_eq (t := 18) (n := 14) C dJ9_floorMod_7cf53_11 (by decide) rfl (fun h_11 => ?_) (fun h_11 => ?_)
    · refine ge_iload_n (n := 19) C 0 rfl dJ9_floorMod_7cf53_18 rfl rfl ?_
      exact ge_iret C Rr dJ9_floorMod_7cf53_19
    · refine ge_iload_n (n := 15) C 0 rfl dJ9_floorMod_7cf53_14 rfl rfl ?_
      refine ge_iload_n (n := 16) C 2 rfl dJ9_floorMod_7cf53_15 rfl rfl ?_
      refine ge_iadd (n := 17) C dJ9_floorMod_7cf53_16 rfl ?_
      exact ge_iret C Rr dJ9_floorMod_7cf53_17
theorem dX3_thinnestPlace_0 : decode cX3_thinnestPlace 0 = .ok (.iconst 0, 1) := by decide +kernel
theorem dX3_thinnestPlace_1 : decode cX3_thinnestPlace 1 = .ok (.istore_n 1, 1) := by decide +kernel
theorem dX3_thinnestPlace_2 : decode cX3_thinnestPlace 2 = .ok (.iconst 1, 1) := by decide +kernel
theorem dX3_thinnestPlace_3 : decode cX3_thinnestPlace 3 = .ok (.istore_n 2, 1) := by decide +kernel
theorem dX3_thinnestPlace_4 : decode cX3_thinnestPlace 4 = .ok (.iload_n 2, 1) := by decide +kernel
theorem dX3_thinnestPlace_5 : decode cX3_thinnestPlace 5 = .ok (.iconst 5, 1) := by decide +kernel
theorem dX3_thinnestPlace_6 : decode cX3_thinnestPlace 6 = .ok (.if_icmp .ge 26, 3) := by decide +kernel
theorem dX3_thinnestPlace_9 : decode cX3_thinnestPlace 9 = .ok (.aload_n 0, 1) := by decide +kernel
theorem dX3_thinnestPlace_10 : decode cX3_thinnestPlace 10 = .ok (.getfield 15, 3) := by decide +kernel
theorem dX3_thinnestPlace_13 : decode cX3_thinnestPlace 13 = .ok (.iload_n 2, 1) := by decide +kernel
theorem dX3_thinnestPlace_14 : decode cX3_thinnestPlace 14 = .ok (.iaload, 1) := by decide +kernel
theorem dX3_thinnestPlace_15 : decode cX3_thinnestPlace 15 = .ok (.aload_n 0, 1) := by decide +kernel
theorem dX3_thinnestPlace_16 : decode cX3_thinnestPlace 16 = .ok (.getfield 15, 3) := by decide +kernel
theorem dX3_thinnestPlace_19 : decode cX3_thinnestPlace 19 = .ok (.iload_n 1, 1) := by decide +kernel
theorem dX3_thinnestPlace_20 : decode cX3_thinnestPlace 20 = .ok (.iaload, 1) := by decide +kernel
theorem dX3_thinnestPlace_21 : decode cX3_thinnestPlace 21 = .ok (.if_icmp .ge 5, 3) := by decide +kernel
theorem dX3_thinnestPlace_24 : decode cX3_thinnestPlace 24 = .ok (.iload_n 2, 1) := by decide +kernel
theorem dX3_thinnestPlace_25 : decode cX3_thinnestPlace 25 = .ok (.istore_n 1, 1) := by decide +kernel
theorem dX3_thinnestPlace_26 : decode cX3_thinnestPlace 26 = .ok (.iinc 2 1, 3) := by decide +kernel
theorem dX3_thinnestPlace_29 : decode cX3_thinnestPlace 29 = .ok (.goto (-25), 3) := by decide +kernel
theorem dX3_thinnestPlace_32 : decode cX3_thinnestPlace 32 = .ok (.iload_n 1, 1) := by decide +kernel
theorem dX3_thinnestPlace_33 : decode cX3_thinnestPlace 33 = .ok (.ireturn, 1) := by decide +kernel
set_option maxRecDepth 100000 in
set_option maxHeartbeats 4000000 in
theorem mX3_thinnestPlace {w : WX} {adr : Nat → Nat → Nat} (hj : Ij adr) {o0 : Nat} (ho0 : o0 < 7) (S : St) : ∀ (l : Launch) (r : Int32) (S2 : St), fX3_thinnestPlace o0 S = some (r, S2) → Mi l w adr yX3_thinnestPlace cX3_thinnestPlace 3 (some .int) 0 0 [.ref (adr 11 o0)] S r S2 := by
  refine mi_of (lv := [(0, .ref (adr 11 o0))]) hj (plainFor_of_name (by decide +kernel)) rfl (Nat.le_of_ble_eq_true rfl) (fun k C Rr => ?_)
  have C : Cx w adr k cX3_thinnestPlace RX3 3 0 0 := C
  refine ge_iconst (v := 0) (n := 1) C dX3_thinnestPlace_0 (by decide) rfl ?_
  refine ge_istore_n (n := 2) (lv2 := [(1, .int (0 : Int32)), (0, .ref (adr 11 o0))]) C dX3_thinnestPlace_1 rfl rfl (by decide) rfl ?_
  refine ge_iconst (v := 1) (n := 3) C dX3_thinnestPlace_2 (by decide) rfl ?_
  refine ge_istore_n (n := 4) (lv2 := [(2, .int (1 : Int32)), (1, .int (0 : Int32)), (0, .ref (adr 11 o0))]) C dX3_thinnestPlace_3 rfl rfl (by decide) rfl ?_
  refine ge_jn (fun (jj : Int32 → Op) => ∀ (x1_32 : Int32), Ge w adr k 32 [(1, .int x1_32)] [] S (jj x1_32)) (fun x1_32 => ?_) (fun kk4 hkk4 => ?_)
  · refine ge_iload_n (n := 33) C 0 rfl dX3_thinnestPlace_32 rfl rfl ?_
    exact ge_iret C Rr dX3_thinnestPlace_33
  refine ge_lop (fun (jj : Int32 → Int32 → Op) => ∀ (x2_4 : Int32) (x1_4 : Int32), Ge w adr k 4 [(2, .int x2_4), (1, .int x1_4), (0, .ref (adr 11 o0))] [] S (jj x2_4 x1_4)) (fun _ _ => ge_none) (fun ag4 hag4 x2_4 x1_4 => ?_) FU (1 : Int32) (0 : Int32)
  refine ge_iload_n (n := 5) C 0 rfl dX3_thinnestPlace_4 rfl rfl ?_
  refine ge_iconst (v := 5) (n := 6) C dX3_thinnestPlace_5 (by decide) rfl ?_
  refine ge_icmp_ge (t := 32) (n := 9) C dX3_thinnestPlace_6 (by decide) rfl (fun h_6 => ?_) (fun h_6 => ?_)
  · refine ge_sub [1] rfl ?_
    exact hkk4 x1_4
  · refine ge_aload_n (n := 10) C 2 rfl dX3_thinnestPlace_9 rfl rfl ?_
    refine gt_X3_15 (n := 13) C ho0 dX3_thinnestPlace_10 rfl ?_
    refine ge_iload_n (n := 14) C 0 rfl dX3_thinnestPlace_13 rfl rfl ?_
    refine al_13 (n := 15) C ho0 dX3_thinnestPlace_14 rfl ?_
    refine ge_aload_n (n := 16) C 2 rfl dX3_thinnestPlace_15 rfl rfl ?_
    refine gt_X3_15 (n := 19) C ho0 dX3_thinnestPlace_16 rfl ?_
    refine ge_iload_n (n := 20) C 1 rfl dX3_thinnestPlace_19 rfl rfl ?_
    refine al_13 (n := 21) C ho0 dX3_thinnestPlace_20 rfl ?_
    refine ge_icmp_ge (t := 26) (n := 24) C dX3_thinnestPlace_21 (by decide) rfl (fun h_21 => ?_) (fun h_21 => ?_)
    · refine ge_iinc (n := 29) (v := (x2_4 + (1 : Int32))) (lv2 := [(2, .int (x2_4 + (1 : Int32))), (1, .int x1_4), (0, .ref (adr 11 o0))]) C 0 rfl dX3_thinnestPlace_26 rfl rfl (by decide) rfl ?_
      refine ge_goto (n := 4) C dX3_thinnestPlace_29 (by decide) ?_
      exact hag4 (x2_4 + (1 : Int32)) x1_4
    · refine ge_iload_n (n := 25) C 0 rfl dX3_thinnestPlace_24 rfl rfl ?_
      refine ge_istore_n (n := 26) (lv2 := [(1, .int x2_4), (2, .int x2_4), (0, .ref (adr 11 o0))]) C dX3_thinnestPlace_25 rfl rfl (by decide) rfl ?_
      refine ge_iinc (n := 29) (v := (x2_4 + (1 : Int32))) (lv2 := [(2, .int (x2_4 + (1 : Int32))), (1, .int x2_4), (0, .ref (adr 11 o0))]) C 1 rfl dX3_thinnestPlace_26 rfl rfl (by decide) rfl ?_
      refine ge_goto (n := 4) C dX3_thinnestPlace_29 (by decide) ?_
      exact hag4 (x2_4 + (1 : Int32)) x2_4
theorem dX3_tan_0 : decode cX3_tan 0 = .ok (.aload_n 0, 1) := by decide +kernel
theorem dX3_tan_1 : decode cX3_tan 1 = .ok (.getfield 23, 3) := by decide +kernel
theorem dX3_tan_4 : decode cX3_tan 4 = .ok (.ifCond .ne 12, 3) := by decide +kernel
theorem dX3_tan_7 : decode cX3_tan 7 = .ok (.aload_n 0, 1) := by decide +kernel
theorem dX3_tan_8 : decode cX3_tan 8 = .ok (.iload_n 1, 1) := by decide +kernel
theorem dX3_tan_9 : decode cX3_tan 9 = .ok (.iconst (-1), 1) := by decide +kernel
theorem dX3_tan_10 : decode cX3_tan 10 = .ok (.invokevirtual 35, 3) := by decide +kernel
theorem dX3_tan_13 : decode cX3_tan 13 = .ok (.goto 56, 3) := by decide +kernel
theorem dX3_tan_16 : decode cX3_tan 16 = .ok (.aload_n 0, 1) := by decide +kernel
theorem dX3_tan_17 : decode cX3_tan 17 = .ok (.getfield 23, 3) := by decide +kernel
theorem dX3_tan_20 : decode cX3_tan 20 = .ok (.iconst 1, 1) := by decide +kernel
theorem dX3_tan_21 : decode cX3_tan 21 = .ok (.if_icmp .ne 16, 3) := by decide +kernel
theorem dX3_tan_24 : decode cX3_tan 24 = .ok (.aload_n 0, 1) := by decide +kernel
theorem dX3_tan_25 : decode cX3_tan 25 = .ok (.iload_n 1, 1) := by decide +kernel
theorem dX3_tan_26 : decode cX3_tan 26 = .ok (.iconst 2, 1) := by decide +kernel
theorem dX3_tan_27 : decode cX3_tan 27 = .ok (.idiv, 1) := by decide +kernel
theorem dX3_tan_28 : decode cX3_tan 28 = .ok (.iconst 1, 1) := by decide +kernel
theorem dX3_tan_29 : decode cX3_tan 29 = .ok (.iadd, 1) := by decide +kernel
theorem dX3_tan_30 : decode cX3_tan 30 = .ok (.iconst 2, 1) := by decide +kernel
theorem dX3_tan_31 : decode cX3_tan 31 = .ok (.invokevirtual 35, 3) := by decide +kernel
theorem dX3_tan_34 : decode cX3_tan 34 = .ok (.goto 35, 3) := by decide +kernel
theorem dX3_tan_37 : decode cX3_tan 37 = .ok (.aload_n 0, 1) := by decide +kernel
theorem dX3_tan_38 : decode cX3_tan 38 = .ok (.getfield 23, 3) := by decide +kernel
theorem dX3_tan_41 : decode cX3_tan 41 = .ok (.iconst 2, 1) := by decide +kernel
theorem dX3_tan_42 : decode cX3_tan 42 = .ok (.if_icmp .ne 16, 3) := by decide +kernel
theorem dX3_tan_45 : decode cX3_tan 45 = .ok (.aload_n 0, 1) := by decide +kernel
theorem dX3_tan_46 : decode cX3_tan 46 = .ok (.iload_n 2, 1) := by decide +kernel
theorem dX3_tan_47 : decode cX3_tan 47 = .ok (.iconst 5, 1) := by decide +kernel
theorem dX3_tan_48 : decode cX3_tan 48 = .ok (.invokestatic 39, 3) := by decide +kernel
theorem dX3_tan_51 : decode cX3_tan 51 = .ok (.iconst 1, 1) := by decide +kernel
theorem dX3_tan_52 : decode cX3_tan 52 = .ok (.invokevirtual 45, 3) := by decide +kernel
theorem dX3_tan_55 : decode cX3_tan 55 = .ok (.goto 14, 3) := by decide +kernel
theorem dX3_tan_58 : decode cX3_tan 58 = .ok (.aload_n 0, 1) := by decide +kernel
theorem dX3_tan_59 : decode cX3_tan 59 = .ok (.aload_n 0, 1) := by decide +kernel
theorem dX3_tan_60 : decode cX3_tan 60 = .ok (.invokevirtual 48, 3) := by decide +kernel
theorem dX3_tan_63 : decode cX3_tan 63 = .ok (.iconst 3, 1) := by decide +kernel
theorem dX3_tan_64 : decode cX3_tan 64 = .ok (.iload_n 1, 1) := by decide +kernel
theorem dX3_tan_65 : decode cX3_tan 65 = .ok (.imul, 1) := by decide +kernel
theorem dX3_tan_66 : decode cX3_tan 66 = .ok (.invokevirtual 45, 3) := by decide +kernel
theorem dX3_tan_69 : decode cX3_tan 69 = .ok (.return_, 1) := by decide +kernel
set_option maxRecDepth 100000 in
set_option maxHeartbeats 4000000 in
theorem mX3_tan {w : WX} {adr : Nat → Nat → Nat} (hj : Ij adr) {o0 : Nat} (ho0 : o0 < 7) (a1 : Int32) (a2 : Int32) (S : St) : ∀ (l : Launch) (r : Int32) (S2 : St), fX3_tan o0 a1 a2 S = some (r, S2) → Mv l w adr yX3_tan cX3_tan 3 none 3 66 [.ref (adr 11 o0), .int a1, .int a2] S S2 := by
  refine mv_of (lv := [(0, .ref (adr 11 o0)), (1, .int a1), (2, .int a2)]) hj (plainFor_of_name (by decide +kernel)) rfl (Nat.le_of_ble_eq_true rfl) (fun k C Rr => ?_)
  have C : Cx w adr k cX3_tan RX3 3 3 66 := C
  refine ge_aload_n (n := 1) C 0 rfl dX3_tan_0 rfl rfl ?_
  refine gt_X3_23 (n := 4) C ho0 dX3_tan_1 rfl ?_
  refine ge_if_ne (t := 16) (n := 7) C dX3_tan_4 (by decide) rfl (fun h_4 => ?_) (fun h_4 => ?_)
  · refine ge_aload_n (n := 17) C 0 rfl dX3_tan_16 rfl rfl ?_
    refine gt_X3_23 (n := 20) C ho0 dX3_tan_17 rfl ?_
    refine ge_iconst (v := 1) (n := 21) C dX3_tan_20 (by decide) rfl ?_
    refine ge_icmp_ne (t := 37) (n := 24) C dX3_tan_21 (by decide) rfl (fun h_21 => ?_) (fun h_21 => ?_)
    · refine ge_aload_n (n := 38) C 0 rfl dX3_tan_37 rfl rfl ?_
      refine gt_X3_23 (n := 41) C ho0 dX3_tan_38 rfl ?_
      refine ge_iconst (v := 2) (n := 42) C dX3_tan_41 (by decide) rfl ?_
      refine ge_icmp_ne (t := 58) (n := 45) C dX3_tan_42 (by decide) rfl (fun h_42 => ?_) (fun h_42 => ?_)
      · refine ge_aload_n (n := 59) C 0 rfl dX3_tan_58 rfl rfl ?_
        refine ge_aload_n (n := 60) C 0 rfl dX3_tan_59 rfl rfl ?_
        refine ge_callVi (n := 63) C (mX3_thinnestPlace hj (o0 := o0) ho0 S) gv_X3_48 (cl_11 ho0) rfl rfl hc_X3_thinnestPlace ⟨Nat.le_of_ble_eq_true rfl, Nat.le_of_ble_eq_true rfl⟩ rfl rfl (Nat.le_of_ble_eq_true rfl) dX3_tan_60 rfl (fun r_60 S_60 => ?_)
        refine ge_iconst (v := 3) (n := 64) C dX3_tan_63 (by decide) rfl ?_
        refine ge_iload_n (n := 65) C 1 rfl dX3_tan_64 rfl rfl ?_
        refine ge_imul (n := 66) C dX3_tan_65 rfl ?_
        refine ge_callVv (n := 69) C (mX3_thicken hj (o0 := o0) ho0 r_60 ((3 : Int32) * a1) S_60) gv_X3_45 (cl_11 ho0) rfl rfl hc_X3_thicken ⟨Nat.le_of_ble_eq_true rfl, Nat.le_of_ble_eq_true rfl⟩ rfl rfl (Nat.le_of_ble_eq_true rfl) dX3_tan_66 rfl (fun _ S_66 => ?_)
        exact ge_vret C Rr dX3_tan_69
      · refine ge_aload_n (n := 46) C 0 rfl dX3_tan_45 rfl rfl ?_
        refine ge_iload_n (n := 47) C 2 rfl dX3_tan_46 rfl rfl ?_
        refine ge_iconst (v := 5) (n := 48) C dX3_tan_47 (by decide) rfl ?_
        refine ge_callSi (n := 51) C (mJ9_floorMod_7cf53 hj a2 (5 : Int32) S) gv_X3_39 hc_J9_floorMod_7cf53 ⟨Nat.le_of_ble_eq_true rfl, Nat.le_of_ble_eq_true rfl⟩ rfl rfl (Nat.le_of_ble_eq_true rfl) dX3_tan_48 rfl (fun r_48 S_48 => ?_)
        refine ge_iconst (v := 1) (n := 52) C dX3_tan_51 (by decide) rfl ?_
        refine ge_callVv (n := 55) C (mX3_thicken hj (o0 := o0) ho0 r_48 (1 : Int32) S_48) gv_X3_45 (cl_11 ho0) rfl rfl hc_X3_thicken ⟨Nat.le_of_ble_eq_true rfl, Nat.le_of_ble_eq_true rfl⟩ rfl rfl (Nat.le_of_ble_eq_true rfl) dX3_tan_52 rfl (fun _ S_52 => ?_)
        refine ge_goto (n := 69) C dX3_tan_55 (by decide) ?_
        exact ge_vret C Rr dX3_tan_69
    · refine ge_aload_n (n := 25) C 0 rfl dX3_tan_24 rfl rfl ?_
      refine ge_iload_n (n := 26) C 1 rfl dX3_tan_25 rfl rfl ?_
      refine ge_iconst (v := 2) (n := 27) C dX3_tan_26 (by decide) rfl ?_
      refine ge_idiv0 (n := 28) C (by decide) dX3_tan_27 rfl ?_
      refine ge_iconst (v := 1) (n := 29) C dX3_tan_28 (by decide) rfl ?_
      refine ge_iadd (n := 30) C dX3_tan_29 rfl ?_
      refine ge_iconst (v := 2) (n := 31) C dX3_tan_30 (by decide) rfl ?_
      refine ge_callVv (n := 34) C (mX3_thickenAll hj (o0 := o0) ho0 ((a1 / (2 : Int32)) + (1 : Int32)) (2 : Int32) S) gv_X3_35 (cl_11 ho0) rfl rfl hc_X3_thickenAll ⟨Nat.le_of_ble_eq_true rfl, Nat.le_of_ble_eq_true rfl⟩ rfl rfl (Nat.le_of_ble_eq_true rfl) dX3_tan_31 rfl (fun _ S_31 => ?_)
      refine ge_goto (n := 69) C dX3_tan_34 (by decide) ?_
      exact ge_vret C Rr dX3_tan_69
  · refine ge_aload_n (n := 8) C 0 rfl dX3_tan_7 rfl rfl ?_
    refine ge_iload_n (n := 9) C 1 rfl dX3_tan_8 rfl rfl ?_
    refine ge_iconst (v := -1) (n := 10) C dX3_tan_9 (by decide) rfl ?_
    refine ge_callVv (n := 13) C (mX3_thickenAll hj (o0 := o0) ho0 a1 (-1 : Int32) S) gv_X3_35 (cl_11 ho0) rfl rfl hc_X3_thickenAll ⟨Nat.le_of_ble_eq_true rfl, Nat.le_of_ble_eq_true rfl⟩ rfl rfl (Nat.le_of_ble_eq_true rfl) dX3_tan_10 rfl (fun _ S_10 => ?_)
    refine ge_goto (n := 69) C dX3_tan_13 (by decide) ?_
    exact ge_vret C Rr dX3_tan_69
theorem dJ6_compare_7cf53_0 : decode cJ6_compare_7cf53 0 = .ok (.iload_n 0, 1) := by decide +kernel
theorem dJ6_compare_7cf53_1 : decode cJ6_compare_7cf53 1 = .ok (.iload_n 1, 1) := by decide +kernel
theorem dJ6_compare_7cf53_2 : decode cJ6_compare_7cf53 2 = .ok (.if_icmp .ge 7, 3) := by decide +kernel
theorem dJ6_compare_7cf53_5 : decode cJ6_compare_7cf53 5 = .ok (.iconst (-1), 1) := by decide +kernel
theorem dJ6_compare_7cf53_6 : decode cJ6_compare_7cf53 6 = .ok (.goto 13, 3) := by decide +kernel
theorem dJ6_compare_7cf53_9 : decode cJ6_compare_7cf53 9 = .ok (.iload_n 0, 1) := by decide +kernel
theorem dJ6_compare_7cf53_10 : decode cJ6_compare_7cf53 10 = .ok (.iload_n 1, 1) := by decide +kernel
theorem dJ6_compare_7cf53_11 : decode cJ6_compare_7cf53 11 = .ok (.if_icmp .ne 7, 3) := by decide +kernel
theorem dJ6_compare_7cf53_14 : decode cJ6_compare_7cf53 14 = .ok (.iconst 0, 1) := by decide +kernel
theorem dJ6_compare_7cf53_15 : decode cJ6_compare_7cf53 15 = .ok (.goto 4, 3) := by decide +kernel
theorem dJ6_compare_7cf53_18 : decode cJ6_compare_7cf53 18 = .ok (.iconst 1, 1) := by decide +kernel
theorem dJ6_compare_7cf53_19 : decode cJ6_compare_7cf53 19 = .ok (.ireturn, 1) := by decide +kernel
set_option maxRecDepth 100000 in
set_option maxHeartbeats 4000000 in
theorem mJ6_compare_7cf53 {w : WX} {adr : Nat → Nat → Nat} (hj : Ij adr) (a0 : Int32) (a1 : Int32) (S : St) : ∀ (l : Launch) (r : Int32) (S2 : St), fJ6_compare_7cf53 a0 a1 S = some (r, S2) → Mi l w adr yJ6_compare_7cf53 cJ6_compare_7cf53 2 (some .int) 0 0 [.int a0, .int a1] S r S2 := by
  refine mi_of (lv := [(0, .int a0), (1, .int a1)]) hj (plainFor_of_name (by decide +kernel)) rfl (Nat.le_of_ble_eq_true rfl) (fun k C Rr => ?_)
  have C : Cx w adr k cJ6_compare_7cf53 RJ6 2 0 0 := C
  refine ge_iload_n (n := 1) C 0 rfl dJ6_compare_7cf53_0 rfl rfl ?_
  refine ge_iload_n (n := 2) C 1 rfl dJ6_compare_7cf53_1 rfl rfl ?_
  refine ge_icmp_ge (t := 9) (n := 5) C dJ6_compare_7cf53_2 (by decide) rfl (fun h_2 => ?_) (fun h_2 => ?_)
  · refine ge_iload_n (n := 10) C 0 rfl dJ6_compare_7cf53_9 rfl rfl ?_
    refine ge_iload_n (n := 11) C 1 rfl dJ6_compare_7cf53_10 rfl rfl ?_
    refine ge_icmp_ne (t := 18) (n := 14) C dJ6_compare_7cf53_11 (by decide) rfl (fun h_11 => ?_) (fun h_11 => ?_)
    · refine ge_iconst (v := 1) (n := 19) C dJ6_compare_7cf53_18 (by decide) rfl ?_
      exact ge_iret C Rr dJ6_compare_7cf53_19
    · refine ge_iconst (v := 0) (n := 15) C dJ6_compare_7cf53_14 (by decide) rfl ?_
      refine ge_goto (n := 19) C dJ6_compare_7cf53_15 (by decide) ?_
      exact ge_iret C Rr dJ6_compare_7cf53_19
  · refine ge_iconst (v := -1) (n := 6) C dJ6_compare_7cf53_5 (by decide) rfl ?_
    refine ge_goto (n := 19) C dJ6_compare_7cf53_6 (by decide) ?_
    exact ge_iret C Rr dJ6_compare_7cf53_19
theorem dX3_isOver_0 : decode cX3_isOver 0 = .ok (.iconst 0, 1) := by decide +kernel
theorem dX3_isOver_1 : decode cX3_isOver 1 = .ok (.istore_n 2, 1) := by decide +kernel
theorem dX3_isOver_2 : decode cX3_isOver 2 = .ok (.iconst 0, 1) := by decide +kernel
theorem dX3_isOver_3 : decode cX3_isOver 3 = .ok (.istore_n 3, 1) := by decide +kernel
theorem dX3_isOver_4 : decode cX3_isOver 4 = .ok (.iload_n 3, 1) := by decide +kernel
theorem dX3_isOver_5 : decode cX3_isOver 5 = .ok (.iconst 5, 1) := by decide +kernel
theorem dX3_isOver_6 : decode cX3_isOver 6 = .ok (.if_icmp .ge 27, 3) := by decide +kernel
theorem dX3_isOver_9 : decode cX3_isOver 9 = .ok (.iload_n 2, 1) := by decide +kernel
theorem dX3_isOver_10 : decode cX3_isOver 10 = .ok (.aload_n 0, 1) := by decide +kernel
theorem dX3_isOver_11 : decode cX3_isOver 11 = .ok (.getfield 15, 3) := by decide +kernel
theorem dX3_isOver_14 : decode cX3_isOver 14 = .ok (.iload_n 3, 1) := by decide +kernel
theorem dX3_isOver_15 : decode cX3_isOver 15 = .ok (.iaload, 1) := by decide +kernel
theorem dX3_isOver_16 : decode cX3_isOver 16 = .ok (.aload_n 1, 1) := by decide +kernel
theorem dX3_isOver_17 : decode cX3_isOver 17 = .ok (.getfield 15, 3) := by decide +kernel
theorem dX3_isOver_20 : decode cX3_isOver 20 = .ok (.iload_n 3, 1) := by decide +kernel
theorem dX3_isOver_21 : decode cX3_isOver 21 = .ok (.iaload, 1) := by decide +kernel
theorem dX3_isOver_22 : decode cX3_isOver 22 = .ok (.invokestatic 55, 3) := by decide +kernel
theorem dX3_isOver_25 : decode cX3_isOver 25 = .ok (.iadd, 1) := by decide +kernel
theorem dX3_isOver_26 : decode cX3_isOver 26 = .ok (.istore_n 2, 1) := by decide +kernel
theorem dX3_isOver_27 : decode cX3_isOver 27 = .ok (.iinc 3 1, 3) := by decide +kernel
theorem dX3_isOver_30 : decode cX3_isOver 30 = .ok (.goto (-26), 3) := by decide +kernel
theorem dX3_isOver_33 : decode cX3_isOver 33 = .ok (.iload_n 2, 1) := by decide +kernel
theorem dX3_isOver_34 : decode cX3_isOver 34 = .ok (.ifCond .le 7, 3) := by decide +kernel
theorem dX3_isOver_37 : decode cX3_isOver 37 = .ok (.iconst 1, 1) := by decide +kernel
theorem dX3_isOver_38 : decode cX3_isOver 38 = .ok (.goto 4, 3) := by decide +kernel
theorem dX3_isOver_41 : decode cX3_isOver 41 = .ok (.iconst 0, 1) := by decide +kernel
theorem dX3_isOver_42 : decode cX3_isOver 42 = .ok (.ireturn, 1) := by decide +kernel
set_option maxRecDepth 100000 in
set_option maxHeartbeats 4000000 in
theorem mX3_isOver {w : WX} {adr : Nat → Nat → Nat} (hj : Ij adr) {o0 : Nat} (ho0 : o0 < 7) {o1 : Nat} (ho1 : o1 < 7) (S : St) : ∀ (l : Launch) (r : Int32) (S2 : St), fX3_isOver o0 o1 S = some (r, S2) → Mi l w adr yX3_isOver cX3_isOver 4 (some .boolean) 1 21 [.ref (adr 11 o0), .ref (adr 11 o1)] S r S2 := by
  refine mi_of (lv := [(0, .ref (adr 11 o0)), (1, .ref (adr 11 o1))]) hj (plainFor_of_name (by decide +kernel)) rfl (Nat.le_of_ble_eq_true rfl) (fun k C Rr => ?_)
  have C : Cx w adr k cX3_isOver RX3 4 1 21 := C
  refine ge_iconst (v := 0) (n := 1) C dX3_isOver_0 (by decide) rfl ?_
  refine ge_istore_n (n := 2) (lv2 := [(2, .int (0 : Int32)), (0, .ref (adr 11 o0)), (1, .ref (adr 11 o1))]) C dX3_isOver_1 rfl rfl (by decide) rfl ?_
  refine ge_iconst (v := 0) (n := 3) C dX3_isOver_2 (by decide) rfl ?_
  refine ge_istore_n (n := 4) (lv2 := [(3, .int (0 : Int32)), (2, .int (0 : Int32)), (0, .ref (adr 11 o0)), (1, .ref (adr 11 o1))]) C dX3_isOver_3 rfl rfl (by decide) rfl ?_
  refine ge_jn (fun (jj : Int32 → St → Op) => ∀ (x2_33 : Int32) (S_33 : St), Ge w adr k 33 [(2, .int x2_33)] [] S_33 (jj x2_33 S_33)) (fun x2_33 S_33 => ?_) (fun kk4 hkk4 => ?_)
  · refine ge_iload_n (n := 34) C 0 rfl dX3_isOver_33 rfl rfl ?_
    refine ge_if_le (t := 41) (n := 37) C dX3_isOver_34 (by decide) rfl (fun h_34 => ?_) (fun h_34 => ?_)
    · refine ge_iconst (v := 0) (n := 42) C dX3_isOver_41 (by decide) rfl ?_
      exact ge_zret C Rr (by decide) dX3_isOver_42
    · refine ge_iconst (v := 1) (n := 38) C dX3_isOver_37 (by decide) rfl ?_
      refine ge_goto (n := 42) C dX3_isOver_38 (by decide) ?_
      exact ge_zret C Rr (by decide) dX3_isOver_42
  refine ge_lop (fun (jj : Int32 → Int32 → St → Op) => ∀ (x3_4 : Int32) (x2_4 : Int32) (S_4 : St), Ge w adr k 4 [(3, .int x3_4), (2, .int x2_4), (0, .ref (adr 11 o0)), (1, .ref (adr 11 o1))] [] S_4 (jj x3_4 x2_4 S_4)) (fun _ _ _ => ge_none) (fun ag4 hag4 x3_4 x2_4 S_4 => ?_) FU (0 : Int32) (0 : Int32) S
  refine ge_iload_n (n := 5) C 0 rfl dX3_isOver_4 rfl rfl ?_
  refine ge_iconst (v := 5) (n := 6) C dX3_isOver_5 (by decide) rfl ?_
  refine ge_icmp_ge (t := 33) (n := 9) C dX3_isOver_6 (by decide) rfl (fun h_6 => ?_) (fun h_6 => ?_)
  · refine ge_sub [1] rfl ?_
    exact hkk4 x2_4 S_4
  · refine ge_iload_n (n := 10) C 1 rfl dX3_isOver_9 rfl rfl ?_
    refine ge_aload_n (n := 11) C 2 rfl dX3_isOver_10 rfl rfl ?_
    refine gt_X3_15 (n := 14) C ho0 dX3_isOver_11 rfl ?_
    refine ge_iload_n (n := 15) C 0 rfl dX3_isOver_14 rfl rfl ?_
    refine al_13 (n := 16) C ho0 dX3_isOver_15 rfl ?_
    refine ge_aload_n (n := 17) C 3 rfl dX3_isOver_16 rfl rfl ?_
    refine gt_X3_15 (n := 20) C ho1 dX3_isOver_17 rfl ?_
    refine ge_iload_n (n := 21) C 0 rfl dX3_isOver_20 rfl rfl ?_
    refine al_13 (n := 22) C ho1 dX3_isOver_21 rfl ?_
    refine ge_callSi (n := 25) C (mJ6_compare_7cf53 hj (S_4 13 o0 (Int32.toNatClampNeg x3_4)) (S_4 13 o1 (Int32.toNatClampNeg x3_4)) S_4) gv_X3_55 hc_J6_compare_7cf53 ⟨Nat.le_of_ble_eq_true rfl, Nat.le_of_ble_eq_true rfl⟩ rfl rfl (Nat.le_of_ble_eq_true rfl) dX3_isOver_22 rfl (fun r_22 S_22 => ?_)
    refine ge_iadd (n := 26) C dX3_isOver_25 rfl ?_
    refine ge_bi (fun x2_26 => ?_)
    refine ge_istore_n (n := 27) (lv2 := [(2, .int x2_26), (3, .int x3_4), (0, .ref (adr 11 o0)), (1, .ref (adr 11 o1))]) C dX3_isOver_26 rfl rfl (by decide) rfl ?_
    refine ge_iinc (n := 30) (v := (x3_4 + (1 : Int32))) (lv2 := [(3, .int (x3_4 + (1 : Int32))), (2, .int x2_26), (0, .ref (adr 11 o0)), (1, .ref (adr 11 o1))]) C 1 rfl dX3_isOver_27 rfl rfl (by decide) rfl ?_
    refine ge_goto (n := 4) C dX3_isOver_30 (by decide) ?_
    exact hag4 (x3_4 + (1 : Int32)) x2_26 S_22
theorem dX3_saveTo_0 : decode cX3_saveTo 0 = .ok (.aload_n 1, 1) := by decide +kernel
theorem dX3_saveTo_1 : decode cX3_saveTo 1 = .ok (.iload_n 2, 1) := by decide +kernel
theorem dX3_saveTo_2 : decode cX3_saveTo 2 = .ok (.aload_n 0, 1) := by decide +kernel
theorem dX3_saveTo_3 : decode cX3_saveTo 3 = .ok (.getfield 26, 3) := by decide +kernel
theorem dX3_saveTo_6 : decode cX3_saveTo 6 = .ok (.iastore, 1) := by decide +kernel
theorem dX3_saveTo_7 : decode cX3_saveTo 7 = .ok (.aload_n 1, 1) := by decide +kernel
theorem dX3_saveTo_8 : decode cX3_saveTo 8 = .ok (.iload_n 2, 1) := by decide +kernel
theorem dX3_saveTo_9 : decode cX3_saveTo 9 = .ok (.iconst 1, 1) := by decide +kernel
theorem dX3_saveTo_10 : decode cX3_saveTo 10 = .ok (.iadd, 1) := by decide +kernel
theorem dX3_saveTo_11 : decode cX3_saveTo 11 = .ok (.aload_n 0, 1) := by decide +kernel
theorem dX3_saveTo_12 : decode cX3_saveTo 12 = .ok (.getfield 29, 3) := by decide +kernel
theorem dX3_saveTo_15 : decode cX3_saveTo 15 = .ok (.iastore, 1) := by decide +kernel
theorem dX3_saveTo_16 : decode cX3_saveTo 16 = .ok (.iconst 0, 1) := by decide +kernel
theorem dX3_saveTo_17 : decode cX3_saveTo 17 = .ok (.istore_n 3, 1) := by decide +kernel
theorem dX3_saveTo_18 : decode cX3_saveTo 18 = .ok (.iload_n 3, 1) := by decide +kernel
theorem dX3_saveTo_19 : decode cX3_saveTo 19 = .ok (.iconst 5, 1) := by decide +kernel
theorem dX3_saveTo_20 : decode cX3_saveTo 20 = .ok (.if_icmp .ge 37, 3) := by decide +kernel
theorem dX3_saveTo_23 : decode cX3_saveTo 23 = .ok (.aload_n 1, 1) := by decide +kernel
theorem dX3_saveTo_24 : decode cX3_saveTo 24 = .ok (.iload_n 2, 1) := by decide +kernel
theorem dX3_saveTo_25 : decode cX3_saveTo 25 = .ok (.iconst 2, 1) := by decide +kernel
theorem dX3_saveTo_26 : decode cX3_saveTo 26 = .ok (.iadd, 1) := by decide +kernel
theorem dX3_saveTo_27 : decode cX3_saveTo 27 = .ok (.iload_n 3, 1) := by decide +kernel
theorem dX3_saveTo_28 : decode cX3_saveTo 28 = .ok (.iadd, 1) := by decide +kernel
theorem dX3_saveTo_29 : decode cX3_saveTo 29 = .ok (.aload_n 0, 1) := by decide +kernel
theorem dX3_saveTo_30 : decode cX3_saveTo 30 = .ok (.getfield 9, 3) := by decide +kernel
theorem dX3_saveTo_33 : decode cX3_saveTo 33 = .ok (.iload_n 3, 1) := by decide +kernel
theorem dX3_saveTo_34 : decode cX3_saveTo 34 = .ok (.iaload, 1) := by decide +kernel
theorem dX3_saveTo_35 : decode cX3_saveTo 35 = .ok (.iastore, 1) := by decide +kernel
theorem dX3_saveTo_36 : decode cX3_saveTo 36 = .ok (.aload_n 1, 1) := by decide +kernel
theorem dX3_saveTo_37 : decode cX3_saveTo 37 = .ok (.iload_n 2, 1) := by decide +kernel
theorem dX3_saveTo_38 : decode cX3_saveTo 38 = .ok (.iconst 2, 1) := by decide +kernel
theorem dX3_saveTo_39 : decode cX3_saveTo 39 = .ok (.iadd, 1) := by decide +kernel
theorem dX3_saveTo_40 : decode cX3_saveTo 40 = .ok (.iconst 5, 1) := by decide +kernel
theorem dX3_saveTo_41 : decode cX3_saveTo 41 = .ok (.iadd, 1) := by decide +kernel
theorem dX3_saveTo_42 : decode cX3_saveTo 42 = .ok (.iload_n 3, 1) := by decide +kernel
theorem dX3_saveTo_43 : decode cX3_saveTo 43 = .ok (.iadd, 1) := by decide +kernel
theorem dX3_saveTo_44 : decode cX3_saveTo 44 = .ok (.aload_n 0, 1) := by decide +kernel
theorem dX3_saveTo_45 : decode cX3_saveTo 45 = .ok (.getfield 15, 3) := by decide +kernel
theorem dX3_saveTo_48 : decode cX3_saveTo 48 = .ok (.iload_n 3, 1) := by decide +kernel
theorem dX3_saveTo_49 : decode cX3_saveTo 49 = .ok (.iaload, 1) := by decide +kernel
theorem dX3_saveTo_50 : decode cX3_saveTo 50 = .ok (.iastore, 1) := by decide +kernel
theorem dX3_saveTo_51 : decode cX3_saveTo 51 = .ok (.iinc 3 1, 3) := by decide +kernel
theorem dX3_saveTo_54 : decode cX3_saveTo 54 = .ok (.goto (-36), 3) := by decide +kernel
theorem dX3_saveTo_57 : decode cX3_saveTo 57 = .ok (.return_, 1) := by decide +kernel
set_option maxRecDepth 100000 in
set_option maxHeartbeats 4000000 in
theorem mX3_saveTo {w : WX} {adr : Nat → Nat → Nat} (hj : Ij adr) {o0 : Nat} (ho0 : o0 < 7) {o1 : Nat} (ho1 : o1 < 18) (a2 : Int32) (S : St) : ∀ (l : Launch) (r : Int32) (S2 : St), fX3_saveTo o0 o1 a2 S = some (r, S2) → Mv l w adr yX3_saveTo cX3_saveTo 4 none 0 0 [.ref (adr 11 o0), .ref (adr 17 o1), .int a2] S S2 := by
  refine mv_of (lv := [(0, .ref (adr 11 o0)), (1, .ref (adr 17 o1)), (2, .int a2)]) hj (plainFor_of_name (by decide +kernel)) rfl (Nat.le_of_ble_eq_true rfl) (fun k C Rr => ?_)
  have C : Cx w adr k cX3_saveTo RX3 4 0 0 := C
  refine ge_aload_n (n := 1) C 1 rfl dX3_saveTo_0 rfl rfl ?_
  refine ge_iload_n (n := 2) C 2 rfl dX3_saveTo_1 rfl rfl ?_
  refine ge_aload_n (n := 3) C 0 rfl dX3_saveTo_2 rfl rfl ?_
  refine gt_X3_26 (n := 6) C ho0 dX3_saveTo_3 rfl ?_
  refine as_17 (n := 7) C ho1 dX3_saveTo_6 rfl (fun S_6 => ?_)
  refine ge_aload_n (n := 8) C 1 rfl dX3_saveTo_7 rfl rfl ?_
  refine ge_iload_n (n := 9) C 2 rfl dX3_saveTo_8 rfl rfl ?_
  refine ge_iconst (v := 1) (n := 10) C dX3_saveTo_9 (by decide) rfl ?_
  refine ge_iadd (n := 11) C dX3_saveTo_10 rfl ?_
  refine ge_aload_n (n := 12) C 0 rfl dX3_saveTo_11 rfl rfl ?_
  refine gt_X3_29 (n := 15) C ho0 dX3_saveTo_12 rfl ?_
  refine as_17 (n := 16) C ho1 dX3_saveTo_15 rfl (fun S_15 => ?_)
  refine ge_iconst (v := 0) (n := 17) C dX3_saveTo_16 (by decide) rfl ?_
  refine ge_istore_n (n := 18) (lv2 := [(3, .int (0 : Int32)), (0, .ref (adr 11 o0)), (1, .ref (adr 17 o1)), (2, .int a2)]) C dX3_saveTo_17 rfl rfl (by decide) rfl ?_
  refine ge_jn (fun (jj : St → Op) => ∀ (S_57 : St), Ge w adr k 57 [] [] S_57 (jj S_57)) (fun S_57 => ?_) (fun kk18 hkk18 => ?_)
  · exact ge_vret C Rr dX3_saveTo_57
  refine ge_lop (fun (jj : Int32 → St → Op) => ∀ (x3_18 : Int32) (S_18 : St), Ge w adr k 18 [(3, .int x3_18), (0, .ref (adr 11 o0)), (1, .ref (adr 17 o1)), (2, .int a2)] [] S_18 (jj x3_18 S_18)) (fun _ _ => ge_none) (fun ag18 hag18 x3_18 S_18 => ?_) FU (0 : Int32) S_15
  refine ge_iload_n (n := 19) C 0 rfl dX3_saveTo_18 rfl rfl ?_
  refine ge_iconst (v := 5) (n := 20) C dX3_saveTo_19 (by decide) rfl ?_
  refine ge_icmp_ge (t := 57) (n := 23) C dX3_saveTo_20 (by decide) rfl (fun h_20 => ?_) (fun h_20 => ?_)
  · refine ge_sub [] rfl ?_
    exact hkk18 S_18
  · refine ge_aload_n (n := 24) C 2 rfl dX3_saveTo_23 rfl rfl ?_
    refine ge_iload_n (n := 25) C 3 rfl dX3_saveTo_24 rfl rfl ?_
    refine ge_iconst (v := 2) (n := 26) C dX3_saveTo_25 (by decide) rfl ?_
    refine ge_iadd (n := 27) C dX3_saveTo_26 rfl ?_
    refine ge_iload_n (n := 28) C 0 rfl dX3_saveTo_27 rfl rfl ?_
    refine ge_iadd (n := 29) C dX3_saveTo_28 rfl ?_
    refine ge_aload_n (n := 30) C 1 rfl dX3_saveTo_29 rfl rfl ?_
    refine gt_X3_9 (n := 33) C ho0 dX3_saveTo_30 rfl ?_
    refine ge_iload_n (n := 34) C 0 rfl dX3_saveTo_33 rfl rfl ?_
    refine al_12 (n := 35) C ho0 dX3_saveTo_34 rfl ?_
    refine as_17 (n := 36) C ho1 dX3_saveTo_35 rfl (fun S_35 => ?_)
    refine ge_aload_n (n := 37) C 2 rfl dX3_saveTo_36 rfl rfl ?_
    refine ge_iload_n (n := 38) C 3 rfl dX3_saveTo_37 rfl rfl ?_
    refine ge_iconst (v := 2) (n := 39) C dX3_saveTo_38 (by decide) rfl ?_
    refine ge_iadd (n := 40) C dX3_saveTo_39 rfl ?_
    refine ge_iconst (v := 5) (n := 41) C dX3_saveTo_40 (by decide) rfl ?_
    refine ge_iadd (n := 42) C dX3_saveTo_41 rfl ?_
    refine ge_iload_n (n := 43) C 0 rfl dX3_saveTo_42 rfl rfl ?_
    refine ge_iadd (n := 44) C dX3_saveTo_43 rfl ?_
    refine ge_aload_n (n := 45) C 1 rfl dX3_saveTo_44 rfl rfl ?_
    refine gt_X3_15 (n := 48) C ho0 dX3_saveTo_45 rfl ?_
    refine ge_iload_n (n := 49) C 0 rfl dX3_saveTo_48 rfl rfl ?_
    refine al_13 (n := 50) C ho0 dX3_saveTo_49 rfl ?_
    refine as_17 (n := 51) C ho1 dX3_saveTo_50 rfl (fun S_50 => ?_)
    refine ge_iinc (n := 54) (v := (x3_18 + (1 : Int32))) (lv2 := [(3, .int (x3_18 + (1 : Int32))), (0, .ref (adr 11 o0)), (1, .ref (adr 17 o1)), (2, .int a2)]) C 0 rfl dX3_saveTo_51 rfl rfl (by decide) rfl ?_
    refine ge_goto (n := 18) C dX3_saveTo_54 (by decide) ?_
    exact hag18 (x3_18 + (1 : Int32)) S_50
theorem dX3_loadFrom_0 : decode cX3_loadFrom 0 = .ok (.aload_n 0, 1) := by decide +kernel
theorem dX3_loadFrom_1 : decode cX3_loadFrom 1 = .ok (.aload_n 1, 1) := by decide +kernel
theorem dX3_loadFrom_2 : decode cX3_loadFrom 2 = .ok (.iload_n 2, 1) := by decide +kernel
theorem dX3_loadFrom_3 : decode cX3_loadFrom 3 = .ok (.iaload, 1) := by decide +kernel
theorem dX3_loadFrom_4 : decode cX3_loadFrom 4 = .ok (.putfield 26, 3) := by decide +kernel
theorem dX3_loadFrom_7 : decode cX3_loadFrom 7 = .ok (.aload_n 0, 1) := by decide +kernel
theorem dX3_loadFrom_8 : decode cX3_loadFrom 8 = .ok (.aload_n 1, 1) := by decide +kernel
theorem dX3_loadFrom_9 : decode cX3_loadFrom 9 = .ok (.iload_n 2, 1) := by decide +kernel
theorem dX3_loadFrom_10 : decode cX3_loadFrom 10 = .ok (.iconst 1, 1) := by decide +kernel
theorem dX3_loadFrom_11 : decode cX3_loadFrom 11 = .ok (.iadd, 1) := by decide +kernel
theorem dX3_loadFrom_12 : decode cX3_loadFrom 12 = .ok (.iaload, 1) := by decide +kernel
theorem dX3_loadFrom_13 : decode cX3_loadFrom 13 = .ok (.putfield 29, 3) := by decide +kernel
theorem dX3_loadFrom_16 : decode cX3_loadFrom 16 = .ok (.iconst 0, 1) := by decide +kernel
theorem dX3_loadFrom_17 : decode cX3_loadFrom 17 = .ok (.istore_n 3, 1) := by decide +kernel
theorem dX3_loadFrom_18 : decode cX3_loadFrom 18 = .ok (.iload_n 3, 1) := by decide +kernel
theorem dX3_loadFrom_19 : decode cX3_loadFrom 19 = .ok (.iconst 5, 1) := by decide +kernel
theorem dX3_loadFrom_20 : decode cX3_loadFrom 20 = .ok (.if_icmp .ge 37, 3) := by decide +kernel
theorem dX3_loadFrom_23 : decode cX3_loadFrom 23 = .ok (.aload_n 0, 1) := by decide +kernel
theorem dX3_loadFrom_24 : decode cX3_loadFrom 24 = .ok (.getfield 9, 3) := by decide +kernel
theorem dX3_loadFrom_27 : decode cX3_loadFrom 27 = .ok (.iload_n 3, 1) := by decide +kernel
theorem dX3_loadFrom_28 : decode cX3_loadFrom 28 = .ok (.aload_n 1, 1) := by decide +kernel
theorem dX3_loadFrom_29 : decode cX3_loadFrom 29 = .ok (.iload_n 2, 1) := by decide +kernel
theorem dX3_loadFrom_30 : decode cX3_loadFrom 30 = .ok (.iconst 2, 1) := by decide +kernel
theorem dX3_loadFrom_31 : decode cX3_loadFrom 31 = .ok (.iadd, 1) := by decide +kernel
theorem dX3_loadFrom_32 : decode cX3_loadFrom 32 = .ok (.iload_n 3, 1) := by decide +kernel
theorem dX3_loadFrom_33 : decode cX3_loadFrom 33 = .ok (.iadd, 1) := by decide +kernel
theorem dX3_loadFrom_34 : decode cX3_loadFrom 34 = .ok (.iaload, 1) := by decide +kernel
theorem dX3_loadFrom_35 : decode cX3_loadFrom 35 = .ok (.iastore, 1) := by decide +kernel
theorem dX3_loadFrom_36 : decode cX3_loadFrom 36 = .ok (.aload_n 0, 1) := by decide +kernel
theorem dX3_loadFrom_37 : decode cX3_loadFrom 37 = .ok (.getfield 15, 3) := by decide +kernel
theorem dX3_loadFrom_40 : decode cX3_loadFrom 40 = .ok (.iload_n 3, 1) := by decide +kernel
theorem dX3_loadFrom_41 : decode cX3_loadFrom 41 = .ok (.aload_n 1, 1) := by decide +kernel
theorem dX3_loadFrom_42 : decode cX3_loadFrom 42 = .ok (.iload_n 2, 1) := by decide +kernel
theorem dX3_loadFrom_43 : decode cX3_loadFrom 43 = .ok (.iconst 2, 1) := by decide +kernel
theorem dX3_loadFrom_44 : decode cX3_loadFrom 44 = .ok (.iadd, 1) := by decide +kernel
theorem dX3_loadFrom_45 : decode cX3_loadFrom 45 = .ok (.iconst 5, 1) := by decide +kernel
theorem dX3_loadFrom_46 : decode cX3_loadFrom 46 = .ok (.iadd, 1) := by decide +kernel
theorem dX3_loadFrom_47 : decode cX3_loadFrom 47 = .ok (.iload_n 3, 1) := by decide +kernel
theorem dX3_loadFrom_48 : decode cX3_loadFrom 48 = .ok (.iadd, 1) := by decide +kernel
theorem dX3_loadFrom_49 : decode cX3_loadFrom 49 = .ok (.iaload, 1) := by decide +kernel
theorem dX3_loadFrom_50 : decode cX3_loadFrom 50 = .ok (.iastore, 1) := by decide +kernel
theorem dX3_loadFrom_51 : decode cX3_loadFrom 51 = .ok (.iinc 3 1, 3) := by decide +kernel
theorem dX3_loadFrom_54 : decode cX3_loadFrom 54 = .ok (.goto (-36), 3) := by decide +kernel
theorem dX3_loadFrom_57 : decode cX3_loadFrom 57 = .ok (.return_, 1) := by decide +kernel
set_option maxRecDepth 100000 in
set_option maxHeartbeats 4000000 in
theorem mX3_loadFrom {w : WX} {adr : Nat → Nat → Nat} (hj : Ij adr) {o0 : Nat} (ho0 : o0 < 7) {o1 : Nat} (ho1 : o1 < 18) (a2 : Int32) (S : St) : ∀ (l : Launch) (r : Int32) (S2 : St), fX3_loadFrom o0 o1 a2 S = some (r, S2) → Mv l w adr yX3_loadFrom cX3_loadFrom 4 none 0 0 [.ref (adr 11 o0), .ref (adr 17 o1), .int a2] S S2 := by
  refine mv_of (lv := [(0, .ref (adr 11 o0)), (1, .ref (adr 17 o1)), (2, .int a2)]) hj (plainFor_of_name (by decide +kernel)) rfl (Nat.le_of_ble_eq_true rfl) (fun k C Rr => ?_)
  have C : Cx w adr k cX3_loadFrom RX3 4 0 0 := C
  refine ge_aload_n (n := 1) C 0 rfl dX3_loadFrom_0 rfl rfl ?_
  refine ge_aload_n (n := 2) C 1 rfl dX3_loadFrom_1 rfl rfl ?_
  refine ge_iload_n (n := 3) C 2 rfl dX3_loadFrom_2 rfl rfl ?_
  refine al_17 (n := 4) C ho1 dX3_loadFrom_3 rfl ?_
  refine pt_X3_26 (n := 7) C ho0 dX3_loadFrom_4 rfl (fun S_4 => ?_)
  refine ge_aload_n (n := 8) C 0 rfl dX3_loadFrom_7 rfl rfl ?_
  refine ge_aload_n (n := 9) C 1 rfl dX3_loadFrom_8 rfl rfl ?_
  refine ge_iload_n (n := 10) C 2 rfl dX3_loadFrom_9 rfl rfl ?_
  refine ge_iconst (v := 1) (n := 11) C dX3_loadFrom_10 (by decide) rfl ?_
  refine ge_iadd (n := 12) C dX3_loadFrom_11 rfl ?_
  refine al_17 (n := 13) C ho1 dX3_loadFrom_12 rfl ?_
  refine pt_X3_29 (n := 16) C ho0 dX3_loadFrom_13 rfl (fun S_13 => ?_)
  refine ge_iconst (v := 0) (n := 17) C dX3_loadFrom_16 (by decide) rfl ?_
  refine ge_istore_n (n := 18) (lv2 := [(3, .int (0 : Int32)), (0, .ref (adr 11 o0)), (1, .ref (adr 17 o1)), (2, .int a2)]) C dX3_loadFrom_17 rfl rfl (by decide) rfl ?_
  refine ge_jn (fun (jj : St → Op) => ∀ (S_57 : St), Ge w adr k 57 [] [] S_57 (jj S_57)) (fun S_57 => ?_) (fun kk18 hkk18 => ?_)
  · exact ge_vret C Rr dX3_loadFrom_57
  refine ge_lop (fun (jj : Int32 → St → Op) => ∀ (x3_18 : Int32) (S_18 : St), Ge w adr k 18 [(3, .int x3_18), (0, .ref (adr 11 o0)), (1, .ref (adr 17 o1)), (2, .int a2)] [] S_18 (jj x3_18 S_18)) (fun _ _ => ge_none) (fun ag18 hag18 x3_18 S_18 => ?_) FU (0 : Int32) S_13
  refine ge_iload_n (n := 19) C 0 rfl dX3_loadFrom_18 rfl rfl ?_
  refine ge_iconst (v := 5) (n := 20) C dX3_loadFrom_19 (by decide) rfl ?_
  refine ge_icmp_ge (t := 57) (n := 23) C dX3_loadFrom_20 (by decide) rfl (fun h_20 => ?_) (fun h_20 => ?_)
  · refine ge_sub [] rfl ?_
    exact hkk18 S_18
  · refine ge_aload_n (n := 24) C 1 rfl dX3_loadFrom_23 rfl rfl ?_
    refine gt_X3_9 (n := 27) C ho0 dX3_loadFrom_24 rfl ?_
    refine ge_iload_n (n := 28) C 0 rfl dX3_loadFrom_27 rfl rfl ?_
    refine ge_aload_n (n := 29) C 2 rfl dX3_loadFrom_28 rfl rfl ?_
    refine ge_iload_n (n := 30) C 3 rfl dX3_loadFrom_29 rfl rfl ?_
    refine ge_iconst (v := 2) (n := 31) C dX3_loadFrom_30 (by decide) rfl ?_
    refine ge_iadd (n := 32) C dX3_loadFrom_31 rfl ?_
    refine ge_iload_n (n := 33) C 0 rfl dX3_loadFrom_32 rfl rfl ?_
    refine ge_iadd (n := 34) C dX3_loadFrom_33 rfl ?_
    refine al_17 (n := 35) C ho1 dX3_loadFrom_34 rfl ?_
    refine as_12 (n := 36) C ho0 dX3_loadFrom_35 rfl (fun S_35 => ?_)
    refine ge_aload_n (n := 37) C 1 rfl dX3_loadFrom_36 rfl rfl ?_
    refine gt_X3_15 (n := 40) C ho0 dX3_loadFrom_37 rfl ?_
    refine ge_iload_n (n := 41) C 0 rfl dX3_loadFrom_40 rfl rfl ?_
    refine ge_aload_n (n := 42) C 2 rfl dX3_loadFrom_41 rfl rfl ?_
    refine ge_iload_n (n := 43) C 3 rfl dX3_loadFrom_42 rfl rfl ?_
    refine ge_iconst (v := 2) (n := 44) C dX3_loadFrom_43 (by decide) rfl ?_
    refine ge_iadd (n := 45) C dX3_loadFrom_44 rfl ?_
    refine ge_iconst (v := 5) (n := 46) C dX3_loadFrom_45 (by decide) rfl ?_
    refine ge_iadd (n := 47) C dX3_loadFrom_46 rfl ?_
    refine ge_iload_n (n := 48) C 0 rfl dX3_loadFrom_47 rfl rfl ?_
    refine ge_iadd (n := 49) C dX3_loadFrom_48 rfl ?_
    refine al_17 (n := 50) C ho1 dX3_loadFrom_49 rfl ?_
    refine as_13 (n := 51) C ho0 dX3_loadFrom_50 rfl (fun S_50 => ?_)
    refine ge_iinc (n := 54) (v := (x3_18 + (1 : Int32))) (lv2 := [(3, .int (x3_18 + (1 : Int32))), (0, .ref (adr 11 o0)), (1, .ref (adr 17 o1)), (2, .int a2)]) C 0 rfl dX3_loadFrom_51 rfl rfl (by decide) rfl ?_
    refine ge_goto (n := 18) C dX3_loadFrom_54 (by decide) ?_
    exact hag18 (x3_18 + (1 : Int32)) S_50
theorem dX7_saveTo_0 : decode cX7_saveTo 0 = .ok (.aload_n 1, 1) := by decide +kernel
theorem dX7_saveTo_1 : decode cX7_saveTo 1 = .ok (.iconst 0, 1) := by decide +kernel
theorem dX7_saveTo_2 : decode cX7_saveTo 2 = .ok (.aload_n 0, 1) := by decide +kernel
theorem dX7_saveTo_3 : decode cX7_saveTo 3 = .ok (.getfield 22, 3) := by decide +kernel
theorem dX7_saveTo_6 : decode cX7_saveTo 6 = .ok (.iastore, 1) := by decide +kernel
theorem dX7_saveTo_7 : decode cX7_saveTo 7 = .ok (.aload_n 1, 1) := by decide +kernel
theorem dX7_saveTo_8 : decode cX7_saveTo 8 = .ok (.iconst 1, 1) := by decide +kernel
theorem dX7_saveTo_9 : decode cX7_saveTo 9 = .ok (.aload_n 0, 1) := by decide +kernel
theorem dX7_saveTo_10 : decode cX7_saveTo 10 = .ok (.getfield 31, 3) := by decide +kernel
theorem dX7_saveTo_13 : decode cX7_saveTo 13 = .ok (.iastore, 1) := by decide +kernel
theorem dX7_saveTo_14 : decode cX7_saveTo 14 = .ok (.aload_n 1, 1) := by decide +kernel
theorem dX7_saveTo_15 : decode cX7_saveTo 15 = .ok (.iconst 2, 1) := by decide +kernel
theorem dX7_saveTo_16 : decode cX7_saveTo 16 = .ok (.aload_n 0, 1) := by decide +kernel
theorem dX7_saveTo_17 : decode cX7_saveTo 17 = .ok (.getfield 32, 3) := by decide +kernel
theorem dX7_saveTo_20 : decode cX7_saveTo 20 = .ok (.iastore, 1) := by decide +kernel
theorem dX7_saveTo_21 : decode cX7_saveTo 21 = .ok (.iconst 0, 1) := by decide +kernel
theorem dX7_saveTo_22 : decode cX7_saveTo 22 = .ok (.istore_n 2, 1) := by decide +kernel
theorem dX7_saveTo_23 : decode cX7_saveTo 23 = .ok (.iload_n 2, 1) := by decide +kernel
theorem dX7_saveTo_24 : decode cX7_saveTo 24 = .ok (.aload_n 0, 1) := by decide +kernel
theorem dX7_saveTo_25 : decode cX7_saveTo 25 = .ok (.getfield 17, 3) := by decide +kernel
theorem dX7_saveTo_28 : decode cX7_saveTo 28 = .ok (.getfield 35, 3) := by decide +kernel
theorem dX7_saveTo_31 : decode cX7_saveTo 31 = .ok (.if_icmp .ge 25, 3) := by decide +kernel
theorem dX7_saveTo_34 : decode cX7_saveTo 34 = .ok (.aload_n 0, 1) := by decide +kernel
theorem dX7_saveTo_35 : decode cX7_saveTo 35 = .ok (.getfield 11, 3) := by decide +kernel
theorem dX7_saveTo_38 : decode cX7_saveTo 38 = .ok (.iload_n 2, 1) := by decide +kernel
theorem dX7_saveTo_39 : decode cX7_saveTo 39 = .ok (.aaload, 1) := by decide +kernel
theorem dX7_saveTo_40 : decode cX7_saveTo 40 = .ok (.aload_n 1, 1) := by decide +kernel
theorem dX7_saveTo_41 : decode cX7_saveTo 41 = .ok (.iconst 3, 1) := by decide +kernel
theorem dX7_saveTo_42 : decode cX7_saveTo 42 = .ok (.iload_n 2, 1) := by decide +kernel
theorem dX7_saveTo_43 : decode cX7_saveTo 43 = .ok (.bipush 12, 2) := by decide +kernel
theorem dX7_saveTo_45 : decode cX7_saveTo 45 = .ok (.imul, 1) := by decide +kernel
theorem dX7_saveTo_46 : decode cX7_saveTo 46 = .ok (.iadd, 1) := by decide +kernel
theorem dX7_saveTo_47 : decode cX7_saveTo 47 = .ok (.invokevirtual 114, 3) := by decide +kernel
theorem dX7_saveTo_50 : decode cX7_saveTo 50 = .ok (.iinc 2 1, 3) := by decide +kernel
theorem dX7_saveTo_53 : decode cX7_saveTo 53 = .ok (.goto (-30), 3) := by decide +kernel
theorem dX7_saveTo_56 : decode cX7_saveTo 56 = .ok (.return_, 1) := by decide +kernel
set_option maxRecDepth 100000 in
set_option maxHeartbeats 4000000 in
theorem mX7_saveTo {w : WX} {adr : Nat → Nat → Nat} (hj : Ij adr) {o1 : Nat} (ho1 : o1 < 18) (S : St) : ∀ (l : Launch) (r : Int32) (S2 : St), fX7_saveTo o1 S = some (r, S2) → Mv l w adr yX7_saveTo cX7_saveTo 3 none 1 23 [.ref (adr 9 0), .ref (adr 17 o1)] S S2 := by
  refine mv_of (lv := [(0, .ref (adr 9 0)), (1, .ref (adr 17 o1))]) hj (plainFor_of_name (by decide +kernel)) rfl (Nat.le_of_ble_eq_true rfl) (fun k C Rr => ?_)
  have C : Cx w adr k cX7_saveTo RX7 3 1 23 := C
  refine ge_aload_n (n := 1) C 1 rfl dX7_saveTo_0 rfl rfl ?_
  refine ge_iconst (v := 0) (n := 2) C dX7_saveTo_1 (by decide) rfl ?_
  refine ge_aload_n (n := 3) C 0 rfl dX7_saveTo_2 rfl rfl ?_
  refine gt_X7_22 (n := 6) C (by decide) dX7_saveTo_3 rfl ?_
  refine as_17 (n := 7) C ho1 dX7_saveTo_6 rfl (fun S_6 => ?_)
  refine ge_aload_n (n := 8) C 1 rfl dX7_saveTo_7 rfl rfl ?_
  refine ge_iconst (v := 1) (n := 9) C dX7_saveTo_8 (by decide) rfl ?_
  refine ge_aload_n (n := 10) C 0 rfl dX7_saveTo_9 rfl rfl ?_
  refine gt_X7_31 (n := 13) C (by decide) dX7_saveTo_10 rfl ?_
  refine as_17 (n := 14) C ho1 dX7_saveTo_13 rfl (fun S_13 => ?_)
  refine ge_aload_n (n := 15) C 1 rfl dX7_saveTo_14 rfl rfl ?_
  refine ge_iconst (v := 2) (n := 16) C dX7_saveTo_15 (by decide) rfl ?_
  refine ge_aload_n (n := 17) C 0 rfl dX7_saveTo_16 rfl rfl ?_
  refine gt_X7_32 (n := 20) C (by decide) dX7_saveTo_17 rfl ?_
  refine as_17 (n := 21) C ho1 dX7_saveTo_20 rfl (fun S_20 => ?_)
  refine ge_iconst (v := 0) (n := 22) C dX7_saveTo_21 (by decide) rfl ?_
  refine ge_istore_n (n := 23) (lv2 := [(2, .int (0 : Int32)), (0, .ref (adr 9 0)), (1, .ref (adr 17 o1))]) C dX7_saveTo_22 rfl rfl (by decide) rfl ?_
  refine ge_jn (fun (jj : St → Op) => ∀ (S_56 : St), Ge w adr k 56 [] [] S_56 (jj S_56)) (fun S_56 => ?_) (fun kk23 hkk23 => ?_)
  · exact ge_vret C Rr dX7_saveTo_56
  refine ge_lop (fun (jj : Int32 → St → Op) => ∀ (x2_23 : Int32) (S_23 : St), Ge w adr k 23 [(2, .int x2_23), (0, .ref (adr 9 0)), (1, .ref (adr 17 o1))] [] S_23 (jj x2_23 S_23)) (fun _ _ => ge_none) (fun ag23 hag23 x2_23 S_23 => ?_) FU (0 : Int32) S_20
  refine ge_iload_n (n := 24) C 0 rfl dX7_saveTo_23 rfl rfl ?_
  refine ge_aload_n (n := 25) C 1 rfl dX7_saveTo_24 rfl rfl ?_
  refine gt_X7_17 (n := 28) C (by decide) dX7_saveTo_25 rfl ?_
  refine gt_X7_35 (n := 31) C (pid_lt _) dX7_saveTo_28 rfl ?_
  refine ge_icmp_ge (t := 56) (n := 34) C dX7_saveTo_31 (by decide) rfl (fun h_31 => ?_) (fun h_31 => ?_)
  · refine ge_sub [] rfl ?_
    exact hkk23 S_23
  · refine ge_aload_n (n := 35) C 1 rfl dX7_saveTo_34 rfl rfl ?_
    refine gt_X7_11 (n := 38) C (by decide) dX7_saveTo_35 rfl ?_
    refine ge_iload_n (n := 39) C 0 rfl dX7_saveTo_38 rfl rfl ?_
    refine al_10 (n := 40) C (by decide) dX7_saveTo_39 rfl (fun h_39 => ?_)
    refine ge_aload_n (n := 41) C 2 rfl dX7_saveTo_40 rfl rfl ?_
    refine ge_iconst (v := 3) (n := 42) C dX7_saveTo_41 (by decide) rfl ?_
    refine ge_iload_n (n := 43) C 0 rfl dX7_saveTo_42 rfl rfl ?_
    refine ge_bipush (v := 12) (n := 45) C dX7_saveTo_43 (by decide) rfl ?_
    refine ge_imul (n := 46) C dX7_saveTo_45 rfl ?_
    refine ge_iadd (n := 47) C dX7_saveTo_46 rfl ?_
    refine ge_callVv (n := 50) C (mX3_saveTo hj (o0 := (Int32.toNatClampNeg x2_23)) (bd_c h_39 (by decide)) (o1 := o1) ho1 ((3 : Int32) + (x2_23 * (12 : Int32))) S_23) gv_X7_114 (cl_11 (bd_c h_39 (by decide))) rfl rfl hc_X3_saveTo ⟨Nat.le_of_ble_eq_true rfl, Nat.le_of_ble_eq_true rfl⟩ rfl rfl (Nat.le_of_ble_eq_true rfl) dX7_saveTo_47 rfl (fun _ S_47 => ?_)
    refine ge_iinc (n := 53) (v := (x2_23 + (1 : Int32))) (lv2 := [(2, .int (x2_23 + (1 : Int32))), (0, .ref (adr 9 0)), (1, .ref (adr 17 o1))]) C 0 rfl dX7_saveTo_50 rfl rfl (by decide) rfl ?_
    refine ge_goto (n := 23) C dX7_saveTo_53 (by decide) ?_
    exact hag23 (x2_23 + (1 : Int32)) S_47
theorem dX4_push_0 : decode cX4_push 0 = .ok (.aload_n 1, 1) := by decide +kernel
theorem dX4_push_1 : decode cX4_push 1 = .ok (.aload_n 0, 1) := by decide +kernel
theorem dX4_push_2 : decode cX4_push 2 = .ok (.getfield 11, 3) := by decide +kernel
theorem dX4_push_5 : decode cX4_push 5 = .ok (.aload_n 0, 1) := by decide +kernel
theorem dX4_push_6 : decode cX4_push 6 = .ok (.getfield 23, 3) := by decide +kernel
theorem dX4_push_9 : decode cX4_push 9 = .ok (.aaload, 1) := by decide +kernel
theorem dX4_push_10 : decode cX4_push 10 = .ok (.invokevirtual 27, 3) := by decide +kernel
theorem dX4_push_13 : decode cX4_push 13 = .ok (.aload_n 0, 1) := by decide +kernel
theorem dX4_push_14 : decode cX4_push 14 = .ok (.aload_n 0, 1) := by decide +kernel
theorem dX4_push_15 : decode cX4_push 15 = .ok (.getfield 23, 3) := by decide +kernel
theorem dX4_push_18 : decode cX4_push 18 = .ok (.iconst 1, 1) := by decide +kernel
theorem dX4_push_19 : decode cX4_push 19 = .ok (.iadd, 1) := by decide +kernel
theorem dX4_push_20 : decode cX4_push 20 = .ok (.bipush 16, 2) := by decide +kernel
theorem dX4_push_22 : decode cX4_push 22 = .ok (.irem, 1) := by decide +kernel
theorem dX4_push_23 : decode cX4_push 23 = .ok (.putfield 23, 3) := by decide +kernel
theorem dX4_push_26 : decode cX4_push 26 = .ok (.aload_n 0, 1) := by decide +kernel
theorem dX4_push_27 : decode cX4_push 27 = .ok (.bipush 16, 2) := by decide +kernel
theorem dX4_push_29 : decode cX4_push 29 = .ok (.aload_n 0, 1) := by decide +kernel
theorem dX4_push_30 : decode cX4_push 30 = .ok (.getfield 33, 3) := by decide +kernel
theorem dX4_push_33 : decode cX4_push 33 = .ok (.iconst 1, 1) := by decide +kernel
theorem dX4_push_34 : decode cX4_push 34 = .ok (.iadd, 1) := by decide +kernel
theorem dX4_push_35 : decode cX4_push 35 = .ok (.invokestatic 36, 3) := by decide +kernel
theorem dX4_push_38 : decode cX4_push 38 = .ok (.putfield 33, 3) := by decide +kernel
theorem dX4_push_41 : decode cX4_push 41 = .ok (.return_, 1) := by decide +kernel
set_option maxRecDepth 100000 in
set_option maxHeartbeats 4000000 in
theorem mX4_push {w : WX} {adr : Nat → Nat → Nat} (hj : Ij adr)  (S : St) : ∀ (l : Launch) (r : Int32) (S2 : St), fX4_push S = some (r, S2) → Mv l w adr yX4_push cX4_push 2 none 2 45 [.ref (adr 14 0), .ref (adr 9 0)] S S2 := by
  refine mv_of (lv := [(0, .ref (adr 14 0)), (1, .ref (adr 9 0))]) hj (plainFor_of_name (by decide +kernel)) rfl (Nat.le_of_ble_eq_true rfl) (fun k C Rr => ?_)
  have C : Cx w adr k cX4_push RX4 2 2 45 := C
  refine ge_aload_n (n := 1) C 1 rfl dX4_push_0 rfl rfl ?_
  refine ge_aload_n (n := 2) C 0 rfl dX4_push_1 rfl rfl ?_
  refine gt_X4_11 (n := 5) C (by decide) dX4_push_2 rfl ?_
  refine ge_aload_n (n := 6) C 0 rfl dX4_push_5 rfl rfl ?_
  refine gt_X4_23 (n := 9) C (by decide) dX4_push_6 rfl ?_
  refine al_15 (n := 10) C (by decide) dX4_push_9 rfl (fun h_9 => ?_)
  refine ge_callVv (n := 13) C (mX7_saveTo hj (o1 := (Int32.toNatClampNeg (S 14 0 1))) (bd_c h_9 (by decide)) S) gv_X4_27 (cl_9 (by decide)) rfl rfl hc_X7_saveTo ⟨Nat.le_of_ble_eq_true rfl, Nat.le_of_ble_eq_true rfl⟩ rfl rfl (Nat.le_of_ble_eq_true rfl) dX4_push_10 rfl (fun _ S_10 => ?_)
  refine ge_aload_n (n := 14) C 0 rfl dX4_push_13 rfl rfl ?_
  refine ge_aload_n (n := 15) C 0 rfl dX4_push_14 rfl rfl ?_
  refine gt_X4_23 (n := 18) C (by decide) dX4_push_15 rfl ?_
  refine ge_iconst (v := 1) (n := 19) C dX4_push_18 (by decide) rfl ?_
  refine ge_iadd (n := 20) C dX4_push_19 rfl ?_
  refine ge_bipush (v := 16) (n := 22) C dX4_push_20 (by decide) rfl ?_
  refine ge_irem0 (n := 23) C (by decide) dX4_push_22 rfl ?_
  refine pt_X4_23 (n := 26) C (by decide) dX4_push_23 rfl (fun S_23 => ?_)
  refine ge_aload_n (n := 27) C 0 rfl dX4_push_26 rfl rfl ?_
  refine ge_bipush (v := 16) (n := 29) C dX4_push_27 (by decide) rfl ?_
  refine ge_aload_n (n := 30) C 0 rfl dX4_push_29 rfl rfl ?_
  refine gt_X4_33 (n := 33) C (by decide) dX4_push_30 rfl ?_
  refine ge_iconst (v := 1) (n := 34) C dX4_push_33 (by decide) rfl ?_
  refine ge_iadd (n := 35) C dX4_push_34 rfl ?_
  refine ge_mmin (n := 38) C ml_X4_36 (by decide) (Nat.le_of_ble_eq_true rfl) dX4_push_35 rfl ?_
  refine pt_X4_33 (n := 41) C (by decide) dX4_push_38 rfl (fun S_38 => ?_)
  exact ge_vret C Rr dX4_push_41
theorem dX7_loadFrom_0 : decode cX7_loadFrom 0 = .ok (.aload_n 0, 1) := by decide +kernel
theorem dX7_loadFrom_1 : decode cX7_loadFrom 1 = .ok (.aload_n 1, 1) := by decide +kernel
theorem dX7_loadFrom_2 : decode cX7_loadFrom 2 = .ok (.iconst 0, 1) := by decide +kernel
theorem dX7_loadFrom_3 : decode cX7_loadFrom 3 = .ok (.iaload, 1) := by decide +kernel
theorem dX7_loadFrom_4 : decode cX7_loadFrom 4 = .ok (.putfield 22, 3) := by decide +kernel
theorem dX7_loadFrom_7 : decode cX7_loadFrom 7 = .ok (.aload_n 0, 1) := by decide +kernel
theorem dX7_loadFrom_8 : decode cX7_loadFrom 8 = .ok (.aload_n 1, 1) := by decide +kernel
theorem dX7_loadFrom_9 : decode cX7_loadFrom 9 = .ok (.iconst 1, 1) := by decide +kernel
theorem dX7_loadFrom_10 : decode cX7_loadFrom 10 = .ok (.iaload, 1) := by decide +kernel
theorem dX7_loadFrom_11 : decode cX7_loadFrom 11 = .ok (.putfield 31, 3) := by decide +kernel
theorem dX7_loadFrom_14 : decode cX7_loadFrom 14 = .ok (.aload_n 0, 1) := by decide +kernel
theorem dX7_loadFrom_15 : decode cX7_loadFrom 15 = .ok (.aload_n 1, 1) := by decide +kernel
theorem dX7_loadFrom_16 : decode cX7_loadFrom 16 = .ok (.iconst 2, 1) := by decide +kernel
theorem dX7_loadFrom_17 : decode cX7_loadFrom 17 = .ok (.iaload, 1) := by decide +kernel
theorem dX7_loadFrom_18 : decode cX7_loadFrom 18 = .ok (.putfield 32, 3) := by decide +kernel
theorem dX7_loadFrom_21 : decode cX7_loadFrom 21 = .ok (.iconst 0, 1) := by decide +kernel
theorem dX7_loadFrom_22 : decode cX7_loadFrom 22 = .ok (.istore_n 2, 1) := by decide +kernel
theorem dX7_loadFrom_23 : decode cX7_loadFrom 23 = .ok (.iload_n 2, 1) := by decide +kernel
theorem dX7_loadFrom_24 : decode cX7_loadFrom 24 = .ok (.aload_n 0, 1) := by decide +kernel
theorem dX7_loadFrom_25 : decode cX7_loadFrom 25 = .ok (.getfield 17, 3) := by decide +kernel
theorem dX7_loadFrom_28 : decode cX7_loadFrom 28 = .ok (.getfield 35, 3) := by decide +kernel
theorem dX7_loadFrom_31 : decode cX7_loadFrom 31 = .ok (.if_icmp .ge 25, 3) := by decide +kernel
theorem dX7_loadFrom_34 : decode cX7_loadFrom 34 = .ok (.aload_n 0, 1) := by decide +kernel
theorem dX7_loadFrom_35 : decode cX7_loadFrom 35 = .ok (.getfield 11, 3) := by decide +kernel
theorem dX7_loadFrom_38 : decode cX7_loadFrom 38 = .ok (.iload_n 2, 1) := by decide +kernel
theorem dX7_loadFrom_39 : decode cX7_loadFrom 39 = .ok (.aaload, 1) := by decide +kernel
theorem dX7_loadFrom_40 : decode cX7_loadFrom 40 = .ok (.aload_n 1, 1) := by decide +kernel
theorem dX7_loadFrom_41 : decode cX7_loadFrom 41 = .ok (.iconst 3, 1) := by decide +kernel
theorem dX7_loadFrom_42 : decode cX7_loadFrom 42 = .ok (.iload_n 2, 1) := by decide +kernel
theorem dX7_loadFrom_43 : decode cX7_loadFrom 43 = .ok (.bipush 12, 2) := by decide +kernel
theorem dX7_loadFrom_45 : decode cX7_loadFrom 45 = .ok (.imul, 1) := by decide +kernel
theorem dX7_loadFrom_46 : decode cX7_loadFrom 46 = .ok (.iadd, 1) := by decide +kernel
theorem dX7_loadFrom_47 : decode cX7_loadFrom 47 = .ok (.invokevirtual 118, 3) := by decide +kernel
theorem dX7_loadFrom_50 : decode cX7_loadFrom 50 = .ok (.iinc 2 1, 3) := by decide +kernel
theorem dX7_loadFrom_53 : decode cX7_loadFrom 53 = .ok (.goto (-30), 3) := by decide +kernel
theorem dX7_loadFrom_56 : decode cX7_loadFrom 56 = .ok (.return_, 1) := by decide +kernel
set_option maxRecDepth 100000 in
set_option maxHeartbeats 4000000 in
theorem mX7_loadFrom {w : WX} {adr : Nat → Nat → Nat} (hj : Ij adr) {o1 : Nat} (ho1 : o1 < 18) (S : St) : ∀ (l : Launch) (r : Int32) (S2 : St), fX7_loadFrom o1 S = some (r, S2) → Mv l w adr yX7_loadFrom cX7_loadFrom 3 none 1 23 [.ref (adr 9 0), .ref (adr 17 o1)] S S2 := by
  refine mv_of (lv := [(0, .ref (adr 9 0)), (1, .ref (adr 17 o1))]) hj (plainFor_of_name (by decide +kernel)) rfl (Nat.le_of_ble_eq_true rfl) (fun k C Rr => ?_)
  have C : Cx w adr k cX7_loadFrom RX7 3 1 23 := C
  refine ge_aload_n (n := 1) C 0 rfl dX7_loadFrom_0 rfl rfl ?_
  refine ge_aload_n (n := 2) C 1 rfl dX7_loadFrom_1 rfl rfl ?_
  refine ge_iconst (v := 0) (n := 3) C dX7_loadFrom_2 (by decide) rfl ?_
  refine al_17 (n := 4) C ho1 dX7_loadFrom_3 rfl ?_
  refine pt_X7_22 (n := 7) C (by decide) dX7_loadFrom_4 rfl (fun S_4 => ?_)
  refine ge_aload_n (n := 8) C 0 rfl dX7_loadFrom_7 rfl rfl ?_
  refine ge_aload_n (n := 9) C 1 rfl dX7_loadFrom_8 rfl rfl ?_
  refine ge_iconst (v := 1) (n := 10) C dX7_loadFrom_9 (by decide) rfl ?_
  refine al_17 (n := 11) C ho1 dX7_loadFrom_10 rfl ?_
  refine pt_X7_31 (n := 14) C (by decide) dX7_loadFrom_11 rfl (fun S_11 => ?_)
  refine ge_aload_n (n := 15) C 0 rfl dX7_loadFrom_14 rfl rfl ?_
  refine ge_aload_n (n := 16) C 1 rfl dX7_loadFrom_15 rfl rfl ?_
  refine ge_iconst (v := 2) (n := 17) C dX7_loadFrom_16 (by decide) rfl ?_
  refine al_17 (n := 18) C ho1 dX7_loadFrom_17 rfl ?_
  refine pt_X7_32 (n := 21) C (by decide) dX7_loadFrom_18 rfl (fun S_18 => ?_)
  refine ge_iconst (v := 0) (n := 22) C dX7_loadFrom_21 (by decide) rfl ?_
  refine ge_istore_n (n := 23) (lv2 := [(2, .int (0 : Int32)), (0, .ref (adr 9 0)), (1, .ref (adr 17 o1))]) C dX7_loadFrom_22 rfl rfl (by decide) rfl ?_
  refine ge_jn (fun (jj : St → Op) => ∀ (S_56 : St), Ge w adr k 56 [] [] S_56 (jj S_56)) (fun S_56 => ?_) (fun kk23 hkk23 => ?_)
  · exact ge_vret C Rr dX7_loadFrom_56
  refine ge_lop (fun (jj : Int32 → St → Op) => ∀ (x2_23 : Int32) (S_23 : St), Ge w adr k 23 [(2, .int x2_23), (0, .ref (adr 9 0)), (1, .ref (adr 17 o1))] [] S_23 (jj x2_23 S_23)) (fun _ _ => ge_none) (fun ag23 hag23 x2_23 S_23 => ?_) FU (0 : Int32) S_18
  refine ge_iload_n (n := 24) C 0 rfl dX7_loadFrom_23 rfl rfl ?_
  refine ge_aload_n (n := 25) C 1 rfl dX7_loadFrom_24 rfl rfl ?_
  refine gt_X7_17 (n := 28) C (by decide) dX7_loadFrom_25 rfl ?_
  refine gt_X7_35 (n := 31) C (pid_lt _) dX7_loadFrom_28 rfl ?_
  refine ge_icmp_ge (t := 56) (n := 34) C dX7_loadFrom_31 (by decide) rfl (fun h_31 => ?_) (fun h_31 => ?_)
  · refine ge_sub [] rfl ?_
    exact hkk23 S_23
  · refine ge_aload_n (n := 35) C 1 rfl dX7_loadFrom_34 rfl rfl ?_
    refine gt_X7_11 (n := 38) C (by decide) dX7_loadFrom_35 rfl ?_
    refine ge_iload_n (n := 39) C 0 rfl dX7_loadFrom_38 rfl rfl ?_
    refine al_10 (n := 40) C (by decide) dX7_loadFrom_39 rfl (fun h_39 => ?_)
    refine ge_aload_n (n := 41) C 2 rfl dX7_loadFrom_40 rfl rfl ?_
    refine ge_iconst (v := 3) (n := 42) C dX7_loadFrom_41 (by decide) rfl ?_
    refine ge_iload_n (n := 43) C 0 rfl dX7_loadFrom_42 rfl rfl ?_
    refine ge_bipush (v := 12) (n := 45) C dX7_loadFrom_43 (by decide) rfl ?_
    refine ge_imul (n := 46) C dX7_loadFrom_45 rfl ?_
    refine ge_iadd (n := 47) C dX7_loadFrom_46 rfl ?_
    refine ge_callVv (n := 50) C (mX3_loadFrom hj (o0 := (Int32.toNatClampNeg x2_23)) (bd_c h_39 (by decide)) (o1 := o1) ho1 ((3 : Int32) + (x2_23 * (12 : Int32))) S_23) gv_X7_118 (cl_11 (bd_c h_39 (by decide))) rfl rfl hc_X3_loadFrom ⟨Nat.le_of_ble_eq_true rfl, Nat.le_of_ble_eq_true rfl⟩ rfl rfl (Nat.le_of_ble_eq_true rfl) dX7_loadFrom_47 rfl (fun _ S_47 => ?_)
    refine ge_iinc (n := 53) (v := (x2_23 + (1 : Int32))) (lv2 := [(2, .int (x2_23 + (1 : Int32))), (0, .ref (adr 9 0)), (1, .ref (adr 17 o1))]) C 0 rfl dX7_loadFrom_50 rfl rfl (by decide) rfl ?_
    refine ge_goto (n := 23) C dX7_loadFrom_53 (by decide) ?_
    exact hag23 (x2_23 + (1 : Int32)) S_47
theorem dX4_pop_0 : decode cX4_pop 0 = .ok (.aload_n 0, 1) := by decide +kernel
theorem dX4_pop_1 : decode cX4_pop 1 = .ok (.aload_n 0, 1) := by decide +kernel
theorem dX4_pop_2 : decode cX4_pop 2 = .ok (.getfield 23, 3) := by decide +kernel
theorem dX4_pop_5 : decode cX4_pop 5 = .ok (.bipush 16, 2) := by decide +kernel
theorem dX4_pop_7 : decode cX4_pop 7 = .ok (.iadd, 1) := by decide +kernel
theorem dX4_pop_8 : decode cX4_pop 8 = .ok (.iconst 1, 1) := by decide +kernel
theorem dX4_pop_9 : decode cX4_pop 9 = .ok (.isub, 1) := by decide +kernel
theorem dX4_pop_10 : decode cX4_pop 10 = .ok (.bipush 16, 2) := by decide +kernel
theorem dX4_pop_12 : decode cX4_pop 12 = .ok (.irem, 1) := by decide +kernel
theorem dX4_pop_13 : decode cX4_pop 13 = .ok (.putfield 23, 3) := by decide +kernel
theorem dX4_pop_16 : decode cX4_pop 16 = .ok (.aload_n 0, 1) := by decide +kernel
theorem dX4_pop_17 : decode cX4_pop 17 = .ok (.dup, 1) := by decide +kernel
theorem dX4_pop_18 : decode cX4_pop 18 = .ok (.getfield 33, 3) := by decide +kernel
theorem dX4_pop_21 : decode cX4_pop 21 = .ok (.iconst 1, 1) := by decide +kernel
theorem dX4_pop_22 : decode cX4_pop 22 = .ok (.isub, 1) := by decide +kernel
theorem dX4_pop_23 : decode cX4_pop 23 = .ok (.putfield 33, 3) := by decide +kernel
theorem dX4_pop_26 : decode cX4_pop 26 = .ok (.aload_n 1, 1) := by decide +kernel
theorem dX4_pop_27 : decode cX4_pop 27 = .ok (.aload_n 0, 1) := by decide +kernel
theorem dX4_pop_28 : decode cX4_pop 28 = .ok (.getfield 11, 3) := by decide +kernel
theorem dX4_pop_31 : decode cX4_pop 31 = .ok (.aload_n 0, 1) := by decide +kernel
theorem dX4_pop_32 : decode cX4_pop 32 = .ok (.getfield 23, 3) := by decide +kernel
theorem dX4_pop_35 : decode cX4_pop 35 = .ok (.aaload, 1) := by decide +kernel
theorem dX4_pop_36 : decode cX4_pop 36 = .ok (.invokevirtual 42, 3) := by decide +kernel
theorem dX4_pop_39 : decode cX4_pop 39 = .ok (.return_, 1) := by decide +kernel
set_option maxRecDepth 100000 in
set_option maxHeartbeats 4000000 in
theorem mX4_pop {w : WX} {adr : Nat → Nat → Nat} (hj : Ij adr)  (S : St) : ∀ (l : Launch) (r : Int32) (S2 : St), fX4_pop S = some (r, S2) → Mv l w adr yX4_pop cX4_pop 2 none 2 45 [.ref (adr 14 0), .ref (adr 9 0)] S S2 := by
  refine mv_of (lv := [(0, .ref (adr 14 0)), (1, .ref (adr 9 0))]) hj (plainFor_of_name (by decide +kernel)) rfl (Nat.le_of_ble_eq_true rfl) (fun k C Rr => ?_)
  have C : Cx w adr k cX4_pop RX4 2 2 45 := C
  refine ge_aload_n (n := 1) C 0 rfl dX4_pop_0 rfl rfl ?_
  refine ge_aload_n (n := 2) C 0 rfl dX4_pop_1 rfl rfl ?_
  refine gt_X4_23 (n := 5) C (by decide) dX4_pop_2 rfl ?_
  refine ge_bipush (v := 16) (n := 7) C dX4_pop_5 (by decide) rfl ?_
  refine ge_iadd (n := 8) C dX4_pop_7 rfl ?_
  refine ge_iconst (v := 1) (n := 9) C dX4_pop_8 (by decide) rfl ?_
  refine ge_isub (n := 10) C dX4_pop_9 rfl ?_
  refine ge_bipush (v := 16) (n := 12) C dX4_pop_10 (by decide) rfl ?_
  refine ge_irem0 (n := 13) C (by decide) dX4_pop_12 rfl ?_
  refine pt_X4_23 (n := 16) C (by decide) dX4_pop_13 rfl (fun S_13 => ?_)
  refine ge_aload_n (n := 17) C 0 rfl dX4_pop_16 rfl rfl ?_
  refine ge_dup (n := 18) C dX4_pop_17 rfl rfl ?_
  refine gt_X4_33 (n := 21) C (by decide) dX4_pop_18 rfl ?_
  refine ge_iconst (v := 1) (n := 22) C dX4_pop_21 (by decide) rfl ?_
  refine ge_isub (n := 23) C dX4_pop_22 rfl ?_
  refine pt_X4_33 (n := 26) C (by decide) dX4_pop_23 rfl (fun S_23 => ?_)
  refine ge_aload_n (n := 27) C 1 rfl dX4_pop_26 rfl rfl ?_
  refine ge_aload_n (n := 28) C 0 rfl dX4_pop_27 rfl rfl ?_
  refine gt_X4_11 (n := 31) C (by decide) dX4_pop_28 rfl ?_
  refine ge_aload_n (n := 32) C 0 rfl dX4_pop_31 rfl rfl ?_
  refine gt_X4_23 (n := 35) C (by decide) dX4_pop_32 rfl ?_
  refine al_15 (n := 36) C (by decide) dX4_pop_35 rfl (fun h_35 => ?_)
  refine ge_callVv (n := 39) C (mX7_loadFrom hj (o1 := (Int32.toNatClampNeg (S_23 14 0 1))) (bd_c h_35 (by decide)) S_23) gv_X4_42 (cl_9 (by decide)) rfl rfl hc_X7_loadFrom ⟨Nat.le_of_ble_eq_true rfl, Nat.le_of_ble_eq_true rfl⟩ rfl rfl (Nat.le_of_ble_eq_true rfl) dX4_pop_36 rfl (fun _ S_36 => ?_)
  exact ge_vret C Rr dX4_pop_39
theorem dX4_hasImage_0 : decode cX4_hasImage 0 = .ok (.aload_n 0, 1) := by decide +kernel
theorem dX4_hasImage_1 : decode cX4_hasImage 1 = .ok (.getfield 45, 3) := by decide +kernel
theorem dX4_hasImage_4 : decode cX4_hasImage 4 = .ok (.iload_n 1, 1) := by decide +kernel
theorem dX4_hasImage_5 : decode cX4_hasImage 5 = .ok (.ishr, 1) := by decide +kernel
theorem dX4_hasImage_6 : decode cX4_hasImage 6 = .ok (.iconst 1, 1) := by decide +kernel
theorem dX4_hasImage_7 : decode cX4_hasImage 7 = .ok (.iand, 1) := by decide +kernel
theorem dX4_hasImage_8 : decode cX4_hasImage 8 = .ok (.iconst 1, 1) := by decide +kernel
theorem dX4_hasImage_9 : decode cX4_hasImage 9 = .ok (.if_icmp .ne 7, 3) := by decide +kernel
theorem dX4_hasImage_12 : decode cX4_hasImage 12 = .ok (.iconst 1, 1) := by decide +kernel
theorem dX4_hasImage_13 : decode cX4_hasImage 13 = .ok (.goto 4, 3) := by decide +kernel
theorem dX4_hasImage_16 : decode cX4_hasImage 16 = .ok (.iconst 0, 1) := by decide +kernel
theorem dX4_hasImage_17 : decode cX4_hasImage 17 = .ok (.ireturn, 1) := by decide +kernel
set_option maxRecDepth 100000 in
set_option maxHeartbeats 4000000 in
theorem mX4_hasImage {w : WX} {adr : Nat → Nat → Nat} (hj : Ij adr) (a1 : Int32) (S : St) : ∀ (l : Launch) (r : Int32) (S2 : St), fX4_hasImage a1 S = some (r, S2) → Mi l w adr yX4_hasImage cX4_hasImage 2 (some .boolean) 0 0 [.ref (adr 14 0), .int a1] S r S2 := by
  refine mi_of (lv := [(0, .ref (adr 14 0)), (1, .int a1)]) hj (plainFor_of_name (by decide +kernel)) rfl (Nat.le_of_ble_eq_true rfl) (fun k C Rr => ?_)
  have C : Cx w adr k cX4_hasImage RX4 2 0 0 := C
  refine ge_aload_n (n := 1) C 0 rfl dX4_hasImage_0 rfl rfl ?_
  refine gt_X4_45 (n := 4) C (by decide) dX4_hasImage_1 rfl ?_
  refine ge_iload_n (n := 5) C 1 rfl dX4_hasImage_4 rfl rfl ?_
  refine ge_ishr (n := 6) C dX4_hasImage_5 rfl ?_
  refine ge_iconst (v := 1) (n := 7) C dX4_hasImage_6 (by decide) rfl ?_
  refine ge_iand (n := 8) C dX4_hasImage_7 rfl ?_
  refine ge_iconst (v := 1) (n := 9) C dX4_hasImage_8 (by decide) rfl ?_
  refine ge_icmp_ne (t := 16) (n := 12) C dX4_hasImage_9 (by decide) rfl (fun h_9 => ?_) (fun h_9 => ?_)
  · refine ge_iconst (v := 0) (n := 17) C dX4_hasImage_16 (by decide) rfl ?_
    exact ge_zret C Rr (by decide) dX4_hasImage_17
  · refine ge_iconst (v := 1) (n := 13) C dX4_hasImage_12 (by decide) rfl ?_
    refine ge_goto (n := 17) C dX4_hasImage_13 (by decide) ?_
    exact ge_zret C Rr (by decide) dX4_hasImage_17
theorem dX4_keepImage_0 : decode cX4_keepImage 0 = .ok (.aload_n 2, 1) := by decide +kernel
theorem dX4_keepImage_1 : decode cX4_keepImage 1 = .ok (.aload_n 0, 1) := by decide +kernel
theorem dX4_keepImage_2 : decode cX4_keepImage 2 = .ok (.getfield 16, 3) := by decide +kernel
theorem dX4_keepImage_5 : decode cX4_keepImage 5 = .ok (.iload_n 1, 1) := by decide +kernel
theorem dX4_keepImage_6 : decode cX4_keepImage 6 = .ok (.aaload, 1) := by decide +kernel
theorem dX4_keepImage_7 : decode cX4_keepImage 7 = .ok (.invokevirtual 27, 3) := by decide +kernel
theorem dX4_keepImage_10 : decode cX4_keepImage 10 = .ok (.aload_n 0, 1) := by decide +kernel
theorem dX4_keepImage_11 : decode cX4_keepImage 11 = .ok (.getfield 19, 3) := by decide +kernel
theorem dX4_keepImage_14 : decode cX4_keepImage 14 = .ok (.iload_n 1, 1) := by decide +kernel
theorem dX4_keepImage_15 : decode cX4_keepImage 15 = .ok (.aload_n 3, 1) := by decide +kernel
theorem dX4_keepImage_16 : decode cX4_keepImage 16 = .ok (.getfield 48, 3) := by decide +kernel
theorem dX4_keepImage_19 : decode cX4_keepImage 19 = .ok (.iastore, 1) := by decide +kernel
theorem dX4_keepImage_20 : decode cX4_keepImage 20 = .ok (.aload_n 0, 1) := by decide +kernel
theorem dX4_keepImage_21 : decode cX4_keepImage 21 = .ok (.dup, 1) := by decide +kernel
theorem dX4_keepImage_22 : decode cX4_keepImage 22 = .ok (.getfield 45, 3) := by decide +kernel
theorem dX4_keepImage_25 : decode cX4_keepImage 25 = .ok (.iconst 1, 1) := by decide +kernel
theorem dX4_keepImage_26 : decode cX4_keepImage 26 = .ok (.iload_n 1, 1) := by decide +kernel
theorem dX4_keepImage_27 : decode cX4_keepImage 27 = .ok (.ishl, 1) := by decide +kernel
theorem dX4_keepImage_28 : decode cX4_keepImage 28 = .ok (.ior, 1) := by decide +kernel
theorem dX4_keepImage_29 : decode cX4_keepImage 29 = .ok (.putfield 45, 3) := by decide +kernel
theorem dX4_keepImage_32 : decode cX4_keepImage 32 = .ok (.return_, 1) := by decide +kernel
set_option maxRecDepth 100000 in
set_option maxHeartbeats 4000000 in
theorem mX4_keepImage {w : WX} {adr : Nat → Nat → Nat} (hj : Ij adr) (a1 : Int32) (S : St) : ∀ (l : Launch) (r : Int32) (S2 : St), fX4_keepImage a1 S = some (r, S2) → Mv l w adr yX4_keepImage cX4_keepImage 4 none 2 45 [.ref (adr 14 0), .int a1, .ref (adr 9 0), .ref (adr 19 0)] S S2 := by
  refine mv_of (lv := [(0, .ref (adr 14 0)), (1, .int a1), (2, .ref (adr 9 0)), (3, .ref (adr 19 0))]) hj (plainFor_of_name (by decide +kernel)) rfl (Nat.le_of_ble_eq_true rfl) (fun k C Rr => ?_)
  have C : Cx w adr k cX4_keepImage RX4 4 2 45 := C
  refine ge_aload_n (n := 1) C 2 rfl dX4_keepImage_0 rfl rfl ?_
  refine ge_aload_n (n := 2) C 0 rfl dX4_keepImage_1 rfl rfl ?_
  refine gt_X4_16 (n := 5) C (by decide) dX4_keepImage_2 rfl ?_
  refine ge_iload_n (n := 6) C 1 rfl dX4_keepImage_5 rfl rfl ?_
  refine al_16 (n := 7) C (by decide) dX4_keepImage_6 rfl (fun h_6 => ?_)
  refine ge_callVv (n := 10) C (mX7_saveTo hj (o1 := (16 + (Int32.toNatClampNeg a1))) (bd_pai h_6) S) gv_X4_27 (cl_9 (by decide)) rfl rfl hc_X7_saveTo ⟨Nat.le_of_ble_eq_true rfl, Nat.le_of_ble_eq_true rfl⟩ rfl rfl (Nat.le_of_ble_eq_true rfl) dX4_keepImage_7 rfl (fun _ S_7 => ?_)
  refine ge_aload_n (n := 11) C 0 rfl dX4_keepImage_10 rfl rfl ?_
  refine gt_X4_19 (n := 14) C (by decide) dX4_keepImage_11 rfl ?_
  refine ge_iload_n (n := 15) C 1 rfl dX4_keepImage_14 rfl rfl ?_
  refine ge_aload_n (n := 16) C 3 rfl dX4_keepImage_15 rfl rfl ?_
  refine gt_X4_48 (n := 19) C (by decide) dX4_keepImage_16 rfl ?_
  refine as_18 (n := 20) C (by decide) dX4_keepImage_19 rfl (fun S_19 => ?_)
  refine ge_aload_n (n := 21) C 0 rfl dX4_keepImage_20 rfl rfl ?_
  refine ge_dup (n := 22) C dX4_keepImage_21 rfl rfl ?_
  refine gt_X4_45 (n := 25) C (by decide) dX4_keepImage_22 rfl ?_
  refine ge_iconst (v := 1) (n := 26) C dX4_keepImage_25 (by decide) rfl ?_
  refine ge_iload_n (n := 27) C 1 rfl dX4_keepImage_26 rfl rfl ?_
  refine ge_ishl (n := 28) C dX4_keepImage_27 rfl ?_
  refine ge_ior (n := 29) C dX4_keepImage_28 rfl ?_
  refine pt_X4_45 (n := 32) C (by decide) dX4_keepImage_29 rfl (fun S_29 => ?_)
  exact ge_vret C Rr dX4_keepImage_32
