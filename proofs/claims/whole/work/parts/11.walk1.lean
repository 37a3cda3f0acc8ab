theorem dX4_loadImage_0 : decode cX4_loadImage 0 = .ok (.aload_n 2, 1) := by decide +kernel
theorem dX4_loadImage_1 : decode cX4_loadImage 1 = .ok (.aload_n 0, 1) := by decide +kernel
theorem dX4_loadImage_2 : decode cX4_loadImage 2 = .ok (.getfield 16, 3) := by decide +kernel
theorem dX4_loadImage_5 : decode cX4_loadImage 5 = .ok (.iload_n 1, 1) := by decide +kernel
theorem dX4_loadImage_6 : decode cX4_loadImage 6 = .ok (.aaload, 1) := by decide +kernel
theorem dX4_loadImage_7 : decode cX4_loadImage 7 = .ok (.invokevirtual 42, 3) := by decide +kernel
theorem dX4_loadImage_10 : decode cX4_loadImage 10 = .ok (.aload_n 3, 1) := by decide +kernel
theorem dX4_loadImage_11 : decode cX4_loadImage 11 = .ok (.aload_n 0, 1) := by decide +kernel
theorem dX4_loadImage_12 : decode cX4_loadImage 12 = .ok (.getfield 19, 3) := by decide +kernel
theorem dX4_loadImage_15 : decode cX4_loadImage 15 = .ok (.iload_n 1, 1) := by decide +kernel
theorem dX4_loadImage_16 : decode cX4_loadImage 16 = .ok (.iaload, 1) := by decide +kernel
theorem dX4_loadImage_17 : decode cX4_loadImage 17 = .ok (.putfield 48, 3) := by decide +kernel
theorem dX4_loadImage_20 : decode cX4_loadImage 20 = .ok (.return_, 1) := by decide +kernel
set_option maxRecDepth 100000 in
set_option maxHeartbeats 4000000 in
theorem mX4_loadImage {w : WX} {adr : Nat → Nat → Nat} (hj : Ij adr) (a1 : Int32) (S : St) : ∀ (l : Launch) (r : Int32) (S2 : St), fX4_loadImage a1 S = some (r, S2) → Mv l w adr yX4_loadImage cX4_loadImage 4 none 2 45 [.ref (adr 14 0), .int a1, .ref (adr 9 0), .ref (adr 19 0)] S S2 := by
  refine mv_of (lv := [(0, .ref (adr 14 0)), (1, .int a1), (2, .ref (adr 9 0)), (3, .ref (adr 19 0))]) hj (plainFor_of_name (by decide +kernel)) rfl (Nat.le_of_ble_eq_true rfl) (fun k C Rr => ?_)
  have C : Cx w adr k cX4_loadImage RX4 4 2 45 := C
  refine ge_aload_n (n := 1) C 2 rfl dX4_loadImage_0 rfl rfl ?_
  refine ge_aload_n (n := 2) C 0 rfl dX4_loadImage_1 rfl rfl ?_
  refine gt_X4_16 (n := 5) C (by decide) dX4_loadImage_2 rfl ?_
  refine ge_iload_n (n := 6) C 1 rfl dX4_loadImage_5 rfl rfl ?_
  refine al_16 (n := 7) C (by decide) dX4_loadImage_6 rfl (fun h_6 => ?_)
  refine ge_callVv (n := 10) C (mX7_loadFrom hj (o1 := (16 + (Int32.toNatClampNeg a1))) (bd_pai h_6) S) gv_X4_42 (cl_9 (by decide)) rfl rfl hc_X7_loadFrom ⟨Nat.le_of_ble_eq_true rfl, Nat.le_of_ble_eq_true rfl⟩ rfl rfl (Nat.le_of_ble_eq_true rfl) dX4_loadImage_7 rfl (fun _ S_7 => ?_)
  refine ge_aload_n (n := 11) C 3 rfl dX4_loadImage_10 rfl rfl ?_
  refine ge_aload_n (n := 12) C 0 rfl dX4_loadImage_11 rfl rfl ?_
  refine gt_X4_19 (n := 15) C (by decide) dX4_loadImage_12 rfl ?_
  refine ge_iload_n (n := 16) C 1 rfl dX4_loadImage_15 rfl rfl ?_
  refine al_18 (n := 17) C (by decide) dX4_loadImage_16 rfl ?_
  refine pt_X4_48 (n := 20) C (by decide) dX4_loadImage_17 rfl (fun S_17 => ?_)
  exact ge_vret C Rr dX4_loadImage_20
theorem dX5_addMonths_0 : decode cX5_addMonths 0 = .ok (.aload_n 0, 1) := by decide +kernel
theorem dX5_addMonths_1 : decode cX5_addMonths 1 = .ok (.getfield 9, 3) := by decide +kernel
theorem dX5_addMonths_4 : decode cX5_addMonths 4 = .ok (.iload_n 1, 1) := by decide +kernel
theorem dX5_addMonths_5 : decode cX5_addMonths 5 = .ok (.iaload, 1) := by decide +kernel
theorem dX5_addMonths_6 : decode cX5_addMonths 6 = .ok (.iconst (-1), 1) := by decide +kernel
theorem dX5_addMonths_7 : decode cX5_addMonths 7 = .ok (.if_icmp .ne 9, 3) := by decide +kernel
theorem dX5_addMonths_10 : decode cX5_addMonths 10 = .ok (.sipush 1000, 3) := by decide +kernel
theorem dX5_addMonths_13 : decode cX5_addMonths 13 = .ok (.goto 9, 3) := by decide +kernel
theorem dX5_addMonths_16 : decode cX5_addMonths 16 = .ok (.aload_n 0, 1) := by decide +kernel
theorem dX5_addMonths_17 : decode cX5_addMonths 17 = .ok (.getfield 9, 3) := by decide +kernel
theorem dX5_addMonths_20 : decode cX5_addMonths 20 = .ok (.iload_n 1, 1) := by decide +kernel
theorem dX5_addMonths_21 : decode cX5_addMonths 21 = .ok (.iaload, 1) := by decide +kernel
theorem dX5_addMonths_22 : decode cX5_addMonths 22 = .ok (.istore_n 2, 1) := by decide +kernel
theorem dX5_addMonths_23 : decode cX5_addMonths 23 = .ok (.iconst 0, 1) := by decide +kernel
theorem dX5_addMonths_24 : decode cX5_addMonths 24 = .ok (.istore_n 3, 1) := by decide +kernel
theorem dX5_addMonths_25 : decode cX5_addMonths 25 = .ok (.iload_n 3, 1) := by decide +kernel
theorem dX5_addMonths_26 : decode cX5_addMonths 26 = .ok (.iconst 1, 1) := by decide +kernel
theorem dX5_addMonths_27 : decode cX5_addMonths 27 = .ok (.iload_n 1, 1) := by decide +kernel
theorem dX5_addMonths_28 : decode cX5_addMonths 28 = .ok (.ishl, 1) := by decide +kernel
theorem dX5_addMonths_29 : decode cX5_addMonths 29 = .ok (.if_icmp .ge 27, 3) := by decide +kernel
theorem dX5_addMonths_32 : decode cX5_addMonths 32 = .ok (.aload_n 0, 1) := by decide +kernel
theorem dX5_addMonths_33 : decode cX5_addMonths 33 = .ok (.getfield 15, 3) := by decide +kernel
theorem dX5_addMonths_36 : decode cX5_addMonths 36 = .ok (.iload_n 3, 1) := by decide +kernel
theorem dX5_addMonths_37 : decode cX5_addMonths 37 = .ok (.iconst 1, 1) := by decide +kernel
theorem dX5_addMonths_38 : decode cX5_addMonths 38 = .ok (.iload_n 1, 1) := by decide +kernel
theorem dX5_addMonths_39 : decode cX5_addMonths 39 = .ok (.ishl, 1) := by decide +kernel
theorem dX5_addMonths_40 : decode cX5_addMonths 40 = .ok (.ior, 1) := by decide +kernel
theorem dX5_addMonths_41 : decode cX5_addMonths 41 = .ok (.aload_n 0, 1) := by decide +kernel
theorem dX5_addMonths_42 : decode cX5_addMonths 42 = .ok (.getfield 15, 3) := by decide +kernel
theorem dX5_addMonths_45 : decode cX5_addMonths 45 = .ok (.iload_n 3, 1) := by decide +kernel
theorem dX5_addMonths_46 : decode cX5_addMonths 46 = .ok (.iaload, 1) := by decide +kernel
theorem dX5_addMonths_47 : decode cX5_addMonths 47 = .ok (.iload_n 2, 1) := by decide +kernel
theorem dX5_addMonths_48 : decode cX5_addMonths 48 = .ok (.iadd, 1) := by decide +kernel
theorem dX5_addMonths_49 : decode cX5_addMonths 49 = .ok (.iastore, 1) := by decide +kernel
theorem dX5_addMonths_50 : decode cX5_addMonths 50 = .ok (.iinc 3 1, 3) := by decide +kernel
theorem dX5_addMonths_53 : decode cX5_addMonths 53 = .ok (.goto (-28), 3) := by decide +kernel
theorem dX5_addMonths_56 : decode cX5_addMonths 56 = .ok (.return_, 1) := by decide +kernel
set_option maxRecDepth 100000 in
set_option maxHeartbeats 4000000 in
theorem mX5_addMonths {w : WX} {adr : Nat → Nat → Nat} (hj : Ij adr) (a1 : Int32) (S : St) : ∀ (l : Launch) (r : Int32) (S2 : St), fX5_addMonths a1 S = some (r, S2) → Mv l w adr yX5_addMonths cX5_addMonths 4 none 0 0 [.ref (adr 31 0), .int a1] S S2 := by
  refine mv_of (lv := [(0, .ref (adr 31 0)), (1, .int a1)]) hj (plainFor_of_name (by decide +kernel)) rfl (Nat.le_of_ble_eq_true rfl) (fun k C Rr => ?_)
  have C : Cx w adr k cX5_addMonths RX5 4 0 0 := C
  refine ge_aload_n (n := 1) C 0 rfl dX5_addMonths_0 rfl rfl ?_
  refine gt_X5_9 (n := 4) C (by decide) dX5_addMonths_1 rfl ?_
  refine ge_iload_n (n := 5) C 1 rfl dX5_addMonths_4 rfl rfl ?_
  refine al_32 (n := 6) C (by decide) dX5_addMonths_5 rfl ?_
  refine ge_iconst (v := -1) (n := 7) C dX5_addMonths_6 (by decide) rfl ?_
  refine ge_jn (fun (jj : Int32 → Op) => ∀ (v0_22 : Int32), Ge w adr k 22 [(0, .ref (adr 31 0)), (1, .int a1)] [.int v0_22] S (jj v0_22)) (fun v0_22 => ?_) (fun j22 hj22 => ?_)
  · refine ge_istore_n (n := 23) (lv2 := [(2, .int v0_22), (0, .ref (adr 31 0)), (1, .int a1)]) C dX5_addMonths_22 rfl rfl (by decide) rfl ?_
    refine ge_iconst (v := 0) (n := 24) C dX5_addMonths_23 (by decide) rfl ?_
    refine ge_istore_n (n := 25) (lv2 := [(3, .int (0 : Int32)), (2, .int v0_22), (0, .ref (adr 31 0)), (1, .int a1)]) C dX5_addMonths_24 rfl rfl (by decide) rfl ?_
    refine ge_jn (fun (jj : St → Op) => ∀ (S_56 : St), Ge w adr k 56 [] [] S_56 (jj S_56)) (fun S_56 => ?_) (fun kk25 hkk25 => ?_)
    · exact ge_vret C Rr dX5_addMonths_56
    refine ge_lop (fun (jj : Int32 → St → Op) => ∀ (x3_25 : Int32) (S_25 : St), Ge w adr k 25 [(3, .int x3_25), (2, .int v0_22), (0, .ref (adr 31 0)), (1, .int a1)] [] S_25 (jj x3_25 S_25)) (fun _ _ => ge_none) (fun ag25 hag25 x3_25 S_25 => ?_) FU (0 : Int32) S
    refine ge_iload_n (n := 26) C 0 rfl dX5_addMonths_25 rfl rfl ?_
    refine ge_iconst (v := 1) (n := 27) C dX5_addMonths_26 (by decide) rfl ?_
    refine ge_iload_n (n := 28) C 3 rfl dX5_addMonths_27 rfl rfl ?_
    refine ge_ishl (n := 29) C dX5_addMonths_28 rfl ?_
    refine ge_icmp_ge (t := 56) (n := 32) C dX5_addMonths_29 (by decide) rfl (fun h_29 => ?_) (fun h_29 => ?_)
    · refine ge_sub [] rfl ?_
      exact hkk25 S_25
    · refine ge_aload_n (n := 33) C 2 rfl dX5_addMonths_32 rfl rfl ?_
      refine gt_X5_15 (n := 36) C (by decide) dX5_addMonths_33 rfl ?_
      refine ge_iload_n (n := 37) C 0 rfl dX5_addMonths_36 rfl rfl ?_
      refine ge_iconst (v := 1) (n := 38) C dX5_addMonths_37 (by decide) rfl ?_
      refine ge_iload_n (n := 39) C 3 rfl dX5_addMonths_38 rfl rfl ?_
      refine ge_ishl (n := 40) C dX5_addMonths_39 rfl ?_
      refine ge_ior (n := 41) C dX5_addMonths_40 rfl ?_
      refine ge_aload_n (n := 42) C 2 rfl dX5_addMonths_41 rfl rfl ?_
      refine gt_X5_15 (n := 45) C (by decide) dX5_addMonths_42 rfl ?_
      refine ge_iload_n (n := 46) C 0 rfl dX5_addMonths_45 rfl rfl ?_
      refine al_33 (n := 47) C (by decide) dX5_addMonths_46 rfl ?_
      refine ge_iload_n (n := 48) C 1 rfl dX5_addMonths_47 rfl rfl ?_
      refine ge_iadd (n := 49) C dX5_addMonths_48 rfl ?_
      refine as_33 (n := 50) C (by decide) dX5_addMonths_49 rfl (fun S_49 => ?_)
      refine ge_iinc (n := 53) (v := (x3_25 + (1 : Int32))) (lv2 := [(3, .int (x3_25 + (1 : Int32))), (2, .int v0_22), (0, .ref (adr 31 0)), (1, .int a1)]) C 0 rfl dX5_addMonths_50 rfl rfl (by decide) rfl ?_
      refine ge_goto (n := 25) C dX5_addMonths_53 (by decide) ?_
      exact hag25 (x3_25 + (1 : Int32)) S_49
  refine ge_icmp_ne (t := 16) (n := 10) C dX5_addMonths_7 (by decide) rfl (fun h_7 => ?_) (fun h_7 => ?_)
  · refine ge_aload_n (n := 17) C 0 rfl dX5_addMonths_16 rfl rfl ?_
    refine gt_X5_9 (n := 20) C (by decide) dX5_addMonths_17 rfl ?_
    refine ge_iload_n (n := 21) C 1 rfl dX5_addMonths_20 rfl rfl ?_
    refine al_32 (n := 22) C (by decide) dX5_addMonths_21 rfl ?_
    exact hj22 (S 32 0 (Int32.toNatClampNeg a1))
  · refine ge_sipush (v := 1000) (n := 13) C dX5_addMonths_10 (by decide) rfl ?_
    refine ge_goto (n := 22) C dX5_addMonths_13 (by decide) ?_
    exact hj22 (1000 : Int32)
theorem dX5_fewestPits_0 : decode cX5_fewestPits 0 = .ok (.sipush 1000, 3) := by decide +kernel
theorem dX5_fewestPits_3 : decode cX5_fewestPits 3 = .ok (.istore_n 3, 1) := by decide +kernel
theorem dX5_fewestPits_4 : decode cX5_fewestPits 4 = .ok (.iload_n 1, 1) := by decide +kernel
theorem dX5_fewestPits_5 : decode cX5_fewestPits 5 = .ok (.istore 4, 2) := by decide +kernel
theorem dX5_fewestPits_7 : decode cX5_fewestPits 7 = .ok (.iload 4, 2) := by decide +kernel
theorem dX5_fewestPits_9 : decode cX5_fewestPits 9 = .ok (.ifCond .le 41, 3) := by decide +kernel
theorem dX5_fewestPits_12 : decode cX5_fewestPits 12 = .ok (.aload_n 0, 1) := by decide +kernel
theorem dX5_fewestPits_13 : decode cX5_fewestPits 13 = .ok (.getfield 15, 3) := by decide +kernel
theorem dX5_fewestPits_16 : decode cX5_fewestPits 16 = .ok (.iload 4, 2) := by decide +kernel
theorem dX5_fewestPits_18 : decode cX5_fewestPits 18 = .ok (.iaload, 1) := by decide +kernel
theorem dX5_fewestPits_19 : decode cX5_fewestPits 19 = .ok (.iload_n 2, 1) := by decide +kernel
theorem dX5_fewestPits_20 : decode cX5_fewestPits 20 = .ok (.if_icmp .gt 19, 3) := by decide +kernel
theorem dX5_fewestPits_23 : decode cX5_fewestPits 23 = .ok (.iload_n 3, 1) := by decide +kernel
theorem dX5_fewestPits_24 : decode cX5_fewestPits 24 = .ok (.aload_n 0, 1) := by decide +kernel
theorem dX5_fewestPits_25 : decode cX5_fewestPits 25 = .ok (.getfield 18, 3) := by decide +kernel
theorem dX5_fewestPits_28 : decode cX5_fewestPits 28 = .ok (.iload_n 1, 1) := by decide +kernel
theorem dX5_fewestPits_29 : decode cX5_fewestPits 29 = .ok (.iload 4, 2) := by decide +kernel
theorem dX5_fewestPits_31 : decode cX5_fewestPits 31 = .ok (.ixor, 1) := by decide +kernel
theorem dX5_fewestPits_32 : decode cX5_fewestPits 32 = .ok (.iaload, 1) := by decide +kernel
theorem dX5_fewestPits_33 : decode cX5_fewestPits 33 = .ok (.iconst 1, 1) := by decide +kernel
theorem dX5_fewestPits_34 : decode cX5_fewestPits 34 = .ok (.iadd, 1) := by decide +kernel
theorem dX5_fewestPits_35 : decode cX5_fewestPits 35 = .ok (.invokestatic 29, 3) := by decide +kernel
theorem dX5_fewestPits_38 : decode cX5_fewestPits 38 = .ok (.istore_n 3, 1) := by decide +kernel
theorem dX5_fewestPits_39 : decode cX5_fewestPits 39 = .ok (.iload 4, 2) := by decide +kernel
theorem dX5_fewestPits_41 : decode cX5_fewestPits 41 = .ok (.iconst 1, 1) := by decide +kernel
theorem dX5_fewestPits_42 : decode cX5_fewestPits 42 = .ok (.isub, 1) := by decide +kernel
theorem dX5_fewestPits_43 : decode cX5_fewestPits 43 = .ok (.iload_n 1, 1) := by decide +kernel
theorem dX5_fewestPits_44 : decode cX5_fewestPits 44 = .ok (.iand, 1) := by decide +kernel
theorem dX5_fewestPits_45 : decode cX5_fewestPits 45 = .ok (.istore 4, 2) := by decide +kernel
theorem dX5_fewestPits_47 : decode cX5_fewestPits 47 = .ok (.goto (-40), 3) := by decide +kernel
theorem dX5_fewestPits_50 : decode cX5_fewestPits 50 = .ok (.iload_n 3, 1) := by decide +kernel
theorem dX5_fewestPits_51 : decode cX5_fewestPits 51 = .ok (.ireturn, 1) := by decide +kernel
set_option maxRecDepth 100000 in
set_option maxHeartbeats 4000000 in
theorem mX5_fewestPits {w : WX} {adr : Nat → Nat → Nat} (hj : Ij adr) (a1 : Int32) (a2 : Int32) (S : St) : ∀ (l : Launch) (r : Int32) (S2 : St), fX5_fewestPits a1 a2 S = some (r, S2) → Mi l w adr yX5_fewestPits cX5_fewestPits 5 (some .int) 1 21 [.ref (adr 31 0), .int a1, .int a2] S r S2 := by
  refine mi_of (lv := [(0, .ref (adr 31 0)), (1, .int a1), (2, .int a2)]) hj (plainFor_of_name (by decide +kernel)) rfl (Nat.le_of_ble_eq_true rfl) (fun k C Rr => ?_)
  have C : Cx w adr k cX5_fewestPits RX5 5 1 21 := C
  refine ge_sipush (v := 1000) (n := 3) C dX5_fewestPits_0 (by decide) rfl ?_
  refine ge_istore_n (n := 4) (lv2 := [(3, .int (1000 : Int32)), (0, .ref (adr 31 0)), (1, .int a1), (2, .int a2)]) C dX5_fewestPits_3 rfl rfl (by decide) rfl ?_
  refine ge_iload_n (n := 5) C 2 rfl dX5_fewestPits_4 rfl rfl ?_
  refine ge_istore (n := 7) (lv2 := [(4, .int a1), (3, .int (1000 : Int32)), (0, .ref (adr 31 0)), (1, .int a1), (2, .int a2)]) C dX5_fewestPits_5 rfl (by decide) rfl ?_
  refine ge_jn (fun (jj : Int32 → Op) => ∀ (x3_50 : Int32), Ge w adr k 50 [(3, .int x3_50)] [] S (jj x3_50)) (fun x3_50 => ?_) (fun kk7 hkk7 => ?_)
  · refine ge_iload_n (n := 51) C 0 rfl dX5_fewestPits_50 rfl rfl ?_
    exact ge_iret C Rr dX5_fewestPits_51
  refine ge_lop (fun (jj : Int32 → Int32 → Op) => ∀ (x4_7 : Int32) (x3_7 : Int32), Ge w adr k 7 [(4, .int x4_7), (3, .int x3_7), (0, .ref (adr 31 0)), (1, .int a1), (2, .int a2)] [] S (jj x4_7 x3_7)) (fun _ _ => ge_none) (fun ag7 hag7 x4_7 x3_7 => ?_) FU a1 (1000 : Int32)
  refine ge_iload (n := 9) C 0 rfl dX5_fewestPits_7 rfl ?_
  refine ge_if_le (t := 50) (n := 12) C dX5_fewestPits_9 (by decide) rfl (fun h_9 => ?_) (fun h_9 => ?_)
  · refine ge_sub [1] rfl ?_
    exact hkk7 x3_7
  · refine ge_aload_n (n := 13) C 2 rfl dX5_fewestPits_12 rfl rfl ?_
    refine gt_X5_15 (n := 16) C (by decide) dX5_fewestPits_13 rfl ?_
    refine ge_iload (n := 18) C 0 rfl dX5_fewestPits_16 rfl ?_
    refine al_33 (n := 19) C (by decide) dX5_fewestPits_18 rfl ?_
    refine ge_iload_n (n := 20) C 4 rfl dX5_fewestPits_19 rfl rfl ?_
    refine ge_jn (fun (jj : Int32 → Op) => ∀ (x3_39 : Int32), Ge w adr k 39 [(4, .int x4_7), (3, .int x3_39), (0, .ref (adr 31 0)), (1, .int a1), (2, .int a2)] [] S (jj x3_39)) (fun x3_39 => ?_) (fun j39 hj39 => ?_)
    · refine ge_iload (n := 41) C 0 rfl dX5_fewestPits_39 rfl ?_
      refine ge_iconst (v := 1) (n := 42) C dX5_fewestPits_41 (by decide) rfl ?_
      refine ge_isub (n := 43) C dX5_fewestPits_42 rfl ?_
      refine ge_iload_n (n := 44) C 3 rfl dX5_fewestPits_43 rfl rfl ?_
      refine ge_iand (n := 45) C dX5_fewestPits_44 rfl ?_
      refine ge_bi (fun x4_45 => ?_)
      refine ge_istore (n := 47) (lv2 := [(4, .int x4_45), (3, .int x3_39), (0, .ref (adr 31 0)), (1, .int a1), (2, .int a2)]) C dX5_fewestPits_45 rfl (by decide) rfl ?_
      refine ge_goto (n := 7) C dX5_fewestPits_47 (by decide) ?_
      exact hag7 x4_45 x3_39
    refine ge_icmp_gt (t := 39) (n := 23) C dX5_fewestPits_20 (by decide) rfl (fun h_20 => ?_) (fun h_20 => ?_)
    · exact hj39 x3_7
    · refine ge_iload_n (n := 24) C 1 rfl dX5_fewestPits_23 rfl rfl ?_
      refine ge_aload_n (n := 25) C 2 rfl dX5_fewestPits_24 rfl rfl ?_
      refine gt_X5_18 (n := 28) C (by decide) dX5_fewestPits_25 rfl ?_
      refine ge_iload_n (n := 29) C 3 rfl dX5_fewestPits_28 rfl rfl ?_
      refine ge_iload (n := 31) C 0 rfl dX5_fewestPits_29 rfl ?_
      refine ge_ixor (n := 32) C dX5_fewestPits_31 rfl ?_
      refine al_34 (n := 33) C (by decide) dX5_fewestPits_32 rfl ?_
      refine ge_iconst (v := 1) (n := 34) C dX5_fewestPits_33 (by decide) rfl ?_
      refine ge_iadd (n := 35) C dX5_fewestPits_34 rfl ?_
      refine ge_mmin (n := 38) C ml_X5_29 (by decide) (Nat.le_of_ble_eq_true rfl) dX5_fewestPits_35 rfl ?_
      refine ge_bi (fun x3_38 => ?_)
      refine ge_istore_n (n := 39) (lv2 := [(3, .int x3_38), (4, .int x4_7), (0, .ref (adr 31 0)), (1, .int a1), (2, .int a2)]) C dX5_fewestPits_38 rfl rfl (by decide) rfl ?_
      refine ge_sub [1, 0, 2, 3, 4] rfl ?_
      exact hj39 x3_38
theorem dX5_fill_0 : decode cX5_fill 0 = .ok (.iconst 0, 1) := by decide +kernel
theorem dX5_fill_1 : decode cX5_fill 1 = .ok (.istore_n 3, 1) := by decide +kernel
theorem dX5_fill_2 : decode cX5_fill 2 = .ok (.iload_n 3, 1) := by decide +kernel
theorem dX5_fill_3 : decode cX5_fill 3 = .ok (.iload_n 1, 1) := by decide +kernel
theorem dX5_fill_4 : decode cX5_fill 4 = .ok (.if_icmp .ge 14, 3) := by decide +kernel
theorem dX5_fill_7 : decode cX5_fill 7 = .ok (.aload_n 0, 1) := by decide +kernel
theorem dX5_fill_8 : decode cX5_fill 8 = .ok (.iload_n 3, 1) := by decide +kernel
theorem dX5_fill_9 : decode cX5_fill 9 = .ok (.invokevirtual 21, 3) := by decide +kernel
theorem dX5_fill_12 : decode cX5_fill 12 = .ok (.iinc 3 1, 3) := by decide +kernel
theorem dX5_fill_15 : decode cX5_fill 15 = .ok (.goto (-13), 3) := by decide +kernel
theorem dX5_fill_18 : decode cX5_fill 18 = .ok (.iconst 1, 1) := by decide +kernel
theorem dX5_fill_19 : decode cX5_fill 19 = .ok (.istore_n 3, 1) := by decide +kernel
theorem dX5_fill_20 : decode cX5_fill 20 = .ok (.iload_n 3, 1) := by decide +kernel
theorem dX5_fill_21 : decode cX5_fill 21 = .ok (.iconst 1, 1) := by decide +kernel
theorem dX5_fill_22 : decode cX5_fill 22 = .ok (.iload_n 1, 1) := by decide +kernel
theorem dX5_fill_23 : decode cX5_fill 23 = .ok (.ishl, 1) := by decide +kernel
theorem dX5_fill_24 : decode cX5_fill 24 = .ok (.if_icmp .ge 21, 3) := by decide +kernel
theorem dX5_fill_27 : decode cX5_fill 27 = .ok (.aload_n 0, 1) := by decide +kernel
theorem dX5_fill_28 : decode cX5_fill 28 = .ok (.getfield 18, 3) := by decide +kernel
theorem dX5_fill_31 : decode cX5_fill 31 = .ok (.iload_n 3, 1) := by decide +kernel
theorem dX5_fill_32 : decode cX5_fill 32 = .ok (.aload_n 0, 1) := by decide +kernel
theorem dX5_fill_33 : decode cX5_fill 33 = .ok (.iload_n 3, 1) := by decide +kernel
theorem dX5_fill_34 : decode cX5_fill 34 = .ok (.iload_n 2, 1) := by decide +kernel
theorem dX5_fill_35 : decode cX5_fill 35 = .ok (.invokevirtual 25, 3) := by decide +kernel
theorem dX5_fill_38 : decode cX5_fill 38 = .ok (.iastore, 1) := by decide +kernel
theorem dX5_fill_39 : decode cX5_fill 39 = .ok (.iinc 3 1, 3) := by decide +kernel
theorem dX5_fill_42 : decode cX5_fill 42 = .ok (.goto (-22), 3) := by decide +kernel
theorem dX5_fill_45 : decode cX5_fill 45 = .ok (.return_, 1) := by decide +kernel
set_option maxRecDepth 100000 in
set_option maxHeartbeats 4000000 in
theorem mX5_fill {w : WX} {adr : Nat → Nat → Nat} (hj : Ij adr) (a1 : Int32) (a2 : Int32) (S : St) : ∀ (l : Launch) (r : Int32) (S2 : St), fX5_fill a1 a2 S = some (r, S2) → Mv l w adr yX5_fill cX5_fill 4 none 2 45 [.ref (adr 31 0), .int a1, .int a2] S S2 := by
  refine mv_of (lv := [(0, .ref (adr 31 0)), (1, .int a1), (2, .int a2)]) hj (plainFor_of_name (by decide +kernel)) rfl (Nat.le_of_ble_eq_true rfl) (fun k C Rr => ?_)
  have C : Cx w adr k cX5_fill RX5 4 2 45 := C
  refine ge_iconst (v := 0) (n := 1) C dX5_fill_0 (by decide) rfl ?_
  refine ge_istore_n (n := 2) (lv2 := [(3, .int (0 : Int32)), (0, .ref (adr 31 0)), (1, .int a1), (2, .int a2)]) C dX5_fill_1 rfl rfl (by decide) rfl ?_
  refine ge_jn (fun (jj : St → Op) => ∀ (S_18 : St), Ge w adr k 18 [(0, .ref (adr 31 0)), (1, .int a1), (2, .int a2)] [] S_18 (jj S_18)) (fun S_18 => ?_) (fun kk2 hkk2 => ?_)
  · refine ge_iconst (v := 1) (n := 19) C dX5_fill_18 (by decide) rfl ?_
    refine ge_istore_n (n := 20) (lv2 := [(3, .int (1 : Int32)), (0, .ref (adr 31 0)), (1, .int a1), (2, .int a2)]) C dX5_fill_19 rfl rfl (by decide) rfl ?_
    refine ge_jn (fun (jj : St → Op) => ∀ (S_45 : St), Ge w adr k 45 [] [] S_45 (jj S_45)) (fun S_45 => ?_) (fun kk20 hkk20 => ?_)
    · exact ge_vret C Rr dX5_fill_45
    refine ge_lop (fun (jj : Int32 → St → Op) => ∀ (x3_20 : Int32) (S_20 : St), Ge w adr k 20 [(3, .int x3_20), (0, .ref (adr 31 0)), (1, .int a1), (2, .int a2)] [] S_20 (jj x3_20 S_20)) (fun _ _ => ge_none) (fun ag20 hag20 x3_20 S_20 => ?_) FU (1 : Int32) S_18
    refine ge_iload_n (n := 21) C 0 rfl dX5_fill_20 rfl rfl ?_
    refine ge_iconst (v := 1) (n := 22) C dX5_fill_21 (by decide) rfl ?_
    refine ge_iload_n (n := 23) C 2 rfl dX5_fill_22 rfl rfl ?_
    refine ge_ishl (n := 24) C dX5_fill_23 rfl ?_
    refine ge_icmp_ge (t := 45) (n := 27) C dX5_fill_24 (by decide) rfl (fun h_24 => ?_) (fun h_24 => ?_)
    · refine ge_sub [] rfl ?_
      exact hkk20 S_20
    · refine ge_aload_n (n := 28) C 1 rfl dX5_fill_27 rfl rfl ?_
      refine gt_X5_18 (n := 31) C (by decide) dX5_fill_28 rfl ?_
      refine ge_iload_n (n := 32) C 0 rfl dX5_fill_31 rfl rfl ?_
      refine ge_aload_n (n := 33) C 1 rfl dX5_fill_32 rfl rfl ?_
      refine ge_iload_n (n := 34) C 0 rfl dX5_fill_33 rfl rfl ?_
      refine ge_iload_n (n := 35) C 3 rfl dX5_fill_34 rfl rfl ?_
      refine ge_callVi (n := 38) C (mX5_fewestPits hj x3_20 a2 S_20) gv_X5_25 (cl_31 (by decide)) rfl rfl hc_X5_fewestPits ⟨Nat.le_of_ble_eq_true rfl, Nat.le_of_ble_eq_true rfl⟩ rfl rfl (Nat.le_of_ble_eq_true rfl) dX5_fill_35 rfl (fun r_35 S_35 => ?_)
      refine as_34 (n := 39) C (by decide) dX5_fill_38 rfl (fun S_38 => ?_)
      refine ge_iinc (n := 42) (v := (x3_20 + (1 : Int32))) (lv2 := [(3, .int (x3_20 + (1 : Int32))), (0, .ref (adr 31 0)), (1, .int a1), (2, .int a2)]) C 0 rfl dX5_fill_39 rfl rfl (by decide) rfl ?_
      refine ge_goto (n := 20) C dX5_fill_42 (by decide) ?_
      exact hag20 (x3_20 + (1 : Int32)) S_38
  refine ge_lop (fun (jj : Int32 → St → Op) => ∀ (x3_2 : Int32) (S_2 : St), Ge w adr k 2 [(3, .int x3_2), (0, .ref (adr 31 0)), (1, .int a1), (2, .int a2)] [] S_2 (jj x3_2 S_2)) (fun _ _ => ge_none) (fun ag2 hag2 x3_2 S_2 => ?_) FU (0 : Int32) S
  refine ge_iload_n (n := 3) C 0 rfl dX5_fill_2 rfl rfl ?_
  refine ge_iload_n (n := 4) C 2 rfl dX5_fill_3 rfl rfl ?_
  refine ge_icmp_ge (t := 18) (n := 7) C dX5_fill_4 (by decide) rfl (fun h_4 => ?_) (fun h_4 => ?_)
  · refine ge_sub [1, 2, 3] rfl ?_
    exact hkk2 S_2
  · refine ge_aload_n (n := 8) C 1 rfl dX5_fill_7 rfl rfl ?_
    refine ge_iload_n (n := 9) C 0 rfl dX5_fill_8 rfl rfl ?_
    refine ge_callVv (n := 12) C (mX5_addMonths hj x3_2 S_2) gv_X5_21 (cl_31 (by decide)) rfl rfl hc_X5_addMonths ⟨Nat.le_of_ble_eq_true rfl, Nat.le_of_ble_eq_true rfl⟩ rfl rfl (Nat.le_of_ble_eq_true rfl) dX5_fill_9 rfl (fun _ S_9 => ?_)
    refine ge_iinc (n := 15) (v := (x3_2 + (1 : Int32))) (lv2 := [(3, .int (x3_2 + (1 : Int32))), (0, .ref (adr 31 0)), (1, .int a1), (2, .int a2)]) C 0 rfl dX5_fill_12 rfl rfl (by decide) rfl ?_
    refine ge_goto (n := 2) C dX5_fill_15 (by decide) ?_
    exact hag2 (x3_2 + (1 : Int32)) S_9
theorem dJ6_bitCount_0f7a4_0 : decode cJ6_bitCount_0f7a4 0 = .ok (.iload_n 0, 1) := by decide +kernel
theorem dJ6_bitCount_0f7a4_1 : decode cJ6_bitCount_0f7a4 1 = .ok (.iload_n 0, 1) := by decide +kernel
theorem dJ6_bitCount_0f7a4_2 : decode cJ6_bitCount_0f7a4 2 = .ok (.iconst 1, 1) := by decide +kernel
theorem dJ6_bitCount_0f7a4_3 : decode cJ6_bitCount_0f7a4 3 = .ok (.iushr, 1) := by decide +kernel
theorem dJ6_bitCount_0f7a4_4 : decode cJ6_bitCount_0f7a4 4 = .ok (.ldc_w 265, 3) := by decide +kernel
theorem dJ6_bitCount_0f7a4_7 : decode cJ6_bitCount_0f7a4 7 = .ok (.iand, 1) := by decide +kernel
theorem dJ6_bitCount_0f7a4_8 : decode cJ6_bitCount_0f7a4 8 = .ok (.isub, 1) := by decide +kernel
theorem dJ6_bitCount_0f7a4_9 : decode cJ6_bitCount_0f7a4 9 = .ok (.istore_n 0, 1) := by decide +kernel
theorem dJ6_bitCount_0f7a4_10 : decode cJ6_bitCount_0f7a4 10 = .ok (.iload_n 0, 1) := by decide +kernel
theorem dJ6_bitCount_0f7a4_11 : decode cJ6_bitCount_0f7a4 11 = .ok (.ldc_w 266, 3) := by decide +kernel
theorem dJ6_bitCount_0f7a4_14 : decode cJ6_bitCount_0f7a4 14 = .ok (.iand, 1) := by decide +kernel
theorem dJ6_bitCount_0f7a4_15 : decode cJ6_bitCount_0f7a4 15 = .ok (.iload_n 0, 1) := by decide +kernel
theorem dJ6_bitCount_0f7a4_16 : decode cJ6_bitCount_0f7a4 16 = .ok (.iconst 2, 1) := by decide +kernel
theorem dJ6_bitCount_0f7a4_17 : decode cJ6_bitCount_0f7a4 17 = .ok (.iushr, 1) := by decide +kernel
theorem dJ6_bitCount_0f7a4_18 : decode cJ6_bitCount_0f7a4 18 = .ok (.ldc_w 266, 3) := by decide +kernel
theorem dJ6_bitCount_0f7a4_21 : decode cJ6_bitCount_0f7a4 21 = .ok (.iand, 1) := by decide +kernel
theorem dJ6_bitCount_0f7a4_22 : decode cJ6_bitCount_0f7a4 22 = .ok (.iadd, 1) := by decide +kernel
theorem dJ6_bitCount_0f7a4_23 : decode cJ6_bitCount_0f7a4 23 = .ok (.istore_n 0, 1) := by decide +kernel
theorem dJ6_bitCount_0f7a4_24 : decode cJ6_bitCount_0f7a4 24 = .ok (.iload_n 0, 1) := by decide +kernel
theorem dJ6_bitCount_0f7a4_25 : decode cJ6_bitCount_0f7a4 25 = .ok (.iload_n 0, 1) := by decide +kernel
theorem dJ6_bitCount_0f7a4_26 : decode cJ6_bitCount_0f7a4 26 = .ok (.iconst 4, 1) := by decide +kernel
theorem dJ6_bitCount_0f7a4_27 : decode cJ6_bitCount_0f7a4 27 = .ok (.iushr, 1) := by decide +kernel
theorem dJ6_bitCount_0f7a4_28 : decode cJ6_bitCount_0f7a4 28 = .ok (.iadd, 1) := by decide +kernel
theorem dJ6_bitCount_0f7a4_29 : decode cJ6_bitCount_0f7a4 29 = .ok (.ldc_w 267, 3) := by decide +kernel
theorem dJ6_bitCount_0f7a4_32 : decode cJ6_bitCount_0f7a4 32 = .ok (.iand, 1) := by decide +kernel
theorem dJ6_bitCount_0f7a4_33 : decode cJ6_bitCount_0f7a4 33 = .ok (.istore_n 0, 1) := by decide +kernel
theorem dJ6_bitCount_0f7a4_34 : decode cJ6_bitCount_0f7a4 34 = .ok (.iload_n 0, 1) := by decide +kernel
theorem dJ6_bitCount_0f7a4_35 : decode cJ6_bitCount_0f7a4 35 = .ok (.iload_n 0, 1) := by decide +kernel
theorem dJ6_bitCount_0f7a4_36 : decode cJ6_bitCount_0f7a4 36 = .ok (.bipush 8, 2) := by decide +kernel
theorem dJ6_bitCount_0f7a4_38 : decode cJ6_bitCount_0f7a4 38 = .ok (.iushr, 1) := by decide +kernel
theorem dJ6_bitCount_0f7a4_39 : decode cJ6_bitCount_0f7a4 39 = .ok (.iadd, 1) := by decide +kernel
theorem dJ6_bitCount_0f7a4_40 : decode cJ6_bitCount_0f7a4 40 = .ok (.istore_n 0, 1) := by decide +kernel
theorem dJ6_bitCount_0f7a4_41 : decode cJ6_bitCount_0f7a4 41 = .ok (.iload_n 0, 1) := by decide +kernel
theorem dJ6_bitCount_0f7a4_42 : decode cJ6_bitCount_0f7a4 42 = .ok (.iload_n 0, 1) := by decide +kernel
theorem dJ6_bitCount_0f7a4_43 : decode cJ6_bitCount_0f7a4 43 = .ok (.bipush 16, 2) := by decide +kernel
theorem dJ6_bitCount_0f7a4_45 : decode cJ6_bitCount_0f7a4 45 = .ok (.iushr, 1) := by decide +kernel
theorem dJ6_bitCount_0f7a4_46 : decode cJ6_bitCount_0f7a4 46 = .ok (.iadd, 1) := by decide +kernel
theorem dJ6_bitCount_0f7a4_47 : decode cJ6_bitCount_0f7a4 47 = .ok (.istore_n 0, 1) := by decide +kernel
theorem dJ6_bitCount_0f7a4_48 : decode cJ6_bitCount_0f7a4 48 = .ok (.iload_n 0, 1) := by decide +kernel
theorem dJ6_bitCount_0f7a4_49 : decode cJ6_bitCount_0f7a4 49 = .ok (.bipush 63, 2) := by decide +kernel
theorem dJ6_bitCount_0f7a4_51 : decode cJ6_bitCount_0f7a4 51 = .ok (.iand, 1) := by decide +kernel
theorem dJ6_bitCount_0f7a4_52 : decode cJ6_bitCount_0f7a4 52 = .ok (.ireturn, 1) := by decide +kernel
set_option maxRecDepth 100000 in
set_option maxHeartbeats 4000000 in
theorem mJ6_bitCount_0f7a4 {w : WX} {adr : Nat → Nat → Nat} (hj : Ij adr) (a0 : Int32) (S : St) : ∀ (l : Launch) (r : Int32) (S2 : St), fJ6_bitCount_0f7a4 a0 S = some (r, S2) → Mi l w adr yJ6_bitCount_0f7a4 cJ6_bitCount_0f7a4 1 (some .int) 0 0 [.int a0] S r S2 := by
  refine mi_of (lv := [(0, .int a0)]) hj (plainFor_of_name (by decide +kernel)) rfl (Nat.le_of_ble_eq_true rfl) (fun k C Rr => ?_)
  have C : Cx w adr k cJ6_bitCount_0f7a4 RJ6 1 0 0 := C
  refine ge_iload_n (n := 1) C 0 rfl dJ6_bitCount_0f7a4_0 rfl rfl ?_
  refine ge_iload_n (n := 2) C 0 rfl dJ6_bitCount_0f7a4_1 rfl rfl ?_
  refine ge_iconst (v := 1) (n := 3) C dJ6_bitCount_0f7a4_2 (by decide) rfl ?_
  refine ge_iushr (n := 4) C dJ6_bitCount_0f7a4_3 rfl ?_
  refine ge_ldcw (n := 7) C kc_J6_265 dJ6_bitCount_0f7a4_4 rfl ?_
  refine ge_iand (n := 8) C dJ6_bitCount_0f7a4_7 rfl ?_
  refine ge_isub (n := 9) C dJ6_bitCount_0f7a4_8 rfl ?_
  refine ge_bi (fun x0_9 => ?_)
  refine ge_istore_n (n := 10) (lv2 := [(0, .int x0_9)]) C dJ6_bitCount_0f7a4_9 rfl rfl (by decide) rfl ?_
  refine ge_iload_n (n := 11) C 0 rfl dJ6_bitCount_0f7a4_10 rfl rfl ?_
  refine ge_ldcw (n := 14) C kc_J6_266 dJ6_bitCount_0f7a4_11 rfl ?_
  refine ge_iand (n := 15) C dJ6_bitCount_0f7a4_14 rfl ?_
  refine ge_iload_n (n := 16) C 0 rfl dJ6_bitCount_0f7a4_15 rfl rfl ?_
  refine ge_iconst (v := 2) (n := 17) C dJ6_bitCount_0f7a4_16 (by decide) rfl ?_
  refine ge_iushr (n := 18) C dJ6_bitCount_0f7a4_17 rfl ?_
  refine ge_ldcw (n := 21) C kc_J6_266 dJ6_bitCount_0f7a4_18 rfl ?_
  refine ge_iand (n := 22) C dJ6_bitCount_0f7a4_21 rfl ?_
  refine ge_iadd (n := 23) C dJ6_bitCount_0f7a4_22 rfl ?_
  refine ge_bi (fun x0_23 => ?_)
  refine ge_istore_n (n := 24) (lv2 := [(0, .int x0_23)]) C dJ6_bitCount_0f7a4_23 rfl rfl (by decide) rfl ?_
  refine ge_iload_n (n := 25) C 0 rfl dJ6_bitCount_0f7a4_24 rfl rfl ?_
  refine ge_iload_n (n := 26) C 0 rfl dJ6_bitCount_0f7a4_25 rfl rfl ?_
  refine ge_iconst (v := 4) (n := 27) C dJ6_bitCount_0f7a4_26 (by decide) rfl ?_
  refine ge_iushr (n := 28) C dJ6_bitCount_0f7a4_27 rfl ?_
  refine ge_iadd (n := 29) C dJ6_bitCount_0f7a4_28 rfl ?_
  refine ge_ldcw (n := 32) C kc_J6_267 dJ6_bitCount_0f7a4_29 rfl ?_
  refine ge_iand (n := 33) C dJ6_bitCount_0f7a4_32 rfl ?_
  refine ge_bi (fun x0_33 => ?_)
  refine ge_istore_n (n := 34) (lv2 := [(0, .int x0_33)]) C dJ6_bitCount_0f7a4_33 rfl rfl (by decide) rfl ?_
  refine ge_iload_n (n := 35) C 0 rfl dJ6_bitCount_0f7a4_34 rfl rfl ?_
  refine ge_iload_n (n := 36) C 0 rfl dJ6_bitCount_0f7a4_35 rfl rfl ?_
  refine ge_bipush (v := 8) (n := 38) C dJ6_bitCount_0f7a4_36 (by decide) rfl ?_
  refine ge_iushr (n := 39) C dJ6_bitCount_0f7a4_38 rfl ?_
  refine ge_iadd (n := 40) C dJ6_bitCount_0f7a4_39 rfl ?_
  refine ge_bi (fun x0_40 => ?_)
  refine ge_istore_n (n := 41) (lv2 := [(0, .int x0_40)]) C dJ6_bitCount_0f7a4_40 rfl rfl (by decide) rfl ?_
  refine ge_iload_n (n := 42) C 0 rfl dJ6_bitCount_0f7a4_41 rfl rfl ?_
  refine ge_iload_n (n := 43) C 0 rfl dJ6_bitCount_0f7a4_42 rfl rfl ?_
  refine ge_bipush (v := 16) (n := 45) C dJ6_bitCount_0f7a4_43 (by decide) rfl ?_
  refine ge_iushr (n := 46) C dJ6_bitCount_0f7a4_45 rfl ?_
  refine ge_iadd (n := 47) C dJ6_bitCount_0f7a4_46 rfl ?_
  refine ge_bi (fun x0_47 => ?_)
  refine ge_istore_n (n := 48) (lv2 := [(0, .int x0_47)]) C dJ6_bitCount_0f7a4_47 rfl rfl (by decide) rfl ?_
  refine ge_iload_n (n := 49) C 0 rfl dJ6_bitCount_0f7a4_48 rfl rfl ?_
  refine ge_bipush (v := 63) (n := 51) C dJ6_bitCount_0f7a4_49 (by decide) rfl ?_
  refine ge_iand (n := 52) C dJ6_bitCount_0f7a4_51 rfl ?_
  exact ge_iret C Rr dJ6_bitCount_0f7a4_52
theorem dX5_mostWithin_0 : decode cX5_mostWithin 0 = .ok (.iconst 0, 1) := by decide +kernel
theorem dX5_mostWithin_1 : decode cX5_mostWithin 1 = .ok (.istore_n 3, 1) := by decide +kernel
theorem dX5_mostWithin_2 : decode cX5_mostWithin 2 = .ok (.iconst 1, 1) := by decide +kernel
theorem dX5_mostWithin_3 : decode cX5_mostWithin 3 = .ok (.istore 4, 2) := by decide +kernel
theorem dX5_mostWithin_5 : decode cX5_mostWithin 5 = .ok (.iload 4, 2) := by decide +kernel
theorem dX5_mostWithin_7 : decode cX5_mostWithin 7 = .ok (.iconst 1, 1) := by decide +kernel
theorem dX5_mostWithin_8 : decode cX5_mostWithin 8 = .ok (.iload_n 1, 1) := by decide +kernel
theorem dX5_mostWithin_9 : decode cX5_mostWithin 9 = .ok (.ishl, 1) := by decide +kernel
theorem dX5_mostWithin_10 : decode cX5_mostWithin 10 = .ok (.if_icmp .ge 35, 3) := by decide +kernel
theorem dX5_mostWithin_13 : decode cX5_mostWithin 13 = .ok (.aload_n 0, 1) := by decide +kernel
theorem dX5_mostWithin_14 : decode cX5_mostWithin 14 = .ok (.getfield 18, 3) := by decide +kernel
theorem dX5_mostWithin_17 : decode cX5_mostWithin 17 = .ok (.iload 4, 2) := by decide +kernel
theorem dX5_mostWithin_19 : decode cX5_mostWithin 19 = .ok (.iaload, 1) := by decide +kernel
theorem dX5_mostWithin_20 : decode cX5_mostWithin 20 = .ok (.iload_n 2, 1) := by decide +kernel
theorem dX5_mostWithin_21 : decode cX5_mostWithin 21 = .ok (.if_icmp .gt 18, 3) := by decide +kernel
theorem dX5_mostWithin_24 : decode cX5_mostWithin 24 = .ok (.iload 4, 2) := by decide +kernel
theorem dX5_mostWithin_26 : decode cX5_mostWithin 26 = .ok (.invokestatic 34, 3) := by decide +kernel
theorem dX5_mostWithin_29 : decode cX5_mostWithin 29 = .ok (.iload_n 3, 1) := by decide +kernel
theorem dX5_mostWithin_30 : decode cX5_mostWithin 30 = .ok (.invokestatic 34, 3) := by decide +kernel
theorem dX5_mostWithin_33 : decode cX5_mostWithin 33 = .ok (.if_icmp .le 6, 3) := by decide +kernel
theorem dX5_mostWithin_36 : decode cX5_mostWithin 36 = .ok (.iload 4, 2) := by decide +kernel
theorem dX5_mostWithin_38 : decode cX5_mostWithin 38 = .ok (.istore_n 3, 1) := by decide +kernel
theorem dX5_mostWithin_39 : decode cX5_mostWithin 39 = .ok (.iinc 4 1, 3) := by decide +kernel
theorem dX5_mostWithin_42 : decode cX5_mostWithin 42 = .ok (.goto (-37), 3) := by decide +kernel
theorem dX5_mostWithin_45 : decode cX5_mostWithin 45 = .ok (.iload_n 3, 1) := by decide +kernel
theorem dX5_mostWithin_46 : decode cX5_mostWithin 46 = .ok (.ireturn, 1) := by decide +kernel
set_option maxRecDepth 100000 in
set_option maxHeartbeats 4000000 in
theorem mX5_mostWithin {w : WX} {adr : Nat → Nat → Nat} (hj : Ij adr) (a1 : Int32) (a2 : Int32) (S : St) : ∀ (l : Launch) (r : Int32) (S2 : St), fX5_mostWithin a1 a2 S = some (r, S2) → Mi l w adr yX5_mostWithin cX5_mostWithin 5 (some .int) 1 20 [.ref (adr 31 0), .int a1, .int a2] S r S2 := by
  refine mi_of (lv := [(0, .ref (adr 31 0)), (1, .int a1), (2, .int a2)]) hj (plainFor_of_name (by decide +kernel)) rfl (Nat.le_of_ble_eq_true rfl) (fun k C Rr => ?_)
  have C : Cx w adr k cX5_mostWithin RX5 5 1 20 := C
  refine ge_iconst (v := 0) (n := 1) C dX5_mostWithin_0 (by decide) rfl ?_
  refine ge_istore_n (n := 2) (lv2 := [(3, .int (0 : Int32)), (0, .ref (adr 31 0)), (1, .int a1), (2, .int a2)]) C dX5_mostWithin_1 rfl rfl (by decide) rfl ?_
  refine ge_iconst (v := 1) (n := 3) C dX5_mostWithin_2 (by decide) rfl ?_
  refine ge_istore (n := 5) (lv2 := [(4, .int (1 : Int32)), (3, .int (0 : Int32)), (0, .ref (adr 31 0)), (1, .int a1), (2, .int a2)]) C dX5_mostWithin_3 rfl (by decide) rfl ?_
  refine ge_jn (fun (jj : Int32 → St → Op) => ∀ (x3_45 : Int32) (S_45 : St), Ge w adr k 45 [(3, .int x3_45)] [] S_45 (jj x3_45 S_45)) (fun x3_45 S_45 => ?_) (fun kk5 hkk5 => ?_)
  · refine ge_iload_n (n := 46) C 0 rfl dX5_mostWithin_45 rfl rfl ?_
    exact ge_iret C Rr dX5_mostWithin_46
  refine ge_lop (fun (jj : Int32 → Int32 → St → Op) => ∀ (x4_5 : Int32) (x3_5 : Int32) (S_5 : St), Ge w adr k 5 [(4, .int x4_5), (3, .int x3_5), (0, .ref (adr 31 0)), (1, .int a1), (2, .int a2)] [] S_5 (jj x4_5 x3_5 S_5)) (fun _ _ _ => ge_none) (fun ag5 hag5 x4_5 x3_5 S_5 => ?_) FU (1 : Int32) (0 : Int32) S
  refine ge_iload (n := 7) C 0 rfl dX5_mostWithin_5 rfl ?_
  refine ge_iconst (v := 1) (n := 8) C dX5_mostWithin_7 (by decide) rfl ?_
  refine ge_iload_n (n := 9) C 3 rfl dX5_mostWithin_8 rfl rfl ?_
  refine ge_ishl (n := 10) C dX5_mostWithin_9 rfl ?_
  refine ge_icmp_ge (t := 45) (n := 13) C dX5_mostWithin_10 (by decide) rfl (fun h_10 => ?_) (fun h_10 => ?_)
  · refine ge_sub [1] rfl ?_
    exact hkk5 x3_5 S_5
  · refine ge_aload_n (n := 14) C 2 rfl dX5_mostWithin_13 rfl rfl ?_
    refine gt_X5_18 (n := 17) C (by decide) dX5_mostWithin_14 rfl ?_
    refine ge_iload (n := 19) C 0 rfl dX5_mostWithin_17 rfl ?_
    refine al_34 (n := 20) C (by decide) dX5_mostWithin_19 rfl ?_
    refine ge_iload_n (n := 21) C 4 rfl dX5_mostWithin_20 rfl rfl ?_
    refine ge_icmp_gt (t := 39) (n := 24) C dX5_mostWithin_21 (by decide) rfl (fun h_21 => ?_) (fun h_21 => ?_)
    · refine ge_iinc (n := 42) (v := (x4_5 + (1 : Int32))) (lv2 := [(4, .int (x4_5 + (1 : Int32))), (3, .int x3_5), (0, .ref (adr 31 0)), (1, .int a1), (2, .int a2)]) C 0 rfl dX5_mostWithin_39 rfl rfl (by decide) rfl ?_
      refine ge_goto (n := 5) C dX5_mostWithin_42 (by decide) ?_
      exact hag5 (x4_5 + (1 : Int32)) x3_5 S_5
    · refine ge_iload (n := 26) C 0 rfl dX5_mostWithin_24 rfl ?_
      refine ge_callSi (n := 29) C (mJ6_bitCount_0f7a4 hj x4_5 S_5) gv_X5_34 hc_J6_bitCount_0f7a4 ⟨Nat.le_of_ble_eq_true rfl, Nat.le_of_ble_eq_true rfl⟩ rfl rfl (Nat.le_of_ble_eq_true rfl) dX5_mostWithin_26 rfl (fun r_26 S_26 => ?_)
      refine ge_iload_n (n := 30) C 1 rfl dX5_mostWithin_29 rfl rfl ?_
      refine ge_callSi (n := 33) C (mJ6_bitCount_0f7a4 hj x3_5 S_26) gv_X5_34 hc_J6_bitCount_0f7a4 ⟨Nat.le_of_ble_eq_true rfl, Nat.le_of_ble_eq_true rfl⟩ rfl rfl (Nat.le_of_ble_eq_true rfl) dX5_mostWithin_30 rfl (fun r_30 S_30 => ?_)
      refine ge_icmp_le (t := 39) (n := 36) C dX5_mostWithin_33 (by decide) rfl (fun h_33 => ?_) (fun h_33 => ?_)
      · refine ge_iinc (n := 42) (v := (x4_5 + (1 : Int32))) (lv2 := [(4, .int (x4_5 + (1 : Int32))), (3, .int x3_5), (0, .ref (adr 31 0)), (1, .int a1), (2, .int a2)]) C 0 rfl dX5_mostWithin_39 rfl rfl (by decide) rfl ?_
        refine ge_goto (n := 5) C dX5_mostWithin_42 (by decide) ?_
        exact hag5 (x4_5 + (1 : Int32)) x3_5 S_30
      · refine ge_iload (n := 38) C 0 rfl dX5_mostWithin_36 rfl ?_
        refine ge_istore_n (n := 39) (lv2 := [(3, .int x4_5), (4, .int x4_5), (0, .ref (adr 31 0)), (1, .int a1), (2, .int a2)]) C dX5_mostWithin_38 rfl rfl (by decide) rfl ?_
        refine ge_iinc (n := 42) (v := (x4_5 + (1 : Int32))) (lv2 := [(4, .int (x4_5 + (1 : Int32))), (3, .int x4_5), (0, .ref (adr 31 0)), (1, .int a1), (2, .int a2)]) C 1 rfl dX5_mostWithin_39 rfl rfl (by decide) rfl ?_
        refine ge_goto (n := 5) C dX5_mostWithin_42 (by decide) ?_
        exact hag5 (x4_5 + (1 : Int32)) x4_5 S_30
theorem dX6_clear_0 : decode cX6_clear 0 = .ok (.aload_n 0, 1) := by decide +kernel
theorem dX6_clear_1 : decode cX6_clear 1 = .ok (.iconst 0, 1) := by decide +kernel
theorem dX6_clear_2 : decode cX6_clear 2 = .ok (.putfield 26, 3) := by decide +kernel
theorem dX6_clear_5 : decode cX6_clear 5 = .ok (.aload_n 0, 1) := by decide +kernel
theorem dX6_clear_6 : decode cX6_clear 6 = .ok (.iconst 0, 1) := by decide +kernel
theorem dX6_clear_7 : decode cX6_clear 7 = .ok (.putfield 30, 3) := by decide +kernel
theorem dX6_clear_10 : decode cX6_clear 10 = .ok (.aload_n 0, 1) := by decide +kernel
theorem dX6_clear_11 : decode cX6_clear 11 = .ok (.iconst 0, 1) := by decide +kernel
theorem dX6_clear_12 : decode cX6_clear 12 = .ok (.putfield 33, 3) := by decide +kernel
theorem dX6_clear_15 : decode cX6_clear 15 = .ok (.aload_n 0, 1) := by decide +kernel
theorem dX6_clear_16 : decode cX6_clear 16 = .ok (.iconst 0, 1) := by decide +kernel
theorem dX6_clear_17 : decode cX6_clear 17 = .ok (.putfield 36, 3) := by decide +kernel
theorem dX6_clear_20 : decode cX6_clear 20 = .ok (.return_, 1) := by decide +kernel
set_option maxRecDepth 100000 in
set_option maxHeartbeats 4000000 in
theorem mX6_clear {w : WX} {adr : Nat → Nat → Nat} (hj : Ij adr) {o0 : Nat} (ho0 : o0 < 2) (S : St) : ∀ (l : Launch) (r : Int32) (S2 : St), fX6_clear o0 S = some (r, S2) → Mv l w adr yX6_clear cX6_clear 1 none 0 0 [.ref (adr 3 o0)] S S2 := by
  refine mv_of (lv := [(0, .ref (adr 3 o0))]) hj (plainFor_of_name (by decide +kernel)) rfl (Nat.le_of_ble_eq_true rfl) (fun k C Rr => ?_)
  have C : Cx w adr k cX6_clear RX6 1 0 0 := C
  refine ge_aload_n (n := 1) C 0 rfl dX6_clear_0 rfl rfl ?_
  refine ge_iconst (v := 0) (n := 2) C dX6_clear_1 (by decide) rfl ?_
  refine pt_X6_26 (n := 5) C ho0 dX6_clear_2 rfl (fun S_2 => ?_)
  refine ge_aload_n (n := 6) C 0 rfl dX6_clear_5 rfl rfl ?_
  refine ge_iconst (v := 0) (n := 7) C dX6_clear_6 (by decide) rfl ?_
  refine pt_X6_30 (n := 10) C ho0 dX6_clear_7 rfl (fun S_7 => ?_)
  refine ge_aload_n (n := 11) C 0 rfl dX6_clear_10 rfl rfl ?_
  refine ge_iconst (v := 0) (n := 12) C dX6_clear_11 (by decide) rfl ?_
  refine pt_X6_33 (n := 15) C ho0 dX6_clear_12 rfl (fun S_12 => ?_)
  refine ge_aload_n (n := 16) C 0 rfl dX6_clear_15 rfl rfl ?_
  refine ge_iconst (v := 0) (n := 17) C dX6_clear_16 (by decide) rfl ?_
  refine pt_X6_36 (n := 20) C ho0 dX6_clear_17 rfl (fun S_17 => ?_)
  exact ge_vret C Rr dX6_clear_20
theorem dX6_isNone_0 : decode cX6_isNone 0 = .ok (.aload_n 0, 1) := by decide +kernel
theorem dX6_isNone_1 : decode cX6_isNone 1 = .ok (.getfield 26, 3) := by decide +kernel
theorem dX6_isNone_4 : decode cX6_isNone 4 = .ok (.ifCond .ne 7, 3) := by decide +kernel
theorem dX6_isNone_7 : decode cX6_isNone 7 = .ok (.iconst 1, 1) := by decide +kernel
theorem dX6_isNone_8 : decode cX6_isNone 8 = .ok (.goto 4, 3) := by decide +kernel
theorem dX6_isNone_11 : decode cX6_isNone 11 = .ok (.iconst 0, 1) := by decide +kernel
theorem dX6_isNone_12 : decode cX6_isNone 12 = .ok (.ireturn, 1) := by decide +kernel
set_option maxRecDepth 100000 in
set_option maxHeartbeats 4000000 in
theorem mX6_isNone {w : WX} {adr : Nat → Nat → Nat} (hj : Ij adr) {o0 : Nat} (ho0 : o0 < 2) (S : St) : ∀ (l : Launch) (r : Int32) (S2 : St), fX6_isNone o0 S = some (r, S2) → Mi l w adr yX6_isNone cX6_isNone 1 (some .boolean) 0 0 [.ref (adr 3 o0)] S r S2 := by
  refine mi_of (lv := [(0, .ref (adr 3 o0))]) hj (plainFor_of_name (by decide +kernel)) rfl (Nat.le_of_ble_eq_true rfl) (fun k C Rr => ?_)
  have C : Cx w adr k cX6_isNone RX6 1 0 0 := C
  refine ge_aload_n (n := 1) C 0 rfl dX6_isNone_0 rfl rfl ?_
  refine gt_X6_26 (n := 4) C ho0 dX6_isNone_1 rfl ?_
  refine ge_if_ne (t := 11) (n := 7) C dX6_isNone_4 (by decide) rfl (fun h_4 => ?_) (fun h_4 => ?_)
  · refine ge_iconst (v := 0) (n := 12) C dX6_isNone_11 (by decide) rfl ?_
    exact ge_zret C Rr (by decide) dX6_isNone_12
  · refine ge_iconst (v := 1) (n := 8) C dX6_isNone_7 (by decide) rfl ?_
    refine ge_goto (n := 12) C dX6_isNone_8 (by decide) ?_
    exact ge_zret C Rr (by decide) dX6_isNone_12
theorem dX6_hasMan_0 : decode cX6_hasMan 0 = .ok (.iload_n 1, 1) := by decide +kernel
theorem dX6_hasMan_1 : decode cX6_hasMan 1 = .ok (.ifCond .lt 15, 3) := by decide +kernel
theorem dX6_hasMan_4 : decode cX6_hasMan 4 = .ok (.iload_n 1, 1) := by decide +kernel
theorem dX6_hasMan_5 : decode cX6_hasMan 5 = .ok (.aload_n 0, 1) := by decide +kernel
theorem dX6_hasMan_6 : decode cX6_hasMan 6 = .ok (.getfield 33, 3) := by decide +kernel
theorem dX6_hasMan_9 : decode cX6_hasMan 9 = .ok (.if_icmp .ge 7, 3) := by decide +kernel
theorem dX6_hasMan_12 : decode cX6_hasMan 12 = .ok (.iconst 1, 1) := by decide +kernel
theorem dX6_hasMan_13 : decode cX6_hasMan 13 = .ok (.goto 4, 3) := by decide +kernel
theorem dX6_hasMan_16 : decode cX6_hasMan 16 = .ok (.iconst 0, 1) := by decide +kernel
theorem dX6_hasMan_17 : decode cX6_hasMan 17 = .ok (.ireturn, 1) := by decide +kernel
set_option maxRecDepth 100000 in
set_option maxHeartbeats 4000000 in
theorem mX6_hasMan {w : WX} {adr : Nat → Nat → Nat} (hj : Ij adr) {o0 : Nat} (ho0 : o0 < 2) (a1 : Int32) (S : St) : ∀ (l : Launch) (r : Int32) (S2 : St), fX6_hasMan o0 a1 S = some (r, S2) → Mi l w adr yX6_hasMan cX6_hasMan 2 (some .boolean) 0 0 [.ref (adr 3 o0), .int a1] S r S2 := by
  refine mi_of (lv := [(0, .ref (adr 3 o0)), (1, .int a1)]) hj (plainFor_of_name (by decide +kernel)) rfl (Nat.le_of_ble_eq_true rfl) (fun k C Rr => ?_)
  have C : Cx w adr k cX6_hasMan RX6 2 0 0 := C
  refine ge_iload_n (n := 1) C 1 rfl dX6_hasMan_0 rfl rfl ?_
  refine ge_if_lt (t := 16) (n := 4) C dX6_hasMan_1 (by decide) rfl (fun h_1 => ?_) (fun h_1 => ?_)
  · refine ge_iconst (v := 0) (n := 17) C dX6_hasMan_16 (by decide) rfl ?_
    exact ge_zret C Rr (by decide) dX6_hasMan_17
  · refine ge_iload_n (n := 5) C 1 rfl dX6_hasMan_4 rfl rfl ?_
    refine ge_aload_n (n := 6) C 0 rfl dX6_hasMan_5 rfl rfl ?_
    refine gt_X6_33 (n := 9) C ho0 dX6_hasMan_6 rfl ?_
    refine ge_icmp_ge (t := 16) (n := 12) C dX6_hasMan_9 (by decide) rfl (fun h_9 => ?_) (fun h_9 => ?_)
    · refine ge_iconst (v := 0) (n := 17) C dX6_hasMan_16 (by decide) rfl ?_
      exact ge_zret C Rr (by decide) dX6_hasMan_17
    · refine ge_iconst (v := 1) (n := 13) C dX6_hasMan_12 (by decide) rfl ?_
      refine ge_goto (n := 17) C dX6_hasMan_13 (by decide) ?_
      exact ge_zret C Rr (by decide) dX6_hasMan_17
theorem dX6_hasSaying_0 : decode cX6_hasSaying 0 = .ok (.iload_n 1, 1) := by decide +kernel
theorem dX6_hasSaying_1 : decode cX6_hasSaying 1 = .ok (.ifCond .lt 15, 3) := by decide +kernel
theorem dX6_hasSaying_4 : decode cX6_hasSaying 4 = .ok (.iload_n 1, 1) := by decide +kernel
theorem dX6_hasSaying_5 : decode cX6_hasSaying 5 = .ok (.aload_n 0, 1) := by decide +kernel
theorem dX6_hasSaying_6 : decode cX6_hasSaying 6 = .ok (.getfield 36, 3) := by decide +kernel
theorem dX6_hasSaying_9 : decode cX6_hasSaying 9 = .ok (.if_icmp .ge 7, 3) := by decide +kernel
theorem dX6_hasSaying_12 : decode cX6_hasSaying 12 = .ok (.iconst 1, 1) := by decide +kernel
theorem dX6_hasSaying_13 : decode cX6_hasSaying 13 = .ok (.goto 4, 3) := by decide +kernel
theorem dX6_hasSaying_16 : decode cX6_hasSaying 16 = .ok (.iconst 0, 1) := by decide +kernel
theorem dX6_hasSaying_17 : decode cX6_hasSaying 17 = .ok (.ireturn, 1) := by decide +kernel
set_option maxRecDepth 100000 in
set_option maxHeartbeats 4000000 in
theorem mX6_hasSaying {w : WX} {adr : Nat → Nat → Nat} (hj : Ij adr) {o0 : Nat} (ho0 : o0 < 2) (a1 : Int32) (S : St) : ∀ (l : Launch) (r : Int32) (S2 : St), fX6_hasSaying o0 a1 S = some (r, S2) → Mi l w adr yX6_hasSaying cX6_hasSaying 2 (some .boolean) 0 0 [.ref (adr 3 o0), .int a1] S r S2 := by
  refine mi_of (lv := [(0, .ref (adr 3 o0)), (1, .int a1)]) hj (plainFor_of_name (by decide +kernel)) rfl (Nat.le_of_ble_eq_true rfl) (fun k C Rr => ?_)
  have C : Cx w adr k cX6_hasSaying RX6 2 0 0 := C
  refine ge_iload_n (n := 1) C 1 rfl dX6_hasSaying_0 rfl rfl ?_
  refine ge_if_lt (t := 16) (n := 4) C dX6_hasSaying_1 (by decide) rfl (fun h_1 => ?_) (fun h_1 => ?_)
  · refine ge_iconst (v := 0) (n := 17) C dX6_hasSaying_16 (by decide) rfl ?_
    exact ge_zret C Rr (by decide) dX6_hasSaying_17
  · refine ge_iload_n (n := 5) C 1 rfl dX6_hasSaying_4 rfl rfl ?_
    refine ge_aload_n (n := 6) C 0 rfl dX6_hasSaying_5 rfl rfl ?_
    refine gt_X6_36 (n := 9) C ho0 dX6_hasSaying_6 rfl ?_
    refine ge_icmp_ge (t := 16) (n := 12) C dX6_hasSaying_9 (by decide) rfl (fun h_9 => ?_) (fun h_9 => ?_)
    · refine ge_iconst (v := 0) (n := 17) C dX6_hasSaying_16 (by decide) rfl ?_
      exact ge_zret C Rr (by decide) dX6_hasSaying_17
    · refine ge_iconst (v := 1) (n := 13) C dX6_hasSaying_12 (by decide) rfl ?_
      refine ge_goto (n := 17) C dX6_hasSaying_13 (by decide) ?_
      exact ge_zret C Rr (by decide) dX6_hasSaying_17
theorem dX6_hasSet_0 : decode cX6_hasSet 0 = .ok (.iload_n 1, 1) := by decide +kernel
theorem dX6_hasSet_1 : decode cX6_hasSet 1 = .ok (.aload_n 0, 1) := by decide +kernel
theorem dX6_hasSet_2 : decode cX6_hasSet 2 = .ok (.getfield 36, 3) := by decide +kernel
theorem dX6_hasSet_5 : decode cX6_hasSet 5 = .ok (.iushr, 1) := by decide +kernel
theorem dX6_hasSet_6 : decode cX6_hasSet 6 = .ok (.ifCond .ne 7, 3) := by decide +kernel
theorem dX6_hasSet_9 : decode cX6_hasSet 9 = .ok (.iconst 1, 1) := by decide +kernel
theorem dX6_hasSet_10 : decode cX6_hasSet 10 = .ok (.goto 4, 3) := by decide +kernel
theorem dX6_hasSet_13 : decode cX6_hasSet 13 = .ok (.iconst 0, 1) := by decide +kernel
theorem dX6_hasSet_14 : decode cX6_hasSet 14 = .ok (.ireturn, 1) := by decide +kernel
set_option maxRecDepth 100000 in
set_option maxHeartbeats 4000000 in
theorem mX6_hasSet {w : WX} {adr : Nat → Nat → Nat} (hj : Ij adr) {o0 : Nat} (ho0 : o0 < 2) (a1 : Int32) (S : St) : ∀ (l : Launch) (r : Int32) (S2 : St), fX6_hasSet o0 a1 S = some (r, S2) → Mi l w adr yX6_hasSet cX6_hasSet 2 (some .boolean) 0 0 [.ref (adr 3 o0), .int a1] S r S2 := by
  refine mi_of (lv := [(0, .ref (adr 3 o0)), (1, .int a1)]) hj (plainFor_of_name (by decide +kernel)) rfl (Nat.le_of_ble_eq_true rfl) (fun k C Rr => ?_)
  have C : Cx w adr k cX6_hasSet RX6 2 0 0 := C
  refine ge_iload_n (n := 1) C 1 rfl dX6_hasSet_0 rfl rfl ?_
  refine ge_aload_n (n := 2) C 0 rfl dX6_hasSet_1 rfl rfl ?_
  refine gt_X6_36 (n := 5) C ho0 dX6_hasSet_2 rfl ?_
  refine ge_iushr (n := 6) C dX6_hasSet_5 rfl ?_
  refine ge_if_ne (t := 13) (n := 9) C dX6_hasSet_6 (by decide) rfl (fun h_6 => ?_) (fun h_6 => ?_)
  · refine ge_iconst (v := 0) (n := 14) C dX6_hasSet_13 (by decide) rfl ?_
    exact ge_zret C Rr (by decide) dX6_hasSet_14
  · refine ge_iconst (v := 1) (n := 10) C dX6_hasSet_9 (by decide) rfl ?_
    refine ge_goto (n := 14) C dX6_hasSet_10 (by decide) ?_
    exact ge_zret C Rr (by decide) dX6_hasSet_14
theorem dX6_everySaying_0 : decode cX6_everySaying 0 = .ok (.iconst 1, 1) := by decide +kernel
theorem dX6_everySaying_1 : decode cX6_everySaying 1 = .ok (.aload_n 0, 1) := by decide +kernel
theorem dX6_everySaying_2 : decode cX6_everySaying 2 = .ok (.getfield 36, 3) := by decide +kernel
theorem dX6_everySaying_5 : decode cX6_everySaying 5 = .ok (.ishl, 1) := by decide +kernel
theorem dX6_everySaying_6 : decode cX6_everySaying 6 = .ok (.iconst 1, 1) := by decide +kernel
theorem dX6_everySaying_7 : decode cX6_everySaying 7 = .ok (.isub, 1) := by decide +kernel
theorem dX6_everySaying_8 : decode cX6_everySaying 8 = .ok (.ireturn, 1) := by decide +kernel
set_option maxRecDepth 100000 in
set_option maxHeartbeats 4000000 in
theorem mX6_everySaying {w : WX} {adr : Nat → Nat → Nat} (hj : Ij adr) {o0 : Nat} (ho0 : o0 < 2) (S : St) : ∀ (l : Launch) (r : Int32) (S2 : St), fX6_everySaying o0 S = some (r, S2) → Mi l w adr yX6_everySaying cX6_everySaying 1 (some .int) 0 0 [.ref (adr 3 o0)] S r S2 := by
  refine mi_of (lv := [(0, .ref (adr 3 o0))]) hj (plainFor_of_name (by decide +kernel)) rfl (Nat.le_of_ble_eq_true rfl) (fun k C Rr => ?_)
  have C : Cx w adr k cX6_everySaying RX6 1 0 0 := C
  refine ge_iconst (v := 1) (n := 1) C dX6_everySaying_0 (by decide) rfl ?_
  refine ge_aload_n (n := 2) C 0 rfl dX6_everySaying_1 rfl rfl ?_
  refine gt_X6_36 (n := 5) C ho0 dX6_everySaying_2 rfl ?_
  refine ge_ishl (n := 6) C dX6_everySaying_5 rfl ?_
  refine ge_iconst (v := 1) (n := 7) C dX6_everySaying_6 (by decide) rfl ?_
  refine ge_isub (n := 8) C dX6_everySaying_7 rfl ?_
  exact ge_iret C Rr dX6_everySaying_8
theorem dX6_setBorne_0 : decode cX6_setBorne 0 = .ok (.iconst 0, 1) := by decide +kernel
theorem dX6_setBorne_1 : decode cX6_setBorne 1 = .ok (.istore_n 2, 1) := by decide +kernel
theorem dX6_setBorne_2 : decode cX6_setBorne 2 = .ok (.iconst 0, 1) := by decide +kernel
theorem dX6_setBorne_3 : decode cX6_setBorne 3 = .ok (.istore_n 3, 1) := by decide +kernel
theorem dX6_setBorne_4 : decode cX6_setBorne 4 = .ok (.iload_n 3, 1) := by decide +kernel
theorem dX6_setBorne_5 : decode cX6_setBorne 5 = .ok (.aload_n 0, 1) := by decide +kernel
theorem dX6_setBorne_6 : decode cX6_setBorne 6 = .ok (.getfield 36, 3) := by decide +kernel
theorem dX6_setBorne_9 : decode cX6_setBorne 9 = .ok (.if_icmp .ge 25, 3) := by decide +kernel
theorem dX6_setBorne_12 : decode cX6_setBorne 12 = .ok (.aload_n 0, 1) := by decide +kernel
theorem dX6_setBorne_13 : decode cX6_setBorne 13 = .ok (.aload_n 1, 1) := by decide +kernel
theorem dX6_setBorne_14 : decode cX6_setBorne 14 = .ok (.iload_n 3, 1) := by decide +kernel
theorem dX6_setBorne_15 : decode cX6_setBorne 15 = .ok (.invokevirtual 52, 3) := by decide +kernel
theorem dX6_setBorne_18 : decode cX6_setBorne 18 = .ok (.iconst 5, 1) := by decide +kernel
theorem dX6_setBorne_19 : decode cX6_setBorne 19 = .ok (.if_icmp .gt 9, 3) := by decide +kernel
theorem dX6_setBorne_22 : decode cX6_setBorne 22 = .ok (.iload_n 2, 1) := by decide +kernel
theorem dX6_setBorne_23 : decode cX6_setBorne 23 = .ok (.iconst 1, 1) := by decide +kernel
theorem dX6_setBorne_24 : decode cX6_setBorne 24 = .ok (.iload_n 3, 1) := by decide +kernel
theorem dX6_setBorne_25 : decode cX6_setBorne 25 = .ok (.ishl, 1) := by decide +kernel
theorem dX6_setBorne_26 : decode cX6_setBorne 26 = .ok (.ior, 1) := by decide +kernel
theorem dX6_setBorne_27 : decode cX6_setBorne 27 = .ok (.istore_n 2, 1) := by decide +kernel
theorem dX6_setBorne_28 : decode cX6_setBorne 28 = .ok (.iinc 3 1, 3) := by decide +kernel
theorem dX6_setBorne_31 : decode cX6_setBorne 31 = .ok (.goto (-27), 3) := by decide +kernel
theorem dX6_setBorne_34 : decode cX6_setBorne 34 = .ok (.iload_n 2, 1) := by decide +kernel
theorem dX6_setBorne_35 : decode cX6_setBorne 35 = .ok (.ireturn, 1) := by decide +kernel
set_option maxRecDepth 100000 in
set_option maxHeartbeats 4000000 in
theorem mX6_setBorne {w : WX} {adr : Nat → Nat → Nat} (hj : Ij adr) {o0 : Nat} (ho0 : o0 < 2) {o1 : Nat} (ho1 : o1 < 7) (S : St) : ∀ (l : Launch) (r : Int32) (S2 : St), fX6_setBorne o0 o1 S = some (r, S2) → Mi l w adr yX6_setBorne cX6_setBorne 4 (some .int) 2 44 [.ref (adr 3 o0), .ref (adr 11 o1)] S r S2 := by
  refine mi_of (lv := [(0, .ref (adr 3 o0)), (1, .ref (adr 11 o1))]) hj (plainFor_of_name (by decide +kernel)) rfl (Nat.le_of_ble_eq_true rfl) (fun k C Rr => ?_)
  have C : Cx w adr k cX6_setBorne RX6 4 2 44 := C
  refine ge_iconst (v := 0) (n := 1) C dX6_setBorne_0 (by decide) rfl ?_
  refine ge_istore_n (n := 2) (lv2 := [(2, .int (0 : Int32)), (0, .ref (adr 3 o0)), (1, .ref (adr 11 o1))]) C dX6_setBorne_1 rfl rfl (by decide) rfl ?_
  refine ge_iconst (v := 0) (n := 3) C dX6_setBorne_2 (by decide) rfl ?_
  refine ge_istore_n (n := 4) (lv2 := [(3, .int (0 : Int32)), (2, .int (0 : Int32)), (0, .ref (adr 3 o0)), (1, .ref (adr 11 o1))]) C dX6_setBorne_3 rfl rfl (by decide) rfl ?_
  refine ge_jn (fun (jj : Int32 → St → Op) => ∀ (x2_34 : Int32) (S_34 : St), Ge w adr k 34 [(2, .int x2_34)] [] S_34 (jj x2_34 S_34)) (fun x2_34 S_34 => ?_) (fun kk4 hkk4 => ?_)
  · refine ge_iload_n (n := 35) C 0 rfl dX6_setBorne_34 rfl rfl ?_
    exact ge_iret C Rr dX6_setBorne_35
  refine ge_lop (fun (jj : Int32 → Int32 → St → Op) => ∀ (x3_4 : Int32) (x2_4 : Int32) (S_4 : St), Ge w adr k 4 [(3, .int x3_4), (2, .int x2_4), (0, .ref (adr 3 o0)), (1, .ref (adr 11 o1))] [] S_4 (jj x3_4 x2_4 S_4)) (fun _ _ _ => ge_none) (fun ag4 hag4 x3_4 x2_4 S_4 => ?_) FU (0 : Int32) (0 : Int32) S
  refine ge_iload_n (n := 5) C 0 rfl dX6_setBorne_4 rfl rfl ?_
  refine ge_aload_n (n := 6) C 2 rfl dX6_setBorne_5 rfl rfl ?_
  refine gt_X6_36 (n := 9) C ho0 dX6_setBorne_6 rfl ?_
  refine ge_icmp_ge (t := 34) (n := 12) C dX6_setBorne_9 (by decide) rfl (fun h_9 => ?_) (fun h_9 => ?_)
  · refine ge_sub [1] rfl ?_
    exact hkk4 x2_4 S_4
  · refine ge_aload_n (n := 13) C 2 rfl dX6_setBorne_12 rfl rfl ?_
    refine ge_aload_n (n := 14) C 3 rfl dX6_setBorne_13 rfl rfl ?_
    refine ge_iload_n (n := 15) C 0 rfl dX6_setBorne_14 rfl rfl ?_
    refine ge_callVi (n := 18) C (mX6_pain hj (o0 := o0) ho0 (o1 := o1) ho1 x3_4 S_4) gv_X6_52 (cl_3 ho0) rfl rfl hc_X6_pain ⟨Nat.le_of_ble_eq_true rfl, Nat.le_of_ble_eq_true rfl⟩ rfl rfl (Nat.le_of_ble_eq_true rfl) dX6_setBorne_15 rfl (fun r_15 S_15 => ?_)
    refine ge_iconst (v := 5) (n := 19) C dX6_setBorne_18 (by decide) rfl ?_
    refine ge_icmp_gt (t := 28) (n := 22) C dX6_setBorne_19 (by decide) rfl (fun h_19 => ?_) (fun h_19 => ?_)
    · refine ge_iinc (n := 31) (v := (x3_4 + (1 : Int32))) (lv2 := [(3, .int (x3_4 + (1 : Int32))), (2, .int x2_4), (0, .ref (adr 3 o0)), (1, .ref (adr 11 o1))]) C 0 rfl dX6_setBorne_28 rfl rfl (by decide) rfl ?_
      refine ge_goto (n := 4) C dX6_setBorne_31 (by decide) ?_
      exact hag4 (x3_4 + (1 : Int32)) x2_4 S_15
    · refine ge_iload_n (n := 23) C 1 rfl dX6_setBorne_22 rfl rfl ?_
      refine ge_iconst (v := 1) (n := 24) C dX6_setBorne_23 (by decide) rfl ?_
      refine ge_iload_n (n := 25) C 0 rfl dX6_setBorne_24 rfl rfl ?_
      refine ge_ishl (n := 26) C dX6_setBorne_25 rfl ?_
      refine ge_ior (n := 27) C dX6_setBorne_26 rfl ?_
      refine ge_bi (fun x2_27 => ?_)
      refine ge_istore_n (n := 28) (lv2 := [(2, .int x2_27), (3, .int x3_4), (0, .ref (adr 3 o0)), (1, .ref (adr 11 o1))]) C dX6_setBorne_27 rfl rfl (by decide) rfl ?_
      refine ge_iinc (n := 31) (v := (x3_4 + (1 : Int32))) (lv2 := [(3, .int (x3_4 + (1 : Int32))), (2, .int x2_27), (0, .ref (adr 3 o0)), (1, .ref (adr 11 o1))]) C 1 rfl dX6_setBorne_28 rfl rfl (by decide) rfl ?_
      refine ge_goto (n := 4) C dX6_setBorne_31 (by decide) ?_
      exact hag4 (x3_4 + (1 : Int32)) x2_27 S_15
theorem dX6_setFelt_0 : decode cX6_setFelt 0 = .ok (.iconst 0, 1) := by decide +kernel
theorem dX6_setFelt_1 : decode cX6_setFelt 1 = .ok (.istore_n 2, 1) := by decide +kernel
theorem dX6_setFelt_2 : decode cX6_setFelt 2 = .ok (.iconst 0, 1) := by decide +kernel
theorem dX6_setFelt_3 : decode cX6_setFelt 3 = .ok (.istore_n 3, 1) := by decide +kernel
theorem dX6_setFelt_4 : decode cX6_setFelt 4 = .ok (.iload_n 3, 1) := by decide +kernel
theorem dX6_setFelt_5 : decode cX6_setFelt 5 = .ok (.aload_n 0, 1) := by decide +kernel
theorem dX6_setFelt_6 : decode cX6_setFelt 6 = .ok (.getfield 36, 3) := by decide +kernel
theorem dX6_setFelt_9 : decode cX6_setFelt 9 = .ok (.if_icmp .ge 25, 3) := by decide +kernel
theorem dX6_setFelt_12 : decode cX6_setFelt 12 = .ok (.aload_n 0, 1) := by decide +kernel
theorem dX6_setFelt_13 : decode cX6_setFelt 13 = .ok (.aload_n 1, 1) := by decide +kernel
theorem dX6_setFelt_14 : decode cX6_setFelt 14 = .ok (.iload_n 3, 1) := by decide +kernel
theorem dX6_setFelt_15 : decode cX6_setFelt 15 = .ok (.invokevirtual 52, 3) := by decide +kernel
theorem dX6_setFelt_18 : decode cX6_setFelt 18 = .ok (.iconst 1, 1) := by decide +kernel
theorem dX6_setFelt_19 : decode cX6_setFelt 19 = .ok (.if_icmp .lt 9, 3) := by decide +kernel
theorem dX6_setFelt_22 : decode cX6_setFelt 22 = .ok (.iload_n 2, 1) := by decide +kernel
theorem dX6_setFelt_23 : decode cX6_setFelt 23 = .ok (.iconst 1, 1) := by decide +kernel
theorem dX6_setFelt_24 : decode cX6_setFelt 24 = .ok (.iload_n 3, 1) := by decide +kernel
theorem dX6_setFelt_25 : decode cX6_setFelt 25 = .ok (.ishl, 1) := by decide +kernel
theorem dX6_setFelt_26 : decode cX6_setFelt 26 = .ok (.ior, 1) := by decide +kernel
theorem dX6_setFelt_27 : decode cX6_setFelt 27 = .ok (.istore_n 2, 1) := by decide +kernel
theorem dX6_setFelt_28 : decode cX6_setFelt 28 = .ok (.iinc 3 1, 3) := by decide +kernel
theorem dX6_setFelt_31 : decode cX6_setFelt 31 = .ok (.goto (-27), 3) := by decide +kernel
theorem dX6_setFelt_34 : decode cX6_setFelt 34 = .ok (.iload_n 2, 1) := by decide +kernel
theorem dX6_setFelt_35 : decode cX6_setFelt 35 = .ok (.ireturn, 1) := by decide +kernel
set_option maxRecDepth 100000 in
set_option maxHeartbeats 4000000 in
theorem mX6_setFelt {w : WX} {adr : Nat → Nat → Nat} (hj : Ij adr) {o0 : Nat} (ho0 : o0 < 2) {o1 : Nat} (ho1 : o1 < 7) (S : St) : ∀ (l : Launch) (r : Int32) (S2 : St), fX6_setFelt o0 o1 S = some (r, S2) → Mi l w adr yX6_setFelt cX6_setFelt 4 (some .int) 2 44 [.ref (adr 3 o0), .ref (adr 11 o1)] S r S2 := by
  refine mi_of (lv := [(0, .ref (adr 3 o0)), (1, .ref (adr 11 o1))]) hj (plainFor_of_name (by decide +kernel)) rfl (Nat.le_of_ble_eq_true rfl) (fun k C Rr => ?_)
  have C : Cx w adr k cX6_setFelt RX6 4 2 44 := C
  refine ge_iconst (v := 0) (n := 1) C dX6_setFelt_0 (by decide) rfl ?_
  refine ge_istore_n (n := 2) (lv2 := [(2, .int (0 : Int32)), (0, .ref (adr 3 o0)), (1, .ref (adr 11 o1))]) C dX6_setFelt_1 rfl rfl (by decide) rfl ?_
  refine ge_iconst (v := 0) (n := 3) C dX6_setFelt_2 (by decide) rfl ?_
  refine ge_istore_n (n := 4) (lv2 := [(3, .int (0 : Int32)), (2, .int (0 : Int32)), (0, .ref (adr 3 o0)), (1, .ref (adr 11 o1))]) C dX6_setFelt_3 rfl rfl (by decide) rfl ?_
  refine ge_jn (fun (jj : Int32 → St → Op) => ∀ (x2_34 : Int32) (S_34 : St), Ge w adr k 34 [(2, .int x2_34)] [] S_34 (jj x2_34 S_34)) (fun x2_34 S_34 => ?_) (fun kk4 hkk4 => ?_)
  · refine ge_iload_n (n := 35) C 0 rfl dX6_setFelt_34 rfl rfl ?_
    exact ge_iret C Rr dX6_setFelt_35
  refine ge_lop (fun (jj : Int32 → Int32 → St → Op) => ∀ (x3_4 : Int32) (x2_4 : Int32) (S_4 : St), Ge w adr k 4 [(3, .int x3_4), (2, .int x2_4), (0, .ref (adr 3 o0)), (1, .ref (adr 11 o1))] [] S_4 (jj x3_4 x2_4 S_4)) (fun _ _ _ => ge_none) (fun ag4 hag4 x3_4 x2_4 S_4 => ?_) FU (0 : Int32) (0 : Int32) S
  refine ge_iload_n (n := 5) C 0 rfl dX6_setFelt_4 rfl rfl ?_
  refine ge_aload_n (n := 6) C 2 rfl dX6_setFelt_5 rfl rfl ?_
  refine gt_X6_36 (n := 9) C ho0 dX6_setFelt_6 rfl ?_
  refine ge_icmp_ge (t := 34) (n := 12) C dX6_setFelt_9 (by decide) rfl (fun h_9 => ?_) (fun h_9 => ?_)
  · refine ge_sub [1] rfl ?_
    exact hkk4 x2_4 S_4
  · refine ge_aload_n (n := 13) C 2 rfl dX6_setFelt_12 rfl rfl ?_
    refine ge_aload_n (n := 14) C 3 rfl dX6_setFelt_13 rfl rfl ?_
    refine ge_iload_n (n := 15) C 0 rfl dX6_setFelt_14 rfl rfl ?_
    refine ge_callVi (n := 18) C (mX6_pain hj (o0 := o0) ho0 (o1 := o1) ho1 x3_4 S_4) gv_X6_52 (cl_3 ho0) rfl rfl hc_X6_pain ⟨Nat.le_of_ble_eq_true rfl, Nat.le_of_ble_eq_true rfl⟩ rfl rfl (Nat.le_of_ble_eq_true rfl) dX6_setFelt_15 rfl (fun r_15 S_15 => ?_)
    refine ge_iconst (v := 1) (n := 19) C dX6_setFelt_18 (by decide) rfl ?_
    refine ge_icmp_lt (t := 28) (n := 22) C dX6_setFelt_19 (by decide) rfl (fun h_19 => ?_) (fun h_19 => ?_)
    · refine ge_iinc (n := 31) (v := (x3_4 + (1 : Int32))) (lv2 := [(3, .int (x3_4 + (1 : Int32))), (2, .int x2_4), (0, .ref (adr 3 o0)), (1, .ref (adr 11 o1))]) C 0 rfl dX6_setFelt_28 rfl rfl (by decide) rfl ?_
      refine ge_goto (n := 4) C dX6_setFelt_31 (by decide) ?_
      exact hag4 (x3_4 + (1 : Int32)) x2_4 S_15
    · refine ge_iload_n (n := 23) C 1 rfl dX6_setFelt_22 rfl rfl ?_
      refine ge_iconst (v := 1) (n := 24) C dX6_setFelt_23 (by decide) rfl ?_
      refine ge_iload_n (n := 25) C 0 rfl dX6_setFelt_24 rfl rfl ?_
      refine ge_ishl (n := 26) C dX6_setFelt_25 rfl ?_
      refine ge_ior (n := 27) C dX6_setFelt_26 rfl ?_
      refine ge_bi (fun x2_27 => ?_)
      refine ge_istore_n (n := 28) (lv2 := [(2, .int x2_27), (3, .int x3_4), (0, .ref (adr 3 o0)), (1, .ref (adr 11 o1))]) C dX6_setFelt_27 rfl rfl (by decide) rfl ?_
      refine ge_iinc (n := 31) (v := (x3_4 + (1 : Int32))) (lv2 := [(3, .int (x3_4 + (1 : Int32))), (2, .int x2_27), (0, .ref (adr 3 o0)), (1, .ref (adr 11 o1))]) C 1 rfl dX6_setFelt_28 rfl rfl (by decide) rfl ?_
      refine ge_goto (n := 4) C dX6_setFelt_31 (by decide) ?_
      exact hag4 (x3_4 + (1 : Int32)) x2_27 S_15
theorem dX6_bearsAll_0 : decode cX6_bearsAll 0 = .ok (.iconst 0, 1) := by decide +kernel
theorem dX6_bearsAll_1 : decode cX6_bearsAll 1 = .ok (.istore_n 3, 1) := by decide +kernel
theorem dX6_bearsAll_2 : decode cX6_bearsAll 2 = .ok (.iload_n 3, 1) := by decide +kernel
theorem dX6_bearsAll_3 : decode cX6_bearsAll 3 = .ok (.aload_n 0, 1) := by decide +kernel
theorem dX6_bearsAll_4 : decode cX6_bearsAll 4 = .ok (.getfield 36, 3) := by decide +kernel
theorem dX6_bearsAll_7 : decode cX6_bearsAll 7 = .ok (.if_icmp .ge 30, 3) := by decide +kernel
theorem dX6_bearsAll_10 : decode cX6_bearsAll 10 = .ok (.iload_n 2, 1) := by decide +kernel
theorem dX6_bearsAll_11 : decode cX6_bearsAll 11 = .ok (.iload_n 3, 1) := by decide +kernel
theorem dX6_bearsAll_12 : decode cX6_bearsAll 12 = .ok (.ishr, 1) := by decide +kernel
theorem dX6_bearsAll_13 : decode cX6_bearsAll 13 = .ok (.iconst 1, 1) := by decide +kernel
theorem dX6_bearsAll_14 : decode cX6_bearsAll 14 = .ok (.iand, 1) := by decide +kernel
theorem dX6_bearsAll_15 : decode cX6_bearsAll 15 = .ok (.iconst 1, 1) := by decide +kernel
theorem dX6_bearsAll_16 : decode cX6_bearsAll 16 = .ok (.if_icmp .ne 15, 3) := by decide +kernel
theorem dX6_bearsAll_19 : decode cX6_bearsAll 19 = .ok (.aload_n 0, 1) := by decide +kernel
theorem dX6_bearsAll_20 : decode cX6_bearsAll 20 = .ok (.aload_n 1, 1) := by decide +kernel
theorem dX6_bearsAll_21 : decode cX6_bearsAll 21 = .ok (.iload_n 3, 1) := by decide +kernel
theorem dX6_bearsAll_22 : decode cX6_bearsAll 22 = .ok (.invokevirtual 52, 3) := by decide +kernel
theorem dX6_bearsAll_25 : decode cX6_bearsAll 25 = .ok (.iconst 5, 1) := by decide +kernel
theorem dX6_bearsAll_26 : decode cX6_bearsAll 26 = .ok (.if_icmp .le 5, 3) := by decide +kernel
theorem dX6_bearsAll_29 : decode cX6_bearsAll 29 = .ok (.iconst 0, 1) := by decide +kernel
theorem dX6_bearsAll_30 : decode cX6_bearsAll 30 = .ok (.ireturn, 1) := by decide +kernel
theorem dX6_bearsAll_31 : decode cX6_bearsAll 31 = .ok (.iinc 3 1, 3) := by decide +kernel
theorem dX6_bearsAll_34 : decode cX6_bearsAll 34 = .ok (.goto (-32), 3) := by decide +kernel
theorem dX6_bearsAll_37 : decode cX6_bearsAll 37 = .ok (.iconst 1, 1) := by decide +kernel
theorem dX6_bearsAll_38 : decode cX6_bearsAll 38 = .ok (.ireturn, 1) := by decide +kernel
set_option maxRecDepth 100000 in
set_option maxHeartbeats 4000000 in
theorem mX6_bearsAll {w : WX} {adr : Nat → Nat → Nat} (hj : Ij adr) {o0 : Nat} (ho0 : o0 < 2) {o1 : Nat} (ho1 : o1 < 7) (a2 : Int32) (S : St) : ∀ (l : Launch) (r : Int32) (S2 : St), fX6_bearsAll o0 o1 a2 S = some (r, S2) → Mi l w adr yX6_bearsAll cX6_bearsAll 4 (some .boolean) 2 44 [.ref (adr 3 o0), .ref (adr 11 o1), .int a2] S r S2 := by
  refine mi_of (lv := [(0, .ref (adr 3 o0)), (1, .ref (adr 11 o1)), (2, .int a2)]) hj (plainFor_of_name (by decide +kernel)) rfl (Nat.le_of_ble_eq_true rfl) (fun k C Rr => ?_)
  have C : Cx w adr k cX6_bearsAll RX6 4 2 44 := C
  refine ge_iconst (v := 0) (n := 1) C dX6_bearsAll_0 (by decide) rfl ?_
  refine ge_istore_n (n := 2) (lv2 := [(3, .int (0 : Int32)), (0, .ref (adr 3 o0)), (1, .ref (adr 11 o1)), (2, .int a2)]) C dX6_bearsAll_1 rfl rfl (by decide) rfl ?_
  refine ge_jn (fun (jj : St → Op) => ∀ (S_37 : St), Ge w adr k 37 [] [] S_37 (jj S_37)) (fun S_37 => ?_) (fun kk2 hkk2 => ?_)
  · refine ge_iconst (v := 1) (n := 38) C dX6_bearsAll_37 (by decide) rfl ?_
    exact ge_zret C Rr (by decide) dX6_bearsAll_38
  refine ge_lop (fun (jj : Int32 → St → Op) => ∀ (x3_2 : Int32) (S_2 : St), Ge w adr k 2 [(3, .int x3_2), (0, .ref (adr 3 o0)), (1, .ref (adr 11 o1)), (2, .int a2)] [] S_2 (jj x3_2 S_2)) (fun _ _ => ge_none) (fun ag2 hag2 x3_2 S_2 => ?_) FU (0 : Int32) S
  refine ge_iload_n (n := 3) C 0 rfl dX6_bearsAll_2 rfl rfl ?_
  refine ge_aload_n (n := 4) C 1 rfl dX6_bearsAll_3 rfl rfl ?_
  refine gt_X6_36 (n := 7) C ho0 dX6_bearsAll_4 rfl ?_
  refine ge_icmp_ge (t := 37) (n := 10) C dX6_bearsAll_7 (by decide) rfl (fun h_7 => ?_) (fun h_7 => ?_)
  · refine ge_sub [] rfl ?_
    exact hkk2 S_2
  · refine ge_iload_n (n := 11) C 3 rfl dX6_bearsAll_10 rfl rfl ?_
    refine ge_iload_n (n := 12) C 0 rfl dX6_bearsAll_11 rfl rfl ?_
    refine ge_ishr (n := 13) C dX6_bearsAll_12 rfl ?_
    refine ge_iconst (v := 1) (n := 14) C dX6_bearsAll_13 (by decide) rfl ?_
    refine ge_iand (n := 15) C dX6_bearsAll_14 rfl ?_
    refine ge_iconst (v := 1) (n := 16) C dX6_bearsAll_15 (by decide) rfl ?_
    refine ge_icmp_ne (t := 31) (n := 19) C dX6_bearsAll_16 (by decide) rfl (fun h_16 => ?_) (fun h_16 => ?_)
    · refine ge_iinc (n := 34) (v := (x3_2 + (1 : Int32))) (lv2 := [(3, .int (x3_2 + (1 : Int32))), (0, .ref (adr 3 o0)), (1, .ref (adr 11 o1)), (2, .int a2)]) C 0 rfl dX6_bearsAll_31 rfl rfl (by decide) rfl ?_
      refine ge_goto (n := 2) C dX6_bearsAll_34 (by decide) ?_
      exact hag2 (x3_2 + (1 : Int32)) S_2
    · refine ge_aload_n (n := 20) C 1 rfl dX6_bearsAll_19 rfl rfl ?_
      refine ge_aload_n (n := 21) C 2 rfl dX6_bearsAll_20 rfl rfl ?_
      refine ge_iload_n (n := 22) C 0 rfl dX6_bearsAll_21 rfl rfl ?_
      refine ge_callVi (n := 25) C (mX6_pain hj (o0 := o0) ho0 (o1 := o1) ho1 x3_2 S_2) gv_X6_52 (cl_3 ho0) rfl rfl hc_X6_pain ⟨Nat.le_of_ble_eq_true rfl, Nat.le_of_ble_eq_true rfl⟩ rfl rfl (Nat.le_of_ble_eq_true rfl) dX6_bearsAll_22 rfl (fun r_22 S_22 => ?_)
      refine ge_iconst (v := 5) (n := 26) C dX6_bearsAll_25 (by decide) rfl ?_
      refine ge_icmp_le (t := 31) (n := 29) C dX6_bearsAll_26 (by decide) rfl (fun h_26 => ?_) (fun h_26 => ?_)
      · refine ge_iinc (n := 34) (v := (x3_2 + (1 : Int32))) (lv2 := [(3, .int (x3_2 + (1 : Int32))), (0, .ref (adr 3 o0)), (1, .ref (adr 11 o1)), (2, .int a2)]) C 0 rfl dX6_bearsAll_31 rfl rfl (by decide) rfl ?_
        refine ge_goto (n := 2) C dX6_bearsAll_34 (by decide) ?_
        exact hag2 (x3_2 + (1 : Int32)) S_22
      · refine ge_iconst (v := 0) (n := 30) C dX6_bearsAll_29 (by decide) rfl ?_
        exact ge_zret C Rr (by decide) dX6_bearsAll_30
theorem dX6_feelsAll_0 : decode cX6_feelsAll 0 = .ok (.iconst 0, 1) := by decide +kernel
theorem dX6_feelsAll_1 : decode cX6_feelsAll 1 = .ok (.istore_n 3, 1) := by decide +kernel
theorem dX6_feelsAll_2 : decode cX6_feelsAll 2 = .ok (.iload_n 3, 1) := by decide +kernel
theorem dX6_feelsAll_3 : decode cX6_feelsAll 3 = .ok (.aload_n 0, 1) := by decide +kernel
theorem dX6_feelsAll_4 : decode cX6_feelsAll 4 = .ok (.getfield 36, 3) := by decide +kernel
theorem dX6_feelsAll_7 : decode cX6_feelsAll 7 = .ok (.if_icmp .ge 30, 3) := by decide +kernel
theorem dX6_feelsAll_10 : decode cX6_feelsAll 10 = .ok (.iload_n 2, 1) := by decide +kernel
theorem dX6_feelsAll_11 : decode cX6_feelsAll 11 = .ok (.iload_n 3, 1) := by decide +kernel
theorem dX6_feelsAll_12 : decode cX6_feelsAll 12 = .ok (.ishr, 1) := by decide +kernel
theorem dX6_feelsAll_13 : decode cX6_feelsAll 13 = .ok (.iconst 1, 1) := by decide +kernel
theorem dX6_feelsAll_14 : decode cX6_feelsAll 14 = .ok (.iand, 1) := by decide +kernel
theorem dX6_feelsAll_15 : decode cX6_feelsAll 15 = .ok (.iconst 1, 1) := by decide +kernel
theorem dX6_feelsAll_16 : decode cX6_feelsAll 16 = .ok (.if_icmp .ne 15, 3) := by decide +kernel
theorem dX6_feelsAll_19 : decode cX6_feelsAll 19 = .ok (.aload_n 0, 1) := by decide +kernel
theorem dX6_feelsAll_20 : decode cX6_feelsAll 20 = .ok (.aload_n 1, 1) := by decide +kernel
theorem dX6_feelsAll_21 : decode cX6_feelsAll 21 = .ok (.iload_n 3, 1) := by decide +kernel
theorem dX6_feelsAll_22 : decode cX6_feelsAll 22 = .ok (.invokevirtual 52, 3) := by decide +kernel
theorem dX6_feelsAll_25 : decode cX6_feelsAll 25 = .ok (.iconst 1, 1) := by decide +kernel
theorem dX6_feelsAll_26 : decode cX6_feelsAll 26 = .ok (.if_icmp .ge 5, 3) := by decide +kernel
theorem dX6_feelsAll_29 : decode cX6_feelsAll 29 = .ok (.iconst 0, 1) := by decide +kernel
theorem dX6_feelsAll_30 : decode cX6_feelsAll 30 = .ok (.ireturn, 1) := by decide +kernel
theorem dX6_feelsAll_31 : decode cX6_feelsAll 31 = .ok (.iinc 3 1, 3) := by decide +kernel
theorem dX6_feelsAll_34 : decode cX6_feelsAll 34 = .ok (.goto (-32), 3) := by decide +kernel
theorem dX6_feelsAll_37 : decode cX6_feelsAll 37 = .ok (.iconst 1, 1) := by decide +kernel
theorem dX6_feelsAll_38 : decode cX6_feelsAll 38 = .ok (.ireturn, 1) := by decide +kernel
set_option maxRecDepth 100000 in
set_option maxHeartbeats 4000000 in
theorem mX6_feelsAll {w : WX} {adr : Nat → Nat → Nat} (hj : Ij adr) {o0 : Nat} (ho0 : o0 < 2) {o1 : Nat} (ho1 : o1 < 7) (a2 : Int32) (S : St) : ∀ (l : Launch) (r : Int32) (S2 : St), fX6_feelsAll o0 o1 a2 S = some (r, S2) → Mi l w adr yX6_feelsAll cX6_feelsAll 4 (some .boolean) 2 44 [.ref (adr 3 o0), .ref (adr 11 o1), .int a2] S r S2 := by
  refine mi_of (lv := [(0, .ref (adr 3 o0)), (1, .ref (adr 11 o1)), (2, .int a2)]) hj (plainFor_of_name (by decide +kernel)) rfl (Nat.le_of_ble_eq_true rfl) (fun k C Rr => ?_)
  have C : Cx w adr k cX6_feelsAll RX6 4 2 44 := C
  refine ge_iconst (v := 0) (n := 1) C dX6_feelsAll_0 (by decide) rfl ?_
  refine ge_istore_n (n := 2) (lv2 := [(3, .int (0 : Int32)), (0, .ref (adr 3 o0)), (1, .ref (adr 11 o1)), (2, .int a2)]) C dX6_feelsAll_1 rfl rfl (by decide) rfl ?_
  refine ge_jn (fun (jj : St → Op) => ∀ (S_37 : St), Ge w adr k 37 [] [] S_37 (jj S_37)) (fun S_37 => ?_) (fun kk2 hkk2 => ?_)
  · refine ge_iconst (v := 1) (n := 38) C dX6_feelsAll_37 (by decide) rfl ?_
    exact ge_zret C Rr (by decide) dX6_feelsAll_38
  refine ge_lop (fun (jj : Int32 → St → Op) => ∀ (x3_2 : Int32) (S_2 : St), Ge w adr k 2 [(3, .int x3_2), (0, .ref (adr 3 o0)), (1, .ref (adr 11 o1)), (2, .int a2)] [] S_2 (jj x3_2 S_2)) (fun _ _ => ge_none) (fun ag2 hag2 x3_2 S_2 => ?_) FU (0 : Int32) S
  refine ge_iload_n (n := 3) C 0 rfl dX6_feelsAll_2 rfl rfl ?_
  refine ge_aload_n (n := 4) C 1 rfl dX6_feelsAll_3 rfl rfl ?_
  refine gt_X6_36 (n := 7) C ho0 dX6_feelsAll_4 rfl ?_
  refine ge_icmp_ge (t := 37) (n := 10) C dX6_feelsAll_7 (by decide) rfl (fun h_7 => ?_) (fun h_7 => ?_)
  · refine ge_sub [] rfl ?_
    exact hkk2 S_2
  · refine ge_iload_n (n := 11) C 3 rfl dX6_feelsAll_10 rfl rfl ?_
    refine ge_iload_n (n := 12) C 0 rfl dX6_feelsAll_11 rfl rfl ?_
    refine ge_ishr (n := 13) C dX6_feelsAll_12 rfl ?_
    refine ge_iconst (v := 1) (n := 14) C dX6_feelsAll_13 (by decide) rfl ?_
    refine ge_iand (n := 15) C dX6_feelsAll_14 rfl ?_
    refine ge_iconst (v := 1) (n := 16) C dX6_feelsAll_15 (by decide) rfl ?_
    refine ge_icmp_ne (t := 31) (n := 19) C dX6_feelsAll_16 (by decide) rfl (fun h_16 => ?_) (fun h_16 => ?_)
    · refine ge_iinc (n := 34) (v := (x3_2 + (1 : Int32))) (lv2 := [(3, .int (x3_2 + (1 : Int32))), (0, .ref (adr 3 o0)), (1, .ref (adr 11 o1)), (2, .int a2)]) C 0 rfl dX6_feelsAll_31 rfl rfl (by decide) rfl ?_
      refine ge_goto (n := 2) C dX6_feelsAll_34 (by decide) ?_
      exact hag2 (x3_2 + (1 : Int32)) S_2
    · refine ge_aload_n (n := 20) C 1 rfl dX6_feelsAll_19 rfl rfl ?_
      refine ge_aload_n (n := 21) C 2 rfl dX6_feelsAll_20 rfl rfl ?_
      refine ge_iload_n (n := 22) C 0 rfl dX6_feelsAll_21 rfl rfl ?_
      refine ge_callVi (n := 25) C (mX6_pain hj (o0 := o0) ho0 (o1 := o1) ho1 x3_2 S_2) gv_X6_52 (cl_3 ho0) rfl rfl hc_X6_pain ⟨Nat.le_of_ble_eq_true rfl, Nat.le_of_ble_eq_true rfl⟩ rfl rfl (Nat.le_of_ble_eq_true rfl) dX6_feelsAll_22 rfl (fun r_22 S_22 => ?_)
      refine ge_iconst (v := 1) (n := 26) C dX6_feelsAll_25 (by decide) rfl ?_
      refine ge_icmp_ge (t := 31) (n := 29) C dX6_feelsAll_26 (by decide) rfl (fun h_26 => ?_) (fun h_26 => ?_)
      · refine ge_iinc (n := 34) (v := (x3_2 + (1 : Int32))) (lv2 := [(3, .int (x3_2 + (1 : Int32))), (0, .ref (adr 3 o0)), (1, .ref (adr 11 o1)), (2, .int a2)]) C 0 rfl dX6_feelsAll_31 rfl rfl (by decide) rfl ?_
        refine ge_goto (n := 2) C dX6_feelsAll_34 (by decide) ?_
        exact hag2 (x3_2 + (1 : Int32)) S_22
      · refine ge_iconst (v := 0) (n := 30) C dX6_feelsAll_29 (by decide) rfl ?_
        exact ge_zret C Rr (by decide) dX6_feelsAll_30
theorem dX6_wholePain_0 : decode cX6_wholePain 0 = .ok (.iconst 0, 1) := by decide +kernel
theorem dX6_wholePain_1 : decode cX6_wholePain 1 = .ok (.istore_n 2, 1) := by decide +kernel
theorem dX6_wholePain_2 : decode cX6_wholePain 2 = .ok (.iconst 0, 1) := by decide +kernel
theorem dX6_wholePain_3 : decode cX6_wholePain 3 = .ok (.istore_n 3, 1) := by decide +kernel
theorem dX6_wholePain_4 : decode cX6_wholePain 4 = .ok (.iload_n 3, 1) := by decide +kernel
theorem dX6_wholePain_5 : decode cX6_wholePain 5 = .ok (.aload_n 0, 1) := by decide +kernel
theorem dX6_wholePain_6 : decode cX6_wholePain 6 = .ok (.getfield 36, 3) := by decide +kernel
theorem dX6_wholePain_9 : decode cX6_wholePain 9 = .ok (.if_icmp .ge 18, 3) := by decide +kernel
theorem dX6_wholePain_12 : decode cX6_wholePain 12 = .ok (.iload_n 2, 1) := by decide +kernel
theorem dX6_wholePain_13 : decode cX6_wholePain 13 = .ok (.aload_n 0, 1) := by decide +kernel
theorem dX6_wholePain_14 : decode cX6_wholePain 14 = .ok (.aload_n 1, 1) := by decide +kernel
theorem dX6_wholePain_15 : decode cX6_wholePain 15 = .ok (.iload_n 3, 1) := by decide +kernel
theorem dX6_wholePain_16 : decode cX6_wholePain 16 = .ok (.invokevirtual 52, 3) := by decide +kernel
theorem dX6_wholePain_19 : decode cX6_wholePain 19 = .ok (.iadd, 1) := by decide +kernel
theorem dX6_wholePain_20 : decode cX6_wholePain 20 = .ok (.istore_n 2, 1) := by decide +kernel
theorem dX6_wholePain_21 : decode cX6_wholePain 21 = .ok (.iinc 3 1, 3) := by decide +kernel
theorem dX6_wholePain_24 : decode cX6_wholePain 24 = .ok (.goto (-20), 3) := by decide +kernel
theorem dX6_wholePain_27 : decode cX6_wholePain 27 = .ok (.iload_n 2, 1) := by decide +kernel
theorem dX6_wholePain_28 : decode cX6_wholePain 28 = .ok (.ireturn, 1) := by decide +kernel
set_option maxRecDepth 100000 in
set_option maxHeartbeats 4000000 in
theorem mX6_wholePain {w : WX} {adr : Nat → Nat → Nat} (hj : Ij adr) {o0 : Nat} (ho0 : o0 < 2) {o1 : Nat} (ho1 : o1 < 7) (S : St) : ∀ (l : Launch) (r : Int32) (S2 : St), fX6_wholePain o0 o1 S = some (r, S2) → Mi l w adr yX6_wholePain cX6_wholePain 4 (some .int) 2 44 [.ref (adr 3 o0), .ref (adr 11 o1)] S r S2 := by
  refine mi_of (lv := [(0, .ref (adr 3 o0)), (1, .ref (adr 11 o1))]) hj (plainFor_of_name (by decide +kernel)) rfl (Nat.le_of_ble_eq_true rfl) (fun k C Rr => ?_)
  have C : Cx w adr k cX6_wholePain RX6 4 2 44 := C
  refine ge_iconst (v := 0) (n := 1) C dX6_wholePain_0 (by decide) rfl ?_
  refine ge_istore_n (n := 2) (lv2 := [(2, .int (0 : Int32)), (0, .ref (adr 3 o0)), (1, .ref (adr 11 o1))]) C dX6_wholePain_1 rfl rfl (by decide) rfl ?_
  refine ge_iconst (v := 0) (n := 3) C dX6_wholePain_2 (by decide) rfl ?_
  refine ge_istore_n (n := 4) (lv2 := [(3, .int (0 : Int32)), (2, .int (0 : Int32)), (0, .ref (adr 3 o0)), (1, .ref (adr 11 o1))]) C dX6_wholePain_3 rfl rfl (by decide) rfl ?_
  refine ge_jn (fun (jj : Int32 → St → Op) => ∀ (x2_27 : Int32) (S_27 : St), Ge w adr k 27 [(2, .int x2_27)] [] S_27 (jj x2_27 S_27)) (fun x2_27 S_27 => ?_) (fun kk4 hkk4 => ?_)
  · refine ge_iload_n (n := 28) C 0 rfl dX6_wholePain_27 rfl rfl ?_
    exact ge_iret C Rr dX6_wholePain_28
  refine ge_lop (fun (jj : Int32 → Int32 → St → Op) => ∀ (x3_4 : Int32) (x2_4 : Int32) (S_4 : St), Ge w adr k 4 [(3, .int x3_4), (2, .int x2_4), (0, .ref (adr 3 o0)), (1, .ref (adr 11 o1))] [] S_4 (jj x3_4 x2_4 S_4)) (fun _ _ _ => ge_none) (fun ag4 hag4 x3_4 x2_4 S_4 => ?_) FU (0 : Int32) (0 : Int32) S
  refine ge_iload_n (n := 5) C 0 rfl dX6_wholePain_4 rfl rfl ?_
  refine ge_aload_n (n := 6) C 2 rfl dX6_wholePain_5 rfl rfl ?_
  refine gt_X6_36 (n := 9) C ho0 dX6_wholePain_6 rfl ?_
  refine ge_icmp_ge (t := 27) (n := 12) C dX6_wholePain_9 (by decide) rfl (fun h_9 => ?_) (fun h_9 => ?_)
  · refine ge_sub [1] rfl ?_
    exact hkk4 x2_4 S_4
  · refine ge_iload_n (n := 13) C 1 rfl dX6_wholePain_12 rfl rfl ?_
    refine ge_aload_n (n := 14) C 2 rfl dX6_wholePain_13 rfl rfl ?_
    refine ge_aload_n (n := 15) C 3 rfl dX6_wholePain_14 rfl rfl ?_
    refine ge_iload_n (n := 16) C 0 rfl dX6_wholePain_15 rfl rfl ?_
    refine ge_callVi (n := 19) C (mX6_pain hj (o0 := o0) ho0 (o1 := o1) ho1 x3_4 S_4) gv_X6_52 (cl_3 ho0) rfl rfl hc_X6_pain ⟨Nat.le_of_ble_eq_true rfl, Nat.le_of_ble_eq_true rfl⟩ rfl rfl (Nat.le_of_ble_eq_true rfl) dX6_wholePain_16 rfl (fun r_16 S_16 => ?_)
    refine ge_iadd (n := 20) C dX6_wholePain_19 rfl ?_
    refine ge_bi (fun x2_20 => ?_)
    refine ge_istore_n (n := 21) (lv2 := [(2, .int x2_20), (3, .int x3_4), (0, .ref (adr 3 o0)), (1, .ref (adr 11 o1))]) C dX6_wholePain_20 rfl rfl (by decide) rfl ?_
    refine ge_iinc (n := 24) (v := (x3_4 + (1 : Int32))) (lv2 := [(3, .int (x3_4 + (1 : Int32))), (2, .int x2_20), (0, .ref (adr 3 o0)), (1, .ref (adr 11 o1))]) C 1 rfl dX6_wholePain_21 rfl rfl (by decide) rfl ?_
    refine ge_goto (n := 4) C dX6_wholePain_24 (by decide) ?_
    exact hag4 (x3_4 + (1 : Int32)) x2_20 S_16
theorem dX6_scrapingAt_0 : decode cX6_scrapingAt 0 = .ok (.iconst 0, 1) := by decide +kernel
theorem dX6_scrapingAt_1 : decode cX6_scrapingAt 1 = .ok (.istore 4, 2) := by decide +kernel
theorem dX6_scrapingAt_3 : decode cX6_scrapingAt 3 = .ok (.iconst 0, 1) := by decide +kernel
theorem dX6_scrapingAt_4 : decode cX6_scrapingAt 4 = .ok (.istore 5, 2) := by decide +kernel
theorem dX6_scrapingAt_6 : decode cX6_scrapingAt 6 = .ok (.iload 5, 2) := by decide +kernel
theorem dX6_scrapingAt_8 : decode cX6_scrapingAt 8 = .ok (.aload_n 0, 1) := by decide +kernel
theorem dX6_scrapingAt_9 : decode cX6_scrapingAt 9 = .ok (.getfield 36, 3) := by decide +kernel
theorem dX6_scrapingAt_12 : decode cX6_scrapingAt 12 = .ok (.if_icmp .ge 46, 3) := by decide +kernel
theorem dX6_scrapingAt_15 : decode cX6_scrapingAt 15 = .ok (.iload_n 2, 1) := by decide +kernel
theorem dX6_scrapingAt_16 : decode cX6_scrapingAt 16 = .ok (.iload 5, 2) := by decide +kernel
theorem dX6_scrapingAt_18 : decode cX6_scrapingAt 18 = .ok (.ishr, 1) := by decide +kernel
theorem dX6_scrapingAt_19 : decode cX6_scrapingAt 19 = .ok (.iconst 1, 1) := by decide +kernel
theorem dX6_scrapingAt_20 : decode cX6_scrapingAt 20 = .ok (.iand, 1) := by decide +kernel
theorem dX6_scrapingAt_21 : decode cX6_scrapingAt 21 = .ok (.iconst 1, 1) := by decide +kernel
theorem dX6_scrapingAt_22 : decode cX6_scrapingAt 22 = .ok (.if_icmp .ne 30, 3) := by decide +kernel
theorem dX6_scrapingAt_25 : decode cX6_scrapingAt 25 = .ok (.aload_n 0, 1) := by decide +kernel
theorem dX6_scrapingAt_26 : decode cX6_scrapingAt 26 = .ok (.getfield 20, 3) := by decide +kernel
theorem dX6_scrapingAt_29 : decode cX6_scrapingAt 29 = .ok (.iload 5, 2) := by decide +kernel
theorem dX6_scrapingAt_31 : decode cX6_scrapingAt 31 = .ok (.iaload, 1) := by decide +kernel
theorem dX6_scrapingAt_32 : decode cX6_scrapingAt 32 = .ok (.iload_n 3, 1) := by decide +kernel
theorem dX6_scrapingAt_33 : decode cX6_scrapingAt 33 = .ok (.if_icmp .ne 19, 3) := by decide +kernel
theorem dX6_scrapingAt_36 : decode cX6_scrapingAt 36 = .ok (.iload 4, 2) := by decide +kernel
theorem dX6_scrapingAt_38 : decode cX6_scrapingAt 38 = .ok (.aload_n 0, 1) := by decide +kernel
theorem dX6_scrapingAt_39 : decode cX6_scrapingAt 39 = .ok (.aload_n 1, 1) := by decide +kernel
theorem dX6_scrapingAt_40 : decode cX6_scrapingAt 40 = .ok (.iload 5, 2) := by decide +kernel
theorem dX6_scrapingAt_42 : decode cX6_scrapingAt 42 = .ok (.invokevirtual 52, 3) := by decide +kernel
theorem dX6_scrapingAt_45 : decode cX6_scrapingAt 45 = .ok (.iconst 5, 1) := by decide +kernel
theorem dX6_scrapingAt_46 : decode cX6_scrapingAt 46 = .ok (.isub, 1) := by decide +kernel
theorem dX6_scrapingAt_47 : decode cX6_scrapingAt 47 = .ok (.invokestatic 46, 3) := by decide +kernel
theorem dX6_scrapingAt_50 : decode cX6_scrapingAt 50 = .ok (.istore 4, 2) := by decide +kernel
theorem dX6_scrapingAt_52 : decode cX6_scrapingAt 52 = .ok (.iinc 5 1, 3) := by decide +kernel
theorem dX6_scrapingAt_55 : decode cX6_scrapingAt 55 = .ok (.goto (-49), 3) := by decide +kernel
theorem dX6_scrapingAt_58 : decode cX6_scrapingAt 58 = .ok (.iload 4, 2) := by decide +kernel
theorem dX6_scrapingAt_60 : decode cX6_scrapingAt 60 = .ok (.ireturn, 1) := by decide +kernel
set_option maxRecDepth 100000 in
set_option maxHeartbeats 4000000 in
theorem mX6_scrapingAt {w : WX} {adr : Nat → Nat → Nat} (hj : Ij adr) {o0 : Nat} (ho0 : o0 < 2) {o1 : Nat} (ho1 : o1 < 7) (a2 : Int32) (a3 : Int32) (S : St) : ∀ (l : Launch) (r : Int32) (S2 : St), fX6_scrapingAt o0 o1 a2 a3 S = some (r, S2) → Mi l w adr yX6_scrapingAt cX6_scrapingAt 6 (some .int) 2 44 [.ref (adr 3 o0), .ref (adr 11 o1), .int a2, .int a3] S r S2 := by
  refine mi_of (lv := [(0, .ref (adr 3 o0)), (1, .ref (adr 11 o1)), (2, .int a2), (3, .int a3)]) hj (plainFor_of_name (by decide +kernel)) rfl (Nat.le_of_ble_eq_true rfl) (fun k C Rr => ?_)
  have C : Cx w adr k cX6_scrapingAt RX6 6 2 44 := C
  refine ge_iconst (v := 0) (n := 1) C dX6_scrapingAt_0 (by decide) rfl ?_
  refine ge_istore (n := 3) (lv2 := [(4, .int (0 : Int32)), (0, .ref (adr 3 o0)), (1, .ref (adr 11 o1)), (2, .int a2), (3, .int a3)]) C dX6_scrapingAt_1 rfl (by decide) rfl ?_
  refine ge_iconst (v := 0) (n := 4) C dX6_scrapingAt_3 (by decide) rfl ?_
  refine ge_istore (n := 6) (lv2 := [(5, .int (0 : Int32)), (4, .int (0 : Int32)), (0, .ref (adr 3 o0)), (1, .ref (adr 11 o1)), (2, .int a2), (3, .int a3)]) C dX6_scrapingAt_4 rfl (by decide) rfl ?_
  refine ge_jn (fun (jj : Int32 → St → Op) => ∀ (x4_58 : Int32) (S_58 : St), Ge w adr k 58 [(4, .int x4_58)] [] S_58 (jj x4_58 S_58)) (fun x4_58 S_58 => ?_) (fun kk6 hkk6 => ?_)
  · refine ge_iload (n := 60) C 0 rfl dX6_scrapingAt_58 rfl ?_
    exact ge_iret C Rr dX6_scrapingAt_60
  refine ge_lop (fun (jj : Int32 → Int32 → St → Op) => ∀ (x5_6 : Int32) (x4_6 : Int32) (S_6 : St), Ge w adr k 6 [(5, .int x5_6), (4, .int x4_6), (0, .ref (adr 3 o0)), (1, .ref (adr 11 o1)), (2, .int a2), (3, .int a3)] [] S_6 (jj x5_6 x4_6 S_6)) (fun _ _ _ => ge_none) (fun ag6 hag6 x5_6 x4_6 S_6 => ?_) FU (0 : Int32) (0 : Int32) S
  refine ge_iload (n := 8) C 0 rfl dX6_scrapingAt_6 rfl ?_
  refine ge_aload_n (n := 9) C 2 rfl dX6_scrapingAt_8 rfl rfl ?_
  refine gt_X6_36 (n := 12) C ho0 dX6_scrapingAt_9 rfl ?_
  refine ge_icmp_ge (t := 58) (n := 15) C dX6_scrapingAt_12 (by decide) rfl (fun h_12 => ?_) (fun h_12 => ?_)
  · refine ge_sub [1] rfl ?_
    exact hkk6 x4_6 S_6
  · refine ge_iload_n (n := 16) C 4 rfl dX6_scrapingAt_15 rfl rfl ?_
    refine ge_iload (n := 18) C 0 rfl dX6_scrapingAt_16 rfl ?_
    refine ge_ishr (n := 19) C dX6_scrapingAt_18 rfl ?_
    refine ge_iconst (v := 1) (n := 20) C dX6_scrapingAt_19 (by decide) rfl ?_
    refine ge_iand (n := 21) C dX6_scrapingAt_20 rfl ?_
    refine ge_iconst (v := 1) (n := 22) C dX6_scrapingAt_21 (by decide) rfl ?_
    refine ge_icmp_ne (t := 52) (n := 25) C dX6_scrapingAt_22 (by decide) rfl (fun h_22 => ?_) (fun h_22 => ?_)
    · refine ge_iinc (n := 55) (v := (x5_6 + (1 : Int32))) (lv2 := [(5, .int (x5_6 + (1 : Int32))), (4, .int x4_6), (0, .ref (adr 3 o0)), (1, .ref (adr 11 o1)), (2, .int a2), (3, .int a3)]) C 0 rfl dX6_scrapingAt_52 rfl rfl (by decide) rfl ?_
      refine ge_goto (n := 6) C dX6_scrapingAt_55 (by decide) ?_
      exact hag6 (x5_6 + (1 : Int32)) x4_6 S_6
    · refine ge_aload_n (n := 26) C 2 rfl dX6_scrapingAt_25 rfl rfl ?_
      refine gt_X6_20 (n := 29) C ho0 dX6_scrapingAt_26 rfl ?_
      refine ge_iload (n := 31) C 0 rfl dX6_scrapingAt_29 rfl ?_
      refine al_7 (n := 32) C ho0 dX6_scrapingAt_31 rfl ?_
      refine ge_iload_n (n := 33) C 5 rfl dX6_scrapingAt_32 rfl rfl ?_
      refine ge_icmp_ne (t := 52) (n := 36) C dX6_scrapingAt_33 (by decide) rfl (fun h_33 => ?_) (fun h_33 => ?_)
      · refine ge_iinc (n := 55) (v := (x5_6 + (1 : Int32))) (lv2 := [(5, .int (x5_6 + (1 : Int32))), (4, .int x4_6), (0, .ref (adr 3 o0)), (1, .ref (adr 11 o1)), (2, .int a2), (3, .int a3)]) C 0 rfl dX6_scrapingAt_52 rfl rfl (by decide) rfl ?_
        refine ge_goto (n := 6) C dX6_scrapingAt_55 (by decide) ?_
        exact hag6 (x5_6 + (1 : Int32)) x4_6 S_6
      · refine ge_iload (n := 38) C 1 rfl dX6_scrapingAt_36 rfl ?_
        refine ge_aload_n (n := 39) C 2 rfl dX6_scrapingAt_38 rfl rfl ?_
        refine ge_aload_n (n := 40) C 3 rfl dX6_scrapingAt_39 rfl rfl ?_
        refine ge_iload (n := 42) C 0 rfl dX6_scrapingAt_40 rfl ?_
        refine ge_callVi (n := 45) C (mX6_pain hj (o0 := o0) ho0 (o1 := o1) ho1 x5_6 S_6) gv_X6_52 (cl_3 ho0) rfl rfl hc_X6_pain ⟨Nat.le_of_ble_eq_true rfl, Nat.le_of_ble_eq_true rfl⟩ rfl rfl (Nat.le_of_ble_eq_true rfl) dX6_scrapingAt_42 rfl (fun r_42 S_42 => ?_)
        refine ge_iconst (v := 5) (n := 46) C dX6_scrapingAt_45 (by decide) rfl ?_
        refine ge_isub (n := 47) C dX6_scrapingAt_46 rfl ?_
        refine ge_mmax (n := 50) C ml_X6_46 (by decide) (Nat.le_of_ble_eq_true rfl) dX6_scrapingAt_47 rfl ?_
        refine ge_bi (fun x4_50 => ?_)
        refine ge_istore (n := 52) (lv2 := [(4, .int x4_50), (5, .int x5_6), (0, .ref (adr 3 o0)), (1, .ref (adr 11 o1)), (2, .int a2), (3, .int a3)]) C dX6_scrapingAt_50 rfl (by decide) rfl ?_
        refine ge_iinc (n := 55) (v := (x5_6 + (1 : Int32))) (lv2 := [(5, .int (x5_6 + (1 : Int32))), (4, .int x4_50), (0, .ref (adr 3 o0)), (1, .ref (adr 11 o1)), (2, .int a2), (3, .int a3)]) C 1 rfl dX6_scrapingAt_52 rfl rfl (by decide) rfl ?_
        refine ge_goto (n := 6) C dX6_scrapingAt_55 (by decide) ?_
        exact hag6 (x5_6 + (1 : Int32)) x4_50 S_42
theorem dX6_leastScraping_0 : decode cX6_leastScraping 0 = .ok (.iconst 0, 1) := by decide +kernel
theorem dX6_leastScraping_1 : decode cX6_leastScraping 1 = .ok (.istore_n 3, 1) := by decide +kernel
theorem dX6_leastScraping_2 : decode cX6_leastScraping 2 = .ok (.iconst 0, 1) := by decide +kernel
theorem dX6_leastScraping_3 : decode cX6_leastScraping 3 = .ok (.istore 4, 2) := by decide +kernel
theorem dX6_leastScraping_5 : decode cX6_leastScraping 5 = .ok (.iload 4, 2) := by decide +kernel
theorem dX6_leastScraping_7 : decode cX6_leastScraping 7 = .ok (.iconst 5, 1) := by decide +kernel
theorem dX6_leastScraping_8 : decode cX6_leastScraping 8 = .ok (.if_icmp .ge 38, 3) := by decide +kernel
theorem dX6_leastScraping_11 : decode cX6_leastScraping 11 = .ok (.aload_n 0, 1) := by decide +kernel
theorem dX6_leastScraping_12 : decode cX6_leastScraping 12 = .ok (.aload_n 1, 1) := by decide +kernel
theorem dX6_leastScraping_13 : decode cX6_leastScraping 13 = .ok (.iload_n 2, 1) := by decide +kernel
theorem dX6_leastScraping_14 : decode cX6_leastScraping 14 = .ok (.iload 4, 2) := by decide +kernel
theorem dX6_leastScraping_16 : decode cX6_leastScraping 16 = .ok (.invokevirtual 56, 3) := by decide +kernel
theorem dX6_leastScraping_19 : decode cX6_leastScraping 19 = .ok (.istore 5, 2) := by decide +kernel
theorem dX6_leastScraping_21 : decode cX6_leastScraping 21 = .ok (.iload 5, 2) := by decide +kernel
theorem dX6_leastScraping_23 : decode cX6_leastScraping 23 = .ok (.aload_n 1, 1) := by decide +kernel
theorem dX6_leastScraping_24 : decode cX6_leastScraping 24 = .ok (.getfield 39, 3) := by decide +kernel
theorem dX6_leastScraping_27 : decode cX6_leastScraping 27 = .ok (.iload 4, 2) := by decide +kernel
theorem dX6_leastScraping_29 : decode cX6_leastScraping 29 = .ok (.iaload, 1) := by decide +kernel
theorem dX6_leastScraping_30 : decode cX6_leastScraping 30 = .ok (.if_icmp .le 5, 3) := by decide +kernel
theorem dX6_leastScraping_33 : decode cX6_leastScraping 33 = .ok (.iconst (-1), 1) := by decide +kernel
theorem dX6_leastScraping_34 : decode cX6_leastScraping 34 = .ok (.ireturn, 1) := by decide +kernel
theorem dX6_leastScraping_35 : decode cX6_leastScraping 35 = .ok (.iload_n 3, 1) := by decide +kernel
theorem dX6_leastScraping_36 : decode cX6_leastScraping 36 = .ok (.iload 5, 2) := by decide +kernel
theorem dX6_leastScraping_38 : decode cX6_leastScraping 38 = .ok (.iadd, 1) := by decide +kernel
theorem dX6_leastScraping_39 : decode cX6_leastScraping 39 = .ok (.istore_n 3, 1) := by decide +kernel
theorem dX6_leastScraping_40 : decode cX6_leastScraping 40 = .ok (.iinc 4 1, 3) := by decide +kernel
theorem dX6_leastScraping_43 : decode cX6_leastScraping 43 = .ok (.goto (-38), 3) := by decide +kernel
theorem dX6_leastScraping_46 : decode cX6_leastScraping 46 = .ok (.iload_n 3, 1) := by decide +kernel
theorem dX6_leastScraping_47 : decode cX6_leastScraping 47 = .ok (.ireturn, 1) := by decide +kernel
set_option maxRecDepth 100000 in
set_option maxHeartbeats 4000000 in
theorem mX6_leastScraping {w : WX} {adr : Nat → Nat → Nat} (hj : Ij adr) {o0 : Nat} (ho0 : o0 < 2) {o1 : Nat} (ho1 : o1 < 7) (a2 : Int32) (S : St) : ∀ (l : Launch) (r : Int32) (S2 : St), fX6_leastScraping o0 o1 a2 S = some (r, S2) → Mi l w adr yX6_leastScraping cX6_leastScraping 6 (some .int) 3 69 [.ref (adr 3 o0), .ref (adr 11 o1), .int a2] S r S2 := by
  refine mi_of (lv := [(0, .ref (adr 3 o0)), (1, .ref (adr 11 o1)), (2, .int a2)]) hj (plainFor_of_name (by decide +kernel)) rfl (Nat.le_of_ble_eq_true rfl) (fun k C Rr => ?_)
  have C : Cx w adr k cX6_leastScraping RX6 6 3 69 := C
  refine ge_iconst (v := 0) (n := 1) C dX6_leastScraping_0 (by decide) rfl ?_
  refine ge_istore_n (n := 2) (lv2 := [(3, .int (0 : Int32)), (0, .ref (adr 3 o0)), (1, .ref (adr 11 o1)), (2, .int a2)]) C dX6_leastScraping_1 rfl rfl (by decide) rfl ?_
  refine ge_iconst (v := 0) (n := 3) C dX6_leastScraping_2 (by decide) rfl ?_
  refine ge_istore (n := 5) (lv2 := [(4, .int (0 : Int32)), (3, .int (0 : Int32)), (0, .ref (adr 3 o0)), (1, .ref (adr 11 o1)), (2, .int a2)]) C dX6_leastScraping_3 rfl (by decide) rfl ?_
  refine ge_jn (fun (jj : Int32 → St → Op) => ∀ (x3_46 : Int32) (S_46 : St), Ge w adr k 46 [(3, .int x3_46)] [] S_46 (jj x3_46 S_46)) (fun x3_46 S_46 => ?_) (fun kk5 hkk5 => ?_)
  · refine ge_iload_n (n := 47) C 0 rfl dX6_leastScraping_46 rfl rfl ?_
    exact ge_iret C Rr dX6_leastScraping_47
  refine ge_lop (fun (jj : Int32 → Int32 → St → Op) => ∀ (x4_5 : Int32) (x3_5 : Int32) (S_5 : St), Ge w adr k 5 [(4, .int x4_5), (3, .int x3_5), (0, .ref (adr 3 o0)), (1, .ref (adr 11 o1)), (2, .int a2)] [] S_5 (jj x4_5 x3_5 S_5)) (fun _ _ _ => ge_none) (fun ag5 hag5 x4_5 x3_5 S_5 => ?_) FU (0 : Int32) (0 : Int32) S
  refine ge_iload (n := 7) C 0 rfl dX6_leastScraping_5 rfl ?_
  refine ge_iconst (v := 5) (n := 8) C dX6_leastScraping_7 (by decide) rfl ?_
  refine ge_icmp_ge (t := 46) (n := 11) C dX6_leastScraping_8 (by decide) rfl (fun h_8 => ?_) (fun h_8 => ?_)
  · refine ge_sub [1] rfl ?_
    exact hkk5 x3_5 S_5
  · refine ge_aload_n (n := 12) C 2 rfl dX6_leastScraping_11 rfl rfl ?_
    refine ge_aload_n (n := 13) C 3 rfl dX6_leastScraping_12 rfl rfl ?_
    refine ge_iload_n (n := 14) C 4 rfl dX6_leastScraping_13 rfl rfl ?_
    refine ge_iload (n := 16) C 0 rfl dX6_leastScraping_14 rfl ?_
    refine ge_callVi (n := 19) C (mX6_scrapingAt hj (o0 := o0) ho0 (o1 := o1) ho1 a2 x4_5 S_5) gv_X6_56 (cl_3 ho0) rfl rfl hc_X6_scrapingAt ⟨Nat.le_of_ble_eq_true rfl, Nat.le_of_ble_eq_true rfl⟩ rfl rfl (Nat.le_of_ble_eq_true rfl) dX6_leastScraping_16 rfl (fun r_16 S_16 => ?_)
    refine ge_istore (n := 21) (lv2 := [(5, .int r_16), (4, .int x4_5), (3, .int x3_5), (0, .ref (adr 3 o0)), (1, .ref (adr 11 o1)), (2, .int a2)]) C dX6_leastScraping_19 rfl (by decide) rfl ?_
    refine ge_iload (n := 23) C 0 rfl dX6_leastScraping_21 rfl ?_
    refine ge_aload_n (n := 24) C 4 rfl dX6_leastScraping_23 rfl rfl ?_
    refine gt_X6_39 (n := 27) C ho1 dX6_leastScraping_24 rfl ?_
    refine ge_iload (n := 29) C 1 rfl dX6_leastScraping_27 rfl ?_
    refine al_12 (n := 30) C ho1 dX6_leastScraping_29 rfl ?_
    refine ge_icmp_le (t := 35) (n := 33) C dX6_leastScraping_30 (by decide) rfl (fun h_30 => ?_) (fun h_30 => ?_)
    · refine ge_iload_n (n := 36) C 2 rfl dX6_leastScraping_35 rfl rfl ?_
      refine ge_iload (n := 38) C 0 rfl dX6_leastScraping_36 rfl ?_
      refine ge_iadd (n := 39) C dX6_leastScraping_38 rfl ?_
      refine ge_bi (fun x3_39 => ?_)
      refine ge_istore_n (n := 40) (lv2 := [(3, .int x3_39), (5, .int r_16), (4, .int x4_5), (0, .ref (adr 3 o0)), (1, .ref (adr 11 o1)), (2, .int a2)]) C dX6_leastScraping_39 rfl rfl (by decide) rfl ?_
      refine ge_iinc (n := 43) (v := (x4_5 + (1 : Int32))) (lv2 := [(4, .int (x4_5 + (1 : Int32))), (3, .int x3_39), (5, .int r_16), (0, .ref (adr 3 o0)), (1, .ref (adr 11 o1)), (2, .int a2)]) C 2 rfl dX6_leastScraping_40 rfl rfl (by decide) rfl ?_
      refine ge_goto (n := 5) C dX6_leastScraping_43 (by decide) ?_
      refine ge_sub [0, 1, 3, 4, 5] rfl ?_
      exact hag5 (x4_5 + (1 : Int32)) x3_39 S_16
    · refine ge_iconst (v := -1) (n := 34) C dX6_leastScraping_33 (by decide) rfl ?_
      exact ge_iret C Rr dX6_leastScraping_34
theorem dX7_begin_0 : decode cX7_begin 0 = .ok (.aload_n 0, 1) := by decide +kernel
theorem dX7_begin_1 : decode cX7_begin 1 = .ok (.aload_n 1, 1) := by decide +kernel
theorem dX7_begin_2 : decode cX7_begin 2 = .ok (.putfield 17, 3) := by decide +kernel
theorem dX7_begin_5 : decode cX7_begin 5 = .ok (.aload_n 0, 1) := by decide +kernel
theorem dX7_begin_6 : decode cX7_begin 6 = .ok (.iconst 0, 1) := by decide +kernel
theorem dX7_begin_7 : decode cX7_begin 7 = .ok (.putfield 22, 3) := by decide +kernel
theorem dX7_begin_10 : decode cX7_begin 10 = .ok (.aload_n 0, 1) := by decide +kernel
theorem dX7_begin_11 : decode cX7_begin 11 = .ok (.aload_n 1, 1) := by decide +kernel
theorem dX7_begin_12 : decode cX7_begin 12 = .ok (.getfield 26, 3) := by decide +kernel
theorem dX7_begin_15 : decode cX7_begin 15 = .ok (.putfield 31, 3) := by decide +kernel
theorem dX7_begin_18 : decode cX7_begin 18 = .ok (.aload_n 0, 1) := by decide +kernel
theorem dX7_begin_19 : decode cX7_begin 19 = .ok (.iconst 0, 1) := by decide +kernel
theorem dX7_begin_20 : decode cX7_begin 20 = .ok (.putfield 32, 3) := by decide +kernel
theorem dX7_begin_23 : decode cX7_begin 23 = .ok (.iconst 0, 1) := by decide +kernel
theorem dX7_begin_24 : decode cX7_begin 24 = .ok (.istore_n 2, 1) := by decide +kernel
theorem dX7_begin_25 : decode cX7_begin 25 = .ok (.iload_n 2, 1) := by decide +kernel
theorem dX7_begin_26 : decode cX7_begin 26 = .ok (.aload_n 1, 1) := by decide +kernel
theorem dX7_begin_27 : decode cX7_begin 27 = .ok (.getfield 35, 3) := by decide +kernel
theorem dX7_begin_30 : decode cX7_begin 30 = .ok (.if_icmp .ge 20, 3) := by decide +kernel
theorem dX7_begin_33 : decode cX7_begin 33 = .ok (.aload_n 0, 1) := by decide +kernel
theorem dX7_begin_34 : decode cX7_begin 34 = .ok (.getfield 11, 3) := by decide +kernel
theorem dX7_begin_37 : decode cX7_begin 37 = .ok (.iload_n 2, 1) := by decide +kernel
theorem dX7_begin_38 : decode cX7_begin 38 = .ok (.aaload, 1) := by decide +kernel
theorem dX7_begin_39 : decode cX7_begin 39 = .ok (.aload_n 1, 1) := by decide +kernel
theorem dX7_begin_40 : decode cX7_begin 40 = .ok (.iload_n 2, 1) := by decide +kernel
theorem dX7_begin_41 : decode cX7_begin 41 = .ok (.invokevirtual 37, 3) := by decide +kernel
theorem dX7_begin_44 : decode cX7_begin 44 = .ok (.iinc 2 1, 3) := by decide +kernel
theorem dX7_begin_47 : decode cX7_begin 47 = .ok (.goto (-22), 3) := by decide +kernel
theorem dX7_begin_50 : decode cX7_begin 50 = .ok (.return_, 1) := by decide +kernel
set_option maxRecDepth 100000 in
set_option maxHeartbeats 4000000 in
theorem mX7_begin {w : WX} {adr : Nat → Nat → Nat} (hj : Ij adr) {o1 : Nat} (ho1 : o1 < 2) (S : St) : ∀ (l : Launch) (r : Int32) (S2 : St), fX7_begin o1 S = some (r, S2) → Mv l w adr yX7_begin cX7_begin 3 none 1 23 [.ref (adr 9 0), .ref (adr 3 o1)] S S2 := by
  refine mv_of (lv := [(0, .ref (adr 9 0)), (1, .ref (adr 3 o1))]) hj (plainFor_of_name (by decide +kernel)) rfl (Nat.le_of_ble_eq_true rfl) (fun k C Rr => ?_)
  have C : Cx w adr k cX7_begin RX7 3 1 23 := C
  refine ge_aload_n (n := 1) C 0 rfl dX7_begin_0 rfl rfl ?_
  refine ge_aload_n (n := 2) C 1 rfl dX7_begin_1 rfl rfl ?_
  refine pt_X7_17 (n := 5) C (by decide) ho1 dX7_begin_2 rfl (fun S_2 => ?_)
  refine ge_aload_n (n := 6) C 0 rfl dX7_begin_5 rfl rfl ?_
  refine ge_iconst (v := 0) (n := 7) C dX7_begin_6 (by decide) rfl ?_
  refine pt_X7_22 (n := 10) C (by decide) dX7_begin_7 rfl (fun S_7 => ?_)
  refine ge_aload_n (n := 11) C 0 rfl dX7_begin_10 rfl rfl ?_
  refine ge_aload_n (n := 12) C 1 rfl dX7_begin_11 rfl rfl ?_
  refine gt_X7_26 (n := 15) C ho1 dX7_begin_12 rfl ?_
  refine pt_X7_31 (n := 18) C (by decide) dX7_begin_15 rfl (fun S_15 => ?_)
  refine ge_aload_n (n := 19) C 0 rfl dX7_begin_18 rfl rfl ?_
  refine ge_iconst (v := 0) (n := 20) C dX7_begin_19 (by decide) rfl ?_
  refine pt_X7_32 (n := 23) C (by decide) dX7_begin_20 rfl (fun S_20 => ?_)
  refine ge_iconst (v := 0) (n := 24) C dX7_begin_23 (by decide) rfl ?_
  refine ge_istore_n (n := 25) (lv2 := [(2, .int (0 : Int32)), (0, .ref (adr 9 0)), (1, .ref (adr 3 o1))]) C dX7_begin_24 rfl rfl (by decide) rfl ?_
  refine ge_jn (fun (jj : St → Op) => ∀ (S_50 : St), Ge w adr k 50 [] [] S_50 (jj S_50)) (fun S_50 => ?_) (fun kk25 hkk25 => ?_)
  · exact ge_vret C Rr dX7_begin_50
  refine ge_lop (fun (jj : Int32 → St → Op) => ∀ (x2_25 : Int32) (S_25 : St), Ge w adr k 25 [(2, .int x2_25), (0, .ref (adr 9 0)), (1, .ref (adr 3 o1))] [] S_25 (jj x2_25 S_25)) (fun _ _ => ge_none) (fun ag25 hag25 x2_25 S_25 => ?_) FU (0 : Int32) S_20
  refine ge_iload_n (n := 26) C 0 rfl dX7_begin_25 rfl rfl ?_
  refine ge_aload_n (n := 27) C 2 rfl dX7_begin_26 rfl rfl ?_
  refine gt_X7_35 (n := 30) C ho1 dX7_begin_27 rfl ?_
  refine ge_icmp_ge (t := 50) (n := 33) C dX7_begin_30 (by decide) rfl (fun h_30 => ?_) (fun h_30 => ?_)
  · refine ge_sub [] rfl ?_
    exact hkk25 S_25
  · refine ge_aload_n (n := 34) C 1 rfl dX7_begin_33 rfl rfl ?_
    refine gt_X7_11 (n := 37) C (by decide) dX7_begin_34 rfl ?_
    refine ge_iload_n (n := 38) C 0 rfl dX7_begin_37 rfl rfl ?_
    refine al_10 (n := 39) C (by decide) dX7_begin_38 rfl (fun h_38 => ?_)
    refine ge_aload_n (n := 40) C 2 rfl dX7_begin_39 rfl rfl ?_
    refine ge_iload_n (n := 41) C 0 rfl dX7_begin_40 rfl rfl ?_
    refine ge_callVv (n := 44) C (mX3_begin hj (o0 := (Int32.toNatClampNeg x2_25)) (bd_c h_38 (by decide)) (o1 := o1) ho1 x2_25 S_25) gv_X7_37 (cl_11 (bd_c h_38 (by decide))) rfl rfl hc_X3_begin ⟨Nat.le_of_ble_eq_true rfl, Nat.le_of_ble_eq_true rfl⟩ rfl rfl (Nat.le_of_ble_eq_true rfl) dX7_begin_41 rfl (fun _ S_41 => ?_)
    refine ge_iinc (n := 47) (v := (x2_25 + (1 : Int32))) (lv2 := [(2, .int (x2_25 + (1 : Int32))), (0, .ref (adr 9 0)), (1, .ref (adr 3 o1))]) C 0 rfl dX7_begin_44 rfl rfl (by decide) rfl ?_
    refine ge_goto (n := 25) C dX7_begin_47 (by decide) ?_
    exact hag25 (x2_25 + (1 : Int32)) S_41
theorem dX7_passMonth_0 : decode cX7_passMonth 0 = .ok (.iconst 0, 1) := by decide +kernel
theorem dX7_passMonth_1 : decode cX7_passMonth 1 = .ok (.istore_n 1, 1) := by decide +kernel
theorem dX7_passMonth_2 : decode cX7_passMonth 2 = .ok (.iload_n 1, 1) := by decide +kernel
theorem dX7_passMonth_3 : decode cX7_passMonth 3 = .ok (.aload_n 0, 1) := by decide +kernel
theorem dX7_passMonth_4 : decode cX7_passMonth 4 = .ok (.getfield 17, 3) := by decide +kernel
theorem dX7_passMonth_7 : decode cX7_passMonth 7 = .ok (.getfield 35, 3) := by decide +kernel
theorem dX7_passMonth_10 : decode cX7_passMonth 10 = .ok (.if_icmp .ge 39, 3) := by decide +kernel
theorem dX7_passMonth_13 : decode cX7_passMonth 13 = .ok (.aload_n 0, 1) := by decide +kernel
theorem dX7_passMonth_14 : decode cX7_passMonth 14 = .ok (.getfield 11, 3) := by decide +kernel
theorem dX7_passMonth_17 : decode cX7_passMonth 17 = .ok (.iload_n 1, 1) := by decide +kernel
theorem dX7_passMonth_18 : decode cX7_passMonth 18 = .ok (.aaload, 1) := by decide +kernel
theorem dX7_passMonth_19 : decode cX7_passMonth 19 = .ok (.getfield 41, 3) := by decide +kernel
theorem dX7_passMonth_22 : decode cX7_passMonth 22 = .ok (.iconst 1, 1) := by decide +kernel
theorem dX7_passMonth_23 : decode cX7_passMonth 23 = .ok (.if_icmp .ne 20, 3) := by decide +kernel
theorem dX7_passMonth_26 : decode cX7_passMonth 26 = .ok (.aload_n 0, 1) := by decide +kernel
theorem dX7_passMonth_27 : decode cX7_passMonth 27 = .ok (.getfield 11, 3) := by decide +kernel
theorem dX7_passMonth_30 : decode cX7_passMonth 30 = .ok (.iload_n 1, 1) := by decide +kernel
theorem dX7_passMonth_31 : decode cX7_passMonth 31 = .ok (.aaload, 1) := by decide +kernel
theorem dX7_passMonth_32 : decode cX7_passMonth 32 = .ok (.aload_n 0, 1) := by decide +kernel
theorem dX7_passMonth_33 : decode cX7_passMonth 33 = .ok (.getfield 31, 3) := by decide +kernel
theorem dX7_passMonth_36 : decode cX7_passMonth 36 = .ok (.aload_n 0, 1) := by decide +kernel
theorem dX7_passMonth_37 : decode cX7_passMonth 37 = .ok (.getfield 22, 3) := by decide +kernel
theorem dX7_passMonth_40 : decode cX7_passMonth 40 = .ok (.invokevirtual 44, 3) := by decide +kernel
theorem dX7_passMonth_43 : decode cX7_passMonth 43 = .ok (.iinc 1 1, 3) := by decide +kernel
theorem dX7_passMonth_46 : decode cX7_passMonth 46 = .ok (.goto (-44), 3) := by decide +kernel
theorem dX7_passMonth_49 : decode cX7_passMonth 49 = .ok (.aload_n 0, 1) := by decide +kernel
theorem dX7_passMonth_50 : decode cX7_passMonth 50 = .ok (.dup, 1) := by decide +kernel
theorem dX7_passMonth_51 : decode cX7_passMonth 51 = .ok (.getfield 22, 3) := by decide +kernel
theorem dX7_passMonth_54 : decode cX7_passMonth 54 = .ok (.iconst 1, 1) := by decide +kernel
theorem dX7_passMonth_55 : decode cX7_passMonth 55 = .ok (.iadd, 1) := by decide +kernel
theorem dX7_passMonth_56 : decode cX7_passMonth 56 = .ok (.putfield 22, 3) := by decide +kernel
theorem dX7_passMonth_59 : decode cX7_passMonth 59 = .ok (.return_, 1) := by decide +kernel
set_option maxRecDepth 100000 in
set_option maxHeartbeats 4000000 in
theorem mX7_passMonth {w : WX} {adr : Nat → Nat → Nat} (hj : Ij adr)  (S : St) : ∀ (l : Launch) (r : Int32) (S2 : St), fX7_passMonth S = some (r, S2) → Mv l w adr yX7_passMonth cX7_passMonth 2 none 4 88 [.ref (adr 9 0)] S S2 := by
  refine mv_of (lv := [(0, .ref (adr 9 0))]) hj (plainFor_of_name (by decide +kernel)) rfl (Nat.le_of_ble_eq_true rfl) (fun k C Rr => ?_)
  have C : Cx w adr k cX7_passMonth RX7 2 4 88 := C
  refine ge_iconst (v := 0) (n := 1) C dX7_passMonth_0 (by decide) rfl ?_
  refine ge_istore_n (n := 2) (lv2 := [(1, .int (0 : Int32)), (0, .ref (adr 9 0))]) C dX7_passMonth_1 rfl rfl (by decide) rfl ?_
  refine ge_jn (fun (jj : St → Op) => ∀ (S_49 : St), Ge w adr k 49 [(0, .ref (adr 9 0))] [] S_49 (jj S_49)) (fun S_49 => ?_) (fun kk2 hkk2 => ?_)
  · refine ge_aload_n (n := 50) C 0 rfl dX7_passMonth_49 rfl rfl ?_
    refine ge_dup (n := 51) C dX7_passMonth_50 rfl rfl ?_
    refine gt_X7_22 (n := 54) C (by decide) dX7_passMonth_51 rfl ?_
    refine ge_iconst (v := 1) (n := 55) C dX7_passMonth_54 (by decide) rfl ?_
    refine ge_iadd (n := 56) C dX7_passMonth_55 rfl ?_
    refine pt_X7_22 (n := 59) C (by decide) dX7_passMonth_56 rfl (fun S_56 => ?_)
    exact ge_vret C Rr dX7_passMonth_59
  refine ge_lop (fun (jj : Int32 → St → Op) => ∀ (x1_2 : Int32) (S_2 : St), Ge w adr k 2 [(1, .int x1_2), (0, .ref (adr 9 0))] [] S_2 (jj x1_2 S_2)) (fun _ _ => ge_none) (fun ag2 hag2 x1_2 S_2 => ?_) FU (0 : Int32) S
  refine ge_iload_n (n := 3) C 0 rfl dX7_passMonth_2 rfl rfl ?_
  refine ge_aload_n (n := 4) C 1 rfl dX7_passMonth_3 rfl rfl ?_
  refine gt_X7_17 (n := 7) C (by decide) dX7_passMonth_4 rfl ?_
  refine gt_X7_35 (n := 10) C (pid_lt _) dX7_passMonth_7 rfl ?_
  refine ge_icmp_ge (t := 49) (n := 13) C dX7_passMonth_10 (by decide) rfl (fun h_10 => ?_) (fun h_10 => ?_)
  · refine ge_sub [1] rfl ?_
    exact hkk2 S_2
  · refine ge_aload_n (n := 14) C 1 rfl dX7_passMonth_13 rfl rfl ?_
    refine gt_X7_11 (n := 17) C (by decide) dX7_passMonth_14 rfl ?_
    refine ge_iload_n (n := 18) C 0 rfl dX7_passMonth_17 rfl rfl ?_
    refine al_10 (n := 19) C (by decide) dX7_passMonth_18 rfl (fun h_18 => ?_)
    refine gt_X7_41 (n := 22) C (bd_c h_18 (by decide)) dX7_passMonth_19 rfl ?_
    refine ge_iconst (v := 1) (n := 23) C dX7_passMonth_22 (by decide) rfl ?_
    refine ge_icmp_ne (t := 43) (n := 26) C dX7_passMonth_23 (by decide) rfl (fun h_23 => ?_) (fun h_23 => ?_)
    · refine ge_iinc (n := 46) (v := (x1_2 + (1 : Int32))) (lv2 := [(1, .int (x1_2 + (1 : Int32))), (0, .ref (adr 9 0))]) C 0 rfl dX7_passMonth_43 rfl rfl (by decide) rfl ?_
      refine ge_goto (n := 2) C dX7_passMonth_46 (by decide) ?_
      exact hag2 (x1_2 + (1 : Int32)) S_2
    · refine ge_aload_n (n := 27) C 1 rfl dX7_passMonth_26 rfl rfl ?_
      refine gt_X7_11 (n := 30) C (by decide) dX7_passMonth_27 rfl ?_
      refine ge_iload_n (n := 31) C 0 rfl dX7_passMonth_30 rfl rfl ?_
      refine al_10 (n := 32) C (by decide) dX7_passMonth_31 rfl (fun h_31 => ?_)
      refine ge_aload_n (n := 33) C 1 rfl dX7_passMonth_32 rfl rfl ?_
      refine gt_X7_31 (n := 36) C (by decide) dX7_passMonth_33 rfl ?_
      refine ge_aload_n (n := 37) C 1 rfl dX7_passMonth_36 rfl rfl ?_
      refine gt_X7_22 (n := 40) C (by decide) dX7_passMonth_37 rfl ?_
      refine ge_callVv (n := 43) C (mX3_tan hj (o0 := (Int32.toNatClampNeg x1_2)) (bd_c h_31 (by decide)) (S_2 9 0 2) (S_2 9 0 1) S_2) gv_X7_44 (cl_11 (bd_c h_31 (by decide))) rfl rfl hc_X3_tan ⟨Nat.le_of_ble_eq_true rfl, Nat.le_of_ble_eq_true rfl⟩ rfl rfl (Nat.le_of_ble_eq_true rfl) dX7_passMonth_40 rfl (fun _ S_40 => ?_)
      refine ge_iinc (n := 46) (v := (x1_2 + (1 : Int32))) (lv2 := [(1, .int (x1_2 + (1 : Int32))), (0, .ref (adr 9 0))]) C 0 rfl dX7_passMonth_43 rfl rfl (by decide) rfl ?_
      refine ge_goto (n := 2) C dX7_passMonth_46 (by decide) ?_
      exact hag2 (x1_2 + (1 : Int32)) S_40
theorem dX7_setInside_0 : decode cX7_setInside 0 = .ok (.iconst 0, 1) := by decide +kernel
theorem dX7_setInside_1 : decode cX7_setInside 1 = .ok (.istore_n 1, 1) := by decide +kernel
theorem dX7_setInside_2 : decode cX7_setInside 2 = .ok (.iconst 0, 1) := by decide +kernel
theorem dX7_setInside_3 : decode cX7_setInside 3 = .ok (.istore_n 2, 1) := by decide +kernel
theorem dX7_setInside_4 : decode cX7_setInside 4 = .ok (.iload_n 2, 1) := by decide +kernel
theorem dX7_setInside_5 : decode cX7_setInside 5 = .ok (.aload_n 0, 1) := by decide +kernel
theorem dX7_setInside_6 : decode cX7_setInside 6 = .ok (.getfield 17, 3) := by decide +kernel
theorem dX7_setInside_9 : decode cX7_setInside 9 = .ok (.getfield 35, 3) := by decide +kernel
theorem dX7_setInside_12 : decode cX7_setInside 12 = .ok (.if_icmp .ge 23, 3) := by decide +kernel
theorem dX7_setInside_15 : decode cX7_setInside 15 = .ok (.iload_n 1, 1) := by decide +kernel
theorem dX7_setInside_16 : decode cX7_setInside 16 = .ok (.aload_n 0, 1) := by decide +kernel
theorem dX7_setInside_17 : decode cX7_setInside 17 = .ok (.getfield 11, 3) := by decide +kernel
theorem dX7_setInside_20 : decode cX7_setInside 20 = .ok (.iload_n 2, 1) := by decide +kernel
theorem dX7_setInside_21 : decode cX7_setInside 21 = .ok (.aaload, 1) := by decide +kernel
theorem dX7_setInside_22 : decode cX7_setInside 22 = .ok (.getfield 41, 3) := by decide +kernel
theorem dX7_setInside_25 : decode cX7_setInside 25 = .ok (.iload_n 2, 1) := by decide +kernel
theorem dX7_setInside_26 : decode cX7_setInside 26 = .ok (.ishl, 1) := by decide +kernel
theorem dX7_setInside_27 : decode cX7_setInside 27 = .ok (.ior, 1) := by decide +kernel
theorem dX7_setInside_28 : decode cX7_setInside 28 = .ok (.istore_n 1, 1) := by decide +kernel
theorem dX7_setInside_29 : decode cX7_setInside 29 = .ok (.iinc 2 1, 3) := by decide +kernel
theorem dX7_setInside_32 : decode cX7_setInside 32 = .ok (.goto (-28), 3) := by decide +kernel
theorem dX7_setInside_35 : decode cX7_setInside 35 = .ok (.iload_n 1, 1) := by decide +kernel
theorem dX7_setInside_36 : decode cX7_setInside 36 = .ok (.ireturn, 1) := by decide +kernel
set_option maxRecDepth 100000 in
set_option maxHeartbeats 4000000 in
theorem mX7_setInside {w : WX} {adr : Nat → Nat → Nat} (hj : Ij adr)  (S : St) : ∀ (l : Launch) (r : Int32) (S2 : St), fX7_setInside S = some (r, S2) → Mi l w adr yX7_setInside cX7_setInside 3 (some .int) 0 0 [.ref (adr 9 0)] S r S2 := by
  refine mi_of (lv := [(0, .ref (adr 9 0))]) hj (plainFor_of_name (by decide +kernel)) rfl (Nat.le_of_ble_eq_true rfl) (fun k C Rr => ?_)
  have C : Cx w adr k cX7_setInside RX7 3 0 0 := C
  refine ge_iconst (v := 0) (n := 1) C dX7_setInside_0 (by decide) rfl ?_
  refine ge_istore_n (n := 2) (lv2 := [(1, .int (0 : Int32)), (0, .ref (adr 9 0))]) C dX7_setInside_1 rfl rfl (by decide) rfl ?_
  refine ge_iconst (v := 0) (n := 3) C dX7_setInside_2 (by decide) rfl ?_
  refine ge_istore_n (n := 4) (lv2 := [(2, .int (0 : Int32)), (1, .int (0 : Int32)), (0, .ref (adr 9 0))]) C dX7_setInside_3 rfl rfl (by decide) rfl ?_
  refine ge_jn (fun (jj : Int32 → Op) => ∀ (x1_35 : Int32), Ge w adr k 35 [(1, .int x1_35)] [] S (jj x1_35)) (fun x1_35 => ?_) (fun kk4 hkk4 => ?_)
  · refine ge_iload_n (n := 36) C 0 rfl dX7_setInside_35 rfl rfl ?_
    exact ge_iret C Rr dX7_setInside_36
  refine ge_lop (fun (jj : Int32 → Int32 → Op) => ∀ (x2_4 : Int32) (x1_4 : Int32), Ge w adr k 4 [(2, .int x2_4), (1, .int x1_4), (0, .ref (adr 9 0))] [] S (jj x2_4 x1_4)) (fun _ _ => ge_none) (fun ag4 hag4 x2_4 x1_4 => ?_) FU (0 : Int32) (0 : Int32)
  refine ge_iload_n (n := 5) C 0 rfl dX7_setInside_4 rfl rfl ?_
  refine ge_aload_n (n := 6) C 2 rfl dX7_setInside_5 rfl rfl ?_
  refine gt_X7_17 (n := 9) C (by decide) dX7_setInside_6 rfl ?_
  refine gt_X7_35 (n := 12) C (pid_lt _) dX7_setInside_9 rfl ?_
  refine ge_icmp_ge (t := 35) (n := 15) C dX7_setInside_12 (by decide) rfl (fun h_12 => ?_) (fun h_12 => ?_)
  · refine ge_sub [1] rfl ?_
    exact hkk4 x1_4
  · refine ge_iload_n (n := 16) C 1 rfl dX7_setInside_15 rfl rfl ?_
    refine ge_aload_n (n := 17) C 2 rfl dX7_setInside_16 rfl rfl ?_
    refine gt_X7_11 (n := 20) C (by decide) dX7_setInside_17 rfl ?_
    refine ge_iload_n (n := 21) C 0 rfl dX7_setInside_20 rfl rfl ?_
    refine al_10 (n := 22) C (by decide) dX7_setInside_21 rfl (fun h_21 => ?_)
    refine gt_X7_41 (n := 25) C (bd_c h_21 (by decide)) dX7_setInside_22 rfl ?_
    refine ge_iload_n (n := 26) C 0 rfl dX7_setInside_25 rfl rfl ?_
    refine ge_ishl (n := 27) C dX7_setInside_26 rfl ?_
    refine ge_ior (n := 28) C dX7_setInside_27 rfl ?_
    refine ge_bi (fun x1_28 => ?_)
    refine ge_istore_n (n := 29) (lv2 := [(1, .int x1_28), (2, .int x2_4), (0, .ref (adr 9 0))]) C dX7_setInside_28 rfl rfl (by decide) rfl ?_
    refine ge_iinc (n := 32) (v := (x2_4 + (1 : Int32))) (lv2 := [(2, .int (x2_4 + (1 : Int32))), (1, .int x1_28), (0, .ref (adr 9 0))]) C 1 rfl dX7_setInside_29 rfl rfl (by decide) rfl ?_
    refine ge_goto (n := 4) C dX7_setInside_32 (by decide) ?_
    exact hag4 (x2_4 + (1 : Int32)) x1_28
theorem dX7_freePits_0 : decode cX7_freePits 0 = .ok (.aload_n 0, 1) := by decide +kernel
theorem dX7_freePits_1 : decode cX7_freePits 1 = .ok (.getfield 17, 3) := by decide +kernel
theorem dX7_freePits_4 : decode cX7_freePits 4 = .ok (.getfield 48, 3) := by decide +kernel
theorem dX7_freePits_7 : decode cX7_freePits 7 = .ok (.aload_n 0, 1) := by decide +kernel
theorem dX7_freePits_8 : decode cX7_freePits 8 = .ok (.invokevirtual 51, 3) := by decide +kernel
theorem dX7_freePits_11 : decode cX7_freePits 11 = .ok (.invokestatic 55, 3) := by decide +kernel
theorem dX7_freePits_14 : decode cX7_freePits 14 = .ok (.isub, 1) := by decide +kernel
theorem dX7_freePits_15 : decode cX7_freePits 15 = .ok (.ireturn, 1) := by decide +kernel
set_option maxRecDepth 100000 in
set_option maxHeartbeats 4000000 in
theorem mX7_freePits {w : WX} {adr : Nat → Nat → Nat} (hj : Ij adr)  (S : St) : ∀ (l : Launch) (r : Int32) (S2 : St), fX7_freePits S = some (r, S2) → Mi l w adr yX7_freePits cX7_freePits 1 (some .int) 1 22 [.ref (adr 9 0)] S r S2 := by
  refine mi_of (lv := [(0, .ref (adr 9 0))]) hj (plainFor_of_name (by decide +kernel)) rfl (Nat.le_of_ble_eq_true rfl) (fun k C Rr => ?_)
  have C : Cx w adr k cX7_freePits RX7 1 1 22 := C
  refine ge_aload_n (n := 1) C 0 rfl dX7_freePits_0 rfl rfl ?_
  refine gt_X7_17 (n := 4) C (by decide) dX7_freePits_1 rfl ?_
  refine gt_X7_48 (n := 7) C (pid_lt _) dX7_freePits_4 rfl ?_
  refine ge_aload_n (n := 8) C 0 rfl dX7_freePits_7 rfl rfl ?_
  refine ge_callVi (n := 11) C (mX7_setInside hj S) gv_X7_51 (cl_9 (by decide)) rfl rfl hc_X7_setInside ⟨Nat.le_of_ble_eq_true rfl, Nat.le_of_ble_eq_true rfl⟩ rfl rfl (Nat.le_of_ble_eq_true rfl) dX7_freePits_8 rfl (fun r_8 S_8 => ?_)
  refine ge_callSi (n := 14) C (mJ6_bitCount_0f7a4 hj r_8 S_8) gv_X7_55 hc_J6_bitCount_0f7a4 ⟨Nat.le_of_ble_eq_true rfl, Nat.le_of_ble_eq_true rfl⟩ rfl rfl (Nat.le_of_ble_eq_true rfl) dX7_freePits_11 rfl (fun r_11 S_11 => ?_)
  refine ge_isub (n := 15) C dX7_freePits_14 rfl ?_
  exact ge_iret C Rr dX7_freePits_15
theorem dX7_allWounds_0 : decode cX7_allWounds 0 = .ok (.iconst 0, 1) := by decide +kernel
theorem dX7_allWounds_1 : decode cX7_allWounds 1 = .ok (.istore_n 1, 1) := by decide +kernel
theorem dX7_allWounds_2 : decode cX7_allWounds 2 = .ok (.iconst 0, 1) := by decide +kernel
theorem dX7_allWounds_3 : decode cX7_allWounds 3 = .ok (.istore_n 2, 1) := by decide +kernel
theorem dX7_allWounds_4 : decode cX7_allWounds 4 = .ok (.iload_n 2, 1) := by decide +kernel
theorem dX7_allWounds_5 : decode cX7_allWounds 5 = .ok (.aload_n 0, 1) := by decide +kernel
theorem dX7_allWounds_6 : decode cX7_allWounds 6 = .ok (.getfield 17, 3) := by decide +kernel
theorem dX7_allWounds_9 : decode cX7_allWounds 9 = .ok (.getfield 35, 3) := by decide +kernel
theorem dX7_allWounds_12 : decode cX7_allWounds 12 = .ok (.if_icmp .ge 21, 3) := by decide +kernel
theorem dX7_allWounds_15 : decode cX7_allWounds 15 = .ok (.iload_n 1, 1) := by decide +kernel
theorem dX7_allWounds_16 : decode cX7_allWounds 16 = .ok (.aload_n 0, 1) := by decide +kernel
theorem dX7_allWounds_17 : decode cX7_allWounds 17 = .ok (.getfield 11, 3) := by decide +kernel
theorem dX7_allWounds_20 : decode cX7_allWounds 20 = .ok (.iload_n 2, 1) := by decide +kernel
theorem dX7_allWounds_21 : decode cX7_allWounds 21 = .ok (.aaload, 1) := by decide +kernel
theorem dX7_allWounds_22 : decode cX7_allWounds 22 = .ok (.getfield 61, 3) := by decide +kernel
theorem dX7_allWounds_25 : decode cX7_allWounds 25 = .ok (.iadd, 1) := by decide +kernel
theorem dX7_allWounds_26 : decode cX7_allWounds 26 = .ok (.istore_n 1, 1) := by decide +kernel
theorem dX7_allWounds_27 : decode cX7_allWounds 27 = .ok (.iinc 2 1, 3) := by decide +kernel
theorem dX7_allWounds_30 : decode cX7_allWounds 30 = .ok (.goto (-26), 3) := by decide +kernel
theorem dX7_allWounds_33 : decode cX7_allWounds 33 = .ok (.iload_n 1, 1) := by decide +kernel
theorem dX7_allWounds_34 : decode cX7_allWounds 34 = .ok (.ireturn, 1) := by decide +kernel
set_option maxRecDepth 100000 in
set_option maxHeartbeats 4000000 in
theorem mX7_allWounds {w : WX} {adr : Nat → Nat → Nat} (hj : Ij adr)  (S : St) : ∀ (l : Launch) (r : Int32) (S2 : St), fX7_allWounds S = some (r, S2) → Mi l w adr yX7_allWounds cX7_allWounds 3 (some .int) 0 0 [.ref (adr 9 0)] S r S2 := by
  refine mi_of (lv := [(0, .ref (adr 9 0))]) hj (plainFor_of_name (by decide +kernel)) rfl (Nat.le_of_ble_eq_true rfl) (fun k C Rr => ?_)
  have C : Cx w adr k cX7_allWounds RX7 3 0 0 := C
  refine ge_iconst (v := 0) (n := 1) C dX7_allWounds_0 (by decide) rfl ?_
  refine ge_istore_n (n := 2) (lv2 := [(1, .int (0 : Int32)), (0, .ref (adr 9 0))]) C dX7_allWounds_1 rfl rfl (by decide) rfl ?_
  refine ge_iconst (v := 0) (n := 3) C dX7_allWounds_2 (by decide) rfl ?_
  refine ge_istore_n (n := 4) (lv2 := [(2, .int (0 : Int32)), (1, .int (0 : Int32)), (0, .ref (adr 9 0))]) C dX7_allWounds_3 rfl rfl (by decide) rfl ?_
  refine ge_jn (fun (jj : Int32 → Op) => ∀ (x1_33 : Int32), Ge w adr k 33 [(1, .int x1_33)] [] S (jj x1_33)) (fun x1_33 => ?_) (fun kk4 hkk4 => ?_)
  · refine ge_iload_n (n := 34) C 0 rfl dX7_allWounds_33 rfl rfl ?_
    exact ge_iret C Rr dX7_allWounds_34
  refine ge_lop (fun (jj : Int32 → Int32 → Op) => ∀ (x2_4 : Int32) (x1_4 : Int32), Ge w adr k 4 [(2, .int x2_4), (1, .int x1_4), (0, .ref (adr 9 0))] [] S (jj x2_4 x1_4)) (fun _ _ => ge_none) (fun ag4 hag4 x2_4 x1_4 => ?_) FU (0 : Int32) (0 : Int32)
  refine ge_iload_n (n := 5) C 0 rfl dX7_allWounds_4 rfl rfl ?_
  refine ge_aload_n (n := 6) C 2 rfl dX7_allWounds_5 rfl rfl ?_
  refine gt_X7_17 (n := 9) C (by decide) dX7_allWounds_6 rfl ?_
  refine gt_X7_35 (n := 12) C (pid_lt _) dX7_allWounds_9 rfl ?_
  refine ge_icmp_ge (t := 33) (n := 15) C dX7_allWounds_12 (by decide) rfl (fun h_12 => ?_) (fun h_12 => ?_)
  · refine ge_sub [1] rfl ?_
    exact hkk4 x1_4
  · refine ge_iload_n (n := 16) C 1 rfl dX7_allWounds_15 rfl rfl ?_
    refine ge_aload_n (n := 17) C 2 rfl dX7_allWounds_16 rfl rfl ?_
    refine gt_X7_11 (n := 20) C (by decide) dX7_allWounds_17 rfl ?_
    refine ge_iload_n (n := 21) C 0 rfl dX7_allWounds_20 rfl rfl ?_
    refine al_10 (n := 22) C (by decide) dX7_allWounds_21 rfl (fun h_21 => ?_)
    refine gt_X7_61 (n := 25) C (bd_c h_21 (by decide)) dX7_allWounds_22 rfl ?_
    refine ge_iadd (n := 26) C dX7_allWounds_25 rfl ?_
    refine ge_bi (fun x1_26 => ?_)
    refine ge_istore_n (n := 27) (lv2 := [(1, .int x1_26), (2, .int x2_4), (0, .ref (adr 9 0))]) C dX7_allWounds_26 rfl rfl (by decide) rfl ?_
    refine ge_iinc (n := 30) (v := (x2_4 + (1 : Int32))) (lv2 := [(2, .int (x2_4 + (1 : Int32))), (1, .int x1_26), (0, .ref (adr 9 0))]) C 1 rfl dX7_allWounds_27 rfl rfl (by decide) rfl ?_
    refine ge_goto (n := 4) C dX7_allWounds_30 (by decide) ?_
    exact hag4 (x2_4 + (1 : Int32)) x1_26
theorem dX7_scrapeOff_0 : decode cX7_scrapeOff 0 = .ok (.aload_n 0, 1) := by decide +kernel
theorem dX7_scrapeOff_1 : decode cX7_scrapeOff 1 = .ok (.getfield 11, 3) := by decide +kernel
theorem dX7_scrapeOff_4 : decode cX7_scrapeOff 4 = .ok (.iload_n 1, 1) := by decide +kernel
theorem dX7_scrapeOff_5 : decode cX7_scrapeOff 5 = .ok (.aaload, 1) := by decide +kernel
theorem dX7_scrapeOff_6 : decode cX7_scrapeOff 6 = .ok (.getfield 64, 3) := by decide +kernel
theorem dX7_scrapeOff_9 : decode cX7_scrapeOff 9 = .ok (.iload_n 2, 1) := by decide +kernel
theorem dX7_scrapeOff_10 : decode cX7_scrapeOff 10 = .ok (.dup2, 1) := by decide +kernel
theorem dX7_scrapeOff_11 : decode cX7_scrapeOff 11 = .ok (.iaload, 1) := by decide +kernel
theorem dX7_scrapeOff_12 : decode cX7_scrapeOff 12 = .ok (.iload_n 3, 1) := by decide +kernel
theorem dX7_scrapeOff_13 : decode cX7_scrapeOff 13 = .ok (.isub, 1) := by decide +kernel
theorem dX7_scrapeOff_14 : decode cX7_scrapeOff 14 = .ok (.iastore, 1) := by decide +kernel
theorem dX7_scrapeOff_15 : decode cX7_scrapeOff 15 = .ok (.aload_n 0, 1) := by decide +kernel
theorem dX7_scrapeOff_16 : decode cX7_scrapeOff 16 = .ok (.ldc 68, 2) := by decide +kernel
theorem dX7_scrapeOff_18 : decode cX7_scrapeOff 18 = .ok (.aload_n 0, 1) := by decide +kernel
theorem dX7_scrapeOff_19 : decode cX7_scrapeOff 19 = .ok (.getfield 32, 3) := by decide +kernel
theorem dX7_scrapeOff_22 : decode cX7_scrapeOff 22 = .ok (.iload_n 3, 1) := by decide +kernel
theorem dX7_scrapeOff_23 : decode cX7_scrapeOff 23 = .ok (.iadd, 1) := by decide +kernel
theorem dX7_scrapeOff_24 : decode cX7_scrapeOff 24 = .ok (.invokestatic 69, 3) := by decide +kernel
theorem dX7_scrapeOff_27 : decode cX7_scrapeOff 27 = .ok (.putfield 32, 3) := by decide +kernel
theorem dX7_scrapeOff_30 : decode cX7_scrapeOff 30 = .ok (.return_, 1) := by decide +kernel
set_option maxRecDepth 100000 in
set_option maxHeartbeats 4000000 in
theorem mX7_scrapeOff {w : WX} {adr : Nat → Nat → Nat} (hj : Ij adr) (a1 : Int32) (a2 : Int32) (a3 : Int32) (S : St) : ∀ (l : Launch) (r : Int32) (S2 : St), fX7_scrapeOff a1 a2 a3 S = some (r, S2) → Mv l w adr yX7_scrapeOff cX7_scrapeOff 4 none 1 21 [.ref (adr 9 0), .int a1, .int a2, .int a3] S S2 := by
  refine mv_of (lv := [(0, .ref (adr 9 0)), (1, .int a1), (2, .int a2), (3, .int a3)]) hj (plainFor_of_name (by decide +kernel)) rfl (Nat.le_of_ble_eq_true rfl) (fun k C Rr => ?_)
  have C : Cx w adr k cX7_scrapeOff RX7 4 1 21 := C
  refine ge_aload_n (n := 1) C 0 rfl dX7_scrapeOff_0 rfl rfl ?_
  refine gt_X7_11 (n := 4) C (by decide) dX7_scrapeOff_1 rfl ?_
  refine ge_iload_n (n := 5) C 1 rfl dX7_scrapeOff_4 rfl rfl ?_
  refine al_10 (n := 6) C (by decide) dX7_scrapeOff_5 rfl (fun h_5 => ?_)
  refine gt_X7_64 (n := 9) C (bd_c h_5 (by decide)) dX7_scrapeOff_6 rfl ?_
  refine ge_iload_n (n := 10) C 2 rfl dX7_scrapeOff_9 rfl rfl ?_
  refine ge_dup2 (n := 11) C dX7_scrapeOff_10 rfl rfl rfl ?_
  refine al_12 (n := 12) C (bd_c h_5 (by decide)) dX7_scrapeOff_11 rfl ?_
  refine ge_iload_n (n := 13) C 3 rfl dX7_scrapeOff_12 rfl rfl ?_
  refine ge_isub (n := 14) C dX7_scrapeOff_13 rfl ?_
  refine as_12 (n := 15) C (bd_c h_5 (by decide)) dX7_scrapeOff_14 rfl (fun S_14 => ?_)
  refine ge_aload_n (n := 16) C 0 rfl dX7_scrapeOff_15 rfl rfl ?_
  refine ge_ldc (n := 18) C kc_X7_68 dX7_scrapeOff_16 rfl ?_
  refine ge_aload_n (n := 19) C 0 rfl dX7_scrapeOff_18 rfl rfl ?_
  refine gt_X7_32 (n := 22) C (by decide) dX7_scrapeOff_19 rfl ?_
  refine ge_iload_n (n := 23) C 3 rfl dX7_scrapeOff_22 rfl rfl ?_
  refine ge_iadd (n := 24) C dX7_scrapeOff_23 rfl ?_
  refine ge_mmin (n := 27) C ml_X7_69 (by decide) (Nat.le_of_ble_eq_true rfl) dX7_scrapeOff_24 rfl ?_
  refine pt_X7_32 (n := 30) C (by decide) dX7_scrapeOff_27 rfl (fun S_27 => ?_)
  exact ge_vret C Rr dX7_scrapeOff_30
theorem dX7_wound_0 : decode cX7_wound 0 = .ok (.aload_n 0, 1) := by decide +kernel
theorem dX7_wound_1 : decode cX7_wound 1 = .ok (.getfield 11, 3) := by decide +kernel
theorem dX7_wound_4 : decode cX7_wound 4 = .ok (.iload_n 1, 1) := by decide +kernel
theorem dX7_wound_5 : decode cX7_wound 5 = .ok (.aaload, 1) := by decide +kernel
theorem dX7_wound_6 : decode cX7_wound 6 = .ok (.ldc 75, 2) := by decide +kernel
theorem dX7_wound_8 : decode cX7_wound 8 = .ok (.aload_n 0, 1) := by decide +kernel
theorem dX7_wound_9 : decode cX7_wound 9 = .ok (.getfield 11, 3) := by decide +kernel
theorem dX7_wound_12 : decode cX7_wound 12 = .ok (.iload_n 1, 1) := by decide +kernel
theorem dX7_wound_13 : decode cX7_wound 13 = .ok (.aaload, 1) := by decide +kernel
theorem dX7_wound_14 : decode cX7_wound 14 = .ok (.getfield 61, 3) := by decide +kernel
theorem dX7_wound_17 : decode cX7_wound 17 = .ok (.aload_n 0, 1) := by decide +kernel
theorem dX7_wound_18 : decode cX7_wound 18 = .ok (.getfield 17, 3) := by decide +kernel
theorem dX7_wound_21 : decode cX7_wound 21 = .ok (.aload_n 0, 1) := by decide +kernel
theorem dX7_wound_22 : decode cX7_wound 22 = .ok (.getfield 11, 3) := by decide +kernel
theorem dX7_wound_25 : decode cX7_wound 25 = .ok (.iload_n 1, 1) := by decide +kernel
theorem dX7_wound_26 : decode cX7_wound 26 = .ok (.aaload, 1) := by decide +kernel
theorem dX7_wound_27 : decode cX7_wound 27 = .ok (.iload_n 2, 1) := by decide +kernel
theorem dX7_wound_28 : decode cX7_wound 28 = .ok (.invokevirtual 76, 3) := by decide +kernel
theorem dX7_wound_31 : decode cX7_wound 31 = .ok (.iadd, 1) := by decide +kernel
theorem dX7_wound_32 : decode cX7_wound 32 = .ok (.invokestatic 69, 3) := by decide +kernel
theorem dX7_wound_35 : decode cX7_wound 35 = .ok (.putfield 61, 3) := by decide +kernel
theorem dX7_wound_38 : decode cX7_wound 38 = .ok (.return_, 1) := by decide +kernel
set_option maxRecDepth 100000 in
set_option maxHeartbeats 4000000 in
theorem mX7_wound {w : WX} {adr : Nat → Nat → Nat} (hj : Ij adr) (a1 : Int32) (a2 : Int32) (S : St) : ∀ (l : Launch) (r : Int32) (S2 : St), fX7_wound a1 a2 S = some (r, S2) → Mv l w adr yX7_wound cX7_wound 3 none 2 44 [.ref (adr 9 0), .int a1, .int a2] S S2 := by
  refine mv_of (lv := [(0, .ref (adr 9 0)), (1, .int a1), (2, .int a2)]) hj (plainFor_of_name (by decide +kernel)) rfl (Nat.le_of_ble_eq_true rfl) (fun k C Rr => ?_)
  have C : Cx w adr k cX7_wound RX7 3 2 44 := C
  refine ge_aload_n (n := 1) C 0 rfl dX7_wound_0 rfl rfl ?_
  refine gt_X7_11 (n := 4) C (by decide) dX7_wound_1 rfl ?_
  refine ge_iload_n (n := 5) C 1 rfl dX7_wound_4 rfl rfl ?_
  refine al_10 (n := 6) C (by decide) dX7_wound_5 rfl (fun h_5 => ?_)
  refine ge_ldc (n := 8) C kc_X7_75 dX7_wound_6 rfl ?_
  refine ge_aload_n (n := 9) C 0 rfl dX7_wound_8 rfl rfl ?_
  refine gt_X7_11 (n := 12) C (by decide) dX7_wound_9 rfl ?_
  refine ge_iload_n (n := 13) C 1 rfl dX7_wound_12 rfl rfl ?_
  refine al_10 (n := 14) C (by decide) dX7_wound_13 rfl (fun h_13 => ?_)
  refine gt_X7_61 (n := 17) C (bd_c h_13 (by decide)) dX7_wound_14 rfl ?_
  refine ge_aload_n (n := 18) C 0 rfl dX7_wound_17 rfl rfl ?_
  refine gt_X7_17 (n := 21) C (by decide) dX7_wound_18 rfl ?_
  refine ge_aload_n (n := 22) C 0 rfl dX7_wound_21 rfl rfl ?_
  refine gt_X7_11 (n := 25) C (by decide) dX7_wound_22 rfl ?_
  refine ge_iload_n (n := 26) C 1 rfl dX7_wound_25 rfl rfl ?_
  refine al_10 (n := 27) C (by decide) dX7_wound_26 rfl (fun h_26 => ?_)
  refine ge_iload_n (n := 28) C 2 rfl dX7_wound_27 rfl rfl ?_
  refine ge_callVi (n := 31) C (mX6_pain hj (o0 := (pid (S 9 0 0))) (pid_lt _) (o1 := (Int32.toNatClampNeg a1)) (bd_c h_26 (by decide)) a2 S) gv_X7_76 (cl_3 (pid_lt _)) rfl rfl hc_X6_pain ⟨Nat.le_of_ble_eq_true rfl, Nat.le_of_ble_eq_true rfl⟩ rfl rfl (Nat.le_of_ble_eq_true rfl) dX7_wound_28 rfl (fun r_28 S_28 => ?_)
  refine ge_iadd (n := 32) C dX7_wound_31 rfl ?_
  refine ge_mmin (n := 35) C ml_X7_69 (by decide) (Nat.le_of_ble_eq_true rfl) dX7_wound_32 rfl ?_
  refine pt_X7_61 (n := 38) C (bd_c h_5 (by decide)) dX7_wound_35 rfl (fun S_35 => ?_)
  exact ge_vret C Rr dX7_wound_38
theorem dX7_scrapeIfSoft_0 : decode cX7_scrapeIfSoft 0 = .ok (.aload_n 0, 1) := by decide +kernel
theorem dX7_scrapeIfSoft_1 : decode cX7_scrapeIfSoft 1 = .ok (.getfield 11, 3) := by decide +kernel
theorem dX7_scrapeIfSoft_4 : decode cX7_scrapeIfSoft 4 = .ok (.iload_n 1, 1) := by decide +kernel
theorem dX7_scrapeIfSoft_5 : decode cX7_scrapeIfSoft 5 = .ok (.aaload, 1) := by decide +kernel
theorem dX7_scrapeIfSoft_6 : decode cX7_scrapeIfSoft 6 = .ok (.getfield 64, 3) := by decide +kernel
theorem dX7_scrapeIfSoft_9 : decode cX7_scrapeIfSoft 9 = .ok (.iload_n 2, 1) := by decide +kernel
theorem dX7_scrapeIfSoft_10 : decode cX7_scrapeIfSoft 10 = .ok (.iaload, 1) := by decide +kernel
theorem dX7_scrapeIfSoft_11 : decode cX7_scrapeIfSoft 11 = .ok (.ifCond .le 10, 3) := by decide +kernel
theorem dX7_scrapeIfSoft_14 : decode cX7_scrapeIfSoft 14 = .ok (.aload_n 0, 1) := by decide +kernel
theorem dX7_scrapeIfSoft_15 : decode cX7_scrapeIfSoft 15 = .ok (.iload_n 1, 1) := by decide +kernel
theorem dX7_scrapeIfSoft_16 : decode cX7_scrapeIfSoft 16 = .ok (.iload_n 2, 1) := by decide +kernel
theorem dX7_scrapeIfSoft_17 : decode cX7_scrapeIfSoft 17 = .ok (.iconst 1, 1) := by decide +kernel
theorem dX7_scrapeIfSoft_18 : decode cX7_scrapeIfSoft 18 = .ok (.invokevirtual 97, 3) := by decide +kernel
theorem dX7_scrapeIfSoft_21 : decode cX7_scrapeIfSoft 21 = .ok (.return_, 1) := by decide +kernel
set_option maxRecDepth 100000 in
set_option maxHeartbeats 4000000 in
theorem mX7_scrapeIfSoft {w : WX} {adr : Nat → Nat → Nat} (hj : Ij adr) (a1 : Int32) (a2 : Int32) (S : St) : ∀ (l : Launch) (r : Int32) (S2 : St), fX7_scrapeIfSoft a1 a2 S = some (r, S2) → Mv l w adr yX7_scrapeIfSoft cX7_scrapeIfSoft 3 none 2 44 [.ref (adr 9 0), .int a1, .int a2] S S2 := by
  refine mv_of (lv := [(0, .ref (adr 9 0)), (1, .int a1), (2, .int a2)]) hj (plainFor_of_name (by decide +kernel)) rfl (Nat.le_of_ble_eq_true rfl) (fun k C Rr => ?_)
  have C : Cx w adr k cX7_scrapeIfSoft RX7 3 2 44 := C
  refine ge_aload_n (n := 1) C 0 rfl dX7_scrapeIfSoft_0 rfl rfl ?_
  refine gt_X7_11 (n := 4) C (by decide) dX7_scrapeIfSoft_1 rfl ?_
  refine ge_iload_n (n := 5) C 1 rfl dX7_scrapeIfSoft_4 rfl rfl ?_
  refine al_10 (n := 6) C (by decide) dX7_scrapeIfSoft_5 rfl (fun h_5 => ?_)
  refine gt_X7_64 (n := 9) C (bd_c h_5 (by decide)) dX7_scrapeIfSoft_6 rfl ?_
  refine ge_iload_n (n := 10) C 2 rfl dX7_scrapeIfSoft_9 rfl rfl ?_
  refine al_12 (n := 11) C (bd_c h_5 (by decide)) dX7_scrapeIfSoft_10 rfl ?_
  refine ge_if_le (t := 21) (n := 14) C dX7_scrapeIfSoft_11 (by decide) rfl (fun h_11 => ?_) (fun h_11 => ?_)
  · exact ge_vret C Rr dX7_scrapeIfSoft_21
  · refine ge_aload_n (n := 15) C 0 rfl dX7_scrapeIfSoft_14 rfl rfl ?_
    refine ge_iload_n (n := 16) C 1 rfl dX7_scrapeIfSoft_15 rfl rfl ?_
    refine ge_iload_n (n := 17) C 2 rfl dX7_scrapeIfSoft_16 rfl rfl ?_
    refine ge_iconst (v := 1) (n := 18) C dX7_scrapeIfSoft_17 (by decide) rfl ?_
    refine ge_callVv (n := 21) C (mX7_scrapeOff hj a1 a2 (1 : Int32) S) gv_X7_97 (cl_9 (by decide)) rfl rfl hc_X7_scrapeOff ⟨Nat.le_of_ble_eq_true rfl, Nat.le_of_ble_eq_true rfl⟩ rfl rfl (Nat.le_of_ble_eq_true rfl) dX7_scrapeIfSoft_18 rfl (fun _ S_18 => ?_)
    exact ge_vret C Rr dX7_scrapeIfSoft_21
theorem dX7_stir_0 : decode cX7_stir 0 = .ok (.aload_n 0, 1) := by decide +kernel
theorem dX7_stir_1 : decode cX7_stir 1 = .ok (.getfield 17, 3) := by decide +kernel
theorem dX7_stir_4 : decode cX7_stir 4 = .ok (.getfield 35, 3) := by decide +kernel
theorem dX7_stir_7 : decode cX7_stir 7 = .ok (.ifCond .ne 4, 3) := by decide +kernel
theorem dX7_stir_10 : decode cX7_stir 10 = .ok (.return_, 1) := by decide +kernel
theorem dX7_stir_11 : decode cX7_stir 11 = .ok (.aload_n 1, 1) := by decide +kernel
theorem dX7_stir_12 : decode cX7_stir 12 = .ok (.iconst 5, 1) := by decide +kernel
theorem dX7_stir_13 : decode cX7_stir 13 = .ok (.invokevirtual 80, 3) := by decide +kernel
theorem dX7_stir_16 : decode cX7_stir 16 = .ok (.istore_n 2, 1) := by decide +kernel
theorem dX7_stir_17 : decode cX7_stir 17 = .ok (.aload_n 1, 1) := by decide +kernel
theorem dX7_stir_18 : decode cX7_stir 18 = .ok (.aload_n 0, 1) := by decide +kernel
theorem dX7_stir_19 : decode cX7_stir 19 = .ok (.getfield 17, 3) := by decide +kernel
theorem dX7_stir_22 : decode cX7_stir 22 = .ok (.getfield 35, 3) := by decide +kernel
theorem dX7_stir_25 : decode cX7_stir 25 = .ok (.invokevirtual 80, 3) := by decide +kernel
theorem dX7_stir_28 : decode cX7_stir 28 = .ok (.istore_n 3, 1) := by decide +kernel
theorem dX7_stir_29 : decode cX7_stir 29 = .ok (.iload_n 2, 1) := by decide +kernel
theorem dX7_stir_30 : decode cX7_stir 30 = .ok (.ifCond .ne 35, 3) := by decide +kernel
theorem dX7_stir_33 : decode cX7_stir 33 = .ok (.aload_n 0, 1) := by decide +kernel
theorem dX7_stir_34 : decode cX7_stir 34 = .ok (.getfield 11, 3) := by decide +kernel
theorem dX7_stir_37 : decode cX7_stir 37 = .ok (.iload_n 3, 1) := by decide +kernel
theorem dX7_stir_38 : decode cX7_stir 38 = .ok (.aaload, 1) := by decide +kernel
theorem dX7_stir_39 : decode cX7_stir 39 = .ok (.getfield 41, 3) := by decide +kernel
theorem dX7_stir_42 : decode cX7_stir 42 = .ok (.ifCond .ne 23, 3) := by decide +kernel
theorem dX7_stir_45 : decode cX7_stir 45 = .ok (.aload_n 0, 1) := by decide +kernel
theorem dX7_stir_46 : decode cX7_stir 46 = .ok (.invokevirtual 85, 3) := by decide +kernel
theorem dX7_stir_49 : decode cX7_stir 49 = .ok (.ifCond .le 16, 3) := by decide +kernel
theorem dX7_stir_52 : decode cX7_stir 52 = .ok (.aload_n 0, 1) := by decide +kernel
theorem dX7_stir_53 : decode cX7_stir 53 = .ok (.getfield 11, 3) := by decide +kernel
theorem dX7_stir_56 : decode cX7_stir 56 = .ok (.iload_n 3, 1) := by decide +kernel
theorem dX7_stir_57 : decode cX7_stir 57 = .ok (.aaload, 1) := by decide +kernel
theorem dX7_stir_58 : decode cX7_stir 58 = .ok (.iconst 1, 1) := by decide +kernel
theorem dX7_stir_59 : decode cX7_stir 59 = .ok (.putfield 41, 3) := by decide +kernel
theorem dX7_stir_62 : decode cX7_stir 62 = .ok (.goto 70, 3) := by decide +kernel
theorem dX7_stir_65 : decode cX7_stir 65 = .ok (.iload_n 2, 1) := by decide +kernel
theorem dX7_stir_66 : decode cX7_stir 66 = .ok (.iconst 1, 1) := by decide +kernel
theorem dX7_stir_67 : decode cX7_stir 67 = .ok (.if_icmp .ne 16, 3) := by decide +kernel
theorem dX7_stir_70 : decode cX7_stir 70 = .ok (.aload_n 0, 1) := by decide +kernel
theorem dX7_stir_71 : decode cX7_stir 71 = .ok (.getfield 11, 3) := by decide +kernel
theorem dX7_stir_74 : decode cX7_stir 74 = .ok (.iload_n 3, 1) := by decide +kernel
theorem dX7_stir_75 : decode cX7_stir 75 = .ok (.aaload, 1) := by decide +kernel
theorem dX7_stir_76 : decode cX7_stir 76 = .ok (.iconst 0, 1) := by decide +kernel
theorem dX7_stir_77 : decode cX7_stir 77 = .ok (.putfield 41, 3) := by decide +kernel
theorem dX7_stir_80 : decode cX7_stir 80 = .ok (.goto 52, 3) := by decide +kernel
theorem dX7_stir_83 : decode cX7_stir 83 = .ok (.iload_n 2, 1) := by decide +kernel
theorem dX7_stir_84 : decode cX7_stir 84 = .ok (.iconst 2, 1) := by decide +kernel
theorem dX7_stir_85 : decode cX7_stir 85 = .ok (.if_icmp .ne 32, 3) := by decide +kernel
theorem dX7_stir_88 : decode cX7_stir 88 = .ok (.aload_n 0, 1) := by decide +kernel
theorem dX7_stir_89 : decode cX7_stir 89 = .ok (.getfield 17, 3) := by decide +kernel
theorem dX7_stir_92 : decode cX7_stir 92 = .ok (.getfield 88, 3) := by decide +kernel
theorem dX7_stir_95 : decode cX7_stir 95 = .ok (.ifCond .le 22, 3) := by decide +kernel
theorem dX7_stir_98 : decode cX7_stir 98 = .ok (.aload_n 0, 1) := by decide +kernel
theorem dX7_stir_99 : decode cX7_stir 99 = .ok (.iload_n 3, 1) := by decide +kernel
theorem dX7_stir_100 : decode cX7_stir 100 = .ok (.aload_n 1, 1) := by decide +kernel
theorem dX7_stir_101 : decode cX7_stir 101 = .ok (.aload_n 0, 1) := by decide +kernel
theorem dX7_stir_102 : decode cX7_stir 102 = .ok (.getfield 17, 3) := by decide +kernel
theorem dX7_stir_105 : decode cX7_stir 105 = .ok (.getfield 88, 3) := by decide +kernel
theorem dX7_stir_108 : decode cX7_stir 108 = .ok (.invokevirtual 80, 3) := by decide +kernel
theorem dX7_stir_111 : decode cX7_stir 111 = .ok (.invokevirtual 91, 3) := by decide +kernel
theorem dX7_stir_114 : decode cX7_stir 114 = .ok (.goto 18, 3) := by decide +kernel
theorem dX7_stir_117 : decode cX7_stir 117 = .ok (.iload_n 2, 1) := by decide +kernel
theorem dX7_stir_118 : decode cX7_stir 118 = .ok (.iconst 3, 1) := by decide +kernel
theorem dX7_stir_119 : decode cX7_stir 119 = .ok (.if_icmp .ne 13, 3) := by decide +kernel
theorem dX7_stir_122 : decode cX7_stir 122 = .ok (.aload_n 0, 1) := by decide +kernel
theorem dX7_stir_123 : decode cX7_stir 123 = .ok (.iload_n 3, 1) := by decide +kernel
theorem dX7_stir_124 : decode cX7_stir 124 = .ok (.aload_n 1, 1) := by decide +kernel
theorem dX7_stir_125 : decode cX7_stir 125 = .ok (.iconst 5, 1) := by decide +kernel
theorem dX7_stir_126 : decode cX7_stir 126 = .ok (.invokevirtual 80, 3) := by decide +kernel
theorem dX7_stir_129 : decode cX7_stir 129 = .ok (.invokevirtual 94, 3) := by decide +kernel
theorem dX7_stir_132 : decode cX7_stir 132 = .ok (.return_, 1) := by decide +kernel
set_option maxRecDepth 100000 in
set_option maxHeartbeats 4000000 in
theorem mX7_stir {w : WX} {adr : Nat → Nat → Nat} (hj : Ij adr)  (S : St) : ∀ (l : Launch) (r : Int32) (S2 : St), fX7_stir S = some (r, S2) → Mv l w adr yX7_stir cX7_stir 4 none 3 66 [.ref (adr 9 0), .ref (adr 19 0)] S S2 := by
  refine mv_of (lv := [(0, .ref (adr 9 0)), (1, .ref (adr 19 0))]) hj (plainFor_of_name (by decide +kernel)) rfl (Nat.le_of_ble_eq_true rfl) (fun k C Rr => ?_)
  have C : Cx w adr k cX7_stir RX7 4 3 66 := C
  refine ge_aload_n (n := 1) C 0 rfl dX7_stir_0 rfl rfl ?_
  refine gt_X7_17 (n := 4) C (by decide) dX7_stir_1 rfl ?_
  refine gt_X7_35 (n := 7) C (pid_lt _) dX7_stir_4 rfl ?_
  refine ge_if_ne (t := 11) (n := 10) C dX7_stir_7 (by decide) rfl (fun h_7 => ?_) (fun h_7 => ?_)
  · refine ge_aload_n (n := 12) C 1 rfl dX7_stir_11 rfl rfl ?_
    refine ge_iconst (v := 5) (n := 13) C dX7_stir_12 (by decide) rfl ?_
    refine ge_callVi (n := 16) C (mX1_next hj (5 : Int32) S) gv_X7_80 (cl_19 (by decide)) rfl rfl hc_X1_next ⟨Nat.le_of_ble_eq_true rfl, Nat.le_of_ble_eq_true rfl⟩ rfl rfl (Nat.le_of_ble_eq_true rfl) dX7_stir_13 rfl (fun r_13 S_13 => ?_)
    refine ge_istore_n (n := 17) (lv2 := [(2, .int r_13), (0, .ref (adr 9 0)), (1, .ref (adr 19 0))]) C dX7_stir_16 rfl rfl (by decide) rfl ?_
    refine ge_aload_n (n := 18) C 2 rfl dX7_stir_17 rfl rfl ?_
    refine ge_aload_n (n := 19) C 1 rfl dX7_stir_18 rfl rfl ?_
    refine gt_X7_17 (n := 22) C (by decide) dX7_stir_19 rfl ?_
    refine gt_X7_35 (n := 25) C (pid_lt _) dX7_stir_22 rfl ?_
    refine ge_callVi (n := 28) C (mX1_next hj (S_13 3 (pid (S_13 9 0 0)) 2) S_13) gv_X7_80 (cl_19 (by decide)) rfl rfl hc_X1_next ⟨Nat.le_of_ble_eq_true rfl, Nat.le_of_ble_eq_true rfl⟩ rfl rfl (Nat.le_of_ble_eq_true rfl) dX7_stir_25 rfl (fun r_25 S_25 => ?_)
    refine ge_istore_n (n := 29) (lv2 := [(3, .int r_25), (2, .int r_13), (0, .ref (adr 9 0)), (1, .ref (adr 19 0))]) C dX7_stir_28 rfl rfl (by decide) rfl ?_
    refine ge_iload_n (n := 30) C 1 rfl dX7_stir_29 rfl rfl ?_
    refine ge_jn (fun (jj : St → Op) => ∀ (S_65 : St), Ge w adr k 65 [(3, .int r_25), (2, .int r_13), (0, .ref (adr 9 0)), (1, .ref (adr 19 0))] [] S_65 (jj S_65)) (fun S_65 => ?_) (fun j65 hj65 => ?_)
    · refine ge_iload_n (n := 66) C 1 rfl dX7_stir_65 rfl rfl ?_
      refine ge_iconst (v := 1) (n := 67) C dX7_stir_66 (by decide) rfl ?_
      refine ge_icmp_ne (t := 83) (n := 70) C dX7_stir_67 (by decide) rfl (fun h_67 => ?_) (fun h_67 => ?_)
      · refine ge_iload_n (n := 84) C 1 rfl dX7_stir_83 rfl rfl ?_
        refine ge_iconst (v := 2) (n := 85) C dX7_stir_84 (by decide) rfl ?_
        refine ge_jn (fun (jj : Op) => Ge w adr k 117 [(3, .int r_25), (2, .int r_13), (0, .ref (adr 9 0)), (1, .ref (adr 19 0))] [] S_65 (jj)) ?_ (fun j117 hj117 => ?_)
        · refine ge_iload_n (n := 118) C 1 rfl dX7_stir_117 rfl rfl ?_
          refine ge_iconst (v := 3) (n := 119) C dX7_stir_118 (by decide) rfl ?_
          refine ge_icmp_ne (t := 132) (n := 122) C dX7_stir_119 (by decide) rfl (fun h_119 => ?_) (fun h_119 => ?_)
          · exact ge_vret C Rr dX7_stir_132
          · refine ge_aload_n (n := 123) C 2 rfl dX7_stir_122 rfl rfl ?_
            refine ge_iload_n (n := 124) C 0 rfl dX7_stir_123 rfl rfl ?_
            refine ge_aload_n (n := 125) C 3 rfl dX7_stir_124 rfl rfl ?_
            refine ge_iconst (v := 5) (n := 126) C dX7_stir_125 (by decide) rfl ?_
            refine ge_callVi (n := 129) C (mX1_next hj (5 : Int32) S_65) gv_X7_80 (cl_19 (by decide)) rfl rfl hc_X1_next ⟨Nat.le_of_ble_eq_true rfl, Nat.le_of_ble_eq_true rfl⟩ rfl rfl (Nat.le_of_ble_eq_true rfl) dX7_stir_126 rfl (fun r_126 S_126 => ?_)
            refine ge_callVv (n := 132) C (mX7_scrapeIfSoft hj r_25 r_126 S_126) gv_X7_94 (cl_9 (by decide)) rfl rfl hc_X7_scrapeIfSoft ⟨Nat.le_of_ble_eq_true rfl, Nat.le_of_ble_eq_true rfl⟩ rfl rfl (Nat.le_of_ble_eq_true rfl) dX7_stir_129 rfl (fun _ S_129 => ?_)
            exact ge_vret C Rr dX7_stir_132
        refine ge_icmp_ne (t := 117) (n := 88) C dX7_stir_85 (by decide) rfl (fun h_85 => ?_) (fun h_85 => ?_)
        · exact hj117
        · refine ge_aload_n (n := 89) C 2 rfl dX7_stir_88 rfl rfl ?_
          refine gt_X7_17 (n := 92) C (by decide) dX7_stir_89 rfl ?_
          refine gt_X7_88 (n := 95) C (pid_lt _) dX7_stir_92 rfl ?_
          refine ge_if_le (t := 117) (n := 98) C dX7_stir_95 (by decide) rfl (fun h_95 => ?_) (fun h_95 => ?_)
          · exact hj117
          · refine ge_aload_n (n := 99) C 2 rfl dX7_stir_98 rfl rfl ?_
            refine ge_iload_n (n := 100) C 0 rfl dX7_stir_99 rfl rfl ?_
            refine ge_aload_n (n := 101) C 3 rfl dX7_stir_100 rfl rfl ?_
            refine ge_aload_n (n := 102) C 2 rfl dX7_stir_101 rfl rfl ?_
            refine gt_X7_17 (n := 105) C (by decide) dX7_stir_102 rfl ?_
            refine gt_X7_88 (n := 108) C (pid_lt _) dX7_stir_105 rfl ?_
            refine ge_callVi (n := 111) C (mX1_next hj (S_65 3 (pid (S_65 9 0 0)) 3) S_65) gv_X7_80 (cl_19 (by decide)) rfl rfl hc_X1_next ⟨Nat.le_of_ble_eq_true rfl, Nat.le_of_ble_eq_true rfl⟩ rfl rfl (Nat.le_of_ble_eq_true rfl) dX7_stir_108 rfl (fun r_108 S_108 => ?_)
            refine ge_callVv (n := 114) C (mX7_wound hj r_25 r_108 S_108) gv_X7_91 (cl_9 (by decide)) rfl rfl hc_X7_wound ⟨Nat.le_of_ble_eq_true rfl, Nat.le_of_ble_eq_true rfl⟩ rfl rfl (Nat.le_of_ble_eq_true rfl) dX7_stir_111 rfl (fun _ S_111 => ?_)
            refine ge_goto (n := 132) C dX7_stir_114 (by decide) ?_
            exact ge_vret C Rr dX7_stir_132
      · refine ge_aload_n (n := 71) C 2 rfl dX7_stir_70 rfl rfl ?_
        refine gt_X7_11 (n := 74) C (by decide) dX7_stir_71 rfl ?_
        refine ge_iload_n (n := 75) C 0 rfl dX7_stir_74 rfl rfl ?_
        refine al_10 (n := 76) C (by decide) dX7_stir_75 rfl (fun h_75 => ?_)
        refine ge_iconst (v := 0) (n := 77) C dX7_stir_76 (by decide) rfl ?_
        refine pt_X7_41 (n := 80) C (bd_c h_75 (by decide)) dX7_stir_77 rfl (fun S_77 => ?_)
        refine ge_goto (n := 132) C dX7_stir_80 (by decide) ?_
        exact ge_vret C Rr dX7_stir_132
    refine ge_if_ne (t := 65) (n := 33) C dX7_stir_30 (by decide) rfl (fun h_30 => ?_) (fun h_30 => ?_)
    · exact hj65 S_25
    · refine ge_aload_n (n := 34) C 2 rfl dX7_stir_33 rfl rfl ?_
      refine gt_X7_11 (n := 37) C (by decide) dX7_stir_34 rfl ?_
      refine ge_iload_n (n := 38) C 0 rfl dX7_stir_37 rfl rfl ?_
      refine al_10 (n := 39) C (by decide) dX7_stir_38 rfl (fun h_38 => ?_)
      refine gt_X7_41 (n := 42) C (bd_c h_38 (by decide)) dX7_stir_39 rfl ?_
      refine ge_if_ne (t := 65) (n := 45) C dX7_stir_42 (by decide) rfl (fun h_42 => ?_) (fun h_42 => ?_)
      · exact hj65 S_25
      · refine ge_aload_n (n := 46) C 2 rfl dX7_stir_45 rfl rfl ?_
        refine ge_callVi (n := 49) C (mX7_freePits hj S_25) gv_X7_85 (cl_9 (by decide)) rfl rfl hc_X7_freePits ⟨Nat.le_of_ble_eq_true rfl, Nat.le_of_ble_eq_true rfl⟩ rfl rfl (Nat.le_of_ble_eq_true rfl) dX7_stir_46 rfl (fun r_46 S_46 => ?_)
        refine ge_if_le (t := 65) (n := 52) C dX7_stir_49 (by decide) rfl (fun h_49 => ?_) (fun h_49 => ?_)
        · exact hj65 S_46
        · refine ge_aload_n (n := 53) C 2 rfl dX7_stir_52 rfl rfl ?_
          refine gt_X7_11 (n := 56) C (by decide) dX7_stir_53 rfl ?_
          refine ge_iload_n (n := 57) C 0 rfl dX7_stir_56 rfl rfl ?_
          refine al_10 (n := 58) C (by decide) dX7_stir_57 rfl (fun h_57 => ?_)
          refine ge_iconst (v := 1) (n := 59) C dX7_stir_58 (by decide) rfl ?_
          refine pt_X7_41 (n := 62) C (bd_c h_57 (by decide)) dX7_stir_59 rfl (fun S_59 => ?_)
          refine ge_goto (n := 132) C dX7_stir_62 (by decide) ?_
          exact ge_vret C Rr dX7_stir_132
  · exact ge_vret C Rr dX7_stir_10
theorem dX7_best_0 : decode cX7_best 0 = .ok (.iconst (-1), 1) := by decide +kernel
theorem dX7_best_1 : decode cX7_best 1 = .ok (.istore_n 1, 1) := by decide +kernel
theorem dX7_best_2 : decode cX7_best 2 = .ok (.iconst 0, 1) := by decide +kernel
theorem dX7_best_3 : decode cX7_best 3 = .ok (.istore_n 2, 1) := by decide +kernel
theorem dX7_best_4 : decode cX7_best 4 = .ok (.iconst 0, 1) := by decide +kernel
theorem dX7_best_5 : decode cX7_best 5 = .ok (.istore_n 3, 1) := by decide +kernel
theorem dX7_best_6 : decode cX7_best 6 = .ok (.iload_n 3, 1) := by decide +kernel
theorem dX7_best_7 : decode cX7_best 7 = .ok (.aload_n 0, 1) := by decide +kernel
theorem dX7_best_8 : decode cX7_best 8 = .ok (.getfield 17, 3) := by decide +kernel
theorem dX7_best_11 : decode cX7_best 11 = .ok (.getfield 35, 3) := by decide +kernel
theorem dX7_best_14 : decode cX7_best 14 = .ok (.if_icmp .ge 40, 3) := by decide +kernel
theorem dX7_best_17 : decode cX7_best 17 = .ok (.aload_n 0, 1) := by decide +kernel
theorem dX7_best_18 : decode cX7_best 18 = .ok (.getfield 17, 3) := by decide +kernel
theorem dX7_best_21 : decode cX7_best 21 = .ok (.aload_n 0, 1) := by decide +kernel
theorem dX7_best_22 : decode cX7_best 22 = .ok (.getfield 11, 3) := by decide +kernel
theorem dX7_best_25 : decode cX7_best 25 = .ok (.iload_n 3, 1) := by decide +kernel
theorem dX7_best_26 : decode cX7_best 26 = .ok (.aaload, 1) := by decide +kernel
theorem dX7_best_27 : decode cX7_best 27 = .ok (.invokevirtual 101, 3) := by decide +kernel
theorem dX7_best_30 : decode cX7_best 30 = .ok (.istore 4, 2) := by decide +kernel
theorem dX7_best_32 : decode cX7_best 32 = .ok (.iload_n 1, 1) := by decide +kernel
theorem dX7_best_33 : decode cX7_best 33 = .ok (.iconst (-1), 1) := by decide +kernel
theorem dX7_best_34 : decode cX7_best 34 = .ok (.if_icmp .eq 9, 3) := by decide +kernel
theorem dX7_best_37 : decode cX7_best 37 = .ok (.iload 4, 2) := by decide +kernel
theorem dX7_best_39 : decode cX7_best 39 = .ok (.iload_n 2, 1) := by decide +kernel
theorem dX7_best_40 : decode cX7_best 40 = .ok (.if_icmp .ge 8, 3) := by decide +kernel
theorem dX7_best_43 : decode cX7_best 43 = .ok (.iload_n 3, 1) := by decide +kernel
theorem dX7_best_44 : decode cX7_best 44 = .ok (.istore_n 1, 1) := by decide +kernel
theorem dX7_best_45 : decode cX7_best 45 = .ok (.iload 4, 2) := by decide +kernel
theorem dX7_best_47 : decode cX7_best 47 = .ok (.istore_n 2, 1) := by decide +kernel
theorem dX7_best_48 : decode cX7_best 48 = .ok (.iinc 3 1, 3) := by decide +kernel
theorem dX7_best_51 : decode cX7_best 51 = .ok (.goto (-45), 3) := by decide +kernel
theorem dX7_best_54 : decode cX7_best 54 = .ok (.iload_n 1, 1) := by decide +kernel
theorem dX7_best_55 : decode cX7_best 55 = .ok (.ireturn, 1) := by decide +kernel
set_option maxRecDepth 100000 in
set_option maxHeartbeats 4000000 in
theorem mX7_best {w : WX} {adr : Nat → Nat → Nat} (hj : Ij adr)  (S : St) : ∀ (l : Launch) (r : Int32) (S2 : St), fX7_best S = some (r, S2) → Mi l w adr yX7_best cX7_best 5 (some .int) 3 67 [.ref (adr 9 0)] S r S2 := by
  refine mi_of (lv := [(0, .ref (adr 9 0))]) hj (plainFor_of_name (by decide +kernel)) rfl (Nat.le_of_ble_eq_true rfl) (fun k C Rr => ?_)
  have C : Cx w adr k cX7_best RX7 5 3 67 := C
  refine ge_iconst (v := -1) (n := 1) C dX7_best_0 (by decide) rfl ?_
  refine ge_istore_n (n := 2) (lv2 := [(1, .int (-1 : Int32)), (0, .ref (adr 9 0))]) C dX7_best_1 rfl rfl (by decide) rfl ?_
  refine ge_iconst (v := 0) (n := 3) C dX7_best_2 (by decide) rfl ?_
  refine ge_istore_n (n := 4) (lv2 := [(2, .int (0 : Int32)), (1, .int (-1 : Int32)), (0, .ref (adr 9 0))]) C dX7_best_3 rfl rfl (by decide) rfl ?_
  refine ge_iconst (v := 0) (n := 5) C dX7_best_4 (by decide) rfl ?_
  refine ge_istore_n (n := 6) (lv2 := [(3, .int (0 : Int32)), (2, .int (0 : Int32)), (1, .int (-1 : Int32)), (0, .ref (adr 9 0))]) C dX7_best_5 rfl rfl (by decide) rfl ?_
  refine ge_jn (fun (jj : Int32 → St → Op) => ∀ (x1_54 : Int32) (S_54 : St), Ge w adr k 54 [(1, .int x1_54)] [] S_54 (jj x1_54 S_54)) (fun x1_54 S_54 => ?_) (fun kk6 hkk6 => ?_)
  · refine ge_iload_n (n := 55) C 0 rfl dX7_best_54 rfl rfl ?_
    exact ge_iret C Rr dX7_best_55
  refine ge_lop (fun (jj : Int32 → Int32 → Int32 → St → Op) => ∀ (x3_6 : Int32) (x2_6 : Int32) (x1_6 : Int32) (S_6 : St), Ge w adr k 6 [(3, .int x3_6), (2, .int x2_6), (1, .int x1_6), (0, .ref (adr 9 0))] [] S_6 (jj x3_6 x2_6 x1_6 S_6)) (fun _ _ _ _ => ge_none) (fun ag6 hag6 x3_6 x2_6 x1_6 S_6 => ?_) FU (0 : Int32) (0 : Int32) (-1 : Int32) S
  refine ge_iload_n (n := 7) C 0 rfl dX7_best_6 rfl rfl ?_
  refine ge_aload_n (n := 8) C 3 rfl dX7_best_7 rfl rfl ?_
  refine gt_X7_17 (n := 11) C (by decide) dX7_best_8 rfl ?_
  refine gt_X7_35 (n := 14) C (pid_lt _) dX7_best_11 rfl ?_
  refine ge_icmp_ge (t := 54) (n := 17) C dX7_best_14 (by decide) rfl (fun h_14 => ?_) (fun h_14 => ?_)
  · refine ge_sub [2] rfl ?_
    exact hkk6 x1_6 S_6
  · refine ge_aload_n (n := 18) C 3 rfl dX7_best_17 rfl rfl ?_
    refine gt_X7_17 (n := 21) C (by decide) dX7_best_18 rfl ?_
    refine ge_aload_n (n := 22) C 3 rfl dX7_best_21 rfl rfl ?_
    refine gt_X7_11 (n := 25) C (by decide) dX7_best_22 rfl ?_
    refine ge_iload_n (n := 26) C 0 rfl dX7_best_25 rfl rfl ?_
    refine al_10 (n := 27) C (by decide) dX7_best_26 rfl (fun h_26 => ?_)
    refine ge_callVi (n := 30) C (mX6_wholePain hj (o0 := (pid (S_6 9 0 0))) (pid_lt _) (o1 := (Int32.toNatClampNeg x3_6)) (bd_c h_26 (by decide)) S_6) gv_X7_101 (cl_3 (pid_lt _)) rfl rfl hc_X6_wholePain ⟨Nat.le_of_ble_eq_true rfl, Nat.le_of_ble_eq_true rfl⟩ rfl rfl (Nat.le_of_ble_eq_true rfl) dX7_best_27 rfl (fun r_27 S_27 => ?_)
    refine ge_istore (n := 32) (lv2 := [(4, .int r_27), (3, .int x3_6), (2, .int x2_6), (1, .int x1_6), (0, .ref (adr 9 0))]) C dX7_best_30 rfl (by decide) rfl ?_
    refine ge_iload_n (n := 33) C 3 rfl dX7_best_32 rfl rfl ?_
    refine ge_iconst (v := -1) (n := 34) C dX7_best_33 (by decide) rfl ?_
    refine ge_icmp_eq (t := 43) (n := 37) C dX7_best_34 (by decide) rfl (fun h_34 => ?_) (fun h_34 => ?_)
    · refine ge_iload_n (n := 44) C 1 rfl dX7_best_43 rfl rfl ?_
      refine ge_istore_n (n := 45) (lv2 := [(1, .int x3_6), (4, .int r_27), (3, .int x3_6), (2, .int x2_6), (0, .ref (adr 9 0))]) C dX7_best_44 rfl rfl (by decide) rfl ?_
      refine ge_iload (n := 47) C 1 rfl dX7_best_45 rfl ?_
      refine ge_istore_n (n := 48) (lv2 := [(2, .int r_27), (1, .int x3_6), (4, .int r_27), (3, .int x3_6), (0, .ref (adr 9 0))]) C dX7_best_47 rfl rfl (by decide) rfl ?_
      refine ge_iinc (n := 51) (v := (x3_6 + (1 : Int32))) (lv2 := [(3, .int (x3_6 + (1 : Int32))), (2, .int r_27), (1, .int x3_6), (4, .int r_27), (0, .ref (adr 9 0))]) C 3 rfl dX7_best_48 rfl rfl (by decide) rfl ?_
      refine ge_goto (n := 6) C dX7_best_51 (by decide) ?_
      refine ge_sub [0, 1, 2, 4] rfl ?_
      exact hag6 (x3_6 + (1 : Int32)) r_27 x3_6 S_27
    · refine ge_iload (n := 39) C 0 rfl dX7_best_37 rfl ?_
      refine ge_iload_n (n := 40) C 2 rfl dX7_best_39 rfl rfl ?_
      refine ge_icmp_ge (t := 48) (n := 43) C dX7_best_40 (by decide) rfl (fun h_40 => ?_) (fun h_40 => ?_)
      · refine ge_iinc (n := 51) (v := (x3_6 + (1 : Int32))) (lv2 := [(3, .int (x3_6 + (1 : Int32))), (4, .int r_27), (2, .int x2_6), (1, .int x1_6), (0, .ref (adr 9 0))]) C 1 rfl dX7_best_48 rfl rfl (by decide) rfl ?_
        refine ge_goto (n := 6) C dX7_best_51 (by decide) ?_
        refine ge_sub [0, 2, 3, 4] rfl ?_
        exact hag6 (x3_6 + (1 : Int32)) x2_6 x1_6 S_27
      · refine ge_iload_n (n := 44) C 1 rfl dX7_best_43 rfl rfl ?_
        refine ge_istore_n (n := 45) (lv2 := [(1, .int x3_6), (4, .int r_27), (3, .int x3_6), (2, .int x2_6), (0, .ref (adr 9 0))]) C dX7_best_44 rfl rfl (by decide) rfl ?_
        refine ge_iload (n := 47) C 1 rfl dX7_best_45 rfl ?_
        refine ge_istore_n (n := 48) (lv2 := [(2, .int r_27), (1, .int x3_6), (4, .int r_27), (3, .int x3_6), (0, .ref (adr 9 0))]) C dX7_best_47 rfl rfl (by decide) rfl ?_
        refine ge_iinc (n := 51) (v := (x3_6 + (1 : Int32))) (lv2 := [(3, .int (x3_6 + (1 : Int32))), (2, .int r_27), (1, .int x3_6), (4, .int r_27), (0, .ref (adr 9 0))]) C 3 rfl dX7_best_48 rfl rfl (by decide) rfl ?_
        refine ge_goto (n := 6) C dX7_best_51 (by decide) ?_
        refine ge_sub [0, 1, 2, 4] rfl ?_
        exact hag6 (x3_6 + (1 : Int32)) r_27 x3_6 S_27
theorem dX7_leastPainedBy_0 : decode cX7_leastPainedBy 0 = .ok (.iconst 0, 1) := by decide +kernel
theorem dX7_leastPainedBy_1 : decode cX7_leastPainedBy 1 = .ok (.istore_n 2, 1) := by decide +kernel
theorem dX7_leastPainedBy_2 : decode cX7_leastPainedBy 2 = .ok (.iconst 1, 1) := by decide +kernel
theorem dX7_leastPainedBy_3 : decode cX7_leastPainedBy 3 = .ok (.istore_n 3, 1) := by decide +kernel
theorem dX7_leastPainedBy_4 : decode cX7_leastPainedBy 4 = .ok (.iload_n 3, 1) := by decide +kernel
theorem dX7_leastPainedBy_5 : decode cX7_leastPainedBy 5 = .ok (.aload_n 0, 1) := by decide +kernel
theorem dX7_leastPainedBy_6 : decode cX7_leastPainedBy 6 = .ok (.getfield 17, 3) := by decide +kernel
theorem dX7_leastPainedBy_9 : decode cX7_leastPainedBy 9 = .ok (.getfield 35, 3) := by decide +kernel
theorem dX7_leastPainedBy_12 : decode cX7_leastPainedBy 12 = .ok (.if_icmp .ge 42, 3) := by decide +kernel
theorem dX7_leastPainedBy_15 : decode cX7_leastPainedBy 15 = .ok (.aload_n 0, 1) := by decide +kernel
theorem dX7_leastPainedBy_16 : decode cX7_leastPainedBy 16 = .ok (.getfield 17, 3) := by decide +kernel
theorem dX7_leastPainedBy_19 : decode cX7_leastPainedBy 19 = .ok (.aload_n 0, 1) := by decide +kernel
theorem dX7_leastPainedBy_20 : decode cX7_leastPainedBy 20 = .ok (.getfield 11, 3) := by decide +kernel
theorem dX7_leastPainedBy_23 : decode cX7_leastPainedBy 23 = .ok (.iload_n 3, 1) := by decide +kernel
theorem dX7_leastPainedBy_24 : decode cX7_leastPainedBy 24 = .ok (.aaload, 1) := by decide +kernel
theorem dX7_leastPainedBy_25 : decode cX7_leastPainedBy 25 = .ok (.iload_n 1, 1) := by decide +kernel
theorem dX7_leastPainedBy_26 : decode cX7_leastPainedBy 26 = .ok (.invokevirtual 76, 3) := by decide +kernel
theorem dX7_leastPainedBy_29 : decode cX7_leastPainedBy 29 = .ok (.aload_n 0, 1) := by decide +kernel
theorem dX7_leastPainedBy_30 : decode cX7_leastPainedBy 30 = .ok (.getfield 17, 3) := by decide +kernel
theorem dX7_leastPainedBy_33 : decode cX7_leastPainedBy 33 = .ok (.aload_n 0, 1) := by decide +kernel
theorem dX7_leastPainedBy_34 : decode cX7_leastPainedBy 34 = .ok (.getfield 11, 3) := by decide +kernel
theorem dX7_leastPainedBy_37 : decode cX7_leastPainedBy 37 = .ok (.iload_n 2, 1) := by decide +kernel
theorem dX7_leastPainedBy_38 : decode cX7_leastPainedBy 38 = .ok (.aaload, 1) := by decide +kernel
theorem dX7_leastPainedBy_39 : decode cX7_leastPainedBy 39 = .ok (.iload_n 1, 1) := by decide +kernel
theorem dX7_leastPainedBy_40 : decode cX7_leastPainedBy 40 = .ok (.invokevirtual 76, 3) := by decide +kernel
theorem dX7_leastPainedBy_43 : decode cX7_leastPainedBy 43 = .ok (.if_icmp .ge 5, 3) := by decide +kernel
theorem dX7_leastPainedBy_46 : decode cX7_leastPainedBy 46 = .ok (.iload_n 3, 1) := by decide +kernel
theorem dX7_leastPainedBy_47 : decode cX7_leastPainedBy 47 = .ok (.istore_n 2, 1) := by decide +kernel
theorem dX7_leastPainedBy_48 : decode cX7_leastPainedBy 48 = .ok (.iinc 3 1, 3) := by decide +kernel
theorem dX7_leastPainedBy_51 : decode cX7_leastPainedBy 51 = .ok (.goto (-47), 3) := by decide +kernel
theorem dX7_leastPainedBy_54 : decode cX7_leastPainedBy 54 = .ok (.iload_n 2, 1) := by decide +kernel
theorem dX7_leastPainedBy_55 : decode cX7_leastPainedBy 55 = .ok (.ireturn, 1) := by decide +kernel
set_option maxRecDepth 100000 in
set_option maxHeartbeats 4000000 in
theorem mX7_leastPainedBy {w : WX} {adr : Nat → Nat → Nat} (hj : Ij adr) (a1 : Int32) (S : St) : ∀ (l : Launch) (r : Int32) (S2 : St), fX7_leastPainedBy a1 S = some (r, S2) → Mi l w adr yX7_leastPainedBy cX7_leastPainedBy 4 (some .int) 2 44 [.ref (adr 9 0), .int a1] S r S2 := by
  refine mi_of (lv := [(0, .ref (adr 9 0)), (1, .int a1)]) hj (plainFor_of_name (by decide +kernel)) rfl (Nat.le_of_ble_eq_true rfl) (fun k C Rr => ?_)
  have C : Cx w adr k cX7_leastPainedBy RX7 4 2 44 := C
  refine ge_iconst (v := 0) (n := 1) C dX7_leastPainedBy_0 (by decide) rfl ?_
  refine ge_istore_n (n := 2) (lv2 := [(2, .int (0 : Int32)), (0, .ref (adr 9 0)), (1, .int a1)]) C dX7_leastPainedBy_1 rfl rfl (by decide) rfl ?_
  refine ge_iconst (v := 1) (n := 3) C dX7_leastPainedBy_2 (by decide) rfl ?_
  refine ge_istore_n (n := 4) (lv2 := [(3, .int (1 : Int32)), (2, .int (0 : Int32)), (0, .ref (adr 9 0)), (1, .int a1)]) C dX7_leastPainedBy_3 rfl rfl (by decide) rfl ?_
  refine ge_jn (fun (jj : Int32 → St → Op) => ∀ (x2_54 : Int32) (S_54 : St), Ge w adr k 54 [(2, .int x2_54)] [] S_54 (jj x2_54 S_54)) (fun x2_54 S_54 => ?_) (fun kk4 hkk4 => ?_)
  · refine ge_iload_n (n := 55) C 0 rfl dX7_leastPainedBy_54 rfl rfl ?_
    exact ge_iret C Rr dX7_leastPainedBy_55
  refine ge_lop (fun (jj : Int32 → Int32 → St → Op) => ∀ (x3_4 : Int32) (x2_4 : Int32) (S_4 : St), Ge w adr k 4 [(3, .int x3_4), (2, .int x2_4), (0, .ref (adr 9 0)), (1, .int a1)] [] S_4 (jj x3_4 x2_4 S_4)) (fun _ _ _ => ge_none) (fun ag4 hag4 x3_4 x2_4 S_4 => ?_) FU (1 : Int32) (0 : Int32) S
  refine ge_iload_n (n := 5) C 0 rfl dX7_leastPainedBy_4 rfl rfl ?_
  refine ge_aload_n (n := 6) C 2 rfl dX7_leastPainedBy_5 rfl rfl ?_
  refine gt_X7_17 (n := 9) C (by decide) dX7_leastPainedBy_6 rfl ?_
  refine gt_X7_35 (n := 12) C (pid_lt _) dX7_leastPainedBy_9 rfl ?_
  refine ge_icmp_ge (t := 54) (n := 15) C dX7_leastPainedBy_12 (by decide) rfl (fun h_12 => ?_) (fun h_12 => ?_)
  · refine ge_sub [1] rfl ?_
    exact hkk4 x2_4 S_4
  · refine ge_aload_n (n := 16) C 2 rfl dX7_leastPainedBy_15 rfl rfl ?_
    refine gt_X7_17 (n := 19) C (by decide) dX7_leastPainedBy_16 rfl ?_
    refine ge_aload_n (n := 20) C 2 rfl dX7_leastPainedBy_19 rfl rfl ?_
    refine gt_X7_11 (n := 23) C (by decide) dX7_leastPainedBy_20 rfl ?_
    refine ge_iload_n (n := 24) C 0 rfl dX7_leastPainedBy_23 rfl rfl ?_
    refine al_10 (n := 25) C (by decide) dX7_leastPainedBy_24 rfl (fun h_24 => ?_)
    refine ge_iload_n (n := 26) C 3 rfl dX7_leastPainedBy_25 rfl rfl ?_
    refine ge_callVi (n := 29) C (mX6_pain hj (o0 := (pid (S_4 9 0 0))) (pid_lt _) (o1 := (Int32.toNatClampNeg x3_4)) (bd_c h_24 (by decide)) a1 S_4) gv_X7_76 (cl_3 (pid_lt _)) rfl rfl hc_X6_pain ⟨Nat.le_of_ble_eq_true rfl, Nat.le_of_ble_eq_true rfl⟩ rfl rfl (Nat.le_of_ble_eq_true rfl) dX7_leastPainedBy_26 rfl (fun r_26 S_26 => ?_)
    refine ge_aload_n (n := 30) C 2 rfl dX7_leastPainedBy_29 rfl rfl ?_
    refine gt_X7_17 (n := 33) C (by decide) dX7_leastPainedBy_30 rfl ?_
    refine ge_aload_n (n := 34) C 2 rfl dX7_leastPainedBy_33 rfl rfl ?_
    refine gt_X7_11 (n := 37) C (by decide) dX7_leastPainedBy_34 rfl ?_
    refine ge_iload_n (n := 38) C 1 rfl dX7_leastPainedBy_37 rfl rfl ?_
    refine al_10 (n := 39) C (by decide) dX7_leastPainedBy_38 rfl (fun h_38 => ?_)
    refine ge_iload_n (n := 40) C 3 rfl dX7_leastPainedBy_39 rfl rfl ?_
    refine ge_callVi (n := 43) C (mX6_pain hj (o0 := (pid (S_26 9 0 0))) (pid_lt _) (o1 := (Int32.toNatClampNeg x2_4)) (bd_c h_38 (by decide)) a1 S_26) gv_X7_76 (cl_3 (pid_lt _)) rfl rfl hc_X6_pain ⟨Nat.le_of_ble_eq_true rfl, Nat.le_of_ble_eq_true rfl⟩ rfl rfl (Nat.le_of_ble_eq_true rfl) dX7_leastPainedBy_40 rfl (fun r_40 S_40 => ?_)
    refine ge_icmp_ge (t := 48) (n := 46) C dX7_leastPainedBy_43 (by decide) rfl (fun h_43 => ?_) (fun h_43 => ?_)
    · refine ge_iinc (n := 51) (v := (x3_4 + (1 : Int32))) (lv2 := [(3, .int (x3_4 + (1 : Int32))), (2, .int x2_4), (0, .ref (adr 9 0)), (1, .int a1)]) C 0 rfl dX7_leastPainedBy_48 rfl rfl (by decide) rfl ?_
      refine ge_goto (n := 4) C dX7_leastPainedBy_51 (by decide) ?_
      exact hag4 (x3_4 + (1 : Int32)) x2_4 S_40
    · refine ge_iload_n (n := 47) C 0 rfl dX7_leastPainedBy_46 rfl rfl ?_
      refine ge_istore_n (n := 48) (lv2 := [(2, .int x3_4), (3, .int x3_4), (0, .ref (adr 9 0)), (1, .int a1)]) C dX7_leastPainedBy_47 rfl rfl (by decide) rfl ?_
      refine ge_iinc (n := 51) (v := (x3_4 + (1 : Int32))) (lv2 := [(3, .int (x3_4 + (1 : Int32))), (2, .int x3_4), (0, .ref (adr 9 0)), (1, .int a1)]) C 1 rfl dX7_leastPainedBy_48 rfl rfl (by decide) rfl ?_
      refine ge_goto (n := 4) C dX7_leastPainedBy_51 (by decide) ?_
      exact hag4 (x3_4 + (1 : Int32)) x3_4 S_40
