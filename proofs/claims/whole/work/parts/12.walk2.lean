theorem dX7_votesFor_0 : decode cX7_votesFor 0 = .ok (.iconst 0, 1) := by decide +kernel
theorem dX7_votesFor_1 : decode cX7_votesFor 1 = .ok (.istore_n 2, 1) := by decide +kernel
theorem dX7_votesFor_2 : decode cX7_votesFor 2 = .ok (.iconst 0, 1) := by decide +kernel
theorem dX7_votesFor_3 : decode cX7_votesFor 3 = .ok (.istore_n 3, 1) := by decide +kernel
theorem dX7_votesFor_4 : decode cX7_votesFor 4 = .ok (.iload_n 3, 1) := by decide +kernel
theorem dX7_votesFor_5 : decode cX7_votesFor 5 = .ok (.aload_n 0, 1) := by decide +kernel
theorem dX7_votesFor_6 : decode cX7_votesFor 6 = .ok (.getfield 17, 3) := by decide +kernel
theorem dX7_votesFor_9 : decode cX7_votesFor 9 = .ok (.getfield 88, 3) := by decide +kernel
theorem dX7_votesFor_12 : decode cX7_votesFor 12 = .ok (.if_icmp .ge 21, 3) := by decide +kernel
theorem dX7_votesFor_15 : decode cX7_votesFor 15 = .ok (.aload_n 0, 1) := by decide +kernel
theorem dX7_votesFor_16 : decode cX7_votesFor 16 = .ok (.iload_n 3, 1) := by decide +kernel
theorem dX7_votesFor_17 : decode cX7_votesFor 17 = .ok (.invokevirtual 108, 3) := by decide +kernel
theorem dX7_votesFor_20 : decode cX7_votesFor 20 = .ok (.iload_n 1, 1) := by decide +kernel
theorem dX7_votesFor_21 : decode cX7_votesFor 21 = .ok (.if_icmp .ne 6, 3) := by decide +kernel
theorem dX7_votesFor_24 : decode cX7_votesFor 24 = .ok (.iinc 2 1, 3) := by decide +kernel
theorem dX7_votesFor_27 : decode cX7_votesFor 27 = .ok (.iinc 3 1, 3) := by decide +kernel
theorem dX7_votesFor_30 : decode cX7_votesFor 30 = .ok (.goto (-26), 3) := by decide +kernel
theorem dX7_votesFor_33 : decode cX7_votesFor 33 = .ok (.iload_n 2, 1) := by decide +kernel
theorem dX7_votesFor_34 : decode cX7_votesFor 34 = .ok (.ireturn, 1) := by decide +kernel
set_option maxRecDepth 100000 in
set_option maxHeartbeats 4000000 in
theorem mX7_votesFor {w : WX} {adr : Nat → Nat → Nat} (hj : Ij adr) (a1 : Int32) (S : St) : ∀ (l : Launch) (r : Int32) (S2 : St), fX7_votesFor a1 S = some (r, S2) → Mi l w adr yX7_votesFor cX7_votesFor 4 (some .int) 3 67 [.ref (adr 9 0), .int a1] S r S2 := by
  refine mi_of (lv := [(0, .ref (adr 9 0)), (1, .int a1)]) hj (plainFor_of_name (by decide +kernel)) rfl (Nat.le_of_ble_eq_true rfl) (fun k C Rr => ?_)
  have C : Cx w adr k cX7_votesFor RX7 4 3 67 := C
  refine ge_iconst (v := 0) (n := 1) C dX7_votesFor_0 (by decide) rfl ?_
  refine ge_istore_n (n := 2) (lv2 := [(2, .int (0 : Int32)), (0, .ref (adr 9 0)), (1, .int a1)]) C dX7_votesFor_1 rfl rfl (by decide) rfl ?_
  refine ge_iconst (v := 0) (n := 3) C dX7_votesFor_2 (by decide) rfl ?_
  refine ge_istore_n (n := 4) (lv2 := [(3, .int (0 : Int32)), (2, .int (0 : Int32)), (0, .ref (adr 9 0)), (1, .int a1)]) C dX7_votesFor_3 rfl rfl (by decide) rfl ?_
  refine ge_jn (fun (jj : Int32 → St → Op) => ∀ (x2_33 : Int32) (S_33 : St), Ge w adr k 33 [(2, .int x2_33)] [] S_33 (jj x2_33 S_33)) (fun x2_33 S_33 => ?_) (fun kk4 hkk4 => ?_)
  · refine ge_iload_n (n := 34) C 0 rfl dX7_votesFor_33 rfl rfl ?_
    exact ge_iret C Rr dX7_votesFor_34
  refine ge_lop (fun (jj : Int32 → Int32 → St → Op) => ∀ (x3_4 : Int32) (x2_4 : Int32) (S_4 : St), Ge w adr k 4 [(3, .int x3_4), (2, .int x2_4), (0, .ref (adr 9 0)), (1, .int a1)] [] S_4 (jj x3_4 x2_4 S_4)) (fun _ _ _ => ge_none) (fun ag4 hag4 x3_4 x2_4 S_4 => ?_) FU (0 : Int32) (0 : Int32) S
  refine ge_iload_n (n := 5) C 0 rfl dX7_votesFor_4 rfl rfl ?_
  refine ge_aload_n (n := 6) C 2 rfl dX7_votesFor_5 rfl rfl ?_
  refine gt_X7_17 (n := 9) C (by decide) dX7_votesFor_6 rfl ?_
  refine gt_X7_88 (n := 12) C (pid_lt _) dX7_votesFor_9 rfl ?_
  refine ge_icmp_ge (t := 33) (n := 15) C dX7_votesFor_12 (by decide) rfl (fun h_12 => ?_) (fun h_12 => ?_)
  · refine ge_sub [1] rfl ?_
    exact hkk4 x2_4 S_4
  · refine ge_aload_n (n := 16) C 2 rfl dX7_votesFor_15 rfl rfl ?_
    refine ge_iload_n (n := 17) C 0 rfl dX7_votesFor_16 rfl rfl ?_
    refine ge_callVi (n := 20) C (mX7_leastPainedBy hj x3_4 S_4) gv_X7_108 (cl_9 (by decide)) rfl rfl hc_X7_leastPainedBy ⟨Nat.le_of_ble_eq_true rfl, Nat.le_of_ble_eq_true rfl⟩ rfl rfl (Nat.le_of_ble_eq_true rfl) dX7_votesFor_17 rfl (fun r_17 S_17 => ?_)
    refine ge_iload_n (n := 21) C 3 rfl dX7_votesFor_20 rfl rfl ?_
    refine ge_icmp_ne (t := 27) (n := 24) C dX7_votesFor_21 (by decide) rfl (fun h_21 => ?_) (fun h_21 => ?_)
    · refine ge_iinc (n := 30) (v := (x3_4 + (1 : Int32))) (lv2 := [(3, .int (x3_4 + (1 : Int32))), (2, .int x2_4), (0, .ref (adr 9 0)), (1, .int a1)]) C 0 rfl dX7_votesFor_27 rfl rfl (by decide) rfl ?_
      refine ge_goto (n := 4) C dX7_votesFor_30 (by decide) ?_
      exact hag4 (x3_4 + (1 : Int32)) x2_4 S_17
    · refine ge_iinc (n := 27) (v := (x2_4 + (1 : Int32))) (lv2 := [(2, .int (x2_4 + (1 : Int32))), (3, .int x3_4), (0, .ref (adr 9 0)), (1, .int a1)]) C 1 rfl dX7_votesFor_24 rfl rfl (by decide) rfl ?_
      refine ge_iinc (n := 30) (v := (x3_4 + (1 : Int32))) (lv2 := [(3, .int (x3_4 + (1 : Int32))), (2, .int (x2_4 + (1 : Int32))), (0, .ref (adr 9 0)), (1, .int a1)]) C 1 rfl dX7_votesFor_27 rfl rfl (by decide) rfl ?_
      refine ge_goto (n := 4) C dX7_votesFor_30 (by decide) ?_
      exact hag4 (x3_4 + (1 : Int32)) (x2_4 + (1 : Int32)) S_17
theorem dX7_chosen_0 : decode cX7_chosen 0 = .ok (.iconst (-1), 1) := by decide +kernel
theorem dX7_chosen_1 : decode cX7_chosen 1 = .ok (.istore_n 1, 1) := by decide +kernel
theorem dX7_chosen_2 : decode cX7_chosen 2 = .ok (.iconst 0, 1) := by decide +kernel
theorem dX7_chosen_3 : decode cX7_chosen 3 = .ok (.istore_n 2, 1) := by decide +kernel
theorem dX7_chosen_4 : decode cX7_chosen 4 = .ok (.iconst 0, 1) := by decide +kernel
theorem dX7_chosen_5 : decode cX7_chosen 5 = .ok (.istore_n 3, 1) := by decide +kernel
theorem dX7_chosen_6 : decode cX7_chosen 6 = .ok (.iload_n 3, 1) := by decide +kernel
theorem dX7_chosen_7 : decode cX7_chosen 7 = .ok (.aload_n 0, 1) := by decide +kernel
theorem dX7_chosen_8 : decode cX7_chosen 8 = .ok (.getfield 17, 3) := by decide +kernel
theorem dX7_chosen_11 : decode cX7_chosen 11 = .ok (.getfield 35, 3) := by decide +kernel
theorem dX7_chosen_14 : decode cX7_chosen 14 = .ok (.if_icmp .ge 27, 3) := by decide +kernel
theorem dX7_chosen_17 : decode cX7_chosen 17 = .ok (.aload_n 0, 1) := by decide +kernel
theorem dX7_chosen_18 : decode cX7_chosen 18 = .ok (.iload_n 3, 1) := by decide +kernel
theorem dX7_chosen_19 : decode cX7_chosen 19 = .ok (.invokevirtual 105, 3) := by decide +kernel
theorem dX7_chosen_22 : decode cX7_chosen 22 = .ok (.istore 4, 2) := by decide +kernel
theorem dX7_chosen_24 : decode cX7_chosen 24 = .ok (.iload 4, 2) := by decide +kernel
theorem dX7_chosen_26 : decode cX7_chosen 26 = .ok (.iload_n 2, 1) := by decide +kernel
theorem dX7_chosen_27 : decode cX7_chosen 27 = .ok (.if_icmp .le 8, 3) := by decide +kernel
theorem dX7_chosen_30 : decode cX7_chosen 30 = .ok (.iload_n 3, 1) := by decide +kernel
theorem dX7_chosen_31 : decode cX7_chosen 31 = .ok (.istore_n 1, 1) := by decide +kernel
theorem dX7_chosen_32 : decode cX7_chosen 32 = .ok (.iload 4, 2) := by decide +kernel
theorem dX7_chosen_34 : decode cX7_chosen 34 = .ok (.istore_n 2, 1) := by decide +kernel
theorem dX7_chosen_35 : decode cX7_chosen 35 = .ok (.iinc 3 1, 3) := by decide +kernel
theorem dX7_chosen_38 : decode cX7_chosen 38 = .ok (.goto (-32), 3) := by decide +kernel
theorem dX7_chosen_41 : decode cX7_chosen 41 = .ok (.iload_n 1, 1) := by decide +kernel
theorem dX7_chosen_42 : decode cX7_chosen 42 = .ok (.ireturn, 1) := by decide +kernel
set_option maxRecDepth 100000 in
set_option maxHeartbeats 4000000 in
theorem mX7_chosen {w : WX} {adr : Nat → Nat → Nat} (hj : Ij adr)  (S : St) : ∀ (l : Launch) (r : Int32) (S2 : St), fX7_chosen S = some (r, S2) → Mi l w adr yX7_chosen cX7_chosen 5 (some .int) 4 90 [.ref (adr 9 0)] S r S2 := by
  refine mi_of (lv := [(0, .ref (adr 9 0))]) hj (plainFor_of_name (by decide +kernel)) rfl (Nat.le_of_ble_eq_true rfl) (fun k C Rr => ?_)
  have C : Cx w adr k cX7_chosen RX7 5 4 90 := C
  refine ge_iconst (v := -1) (n := 1) C dX7_chosen_0 (by decide) rfl ?_
  refine ge_istore_n (n := 2) (lv2 := [(1, .int (-1 : Int32)), (0, .ref (adr 9 0))]) C dX7_chosen_1 rfl rfl (by decide) rfl ?_
  refine ge_iconst (v := 0) (n := 3) C dX7_chosen_2 (by decide) rfl ?_
  refine ge_istore_n (n := 4) (lv2 := [(2, .int (0 : Int32)), (1, .int (-1 : Int32)), (0, .ref (adr 9 0))]) C dX7_chosen_3 rfl rfl (by decide) rfl ?_
  refine ge_iconst (v := 0) (n := 5) C dX7_chosen_4 (by decide) rfl ?_
  refine ge_istore_n (n := 6) (lv2 := [(3, .int (0 : Int32)), (2, .int (0 : Int32)), (1, .int (-1 : Int32)), (0, .ref (adr 9 0))]) C dX7_chosen_5 rfl rfl (by decide) rfl ?_
  refine ge_jn (fun (jj : Int32 → St → Op) => ∀ (x1_41 : Int32) (S_41 : St), Ge w adr k 41 [(1, .int x1_41)] [] S_41 (jj x1_41 S_41)) (fun x1_41 S_41 => ?_) (fun kk6 hkk6 => ?_)
  · refine ge_iload_n (n := 42) C 0 rfl dX7_chosen_41 rfl rfl ?_
    exact ge_iret C Rr dX7_chosen_42
  refine ge_lop (fun (jj : Int32 → Int32 → Int32 → St → Op) => ∀ (x3_6 : Int32) (x2_6 : Int32) (x1_6 : Int32) (S_6 : St), Ge w adr k 6 [(3, .int x3_6), (2, .int x2_6), (1, .int x1_6), (0, .ref (adr 9 0))] [] S_6 (jj x3_6 x2_6 x1_6 S_6)) (fun _ _ _ _ => ge_none) (fun ag6 hag6 x3_6 x2_6 x1_6 S_6 => ?_) FU (0 : Int32) (0 : Int32) (-1 : Int32) S
  refine ge_iload_n (n := 7) C 0 rfl dX7_chosen_6 rfl rfl ?_
  refine ge_aload_n (n := 8) C 3 rfl dX7_chosen_7 rfl rfl ?_
  refine gt_X7_17 (n := 11) C (by decide) dX7_chosen_8 rfl ?_
  refine gt_X7_35 (n := 14) C (pid_lt _) dX7_chosen_11 rfl ?_
  refine ge_icmp_ge (t := 41) (n := 17) C dX7_chosen_14 (by decide) rfl (fun h_14 => ?_) (fun h_14 => ?_)
  · refine ge_sub [2] rfl ?_
    exact hkk6 x1_6 S_6
  · refine ge_aload_n (n := 18) C 3 rfl dX7_chosen_17 rfl rfl ?_
    refine ge_iload_n (n := 19) C 0 rfl dX7_chosen_18 rfl rfl ?_
    refine ge_callVi (n := 22) C (mX7_votesFor hj x3_6 S_6) gv_X7_105 (cl_9 (by decide)) rfl rfl hc_X7_votesFor ⟨Nat.le_of_ble_eq_true rfl, Nat.le_of_ble_eq_true rfl⟩ rfl rfl (Nat.le_of_ble_eq_true rfl) dX7_chosen_19 rfl (fun r_19 S_19 => ?_)
    refine ge_istore (n := 24) (lv2 := [(4, .int r_19), (3, .int x3_6), (2, .int x2_6), (1, .int x1_6), (0, .ref (adr 9 0))]) C dX7_chosen_22 rfl (by decide) rfl ?_
    refine ge_iload (n := 26) C 0 rfl dX7_chosen_24 rfl ?_
    refine ge_iload_n (n := 27) C 2 rfl dX7_chosen_26 rfl rfl ?_
    refine ge_icmp_le (t := 35) (n := 30) C dX7_chosen_27 (by decide) rfl (fun h_27 => ?_) (fun h_27 => ?_)
    · refine ge_iinc (n := 38) (v := (x3_6 + (1 : Int32))) (lv2 := [(3, .int (x3_6 + (1 : Int32))), (4, .int r_19), (2, .int x2_6), (1, .int x1_6), (0, .ref (adr 9 0))]) C 1 rfl dX7_chosen_35 rfl rfl (by decide) rfl ?_
      refine ge_goto (n := 6) C dX7_chosen_38 (by decide) ?_
      refine ge_sub [0, 2, 3, 4] rfl ?_
      exact hag6 (x3_6 + (1 : Int32)) x2_6 x1_6 S_19
    · refine ge_iload_n (n := 31) C 1 rfl dX7_chosen_30 rfl rfl ?_
      refine ge_istore_n (n := 32) (lv2 := [(1, .int x3_6), (4, .int r_19), (3, .int x3_6), (2, .int x2_6), (0, .ref (adr 9 0))]) C dX7_chosen_31 rfl rfl (by decide) rfl ?_
      refine ge_iload (n := 34) C 1 rfl dX7_chosen_32 rfl ?_
      refine ge_istore_n (n := 35) (lv2 := [(2, .int r_19), (1, .int x3_6), (4, .int r_19), (3, .int x3_6), (0, .ref (adr 9 0))]) C dX7_chosen_34 rfl rfl (by decide) rfl ?_
      refine ge_iinc (n := 38) (v := (x3_6 + (1 : Int32))) (lv2 := [(3, .int (x3_6 + (1 : Int32))), (2, .int r_19), (1, .int x3_6), (4, .int r_19), (0, .ref (adr 9 0))]) C 3 rfl dX7_chosen_35 rfl rfl (by decide) rfl ?_
      refine ge_goto (n := 6) C dX7_chosen_38 (by decide) ?_
      refine ge_sub [0, 1, 2, 4] rfl ?_
      exact hag6 (x3_6 + (1 : Int32)) r_19 x3_6 S_19
theorem dX7_tender_0 : decode cX7_tender 0 = .ok (.iconst (-1), 1) := by decide +kernel
theorem dX7_tender_1 : decode cX7_tender 1 = .ok (.istore_n 1, 1) := by decide +kernel
theorem dX7_tender_2 : decode cX7_tender 2 = .ok (.iconst 0, 1) := by decide +kernel
theorem dX7_tender_3 : decode cX7_tender 3 = .ok (.istore_n 2, 1) := by decide +kernel
theorem dX7_tender_4 : decode cX7_tender 4 = .ok (.iconst 0, 1) := by decide +kernel
theorem dX7_tender_5 : decode cX7_tender 5 = .ok (.istore_n 3, 1) := by decide +kernel
theorem dX7_tender_6 : decode cX7_tender 6 = .ok (.iload_n 3, 1) := by decide +kernel
theorem dX7_tender_7 : decode cX7_tender 7 = .ok (.aload_n 0, 1) := by decide +kernel
theorem dX7_tender_8 : decode cX7_tender 8 = .ok (.getfield 17, 3) := by decide +kernel
theorem dX7_tender_11 : decode cX7_tender 11 = .ok (.getfield 35, 3) := by decide +kernel
theorem dX7_tender_14 : decode cX7_tender 14 = .ok (.if_icmp .ge 73, 3) := by decide +kernel
theorem dX7_tender_17 : decode cX7_tender 17 = .ok (.iconst 0, 1) := by decide +kernel
theorem dX7_tender_18 : decode cX7_tender 18 = .ok (.istore 4, 2) := by decide +kernel
theorem dX7_tender_20 : decode cX7_tender 20 = .ok (.iload 4, 2) := by decide +kernel
theorem dX7_tender_22 : decode cX7_tender 22 = .ok (.iconst 5, 1) := by decide +kernel
theorem dX7_tender_23 : decode cX7_tender 23 = .ok (.if_icmp .ge 58, 3) := by decide +kernel
theorem dX7_tender_26 : decode cX7_tender 26 = .ok (.aload_n 0, 1) := by decide +kernel
theorem dX7_tender_27 : decode cX7_tender 27 = .ok (.getfield 11, 3) := by decide +kernel
theorem dX7_tender_30 : decode cX7_tender 30 = .ok (.iload_n 3, 1) := by decide +kernel
theorem dX7_tender_31 : decode cX7_tender 31 = .ok (.aaload, 1) := by decide +kernel
theorem dX7_tender_32 : decode cX7_tender 32 = .ok (.getfield 64, 3) := by decide +kernel
theorem dX7_tender_35 : decode cX7_tender 35 = .ok (.iload 4, 2) := by decide +kernel
theorem dX7_tender_37 : decode cX7_tender 37 = .ok (.iaload, 1) := by decide +kernel
theorem dX7_tender_38 : decode cX7_tender 38 = .ok (.aload_n 0, 1) := by decide +kernel
theorem dX7_tender_39 : decode cX7_tender 39 = .ok (.getfield 11, 3) := by decide +kernel
theorem dX7_tender_42 : decode cX7_tender 42 = .ok (.iload_n 3, 1) := by decide +kernel
theorem dX7_tender_43 : decode cX7_tender 43 = .ok (.aaload, 1) := by decide +kernel
theorem dX7_tender_44 : decode cX7_tender 44 = .ok (.getfield 111, 3) := by decide +kernel
theorem dX7_tender_47 : decode cX7_tender 47 = .ok (.iload 4, 2) := by decide +kernel
theorem dX7_tender_49 : decode cX7_tender 49 = .ok (.iaload, 1) := by decide +kernel
theorem dX7_tender_50 : decode cX7_tender 50 = .ok (.isub, 1) := by decide +kernel
theorem dX7_tender_51 : decode cX7_tender 51 = .ok (.istore 5, 2) := by decide +kernel
theorem dX7_tender_53 : decode cX7_tender 53 = .ok (.iload_n 1, 1) := by decide +kernel
theorem dX7_tender_54 : decode cX7_tender 54 = .ok (.iconst (-1), 1) := by decide +kernel
theorem dX7_tender_55 : decode cX7_tender 55 = .ok (.if_icmp .eq 9, 3) := by decide +kernel
theorem dX7_tender_58 : decode cX7_tender 58 = .ok (.iload 5, 2) := by decide +kernel
theorem dX7_tender_60 : decode cX7_tender 60 = .ok (.iload_n 2, 1) := by decide +kernel
theorem dX7_tender_61 : decode cX7_tender 61 = .ok (.if_icmp .le 14, 3) := by decide +kernel
theorem dX7_tender_64 : decode cX7_tender 64 = .ok (.bipush 10, 2) := by decide +kernel
theorem dX7_tender_66 : decode cX7_tender 66 = .ok (.iload_n 3, 1) := by decide +kernel
theorem dX7_tender_67 : decode cX7_tender 67 = .ok (.imul, 1) := by decide +kernel
theorem dX7_tender_68 : decode cX7_tender 68 = .ok (.iload 4, 2) := by decide +kernel
theorem dX7_tender_70 : decode cX7_tender 70 = .ok (.iadd, 1) := by decide +kernel
theorem dX7_tender_71 : decode cX7_tender 71 = .ok (.istore_n 1, 1) := by decide +kernel
theorem dX7_tender_72 : decode cX7_tender 72 = .ok (.iload 5, 2) := by decide +kernel
theorem dX7_tender_74 : decode cX7_tender 74 = .ok (.istore_n 2, 1) := by decide +kernel
theorem dX7_tender_75 : decode cX7_tender 75 = .ok (.iinc 4 1, 3) := by decide +kernel
theorem dX7_tender_78 : decode cX7_tender 78 = .ok (.goto (-58), 3) := by decide +kernel
theorem dX7_tender_81 : decode cX7_tender 81 = .ok (.iinc 3 1, 3) := by decide +kernel
theorem dX7_tender_84 : decode cX7_tender 84 = .ok (.goto (-78), 3) := by decide +kernel
theorem dX7_tender_87 : decode cX7_tender 87 = .ok (.iload_n 1, 1) := by decide +kernel
theorem dX7_tender_88 : decode cX7_tender 88 = .ok (.ireturn, 1) := by decide +kernel
set_option maxRecDepth 100000 in
set_option maxHeartbeats 4000000 in
theorem mX7_tender {w : WX} {adr : Nat → Nat → Nat} (hj : Ij adr)  (S : St) : ∀ (l : Launch) (r : Int32) (S2 : St), fX7_tender S = some (r, S2) → Mi l w adr yX7_tender cX7_tender 6 (some .int) 0 0 [.ref (adr 9 0)] S r S2 := by
  refine mi_of (lv := [(0, .ref (adr 9 0))]) hj (plainFor_of_name (by decide +kernel)) rfl (Nat.le_of_ble_eq_true rfl) (fun k C Rr => ?_)
  have C : Cx w adr k cX7_tender RX7 6 0 0 := C
  refine ge_iconst (v := -1) (n := 1) C dX7_tender_0 (by decide) rfl ?_
  refine ge_istore_n (n := 2) (lv2 := [(1, .int (-1 : Int32)), (0, .ref (adr 9 0))]) C dX7_tender_1 rfl rfl (by decide) rfl ?_
  refine ge_iconst (v := 0) (n := 3) C dX7_tender_2 (by decide) rfl ?_
  refine ge_istore_n (n := 4) (lv2 := [(2, .int (0 : Int32)), (1, .int (-1 : Int32)), (0, .ref (adr 9 0))]) C dX7_tender_3 rfl rfl (by decide) rfl ?_
  refine ge_iconst (v := 0) (n := 5) C dX7_tender_4 (by decide) rfl ?_
  refine ge_istore_n (n := 6) (lv2 := [(3, .int (0 : Int32)), (2, .int (0 : Int32)), (1, .int (-1 : Int32)), (0, .ref (adr 9 0))]) C dX7_tender_5 rfl rfl (by decide) rfl ?_
  refine ge_jn (fun (jj : Int32 → Op) => ∀ (x1_87 : Int32), Ge w adr k 87 [(1, .int x1_87)] [] S (jj x1_87)) (fun x1_87 => ?_) (fun kk6 hkk6 => ?_)
  · refine ge_iload_n (n := 88) C 0 rfl dX7_tender_87 rfl rfl ?_
    exact ge_iret C Rr dX7_tender_88
  refine ge_lop (fun (jj : Int32 → Int32 → Int32 → Op) => ∀ (x3_6 : Int32) (x2_6 : Int32) (x1_6 : Int32), Ge w adr k 6 [(3, .int x3_6), (2, .int x2_6), (1, .int x1_6), (0, .ref (adr 9 0))] [] S (jj x3_6 x2_6 x1_6)) (fun _ _ _ => ge_none) (fun ag6 hag6 x3_6 x2_6 x1_6 => ?_) FU (0 : Int32) (0 : Int32) (-1 : Int32)
  refine ge_iload_n (n := 7) C 0 rfl dX7_tender_6 rfl rfl ?_
  refine ge_aload_n (n := 8) C 3 rfl dX7_tender_7 rfl rfl ?_
  refine gt_X7_17 (n := 11) C (by decide) dX7_tender_8 rfl ?_
  refine gt_X7_35 (n := 14) C (pid_lt _) dX7_tender_11 rfl ?_
  refine ge_icmp_ge (t := 87) (n := 17) C dX7_tender_14 (by decide) rfl (fun h_14 => ?_) (fun h_14 => ?_)
  · refine ge_sub [2] rfl ?_
    exact hkk6 x1_6
  · refine ge_iconst (v := 0) (n := 18) C dX7_tender_17 (by decide) rfl ?_
    refine ge_istore (n := 20) (lv2 := [(4, .int (0 : Int32)), (3, .int x3_6), (2, .int x2_6), (1, .int x1_6), (0, .ref (adr 9 0))]) C dX7_tender_18 rfl (by decide) rfl ?_
    refine ge_jn (fun (jj : Int32 → Int32 → Op) => ∀ (x2_81 : Int32) (x1_81 : Int32), Ge w adr k 81 [(3, .int x3_6), (2, .int x2_81), (1, .int x1_81), (0, .ref (adr 9 0))] [] S (jj x2_81 x1_81)) (fun x2_81 x1_81 => ?_) (fun kk20 hkk20 => ?_)
    · refine ge_iinc (n := 84) (v := (x3_6 + (1 : Int32))) (lv2 := [(3, .int (x3_6 + (1 : Int32))), (2, .int x2_81), (1, .int x1_81), (0, .ref (adr 9 0))]) C 0 rfl dX7_tender_81 rfl rfl (by decide) rfl ?_
      refine ge_goto (n := 6) C dX7_tender_84 (by decide) ?_
      exact hag6 (x3_6 + (1 : Int32)) x2_81 x1_81
    refine ge_lop (fun (jj : Int32 → Int32 → Int32 → Op) => ∀ (x4_20 : Int32) (x2_20 : Int32) (x1_20 : Int32), Ge w adr k 20 [(4, .int x4_20), (3, .int x3_6), (2, .int x2_20), (1, .int x1_20), (0, .ref (adr 9 0))] [] S (jj x4_20 x2_20 x1_20)) (fun _ _ _ => ge_none) (fun ag20 hag20 x4_20 x2_20 x1_20 => ?_) FU (0 : Int32) x2_6 x1_6
    refine ge_iload (n := 22) C 0 rfl dX7_tender_20 rfl ?_
    refine ge_iconst (v := 5) (n := 23) C dX7_tender_22 (by decide) rfl ?_
    refine ge_icmp_ge (t := 81) (n := 26) C dX7_tender_23 (by decide) rfl (fun h_23 => ?_) (fun h_23 => ?_)
    · refine ge_sub [1, 2, 3, 4] rfl ?_
      exact hkk20 x2_20 x1_20
    · refine ge_aload_n (n := 27) C 4 rfl dX7_tender_26 rfl rfl ?_
      refine gt_X7_11 (n := 30) C (by decide) dX7_tender_27 rfl ?_
      refine ge_iload_n (n := 31) C 1 rfl dX7_tender_30 rfl rfl ?_
      refine al_10 (n := 32) C (by decide) dX7_tender_31 rfl (fun h_31 => ?_)
      refine gt_X7_64 (n := 35) C (bd_c h_31 (by decide)) dX7_tender_32 rfl ?_
      refine ge_iload (n := 37) C 0 rfl dX7_tender_35 rfl ?_
      refine al_12 (n := 38) C (bd_c h_31 (by decide)) dX7_tender_37 rfl ?_
      refine ge_aload_n (n := 39) C 4 rfl dX7_tender_38 rfl rfl ?_
      refine gt_X7_11 (n := 42) C (by decide) dX7_tender_39 rfl ?_
      refine ge_iload_n (n := 43) C 1 rfl dX7_tender_42 rfl rfl ?_
      refine al_10 (n := 44) C (by decide) dX7_tender_43 rfl (fun h_43 => ?_)
      refine gt_X7_111 (n := 47) C (bd_c h_43 (by decide)) dX7_tender_44 rfl ?_
      refine ge_iload (n := 49) C 0 rfl dX7_tender_47 rfl ?_
      refine al_13 (n := 50) C (bd_c h_43 (by decide)) dX7_tender_49 rfl ?_
      refine ge_isub (n := 51) C dX7_tender_50 rfl ?_
      refine ge_bi (fun x5_51 => ?_)
      refine ge_istore (n := 53) (lv2 := [(5, .int x5_51), (4, .int x4_20), (3, .int x3_6), (2, .int x2_20), (1, .int x1_20), (0, .ref (adr 9 0))]) C dX7_tender_51 rfl (by decide) rfl ?_
      refine ge_iload_n (n := 54) C 4 rfl dX7_tender_53 rfl rfl ?_
      refine ge_iconst (v := -1) (n := 55) C dX7_tender_54 (by decide) rfl ?_
      refine ge_jn (fun (jj : Op) => Ge w adr k 64 [(5, .int x5_51), (4, .int x4_20), (3, .int x3_6), (0, .ref (adr 9 0))] [] S (jj)) ?_ (fun j64 hj64 => ?_)
      · refine ge_bipush (v := 10) (n := 66) C dX7_tender_64 (by decide) rfl ?_
        refine ge_iload_n (n := 67) C 2 rfl dX7_tender_66 rfl rfl ?_
        refine ge_imul (n := 68) C dX7_tender_67 rfl ?_
        refine ge_iload (n := 70) C 1 rfl dX7_tender_68 rfl ?_
        refine ge_iadd (n := 71) C dX7_tender_70 rfl ?_
        refine ge_bi (fun x1_71 => ?_)
        refine ge_istore_n (n := 72) (lv2 := [(1, .int x1_71), (5, .int x5_51), (4, .int x4_20), (3, .int x3_6), (0, .ref (adr 9 0))]) C dX7_tender_71 rfl rfl (by decide) rfl ?_
        refine ge_iload (n := 74) C 1 rfl dX7_tender_72 rfl ?_
        refine ge_istore_n (n := 75) (lv2 := [(2, .int x5_51), (1, .int x1_71), (5, .int x5_51), (4, .int x4_20), (3, .int x3_6), (0, .ref (adr 9 0))]) C dX7_tender_74 rfl rfl (by decide) rfl ?_
        refine ge_iinc (n := 78) (v := (x4_20 + (1 : Int32))) (lv2 := [(4, .int (x4_20 + (1 : Int32))), (2, .int x5_51), (1, .int x1_71), (5, .int x5_51), (3, .int x3_6), (0, .ref (adr 9 0))]) C 3 rfl dX7_tender_75 rfl rfl (by decide) rfl ?_
        refine ge_goto (n := 20) C dX7_tender_78 (by decide) ?_
        refine ge_sub [0, 4, 1, 2, 5] rfl ?_
        exact hag20 (x4_20 + (1 : Int32)) x5_51 x1_71
      refine ge_icmp_eq (t := 64) (n := 58) C dX7_tender_55 (by decide) rfl (fun h_55 => ?_) (fun h_55 => ?_)
      · refine ge_sub [0, 1, 2, 5] rfl ?_
        exact hj64
      · refine ge_iload (n := 60) C 0 rfl dX7_tender_58 rfl ?_
        refine ge_iload_n (n := 61) C 3 rfl dX7_tender_60 rfl rfl ?_
        refine ge_icmp_le (t := 75) (n := 64) C dX7_tender_61 (by decide) rfl (fun h_61 => ?_) (fun h_61 => ?_)
        · refine ge_iinc (n := 78) (v := (x4_20 + (1 : Int32))) (lv2 := [(4, .int (x4_20 + (1 : Int32))), (5, .int x5_51), (3, .int x3_6), (2, .int x2_20), (1, .int x1_20), (0, .ref (adr 9 0))]) C 1 rfl dX7_tender_75 rfl rfl (by decide) rfl ?_
          refine ge_goto (n := 20) C dX7_tender_78 (by decide) ?_
          refine ge_sub [0, 2, 3, 4, 5] rfl ?_
          exact hag20 (x4_20 + (1 : Int32)) x2_20 x1_20
        · refine ge_sub [0, 1, 2, 5] rfl ?_
          exact hj64
theorem dX8_add_0 : decode cX8_add 0 = .ok (.aload_n 0, 1) := by decide +kernel
theorem dX8_add_1 : decode cX8_add 1 = .ok (.getfield 19, 3) := by decide +kernel
theorem dX8_add_4 : decode cX8_add 4 = .ok (.sipush 240, 3) := by decide +kernel
theorem dX8_add_7 : decode cX8_add 7 = .ok (.if_icmp .ge 23, 3) := by decide +kernel
theorem dX8_add_10 : decode cX8_add 10 = .ok (.aload_n 0, 1) := by decide +kernel
theorem dX8_add_11 : decode cX8_add 11 = .ok (.getfield 9, 3) := by decide +kernel
theorem dX8_add_14 : decode cX8_add 14 = .ok (.aload_n 0, 1) := by decide +kernel
theorem dX8_add_15 : decode cX8_add 15 = .ok (.getfield 19, 3) := by decide +kernel
theorem dX8_add_18 : decode cX8_add 18 = .ok (.iload_n 1, 1) := by decide +kernel
theorem dX8_add_19 : decode cX8_add 19 = .ok (.iastore, 1) := by decide +kernel
theorem dX8_add_20 : decode cX8_add 20 = .ok (.aload_n 0, 1) := by decide +kernel
theorem dX8_add_21 : decode cX8_add 21 = .ok (.dup, 1) := by decide +kernel
theorem dX8_add_22 : decode cX8_add 22 = .ok (.getfield 19, 3) := by decide +kernel
theorem dX8_add_25 : decode cX8_add 25 = .ok (.iconst 1, 1) := by decide +kernel
theorem dX8_add_26 : decode cX8_add 26 = .ok (.iadd, 1) := by decide +kernel
theorem dX8_add_27 : decode cX8_add 27 = .ok (.putfield 19, 3) := by decide +kernel
theorem dX8_add_30 : decode cX8_add 30 = .ok (.aload_n 0, 1) := by decide +kernel
theorem dX8_add_31 : decode cX8_add 31 = .ok (.getfield 19, 3) := by decide +kernel
theorem dX8_add_34 : decode cX8_add 34 = .ok (.ireturn, 1) := by decide +kernel
set_option maxRecDepth 100000 in
set_option maxHeartbeats 4000000 in
theorem mX8_add {w : WX} {adr : Nat → Nat → Nat} (hj : Ij adr) (a1 : Int32) (S : St) : ∀ (l : Launch) (r : Int32) (S2 : St), fX8_add a1 S = some (r, S2) → Mi l w adr yX8_add cX8_add 2 (some .int) 0 0 [.ref (adr 1 0), .int a1] S r S2 := by
  refine mi_of (lv := [(0, .ref (adr 1 0)), (1, .int a1)]) hj (plainFor_of_name (by decide +kernel)) rfl (Nat.le_of_ble_eq_true rfl) (fun k C Rr => ?_)
  have C : Cx w adr k cX8_add RX8 2 0 0 := C
  refine ge_aload_n (n := 1) C 0 rfl dX8_add_0 rfl rfl ?_
  refine gt_X8_19 (n := 4) C (by decide) dX8_add_1 rfl ?_
  refine ge_sipush (v := 240) (n := 7) C dX8_add_4 (by decide) rfl ?_
  refine ge_icmp_ge (t := 30) (n := 10) C dX8_add_7 (by decide) rfl (fun h_7 => ?_) (fun h_7 => ?_)
  · refine ge_aload_n (n := 31) C 0 rfl dX8_add_30 rfl rfl ?_
    refine gt_X8_19 (n := 34) C (by decide) dX8_add_31 rfl ?_
    exact ge_iret C Rr dX8_add_34
  · refine ge_aload_n (n := 11) C 0 rfl dX8_add_10 rfl rfl ?_
    refine gt_X8_9 (n := 14) C (by decide) dX8_add_11 rfl ?_
    refine ge_aload_n (n := 15) C 0 rfl dX8_add_14 rfl rfl ?_
    refine gt_X8_19 (n := 18) C (by decide) dX8_add_15 rfl ?_
    refine ge_iload_n (n := 19) C 1 rfl dX8_add_18 rfl rfl ?_
    refine as_2 (n := 20) C (by decide) dX8_add_19 rfl (fun S_19 => ?_)
    refine ge_aload_n (n := 21) C 0 rfl dX8_add_20 rfl rfl ?_
    refine ge_dup (n := 22) C dX8_add_21 rfl rfl ?_
    refine gt_X8_19 (n := 25) C (by decide) dX8_add_22 rfl ?_
    refine ge_iconst (v := 1) (n := 26) C dX8_add_25 (by decide) rfl ?_
    refine ge_iadd (n := 27) C dX8_add_26 rfl ?_
    refine pt_X8_19 (n := 30) C (by decide) dX8_add_27 rfl (fun S_27 => ?_)
    refine ge_aload_n (n := 31) C 0 rfl dX8_add_30 rfl rfl ?_
    refine gt_X8_19 (n := 34) C (by decide) dX8_add_31 rfl ?_
    exact ge_iret C Rr dX8_add_34
theorem dX8_skipBlanks_0 : decode cX8_skipBlanks 0 = .ok (.aload_n 0, 1) := by decide +kernel
theorem dX8_skipBlanks_1 : decode cX8_skipBlanks 1 = .ok (.getfield 27, 3) := by decide +kernel
theorem dX8_skipBlanks_4 : decode cX8_skipBlanks 4 = .ok (.aload_n 0, 1) := by decide +kernel
theorem dX8_skipBlanks_5 : decode cX8_skipBlanks 5 = .ok (.getfield 19, 3) := by decide +kernel
theorem dX8_skipBlanks_8 : decode cX8_skipBlanks 8 = .ok (.if_icmp .ge 30, 3) := by decide +kernel
theorem dX8_skipBlanks_11 : decode cX8_skipBlanks 11 = .ok (.aload_n 0, 1) := by decide +kernel
theorem dX8_skipBlanks_12 : decode cX8_skipBlanks 12 = .ok (.getfield 9, 3) := by decide +kernel
theorem dX8_skipBlanks_15 : decode cX8_skipBlanks 15 = .ok (.aload_n 0, 1) := by decide +kernel
theorem dX8_skipBlanks_16 : decode cX8_skipBlanks 16 = .ok (.getfield 27, 3) := by decide +kernel
theorem dX8_skipBlanks_19 : decode cX8_skipBlanks 19 = .ok (.iaload, 1) := by decide +kernel
theorem dX8_skipBlanks_20 : decode cX8_skipBlanks 20 = .ok (.bipush 32, 2) := by decide +kernel
theorem dX8_skipBlanks_22 : decode cX8_skipBlanks 22 = .ok (.if_icmp .ne 16, 3) := by decide +kernel
theorem dX8_skipBlanks_25 : decode cX8_skipBlanks 25 = .ok (.aload_n 0, 1) := by decide +kernel
theorem dX8_skipBlanks_26 : decode cX8_skipBlanks 26 = .ok (.dup, 1) := by decide +kernel
theorem dX8_skipBlanks_27 : decode cX8_skipBlanks 27 = .ok (.getfield 27, 3) := by decide +kernel
theorem dX8_skipBlanks_30 : decode cX8_skipBlanks 30 = .ok (.iconst 1, 1) := by decide +kernel
theorem dX8_skipBlanks_31 : decode cX8_skipBlanks 31 = .ok (.iadd, 1) := by decide +kernel
theorem dX8_skipBlanks_32 : decode cX8_skipBlanks 32 = .ok (.putfield 27, 3) := by decide +kernel
theorem dX8_skipBlanks_35 : decode cX8_skipBlanks 35 = .ok (.goto (-35), 3) := by decide +kernel
theorem dX8_skipBlanks_38 : decode cX8_skipBlanks 38 = .ok (.return_, 1) := by decide +kernel
set_option maxRecDepth 100000 in
set_option maxHeartbeats 4000000 in
theorem mX8_skipBlanks {w : WX} {adr : Nat → Nat → Nat} (hj : Ij adr)  (S : St) : ∀ (l : Launch) (r : Int32) (S2 : St), fX8_skipBlanks S = some (r, S2) → Mv l w adr yX8_skipBlanks cX8_skipBlanks 1 none 0 0 [.ref (adr 1 0)] S S2 := by
  refine mv_of (lv := [(0, .ref (adr 1 0))]) hj (plainFor_of_name (by decide +kernel)) rfl (Nat.le_of_ble_eq_true rfl) (fun k C Rr => ?_)
  have C : Cx w adr k cX8_skipBlanks RX8 1 0 0 := C
  refine ge_jn (fun (jj : St → Op) => ∀ (S_38 : St), Ge w adr k 38 [] [] S_38 (jj S_38)) (fun S_38 => ?_) (fun kk0 hkk0 => ?_)
  · exact ge_vret C Rr dX8_skipBlanks_38
  refine ge_lop (fun (jj : St → Op) => ∀ (S_0 : St), Ge w adr k 0 [(0, .ref (adr 1 0))] [] S_0 (jj S_0)) (fun _ => ge_none) (fun ag0 hag0 S_0 => ?_) FU S
  refine ge_aload_n (n := 1) C 0 rfl dX8_skipBlanks_0 rfl rfl ?_
  refine gt_X8_27 (n := 4) C (by decide) dX8_skipBlanks_1 rfl ?_
  refine ge_aload_n (n := 5) C 0 rfl dX8_skipBlanks_4 rfl rfl ?_
  refine gt_X8_19 (n := 8) C (by decide) dX8_skipBlanks_5 rfl ?_
  refine ge_icmp_ge (t := 38) (n := 11) C dX8_skipBlanks_8 (by decide) rfl (fun h_8 => ?_) (fun h_8 => ?_)
  · refine ge_sub [] rfl ?_
    exact hkk0 S_0
  · refine ge_aload_n (n := 12) C 0 rfl dX8_skipBlanks_11 rfl rfl ?_
    refine gt_X8_9 (n := 15) C (by decide) dX8_skipBlanks_12 rfl ?_
    refine ge_aload_n (n := 16) C 0 rfl dX8_skipBlanks_15 rfl rfl ?_
    refine gt_X8_27 (n := 19) C (by decide) dX8_skipBlanks_16 rfl ?_
    refine al_2 (n := 20) C (by decide) dX8_skipBlanks_19 rfl ?_
    refine ge_bipush (v := 32) (n := 22) C dX8_skipBlanks_20 (by decide) rfl ?_
    refine ge_icmp_ne (t := 38) (n := 25) C dX8_skipBlanks_22 (by decide) rfl (fun h_22 => ?_) (fun h_22 => ?_)
    · refine ge_sub [] rfl ?_
      exact hkk0 S_0
    · refine ge_aload_n (n := 26) C 0 rfl dX8_skipBlanks_25 rfl rfl ?_
      refine ge_dup (n := 27) C dX8_skipBlanks_26 rfl rfl ?_
      refine gt_X8_27 (n := 30) C (by decide) dX8_skipBlanks_27 rfl ?_
      refine ge_iconst (v := 1) (n := 31) C dX8_skipBlanks_30 (by decide) rfl ?_
      refine ge_iadd (n := 32) C dX8_skipBlanks_31 rfl ?_
      refine pt_X8_27 (n := 35) C (by decide) dX8_skipBlanks_32 rfl (fun S_32 => ?_)
      refine ge_goto (n := 0) C dX8_skipBlanks_35 (by decide) ?_
      exact hag0 S_32
theorem dX8_letter_0 : decode cX8_letter 0 = .ok (.aload_n 0, 1) := by decide +kernel
theorem dX8_letter_1 : decode cX8_letter 1 = .ok (.getfield 27, 3) := by decide +kernel
theorem dX8_letter_4 : decode cX8_letter 4 = .ok (.aload_n 0, 1) := by decide +kernel
theorem dX8_letter_5 : decode cX8_letter 5 = .ok (.getfield 19, 3) := by decide +kernel
theorem dX8_letter_8 : decode cX8_letter 8 = .ok (.if_icmp .ge 15, 3) := by decide +kernel
theorem dX8_letter_11 : decode cX8_letter 11 = .ok (.aload_n 0, 1) := by decide +kernel
theorem dX8_letter_12 : decode cX8_letter 12 = .ok (.getfield 9, 3) := by decide +kernel
theorem dX8_letter_15 : decode cX8_letter 15 = .ok (.aload_n 0, 1) := by decide +kernel
theorem dX8_letter_16 : decode cX8_letter 16 = .ok (.getfield 27, 3) := by decide +kernel
theorem dX8_letter_19 : decode cX8_letter 19 = .ok (.iaload, 1) := by decide +kernel
theorem dX8_letter_20 : decode cX8_letter 20 = .ok (.goto 4, 3) := by decide +kernel
theorem dX8_letter_23 : decode cX8_letter 23 = .ok (.iconst (-1), 1) := by decide +kernel
theorem dX8_letter_24 : decode cX8_letter 24 = .ok (.ireturn, 1) := by decide +kernel
set_option maxRecDepth 100000 in
set_option maxHeartbeats 4000000 in
theorem mX8_letter {w : WX} {adr : Nat → Nat → Nat} (hj : Ij adr)  (S : St) : ∀ (l : Launch) (r : Int32) (S2 : St), fX8_letter S = some (r, S2) → Mi l w adr yX8_letter cX8_letter 1 (some .int) 0 0 [.ref (adr 1 0)] S r S2 := by
  refine mi_of (lv := [(0, .ref (adr 1 0))]) hj (plainFor_of_name (by decide +kernel)) rfl (Nat.le_of_ble_eq_true rfl) (fun k C Rr => ?_)
  have C : Cx w adr k cX8_letter RX8 1 0 0 := C
  refine ge_aload_n (n := 1) C 0 rfl dX8_letter_0 rfl rfl ?_
  refine gt_X8_27 (n := 4) C (by decide) dX8_letter_1 rfl ?_
  refine ge_aload_n (n := 5) C 0 rfl dX8_letter_4 rfl rfl ?_
  refine gt_X8_19 (n := 8) C (by decide) dX8_letter_5 rfl ?_
  refine ge_icmp_ge (t := 23) (n := 11) C dX8_letter_8 (by decide) rfl (fun h_8 => ?_) (fun h_8 => ?_)
  · refine ge_iconst (v := -1) (n := 24) C dX8_letter_23 (by decide) rfl ?_
    exact ge_iret C Rr dX8_letter_24
  · refine ge_aload_n (n := 12) C 0 rfl dX8_letter_11 rfl rfl ?_
    refine gt_X8_9 (n := 15) C (by decide) dX8_letter_12 rfl ?_
    refine ge_aload_n (n := 16) C 0 rfl dX8_letter_15 rfl rfl ?_
    refine gt_X8_27 (n := 19) C (by decide) dX8_letter_16 rfl ?_
    refine al_2 (n := 20) C (by decide) dX8_letter_19 rfl ?_
    refine ge_goto (n := 24) C dX8_letter_20 (by decide) ?_
    exact ge_iret C Rr dX8_letter_24
theorem dX8_faultOfWord_0 : decode cX8_faultOfWord 0 = .ok (.aload_n 1, 1) := by decide +kernel
theorem dX8_faultOfWord_1 : decode cX8_faultOfWord 1 = .ok (.invokevirtual 65, 3) := by decide +kernel
theorem dX8_faultOfWord_4 : decode cX8_faultOfWord 4 = .ok (.ifCond .eq 15, 3) := by decide +kernel
theorem dX8_faultOfWord_7 : decode cX8_faultOfWord 7 = .ok (.iload_n 0, 1) := by decide +kernel
theorem dX8_faultOfWord_8 : decode cX8_faultOfWord 8 = .ok (.bipush 116, 2) := by decide +kernel
theorem dX8_faultOfWord_10 : decode cX8_faultOfWord 10 = .ok (.if_icmp .ne 7, 3) := by decide +kernel
theorem dX8_faultOfWord_13 : decode cX8_faultOfWord 13 = .ok (.iconst 0, 1) := by decide +kernel
theorem dX8_faultOfWord_14 : decode cX8_faultOfWord 14 = .ok (.goto 4, 3) := by decide +kernel
theorem dX8_faultOfWord_17 : decode cX8_faultOfWord 17 = .ok (.iconst 1, 1) := by decide +kernel
theorem dX8_faultOfWord_18 : decode cX8_faultOfWord 18 = .ok (.ireturn, 1) := by decide +kernel
theorem dX8_faultOfWord_19 : decode cX8_faultOfWord 19 = .ok (.iload_n 0, 1) := by decide +kernel
theorem dX8_faultOfWord_20 : decode cX8_faultOfWord 20 = .ok (.bipush 116, 2) := by decide +kernel
theorem dX8_faultOfWord_22 : decode cX8_faultOfWord 22 = .ok (.if_icmp .ne 5, 3) := by decide +kernel
theorem dX8_faultOfWord_25 : decode cX8_faultOfWord 25 = .ok (.iconst 3, 1) := by decide +kernel
theorem dX8_faultOfWord_26 : decode cX8_faultOfWord 26 = .ok (.ireturn, 1) := by decide +kernel
theorem dX8_faultOfWord_27 : decode cX8_faultOfWord 27 = .ok (.iload_n 0, 1) := by decide +kernel
theorem dX8_faultOfWord_28 : decode cX8_faultOfWord 28 = .ok (.bipush 109, 2) := by decide +kernel
theorem dX8_faultOfWord_30 : decode cX8_faultOfWord 30 = .ok (.if_icmp .ne 18, 3) := by decide +kernel
theorem dX8_faultOfWord_33 : decode cX8_faultOfWord 33 = .ok (.aload_n 1, 1) := by decide +kernel
theorem dX8_faultOfWord_34 : decode cX8_faultOfWord 34 = .ok (.getfield 69, 3) := by decide +kernel
theorem dX8_faultOfWord_37 : decode cX8_faultOfWord 37 = .ok (.bipush 6, 2) := by decide +kernel
theorem dX8_faultOfWord_39 : decode cX8_faultOfWord 39 = .ok (.if_icmp .ge 7, 3) := by decide +kernel
theorem dX8_faultOfWord_42 : decode cX8_faultOfWord 42 = .ok (.iconst 0, 1) := by decide +kernel
theorem dX8_faultOfWord_43 : decode cX8_faultOfWord 43 = .ok (.goto 4, 3) := by decide +kernel
theorem dX8_faultOfWord_46 : decode cX8_faultOfWord 46 = .ok (.iconst 3, 1) := by decide +kernel
theorem dX8_faultOfWord_47 : decode cX8_faultOfWord 47 = .ok (.ireturn, 1) := by decide +kernel
theorem dX8_faultOfWord_48 : decode cX8_faultOfWord 48 = .ok (.iload_n 0, 1) := by decide +kernel
theorem dX8_faultOfWord_49 : decode cX8_faultOfWord 49 = .ok (.bipush 115, 2) := by decide +kernel
theorem dX8_faultOfWord_51 : decode cX8_faultOfWord 51 = .ok (.if_icmp .ne 18, 3) := by decide +kernel
theorem dX8_faultOfWord_54 : decode cX8_faultOfWord 54 = .ok (.aload_n 1, 1) := by decide +kernel
theorem dX8_faultOfWord_55 : decode cX8_faultOfWord 55 = .ok (.getfield 72, 3) := by decide +kernel
theorem dX8_faultOfWord_58 : decode cX8_faultOfWord 58 = .ok (.bipush 8, 2) := by decide +kernel
theorem dX8_faultOfWord_60 : decode cX8_faultOfWord 60 = .ok (.if_icmp .ge 7, 3) := by decide +kernel
theorem dX8_faultOfWord_63 : decode cX8_faultOfWord 63 = .ok (.iconst 0, 1) := by decide +kernel
theorem dX8_faultOfWord_64 : decode cX8_faultOfWord 64 = .ok (.goto 4, 3) := by decide +kernel
theorem dX8_faultOfWord_67 : decode cX8_faultOfWord 67 = .ok (.iconst 3, 1) := by decide +kernel
theorem dX8_faultOfWord_68 : decode cX8_faultOfWord 68 = .ok (.ireturn, 1) := by decide +kernel
theorem dX8_faultOfWord_69 : decode cX8_faultOfWord 69 = .ok (.iconst 1, 1) := by decide +kernel
theorem dX8_faultOfWord_70 : decode cX8_faultOfWord 70 = .ok (.ireturn, 1) := by decide +kernel
set_option maxRecDepth 100000 in
set_option maxHeartbeats 4000000 in
theorem mX8_faultOfWord {w : WX} {adr : Nat → Nat → Nat} (hj : Ij adr) (a0 : Int32) {o1 : Nat} (ho1 : o1 < 2) (S : St) : ∀ (l : Launch) (r : Int32) (S2 : St), fX8_faultOfWord a0 o1 S = some (r, S2) → Mi l w adr yX8_faultOfWord cX8_faultOfWord 2 (some .int) 1 20 [.int a0, .ref (adr 3 o1)] S r S2 := by
  refine mi_of (lv := [(0, .int a0), (1, .ref (adr 3 o1))]) hj (plainFor_of_name (by decide +kernel)) rfl (Nat.le_of_ble_eq_true rfl) (fun k C Rr => ?_)
  have C : Cx w adr k cX8_faultOfWord RX8 2 1 20 := C
  refine ge_aload_n (n := 1) C 1 rfl dX8_faultOfWord_0 rfl rfl ?_
  refine ge_callVi (n := 4) C (mX6_isNone hj (o0 := o1) ho1 S) gv_X8_65 (cl_3 ho1) rfl rfl hc_X6_isNone ⟨Nat.le_of_ble_eq_true rfl, Nat.le_of_ble_eq_true rfl⟩ rfl rfl (Nat.le_of_ble_eq_true rfl) dX8_faultOfWord_1 rfl (fun r_1 S_1 => ?_)
  refine ge_if_eq (t := 19) (n := 7) C dX8_faultOfWord_4 (by decide) rfl (fun h_4 => ?_) (fun h_4 => ?_)
  · refine ge_iload_n (n := 20) C 0 rfl dX8_faultOfWord_19 rfl rfl ?_
    refine ge_bipush (v := 116) (n := 22) C dX8_faultOfWord_20 (by decide) rfl ?_
    refine ge_icmp_ne (t := 27) (n := 25) C dX8_faultOfWord_22 (by decide) rfl (fun h_22 => ?_) (fun h_22 => ?_)
    · refine ge_iload_n (n := 28) C 0 rfl dX8_faultOfWord_27 rfl rfl ?_
      refine ge_bipush (v := 109) (n := 30) C dX8_faultOfWord_28 (by decide) rfl ?_
      refine ge_icmp_ne (t := 48) (n := 33) C dX8_faultOfWord_30 (by decide) rfl (fun h_30 => ?_) (fun h_30 => ?_)
      · refine ge_iload_n (n := 49) C 0 rfl dX8_faultOfWord_48 rfl rfl ?_
        refine ge_bipush (v := 115) (n := 51) C dX8_faultOfWord_49 (by decide) rfl ?_
        refine ge_icmp_ne (t := 69) (n := 54) C dX8_faultOfWord_51 (by decide) rfl (fun h_51 => ?_) (fun h_51 => ?_)
        · refine ge_iconst (v := 1) (n := 70) C dX8_faultOfWord_69 (by decide) rfl ?_
          exact ge_iret C Rr dX8_faultOfWord_70
        · refine ge_aload_n (n := 55) C 1 rfl dX8_faultOfWord_54 rfl rfl ?_
          refine gt_X8_72 (n := 58) C ho1 dX8_faultOfWord_55 rfl ?_
          refine ge_bipush (v := 8) (n := 60) C dX8_faultOfWord_58 (by decide) rfl ?_
          refine ge_icmp_ge (t := 67) (n := 63) C dX8_faultOfWord_60 (by decide) rfl (fun h_60 => ?_) (fun h_60 => ?_)
          · refine ge_iconst (v := 3) (n := 68) C dX8_faultOfWord_67 (by decide) rfl ?_
            exact ge_iret C Rr dX8_faultOfWord_68
          · refine ge_iconst (v := 0) (n := 64) C dX8_faultOfWord_63 (by decide) rfl ?_
            refine ge_goto (n := 68) C dX8_faultOfWord_64 (by decide) ?_
            exact ge_iret C Rr dX8_faultOfWord_68
      · refine ge_aload_n (n := 34) C 1 rfl dX8_faultOfWord_33 rfl rfl ?_
        refine gt_X8_69 (n := 37) C ho1 dX8_faultOfWord_34 rfl ?_
        refine ge_bipush (v := 6) (n := 39) C dX8_faultOfWord_37 (by decide) rfl ?_
        refine ge_icmp_ge (t := 46) (n := 42) C dX8_faultOfWord_39 (by decide) rfl (fun h_39 => ?_) (fun h_39 => ?_)
        · refine ge_iconst (v := 3) (n := 47) C dX8_faultOfWord_46 (by decide) rfl ?_
          exact ge_iret C Rr dX8_faultOfWord_47
        · refine ge_iconst (v := 0) (n := 43) C dX8_faultOfWord_42 (by decide) rfl ?_
          refine ge_goto (n := 47) C dX8_faultOfWord_43 (by decide) ?_
          exact ge_iret C Rr dX8_faultOfWord_47
    · refine ge_iconst (v := 3) (n := 26) C dX8_faultOfWord_25 (by decide) rfl ?_
      exact ge_iret C Rr dX8_faultOfWord_26
  · refine ge_iload_n (n := 8) C 0 rfl dX8_faultOfWord_7 rfl rfl ?_
    refine ge_bipush (v := 116) (n := 10) C dX8_faultOfWord_8 (by decide) rfl ?_
    refine ge_icmp_ne (t := 17) (n := 13) C dX8_faultOfWord_10 (by decide) rfl (fun h_10 => ?_) (fun h_10 => ?_)
    · refine ge_iconst (v := 1) (n := 18) C dX8_faultOfWord_17 (by decide) rfl ?_
      exact ge_iret C Rr dX8_faultOfWord_18
    · refine ge_iconst (v := 0) (n := 14) C dX8_faultOfWord_13 (by decide) rfl ?_
      refine ge_goto (n := 18) C dX8_faultOfWord_14 (by decide) ?_
      exact ge_iret C Rr dX8_faultOfWord_18
theorem dX8_mark_0 : decode cX8_mark 0 = .ok (.aload_n 0, 1) := by decide +kernel
theorem dX8_mark_1 : decode cX8_mark 1 = .ok (.getfield 30, 3) := by decide +kernel
theorem dX8_mark_4 : decode cX8_mark 4 = .ok (.ifCond .ne 13, 3) := by decide +kernel
theorem dX8_mark_7 : decode cX8_mark 7 = .ok (.aload_n 0, 1) := by decide +kernel
theorem dX8_mark_8 : decode cX8_mark 8 = .ok (.iload_n 1, 1) := by decide +kernel
theorem dX8_mark_9 : decode cX8_mark 9 = .ok (.putfield 30, 3) := by decide +kernel
theorem dX8_mark_12 : decode cX8_mark 12 = .ok (.aload_n 0, 1) := by decide +kernel
theorem dX8_mark_13 : decode cX8_mark 13 = .ok (.iload_n 2, 1) := by decide +kernel
theorem dX8_mark_14 : decode cX8_mark 14 = .ok (.putfield 15, 3) := by decide +kernel
theorem dX8_mark_17 : decode cX8_mark 17 = .ok (.return_, 1) := by decide +kernel
set_option maxRecDepth 100000 in
set_option maxHeartbeats 4000000 in
theorem mX8_mark {w : WX} {adr : Nat → Nat → Nat} (hj : Ij adr) (a1 : Int32) (a2 : Int32) (S : St) : ∀ (l : Launch) (r : Int32) (S2 : St), fX8_mark a1 a2 S = some (r, S2) → Mv l w adr yX8_mark cX8_mark 3 none 0 0 [.ref (adr 1 0), .int a1, .int a2] S S2 := by
  refine mv_of (lv := [(0, .ref (adr 1 0)), (1, .int a1), (2, .int a2)]) hj (plainFor_of_name (by decide +kernel)) rfl (Nat.le_of_ble_eq_true rfl) (fun k C Rr => ?_)
  have C : Cx w adr k cX8_mark RX8 3 0 0 := C
  refine ge_aload_n (n := 1) C 0 rfl dX8_mark_0 rfl rfl ?_
  refine gt_X8_30 (n := 4) C (by decide) dX8_mark_1 rfl ?_
  refine ge_if_ne (t := 17) (n := 7) C dX8_mark_4 (by decide) rfl (fun h_4 => ?_) (fun h_4 => ?_)
  · exact ge_vret C Rr dX8_mark_17
  · refine ge_aload_n (n := 8) C 0 rfl dX8_mark_7 rfl rfl ?_
    refine ge_iload_n (n := 9) C 1 rfl dX8_mark_8 rfl rfl ?_
    refine pt_X8_30 (n := 12) C (by decide) dX8_mark_9 rfl (fun S_9 => ?_)
    refine ge_aload_n (n := 13) C 0 rfl dX8_mark_12 rfl rfl ?_
    refine ge_iload_n (n := 14) C 2 rfl dX8_mark_13 rfl rfl ?_
    refine pt_X8_15 (n := 17) C (by decide) dX8_mark_14 rfl (fun S_14 => ?_)
    exact ge_vret C Rr dX8_mark_17
theorem dX8_isFigure_0 : decode cX8_isFigure 0 = .ok (.iload_n 0, 1) := by decide +kernel
theorem dX8_isFigure_1 : decode cX8_isFigure 1 = .ok (.bipush 48, 2) := by decide +kernel
theorem dX8_isFigure_3 : decode cX8_isFigure 3 = .ok (.if_icmp .lt 13, 3) := by decide +kernel
theorem dX8_isFigure_6 : decode cX8_isFigure 6 = .ok (.iload_n 0, 1) := by decide +kernel
theorem dX8_isFigure_7 : decode cX8_isFigure 7 = .ok (.bipush 57, 2) := by decide +kernel
theorem dX8_isFigure_9 : decode cX8_isFigure 9 = .ok (.if_icmp .gt 7, 3) := by decide +kernel
theorem dX8_isFigure_12 : decode cX8_isFigure 12 = .ok (.iconst 1, 1) := by decide +kernel
theorem dX8_isFigure_13 : decode cX8_isFigure 13 = .ok (.goto 4, 3) := by decide +kernel
theorem dX8_isFigure_16 : decode cX8_isFigure 16 = .ok (.iconst 0, 1) := by decide +kernel
theorem dX8_isFigure_17 : decode cX8_isFigure 17 = .ok (.ireturn, 1) := by decide +kernel
set_option maxRecDepth 100000 in
set_option maxHeartbeats 4000000 in
theorem mX8_isFigure {w : WX} {adr : Nat → Nat → Nat} (hj : Ij adr) (a0 : Int32) (S : St) : ∀ (l : Launch) (r : Int32) (S2 : St), fX8_isFigure a0 S = some (r, S2) → Mi l w adr yX8_isFigure cX8_isFigure 1 (some .boolean) 0 0 [.int a0] S r S2 := by
  refine mi_of (lv := [(0, .int a0)]) hj (plainFor_of_name (by decide +kernel)) rfl (Nat.le_of_ble_eq_true rfl) (fun k C Rr => ?_)
  have C : Cx w adr k cX8_isFigure RX8 1 0 0 := C
  refine ge_iload_n (n := 1) C 0 rfl dX8_isFigure_0 rfl rfl ?_
  refine ge_bipush (v := 48) (n := 3) C dX8_isFigure_1 (by decide) rfl ?_
  refine ge_icmp_lt (t := 16) (n := 6) C dX8_isFigure_3 (by decide) rfl (fun h_3 => ?_) (fun h_3 => ?_)
  · refine ge_iconst (v := 0) (n := 17) C dX8_isFigure_16 (by decide) rfl ?_
    exact ge_zret C Rr (by decide) dX8_isFigure_17
  · refine ge_iload_n (n := 7) C 0 rfl dX8_isFigure_6 rfl rfl ?_
    refine ge_bipush (v := 57) (n := 9) C dX8_isFigure_7 (by decide) rfl ?_
    refine ge_icmp_gt (t := 16) (n := 12) C dX8_isFigure_9 (by decide) rfl (fun h_9 => ?_) (fun h_9 => ?_)
    · refine ge_iconst (v := 0) (n := 17) C dX8_isFigure_16 (by decide) rfl ?_
      exact ge_zret C Rr (by decide) dX8_isFigure_17
    · refine ge_iconst (v := 1) (n := 13) C dX8_isFigure_12 (by decide) rfl ?_
      refine ge_goto (n := 17) C dX8_isFigure_13 (by decide) ?_
      exact ge_zret C Rr (by decide) dX8_isFigure_17
theorem dX10_isOutside_0 : decode cX10_isOutside 0 = .ok (.iload_n 0, 1) := by decide +kernel
theorem dX10_isOutside_1 : decode cX10_isOutside 1 = .ok (.iload_n 1, 1) := by decide +kernel
theorem dX10_isOutside_2 : decode cX10_isOutside 2 = .ok (.if_icmp .lt 8, 3) := by decide +kernel
theorem dX10_isOutside_5 : decode cX10_isOutside 5 = .ok (.iload_n 0, 1) := by decide +kernel
theorem dX10_isOutside_6 : decode cX10_isOutside 6 = .ok (.iload_n 2, 1) := by decide +kernel
theorem dX10_isOutside_7 : decode cX10_isOutside 7 = .ok (.if_icmp .le 7, 3) := by decide +kernel
theorem dX10_isOutside_10 : decode cX10_isOutside 10 = .ok (.iconst 1, 1) := by decide +kernel
theorem dX10_isOutside_11 : decode cX10_isOutside 11 = .ok (.goto 4, 3) := by decide +kernel
theorem dX10_isOutside_14 : decode cX10_isOutside 14 = .ok (.iconst 0, 1) := by decide +kernel
theorem dX10_isOutside_15 : decode cX10_isOutside 15 = .ok (.ireturn, 1) := by decide +kernel
set_option maxRecDepth 100000 in
set_option maxHeartbeats 4000000 in
theorem mX10_isOutside {w : WX} {adr : Nat → Nat → Nat} (hj : Ij adr) (a0 : Int32) (a1 : Int32) (a2 : Int32) (S : St) : ∀ (l : Launch) (r : Int32) (S2 : St), fX10_isOutside a0 a1 a2 S = some (r, S2) → Mi l w adr yX10_isOutside cX10_isOutside 3 (some .boolean) 0 0 [.int a0, .int a1, .int a2] S r S2 := by
  refine mi_of (lv := [(0, .int a0), (1, .int a1), (2, .int a2)]) hj (plainFor_of_name (by decide +kernel)) rfl (Nat.le_of_ble_eq_true rfl) (fun k C Rr => ?_)
  have C : Cx w adr k cX10_isOutside RX10 3 0 0 := C
  refine ge_iload_n (n := 1) C 0 rfl dX10_isOutside_0 rfl rfl ?_
  refine ge_iload_n (n := 2) C 1 rfl dX10_isOutside_1 rfl rfl ?_
  refine ge_icmp_lt (t := 10) (n := 5) C dX10_isOutside_2 (by decide) rfl (fun h_2 => ?_) (fun h_2 => ?_)
  · refine ge_iconst (v := 1) (n := 11) C dX10_isOutside_10 (by decide) rfl ?_
    refine ge_goto (n := 15) C dX10_isOutside_11 (by decide) ?_
    exact ge_zret C Rr (by decide) dX10_isOutside_15
  · refine ge_iload_n (n := 6) C 0 rfl dX10_isOutside_5 rfl rfl ?_
    refine ge_iload_n (n := 7) C 2 rfl dX10_isOutside_6 rfl rfl ?_
    refine ge_icmp_le (t := 14) (n := 10) C dX10_isOutside_7 (by decide) rfl (fun h_7 => ?_) (fun h_7 => ?_)
    · refine ge_iconst (v := 0) (n := 15) C dX10_isOutside_14 (by decide) rfl ?_
      exact ge_zret C Rr (by decide) dX10_isOutside_15
    · refine ge_iconst (v := 1) (n := 11) C dX10_isOutside_10 (by decide) rfl ?_
      refine ge_goto (n := 15) C dX10_isOutside_11 (by decide) ?_
      exact ge_zret C Rr (by decide) dX10_isOutside_15
theorem dX8_readNumber_0 : decode cX8_readNumber 0 = .ok (.aload_n 0, 1) := by decide +kernel
theorem dX8_readNumber_1 : decode cX8_readNumber 1 = .ok (.invokevirtual 33, 3) := by decide +kernel
theorem dX8_readNumber_4 : decode cX8_readNumber 4 = .ok (.aload_n 0, 1) := by decide +kernel
theorem dX8_readNumber_5 : decode cX8_readNumber 5 = .ok (.getfield 27, 3) := by decide +kernel
theorem dX8_readNumber_8 : decode cX8_readNumber 8 = .ok (.istore_n 3, 1) := by decide +kernel
theorem dX8_readNumber_9 : decode cX8_readNumber 9 = .ok (.iconst 0, 1) := by decide +kernel
theorem dX8_readNumber_10 : decode cX8_readNumber 10 = .ok (.istore 4, 2) := by decide +kernel
theorem dX8_readNumber_12 : decode cX8_readNumber 12 = .ok (.aload_n 0, 1) := by decide +kernel
theorem dX8_readNumber_13 : decode cX8_readNumber 13 = .ok (.getfield 27, 3) := by decide +kernel
theorem dX8_readNumber_16 : decode cX8_readNumber 16 = .ok (.aload_n 0, 1) := by decide +kernel
theorem dX8_readNumber_17 : decode cX8_readNumber 17 = .ok (.getfield 19, 3) := by decide +kernel
theorem dX8_readNumber_20 : decode cX8_readNumber 20 = .ok (.if_icmp .ge 51, 3) := by decide +kernel
theorem dX8_readNumber_23 : decode cX8_readNumber 23 = .ok (.aload_n 0, 1) := by decide +kernel
theorem dX8_readNumber_24 : decode cX8_readNumber 24 = .ok (.getfield 9, 3) := by decide +kernel
theorem dX8_readNumber_27 : decode cX8_readNumber 27 = .ok (.aload_n 0, 1) := by decide +kernel
theorem dX8_readNumber_28 : decode cX8_readNumber 28 = .ok (.getfield 27, 3) := by decide +kernel
theorem dX8_readNumber_31 : decode cX8_readNumber 31 = .ok (.iaload, 1) := by decide +kernel
theorem dX8_readNumber_32 : decode cX8_readNumber 32 = .ok (.invokestatic 98, 3) := by decide +kernel
theorem dX8_readNumber_35 : decode cX8_readNumber 35 = .ok (.ifCond .eq 36, 3) := by decide +kernel
theorem dX8_readNumber_38 : decode cX8_readNumber 38 = .ok (.iload 4, 2) := by decide +kernel
theorem dX8_readNumber_40 : decode cX8_readNumber 40 = .ok (.bipush 10, 2) := by decide +kernel
theorem dX8_readNumber_42 : decode cX8_readNumber 42 = .ok (.imul, 1) := by decide +kernel
theorem dX8_readNumber_43 : decode cX8_readNumber 43 = .ok (.aload_n 0, 1) := by decide +kernel
theorem dX8_readNumber_44 : decode cX8_readNumber 44 = .ok (.getfield 9, 3) := by decide +kernel
theorem dX8_readNumber_47 : decode cX8_readNumber 47 = .ok (.aload_n 0, 1) := by decide +kernel
theorem dX8_readNumber_48 : decode cX8_readNumber 48 = .ok (.getfield 27, 3) := by decide +kernel
theorem dX8_readNumber_51 : decode cX8_readNumber 51 = .ok (.iaload, 1) := by decide +kernel
theorem dX8_readNumber_52 : decode cX8_readNumber 52 = .ok (.bipush 48, 2) := by decide +kernel
theorem dX8_readNumber_54 : decode cX8_readNumber 54 = .ok (.isub, 1) := by decide +kernel
theorem dX8_readNumber_55 : decode cX8_readNumber 55 = .ok (.iadd, 1) := by decide +kernel
theorem dX8_readNumber_56 : decode cX8_readNumber 56 = .ok (.istore 4, 2) := by decide +kernel
theorem dX8_readNumber_58 : decode cX8_readNumber 58 = .ok (.aload_n 0, 1) := by decide +kernel
theorem dX8_readNumber_59 : decode cX8_readNumber 59 = .ok (.dup, 1) := by decide +kernel
theorem dX8_readNumber_60 : decode cX8_readNumber 60 = .ok (.getfield 27, 3) := by decide +kernel
theorem dX8_readNumber_63 : decode cX8_readNumber 63 = .ok (.iconst 1, 1) := by decide +kernel
theorem dX8_readNumber_64 : decode cX8_readNumber 64 = .ok (.iadd, 1) := by decide +kernel
theorem dX8_readNumber_65 : decode cX8_readNumber 65 = .ok (.putfield 27, 3) := by decide +kernel
theorem dX8_readNumber_68 : decode cX8_readNumber 68 = .ok (.goto (-56), 3) := by decide +kernel
theorem dX8_readNumber_71 : decode cX8_readNumber 71 = .ok (.aload_n 0, 1) := by decide +kernel
theorem dX8_readNumber_72 : decode cX8_readNumber 72 = .ok (.getfield 27, 3) := by decide +kernel
theorem dX8_readNumber_75 : decode cX8_readNumber 75 = .ok (.iload_n 3, 1) := by decide +kernel
theorem dX8_readNumber_76 : decode cX8_readNumber 76 = .ok (.isub, 1) := by decide +kernel
theorem dX8_readNumber_77 : decode cX8_readNumber 77 = .ok (.istore 5, 2) := by decide +kernel
theorem dX8_readNumber_79 : decode cX8_readNumber 79 = .ok (.iload 5, 2) := by decide +kernel
theorem dX8_readNumber_81 : decode cX8_readNumber 81 = .ok (.ifCond .ne 11, 3) := by decide +kernel
theorem dX8_readNumber_84 : decode cX8_readNumber 84 = .ok (.aload_n 0, 1) := by decide +kernel
theorem dX8_readNumber_85 : decode cX8_readNumber 85 = .ok (.iconst 1, 1) := by decide +kernel
theorem dX8_readNumber_86 : decode cX8_readNumber 86 = .ok (.iload_n 3, 1) := by decide +kernel
theorem dX8_readNumber_87 : decode cX8_readNumber 87 = .ok (.invokevirtual 48, 3) := by decide +kernel
theorem dX8_readNumber_90 : decode cX8_readNumber 90 = .ok (.iload_n 1, 1) := by decide +kernel
theorem dX8_readNumber_91 : decode cX8_readNumber 91 = .ok (.ireturn, 1) := by decide +kernel
theorem dX8_readNumber_92 : decode cX8_readNumber 92 = .ok (.iload 5, 2) := by decide +kernel
theorem dX8_readNumber_94 : decode cX8_readNumber 94 = .ok (.iconst 3, 1) := by decide +kernel
theorem dX8_readNumber_95 : decode cX8_readNumber 95 = .ok (.if_icmp .gt 13, 3) := by decide +kernel
theorem dX8_readNumber_98 : decode cX8_readNumber 98 = .ok (.iload 4, 2) := by decide +kernel
theorem dX8_readNumber_100 : decode cX8_readNumber 100 = .ok (.iload_n 1, 1) := by decide +kernel
theorem dX8_readNumber_101 : decode cX8_readNumber 101 = .ok (.iload_n 2, 1) := by decide +kernel
theorem dX8_readNumber_102 : decode cX8_readNumber 102 = .ok (.invokestatic 102, 3) := by decide +kernel
theorem dX8_readNumber_105 : decode cX8_readNumber 105 = .ok (.ifCond .eq 11, 3) := by decide +kernel
theorem dX8_readNumber_108 : decode cX8_readNumber 108 = .ok (.aload_n 0, 1) := by decide +kernel
theorem dX8_readNumber_109 : decode cX8_readNumber 109 = .ok (.iconst 2, 1) := by decide +kernel
theorem dX8_readNumber_110 : decode cX8_readNumber 110 = .ok (.iload_n 3, 1) := by decide +kernel
theorem dX8_readNumber_111 : decode cX8_readNumber 111 = .ok (.invokevirtual 48, 3) := by decide +kernel
theorem dX8_readNumber_114 : decode cX8_readNumber 114 = .ok (.iload_n 1, 1) := by decide +kernel
theorem dX8_readNumber_115 : decode cX8_readNumber 115 = .ok (.ireturn, 1) := by decide +kernel
theorem dX8_readNumber_116 : decode cX8_readNumber 116 = .ok (.iload 4, 2) := by decide +kernel
theorem dX8_readNumber_118 : decode cX8_readNumber 118 = .ok (.ireturn, 1) := by decide +kernel
set_option maxRecDepth 100000 in
set_option maxHeartbeats 4000000 in
theorem mX8_readNumber {w : WX} {adr : Nat → Nat → Nat} (hj : Ij adr) (a1 : Int32) (a2 : Int32) (S : St) : ∀ (l : Launch) (r : Int32) (S2 : St), fX8_readNumber a1 a2 S = some (r, S2) → Mi l w adr yX8_readNumber cX8_readNumber 6 (some .int) 1 22 [.ref (adr 1 0), .int a1, .int a2] S r S2 := by
  refine mi_of (lv := [(0, .ref (adr 1 0)), (1, .int a1), (2, .int a2)]) hj (plainFor_of_name (by decide +kernel)) rfl (Nat.le_of_ble_eq_true rfl) (fun k C Rr => ?_)
  have C : Cx w adr k cX8_readNumber RX8 6 1 22 := C
  refine ge_aload_n (n := 1) C 0 rfl dX8_readNumber_0 rfl rfl ?_
  refine ge_callVv (n := 4) C (mX8_skipBlanks hj S) gv_X8_33 (cl_1 (by decide)) rfl rfl hc_X8_skipBlanks ⟨Nat.le_of_ble_eq_true rfl, Nat.le_of_ble_eq_true rfl⟩ rfl rfl (Nat.le_of_ble_eq_true rfl) dX8_readNumber_1 rfl (fun _ S_1 => ?_)
  refine ge_aload_n (n := 5) C 0 rfl dX8_readNumber_4 rfl rfl ?_
  refine gt_X8_27 (n := 8) C (by decide) dX8_readNumber_5 rfl ?_
  refine ge_bi (fun x3_8 => ?_)
  refine ge_istore_n (n := 9) (lv2 := [(3, .int x3_8), (0, .ref (adr 1 0)), (1, .int a1), (2, .int a2)]) C dX8_readNumber_8 rfl rfl (by decide) rfl ?_
  refine ge_iconst (v := 0) (n := 10) C dX8_readNumber_9 (by decide) rfl ?_
  refine ge_istore (n := 12) (lv2 := [(4, .int (0 : Int32)), (3, .int x3_8), (0, .ref (adr 1 0)), (1, .int a1), (2, .int a2)]) C dX8_readNumber_10 rfl (by decide) rfl ?_
  refine ge_jn (fun (jj : Int32 → St → Op) => ∀ (x4_71 : Int32) (S_71 : St), Ge w adr k 71 [(4, .int x4_71), (3, .int x3_8), (0, .ref (adr 1 0)), (1, .int a1), (2, .int a2)] [] S_71 (jj x4_71 S_71)) (fun x4_71 S_71 => ?_) (fun kk12 hkk12 => ?_)
  · refine ge_aload_n (n := 72) C 2 rfl dX8_readNumber_71 rfl rfl ?_
    refine gt_X8_27 (n := 75) C (by decide) dX8_readNumber_72 rfl ?_
    refine ge_iload_n (n := 76) C 1 rfl dX8_readNumber_75 rfl rfl ?_
    refine ge_isub (n := 77) C dX8_readNumber_76 rfl ?_
    refine ge_bi (fun x5_77 => ?_)
    refine ge_istore (n := 79) (lv2 := [(5, .int x5_77), (4, .int x4_71), (3, .int x3_8), (0, .ref (adr 1 0)), (1, .int a1), (2, .int a2)]) C dX8_readNumber_77 rfl (by decide) rfl ?_
    refine ge_iload (n := 81) C 0 rfl dX8_readNumber_79 rfl ?_
    refine ge_if_ne (t := 92) (n := 84) C dX8_readNumber_81 (by decide) rfl (fun h_81 => ?_) (fun h_81 => ?_)
    · refine ge_iload (n := 94) C 0 rfl dX8_readNumber_92 rfl ?_
      refine ge_iconst (v := 3) (n := 95) C dX8_readNumber_94 (by decide) rfl ?_
      refine ge_jn (fun (jj : St → Op) => ∀ (S_108 : St), Ge w adr k 108 [(3, .int x3_8), (0, .ref (adr 1 0)), (1, .int a1)] [] S_108 (jj S_108)) (fun S_108 => ?_) (fun j108 hj108 => ?_)
      · refine ge_aload_n (n := 109) C 1 rfl dX8_readNumber_108 rfl rfl ?_
        refine ge_iconst (v := 2) (n := 110) C dX8_readNumber_109 (by decide) rfl ?_
        refine ge_iload_n (n := 111) C 0 rfl dX8_readNumber_110 rfl rfl ?_
        refine ge_callVv (n := 114) C (mX8_mark hj (2 : Int32) x3_8 S_108) gv_X8_48 (cl_1 (by decide)) rfl rfl hc_X8_mark ⟨Nat.le_of_ble_eq_true rfl, Nat.le_of_ble_eq_true rfl⟩ rfl rfl (Nat.le_of_ble_eq_true rfl) dX8_readNumber_111 rfl (fun _ S_111 => ?_)
        refine ge_iload_n (n := 115) C 2 rfl dX8_readNumber_114 rfl rfl ?_
        exact ge_iret C Rr dX8_readNumber_115
      refine ge_icmp_gt (t := 108) (n := 98) C dX8_readNumber_95 (by decide) rfl (fun h_95 => ?_) (fun h_95 => ?_)
      · refine ge_sub [2, 3, 4] rfl ?_
        exact hj108 S_71
      · refine ge_iload (n := 100) C 1 rfl dX8_readNumber_98 rfl ?_
        refine ge_iload_n (n := 101) C 4 rfl dX8_readNumber_100 rfl rfl ?_
        refine ge_iload_n (n := 102) C 5 rfl dX8_readNumber_101 rfl rfl ?_
        refine ge_callNi (n := 105) C (mX10_isOutside hj x4_71 a1 a2 S_71) cd_X10_isOutside sm_X10_isOutside ini_X10 ⟨Nat.le_of_ble_eq_true rfl, Nat.le_of_ble_eq_true rfl⟩ rfl rfl (Nat.le_of_ble_eq_true rfl) dX8_readNumber_102 rfl (fun r_102 S_102 => ?_)
        refine ge_if_eq (t := 116) (n := 108) C dX8_readNumber_105 (by decide) rfl (fun h_105 => ?_) (fun h_105 => ?_)
        · refine ge_iload (n := 118) C 1 rfl dX8_readNumber_116 rfl ?_
          exact ge_iret C Rr dX8_readNumber_118
        · refine ge_sub [2, 3, 4] rfl ?_
          exact hj108 S_102
    · refine ge_aload_n (n := 85) C 3 rfl dX8_readNumber_84 rfl rfl ?_
      refine ge_iconst (v := 1) (n := 86) C dX8_readNumber_85 (by decide) rfl ?_
      refine ge_iload_n (n := 87) C 2 rfl dX8_readNumber_86 rfl rfl ?_
      refine ge_callVv (n := 90) C (mX8_mark hj (1 : Int32) x3_8 S_71) gv_X8_48 (cl_1 (by decide)) rfl rfl hc_X8_mark ⟨Nat.le_of_ble_eq_true rfl, Nat.le_of_ble_eq_true rfl⟩ rfl rfl (Nat.le_of_ble_eq_true rfl) dX8_readNumber_87 rfl (fun _ S_87 => ?_)
      refine ge_iload_n (n := 91) C 4 rfl dX8_readNumber_90 rfl rfl ?_
      exact ge_iret C Rr dX8_readNumber_91
  refine ge_lop (fun (jj : Int32 → St → Op) => ∀ (x4_12 : Int32) (S_12 : St), Ge w adr k 12 [(4, .int x4_12), (3, .int x3_8), (0, .ref (adr 1 0)), (1, .int a1), (2, .int a2)] [] S_12 (jj x4_12 S_12)) (fun _ _ => ge_none) (fun ag12 hag12 x4_12 S_12 => ?_) FU (0 : Int32) S_1
  refine ge_aload_n (n := 13) C 2 rfl dX8_readNumber_12 rfl rfl ?_
  refine gt_X8_27 (n := 16) C (by decide) dX8_readNumber_13 rfl ?_
  refine ge_aload_n (n := 17) C 2 rfl dX8_readNumber_16 rfl rfl ?_
  refine gt_X8_19 (n := 20) C (by decide) dX8_readNumber_17 rfl ?_
  refine ge_icmp_ge (t := 71) (n := 23) C dX8_readNumber_20 (by decide) rfl (fun h_20 => ?_) (fun h_20 => ?_)
  · exact hkk12 x4_12 S_12
  · refine ge_aload_n (n := 24) C 2 rfl dX8_readNumber_23 rfl rfl ?_
    refine gt_X8_9 (n := 27) C (by decide) dX8_readNumber_24 rfl ?_
    refine ge_aload_n (n := 28) C 2 rfl dX8_readNumber_27 rfl rfl ?_
    refine gt_X8_27 (n := 31) C (by decide) dX8_readNumber_28 rfl ?_
    refine al_2 (n := 32) C (by decide) dX8_readNumber_31 rfl ?_
    refine ge_callSi (n := 35) C (mX8_isFigure hj (S_12 2 0 (Int32.toNatClampNeg (S_12 1 0 2))) S_12) gv_X8_98 hc_X8_isFigure ⟨Nat.le_of_ble_eq_true rfl, Nat.le_of_ble_eq_true rfl⟩ rfl rfl (Nat.le_of_ble_eq_true rfl) dX8_readNumber_32 rfl (fun r_32 S_32 => ?_)
    refine ge_if_eq (t := 71) (n := 38) C dX8_readNumber_35 (by decide) rfl (fun h_35 => ?_) (fun h_35 => ?_)
    · exact hkk12 x4_12 S_32
    · refine ge_iload (n := 40) C 0 rfl dX8_readNumber_38 rfl ?_
      refine ge_bipush (v := 10) (n := 42) C dX8_readNumber_40 (by decide) rfl ?_
      refine ge_imul (n := 43) C dX8_readNumber_42 rfl ?_
      refine ge_aload_n (n := 44) C 2 rfl dX8_readNumber_43 rfl rfl ?_
      refine gt_X8_9 (n := 47) C (by decide) dX8_readNumber_44 rfl ?_
      refine ge_aload_n (n := 48) C 2 rfl dX8_readNumber_47 rfl rfl ?_
      refine gt_X8_27 (n := 51) C (by decide) dX8_readNumber_48 rfl ?_
      refine al_2 (n := 52) C (by decide) dX8_readNumber_51 rfl ?_
      refine ge_bipush (v := 48) (n := 54) C dX8_readNumber_52 (by decide) rfl ?_
      refine ge_isub (n := 55) C dX8_readNumber_54 rfl ?_
      refine ge_iadd (n := 56) C dX8_readNumber_55 rfl ?_
      refine ge_bi (fun x4_56 => ?_)
      refine ge_istore (n := 58) (lv2 := [(4, .int x4_56), (3, .int x3_8), (0, .ref (adr 1 0)), (1, .int a1), (2, .int a2)]) C dX8_readNumber_56 rfl (by decide) rfl ?_
      refine ge_aload_n (n := 59) C 2 rfl dX8_readNumber_58 rfl rfl ?_
      refine ge_dup (n := 60) C dX8_readNumber_59 rfl rfl ?_
      refine gt_X8_27 (n := 63) C (by decide) dX8_readNumber_60 rfl ?_
      refine ge_iconst (v := 1) (n := 64) C dX8_readNumber_63 (by decide) rfl ?_
      refine ge_iadd (n := 65) C dX8_readNumber_64 rfl ?_
      refine pt_X8_27 (n := 68) C (by decide) dX8_readNumber_65 rfl (fun S_65 => ?_)
      refine ge_goto (n := 12) C dX8_readNumber_68 (by decide) ?_
      exact hag12 x4_56 S_65
theorem dX8_readPits_0 : decode cX8_readPits 0 = .ok (.aload_n 1, 1) := by decide +kernel
theorem dX8_readPits_1 : decode cX8_readPits 1 = .ok (.aload_n 0, 1) := by decide +kernel
theorem dX8_readPits_2 : decode cX8_readPits 2 = .ok (.iconst 1, 1) := by decide +kernel
theorem dX8_readPits_3 : decode cX8_readPits 3 = .ok (.iconst 3, 1) := by decide +kernel
theorem dX8_readPits_4 : decode cX8_readPits 4 = .ok (.invokevirtual 75, 3) := by decide +kernel
theorem dX8_readPits_7 : decode cX8_readPits 7 = .ok (.putfield 79, 3) := by decide +kernel
theorem dX8_readPits_10 : decode cX8_readPits 10 = .ok (.aload_n 1, 1) := by decide +kernel
theorem dX8_readPits_11 : decode cX8_readPits 11 = .ok (.aload_n 0, 1) := by decide +kernel
theorem dX8_readPits_12 : decode cX8_readPits 12 = .ok (.iconst 1, 1) := by decide +kernel
theorem dX8_readPits_13 : decode cX8_readPits 13 = .ok (.bipush 9, 2) := by decide +kernel
theorem dX8_readPits_15 : decode cX8_readPits 15 = .ok (.invokevirtual 75, 3) := by decide +kernel
theorem dX8_readPits_18 : decode cX8_readPits 18 = .ok (.putfield 82, 3) := by decide +kernel
theorem dX8_readPits_21 : decode cX8_readPits 21 = .ok (.return_, 1) := by decide +kernel
set_option maxRecDepth 100000 in
set_option maxHeartbeats 4000000 in
theorem mX8_readPits {w : WX} {adr : Nat → Nat → Nat} (hj : Ij adr) {o1 : Nat} (ho1 : o1 < 2) (S : St) : ∀ (l : Launch) (r : Int32) (S2 : St), fX8_readPits o1 S = some (r, S2) → Mv l w adr yX8_readPits cX8_readPits 2 none 2 47 [.ref (adr 1 0), .ref (adr 3 o1)] S S2 := by
  refine mv_of (lv := [(0, .ref (adr 1 0)), (1, .ref (adr 3 o1))]) hj (plainFor_of_name (by decide +kernel)) rfl (Nat.le_of_ble_eq_true rfl) (fun k C Rr => ?_)
  have C : Cx w adr k cX8_readPits RX8 2 2 47 := C
  refine ge_aload_n (n := 1) C 1 rfl dX8_readPits_0 rfl rfl ?_
  refine ge_aload_n (n := 2) C 0 rfl dX8_readPits_1 rfl rfl ?_
  refine ge_iconst (v := 1) (n := 3) C dX8_readPits_2 (by decide) rfl ?_
  refine ge_iconst (v := 3) (n := 4) C dX8_readPits_3 (by decide) rfl ?_
  refine ge_callVi (n := 7) C (mX8_readNumber hj (1 : Int32) (3 : Int32) S) gv_X8_75 (cl_1 (by decide)) rfl rfl hc_X8_readNumber ⟨Nat.le_of_ble_eq_true rfl, Nat.le_of_ble_eq_true rfl⟩ rfl rfl (Nat.le_of_ble_eq_true rfl) dX8_readPits_4 rfl (fun r_4 S_4 => ?_)
  refine pt_X8_79 (n := 10) C ho1 dX8_readPits_7 rfl (fun S_7 => ?_)
  refine ge_aload_n (n := 11) C 1 rfl dX8_readPits_10 rfl rfl ?_
  refine ge_aload_n (n := 12) C 0 rfl dX8_readPits_11 rfl rfl ?_
  refine ge_iconst (v := 1) (n := 13) C dX8_readPits_12 (by decide) rfl ?_
  refine ge_bipush (v := 9) (n := 15) C dX8_readPits_13 (by decide) rfl ?_
  refine ge_callVi (n := 18) C (mX8_readNumber hj (1 : Int32) (9 : Int32) S_7) gv_X8_75 (cl_1 (by decide)) rfl rfl hc_X8_readNumber ⟨Nat.le_of_ble_eq_true rfl, Nat.le_of_ble_eq_true rfl⟩ rfl rfl (Nat.le_of_ble_eq_true rfl) dX8_readPits_15 rfl (fun r_15 S_15 => ?_)
  refine pt_X8_82 (n := 21) C ho1 dX8_readPits_18 rfl (fun S_18 => ?_)
  exact ge_vret C Rr dX8_readPits_21
theorem dX8_skipMark_0 : decode cX8_skipMark 0 = .ok (.aload_n 0, 1) := by decide +kernel
theorem dX8_skipMark_1 : decode cX8_skipMark 1 = .ok (.invokevirtual 33, 3) := by decide +kernel
theorem dX8_skipMark_4 : decode cX8_skipMark 4 = .ok (.aload_n 0, 1) := by decide +kernel
theorem dX8_skipMark_5 : decode cX8_skipMark 5 = .ok (.invokevirtual 40, 3) := by decide +kernel
theorem dX8_skipMark_8 : decode cX8_skipMark 8 = .ok (.iload_n 1, 1) := by decide +kernel
theorem dX8_skipMark_9 : decode cX8_skipMark 9 = .ok (.if_icmp .ne 16, 3) := by decide +kernel
theorem dX8_skipMark_12 : decode cX8_skipMark 12 = .ok (.aload_n 0, 1) := by decide +kernel
theorem dX8_skipMark_13 : decode cX8_skipMark 13 = .ok (.dup, 1) := by decide +kernel
theorem dX8_skipMark_14 : decode cX8_skipMark 14 = .ok (.getfield 27, 3) := by decide +kernel
theorem dX8_skipMark_17 : decode cX8_skipMark 17 = .ok (.iconst 1, 1) := by decide +kernel
theorem dX8_skipMark_18 : decode cX8_skipMark 18 = .ok (.iadd, 1) := by decide +kernel
theorem dX8_skipMark_19 : decode cX8_skipMark 19 = .ok (.putfield 27, 3) := by decide +kernel
theorem dX8_skipMark_22 : decode cX8_skipMark 22 = .ok (.goto 12, 3) := by decide +kernel
theorem dX8_skipMark_25 : decode cX8_skipMark 25 = .ok (.aload_n 0, 1) := by decide +kernel
theorem dX8_skipMark_26 : decode cX8_skipMark 26 = .ok (.iconst 1, 1) := by decide +kernel
theorem dX8_skipMark_27 : decode cX8_skipMark 27 = .ok (.aload_n 0, 1) := by decide +kernel
theorem dX8_skipMark_28 : decode cX8_skipMark 28 = .ok (.getfield 27, 3) := by decide +kernel
theorem dX8_skipMark_31 : decode cX8_skipMark 31 = .ok (.invokevirtual 48, 3) := by decide +kernel
theorem dX8_skipMark_34 : decode cX8_skipMark 34 = .ok (.return_, 1) := by decide +kernel
set_option maxRecDepth 100000 in
set_option maxHeartbeats 4000000 in
theorem mX8_skipMark {w : WX} {adr : Nat → Nat → Nat} (hj : Ij adr) (a1 : Int32) (S : St) : ∀ (l : Launch) (r : Int32) (S2 : St), fX8_skipMark a1 S = some (r, S2) → Mv l w adr yX8_skipMark cX8_skipMark 2 none 1 22 [.ref (adr 1 0), .int a1] S S2 := by
  refine mv_of (lv := [(0, .ref (adr 1 0)), (1, .int a1)]) hj (plainFor_of_name (by decide +kernel)) rfl (Nat.le_of_ble_eq_true rfl) (fun k C Rr => ?_)
  have C : Cx w adr k cX8_skipMark RX8 2 1 22 := C
  refine ge_aload_n (n := 1) C 0 rfl dX8_skipMark_0 rfl rfl ?_
  refine ge_callVv (n := 4) C (mX8_skipBlanks hj S) gv_X8_33 (cl_1 (by decide)) rfl rfl hc_X8_skipBlanks ⟨Nat.le_of_ble_eq_true rfl, Nat.le_of_ble_eq_true rfl⟩ rfl rfl (Nat.le_of_ble_eq_true rfl) dX8_skipMark_1 rfl (fun _ S_1 => ?_)
  refine ge_aload_n (n := 5) C 0 rfl dX8_skipMark_4 rfl rfl ?_
  refine ge_callVi (n := 8) C (mX8_letter hj S_1) gv_X8_40 (cl_1 (by decide)) rfl rfl hc_X8_letter ⟨Nat.le_of_ble_eq_true rfl, Nat.le_of_ble_eq_true rfl⟩ rfl rfl (Nat.le_of_ble_eq_true rfl) dX8_skipMark_5 rfl (fun r_5 S_5 => ?_)
  refine ge_iload_n (n := 9) C 1 rfl dX8_skipMark_8 rfl rfl ?_
  refine ge_icmp_ne (t := 25) (n := 12) C dX8_skipMark_9 (by decide) rfl (fun h_9 => ?_) (fun h_9 => ?_)
  · refine ge_aload_n (n := 26) C 0 rfl dX8_skipMark_25 rfl rfl ?_
    refine ge_iconst (v := 1) (n := 27) C dX8_skipMark_26 (by decide) rfl ?_
    refine ge_aload_n (n := 28) C 0 rfl dX8_skipMark_27 rfl rfl ?_
    refine gt_X8_27 (n := 31) C (by decide) dX8_skipMark_28 rfl ?_
    refine ge_callVv (n := 34) C (mX8_mark hj (1 : Int32) (S_5 1 0 2) S_5) gv_X8_48 (cl_1 (by decide)) rfl rfl hc_X8_mark ⟨Nat.le_of_ble_eq_true rfl, Nat.le_of_ble_eq_true rfl⟩ rfl rfl (Nat.le_of_ble_eq_true rfl) dX8_skipMark_31 rfl (fun _ S_31 => ?_)
    exact ge_vret C Rr dX8_skipMark_34
  · refine ge_aload_n (n := 13) C 0 rfl dX8_skipMark_12 rfl rfl ?_
    refine ge_dup (n := 14) C dX8_skipMark_13 rfl rfl ?_
    refine gt_X8_27 (n := 17) C (by decide) dX8_skipMark_14 rfl ?_
    refine ge_iconst (v := 1) (n := 18) C dX8_skipMark_17 (by decide) rfl ?_
    refine ge_iadd (n := 19) C dX8_skipMark_18 rfl ?_
    refine pt_X8_27 (n := 22) C (by decide) dX8_skipMark_19 rfl (fun S_19 => ?_)
    refine ge_goto (n := 34) C dX8_skipMark_22 (by decide) ?_
    exact ge_vret C Rr dX8_skipMark_34
theorem dX8_readMan_0 : decode cX8_readMan 0 = .ok (.aload_n 1, 1) := by decide +kernel
theorem dX8_readMan_1 : decode cX8_readMan 1 = .ok (.getfield 69, 3) := by decide +kernel
theorem dX8_readMan_4 : decode cX8_readMan 4 = .ok (.istore_n 2, 1) := by decide +kernel
theorem dX8_readMan_5 : decode cX8_readMan 5 = .ok (.aload_n 1, 1) := by decide +kernel
theorem dX8_readMan_6 : decode cX8_readMan 6 = .ok (.getfield 85, 3) := by decide +kernel
theorem dX8_readMan_9 : decode cX8_readMan 9 = .ok (.iload_n 2, 1) := by decide +kernel
theorem dX8_readMan_10 : decode cX8_readMan 10 = .ok (.aload_n 0, 1) := by decide +kernel
theorem dX8_readMan_11 : decode cX8_readMan 11 = .ok (.iconst 0, 1) := by decide +kernel
theorem dX8_readMan_12 : decode cX8_readMan 12 = .ok (.iconst 3, 1) := by decide +kernel
theorem dX8_readMan_13 : decode cX8_readMan 13 = .ok (.invokevirtual 75, 3) := by decide +kernel
theorem dX8_readMan_16 : decode cX8_readMan 16 = .ok (.iastore, 1) := by decide +kernel
theorem dX8_readMan_17 : decode cX8_readMan 17 = .ok (.iconst 0, 1) := by decide +kernel
theorem dX8_readMan_18 : decode cX8_readMan 18 = .ok (.istore_n 3, 1) := by decide +kernel
theorem dX8_readMan_19 : decode cX8_readMan 19 = .ok (.iload_n 3, 1) := by decide +kernel
theorem dX8_readMan_20 : decode cX8_readMan 20 = .ok (.iconst 5, 1) := by decide +kernel
theorem dX8_readMan_21 : decode cX8_readMan 21 = .ok (.if_icmp .ge 34, 3) := by decide +kernel
theorem dX8_readMan_24 : decode cX8_readMan 24 = .ok (.iload_n 3, 1) := by decide +kernel
theorem dX8_readMan_25 : decode cX8_readMan 25 = .ok (.ifCond .le 9, 3) := by decide +kernel
theorem dX8_readMan_28 : decode cX8_readMan 28 = .ok (.aload_n 0, 1) := by decide +kernel
theorem dX8_readMan_29 : decode cX8_readMan 29 = .ok (.bipush 44, 2) := by decide +kernel
theorem dX8_readMan_31 : decode cX8_readMan 31 = .ok (.invokevirtual 61, 3) := by decide +kernel
theorem dX8_readMan_34 : decode cX8_readMan 34 = .ok (.aload_n 1, 1) := by decide +kernel
theorem dX8_readMan_35 : decode cX8_readMan 35 = .ok (.getfield 88, 3) := by decide +kernel
theorem dX8_readMan_38 : decode cX8_readMan 38 = .ok (.iload_n 2, 1) := by decide +kernel
theorem dX8_readMan_39 : decode cX8_readMan 39 = .ok (.aaload, 1) := by decide +kernel
theorem dX8_readMan_40 : decode cX8_readMan 40 = .ok (.iload_n 3, 1) := by decide +kernel
theorem dX8_readMan_41 : decode cX8_readMan 41 = .ok (.aload_n 0, 1) := by decide +kernel
theorem dX8_readMan_42 : decode cX8_readMan 42 = .ok (.iconst 0, 1) := by decide +kernel
theorem dX8_readMan_43 : decode cX8_readMan 43 = .ok (.bipush 30, 2) := by decide +kernel
theorem dX8_readMan_45 : decode cX8_readMan 45 = .ok (.invokevirtual 75, 3) := by decide +kernel
theorem dX8_readMan_48 : decode cX8_readMan 48 = .ok (.iastore, 1) := by decide +kernel
theorem dX8_readMan_49 : decode cX8_readMan 49 = .ok (.iinc 3 1, 3) := by decide +kernel
theorem dX8_readMan_52 : decode cX8_readMan 52 = .ok (.goto (-33), 3) := by decide +kernel
theorem dX8_readMan_55 : decode cX8_readMan 55 = .ok (.aload_n 1, 1) := by decide +kernel
theorem dX8_readMan_56 : decode cX8_readMan 56 = .ok (.iload_n 2, 1) := by decide +kernel
theorem dX8_readMan_57 : decode cX8_readMan 57 = .ok (.iconst 1, 1) := by decide +kernel
theorem dX8_readMan_58 : decode cX8_readMan 58 = .ok (.iadd, 1) := by decide +kernel
theorem dX8_readMan_59 : decode cX8_readMan 59 = .ok (.putfield 69, 3) := by decide +kernel
theorem dX8_readMan_62 : decode cX8_readMan 62 = .ok (.return_, 1) := by decide +kernel
set_option maxRecDepth 100000 in
set_option maxHeartbeats 4000000 in
theorem mX8_readMan {w : WX} {adr : Nat → Nat → Nat} (hj : Ij adr) {o1 : Nat} (ho1 : o1 < 2) (S : St) : ∀ (l : Launch) (r : Int32) (S2 : St), fX8_readMan o1 S = some (r, S2) → Mv l w adr yX8_readMan cX8_readMan 4 none 2 47 [.ref (adr 1 0), .ref (adr 3 o1)] S S2 := by
  refine mv_of (lv := [(0, .ref (adr 1 0)), (1, .ref (adr 3 o1))]) hj (plainFor_of_name (by decide +kernel)) rfl (Nat.le_of_ble_eq_true rfl) (fun k C Rr => ?_)
  have C : Cx w adr k cX8_readMan RX8 4 2 47 := C
  refine ge_aload_n (n := 1) C 1 rfl dX8_readMan_0 rfl rfl ?_
  refine gt_X8_69 (n := 4) C ho1 dX8_readMan_1 rfl ?_
  refine ge_bi (fun x2_4 => ?_)
  refine ge_istore_n (n := 5) (lv2 := [(2, .int x2_4), (0, .ref (adr 1 0)), (1, .ref (adr 3 o1))]) C dX8_readMan_4 rfl rfl (by decide) rfl ?_
  refine ge_aload_n (n := 6) C 2 rfl dX8_readMan_5 rfl rfl ?_
  refine gt_X8_85 (n := 9) C ho1 dX8_readMan_6 rfl ?_
  refine ge_iload_n (n := 10) C 0 rfl dX8_readMan_9 rfl rfl ?_
  refine ge_aload_n (n := 11) C 1 rfl dX8_readMan_10 rfl rfl ?_
  refine ge_iconst (v := 0) (n := 12) C dX8_readMan_11 (by decide) rfl ?_
  refine ge_iconst (v := 3) (n := 13) C dX8_readMan_12 (by decide) rfl ?_
  refine ge_callVi (n := 16) C (mX8_readNumber hj (0 : Int32) (3 : Int32) S) gv_X8_75 (cl_1 (by decide)) rfl rfl hc_X8_readNumber ⟨Nat.le_of_ble_eq_true rfl, Nat.le_of_ble_eq_true rfl⟩ rfl rfl (Nat.le_of_ble_eq_true rfl) dX8_readMan_13 rfl (fun r_13 S_13 => ?_)
  refine as_4 (n := 17) C ho1 dX8_readMan_16 rfl (fun S_16 => ?_)
  refine ge_iconst (v := 0) (n := 18) C dX8_readMan_17 (by decide) rfl ?_
  refine ge_istore_n (n := 19) (lv2 := [(3, .int (0 : Int32)), (2, .int x2_4), (0, .ref (adr 1 0)), (1, .ref (adr 3 o1))]) C dX8_readMan_18 rfl rfl (by decide) rfl ?_
  refine ge_jn (fun (jj : St → Op) => ∀ (S_55 : St), Ge w adr k 55 [(2, .int x2_4), (1, .ref (adr 3 o1))] [] S_55 (jj S_55)) (fun S_55 => ?_) (fun kk19 hkk19 => ?_)
  · refine ge_aload_n (n := 56) C 1 rfl dX8_readMan_55 rfl rfl ?_
    refine ge_iload_n (n := 57) C 0 rfl dX8_readMan_56 rfl rfl ?_
    refine ge_iconst (v := 1) (n := 58) C dX8_readMan_57 (by decide) rfl ?_
    refine ge_iadd (n := 59) C dX8_readMan_58 rfl ?_
    refine pt_X8_69 (n := 62) C ho1 dX8_readMan_59 rfl (fun S_59 => ?_)
    exact ge_vret C Rr dX8_readMan_62
  refine ge_lop (fun (jj : Int32 → St → Op) => ∀ (x3_19 : Int32) (S_19 : St), Ge w adr k 19 [(3, .int x3_19), (2, .int x2_4), (0, .ref (adr 1 0)), (1, .ref (adr 3 o1))] [] S_19 (jj x3_19 S_19)) (fun _ _ => ge_none) (fun ag19 hag19 x3_19 S_19 => ?_) FU (0 : Int32) S_16
  refine ge_iload_n (n := 20) C 0 rfl dX8_readMan_19 rfl rfl ?_
  refine ge_iconst (v := 5) (n := 21) C dX8_readMan_20 (by decide) rfl ?_
  refine ge_icmp_ge (t := 55) (n := 24) C dX8_readMan_21 (by decide) rfl (fun h_21 => ?_) (fun h_21 => ?_)
  · refine ge_sub [1, 3] rfl ?_
    exact hkk19 S_19
  · refine ge_iload_n (n := 25) C 0 rfl dX8_readMan_24 rfl rfl ?_
    refine ge_jn (fun (jj : St → Op) => ∀ (S_34 : St), Ge w adr k 34 [(3, .int x3_19), (2, .int x2_4), (0, .ref (adr 1 0)), (1, .ref (adr 3 o1))] [] S_34 (jj S_34)) (fun S_34 => ?_) (fun j34 hj34 => ?_)
    · refine ge_aload_n (n := 35) C 3 rfl dX8_readMan_34 rfl rfl ?_
      refine gt_X8_88 (n := 38) C ho1 dX8_readMan_35 rfl ?_
      refine ge_iload_n (n := 39) C 1 rfl dX8_readMan_38 rfl rfl ?_
      refine al_5 (n := 40) C ho1 dX8_readMan_39 rfl (fun h_39 => ?_)
      refine ge_iload_n (n := 41) C 0 rfl dX8_readMan_40 rfl rfl ?_
      refine ge_aload_n (n := 42) C 2 rfl dX8_readMan_41 rfl rfl ?_
      refine ge_iconst (v := 0) (n := 43) C dX8_readMan_42 (by decide) rfl ?_
      refine ge_bipush (v := 30) (n := 45) C dX8_readMan_43 (by decide) rfl ?_
      refine ge_callVi (n := 48) C (mX8_readNumber hj (0 : Int32) (30 : Int32) S_34) gv_X8_75 (cl_1 (by decide)) rfl rfl hc_X8_readNumber ⟨Nat.le_of_ble_eq_true rfl, Nat.le_of_ble_eq_true rfl⟩ rfl rfl (Nat.le_of_ble_eq_true rfl) dX8_readMan_45 rfl (fun r_45 S_45 => ?_)
      refine as_6 (n := 49) C (bd_pls ho1 h_39) dX8_readMan_48 rfl (fun S_48 => ?_)
      refine ge_iinc (n := 52) (v := (x3_19 + (1 : Int32))) (lv2 := [(3, .int (x3_19 + (1 : Int32))), (2, .int x2_4), (0, .ref (adr 1 0)), (1, .ref (adr 3 o1))]) C 0 rfl dX8_readMan_49 rfl rfl (by decide) rfl ?_
      refine ge_goto (n := 19) C dX8_readMan_52 (by decide) ?_
      exact hag19 (x3_19 + (1 : Int32)) S_48
    refine ge_if_le (t := 34) (n := 28) C dX8_readMan_25 (by decide) rfl (fun h_25 => ?_) (fun h_25 => ?_)
    · exact hj34 S_19
    · refine ge_aload_n (n := 29) C 2 rfl dX8_readMan_28 rfl rfl ?_
      refine ge_bipush (v := 44) (n := 31) C dX8_readMan_29 (by decide) rfl ?_
      refine ge_callVv (n := 34) C (mX8_skipMark hj (44 : Int32) S_19) gv_X8_61 (cl_1 (by decide)) rfl rfl hc_X8_skipMark ⟨Nat.le_of_ble_eq_true rfl, Nat.le_of_ble_eq_true rfl⟩ rfl rfl (Nat.le_of_ble_eq_true rfl) dX8_readMan_31 rfl (fun _ S_31 => ?_)
      exact hj34 S_31
theorem dX8_readSaying_0 : decode cX8_readSaying 0 = .ok (.aload_n 1, 1) := by decide +kernel
theorem dX8_readSaying_1 : decode cX8_readSaying 1 = .ok (.getfield 72, 3) := by decide +kernel
theorem dX8_readSaying_4 : decode cX8_readSaying 4 = .ok (.istore_n 2, 1) := by decide +kernel
theorem dX8_readSaying_5 : decode cX8_readSaying 5 = .ok (.aload_n 1, 1) := by decide +kernel
theorem dX8_readSaying_6 : decode cX8_readSaying 6 = .ok (.getfield 92, 3) := by decide +kernel
theorem dX8_readSaying_9 : decode cX8_readSaying 9 = .ok (.iload_n 2, 1) := by decide +kernel
theorem dX8_readSaying_10 : decode cX8_readSaying 10 = .ok (.aload_n 0, 1) := by decide +kernel
theorem dX8_readSaying_11 : decode cX8_readSaying 11 = .ok (.iconst 0, 1) := by decide +kernel
theorem dX8_readSaying_12 : decode cX8_readSaying 12 = .ok (.iconst 4, 1) := by decide +kernel
theorem dX8_readSaying_13 : decode cX8_readSaying 13 = .ok (.invokevirtual 75, 3) := by decide +kernel
theorem dX8_readSaying_16 : decode cX8_readSaying 16 = .ok (.iastore, 1) := by decide +kernel
theorem dX8_readSaying_17 : decode cX8_readSaying 17 = .ok (.aload_n 1, 1) := by decide +kernel
theorem dX8_readSaying_18 : decode cX8_readSaying 18 = .ok (.getfield 95, 3) := by decide +kernel
theorem dX8_readSaying_21 : decode cX8_readSaying 21 = .ok (.iload_n 2, 1) := by decide +kernel
theorem dX8_readSaying_22 : decode cX8_readSaying 22 = .ok (.aload_n 0, 1) := by decide +kernel
theorem dX8_readSaying_23 : decode cX8_readSaying 23 = .ok (.iconst 1, 1) := by decide +kernel
theorem dX8_readSaying_24 : decode cX8_readSaying 24 = .ok (.bipush 60, 2) := by decide +kernel
theorem dX8_readSaying_26 : decode cX8_readSaying 26 = .ok (.invokevirtual 75, 3) := by decide +kernel
theorem dX8_readSaying_29 : decode cX8_readSaying 29 = .ok (.iastore, 1) := by decide +kernel
theorem dX8_readSaying_30 : decode cX8_readSaying 30 = .ok (.aload_n 1, 1) := by decide +kernel
theorem dX8_readSaying_31 : decode cX8_readSaying 31 = .ok (.iload_n 2, 1) := by decide +kernel
theorem dX8_readSaying_32 : decode cX8_readSaying 32 = .ok (.iconst 1, 1) := by decide +kernel
theorem dX8_readSaying_33 : decode cX8_readSaying 33 = .ok (.iadd, 1) := by decide +kernel
theorem dX8_readSaying_34 : decode cX8_readSaying 34 = .ok (.putfield 72, 3) := by decide +kernel
theorem dX8_readSaying_37 : decode cX8_readSaying 37 = .ok (.return_, 1) := by decide +kernel
set_option maxRecDepth 100000 in
set_option maxHeartbeats 4000000 in
theorem mX8_readSaying {w : WX} {adr : Nat → Nat → Nat} (hj : Ij adr) {o1 : Nat} (ho1 : o1 < 2) (S : St) : ∀ (l : Launch) (r : Int32) (S2 : St), fX8_readSaying o1 S = some (r, S2) → Mv l w adr yX8_readSaying cX8_readSaying 3 none 2 47 [.ref (adr 1 0), .ref (adr 3 o1)] S S2 := by
  refine mv_of (lv := [(0, .ref (adr 1 0)), (1, .ref (adr 3 o1))]) hj (plainFor_of_name (by decide +kernel)) rfl (Nat.le_of_ble_eq_true rfl) (fun k C Rr => ?_)
  have C : Cx w adr k cX8_readSaying RX8 3 2 47 := C
  refine ge_aload_n (n := 1) C 1 rfl dX8_readSaying_0 rfl rfl ?_
  refine gt_X8_72 (n := 4) C ho1 dX8_readSaying_1 rfl ?_
  refine ge_bi (fun x2_4 => ?_)
  refine ge_istore_n (n := 5) (lv2 := [(2, .int x2_4), (0, .ref (adr 1 0)), (1, .ref (adr 3 o1))]) C dX8_readSaying_4 rfl rfl (by decide) rfl ?_
  refine ge_aload_n (n := 6) C 2 rfl dX8_readSaying_5 rfl rfl ?_
  refine gt_X8_92 (n := 9) C ho1 dX8_readSaying_6 rfl ?_
  refine ge_iload_n (n := 10) C 0 rfl dX8_readSaying_9 rfl rfl ?_
  refine ge_aload_n (n := 11) C 1 rfl dX8_readSaying_10 rfl rfl ?_
  refine ge_iconst (v := 0) (n := 12) C dX8_readSaying_11 (by decide) rfl ?_
  refine ge_iconst (v := 4) (n := 13) C dX8_readSaying_12 (by decide) rfl ?_
  refine ge_callVi (n := 16) C (mX8_readNumber hj (0 : Int32) (4 : Int32) S) gv_X8_75 (cl_1 (by decide)) rfl rfl hc_X8_readNumber ⟨Nat.le_of_ble_eq_true rfl, Nat.le_of_ble_eq_true rfl⟩ rfl rfl (Nat.le_of_ble_eq_true rfl) dX8_readSaying_13 rfl (fun r_13 S_13 => ?_)
  refine as_7 (n := 17) C ho1 dX8_readSaying_16 rfl (fun S_16 => ?_)
  refine ge_aload_n (n := 18) C 2 rfl dX8_readSaying_17 rfl rfl ?_
  refine gt_X8_95 (n := 21) C ho1 dX8_readSaying_18 rfl ?_
  refine ge_iload_n (n := 22) C 0 rfl dX8_readSaying_21 rfl rfl ?_
  refine ge_aload_n (n := 23) C 1 rfl dX8_readSaying_22 rfl rfl ?_
  refine ge_iconst (v := 1) (n := 24) C dX8_readSaying_23 (by decide) rfl ?_
  refine ge_bipush (v := 60) (n := 26) C dX8_readSaying_24 (by decide) rfl ?_
  refine ge_callVi (n := 29) C (mX8_readNumber hj (1 : Int32) (60 : Int32) S_16) gv_X8_75 (cl_1 (by decide)) rfl rfl hc_X8_readNumber ⟨Nat.le_of_ble_eq_true rfl, Nat.le_of_ble_eq_true rfl⟩ rfl rfl (Nat.le_of_ble_eq_true rfl) dX8_readSaying_26 rfl (fun r_26 S_26 => ?_)
  refine as_8 (n := 30) C ho1 dX8_readSaying_29 rfl (fun S_29 => ?_)
  refine ge_aload_n (n := 31) C 2 rfl dX8_readSaying_30 rfl rfl ?_
  refine ge_iload_n (n := 32) C 0 rfl dX8_readSaying_31 rfl rfl ?_
  refine ge_iconst (v := 1) (n := 33) C dX8_readSaying_32 (by decide) rfl ?_
  refine ge_iadd (n := 34) C dX8_readSaying_33 rfl ?_
  refine pt_X8_72 (n := 37) C ho1 dX8_readSaying_34 rfl (fun S_34 => ?_)
  exact ge_vret C Rr dX8_readSaying_37
theorem dX8_readClause_0 : decode cX8_readClause 0 = .ok (.aload_n 0, 1) := by decide +kernel
theorem dX8_readClause_1 : decode cX8_readClause 1 = .ok (.invokevirtual 40, 3) := by decide +kernel
theorem dX8_readClause_4 : decode cX8_readClause 4 = .ok (.istore_n 2, 1) := by decide +kernel
theorem dX8_readClause_5 : decode cX8_readClause 5 = .ok (.iload_n 2, 1) := by decide +kernel
theorem dX8_readClause_6 : decode cX8_readClause 6 = .ok (.aload_n 1, 1) := by decide +kernel
theorem dX8_readClause_7 : decode cX8_readClause 7 = .ok (.invokestatic 44, 3) := by decide +kernel
theorem dX8_readClause_10 : decode cX8_readClause 10 = .ok (.istore_n 3, 1) := by decide +kernel
theorem dX8_readClause_11 : decode cX8_readClause 11 = .ok (.iload_n 3, 1) := by decide +kernel
theorem dX8_readClause_12 : decode cX8_readClause 12 = .ok (.ifCond .eq 13, 3) := by decide +kernel
theorem dX8_readClause_15 : decode cX8_readClause 15 = .ok (.aload_n 0, 1) := by decide +kernel
theorem dX8_readClause_16 : decode cX8_readClause 16 = .ok (.iload_n 3, 1) := by decide +kernel
theorem dX8_readClause_17 : decode cX8_readClause 17 = .ok (.aload_n 0, 1) := by decide +kernel
theorem dX8_readClause_18 : decode cX8_readClause 18 = .ok (.getfield 27, 3) := by decide +kernel
theorem dX8_readClause_21 : decode cX8_readClause 21 = .ok (.invokevirtual 48, 3) := by decide +kernel
theorem dX8_readClause_24 : decode cX8_readClause 24 = .ok (.return_, 1) := by decide +kernel
theorem dX8_readClause_25 : decode cX8_readClause 25 = .ok (.aload_n 0, 1) := by decide +kernel
theorem dX8_readClause_26 : decode cX8_readClause 26 = .ok (.dup, 1) := by decide +kernel
theorem dX8_readClause_27 : decode cX8_readClause 27 = .ok (.getfield 27, 3) := by decide +kernel
theorem dX8_readClause_30 : decode cX8_readClause 30 = .ok (.iconst 1, 1) := by decide +kernel
theorem dX8_readClause_31 : decode cX8_readClause 31 = .ok (.iadd, 1) := by decide +kernel
theorem dX8_readClause_32 : decode cX8_readClause 32 = .ok (.putfield 27, 3) := by decide +kernel
theorem dX8_readClause_35 : decode cX8_readClause 35 = .ok (.iload_n 2, 1) := by decide +kernel
theorem dX8_readClause_36 : decode cX8_readClause 36 = .ok (.bipush 116, 2) := by decide +kernel
theorem dX8_readClause_38 : decode cX8_readClause 38 = .ok (.if_icmp .ne 11, 3) := by decide +kernel
theorem dX8_readClause_41 : decode cX8_readClause 41 = .ok (.aload_n 0, 1) := by decide +kernel
theorem dX8_readClause_42 : decode cX8_readClause 42 = .ok (.aload_n 1, 1) := by decide +kernel
theorem dX8_readClause_43 : decode cX8_readClause 43 = .ok (.invokevirtual 52, 3) := by decide +kernel
theorem dX8_readClause_46 : decode cX8_readClause 46 = .ok (.goto 22, 3) := by decide +kernel
theorem dX8_readClause_49 : decode cX8_readClause 49 = .ok (.iload_n 2, 1) := by decide +kernel
theorem dX8_readClause_50 : decode cX8_readClause 50 = .ok (.bipush 109, 2) := by decide +kernel
theorem dX8_readClause_52 : decode cX8_readClause 52 = .ok (.if_icmp .ne 11, 3) := by decide +kernel
theorem dX8_readClause_55 : decode cX8_readClause 55 = .ok (.aload_n 0, 1) := by decide +kernel
theorem dX8_readClause_56 : decode cX8_readClause 56 = .ok (.aload_n 1, 1) := by decide +kernel
theorem dX8_readClause_57 : decode cX8_readClause 57 = .ok (.invokevirtual 55, 3) := by decide +kernel
theorem dX8_readClause_60 : decode cX8_readClause 60 = .ok (.goto 8, 3) := by decide +kernel
theorem dX8_readClause_63 : decode cX8_readClause 63 = .ok (.aload_n 0, 1) := by decide +kernel
theorem dX8_readClause_64 : decode cX8_readClause 64 = .ok (.aload_n 1, 1) := by decide +kernel
theorem dX8_readClause_65 : decode cX8_readClause 65 = .ok (.invokevirtual 58, 3) := by decide +kernel
theorem dX8_readClause_68 : decode cX8_readClause 68 = .ok (.aload_n 0, 1) := by decide +kernel
theorem dX8_readClause_69 : decode cX8_readClause 69 = .ok (.bipush 59, 2) := by decide +kernel
theorem dX8_readClause_71 : decode cX8_readClause 71 = .ok (.invokevirtual 61, 3) := by decide +kernel
theorem dX8_readClause_74 : decode cX8_readClause 74 = .ok (.return_, 1) := by decide +kernel
set_option maxRecDepth 100000 in
set_option maxHeartbeats 4000000 in
theorem mX8_readClause {w : WX} {adr : Nat → Nat → Nat} (hj : Ij adr) {o1 : Nat} (ho1 : o1 < 2) (S : St) : ∀ (l : Launch) (r : Int32) (S2 : St), fX8_readClause o1 S = some (r, S2) → Mv l w adr yX8_readClause cX8_readClause 4 none 3 70 [.ref (adr 1 0), .ref (adr 3 o1)] S S2 := by
  refine mv_of (lv := [(0, .ref (adr 1 0)), (1, .ref (adr 3 o1))]) hj (plainFor_of_name (by decide +kernel)) rfl (Nat.le_of_ble_eq_true rfl) (fun k C Rr => ?_)
  have C : Cx w adr k cX8_readClause RX8 4 3 70 := C
  refine ge_aload_n (n := 1) C 0 rfl dX8_readClause_0 rfl rfl ?_
  refine ge_callVi (n := 4) C (mX8_letter hj S) gv_X8_40 (cl_1 (by decide)) rfl rfl hc_X8_letter ⟨Nat.le_of_ble_eq_true rfl, Nat.le_of_ble_eq_true rfl⟩ rfl rfl (Nat.le_of_ble_eq_true rfl) dX8_readClause_1 rfl (fun r_1 S_1 => ?_)
  refine ge_istore_n (n := 5) (lv2 := [(2, .int r_1), (0, .ref (adr 1 0)), (1, .ref (adr 3 o1))]) C dX8_readClause_4 rfl rfl (by decide) rfl ?_
  refine ge_iload_n (n := 6) C 0 rfl dX8_readClause_5 rfl rfl ?_
  refine ge_aload_n (n := 7) C 2 rfl dX8_readClause_6 rfl rfl ?_
  refine ge_callSi (n := 10) C (mX8_faultOfWord hj r_1 (o1 := o1) ho1 S_1) gv_X8_44 hc_X8_faultOfWord ⟨Nat.le_of_ble_eq_true rfl, Nat.le_of_ble_eq_true rfl⟩ rfl rfl (Nat.le_of_ble_eq_true rfl) dX8_readClause_7 rfl (fun r_7 S_7 => ?_)
  refine ge_istore_n (n := 11) (lv2 := [(3, .int r_7), (2, .int r_1), (0, .ref (adr 1 0)), (1, .ref (adr 3 o1))]) C dX8_readClause_10 rfl rfl (by decide) rfl ?_
  refine ge_iload_n (n := 12) C 0 rfl dX8_readClause_11 rfl rfl ?_
  refine ge_if_eq (t := 25) (n := 15) C dX8_readClause_12 (by decide) rfl (fun h_12 => ?_) (fun h_12 => ?_)
  · refine ge_aload_n (n := 26) C 2 rfl dX8_readClause_25 rfl rfl ?_
    refine ge_dup (n := 27) C dX8_readClause_26 rfl rfl ?_
    refine gt_X8_27 (n := 30) C (by decide) dX8_readClause_27 rfl ?_
    refine ge_iconst (v := 1) (n := 31) C dX8_readClause_30 (by decide) rfl ?_
    refine ge_iadd (n := 32) C dX8_readClause_31 rfl ?_
    refine pt_X8_27 (n := 35) C (by decide) dX8_readClause_32 rfl (fun S_32 => ?_)
    refine ge_iload_n (n := 36) C 1 rfl dX8_readClause_35 rfl rfl ?_
    refine ge_bipush (v := 116) (n := 38) C dX8_readClause_36 (by decide) rfl ?_
    refine ge_jn (fun (jj : St → Op) => ∀ (S_68 : St), Ge w adr k 68 [(0, .ref (adr 1 0))] [] S_68 (jj S_68)) (fun S_68 => ?_) (fun j68 hj68 => ?_)
    · refine ge_aload_n (n := 69) C 0 rfl dX8_readClause_68 rfl rfl ?_
      refine ge_bipush (v := 59) (n := 71) C dX8_readClause_69 (by decide) rfl ?_
      refine ge_callVv (n := 74) C (mX8_skipMark hj (59 : Int32) S_68) gv_X8_61 (cl_1 (by decide)) rfl rfl hc_X8_skipMark ⟨Nat.le_of_ble_eq_true rfl, Nat.le_of_ble_eq_true rfl⟩ rfl rfl (Nat.le_of_ble_eq_true rfl) dX8_readClause_71 rfl (fun _ S_71 => ?_)
      exact ge_vret C Rr dX8_readClause_74
    refine ge_icmp_ne (t := 49) (n := 41) C dX8_readClause_38 (by decide) rfl (fun h_38 => ?_) (fun h_38 => ?_)
    · refine ge_iload_n (n := 50) C 1 rfl dX8_readClause_49 rfl rfl ?_
      refine ge_bipush (v := 109) (n := 52) C dX8_readClause_50 (by decide) rfl ?_
      refine ge_icmp_ne (t := 63) (n := 55) C dX8_readClause_52 (by decide) rfl (fun h_52 => ?_) (fun h_52 => ?_)
      · refine ge_aload_n (n := 64) C 2 rfl dX8_readClause_63 rfl rfl ?_
        refine ge_aload_n (n := 65) C 3 rfl dX8_readClause_64 rfl rfl ?_
        refine ge_callVv (n := 68) C (mX8_readSaying hj (o1 := o1) ho1 S_32) gv_X8_58 (cl_1 (by decide)) rfl rfl hc_X8_readSaying ⟨Nat.le_of_ble_eq_true rfl, Nat.le_of_ble_eq_true rfl⟩ rfl rfl (Nat.le_of_ble_eq_true rfl) dX8_readClause_65 rfl (fun _ S_65 => ?_)
        refine ge_sub [2] rfl ?_
        exact hj68 S_65
      · refine ge_aload_n (n := 56) C 2 rfl dX8_readClause_55 rfl rfl ?_
        refine ge_aload_n (n := 57) C 3 rfl dX8_readClause_56 rfl rfl ?_
        refine ge_callVv (n := 60) C (mX8_readMan hj (o1 := o1) ho1 S_32) gv_X8_55 (cl_1 (by decide)) rfl rfl hc_X8_readMan ⟨Nat.le_of_ble_eq_true rfl, Nat.le_of_ble_eq_true rfl⟩ rfl rfl (Nat.le_of_ble_eq_true rfl) dX8_readClause_57 rfl (fun _ S_57 => ?_)
        refine ge_goto (n := 68) C dX8_readClause_60 (by decide) ?_
        refine ge_sub [2] rfl ?_
        exact hj68 S_57
    · refine ge_aload_n (n := 42) C 2 rfl dX8_readClause_41 rfl rfl ?_
      refine ge_aload_n (n := 43) C 3 rfl dX8_readClause_42 rfl rfl ?_
      refine ge_callVv (n := 46) C (mX8_readPits hj (o1 := o1) ho1 S_32) gv_X8_52 (cl_1 (by decide)) rfl rfl hc_X8_readPits ⟨Nat.le_of_ble_eq_true rfl, Nat.le_of_ble_eq_true rfl⟩ rfl rfl (Nat.le_of_ble_eq_true rfl) dX8_readClause_43 rfl (fun _ S_43 => ?_)
      refine ge_goto (n := 68) C dX8_readClause_46 (by decide) ?_
      refine ge_sub [2] rfl ?_
      exact hj68 S_43
  · refine ge_aload_n (n := 16) C 2 rfl dX8_readClause_15 rfl rfl ?_
    refine ge_iload_n (n := 17) C 0 rfl dX8_readClause_16 rfl rfl ?_
    refine ge_aload_n (n := 18) C 2 rfl dX8_readClause_17 rfl rfl ?_
    refine gt_X8_27 (n := 21) C (by decide) dX8_readClause_18 rfl ?_
    refine ge_callVv (n := 24) C (mX8_mark hj r_7 (S_7 1 0 2) S_7) gv_X8_48 (cl_1 (by decide)) rfl rfl hc_X8_mark ⟨Nat.le_of_ble_eq_true rfl, Nat.le_of_ble_eq_true rfl⟩ rfl rfl (Nat.le_of_ble_eq_true rfl) dX8_readClause_21 rfl (fun _ S_21 => ?_)
    exact ge_vret C Rr dX8_readClause_24
theorem dX8_readInto_0 : decode cX8_readInto 0 = .ok (.aload_n 1, 1) := by decide +kernel
theorem dX8_readInto_1 : decode cX8_readInto 1 = .ok (.invokevirtual 22, 3) := by decide +kernel
theorem dX8_readInto_4 : decode cX8_readInto 4 = .ok (.aload_n 0, 1) := by decide +kernel
theorem dX8_readInto_5 : decode cX8_readInto 5 = .ok (.iconst 0, 1) := by decide +kernel
theorem dX8_readInto_6 : decode cX8_readInto 6 = .ok (.putfield 27, 3) := by decide +kernel
theorem dX8_readInto_9 : decode cX8_readInto 9 = .ok (.aload_n 0, 1) := by decide +kernel
theorem dX8_readInto_10 : decode cX8_readInto 10 = .ok (.iconst 0, 1) := by decide +kernel
theorem dX8_readInto_11 : decode cX8_readInto 11 = .ok (.putfield 30, 3) := by decide +kernel
theorem dX8_readInto_14 : decode cX8_readInto 14 = .ok (.aload_n 0, 1) := by decide +kernel
theorem dX8_readInto_15 : decode cX8_readInto 15 = .ok (.iconst (-1), 1) := by decide +kernel
theorem dX8_readInto_16 : decode cX8_readInto 16 = .ok (.putfield 15, 3) := by decide +kernel
theorem dX8_readInto_19 : decode cX8_readInto 19 = .ok (.aload_n 0, 1) := by decide +kernel
theorem dX8_readInto_20 : decode cX8_readInto 20 = .ok (.invokevirtual 33, 3) := by decide +kernel
theorem dX8_readInto_23 : decode cX8_readInto 23 = .ok (.iconst 0, 1) := by decide +kernel
theorem dX8_readInto_24 : decode cX8_readInto 24 = .ok (.istore_n 2, 1) := by decide +kernel
theorem dX8_readInto_25 : decode cX8_readInto 25 = .ok (.iload_n 2, 1) := by decide +kernel
theorem dX8_readInto_26 : decode cX8_readInto 26 = .ok (.sipush 240, 3) := by decide +kernel
theorem dX8_readInto_29 : decode cX8_readInto 29 = .ok (.if_icmp .ge 36, 3) := by decide +kernel
theorem dX8_readInto_32 : decode cX8_readInto 32 = .ok (.aload_n 0, 1) := by decide +kernel
theorem dX8_readInto_33 : decode cX8_readInto 33 = .ok (.getfield 27, 3) := by decide +kernel
theorem dX8_readInto_36 : decode cX8_readInto 36 = .ok (.aload_n 0, 1) := by decide +kernel
theorem dX8_readInto_37 : decode cX8_readInto 37 = .ok (.getfield 19, 3) := by decide +kernel
theorem dX8_readInto_40 : decode cX8_readInto 40 = .ok (.if_icmp .ge 25, 3) := by decide +kernel
theorem dX8_readInto_43 : decode cX8_readInto 43 = .ok (.aload_n 0, 1) := by decide +kernel
theorem dX8_readInto_44 : decode cX8_readInto 44 = .ok (.getfield 30, 3) := by decide +kernel
theorem dX8_readInto_47 : decode cX8_readInto 47 = .ok (.ifCond .ne 18, 3) := by decide +kernel
theorem dX8_readInto_50 : decode cX8_readInto 50 = .ok (.aload_n 0, 1) := by decide +kernel
theorem dX8_readInto_51 : decode cX8_readInto 51 = .ok (.aload_n 1, 1) := by decide +kernel
theorem dX8_readInto_52 : decode cX8_readInto 52 = .ok (.invokevirtual 36, 3) := by decide +kernel
theorem dX8_readInto_55 : decode cX8_readInto 55 = .ok (.aload_n 0, 1) := by decide +kernel
theorem dX8_readInto_56 : decode cX8_readInto 56 = .ok (.invokevirtual 33, 3) := by decide +kernel
theorem dX8_readInto_59 : decode cX8_readInto 59 = .ok (.iinc 2 1, 3) := by decide +kernel
theorem dX8_readInto_62 : decode cX8_readInto 62 = .ok (.goto (-37), 3) := by decide +kernel
theorem dX8_readInto_65 : decode cX8_readInto 65 = .ok (.aload_n 0, 1) := by decide +kernel
theorem dX8_readInto_66 : decode cX8_readInto 66 = .ok (.iconst 0, 1) := by decide +kernel
theorem dX8_readInto_67 : decode cX8_readInto 67 = .ok (.putfield 19, 3) := by decide +kernel
theorem dX8_readInto_70 : decode cX8_readInto 70 = .ok (.return_, 1) := by decide +kernel
set_option maxRecDepth 100000 in
set_option maxHeartbeats 4000000 in
theorem mX8_readInto {w : WX} {adr : Nat → Nat → Nat} (hj : Ij adr) {o1 : Nat} (ho1 : o1 < 2) (S : St) : ∀ (l : Launch) (r : Int32) (S2 : St), fX8_readInto o1 S = some (r, S2) → Mv l w adr yX8_readInto cX8_readInto 3 none 4 93 [.ref (adr 1 0), .ref (adr 3 o1)] S S2 := by
  refine mv_of (lv := [(0, .ref (adr 1 0)), (1, .ref (adr 3 o1))]) hj (plainFor_of_name (by decide +kernel)) rfl (Nat.le_of_ble_eq_true rfl) (fun k C Rr => ?_)
  have C : Cx w adr k cX8_readInto RX8 3 4 93 := C
  refine ge_aload_n (n := 1) C 1 rfl dX8_readInto_0 rfl rfl ?_
  refine ge_callVv (n := 4) C (mX6_clear hj (o0 := o1) ho1 S) gv_X8_22 (cl_3 ho1) rfl rfl hc_X6_clear ⟨Nat.le_of_ble_eq_true rfl, Nat.le_of_ble_eq_true rfl⟩ rfl rfl (Nat.le_of_ble_eq_true rfl) dX8_readInto_1 rfl (fun _ S_1 => ?_)
  refine ge_aload_n (n := 5) C 0 rfl dX8_readInto_4 rfl rfl ?_
  refine ge_iconst (v := 0) (n := 6) C dX8_readInto_5 (by decide) rfl ?_
  refine pt_X8_27 (n := 9) C (by decide) dX8_readInto_6 rfl (fun S_6 => ?_)
  refine ge_aload_n (n := 10) C 0 rfl dX8_readInto_9 rfl rfl ?_
  refine ge_iconst (v := 0) (n := 11) C dX8_readInto_10 (by decide) rfl ?_
  refine pt_X8_30 (n := 14) C (by decide) dX8_readInto_11 rfl (fun S_11 => ?_)
  refine ge_aload_n (n := 15) C 0 rfl dX8_readInto_14 rfl rfl ?_
  refine ge_iconst (v := -1) (n := 16) C dX8_readInto_15 (by decide) rfl ?_
  refine pt_X8_15 (n := 19) C (by decide) dX8_readInto_16 rfl (fun S_16 => ?_)
  refine ge_aload_n (n := 20) C 0 rfl dX8_readInto_19 rfl rfl ?_
  refine ge_callVv (n := 23) C (mX8_skipBlanks hj S_16) gv_X8_33 (cl_1 (by decide)) rfl rfl hc_X8_skipBlanks ⟨Nat.le_of_ble_eq_true rfl, Nat.le_of_ble_eq_true rfl⟩ rfl rfl (Nat.le_of_ble_eq_true rfl) dX8_readInto_20 rfl (fun _ S_20 => ?_)
  refine ge_iconst (v := 0) (n := 24) C dX8_readInto_23 (by decide) rfl ?_
  refine ge_istore_n (n := 25) (lv2 := [(2, .int (0 : Int32)), (0, .ref (adr 1 0)), (1, .ref (adr 3 o1))]) C dX8_readInto_24 rfl rfl (by decide) rfl ?_
  refine ge_jn (fun (jj : St → Op) => ∀ (S_65 : St), Ge w adr k 65 [(0, .ref (adr 1 0))] [] S_65 (jj S_65)) (fun S_65 => ?_) (fun kk25 hkk25 => ?_)
  · refine ge_aload_n (n := 66) C 0 rfl dX8_readInto_65 rfl rfl ?_
    refine ge_iconst (v := 0) (n := 67) C dX8_readInto_66 (by decide) rfl ?_
    refine pt_X8_19 (n := 70) C (by decide) dX8_readInto_67 rfl (fun S_67 => ?_)
    exact ge_vret C Rr dX8_readInto_70
  refine ge_lop (fun (jj : Int32 → St → Op) => ∀ (x2_25 : Int32) (S_25 : St), Ge w adr k 25 [(2, .int x2_25), (0, .ref (adr 1 0)), (1, .ref (adr 3 o1))] [] S_25 (jj x2_25 S_25)) (fun _ _ => ge_none) (fun ag25 hag25 x2_25 S_25 => ?_) FU (0 : Int32) S_20
  refine ge_iload_n (n := 26) C 0 rfl dX8_readInto_25 rfl rfl ?_
  refine ge_sipush (v := 240) (n := 29) C dX8_readInto_26 (by decide) rfl ?_
  refine ge_icmp_ge (t := 65) (n := 32) C dX8_readInto_29 (by decide) rfl (fun h_29 => ?_) (fun h_29 => ?_)
  · refine ge_sub [1] rfl ?_
    exact hkk25 S_25
  · refine ge_aload_n (n := 33) C 1 rfl dX8_readInto_32 rfl rfl ?_
    refine gt_X8_27 (n := 36) C (by decide) dX8_readInto_33 rfl ?_
    refine ge_aload_n (n := 37) C 1 rfl dX8_readInto_36 rfl rfl ?_
    refine gt_X8_19 (n := 40) C (by decide) dX8_readInto_37 rfl ?_
    refine ge_icmp_ge (t := 65) (n := 43) C dX8_readInto_40 (by decide) rfl (fun h_40 => ?_) (fun h_40 => ?_)
    · refine ge_sub [1] rfl ?_
      exact hkk25 S_25
    · refine ge_aload_n (n := 44) C 1 rfl dX8_readInto_43 rfl rfl ?_
      refine gt_X8_30 (n := 47) C (by decide) dX8_readInto_44 rfl ?_
      refine ge_if_ne (t := 65) (n := 50) C dX8_readInto_47 (by decide) rfl (fun h_47 => ?_) (fun h_47 => ?_)
      · refine ge_sub [1] rfl ?_
        exact hkk25 S_25
      · refine ge_aload_n (n := 51) C 1 rfl dX8_readInto_50 rfl rfl ?_
        refine ge_aload_n (n := 52) C 2 rfl dX8_readInto_51 rfl rfl ?_
        refine ge_callVv (n := 55) C (mX8_readClause hj (o1 := o1) ho1 S_25) gv_X8_36 (cl_1 (by decide)) rfl rfl hc_X8_readClause ⟨Nat.le_of_ble_eq_true rfl, Nat.le_of_ble_eq_true rfl⟩ rfl rfl (Nat.le_of_ble_eq_true rfl) dX8_readInto_52 rfl (fun _ S_52 => ?_)
        refine ge_aload_n (n := 56) C 1 rfl dX8_readInto_55 rfl rfl ?_
        refine ge_callVv (n := 59) C (mX8_skipBlanks hj S_52) gv_X8_33 (cl_1 (by decide)) rfl rfl hc_X8_skipBlanks ⟨Nat.le_of_ble_eq_true rfl, Nat.le_of_ble_eq_true rfl⟩ rfl rfl (Nat.le_of_ble_eq_true rfl) dX8_readInto_56 rfl (fun _ S_56 => ?_)
        refine ge_iinc (n := 62) (v := (x2_25 + (1 : Int32))) (lv2 := [(2, .int (x2_25 + (1 : Int32))), (0, .ref (adr 1 0)), (1, .ref (adr 3 o1))]) C 0 rfl dX8_readInto_59 rfl rfl (by decide) rfl ?_
        refine ge_goto (n := 25) C dX8_readInto_62 (by decide) ?_
        exact hag25 (x2_25 + (1 : Int32)) S_56
theorem dX9_clearNotes_0 : decode cX9_clearNotes 0 = .ok (.aload_n 0, 1) := by decide +kernel
theorem dX9_clearNotes_1 : decode cX9_clearNotes 1 = .ok (.iconst 0, 1) := by decide +kernel
theorem dX9_clearNotes_2 : decode cX9_clearNotes 2 = .ok (.putfield 47, 3) := by decide +kernel
theorem dX9_clearNotes_5 : decode cX9_clearNotes 5 = .ok (.aload_n 0, 1) := by decide +kernel
theorem dX9_clearNotes_6 : decode cX9_clearNotes 6 = .ok (.iconst (-1), 1) := by decide +kernel
theorem dX9_clearNotes_7 : decode cX9_clearNotes 7 = .ok (.putfield 50, 3) := by decide +kernel
theorem dX9_clearNotes_10 : decode cX9_clearNotes 10 = .ok (.aload_n 0, 1) := by decide +kernel
theorem dX9_clearNotes_11 : decode cX9_clearNotes 11 = .ok (.iconst (-1), 1) := by decide +kernel
theorem dX9_clearNotes_12 : decode cX9_clearNotes 12 = .ok (.putfield 53, 3) := by decide +kernel
theorem dX9_clearNotes_15 : decode cX9_clearNotes 15 = .ok (.return_, 1) := by decide +kernel
set_option maxRecDepth 100000 in
set_option maxHeartbeats 4000000 in
theorem mX9_clearNotes {w : WX} {adr : Nat → Nat → Nat} (hj : Ij adr)  (S : St) : ∀ (l : Launch) (r : Int32) (S2 : St), fX9_clearNotes S = some (r, S2) → Mv l w adr yX9_clearNotes cX9_clearNotes 1 none 0 0 [.ref (adr 30 0)] S S2 := by
  refine mv_of (lv := [(0, .ref (adr 30 0))]) hj (plainFor_of_name (by decide +kernel)) rfl (Nat.le_of_ble_eq_true rfl) (fun k C Rr => ?_)
  have C : Cx w adr k cX9_clearNotes RX9 1 0 0 := C
  refine ge_aload_n (n := 1) C 0 rfl dX9_clearNotes_0 rfl rfl ?_
  refine ge_iconst (v := 0) (n := 2) C dX9_clearNotes_1 (by decide) rfl ?_
  refine pt_X9_47 (n := 5) C (by decide) dX9_clearNotes_2 rfl (fun S_2 => ?_)
  refine ge_aload_n (n := 6) C 0 rfl dX9_clearNotes_5 rfl rfl ?_
  refine ge_iconst (v := -1) (n := 7) C dX9_clearNotes_6 (by decide) rfl ?_
  refine pt_X9_50 (n := 10) C (by decide) dX9_clearNotes_7 rfl (fun S_7 => ?_)
  refine ge_aload_n (n := 11) C 0 rfl dX9_clearNotes_10 rfl rfl ?_
  refine ge_iconst (v := -1) (n := 12) C dX9_clearNotes_11 (by decide) rfl ?_
  refine pt_X9_53 (n := 15) C (by decide) dX9_clearNotes_12 rfl (fun S_12 => ?_)
  exact ge_vret C Rr dX9_clearNotes_15
theorem dX9_startNow_0 : decode cX9_startNow 0 = .ok (.aload_n 0, 1) := by decide +kernel
theorem dX9_startNow_1 : decode cX9_startNow 1 = .ok (.getfield 12, 3) := by decide +kernel
theorem dX9_startNow_4 : decode cX9_startNow 4 = .ok (.aload_n 1, 1) := by decide +kernel
theorem dX9_startNow_5 : decode cX9_startNow 5 = .ok (.getfield 18, 3) := by decide +kernel
theorem dX9_startNow_8 : decode cX9_startNow 8 = .ok (.iload_n 2, 1) := by decide +kernel
theorem dX9_startNow_9 : decode cX9_startNow 9 = .ok (.aaload, 1) := by decide +kernel
theorem dX9_startNow_10 : decode cX9_startNow 10 = .ok (.invokevirtual 24, 3) := by decide +kernel
theorem dX9_startNow_13 : decode cX9_startNow 13 = .ok (.aload_n 0, 1) := by decide +kernel
theorem dX9_startNow_14 : decode cX9_startNow 14 = .ok (.aload_n 1, 1) := by decide +kernel
theorem dX9_startNow_15 : decode cX9_startNow 15 = .ok (.getfield 28, 3) := by decide +kernel
theorem dX9_startNow_18 : decode cX9_startNow 18 = .ok (.putfield 32, 3) := by decide +kernel
theorem dX9_startNow_21 : decode cX9_startNow 21 = .ok (.aload_n 0, 1) := by decide +kernel
theorem dX9_startNow_22 : decode cX9_startNow 22 = .ok (.aload_n 1, 1) := by decide +kernel
theorem dX9_startNow_23 : decode cX9_startNow 23 = .ok (.getfield 33, 3) := by decide +kernel
theorem dX9_startNow_26 : decode cX9_startNow 26 = .ok (.putfield 36, 3) := by decide +kernel
theorem dX9_startNow_29 : decode cX9_startNow 29 = .ok (.aload_n 0, 1) := by decide +kernel
theorem dX9_startNow_30 : decode cX9_startNow 30 = .ok (.invokevirtual 37, 3) := by decide +kernel
theorem dX9_startNow_33 : decode cX9_startNow 33 = .ok (.return_, 1) := by decide +kernel
set_option maxRecDepth 100000 in
set_option maxHeartbeats 4000000 in
theorem mX9_startNow {w : WX} {adr : Nat → Nat → Nat} (hj : Ij adr) (a2 : Int32) (S : St) : ∀ (l : Launch) (r : Int32) (S2 : St), fX9_startNow a2 S = some (r, S2) → Mv l w adr yX9_startNow cX9_startNow 3 none 1 22 [.ref (adr 30 0), .ref (adr 9 0), .int a2] S S2 := by
  refine mv_of (lv := [(0, .ref (adr 30 0)), (1, .ref (adr 9 0)), (2, .int a2)]) hj (plainFor_of_name (by decide +kernel)) rfl (Nat.le_of_ble_eq_true rfl) (fun k C Rr => ?_)
  have C : Cx w adr k cX9_startNow RX9 3 1 22 := C
  refine ge_aload_n (n := 1) C 0 rfl dX9_startNow_0 rfl rfl ?_
  refine gt_X9_12 (n := 4) C (by decide) dX9_startNow_1 rfl ?_
  refine ge_aload_n (n := 5) C 1 rfl dX9_startNow_4 rfl rfl ?_
  refine gt_X9_18 (n := 8) C (by decide) dX9_startNow_5 rfl ?_
  refine ge_iload_n (n := 9) C 2 rfl dX9_startNow_8 rfl rfl ?_
  refine al_10 (n := 10) C (by decide) dX9_startNow_9 rfl (fun h_9 => ?_)
  refine ge_callVv (n := 13) C (mX3_copySkin hj (o0 := 6) (by decide) (o1 := (Int32.toNatClampNeg a2)) (bd_c h_9 (by decide)) S) gv_X9_24 (cl_11 (by decide)) rfl rfl hc_X3_copySkin ⟨Nat.le_of_ble_eq_true rfl, Nat.le_of_ble_eq_true rfl⟩ rfl rfl (Nat.le_of_ble_eq_true rfl) dX9_startNow_10 rfl (fun _ S_10 => ?_)
  refine ge_aload_n (n := 14) C 0 rfl dX9_startNow_13 rfl rfl ?_
  refine ge_aload_n (n := 15) C 1 rfl dX9_startNow_14 rfl rfl ?_
  refine gt_X9_28 (n := 18) C (by decide) dX9_startNow_15 rfl ?_
  refine pt_X9_32 (n := 21) C (by decide) dX9_startNow_18 rfl (fun S_18 => ?_)
  refine ge_aload_n (n := 22) C 0 rfl dX9_startNow_21 rfl rfl ?_
  refine ge_aload_n (n := 23) C 1 rfl dX9_startNow_22 rfl rfl ?_
  refine gt_X9_33 (n := 26) C (by decide) dX9_startNow_23 rfl ?_
  refine pt_X9_36 (n := 29) C (by decide) dX9_startNow_26 rfl (fun S_26 => ?_)
  refine ge_aload_n (n := 30) C 0 rfl dX9_startNow_29 rfl rfl ?_
  refine ge_callVv (n := 33) C (mX9_clearNotes hj S_26) gv_X9_37 (cl_30 (by decide)) rfl rfl hc_X9_clearNotes ⟨Nat.le_of_ble_eq_true rfl, Nat.le_of_ble_eq_true rfl⟩ rfl rfl (Nat.le_of_ble_eq_true rfl) dX9_startNow_30 rfl (fun _ S_30 => ?_)
  exact ge_vret C Rr dX9_startNow_33
theorem dX9_startFirst_0 : decode cX9_startFirst 0 = .ok (.aload_n 0, 1) := by decide +kernel
theorem dX9_startFirst_1 : decode cX9_startFirst 1 = .ok (.getfield 12, 3) := by decide +kernel
theorem dX9_startFirst_4 : decode cX9_startFirst 4 = .ok (.aload_n 1, 1) := by decide +kernel
theorem dX9_startFirst_5 : decode cX9_startFirst 5 = .ok (.iload_n 2, 1) := by decide +kernel
theorem dX9_startFirst_6 : decode cX9_startFirst 6 = .ok (.invokevirtual 40, 3) := by decide +kernel
theorem dX9_startFirst_9 : decode cX9_startFirst 9 = .ok (.aload_n 0, 1) := by decide +kernel
theorem dX9_startFirst_10 : decode cX9_startFirst 10 = .ok (.aload_n 1, 1) := by decide +kernel
theorem dX9_startFirst_11 : decode cX9_startFirst 11 = .ok (.getfield 44, 3) := by decide +kernel
theorem dX9_startFirst_14 : decode cX9_startFirst 14 = .ok (.putfield 32, 3) := by decide +kernel
theorem dX9_startFirst_17 : decode cX9_startFirst 17 = .ok (.aload_n 0, 1) := by decide +kernel
theorem dX9_startFirst_18 : decode cX9_startFirst 18 = .ok (.iconst 0, 1) := by decide +kernel
theorem dX9_startFirst_19 : decode cX9_startFirst 19 = .ok (.putfield 36, 3) := by decide +kernel
theorem dX9_startFirst_22 : decode cX9_startFirst 22 = .ok (.aload_n 0, 1) := by decide +kernel
theorem dX9_startFirst_23 : decode cX9_startFirst 23 = .ok (.invokevirtual 37, 3) := by decide +kernel
theorem dX9_startFirst_26 : decode cX9_startFirst 26 = .ok (.return_, 1) := by decide +kernel
set_option maxRecDepth 100000 in
set_option maxHeartbeats 4000000 in
theorem mX9_startFirst {w : WX} {adr : Nat → Nat → Nat} (hj : Ij adr) {o1 : Nat} (ho1 : o1 < 2) (a2 : Int32) (S : St) : ∀ (l : Launch) (r : Int32) (S2 : St), fX9_startFirst o1 a2 S = some (r, S2) → Mv l w adr yX9_startFirst cX9_startFirst 3 none 1 23 [.ref (adr 30 0), .ref (adr 3 o1), .int a2] S S2 := by
  refine mv_of (lv := [(0, .ref (adr 30 0)), (1, .ref (adr 3 o1)), (2, .int a2)]) hj (plainFor_of_name (by decide +kernel)) rfl (Nat.le_of_ble_eq_true rfl) (fun k C Rr => ?_)
  have C : Cx w adr k cX9_startFirst RX9 3 1 23 := C
  refine ge_aload_n (n := 1) C 0 rfl dX9_startFirst_0 rfl rfl ?_
  refine gt_X9_12 (n := 4) C (by decide) dX9_startFirst_1 rfl ?_
  refine ge_aload_n (n := 5) C 1 rfl dX9_startFirst_4 rfl rfl ?_
  refine ge_iload_n (n := 6) C 2 rfl dX9_startFirst_5 rfl rfl ?_
  refine ge_callVv (n := 9) C (mX3_begin hj (o0 := 6) (by decide) (o1 := o1) ho1 a2 S) gv_X9_40 (cl_11 (by decide)) rfl rfl hc_X3_begin ⟨Nat.le_of_ble_eq_true rfl, Nat.le_of_ble_eq_true rfl⟩ rfl rfl (Nat.le_of_ble_eq_true rfl) dX9_startFirst_6 rfl (fun _ S_6 => ?_)
  refine ge_aload_n (n := 10) C 0 rfl dX9_startFirst_9 rfl rfl ?_
  refine ge_aload_n (n := 11) C 1 rfl dX9_startFirst_10 rfl rfl ?_
  refine gt_X9_44 (n := 14) C ho1 dX9_startFirst_11 rfl ?_
  refine pt_X9_32 (n := 17) C (by decide) dX9_startFirst_14 rfl (fun S_14 => ?_)
  refine ge_aload_n (n := 18) C 0 rfl dX9_startFirst_17 rfl rfl ?_
  refine ge_iconst (v := 0) (n := 19) C dX9_startFirst_18 (by decide) rfl ?_
  refine pt_X9_36 (n := 22) C (by decide) dX9_startFirst_19 rfl (fun S_19 => ?_)
  refine ge_aload_n (n := 23) C 0 rfl dX9_startFirst_22 rfl rfl ?_
  refine ge_callVv (n := 26) C (mX9_clearNotes hj S_19) gv_X9_37 (cl_30 (by decide)) rfl rfl hc_X9_clearNotes ⟨Nat.le_of_ble_eq_true rfl, Nat.le_of_ble_eq_true rfl⟩ rfl rfl (Nat.le_of_ble_eq_true rfl) dX9_startFirst_23 rfl (fun _ S_23 => ?_)
  exact ge_vret C Rr dX9_startFirst_26
theorem dX9_note_0 : decode cX9_note 0 = .ok (.aload_n 0, 1) := by decide +kernel
theorem dX9_note_1 : decode cX9_note 1 = .ok (.getfield 47, 3) := by decide +kernel
theorem dX9_note_4 : decode cX9_note 4 = .ok (.ifCond .ne 8, 3) := by decide +kernel
theorem dX9_note_7 : decode cX9_note 7 = .ok (.aload_n 0, 1) := by decide +kernel
theorem dX9_note_8 : decode cX9_note 8 = .ok (.iload_n 1, 1) := by decide +kernel
theorem dX9_note_9 : decode cX9_note 9 = .ok (.putfield 50, 3) := by decide +kernel
theorem dX9_note_12 : decode cX9_note 12 = .ok (.aload_n 0, 1) := by decide +kernel
theorem dX9_note_13 : decode cX9_note 13 = .ok (.iload_n 1, 1) := by decide +kernel
theorem dX9_note_14 : decode cX9_note 14 = .ok (.putfield 53, 3) := by decide +kernel
theorem dX9_note_17 : decode cX9_note 17 = .ok (.aload_n 0, 1) := by decide +kernel
theorem dX9_note_18 : decode cX9_note 18 = .ok (.dup, 1) := by decide +kernel
theorem dX9_note_19 : decode cX9_note 19 = .ok (.getfield 47, 3) := by decide +kernel
theorem dX9_note_22 : decode cX9_note 22 = .ok (.iconst 1, 1) := by decide +kernel
theorem dX9_note_23 : decode cX9_note 23 = .ok (.iadd, 1) := by decide +kernel
theorem dX9_note_24 : decode cX9_note 24 = .ok (.putfield 47, 3) := by decide +kernel
theorem dX9_note_27 : decode cX9_note 27 = .ok (.return_, 1) := by decide +kernel
set_option maxRecDepth 100000 in
set_option maxHeartbeats 4000000 in
theorem mX9_note {w : WX} {adr : Nat → Nat → Nat} (hj : Ij adr) (a1 : Int32) (S : St) : ∀ (l : Launch) (r : Int32) (S2 : St), fX9_note a1 S = some (r, S2) → Mv l w adr yX9_note cX9_note 2 none 0 0 [.ref (adr 30 0), .int a1] S S2 := by
  refine mv_of (lv := [(0, .ref (adr 30 0)), (1, .int a1)]) hj (plainFor_of_name (by decide +kernel)) rfl (Nat.le_of_ble_eq_true rfl) (fun k C Rr => ?_)
  have C : Cx w adr k cX9_note RX9 2 0 0 := C
  refine ge_aload_n (n := 1) C 0 rfl dX9_note_0 rfl rfl ?_
  refine gt_X9_47 (n := 4) C (by decide) dX9_note_1 rfl ?_
  refine ge_jn (fun (jj : St → Op) => ∀ (S_12 : St), Ge w adr k 12 [(0, .ref (adr 30 0)), (1, .int a1)] [] S_12 (jj S_12)) (fun S_12 => ?_) (fun j12 hj12 => ?_)
  · refine ge_aload_n (n := 13) C 0 rfl dX9_note_12 rfl rfl ?_
    refine ge_iload_n (n := 14) C 1 rfl dX9_note_13 rfl rfl ?_
    refine pt_X9_53 (n := 17) C (by decide) dX9_note_14 rfl (fun S_14 => ?_)
    refine ge_aload_n (n := 18) C 0 rfl dX9_note_17 rfl rfl ?_
    refine ge_dup (n := 19) C dX9_note_18 rfl rfl ?_
    refine gt_X9_47 (n := 22) C (by decide) dX9_note_19 rfl ?_
    refine ge_iconst (v := 1) (n := 23) C dX9_note_22 (by decide) rfl ?_
    refine ge_iadd (n := 24) C dX9_note_23 rfl ?_
    refine pt_X9_47 (n := 27) C (by decide) dX9_note_24 rfl (fun S_24 => ?_)
    exact ge_vret C Rr dX9_note_27
  refine ge_if_ne (t := 12) (n := 7) C dX9_note_4 (by decide) rfl (fun h_4 => ?_) (fun h_4 => ?_)
  · exact hj12 S
  · refine ge_aload_n (n := 8) C 0 rfl dX9_note_7 rfl rfl ?_
    refine ge_iload_n (n := 9) C 1 rfl dX9_note_8 rfl rfl ?_
    refine pt_X9_50 (n := 12) C (by decide) dX9_note_9 rfl (fun S_9 => ?_)
    exact hj12 S_9
theorem dX9_noted_0 : decode cX9_noted 0 = .ok (.iload_n 1, 1) := by decide +kernel
theorem dX9_noted_1 : decode cX9_noted 1 = .ok (.ifCond .ne 8, 3) := by decide +kernel
theorem dX9_noted_4 : decode cX9_noted 4 = .ok (.aload_n 0, 1) := by decide +kernel
theorem dX9_noted_5 : decode cX9_noted 5 = .ok (.getfield 47, 3) := by decide +kernel
theorem dX9_noted_8 : decode cX9_noted 8 = .ok (.ireturn, 1) := by decide +kernel
theorem dX9_noted_9 : decode cX9_noted 9 = .ok (.iload_n 1, 1) := by decide +kernel
theorem dX9_noted_10 : decode cX9_noted 10 = .ok (.iconst 1, 1) := by decide +kernel
theorem dX9_noted_11 : decode cX9_noted 11 = .ok (.if_icmp .ne 10, 3) := by decide +kernel
theorem dX9_noted_14 : decode cX9_noted 14 = .ok (.aload_n 0, 1) := by decide +kernel
theorem dX9_noted_15 : decode cX9_noted 15 = .ok (.getfield 50, 3) := by decide +kernel
theorem dX9_noted_18 : decode cX9_noted 18 = .ok (.goto 7, 3) := by decide +kernel
theorem dX9_noted_21 : decode cX9_noted 21 = .ok (.aload_n 0, 1) := by decide +kernel
theorem dX9_noted_22 : decode cX9_noted 22 = .ok (.getfield 53, 3) := by decide +kernel
theorem dX9_noted_25 : decode cX9_noted 25 = .ok (.ireturn, 1) := by decide +kernel
set_option maxRecDepth 100000 in
set_option maxHeartbeats 4000000 in
theorem mX9_noted {w : WX} {adr : Nat → Nat → Nat} (hj : Ij adr) (a1 : Int32) (S : St) : ∀ (l : Launch) (r : Int32) (S2 : St), fX9_noted a1 S = some (r, S2) → Mi l w adr yX9_noted cX9_noted 2 (some .int) 0 0 [.ref (adr 30 0), .int a1] S r S2 := by
  refine mi_of (lv := [(0, .ref (adr 30 0)), (1, .int a1)]) hj (plainFor_of_name (by decide +kernel)) rfl (Nat.le_of_ble_eq_true rfl) (fun k C Rr => ?_)
  have C : Cx w adr k cX9_noted RX9 2 0 0 := C
  refine ge_iload_n (n := 1) C 1 rfl dX9_noted_0 rfl rfl ?_
  refine ge_if_ne (t := 9) (n := 4) C dX9_noted_1 (by decide) rfl (fun h_1 => ?_) (fun h_1 => ?_)
  · refine ge_iload_n (n := 10) C 1 rfl dX9_noted_9 rfl rfl ?_
    refine ge_iconst (v := 1) (n := 11) C dX9_noted_10 (by decide) rfl ?_
    refine ge_icmp_ne (t := 21) (n := 14) C dX9_noted_11 (by decide) rfl (fun h_11 => ?_) (fun h_11 => ?_)
    · refine ge_aload_n (n := 22) C 0 rfl dX9_noted_21 rfl rfl ?_
      refine gt_X9_53 (n := 25) C (by decide) dX9_noted_22 rfl ?_
      exact ge_iret C Rr dX9_noted_25
    · refine ge_aload_n (n := 15) C 0 rfl dX9_noted_14 rfl rfl ?_
      refine gt_X9_50 (n := 18) C (by decide) dX9_noted_15 rfl ?_
      refine ge_goto (n := 25) C dX9_noted_18 (by decide) ?_
      exact ge_iret C Rr dX9_noted_25
  · refine ge_aload_n (n := 5) C 0 rfl dX9_noted_4 rfl rfl ?_
    refine gt_X9_47 (n := 8) C (by decide) dX9_noted_5 rfl ?_
    exact ge_iret C Rr dX9_noted_8
theorem dX9_passMonth_0 : decode cX9_passMonth 0 = .ok (.aload_n 0, 1) := by decide +kernel
theorem dX9_passMonth_1 : decode cX9_passMonth 1 = .ok (.getfield 12, 3) := by decide +kernel
theorem dX9_passMonth_4 : decode cX9_passMonth 4 = .ok (.aload_n 0, 1) := by decide +kernel
theorem dX9_passMonth_5 : decode cX9_passMonth 5 = .ok (.getfield 32, 3) := by decide +kernel
theorem dX9_passMonth_8 : decode cX9_passMonth 8 = .ok (.aload_n 0, 1) := by decide +kernel
theorem dX9_passMonth_9 : decode cX9_passMonth 9 = .ok (.getfield 36, 3) := by decide +kernel
theorem dX9_passMonth_12 : decode cX9_passMonth 12 = .ok (.invokevirtual 56, 3) := by decide +kernel
theorem dX9_passMonth_15 : decode cX9_passMonth 15 = .ok (.aload_n 0, 1) := by decide +kernel
theorem dX9_passMonth_16 : decode cX9_passMonth 16 = .ok (.dup, 1) := by decide +kernel
theorem dX9_passMonth_17 : decode cX9_passMonth 17 = .ok (.getfield 36, 3) := by decide +kernel
theorem dX9_passMonth_20 : decode cX9_passMonth 20 = .ok (.iconst 1, 1) := by decide +kernel
theorem dX9_passMonth_21 : decode cX9_passMonth 21 = .ok (.iadd, 1) := by decide +kernel
theorem dX9_passMonth_22 : decode cX9_passMonth 22 = .ok (.putfield 36, 3) := by decide +kernel
theorem dX9_passMonth_25 : decode cX9_passMonth 25 = .ok (.return_, 1) := by decide +kernel
set_option maxRecDepth 100000 in
set_option maxHeartbeats 4000000 in
theorem mX9_passMonth {w : WX} {adr : Nat → Nat → Nat} (hj : Ij adr)  (S : St) : ∀ (l : Launch) (r : Int32) (S2 : St), fX9_passMonth S = some (r, S2) → Mv l w adr yX9_passMonth cX9_passMonth 1 none 4 88 [.ref (adr 30 0)] S S2 := by
  refine mv_of (lv := [(0, .ref (adr 30 0))]) hj (plainFor_of_name (by decide +kernel)) rfl (Nat.le_of_ble_eq_true rfl) (fun k C Rr => ?_)
  have C : Cx w adr k cX9_passMonth RX9 1 4 88 := C
  refine ge_aload_n (n := 1) C 0 rfl dX9_passMonth_0 rfl rfl ?_
  refine gt_X9_12 (n := 4) C (by decide) dX9_passMonth_1 rfl ?_
  refine ge_aload_n (n := 5) C 0 rfl dX9_passMonth_4 rfl rfl ?_
  refine gt_X9_32 (n := 8) C (by decide) dX9_passMonth_5 rfl ?_
  refine ge_aload_n (n := 9) C 0 rfl dX9_passMonth_8 rfl rfl ?_
  refine gt_X9_36 (n := 12) C (by decide) dX9_passMonth_9 rfl ?_
  refine ge_callVv (n := 15) C (mX3_tan hj (o0 := 6) (by decide) (S 30 0 1) (S 30 0 2) S) gv_X9_56 (cl_11 (by decide)) rfl rfl hc_X3_tan ⟨Nat.le_of_ble_eq_true rfl, Nat.le_of_ble_eq_true rfl⟩ rfl rfl (Nat.le_of_ble_eq_true rfl) dX9_passMonth_12 rfl (fun _ S_12 => ?_)
  refine ge_aload_n (n := 16) C 0 rfl dX9_passMonth_15 rfl rfl ?_
  refine ge_dup (n := 17) C dX9_passMonth_16 rfl rfl ?_
  refine gt_X9_36 (n := 20) C (by decide) dX9_passMonth_17 rfl ?_
  refine ge_iconst (v := 1) (n := 21) C dX9_passMonth_20 (by decide) rfl ?_
  refine ge_iadd (n := 22) C dX9_passMonth_21 rfl ?_
  refine pt_X9_36 (n := 25) C (by decide) dX9_passMonth_22 rfl (fun S_22 => ?_)
  exact ge_vret C Rr dX9_passMonth_25
theorem dX9_firstBearing_0 : decode cX9_firstBearing 0 = .ok (.iconst 0, 1) := by decide +kernel
theorem dX9_firstBearing_1 : decode cX9_firstBearing 1 = .ok (.istore_n 3, 1) := by decide +kernel
theorem dX9_firstBearing_2 : decode cX9_firstBearing 2 = .ok (.iload_n 3, 1) := by decide +kernel
theorem dX9_firstBearing_3 : decode cX9_firstBearing 3 = .ok (.sipush 200, 3) := by decide +kernel
theorem dX9_firstBearing_6 : decode cX9_firstBearing 6 = .ok (.if_icmp .gt 27, 3) := by decide +kernel
theorem dX9_firstBearing_9 : decode cX9_firstBearing 9 = .ok (.aload_n 1, 1) := by decide +kernel
theorem dX9_firstBearing_10 : decode cX9_firstBearing 10 = .ok (.aload_n 0, 1) := by decide +kernel
theorem dX9_firstBearing_11 : decode cX9_firstBearing 11 = .ok (.getfield 12, 3) := by decide +kernel
theorem dX9_firstBearing_14 : decode cX9_firstBearing 14 = .ok (.iload_n 2, 1) := by decide +kernel
theorem dX9_firstBearing_15 : decode cX9_firstBearing 15 = .ok (.invokevirtual 60, 3) := by decide +kernel
theorem dX9_firstBearing_18 : decode cX9_firstBearing 18 = .ok (.ifCond .eq 5, 3) := by decide +kernel
theorem dX9_firstBearing_21 : decode cX9_firstBearing 21 = .ok (.iload_n 3, 1) := by decide +kernel
theorem dX9_firstBearing_22 : decode cX9_firstBearing 22 = .ok (.ireturn, 1) := by decide +kernel
theorem dX9_firstBearing_23 : decode cX9_firstBearing 23 = .ok (.aload_n 0, 1) := by decide +kernel
theorem dX9_firstBearing_24 : decode cX9_firstBearing 24 = .ok (.invokevirtual 64, 3) := by decide +kernel
theorem dX9_firstBearing_27 : decode cX9_firstBearing 27 = .ok (.iinc 3 1, 3) := by decide +kernel
theorem dX9_firstBearing_30 : decode cX9_firstBearing 30 = .ok (.goto (-28), 3) := by decide +kernel
theorem dX9_firstBearing_33 : decode cX9_firstBearing 33 = .ok (.iconst (-1), 1) := by decide +kernel
theorem dX9_firstBearing_34 : decode cX9_firstBearing 34 = .ok (.ireturn, 1) := by decide +kernel
set_option maxRecDepth 100000 in
set_option maxHeartbeats 4000000 in
theorem mX9_firstBearing {w : WX} {adr : Nat → Nat → Nat} (hj : Ij adr) {o1 : Nat} (ho1 : o1 < 2) (a2 : Int32) (S : St) : ∀ (l : Launch) (r : Int32) (S2 : St), fX9_firstBearing o1 a2 S = some (r, S2) → Mi l w adr yX9_firstBearing cX9_firstBearing 4 (some .int) 5 108 [.ref (adr 30 0), .ref (adr 3 o1), .int a2] S r S2 := by
  refine mi_of (lv := [(0, .ref (adr 30 0)), (1, .ref (adr 3 o1)), (2, .int a2)]) hj (plainFor_of_name (by decide +kernel)) rfl (Nat.le_of_ble_eq_true rfl) (fun k C Rr => ?_)
  have C : Cx w adr k cX9_firstBearing RX9 4 5 108 := C
  refine ge_iconst (v := 0) (n := 1) C dX9_firstBearing_0 (by decide) rfl ?_
  refine ge_istore_n (n := 2) (lv2 := [(3, .int (0 : Int32)), (0, .ref (adr 30 0)), (1, .ref (adr 3 o1)), (2, .int a2)]) C dX9_firstBearing_1 rfl rfl (by decide) rfl ?_
  refine ge_jn (fun (jj : St → Op) => ∀ (S_33 : St), Ge w adr k 33 [] [] S_33 (jj S_33)) (fun S_33 => ?_) (fun kk2 hkk2 => ?_)
  · refine ge_iconst (v := -1) (n := 34) C dX9_firstBearing_33 (by decide) rfl ?_
    exact ge_iret C Rr dX9_firstBearing_34
  refine ge_lop (fun (jj : Int32 → St → Op) => ∀ (x3_2 : Int32) (S_2 : St), Ge w adr k 2 [(3, .int x3_2), (0, .ref (adr 30 0)), (1, .ref (adr 3 o1)), (2, .int a2)] [] S_2 (jj x3_2 S_2)) (fun _ _ => ge_none) (fun ag2 hag2 x3_2 S_2 => ?_) FU (0 : Int32) S
  refine ge_iload_n (n := 3) C 0 rfl dX9_firstBearing_2 rfl rfl ?_
  refine ge_sipush (v := 200) (n := 6) C dX9_firstBearing_3 (by decide) rfl ?_
  refine ge_icmp_gt (t := 33) (n := 9) C dX9_firstBearing_6 (by decide) rfl (fun h_6 => ?_) (fun h_6 => ?_)
  · refine ge_sub [] rfl ?_
    exact hkk2 S_2
  · refine ge_aload_n (n := 10) C 2 rfl dX9_firstBearing_9 rfl rfl ?_
    refine ge_aload_n (n := 11) C 1 rfl dX9_firstBearing_10 rfl rfl ?_
    refine gt_X9_12 (n := 14) C (by decide) dX9_firstBearing_11 rfl ?_
    refine ge_iload_n (n := 15) C 3 rfl dX9_firstBearing_14 rfl rfl ?_
    refine ge_callVi (n := 18) C (mX6_bearsAll hj (o0 := o1) ho1 (o1 := 6) (by decide) a2 S_2) gv_X9_60 (cl_3 ho1) rfl rfl hc_X6_bearsAll ⟨Nat.le_of_ble_eq_true rfl, Nat.le_of_ble_eq_true rfl⟩ rfl rfl (Nat.le_of_ble_eq_true rfl) dX9_firstBearing_15 rfl (fun r_15 S_15 => ?_)
    refine ge_if_eq (t := 23) (n := 21) C dX9_firstBearing_18 (by decide) rfl (fun h_18 => ?_) (fun h_18 => ?_)
    · refine ge_aload_n (n := 24) C 1 rfl dX9_firstBearing_23 rfl rfl ?_
      refine ge_callVv (n := 27) C (mX9_passMonth hj S_15) gv_X9_64 (cl_30 (by decide)) rfl rfl hc_X9_passMonth ⟨Nat.le_of_ble_eq_true rfl, Nat.le_of_ble_eq_true rfl⟩ rfl rfl (Nat.le_of_ble_eq_true rfl) dX9_firstBearing_24 rfl (fun _ S_24 => ?_)
      refine ge_iinc (n := 30) (v := (x3_2 + (1 : Int32))) (lv2 := [(3, .int (x3_2 + (1 : Int32))), (0, .ref (adr 30 0)), (1, .ref (adr 3 o1)), (2, .int a2)]) C 0 rfl dX9_firstBearing_27 rfl rfl (by decide) rfl ?_
      refine ge_goto (n := 2) C dX9_firstBearing_30 (by decide) ?_
      exact hag2 (x3_2 + (1 : Int32)) S_24
    · refine ge_iload_n (n := 22) C 0 rfl dX9_firstBearing_21 rfl rfl ?_
      exact ge_iret C Rr dX9_firstBearing_22
theorem dX9_lastFeeling_0 : decode cX9_lastFeeling 0 = .ok (.iconst (-1), 1) := by decide +kernel
theorem dX9_lastFeeling_1 : decode cX9_lastFeeling 1 = .ok (.istore_n 3, 1) := by decide +kernel
theorem dX9_lastFeeling_2 : decode cX9_lastFeeling 2 = .ok (.iconst 0, 1) := by decide +kernel
theorem dX9_lastFeeling_3 : decode cX9_lastFeeling 3 = .ok (.istore 4, 2) := by decide +kernel
theorem dX9_lastFeeling_5 : decode cX9_lastFeeling 5 = .ok (.iload 4, 2) := by decide +kernel
theorem dX9_lastFeeling_7 : decode cX9_lastFeeling 7 = .ok (.sipush 200, 3) := by decide +kernel
theorem dX9_lastFeeling_10 : decode cX9_lastFeeling 10 = .ok (.if_icmp .gt 29, 3) := by decide +kernel
theorem dX9_lastFeeling_13 : decode cX9_lastFeeling 13 = .ok (.aload_n 1, 1) := by decide +kernel
theorem dX9_lastFeeling_14 : decode cX9_lastFeeling 14 = .ok (.aload_n 0, 1) := by decide +kernel
theorem dX9_lastFeeling_15 : decode cX9_lastFeeling 15 = .ok (.getfield 12, 3) := by decide +kernel
theorem dX9_lastFeeling_18 : decode cX9_lastFeeling 18 = .ok (.iload_n 2, 1) := by decide +kernel
theorem dX9_lastFeeling_19 : decode cX9_lastFeeling 19 = .ok (.invokevirtual 67, 3) := by decide +kernel
theorem dX9_lastFeeling_22 : decode cX9_lastFeeling 22 = .ok (.iconst 1, 1) := by decide +kernel
theorem dX9_lastFeeling_23 : decode cX9_lastFeeling 23 = .ok (.if_icmp .lt 6, 3) := by decide +kernel
theorem dX9_lastFeeling_26 : decode cX9_lastFeeling 26 = .ok (.iload 4, 2) := by decide +kernel
theorem dX9_lastFeeling_28 : decode cX9_lastFeeling 28 = .ok (.istore_n 3, 1) := by decide +kernel
theorem dX9_lastFeeling_29 : decode cX9_lastFeeling 29 = .ok (.aload_n 0, 1) := by decide +kernel
theorem dX9_lastFeeling_30 : decode cX9_lastFeeling 30 = .ok (.invokevirtual 64, 3) := by decide +kernel
theorem dX9_lastFeeling_33 : decode cX9_lastFeeling 33 = .ok (.iinc 4 1, 3) := by decide +kernel
theorem dX9_lastFeeling_36 : decode cX9_lastFeeling 36 = .ok (.goto (-31), 3) := by decide +kernel
theorem dX9_lastFeeling_39 : decode cX9_lastFeeling 39 = .ok (.iload_n 3, 1) := by decide +kernel
theorem dX9_lastFeeling_40 : decode cX9_lastFeeling 40 = .ok (.ireturn, 1) := by decide +kernel
set_option maxRecDepth 100000 in
set_option maxHeartbeats 4000000 in
theorem mX9_lastFeeling {w : WX} {adr : Nat → Nat → Nat} (hj : Ij adr) {o1 : Nat} (ho1 : o1 < 2) (a2 : Int32) (S : St) : ∀ (l : Launch) (r : Int32) (S2 : St), fX9_lastFeeling o1 a2 S = some (r, S2) → Mi l w adr yX9_lastFeeling cX9_lastFeeling 5 (some .int) 5 108 [.ref (adr 30 0), .ref (adr 3 o1), .int a2] S r S2 := by
  refine mi_of (lv := [(0, .ref (adr 30 0)), (1, .ref (adr 3 o1)), (2, .int a2)]) hj (plainFor_of_name (by decide +kernel)) rfl (Nat.le_of_ble_eq_true rfl) (fun k C Rr => ?_)
  have C : Cx w adr k cX9_lastFeeling RX9 5 5 108 := C
  refine ge_iconst (v := -1) (n := 1) C dX9_lastFeeling_0 (by decide) rfl ?_
  refine ge_istore_n (n := 2) (lv2 := [(3, .int (-1 : Int32)), (0, .ref (adr 30 0)), (1, .ref (adr 3 o1)), (2, .int a2)]) C dX9_lastFeeling_1 rfl rfl (by decide) rfl ?_
  refine ge_iconst (v := 0) (n := 3) C dX9_lastFeeling_2 (by decide) rfl ?_
  refine ge_istore (n := 5) (lv2 := [(4, .int (0 : Int32)), (3, .int (-1 : Int32)), (0, .ref (adr 30 0)), (1, .ref (adr 3 o1)), (2, .int a2)]) C dX9_lastFeeling_3 rfl (by decide) rfl ?_
  refine ge_jn (fun (jj : Int32 → St → Op) => ∀ (x3_39 : Int32) (S_39 : St), Ge w adr k 39 [(3, .int x3_39)] [] S_39 (jj x3_39 S_39)) (fun x3_39 S_39 => ?_) (fun kk5 hkk5 => ?_)
  · refine ge_iload_n (n := 40) C 0 rfl dX9_lastFeeling_39 rfl rfl ?_
    exact ge_iret C Rr dX9_lastFeeling_40
  refine ge_lop (fun (jj : Int32 → Int32 → St → Op) => ∀ (x4_5 : Int32) (x3_5 : Int32) (S_5 : St), Ge w adr k 5 [(4, .int x4_5), (3, .int x3_5), (0, .ref (adr 30 0)), (1, .ref (adr 3 o1)), (2, .int a2)] [] S_5 (jj x4_5 x3_5 S_5)) (fun _ _ _ => ge_none) (fun ag5 hag5 x4_5 x3_5 S_5 => ?_) FU (0 : Int32) (-1 : Int32) S
  refine ge_iload (n := 7) C 0 rfl dX9_lastFeeling_5 rfl ?_
  refine ge_sipush (v := 200) (n := 10) C dX9_lastFeeling_7 (by decide) rfl ?_
  refine ge_icmp_gt (t := 39) (n := 13) C dX9_lastFeeling_10 (by decide) rfl (fun h_10 => ?_) (fun h_10 => ?_)
  · refine ge_sub [1] rfl ?_
    exact hkk5 x3_5 S_5
  · refine ge_aload_n (n := 14) C 3 rfl dX9_lastFeeling_13 rfl rfl ?_
    refine ge_aload_n (n := 15) C 2 rfl dX9_lastFeeling_14 rfl rfl ?_
    refine gt_X9_12 (n := 18) C (by decide) dX9_lastFeeling_15 rfl ?_
    refine ge_iload_n (n := 19) C 4 rfl dX9_lastFeeling_18 rfl rfl ?_
    refine ge_callVi (n := 22) C (mX6_pain hj (o0 := o1) ho1 (o1 := 6) (by decide) a2 S_5) gv_X9_67 (cl_3 ho1) rfl rfl hc_X6_pain ⟨Nat.le_of_ble_eq_true rfl, Nat.le_of_ble_eq_true rfl⟩ rfl rfl (Nat.le_of_ble_eq_true rfl) dX9_lastFeeling_19 rfl (fun r_19 S_19 => ?_)
    refine ge_iconst (v := 1) (n := 23) C dX9_lastFeeling_22 (by decide) rfl ?_
    refine ge_jn (fun (jj : Int32 → Op) => ∀ (x3_29 : Int32), Ge w adr k 29 [(4, .int x4_5), (3, .int x3_29), (0, .ref (adr 30 0)), (1, .ref (adr 3 o1)), (2, .int a2)] [] S_19 (jj x3_29)) (fun x3_29 => ?_) (fun j29 hj29 => ?_)
    · refine ge_aload_n (n := 30) C 2 rfl dX9_lastFeeling_29 rfl rfl ?_
      refine ge_callVv (n := 33) C (mX9_passMonth hj S_19) gv_X9_64 (cl_30 (by decide)) rfl rfl hc_X9_passMonth ⟨Nat.le_of_ble_eq_true rfl, Nat.le_of_ble_eq_true rfl⟩ rfl rfl (Nat.le_of_ble_eq_true rfl) dX9_lastFeeling_30 rfl (fun _ S_30 => ?_)
      refine ge_iinc (n := 36) (v := (x4_5 + (1 : Int32))) (lv2 := [(4, .int (x4_5 + (1 : Int32))), (3, .int x3_29), (0, .ref (adr 30 0)), (1, .ref (adr 3 o1)), (2, .int a2)]) C 0 rfl dX9_lastFeeling_33 rfl rfl (by decide) rfl ?_
      refine ge_goto (n := 5) C dX9_lastFeeling_36 (by decide) ?_
      exact hag5 (x4_5 + (1 : Int32)) x3_29 S_30
    refine ge_icmp_lt (t := 29) (n := 26) C dX9_lastFeeling_23 (by decide) rfl (fun h_23 => ?_) (fun h_23 => ?_)
    · exact hj29 x3_5
    · refine ge_iload (n := 28) C 0 rfl dX9_lastFeeling_26 rfl ?_
      refine ge_istore_n (n := 29) (lv2 := [(3, .int x4_5), (4, .int x4_5), (0, .ref (adr 30 0)), (1, .ref (adr 3 o1)), (2, .int a2)]) C dX9_lastFeeling_28 rfl rfl (by decide) rfl ?_
      refine ge_sub [1, 0, 2, 3, 4] rfl ?_
      exact hj29 x4_5
theorem dX10_feed_0 : decode cX10_feed 0 = .ok (.iload_n 1, 1) := by decide +kernel
theorem dX10_feed_1 : decode cX10_feed 1 = .ok (.iconst 0, 1) := by decide +kernel
theorem dX10_feed_2 : decode cX10_feed 2 = .ok (.sipush 255, 3) := by decide +kernel
theorem dX10_feed_5 : decode cX10_feed 5 = .ok (.invokestatic 77, 3) := by decide +kernel
theorem dX10_feed_8 : decode cX10_feed 8 = .ok (.ifCond .eq 6, 3) := by decide +kernel
theorem dX10_feed_11 : decode cX10_feed 11 = .ok (.ldc 81, 2) := by decide +kernel
theorem dX10_feed_13 : decode cX10_feed 13 = .ok (.ireturn, 1) := by decide +kernel
theorem dX10_feed_14 : decode cX10_feed 14 = .ok (.aload_n 0, 1) := by decide +kernel
theorem dX10_feed_15 : decode cX10_feed 15 = .ok (.getfield 12, 3) := by decide +kernel
theorem dX10_feed_18 : decode cX10_feed 18 = .ok (.getfield 82, 3) := by decide +kernel
theorem dX10_feed_21 : decode cX10_feed 21 = .ok (.sipush 240, 3) := by decide +kernel
theorem dX10_feed_24 : decode cX10_feed 24 = .ok (.if_icmp .lt 6, 3) := by decide +kernel
theorem dX10_feed_27 : decode cX10_feed 27 = .ok (.ldc 86, 2) := by decide +kernel
theorem dX10_feed_29 : decode cX10_feed 29 = .ok (.ireturn, 1) := by decide +kernel
theorem dX10_feed_30 : decode cX10_feed 30 = .ok (.aload_n 0, 1) := by decide +kernel
theorem dX10_feed_31 : decode cX10_feed 31 = .ok (.getfield 12, 3) := by decide +kernel
theorem dX10_feed_34 : decode cX10_feed 34 = .ok (.iload_n 1, 1) := by decide +kernel
theorem dX10_feed_35 : decode cX10_feed 35 = .ok (.invokevirtual 87, 3) := by decide +kernel
theorem dX10_feed_38 : decode cX10_feed 38 = .ok (.ireturn, 1) := by decide +kernel
set_option maxRecDepth 100000 in
set_option maxHeartbeats 4000000 in
theorem mX10_feed {w : WX} {adr : Nat → Nat → Nat} (hj : Ij adr) (a1 : Int32) (S : St) : ∀ (l : Launch) (r : Int32) (S2 : St), fX10_feed a1 S = some (r, S2) → Mi l w adr yX10_feed cX10_feed 2 (some .int) 1 22 [.ref (adr 0 0), .int a1] S r S2 := by
  refine mi_of (lv := [(0, .ref (adr 0 0)), (1, .int a1)]) hj (plainFor_of_name (by decide +kernel)) rfl (Nat.le_of_ble_eq_true rfl) (fun k C Rr => ?_)
  have C : Cx w adr k cX10_feed RX10 2 1 22 := C
  refine ge_iload_n (n := 1) C 1 rfl dX10_feed_0 rfl rfl ?_
  refine ge_iconst (v := 0) (n := 2) C dX10_feed_1 (by decide) rfl ?_
  refine ge_sipush (v := 255) (n := 5) C dX10_feed_2 (by decide) rfl ?_
  refine ge_callSi (n := 8) C (mX10_isOutside hj a1 (0 : Int32) (255 : Int32) S) gv_X10_77 hc_X10_isOutside ⟨Nat.le_of_ble_eq_true rfl, Nat.le_of_ble_eq_true rfl⟩ rfl rfl (Nat.le_of_ble_eq_true rfl) dX10_feed_5 rfl (fun r_5 S_5 => ?_)
  refine ge_if_eq (t := 14) (n := 11) C dX10_feed_8 (by decide) rfl (fun h_8 => ?_) (fun h_8 => ?_)
  · refine ge_aload_n (n := 15) C 0 rfl dX10_feed_14 rfl rfl ?_
    refine gt_X10_12 (n := 18) C (by decide) dX10_feed_15 rfl ?_
    refine gt_X10_82 (n := 21) C (by decide) dX10_feed_18 rfl ?_
    refine ge_sipush (v := 240) (n := 24) C dX10_feed_21 (by decide) rfl ?_
    refine ge_icmp_lt (t := 30) (n := 27) C dX10_feed_24 (by decide) rfl (fun h_24 => ?_) (fun h_24 => ?_)
    · refine ge_aload_n (n := 31) C 0 rfl dX10_feed_30 rfl rfl ?_
      refine gt_X10_12 (n := 34) C (by decide) dX10_feed_31 rfl ?_
      refine ge_iload_n (n := 35) C 1 rfl dX10_feed_34 rfl rfl ?_
      refine ge_callVi (n := 38) C (mX8_add hj a1 S_5) gv_X10_87 (cl_1 (by decide)) rfl rfl hc_X8_add ⟨Nat.le_of_ble_eq_true rfl, Nat.le_of_ble_eq_true rfl⟩ rfl rfl (Nat.le_of_ble_eq_true rfl) dX10_feed_35 rfl (fun r_35 S_35 => ?_)
      exact ge_iret C Rr dX10_feed_38
    · refine ge_ldc (n := 29) C kc_X10_86 dX10_feed_27 rfl ?_
      exact ge_iret C Rr dX10_feed_29
  · refine ge_ldc (n := 13) C kc_X10_81 dX10_feed_11 rfl ?_
    exact ge_iret C Rr dX10_feed_13
theorem dX10_yard_0 : decode cX10_yard 0 = .ok (.aload_n 0, 1) := by decide +kernel
theorem dX10_yard_1 : decode cX10_yard 1 = .ok (.getfield 12, 3) := by decide +kernel
theorem dX10_yard_4 : decode cX10_yard 4 = .ok (.aload_n 0, 1) := by decide +kernel
theorem dX10_yard_5 : decode cX10_yard 5 = .ok (.getfield 23, 3) := by decide +kernel
theorem dX10_yard_8 : decode cX10_yard 8 = .ok (.invokevirtual 91, 3) := by decide +kernel
theorem dX10_yard_11 : decode cX10_yard 11 = .ok (.aload_n 0, 1) := by decide +kernel
theorem dX10_yard_12 : decode cX10_yard 12 = .ok (.getfield 12, 3) := by decide +kernel
theorem dX10_yard_15 : decode cX10_yard 15 = .ok (.getfield 94, 3) := by decide +kernel
theorem dX10_yard_18 : decode cX10_yard 18 = .ok (.ifCond .eq 14, 3) := by decide +kernel
theorem dX10_yard_21 : decode cX10_yard 21 = .ok (.bipush (-10), 2) := by decide +kernel
theorem dX10_yard_23 : decode cX10_yard 23 = .ok (.aload_n 0, 1) := by decide +kernel
theorem dX10_yard_24 : decode cX10_yard 24 = .ok (.getfield 12, 3) := by decide +kernel
theorem dX10_yard_27 : decode cX10_yard 27 = .ok (.getfield 94, 3) := by decide +kernel
theorem dX10_yard_30 : decode cX10_yard 30 = .ok (.isub, 1) := by decide +kernel
theorem dX10_yard_31 : decode cX10_yard 31 = .ok (.ireturn, 1) := by decide +kernel
theorem dX10_yard_32 : decode cX10_yard 32 = .ok (.aload_n 0, 1) := by decide +kernel
theorem dX10_yard_33 : decode cX10_yard 33 = .ok (.getfield 19, 3) := by decide +kernel
theorem dX10_yard_36 : decode cX10_yard 36 = .ok (.astore_n 1, 1) := by decide +kernel
theorem dX10_yard_37 : decode cX10_yard 37 = .ok (.aload_n 0, 1) := by decide +kernel
theorem dX10_yard_38 : decode cX10_yard 38 = .ok (.aload_n 0, 1) := by decide +kernel
theorem dX10_yard_39 : decode cX10_yard 39 = .ok (.getfield 23, 3) := by decide +kernel
theorem dX10_yard_42 : decode cX10_yard 42 = .ok (.putfield 19, 3) := by decide +kernel
theorem dX10_yard_45 : decode cX10_yard 45 = .ok (.aload_n 0, 1) := by decide +kernel
theorem dX10_yard_46 : decode cX10_yard 46 = .ok (.aload_n 1, 1) := by decide +kernel
theorem dX10_yard_47 : decode cX10_yard 47 = .ok (.putfield 23, 3) := by decide +kernel
theorem dX10_yard_50 : decode cX10_yard 50 = .ok (.aload_n 0, 1) := by decide +kernel
theorem dX10_yard_51 : decode cX10_yard 51 = .ok (.getfield 31, 3) := by decide +kernel
theorem dX10_yard_54 : decode cX10_yard 54 = .ok (.aload_n 0, 1) := by decide +kernel
theorem dX10_yard_55 : decode cX10_yard 55 = .ok (.getfield 19, 3) := by decide +kernel
theorem dX10_yard_58 : decode cX10_yard 58 = .ok (.invokevirtual 97, 3) := by decide +kernel
theorem dX10_yard_61 : decode cX10_yard 61 = .ok (.aload_n 0, 1) := by decide +kernel
theorem dX10_yard_62 : decode cX10_yard 62 = .ok (.getfield 38, 3) := by decide +kernel
theorem dX10_yard_65 : decode cX10_yard 65 = .ok (.iconst 0, 1) := by decide +kernel
theorem dX10_yard_66 : decode cX10_yard 66 = .ok (.putfield 100, 3) := by decide +kernel
theorem dX10_yard_69 : decode cX10_yard 69 = .ok (.aload_n 0, 1) := by decide +kernel
theorem dX10_yard_70 : decode cX10_yard 70 = .ok (.getfield 38, 3) := by decide +kernel
theorem dX10_yard_73 : decode cX10_yard 73 = .ok (.iconst 0, 1) := by decide +kernel
theorem dX10_yard_74 : decode cX10_yard 74 = .ok (.putfield 103, 3) := by decide +kernel
theorem dX10_yard_77 : decode cX10_yard 77 = .ok (.aload_n 0, 1) := by decide +kernel
theorem dX10_yard_78 : decode cX10_yard 78 = .ok (.getfield 52, 3) := by decide +kernel
theorem dX10_yard_81 : decode cX10_yard 81 = .ok (.iconst 0, 1) := by decide +kernel
theorem dX10_yard_82 : decode cX10_yard 82 = .ok (.putfield 106, 3) := by decide +kernel
theorem dX10_yard_85 : decode cX10_yard 85 = .ok (.aload_n 0, 1) := by decide +kernel
theorem dX10_yard_86 : decode cX10_yard 86 = .ok (.getfield 59, 3) := by decide +kernel
theorem dX10_yard_89 : decode cX10_yard 89 = .ok (.iconst 0, 1) := by decide +kernel
theorem dX10_yard_90 : decode cX10_yard 90 = .ok (.putfield 107, 3) := by decide +kernel
theorem dX10_yard_93 : decode cX10_yard 93 = .ok (.aload_n 0, 1) := by decide +kernel
theorem dX10_yard_94 : decode cX10_yard 94 = .ok (.getfield 19, 3) := by decide +kernel
theorem dX10_yard_97 : decode cX10_yard 97 = .ok (.getfield 108, 3) := by decide +kernel
theorem dX10_yard_100 : decode cX10_yard 100 = .ok (.ireturn, 1) := by decide +kernel
set_option maxRecDepth 100000 in
set_option maxHeartbeats 4000000 in
theorem mX10_yard {w : WX} {adr : Nat → Nat → Nat} (hj : Ij adr)  (S : St) : ∀ (l : Launch) (r : Int32) (S2 : St), fX10_yard S = some (r, S2) → Mi l w adr yX10_yard cX10_yard 2 (some .int) 5 115 [.ref (adr 0 0)] S r S2 := by
  refine mi_of (lv := [(0, .ref (adr 0 0))]) hj (plainFor_of_name (by decide +kernel)) rfl (Nat.le_of_ble_eq_true rfl) (fun k C Rr => ?_)
  have C : Cx w adr k cX10_yard RX10 2 5 115 := C
  refine ge_aload_n (n := 1) C 0 rfl dX10_yard_0 rfl rfl ?_
  refine gt_X10_12 (n := 4) C (by decide) dX10_yard_1 rfl ?_
  refine ge_aload_n (n := 5) C 0 rfl dX10_yard_4 rfl rfl ?_
  refine gt_X10_23 (n := 8) C (by decide) dX10_yard_5 rfl ?_
  refine ge_callVv (n := 11) C (mX8_readInto hj (o1 := (pid (S 0 0 2))) (pid_lt _) S) gv_X10_91 (cl_1 (by decide)) rfl rfl hc_X8_readInto ⟨Nat.le_of_ble_eq_true rfl, Nat.le_of_ble_eq_true rfl⟩ rfl rfl (Nat.le_of_ble_eq_true rfl) dX10_yard_8 rfl (fun _ S_8 => ?_)
  refine ge_aload_n (n := 12) C 0 rfl dX10_yard_11 rfl rfl ?_
  refine gt_X10_12 (n := 15) C (by decide) dX10_yard_12 rfl ?_
  refine gt_X10_94 (n := 18) C (by decide) dX10_yard_15 rfl ?_
  refine ge_if_eq (t := 32) (n := 21) C dX10_yard_18 (by decide) rfl (fun h_18 => ?_) (fun h_18 => ?_)
  · refine ge_aload_n (n := 33) C 0 rfl dX10_yard_32 rfl rfl ?_
    refine gt_X10_19 (n := 36) C (by decide) dX10_yard_33 rfl ?_
    refine ge_astore_n (n := 37) (lv2 := [(1, .ref (adr 3 (pid (S_8 0 0 1)))), (0, .ref (adr 0 0))]) C dX10_yard_36 rfl rfl (by decide) rfl ?_
    refine ge_aload_n (n := 38) C 1 rfl dX10_yard_37 rfl rfl ?_
    refine ge_aload_n (n := 39) C 1 rfl dX10_yard_38 rfl rfl ?_
    refine gt_X10_23 (n := 42) C (by decide) dX10_yard_39 rfl ?_
    refine pt_X10_19 (n := 45) C (by decide) (pid_lt _) dX10_yard_42 rfl (fun S_42 => ?_)
    refine ge_aload_n (n := 46) C 1 rfl dX10_yard_45 rfl rfl ?_
    refine ge_aload_n (n := 47) C 0 rfl dX10_yard_46 rfl rfl ?_
    refine pt_X10_23 (n := 50) C (by decide) (pid_lt _) dX10_yard_47 rfl (fun S_47 => ?_)
    refine ge_aload_n (n := 51) C 1 rfl dX10_yard_50 rfl rfl ?_
    refine gt_X10_31 (n := 54) C (by decide) dX10_yard_51 rfl ?_
    refine ge_aload_n (n := 55) C 1 rfl dX10_yard_54 rfl rfl ?_
    refine gt_X10_19 (n := 58) C (by decide) dX10_yard_55 rfl ?_
    refine ge_callVv (n := 61) C (mX7_begin hj (o1 := (pid (S_47 0 0 1))) (pid_lt _) S_47) gv_X10_97 (cl_9 (by decide)) rfl rfl hc_X7_begin ⟨Nat.le_of_ble_eq_true rfl, Nat.le_of_ble_eq_true rfl⟩ rfl rfl (Nat.le_of_ble_eq_true rfl) dX10_yard_58 rfl (fun _ S_58 => ?_)
    refine ge_aload_n (n := 62) C 1 rfl dX10_yard_61 rfl rfl ?_
    refine gt_X10_38 (n := 65) C (by decide) dX10_yard_62 rfl ?_
    refine ge_iconst (v := 0) (n := 66) C dX10_yard_65 (by decide) rfl ?_
    refine pt_X10_100 (n := 69) C (by decide) dX10_yard_66 rfl (fun S_66 => ?_)
    refine ge_aload_n (n := 70) C 1 rfl dX10_yard_69 rfl rfl ?_
    refine gt_X10_38 (n := 73) C (by decide) dX10_yard_70 rfl ?_
    refine ge_iconst (v := 0) (n := 74) C dX10_yard_73 (by decide) rfl ?_
    refine pt_X10_103 (n := 77) C (by decide) dX10_yard_74 rfl (fun S_74 => ?_)
    refine ge_aload_n (n := 78) C 1 rfl dX10_yard_77 rfl rfl ?_
    refine gt_X10_52 (n := 81) C (by decide) dX10_yard_78 rfl ?_
    refine ge_iconst (v := 0) (n := 82) C dX10_yard_81 (by decide) rfl ?_
    refine pt_X10_106 (n := 85) C (by decide) dX10_yard_82 rfl (fun S_82 => ?_)
    refine ge_aload_n (n := 86) C 1 rfl dX10_yard_85 rfl rfl ?_
    refine gt_X10_59 (n := 89) C (by decide) dX10_yard_86 rfl ?_
    refine ge_iconst (v := 0) (n := 90) C dX10_yard_89 (by decide) rfl ?_
    refine pt_X10_107 (n := 93) C (by decide) dX10_yard_90 rfl (fun S_90 => ?_)
    refine ge_aload_n (n := 94) C 1 rfl dX10_yard_93 rfl rfl ?_
    refine gt_X10_19 (n := 97) C (by decide) dX10_yard_94 rfl ?_
    refine gt_X10_108 (n := 100) C (pid_lt _) dX10_yard_97 rfl ?_
    exact ge_iret C Rr dX10_yard_100
  · refine ge_bipush (v := -10) (n := 23) C dX10_yard_21 (by decide) rfl ?_
    refine ge_aload_n (n := 24) C 0 rfl dX10_yard_23 rfl rfl ?_
    refine gt_X10_12 (n := 27) C (by decide) dX10_yard_24 rfl ?_
    refine gt_X10_94 (n := 30) C (by decide) dX10_yard_27 rfl ?_
    refine ge_isub (n := 31) C dX10_yard_30 rfl ?_
    exact ge_iret C Rr dX10_yard_31
theorem dX10_fault_0 : decode cX10_fault 0 = .ok (.aload_n 0, 1) := by decide +kernel
theorem dX10_fault_1 : decode cX10_fault 1 = .ok (.getfield 12, 3) := by decide +kernel
theorem dX10_fault_4 : decode cX10_fault 4 = .ok (.getfield 111, 3) := by decide +kernel
theorem dX10_fault_7 : decode cX10_fault 7 = .ok (.ireturn, 1) := by decide +kernel
set_option maxRecDepth 100000 in
set_option maxHeartbeats 4000000 in
theorem mX10_fault {w : WX} {adr : Nat → Nat → Nat} (hj : Ij adr)  (S : St) : ∀ (l : Launch) (r : Int32) (S2 : St), fX10_fault S = some (r, S2) → Mi l w adr yX10_fault cX10_fault 1 (some .int) 0 0 [.ref (adr 0 0)] S r S2 := by
  refine mi_of (lv := [(0, .ref (adr 0 0))]) hj (plainFor_of_name (by decide +kernel)) rfl (Nat.le_of_ble_eq_true rfl) (fun k C Rr => ?_)
  have C : Cx w adr k cX10_fault RX10 1 0 0 := C
  refine ge_aload_n (n := 1) C 0 rfl dX10_fault_0 rfl rfl ?_
  refine gt_X10_12 (n := 4) C (by decide) dX10_fault_1 rfl ?_
  refine gt_X10_111 (n := 7) C (by decide) dX10_fault_4 rfl ?_
  exact ge_iret C Rr dX10_fault_7
theorem dX10_told_0 : decode cX10_told 0 = .ok (.iload_n 1, 1) := by decide +kernel
theorem dX10_told_1 : decode cX10_told 1 = .ok (.tableswitch 195 0 14 #[75, 83, 91, 99, 107, 115, 123, 131, 139, 147, 155, 163, 171, 179, 187], 75) := by decide +kernel
theorem dX10_told_76 : decode cX10_told 76 = .ok (.aload_n 0, 1) := by decide +kernel
theorem dX10_told_77 : decode cX10_told 77 = .ok (.getfield 19, 3) := by decide +kernel
theorem dX10_told_80 : decode cX10_told 80 = .ok (.getfield 114, 3) := by decide +kernel
theorem dX10_told_83 : decode cX10_told 83 = .ok (.ireturn, 1) := by decide +kernel
theorem dX10_told_84 : decode cX10_told 84 = .ok (.aload_n 0, 1) := by decide +kernel
theorem dX10_told_85 : decode cX10_told 85 = .ok (.getfield 31, 3) := by decide +kernel
theorem dX10_told_88 : decode cX10_told 88 = .ok (.getfield 117, 3) := by decide +kernel
theorem dX10_told_91 : decode cX10_told 91 = .ok (.ireturn, 1) := by decide +kernel
theorem dX10_told_92 : decode cX10_told 92 = .ok (.aload_n 0, 1) := by decide +kernel
theorem dX10_told_93 : decode cX10_told 93 = .ok (.getfield 19, 3) := by decide +kernel
theorem dX10_told_96 : decode cX10_told 96 = .ok (.getfield 108, 3) := by decide +kernel
theorem dX10_told_99 : decode cX10_told 99 = .ok (.ireturn, 1) := by decide +kernel
theorem dX10_told_100 : decode cX10_told 100 = .ok (.aload_n 0, 1) := by decide +kernel
theorem dX10_told_101 : decode cX10_told 101 = .ok (.getfield 19, 3) := by decide +kernel
theorem dX10_told_104 : decode cX10_told 104 = .ok (.getfield 120, 3) := by decide +kernel
theorem dX10_told_107 : decode cX10_told 107 = .ok (.ireturn, 1) := by decide +kernel
theorem dX10_told_108 : decode cX10_told 108 = .ok (.aload_n 0, 1) := by decide +kernel
theorem dX10_told_109 : decode cX10_told 109 = .ok (.getfield 12, 3) := by decide +kernel
theorem dX10_told_112 : decode cX10_told 112 = .ok (.getfield 82, 3) := by decide +kernel
theorem dX10_told_115 : decode cX10_told 115 = .ok (.ireturn, 1) := by decide +kernel
theorem dX10_told_116 : decode cX10_told 116 = .ok (.aload_n 0, 1) := by decide +kernel
theorem dX10_told_117 : decode cX10_told 117 = .ok (.getfield 31, 3) := by decide +kernel
theorem dX10_told_120 : decode cX10_told 120 = .ok (.getfield 123, 3) := by decide +kernel
theorem dX10_told_123 : decode cX10_told 123 = .ok (.ireturn, 1) := by decide +kernel
theorem dX10_told_124 : decode cX10_told 124 = .ok (.aload_n 0, 1) := by decide +kernel
theorem dX10_told_125 : decode cX10_told 125 = .ok (.getfield 31, 3) := by decide +kernel
theorem dX10_told_128 : decode cX10_told 128 = .ok (.invokevirtual 126, 3) := by decide +kernel
theorem dX10_told_131 : decode cX10_told 131 = .ok (.ireturn, 1) := by decide +kernel
theorem dX10_told_132 : decode cX10_told 132 = .ok (.aload_n 0, 1) := by decide +kernel
theorem dX10_told_133 : decode cX10_told 133 = .ok (.getfield 31, 3) := by decide +kernel
theorem dX10_told_136 : decode cX10_told 136 = .ok (.getfield 130, 3) := by decide +kernel
theorem dX10_told_139 : decode cX10_told 139 = .ok (.ireturn, 1) := by decide +kernel
theorem dX10_told_140 : decode cX10_told 140 = .ok (.aload_n 0, 1) := by decide +kernel
theorem dX10_told_141 : decode cX10_told 141 = .ok (.getfield 31, 3) := by decide +kernel
theorem dX10_told_144 : decode cX10_told 144 = .ok (.invokevirtual 133, 3) := by decide +kernel
theorem dX10_told_147 : decode cX10_told 147 = .ok (.ireturn, 1) := by decide +kernel
theorem dX10_told_148 : decode cX10_told 148 = .ok (.aload_n 0, 1) := by decide +kernel
theorem dX10_told_149 : decode cX10_told 149 = .ok (.getfield 31, 3) := by decide +kernel
theorem dX10_told_152 : decode cX10_told 152 = .ok (.invokevirtual 136, 3) := by decide +kernel
theorem dX10_told_155 : decode cX10_told 155 = .ok (.ireturn, 1) := by decide +kernel
theorem dX10_told_156 : decode cX10_told 156 = .ok (.aload_n 0, 1) := by decide +kernel
theorem dX10_told_157 : decode cX10_told 157 = .ok (.getfield 31, 3) := by decide +kernel
theorem dX10_told_160 : decode cX10_told 160 = .ok (.invokevirtual 139, 3) := by decide +kernel
theorem dX10_told_163 : decode cX10_told 163 = .ok (.ireturn, 1) := by decide +kernel
theorem dX10_told_164 : decode cX10_told 164 = .ok (.aload_n 0, 1) := by decide +kernel
theorem dX10_told_165 : decode cX10_told 165 = .ok (.getfield 31, 3) := by decide +kernel
theorem dX10_told_168 : decode cX10_told 168 = .ok (.invokevirtual 142, 3) := by decide +kernel
theorem dX10_told_171 : decode cX10_told 171 = .ok (.ireturn, 1) := by decide +kernel
theorem dX10_told_172 : decode cX10_told 172 = .ok (.aload_n 0, 1) := by decide +kernel
theorem dX10_told_173 : decode cX10_told 173 = .ok (.getfield 52, 3) := by decide +kernel
theorem dX10_told_176 : decode cX10_told 176 = .ok (.getfield 106, 3) := by decide +kernel
theorem dX10_told_179 : decode cX10_told 179 = .ok (.ireturn, 1) := by decide +kernel
theorem dX10_told_180 : decode cX10_told 180 = .ok (.aload_n 0, 1) := by decide +kernel
theorem dX10_told_181 : decode cX10_told 181 = .ok (.getfield 59, 3) := by decide +kernel
theorem dX10_told_184 : decode cX10_told 184 = .ok (.getfield 107, 3) := by decide +kernel
theorem dX10_told_187 : decode cX10_told 187 = .ok (.ireturn, 1) := by decide +kernel
theorem dX10_told_188 : decode cX10_told 188 = .ok (.aload_n 0, 1) := by decide +kernel
theorem dX10_told_189 : decode cX10_told 189 = .ok (.getfield 38, 3) := by decide +kernel
theorem dX10_told_192 : decode cX10_told 192 = .ok (.getfield 100, 3) := by decide +kernel
theorem dX10_told_195 : decode cX10_told 195 = .ok (.ireturn, 1) := by decide +kernel
theorem dX10_told_196 : decode cX10_told 196 = .ok (.ldc 81, 2) := by decide +kernel
theorem dX10_told_198 : decode cX10_told 198 = .ok (.ireturn, 1) := by decide +kernel
set_option maxRecDepth 100000 in
set_option maxHeartbeats 4000000 in
theorem mX10_told {w : WX} {adr : Nat → Nat → Nat} (hj : Ij adr) (a1 : Int32) (S : St) : ∀ (l : Launch) (r : Int32) (S2 : St), fX10_told a1 S = some (r, S2) → Mi l w adr yX10_told cX10_told 2 (some .int) 5 114 [.ref (adr 0 0), .int a1] S r S2 := by
  refine mi_of (lv := [(0, .ref (adr 0 0)), (1, .int a1)]) hj (plainFor_of_name (by decide +kernel)) rfl (Nat.le_of_ble_eq_true rfl) (fun k C Rr => ?_)
  have C : Cx w adr k cX10_told RX10 2 5 114 := C
  refine ge_iload_n (n := 1) C 1 rfl dX10_told_0 rfl rfl ?_
  refine ge_if (fun hs_0 => ?_) (fun hs_0 => ?_)
  · refine ge_tsIn (t := 76) C dX10_told_1 (by rw [hs_0]; decide) (by rw [hs_0]; decide) (by rw [hs_0]; rfl) (by decide) ?_
    refine ge_aload_n (n := 77) C 0 rfl dX10_told_76 rfl rfl ?_
    refine gt_X10_19 (n := 80) C (by decide) dX10_told_77 rfl ?_
    refine gt_X10_114 (n := 83) C (pid_lt _) dX10_told_80 rfl ?_
    exact ge_iret C Rr dX10_told_83
  refine ge_if (fun hs_1 => ?_) (fun hs_1 => ?_)
  · refine ge_tsIn (t := 84) C dX10_told_1 (by rw [hs_1]; decide) (by rw [hs_1]; decide) (by rw [hs_1]; rfl) (by decide) ?_
    refine ge_aload_n (n := 85) C 0 rfl dX10_told_84 rfl rfl ?_
    refine gt_X10_31 (n := 88) C (by decide) dX10_told_85 rfl ?_
    refine gt_X10_117 (n := 91) C (by decide) dX10_told_88 rfl ?_
    exact ge_iret C Rr dX10_told_91
  refine ge_if (fun hs_2 => ?_) (fun hs_2 => ?_)
  · refine ge_tsIn (t := 92) C dX10_told_1 (by rw [hs_2]; decide) (by rw [hs_2]; decide) (by rw [hs_2]; rfl) (by decide) ?_
    refine ge_aload_n (n := 93) C 0 rfl dX10_told_92 rfl rfl ?_
    refine gt_X10_19 (n := 96) C (by decide) dX10_told_93 rfl ?_
    refine gt_X10_108 (n := 99) C (pid_lt _) dX10_told_96 rfl ?_
    exact ge_iret C Rr dX10_told_99
  refine ge_if (fun hs_3 => ?_) (fun hs_3 => ?_)
  · refine ge_tsIn (t := 100) C dX10_told_1 (by rw [hs_3]; decide) (by rw [hs_3]; decide) (by rw [hs_3]; rfl) (by decide) ?_
    refine ge_aload_n (n := 101) C 0 rfl dX10_told_100 rfl rfl ?_
    refine gt_X10_19 (n := 104) C (by decide) dX10_told_101 rfl ?_
    refine gt_X10_120 (n := 107) C (pid_lt _) dX10_told_104 rfl ?_
    exact ge_iret C Rr dX10_told_107
  refine ge_if (fun hs_4 => ?_) (fun hs_4 => ?_)
  · refine ge_tsIn (t := 108) C dX10_told_1 (by rw [hs_4]; decide) (by rw [hs_4]; decide) (by rw [hs_4]; rfl) (by decide) ?_
    refine ge_aload_n (n := 109) C 0 rfl dX10_told_108 rfl rfl ?_
    refine gt_X10_12 (n := 112) C (by decide) dX10_told_109 rfl ?_
    refine gt_X10_82 (n := 115) C (by decide) dX10_told_112 rfl ?_
    exact ge_iret C Rr dX10_told_115
  refine ge_if (fun hs_5 => ?_) (fun hs_5 => ?_)
  · refine ge_tsIn (t := 116) C dX10_told_1 (by rw [hs_5]; decide) (by rw [hs_5]; decide) (by rw [hs_5]; rfl) (by decide) ?_
    refine ge_aload_n (n := 117) C 0 rfl dX10_told_116 rfl rfl ?_
    refine gt_X10_31 (n := 120) C (by decide) dX10_told_117 rfl ?_
    refine gt_X10_123 (n := 123) C (by decide) dX10_told_120 rfl ?_
    exact ge_iret C Rr dX10_told_123
  refine ge_if (fun hs_6 => ?_) (fun hs_6 => ?_)
  · refine ge_tsIn (t := 124) C dX10_told_1 (by rw [hs_6]; decide) (by rw [hs_6]; decide) (by rw [hs_6]; rfl) (by decide) ?_
    refine ge_aload_n (n := 125) C 0 rfl dX10_told_124 rfl rfl ?_
    refine gt_X10_31 (n := 128) C (by decide) dX10_told_125 rfl ?_
    refine ge_callVi (n := 131) C (mX7_setInside hj S) gv_X10_126 (cl_9 (by decide)) rfl rfl hc_X7_setInside ⟨Nat.le_of_ble_eq_true rfl, Nat.le_of_ble_eq_true rfl⟩ rfl rfl (Nat.le_of_ble_eq_true rfl) dX10_told_128 rfl (fun r_128 S_128 => ?_)
    exact ge_iret C Rr dX10_told_131
  refine ge_if (fun hs_7 => ?_) (fun hs_7 => ?_)
  · refine ge_tsIn (t := 132) C dX10_told_1 (by rw [hs_7]; decide) (by rw [hs_7]; decide) (by rw [hs_7]; rfl) (by decide) ?_
    refine ge_aload_n (n := 133) C 0 rfl dX10_told_132 rfl rfl ?_
    refine gt_X10_31 (n := 136) C (by decide) dX10_told_133 rfl ?_
    refine gt_X10_130 (n := 139) C (by decide) dX10_told_136 rfl ?_
    exact ge_iret C Rr dX10_told_139
  refine ge_if (fun hs_8 => ?_) (fun hs_8 => ?_)
  · refine ge_tsIn (t := 140) C dX10_told_1 (by rw [hs_8]; decide) (by rw [hs_8]; decide) (by rw [hs_8]; rfl) (by decide) ?_
    refine ge_aload_n (n := 141) C 0 rfl dX10_told_140 rfl rfl ?_
    refine gt_X10_31 (n := 144) C (by decide) dX10_told_141 rfl ?_
    refine ge_callVi (n := 147) C (mX7_allWounds hj S) gv_X10_133 (cl_9 (by decide)) rfl rfl hc_X7_allWounds ⟨Nat.le_of_ble_eq_true rfl, Nat.le_of_ble_eq_true rfl⟩ rfl rfl (Nat.le_of_ble_eq_true rfl) dX10_told_144 rfl (fun r_144 S_144 => ?_)
    exact ge_iret C Rr dX10_told_147
  refine ge_if (fun hs_9 => ?_) (fun hs_9 => ?_)
  · refine ge_tsIn (t := 148) C dX10_told_1 (by rw [hs_9]; decide) (by rw [hs_9]; decide) (by rw [hs_9]; rfl) (by decide) ?_
    refine ge_aload_n (n := 149) C 0 rfl dX10_told_148 rfl rfl ?_
    refine gt_X10_31 (n := 152) C (by decide) dX10_told_149 rfl ?_
    refine ge_callVi (n := 155) C (mX7_best hj S) gv_X10_136 (cl_9 (by decide)) rfl rfl hc_X7_best ⟨Nat.le_of_ble_eq_true rfl, Nat.le_of_ble_eq_true rfl⟩ rfl rfl (Nat.le_of_ble_eq_true rfl) dX10_told_152 rfl (fun r_152 S_152 => ?_)
    exact ge_iret C Rr dX10_told_155
  refine ge_if (fun hs_10 => ?_) (fun hs_10 => ?_)
  · refine ge_tsIn (t := 156) C dX10_told_1 (by rw [hs_10]; decide) (by rw [hs_10]; decide) (by rw [hs_10]; rfl) (by decide) ?_
    refine ge_aload_n (n := 157) C 0 rfl dX10_told_156 rfl rfl ?_
    refine gt_X10_31 (n := 160) C (by decide) dX10_told_157 rfl ?_
    refine ge_callVi (n := 163) C (mX7_chosen hj S) gv_X10_139 (cl_9 (by decide)) rfl rfl hc_X7_chosen ⟨Nat.le_of_ble_eq_true rfl, Nat.le_of_ble_eq_true rfl⟩ rfl rfl (Nat.le_of_ble_eq_true rfl) dX10_told_160 rfl (fun r_160 S_160 => ?_)
    exact ge_iret C Rr dX10_told_163
  refine ge_if (fun hs_11 => ?_) (fun hs_11 => ?_)
  · refine ge_tsIn (t := 164) C dX10_told_1 (by rw [hs_11]; decide) (by rw [hs_11]; decide) (by rw [hs_11]; rfl) (by decide) ?_
    refine ge_aload_n (n := 165) C 0 rfl dX10_told_164 rfl rfl ?_
    refine gt_X10_31 (n := 168) C (by decide) dX10_told_165 rfl ?_
    refine ge_callVi (n := 171) C (mX7_tender hj S) gv_X10_142 (cl_9 (by decide)) rfl rfl hc_X7_tender ⟨Nat.le_of_ble_eq_true rfl, Nat.le_of_ble_eq_true rfl⟩ rfl rfl (Nat.le_of_ble_eq_true rfl) dX10_told_168 rfl (fun r_168 S_168 => ?_)
    exact ge_iret C Rr dX10_told_171
  refine ge_if (fun hs_12 => ?_) (fun hs_12 => ?_)
  · refine ge_tsIn (t := 172) C dX10_told_1 (by rw [hs_12]; decide) (by rw [hs_12]; decide) (by rw [hs_12]; rfl) (by decide) ?_
    refine ge_aload_n (n := 173) C 0 rfl dX10_told_172 rfl rfl ?_
    refine gt_X10_52 (n := 176) C (by decide) dX10_told_173 rfl ?_
    refine gt_X10_106 (n := 179) C (by decide) dX10_told_176 rfl ?_
    exact ge_iret C Rr dX10_told_179
  refine ge_if (fun hs_13 => ?_) (fun hs_13 => ?_)
  · refine ge_tsIn (t := 180) C dX10_told_1 (by rw [hs_13]; decide) (by rw [hs_13]; decide) (by rw [hs_13]; rfl) (by decide) ?_
    refine ge_aload_n (n := 181) C 0 rfl dX10_told_180 rfl rfl ?_
    refine gt_X10_59 (n := 184) C (by decide) dX10_told_181 rfl ?_
    refine gt_X10_107 (n := 187) C (by decide) dX10_told_184 rfl ?_
    exact ge_iret C Rr dX10_told_187
  refine ge_if (fun hs_14 => ?_) (fun hs_14 => ?_)
  · refine ge_tsIn (t := 188) C dX10_told_1 (by rw [hs_14]; decide) (by rw [hs_14]; decide) (by rw [hs_14]; rfl) (by decide) ?_
    refine ge_aload_n (n := 189) C 0 rfl dX10_told_188 rfl rfl ?_
    refine gt_X10_38 (n := 192) C (by decide) dX10_told_189 rfl ?_
    refine gt_X10_100 (n := 195) C (by decide) dX10_told_192 rfl ?_
    exact ge_iret C Rr dX10_told_195
  refine ge_tsOut (t := 196) C dX10_told_1 (ts_out (n := 15) (by decide) (by decide) (fun i hi => match i, hi with
    | 0, _ => hs_0
    | 1, _ => hs_1
    | 2, _ => hs_2
    | 3, _ => hs_3
    | 4, _ => hs_4
    | 5, _ => hs_5
    | 6, _ => hs_6
    | 7, _ => hs_7
    | 8, _ => hs_8
    | 9, _ => hs_9
    | 10, _ => hs_10
    | 11, _ => hs_11
    | 12, _ => hs_12
    | 13, _ => hs_13
    | 14, _ => hs_14
    | i + 15, hi => absurd hi (by omega))) (by decide) ?_
  refine ge_ldc (n := 198) C kc_X10_81 dX10_told_196 rfl ?_
  exact ge_iret C Rr dX10_told_198
