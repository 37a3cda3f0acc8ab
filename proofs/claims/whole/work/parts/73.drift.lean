def frC (a o : Nat) : Prop := (a = 9 ∧ o = 0) ∨ ((a = 11 ∨ a = 12 ∨ a = 13) ∧ o < 6) ∨ (a = 19 ∧ o = 0)
def frM (a o : Nat) : Prop := a = 40 ∨ a = 51 ∨ a = 52 ∨ (a = 35 ∧ o = 0)
theorem CP.frc {S S1 : St} {k : Nat} {π : Nat → Nat → Nat} (h : CP S k π) (f : Fr frC S S1) : CP S1 k π := h.fr (f 3 _ (by unfold frC; omega)) (f 4 _ (by unfold frC; omega)) (fun o => f 6 o (by unfold frC; omega)) (f 7 _ (by unfold frC; omega)) (f 8 _ (by unfold frC; omega))
theorem MP.frm {S S1 : St} {π : Nat → Nat → Nat} (h : MP S π) (f : Fr frM S S1) (g : ∀ i, i ≠ 9 → S1 35 0 i = S 35 0 i) : MP S1 π := by
  unfold MP; rw [g 0 (by decide), g 1 (by decide), g 2 (by decide), g 5 (by decide), f 36 0 (by unfold frM; omega), f 37 0 (by unfold frM; omega), f 38 0 (by unfold frM; omega), f 39 0 (by unfold frM; omega)]; exact h
theorem CN.root {S : St} {k M : Nat} {kd : Nat → Nat} {ν : Nat → Nat → Nat} {v : Int32} (h : CN S k M kd ν) : CN (wr S 19 0 0 v) k M kd ν := h
theorem MN.root {S : St} {M : Nat} {ν : Nat → Nat → Nat} {v : Int32} (h : MN (S 40 0) M ν) : MN (wr S 35 0 9 v 40 0) M ν := h
/-- one stir -/
def ClS (π ν ν2 : Nat → Nat → Nat) (k r r2 : Nat) : Prop := ∀ S, CP S k π → CN S k (π 0 2) (π 1) ν → S 19 0 0 = nI r → ∃ S2, fX7_stir S = some (0, S2) ∧ Fr frC S S2 ∧ CN S2 k (π 0 2) (π 1) ν2 ∧ S2 19 0 0 = nI r2
def MoS (π ν ν2 : Nat → Nat → Nat) (r r2 : Nat) : Prop := ∀ S, MP S π → MN (S 40 0) (π 0 2) ν → S 35 0 9 = nI r → ∃ S2, fX11_chance S = some (0, S2) ∧ Fr frM S S2 ∧ (∀ i, i ≠ 9 → S2 35 0 i = S 35 0 i) ∧ MN (S2 40 0) (π 0 2) ν2 ∧ S2 35 0 9 = nI r2
theorem i5 : ∀ x, x < 5 → ∀ y, y < 5 → (nI x = (OfNat.ofNat y : Int32) ↔ x = y) := by decide
theorem nxt31 (r : Nat) : nxt r < 2 ^ 31 := nxt_lt r
theorem j0 {x : Nat} (h : x < 5) : (nI x = (0 : Int32)) = (x = 0) := propext ((nI_eq (b := 0) (by omega) (by decide)))
theorem j1 {x : Nat} (h : x < 5) : (nI x = (1 : Int32)) = (x = 1) := propext ((nI_eq (b := 1) (by omega) (by decide)))
theorem j2 {x : Nat} (h : x < 5) : (nI x = (2 : Int32)) = (x = 2) := propext ((nI_eq (b := 2) (by omega) (by decide)))
theorem j3 {x : Nat} (h : x < 5) : (nI x = (3 : Int32)) = (x = 3) := propext ((nI_eq (b := 3) (by omega) (by decide)))
theorem stir_step {π ν : Nat → Nat → Nat} {k r : Nat} (hV : VP π) (hQ : VQ π ν) (hr : r < 2 ^ 31) (hM0 : 0 < π 0 2) : ∃ ν2 r2, VQ π ν2 ∧ r2 < 2 ^ 31 ∧ ν2 0 0 = ν 0 0 ∧ ClS π ν ν2 k r r2 ∧ MoS π ν ν2 r r2 := by
  have hM := hV.2.2.1
  have b1 := nxt31 r
  have b2 := nxt31 (nxt r)
  have b3 := nxt31 (nxt (nxt r))
  have hd : nxt r / 65536 % 5 < 5 := Nat.mod_lt _ (by decide)
  have hm : nxt (nxt r) / 65536 % π 0 2 < π 0 2 := Nat.mod_lt _ hM0
  have P3 := hV.1
  have cd : ∀ S, S 19 0 0 = nI r → fX1_next (5 : Int32) S = some (nI (nxt r / 65536 % 5), wr S 19 0 0 (nI (nxt r))) := fun S h => c_next (n := 5) h hr (by decide) (by decide)
  have cm : ∀ S, fX1_next (nI (π 0 2)) (wr S 19 0 0 (nI (nxt r))) = some (nI (nxt (nxt r) / 65536 % π 0 2), wr (wr S 19 0 0 (nI (nxt r))) 19 0 0 (nI (nxt (nxt r)))) := fun S => c_next (wr_same _ _ _ _ _) b1 hM0 (by omega)
  have md : ∀ S, S 35 0 9 = nI r → fX11_draw (5 : Int32) S = some (nI (nxt r / 65536 % 5), wr S 35 0 9 (nI (nxt r))) := fun S h => m_draw (n := 5) h hr (by decide) (by decide)
  have mm : ∀ S, fX11_draw (nI (π 0 2)) (wr S 35 0 9 (nI (nxt r))) = some (nI (nxt (nxt r) / 65536 % π 0 2), wr (wr S 35 0 9 (nI (nxt r))) 35 0 9 (nI (nxt (nxt r)))) := fun S => m_draw (wr_same _ _ _ _ _) b1 hM0 (by omega)
  generalize hdd : nxt r / 65536 % 5 = dd at *
  generalize hmm : nxt (nxt r) / 65536 % π 0 2 = m at *
  have fc : ∀ S, Fr frC S (wr (wr S 19 0 0 (nI (nxt r))) 19 0 0 (nI (nxt (nxt r)))) := fun S => (Fr.rf.wr (Or.inr (Or.inr ⟨rfl, rfl⟩))).wr (Or.inr (Or.inr ⟨rfl, rfl⟩))
  have fm : ∀ S, Fr frM S (wr (wr S 35 0 9 (nI (nxt r))) 35 0 9 (nI (nxt (nxt r)))) := fun S => (Fr.rf.wr (by unfold frM; omega)).wr (by unfold frM; omega)
  have gm : ∀ S i, i ≠ 9 → (wr (wr S 35 0 9 (nI (nxt r))) 35 0 9 (nI (nxt (nxt r)))) 35 0 i = S 35 0 i := fun S i hi => by rw [wr_i (by omega), wr_i (by omega)]
  have cs : ∀ S, CP S k π → CN S k (π 0 2) (π 1) ν → S 19 0 0 = nI r → fX7_stir S = (jn (fun (S_65 : St) => if nI dd = (1 : Int32) then (ck (nI m) 6 <| bs (wr S_65 11 (Int32.toNatClampNeg (nI m)) 1 (0 : Int32)) fun S_77 => some ((0 : Int32), S_77)) else (jn (if nI dd = (3 : Int32) then (cal (fX1_next (5 : Int32) S_65) fun r_126 S_126 => cal (fX7_scrapeIfSoft (nI m) r_126 S_126) fun _ S_129 => some ((0 : Int32), S_129)) else (some ((0 : Int32), S_65))) fun j117 => if nI dd = (2 : Int32) then (if (S_65 3 (pid (S_65 9 0 0)) 3) ≤ (0 : Int32) then (j117) else (cal (fX1_next (S_65 3 (pid (S_65 9 0 0)) 3) S_65) fun r_108 S_108 => cal (fX7_wound (nI m) r_108 S_108) fun _ S_111 => some ((0 : Int32), S_111))) else (j117))) fun j65 => if nI dd = (0 : Int32) then (ck (nI m) 6 <| if ((wr (wr S 19 0 0 (nI (nxt r))) 19 0 0 (nI (nxt (nxt r)))) 11 (Int32.toNatClampNeg (nI m)) 1) = (0 : Int32) then (cal (fX7_freePits (wr (wr S 19 0 0 (nI (nxt r))) 19 0 0 (nI (nxt (nxt r))))) fun r_46 S_46 => if r_46 ≤ (0 : Int32) then (j65 S_46) else (ck (nI m) 6 <| bs (wr S_46 11 (Int32.toNatClampNeg (nI m)) 1 (1 : Int32)) fun S_59 => some ((0 : Int32), S_59))) else (j65 (wr (wr S 19 0 0 (nI (nxt r))) 19 0 0 (nI (nxt (nxt r)))))) else (j65 (wr (wr S 19 0 0 (nI (nxt r))) 19 0 0 (nI (nxt (nxt r)))))) := by
    intro S cp cn h
    unfold fX7_stir
    rw [cn.1, cp.1 2 (by decide), if_neg (nI_ne0 (by omega) (by omega)), cal_of (cd S h), wr_i (a2 := 9) (by omega), cn.1, wr_i (a2 := 3) (by omega), cp.1 2 (by decide), cal_of (cm S)]
  have ms : ∀ S, MP S π → MN (S 40 0) (π 0 2) ν → S 35 0 9 = nI r → fX11_chance S = (jn (fun (S_41 : St) => if nI dd = (1 : Int32) then (ck (2 : Int32) 70 <| ck (2 : Int32) 70 <| bs (wr S_41 40 0 (Int32.toNatClampNeg (2 : Int32)) ((S_41 40 0 (Int32.toNatClampNeg (2 : Int32))) &&& (((1 : Int32) <<< (nI m &&& (31 : Int32))) ^^^ (-1 : Int32)))) fun S_59 => some ((0 : Int32), S_59)) else (jn (if nI dd = (3 : Int32) then (cal (fX11_draw (5 : Int32) S_41) fun r_98 S_98 => ck (((4 : Int32) + ((5 : Int32) * nI m)) + r_98) 70 <| if (S_98 40 0 (Int32.toNatClampNeg (((4 : Int32) + ((5 : Int32) * nI m)) + r_98))) ≤ (0 : Int32) then (some ((0 : Int32), S_98)) else (cal (fX11_scrapes (nI m) r_98 (1 : Int32) S_98) fun _ S_121 => some ((0 : Int32), S_121))) else (some ((0 : Int32), S_41))) fun j91 => if nI dd = (2 : Int32) then (if (S_41 35 0 5) ≤ (0 : Int32) then (j91) else (cal (fX11_draw (S_41 35 0 5) S_41) fun r_81 S_81 => cal (fX11_wounds r_81 (nI m) S_81) fun _ S_85 => some ((0 : Int32), S_85))) else (j91))) fun j41 => if nI dd = (0 : Int32) then (cal (fX11_free (wr (wr S 35 0 9 (nI (nxt r))) 35 0 9 (nI (nxt (nxt r))))) fun r_20 S_20 => if r_20 ≤ (0 : Int32) then (j41 S_20) else (ck (2 : Int32) 70 <| ck (2 : Int32) 70 <| bs (wr S_20 40 0 (Int32.toNatClampNeg (2 : Int32)) ((S_20 40 0 (Int32.toNatClampNeg (2 : Int32))) ||| ((1 : Int32) <<< (nI m &&& (31 : Int32))))) fun S_37 => some ((0 : Int32), S_37))) else (j41 (wr (wr S 35 0 9 (nI (nxt r))) 35 0 9 (nI (nxt (nxt r)))))) := by
    intro S mp mn h
    unfold fX11_chance
    rw [cal_of (md S h), wr_i (a2 := 35) (i2 := 2) (by omega), mp.2.2.1, cal_of (mm S)]
  rcases (show dd = 0 ∨ dd = 1 ∨ dd = 2 ∨ dd = 3 ∨ dd = 4 by omega) with rfl | rfl | rfl | rfl | rfl
  · by_cases hf : cin ν (π 0 2) < π 0 0
    · by_cases hin : ν (m + 1) 0 = 1
      · refine ⟨ν, nxt (nxt r), hQ, b2, rfl, fun S cp cn h => ⟨_, ?_, fc S, cn, wr_same _ _ _ _ _⟩, fun S mp mn h => ⟨_, ?_, (fm S).wr (a := 40) (o := 0) (i := 2) (v := nI (ins (upn ν (m + 1) 0 1) (π 0 2))) (Or.inl rfl), fun i hi => ?_, ?_, ?_⟩⟩
        · rw [cs S cp cn h, jn_e]
          try dsimp only
          rw [if_pos (show nI 0 = (0 : Int32) from rfl), ck_nI (show m < 6 by omega) (by omega), nI_clamp (by omega), wr_i (a2 := 11) (by omega), wr_i (a2 := 11) (by omega), (cn.2.2 m hm).2.1, hin, if_neg (show ¬ nI 1 = (0 : Int32) by decide)]
          rfl
        · have n2 : S 40 0 2 = nI (ins ν (π 0 2)) := mn.2.2.1
          rw [ms S mp mn h, jn_e]
          try dsimp only
          rw [if_pos (show nI 0 = (0 : Int32) from rfl), cal_of (m_free (S := wr (wr S 35 0 9 (nI (nxt r))) 35 0 9 (nI (nxt (nxt r)))) (mp.frm (fm S) (gm S)) mn hV hQ), if_neg (show ¬ nI (π 0 0 - cin ν (π 0 2)) ≤ (0 : Int32) from nI_nle (by omega) (by omega)), show (2 : Int32) = nI 2 from rfl, ck_nI (show 2 < 70 by decide) (by decide), ck_nI (show 2 < 70 by decide) (by decide), bs_e, nI_clamp (by decide), wr_i (a2 := 40) (by omega), wr_i (a2 := 40) (by omega), n2, or_in hM hm]
        · rw [wr_i (by omega)]; exact gm S i hi
        · have := m_ins (S := wr (wr S 35 0 9 (nI (nxt r))) 35 0 9 (nI (nxt (nxt r)))) (m := m) (v := 1) mn
          rw [upn_id hin] at this ⊢
          exact this
        · rw [wr_i (by omega)]; exact wr_same _ _ _ _ _
      · have h0 : ν (m + 1) 0 = 0 := by have := (hQ.1.2.2.2 m hm).1; omega
        refine ⟨upn ν (m + 1) 0 1, nxt (nxt r), vq_in hQ hm h0 hf, b2, upn_ne (by omega), fun S cp cn h => ⟨wr (wr (wr S 19 0 0 (nI (nxt r))) 19 0 0 (nI (nxt (nxt r)))) 11 m 1 (nI 1), ?_, (fc S).wr (by unfold frC; omega), c_ins cn, ?_⟩, fun S mp mn h => ⟨_, ?_, (fm S).wr (a := 40) (o := 0) (i := 2) (v := nI (ins (upn ν (m + 1) 0 1) (π 0 2))) (Or.inl rfl), fun i hi => ?_, ?_, ?_⟩⟩
        · rw [cs S cp cn h, jn_e]
          try dsimp only
          rw [if_pos (show nI 0 = (0 : Int32) from rfl), ck_nI (show m < 6 by omega) (by omega), nI_clamp (by omega), wr_i (a2 := 11) (by omega), wr_i (a2 := 11) (by omega), (cn.2.2 m hm).2.1, h0, if_pos (show nI 0 = (0 : Int32) from rfl), cal_of (c_free (S := wr (wr S 19 0 0 (nI (nxt r))) 19 0 0 (nI (nxt (nxt r)))) (cp.frc (fc S)) cn hV hQ), if_neg (show ¬ nI (π 0 0 - cin ν (π 0 2)) ≤ (0 : Int32) from nI_nle (by omega) (by omega)), ck_nI (show m < 6 by omega) (by omega), bs_e]
          rfl
        · rw [wr_i (by omega)]; exact wr_same _ _ _ _ _
        · have n2 : S 40 0 2 = nI (ins ν (π 0 2)) := mn.2.2.1
          rw [ms S mp mn h, jn_e]
          try dsimp only
          rw [if_pos (show nI 0 = (0 : Int32) from rfl), cal_of (m_free (S := wr (wr S 35 0 9 (nI (nxt r))) 35 0 9 (nI (nxt (nxt r)))) (mp.frm (fm S) (gm S)) mn hV hQ), if_neg (show ¬ nI (π 0 0 - cin ν (π 0 2)) ≤ (0 : Int32) from nI_nle (by omega) (by omega)), show (2 : Int32) = nI 2 from rfl, ck_nI (show 2 < 70 by decide) (by decide), ck_nI (show 2 < 70 by decide) (by decide), bs_e, nI_clamp (by decide), wr_i (a2 := 40) (by omega), wr_i (a2 := 40) (by omega), n2, or_in hM hm]
        · rw [wr_i (by omega)]; exact gm S i hi
        · exact m_ins (S := wr (wr S 35 0 9 (nI (nxt r))) 35 0 9 (nI (nxt (nxt r)))) (m := m) (v := 1) mn
        · rw [wr_i (by omega)]; exact wr_same _ _ _ _ _
    · have e0 : π 0 0 - cin ν (π 0 2) = 0 := by omega
      refine ⟨ν, nxt (nxt r), hQ, b2, rfl, fun S cp cn h => ⟨_, ?_, fc S, cn, wr_same _ _ _ _ _⟩, fun S mp mn h => ⟨_, ?_, fm S, gm S, mn, wr_same _ _ _ _ _⟩⟩
      · rw [cs S cp cn h, jn_e]
        try dsimp only
        rw [if_pos (show nI 0 = (0 : Int32) from rfl), ck_nI (show m < 6 by omega) (by omega), nI_clamp (by omega), wr_i (a2 := 11) (by omega), wr_i (a2 := 11) (by omega), (cn.2.2 m hm).2.1, cal_of (c_free (S := wr (wr S 19 0 0 (nI (nxt r))) 19 0 0 (nI (nxt (nxt r)))) (cp.frc (fc S)) cn hV hQ), e0, if_pos (show nI 0 ≤ (0 : Int32) by decide)]
        split <;> rfl
      · rw [ms S mp mn h, jn_e]
        try dsimp only
        rw [if_pos (show nI 0 = (0 : Int32) from rfl), cal_of (m_free (S := wr (wr S 35 0 9 (nI (nxt r))) 35 0 9 (nI (nxt (nxt r)))) (mp.frm (fm S) (gm S)) mn hV hQ), e0, if_pos (show nI 0 ≤ (0 : Int32) by decide)]
        rfl
  · refine ⟨upn ν (m + 1) 0 0, nxt (nxt r), vq_out hQ hm, b2, upn_ne (by omega), fun S cp cn h => ⟨wr (wr (wr S 19 0 0 (nI (nxt r))) 19 0 0 (nI (nxt (nxt r)))) 11 m 1 (nI 0), ?_, (fc S).wr (by unfold frC; omega), c_ins cn, ?_⟩, fun S mp mn h => ⟨_, ?_, (fm S).wr (a := 40) (o := 0) (i := 2) (v := nI (ins (upn ν (m + 1) 0 0) (π 0 2))) (Or.inl rfl), fun i hi => ?_, ?_, ?_⟩⟩
    · rw [cs S cp cn h, jn_e]
      try dsimp only
      rw [if_neg (show ¬ nI 1 = (0 : Int32) by decide), if_pos (show nI 1 = (1 : Int32) from rfl), ck_nI (show m < 6 by omega) (by omega), bs_e, nI_clamp (by omega)]
      rfl
    · rw [wr_i (by omega)]; exact wr_same _ _ _ _ _
    · have n2 : S 40 0 2 = nI (ins ν (π 0 2)) := mn.2.2.1
      rw [ms S mp mn h, jn_e]
      try dsimp only
      rw [if_neg (show ¬ nI 1 = (0 : Int32) by decide), if_pos (show nI 1 = (1 : Int32) from rfl), show (2 : Int32) = nI 2 from rfl, ck_nI (show 2 < 70 by decide) (by decide), ck_nI (show 2 < 70 by decide) (by decide), bs_e, nI_clamp (by decide), wr_i (a2 := 40) (by omega), wr_i (a2 := 40) (by omega), n2, an_out hM hm]
    · rw [wr_i (by omega)]; exact gm S i hi
    · exact m_ins (S := wr (wr S 35 0 9 (nI (nxt r))) 35 0 9 (nI (nxt (nxt r)))) (m := m) (v := 0) mn
    · rw [wr_i (by omega)]; exact wr_same _ _ _ _ _
  · have hY := hV.2.2.2.2.1.1
    by_cases hy : 0 < π 0 3
    · have hs : nxt (nxt (nxt r)) / 65536 % π 0 3 < π 0 3 := Nat.mod_lt _ hy
      have cq : ∀ S, fX1_next (nI (π 0 3)) (wr (wr S 19 0 0 (nI (nxt r))) 19 0 0 (nI (nxt (nxt r)))) = some (nI (nxt (nxt (nxt r)) / 65536 % π 0 3), wr (wr (wr S 19 0 0 (nI (nxt r))) 19 0 0 (nI (nxt (nxt r)))) 19 0 0 (nI (nxt (nxt (nxt r))))) := fun S => c_next (wr_same _ _ _ _ _) b2 hy (by omega)
      have mq : ∀ S, fX11_draw (nI (π 0 3)) (wr (wr S 35 0 9 (nI (nxt r))) 35 0 9 (nI (nxt (nxt r)))) = some (nI (nxt (nxt (nxt r)) / 65536 % π 0 3), wr (wr (wr S 35 0 9 (nI (nxt r))) 35 0 9 (nI (nxt (nxt r)))) 35 0 9 (nI (nxt (nxt (nxt r))))) := fun S => m_draw (wr_same _ _ _ _ _) b2 hy (by omega)
      generalize nxt (nxt (nxt r)) / 65536 % π 0 3 = s at *
      refine ⟨upn ν (m + 1) 1 (min 99999 (ν (m + 1) 1 + pn π (fun p => ν (m + 1) (2 + p)) (fun p => ν (m + 1) (7 + p)) s)), nxt (nxt (nxt r)), vq_wound hQ, b3, upn_ne (by omega), fun S cp cn h => ?_, fun S mp mn h => ?_⟩
      · have f3 : Fr frC S (wr (wr (wr S 19 0 0 (nI (nxt r))) 19 0 0 (nI (nxt (nxt r)))) 19 0 0 (nI (nxt (nxt (nxt r))))) := (fc S).wr (Or.inr (Or.inr ⟨rfl, rfl⟩))
        obtain ⟨S2, e2, f2, n2, -⟩ := c_wound (S := wr (wr (wr S 19 0 0 (nI (nxt r))) 19 0 0 (nI (nxt (nxt r)))) 19 0 0 (nI (nxt (nxt (nxt r))))) (k := k) (cp.frc f3) cn hV hQ.1 hm hs
        refine ⟨S2, ?_, f3.tr (f2.mono (fun a o h => by unfold frC; omega)), n2, by rw [f2 19 0 (by omega)]; exact wr_same _ _ _ _ _⟩
        rw [cs S cp cn h, jn_e]
        try dsimp only
        rw [if_neg (show ¬ nI 2 = (0 : Int32) by decide), if_neg (show ¬ nI 2 = (1 : Int32) by decide), jn_e]
        try dsimp only
        rw [if_pos (show nI 2 = (2 : Int32) from rfl), (cn.root.root : CN (wr (wr S 19 0 0 (nI (nxt r))) 19 0 0 (nI (nxt (nxt r)))) k _ _ _).1, (cp.frc (fc S)).1 3 (by decide), if_neg (show ¬ nI (π 0 3) ≤ (0 : Int32) from nI_nle (by omega) (by omega)), cal_of (cq S), cal_of e2]
      · have f3 : Fr frM S (wr (wr (wr S 35 0 9 (nI (nxt r))) 35 0 9 (nI (nxt (nxt r)))) 35 0 9 (nI (nxt (nxt (nxt r))))) := (fm S).wr (by unfold frM; omega)
        have g3 : ∀ i, i ≠ 9 → (wr (wr (wr S 35 0 9 (nI (nxt r))) 35 0 9 (nI (nxt (nxt r)))) 35 0 9 (nI (nxt (nxt (nxt r))))) 35 0 i = S 35 0 i := fun i hi => by rw [wr_i (by omega)]; exact gm S i hi
        obtain ⟨S2, e2, f2, n2⟩ := m_wounds (S := wr (wr (wr S 35 0 9 (nI (nxt r))) 35 0 9 (nI (nxt (nxt r)))) 35 0 9 (nI (nxt (nxt (nxt r))))) (mp.frm f3 g3) mn hV hQ.1 hm hs
        refine ⟨S2, ?_, f3.tr (f2.mono (fun a o h => by unfold frM; omega)), fun i hi => by rw [f2 35 0 (by omega)]; exact g3 i hi, n2, by rw [f2 35 0 (by omega)]; exact wr_same _ _ _ _ _⟩
        rw [ms S mp mn h, jn_e]
        try dsimp only
        rw [if_neg (show ¬ nI 2 = (0 : Int32) by decide), if_neg (show ¬ nI 2 = (1 : Int32) by decide), jn_e]
        try dsimp only
        rw [if_pos (show nI 2 = (2 : Int32) from rfl), gm S 5 (by decide), mp.2.2.2.1, if_neg (show ¬ nI (π 0 3) ≤ (0 : Int32) from nI_nle (by omega) (by omega)), cal_of (mq S), cal_of e2]
    · have y0 : π 0 3 = 0 := by omega
      refine ⟨ν, nxt (nxt r), hQ, b2, rfl, fun S cp cn h => ⟨_, ?_, fc S, cn, wr_same _ _ _ _ _⟩, fun S mp mn h => ⟨_, ?_, fm S, gm S, mn, wr_same _ _ _ _ _⟩⟩
      · rw [cs S cp cn h, jn_e]
        try dsimp only
        rw [if_neg (show ¬ nI 2 = (0 : Int32) by decide), if_neg (show ¬ nI 2 = (1 : Int32) by decide), jn_e]
        try dsimp only
        rw [if_pos (show nI 2 = (2 : Int32) from rfl), (cn.root.root : CN (wr (wr S 19 0 0 (nI (nxt r))) 19 0 0 (nI (nxt (nxt r)))) k _ _ _).1, (cp.frc (fc S)).1 3 (by decide), y0, if_pos (show nI 0 ≤ (0 : Int32) by decide), if_neg (show ¬ nI 2 = (3 : Int32) by decide)]
      · rw [ms S mp mn h, jn_e]
        try dsimp only
        rw [if_neg (show ¬ nI 2 = (0 : Int32) by decide), if_neg (show ¬ nI 2 = (1 : Int32) by decide), jn_e]
        try dsimp only
        rw [if_pos (show nI 2 = (2 : Int32) from rfl), gm S 5 (by decide), mp.2.2.2.1, y0, if_pos (show nI 0 ≤ (0 : Int32) by decide), if_neg (show ¬ nI 2 = (3 : Int32) by decide)]
  · have hp : nxt (nxt (nxt r)) / 65536 % 5 < 5 := Nat.mod_lt _ (by decide)
    have cq : ∀ S, fX1_next (5 : Int32) (wr (wr S 19 0 0 (nI (nxt r))) 19 0 0 (nI (nxt (nxt r)))) = some (nI (nxt (nxt (nxt r)) / 65536 % 5), wr (wr (wr S 19 0 0 (nI (nxt r))) 19 0 0 (nI (nxt (nxt r)))) 19 0 0 (nI (nxt (nxt (nxt r))))) := fun S => c_next (n := 5) (wr_same _ _ _ _ _) b2 (by decide) (by decide)
    have mq : ∀ S, fX11_draw (5 : Int32) (wr (wr S 35 0 9 (nI (nxt r))) 35 0 9 (nI (nxt (nxt r)))) = some (nI (nxt (nxt (nxt r)) / 65536 % 5), wr (wr (wr S 35 0 9 (nI (nxt r))) 35 0 9 (nI (nxt (nxt r)))) 35 0 9 (nI (nxt (nxt (nxt r))))) := fun S => m_draw (n := 5) (wr_same _ _ _ _ _) b2 (by decide) (by decide)
    generalize nxt (nxt (nxt r)) / 65536 % 5 = p at *
    have f3c : ∀ S, Fr frC S (wr (wr (wr S 19 0 0 (nI (nxt r))) 19 0 0 (nI (nxt (nxt r)))) 19 0 0 (nI (nxt (nxt (nxt r))))) := fun S => (fc S).wr (Or.inr (Or.inr ⟨rfl, rfl⟩))
    have f3m : ∀ S, Fr frM S (wr (wr (wr S 35 0 9 (nI (nxt r))) 35 0 9 (nI (nxt (nxt r)))) 35 0 9 (nI (nxt (nxt (nxt r))))) := fun S => (fm S).wr (by unfold frM; omega)
    have g3 : ∀ S i, i ≠ 9 → (wr (wr (wr S 35 0 9 (nI (nxt r))) 35 0 9 (nI (nxt (nxt r)))) 35 0 9 (nI (nxt (nxt (nxt r))))) 35 0 i = S 35 0 i := fun S i hi => by rw [wr_i (by omega)]; exact gm S i hi
    have cs2 : ∀ S, CP S k π → CN S k (π 0 2) (π 1) ν → S 19 0 0 = nI r → fX7_stir S = cal (fX7_scrapeIfSoft (nI m) (nI p) (wr (wr (wr S 19 0 0 (nI (nxt r))) 19 0 0 (nI (nxt (nxt r)))) 19 0 0 (nI (nxt (nxt (nxt r)))))) fun _ S_129 => some ((0 : Int32), S_129) := by
      intro S cp cn h
      rw [cs S cp cn h, jn_e]
      try dsimp only
      rw [if_neg (show ¬ nI 3 = (0 : Int32) by decide), if_neg (show ¬ nI 3 = (1 : Int32) by decide), jn_e]
      try dsimp only
      rw [if_neg (show ¬ nI 3 = (2 : Int32) by decide), if_pos (show nI 3 = (3 : Int32) from rfl), cal_of (cq S)]
    have ms2 : ∀ S, MP S π → MN (S 40 0) (π 0 2) ν → S 35 0 9 = nI r → fX11_chance S = if nI (ν (m + 1) (2 + p)) ≤ (0 : Int32) then (some ((0 : Int32), (wr (wr (wr S 35 0 9 (nI (nxt r))) 35 0 9 (nI (nxt (nxt r)))) 35 0 9 (nI (nxt (nxt (nxt r))))))) else (cal (fX11_scrapes (nI m) (nI p) (1 : Int32) (wr (wr (wr S 35 0 9 (nI (nxt r))) 35 0 9 (nI (nxt (nxt r)))) 35 0 9 (nI (nxt (nxt (nxt r)))))) fun _ S_121 => some ((0 : Int32), S_121)) := by
      intro S mp mn h
      rw [ms S mp mn h, jn_e]
      try dsimp only
      rw [if_neg (show ¬ nI 3 = (0 : Int32) by decide), if_neg (show ¬ nI 3 = (1 : Int32) by decide), jn_e]
      try dsimp only
      rw [if_neg (show ¬ nI 3 = (2 : Int32) by decide), if_pos (show nI 3 = (3 : Int32) from rfl), cal_of (mq S), show (4 : Int32) = nI 4 from rfl, show (5 : Int32) = nI 5 from rfl, pk_mul, nI_add, nI_add, ck_nI (show 4 + 5 * m + p < 70 by omega) (by omega), nI_clamp (by omega), wr_i (a2 := 40) (by omega), wr_i (a2 := 40) (by omega), wr_i (a2 := 40) (by omega), ((mn.2.2.2.2 m hm).2 p hp).1]
    have bs1 := ((hQ.1.2.2.2 m hm).2.2 p hp).1
    by_cases hz : ν (m + 1) (2 + p) = 0
    · refine ⟨ν, nxt (nxt (nxt r)), hQ, b3, rfl, fun S cp cn h => ⟨_, ?_, f3c S, cn, wr_same _ _ _ _ _⟩, fun S mp mn h => ⟨_, ?_, f3m S, g3 S, mn, wr_same _ _ _ _ _⟩⟩
      · have e : fX7_scrapeIfSoft (nI m) (nI p) (wr (wr (wr S 19 0 0 (nI (nxt r))) 19 0 0 (nI (nxt (nxt r)))) 19 0 0 (nI (nxt (nxt (nxt r))))) = some (0, (wr (wr (wr S 19 0 0 (nI (nxt r))) 19 0 0 (nI (nxt (nxt r)))) 19 0 0 (nI (nxt (nxt (nxt r)))))) := by
          unfold fX7_scrapeIfSoft
          rw [ck_nI (show m < 6 by omega) (by omega), ck_nI hp (by omega), nI_clamp (show m < 2 ^ 31 by omega), nI_clamp (show p < 2 ^ 31 by omega), wr_i (a2 := 12) (by omega), wr_i (a2 := 12) (by omega), wr_i (a2 := 12) (by omega), ((cn.2.2 m hm).2.2.2 p hp).1, hz, if_pos (show nI 0 ≤ (0 : Int32) by decide)]
        rw [cs2 S cp cn h, cal_of e]
      · rw [ms2 S mp mn h, hz, if_pos (show nI 0 ≤ (0 : Int32) by decide)]
    · refine ⟨scr ν m p 1, nxt (nxt (nxt r)), vq_scr hQ hm hp, b3, ?_, fun S cp cn h => ?_, fun S mp mn h => ?_⟩
      · unfold scr
        rw [upn_ne (by omega), upn_ne (by omega)]
      · obtain ⟨S2, e2, f2, n2⟩ := c_scrapeOff (S := wr (wr (wr S 19 0 0 (nI (nxt r))) 19 0 0 (nI (nxt (nxt r)))) 19 0 0 (nI (nxt (nxt (nxt r))))) (k := k) (n := 1) (π := π) (ν := ν) cn hV hQ.1 hm hp (by omega)
        refine ⟨S2, ?_, (f3c S).tr (f2.mono (fun a o h => by unfold frC; omega)), n2, by rw [f2 19 0 (by omega)]; exact wr_same _ _ _ _ _⟩
        have e : fX7_scrapeIfSoft (nI m) (nI p) (wr (wr (wr S 19 0 0 (nI (nxt r))) 19 0 0 (nI (nxt (nxt r)))) 19 0 0 (nI (nxt (nxt (nxt r))))) = some (0, S2) := by
          unfold fX7_scrapeIfSoft
          rw [ck_nI (show m < 6 by omega) (by omega), ck_nI hp (by omega), nI_clamp (show m < 2 ^ 31 by omega), nI_clamp (show p < 2 ^ 31 by omega), wr_i (a2 := 12) (by omega), wr_i (a2 := 12) (by omega), wr_i (a2 := 12) (by omega), ((cn.2.2 m hm).2.2.2 p hp).1, if_neg (show ¬ nI (ν (m + 1) (2 + p)) ≤ (0 : Int32) from nI_nle (by omega) (by omega)), show (1 : Int32) = nI 1 from rfl, cal_of e2]
        rw [cs2 S cp cn h, cal_of e]
      · obtain ⟨S2, e2, f2, n2⟩ := m_scrapes (S := wr (wr (wr S 35 0 9 (nI (nxt r))) 35 0 9 (nI (nxt (nxt r)))) 35 0 9 (nI (nxt (nxt (nxt r))))) (n := 1) (π := π) (ν := ν) mn hV hQ.1 hm hp (by omega)
        refine ⟨S2, ?_, (f3m S).tr (f2.mono (fun a o h => by unfold frM; omega)), fun i hi => by rw [f2 35 0 (by omega)]; exact g3 S i hi, n2, by rw [f2 35 0 (by omega)]; exact wr_same _ _ _ _ _⟩
        rw [ms2 S mp mn h, if_neg (show ¬ nI (ν (m + 1) (2 + p)) ≤ (0 : Int32) from nI_nle (by omega) (by omega)), show (1 : Int32) = nI 1 from rfl, cal_of e2]
  · refine ⟨ν, nxt (nxt r), hQ, b2, rfl, fun S cp cn h => ⟨_, ?_, fc S, cn, wr_same _ _ _ _ _⟩, fun S mp mn h => ⟨_, ?_, fm S, gm S, mn, wr_same _ _ _ _ _⟩⟩
    · rw [cs S cp cn h]
      rfl
    · rw [ms S mp mn h]
      rfl
