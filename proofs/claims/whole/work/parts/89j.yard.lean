def qy (q : Nat → Nat) : Nat → Nat := fun x => if x = 1 then q 1 else if x = 5 then q 5 else if x = 7 then 1 - q 7 else 0
theorem qy_1 (q : Nat → Nat) : qy q 1 = q 1 := rfl
theorem qy_5 (q : Nat → Nat) : qy q 5 = q 5 := rfl
theorem qy_7 (q : Nat → Nat) : qy q 7 = 1 - q 7 := rfl
theorem qy_0 (q : Nat → Nat) : qy q 0 = 0 := rfl
theorem qy_2 (q : Nat → Nat) : qy q 2 = 0 := rfl
theorem qy_3 (q : Nat → Nat) : qy q 3 = 0 := rfl
theorem qy_4 (q : Nat → Nat) : qy q 4 = 0 := rfl
theorem qy_6 (q : Nat → Nat) : qy q 6 = 0 := rfl
theorem z_bit {i : Nat} (h : (0 : Nat).testBit i = true) : False := by
  rw [Nat.zero_testBit] at h
  exact absurd h (by decide)
theorem c_readInto {S : St} {L k g j : Nat} {t : Nat → Nat} {π2 : Nat → Nat → Nat} (hT : TXB t L) (h1 : S 1 0 1 = nI L) (h2 : ∀ i, i < L → S 2 0 i = nI (t i)) (hr : RunC t L (fun _ _ => 0) 240 0 0 g j π2) : ∃ S1, fX8_readInto k S = some (0, S1) ∧ Fr (cP k) S S1 ∧ S1 1 0 1 = 0 ∧ S1 1 0 3 = nI g ∧ S1 1 0 4 = fpl g j ∧ CP S1 k π2 := by
  generalize hA : wr (wr (wr (wr (wr (wr (wr S 3 k 0 0) 3 k 1 0) 3 k 2 0) 3 k 3 0) 1 0 2 0) 1 0 3 0) 1 0 4 (-1) = A
  have fA : Fr (cP k) S A := by
    rw [← hA]
    exact ((((((Fr.rf.wr (by unfold cP; omega)).wr (by unfold cP; omega)).wr (by unfold cP; omega)).wr (by unfold cP; omega)).wr (by unfold cP; omega)).wr (by unfold cP; omega)).wr (by unfold cP; omega)
  have rA : RS A L t 0 (0, -1) := by
    rw [← hA]
    refine ⟨?_, fun i hi => ?_, ?_, ?_, wr_same _ _ _ _ _⟩
    · rw [wr_i (by omega), wr_i (by omega), wr_i (by omega), wr_i (by omega), wr_i (by omega), wr_i (by omega), wr_i (by omega)]; exact h1
    · rw [wr_i (by omega), wr_i (by omega), wr_i (by omega), wr_i (by omega), wr_i (by omega), wr_i (by omega), wr_i (by omega)]; exact h2 i hi
    · rw [wr_i (by omega), wr_i (by omega), wr_same]; rfl
    · rw [wr_i (by omega), wr_same]; rfl
  have pA : CP A k (fun _ _ => 0) := by
    rw [← hA]
    refine ⟨fun i hi => ?_, fun m hm => absurd hm (Nat.not_lt_zero _), fun s hs => absurd hs (Nat.not_lt_zero _)⟩
    rw [wr_i (by omega), wr_i (by omega), wr_i (by omega)]
    rcases (show i = 0 ∨ i = 1 ∨ i = 2 ∨ i = 3 by omega) with q | q | q | q
    · subst q; rw [wr_i (by omega), wr_i (by omega), wr_i (by omega), wr_same]; rfl
    · subst q; rw [wr_i (by omega), wr_i (by omega), wr_same]; rfl
    · subst q; rw [wr_i (by omega), wr_same]; rfl
    · subst q; rw [wr_same]; rfl
  obtain ⟨S1, e1, r1, f1⟩ := c_skip hT rA (Nat.zero_le _)
  obtain ⟨S2, e2, f2, u1, u2, u3⟩ := hr S1 k r1 (pA.frd f1)
  have fw : Fr c10 S2 (wr S2 1 0 1 0) := Fr.rf.wr ⟨rfl, rfl⟩
  refine ⟨wr S2 1 0 1 0, ?_, ((fA.tr (c10_P k f1)).tr f2).tr (c10_P k fw), wr_same _ _ _ _ _, by rw [wr_i (by omega)]; exact u1, by rw [wr_i (by omega)]; exact u2, u3.frd fw⟩
  have hc : fX6_clear k S = some (0, wr (wr (wr (wr S 3 k 0 0) 3 k 1 0) 3 k 2 0) 3 k 3 0) := rfl
  unfold fX8_readInto
  rw [cal_of hc, bs_e, bs_e, bs_e, hA, cal_of e1, jn_e, show FU = 1758 + 240 + 2 from rfl]
  exact (e2 _ 1758).trans rfl
/-- the letters are read: nothing else that shows has changed -/
def xY (x : Nat) : Prop := 18 ≤ x ∧ x ≤ 28
theorem IM.fy {S T : St} {q : Nat → Nat} {π ν : Nat → Nat → Nat} {us im : Nat → Nat → Nat → Nat} {d : Nat → Nat → Nat} {fa fa2 : Int32} (h : IM S q π ν us im d fa) (f : FX cR xY S T) (e18 : T 35 0 18 = 0) (e19 : T 35 0 19 = fa2) : IM T (va_up q 0 0) π ν us im d fa2 := by
  obtain ⟨m0, m1, m2, m3, m4, m5, m6, m7⟩ := h
  have g : ∀ x, x < 18 ∨ 28 < x → T 35 0 x = S 35 0 x := fun x hx => f.2 x (by unfold xY; omega)
  have k : ∀ a, a ≠ 35 → a < 47 ∨ 50 < a → T a 0 = S a 0 := fun a h1 h2 => f.1 a 0 (by unfold cR; omega)
  refine ⟨?_, ?_, ⟨e18, fun i hi => absurd hi (Nat.not_lt_zero _), e19⟩, ?_, ?_, ?_, ?_, fun i hi => ?_⟩
  · unfold MP
    rw [g 0 (by omega), g 1 (by omega), g 2 (by omega), g 5 (by omega), k 36 (by omega) (by omega), k 37 (by omega) (by omega), k 38 (by omega) (by omega), k 39 (by omega) (by omega)]
    exact m0
  · rw [k 40 (by omega) (by omega)]; exact m1
  · rw [g 9 (by omega)]; exact m3
  · rw [g 10 (by omega), k 41 (by omega) (by omega), k 42 (by omega) (by omega), k 43 (by omega) (by omega)]; exact m4
  · rw [g 14 (by omega), k 44 (by omega) (by omega), k 45 (by omega) (by omega)]; exact m5
  · unfold MU
    rw [g 34 (by omega), k 54 (by omega) (by omega)]; exact m6
  · rw [k 60 (by omega) (by omega), k 59 (by omega) (by omega)]; exact m7 i hi
theorem IC.fy {S S1 : St} {q : Nat → Nat} {π ν : Nat → Nat → Nat} {us im : Nat → Nat → Nat → Nat} {d : Nat → Nat → Nat} {fa fa2 : Int32} (h : IC S q π ν us im d fa) (hM : π 0 2 ≤ 6) (f : Fr (cP (1 - q 7)) S S1) (e1 : S1 1 0 1 = 0) (e4 : S1 1 0 4 = fa2) : IC S1 (va_up q 0 0) π ν us im d fa2 := by
  obtain ⟨h0, h1, h2, h3, h4, h5, h6, h7, h8, h9⟩ := h
  have hq := h0.1
  have g : ∀ a o, a = 0 ∨ 9 ≤ a → S1 a o = S a o := fun a o h => f a o (by unfold cP; omega)
  refine ⟨?_, ?_, ?_, ⟨e1, fun i hi => absurd hi (Nat.not_lt_zero _), e4⟩, ?_, ?_, ?_, ?_, ?_, ?_⟩
  · rw [g 0 0 (by omega), g 33 0 (by omega), g 34 0 (by omega)]; exact h0
  · show CP S1 (q 7) π
    refine ⟨fun i hi => ?_, fun m hm => ⟨?_, fun p hp => ?_⟩, fun s hs => ?_⟩
    · rw [f 3 (q 7) (by unfold cP; omega)]; exact h1.1 i hi
    · rw [f 4 (q 7) (by unfold cP; omega)]; exact (h1.2.1 m hm).1
    · rw [f 6 _ (by unfold cP; omega)]; exact (h1.2.1 m hm).2 p hp
    · rw [f 7 (q 7) (by unfold cP; omega), f 8 (q 7) (by unfold cP; omega)]; exact h1.2.2 s hs
  · exact h2.fr hM (g 9 0 (by omega)) (fun a o ha _ => g a o (by omega))
  · rw [g 19 0 (by omega)]; exact h4
  · rw [g 20 0 (by omega), g 21 0 (by omega), g 22 0 (by omega), g 23 0 (by omega)]; exact h5
  · rw [g 27 0 (by omega), g 28 0 (by omega), g 29 0 (by omega)]; exact h6
  · exact h7.fr (g 14 0 (by omega)) (fun o _ => g 17 o (by omega))
  · rw [g 14 0 (by omega)]; exact h8
  · intro i hi hb
    rw [g 17 _ (by omega), g 18 0 (by omega)]; exact h9 i hi hb
theorem IV.fy {q : Nat → Nat} {π ν : Nat → Nat → Nat} {us im : Nat → Nat → Nat → Nat} {d : Nat → Nat → Nat} (h : IV q π ν us im d) : IV (va_up q 0 0) π ν us im d := by
  obtain ⟨v0, v1, v2, v3, v4, v5, v6, v7, v8⟩ := h
  exact ⟨v0, v1, ⟨Nat.zero_le _, fun i hi => absurd hi (Nat.not_lt_zero _)⟩, v3, v4, v5, v6, v7, v8⟩
/-- the reference's start of a reading -/
theorem m_start {S0 : St} {q : Nat → Nat} {π ν : Nat → Nat → Nat} {us im : Nat → Nat → Nat → Nat} {d : Nat → Nat → Nat} {fa : Int32} (h : IM S0 q π ν us im d fa) : ∃ A, FX cR x6 S0 A ∧ RM A (q 0) (d 0) 0 ∧ MR A (fun _ _ => 0) ∧ A 35 0 19 = -1 ∧ ∀ kk : St → Op, (kk A = (bs (wr S0 35 0 19 (-1 : Int32)) fun S_2 => bs (wr S_2 35 0 20 (0 : Int32)) fun S_7 => bs (wr S_7 35 0 23 (0 : Int32)) fun S_12 => bs (wr S_12 35 0 24 (0 : Int32)) fun S_17 => bs (wr S_17 35 0 25 (0 : Int32)) fun S_22 => bs (wr S_22 35 0 28 (0 : Int32)) fun S_27 => kk S_27)) := by
  refine ⟨wr (wr (wr (wr (wr (wr S0 35 0 19 (-1)) 35 0 20 0) 35 0 23 0) 35 0 24 0) 35 0 25 0) 35 0 28 0, ?_, ⟨?_, fun i hi => ?_, ?_⟩, ⟨?_, ?_, ?_, wr_same _ _ _ _ _, fun m hm => absurd hm (Nat.not_lt_zero _), fun s hs => absurd hs (Nat.not_lt_zero _)⟩, ?_, fun kk => rfl⟩
  · exact (((((FX.rf.wx (Or.inl ⟨rfl, rfl⟩) (by unfold x6; omega)).wx (Or.inl ⟨rfl, rfl⟩) (by unfold x6; omega)).wx (Or.inl ⟨rfl, rfl⟩) (by unfold x6; omega)).wx (Or.inl ⟨rfl, rfl⟩) (by unfold x6; omega)).wx (Or.inl ⟨rfl, rfl⟩) (by unfold x6; omega)).wx (Or.inl ⟨rfl, rfl⟩) (by unfold x6; omega)
  · rw [wr_i (by omega), wr_i (by omega), wr_i (by omega), wr_i (by omega), wr_i (by omega), wr_i (by omega)]; exact h.2.2.1.1
  · rw [wr_i (by omega), wr_i (by omega), wr_i (by omega), wr_i (by omega), wr_i (by omega), wr_i (by omega)]; exact h.2.2.1.2.1 i hi
  · rw [wr_i (by omega), wr_i (by omega), wr_i (by omega), wr_i (by omega), wr_same]; rfl
  · rw [wr_i (by omega), wr_i (by omega), wr_i (by omega), wr_same]; rfl
  · rw [wr_i (by omega), wr_i (by omega), wr_same]; rfl
  · rw [wr_i (by omega), wr_same]; rfl
  · rw [wr_i (by omega), wr_i (by omega), wr_i (by omega), wr_i (by omega), wr_i (by omega), wr_same]
theorem VP_0 : VP (fun _ _ => 0) := ⟨by decide, by decide, by decide, fun m h => absurd h (Nat.not_lt_zero _), ⟨by decide, fun s h => absurd h (Nat.not_lt_zero _)⟩, fun _ => ⟨rfl, rfl⟩⟩
/-- what the reference does behind the reading -/
def YK : Int32 → St → Op := fun (x1_51 : Int32) (S_51 : St) => bs (wr S_51 35 0 18 (0 : Int32)) fun S_53 => if x1_51 ≤ (0 : Int32) then (cal (fX11_takeRead S_53) fun _ S_66 => bs (wr S_66 35 0 10 (0 : Int32)) fun S_71 => bs (wr S_71 35 0 14 (0 : Int32)) fun S_76 => bs (wr S_76 35 0 34 (0 : Int32)) fun S_81 => ck (0 : Int32) 2 <| bs (wr S_81 60 0 (Int32.toNatClampNeg (0 : Int32)) (vp_nar .boolean (0 : Int32))) fun S_90 => ck (1 : Int32) 2 <| bs (wr S_90 60 0 (Int32.toNatClampNeg (1 : Int32)) (vp_nar .boolean (0 : Int32))) fun S_97 => some ((S_97 35 0 2), S_97)) else (some (((-10 : Int32) - x1_51), S_53))
theorem yard_e {S0 A : St} (e : ∀ kk : St → Op, (kk A = (bs (wr S0 35 0 19 (-1 : Int32)) fun S_2 => bs (wr S_2 35 0 20 (0 : Int32)) fun S_7 => bs (wr S_7 35 0 23 (0 : Int32)) fun S_12 => bs (wr S_12 35 0 24 (0 : Int32)) fun S_17 => bs (wr S_17 35 0 25 (0 : Int32)) fun S_22 => bs (wr S_22 35 0 28 (0 : Int32)) fun S_27 => kk S_27))) : fX11_yard S0 = lop (fun _ _ => none) (bX11_yard_32 YK) (1758 + 240 + 2) 0 A := (e (fun S => lop (fun _ _ => none) (bX11_yard_32 YK) FU 0 S)).symm
theorem same_yard : Same fX10_yard fX11_yard := by
  rintro S ⟨q, π, ν, us, im, d, fa, hC, hM, hV⟩
  have hT : TXB (d 0) (q 0) := hV.2.2.1
  have hq := hC.1.1
  have hMn : π 0 2 ≤ 6 := hV.1.2.2.1
  obtain ⟨g, j, π2, a2, v2, c2, m2⟩ := run hT 240 0 0 (fun _ _ => 0) (by have := hT.1; omega) (Nat.zero_le _) (Nat.le_refl _) VP_0
  have hk2 : pid (S 0 0 2) = 1 - q 7 := by rw [hC.1.2.2.1]; exact pid_uid (by omega)
  obtain ⟨S1, e1, f1, l1, g1, fa1, p1⟩ := c_readInto (k := 1 - q 7) hT hC.2.2.2.1.1 hC.2.2.2.1.2.1 c2
  have hk : ∀ a, 35 ≤ a → S1 a = S a := fun a ha => kind_of f1 (fun o => by unfold cP; omega)
  have s0 : S1 0 0 = S 0 0 := f1 0 0 (by unfold cP; omega)
  by_cases hg : g = 0
  · subst hg
    generalize hB : wr (wr S1 0 0 1 (uid (1 - q 7))) 0 0 2 (uid (q 7)) = B
    have fB : Fr (fun a o => a = 0 ∧ o = 0) S1 B := by rw [← hB]; exact (Fr.rf.wr ⟨rfl, rfl⟩).wr ⟨rfl, rfl⟩
    have b1 : B 0 0 1 = uid (1 - q 7) := by rw [← hB, wr_i (by omega), wr_same]
    have b2 : B 0 0 2 = uid (q 7) := by rw [← hB, wr_same]
    have pB : CP B (1 - q 7) π2 := p1.fr (fB 3 _ (by omega)) (fB 4 _ (by omega)) (fun o => fB 6 o (by omega)) (fB 7 _ (by omega)) (fB 8 _ (by omega))
    obtain ⟨D, e3, f3, nD⟩ := c_beginAll (by omega) pB v2
    generalize hE : wr (wr (wr (wr D 14 0 2 0) 14 0 5 0) 20 0 3 0) 27 0 2 0 = E
    have fE : Fr (fun a o => (a = 14 ∨ a = 20 ∨ a = 27) ∧ o = 0) D E := by rw [← hE]; exact (((Fr.rf.wr (by omega)).wr (by omega)).wr (by omega)).wr (by omega)
    have gD : ∀ a o, ¬ (a = 0 ∧ o = 0) → ¬ cBg a o → D a o = S1 a o := fun a o h1 h2 => by rw [f3 a o h2, fB a o h1]
    have gE : ∀ a o, a ≠ 0 → a ≠ 9 → a ≠ 11 → a ≠ 12 → a ≠ 13 → a ≠ 14 → a ≠ 20 → a ≠ 27 → E a o = S1 a o := fun a o h1 h2 h3 h4 h5 h6 h7 h8 => by rw [fE a o (by omega), gD a o (by omega) (by unfold cBg; omega)]
    have gS : ∀ a o, 9 < a → ¬ (a = 11 ∨ a = 12 ∨ a = 13 ∨ a = 14 ∨ a = 20 ∨ a = 27) → E a o = S a o := fun a o h1 h2 => by rw [gE a o (by omega) (by omega) (by omega) (by omega) (by omega) (by omega) (by omega) (by omega), f1 a o (by unfold cP; omega)]
    have E0 : E 0 0 = B 0 0 := by rw [fE 0 0 (by omega), f3 0 0 (by unfold cBg; omega)]
    have pE : CP E (1 - q 7) π2 := p1.fr (gE 3 _ (by omega) (by omega) (by omega) (by omega) (by omega) (by omega) (by omega) (by omega)) (gE 4 _ (by omega) (by omega) (by omega) (by omega) (by omega) (by omega) (by omega) (by omega)) (fun o => gE 6 o (by omega) (by omega) (by omega) (by omega) (by omega) (by omega) (by omega) (by omega)) (gE 7 _ (by omega) (by omega) (by omega) (by omega) (by omega) (by omega) (by omega) (by omega)) (gE 8 _ (by omega) (by omega) (by omega) (by omega) (by omega) (by omega) (by omega) (by omega))
    have D14 : D 14 0 = S 14 0 := by rw [gD 14 0 (by omega) (by unfold cBg; omega), f1 14 0 (by unfold cP; omega)]
    have E1 : E 1 0 = S1 1 0 := gE 1 0 (by omega) (by omega) (by omega) (by omega) (by omega) (by omega) (by omega) (by omega)
    obtain ⟨h0, h1, h2, h3, h4, h5, h6, h7, h8, h9⟩ := id hC
    obtain ⟨v0, v1, v2b, v3, v4, v5, v6, v7, v8⟩ := id hV
    refine same_ch (q2 := qy q) (π2 := π2) (ν2 := nu0 π2) (us2 := us) (im2 := im) (d2 := d) (fa2 := -1) (r := nI (π2 0 2)) (S1 := E) hM ?_ (fun a ha => ?_) ?_ ?_ (fun S0 hM0 => ?_)
    · unfold fX10_yard
      rw [hk2, cal_of e1, g1, if_pos (show nI 0 = (0 : Int32) from rfl), bs_e, bs_e, s0, hk2, hC.k, hB, b1, pid_uid (show 1 - q 7 < 2 by omega), cal_of e3, bs_e, bs_e, bs_e, bs_e, hE, E0, b1, pid_uid (show 1 - q 7 < 2 by omega), pE.1 2 (by decide)]
    · rw [← hk a ha]
      funext o
      exact gE a o (by omega) (by omega) (by omega) (by omega) (by omega) (by omega) (by omega) (by omega)
    · refine ⟨⟨by rw [qy_7]; omega, by rw [E0, b1, qy_7], ?_, by rw [gS 33 0 (by omega) (by omega)]; exact h0.2.2.2.1, by rw [gS 34 0 (by omega) (by omega)]; exact h0.2.2.2.2⟩, by rw [qy_7]; exact pE, ?_, ⟨by rw [E1, l1, qy_0]; rfl, fun i hi => absurd hi (Nat.not_lt_zero _), by rw [E1, fa1]; rfl⟩, by rw [gS 19 0 (by omega) (by omega), qy_1]; exact h4, ⟨?_, fun i hi => absurd hi (Nat.not_lt_zero _)⟩, ⟨?_, fun i hi => absurd hi (Nat.not_lt_zero _)⟩, ⟨?_, ?_, ?_, ?_, fun i hi => absurd hi (Nat.not_lt_zero _)⟩, ?_, fun i hi hb => ?_⟩
      · rw [E0, b2, qy_7, show 1 - (1 - q 7) = q 7 by omega]
      · rw [qy_7]
        exact nD.fr v2.2.2.1 (fE 9 0 (by omega)) (fun a o ha _ => fE a o (by omega))
      · rw [← hE, wr_i (by omega), wr_same, qy_2]; rfl
      · rw [← hE, wr_same, qy_3]; rfl
      · rw [← hE, wr_i (by omega), wr_i (by omega), wr_i (by omega), wr_i (by omega), D14, qy_5]; exact h7.1
      · rw [qy_5]; exact h7.2.1
      · rw [← hE, wr_i (by omega), wr_i (by omega), wr_i (by omega), wr_same, qy_4]; rfl
      · rw [qy_4]; omega
      · rw [← hE, wr_i (by omega), wr_i (by omega), wr_same, qy_6]; rfl
      · exact (z_bit hb).elim
    · exact ⟨v2, VQ_nu0 v2, ⟨Nat.zero_le _, fun i hi => absurd hi (Nat.not_lt_zero _)⟩, v3, ⟨Nat.zero_le _, fun i hi => absurd hi (Nat.not_lt_zero _)⟩, ⟨Nat.zero_le _, fun i hi => absurd hi (Nat.not_lt_zero _)⟩, fun i hi => absurd hi (Nat.not_lt_zero _), (by decide : (0 : Nat) < 4), fun i hi hb => (z_bit hb).elim⟩
    · obtain ⟨A, fA, rA, pA, n19, eA⟩ := m_start hM0
      obtain ⟨T2, y2, p2, f2⟩ := (m2 A rA pA).1 rfl
      have pw : MR (wr T2 35 0 18 0) π2 := by
        obtain ⟨w0, w1, w2, w3, w4, w5⟩ := p2
        exact ⟨by rw [wr_i (by omega)]; exact w0, by rw [wr_i (by omega)]; exact w1, by rw [wr_i (by omega)]; exact w2, by rw [wr_i (by omega)]; exact w3, fun m hm => ⟨by rw [wr_i (by omega)]; exact (w4 m hm).1, fun p hp => by rw [wr_i (by omega)]; exact (w4 m hm).2 p hp⟩, fun s hs => by rw [wr_i (by omega), wr_i (by omega)]; exact w5 s hs⟩
      obtain ⟨T3, y3, f3, mp, mn⟩ := m_takeRead pw v2
      generalize hG : wr (wr (wr (wr (wr T3 35 0 10 0) 35 0 14 0) 35 0 34 0) 60 0 0 0) 60 0 1 0 = G
      have fG : FX (fun a o => (a = 35 ∨ a = 60) ∧ o = 0) (fun x => x = 10 ∨ x = 14 ∨ x = 34) T3 G := by
        rw [← hG]
        exact ((((FX.rf.wx (by omega) (by omega)).wx (by omega) (by omega)).wx (by omega) (by omega)).wo (by omega) (by omega)).wo (by omega) (by omega)
      have x18 : T3 35 0 18 = 0 := by rw [f3.2 18 (by unfold xT; omega), wr_same]
      have x19 : T3 35 0 19 = -1 := by rw [f3.2 19 (by unfold xT; omega), wr_i (by omega), f2.2 19 (by unfold x5; omega)]; exact n19
      have x9 : T3 35 0 9 = S0 35 0 9 := by rw [f3.2 9 (by unfold xT; omega), wr_i (by omega), f2.2 9 (by unfold x5; omega), fA.2 9 (by unfold x6; omega)]
      have G2 : G 35 0 2 = nI (π2 0 2) := by rw [fG.2 2 (by omega)]; exact mp.2.2.1
      refine ⟨G, ?_, ⟨?_, ?_, ⟨by rw [fG.2 18 (by omega), x18, qy_0]; rfl, fun i hi => absurd hi (Nat.not_lt_zero _), by rw [fG.2 19 (by omega)]; exact x19⟩, ?_, ⟨?_, fun i hi => absurd hi (Nat.not_lt_zero _)⟩, ⟨?_, fun i hi => absurd hi (Nat.not_lt_zero _)⟩, ⟨?_, fun i hi => absurd hi (Nat.not_lt_zero _)⟩, fun i hi => ⟨?_, fun hb => (z_bit hb).elim⟩⟩, fun a ha => ?_⟩
      · rw [yard_e eA, y2 YK 1758]
        unfold YK
        rw [bs_e, if_pos (by decide), cal_of y3, bs_e, bs_e, bs_e, show (1 : Int32) = nI 1 from rfl, show (0 : Int32) = nI 0 from rfl, ck_nI (show 0 < 2 by decide) (by decide), bs_e, ck_nI (show 1 < 2 by decide) (by decide), bs_e, nI_clamp (by decide), nI_clamp (by decide), show vp_nar .boolean (nI 0) = nI 0 from by decide, ← show (0 : Int32) = nI 0 from rfl, hG, G2]
      · unfold MP
        rw [fG.2 0 (by omega), fG.2 1 (by omega), fG.2 2 (by omega), fG.2 5 (by omega), fG.1 36 0 (by omega), fG.1 37 0 (by omega), fG.1 38 0 (by omega), fG.1 39 0 (by omega)]
        exact mp
      · rw [fG.1 40 0 (by omega)]; exact mn
      · rw [fG.2 9 (by omega), x9, qy_1]; exact hM0.2.2.2.1
      · rw [← hG, wr_i (by omega), wr_i (by omega), wr_i (by omega), wr_i (by omega), wr_same, qy_2]; rfl
      · rw [← hG, wr_i (by omega), wr_i (by omega), wr_i (by omega), wr_same, qy_3]; rfl
      · rw [← hG, wr_i (by omega), wr_i (by omega), wr_same, qy_4]; rfl
      · rw [qy_6, if_neg (fun hb => z_bit hb), ← hG]
        rcases (show i = 0 ∨ i = 1 by omega) with z | z
        · subst z; rw [wr_i (by omega), wr_same]
        · subst z; rw [wr_same]
      · funext o
        rw [fG.1 a o (by omega), f3.1 a o (by unfold cT; omega), wr_other (by omega), f2.1 a o (by unfold cR; omega), fA.1 a o (by unfold cR; omega)]
  · have n3 : fpl g j = nI j := if_neg hg
    refine same_ch (q2 := va_up q 0 0) (π2 := π) (ν2 := ν) (us2 := us) (im2 := im) (d2 := d) (fa2 := nI j) (r := (-10 : Int32) - nI g) (S1 := S1) hM ?_ hk (hC.fy hMn f1 l1 (fa1.trans n3)) hV.fy (fun S0 hM0 => ?_)
    · unfold fX10_yard
      rw [hk2, cal_of e1, g1, if_neg (nI_ne0 (by omega) (by omega))]
    · obtain ⟨A, fA, rA, pA, n19, eA⟩ := m_start hM0
      obtain ⟨T2, y2, n2, f2⟩ := (m2 A rA pA).2 hg
      have f3 : FX cR xY S0 (wr T2 35 0 18 0) := ((fA.tr f2).mono (fun a o z => z) (fun x z => by unfold x6 at z; unfold xY; omega)).wx (Or.inl ⟨rfl, rfl⟩) (by unfold xY; omega)
      refine ⟨wr T2 35 0 18 0, ?_, hM0.fy f3 (wr_same _ _ _ _ _) (by rw [wr_i (by omega)]; exact n2), fun a ha => ?_⟩
      · rw [yard_e eA, y2 YK 1758]
        unfold YK
        rw [bs_e, if_neg (nI_nle (by omega) (by omega))]
      · funext o
        exact f3.1 a o (by unfold cR; omega)
