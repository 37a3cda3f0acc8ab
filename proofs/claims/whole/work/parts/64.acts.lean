theorem IC.nu {S S1 : St} {q : Nat → Nat} {π ν ν2 : Nat → Nat → Nat} {us im : Nat → Nat → Nat → Nat} {d : Nat → Nat → Nat} {fa : Int32} (h : IC S q π ν us im d fa) (f : Fr (fun a o => (a = 9 ∧ o = 0) ∨ ((a = 11 ∨ a = 12 ∨ a = 13) ∧ o < 6)) S S1) (hN : CN S1 (q 7) (π 0 2) (π 1) ν2) : IC S1 q π ν2 us im d fa := by
  obtain ⟨h0, h1, h2, h3, h4, h5, h6, h7, h8, h9⟩ := h
  refine ⟨?_, ?_, hN, ?_, ?_, ?_, ?_, ?_, ?_, ?_⟩
  · rw [f 0 0 (by omega), f 33 0 (by omega), f 34 0 (by omega)]; exact h0
  · exact h1.fr (f 3 _ (by omega)) (f 4 _ (by omega)) (fun o => f 6 o (by omega)) (f 7 _ (by omega)) (f 8 _ (by omega))
  · rw [f 1 0 (by omega), f 2 0 (by omega)]; exact h3
  · rw [f 19 0 (by omega)]; exact h4
  · rw [f 20 0 (by omega), f 21 0 (by omega), f 22 0 (by omega), f 23 0 (by omega)]; exact h5
  · rw [f 27 0 (by omega), f 28 0 (by omega), f 29 0 (by omega)]; exact h6
  · exact h7.fr (f 14 0 (by omega)) (fun o _ => f 17 o (by omega))
  · rw [f 14 0 (by omega)]; exact h8
  · intro i hi hb
    rw [f 17 _ (by omega), f 18 0 (by omega)]; exact h9 i hi hb
theorem IM.nu {S S1 : St} {q : Nat → Nat} {π ν ν2 : Nat → Nat → Nat} {us im : Nat → Nat → Nat → Nat} {d : Nat → Nat → Nat} {fa : Int32} (h : IM S q π ν us im d fa) (f : Fr (fun a _ => a = 40 ∨ a = 51 ∨ a = 52) S S1) (hN : MN (S1 40 0) (π 0 2) ν2) : IM S1 q π ν2 us im d fa := by
  obtain ⟨m0, m1, m2, m3, m4, m5, m6, m7⟩ := h
  refine ⟨?_, hN, ?_, ?_, ?_, ?_, ?_, ?_⟩
  · unfold MP; rw [f 35 0 (by omega), f 36 0 (by omega), f 37 0 (by omega), f 38 0 (by omega), f 39 0 (by omega)]; exact m0
  · rw [f 35 0 (by omega), f 46 0 (by omega)]; exact m2
  · rw [f 35 0 (by omega)]; exact m3
  · rw [f 35 0 (by omega), f 41 0 (by omega), f 42 0 (by omega), f 43 0 (by omega)]; exact m4
  · rw [f 35 0 (by omega), f 44 0 (by omega), f 45 0 (by omega)]; exact m5
  · unfold MU; rw [f 35 0 (by omega), f 54 0 (by omega)]; exact m6
  · intro i hi
    rw [f 60 0 (by omega), f 59 0 (by omega)]; exact m7 i hi
theorem kind_of {S S1 : St} {C : Nat → Nat → Prop} (f : Fr C S S1) {a : Nat} (h : ∀ o, ¬ C a o) : S1 a = S a := funext fun o => f a o (h o)
/-- ahead of an act: the state goes to the past -/
theorem c_pushI {S : St} {q : Nat → Nat} {π ν : Nat → Nat → Nat} {us im : Nat → Nat → Nat → Nat} {d : Nat → Nat → Nat} {fa : Int32} (h : IC S q π ν us im d fa) (hV : VP π) : ∃ S1 nx, fX4_push S = some (0, S1) ∧ IC S1 (va_up (va_up q 4 (min 16 (q 4 + 1))) 5 nx) π ν (psh (q 4) us ν) im d fa ∧ ∀ a, 35 ≤ a → S1 a = S a := by
  obtain ⟨h0, h1, h2, h3, h4, h5, h6, h7, h8, h9⟩ := h
  obtain ⟨S1, nx, e, f, g, hu⟩ := c_push h1 h2 hV h7
  refine ⟨S1, nx, e, ⟨?_, ?_, ?_, ?_, ?_, ?_, ?_, hu, ?_, ?_⟩, fun a ha => kind_of f (fun o => by omega)⟩
  · rw [f 0 0 (by omega), f 33 0 (by omega), f 34 0 (by omega)]; exact h0
  · exact h1.fr (f 3 _ (by omega)) (f 4 _ (by omega)) (fun o => f 6 o (by omega)) (f 7 _ (by omega)) (f 8 _ (by omega))
  · exact h2.fr hV.2.2.1 (f 9 0 (by omega)) (fun a o _ _ => f a o (by omega))
  · rw [f 1 0 (by omega), f 2 0 (by omega)]; exact h3
  · rw [f 19 0 (by omega)]; exact h4
  · rw [f 20 0 (by omega), f 21 0 (by omega), f 22 0 (by omega), f 23 0 (by omega)]; exact h5
  · rw [f 27 0 (by omega), f 28 0 (by omega), f 29 0 (by omega)]; exact h6
  · rw [g]; exact h8
  · intro i hi hb
    rw [f 17 _ (by omega), f 18 0 (by omega)]; exact h9 i hi hb
theorem m_remI {S : St} {q : Nat → Nat} {π ν : Nat → Nat → Nat} {us im : Nat → Nat → Nat → Nat} {d : Nat → Nat → Nat} {fa : Int32} (nx : Nat) (h : IM S q π ν us im d fa) (hV : VP π) (hu : q 4 ≤ 16) : ∃ S1, fX11_remember S = some (0, S1) ∧ IM S1 (va_up (va_up q 4 (min 16 (q 4 + 1))) 5 nx) π ν (psh (q 4) us ν) im d fa ∧ ∀ a, a < 35 → S1 a = S a := by
  obtain ⟨m0, m1, m2, m3, m4, m5, m6, m7⟩ := h
  obtain ⟨S1, e, f, g, hm⟩ := m_remember hV.2.2.1 hu m6 m1
  refine ⟨S1, e, ⟨?_, ?_, ?_, ?_, ?_, ?_, hm, ?_⟩, fun a ha => kind_of f (fun o => by omega)⟩
  · unfold MP; rw [g 0 (by decide), g 1 (by decide), g 2 (by decide), g 5 (by decide), f 36 0 (by omega), f 37 0 (by omega), f 38 0 (by omega), f 39 0 (by omega)]; exact m0
  · rw [f 40 0 (by omega)]; exact m1
  · rw [g 18 (by decide), g 19 (by decide), f 46 0 (by omega)]; exact m2
  · rw [g 9 (by decide)]; exact m3
  · rw [g 10 (by decide), f 41 0 (by omega), f 42 0 (by omega), f 43 0 (by omega)]; exact m4
  · rw [g 14 (by decide), f 44 0 (by omega), f 45 0 (by omega)]; exact m5
  · intro i hi
    rw [f 60 0 (by omega), f 59 0 (by omega)]; exact m7 i hi
theorem iv_psh {q : Nat → Nat} {π ν : Nat → Nat → Nat} {us im : Nat → Nat → Nat → Nat} {d : Nat → Nat → Nat} (nx : Nat) (h : IV q π ν us im d) (hu : q 4 ≤ 16) : IV (va_up (va_up q 4 (min 16 (q 4 + 1))) 5 nx) π ν (psh (q 4) us ν) im d := by
  obtain ⟨v0, v1, v2, v3, v4, v5, v6, v7, v8⟩ := h
  refine ⟨v0, v1, v2, v3, v4, v5, fun i hi => ?_, v7, v8⟩
  have hi : i < min 16 (q 4 + 1) := hi
  unfold psh
  by_cases h16 : q 4 < 16
  · rw [if_pos h16]
    by_cases e : i = q 4
    · rw [if_pos e]; exact v1
    · rw [if_neg e]; exact v6 i (by omega)
  · rw [if_neg h16]
    by_cases e : i = 15
    · rw [if_pos e]; exact v1
    · rw [if_neg e]; exact v6 (i + 1) (by omega)
theorem IV.nu {q : Nat → Nat} {π ν ν2 : Nat → Nat → Nat} {us im : Nat → Nat → Nat → Nat} {d : Nat → Nat → Nat} (h : IV q π ν us im d) (h2 : VQ π ν2) : IV q π ν2 us im d := ⟨h.1, h2, h.2.2⟩
theorem cin_cong {ν ν2 : Nat → Nat → Nat} : ∀ n, (∀ m, m < n → ν2 (m + 1) 0 = ν (m + 1) 0) → cin ν2 n = cin ν n
  | 0, _ => rfl
  | n + 1, h => by
    unfold cin
    rw [cin_cong n (fun m hm => h m (by omega)), h n (by omega)]
/-- an act: push, then change the state -/
theorem same_act {f g F G : St → Op} {S : St} {q : Nat → Nat} {π ν ν2 : Nat → Nat → Nat} {us im : Nat → Nat → Nat → Nat} {d : Nat → Nat → Nat} {fa : Int32} {r : Int32} (hC : IC S q π ν us im d fa) (hM : IM S q π ν us im d fa) (hV : IV q π ν us im d) (hf : ∀ S1, fX4_push S = some (0, S1) → f S = F S1) (hg : ∀ S0 S1, IM S0 q π ν us im d fa → fX11_remember S0 = some (0, S1) → g S0 = G S1)
    (hF : ∀ S1, CP S1 (q 7) π → CN S1 (q 7) (π 0 2) (π 1) ν → S1 0 0 1 = uid (q 7) → ∃ S2, F S1 = some (r, S2) ∧ Fr (fun a o => (a = 9 ∧ o = 0) ∨ ((a = 11 ∨ a = 12 ∨ a = 13) ∧ o < 6)) S1 S2 ∧ CN S2 (q 7) (π 0 2) (π 1) ν2)
    (hG : ∀ S1, MP S1 π → MN (S1 40 0) (π 0 2) ν → ∃ S2, G S1 = some (r, S2) ∧ Fr (fun a _ => a = 40 ∨ a = 51 ∨ a = 52) S1 S2 ∧ MN (S2 40 0) (π 0 2) ν2) (hQ : VQ π ν2) : ∃ r S1 S2, f S = some (r, S1) ∧ g S1 = some (r, S2) ∧ Inv S2 := by
  have hu : q 4 ≤ 16 := hC.2.2.2.2.2.2.2.1.2.2.2.1
  obtain ⟨S1, nx, e1, c1, g1⟩ := c_pushI hC hV.1
  obtain ⟨S2, e2, f2, n2⟩ := hF S1 c1.2.1 c1.2.2.1 c1.1.2.1
  refine same_ch (r := r) (S1 := S2) hM ((hf S1 e1).trans e2) (fun a ha => (kind_of f2 (fun o => by omega)).trans (g1 a ha)) (c1.nu f2 n2) ((iv_psh nx hV hu).nu hQ) (fun S0 hM0 => ?_)
  obtain ⟨S3, e3, c3, g3⟩ := m_remI nx hM0 hV.1 hu
  obtain ⟨S4, e4, f4, n4⟩ := hG S3 c3.1 c3.2.1
  exact ⟨S4, (hg S0 S3 hM0 e3).trans e4, c3.nu f4 n4, fun a ha => (kind_of f4 (fun o => by omega)).trans (g3 a ha)⟩
/-- both refuse alike -/
theorem same_no {f g : St → Op} {S : St} {q : Nat → Nat} {π ν : Nat → Nat → Nat} {us im : Nat → Nat → Nat → Nat} {d : Nat → Nat → Nat} {fa : Int32} {r : Int32} (hC : IC S q π ν us im d fa) (hM : IM S q π ν us im d fa) (hV : IV q π ν us im d) (hf : f S = some (r, S)) (hg : ∀ S0, IM S0 q π ν us im d fa → g S0 = some (r, S0)) : ∃ r S1 S2, f S = some (r, S1) ∧ g S1 = some (r, S2) ∧ Inv S2 := same_ch hM hf (fun _ _ => rfl) hC hV (fun S0 h0 => ⟨S0, hg S0 h0, h0, fun _ _ => rfl⟩)
theorem n10 : ¬ (1 : Int32) = 0 := by decide
theorem same_bark (a : Int32) : Same (fX10_bark a) (fX11_bark a) := by
  rintro S ⟨q, π, ν, us, im, d, fa, hC, hM, hV⟩
  have hk := hC.k
  have w1 : ∀ S0, fX11_within a.toInt64 (1 : Int64) (9 : Int64) S0 = some (if (1 : Int32) ≤ a ∧ a ≤ 9 then 1 else 0, S0) := fun S0 => m_within a 1 9 S0
  by_cases h : (1 : Int32) ≤ a ∧ a ≤ 9
  · obtain ⟨j, hj1, hj, rfl⟩ := nat_of (lo := 1) (hi := 9) (by decide) (by decide) h
    by_cases hP : π 0 0 = 0
    · refine same_no (r := -1000000003) hC hM hV ?_ (fun S0 h0 => ?_)
      · unfold fX10_bark
        rw [c_isOut, cal_s, if_pos h, if_pos rfl, hk, cal_of (c_isNone (hC.2.1.1 0 (by decide)) hV.1.1), if_pos hP, if_neg n10]
      · unfold fX11_bark
        rw [w1, cal_s, if_pos h, if_neg n10, h0.1.1, hP, if_pos (show nI 0 = (0 : Int32) from rfl)]
    · refine same_act (F := fun S_34 => bi ((S_34 9 0 2)) fun x2_44 => bs (wr S_34 9 0 2 (nI j)) fun S_50 => some (x2_44, S_50)) (G := fun S_26 => ck (1 : Int32) 70 <| bi ((S_26 40 0 (Int32.toNatClampNeg (1 : Int32)))) fun x2_35 => ck (1 : Int32) 70 <| bs (wr S_26 40 0 (Int32.toNatClampNeg (1 : Int32)) (nI j)) fun S_42 => some (x2_35, S_42)) (ν2 := fun x i => if x = 0 ∧ i = 1 then j else ν x i) (r := nI (ν 0 1)) hC hM hV (fun S1 e1 => ?_) (fun S0 S1 h0 e1 => ?_) (fun S1 cp cn _ => ⟨wr S1 9 0 2 (nI j), ?_, Fr.rf.wr (Or.inl ⟨rfl, rfl⟩), ⟨cn.1, fun i hi => ?_, cn.2.2⟩⟩) (fun S1 mp mn => ⟨wr S1 40 0 1 (nI j), ?_, Fr.rf.wr (Or.inl rfl), ⟨mn.1, wr_same _ _ _ _ _, mn.2.2.1, mn.2.2.2.1, fun m hm => ?_⟩⟩) ?_
      · unfold fX10_bark
        rw [c_isOut, cal_s, if_pos h, if_pos rfl, hk, cal_of (c_isNone (hC.2.1.1 0 (by decide)) hV.1.1), if_neg hP, if_pos rfl, cal_of e1]
      · unfold fX11_bark
        rw [w1, cal_s, if_pos h, if_neg n10, h0.1.1, if_neg (nI_ne0 (by omega) (by have := hV.1.1; omega)), cal_of e1]
      · simp only [bi, bs]; rw [cn.2.1 1 (by decide)]
      · rcases (show i = 0 ∨ i = 1 ∨ i = 2 by omega) with rfl | rfl | rfl
        · exact cn.2.1 0 (by decide)
        · exact wr_same _ _ _ _ _
        · exact cn.2.1 2 (by decide)
      · simp only [bi, bs]
        rw [show (1 : Int32) = nI 1 from rfl, ck_nI (by decide) (by decide), ck_nI (by decide) (by decide), nI_clamp (by decide), mn.2.1]
      · refine ⟨?_, fun p hp => ?_⟩
        · rw [wr_i (by omega)]; exact (mn.2.2.2.2 m hm).1
        · rw [wr_i (by omega), wr_i (by omega)]; exact (mn.2.2.2.2 m hm).2 p hp
      · obtain ⟨⟨a1, a2, a3, a4⟩, a5⟩ := hV.2.1
        refine ⟨⟨a1, hj, a3, a4⟩, ?_⟩
        exact Nat.le_trans (Nat.le_of_eq (cin_cong _ (fun m _ => if_neg (by omega)))) a5
  · refine same_no (r := -1000000002) hC hM hV ?_ (fun S0 h0 => ?_)
    · unfold fX10_bark
      rw [c_isOut, cal_s, if_neg h, if_neg n10]
    · unfold fX11_bark
      rw [w1, cal_s, if_neg h, if_pos rfl]
