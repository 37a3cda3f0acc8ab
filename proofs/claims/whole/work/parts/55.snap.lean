/-- a row holds a state -/
def RW (r : Nat → Int32) (M : Nat) (ν : Nat → Nat → Nat) : Prop := (∀ i, i < 3 → r i = nI (ν 0 i)) ∧ ∀ m, m < M → ∀ j, j < 12 → r (3 + 12 * m + j) = nI (ν (m + 1) j)
theorem p_saveTo {S : St} {m o b : Nat} (hb : b + 12 ≤ 75) : ∃ S2, fX3_saveTo m o (nI b) S = some (0, S2) ∧ Fr (fun a q => a = 17 ∧ q = o) S S2 ∧ S2 17 o b = S 11 m 1 ∧ S2 17 o (b + 1) = S 11 m 2 ∧ (∀ p, p < 5 → S2 17 o (b + 2 + p) = S 12 m p ∧ S2 17 o (b + 7 + p) = S 13 m p) ∧ ∀ j, (j < b ∨ b + 12 ≤ j) → S2 17 o j = S 17 o j := by
  have fin := lopSK (i0 := 0) (N := 5) (z := fun _ _ => none) (b := bX3_saveTo_18 m o (nI b)) (x := 0) (S := wr (wr S 17 o b (S 11 m 1)) 17 o (b + 1) (S 11 m 2))
    (fun i S1 => Fr (fun a q => a = 17 ∧ q = o) S S1 ∧ S1 17 o b = S 11 m 1 ∧ S1 17 o (b + 1) = S 11 m 2 ∧ (∀ p, p < i → S1 17 o (b + 2 + p) = S 12 m p ∧ S1 17 o (b + 7 + p) = S 13 m p) ∧ ∀ j, (j < b ∨ b + 12 ≤ j) → S1 17 o j = S 17 o j) ?hs ?he (by decide) (by decide) rfl ⟨(Fr.rf.wr ⟨rfl, rfl⟩).wr ⟨rfl, rfl⟩, by rw [wr_i (by omega), wr_same], by rw [wr_same], fun p h => by omega, fun j hj => by rw [wr_i (by omega), wr_i (by omega)]⟩
  case hs =>
    intro i S1 _ hi ⟨h1, h2, h3, h4, h5⟩
    refine ⟨_, ⟨(h1.wr (a := 17) (o := o) (i := b + 2 + i) (v := S 12 m i) ⟨rfl, rfl⟩).wr (a := 17) (o := o) (i := b + 7 + i) (v := S 13 m i) ⟨rfl, rfl⟩, ?_, ?_, fun p hp => ?_, fun j hj => ?_⟩, fun kk ag => ?_⟩
    · rw [wr_i (by omega), wr_i (by omega)]; exact h2
    · rw [wr_i (by omega), wr_i (by omega)]; exact h3
    · rcases (show p < i ∨ p = i by omega) with q | rfl
      · rw [wr_i (by omega), wr_i (by omega), wr_i (by omega), wr_i (by omega)]; exact h4 p q
      · rw [wr_i (by omega), wr_same, wr_same]; exact ⟨rfl, rfl⟩
    · rw [wr_i (by omega), wr_i (by omega)]; exact h5 j hj
    · simp only [bX3_saveTo_18, bs]
      rw [if_neg (l5 hi), ck_nI hi (by omega), show (2 : Int32) = nI 2 from rfl, show (5 : Int32) = nI 5 from rfl, nI_add, nI_add, nI_add, nI_add, ck_nI (show b + 2 + i < 75 by omega) (by omega), ck_nI hi (by omega), show b + 2 + 5 + i = b + 7 + i by omega, ck_nI (show b + 7 + i < 75 by omega) (by omega), nI_clamp (show b + 2 + i < 2 ^ 31 by omega), nI_clamp (show b + 7 + i < 2 ^ 31 by omega), nI_clamp (show i < 2 ^ 31 by omega), nI_1, wr_other (a2 := 13) (by omega), h1 12 m (by omega), h1 13 m (by omega)]
  case he =>
    intro S1 h kk ag
    unfold bX3_saveTo_18
    rw [if_pos (show ((5 : Int32) ≤ nI 5) from by decide)]
  obtain ⟨S2, ⟨h1, h2, h3, h4, h5⟩, e⟩ := fin
  refine ⟨S2, ?_, h1, h2, h3, h4, h5⟩
  simp only [fX3_saveTo, bs, jn]
  rw [ck_nI (show b < 75 by omega) (by omega), nI_1, ck_nI (show b + 1 < 75 by omega) (by omega), nI_clamp (show b < 2 ^ 31 by omega), nI_clamp (show b + 1 < 2 ^ 31 by omega), wr_other (a2 := 11) (by omega), e]
theorem p_loadFrom {S : St} {m o b : Nat} (hb : b + 12 ≤ 75) : ∃ S2, fX3_loadFrom m o (nI b) S = some (0, S2) ∧ Fr (fun a q => (a = 11 ∨ a = 12 ∨ a = 13) ∧ q = m) S S2 ∧ S2 11 m 0 = S 11 m 0 ∧ S2 11 m 1 = S 17 o b ∧ S2 11 m 2 = S 17 o (b + 1) ∧ ∀ p, p < 5 → S2 12 m p = S 17 o (b + 2 + p) ∧ S2 13 m p = S 17 o (b + 7 + p) := by
  have fin := lopSK (i0 := 0) (N := 5) (z := fun _ _ => none) (b := bX3_loadFrom_18 m o (nI b)) (x := 0) (S := wr (wr S 11 m 1 (S 17 o b)) 11 m 2 (S 17 o (b + 1)))
    (fun i S1 => Fr (fun a q => (a = 11 ∨ a = 12 ∨ a = 13) ∧ q = m) S S1 ∧ S1 11 m 0 = S 11 m 0 ∧ S1 11 m 1 = S 17 o b ∧ S1 11 m 2 = S 17 o (b + 1) ∧ ∀ p, p < i → S1 12 m p = S 17 o (b + 2 + p) ∧ S1 13 m p = S 17 o (b + 7 + p)) ?hs ?he (by decide) (by decide) rfl ⟨(Fr.rf.wr ⟨Or.inl rfl, rfl⟩).wr ⟨Or.inl rfl, rfl⟩, by rw [wr_i (by omega), wr_i (by omega)], by rw [wr_i (by omega), wr_same], by rw [wr_same], fun p h => by omega⟩
  case hs =>
    intro i S1 _ hi ⟨h1, h2, h3, h3b, h4⟩
    refine ⟨_, ⟨(h1.wr (a := 12) (o := m) (i := i) (v := S 17 o (b + 2 + i)) ⟨Or.inr (Or.inl rfl), rfl⟩).wr (a := 13) (o := m) (i := i) (v := S 17 o (b + 7 + i)) ⟨Or.inr (Or.inr rfl), rfl⟩, ?_, ?_, ?_, fun p hp => ?_⟩, fun kk ag => ?_⟩
    · rw [wr_i (by omega), wr_i (by omega)]; exact h2
    · rw [wr_i (by omega), wr_i (by omega)]; exact h3
    · rw [wr_i (by omega), wr_i (by omega)]; exact h3b
    · rcases (show p < i ∨ p = i by omega) with q | rfl
      · rw [wr_i (by omega), wr_i (by omega), wr_i (by omega), wr_i (by omega)]; exact h4 p q
      · rw [wr_i (by omega), wr_same, wr_same]; exact ⟨rfl, rfl⟩
    · simp only [bX3_loadFrom_18, bs]
      rw [if_neg (l5 hi), show (2 : Int32) = nI 2 from rfl, show (5 : Int32) = nI 5 from rfl, nI_add, nI_add, nI_add, nI_add, ck_nI (show b + 2 + i < 75 by omega) (by omega), ck_nI hi (by omega), show b + 2 + 5 + i = b + 7 + i by omega, ck_nI (show b + 7 + i < 75 by omega) (by omega), ck_nI hi (by omega), nI_clamp (show b + 2 + i < 2 ^ 31 by omega), nI_clamp (show b + 7 + i < 2 ^ 31 by omega), nI_clamp (show i < 2 ^ 31 by omega), nI_1, wr_other (a2 := 17) (by omega), h1 17 o (by omega)]
  case he =>
    intro S1 h kk ag
    unfold bX3_loadFrom_18
    rw [if_pos (show ((5 : Int32) ≤ nI 5) from by decide)]
  obtain ⟨S2, ⟨h1, h2, h3, h4, h5⟩, e⟩ := fin
  refine ⟨S2, ?_, h1, h2, h3, h4, h5⟩
  simp only [fX3_loadFrom, bs, jn]
  rw [ck_nI (show b < 75 by omega) (by omega), nI_1, ck_nI (show b + 1 < 75 by omega) (by omega), nI_clamp (show b < 2 ^ 31 by omega), nI_clamp (show b + 1 < 2 ^ 31 by omega), wr_other (a2 := 17) (by omega), e]
theorem c_save {S : St} {k o : Nat} {π ν : Nat → Nat → Nat} (hC : CP S k π) (hN : CN S k (π 0 2) (π 1) ν) (hV : VP π) : ∃ S2, fX7_saveTo o S = some (0, S2) ∧ Fr (fun a q => a = 17 ∧ q = o) S S2 ∧ RW (S2 17 o) (π 0 2) ν := by
  obtain ⟨hk, hh, hm⟩ := hN
  have hM : π 0 2 ≤ 6 := hV.2.2.1
  have fin := lopSK (i0 := 0) (N := π 0 2) (z := fun _ _ => none) (b := bX7_saveTo_23 o) (x := 0) (S := wr (wr (wr S 17 o 0 (S 9 0 1)) 17 o 1 (S 9 0 2)) 17 o 2 (S 9 0 3))
    (fun i S1 => Fr (fun a q => a = 17 ∧ q = o) S S1 ∧ (∀ j, j < 3 → S1 17 o j = nI (ν 0 j)) ∧ ∀ m, m < i → ∀ j, j < 12 → S1 17 o (3 + 12 * m + j) = nI (ν (m + 1) j)) ?hs ?he (Nat.zero_le _) (by rw [FU_eq]; omega) rfl ⟨((Fr.rf.wr ⟨rfl, rfl⟩).wr ⟨rfl, rfl⟩).wr ⟨rfl, rfl⟩, fun j hj => ?h0, fun m h => by omega⟩
  case h0 =>
    rcases (show j = 0 ∨ j = 1 ∨ j = 2 by omega) with rfl | rfl | rfl
    · rw [wr_i (by omega), wr_i (by omega), wr_same]; exact hh 0 (by decide)
    · rw [wr_i (by omega), wr_same]; exact hh 1 (by decide)
    · rw [wr_same]; exact hh 2 (by decide)
  case hs =>
    intro i S1 _ hi ⟨h1, h2, h3⟩
    obtain ⟨g0, g1, g2, g3⟩ := hm i hi
    obtain ⟨S2, e, f1, f2, f3, f4, f5⟩ := p_saveTo (S := S1) (m := i) (o := o) (b := 3 + 12 * i) (by omega)
    refine ⟨S2, ⟨h1.tr f1, fun j hj => by rw [f5 j (by omega)]; exact h2 j hj, fun m hm2 j hj => ?_⟩, fun kk ag => ?_⟩
    · rcases (show m < i ∨ m = i by omega) with q | rfl
      · rw [f5 _ (by omega)]; exact h3 m q j hj
      · rw [h1 11 m (by omega)] at f2 f3
        rcases (show j = 0 ∨ j = 1 ∨ (2 ≤ j ∧ j < 7) ∨ (7 ≤ j ∧ j < 12) by omega) with rfl | rfl | hj2 | hj2
        · rw [Nat.add_zero, f2]; exact g1
        · rw [f3]; exact g2
        · obtain ⟨p, rfl⟩ : ∃ p, j = 2 + p := ⟨j - 2, by omega⟩
          rw [← Nat.add_assoc, (f4 p (by omega)).1, h1 12 m (by omega)]; exact (g3 p (by omega)).1
        · obtain ⟨p, rfl⟩ : ∃ p, j = 7 + p := ⟨j - 7, by omega⟩
          rw [← Nat.add_assoc, (f4 p (by omega)).2, h1 13 m (by omega)]; exact (g3 p (by omega)).2
    · unfold bX7_saveTo_23
      rw [h1 9 0 (by omega), hk, h1 3 k (by omega), hC.1 2 (by decide), if_neg (nI_ge hi (by omega)), ck_nI (show i < 6 by omega) (by omega), nI_clamp (by omega), show (12 : Int32) = nI 12 from rfl, show (3 : Int32) = nI 3 from rfl, pk_mul, nI_add, show 3 + i * 12 = 3 + 12 * i by omega, cal_of e, nI_1]
  case he =>
    intro S1 ⟨h1, h2, h3⟩ kk ag
    unfold bX7_saveTo_23
    rw [h1 9 0 (by omega), hk, h1 3 k (by omega), hC.1 2 (by decide), if_pos (nI_le (Nat.le_refl _) (by omega))]
  obtain ⟨S2, ⟨h1, h2, h3⟩, e⟩ := fin
  refine ⟨S2, ?_, h1, h2, h3⟩
  simp only [fX7_saveTo, bs, jn]
  rw [show (0 : Int32) = nI 0 from rfl, show (1 : Int32) = nI 1 from rfl, show (2 : Int32) = nI 2 from rfl, ck_nI (show 0 < 75 by decide) (by decide), ck_nI (show 1 < 75 by decide) (by decide), ck_nI (show 2 < 75 by decide) (by decide), nI_clamp (by decide), nI_clamp (by decide), nI_clamp (by decide), wr_other (a2 := 9) (by omega), wr_other (a2 := 9) (by omega), wr_other (a2 := 9) (by omega)]
  exact e _
theorem c_load {S : St} {k o : Nat} {π ν ν0 : Nat → Nat → Nat} (hC : CP S k π) (hN : CN S k (π 0 2) (π 1) ν0) (hV : VP π) (hR : RW (S 17 o) (π 0 2) ν) : ∃ S2, fX7_loadFrom o S = some (0, S2) ∧ Fr (fun a q => ((a = 11 ∨ a = 12 ∨ a = 13) ∧ q < 6) ∨ (a = 9 ∧ q = 0)) S S2 ∧ CN S2 k (π 0 2) (π 1) ν := by
  obtain ⟨hk, hh, hm⟩ := hN
  have hM : π 0 2 ≤ 6 := hV.2.2.1
  have fin := lopSK (i0 := 0) (N := π 0 2) (z := fun _ _ => none) (b := bX7_loadFrom_23 o) (x := 0) (S := wr (wr (wr S 9 0 1 (S 17 o 0)) 9 0 2 (S 17 o 1)) 9 0 3 (S 17 o 2))
    (fun i S1 => Fr (fun a q => ((a = 11 ∨ a = 12 ∨ a = 13) ∧ q < 6) ∨ (a = 9 ∧ q = 0)) S S1 ∧ S1 9 0 0 = S 9 0 0 ∧ (∀ j, j < 3 → S1 9 0 (1 + j) = nI (ν 0 j)) ∧ (∀ m, m < i → S1 11 m 0 = nI (π 1 m) ∧ S1 11 m 1 = nI (ν (m + 1) 0) ∧ S1 11 m 2 = nI (ν (m + 1) 1) ∧ ∀ p, p < 5 → S1 12 m p = nI (ν (m + 1) (2 + p)) ∧ S1 13 m p = nI (ν (m + 1) (7 + p))) ∧ ∀ m, i ≤ m → S1 11 m = S 11 m) ?hs ?he (Nat.zero_le _) (by rw [FU_eq]; omega) rfl ⟨((Fr.rf.wr (Or.inr ⟨rfl, rfl⟩)).wr (Or.inr ⟨rfl, rfl⟩)).wr (Or.inr ⟨rfl, rfl⟩), by rw [wr_i (by omega), wr_i (by omega), wr_i (by omega)], fun j hj => ?h0, fun m h => by omega, fun m _ => by rw [wr_other (by omega), wr_other (by omega), wr_other (by omega)]⟩
  case h0 =>
    rcases (show j = 0 ∨ j = 1 ∨ j = 2 by omega) with rfl | rfl | rfl
    · rw [wr_i (by omega), wr_i (by omega), wr_same]; exact hR.1 0 (by decide)
    · rw [wr_i (by omega), wr_same]; exact hR.1 1 (by decide)
    · rw [wr_same]; exact hR.1 2 (by decide)
  case hs =>
    intro i S1 _ hi ⟨h1, h0, h2, h3, h3b⟩
    obtain ⟨S2, e, f1, f2, f3, f4, f5⟩ := p_loadFrom (S := S1) (m := i) (o := o) (b := 3 + 12 * i) (by omega)
    rw [h1 17 o (by omega)] at f3 f4 f5
    have r := hR.2 i hi
    refine ⟨S2, ⟨fun a q h => (f1 a q (by omega)).trans (h1 a q h), by rw [f1 9 0 (by omega)]; exact h0, fun j hj => by rw [f1 9 0 (by omega)]; exact h2 j hj, fun m hm2 => ?_, fun m hm2 => by rw [f1 11 m (by omega)]; exact h3b m (by omega)⟩, fun kk ag => ?_⟩
    · rcases (show m < i ∨ m = i by omega) with q | rfl
      · rw [f1 11 m (by omega), f1 12 m (by omega), f1 13 m (by omega)]; exact h3 m q
      · refine ⟨by rw [f2, h3b m (Nat.le_refl _)]; exact (hm m hi).1, by rw [f3]; exact r 0 (by decide), by rw [f4]; exact r 1 (by decide), fun p hp => ⟨?_, ?_⟩⟩
        · rw [(f5 p hp).1, Nat.add_assoc]; exact r (2 + p) (by omega)
        · rw [(f5 p hp).2, Nat.add_assoc]; exact r (7 + p) (by omega)
    · unfold bX7_loadFrom_23
      rw [h0, hk, h1 3 k (by omega), hC.1 2 (by decide), if_neg (nI_ge hi (by omega)), ck_nI (show i < 6 by omega) (by omega), nI_clamp (by omega), show (12 : Int32) = nI 12 from rfl, show (3 : Int32) = nI 3 from rfl, pk_mul, nI_add, show 3 + i * 12 = 3 + 12 * i by omega, cal_of e, nI_1]
  case he =>
    intro S1 ⟨h1, h0, h2, h3, h3b⟩ kk ag
    unfold bX7_loadFrom_23
    rw [h0, hk, h1 3 k (by omega), hC.1 2 (by decide), if_pos (nI_le (Nat.le_refl _) (by omega))]
  obtain ⟨S2, ⟨h1, h0, h2, h3, h3b⟩, e⟩ := fin
  refine ⟨S2, ?_, h1, by rw [h0]; exact hk, h2, h3⟩
  simp only [fX7_loadFrom, bs, jn]
  rw [show (0 : Int32) = nI 0 from rfl, show (1 : Int32) = nI 1 from rfl, show (2 : Int32) = nI 2 from rfl, ck_nI (show 0 < 75 by decide) (by decide), ck_nI (show 1 < 75 by decide) (by decide), ck_nI (show 2 < 75 by decide) (by decide), nI_clamp (by decide), nI_clamp (by decide), nI_clamp (by decide), wr_other (a2 := 17) (by omega), wr_other (a2 := 17) (by omega), wr_other (a2 := 17) (by omega)]
  exact e _
