/-- as lopSV; the end goes on to any kk -/
theorem lopSK {i0 N : Nat} {z : Int32 → St → Op} {b : (St → Op) → (Int32 → St → Op) → Int32 → St → Op} (I : Nat → St → Prop) (hs : ∀ i S, i0 ≤ i → i < N → I i S → ∃ S2, I (i + 1) S2 ∧ ∀ kk ag, b kk ag (nI i) S = ag (nI (i + 1)) S2) (he : ∀ S, I N S → ∀ kk ag, b kk ag (nI N) S = kk S) (h1 : i0 ≤ N) (h2 : N - i0 < FU) {x : Int32} {S : St} (hx : x = nI i0) (hI : I i0 S) : ∃ S2, I N S2 ∧ ∀ kk, lop z (b kk) FU x S = kk S2 := by
  subst hx
  have key : ∀ n i S, i0 ≤ i → i ≤ N → N < n + i → I i S → ∃ S2, I N S2 ∧ ∀ kk, lop z (b kk) n (nI i) S = kk S2 := by
    intro n
    induction n with
    | zero => intro i S _ h4 h5; omega
    | succ n ih =>
      intro i S h3 h4 h5 h6
      show ∃ S2, I N S2 ∧ ∀ kk, b kk (lop z (b kk) n) (nI i) S = kk S2
      rcases Nat.lt_or_ge i N with h | h
      · obtain ⟨S1, g1, g2⟩ := hs i S h3 h h6
        obtain ⟨S2, g3, g4⟩ := ih (i + 1) S1 (by omega) (by omega) (by omega) g1
        exact ⟨S2, g3, fun kk => by rw [g2]; exact g4 kk⟩
      · have e : i = N := by omega
        subst e
        exact ⟨S, h6, fun kk => he S h6 kk _⟩
  exact key FU i0 S (Nat.le_refl _) h1 (by omega) hI
/-- a month passes -/
def pas (kd : Nat → Nat) (ν : Nat → Nat → Nat) : Nat → Nat → Nat := fun a j => if a = 0 then (if j = 0 then ν 0 0 + 1 else ν 0 j) else if ν a 0 = 1 ∧ 7 ≤ j then tanN (kd (a - 1)) (ν 0 1) (ν 0 0) (fun p => ν a (7 + p)) (j - 7) else ν a j
theorem pas_th {kd : Nat → Nat} {ν : Nat → Nat → Nat} {m p : Nat} : pas kd ν (m + 1) (7 + p) = if ν (m + 1) 0 = 1 then tanN (kd m) (ν 0 1) (ν 0 0) (fun p => ν (m + 1) (7 + p)) p else ν (m + 1) (7 + p) := by
  unfold pas
  rw [if_neg (by omega)]
  by_cases h : ν (m + 1) 0 = 1
  · rw [if_pos ⟨h, by omega⟩, if_pos h, Nat.add_sub_cancel, Nat.add_sub_cancel_left]
  · rw [if_neg (fun q => h q.1), if_neg h]
theorem pas_lo {kd : Nat → Nat} {ν : Nat → Nat → Nat} {m j : Nat} (h : j < 7) : pas kd ν (m + 1) j = ν (m + 1) j := by
  unfold pas
  rw [if_neg (by omega), if_neg (by omega)]
theorem pas_0 {kd : Nat → Nat} {ν : Nat → Nat → Nat} : pas kd ν 0 0 = ν 0 0 + 1 := rfl
theorem pas_0s {kd : Nat → Nat} {ν : Nat → Nat → Nat} {j : Nat} (h : j ≠ 0) : pas kd ν 0 j = ν 0 j := by
  unfold pas
  rw [if_pos rfl, if_neg h]
theorem c_passMonth {S : St} {k : Nat} {π ν : Nat → Nat → Nat} (hC : CP S k π) (hN : CN S k (π 0 2) (π 1) ν) (hV : VP π) (hW : VN (π 0 2) ν) : ∃ S2, fX7_passMonth S = some (0, S2) ∧ Fr (fun a o => (a = 13 ∧ o < 6) ∨ (a = 9 ∧ o = 0)) S S2 ∧ CN S2 k (π 0 2) (π 1) (pas (π 1) ν) := by
  obtain ⟨hk, hh, hm⟩ := hN
  have hM : π 0 2 ≤ 6 := hV.2.2.1
  have fin := lopSK (i0 := 0) (N := π 0 2) (z := fun _ _ => none) (b := bX7_passMonth_2) (x := 0) (S := S)
    (fun i S1 => Fr (fun a o => a = 13 ∧ o < 6) S S1 ∧ (∀ m, m < i → ∀ p, p < 5 → S1 13 m p = nI (pas (π 1) ν (m + 1) (7 + p))) ∧ ∀ m, i ≤ m → S1 13 m = S 13 m) ?hs ?he (Nat.zero_le _) (by rw [FU_eq]; omega) rfl ⟨Fr.rf, fun m h => by omega, fun m _ => rfl⟩
  case hs =>
    intro i S1 _ hi ⟨h1, h2, h3⟩
    obtain ⟨g0, g1, g2, g3⟩ := hm i hi
    have w3 := hW.2.2.2 i hi
    by_cases hin : ν (i + 1) 0 = 1
    · obtain ⟨S2, e, f1, f2⟩ := p_tan (S := S1) (o := i) (kd := π 1 i) (bk := ν 0 1) (mo := ν 0 0) (T := fun p => ν (i + 1) (7 + p)) (by rw [h1 11 i (by omega)]; exact g0) (hV.2.2.2.1 i hi).1 hW.2.1 (by have := hW.1; omega) (fun p hp => by rw [h3 i (Nat.le_refl _)]; exact (g3 p hp).2) (fun p hp => (w3.2.2 p hp).2)
      refine ⟨S2, ⟨fun a o h => (f1 a o (by omega)).trans (h1 a o h), fun m hm2 p hp => ?_, fun m hm2 => ?_⟩, fun kk ag => ?_⟩
      · rcases (show m < i ∨ m = i by omega) with q | rfl
        · rw [f1 13 m (by omega)]; exact h2 m q p hp
        · rw [f2 p hp, pas_th, if_pos hin]
      · rw [f1 13 m (by omega)]; exact h3 m (by omega)
      · unfold bX7_passMonth_2
        rw [h1 9 0 (by omega), hk, h1 3 k (by omega), hC.1 2 (by decide), if_neg (nI_ge hi (by omega)), ck_nI (show i < 6 by omega) (by omega), nI_clamp (by omega), h1 11 i (by omega), g1, hin, if_pos (show nI 1 = (1 : Int32) from rfl), ck_nI (show i < 6 by omega) (by omega), hh 1 (by decide), hh 0 (by decide), cal_of e, nI_1]
    · refine ⟨S1, ⟨h1, fun m hm2 p hp => ?_, fun m hm2 => h3 m (by omega)⟩, fun kk ag => ?_⟩
      · rcases (show m < i ∨ m = i by omega) with q | rfl
        · exact h2 m q p hp
        · rw [h3 m (Nat.le_refl _), (g3 p hp).2, pas_th, if_neg hin]
      · have h0 : ν (i + 1) 0 = 0 := by omega
        unfold bX7_passMonth_2
        rw [h1 9 0 (by omega), hk, h1 3 k (by omega), hC.1 2 (by decide), if_neg (nI_ge hi (by omega)), ck_nI (show i < 6 by omega) (by omega), nI_clamp (by omega), h1 11 i (by omega), g1, h0, if_neg (show ¬ nI 0 = (1 : Int32) by decide), nI_1]
  case he =>
    intro S1 ⟨h1, h2, h3⟩ kk ag
    unfold bX7_passMonth_2
    rw [h1 9 0 (by omega), hk, h1 3 k (by omega), hC.1 2 (by decide), if_pos (nI_le (Nat.le_refl _) (by omega))]
  obtain ⟨S2, ⟨h1, h2, h3⟩, e⟩ := fin
  refine ⟨wr S2 9 0 1 (nI (ν 0 0 + 1)), ?_, ?_, ?_⟩
  · simp only [fX7_passMonth, jn]
    rw [e]
    simp only [bs]
    rw [h1 9 0 (by omega), hh 0 (by decide), nI_1]
  · exact (h1.mono (fun a o h => Or.inl h)).wr (Or.inr ⟨rfl, rfl⟩)
  · refine ⟨by rw [wr_i (by omega), h1 9 0 (by omega)]; exact hk, fun i hi => ?_, fun m hm2 => ?_⟩
    · by_cases h0 : i = 0
      · subst h0; rw [wr_same]; rfl
      · rw [wr_i (by omega), h1 9 0 (by omega), hh i hi, pas_0s h0]
    · obtain ⟨g0, g1, g2, g3⟩ := hm m hm2
      rw [wr_i (by omega), wr_i (by omega), wr_i (by omega), h1 11 m (by omega), pas_lo (by decide), pas_lo (by decide)]
      refine ⟨g0, g1, g2, fun p hp => ?_⟩
      rw [wr_i (by omega), wr_i (by omega), h1 12 m (by omega), pas_lo (by omega)]
      exact ⟨(g3 p hp).1, h2 m hm2 p hp⟩
theorem m_has {a m : Nat} {S : St} (ha : a < 256) (hm : m < 8) : fX11_has (nI a) (nI m) S = some (if a.testBit m then 1 else 0, S) := by
  unfold fX11_has
  rw [bit_sh a ha m hm]
  by_cases h : a.testBit m = true
  · rw [if_pos h, if_pos rfl]
  · rw [if_neg h, if_neg (by decide)]
theorem m_copyThick {S : St} {m : Nat} {T : Nat → Nat} (hm : m < 6) (hT : ∀ p, p < 5 → S 52 0 p = nI (T p)) : ∃ S2, (∀ kk, lop (fun _ _ => none) (bX11_passes_52 (nI m) kk) FU (0 : Int32) S = kk S2) ∧ Fr (fun a _ => a = 40) S S2 ∧ (∀ p, p < 5 → S2 40 0 (34 + 5 * m + p) = nI (T p)) ∧ ∀ j, (j < 34 + 5 * m ∨ 39 + 5 * m ≤ j) → S2 40 0 j = S 40 0 j := by
  have fin := lopSK (i0 := 0) (N := 5) (z := fun _ _ => none) (b := bX11_passes_52 (nI m)) (x := 0) (S := S)
    (fun i S1 => Fr (fun a _ => a = 40) S S1 ∧ (∀ p, p < i → S1 40 0 (34 + 5 * m + p) = nI (T p)) ∧ ∀ j, (j < 34 + 5 * m ∨ 39 + 5 * m ≤ j) → S1 40 0 j = S 40 0 j) ?hs ?he (by decide) (by decide) rfl ⟨Fr.rf, fun p h => by omega, fun _ _ => rfl⟩
  case hs =>
    intro i S1 _ hi ⟨h1, h2, h3⟩
    refine ⟨_, ⟨h1.wr (a := 40) (o := 0) (i := 34 + 5 * m + i) (v := nI (T i)) rfl, fun p hp => ?_, fun j hj => ?_⟩, fun kk ag => ?_⟩
    · rcases (show p < i ∨ p = i by omega) with q | rfl
      · rw [wr_i (by omega)]; exact h2 p q
      · rw [wr_same]
    · rw [wr_i (by omega)]; exact h3 j hj
    · simp only [bX11_passes_52, bs]
      rw [if_neg (l5 hi), ck_nI hi (by omega), show (5 : Int32) = nI 5 from rfl, show (34 : Int32) = nI 34 from rfl, pk_mul, nI_add, nI_add, ck_nI (show 34 + 5 * m + i < 70 by omega) (by omega), nI_clamp (by omega), nI_clamp (by omega), h1 52 0 (by omega), hT i hi, nI_1]
  case he =>
    intro S1 h kk ag
    unfold bX11_passes_52
    rw [if_pos (show ((5 : Int32) ≤ nI 5) from by decide)]
  obtain ⟨S2, ⟨h1, h2, h3⟩, e⟩ := fin
  exact ⟨S2, e, h1, h2, h3⟩
theorem m_passes {S : St} {π ν : Nat → Nat → Nat} (hC : MP S π) (hN : MN (S 40 0) (π 0 2) ν) (hV : VP π) (hW : VN (π 0 2) ν) : ∃ S2, fX11_passes S = some (0, S2) ∧ Fr (fun a _ => a = 40 ∨ a = 51 ∨ a = 52) S S2 ∧ MN (S2 40 0) (π 0 2) (pas (π 1) ν) := by
  obtain ⟨n0, n1, n2, n3, hm⟩ := hN
  have hM : π 0 2 ≤ 6 := hV.2.2.1
  obtain ⟨c0, c1, c2, c3, ck0, -⟩ := hC
  have fin := lopSK (i0 := 0) (N := π 0 2) (z := fun _ _ => none) (b := bX11_passes_2) (x := 0) (S := S)
    (fun i S1 => Fr (fun a _ => a = 40 ∨ a = 51 ∨ a = 52) S S1 ∧ (∀ j, (j < 34 ∨ 64 ≤ j) → S1 40 0 j = S 40 0 j) ∧ (∀ m, m < i → ∀ p, p < 5 → S1 40 0 (34 + 5 * m + p) = nI (pas (π 1) ν (m + 1) (7 + p))) ∧ ∀ m, i ≤ m → ∀ p, p < 5 → S1 40 0 (34 + 5 * m + p) = S 40 0 (34 + 5 * m + p)) ?hs ?he (Nat.zero_le _) (by rw [FU_eq]; omega) rfl ⟨Fr.rf, fun _ _ => rfl, fun m h => by omega, fun m _ p _ => rfl⟩
  case hs =>
    intro i S1 _ hi ⟨h1, h4, h2, h3⟩
    obtain ⟨g0, g1⟩ := hm i hi
    have w3 := hW.2.2.2 i hi
    have hbit : (msk (fun m => decide (ν (m + 1) 0 = 1)) (π 0 2)).testBit i = decide (ν (i + 1) 0 = 1) := by rw [msk_bit]; simp [hi]
    have hmk := msk_le (fun m => decide (ν (m + 1) 0 = 1)) (show π 0 2 ≤ 8 by omega)
    by_cases hin : ν (i + 1) 0 = 1
    · obtain ⟨S2, e2, f1, f2⟩ := m_takesSkin (S := S1) (show i < 6 by omega)
      have hk2 : S2 36 0 i = nI (π 1 i) := by rw [f1 36 0 (by omega), h1 36 0 (by omega)]; exact (ck0 i hi).1
      have h401 : S2 40 0 1 = nI (ν 0 1) := by rw [f1 40 0 (by omega), h4 1 (by omega)]; exact n1
      have h400 : S2 40 0 0 = nI (ν 0 0) := by rw [f1 40 0 (by omega), h4 0 (by omega)]; exact n0
      obtain ⟨S3, e3, f3, f4⟩ := m_tans (S := S2) (kd := π 1 i) (bk := ν 0 1) (mo := ν 0 0) (T := fun p => ν (i + 1) (7 + p)) (hV.2.2.2.1 i hi).1 hW.2.1 (by have := hW.1; omega) (fun p hp => by rw [(f2 p hp).2, h3 i (Nat.le_refl _) p hp]; exact (g1 p hp).2) (fun p hp => (w3.2.2 p hp).2)
      obtain ⟨S4, e4, f5, f6, f7⟩ := m_copyThick (S := S3) (show i < 6 by omega) f4
      have hfr : Fr (fun a _ => a = 40 ∨ a = 51 ∨ a = 52) S1 S4 := fun a o h => (f5 a o (by omega)).trans ((f3 a o (by omega)).trans (f1 a o (by omega)))
      have h40 : ∀ j, (j < 34 + 5 * i ∨ 39 + 5 * i ≤ j) → S4 40 0 j = S1 40 0 j := fun j hj => by rw [f7 j hj, f3 40 0 (by omega), f1 40 0 (by omega)]
      refine ⟨S4, ⟨h1.tr hfr, fun j hj => by rw [h40 j (by omega)]; exact h4 j hj, fun m hm2 p hp => ?_, fun m hm2 p hp => by rw [h40 _ (by omega)]; exact h3 m (by omega) p hp⟩, fun kk ag => ?_⟩
      · rcases (show m < i ∨ m = i by omega) with q | rfl
        · rw [h40 _ (by omega)]; exact h2 m q p hp
        · rw [f6 p hp, pas_th, if_pos hin]
      · simp only [bX11_passes_2, jn]
        rw [h1 35 0 (by omega), c2, if_neg (nI_ge hi (by omega)), show (2 : Int32) = nI 2 from rfl, ck_nI (show 2 < 70 by decide) (by decide), nI_clamp (by decide), h4 2 (by omega), n2, cal_of (m_has hmk (by omega)), hbit, if_pos (show (decide (ν (i + 1) 0 = 1)) = true from decide_eq_true hin), if_neg (show ¬ (1 : Int32) = 0 by decide), cal_of e2, ck_nI (show i < 6 by omega) (by omega), show (1 : Int32) = nI 1 from rfl, ck_nI (show 1 < 70 by decide) (by decide), show (0 : Int32) = nI 0 from rfl, ck_nI (show 0 < 70 by decide) (by decide), nI_clamp (show i < 2 ^ 31 by omega), nI_clamp (show 1 < 2 ^ 31 by decide), nI_clamp (show 0 < 2 ^ 31 by decide), hk2, h401, h400, cal_of e3]
        rw [show nI 0 = (0 : Int32) from rfl, e4, nI_add]
    · refine ⟨S1, ⟨h1, h4, fun m hm2 p hp => ?_, fun m hm2 p hp => h3 m (by omega) p hp⟩, fun kk ag => ?_⟩
      · rcases (show m < i ∨ m = i by omega) with q | rfl
        · exact h2 m q p hp
        · rw [h3 m (Nat.le_refl _) p hp, (g1 p hp).2, pas_th, if_neg hin]
      · simp only [bX11_passes_2, jn]
        rw [h1 35 0 (by omega), c2, if_neg (nI_ge hi (by omega)), show (2 : Int32) = nI 2 from rfl, ck_nI (show 2 < 70 by decide) (by decide), nI_clamp (by decide), h4 2 (by omega), n2, cal_of (m_has hmk (by omega)), hbit, if_neg (show ¬ (decide (ν (i + 1) 0 = 1)) = true by simp [hin]), if_pos rfl, nI_1]
  case he =>
    intro S1 ⟨h1, h4, h2, h3⟩ kk ag
    simp only [bX11_passes_2]
    rw [h1 35 0 (by omega), c2, if_pos (nI_le (Nat.le_refl _) (by omega))]
  obtain ⟨S2, ⟨h1, h4, h2, h3⟩, e⟩ := fin
  refine ⟨wr S2 40 0 0 (nI (ν 0 0 + 1)), ?_, ?_, ?_⟩
  · simp only [fX11_passes, jn]
    rw [e]
    simp only [bs]
    rw [show (0 : Int32) = nI 0 from rfl, ck_nI (show 0 < 70 by decide) (by decide), ck_nI (show 0 < 70 by decide) (by decide), nI_clamp (by decide), h4 0 (by omega), n0, nI_1]
  · exact h1.wr (Or.inl rfl)
  · refine ⟨by rw [wr_same]; rfl, ?_, ?_, ?_, fun m hm2 => ⟨?_, fun p hp => ⟨?_, ?_⟩⟩⟩
    · rw [wr_i (by omega), h4 1 (by omega), n1, pas_0s (by decide)]
    · rw [wr_i (by omega), h4 2 (by omega), n2]
      exact congrArg nI (msk_cong _ (fun i _ => by rw [pas_lo (by decide)]))
    · rw [wr_i (by omega), h4 3 (by omega), n3, pas_0s (by decide)]
    · rw [wr_i (by omega), h4 _ (by omega), (hm m hm2).1, pas_lo (by decide)]
    · rw [wr_i (by omega), h4 _ (by omega), ((hm m hm2).2 p hp).1, pas_lo (by omega)]
    · rw [wr_i (by omega)]; exact h2 m hm2 p hp
theorem pas_vn {M : Nat} {kd : Nat → Nat} {ν : Nat → Nat → Nat} (h : VN M ν) (h0 : ν 0 0 < 9060) : VN M (pas kd ν) := by
  refine ⟨?_, ?_, ?_, fun m hm => ⟨?_, ?_, fun p hp => ⟨?_, ?_⟩⟩⟩
  · rw [pas_0]; omega
  · rw [pas_0s (by decide)]; exact h.2.1
  · rw [pas_0s (by decide)]; exact h.2.2.1
  · rw [pas_lo (by decide)]; exact (h.2.2.2 m hm).1
  · rw [pas_lo (by decide)]; exact (h.2.2.2 m hm).2.1
  · rw [pas_lo (by omega)]; exact ((h.2.2.2 m hm).2.2 p hp).1
  · rw [pas_th]
    have := ((h.2.2.2 m hm).2.2 p hp).2
    split
    · exact tanN_le this
    · exact this
