def psh (u : Nat) (us : Nat → Nat → Nat → Nat) (ν : Nat → Nat → Nat) : Nat → Nat → Nat → Nat := fun i => if u < 16 then (if i = u then ν else us i) else (if i = 15 then ν else us (i + 1))
/-- the states to be undone to: the class's ring, the reference's rows -/
def US (S : St) (M u nx : Nat) (us : Nat → Nat → Nat → Nat) : Prop := S 14 0 1 = nI nx ∧ nx < 16 ∧ S 14 0 2 = nI u ∧ u ≤ 16 ∧ ∀ i, i < u → RW (S 17 ((nx + 16 - u + i) % 16)) M (us i)
def MU (S : St) (M u : Nat) (us : Nat → Nat → Nat → Nat) : Prop := S 35 0 34 = nI u ∧ ∀ i, i < u → MN (fun j => S 54 0 (70 * i + j)) M (us i)
theorem l70 {i : Nat} (h : i < 70) : ¬ ((70 : Int32) ≤ nI i) := nI_ge h (by decide)
theorem e70 : ((70 : Int32) ≤ nI 70) := by decide
theorem m_rem52 {S : St} {u : Nat} (hu : u < 16) (h : S 35 0 34 = nI u) : ∃ S2, (∀ kk, lop (fun _ _ => none) (bX11_remember_52 kk) FU (0 : Int32) S = kk S2) ∧ Fr (fun a q => a = 54 ∧ q = 0) S S2 ∧ (∀ j, j < 70 → S2 54 0 (70 * u + j) = S 40 0 j) ∧ ∀ j, (j < 70 * u ∨ 70 * u + 70 ≤ j) → S2 54 0 j = S 54 0 j := by
  have fin := lopSK (i0 := 0) (N := 70) (z := fun _ _ => none) (b := bX11_remember_52) (x := 0) (S := S)
    (fun i S1 => Fr (fun a q => a = 54 ∧ q = 0) S S1 ∧ (∀ j, j < i → S1 54 0 (70 * u + j) = S 40 0 j) ∧ ∀ j, (j < 70 * u ∨ 70 * u + 70 ≤ j) → S1 54 0 j = S 54 0 j) ?hs ?he (by decide) (by decide) rfl ⟨Fr.rf, fun p h => by omega, fun _ _ => rfl⟩
  case hs =>
    intro i S1 _ hi ⟨h1, h2, h3⟩
    refine ⟨_, ⟨h1.wr (a := 54) (o := 0) (i := 70 * u + i) (v := S 40 0 i) ⟨rfl, rfl⟩, fun j hj => ?_, fun j hj => ?_⟩, fun kk ag => ?_⟩
    · rcases (show j < i ∨ j = i by omega) with q | rfl
      · rw [wr_i (by omega)]; exact h2 j q
      · rw [wr_same]
    · rw [wr_i (by omega)]; exact h3 j hj
    · simp only [bX11_remember_52, bs]
      rw [if_neg (l70 hi), ck_nI hi (by omega), h1 35 0 (by omega), h, show (70 : Int32) = nI 70 from rfl, pk_mul, nI_add, ck_nI (show 70 * u + i < 1120 by omega) (by omega), nI_clamp (by omega), nI_clamp (by omega), h1 40 0 (by omega), nI_1]
  case he =>
    intro S1 h kk ag
    unfold bX11_remember_52
    rw [if_pos e70]
  obtain ⟨S2, ⟨h1, h2, h3⟩, e⟩ := fin
  exact ⟨S2, e, h1, h2, h3⟩
theorem m_undo22 {S : St} {u : Nat} (hu : u < 16) (h : S 35 0 34 = nI u) : ∃ S2, (∀ kk, lop (fun _ _ => none) (bX11_undo_22 kk) FU (0 : Int32) S = kk S2) ∧ Fr (fun a q => a = 40 ∧ q = 0) S S2 ∧ ∀ j, j < 70 → S2 40 0 j = S 54 0 (70 * u + j) := by
  have fin := lopSK (i0 := 0) (N := 70) (z := fun _ _ => none) (b := bX11_undo_22) (x := 0) (S := S)
    (fun i S1 => Fr (fun a q => a = 40 ∧ q = 0) S S1 ∧ ∀ j, j < i → S1 40 0 j = S 54 0 (70 * u + j)) ?hs ?he (by decide) (by decide) rfl ⟨Fr.rf, fun p h => by omega⟩
  case hs =>
    intro i S1 _ hi ⟨h1, h2⟩
    refine ⟨_, ⟨h1.wr (a := 40) (o := 0) (i := i) (v := S 54 0 (70 * u + i)) ⟨rfl, rfl⟩, fun j hj => ?_⟩, fun kk ag => ?_⟩
    · rcases (show j < i ∨ j = i by omega) with q | rfl
      · rw [wr_i (by omega)]; exact h2 j q
      · rw [wr_same]
    · simp only [bX11_undo_22, bs]
      rw [if_neg (l70 hi), h1 35 0 (by omega), h, show (70 : Int32) = nI 70 from rfl, pk_mul, nI_add, ck_nI (show 70 * u + i < 1120 by omega) (by omega), ck_nI hi (by omega), nI_clamp (by omega), nI_clamp (by omega), h1 54 0 (by omega), nI_1]
  case he =>
    intro S1 h kk ag
    unfold bX11_undo_22
    rw [if_pos e70]
  obtain ⟨S2, ⟨h1, h2⟩, e⟩ := fin
  exact ⟨S2, e, h1, h2⟩
theorem m_keep15 {S : St} {a : Nat} (ha : a < 2) : ∃ S2, (∀ kk, lop (fun _ _ => none) (bX11_keep_15 (nI a) kk) FU (0 : Int32) S = kk S2) ∧ Fr (fun a q => a = 59 ∧ q = 0) S S2 ∧ (∀ j, j < 70 → S2 59 0 (71 * a + j) = S 40 0 j) ∧ ∀ j, (j < 71 * a ∨ 71 * a + 70 ≤ j) → S2 59 0 j = S 59 0 j := by
  have fin := lopSK (i0 := 0) (N := 70) (z := fun _ _ => none) (b := bX11_keep_15 (nI a)) (x := 0) (S := S)
    (fun i S1 => Fr (fun a q => a = 59 ∧ q = 0) S S1 ∧ (∀ j, j < i → S1 59 0 (71 * a + j) = S 40 0 j) ∧ ∀ j, (j < 71 * a ∨ 71 * a + 70 ≤ j) → S1 59 0 j = S 59 0 j) ?hs ?he (by decide) (by decide) rfl ⟨Fr.rf, fun p h => by omega, fun _ _ => rfl⟩
  case hs =>
    intro i S1 _ hi ⟨h1, h2, h3⟩
    refine ⟨_, ⟨h1.wr (a := 59) (o := 0) (i := 71 * a + i) (v := S 40 0 i) ⟨rfl, rfl⟩, fun j hj => ?_, fun j hj => ?_⟩, fun kk ag => ?_⟩
    · rcases (show j < i ∨ j = i by omega) with q | rfl
      · rw [wr_i (by omega)]; exact h2 j q
      · rw [wr_same]
    · rw [wr_i (by omega)]; exact h3 j hj
    · simp only [bX11_keep_15, bs]
      rw [if_neg (l70 hi), ck_nI hi (by omega), show (71 : Int32) = nI 71 from rfl, pk_mul, nI_add, ck_nI (show 71 * a + i < 142 by omega) (by omega), nI_clamp (by omega), nI_clamp (by omega), h1 40 0 (by omega), nI_1]
  case he =>
    intro S1 h kk ag
    unfold bX11_keep_15
    rw [if_pos e70]
  obtain ⟨S2, ⟨h1, h2, h3⟩, e⟩ := fin
  exact ⟨S2, e, h1, h2, h3⟩
theorem m_back27 {S : St} {a : Nat} (ha : a < 2) : ∃ S2, (∀ kk, lop (fun _ _ => none) (bX11_goBack_27 (nI a) kk) FU (0 : Int32) S = kk S2) ∧ Fr (fun a q => a = 40 ∧ q = 0) S S2 ∧ ∀ j, j < 70 → S2 40 0 j = S 59 0 (71 * a + j) := by
  have fin := lopSK (i0 := 0) (N := 70) (z := fun _ _ => none) (b := bX11_goBack_27 (nI a)) (x := 0) (S := S)
    (fun i S1 => Fr (fun a q => a = 40 ∧ q = 0) S S1 ∧ ∀ j, j < i → S1 40 0 j = S 59 0 (71 * a + j)) ?hs ?he (by decide) (by decide) rfl ⟨Fr.rf, fun p h => by omega⟩
  case hs =>
    intro i S1 _ hi ⟨h1, h2⟩
    refine ⟨_, ⟨h1.wr (a := 40) (o := 0) (i := i) (v := S 59 0 (71 * a + i)) ⟨rfl, rfl⟩, fun j hj => ?_⟩, fun kk ag => ?_⟩
    · rcases (show j < i ∨ j = i by omega) with q | rfl
      · rw [wr_i (by omega)]; exact h2 j q
      · rw [wr_same]
    · simp only [bX11_goBack_27, bs]
      rw [if_neg (l70 hi), show (71 : Int32) = nI 71 from rfl, pk_mul, nI_add, ck_nI (show 71 * a + i < 142 by omega) (by omega), ck_nI hi (by omega), nI_clamp (by omega), nI_clamp (by omega), h1 59 0 (by omega), nI_1]
  case he =>
    intro S1 h kk ag
    unfold bX11_goBack_27
    rw [if_pos e70]
  obtain ⟨S2, ⟨h1, h2⟩, e⟩ := fin
  exact ⟨S2, e, h1, h2⟩
theorem m_rem12 {S : St} : ∃ S2, (∀ kk, lop (fun _ _ => none) (bX11_remember_12 kk) FU (70 : Int32) S = kk S2) ∧ Fr (fun a q => a = 54 ∧ q = 0) S S2 ∧ ∀ j, j < 1050 → S2 54 0 j = S 54 0 (j + 70) := by
  have fin := lopSK (i0 := 70) (N := 1120) (z := fun _ _ => none) (b := bX11_remember_12) (x := 70) (S := S)
    (fun i S1 => Fr (fun a q => a = 54 ∧ q = 0) S S1 ∧ (∀ j, j + 70 < i → S1 54 0 j = S 54 0 (j + 70)) ∧ ∀ j, i ≤ j + 70 → S1 54 0 j = S 54 0 j) ?hs ?he (by decide) (by decide) rfl ⟨Fr.rf, fun p h => by omega, fun _ _ => rfl⟩
  case hs =>
    intro i S1 h0 hi ⟨h1, h2, h3⟩
    refine ⟨_, ⟨h1.wr (a := 54) (o := 0) (i := i - 70) (v := S 54 0 i) ⟨rfl, rfl⟩, fun j hj => ?_, fun j hj => ?_⟩, fun kk ag => ?_⟩
    · rcases (show j + 70 < i ∨ j = i - 70 by omega) with q | rfl
      · rw [wr_i (by omega)]; exact h2 j q
      · rw [wr_same, Nat.sub_add_cancel h0]
    · rw [wr_i (by omega)]; exact h3 j (by omega)
    · simp only [bX11_remember_12, bs]
      rw [if_neg (show ¬ ((1120 : Int32) ≤ nI i) from nI_ge hi (by decide)), ck_nI hi (by omega), show (70 : Int32) = nI 70 from rfl, pk_sub h0, ck_nI (show i - 70 < 1120 by omega) (by omega), nI_clamp (by omega), nI_clamp (by omega), h3 i (by omega), nI_1]
  case he =>
    intro S1 h kk ag
    unfold bX11_remember_12
    rw [if_pos (show ((1120 : Int32) ≤ nI 1120) by decide)]
  obtain ⟨S2, ⟨h1, h2, h3⟩, e⟩ := fin
  exact ⟨S2, e, h1, fun j hj => h2 j (by omega)⟩
theorem MN.cong {g g2 : Nat → Int32} {M : Nat} {ν : Nat → Nat → Nat} (hM : M ≤ 6) (h : MN g M ν) (e : ∀ j, j < 70 → g2 j = g j) : MN g2 M ν := by
  obtain ⟨a, b, c, d, f⟩ := h
  refine ⟨by rw [e 0 (by decide)]; exact a, by rw [e 1 (by decide)]; exact b, by rw [e 2 (by decide)]; exact c, by rw [e 3 (by decide)]; exact d, fun m hm => ⟨by rw [e _ (by omega)]; exact (f m hm).1, fun p hp => ⟨by rw [e _ (by omega)]; exact ((f m hm).2 p hp).1, by rw [e _ (by omega)]; exact ((f m hm).2 p hp).2⟩⟩⟩
theorem jn_e {α : Type} (r : α) (f : α → Op) : jn r f = f r := congrArg id (Eq.refl (f r))
theorem bs_e (v : St) (f : St → Op) : bs v f = f v := congrArg id (Eq.refl (f v))
theorem bi_e (v : Int32) (f : Int32 → Op) : bi v f = f v := congrArg id (Eq.refl (f v))
theorem t_1 {S : St} (hc : ¬ S 35 0 34 = (16 : Int32)) : fX11_remember S = lop (fun _ _ => none) (bX11_remember_52 (fun S_84 => bs (wr S_84 35 0 34 (S_84 35 0 34 + 1)) fun S_91 => some (0, S_91))) FU 0 S := by
  unfold fX11_remember
  exact if_neg hc
theorem m_rem_a {S : St} {M : Nat} {ν : Nat → Nat → Nat} {us : Nat → Nat → Nat → Nat} (hM : M ≤ 6) (hU : MU S M 16 us) (hN : MN (S 40 0) M ν) : ∃ S2, fX11_remember S = some (0, S2) ∧ Fr (fun a q => (a = 54 ∧ q = 0) ∨ (a = 35 ∧ q = 0)) S S2 ∧ (∀ i, i ≠ 34 → S2 35 0 i = S 35 0 i) ∧ MU S2 M 16 (psh 16 us ν) := by
  obtain ⟨h34, hU⟩ := hU
  obtain ⟨S1, e1, f1, f2⟩ := m_rem12 (S := S)
  obtain ⟨S2, e2, f3, f4, f5⟩ := m_rem52 (S := wr S1 35 0 34 (nI 15)) (u := 15) (by decide) (by rw [wr_same])
  have hsub : nI 16 - (1 : Int32) = nI 15 := pk_sub (show 1 ≤ 16 by decide)
  refine ⟨wr S2 35 0 34 (nI 16), ?_, ?_, fun i hi => ?_, ?_, fun i hi => ?_⟩
  · have hc : S 35 0 34 = (16 : Int32) := h34
    unfold fX11_remember
    rw [jn_e]
    try dsimp only
    rw [if_pos hc, jn_e]
    try dsimp only
    rw [e1, bs_e, jn_e]
    try dsimp only
    rw [f1 35 0 (by omega), h34, hsub, e2, bs_e, f3 35 0 (by omega), wr_same, nI_1]
  · intro a q h
    rw [wr_other (by omega), f3 a q (by omega), wr_other (by omega), f1 a q (by omega)]
  · rw [wr_i (by omega), f3 35 0 (by omega), wr_i (by omega), f1 35 0 (by omega)]
  · rw [wr_same]
  · unfold psh
    rw [if_neg (by decide)]
    by_cases h15 : i = 15
    · rw [if_pos h15]
      refine hN.cong hM (fun j hj => ?_)
      show wr S2 35 0 34 (nI 16) 54 0 (70 * i + j) = _
      rw [h15, wr_i (by omega), f4 j hj, wr_other (by omega), f1 40 0 (by omega)]
    · rw [if_neg h15]
      refine (hU (i + 1) (by omega)).cong hM (fun j hj => ?_)
      show wr S2 35 0 34 (nI 16) 54 0 (70 * i + j) = S 54 0 (70 * (i + 1) + j)
      rw [wr_i (by omega), f5 _ (by omega), wr_i (by omega), f2 _ (by omega), show 70 * i + j + 70 = 70 * (i + 1) + j by omega]
theorem m_rem_b {S : St} {M u : Nat} {ν : Nat → Nat → Nat} {us : Nat → Nat → Nat → Nat} (hM : M ≤ 6) (hu : u < 16) (hU : MU S M u us) (hN : MN (S 40 0) M ν) : ∃ S2, fX11_remember S = some (0, S2) ∧ Fr (fun a q => (a = 54 ∧ q = 0) ∨ (a = 35 ∧ q = 0)) S S2 ∧ (∀ i, i ≠ 34 → S2 35 0 i = S 35 0 i) ∧ MU S2 M (u + 1) (psh u us ν) := by
  obtain ⟨h34, hU⟩ := hU
  obtain ⟨S2, e2, f3, f4, f5⟩ := m_rem52 (S := S) (u := u) hu h34
  refine ⟨wr S2 35 0 34 (nI (u + 1)), ?_, ?_, fun i hi => ?_, ?_, fun i hi => ?_⟩
  · have hc : ¬ S 35 0 34 = (16 : Int32) := by rw [h34]; exact fun q => by have := nI_inj (b := 16) (by omega) (by decide) q; omega
    rw [t_1 hc, e2, bs_e, f3 35 0 (by omega), h34, nI_1]
  · intro a q h
    rw [wr_other (by omega), f3 a q (by omega)]
  · rw [wr_i (by omega), f3 35 0 (by omega)]
  · rw [wr_same]
  · unfold psh
    rw [if_pos hu]
    by_cases h15 : i = u
    · rw [if_pos h15]
      refine hN.cong hM (fun j hj => ?_)
      show wr S2 35 0 34 (nI (u + 1)) 54 0 (70 * i + j) = _
      rw [h15, wr_i (by omega), f4 j hj]
    · rw [if_neg h15]
      refine (hU i (by omega)).cong hM (fun j hj => ?_)
      show wr S2 35 0 34 (nI (u + 1)) 54 0 (70 * i + j) = S 54 0 (70 * i + j)
      rw [wr_i (by omega), f5 _ (by omega)]
theorem m_remember {S : St} {M u : Nat} {ν : Nat → Nat → Nat} {us : Nat → Nat → Nat → Nat} (hM : M ≤ 6) (hu : u ≤ 16) (hU : MU S M u us) (hN : MN (S 40 0) M ν) : ∃ S2, fX11_remember S = some (0, S2) ∧ Fr (fun a q => (a = 54 ∧ q = 0) ∨ (a = 35 ∧ q = 0)) S S2 ∧ (∀ i, i ≠ 34 → S2 35 0 i = S 35 0 i) ∧ MU S2 M (min 16 (u + 1)) (psh u us ν) := by
  rcases (show u = 16 ∨ u < 16 by omega) with h | h
  · subst h
    rw [show min 16 (16 + 1) = 16 from rfl]
    exact m_rem_a hM hU hN
  · rw [Nat.min_eq_right (show u + 1 ≤ 16 by omega)]
    exact m_rem_b hM h hU hN
theorem c_push {S : St} {k u nx : Nat} {π ν : Nat → Nat → Nat} {us : Nat → Nat → Nat → Nat} (hC : CP S k π) (hN : CN S k (π 0 2) (π 1) ν) (hV : VP π) (hU : US S (π 0 2) u nx us) : ∃ S2 nx2, fX4_push S = some (0, S2) ∧ Fr (fun a q => (a = 17 ∧ q < 16) ∨ (a = 14 ∧ q = 0)) S S2 ∧ S2 14 0 5 = S 14 0 5 ∧ US S2 (π 0 2) (min 16 (u + 1)) nx2 (psh u us ν) := by
  obtain ⟨h1, h2, h3, h4, h5⟩ := hU
  obtain ⟨S1, e1, f1, f2⟩ := c_save (o := nx) hC hN hV
  refine ⟨wr (wr S1 14 0 1 (nI ((nx + 1) % 16))) 14 0 2 (nI (min 16 (u + 1))), (nx + 1) % 16, ?_, ?_, ?_, ?_⟩
  · simp only [fX4_push, bs]
    rw [h1, ck_nI h2 (by omega), nI_clamp (by omega), cal_of e1, f1 14 0 (by omega), h1, nI_1, show (16 : Int32) = nI 16 from rfl, irm_nI (by omega) (by decide) (by decide), wr_i (by omega), f1 14 0 (by omega), h3, nI_1, imin_nI (by decide) (by omega)]
  · intro a q h
    rw [wr_other (by omega), wr_other (by omega), f1 a q (by omega)]
  · rw [wr_i (by omega), wr_i (by omega), f1 14 0 (by omega)]
  · refine ⟨by rw [wr_i (by omega), wr_same], Nat.mod_lt _ (by decide), by rw [wr_same], by omega, fun i hi => ?_⟩
    rw [wr_other (by omega), wr_other (by omega)]
    unfold psh
    by_cases h16 : u < 16
    · rw [if_pos h16]
      have hr : ((nx + 1) % 16 + 16 - min 16 (u + 1) + i) % 16 = (nx + 16 - u + i) % 16 := by omega
      rw [hr]
      by_cases hiu : i = u
      · subst hiu
        rw [if_pos rfl, show (nx + 16 - i + i) % 16 = nx by omega]
        exact f2
      · rw [if_neg hiu, f1 17 _ (by omega)]
        exact h5 i (by omega)
    · have h16b : u = 16 := by omega
      subst h16b
      rw [if_neg (by decide)]
      by_cases hi15 : i = 15
      · subst hi15
        rw [if_pos rfl, show ((nx + 1) % 16 + 16 - min 16 (16 + 1) + 15) % 16 = nx by omega]
        exact f2
      · rw [if_neg hi15, show ((nx + 1) % 16 + 16 - min 16 (16 + 1) + i) % 16 = (nx + 16 - 16 + (i + 1)) % 16 by omega, f1 17 _ (by omega)]
        exact h5 (i + 1) (by omega)
theorem c_pop {S : St} {k u nx : Nat} {π ν : Nat → Nat → Nat} {us : Nat → Nat → Nat → Nat} (hC : CP S k π) (hN : CN S k (π 0 2) (π 1) ν) (hV : VP π) (hU : US S (π 0 2) u nx us) (hu : 0 < u) : ∃ S2 nx2, fX4_pop S = some (0, S2) ∧ Fr (fun a q => ((a = 11 ∨ a = 12 ∨ a = 13) ∧ q < 6) ∨ (a = 9 ∧ q = 0) ∨ (a = 14 ∧ q = 0)) S S2 ∧ S2 14 0 5 = S 14 0 5 ∧ US S2 (π 0 2) (u - 1) nx2 us ∧ CN S2 k (π 0 2) (π 1) (us (u - 1)) := by
  obtain ⟨h1, h2, h3, h4, h5⟩ := hU
  have hr : (nx + 15) % 16 = (nx + 16 - u + (u - 1)) % 16 := by omega
  have key : ∀ S1 : St, S1 = wr (wr S 14 0 1 (nI ((nx + 15) % 16))) 14 0 2 (nI (u - 1)) → CP S1 k π ∧ CN S1 k (π 0 2) (π 1) ν ∧ RW (S1 17 ((nx + 15) % 16)) (π 0 2) (us (u - 1)) := by
    intro S1 e
    have f : Fr (fun a q => a = 14 ∧ q = 0) S S1 := by rw [e]; exact (Fr.rf.wr ⟨rfl, rfl⟩).wr ⟨rfl, rfl⟩
    refine ⟨?_, ?_, ?_⟩
    · refine ⟨fun i hi => by rw [f 3 k (by omega)]; exact hC.1 i hi, fun m hm => ⟨by rw [f 4 k (by omega)]; exact (hC.2.1 m hm).1, fun p hp => by rw [f 6 _ (by omega)]; exact (hC.2.1 m hm).2 p hp⟩, fun s hs => by rw [f 7 k (by omega), f 8 k (by omega)]; exact hC.2.2 s hs⟩
    · refine ⟨by rw [f 9 0 (by omega)]; exact hN.1, fun i hi => by rw [f 9 0 (by omega)]; exact hN.2.1 i hi, fun m hm => by rw [f 11 m (by omega), f 12 m (by omega), f 13 m (by omega)]; exact hN.2.2 m hm⟩
    · rw [f 17 _ (by omega), hr]; exact h5 (u - 1) (by omega)
  obtain ⟨g1, g2, g3⟩ := key _ rfl
  obtain ⟨S2, e2, f1, f2⟩ := c_load g1 g2 hV g3
  refine ⟨S2, (nx + 15) % 16, ?_, ?_, ?_, ?_, f2⟩
  · simp only [fX4_pop, bs]
    rw [h1, show (16 : Int32) = nI 16 from rfl, nI_add, show (1 : Int32) = nI 1 from rfl, pk_sub (by omega), irm_nI (by omega) (by decide) (by decide), show nx + 16 - 1 = nx + 15 by omega, wr_i (a2 := 14) (o2 := 0) (i2 := 2) (by omega), h3, pk_sub (by omega), wr_i (a2 := 14) (o2 := 0) (i2 := 1) (by omega), wr_same, ck_nI (Nat.mod_lt _ (by decide)) (by omega), nI_clamp (by omega), cal_of e2]
  · intro a q h
    rw [f1 a q (by omega), wr_other (by omega), wr_other (by omega)]
  · rw [f1 14 0 (by omega), wr_i (by omega), wr_i (by omega)]
  · refine ⟨by rw [f1 14 0 (by omega), wr_i (by omega), wr_same], Nat.mod_lt _ (by decide), by rw [f1 14 0 (by omega), wr_same], by omega, fun i hi => ?_⟩
    rw [f1 17 _ (by omega), wr_other (by omega), wr_other (by omega), show ((nx + 15) % 16 + 16 - (u - 1) + i) % 16 = (nx + 16 - u + i) % 16 by omega]
    exact h5 i (by omega)
