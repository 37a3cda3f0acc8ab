/-! the new plan is laid: nobody in a pit, skins as told -/
def nu0 (π : Nat → Nat → Nat) : Nat → Nat → Nat := fun b j => if b = 0 then (if j = 1 then π 0 1 else 0) else if 2 ≤ j ∧ j < 7 then π (3 + b) (j - 2) else 0
theorem nu0_00 (π : Nat → Nat → Nat) : nu0 π 0 0 = 0 := rfl
theorem nu0_01 (π : Nat → Nat → Nat) : nu0 π 0 1 = π 0 1 := rfl
theorem nu0_02 (π : Nat → Nat → Nat) : nu0 π 0 2 = 0 := rfl
theorem nu0_m (π : Nat → Nat → Nat) {m j : Nat} (h : j < 2 ∨ 7 ≤ j) : nu0 π (m + 1) j = 0 := by
  unfold nu0
  rw [if_neg (by omega), if_neg (by omega)]
theorem nu0_p (π : Nat → Nat → Nat) {m p : Nat} (h : p < 5) : nu0 π (m + 1) (2 + p) = π (4 + m) p := by
  unfold nu0
  rw [if_neg (by omega), if_pos (by omega), show 3 + (m + 1) = 4 + m by omega, show 2 + p - 2 = p by omega]
theorem cin_nu0 (π : Nat → Nat → Nat) : ∀ n, cin (nu0 π) n = 0
  | 0 => rfl
  | n + 1 => by
    unfold cin
    rw [cin_nu0 π n, nu0_m π (by omega)]
theorem msk_0 {f : Nat → Bool} : ∀ n, (∀ i, i < n → f i = false) → msk f n = 0
  | 0, _ => rfl
  | n + 1, h => by
    unfold msk
    rw [msk_0 n (fun i hi => h i (by omega)), h n (by omega)]
    rfl
theorem VQ_nu0 {π : Nat → Nat → Nat} (hV : VP π) : VQ π (nu0 π) := by
  refine ⟨⟨by rw [nu0_00]; omega, by rw [nu0_01]; exact hV.2.1, by rw [nu0_02]; omega, fun m hm => ⟨by rw [nu0_m π (by omega)]; omega, by rw [nu0_m π (by omega)]; omega, fun p hp => ⟨?_, ?_⟩⟩⟩, by rw [cin_nu0]; exact Nat.zero_le _⟩
  · rw [nu0_p π hp]; exact (hV.2.2.2.1 m hm).2 p hp
  · rw [nu0_m π (by omega)]; omega
def cBg (a q : Nat) : Prop := (a = 9 ∧ q = 0) ∨ ((a = 11 ∨ a = 12 ∨ a = 13) ∧ q < 6)
theorem c_beginAll {S : St} {k : Nat} {π : Nat → Nat → Nat} (hk : k < 2) (hC : CP S k π) (hV : VP π) : ∃ S1, fX7_begin k S = some (0, S1) ∧ Fr cBg S S1 ∧ CN S1 k (π 0 2) (π 1) (nu0 π) := by
  have w2 := hV.2.2.1
  have h31 : S 3 k 1 = nI (π 0 1) := hC.1 1 (by decide)
  generalize hA : wr (wr (wr (wr S 9 0 0 (uid k)) 9 0 1 0) 9 0 2 (nI (π 0 1))) 9 0 3 0 = A
  have fA : Fr cBg S A := by
    rw [← hA]
    exact (((Fr.rf.wr (Or.inl ⟨rfl, rfl⟩)).wr (Or.inl ⟨rfl, rfl⟩)).wr (Or.inl ⟨rfl, rfl⟩)).wr (Or.inl ⟨rfl, rfl⟩)
  have fin := lopSK (i0 := 0) (N := π 0 2) (z := fun _ _ => none) (b := bX7_begin_25 k) (x := 0) (S := A)
    (fun i S1 => Fr cBg S S1 ∧ S1 9 0 = A 9 0 ∧ ∀ m, m < i → S1 11 m 0 = nI (π 1 m) ∧ S1 11 m 1 = 0 ∧ S1 11 m 2 = 0 ∧ ∀ p, p < 5 → S1 12 m p = nI (π (4 + m) p) ∧ S1 13 m p = 0) ?hs ?he (Nat.zero_le _) (by rw [FU_eq]; omega) rfl ⟨fA, rfl, fun m h => by omega⟩
  case hs =>
    intro i S1 _ hi ⟨h1, h2, h3⟩
    obtain ⟨S2, e2, f2, b1, b2, b3, b4⟩ := c_begin (S := S1) (o := i) (k := k) (m := i) (by omega)
    refine ⟨S2, ⟨h1.tr (f2.mono (fun a q z => by unfold cBg; omega)), by rw [f2 9 0 (by omega)]; exact h2, fun m hm => ?_⟩, fun kk ag => ?_⟩
    · rcases (show m < i ∨ m = i by omega) with q | q
      · rw [f2 11 m (by omega), f2 12 m (by omega), f2 13 m (by omega)]; exact h3 m q
      · subst q
        refine ⟨by rw [b1, h1 4 k (by unfold cBg; omega)]; exact (hC.2.1 m hi).1, b2, b3, fun p hp => ⟨?_, (b4 p hp).2⟩⟩
        rw [(b4 p hp).1, h1 6 _ (by unfold cBg; omega)]; exact (hC.2.1 m hi).2 p hp
    · unfold bX7_begin_25
      rw [h1 3 k (by unfold cBg; omega), hC.1 2 (by decide), if_neg (nI_ge hi (by omega)), ck_nI (show i < 6 by omega) (by omega), nI_clamp (by omega), cal_of e2, nI_1]
  case he =>
    intro S1 ⟨h1, h2, h3⟩ kk ag
    unfold bX7_begin_25
    rw [h1 3 k (by unfold cBg; omega), hC.1 2 (by decide), if_pos (nI_le (Nat.le_refl _) (by omega))]
  obtain ⟨S2, ⟨h1, h2, h3⟩, e⟩ := fin
  refine ⟨S2, ?_, h1, ?_, fun i hi => ?_, fun m hm => ?_⟩
  · unfold fX7_begin
    rw [bs_e, bs_e, bs_e, bs_e, jn_e, wr_i (by omega), wr_i (by omega), h31, hA, e]
  · rw [h2, ← hA, wr_i (by omega), wr_i (by omega), wr_i (by omega), wr_same]; exact pid_uid hk
  · rw [h2, ← hA]
    rcases (show i = 0 ∨ i = 1 ∨ i = 2 by omega) with q | q | q
    · subst q; rw [wr_i (by omega), wr_i (by omega), wr_same]; rfl
    · subst q; rw [wr_i (by omega), wr_same]; rfl
    · subst q; rw [wr_same]; rfl
  · obtain ⟨u1, u2, u3, u4⟩ := h3 m hm
    refine ⟨u1, by rw [u2, nu0_m π (by omega)]; rfl, by rw [u3, nu0_m π (by omega)]; rfl, fun p hp => ⟨?_, ?_⟩⟩
    · rw [(u4 p hp).1, nu0_p π hp]
    · rw [(u4 p hp).2, nu0_m π (by omega)]; rfl
def cT (a q : Nat) : Prop := q = 0 ∧ 35 ≤ a ∧ a ≤ 40
def xT (x : Nat) : Prop := x ≤ 5
theorem t_zero {A : St} : ∃ S1, (∀ kk, lop (fun _ _ => none) (bX11_takeRead_34 kk) FU (0 : Int32) A = kk S1) ∧ Fr (fun a o => a = 40 ∧ o = 0) A S1 ∧ ∀ x, x < 70 → S1 40 0 x = 0 := by
  have fin := lopSK (i0 := 0) (N := 70) (z := fun _ _ => none) (b := bX11_takeRead_34) (x := 0) (S := A)
    (fun i S1 => Fr (fun a o => a = 40 ∧ o = 0) A S1 ∧ ∀ x, x < i → S1 40 0 x = 0) ?hs ?he (Nat.zero_le _) (by decide) rfl ⟨Fr.rf, fun m h => by omega⟩
  case hs =>
    intro i S1 _ hi ⟨h1, h2⟩
    refine ⟨wr S1 40 0 i 0, ⟨h1.wr ⟨rfl, rfl⟩, fun x hx => ?_⟩, fun kk ag => ?_⟩
    · rcases (show x < i ∨ x = i by omega) with q | q
      · rw [wr_i (by omega)]; exact h2 x q
      · subst q; exact wr_same _ _ _ _ _
    · unfold bX11_takeRead_34
      rw [if_neg (show ¬ (70 : Int32) ≤ nI i from nI_ge (b := 70) hi (by decide)), ck_nI hi (by omega), bs_e, nI_clamp (by omega), nI_1]
  case he =>
    intro S1 h kk ag
    unfold bX11_takeRead_34
    rw [if_pos (show (70 : Int32) ≤ nI 70 by decide)]
  obtain ⟨S2, ⟨h1, h2⟩, e⟩ := fin
  exact ⟨S2, e, h1, h2⟩
theorem t_kind {A : St} : ∃ S1, (∀ kk, lop (fun _ _ => none) (bX11_takeRead_65 kk) FU (0 : Int32) A = kk S1) ∧ Fr (fun a o => a = 36 ∧ o = 0) A S1 ∧ ∀ x, x < 6 → S1 36 0 x = A 47 0 x := by
  have fin := lopSK (i0 := 0) (N := 6) (z := fun _ _ => none) (b := bX11_takeRead_65) (x := 0) (S := A)
    (fun i S1 => Fr (fun a o => a = 36 ∧ o = 0) A S1 ∧ ∀ x, x < i → S1 36 0 x = A 47 0 x) ?hs ?he (Nat.zero_le _) (by decide) rfl ⟨Fr.rf, fun m h => by omega⟩
  case hs =>
    intro i S1 _ hi ⟨h1, h2⟩
    refine ⟨wr S1 36 0 i (A 47 0 i), ⟨h1.wr ⟨rfl, rfl⟩, fun x hx => ?_⟩, fun kk ag => ?_⟩
    · rcases (show x < i ∨ x = i by omega) with q | q
      · rw [wr_i (by omega)]; exact h2 x q
      · subst q; exact wr_same _ _ _ _ _
    · unfold bX11_takeRead_65
      rw [if_neg (show ¬ (6 : Int32) ≤ nI i from nI_ge (b := 6) hi (by decide)), ck_nI hi (by omega), ck_nI hi (by omega), bs_e, nI_clamp (by omega), h1 47 0 (by omega), nI_1]
  case he =>
    intro S1 h kk ag
    unfold bX11_takeRead_65
    rw [if_pos (show (6 : Int32) ≤ nI 6 by decide)]
  obtain ⟨S2, ⟨h1, h2⟩, e⟩ := fin
  exact ⟨S2, e, h1, h2⟩
theorem t_soft {A : St} {M : Nat} (hM : M ≤ 6) (h2M : A 35 0 2 = nI M) : ∃ S1, (∀ kk, lop (fun _ _ => none) (bX11_takeRead_91 kk) FU (0 : Int32) A = kk S1) ∧ Fr (fun a o => (a = 37 ∨ a = 40) ∧ o = 0) A S1 ∧ (∀ x, x < 5 * M → S1 37 0 x = A 48 0 x ∧ S1 40 0 (4 + x) = A 48 0 x) ∧ ∀ y, (y < 4 ∨ 34 ≤ y) → S1 40 0 y = A 40 0 y := by
  have fin := lopSK (i0 := 0) (N := 30) (z := fun _ _ => none) (b := bX11_takeRead_91) (x := 0) (S := A)
    (fun i S1 => Fr (fun a o => (a = 37 ∨ a = 40) ∧ o = 0) A S1 ∧ (∀ x, x < i → x < 5 * M → S1 37 0 x = A 48 0 x ∧ S1 40 0 (4 + x) = A 48 0 x) ∧ ∀ y, (y < 4 ∨ 34 ≤ y) → S1 40 0 y = A 40 0 y) ?hs ?he (Nat.zero_le _) (by decide) rfl ⟨Fr.rf, fun m h => by omega, fun y _ => rfl⟩
  case hs =>
    intro i S1 _ hi ⟨h1, h2, h3⟩
    have m2 : S1 35 0 2 = nI M := by rw [h1 35 0 (by omega)]; exact h2M
    refine ⟨wr (wr S1 37 0 i (if 5 * M ≤ i then 0 else A 48 0 i)) 40 0 (4 + i) (if 5 * M ≤ i then 0 else A 48 0 i), ⟨(h1.wr (by omega)).wr (by omega), fun x hx hxM => ?_, fun y hy => ?_⟩, fun kk ag => ?_⟩
    · rcases (show x < i ∨ x = i by omega) with q | q
      · rw [wr_i (by omega), wr_i (by omega), wr_i (by omega), wr_i (by omega)]; exact h2 x q hxM
      · subst q
        rw [wr_i (by omega), wr_same, wr_same, if_neg (by omega)]
        exact ⟨rfl, rfl⟩
    · rw [wr_i (by omega), wr_i (by omega)]; exact h3 y hy
    · unfold bX11_takeRead_91
      rw [if_neg (show ¬ (30 : Int32) ≤ nI i from nI_ge (b := 30) hi (by decide))]
      simp only [jn_e]
      rw [m2, show (5 : Int32) = nI 5 from rfl, pk_mul]
      by_cases q : 5 * M ≤ i
      · rw [if_pos (nI_le q (by omega)), if_pos q, ck_nI hi (by omega), bs_e, ck_nI hi (by omega), show (4 : Int32) = nI 4 from rfl, nI_add, ck_nI (show 4 + i < 70 by omega) (by omega), bs_e, nI_clamp (show i < 2 ^ 31 by omega), nI_clamp (show 4 + i < 2 ^ 31 by omega), wr_same, nI_1]
      · rw [if_neg (nI_ge (by omega) (by omega)), if_neg q, ck_nI hi (by omega), ck_nI hi (by omega), bs_e, ck_nI hi (by omega), show (4 : Int32) = nI 4 from rfl, nI_add, ck_nI (show 4 + i < 70 by omega) (by omega), bs_e, nI_clamp (show i < 2 ^ 31 by omega), nI_clamp (show 4 + i < 2 ^ 31 by omega), h1 48 0 (by omega), wr_same, nI_1]
  case he =>
    intro S1 h kk ag
    unfold bX11_takeRead_91
    rw [if_pos (show (30 : Int32) ≤ nI 30 by decide)]
  obtain ⟨S2, ⟨h1, h2, h3⟩, e⟩ := fin
  exact ⟨S2, e, h1, fun x hx => h2 x (by omega) hx, h3⟩
theorem t_said {A : St} : ∃ S1, (∀ kk, lop (fun _ _ => none) (bX11_takeRead_145 kk) FU (0 : Int32) A = kk S1) ∧ Fr (fun a o => (a = 38 ∨ a = 39) ∧ o = 0) A S1 ∧ ∀ x, x < 8 → S1 38 0 x = A 49 0 x ∧ S1 39 0 x = A 50 0 x := by
  have fin := lopSK (i0 := 0) (N := 8) (z := fun _ _ => none) (b := bX11_takeRead_145) (x := 0) (S := A)
    (fun i S1 => Fr (fun a o => (a = 38 ∨ a = 39) ∧ o = 0) A S1 ∧ ∀ x, x < i → S1 38 0 x = A 49 0 x ∧ S1 39 0 x = A 50 0 x) ?hs ?he (Nat.zero_le _) (by decide) rfl ⟨Fr.rf, fun m h => by omega⟩
  case hs =>
    intro i S1 _ hi ⟨h1, h2⟩
    refine ⟨wr (wr S1 38 0 i (A 49 0 i)) 39 0 i (A 50 0 i), ⟨(h1.wr (by omega)).wr (by omega), fun x hx => ?_⟩, fun kk ag => ?_⟩
    · rcases (show x < i ∨ x = i by omega) with q | q
      · rw [wr_i (by omega), wr_i (by omega), wr_i (by omega), wr_i (by omega)]; exact h2 x q
      · subst q
        rw [wr_i (by omega), wr_same, wr_same]
        exact ⟨rfl, rfl⟩
    · unfold bX11_takeRead_145
      rw [if_neg (show ¬ (8 : Int32) ≤ nI i from nI_ge (b := 8) hi (by decide)), ck_nI hi (by omega), ck_nI hi (by omega), bs_e, ck_nI hi (by omega), ck_nI hi (by omega), bs_e, nI_clamp (by omega), wr_i (by omega), h1 49 0 (by omega), h1 50 0 (by omega), nI_1]
  case he =>
    intro S1 h kk ag
    unfold bX11_takeRead_145
    rw [if_pos (show (8 : Int32) ≤ nI 8 by decide)]
  obtain ⟨S2, ⟨h1, h2⟩, e⟩ := fin
  exact ⟨S2, e, h1, h2⟩
theorem m_takeRead {T : St} {π : Nat → Nat → Nat} (hP : MR T π) (hV : VP π) : ∃ T2, fX11_takeRead T = some (0, T2) ∧ FX cT xT T T2 ∧ MP T2 π ∧ MN (T2 40 0) (π 0 2) (nu0 π) := by
  have w2 := hV.2.2.1
  have w8 := hV.2.2.2.2.1.1
  obtain ⟨p0, p1, p2, p3, p4, p5⟩ := hP
  generalize hA : wr (wr (wr (wr T 35 0 0 (nI (π 0 0))) 35 0 1 (nI (π 0 1))) 35 0 2 (nI (π 0 2))) 35 0 5 (nI (π 0 3)) = A
  have fA : FX cT xT T A := by
    rw [← hA]
    exact (((FX.rf.wx (by unfold cT; omega) (by unfold xT; omega)).wx (by unfold cT; omega) (by unfold xT; omega)).wx (by unfold cT; omega) (by unfold xT; omega)).wx (by unfold cT; omega) (by unfold xT; omega)
  have a0 : A 35 0 0 = nI (π 0 0) := by rw [← hA, wr_i (by omega), wr_i (by omega), wr_i (by omega), wr_same]
  have a1 : A 35 0 1 = nI (π 0 1) := by rw [← hA, wr_i (by omega), wr_i (by omega), wr_same]
  have a2 : A 35 0 2 = nI (π 0 2) := by rw [← hA, wr_i (by omega), wr_same]
  have a5 : A 35 0 5 = nI (π 0 3) := by rw [← hA, wr_same]
  have a24 : A 35 0 24 = nI (π 0 1) := by rw [fA.2 24 (by unfold xT; omega)]; exact p1
  have aT : ∀ a, 47 ≤ a → A a 0 = T a 0 := fun a ha => fA.1 a 0 (by unfold cT; omega)
  obtain ⟨S1, e1, f1, z1⟩ := t_zero (A := A)
  obtain ⟨S3, e3, f3, z3⟩ := t_kind (A := wr S1 40 0 1 (nI (π 0 1)))
  have s2 : S3 35 0 2 = nI (π 0 2) := by rw [f3 35 0 (by omega), wr_i (by omega), f1 35 0 (by omega)]; exact a2
  obtain ⟨S4, e4, f4, z4, y4⟩ := t_soft w2 s2
  obtain ⟨S5, e5, f5, z5⟩ := t_said (A := S4)
  have g35 : S5 35 0 = A 35 0 := by rw [f5 35 0 (by omega), f4 35 0 (by omega), f3 35 0 (by omega), wr_other (by omega), f1 35 0 (by omega)]
  have g36 : ∀ m, m < 6 → S5 36 0 m = T 47 0 m := fun m hm => by rw [f5 36 0 (by omega), f4 36 0 (by omega), z3 m hm, wr_i (by omega), f1 47 0 (by omega), aT 47 (by omega)]
  have g48 : ∀ x, S3 48 0 x = T 48 0 x := fun x => by rw [f3 48 0 (by omega), wr_i (by omega), f1 48 0 (by omega), aT 48 (by omega)]
  have g37 : ∀ x, x < 5 * π 0 2 → S5 37 0 x = T 48 0 x := fun x hx => by rw [f5 37 0 (by omega), (z4 x hx).1, g48]
  have g40 : ∀ x, x < 5 * π 0 2 → S5 40 0 (4 + x) = T 48 0 x := fun x hx => by rw [f5 40 0 (by omega), (z4 x hx).2, g48]
  have h40 : ∀ y, (y < 4 ∨ 34 ≤ y) → y < 70 → y ≠ 1 → S5 40 0 y = 0 := fun y hy h7 h1 => by rw [f5 40 0 (by omega), y4 y hy, f3 40 0 (by omega), wr_i (by omega), z1 y h7]
  have h41 : S5 40 0 1 = nI (π 0 1) := by rw [f5 40 0 (by omega), y4 1 (by omega), f3 40 0 (by omega), wr_same]
  have g38 : ∀ x, x < 8 → S5 38 0 x = T 49 0 x ∧ S5 39 0 x = T 50 0 x := fun x hx => by
    rw [(z5 x hx).1, (z5 x hx).2, f4 49 0 (by omega), f4 50 0 (by omega), f3 49 0 (by omega), f3 50 0 (by omega), wr_i (by omega), wr_i (by omega), f1 49 0 (by omega), f1 50 0 (by omega), aT 49 (by omega), aT 50 (by omega)]
    exact ⟨rfl, rfl⟩
  refine ⟨S5, ?_, ⟨?_, fun x hx => by rw [g35]; exact fA.2 x hx⟩, ⟨by rw [g35]; exact a0, by rw [g35]; exact a1, by rw [g35]; exact a2, by rw [g35]; exact a5, fun m hm => ⟨by rw [g36 m (by omega)]; exact (p4 m hm).1, fun p hp => by rw [g37 _ (by omega)]; exact (p4 m hm).2 p hp⟩, fun s hs => by rw [(g38 s (by omega)).1, (g38 s (by omega)).2]; exact p5 s hs⟩, ?_⟩
  · unfold fX11_takeRead
    rw [bs_e, bs_e, bs_e, bs_e, p0, wr_i (by omega), p1, wr_i (by omega), wr_i (by omega), p2, wr_i (by omega), wr_i (by omega), wr_i (by omega), p3, hA, jn_e, e1]
    try dsimp only
    rw [show (1 : Int32) = nI 1 from rfl, ck_nI (show 1 < 70 by decide) (by decide), bs_e, nI_clamp (by decide), f1 35 0 (by omega), a24, jn_e, e3]
    try dsimp only
    rw [jn_e, e4]
    try dsimp only
    rw [jn_e, e5]
  · exact (((fA.1.tr (f1.mono (fun a o z => by unfold cT; omega))).wr (by unfold cT; omega)).tr ((f3.mono (fun a o z => by unfold cT; omega)))).tr ((f4.mono (fun a o z => by unfold cT; omega)).tr (f5.mono (fun a o z => by unfold cT; omega)))
  · refine ⟨by rw [h40 0 (by omega) (by omega) (by omega)]; rfl, by rw [h41]; rfl, ?_, by rw [h40 3 (by omega) (by omega) (by omega)]; rfl, fun m hm => ⟨by rw [h40 _ (by omega) (by omega) (by omega), nu0_m π (by omega)]; rfl, fun p hp => ⟨?_, ?_⟩⟩⟩
    · rw [h40 2 (by omega) (by omega) (by omega), msk_0 _ (fun i hi => by rw [nu0_m π (by omega)]; rfl)]; rfl
    · rw [show 4 + 5 * m + p = 4 + (5 * m + p) by omega, g40 _ (by omega), nu0_p π hp]; exact (p4 m hm).2 p hp
    · rw [h40 _ (by omega) (by omega) (by omega), nu0_m π (by omega)]; rfl
