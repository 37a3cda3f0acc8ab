theorem full_iff {f : Nat → Bool} {Y : Nat} (hY : Y ≤ 8) : (nI (msk f Y) = nI (2 ^ Y - 1)) ↔ al (fun s => !(2 ^ Y - 1).testBit s || f s) Y = true := by
  have p0 := Nat.two_pow_pos Y
  have p8 : 2 ^ Y ≤ 2 ^ 8 := Nat.pow_le_pow_right (by decide) hY
  have hm := msk_lt f Y
  have e : nI (msk f Y) &&& nI (2 ^ Y - 1) = nI (msk f Y) := by
    rw [nI_and (by omega) (by omega), Nat.and_two_pow_sub_one_eq_mod, Nat.mod_eq_of_lt hm]
  rw [← sub_iff hY (by omega), e]
theorem m_need1 {S : St} {i k : Nat} {π ν : Nat → Nat → Nat} (hP : MP S π) (hN : MN (S 40 0) (π 0 2) ν) (hV : VP π) (hW : VN (π 0 2) ν) (hi : i < π 0 2) (n1 : k ≤ 201) (n2 : ∀ j, j < k → ¬ brs π (fun p => ν (i + 1) (2 + p)) (tr (π 1 i) (ν 0 1) (ν 0 0) (fun p => ν (i + 1) (7 + p)) j) (2 ^ π 0 3 - 1) = true) (n3 : k < 201 → brs π (fun p => ν (i + 1) (2 + p)) (tr (π 1 i) (ν 0 1) (ν 0 0) (fun p => ν (i + 1) (7 + p)) k) (2 ^ π 0 3 - 1) = true) (h55 : S 55 0 i = 1000000) (hK0 : SkM S (fun p => ν (i + 1) (2 + p)) (fun p => ν (i + 1) (7 + p))) : ∃ S2, (∀ kk, lop (fun _ _ => none) (bX11_through_61 (nI i) kk) FU (0 : Int32) S = kk S2) ∧ Fr (fun a o => a = 51 ∨ a = 52 ∨ (a = 55 ∧ o = 0)) S S2 ∧ (∀ x, x ≠ i → S2 55 0 x = S 55 0 x) ∧ S2 55 0 i = nI (if k < 201 then k else 1000000) := by
  have hM := hV.2.2.1
  have hvy := hV.2.2.2.2.1
  have hY := hvy.1
  have hS := hW.vs hi
  have hkd := (hV.2.2.2.1 i hi).1
  have hbk := hW.2.1
  have hmo := hW.1
  generalize (fun p => ν (i + 1) (2 + p)) = so at *
  generalize (fun p => ν (i + 1) (7 + p)) = T at *
  have hNk : (if k < 201 then k + 1 else 201) ≤ 201 ∧ (if k < 201 then k + 1 else 201) ≤ k + 1 := by split <;> omega
  have fin := lopSK (i0 := 0) (N := if k < 201 then k + 1 else 201) (z := fun _ _ => none) (b := bX11_through_61 (nI i)) (x := 0) (S := S)
    (fun j S2 => Fr (fun a o => a = 51 ∨ a = 52 ∨ (a = 55 ∧ o = 0)) S S2 ∧ SkM S2 so (tr (π 1 i) (ν 0 1) (ν 0 0) T j) ∧ (∀ x, x ≠ i → S2 55 0 x = S 55 0 x) ∧ S2 55 0 i = nI (if k < j then k else 1000000)) ?hs ?he (Nat.zero_le _) (by rw [FU_eq]; omega) rfl ⟨Fr.rf, hK0, fun _ _ => rfl, by rw [h55, if_neg (by omega)]; rfl⟩
  case hs =>
    intro j S1 _ hj ⟨f1, g1, x1, y1⟩
    have hjk : j ≤ k ∧ j < 201 := by omega
    have my1 : MY S1 π := by unfold MY; rw [f1 35 0 (by omega), f1 38 0 (by omega), f1 39 0 (by omega)]; exact hP.my
    have hb1 := m_borne my1 hvy g1 (tr_vs hS j)
    have hfi := full_iff (f := fun s => decide (pn π so (tr (π 1 i) (ν 0 1) (ν 0 0) T j) s ≤ 5)) hY
    obtain ⟨S2, e2, f2, g2⟩ := m_step (S := wr S1 55 0 i (nI (if k < j + 1 then k else 1000000))) (m := i) (i := j) (kd := π 1 i) (bk := ν 0 1) (mo := ν 0 0) (so := so) (T := tr (π 1 i) (ν 0 1) (ν 0 0) T j) (by omega) (by omega) (by rw [wr_i (by omega), f1 36 0 (by omega)]; exact (hP.2.2.2.2.1 i hi).1) (by rw [wr_i (by omega), f1 40 0 (by omega)]; exact hN.2.1) (by rw [wr_i (by omega), f1 40 0 (by omega)]; exact hN.1) hkd hbk (by omega) g1 (tr_vs hS j)
    refine ⟨S2, ⟨(f1.wr (Or.inr (Or.inr ⟨rfl, rfl⟩))).tr (f2.mono (fun a o h => by omega)), g2, fun x hx => ?_, ?_⟩, fun kk ag => ?_⟩
    · rw [f2 55 0 (by omega), wr_i (by omega)]; exact x1 x hx
    · rw [f2 55 0 (by omega), wr_same]
    · unfold bX11_through_61
      rw [if_neg (l200 hjk.2), ck_nI (show i < 6 by omega) (by omega), nI_clamp (show i < 2 ^ 31 by omega), y1, if_neg (show ¬ k < j by omega), if_pos (show nI 1000000 = (1000000 : Int32) from rfl), cal_of hb1, my1.1, sh_1 (π 0 3) hY, jn_e]
      try dsimp only
      have e3 := e2 (fun S => ag (nI j + 1) S)
      rw [nI_clamp (show i < 2 ^ 31 by omega)] at e3
      by_cases hb : brs π so (tr (π 1 i) (ν 0 1) (ν 0 0) T j) (2 ^ π 0 3 - 1) = true
      · have hjk2 : j = k := by
          rcases Nat.lt_or_ge j k with q | q
          · exact absurd hb (n2 j q)
          · omega
        rw [if_pos (show k < j + 1 by omega), ← hjk2] at e3
        rw [if_pos (hfi.mpr hb), ck_nI (show i < 6 by omega) (by omega), bs_e, e3, nI_1]
      · have hjk2 : j < k := by
          rcases Nat.lt_or_ge j k with q | q
          · exact q
          · have : j = k := by omega
            subst this
            exact absurd (n3 hjk.2) hb
        rw [if_neg (show ¬ k < j + 1 by omega)] at e3
        rw [if_neg (fun z => hb (hfi.mp z)), ck_nI (show i < 6 by omega) (by omega), bs_e, show (1000000 : Int32) = nI 1000000 from rfl, e3, nI_1]
  case he =>
    intro S1 ⟨f1, g1, x1, y1⟩ kk ag
    unfold bX11_through_61
    by_cases h : (if k < 201 then k + 1 else 201) = 201
    · rw [h, if_pos (show (200 : Int32) < nI 201 by decide)]
    · have hk : k < 200 := by
        by_cases q : k < 201
        · rw [if_pos q] at h; omega
        · rw [if_neg q] at h; omega
      rw [if_pos (show k < 201 by omega)] at y1 ⊢
      rw [if_pos (show k < k + 1 by omega)] at y1
      rw [if_neg (l200 (by omega)), ck_nI (show i < 6 by omega) (by omega), nI_clamp (by omega), y1, if_neg (show ¬ nI k = (1000000 : Int32) from fun z => by have := nI_inj (b := 1000000) (by omega) (by decide) z; omega)]
  obtain ⟨S2, ⟨f1, g1, x1, y1⟩, e⟩ := fin
  refine ⟨S2, e, f1, x1, ?_⟩
  rw [y1]
  by_cases q : k < 201
  · rw [if_pos q, if_pos q, if_pos (by omega)]
  · rw [if_neg q, if_neg q]
theorem m_needs {S : St} {π ν : Nat → Nat → Nat} {kf : Nat → Nat} (hP : MP S π) (hN : MN (S 40 0) (π 0 2) ν) (hV : VP π) (hW : VN (π 0 2) ν) (hK : KF π ν kf) : ∃ S2, (∀ kk, lop (fun _ _ => none) (bX11_through_37 kk) FU (0 : Int32) S = kk S2) ∧ Fr (fun a o => a = 51 ∨ a = 52 ∨ (a = 55 ∧ o = 0)) S S2 ∧ ∀ m, m < π 0 2 → S2 55 0 m = nI (wM kf m) := by
  have hM := hV.2.2.1
  have fin := lopSK (i0 := 0) (N := π 0 2) (z := fun _ _ => none) (b := bX11_through_37) (x := 0) (S := S)
    (fun i S1 => Fr (fun a o => a = 51 ∨ a = 52 ∨ (a = 55 ∧ o = 0)) S S1 ∧ ∀ m, m < i → S1 55 0 m = nI (wM kf m)) ?hs ?he (Nat.zero_le _) (by rw [FU_eq]; omega) rfl ⟨Fr.rf, fun m h => by omega⟩
  case hs =>
    intro i S1 _ hi ⟨f1, g1⟩
    have fa : Fr (fun a o => a = 51 ∨ a = 52 ∨ (a = 55 ∧ o = 0)) S (wr S1 55 0 i 1000000) := f1.wr (Or.inr (Or.inr ⟨rfl, rfl⟩))
    obtain ⟨T1, x1, y1, y2⟩ := m_takesSkin (S := wr S1 55 0 i 1000000) (show i < 6 by omega)
    have fb : Fr (fun a o => a = 51 ∨ a = 52 ∨ (a = 55 ∧ o = 0)) S T1 := fa.tr (y1.mono (fun a o h => by omega))
    have mp1 : MP T1 π := by unfold MP; rw [fb 35 0 (by omega), fb 36 0 (by omega), fb 37 0 (by omega), fb 38 0 (by omega), fb 39 0 (by omega)]; exact hP
    have mn1 : MN (T1 40 0) (π 0 2) ν := by rw [fb 40 0 (by omega)]; exact hN
    have k1 : SkM T1 (fun p => ν (i + 1) (2 + p)) (fun p => ν (i + 1) (7 + p)) := fun p hp => by
      rw [(y2 p hp).1, (y2 p hp).2, wr_i (by omega), wr_i (by omega), f1 40 0 (by omega)]; exact (hN.2.2.2.2 i hi).2 p hp
    obtain ⟨n1, n2, n3⟩ := hK i hi
    obtain ⟨S2, e2, f2, a2, b2⟩ := m_need1 mp1 mn1 hV hW hi n1 n2 n3 (by rw [y1 55 0 (by omega)]; exact wr_same _ _ _ _ _) k1
    refine ⟨S2, ⟨fb.tr f2, fun m hm => ?_⟩, fun kk ag => ?_⟩
    · rcases (show m < i ∨ m = i by omega) with q | rfl
      · rw [a2 m (by omega), y1 55 0 (by omega), wr_i (by omega)]; exact g1 m q
      · exact b2
    · unfold bX11_through_37
      rw [f1 35 0 (by omega), hP.2.2.1, if_neg (nI_ge hi (by omega)), ck_nI (show i < 6 by omega) (by omega), bs_e, nI_clamp (show i < 2 ^ 31 by omega), cal_of x1, jn_e, e2, nI_1]
  case he =>
    intro S1 ⟨f1, _⟩ kk ag
    unfold bX11_through_37
    rw [f1 35 0 (by omega), hP.2.2.1, if_pos (nI_le (Nat.le_refl _) (by omega))]
  obtain ⟨S2, ⟨f1, g1⟩, e⟩ := fin
  exact ⟨S2, e, f1, g1⟩
theorem lf_le (P s way : Nat) : ∀ m, lf P s way m ≤ way
  | 0 => Nat.le_refl _
  | m + 1 => by
    have := lf_le P s way m
    unfold lf
    split
    · exact Nat.le_trans (Nat.div_le_self _ _) this
    · exact this
theorem wa_le {P : Nat} (s : Nat) (hP : P ≤ 3) : ∀ m, wa P s m ≤ 3 ^ m
  | 0 => Nat.le_refl _
  | m + 1 => by
    have h1 := wa_le s hP m
    unfold wa
    rw [Nat.pow_succ]
    refine Nat.mul_le_mul h1 ?_
    split <;> omega
theorem wa_pos {P : Nat} (s : Nat) (hP : 0 < P) : ∀ m, 0 < wa P s m
  | 0 => Nat.one_pos
  | m + 1 => by
    unfold wa
    refine Nat.mul_pos (wa_pos s hP m) ?_
    split <;> omega
section LOPL
variable {i0 N : Nat}
theorem lopASL {z : Int32 → Int32 → St → Op} {b : (St → Op) → (Int32 → Int32 → St → Op) → Int32 → Int32 → St → Op} (A : Nat → Int32) (I : Nat → St → Prop) (hs : ∀ i S, i0 ≤ i → i < N → I i S → ∃ S2, I (i + 1) S2 ∧ ∀ kk ag, b kk ag (nI i) (A i) S = ag (nI (i + 1)) (A (i + 1)) S2) (he : ∀ S, I N S → ∀ kk ag, b kk ag (nI N) (A N) S = kk S) (h1 : i0 ≤ N) (h2 : N - i0 < FU) {x a : Int32} {S : St} (hx : x = nI i0) (ha : A i0 = a) (hI : I i0 S) : ∃ S2, I N S2 ∧ ∀ kk, lop z (b kk) FU x a S = kk S2 := by
  subst hx; subst ha
  have key : ∀ n i S, i0 ≤ i → i ≤ N → N < n + i → I i S → ∃ S2, I N S2 ∧ ∀ kk, lop z (b kk) n (nI i) (A i) S = kk S2 := by
    intro n
    induction n with
    | zero => intro i S _ h4 h5; omega
    | succ n ih =>
      intro i S h3 h4 h5 h6
      show ∃ S2, I N S2 ∧ ∀ kk, b kk (lop z (b kk) n) (nI i) (A i) S = kk S2
      rcases Nat.lt_or_ge i N with h | h
      · obtain ⟨S1, g1, g2⟩ := hs i S h3 h h6
        obtain ⟨S2, g3, g4⟩ := ih (i + 1) S1 (by omega) (by omega) (by omega) g1
        exact ⟨S2, g3, fun kk => by rw [g2]; exact g4 kk⟩
      · have e : i = N := by omega
        subst e
        exact ⟨S, h6, fun kk => he S h6 kk _⟩
  exact key FU i0 S (Nat.le_refl _) h1 (by omega) hI
end LOPL
/-- what a way asks of the pits -/
def bz (w : Nat → Nat) (P s way c : Nat) : Nat → Nat := wsm (fun m => s.testBit m && decide (lf P s way m % P = c)) w
theorem bz_s (w : Nat → Nat) (P s way c m : Nat) : bz w P s way c (m + 1) = bz w P s way c m + (if (s.testBit m && decide (lf P s way m % P = c)) = true then w m else 0) := rfl
theorem lf_s (P s way m : Nat) : lf P s way (m + 1) = if s.testBit m = true then lf P s way m / P else lf P s way m := rfl
theorem m_go125 {S : St} {w : Nat → Nat} {M P s way : Nat} (hM : M ≤ 6) (hP : 0 < P) (hP3 : P ≤ 3) (hs : s < 256) (hway : way < 1000) (h2 : S 35 0 2 = nI M) (h0 : S 35 0 0 = nI P) (hw : ∀ m, m < M → S 55 0 m = nI (w m)) (hz : ∀ c, c < 3 → S 56 0 c = 0) : ∃ S2, (∀ kk, lop (fun _ _ _ => none) (bX11_goThrough_125 (nI s) kk) FU (0 : Int32) (nI way) S = kk S2) ∧ Fr (fun a o => a = 56 ∧ o = 0) S S2 ∧ ∀ c, c < 3 → S2 56 0 c = nI (bz w P s way c M) := by
  have fin := lopASL (i0 := 0) (N := M) (z := fun _ _ _ => none) (b := bX11_goThrough_125 (nI s)) (x := 0) (a := nI way) (S := S) (fun m => nI (lf P s way m))
    (fun m S1 => Fr (fun a o => a = 56 ∧ o = 0) S S1 ∧ ∀ c, c < 3 → S1 56 0 c = nI (bz w P s way c m)) ?hs ?he (Nat.zero_le _) (by rw [FU_eq]; omega) rfl rfl ⟨Fr.rf, fun c hc => by rw [hz c hc]; rfl⟩
  case hs =>
    intro m S1 _ hm ⟨f1, g1⟩
    have hl := lf_le P s way m
    have hmod := Nat.mod_lt (lf P s way m) hP
    by_cases hb : s.testBit m = true
    · refine ⟨wr S1 56 0 (lf P s way m % P) (nI (bz w P s way (lf P s way m % P) m + w m)), ⟨f1.wr ⟨rfl, rfl⟩, fun c hc => ?_⟩, fun kk ag => ?_⟩
      · rw [bz_s]
        by_cases e : lf P s way m % P = c
        · rw [e, wr_same, if_pos (by simp [hb])]
        · rw [wr_i (by omega), g1 c hc, if_neg (by simp [hb, e])]
          rfl
      · unfold bX11_goThrough_125
        rw [f1 35 0 (by omega), h2, if_neg (nI_ge hm (by omega)), cal_of (m_has hs (by omega)), hb, if_pos rfl, if_neg n10, f1 35 0 (by omega), h0]
        unfold dz
        rw [if_neg (nI_ne0 hP (by omega)), irm_nI (by omega) hP (by omega), ck_nI (show lf P s way m % P < 3 by omega) (by omega), ck_nI (show m < 6 by omega) (by omega), ck_nI (show lf P s way m % P < 3 by omega) (by omega), bs_e, wr_i (a2 := 35) (by omega), f1 35 0 (by omega), h0, if_neg (nI_ne0 hP (by omega)), bi_e, idiv_nI (by omega) hP (by omega), nI_clamp (show lf P s way m % P < 2 ^ 31 by omega), nI_clamp (show m < 2 ^ 31 by omega), g1 _ (by omega), f1 55 0 (by omega), hw m hm, nI_add, nI_1, lf_s, if_pos hb]
    · refine ⟨S1, ⟨f1, fun c hc => ?_⟩, fun kk ag => ?_⟩
      · rw [bz_s, if_neg (by simp [hb]), g1 c hc]
        rfl
      · unfold bX11_goThrough_125
        rw [f1 35 0 (by omega), h2, if_neg (nI_ge hm (by omega)), cal_of (m_has hs (by omega)), if_neg hb, if_pos rfl, nI_1, lf_s, if_neg hb]
  case he =>
    intro S1 ⟨f1, _⟩ kk ag
    unfold bX11_goThrough_125
    rw [f1 35 0 (by omega), h2, if_pos (nI_le (Nat.le_refl _) (by omega))]
  obtain ⟨S2, ⟨f1, g1⟩, e⟩ := fin
  exact ⟨S2, e, f1, g1⟩
