def agc (π : Nat → Nat → Nat) (so th : Nat → Nat) (d : Nat → Nat → Nat) (m k : Nat) : Bool := !(decide (d 1 k = m)) || decide (pn π so th (d 2 k) = d 3 k)
def agr (π : Nat → Nat → Nat) (so th : Nat → Nat) (d : Nat → Nat → Nat) (m H : Nat) : Bool := al (agc π so th d m) H
def bI (b : Bool) : Int32 := if b = true then 1 else 0
theorem bI_t : bI true = 1 := rfl
theorem bI_f : bI false = 0 := rfl
def EC (S : St) (H : Nat) (d : Nat → Nat → Nat) : Prop := S 20 0 3 = nI H ∧ ∀ i, i < H → S 21 0 i = nI (d 1 i) ∧ S 22 0 i = nI (d 2 i) ∧ S 23 0 i = nI (d 3 i)
def EM (S : St) (H : Nat) (d : Nat → Nat → Nat) : Prop := S 35 0 10 = nI H ∧ ∀ i, i < H → S 41 0 i = nI (d 1 i) ∧ S 42 0 i = nI (d 2 i) ∧ S 43 0 i = nI (d 3 i)
def VE (π : Nat → Nat → Nat) (H : Nat) (d : Nat → Nat → Nat) : Prop := H ≤ 6 ∧ ∀ i, i < H → d 1 i < π 0 2 ∧ d 2 i < π 0 3 ∧ d 3 i ≤ 99
theorem c_agree {S : St} {k m H : Nat} {π d : Nat → Nat → Nat} {so th : Nat → Nat} (hE : EC S H d) (hVE : VE π H d) (hC : CY S k π) (hV : VP π) (hK : SkC S 6 so th) (hS : VS so th) (hm : m < π 0 2) : fX2_agree k 6 (nI m) S = some (bI (agr π so th d m H), S) := by
  have hM := hV.2.2.1
  have hvy := hV.2.2.2.2.1
  obtain ⟨n, n1, n2, n3⟩ := first_of (fun i => agc π so th d m i = false) H
  have hH := hVE.1
  unfold fX2_agree
  rw [jn_e]
  refine lopS (i0 := 0) (N := n) (fun _ => S) (fun i _ hi ag => ?_) (fun ag => ?_) (Nat.zero_le _) (by rw [FU_eq]; omega) rfl rfl
  · obtain ⟨g1, g2, g3⟩ := hE.2 i (by omega)
    obtain ⟨b1, b2, b3⟩ := hVE.2 i (by omega)
    have hp := pn_le hvy b2 hS
    have hn := n2 i hi
    unfold bX2_agree_3
    rw [hE.1, if_neg (nI_ge (by omega) (by omega)), ck_nI (show i < 6 by omega) (by omega), nI_clamp (by omega), g1, nI_1]
    by_cases e : d 1 i = m
    · rw [if_pos (congrArg nI e), ck_nI (show i < 6 by omega) (by omega), g2, cal_of (c_pain hC hvy hK hS b2), ck_nI (show i < 6 by omega) (by omega), g3, if_pos]
      unfold agc at hn
      rw [e] at hn
      simp at hn
      rw [hn]
    · rw [if_neg (fun z => e (nI_inj (by omega) (by omega) z))]
  · unfold bX2_agree_3
    by_cases hn : n < H
    · obtain ⟨g1, g2, g3⟩ := hE.2 n hn
      obtain ⟨b1, b2, b3⟩ := hVE.2 n hn
      have hp := pn_le hvy b2 hS
      have hh := n3 hn
      unfold agc at hh
      simp only [Bool.or_eq_false_iff, Bool.not_eq_false', decide_eq_true_eq, decide_eq_false_iff_not] at hh
      have ha : agr π so th d m H = false := by
        cases hx : agr π so th d m H
        · rfl
        · have := (al_iff _ _).mp hx n hn
          rw [n3 hn] at this
          exact absurd this (by decide)
      rw [hE.1, if_neg (nI_ge (by omega) (by omega)), ck_nI (show n < 6 by omega) (by omega), nI_clamp (by omega), g1, if_pos (congrArg nI hh.1), ck_nI (show n < 6 by omega) (by omega), g2, cal_of (c_pain hC hvy hK hS b2), ck_nI (show n < 6 by omega) (by omega), g3, if_neg (fun z => hh.2 (nI_inj (by omega) (by omega) z)), ha]
      rfl
    · have ha : agr π so th d m H = true := (al_iff _ _).mpr (fun i hi => eq_true_of_ne_false (n2 i (by omega)))
      rw [hE.1, if_pos (nI_le (by omega) (by omega)), ha]
      rfl
theorem m_step2 {S : St} {m i kd bk : Nat} {so T : Nat → Nat} (hm : m < 6) (hi : i ≤ 200) (h36 : S 36 0 m = nI kd) (h1 : S 35 0 1 = nI bk) (hkd : kd ≤ 3) (hbk : bk ≤ 9) (hK : SkM S so T) (hS : VS so T) : ∃ S1, (∀ K : St → Op, (ck (nI m) 6 <| cal (fX11_tans (S 36 0 (Int32.toNatClampNeg (nI m))) (S 35 0 1) (nI i) S) fun _ S2 => K S2) = K S1) ∧ Fr (fun a q => a = 52 ∧ q = 0) S S1 ∧ SkM S1 so (tanN kd bk (0 + i) T) := by
  obtain ⟨S1, e, f, g⟩ := m_tans (S := S) (kd := kd) (bk := bk) (mo := i) (T := T) hkd hbk (by omega) (fun p hp => (hK p hp).2) (fun p hp => (hS p hp).2)
  refine ⟨S1, fun K => ?_, f, fun p hp => ⟨?_, ?_⟩⟩
  · rw [ck_nI hm (by omega), nI_clamp (show m < 2 ^ 31 by omega), h36, h1, cal_of e]
  · rw [f 51 0 (by omega)]; exact (hK p hp).1
  · rw [Nat.zero_add]; exact g p hp
theorem nar0 : vp_nar .boolean (0 : Int32) = 0 := rfl
theorem nar1 : vp_nar .boolean (1 : Int32) = 1 := rfl
theorem m_lays25 {S : St} {m n H : Nat} {π d : Nat → Nat → Nat} {so th : Nat → Nat} (hE : EM S H d) (hVE : VE π H d) (hC : MY S π) (hV : VP π) (hK : SkM S so th) (hS : VS so th) (hm : m < π 0 2) (hn : n < 61) (h0 : S 57 0 n = 1) : ∃ S2, (∀ kk, lop (fun _ _ => none) (bX11_laysStays_25 (nI m) (nI n) kk) FU (0 : Int32) S = kk S2) ∧ Fr (fun a o => a = 57 ∧ o = 0) S S2 ∧ (∀ i, i ≠ n → S2 57 0 i = S 57 0 i) ∧ S2 57 0 n = bI (agr π so th d m H) := by
  have hM := hV.2.2.1
  have hvy := hV.2.2.2.2.1
  have hH := hVE.1
  have fin := lopSK (i0 := 0) (N := H) (z := fun _ _ => none) (b := bX11_laysStays_25 (nI m) (nI n)) (x := 0) (S := S)
    (fun i S2 => Fr (fun a o => a = 57 ∧ o = 0) S S2 ∧ (∀ i, i ≠ n → S2 57 0 i = S 57 0 i) ∧ S2 57 0 n = bI (al (agc π so th d m) i)) ?hs ?he (Nat.zero_le _) (by rw [FU_eq]; omega) rfl ⟨Fr.rf, fun _ _ => rfl, h0⟩
  case hs =>
    intro i S1 _ hi ⟨f1, f2, f3⟩
    obtain ⟨g1, g2, g3⟩ := hE.2 i hi
    obtain ⟨b1, b2, b3⟩ := hVE.2 i hi
    have hp := pn_le hvy b2 hS
    have hh := m_hurts (S := S1) (π := π) (so := so) (th := th) (s := d 2 i) (by unfold MY; rw [f1 35 0 (by omega), f1 38 0 (by omega), f1 39 0 (by omega)]; exact hC) hvy (fun p hp => by rw [f1 51 0 (by omega), f1 52 0 (by omega)]; exact hK p hp) hS b2
    refine ⟨wr S1 57 0 n (bI (al (agc π so th d m) (i + 1))), ⟨f1.wr ⟨rfl, rfl⟩, fun j hj => by rw [wr_i (by omega)]; exact f2 j hj, wr_same _ _ _ _ _⟩, fun kk ag => ?_⟩
    unfold bX11_laysStays_25
    rw [f1 35 0 (by omega), hE.1, if_neg (nI_ge hi (by omega)), ck_nI hn (by omega), jn_e]
    try dsimp only
    rw [jn_e]
    try dsimp only
    rw [nI_clamp (show n < 2 ^ 31 by omega), nI_clamp (show i < 2 ^ 31 by omega), f3, ck_nI hn (by omega), f1 41 0 (by omega), f1 42 0 (by omega), g1, g2, bs_e, nar0, ck_nI (show i < 6 by omega) (by omega), jn_e, nI_1]
    try dsimp only
    show _ = ag _ (wr S1 57 0 n (bI (al (agc π so th d m) i && agc π so th d m i)))
    cases ha : al (agc π so th d m) i
    · rw [bI_f, if_pos rfl]; rfl
    · rw [bI_t, if_neg n10, ck_nI hn (by omega), bs_e, nar1, Bool.true_and, ck_nI (show i < 6 by omega) (by omega), cal_of hh, ck_nI (show i < 6 by omega) (by omega)]
      unfold agc
      by_cases e : d 1 i = m
      · rw [if_pos (congrArg nI e)]
        by_cases e2 : pn π so th (d 2 i) = d 3 i
        · rw [f1 43 0 (by omega), g3, if_pos (congrArg nI e2), ck_nI hn (by omega), bs_e]
          simp only [e, e2, decide_true, Bool.not_true, Bool.false_or]
          rfl
        · rw [f1 43 0 (by omega), g3, if_neg (fun z => e2 (nI_inj (by omega) (by omega) z)), ck_nI hn (by omega), bs_e]
          simp only [e, e2, decide_true, decide_false, Bool.not_true, Bool.false_or]
          rfl
      · rw [if_neg (fun z => e (nI_inj (by omega) (by omega) z))]
        simp only [e, decide_false, Bool.not_false, Bool.true_or]
        rfl
  case he =>
    intro S1 ⟨f1, _⟩ kk ag
    unfold bX11_laysStays_25
    rw [f1 35 0 (by omega), hE.1, if_pos (nI_le (Nat.le_refl _) (by omega))]
  obtain ⟨S2, ⟨f1, f2, f3⟩, e⟩ := fin
  exact ⟨S2, e, f1, f2, f3⟩
theorem m_lays95 {S : St} {n : Nat} {π : Nat → Nat → Nat} {so th : Nat → Nat} (hC : MY S π) (hV : VP π) (hK : SkM S so th) (hS : VS so th) (hn : n < 61) : ∃ S2, (∀ kk, lop (fun _ _ => none) (bX11_laysStays_95 (nI n) kk) FU (0 : Int32) S = kk S2) ∧ Fr (fun a o => a = 58 ∧ o = 0) S S2 ∧ (∀ i, i < 8 * n → S2 58 0 i = S 58 0 i) ∧ ∀ s, s < π 0 3 → S2 58 0 (8 * n + s) = nI (pn π so th s) := by
  have hvy := hV.2.2.2.2.1
  have hY := hvy.1
  have fin := lopSK (i0 := 0) (N := π 0 3) (z := fun _ _ => none) (b := bX11_laysStays_95 (nI n)) (x := 0) (S := S)
    (fun i S2 => Fr (fun a o => a = 58 ∧ o = 0) S S2 ∧ (∀ i, i < 8 * n → S2 58 0 i = S 58 0 i) ∧ ∀ s, s < i → S2 58 0 (8 * n + s) = nI (pn π so th s)) ?hs ?he (Nat.zero_le _) (by rw [FU_eq]; omega) rfl ⟨Fr.rf, fun _ _ => rfl, fun s h => by omega⟩
  case hs =>
    intro i S1 _ hi ⟨f1, f2, f3⟩
    have hh := m_hurts (S := S1) (π := π) (so := so) (th := th) (s := i) (by unfold MY; rw [f1 35 0 (by omega), f1 38 0 (by omega), f1 39 0 (by omega)]; exact hC) hvy (fun p hp => by rw [f1 51 0 (by omega), f1 52 0 (by omega)]; exact hK p hp) hS hi
    refine ⟨wr S1 58 0 (8 * n + i) (nI (pn π so th i)), ⟨f1.wr ⟨rfl, rfl⟩, fun j hj => by rw [wr_i (by omega)]; exact f2 j hj, fun s hs => ?_⟩, fun kk ag => ?_⟩
    · rcases (show s < i ∨ s = i by omega) with q | rfl
      · rw [wr_i (by omega)]; exact f3 s q
      · rw [wr_same]
    · unfold bX11_laysStays_95
      rw [f1 35 0 (by omega), hC.1, if_neg (nI_ge hi (by omega)), cal_of hh, show (8 : Int32) = nI 8 from rfl, pk_mul, nI_add, ck_nI (show 8 * n + i < 488 by omega) (by omega), bs_e, nI_clamp (by omega), nI_1]
  case he =>
    intro S1 ⟨f1, _⟩ kk ag
    unfold bX11_laysStays_95
    rw [f1 35 0 (by omega), hC.1, if_pos (nI_le (Nat.le_refl _) (by omega))]
  obtain ⟨S2, ⟨f1, f2, f3⟩, e⟩ := fin
  exact ⟨S2, e, f1, f2, f3⟩
theorem l60 {i : Nat} (h : i < 61) : ¬ (60 : Int32) < nI i := show ¬ (nI 60 < nI i) from nI_nlt (by omega) (by omega)
theorem VP.vf {π : Nat → Nat → Nat} {m : Nat} (h : VP π) (hm : m < π 0 2) : VS (fun p => π (4 + m) p) (fun _ => 0) := fun p hp => ⟨(h.2.2.2.1 m hm).2 p hp, Nat.zero_le _⟩
/-- the skin after n months from the first -/
def tf (π : Nat → Nat → Nat) (m n : Nat) : Nat → Nat := tr (π 1 m) (π 0 1) 0 (fun _ => 0) n
def pf (π d : Nat → Nat → Nat) (m H n : Nat) : Bool := agr π (fun p => π (4 + m) p) (tf π m n) d m H
theorem tf_vs {π : Nat → Nat → Nat} {m : Nat} (h : VP π) (hm : m < π 0 2) (n : Nat) : VS (fun p => π (4 + m) p) (tf π m n) := tr_vs (h.vf hm) n
theorem m_lays {S : St} {m H : Nat} {π d : Nat → Nat → Nat} (hP : MP S π) (hE : EM S H d) (hVE : VE π H d) (hV : VP π) (hm : m < π 0 2) : ∃ S2, fX11_laysStays (nI m) S = some (nI (ntn (pf π d m H) 61), S2) ∧ Fr (fun a _ => a = 51 ∨ a = 52 ∨ a = 57 ∨ a = 58) S S2 ∧ ∀ n, n < 61 → S2 57 0 n = bI (pf π d m H n) ∧ ∀ s, s < π 0 3 → S2 58 0 (8 * n + s) = nI (pn π (fun p => π (4 + m) p) (tf π m n) s) := by
  have hM := hV.2.2.1
  have hY := hV.2.2.2.2.1.1
  obtain ⟨T1, x1, y1, y2⟩ := m_takesFirst (S := S) (show m < 6 by omega)
  have k1 : SkM T1 (fun p => π (4 + m) p) (fun _ => 0) := fun p hp => by
    rw [(y2 p hp).1, (y2 p hp).2]; exact ⟨(hP.2.2.2.2.1 m hm).2 p hp, rfl⟩
  have fin := lopASV (i0 := 0) (N := 61) (z := fun _ _ _ => none) (b := bX11_laysStays_9 (nI m) (fun (x2_166 : Int32) (S_166 : St) => some (x2_166, S_166))) (K := fun S2 => some (nI (ntn (pf π d m H) 61), S2)) (x := 0) (a := 0) (S := T1) (fun i => nI (ntn (pf π d m H) i))
    (fun i S2 => Fr (fun a _ => a = 51 ∨ a = 52 ∨ a = 57 ∨ a = 58) S S2 ∧ SkM S2 (fun p => π (4 + m) p) (tf π m i) ∧ ∀ n, n < i → S2 57 0 n = bI (pf π d m H n) ∧ ∀ s, s < π 0 3 → S2 58 0 (8 * n + s) = nI (pn π (fun p => π (4 + m) p) (tf π m n) s)) ?hs ?he (by decide) (by decide) rfl rfl ⟨y1.mono (fun a o h => by omega), k1, fun n h => by omega⟩
  case hs =>
    intro i S1 _ hi ⟨f1, g1, h1⟩
    have hS := tf_vs hV hm i
    obtain ⟨S2, e2, f2, a2, b2⟩ := m_lays25 (S := wr S1 57 0 i 1) (m := m) (n := i) (H := H) (π := π) (d := d) (so := fun p => π (4 + m) p) (th := tf π m i) (by unfold EM; rw [wr_i (a2 := 35) (by omega), wr_other (a2 := 41) (by omega), wr_other (a2 := 42) (by omega), wr_other (a2 := 43) (by omega), f1 35 0 (by omega), f1 41 0 (by omega), f1 42 0 (by omega), f1 43 0 (by omega)]; exact hE) hVE (by unfold MY; rw [wr_i (a2 := 35) (by omega), wr_other (a2 := 38) (by omega), wr_other (a2 := 39) (by omega), f1 35 0 (by omega), f1 38 0 (by omega), f1 39 0 (by omega)]; exact hP.my) hV g1 hS hm hi (wr_same _ _ _ _ _)
    have f2s : Fr (fun a o => a = 57 ∧ o = 0) S1 S2 := fun a o h => by rw [f2 a o h, wr_other (by omega)]
    have fa : Fr (fun a _ => a = 51 ∨ a = 52 ∨ a = 57 ∨ a = 58) S S2 := f1.tr (f2s.mono (fun a o h => by omega))
    have g2 : SkM S2 (fun p => π (4 + m) p) (tf π m i) := fun p hp => by rw [f2s 51 0 (by omega), f2s 52 0 (by omega)]; exact g1 p hp
    obtain ⟨S3, e3, f3, a3, b3⟩ := m_lays95 (S := S2) (n := i) (π := π) (so := fun p => π (4 + m) p) (th := tf π m i) (by unfold MY; rw [fa 35 0 (by omega), fa 38 0 (by omega), fa 39 0 (by omega)]; exact hP.my) hV g2 hS hi
    have fb : Fr (fun a _ => a = 51 ∨ a = 52 ∨ a = 57 ∨ a = 58) S S3 := fa.tr (f3.mono (fun a o h => by omega))
    have g3 : SkM S3 (fun p => π (4 + m) p) (tf π m i) := fun p hp => by rw [f3 51 0 (by omega), f3 52 0 (by omega)]; exact g2 p hp
    obtain ⟨S4, e4, f4, g4⟩ := m_step2 (S := S3) (m := m) (i := i) (kd := π 1 m) (bk := π 0 1) (by omega) (by omega) (by rw [fb 36 0 (by omega)]; exact (hP.2.2.2.2.1 m hm).1) (by rw [fb 35 0 (by omega)]; exact hP.2.1) (hV.2.2.2.1 m hm).1 hV.2.1 g3 hS
    have hb57 : S3 57 0 i = bI (pf π d m H i) := by rw [f3 57 0 (by omega)]; exact b2
    refine ⟨S4, ⟨fb.tr (f4.mono (fun a o h => by omega)), g4, fun n hn => ?_⟩, fun ag => ?_⟩
    · rw [f4 57 0 (by omega), f4 58 0 (by omega)]
      rcases (show n < i ∨ n = i by omega) with q | rfl
      · refine ⟨?_, fun s hs => ?_⟩
        · rw [f3 57 0 (by omega), a2 n (by omega), wr_i (by omega)]; exact (h1 n q).1
        · rw [a3 _ (by omega), f2s 58 0 (by omega)]; exact (h1 n q).2 s hs
      · exact ⟨hb57, b3⟩
    · unfold bX11_laysStays_9
      rw [if_neg (l60 hi), ck_nI hi (by omega), bs_e, nI_clamp (show i < 2 ^ 31 by omega), nar1, jn_e, e2, jn_e, e3, ck_nI hi (by omega), jn_e]
      try dsimp only
      rw [hb57, bi_e, bi_e]
      cases hp : pf π d m H i
      · rw [bI_f, if_pos rfl, e4 (fun S => ag (nI i + 1) _ S), ntn_f hp, nI_1, show (0 : Int32) = nI 0 from rfl, nI_add]
        first | done | rfl
      · rw [bI_t, if_neg n10, e4 (fun S => ag (nI i + 1) _ S), ntn_t hp, nI_1, nI_1]
  case he =>
    intro S1 ⟨f1, g1, h1⟩ ag
    unfold bX11_laysStays_9
    rw [if_pos (show (60 : Int32) < nI 61 by decide)]
  obtain ⟨S2, ⟨f1, g1, h1⟩, e⟩ := fin
  refine ⟨S2, ?_, f1, h1⟩
  unfold fX11_laysStays
  rw [cal_of x1, jn_e, e]
