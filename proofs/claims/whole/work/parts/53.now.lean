theorem l5 {i : Nat} (h : i < 5) : ¬ ((5 : Int32) ≤ nI i) := nI_ge h (by decide)
def CP (S : St) (k : Nat) (π : Nat → Nat → Nat) : Prop := (∀ i, i < 4 → S 3 k i = nI (π 0 i)) ∧ (∀ m, m < π 0 2 → S 4 k m = nI (π 1 m) ∧ ∀ p, p < 5 → S 6 (6 * k + m) p = nI (π (4 + m) p)) ∧ ∀ s, s < π 0 3 → S 7 k s = nI (π 2 s) ∧ S 8 k s = nI (π 3 s)
def MP (S : St) (π : Nat → Nat → Nat) : Prop := S 35 0 0 = nI (π 0 0) ∧ S 35 0 1 = nI (π 0 1) ∧ S 35 0 2 = nI (π 0 2) ∧ S 35 0 5 = nI (π 0 3) ∧ (∀ m, m < π 0 2 → S 36 0 m = nI (π 1 m) ∧ ∀ p, p < 5 → S 37 0 (5 * m + p) = nI (π (4 + m) p)) ∧ ∀ s, s < π 0 3 → S 38 0 s = nI (π 2 s) ∧ S 39 0 s = nI (π 3 s)
def VP (π : Nat → Nat → Nat) : Prop := π 0 0 ≤ 3 ∧ π 0 1 ≤ 9 ∧ π 0 2 ≤ 6 ∧ (∀ m, m < π 0 2 → π 1 m ≤ 3 ∧ ∀ p, p < 5 → π (4 + m) p ≤ 30) ∧ VY π ∧ (π 0 0 = 0 → π 0 2 = 0 ∧ π 0 3 = 0)
theorem CP.cy {S : St} {k : Nat} {π : Nat → Nat → Nat} (h : CP S k π) : CY S k π := ⟨h.1 3 (by decide), h.2.2⟩
theorem MP.my {S : St} {π : Nat → Nat → Nat} (h : MP S π) : MY S π := ⟨h.2.2.2.1, h.2.2.2.2.2⟩
def CN (S : St) (k M : Nat) (kd : Nat → Nat) (ν : Nat → Nat → Nat) : Prop := pid (S 9 0 0) = k ∧ (∀ i, i < 3 → S 9 0 (1 + i) = nI (ν 0 i)) ∧ ∀ m, m < M → S 11 m 0 = nI (kd m) ∧ S 11 m 1 = nI (ν (m + 1) 0) ∧ S 11 m 2 = nI (ν (m + 1) 1) ∧ ∀ p, p < 5 → S 12 m p = nI (ν (m + 1) (2 + p)) ∧ S 13 m p = nI (ν (m + 1) (7 + p))
def MN (g : Nat → Int32) (M : Nat) (ν : Nat → Nat → Nat) : Prop := g 0 = nI (ν 0 0) ∧ g 1 = nI (ν 0 1) ∧ g 2 = nI (msk (fun m => decide (ν (m + 1) 0 = 1)) M) ∧ g 3 = nI (ν 0 2) ∧ ∀ m, m < M → g (64 + m) = nI (ν (m + 1) 1) ∧ ∀ p, p < 5 → g (4 + 5 * m + p) = nI (ν (m + 1) (2 + p)) ∧ g (34 + 5 * m + p) = nI (ν (m + 1) (7 + p))
def VN (M : Nat) (ν : Nat → Nat → Nat) : Prop := ν 0 0 ≤ 9060 ∧ ν 0 1 ≤ 9 ∧ ν 0 2 ≤ 999999 ∧ ∀ m, m < M → ν (m + 1) 0 ≤ 1 ∧ ν (m + 1) 1 ≤ 99999 ∧ ∀ p, p < 5 → ν (m + 1) (2 + p) ≤ 30 ∧ ν (m + 1) (7 + p) ≤ 99
theorem CN.sk {S : St} {k M m : Nat} {kd : Nat → Nat} {ν : Nat → Nat → Nat} (h : CN S k M kd ν) (hm : m < M) : SkC S m (fun p => ν (m + 1) (2 + p)) (fun p => ν (m + 1) (7 + p)) := (h.2.2 m hm).2.2.2
theorem VN.vs {M m : Nat} {ν : Nat → Nat → Nat} (h : VN M ν) (hm : m < M) : VS (fun p => ν (m + 1) (2 + p)) (fun p => ν (m + 1) (7 + p)) := (h.2.2.2 m hm).2.2
theorem m_takesSkin {S : St} {m : Nat} (hm : m < 6) : ∃ S2, fX11_takesSkin (nI m) S = some (0, S2) ∧ Fr (fun a _ => a = 51 ∨ a = 52) S S2 ∧ ∀ p, p < 5 → S2 51 0 p = S 40 0 (4 + 5 * m + p) ∧ S2 52 0 p = S 40 0 (34 + 5 * m + p) := by
  have fin := lopSV (i0 := 0) (N := 5) (z := fun _ _ => none) (b := bX11_takesSkin_2 (nI m) (fun S => some (0, S))) (K := fun S => some (0, S)) (x := 0) (S := S)
    (fun i S1 => Fr (fun a _ => a = 51 ∨ a = 52) S S1 ∧ ∀ p, p < i → S1 51 0 p = S 40 0 (4 + 5 * m + p) ∧ S1 52 0 p = S 40 0 (34 + 5 * m + p)) ?hs ?he (by decide) (by decide) rfl ⟨Fr.rf, fun p h => by omega⟩
  case hs =>
    intro i S1 _ hi ⟨h1, h2⟩
    refine ⟨_, ⟨(h1.wr (a := 51) (o := 0) (i := i) (v := S 40 0 (4 + 5 * m + i)) (Or.inl rfl)).wr (a := 52) (o := 0) (i := i) (v := S 40 0 (34 + 5 * m + i)) (Or.inr rfl), fun p hp => ?_⟩, fun ag => ?_⟩
    · rcases (show p < i ∨ p = i by omega) with q | rfl
      · rw [wr_i (by omega), wr_i (by omega), wr_i (by omega), wr_i (by omega)]; exact h2 p q
      · rw [wr_i (by omega), wr_same, wr_same]; exact ⟨rfl, rfl⟩
    · simp only [bX11_takesSkin_2, bs]
      rw [if_neg (l5 hi)]
      rw [show (4 : Int32) = nI 4 from rfl, show (5 : Int32) = nI 5 from rfl, show (34 : Int32) = nI 34 from rfl, pk_mul, nI_add, nI_add, nI_add, nI_add]
      rw [ck_nI (show 4 + 5 * m + i < 70 by omega) (by omega), ck_nI hi (by omega), ck_nI (show 34 + 5 * m + i < 70 by omega) (by omega), ck_nI hi (by omega)]
      rw [nI_clamp (show i < 2 ^ 31 by omega), nI_clamp (show 4 + 5 * m + i < 2 ^ 31 by omega), nI_clamp (show 34 + 5 * m + i < 2 ^ 31 by omega), nI_1]
      rw [wr_other (a2 := 40) (by omega), h1 40 0 (by omega)]
  case he =>
    intro S1 h ag
    simp only [bX11_takesSkin_2, bs]
    rw [if_pos (show ((5 : Int32) ≤ nI 5) from by decide)]
  obtain ⟨S2, hI, e⟩ := fin
  exact ⟨S2, e, hI.1, hI.2⟩
theorem m_takesFirst {S : St} {m : Nat} (hm : m < 6) : ∃ S2, fX11_takesFirst (nI m) S = some (0, S2) ∧ Fr (fun a _ => a = 51 ∨ a = 52) S S2 ∧ ∀ p, p < 5 → S2 51 0 p = S 37 0 (5 * m + p) ∧ S2 52 0 p = 0 := by
  have fin := lopSV (i0 := 0) (N := 5) (z := fun _ _ => none) (b := bX11_takesFirst_2 (nI m) (fun S => some (0, S))) (K := fun S => some (0, S)) (x := 0) (S := S)
    (fun i S1 => Fr (fun a _ => a = 51 ∨ a = 52) S S1 ∧ ∀ p, p < i → S1 51 0 p = S 37 0 (5 * m + p) ∧ S1 52 0 p = 0) ?hs ?he (by decide) (by decide) rfl ⟨Fr.rf, fun p h => by omega⟩
  case hs =>
    intro i S1 _ hi ⟨h1, h2⟩
    refine ⟨_, ⟨(h1.wr (a := 51) (o := 0) (i := i) (v := S 37 0 (5 * m + i)) (Or.inl rfl)).wr (a := 52) (o := 0) (i := i) (v := 0) (Or.inr rfl), fun p hp => ?_⟩, fun ag => ?_⟩
    · rcases (show p < i ∨ p = i by omega) with q | rfl
      · rw [wr_i (by omega), wr_i (by omega), wr_i (by omega), wr_i (by omega)]; exact h2 p q
      · rw [wr_i (by omega), wr_same, wr_same]; exact ⟨rfl, rfl⟩
    · simp only [bX11_takesFirst_2, bs]
      rw [if_neg (l5 hi)]
      rw [show (5 : Int32) = nI 5 from rfl, pk_mul, nI_add]
      rw [ck_nI (show 5 * m + i < 30 by omega) (by omega), ck_nI hi (by omega), ck_nI hi (by omega)]
      rw [nI_clamp (show i < 2 ^ 31 by omega), nI_clamp (show 5 * m + i < 2 ^ 31 by omega), nI_1]
      rw [h1 37 0 (by omega)]
  case he =>
    intro S1 h ag
    simp only [bX11_takesFirst_2, bs]
    rw [if_pos (show ((5 : Int32) ≤ nI 5) from by decide)]
  obtain ⟨S2, hI, e⟩ := fin
  exact ⟨S2, e, hI.1, hI.2⟩
theorem m_thin {T : Nat → Nat} {S : St} {kk : Int32 → Op} (hT : ∀ p, p < 5 → S 52 0 p = nI (T p)) (hb : ∀ p, p < 5 → T p < 2 ^ 30) : lop (fun _ _ => none) (bX11_tans_6 S kk) FU (1 : Int32) (0 : Int32) = kk (nI (thin T 5)) := by
  refine lopA (i0 := 1) (N := 5) (fun i => nI (thin T i)) (fun i h0 hi ag => ?_) (fun ag => ?_) (by decide) (by decide) rfl (by rw [thin_1]; rfl)
  · unfold bX11_tans_6
    have ht := thin_lt T i h0
    rw [if_neg (l5 hi), ck_nI hi (by omega), ck_nI (show thin T i < 5 by omega) (by omega), nI_clamp (by omega), nI_clamp (by omega), hT i hi, hT _ (show thin T i < 5 by omega), nI_1]
    have b1 := hb i hi
    have b2 := hb _ (show thin T i < 5 by omega)
    by_cases h : T (thin T i) ≤ T i
    · rw [if_pos ((nI_leI (by omega) (by omega)).mpr h)]
      show ag _ _ = ag _ (nI (if T i < T (thin T i) then i else thin T i))
      rw [if_neg (by omega)]
    · rw [if_neg (fun q => h ((nI_leI (by omega) (by omega)).mp q))]
      show ag _ _ = ag _ (nI (if T i < T (thin T i) then i else thin T i))
      rw [if_pos (by omega)]
  · unfold bX11_tans_6
    rw [if_pos (show ((5 : Int32) ≤ nI 5) from by decide)]
theorem m_capped {v : Nat} {S : St} (hv : v < 2 ^ 31) : fX11_capped (nI v) S = some (nI (min 99 v), S) := by
  unfold fX11_capped
  by_cases h : v ≤ 99
  · rw [if_pos (show nI v ≤ (99 : Int32) from (nI_leI hv (by decide)).mpr h), Nat.min_eq_right h]
  · rw [if_neg (show ¬ nI v ≤ (99 : Int32) from fun q => h ((nI_leI hv (by decide)).mp q)), Nat.min_eq_left (by omega)]
    rfl
/-- by how much a place thickens -/
def byN (kd bk mo t p : Nat) : Nat := if kd = 1 then (if p = 2 then 0 else bk / 2 + 1) else if kd = 2 then (if p = mo % 5 then 1 else 0) else if kd = 3 then (if p = t then 3 * bk else 0) else bk
theorem byN_tan {kd bk mo p : Nat} {T : Nat → Nat} (hk : kd ≤ 3) (h : T p ≤ 99) : min 99 (T p + byN kd bk mo (thin T 5) p) = tanN kd bk mo T p := by
  unfold byN tanN
  rcases (show kd = 0 ∨ kd = 1 ∨ kd = 2 ∨ kd = 3 by omega) with rfl | rfl | rfl | rfl
  · simp
  · simp; split <;> omega
  · simp; split <;> omega
  · simp; split <;> omega
theorem byN_le {kd bk mo t p : Nat} (h : bk ≤ 9) : byN kd bk mo t p ≤ 30 := by
  unfold byN
  repeat' split
  all_goals omega
theorem m_tans {kd bk mo : Nat} {T : Nat → Nat} {S : St} (hkd : kd ≤ 3) (hbk : bk ≤ 9) (hmo : mo < 2 ^ 20) (hT : ∀ p, p < 5 → S 52 0 p = nI (T p)) (hb : ∀ p, p < 5 → T p ≤ 99) : ∃ S2, fX11_tans (nI kd) (nI bk) (nI mo) S = some (0, S2) ∧ Fr (fun a q => a = 52 ∧ q = 0) S S2 ∧ ∀ p, p < 5 → S2 52 0 p = nI (tanN kd bk mo T p) := by
  have hb2 : ∀ p, p < 5 → T p < 2 ^ 30 := fun p hp => by have := hb p hp; omega
  simp only [fX11_tans, jn]
  rw [m_thin hT hb2]
  have ht5 := thin_lt T 5 (by decide)
  have fin := lopSV (i0 := 0) (N := 5) (z := fun _ _ => none) (b := bX11_tans_47 (nI kd) (nI bk) (nI mo) (nI (thin T 5)) (fun S => some (0, S))) (K := fun S => some (0, S)) (x := 0) (S := S)
    (fun i S1 => Fr (fun a q => a = 52 ∧ q = 0) S S1 ∧ (∀ p, p < i → S1 52 0 p = nI (tanN kd bk mo T p)) ∧ ∀ p, i ≤ p → S1 52 0 p = S 52 0 p) ?hs ?he (by decide) (by decide) rfl ⟨Fr.rf, fun p h => by omega, fun p _ => rfl⟩
  case hs =>
    intro i S1 _ hi ⟨h1, h2, h3⟩
    refine ⟨_, ⟨h1.wr (a := 52) (o := 0) (i := i) (v := nI (tanN kd bk mo T i)) ⟨rfl, rfl⟩, fun p hp => ?_, fun p hp => ?_⟩, fun ag => ?_⟩
    · rcases (show p < i ∨ p = i by omega) with q | rfl
      · rw [wr_i (by omega)]; exact h2 p q
      · rw [wr_same]
    · rw [wr_i (by omega)]; exact h3 p (by omega)
    · have bT := hb i hi
      have bB := byN_le (kd := kd) (mo := mo) (t := thin T 5) (p := i) hbk
      have key : bX11_tans_47 (nI kd) (nI bk) (nI mo) (nI (thin T 5)) (fun S => some (0, S)) ag (nI i) S1 = jn (fun (v0_120 : Int32) => ck (nI i) 5 <| cal (fX11_capped ((S1 52 0 (Int32.toNatClampNeg (nI i))) + v0_120) S1) fun r_138 S_138 => ck (nI i) 5 <| bs (wr S_138 52 0 (Int32.toNatClampNeg (nI i)) r_138) fun S_141 => ag (nI i + (1 : Int32)) S_141) fun j => j (nI (byN kd bk mo (thin T 5) i)) := by
        unfold bX11_tans_47
        rw [if_neg (l5 hi)]
        unfold jn byN
        rw [show (2 : Int32) = nI 2 from rfl, show (1 : Int32) = nI 1 from rfl, show (3 : Int32) = nI 3 from rfl, show (5 : Int32) = nI 5 from rfl, show (0 : Int32) = nI 0 from rfl, idiv_nI (show bk < 2 ^ 31 by omega) (by decide) (by decide), irm_nI (show mo < 2 ^ 31 by omega) (by decide) (by decide), pk_mul, nI_add]
        simp (disch := omega) only [nI_eq]
        repeat' split
        all_goals rfl
      rw [key]
      simp only [jn, bs]
      rw [ck_nI hi (by omega), nI_clamp (show i < 2 ^ 31 by omega), h3 i (Nat.le_refl _), hT i hi, nI_add, cal_of (m_capped (by omega)), ck_nI hi (by omega), nI_1, byN_tan hkd bT]
  case he =>
    intro S1 h ag
    unfold bX11_tans_47
    rw [if_pos (show ((5 : Int32) ≤ nI 5) from by decide)]
  obtain ⟨S2, hI, e⟩ := fin
  exact ⟨S2, e, hI.1, hI.2.1⟩
theorem m_hurtOf {S : St} {M m s : Nat} {π ν : Nat → Nat → Nat} (hY : MY S π) (hV : VY π) (hN : MN (S 40 0) M ν) (hW : VN M ν) (hM : M ≤ 6) (hm : m < M) (hs : s < π 0 3) : ∃ S2, fX11_hurtOf (nI m) (nI s) S = some (nI (pn π (fun p => ν (m + 1) (2 + p)) (fun p => ν (m + 1) (7 + p)) s), S2) ∧ Fr (fun a _ => a = 51 ∨ a = 52) S S2 := by
  obtain ⟨S2, e, h1, h2⟩ := m_takesSkin (S := S) (show m < 6 by omega)
  have hK : SkM S2 (fun p => ν (m + 1) (2 + p)) (fun p => ν (m + 1) (7 + p)) := fun p hp => by
    rw [(h2 p hp).1, (h2 p hp).2]; exact (hN.2.2.2.2 m hm).2 p hp
  have hY2 : MY S2 π := by unfold MY; rw [h1 35 0 (by omega), h1 38 0 (by omega), h1 39 0 (by omega)]; exact hY
  refine ⟨S2, ?_, h1⟩
  unfold fX11_hurtOf
  rw [cal_of e, cal_of (m_hurts hY2 hV hK (hW.vs hm) hs)]
