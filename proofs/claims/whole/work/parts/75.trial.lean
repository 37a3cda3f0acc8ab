section LOPW
variable {i0 N : Nat}
theorem lop_runV {α : Type} {z : α} {b : α → α} (ev : α → Nat → St → Op) {K : St → Op} (I : Nat → St → Prop) (hs : ∀ i S, i0 ≤ i → i < N → I i S → ∃ S2, I (i + 1) S2 ∧ ∀ ag : α, ev (b ag) i S = ev ag (i + 1) S2) (he : ∀ S, I N S → ∀ ag : α, ev (b ag) N S = K S) (h1 : i0 ≤ N) (h2 : N - i0 < FU) {S : St} (hI : I i0 S) : ∃ S2, I N S2 ∧ ev (lop z b FU) i0 S = K S2 := by
  have key : ∀ n i S, i0 ≤ i → i ≤ N → N < n + i → I i S → ∃ S2, I N S2 ∧ ev (lop z b n) i S = K S2 := by
    intro n
    induction n with
    | zero => intro i S _ h4 h5; omega
    | succ n ih =>
      intro i S h3 h4 h5 h6
      show ∃ S2, I N S2 ∧ ev (b (lop z b n)) i S = K S2
      rcases Nat.lt_or_ge i N with h | h
      · obtain ⟨S1, g1, g2⟩ := hs i S h3 h h6
        rw [g2]
        exact ih (i + 1) S1 (by omega) (by omega) (by omega) g1
      · have e : i = N := by omega
        subst e
        exact ⟨S, h6, he S h6 _⟩
  exact key FU i0 S (Nat.le_refl _) h1 (by omega) hI
theorem lopASV {z : Int32 → Int32 → St → Op} {b : (Int32 → Int32 → St → Op) → Int32 → Int32 → St → Op} {K : St → Op} (A : Nat → Int32) (I : Nat → St → Prop) (hs : ∀ i S, i0 ≤ i → i < N → I i S → ∃ S2, I (i + 1) S2 ∧ ∀ ag, b ag (nI i) (A i) S = ag (nI (i + 1)) (A (i + 1)) S2) (he : ∀ S, I N S → ∀ ag, b ag (nI N) (A N) S = K S) (h1 : i0 ≤ N) (h2 : N - i0 < FU) {x a : Int32} {S : St} (hx : x = nI i0) (ha : A i0 = a) (hI : I i0 S) : ∃ S2, I N S2 ∧ lop z b FU x a S = K S2 := by
  subst hx; subst ha
  exact lop_runV (ev := fun (f : Int32 → Int32 → St → Op) i S => f (nI i) (A i) S) I hs he h1 h2 hI
theorem lopAASV {z : Int32 → Int32 → Int32 → St → Op} {b : (Int32 → Int32 → Int32 → St → Op) → Int32 → Int32 → Int32 → St → Op} {K : St → Op} (A B : Nat → Int32) (I : Nat → St → Prop) (hs : ∀ i S, i0 ≤ i → i < N → I i S → ∃ S2, I (i + 1) S2 ∧ ∀ ag, b ag (nI i) (A i) (B i) S = ag (nI (i + 1)) (A (i + 1)) (B (i + 1)) S2) (he : ∀ S, I N S → ∀ ag, b ag (nI N) (A N) (B N) S = K S) (h1 : i0 ≤ N) (h2 : N - i0 < FU) {x a c : Int32} {S : St} (hx : x = nI i0) (ha : A i0 = a) (hc : B i0 = c) (hI : I i0 S) : ∃ S2, I N S2 ∧ lop z b FU x a c S = K S2 := by
  subst hx; subst ha; subst hc
  exact lop_runV (ev := fun (f : Int32 → Int32 → Int32 → St → Op) i S => f (nI i) (A i) (B i) S) I hs he h1 h2 hI
theorem lopAAASV {z : Int32 → Int32 → Int32 → Int32 → St → Op} {b : (Int32 → Int32 → Int32 → Int32 → St → Op) → Int32 → Int32 → Int32 → Int32 → St → Op} {K : St → Op} (A B C : Nat → Int32) (I : Nat → St → Prop) (hs : ∀ i S, i0 ≤ i → i < N → I i S → ∃ S2, I (i + 1) S2 ∧ ∀ ag, b ag (nI i) (A i) (B i) (C i) S = ag (nI (i + 1)) (A (i + 1)) (B (i + 1)) (C (i + 1)) S2) (he : ∀ S, I N S → ∀ ag, b ag (nI N) (A N) (B N) (C N) S = K S) (h1 : i0 ≤ N) (h2 : N - i0 < FU) {x a c e : Int32} {S : St} (hx : x = nI i0) (ha : A i0 = a) (hc : B i0 = c) (hd : C i0 = e) (hI : I i0 S) : ∃ S2, I N S2 ∧ lop z b FU x a c e S = K S2 := by
  subst hx; subst ha; subst hc; subst hd
  exact lop_runV (ev := fun (f : Int32 → Int32 → Int32 → Int32 → St → Op) i S => f (nI i) (A i) (B i) (C i) S) I hs he h1 h2 hI
end LOPW
/-- months on trial -/
def tr (kd bk mo : Nat) (T : Nat → Nat) : Nat → Nat → Nat
  | 0 => T
  | i + 1 => tanN kd bk (mo + i) (tr kd bk mo T i)
theorem tr_le {kd bk mo : Nat} {T : Nat → Nat} (h : ∀ p, p < 5 → T p ≤ 99) : ∀ i p, p < 5 → tr kd bk mo T i p ≤ 99
  | 0, p, hp => h p hp
  | i + 1, p, hp => tanN_le (tr_le h i p hp)
theorem tr_vs {kd bk mo : Nat} {so T : Nat → Nat} (h : VS so T) (i : Nat) : VS so (tr kd bk mo T i) := fun p hp => ⟨(h p hp).1, tr_le (fun p hp => (h p hp).2) i p hp⟩
def trC (a o : Nat) : Prop := a = 30 ∨ ((a = 11 ∨ a = 12 ∨ a = 13) ∧ o = 6)
def TC (S : St) (so T : Nat → Nat) (kd bk mo : Nat) : Prop := S 11 6 0 = nI kd ∧ SkC S 6 so T ∧ S 30 0 1 = nI bk ∧ S 30 0 2 = nI mo
theorem c_copySkin {S : St} {o : Nat} (ho : o < 6) : ∃ S1, fX3_copySkin 6 o S = some (0, S1) ∧ Fr (fun a q => (a = 11 ∨ a = 12 ∨ a = 13) ∧ q = 6) S S1 ∧ S1 11 6 0 = S 11 o 0 ∧ ∀ p, p < 5 → S1 12 6 p = S 12 o p ∧ S1 13 6 p = S 13 o p := by
  have fin := lopSK (i0 := 0) (N := 5) (z := fun _ _ => none) (b := bX3_copySkin_10 6 o) (x := 0) (S := wr S 11 6 0 (S 11 o 0))
    (fun i S1 => Fr (fun a q => (a = 11 ∨ a = 12 ∨ a = 13) ∧ q = 6) S S1 ∧ S1 11 6 0 = S 11 o 0 ∧ ∀ p, p < i → S1 12 6 p = S 12 o p ∧ S1 13 6 p = S 13 o p) ?hs ?he (by decide) (by decide) rfl ⟨Fr.rf.wr ⟨Or.inl rfl, rfl⟩, wr_same _ _ _ _ _, fun p h => by omega⟩
  case hs =>
    intro i S1 _ hi ⟨h1, h2, h3⟩
    refine ⟨wr (wr S1 12 6 i (S 12 o i)) 13 6 i (S 13 o i), ⟨(h1.wr (by omega)).wr (by omega), by rw [wr_i (by omega), wr_i (by omega)]; exact h2, fun p hp => ?_⟩, fun kk ag => ?_⟩
    · rcases (show p < i ∨ p = i by omega) with q | rfl
      · rw [wr_i (by omega), wr_i (by omega), wr_i (by omega), wr_i (by omega)]; exact h3 p q
      · rw [wr_i (by omega), wr_same, wr_same]; exact ⟨rfl, rfl⟩
    · unfold bX3_copySkin_10
      rw [if_neg (l5 hi), ck_nI hi (by omega), ck_nI hi (by omega), bs_e, ck_nI hi (by omega), ck_nI hi (by omega), bs_e, nI_clamp (by omega), wr_i (a2 := 13) (by omega), h1 12 o (by omega), h1 13 o (by omega), nI_1]
  case he =>
    intro S1 h kk ag
    unfold bX3_copySkin_10
    rw [if_pos (show ((5 : Int32) ≤ nI 5) from by decide)]
  obtain ⟨S2, ⟨h1, h2, h3⟩, e⟩ := fin
  refine ⟨S2, ?_, h1, h2, h3⟩
  unfold fX3_copySkin
  rw [bs_e, jn_e, e]
theorem c_begin {S : St} {o k m : Nat} (hm : m < 6) : ∃ S1, fX3_begin o k (nI m) S = some (0, S1) ∧ Fr (fun a q => (a = 11 ∨ a = 12 ∨ a = 13) ∧ q = o) S S1 ∧ S1 11 o 0 = S 4 k m ∧ S1 11 o 1 = 0 ∧ S1 11 o 2 = 0 ∧ ∀ p, p < 5 → S1 12 o p = S 6 (6 * k + m) p ∧ S1 13 o p = 0 := by
  have fin := lopSK (i0 := 0) (N := 5) (z := fun _ _ => none) (b := bX3_begin_22 o k (nI m)) (x := 0) (S := wr (wr (wr S 11 o 0 (S 4 k m)) 11 o 1 0) 11 o 2 0)
    (fun i S1 => Fr (fun a q => (a = 11 ∨ a = 12 ∨ a = 13) ∧ q = o) S S1 ∧ S1 11 o 0 = S 4 k m ∧ S1 11 o 1 = 0 ∧ S1 11 o 2 = 0 ∧ ∀ p, p < i → S1 12 o p = S 6 (6 * k + m) p ∧ S1 13 o p = 0) ?hs ?he (by decide) (by decide) rfl ⟨((Fr.rf.wr ⟨Or.inl rfl, rfl⟩).wr ⟨Or.inl rfl, rfl⟩).wr ⟨Or.inl rfl, rfl⟩, by rw [wr_i (by omega), wr_i (by omega), wr_same], by rw [wr_i (by omega), wr_same], wr_same _ _ _ _ _, fun p h => by omega⟩
  case hs =>
    intro i S1 _ hi ⟨h1, h2, h4, h5, h3⟩
    refine ⟨wr (wr S1 12 o i (S 6 (6 * k + m) i)) 13 o i 0, ⟨(h1.wr (by omega)).wr (by omega), by rw [wr_i (by omega), wr_i (by omega)]; exact h2, by rw [wr_i (by omega), wr_i (by omega)]; exact h4, by rw [wr_i (by omega), wr_i (by omega)]; exact h5, fun p hp => ?_⟩, fun kk ag => ?_⟩
    · rcases (show p < i ∨ p = i by omega) with q | rfl
      · rw [wr_i (by omega), wr_i (by omega), wr_i (by omega), wr_i (by omega)]; exact h3 p q
      · rw [wr_i (by omega), wr_same, wr_same]; exact ⟨rfl, rfl⟩
    · unfold bX3_begin_22
      rw [if_neg (l5 hi), ck_nI hm (by omega), ck_nI hi (by omega), ck_nI hi (by omega), bs_e, ck_nI hi (by omega), bs_e, nI_clamp (show i < 2 ^ 31 by omega), nI_clamp (show m < 2 ^ 31 by omega), h1 6 _ (by omega), nI_1]
  case he =>
    intro S1 h kk ag
    unfold bX3_begin_22
    rw [if_pos (show ((5 : Int32) ≤ nI 5) from by decide)]
  obtain ⟨S2, ⟨h1, h2, h4, h5, h3⟩, e⟩ := fin
  refine ⟨S2, ?_, h1, h2, h4, h5, h3⟩
  unfold fX3_begin
  rw [ck_nI hm (by omega), bs_e, bs_e, bs_e, jn_e, nI_clamp (by omega), e]
theorem c_clear {S : St} : fX9_clearNotes S = some (0, wr (wr (wr S 30 0 3 0) 30 0 4 (-1)) 30 0 5 (-1)) := rfl
theorem c_startNow {S : St} {k m : Nat} {π ν : Nat → Nat → Nat} (hN : CN S k (π 0 2) (π 1) ν) (hV : VP π) (hm : m < π 0 2) : ∃ S1, fX9_startNow (nI m) S = some (0, S1) ∧ Fr trC S S1 ∧ TC S1 (fun p => ν (m + 1) (2 + p)) (fun p => ν (m + 1) (7 + p)) (π 1 m) (ν 0 1) (ν 0 0) ∧ S1 30 0 3 = nI 0 ∧ S1 30 0 4 = -1 ∧ S1 30 0 5 = -1 := by
  have hM := hV.2.2.1
  obtain ⟨S1, e1, f1, g1, g2⟩ := c_copySkin (S := S) (o := m) (by omega)
  have n1 : S1 9 0 1 = nI (ν 0 0) := by rw [f1 9 0 (by omega)]; exact hN.2.1 0 (by decide)
  have n2 : S1 9 0 2 = nI (ν 0 1) := by rw [f1 9 0 (by omega)]; exact hN.2.1 1 (by decide)
  obtain ⟨k0, -, -, k3⟩ := hN.2.2 m hm
  refine ⟨wr (wr (wr (wr (wr S1 30 0 1 (nI (ν 0 1))) 30 0 2 (nI (ν 0 0))) 30 0 3 0) 30 0 4 (-1)) 30 0 5 (-1), ?_, (((((f1.mono (fun a o h => by unfold trC; omega)).wr (Or.inl rfl)).wr (Or.inl rfl)).wr (Or.inl rfl)).wr (Or.inl rfl)).wr (Or.inl rfl), ⟨?_, fun p hp => ?_, ?_, ?_⟩, ?_, ?_, wr_same _ _ _ _ _⟩
  · unfold fX9_startNow
    rw [ck_nI (show m < 6 by omega) (by omega), nI_clamp (by omega), cal_of e1, bs_e, bs_e, n2, wr_i (a2 := 9) (by omega), n1, c_clear, cal_s]
  · simp (disch := omega) only [wr_i]
    rw [g1]; exact k0
  · simp (disch := omega) only [wr_i]
    rw [(g2 p hp).1, (g2 p hp).2]; exact k3 p hp
  · simp (disch := omega) only [wr_i, wr_same]
  · simp (disch := omega) only [wr_i, wr_same]
  · simp (disch := omega) only [wr_i, wr_same]
    rfl
  · simp (disch := omega) only [wr_i, wr_same]
theorem c_startFirst {S : St} {k m : Nat} {π : Nat → Nat → Nat} (hC : CP S k π) (hV : VP π) (hm : m < π 0 2) : ∃ S1, fX9_startFirst k (nI m) S = some (0, S1) ∧ Fr trC S S1 ∧ TC S1 (fun p => π (4 + m) p) (fun _ => 0) (π 1 m) (π 0 1) 0 ∧ S1 30 0 3 = nI 0 ∧ S1 30 0 4 = -1 ∧ S1 30 0 5 = -1 := by
  have hM := hV.2.2.1
  obtain ⟨S1, e1, f1, g1, -, -, g2⟩ := c_begin (S := S) (o := 6) (k := k) (m := m) (by omega)
  have n1 : S1 3 k 1 = nI (π 0 1) := by rw [f1 3 k (by omega)]; exact hC.1 1 (by decide)
  refine ⟨wr (wr (wr (wr (wr S1 30 0 1 (nI (π 0 1))) 30 0 2 0) 30 0 3 0) 30 0 4 (-1)) 30 0 5 (-1), ?_, (((((f1.mono (fun a o h => by unfold trC; omega)).wr (Or.inl rfl)).wr (Or.inl rfl)).wr (Or.inl rfl)).wr (Or.inl rfl)).wr (Or.inl rfl), ⟨?_, fun p hp => ?_, ?_, ?_⟩, ?_, ?_, wr_same _ _ _ _ _⟩
  · unfold fX9_startFirst
    rw [cal_of e1, bs_e, bs_e, n1, c_clear, cal_s]
  · simp (disch := omega) only [wr_i]
    rw [g1]; exact (hC.2.1 m hm).1
  · simp (disch := omega) only [wr_i]
    rw [(g2 p hp).1, (g2 p hp).2]; exact ⟨(hC.2.1 m hm).2 p hp, rfl⟩
  · simp (disch := omega) only [wr_i, wr_same]
  · simp (disch := omega) only [wr_i, wr_same]
    rfl
  · simp (disch := omega) only [wr_i, wr_same]
    rfl
  · simp (disch := omega) only [wr_i, wr_same]
theorem c_pass9 {S : St} {so T : Nat → Nat} {kd bk mo : Nat} (h : TC S so T kd bk mo) (hS : VS so T) (hkd : kd ≤ 3) (hbk : bk ≤ 9) (hmo : mo < 2 ^ 20) : ∃ S1, fX9_passMonth S = some (0, S1) ∧ Fr trC S S1 ∧ TC S1 so (tanN kd bk mo T) kd bk (mo + 1) ∧ ∀ i, 3 ≤ i → S1 30 0 i = S 30 0 i := by
  obtain ⟨h1, h2, h3, h4⟩ := h
  obtain ⟨S1, e1, f1, f2⟩ := p_tan (S := S) (o := 6) (kd := kd) (bk := bk) (mo := mo) (T := T) h1 hkd hbk hmo (fun p hp => (h2 p hp).2) (fun p hp => (hS p hp).2)
  refine ⟨wr S1 30 0 2 (nI (mo + 1)), ?_, (f1.mono (fun a o h => by unfold trC; omega)).wr (Or.inl rfl), ⟨?_, fun p hp => ?_, ?_, wr_same _ _ _ _ _⟩, fun i hi => ?_⟩
  · unfold fX9_passMonth
    rw [h3, h4, cal_of e1, bs_e, f1 30 0 (by omega), h4, nI_1]
  · rw [wr_i (by omega), f1 11 6 (by omega)]; exact h1
  · rw [wr_i (by omega), wr_i (by omega), f1 12 6 (by omega)]; exact ⟨(h2 p hp).1, f2 p hp⟩
  · rw [wr_i (by omega), f1 30 0 (by omega)]; exact h3
  · rw [wr_i (by omega), f1 30 0 (by omega)]
theorem m_step {S : St} {m i kd bk mo : Nat} {so T : Nat → Nat} (hm : m < 6) (hi : i ≤ 200) (h36 : S 36 0 m = nI kd) (h1 : S 40 0 1 = nI bk) (h0 : S 40 0 0 = nI mo) (hkd : kd ≤ 3) (hbk : bk ≤ 9) (hmo : mo < 2 ^ 19) (hK : SkM S so T) (hS : VS so T) : ∃ S1, (∀ K : St → Op, (ck (nI m) 6 <| ck (1 : Int32) 70 <| ck (0 : Int32) 70 <| cal (fX11_tans (S 36 0 (Int32.toNatClampNeg (nI m))) (S 40 0 (Int32.toNatClampNeg (1 : Int32))) ((S 40 0 (Int32.toNatClampNeg (0 : Int32))) + nI i) S) fun _ S2 => K S2) = K S1) ∧ Fr (fun a q => a = 52 ∧ q = 0) S S1 ∧ SkM S1 so (tanN kd bk (mo + i) T) := by
  obtain ⟨S1, e, f, g⟩ := m_tans (S := S) (kd := kd) (bk := bk) (mo := mo + i) (T := T) hkd hbk (by omega) (fun p hp => (hK p hp).2) (fun p hp => (hS p hp).2)
  refine ⟨S1, fun K => ?_, f, fun p hp => ⟨?_, g p hp⟩⟩
  · rw [ck_nI hm (by omega), show (1 : Int32) = nI 1 from rfl, ck_nI (show 1 < 70 by decide) (by decide), show (0 : Int32) = nI 0 from rfl, ck_nI (show 0 < 70 by decide) (by decide), nI_clamp (show m < 2 ^ 31 by omega), nI_clamp (show 1 < 2 ^ 31 by decide), nI_clamp (show 0 < 2 ^ 31 by decide), h36, h1, h0, nI_add, cal_of e]
  · rw [f 51 0 (by omega)]; exact (hK p hp).1
theorem same_thick (a b c : Int32) : Same (fX10_thick a b c) (fX11_thick a b c) := by
  refine same_of (fun S q π ν us im d fa hC _ hV => ?_)
  have hk := hC.k
  have hMn : π 0 2 ≤ 6 := hV.1.2.2.1
  have w1 : ∀ S0, fX11_within c.toInt64 (0 : Int64) (200 : Int64) S0 = some (if (0 : Int32) ≤ c ∧ c ≤ 200 then 1 else 0, S0) := fun S0 => m_within c 0 200 S0
  by_cases ha : isB a (π 0 2)
  · by_cases hb : (0 : Int32) ≤ b ∧ b ≤ 4
    · by_cases hc : (0 : Int32) ≤ c ∧ c ≤ 200
      · obtain ⟨m, hm, rfl⟩ := id ha
        obtain ⟨p, -, hp, rfl⟩ := nat_of (lo := 0) (hi := 4) (by decide) (by decide) hb
        obtain ⟨n, -, hn, rfl⟩ := nat_of (lo := 0) (hi := 200) (by decide) (by decide) hc
        have hS := hV.2.1.1.vs hm
        have hkd := (hV.1.2.2.2.1 m hm).1
        have hbk := hV.2.1.1.2.1
        have hmo := hV.2.1.1.1
        obtain ⟨S1, e1, f1, t1, -⟩ := c_startNow hC.2.2.1 hV.1 hm
        have fin := lopSK (i0 := 0) (N := n) (z := fun _ _ => none) (b := bX10_thick_52 (nI n)) (x := 0) (S := S1)
          (fun i S2 => Fr trC S S2 ∧ TC S2 (fun p => ν (m + 1) (2 + p)) (tr (π 1 m) (ν 0 1) (ν 0 0) (fun p => ν (m + 1) (7 + p)) i) (π 1 m) (ν 0 1) (ν 0 0 + i)) ?hs ?he (Nat.zero_le _) (by rw [FU_eq]; omega) rfl ⟨f1, t1⟩
        case hs =>
          intro i S2 _ hi ⟨g1, g2⟩
          obtain ⟨S3, e3, f3, t3, -⟩ := c_pass9 g2 (tr_vs hS i) hkd hbk (by omega)
          refine ⟨S3, ⟨g1.tr f3, t3⟩, fun kk ag => ?_⟩
          unfold bX10_thick_52
          rw [if_neg (nI_ge hi (by omega)), cal_of e3, nI_1]
        case he =>
          intro S2 _ kk ag
          unfold bX10_thick_52
          rw [if_pos (nI_le (Nat.le_refl _) (by omega))]
        obtain ⟨S2, ⟨g1, g2⟩, e2⟩ := fin
        refine ⟨nI (tr (π 1 m) (ν 0 1) (ν 0 0) (fun p => ν (m + 1) (7 + p)) n p), S2, ?_, g1.mono (fun a o h => by unfold trC at h; unfold scC; omega), fun a ha => kind_of g1 (fun o => by unfold trC; omega), fun S0 hM => ?_⟩
        · unfold fX10_thick
          rw [hk, cal_of (c_man1 (hC.2.1.1 2 (by decide)) hMn ha), if_neg n10, c_isOut, cal_s, if_pos hb, if_pos rfl, c_isOut, cal_s, if_pos hc, if_pos rfl, cal_of e1, jn_e, e2, ck_nI (show p < 5 by omega) (by omega), nI_clamp (by omega), (g2.2.1 p (by omega)).2]
        · obtain ⟨T1, x1, y1, y2⟩ := m_takesSkin (S := S0) (show m < 6 by omega)
          have k1 : SkM T1 (fun p => ν (m + 1) (2 + p)) (fun p => ν (m + 1) (7 + p)) := fun p hp => by
            rw [(y2 p hp).1, (y2 p hp).2]; exact (hM.2.1.2.2.2.2 m hm).2 p hp
          have fin := lopSK (i0 := 0) (N := n) (z := fun _ _ => none) (b := bX11_thick_41 (nI m) (nI n)) (x := 0) (S := T1)
            (fun i S2 => Fr (fun a _ => a = 51 ∨ a = 52) S0 S2 ∧ SkM S2 (fun p => ν (m + 1) (2 + p)) (tr (π 1 m) (ν 0 1) (ν 0 0) (fun p => ν (m + 1) (7 + p)) i)) ?hs ?he (Nat.zero_le _) (by rw [FU_eq]; omega) rfl ⟨y1, k1⟩
          case hs =>
            intro i S2 _ hi ⟨g1, g2⟩
            obtain ⟨S3, e3, f3, t3⟩ := m_step (S := S2) (m := m) (i := i) (kd := π 1 m) (bk := ν 0 1) (mo := ν 0 0) (by omega) (by omega) (by rw [g1 36 0 (by omega)]; exact (hM.1.2.2.2.2.1 m hm).1) (by rw [g1 40 0 (by omega)]; exact hM.2.1.2.1) (by rw [g1 40 0 (by omega)]; exact hM.2.1.1) hkd hbk (by omega) g2 (tr_vs hS i)
            refine ⟨S3, ⟨g1.tr (f3.mono (fun a o h => by omega)), t3⟩, fun kk ag => ?_⟩
            unfold bX11_thick_41
            rw [if_neg (nI_ge hi (by omega)), e3 (fun S => ag (nI i + 1) S), nI_1]
          case he =>
            intro S2 _ kk ag
            unfold bX11_thick_41
            rw [if_pos (nI_le (Nat.le_refl _) (by omega))]
          obtain ⟨T2, ⟨g1, g2⟩, x2⟩ := fin
          refine ⟨T2, ?_, g1.mono (fun a o h => by unfold scM; omega), fun a ha => kind_of g1 (fun o => by omega)⟩
          unfold fX11_thick
          rw [cal_of (m_man1 hM.1.2.2.1 hMn ha), if_neg n10, m_place, cal_s, if_pos hb, if_neg n10, w1, cal_s, if_pos hc, if_neg n10, cal_of x1, jn_e, x2, ck_nI (show p < 5 by omega) (by omega), nI_clamp (by omega), (g2 p (by omega)).2]
      · refine ⟨-1000000002, S, ?_, Fr.rf, fun _ _ => rfl, fun S0 hM => ⟨S0, ?_, Fr.rf, fun _ _ => rfl⟩⟩
        · unfold fX10_thick
          rw [hk, cal_of (c_man1 (hC.2.1.1 2 (by decide)) hMn ha), if_neg n10, c_isOut, cal_s, if_pos hb, if_pos rfl, c_isOut, cal_s, if_neg hc, if_neg n10]
        · unfold fX11_thick
          rw [cal_of (m_man1 hM.1.2.2.1 hMn ha), if_neg n10, m_place, cal_s, if_pos hb, if_neg n10, w1, cal_s, if_neg hc, if_pos rfl]
    · refine ⟨-1000000002, S, ?_, Fr.rf, fun _ _ => rfl, fun S0 hM => ⟨S0, ?_, Fr.rf, fun _ _ => rfl⟩⟩
      · unfold fX10_thick
        rw [hk, cal_of (c_man1 (hC.2.1.1 2 (by decide)) hMn ha), if_neg n10, c_isOut, cal_s, if_neg hb, if_neg n10]
      · unfold fX11_thick
        rw [cal_of (m_man1 hM.1.2.2.1 hMn ha), if_neg n10, m_place, cal_s, if_neg hb, if_pos rfl]
  · refine ⟨-1000000001, S, ?_, Fr.rf, fun _ _ => rfl, fun S0 hM => ⟨S0, ?_, Fr.rf, fun _ _ => rfl⟩⟩
    · unfold fX10_thick
      rw [hk, cal_of (c_man0 (hC.2.1.1 2 (by decide)) hMn ha), if_pos rfl]
    · unfold fX11_thick
      rw [cal_of (m_man0 hM.1.2.2.1 hMn ha), if_pos rfl]
