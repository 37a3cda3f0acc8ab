theorem nI_and {a b : Nat} (ha : a < 2 ^ 31) (hb : b < 2 ^ 31) : nI a &&& nI b = nI (a &&& b) := by
  apply Int32.toBitVec_inj.mp
  apply BitVec.eq_of_toNat_eq
  rw [Int32.toBitVec_and, BitVec.toNat_and, pk_tn (by omega), pk_tn (by omega), pk_tn]
  exact Nat.lt_of_le_of_lt Nat.and_le_left (by omega)
def isSet (x : Int32) (Y : Nat) : Prop := ∃ b, b < 2 ^ Y ∧ x = nI b
theorem sh_Y : ∀ Y, Y ≤ 8 → ((nI Y).toUInt32 &&& Int32.toUInt32 31).toNat % 32 = Y := by decide
theorem set_iff {x : Int32} {Y : Nat} (hY : Y ≤ 8) : ius x (nI Y) = 0 ↔ isSet x Y := by
  have hp : 2 ^ Y ≤ 2 ^ 8 := Nat.pow_le_pow_right (by decide) hY
  have h1 : ius x (nI Y) = 0 ↔ x.toUInt32.toNat < 2 ^ Y := by
    unfold ius
    have e : (x.toUInt32 >>> ((nI Y).toUInt32 &&& Int32.toUInt32 31)).toNat = x.toUInt32.toNat / 2 ^ Y := by
      rw [UInt32.toNat_shiftRight, sh_Y Y hY, Nat.shiftRight_eq_div_pow]
    have h2 : (x.toUInt32 >>> ((nI Y).toUInt32 &&& Int32.toUInt32 31)).toInt32 = 0 ↔ (x.toUInt32 >>> ((nI Y).toUInt32 &&& Int32.toUInt32 31)).toNat = 0 := by
      constructor
      · intro h
        have : (x.toUInt32 >>> ((nI Y).toUInt32 &&& Int32.toUInt32 31)) = 0 := by
          have := congrArg Int32.toUInt32 h
          exact this
        rw [this]; rfl
      · intro h
        have : (x.toUInt32 >>> ((nI Y).toUInt32 &&& Int32.toUInt32 31)) = 0 := UInt32.toNat_inj.mp h
        rw [this]; rfl
    rw [h2, e]
    constructor
    · intro h
      rcases Nat.lt_or_ge x.toUInt32.toNat (2 ^ Y) with q | q
      · exact q
      · have := Nat.div_pos q (Nat.two_pow_pos Y); omega
    · intro h; exact Nat.div_eq_of_lt h
  rw [h1]
  constructor
  · intro h
    refine ⟨x.toUInt32.toNat, h, ?_⟩
    apply Int32.toBitVec_inj.mp
    apply BitVec.eq_of_toNat_eq
    rw [pk_tn (by omega)]
    rfl
  · rintro ⟨b, hb, rfl⟩
    have : (nI b).toUInt32.toNat = b := pk_tn (by omega)
    rw [this]; exact hb
theorem c_set1 {S : St} {k Y : Nat} {x : Int32} (h : S 3 k 3 = nI Y) (hY : Y ≤ 8) (hx : isSet x Y) : fX6_hasSet k x S = some (1, S) := by
  unfold fX6_hasSet; rw [h, if_pos ((set_iff hY).mpr hx)]
theorem c_set0 {S : St} {k Y : Nat} {x : Int32} (h : S 3 k 3 = nI Y) (hY : Y ≤ 8) (hx : ¬ isSet x Y) : fX6_hasSet k x S = some (0, S) := by
  unfold fX6_hasSet; rw [h, if_neg (fun q => hx ((set_iff hY).mp q))]
theorem sh_1 : ∀ Y, Y ≤ 8 → ((1 : Int32) <<< (nI Y &&& (31 : Int32))) - (1 : Int32) = nI (2 ^ Y - 1) := by decide
theorem m_setI {x : Int32} {Y : Nat} (hY : Y ≤ 8) : ((0 : Int32) ≤ x ∧ x ≤ ((1 : Int32) <<< (nI Y &&& (31 : Int32))) - (1 : Int32)) ↔ isSet x Y := by
  have hp : 2 ^ Y ≤ 2 ^ 8 := Nat.pow_le_pow_right (by decide) hY
  have h0 := Nat.two_pow_pos Y
  rw [sh_1 Y hY]
  constructor
  · intro h
    obtain ⟨j, -, hj, rfl⟩ := nat_of (lo := 0) (hi := 2 ^ Y - 1) (by decide) (by omega) h
    exact ⟨j, by omega, rfl⟩
  · rintro ⟨b, hb, rfl⟩
    exact in_of (Nat.zero_le _) (by omega) (by omega)
theorem m_set1 {S : St} {Y : Nat} {x : Int32} (h : S 35 0 5 = nI Y) (hY : Y ≤ 8) (hx : isSet x Y) : fX11_areSayings x S = some (1, S) := by
  unfold fX11_areSayings
  rw [h, show (0 : Int64) = (0 : Int32).toInt64 from rfl, m_within, if_pos ((m_setI hY).mpr hx)]
  rfl
theorem m_set0 {S : St} {Y : Nat} {x : Int32} (h : S 35 0 5 = nI Y) (hY : Y ≤ 8) (hx : ¬ isSet x Y) : fX11_areSayings x S = some (0, S) := by
  unfold fX11_areSayings
  rw [h, show (0 : Int64) = (0 : Int32).toInt64 from rfl, m_within, if_neg (fun q => hx ((m_setI hY).mp q))]
  rfl
/-- all below n -/
def al (f : Nat → Bool) : Nat → Bool
  | 0 => true
  | n + 1 => al f n && f n
theorem al_iff (f : Nat → Bool) : ∀ n, al f n = true ↔ ∀ i, i < n → f i = true
  | 0 => ⟨fun _ i h => absurd h (Nat.not_lt_zero _), fun _ => rfl⟩
  | n + 1 => by
    show (al f n && f n) = true ↔ _
    rw [Bool.and_eq_true, al_iff f n]
    constructor
    · rintro ⟨h1, h2⟩ i hi
      rcases (show i < n ∨ i = n by omega) with q | rfl
      · exact h1 i q
      · exact h2
    · intro h
      exact ⟨fun i hi => h i (by omega), h n (by omega)⟩
theorem sub_iff {f : Nat → Bool} {a Y : Nat} (hY : Y ≤ 8) (ha : a < 2 ^ Y) : (nI (msk f Y) &&& nI a = nI a) ↔ al (fun s => !a.testBit s || f s) Y = true := by
  have hp : 2 ^ Y ≤ 2 ^ 8 := Nat.pow_le_pow_right (by decide) hY
  have hm := msk_lt f Y
  rw [nI_and (by omega) (by omega), nI_eq (Nat.lt_of_le_of_lt Nat.and_le_left (by omega)) (by omega), al_iff]
  constructor
  · intro h i hi
    have := congrArg (fun x => x.testBit i) h
    simp only [Nat.testBit_and, msk_bit, hi, decide_true, Bool.true_and] at this
    cases h1 : a.testBit i
    · rfl
    · rw [h1] at this; simp at this; simp [this]
  · intro h
    apply Nat.eq_of_testBit_eq
    intro i
    rw [Nat.testBit_and, msk_bit]
    by_cases hi : i < Y
    · have := h i hi
      cases h1 : a.testBit i
      · simp
      · rw [h1] at this; simp at this; simp [hi, this]
    · have : a.testBit i = false := Nat.testBit_lt_two_pow (Nat.lt_of_lt_of_le ha (Nat.pow_le_pow_right (by decide) (by omega)))
      simp [this]
theorem c_bears {S : St} {k o a : Nat} {π : Nat → Nat → Nat} {so th : Nat → Nat} (hC : CY S k π) (hV : VY π) (hK : SkC S o so th) (hS : VS so th) (ha : a < 256) : fX6_bearsAll k o (nI a) S = some (if al (fun s => !a.testBit s || decide (pn π so th s ≤ 5)) (π 0 3) = true then 1 else 0, S) := by
  have hY := hV.1
  obtain ⟨n, h1, h2, h3⟩ := first_of (fun s => (!a.testBit s || decide (pn π so th s ≤ 5)) = false) (π 0 3)
  unfold fX6_bearsAll
  rw [jn_e]
  refine lopS (i0 := 0) (N := n) (fun _ => S) (fun i _ hi ag => ?_) (fun ag => ?_) (Nat.zero_le _) (by rw [FU_eq]; omega) rfl rfl
  · have hp := pn_le hV (show i < π 0 3 by omega) hS
    have hh := h2 i hi
    unfold bX6_bearsAll_2
    rw [hC.1, if_neg (nI_ge (by omega) (by omega)), bit_sh a ha i (by omega), nI_1]
    cases hb : a.testBit i
    · rfl
    · rw [hb] at hh
      have hle : pn π so th i ≤ 5 := by simp at hh; exact hh
      rw [if_pos (show (if true = true then (1 : Int32) else 0) = 1 from rfl), cal_of (c_pain hC hV hK hS (show i < π 0 3 by omega)), if_pos (show nI (pn π so th i) ≤ (5 : Int32) from nI_le hle (by decide))]
  · unfold bX6_bearsAll_2
    by_cases hn : n < π 0 3
    · have hp := pn_le hV hn hS
      have hh := h3 hn
      have hb : a.testBit n = true := by cases hb : a.testBit n <;> simp [hb] at hh ⊢
      have hgt : ¬ pn π so th n ≤ 5 := by simp [hb] at hh; omega
      rw [hC.1, if_neg (nI_ge (by omega) (by omega)), bit_sh a ha n (by omega), hb, if_pos (show (if true = true then (1 : Int32) else 0) = 1 from rfl), cal_of (c_pain hC hV hK hS hn), if_neg (show ¬ nI (pn π so th n) ≤ (5 : Int32) from nI_ge (a := 5) (by omega) (by omega)), if_neg (fun z => by have := (al_iff _ _).mp z n hn; rw [hh] at this; exact absurd this (by decide))]
    · rw [hC.1, if_pos (nI_le (by omega) (by omega)), if_pos ((al_iff _ _).mpr (fun i hi => eq_true_of_ne_false (h2 i (by omega))))]
theorem c_feels {S : St} {k o a : Nat} {π : Nat → Nat → Nat} {so th : Nat → Nat} (hC : CY S k π) (hV : VY π) (hK : SkC S o so th) (hS : VS so th) (ha : a < 256) : fX6_feelsAll k o (nI a) S = some (if al (fun s => !a.testBit s || decide (1 ≤ pn π so th s)) (π 0 3) = true then 1 else 0, S) := by
  have hY := hV.1
  obtain ⟨n, h1, h2, h3⟩ := first_of (fun s => (!a.testBit s || decide (1 ≤ pn π so th s)) = false) (π 0 3)
  unfold fX6_feelsAll
  rw [jn_e]
  refine lopS (i0 := 0) (N := n) (fun _ => S) (fun i _ hi ag => ?_) (fun ag => ?_) (Nat.zero_le _) (by rw [FU_eq]; omega) rfl rfl
  · have hp := pn_le hV (show i < π 0 3 by omega) hS
    have hh := h2 i hi
    unfold bX6_feelsAll_2
    rw [hC.1, if_neg (nI_ge (by omega) (by omega)), bit_sh a ha i (by omega), nI_1]
    cases hb : a.testBit i
    · rfl
    · rw [hb] at hh
      have hle : 1 ≤ pn π so th i := by simp at hh; omega
      rw [if_pos (show (if true = true then (1 : Int32) else 0) = 1 from rfl), cal_of (c_pain hC hV hK hS (show i < π 0 3 by omega)), if_pos (show (1 : Int32) ≤ nI (pn π so th i) from nI_le (a := 1) hle (by omega))]
  · unfold bX6_feelsAll_2
    by_cases hn : n < π 0 3
    · have hp := pn_le hV hn hS
      have hh := h3 hn
      have hb : a.testBit n = true := by cases hb : a.testBit n <;> simp [hb] at hh ⊢
      have hgt : ¬ 1 ≤ pn π so th n := by simp [hb] at hh; omega
      rw [hC.1, if_neg (nI_ge (by omega) (by omega)), bit_sh a ha n (by omega), hb, if_pos (show (if true = true then (1 : Int32) else 0) = 1 from rfl), cal_of (c_pain hC hV hK hS hn), if_neg (show ¬ (1 : Int32) ≤ nI (pn π so th n) from nI_ge (b := 1) (by omega) (by omega)), if_neg (fun z => by have := (al_iff _ _).mp z n hn; rw [hh] at this; exact absurd this (by decide))]
    · rw [hC.1, if_pos (nI_le (by omega) (by omega)), if_pos ((al_iff _ _).mpr (fun i hi => eq_true_of_ne_false (h2 i (by omega))))]
