def CY (S : St) (k : Nat) (π : Nat → Nat → Nat) : Prop := S 3 k 3 = nI (π 0 3) ∧ ∀ s, s < π 0 3 → S 7 k s = nI (π 2 s) ∧ S 8 k s = nI (π 3 s)
def MY (S : St) (π : Nat → Nat → Nat) : Prop := S 35 0 5 = nI (π 0 3) ∧ ∀ s, s < π 0 3 → S 38 0 s = nI (π 2 s) ∧ S 39 0 s = nI (π 3 s)
def VY (π : Nat → Nat → Nat) : Prop := π 0 3 ≤ 8 ∧ ∀ s, s < π 0 3 → π 2 s < 5 ∧ π 3 s ≤ 60
def SkC (S : St) (o : Nat) (so th : Nat → Nat) : Prop := ∀ p, p < 5 → S 12 o p = nI (so p) ∧ S 13 o p = nI (th p)
def SkM (S : St) (so th : Nat → Nat) : Prop := ∀ p, p < 5 → S 51 0 p = nI (so p) ∧ S 52 0 p = nI (th p)
def VS (so th : Nat → Nat) : Prop := ∀ p, p < 5 → so p ≤ 30 ∧ th p ≤ 99
def pn (π : Nat → Nat → Nat) (so th : Nat → Nat) (s : Nat) : Nat := π 3 s + so (π 2 s) - th (π 2 s)
theorem pn_le {π : Nat → Nat → Nat} {so th : Nat → Nat} {s : Nat} (hV : VY π) (hs : s < π 0 3) (h : VS so th) : pn π so th s ≤ 90 := by
  have h1 := hV.2 s hs
  have h2 := h _ h1.1
  unfold pn
  omega
theorem c_pain {S : St} {k o s : Nat} {π : Nat → Nat → Nat} {so th : Nat → Nat} (hC : CY S k π) (hV : VY π) (hK : SkC S o so th) (hS : VS so th) (hs : s < π 0 3) : fX6_pain k o (nI s) S = some (nI (pn π so th s), S) := by
  have h1 := hV.2 s hs
  have h0 := hV.1
  have h2 := hC.2 s hs
  have h3 := hK _ h1.1
  have h4 := hS _ h1.1
  simp only [fX6_pain, bi]
  rw [ck_nI (show s < 8 by omega) (by omega), nI_clamp (by omega), h2.1, h2.2, ck_nI (show s < 8 by omega) (by omega), ck_nI h1.1 (by omega), ck_nI h1.1 (by omega), nI_clamp (by omega), h3.1, h3.2, imax_sub (by omega) (by omega) (by omega)]
  rfl
theorem m_hurts {S : St} {s : Nat} {π : Nat → Nat → Nat} {so th : Nat → Nat} (hC : MY S π) (hV : VY π) (hK : SkM S so th) (hS : VS so th) (hs : s < π 0 3) : fX11_hurts (nI s) S = some (nI (pn π so th s), S) := by
  have h1 := hV.2 s hs
  have h0 := hV.1
  have h2 := hC.2 s hs
  have h3 := hK _ h1.1
  have h4 := hS _ h1.1
  simp only [fX11_hurts, bi]
  rw [ck_nI (show s < 8 by omega) (by omega), ck_nI (show s < 8 by omega) (by omega), nI_clamp (by omega), h2.1, h2.2, ck_nI h1.1 (by omega), ck_nI (show s < 8 by omega) (by omega), ck_nI h1.1 (by omega), nI_clamp (by omega), h3.1, h3.2, nI_add]
  unfold pn
  by_cases h : th (π 2 s) ≤ π 3 s + so (π 2 s)
  · rw [pk_sub h, if_pos (nI_pos' (by omega))]
  · rw [if_neg (fun q => absurd (pk_sneg (a := π 3 s + so (π 2 s)) (b := th (π 2 s)) (by omega) (by omega)) (Int32.not_lt.mpr q)), Nat.sub_eq_zero_of_le (by omega)]
    rfl
/-- sets as numbers -/
def msk (f : Nat → Bool) : Nat → Nat
  | 0 => 0
  | n + 1 => if f n = true then msk f n ||| 2 ^ n else msk f n
theorem msk_lt (f : Nat → Bool) : ∀ n, msk f n < 2 ^ n
  | 0 => Nat.one_pos
  | n + 1 => by
    have h := msk_lt f n
    have h2 : 2 ^ n < 2 ^ (n + 1) := by rw [Nat.pow_succ]; have := Nat.two_pow_pos n; omega
    unfold msk
    split
    · exact Nat.or_lt_two_pow (Nat.lt_trans h h2) h2
    · omega
theorem msk_le (f : Nat → Bool) {n : Nat} (h : n ≤ 8) : msk f n < 256 := Nat.lt_of_lt_of_le (msk_lt f n) (Nat.pow_le_pow_right (by decide) h)
theorem msk_bit (f : Nat → Bool) (i : Nat) : ∀ n, (msk f n).testBit i = (decide (i < n) && f i)
  | 0 => by simp [msk]
  | n + 1 => by
    unfold msk
    have h := msk_bit f i n
    by_cases hf : f n = true
    · rw [if_pos hf, Nat.testBit_or, h, Nat.testBit_two_pow]
      by_cases e : n = i
      · subst e; simp [hf]
      · by_cases h2 : i < n
        · simp [h2, e, show i < n + 1 by omega]
        · simp [h2, e, show ¬ i < n + 1 by omega]
    · rw [if_neg hf, h]
      by_cases e : n = i
      · subst e; simp [hf]
      · by_cases h2 : i < n
        · simp [h2, show i < n + 1 by omega]
        · simp [h2, show ¬ i < n + 1 by omega]
theorem msk_cong {f g : Nat → Bool} : ∀ n, (∀ i, i < n → f i = g i) → msk f n = msk g n
  | 0, _ => rfl
  | n + 1, h => by
    unfold msk
    rw [msk_cong n (fun i hi => h i (by omega)), h n (by omega)]
theorem or_sh : ∀ a, a < 256 → ∀ s, s < 8 → nI a ||| ((1 : Int32) <<< (nI s &&& 31)) = nI (a ||| 2 ^ s) := by decide +kernel
theorem or_0 : ∀ a, a < 256 → nI a ||| (0 : Int32) = nI a := by decide +kernel
theorem bit_sh : ∀ a, a < 256 → ∀ s, s < 8 → ((nI a >>> (nI s &&& 31)) &&& (1 : Int32)) = (if a.testBit s then 1 else 0) := by decide +kernel
theorem le5 {n : Nat} (h : n < 2 ^ 31) : ((5 : Int32) < nI n) ↔ 5 < n := nI_ltI (by decide) h
theorem lt1 {n : Nat} (h : n < 2 ^ 31) : (nI n < (1 : Int32)) ↔ n < 1 := nI_ltI h (by decide)
theorem c_setBorne {S : St} {k o : Nat} {π : Nat → Nat → Nat} {so th : Nat → Nat} (hC : CY S k π) (hV : VY π) (hK : SkC S o so th) (hS : VS so th) : fX6_setBorne k o S = some (nI (msk (fun s => decide (pn π so th s ≤ 5)) (π 0 3)), S) := by
  unfold fX6_setBorne jn
  have h0 := hV.1
  refine lopAS (i0 := 0) (N := π 0 3) (fun i => nI (msk (fun s => decide (pn π so th s ≤ 5)) i)) (fun _ => S) (fun i _ hi ag => ?_) (fun ag => ?_) (Nat.zero_le _) (by rw [FU_eq]; omega) rfl rfl rfl
  · have hp := pn_le hV hi hS
    simp only [bX6_setBorne_4, bi]
    rw [hC.1, if_neg (nI_ge hi (by omega)), cal_of (c_pain hC hV hK hS hi), or_sh _ (msk_le _ (by omega)) i (by omega), nI_1]
    show (if nI 5 < nI (pn π so th i) then _ else _) = ag _ (nI (if decide (pn π so th i ≤ 5) = true then _ else _)) S
    by_cases h : 5 < pn π so th i
    · rw [if_pos ((nI_ltI (by decide) (by omega)).mpr h), if_neg (by simp; omega)]
    · rw [if_neg (fun q => h ((nI_ltI (by decide) (by omega)).mp q)), if_pos (by simp; omega)]
  · simp only [bX6_setBorne_4, bi]
    rw [hC.1, if_pos (nI_le (Nat.le_refl _) (by omega))]
theorem c_setFelt {S : St} {k o : Nat} {π : Nat → Nat → Nat} {so th : Nat → Nat} (hC : CY S k π) (hV : VY π) (hK : SkC S o so th) (hS : VS so th) : fX6_setFelt k o S = some (nI (msk (fun s => decide (1 ≤ pn π so th s)) (π 0 3)), S) := by
  unfold fX6_setFelt jn
  have h0 := hV.1
  refine lopAS (i0 := 0) (N := π 0 3) (fun i => nI (msk (fun s => decide (1 ≤ pn π so th s)) i)) (fun _ => S) (fun i _ hi ag => ?_) (fun ag => ?_) (Nat.zero_le _) (by rw [FU_eq]; omega) rfl rfl rfl
  · have hp := pn_le hV hi hS
    simp only [bX6_setFelt_4, bi]
    rw [hC.1, if_neg (nI_ge hi (by omega)), cal_of (c_pain hC hV hK hS hi), or_sh _ (msk_le _ (by omega)) i (by omega), nI_1]
    show (if nI (pn π so th i) < nI 1 then _ else _) = ag _ (nI (if decide (1 ≤ pn π so th i) = true then _ else _)) S
    by_cases h : pn π so th i < 1
    · rw [if_pos ((nI_ltI (by omega) (by decide)).mpr h), if_neg (by simp; omega)]
    · rw [if_neg (fun q => h ((nI_ltI (by omega) (by decide)).mp q)), if_pos (by simp; omega)]
  · simp only [bX6_setFelt_4, bi]
    rw [hC.1, if_pos (nI_le (Nat.le_refl _) (by omega))]
theorem m_borne {S : St} {π : Nat → Nat → Nat} {so th : Nat → Nat} (hC : MY S π) (hV : VY π) (hK : SkM S so th) (hS : VS so th) : fX11_borneNow S = some (nI (msk (fun s => decide (pn π so th s ≤ 5)) (π 0 3)), S) := by
  unfold fX11_borneNow jn
  have h0 := hV.1
  refine lopAS (i0 := 0) (N := π 0 3) (fun i => nI (msk (fun s => decide (pn π so th s ≤ 5)) i)) (fun _ => S) (fun i _ hi ag => ?_) (fun ag => ?_) (Nat.zero_le _) (by rw [FU_eq]; omega) rfl rfl rfl
  · have hp := pn_le hV hi hS
    simp only [bX11_borneNow_4, bi]
    rw [hC.1, if_neg (nI_ge hi (by omega)), cal_of (m_hurts hC hV hK hS hi), or_sh _ (msk_le _ (by omega)) i (by omega), or_0 _ (msk_le _ (by omega)), nI_1]
    show (if nI 5 < nI (pn π so th i) then _ else _) = ag _ (nI (if decide (pn π so th i ≤ 5) = true then _ else _)) S
    by_cases h : 5 < pn π so th i
    · rw [if_pos ((nI_ltI (by decide) (by omega)).mpr h), if_neg (by simp; omega)]
    · rw [if_neg (fun q => h ((nI_ltI (by decide) (by omega)).mp q)), if_pos (by simp; omega)]
  · simp only [bX11_borneNow_4, bi]
    rw [hC.1, if_pos (nI_le (Nat.le_refl _) (by omega))]
theorem m_felt {S : St} {π : Nat → Nat → Nat} {so th : Nat → Nat} (hC : MY S π) (hV : VY π) (hK : SkM S so th) (hS : VS so th) : fX11_feltNow S = some (nI (msk (fun s => decide (1 ≤ pn π so th s)) (π 0 3)), S) := by
  unfold fX11_feltNow jn
  have h0 := hV.1
  refine lopAS (i0 := 0) (N := π 0 3) (fun i => nI (msk (fun s => decide (1 ≤ pn π so th s)) i)) (fun _ => S) (fun i _ hi ag => ?_) (fun ag => ?_) (Nat.zero_le _) (by rw [FU_eq]; omega) rfl rfl rfl
  · have hp := pn_le hV hi hS
    simp only [bX11_feltNow_4, bi]
    rw [hC.1, if_neg (nI_ge hi (by omega)), cal_of (m_hurts hC hV hK hS hi), or_sh _ (msk_le _ (by omega)) i (by omega), or_0 _ (msk_le _ (by omega)), nI_1]
    show (if nI (pn π so th i) < nI 1 then _ else _) = ag _ (nI (if decide (1 ≤ pn π so th i) = true then _ else _)) S
    by_cases h : pn π so th i < 1
    · rw [if_pos ((nI_ltI (by omega) (by decide)).mpr h), if_neg (by simp; omega)]
    · rw [if_neg (fun q => h ((nI_ltI (by omega) (by decide)).mp q)), if_pos (by simp; omega)]
  · simp only [bX11_feltNow_4, bi]
    rw [hC.1, if_pos (nI_le (Nat.le_refl _) (by omega))]
