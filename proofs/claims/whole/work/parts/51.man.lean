/-- nothing has changed but in cells of C -/
def Fr (C : Nat → Nat → Prop) (S S2 : St) : Prop := ∀ a o, ¬ C a o → S2 a o = S a o
theorem Fr.rf {C : Nat → Nat → Prop} {S : St} : Fr C S S := fun _ _ _ => rfl
theorem Fr.tr {C : Nat → Nat → Prop} {S S1 S2 : St} (h1 : Fr C S S1) (h2 : Fr C S1 S2) : Fr C S S2 := fun a o h => (h2 a o h).trans (h1 a o h)
theorem Fr.mono {C C2 : Nat → Nat → Prop} {S S1 : St} (h1 : Fr C S S1) (h : ∀ a o, C a o → C2 a o) : Fr C2 S S1 := fun a o q => h1 a o (fun z => q (h a o z))
theorem Fr.wr {C : Nat → Nat → Prop} {S S1 : St} {a o i : Nat} {v : Int32} (h1 : Fr C S S1) (h : C a o) : Fr C S (wr S1 a o i v) := fun a2 o2 q => (wr_other (fun z => q (by rw [z.1, z.2]; exact h))).trans (h1 a2 o2 q)
theorem wr_same (S : St) (a o i : Nat) (v : Int32) : wr S a o i v a o i = v := by rw [wr_app, if_pos ⟨⟨rfl, rfl⟩, rfl⟩]
theorem wr_i {S : St} {a o i : Nat} {v : Int32} {a2 o2 i2 : Nat} (h : ¬ ((a2 = a ∧ o2 = o) ∧ i2 = i)) : wr S a o i v a2 o2 i2 = S a2 o2 i2 := by rw [wr_app, if_neg h]
section LOPV
variable {i0 N : Nat}
theorem lopSV {z : Int32 → St → Op} {b : (Int32 → St → Op) → Int32 → St → Op} {K : St → Op} (I : Nat → St → Prop) (hs : ∀ i S, i0 ≤ i → i < N → I i S → ∃ S2, I (i + 1) S2 ∧ ∀ ag, b ag (nI i) S = ag (nI (i + 1)) S2) (he : ∀ S, I N S → ∀ ag, b ag (nI N) S = K S) (h1 : i0 ≤ N) (h2 : N - i0 < FU) {x : Int32} {S : St} (hx : x = nI i0) (hI : I i0 S) : ∃ S2, I N S2 ∧ lop z b FU x S = K S2 := by
  subst hx
  have key : ∀ n i S, i0 ≤ i → i ≤ N → N < n + i → I i S → ∃ S2, I N S2 ∧ lop z b n (nI i) S = K S2 := by
    intro n
    induction n with
    | zero => intro i S _ h4 h5; omega
    | succ n ih =>
      intro i S h3 h4 h5 h6
      show ∃ S2, I N S2 ∧ b (lop z b n) (nI i) S = K S2
      rcases Nat.lt_or_ge i N with h | h
      · obtain ⟨S1, g1, g2⟩ := hs i S h3 h h6
        rw [g2]
        exact ih (i + 1) S1 (by omega) (by omega) (by omega) g1
      · have e : i = N := by omega
        subst e
        exact ⟨S, h6, he S h6 _⟩
  exact key FU i0 S (Nat.le_refl _) h1 (by omega) hI
end LOPV
theorem p_thicken {o a1 a2 t : Nat} {S : St} (h1 : a1 < 5) (ht : S 13 o a1 = nI t) (h2 : t + a2 < 2 ^ 31) : fX3_thicken o (nI a1) (nI a2) S = some (0, wr S 13 o a1 (nI (min 99 (t + a2)))) := by
  unfold fX3_thicken
  rw [ck_nI h1 (by omega), ck_nI h1 (by omega), nI_clamp (by omega), ht, nI_add, lit_nI, imin_nI (by omega) (by omega)]
  rfl
theorem p_thickenAll {o by_ : Nat} {a2 : Int32} {T : Nat → Nat} {S : St} (hT : ∀ p, p < 5 → S 13 o p = nI (T p)) (hb : ∀ p, p < 5 → T p < 2 ^ 30) (h2 : by_ < 2 ^ 30) : ∃ S2, fX3_thickenAll o (nI by_) a2 S = some (0, S2) ∧ Fr (fun a q => a = 13 ∧ q = o) S S2 ∧ ∀ p, p < 5 → S2 13 o p = nI (if nI p = a2 then T p else min 99 (T p + by_)) := by
  have key := lopSV (i0 := 0) (N := 5) (z := fun _ _ => none) (b := bX3_thickenAll_2 o (nI by_) a2 (fun S => some (0, S))) (K := fun S => some (0, S)) (x := 0) (S := S)
    (fun i S1 => Fr (fun a q => a = 13 ∧ q = o) S S1 ∧ (∀ p, p < i → S1 13 o p = nI (if nI p = a2 then T p else min 99 (T p + by_))) ∧ ∀ p, i ≤ p → S1 13 o p = S 13 o p)
  have fin := key ?hs ?he (by decide) (by decide) rfl ⟨Fr.rf, fun p h => by omega, fun p _ => rfl⟩
  case hs =>
    intro i S1 _ hi h
    obtain ⟨h1, h3, h4⟩ := h
    by_cases he : nI i = a2
    · refine ⟨S1, ⟨h1, fun p hp => ?_, fun p hp => h4 p (by omega)⟩, fun ag => ?_⟩
      · rcases (show p < i ∨ p = i by omega) with q | rfl
        · exact h3 p q
        · rw [h4 p (Nat.le_refl _), hT p hi, if_pos he]
      · unfold bX3_thickenAll_2
        rw [if_neg (show ¬ ((5 : Int32) ≤ nI i) from nI_ge hi (by decide)), if_pos he, lit_nI, nI_add]
    · refine ⟨_, ⟨h1.wr (a := 13) (o := o) (i := i) (v := nI (min 99 (T i + by_))) ⟨rfl, rfl⟩, fun p hp => ?_, fun p hp => ?_⟩, fun ag => ?_⟩
      · rcases (show p < i ∨ p = i by omega) with q | rfl
        · rw [wr_i (by omega)]; exact h3 p q
        · rw [wr_same, if_neg he]
      · rw [wr_i (by omega)]; exact h4 p (by omega)
      · unfold bX3_thickenAll_2
        rw [if_neg (show ¬ ((5 : Int32) ≤ nI i) from nI_ge hi (by decide)), if_neg he, cal_of (p_thicken hi (by rw [h4 i (Nat.le_refl _)]; exact hT i hi) (by have := hb i hi; omega)), lit_nI, nI_add]
  case he =>
    intro S1 h ag
    unfold bX3_thickenAll_2
    rw [if_pos (show ((5 : Int32) ≤ nI 5) from by decide)]
  obtain ⟨S2, hI, e⟩ := fin
  exact ⟨S2, e, hI.1, fun p hp => hI.2.1 p hp⟩
/-- the first thinnest of the places below n -/
def thin (T : Nat → Nat) : Nat → Nat
  | 0 => 0
  | n + 1 => if T n < T (thin T n) then n else thin T n
theorem thin_lt (T : Nat → Nat) : ∀ n, 0 < n → thin T n < n
  | 0, h => by omega
  | n + 1, _ => by
    unfold thin
    split
    · omega
    · rcases Nat.eq_zero_or_pos n with rfl | h
      · show (0 : Nat) < 1
        decide
      · have := thin_lt T n h; omega
theorem thin_1 (T : Nat → Nat) : thin T 1 = 0 := by
  show (if T 0 < T 0 then 0 else 0) = 0
  split <;> rfl
/-- a month in the pit -/
def tanN (kd bk mo : Nat) (T : Nat → Nat) : Nat → Nat := fun p =>
  if kd = 0 then min 99 (T p + bk) else if kd = 1 then (if p = 2 then T p else min 99 (T p + (bk / 2 + 1))) else if kd = 2 then (if p = mo % 5 then min 99 (T p + 1) else T p) else (if p = thin T 5 then min 99 (T p + 3 * bk) else T p)
theorem tanN_le {kd bk mo : Nat} {T : Nat → Nat} {p : Nat} (h : T p ≤ 99) : tanN kd bk mo T p ≤ 99 := by
  unfold tanN
  repeat' split
  all_goals omega
theorem tanN_ge {kd bk mo : Nat} {T : Nat → Nat} {p : Nat} (h : T p ≤ 99) : T p ≤ tanN kd bk mo T p := by
  unfold tanN
  repeat' split
  all_goals omega
theorem p_thinnest {o : Nat} {T : Nat → Nat} {S : St} (hT : ∀ p, p < 5 → S 13 o p = nI (T p)) (hb : ∀ p, p < 5 → T p < 2 ^ 30) : fX3_thinnestPlace o S = some (nI (thin T 5), S) := by
  unfold fX3_thinnestPlace jn
  refine lopA (i0 := 1) (N := 5) (fun i => nI (thin T i)) (fun i h0 hi ag => ?_) (fun ag => ?_) (by decide) (by decide) rfl (by rw [thin_1]; rfl)
  · unfold bX3_thinnestPlace_4
    have ht := thin_lt T i h0
    rw [if_neg (show ¬ ((5 : Int32) ≤ nI i) from nI_ge hi (by decide)), ck_nI hi (by omega), ck_nI (show thin T i < 5 by omega) (by omega), nI_clamp (by omega), nI_clamp (by omega), hT i hi, hT _ (show thin T i < 5 by omega), lit_nI, nI_add]
    have b1 := hb i hi
    have b2 := hb _ (show thin T i < 5 by omega)
    by_cases h : T (thin T i) ≤ T i
    · rw [if_pos ((nI_leI (by omega) (by omega)).mpr h)]
      show ag _ _ = ag _ (nI (if T i < T (thin T i) then i else thin T i))
      rw [if_neg (by omega)]
    · rw [if_neg (fun q => h ((nI_leI (by omega) (by omega)).mp q))]
      show ag _ _ = ag _ (nI (if T i < T (thin T i) then i else thin T i))
      rw [if_pos (by omega)]
  · unfold bX3_thinnestPlace_4
    rw [if_pos (show ((5 : Int32) ≤ nI 5) from by decide)]
theorem p_floorMod {a d : Nat} {S : St} (ha : a < 2 ^ 31) (h0 : 0 < d) (hd : d < 2 ^ 31) : fJ9_floorMod_7cf53 (nI a) (nI d) S = some (nI (a % d), S) := by
  simp only [fJ9_floorMod_7cf53, dz, bi]
  rw [if_neg (nI_ne0 h0 hd), irm_nI ha h0 hd]
  by_cases h1 : (0 : Int32) ≤ (nI a ^^^ nI d)
  · rw [if_pos h1]
  · exfalso
    apply h1
    have h2 : (nI a ^^^ nI d) = nI (a ^^^ d) := by
      apply Int32.toBitVec_inj.mp
      apply BitVec.eq_of_toNat_eq
      rw [Int32.toBitVec_xor, BitVec.toNat_xor, pk_tn (by omega), pk_tn (by omega), pk_tn]
      exact Nat.lt_trans (Nat.xor_lt_two_pow ha hd) (by decide)
    rw [h2]
    exact nI_pos' (Nat.xor_lt_two_pow ha hd)
theorem idiv_nI {a d : Nat} (ha : a < 2 ^ 31) (h0 : 0 < d) (hd : d < 2 ^ 31) : nI a / nI d = nI (a / d) := pk_div ha h0 hd
theorem p_tan {o kd bk mo : Nat} {T : Nat → Nat} {S : St} (hk : S 11 o 0 = nI kd) (hkd : kd ≤ 3) (hbk : bk ≤ 9) (hmo : mo < 2 ^ 20) (hT : ∀ p, p < 5 → S 13 o p = nI (T p)) (hb : ∀ p, p < 5 → T p ≤ 99) : ∃ S2, fX3_tan o (nI bk) (nI mo) S = some (0, S2) ∧ Fr (fun a q => a = 13 ∧ q = o) S S2 ∧ ∀ p, p < 5 → S2 13 o p = nI (tanN kd bk mo T p) := by
  have hb2 : ∀ p, p < 5 → T p < 2 ^ 30 := fun p hp => by have := hb p hp; omega
  unfold fX3_tan
  rw [hk]
  rcases (show kd = 0 ∨ kd = 1 ∨ kd = 2 ∨ kd = 3 by omega) with rfl | rfl | rfl | rfl
  · rw [if_pos (by decide)]
    obtain ⟨S2, e, h1, h2⟩ := p_thickenAll (a2 := (-1 : Int32)) hT hb2 (show bk < 2 ^ 30 by omega)
    refine ⟨S2, by rw [cal_of e], h1, fun p hp => ?_⟩
    rw [h2 p hp, if_neg]
    · rfl
    · rcases (show p = 0 ∨ p = 1 ∨ p = 2 ∨ p = 3 ∨ p = 4 by omega) with rfl | rfl | rfl | rfl | rfl <;> decide
  · rw [if_neg (by decide), if_pos (by decide), lit_nI, idiv_nI (by omega) (by decide) (by decide), lit_nI, nI_add]
    obtain ⟨S2, e, h1, h2⟩ := p_thickenAll (a2 := (2 : Int32)) hT hb2 (show bk / 2 + 1 < 2 ^ 30 by omega)
    refine ⟨S2, by rw [← lit_nI, cal_of e], h1, fun p hp => ?_⟩
    rw [h2 p hp]
    unfold tanN
    rw [if_neg (show ¬ (1 = 0) by decide), if_pos (show 1 = 1 from rfl), lit_nI]
    by_cases hp2 : p = 2
    · subst hp2; rfl
    · rw [if_neg (fun q => hp2 (nI_inj (by omega) (by decide) q)), if_neg hp2]
  · rw [if_neg (by decide), if_neg (by decide), if_pos (by decide), lit_nI, cal_of (p_floorMod (by omega) (by decide) (by decide)), lit_nI, cal_of (p_thicken (Nat.mod_lt mo (by decide)) (hT _ (Nat.mod_lt mo (by decide))) (by have := hb _ (Nat.mod_lt mo (show 5 > 0 by decide)); omega))]
    refine ⟨_, rfl, Fr.rf.wr ⟨rfl, rfl⟩, fun p hp => ?_⟩
    unfold tanN
    rw [if_neg (by decide), if_neg (by decide), if_pos rfl]
    by_cases hp2 : p = mo % 5
    · subst hp2; rw [wr_same, if_pos rfl]
    · rw [wr_i (by omega), if_neg hp2, hT p hp]
  · rw [if_neg (by decide), if_neg (by decide), if_neg (by decide), cal_of (p_thinnest hT hb2), lit_nI, pk_mul, cal_of (p_thicken (thin_lt T 5 (by decide)) (hT _ (thin_lt T 5 (by decide))) (by have := hb _ (thin_lt T 5 (by decide)); omega))]
    refine ⟨_, rfl, Fr.rf.wr ⟨rfl, rfl⟩, fun p hp => ?_⟩
    unfold tanN
    rw [if_neg (by decide), if_neg (by decide), if_neg (by decide)]
    by_cases hp2 : p = thin T 5
    · subst hp2; rw [wr_same, if_pos rfl]
    · rw [wr_i (by omega), if_neg hp2, hT p hp]
