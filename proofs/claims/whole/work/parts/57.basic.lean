theorem i64_int (x : Int32) : x.toInt64.toInt = x.toInt := by simp
theorem i64_lt {x y : Int32} : x.toInt64 < y.toInt64 ↔ x < y := by rw [Int64.lt_iff_toInt_lt, Int32.lt_iff_toInt_lt, i64_int, i64_int]
theorem i64_eq {x y : Int32} : x.toInt64 = y.toInt64 ↔ x = y := by
  constructor
  · intro h
    have := congrArg Int64.toInt h
    rw [i64_int, i64_int] at this
    exact Int32.toInt_inj.mp this
  · intro h; rw [h]
theorem cmp_lt {x y : Int64} : lg_cmp x y < 0 ↔ x < y := by
  unfold lg_cmp
  by_cases h1 : y < x
  · simp only [h1, if_true]
    constructor
    · intro h; exact absurd h (by decide)
    · intro h; exact absurd (Int64.lt_trans h h1) Int64.lt_irrefl
  · by_cases h2 : x = y
    · subst h2; simp
    · have h3 : x < y := by
        rw [Int64.lt_iff_toInt_lt]
        have g1 : ¬ y.toInt < x.toInt := fun q => h1 (Int64.lt_iff_toInt_lt.mpr q)
        have g2 : ¬ x.toInt = y.toInt := fun q => h2 (Int64.toInt_inj.mp q)
        omega
      simp [h1, h2, h3]
theorem cmp_gt {x y : Int64} : 0 < lg_cmp x y ↔ y < x := by
  unfold lg_cmp
  by_cases h1 : y < x
  · simp [h1]
  · by_cases h2 : x = y
    · subst h2; simp
    · simp [h1, h2]
theorem m_within (x lo hi : Int32) (S : St) : fX11_within x.toInt64 lo.toInt64 hi.toInt64 S = some (if lo ≤ x ∧ x ≤ hi then 1 else 0, S) := by
  unfold fX11_within
  by_cases h1 : x < lo
  · rw [if_pos (cmp_lt.mpr (i64_lt.mpr h1)), if_neg (fun q => absurd h1 (Int32.not_lt.mpr q.1))]
  · rw [if_neg (fun q => h1 (i64_lt.mp (cmp_lt.mp q)))]
    by_cases h2 : hi < x
    · rw [if_pos (cmp_gt.mpr (i64_lt.mpr h2)), if_neg (fun q => absurd h2 (Int32.not_lt.mpr q.2))]
    · rw [if_neg (fun q => h2 (i64_lt.mp (cmp_gt.mp q))), if_pos ⟨Int32.not_lt.mp h1, Int32.not_lt.mp h2⟩]
theorem c_isOut (x lo hi : Int32) (S : St) : fX10_isOutside x lo hi S = some (if lo ≤ x ∧ x ≤ hi then 0 else 1, S) := by
  unfold fX10_isOutside
  by_cases h1 : x < lo
  · rw [if_pos h1, if_neg (fun q => absurd h1 (Int32.not_lt.mpr q.1))]
  · rw [if_neg h1]
    by_cases h2 : x ≤ hi
    · rw [if_pos h2, if_pos ⟨Int32.not_lt.mp h1, h2⟩]
    · rw [if_neg h2, if_neg (fun q => h2 q.2)]
/-- a number from lo to hi -/
theorem nat_of {x : Int32} {lo hi : Nat} (hl : lo < 2 ^ 31) (hh : hi < 2 ^ 31) (h : nI lo ≤ x ∧ x ≤ nI hi) : ∃ j, lo ≤ j ∧ j ≤ hi ∧ x = nI j := by
  have h0 : ¬ x < 0 := fun q => absurd (Int32.lt_of_le_of_lt h.1 q) (fun z => nI_pos hl z)
  obtain ⟨j, hj, rfl⟩ := nI_of h0
  exact ⟨j, (nI_leI hl hj).mp h.1, (nI_leI hj hh).mp h.2, rfl⟩
theorem in_of {j lo hi : Nat} (h1 : lo ≤ j) (h2 : j ≤ hi) (hh : hi < 2 ^ 31) : nI lo ≤ nI j ∧ nI j ≤ nI hi := ⟨nI_le h1 (by omega), nI_le h2 hh⟩
/-- is it the number of one below M? -/
def isB (x : Int32) (M : Nat) : Prop := ∃ m, m < M ∧ x = nI m
theorem isB_iff {x : Int32} {M : Nat} (hM : M < 2 ^ 31) : isB x M ↔ 0 ≤ x ∧ x < nI M := by
  constructor
  · rintro ⟨m, hm, rfl⟩
    exact ⟨nI_pos' (by omega), nI_lt hm hM⟩
  · rintro ⟨h1, h2⟩
    obtain ⟨j, hj, rfl⟩ := nI_of (Int32.not_lt.mpr h1)
    exact ⟨j, (nI_ltI hj hM).mp h2, rfl⟩
theorem has_c {x : Int32} {M : Nat} (hM : M < 2 ^ 31) {S : St} {A B : Op} : (isB x M → (if x < (0 : Int32) then B else (if nI M ≤ x then B else A)) = A) ∧ (¬ isB x M → (if x < (0 : Int32) then B else (if nI M ≤ x then B else A)) = B) := by
  constructor
  · intro h
    obtain ⟨h1, h2⟩ := (isB_iff hM).mp h
    rw [if_neg (Int32.not_lt.mpr h1), if_neg (Int32.not_le.mpr h2)]
  · intro h
    by_cases h1 : x < 0
    · rw [if_pos h1]
    · rw [if_neg h1]
      by_cases h2 : nI M ≤ x
      · rw [if_pos h2]
      · exact absurd ((isB_iff hM).mpr ⟨Int32.not_lt.mp h1, Int32.not_le.mp h2⟩) h
theorem c_man1 {S : St} {k M : Nat} {x : Int32} (h : S 3 k 2 = nI M) (hM : M ≤ 6) (hx : isB x M) : fX6_hasMan k x S = some (1, S) := by
  unfold fX6_hasMan; rw [h]; exact (has_c (S := S) (by omega)).1 hx
theorem c_man0 {S : St} {k M : Nat} {x : Int32} (h : S 3 k 2 = nI M) (hM : M ≤ 6) (hx : ¬ isB x M) : fX6_hasMan k x S = some (0, S) := by
  unfold fX6_hasMan; rw [h]; exact (has_c (S := S) (by omega)).2 hx
theorem c_say1 {S : St} {k M : Nat} {x : Int32} (h : S 3 k 3 = nI M) (hM : M ≤ 8) (hx : isB x M) : fX6_hasSaying k x S = some (1, S) := by
  unfold fX6_hasSaying; rw [h]; exact (has_c (S := S) (by omega)).1 hx
theorem c_say0 {S : St} {k M : Nat} {x : Int32} (h : S 3 k 3 = nI M) (hM : M ≤ 8) (hx : ¬ isB x M) : fX6_hasSaying k x S = some (0, S) := by
  unfold fX6_hasSaying; rw [h]; exact (has_c (S := S) (by omega)).2 hx
theorem sub1 : ∀ M, M ≤ 8 → (nI M - (1 : Int32)).toInt = (M : Int) - 1 := by decide
theorem m_bel {x : Int32} {M : Nat} (hM : M ≤ 8) : ((0 : Int32) ≤ x ∧ x ≤ nI M - (1 : Int32)) ↔ isB x M := by
  rw [isB_iff (by omega), Int32.le_iff_toInt_le, Int32.le_iff_toInt_le, Int32.lt_iff_toInt_lt, sub1 M hM, nI_toInt (by omega)]
  constructor <;> rintro ⟨a, b⟩ <;> exact ⟨a, by omega⟩
theorem m_man1 {S : St} {M : Nat} {x : Int32} (h : S 35 0 2 = nI M) (hM : M ≤ 6) (hx : isB x M) : fX11_isMan x S = some (1, S) := by
  unfold fX11_isMan
  rw [h, show (0 : Int64) = (0 : Int32).toInt64 from rfl, m_within, if_pos ((m_bel (by omega)).mpr hx)]
  rfl
theorem m_man0 {S : St} {M : Nat} {x : Int32} (h : S 35 0 2 = nI M) (hM : M ≤ 6) (hx : ¬ isB x M) : fX11_isMan x S = some (0, S) := by
  unfold fX11_isMan
  rw [h, show (0 : Int64) = (0 : Int32).toInt64 from rfl, m_within, if_neg (fun q => hx ((m_bel (by omega)).mp q))]
  rfl
theorem m_say1 {S : St} {M : Nat} {x : Int32} (h : S 35 0 5 = nI M) (hM : M ≤ 8) (hx : isB x M) : fX11_isSaying x S = some (1, S) := by
  unfold fX11_isSaying
  rw [h, show (0 : Int64) = (0 : Int32).toInt64 from rfl, m_within, if_pos ((m_bel hM).mpr hx)]
  rfl
theorem m_say0 {S : St} {M : Nat} {x : Int32} (h : S 35 0 5 = nI M) (hM : M ≤ 8) (hx : ¬ isB x M) : fX11_isSaying x S = some (0, S) := by
  unfold fX11_isSaying
  rw [h, show (0 : Int64) = (0 : Int32).toInt64 from rfl, m_within, if_neg (fun q => hx ((m_bel hM).mp q))]
  rfl
theorem m_place (x : Int32) (S : St) : fX11_isPlace x S = some (if 0 ≤ x ∧ x ≤ 4 then 1 else 0, S) := by
  unfold fX11_isPlace
  rw [show (0 : Int64) = (0 : Int32).toInt64 from rfl, show (4 : Int64) = (4 : Int32).toInt64 from rfl, m_within]
  by_cases h : (0 : Int32) ≤ x ∧ x ≤ 4
  · rw [if_pos h]; rfl
  · rw [if_neg h]; rfl
theorem c_isNone {S : St} {k P : Nat} (h : S 3 k 0 = nI P) (hP : P ≤ 3) : fX6_isNone k S = some (if P = 0 then 1 else 0, S) := by
  unfold fX6_isNone
  rw [h]
  by_cases h0 : P = 0
  · subst h0; rfl
  · rw [if_neg (nI_ne0 (by omega) (by omega)), if_neg h0]
/-- the draws -/
def nxt (r : Nat) : Nat := (r * 1103515245 + 12345) % 2147483648
theorem nxt_lt (r : Nat) : nxt r < 2147483648 := Nat.mod_lt _ (by decide)
theorem l_of {r : Nat} (h : r < 2 ^ 31) : (nI r).toInt64 * (1103515245 : Int64) + (12345 : Int64) = lN (r * 1103515245 + 12345) := by
  rw [nI_l h, show (1103515245 : Int64) = lN 1103515245 from rfl, show (12345 : Int64) = lN 12345 from rfl, lN_mul, lN_add]
theorem c_next {S : St} {r n : Nat} (h : S 19 0 0 = nI r) (hr : r < 2 ^ 31) (hn : 0 < n) (hn2 : n < 2 ^ 31) : fX1_next (nI n) S = some (nI (nxt r / 65536 % n), wr S 19 0 0 (nI (nxt r))) := by
  have e : (lN (r * 1103515245 + 12345) &&& (2147483647 : Int64)).toInt32 = nI (nxt r) := by
    apply Int32.toBitVec_inj.mp
    apply BitVec.eq_of_toNat_eq
    have h1 : (lN (r * 1103515245 + 12345) &&& (2147483647 : Int64)) = lN (nxt r) := by
      apply Int64.toBitVec_inj.mp
      apply BitVec.eq_of_toNat_eq
      rw [Int64.toBitVec_and, BitVec.toNat_and]
      have h2 : (lN (r * 1103515245 + 12345)).toBitVec.toNat = r * 1103515245 + 12345 := by
        show (BitVec.ofNat 64 _).toNat = _
        rw [BitVec.toNat_ofNat, Nat.mod_eq_of_lt]
        omega
      have h3 : (lN (nxt r)).toBitVec.toNat = nxt r := by
        show (BitVec.ofNat 64 _).toNat = _
        rw [BitVec.toNat_ofNat, Nat.mod_eq_of_lt]
        have := nxt_lt r
        omega
      rw [h2, h3, show (2147483647 : Int64).toBitVec.toNat = 2 ^ 31 - 1 from rfl, Nat.and_two_pow_sub_one_eq_mod]
      rfl
    rw [h1, lN_i]
  have b := nxt_lt r
  simp only [fX1_next, bs]
  rw [h, l_of hr, e, if_neg (show ¬ nI n ≤ (0 : Int32) from nI_nle hn hn2), wr_same]
  unfold dz
  rw [if_neg (nI_ne0 hn hn2), show (65536 : Int32) = nI 65536 from rfl, idiv_nI (by omega) (by decide) (by decide), irm_nI (by omega) hn hn2]
theorem m_draw {S : St} {r n : Nat} (h : S 35 0 9 = nI r) (hr : r < 2 ^ 31) (hn : 0 < n) (hn2 : n < 2 ^ 31) : fX11_draw (nI n) S = some (nI (nxt r / 65536 % n), wr S 35 0 9 (nI (nxt r))) := by
  have b := nxt_lt r
  simp only [fX11_draw, bs]
  have e : lrm (lN (r * 1103515245 + 12345)) (2147483648 : Int64) = lN (nxt r) := pk_lRem (by omega) (by decide) (by decide)
  rw [h, l_of hr, e, lN_i, wr_same]
  unfold dz
  rw [if_neg (nI_ne0 hn hn2), show (65536 : Int32) = nI 65536 from rfl, idiv_nI (by omega) (by decide) (by decide), irm_nI (by omega) hn hn2]
