/-- ones among the first n bits -/
def pop (a : Nat) : Nat → Nat
  | 0 => 0
  | n + 1 => pop a n + (if a.testBit n = true then 1 else 0)
theorem or_z : ∀ a, a < 256 → ∀ s, s < 8 → nI a ||| ((0 : Int32) <<< (nI s &&& 31)) = nI a := by decide +kernel
theorem an_sh : ∀ a, a < 256 → ∀ s, s < 8 → nI a &&& (((1 : Int32) <<< (nI s &&& 31)) ^^^ (-1 : Int32)) = nI (a &&& (255 ^^^ 2 ^ s)) := by decide +kernel
def bcE (a0 : Int32) : Int32 :=
  let x := a0 - ((ius a0 (1 : Int32)) &&& (1431655765 : Int32))
  let y := (x &&& (858993459 : Int32)) + ((ius x (2 : Int32)) &&& (858993459 : Int32))
  let z := (y + (ius y (4 : Int32))) &&& (252645135 : Int32)
  let w := z + (ius z (8 : Int32))
  (w + (ius w (16 : Int32))) &&& (63 : Int32)
theorem bc_pop : ∀ a, a < 256 → bcE (nI a) = nI (pop a 8) := by decide +kernel
theorem p_bitCount {a : Nat} {S : St} (h : a < 256) : fJ6_bitCount_0f7a4 (nI a) S = some (nI (pop a 8), S) := by
  rw [← bc_pop a h]
  rfl
theorem pop_le (a : Nat) : ∀ n, pop a n ≤ n
  | 0 => Nat.le_refl _
  | n + 1 => by
    have := pop_le a n
    unfold pop
    split <;> omega
theorem m_ones {a : Nat} {S : St} (h : a < 256) : fX11_ones (nI a) S = some (nI (pop a 8), S) := by
  unfold fX11_ones
  rw [jn_e]
  refine lopA (i0 := 0) (N := 8) (fun i => nI (pop a i)) (fun i _ hi ag => ?_) (fun ag => ?_) (by decide) (by decide) rfl rfl
  · unfold bX11_ones_4
    rw [if_neg (show ¬ (8 : Int32) ≤ nI i from nI_ge hi (by decide)), bit_sh a h i hi, bi_e, nI_1]
    show ag _ _ = ag _ (nI (pop a i + _))
    by_cases hb : a.testBit i = true
    · rw [if_pos hb, if_pos hb, nI_1]
    · rw [if_neg hb, if_neg hb, Nat.add_zero, show (0 : Int32) = nI 0 from rfl, nI_add, Nat.add_zero]
  · unfold bX11_ones_4
    rw [if_pos (show ((8 : Int32) ≤ nI 8) from by decide)]
/-- the set of those inside -/
def ins (ν : Nat → Nat → Nat) (M : Nat) : Nat := msk (fun m => decide (ν (m + 1) 0 = 1)) M
theorem ins_lt (ν : Nat → Nat → Nat) {M : Nat} (h : M ≤ 6) : ins ν M < 256 := msk_le _ (by omega)
theorem pop_ins {ν : Nat → Nat → Nat} {M : Nat} (hν : ∀ m, m < M → ν (m + 1) 0 ≤ 1) : ∀ n, pop (ins ν M) n = cin ν (min n M)
  | 0 => by rw [Nat.zero_min]; rfl
  | n + 1 => by
    unfold pop
    rw [pop_ins hν n]
    unfold ins
    rw [msk_bit]
    by_cases h : n < M
    · rw [Nat.min_eq_left (by omega), Nat.min_eq_left (by omega)]
      have := hν n h
      show cin ν n + _ = cin ν n + ν (n + 1) 0
      rcases (show ν (n + 1) 0 = 0 ∨ ν (n + 1) 0 = 1 by omega) with z | z
      · simp [z, h]
      · simp [z, h]
    · rw [Nat.min_eq_right (by omega), Nat.min_eq_right (by omega)]
      simp [h]
theorem c_setInside {S : St} {k : Nat} {π ν : Nat → Nat → Nat} (hC : CP S k π) (hN : CN S k (π 0 2) (π 1) ν) (hV : VP π) (hW : VN (π 0 2) ν) : fX7_setInside S = some (nI (ins ν (π 0 2)), S) := by
  have hM := hV.2.2.1
  unfold fX7_setInside
  rw [jn_e]
  refine lopA (i0 := 0) (N := π 0 2) (fun i => nI (ins ν i)) (fun i _ hi ag => ?_) (fun ag => ?_) (Nat.zero_le _) (by rw [FU_eq]; omega) rfl rfl
  · unfold bX7_setInside_4
    rw [hN.1, hC.1 2 (by decide), if_neg (nI_ge hi (by omega)), ck_nI (show i < 6 by omega) (by omega), bi_e, nI_clamp (by omega), (hN.2.2 i hi).2.1, nI_1]
    show ag _ _ = ag _ (nI (if decide (ν (i + 1) 0 = 1) = true then _ else _))
    have hl := ins_lt ν (show i ≤ 6 by omega)
    have := (hW.2.2.2 i hi).1
    rcases (show ν (i + 1) 0 = 0 ∨ ν (i + 1) 0 = 1 by omega) with z | z
    · rw [z, if_neg (by decide)]
      exact congrArg _ (or_z _ hl i (by omega))
    · rw [z, if_pos (by decide)]
      exact congrArg _ (or_sh _ hl i (by omega))
  · unfold bX7_setInside_4
    rw [hN.1, hC.1 2 (by decide), if_pos (nI_le (Nat.le_refl _) (by omega))]
theorem c_free {S : St} {k : Nat} {π ν : Nat → Nat → Nat} (hC : CP S k π) (hN : CN S k (π 0 2) (π 1) ν) (hV : VP π) (hQ : VQ π ν) : fX7_freePits S = some (nI (π 0 0 - cin ν (π 0 2)), S) := by
  have hM := hV.2.2.1
  unfold fX7_freePits
  rw [cal_of (c_setInside hC hN hV hQ.1), cal_of (p_bitCount (ins_lt ν hM)), hN.1, hC.1 0 (by decide), pop_ins (fun m hm => (hQ.1.2.2.2 m hm).1), Nat.min_eq_right (by omega), pk_sub hQ.2]
theorem m_free {S : St} {π ν : Nat → Nat → Nat} (hC : MP S π) (hN : MN (S 40 0) (π 0 2) ν) (hV : VP π) (hQ : VQ π ν) : fX11_free S = some (nI (π 0 0 - cin ν (π 0 2)), S) := by
  have hM := hV.2.2.1
  have n2 : S 40 0 2 = nI (ins ν (π 0 2)) := hN.2.2.1
  unfold fX11_free
  rw [show (2 : Int32) = nI 2 from rfl, ck_nI (show 2 < 70 by decide) (by decide), nI_clamp (by decide), n2, cal_of (m_ones (ins_lt ν hM)), hC.1, pop_ins (fun m hm => (hQ.1.2.2.2 m hm).1), Nat.min_eq_right (by omega), pk_sub hQ.2]
theorem or_in {ν : Nat → Nat → Nat} {M m : Nat} (hM : M ≤ 6) (hm : m < M) : nI (ins ν M) ||| ((1 : Int32) <<< (nI m &&& (31 : Int32))) = nI (ins (upn ν (m + 1) 0 1) M) := by
  rw [or_sh _ (ins_lt ν hM) m (by omega)]
  congr 1
  apply Nat.eq_of_testBit_eq
  intro i
  unfold ins
  rw [Nat.testBit_or, msk_bit, msk_bit, Nat.testBit_two_pow]
  by_cases e : i = m
  · subst e; rw [upn_same]; simp [hm]
  · rw [upn_ne (by omega)]; simp [show ¬ m = i by omega]
theorem b255 : ∀ i, i < 6 → Nat.testBit 255 i = true := by decide
theorem an_out {ν : Nat → Nat → Nat} {M m : Nat} (hM : M ≤ 6) (hm : m < M) : nI (ins ν M) &&& (((1 : Int32) <<< (nI m &&& (31 : Int32))) ^^^ (-1 : Int32)) = nI (ins (upn ν (m + 1) 0 0) M) := by
  rw [an_sh _ (ins_lt ν hM) m (by omega)]
  congr 1
  apply Nat.eq_of_testBit_eq
  intro i
  unfold ins
  rw [Nat.testBit_and, Nat.testBit_xor, msk_bit, msk_bit, Nat.testBit_two_pow]
  by_cases hi : i < M
  · rw [b255 i (by omega)]
    by_cases e : i = m
    · subst e; rw [upn_same]; simp
    · rw [upn_ne (by omega)]; simp [show ¬ m = i by omega]
  · simp [hi]
theorem c_ins {S : St} {k M m v : Nat} {kd : Nat → Nat} {ν : Nat → Nat → Nat} (hN : CN S k M kd ν) : CN (wr S 11 m 1 (nI v)) k M kd (upn ν (m + 1) 0 v) := by
  obtain ⟨n0, n1, n2⟩ := hN
  refine ⟨n0, fun i hi => ?_, fun j hj => ?_⟩
  · rw [upn_ne (by omega)]; exact n1 i hi
  · obtain ⟨k0, k1, k2, k3⟩ := n2 j hj
    refine ⟨?_, ?_, ?_, fun p hp => ?_⟩
    · rw [wr_i (by omega)]; exact k0
    · by_cases e : j = m
      · subst e; rw [wr_same, upn_same]
      · rw [wr_i (by omega), upn_ne (by omega)]; exact k1
    · rw [wr_i (by omega), upn_ne (by omega)]; exact k2
    · rw [wr_i (by omega), wr_i (by omega), upn_ne (by omega), upn_ne (by omega)]; exact k3 p hp
theorem m_ins {S : St} {M m v : Nat} {ν : Nat → Nat → Nat} (hN : MN (S 40 0) M ν) : MN (wr S 40 0 2 (nI (ins (upn ν (m + 1) 0 v) M)) 40 0) M (upn ν (m + 1) 0 v) := by
  obtain ⟨n0, n1, n2, n3, n4⟩ := hN
  refine ⟨?_, ?_, wr_same _ _ _ _ _, ?_, fun j hj => ⟨?_, fun p hp => ?_⟩⟩
  · rw [wr_i (by omega), upn_ne (by omega)]; exact n0
  · rw [wr_i (by omega), upn_ne (by omega)]; exact n1
  · rw [wr_i (by omega), upn_ne (by omega)]; exact n3
  · rw [wr_i (by omega), upn_ne (by omega)]; exact (n4 j hj).1
  · rw [wr_i (by omega), wr_i (by omega), upn_ne (by omega), upn_ne (by omega)]; exact (n4 j hj).2 p hp
theorem cin_up {ν : Nat → Nat → Nat} {m v : Nat} : ∀ n, (m < n → cin (upn ν (m + 1) 0 v) n + ν (m + 1) 0 = cin ν n + v) ∧ (n ≤ m → cin (upn ν (m + 1) 0 v) n = cin ν n)
  | 0 => ⟨fun h => by omega, fun _ => rfl⟩
  | n + 1 => by
    obtain ⟨h1, h2⟩ := cin_up (ν := ν) (m := m) (v := v) n
    constructor
    · intro h
      show cin (upn ν (m + 1) 0 v) n + upn ν (m + 1) 0 v (n + 1) 0 + ν (m + 1) 0 = cin ν n + ν (n + 1) 0 + v
      by_cases e : n = m
      · subst e; rw [upn_same, h2 (Nat.le_refl _)]; omega
      · rw [upn_ne (by omega)]; have := h1 (by omega); omega
    · intro h
      show cin (upn ν (m + 1) 0 v) n + upn ν (m + 1) 0 v (n + 1) 0 = cin ν n + ν (n + 1) 0
      rw [upn_ne (by omega), h2 (by omega)]
theorem vn_in {M m v : Nat} {ν : Nat → Nat → Nat} (h : VN M ν) (hv : v ≤ 1) : VN M (upn ν (m + 1) 0 v) := by
  obtain ⟨a1, a2, a3, a4⟩ := h
  refine ⟨?_, ?_, ?_, fun j hj => ⟨?_, ?_, fun p hp => ?_⟩⟩
  · rw [upn_ne (by omega)]; exact a1
  · rw [upn_ne (by omega)]; exact a2
  · rw [upn_ne (by omega)]; exact a3
  · by_cases e : j = m
    · subst e; rw [upn_same]; exact hv
    · rw [upn_ne (by omega)]; exact (a4 j hj).1
  · rw [upn_ne (by omega)]; exact (a4 j hj).2.1
  · rw [upn_ne (by omega), upn_ne (by omega)]; exact (a4 j hj).2.2 p hp
theorem vq_in {π ν : Nat → Nat → Nat} {m : Nat} (h : VQ π ν) (hm : m < π 0 2) (h0 : ν (m + 1) 0 = 0) (hf : cin ν (π 0 2) < π 0 0) : VQ π (upn ν (m + 1) 0 1) := by
  refine ⟨vn_in h.1 (by decide), ?_⟩
  have := (cin_up (ν := ν) (m := m) (v := 1) (π 0 2)).1 hm
  omega
theorem vq_out {π ν : Nat → Nat → Nat} {m : Nat} (h : VQ π ν) (hm : m < π 0 2) : VQ π (upn ν (m + 1) 0 0) := by
  refine ⟨vn_in h.1 (by decide), ?_⟩
  have := (cin_up (ν := ν) (m := m) (v := 0) (π 0 2)).1 hm
  have := h.2
  omega
theorem upn_id {ν : Nat → Nat → Nat} {a i v : Nat} (h : ν a i = v) : upn ν a i v = ν := by
  funext x j
  by_cases e : x = a ∧ j = i
  · rw [upn_at e, e.1, e.2, h]
  · rw [upn_ne e]
