theorem wsm_b {f : Nat → Bool} {w : Nat → Nat} {b : Nat} : ∀ M, (∀ m, m < M → w m ≤ b) → wsm f w M ≤ b * M
  | 0, _ => Nat.zero_le _
  | M + 1, h => by
    have h1 := wsm_b (f := f) M (fun m hm => h m (by omega))
    have h2 := h M (by omega)
    unfold wsm
    rw [Nat.mul_succ]
    split <;> omega
theorem p64e : ∀ m, m ≤ 6 → 2 ^ m ≤ 64 := by decide
theorem c_fill {S : St} {w : Nat → Nat} {n M : Nat} (hM : M ≤ 6) (hn : n ≤ 200) (h33 : S 33 0 0 = 0) (h34 : S 34 0 0 = 0) (h32 : ∀ m, m < M → (w m = 1000 ∧ S 32 0 m = -1) ∨ (w m ≤ 200 ∧ S 32 0 m = nI (w m))) : ∃ S2, fX5_fill (nI M) (nI n) S = some (0, S2) ∧ Fr (fun a o => (a = 33 ∨ a = 34) ∧ o = 0) S S2 ∧ S2 33 0 0 = 0 ∧ S2 34 0 0 = 0 ∧ ∀ t, t < 2 ^ M → PV S2 w n M t := by
  have h64 := p64e M hM
  have hwb : ∀ t, ws w M t ≤ 6000 := fun t => by
    have := wsm_b (f := fun m => t.testBit m) (w := w) (b := 1000) M (fun m hm => by rcases h32 m hm with ⟨a, _⟩ | ⟨a, _⟩ <;> omega)
    unfold ws
    omega
  have ws0 : ws w M 0 = 0 := wsm_0 M (fun m _ => by simp)
  have fin1 := lopSK (i0 := 0) (N := M) (z := fun _ _ => none) (b := bX5_fill_2 (nI M)) (x := 0) (S := S)
    (fun i S1 => Fr (fun a o => a = 33 ∧ o = 0) S S1 ∧ ∀ t, t < 2 ^ i → S1 33 0 t = nI (ws w M t)) ?hs1 ?he1 (Nat.zero_le _) (by rw [FU_eq]; omega) rfl ⟨Fr.rf, fun t ht => by
      have : t = 0 := by simp at ht; exact ht
      rw [this, h33, ws0]; rfl⟩
  case hs1 =>
    intro i S1 _ hi ⟨f1, g1⟩
    obtain ⟨S2, e2, f2, g2⟩ := c_addMonths (S := S1) (w := w) hM hi (by rw [f1 32 0 (by omega)]; exact h32 i hi) g1
    refine ⟨S2, ⟨f1.tr f2, g2⟩, fun kk ag => ?_⟩
    unfold bX5_fill_2
    rw [if_neg (nI_ge hi (by omega)), cal_of e2, nI_1]
  case he1 =>
    intro S1 _ kk ag
    unfold bX5_fill_2
    rw [if_pos (nI_le (Nat.le_refl _) (by omega))]
  obtain ⟨S1, ⟨f1, g1⟩, e1⟩ := fin1
  have fin2 := lopSK (i0 := 1) (N := 2 ^ M) (z := fun _ _ => none) (b := bX5_fill_20 (nI M) (nI n)) (x := 1) (S := S1)
    (fun i S2 => Fr (fun a o => a = 34 ∧ o = 0) S1 S2 ∧ S2 34 0 0 = 0 ∧ ∀ t, t < i → PV S2 w n M t) ?hs2 ?he2 (Nat.two_pow_pos M) (by rw [FU_eq]; omega) rfl ⟨Fr.rf, by rw [f1 34 0 (by omega)]; exact h34, fun t ht => by
      have : t = 0 := by omega
      subst this
      exact ⟨0, by rw [f1 34 0 (by omega)]; exact h34, by omega, fun k _ => ⟨fun _ => fit_0 _ _ _ _, fun _ => Nat.zero_le _⟩⟩⟩
  case hs2 =>
    intro i S2 hi1 hi ⟨f2, z2, g2⟩
    obtain ⟨v, e3, v1, v2⟩ := c_fewest (S := S2) (w := w) (n := n) hM hi (by omega) hn (fun t ht => by rw [f2 33 0 (by omega)]; exact ⟨g1 t ht, hwb t⟩) g2
    refine ⟨wr S2 34 0 i (nI v), ⟨f2.wr ⟨rfl, rfl⟩, by rw [wr_i (by omega)]; exact z2, fun t ht => ?_⟩, fun kk ag => ?_⟩
    · rcases (show t < i ∨ t = i by omega) with q | rfl
      · obtain ⟨u, u1, u2⟩ := g2 t q
        exact ⟨u, by rw [wr_i (by omega)]; exact u1, u2⟩
      · exact ⟨v, wr_same _ _ _ _ _, v1, v2⟩
    · unfold bX5_fill_20
      rw [sh_s M (by omega), if_neg (nI_ge hi (by omega)), cal_of e3, ck_nI (show i < 64 by omega) (by omega), bs_e, nI_clamp (by omega), nI_1]
  case he2 =>
    intro S2 _ kk ag
    unfold bX5_fill_20
    rw [sh_s M (by omega), if_pos (nI_le (Nat.le_refl _) (by omega))]
  obtain ⟨S2, ⟨f2, z2, g2⟩, e2⟩ := fin2
  refine ⟨S2, ?_, (f1.mono (fun a o h => by omega)).tr (f2.mono (fun a o h => by omega)), ?_, z2, g2⟩
  · unfold fX5_fill
    rw [jn_e, e1, jn_e, e2]
  · rw [f2 33 0 (by omega), g1 0 (Nat.two_pow_pos M), ws0]; rfl
/-- the best set -/
def bsf (F : Nat → Bool) : Nat → Nat
  | 0 => 0
  | i + 1 => if (i ≠ 0 ∧ pop (bsf F i) 8 < pop i 8) ∧ F i = true then i else bsf F i
theorem bsf_le (F : Nat → Bool) : ∀ i, bsf F i ≤ i
  | 0 => Nat.le_refl _
  | i + 1 => by
    have := bsf_le F i
    unfold bsf
    split <;> omega
theorem bsf_1 (F : Nat → Bool) : bsf F 1 = 0 := if_neg (fun z => z.1.1 rfl)
theorem bsf_s (F : Nat → Bool) (i : Nat) : bsf F (i + 1) = if (i ≠ 0 ∧ pop (bsf F i) 8 < pop i 8) ∧ F i = true then i else bsf F i := rfl
theorem c_most {S : St} {w : Nat → Nat} {n M P : Nat} {F : Nat → Bool} (hM : M ≤ 6) (hP : P ≤ 3) (hF : ∀ t, F t = true ↔ Fit w n M t P) (hp : ∀ t, t < 2 ^ M → PV S w n M t) : fX5_mostWithin (nI M) (nI P) S = some (nI (bsf F (2 ^ M)), S) := by
  have h64 := p64e M hM
  unfold fX5_mostWithin
  rw [jn_e]
  refine lopAS (i0 := 1) (N := 2 ^ M) (fun i => nI (bsf F i)) (fun _ => S) (fun i hi1 hi ag => ?_) (fun ag => ?_) (Nat.two_pow_pos M) (by rw [FU_eq]; omega) rfl (by (try dsimp only); rw [bsf_1]; rfl) rfl
  · obtain ⟨v, a1, a2, a3⟩ := hp i hi
    have b1 := bsf_le F i
    have c1 := pop_le i 8
    have c2 := pop_le (bsf F i) 8
    unfold bX5_mostWithin_5
    rw [sh_s M (by omega), if_neg (nI_ge hi (by omega)), ck_nI (show i < 64 by omega) (by omega), nI_clamp (by omega), a1, cal_of (p_bitCount (show i < 256 by omega)), cal_of (p_bitCount (show bsf F i < 256 by omega)), nI_1, bsf_s]
    by_cases hv : v ≤ P
    · have hFi : F i = true := (hF i).mpr ((a3 P hP).mp hv)
      rw [if_neg (nI_nlt hv (by omega))]
      by_cases hc : pop (bsf F i) 8 < pop i 8
      · rw [if_neg (nI_ge hc (by omega)), if_pos ⟨⟨by omega, hc⟩, hFi⟩]
      · rw [if_pos (nI_le (by omega) (by omega)), if_neg (fun z => hc z.1.2)]
    · have hFi : ¬ F i = true := fun z => hv ((a3 P hP).mpr ((hF i).mp z))
      rw [if_pos (nI_lt (by omega) (by omega)), if_neg (fun z => hFi z.2)]
  · unfold bX5_mostWithin_5
    rw [sh_s M (by omega), if_pos (nI_le (Nat.le_refl _) (by omega))]
def thC (a o : Nat) : Prop := trC a o ∨ a = 32
/-- what the months are by which all is borne -/
def KF (π ν : Nat → Nat → Nat) (kf : Nat → Nat) : Prop := ∀ m, m < π 0 2 → kf m ≤ 201 ∧ (∀ j, j < kf m → ¬ brs π (fun p => ν (m + 1) (2 + p)) (tr (π 1 m) (ν 0 1) (ν 0 0) (fun p => ν (m + 1) (7 + p)) j) (2 ^ π 0 3 - 1) = true) ∧ (kf m < 201 → brs π (fun p => ν (m + 1) (2 + p)) (tr (π 1 m) (ν 0 1) (ν 0 0) (fun p => ν (m + 1) (7 + p)) (kf m)) (2 ^ π 0 3 - 1) = true)
theorem kf_of (π ν : Nat → Nat → Nat) : ∃ kf, KF π ν kf := by
  have h : ∀ m, ∃ k, k ≤ 201 ∧ (∀ j, j < k → ¬ brs π (fun p => ν (m + 1) (2 + p)) (tr (π 1 m) (ν 0 1) (ν 0 0) (fun p => ν (m + 1) (7 + p)) j) (2 ^ π 0 3 - 1) = true) ∧ (k < 201 → brs π (fun p => ν (m + 1) (2 + p)) (tr (π 1 m) (ν 0 1) (ν 0 0) (fun p => ν (m + 1) (7 + p)) k) (2 ^ π 0 3 - 1) = true) := fun m => first_of _ 201
  exact ⟨fun m => Classical.choose (h m), fun m _ => Classical.choose_spec (h m)⟩
def wC (kf : Nat → Nat) (m : Nat) : Nat := if kf m < 201 then kf m else 1000
def wM (kf : Nat → Nat) (m : Nat) : Nat := if kf m < 201 then kf m else 1000000
theorem c_needs {S : St} {k : Nat} {π ν : Nat → Nat → Nat} {kf : Nat → Nat} (hk : pid (S 0 0 1) = k) (hC : CP S k π) (hN : CN S k (π 0 2) (π 1) ν) (hV : VP π) (hW : VN (π 0 2) ν) (hK : KF π ν kf) : ∃ S2, (∀ kk, lop (fun _ _ => none) (bX10_through_38 kk) FU (0 : Int32) S = kk S2) ∧ Fr thC S S2 ∧ ∀ m, m < π 0 2 → S2 32 0 m = if kf m < 201 then nI (kf m) else -1 := by
  have hM := hV.2.2.1
  have hvy := hV.2.2.2.2.1
  have hY := hvy.1
  have p8 : 2 ^ π 0 3 ≤ 2 ^ 8 := Nat.pow_le_pow_right (by decide) hY
  have p0 := Nat.two_pow_pos (π 0 3)
  have fin := lopSK (i0 := 0) (N := π 0 2) (z := fun _ _ => none) (b := bX10_through_38) (x := 0) (S := S)
    (fun i S1 => Fr thC S S1 ∧ ∀ m, m < i → S1 32 0 m = if kf m < 201 then nI (kf m) else -1) ?hs ?he (Nat.zero_le _) (by rw [FU_eq]; omega) rfl ⟨Fr.rf, fun m h => by omega⟩
  case hs =>
    intro i S1 _ hi ⟨f1, g1⟩
    have hk1 : pid (S1 0 0 1) = k := by rw [f1 0 0 (by unfold thC trC; omega)]; exact hk
    have cp1 : CP S1 k π := hC.fr (f1 3 _ (by unfold thC trC; omega)) (f1 4 _ (by unfold thC trC; omega)) (fun o => f1 6 o (by unfold thC trC; omega)) (f1 7 _ (by unfold thC trC; omega)) (f1 8 _ (by unfold thC trC; omega))
    have cn1 : CN S1 k (π 0 2) (π 1) ν := hN.fr hM (f1 9 0 (by unfold thC trC; omega)) (fun a o ha ho => f1 a o (by unfold thC trC; omega))
    obtain ⟨S2, e2, f2, t2, -⟩ := c_startNow cn1 hV hi
    have hk2 : pid (S2 0 0 1) = k := by rw [f2 0 0 (by unfold trC; omega)]; exact hk1
    have hY2 : S2 3 k 3 = nI (π 0 3) := by rw [f2 3 k (by unfold trC; omega)]; exact cp1.1 3 (by decide)
    obtain ⟨n1, n2, n3⟩ := hK i hi
    obtain ⟨S3, e3, f3⟩ := c_firstBearing (n := kf i) (cp1.cy.frt f2) hvy t2 (hW.vs hi) (hV.2.2.2.1 i hi).1 hW.2.1 (by have := hW.1; omega) (show 2 ^ π 0 3 - 1 < 256 by omega) n1 n2 n3
    refine ⟨wr S3 32 0 i (if kf i < 201 then nI (kf i) else -1), ⟨(f1.tr ((f2.tr f3).mono (fun a o h => Or.inl h))).wr (Or.inr rfl), fun m hm => ?_⟩, fun kk ag => ?_⟩
    · rcases (show m < i ∨ m = i by omega) with q | rfl
      · rw [wr_i (by omega), f3 32 0 (by unfold trC; omega), f2 32 0 (by unfold trC; omega)]; exact g1 m q
      · rw [wr_same]
    · have ev : fX6_everySaying k S2 = some (nI (2 ^ π 0 3 - 1), S2) := by
        unfold fX6_everySaying
        rw [hY2, sh_1 (π 0 3) hY]
      unfold bX10_through_38
      rw [hk1, cp1.1 2 (by decide), if_neg (nI_ge hi (by omega)), cal_of e2, hk2, cal_of ev, cal_of e3, ck_nI (show i < 6 by omega) (by omega), bs_e, nI_clamp (by omega), nI_1]
  case he =>
    intro S1 ⟨f1, _⟩ kk ag
    unfold bX10_through_38
    rw [f1 0 0 (by unfold thC trC; omega), hk, f1 3 k (by unfold thC trC; omega), hC.1 2 (by decide), if_pos (nI_le (Nat.le_refl _) (by omega))]
  obtain ⟨S2, ⟨f1, g1⟩, e⟩ := fin
  exact ⟨S2, e, f1, g1⟩
def thD (a o : Nat) : Prop := thC a o ∨ ((a = 33 ∨ a = 34) ∧ o = 0)
theorem c_through {S : St} {k n : Nat} {π ν : Nat → Nat → Nat} {kf : Nat → Nat} {F : Nat → Bool} {b : Int32} (hk : pid (S 0 0 1) = k) (hC : CP S k π) (hN : CN S k (π 0 2) (π 1) ν) (hV : VP π) (hW : VN (π 0 2) ν) (hK : KF π ν kf) (h33 : S 33 0 0 = 0) (h34 : S 34 0 0 = 0) (hn : n ≤ 200) (hP : π 0 0 ≠ 0) (hb : (0 : Int32) ≤ b ∧ b ≤ 1) (hF : ∀ t, F t = true ↔ Fit (wC kf) n (π 0 2) t (π 0 0)) : ∃ S2, fX10_through (nI n) b S = some (if b = 0 then nI (pop (bsf F (2 ^ π 0 2)) 8) else nI (bsf F (2 ^ π 0 2)), S2) ∧ Fr thD S S2 ∧ S2 33 0 0 = 0 ∧ S2 34 0 0 = 0 := by
  have hM := hV.2.2.1
  have P3 := hV.1
  have h64 := p64e _ hM
  obtain ⟨S1, e1, f1, g1⟩ := c_needs hk hC hN hV hW hK
  have hk1 : pid (S1 0 0 1) = k := by rw [f1 0 0 (by unfold thC trC; omega)]; exact hk
  obtain ⟨S2, e2, f2, z33, z34, g2⟩ := c_fill (S := S1) (w := wC kf) (n := n) hM hn (by rw [f1 33 0 (by unfold thC trC; omega)]; exact h33) (by rw [f1 34 0 (by unfold thC trC; omega)]; exact h34) (fun m hm => by
    rw [g1 m hm]
    unfold wC
    by_cases h : kf m < 201
    · rw [if_pos h, if_pos h]; exact Or.inr ⟨by omega, rfl⟩
    · rw [if_neg h, if_neg h]; exact Or.inl ⟨rfl, rfl⟩)
  have hk2 : pid (S2 0 0 1) = k := by rw [f2 0 0 (by omega)]; exact hk1
  have hn0 : (0 : Int32) ≤ nI n ∧ nI n ≤ (200 : Int32) := in_of (lo := 0) (hi := 200) (Nat.zero_le _) hn (by decide)
  have hbs := bsf_le F (2 ^ π 0 2)
  refine ⟨S2, ?_, (f1.mono (fun a o h => Or.inl h)).tr (f2.mono (fun a o h => Or.inr h)), z33, z34⟩
  unfold fX10_through
  rw [c_isOut, cal_s, if_pos hn0, if_pos rfl, c_isOut, cal_s, if_pos hb, if_pos rfl, hk, cal_of (c_isNone (hC.1 0 (by decide)) P3), if_neg hP, if_pos rfl, jn_e, e1, hk1, f1 3 k (by unfold thC trC; omega), hC.1 2 (by decide), cal_of e2, hk2, f2 3 k (by omega), f1 3 k (by unfold thC trC; omega), hC.1 2 (by decide), hC.1 0 (by decide), cal_of (c_most hM P3 hF g2)]
  by_cases h0 : b = 0
  · rw [if_pos h0, if_pos h0, cal_of (p_bitCount (show bsf F (2 ^ π 0 2) < 256 by omega))]
  · rw [if_neg h0, if_neg h0]
