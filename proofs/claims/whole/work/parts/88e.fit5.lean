theorem ck3_0 {F : Op} : ck (0 : Int32) 3 F = F := if_neg (by decide)
theorem ck3_1 {F : Op} : ck (1 : Int32) 3 F = F := if_neg (by decide)
theorem ck3_2 {F : Op} : ck (2 : Int32) 3 F = F := if_neg (by decide)
theorem cq_0 : Int32.toNatClampNeg (0 : Int32) = 0 := rfl
theorem cq_1 : Int32.toNatClampNeg (1 : Int32) = 1 := rfl
theorem cq_2 : Int32.toNatClampNeg (2 : Int32) = 2 := rfl
/-- nobody of the set needs too long alone -/
def cnT (w : Nat → Nat) (n s : Nat) : Nat → Bool := al (fun m => !s.testBit m || decide (w m ≤ n))
theorem cnT_s (w : Nat → Nat) (n s m : Nat) : cnT w n s (m + 1) = (cnT w n s m && (!s.testBit m || decide (w m ≤ n))) := rfl
theorem wa_s (P s m : Nat) : wa P s (m + 1) = wa P s m * (if s.testBit m = true then P else 1) := rfl
theorem m_go8 {S : St} {w : Nat → Nat} {M P s n : Nat} (hM : M ≤ 6) (hs : s < 256) (h2 : S 35 0 2 = nI M) (h0 : S 35 0 0 = nI P) (hw : ∀ m, m < M → S 55 0 m = nI (w m)) (hwb : ∀ m, m < M → w m ≤ 1000000) (hn : n ≤ 200) (kk : Int32 → Int32 → St → Op) : lop (fun _ _ _ _ => none) (bX11_goThrough_8 (nI s) (nI n) kk) FU (0 : Int32) (1 : Int32) (1 : Int32) S = kk (if cnT w n s M = true then 1 else 0) (nI (wa P s M)) S := by
  refine lopAAS (i0 := 0) (N := M) (fun m => if cnT w n s m = true then (1 : Int32) else 0) (fun m => nI (wa P s m)) (fun _ => S) (fun m _ hm ag => ?_) (fun ag => ?_) (Nat.zero_le _) (by rw [FU_eq]; omega) rfl rfl rfl rfl
  · unfold bX11_goThrough_8
    rw [h2, if_neg (nI_ge hm (by omega)), cal_of (m_has hs (by omega)), jn_e, nI_1]
    try dsimp only
    cases hb : s.testBit m
    · have e1 : wa P s (m + 1) = wa P s m := by rw [wa_s, hb]; simp
      have e2 : cnT w n s (m + 1) = cnT w n s m := by rw [cnT_s, hb]; simp
      have e3 : nI (wa P s m) * (1 : Int32) = nI (wa P s m) := by rw [show (1 : Int32) = nI 1 from rfl, pk_mul, Nat.mul_one]
      rw [if_neg Bool.false_ne_true, if_pos rfl, bi_e, e1, e2, e3]
      cases hc : cnT w n s m
      · rw [if_neg Bool.false_ne_true, if_pos rfl]
      · rw [if_pos rfl, if_neg n10, cal_of (m_has hs (by omega)), hb, if_neg Bool.false_ne_true, if_pos rfl]
    · have e1 : wa P s (m + 1) = wa P s m * P := by rw [wa_s, hb, if_pos rfl]
      have e2 : cnT w n s (m + 1) = (cnT w n s m && decide (w m ≤ n)) := by rw [cnT_s, hb]; simp
      rw [if_pos rfl, if_neg n10, bi_e, h0, pk_mul, e1, e2]
      cases hc : cnT w n s m
      · rw [if_neg Bool.false_ne_true, if_pos rfl, Bool.false_and, if_neg Bool.false_ne_true]
      · rw [if_pos rfl, if_neg n10, cal_of (m_has hs (by omega)), hb, if_pos rfl, if_neg n10, ck_nI (show m < 6 by omega) (by omega), nI_clamp (by omega), hw m hm, Bool.true_and]
        have hb2 := hwb m hm
        by_cases h : w m ≤ n
        · rw [if_neg (nI_nlt h (by omega)), decide_eq_true h, if_pos rfl]
        · rw [if_pos (nI_lt (by omega) (by omega)), decide_eq_false h, if_neg Bool.false_ne_true]
  · unfold bX11_goThrough_8
    rw [h2, if_pos (nI_le (Nat.le_refl _) (by omega))]
theorem p3e : ∀ m, m ≤ 6 → 3 ^ m ≤ 729 := by decide
theorem m_go81 {S : St} {w : Nat → Nat} {M P s n : Nat} {F : Bool} (hM : M ≤ 6) (hP : 0 < P) (hP3 : P ≤ 3) (hs : s < 256) (h2 : S 35 0 2 = nI M) (h0 : S 35 0 0 = nI P) (hw : ∀ m, m < M → S 55 0 m = nI (w m)) (hwb : ∀ m, m < M → w m ≤ 1000000) (hn : n ≤ 200) (hF : F = true ↔ ∃ way, way < wa P s M ∧ wayOk w n M P s way) : ∃ S2, (∀ kk, lop (fun _ _ _ => none) (bX11_goThrough_81 (nI s) (nI n) 1 (nI (wa P s M)) kk) FU (0 : Int32) (0 : Int32) S = kk (if F = true then 1 else 0) S2) ∧ Fr (fun a o => a = 56 ∧ o = 0) S S2 := by
  have hwa : wa P s M ≤ 729 := Nat.le_trans (wa_le s hP3 M) (p3e M hM)
  obtain ⟨k, k1, k2, k3⟩ := first_of (fun way => wayOk w n M P s way) (wa P s M)
  have hFk : F = true ↔ k < wa P s M := by
    rw [hF]
    constructor
    · rintro ⟨way, a, b⟩
      rcases Nat.lt_or_ge way k with q | q
      · exact absurd b (k2 way q)
      · omega
    · intro h
      exact ⟨k, h, k3 h⟩
  have fin := lopASK (i0 := 0) (N := if k < wa P s M then k + 1 else wa P s M) (z := fun _ _ _ => none) (b := bX11_goThrough_81 (nI s) (nI n) 1 (nI (wa P s M))) (x := 0) (a := 0) (S := S) (fun i => if k < i then (1 : Int32) else 0)
    (fun _ S1 => Fr (fun a o => a = 56 ∧ o = 0) S S1) ?hs ?he (Nat.zero_le _) (by rw [FU_eq]; split <;> omega) rfl (if_neg (Nat.not_lt_zero _)) Fr.rf
  case hs =>
    intro i S1 _ hi f1
    have hik : i ≤ k ∧ i < wa P s M := by split at hi <;> omega
    have fz : Fr (fun a o => a = 56 ∧ o = 0) S (wr (wr (wr S1 56 0 0 0) 56 0 1 0) 56 0 2 0) := ((f1.wr ⟨rfl, rfl⟩).wr ⟨rfl, rfl⟩).wr ⟨rfl, rfl⟩
    have hz : ∀ c, c < 3 → wr (wr (wr S1 56 0 0 0) 56 0 1 0) 56 0 2 0 56 0 c = 0 := fun c hc => by
      rcases (show c = 0 ∨ c = 1 ∨ c = 2 by omega) with rfl | rfl | rfl
      · rw [wr_i (by omega), wr_i (by omega), wr_same]
      · rw [wr_i (by omega), wr_same]
      · rw [wr_same]
    obtain ⟨S2, e2, f2, g2⟩ := m_go125 (S := wr (wr (wr S1 56 0 0 0) 56 0 1 0) 56 0 2 0) (w := w) (M := M) (P := P) (s := s) (way := i) hM hP hP3 hs (by omega) (by rw [fz 35 0 (by omega)]; exact h2) (by rw [fz 35 0 (by omega)]; exact h0) (fun m hm => by rw [fz 55 0 (by omega)]; exact hw m hm) hz
    have hb : ∀ c, bz w P s i c M ≤ 1000000 * M := fun c => wsm_b M hwb
    have hok : wayOk w n M P s i ↔ ∀ c, c < 3 → bz w P s i c M ≤ n := Iff.rfl
    have hx : wayOk w n M P s i ↔ k < i + 1 := by
      constructor
      · intro h
        rcases Nat.lt_or_ge i k with q | q
        · exact absurd h (k2 i q)
        · omega
      · intro h
        have : i = k := by omega
        subst this
        exact k3 hik.2
    refine ⟨S2, fz.tr f2, fun kk ag => ?_⟩
    have b0 := hb 0
    have b1 := hb 1
    have b2 := hb 2
    unfold bX11_goThrough_81
    rw [if_neg (show ¬ k < i by omega), if_neg (nI_ge hik.2 (by omega)), if_neg n10, if_pos rfl, ck3_0, bs_e, ck3_1, bs_e, ck3_2, bs_e, cq_0, cq_1, cq_2, jn_e, e2]
    try dsimp only
    rw [ck3_0, ck3_1, ck3_2, g2 0 (by omega), g2 1 (by omega), g2 2 (by omega), nI_1]
    by_cases q0 : bz w P s i 0 M ≤ n
    · rw [if_neg (nI_nlt q0 (by omega))]
      by_cases q1 : bz w P s i 1 M ≤ n
      · rw [if_neg (nI_nlt q1 (by omega))]
        by_cases q2 : bz w P s i 2 M ≤ n
        · rw [if_neg (nI_nlt q2 (by omega)), if_pos (hx.mp (hok.mpr (fun c hc => by rcases (show c = 0 ∨ c = 1 ∨ c = 2 by omega) with rfl | rfl | rfl <;> assumption)))]
        · rw [if_pos (nI_lt (by omega) (by omega)), if_neg (fun z => q2 (hok.mp (hx.mpr z) 2 (by omega)))]
      · rw [if_pos (nI_lt (by omega) (by omega)), if_neg (fun z => q1 (hok.mp (hx.mpr z) 1 (by omega)))]
    · rw [if_pos (nI_lt (by omega) (by omega)), if_neg (fun z => q0 (hok.mp (hx.mpr z) 0 (by omega)))]
  case he =>
    intro S1 _ kk ag
    unfold bX11_goThrough_81
    by_cases h : k < wa P s M
    · rw [if_pos h, if_pos (Nat.lt_succ_self k), if_neg n10, if_neg n10, ite_self]
    · rw [if_neg h, if_neg h, if_pos (nI_le (Nat.le_refl _) (by omega))]
  obtain ⟨S2, f2, e2⟩ := fin
  refine ⟨S2, fun kk => ?_, f2⟩
  rw [e2]
  try dsimp only
  by_cases h : k < wa P s M
  · rw [if_pos h, if_pos (Nat.lt_succ_self k), if_pos (hFk.mpr h)]
  · rw [if_neg h, if_neg h, if_neg (fun z => h (hFk.mp z))]
theorem m_goThrough {S : St} {w : Nat → Nat} {M P s n : Nat} {F : Bool} (hM : M ≤ 6) (hP : 0 < P) (hP3 : P ≤ 3) (hs2 : s < 256) (h2 : S 35 0 2 = nI M) (h0 : S 35 0 0 = nI P) (hw : ∀ m, m < M → S 55 0 m = nI (w m)) (hwb : ∀ m, m < M → w m ≤ 1000000) (hn : n ≤ 200) (hF : F = true ↔ Fit w n M s P) : ∃ S2, fX11_goThrough (nI s) (nI n) S = some (if F = true then 1 else 0, S2) ∧ Fr (fun a o => a = 56 ∧ o = 0) S S2 := by
  cases hc : cnT w n s M
  · have hnF : ¬ F = true := fun z => by
      obtain ⟨g, g1, g2⟩ := hF.mp z
      have hcn : ¬ cnT w n s M = true := by rw [hc]; decide
      apply hcn
      unfold cnT
      rw [al_iff]
      intro m hm
      cases hb : s.testBit m
      · rfl
      · have := wsm_mem (f := fun m' => s.testBit m' && decide (g m' = g m)) (w := w) (n := n) (m := m) (by simp [hb]) M hm (g2 (g m) (g1 m hm hb))
        simp [this]
    refine ⟨S, ?_, Fr.rf⟩
    unfold fX11_goThrough
    rw [jn_e, m_go8 hM hs2 h2 h0 hw hwb hn, hc, if_neg Bool.false_ne_true, if_neg hnF]
    try dsimp only
    rw [jn_e]
    refine lopAS (i0 := 0) (N := 0) (fun _ => 0) (fun _ => S) (fun i _ h => absurd h (Nat.not_lt_zero _)) (fun ag => ?_) (Nat.le_refl _) (by rw [FU_eq]; omega) rfl rfl rfl
    unfold bX11_goThrough_81
    by_cases h : nI (wa P s M) ≤ nI 0
    · rw [if_pos h]; rfl
    · rw [if_neg h, if_pos rfl]; rfl
  · obtain ⟨S2, e2, f2⟩ := m_go81 (F := F) hM hP hP3 hs2 h2 h0 hw hwb hn (hF.trans (way_iff hP hP3).symm)
    refine ⟨S2, ?_, f2⟩
    unfold fX11_goThrough
    rw [jn_e, m_go8 hM hs2 h2 h0 hw hwb hn, hc, if_pos rfl]
    try dsimp only
    rw [jn_e, e2]
    try dsimp only
    cases F <;> rfl
theorem m_most {S : St} {w : Nat → Nat} {M P n : Nat} {F : Nat → Bool} (hM : M ≤ 6) (hP : 0 < P) (hP3 : P ≤ 3) (h2 : S 35 0 2 = nI M) (h0 : S 35 0 0 = nI P) (hw : ∀ m, m < M → S 55 0 m = nI (w m)) (hwb : ∀ m, m < M → w m ≤ 1000000) (hn : n ≤ 200) (hF : ∀ t, F t = true ↔ Fit w n M t P) : ∃ S2, (∀ kk, lop (fun _ _ _ => none) (bX11_through_150 (nI n) kk) FU (1 : Int32) (0 : Int32) S = kk (nI (bsf F (2 ^ M))) S2) ∧ Fr (fun a o => a = 56 ∧ o = 0) S S2 := by
  have h64 := p64e M hM
  have fin := lopASK (i0 := 1) (N := 2 ^ M) (z := fun _ _ _ => none) (b := bX11_through_150 (nI n)) (x := 1) (a := 0) (S := S) (fun i => nI (bsf F i))
    (fun _ S1 => Fr (fun a o => a = 56 ∧ o = 0) S S1) ?hs ?he (Nat.two_pow_pos M) (by rw [FU_eq]; omega) rfl (by (try dsimp only); rw [bsf_1]; rfl) Fr.rf
  case hs =>
    intro i S1 hi1 hi f1
    have b1 := bsf_le F i
    have c1 := pop_le i 8
    have c2 := pop_le (bsf F i) 8
    have hS2 : S1 35 0 2 = nI M := by rw [f1 35 0 (by omega)]; exact h2
    by_cases hc : pop (bsf F i) 8 < pop i 8
    · obtain ⟨S2, e2, f2⟩ := m_goThrough (S := S1) (w := w) (s := i) (F := F i) hM hP hP3 (by omega) hS2 (by rw [f1 35 0 (by omega)]; exact h0) (fun m hm => by rw [f1 55 0 (by omega)]; exact hw m hm) hwb hn (hF i)
      refine ⟨S2, f1.tr f2, fun kk ag => ?_⟩
      unfold bX11_through_150
      rw [hS2, sh_s M (by omega), if_neg (nI_ge hi (by omega)), cal_of (m_ones (show i < 256 by omega)), cal_of (m_ones (show bsf F i < 256 by omega)), if_neg (nI_ge hc (by omega)), cal_of e2, nI_1, bsf_s]
      cases hf : F i
      · rw [if_neg Bool.false_ne_true, if_pos rfl, if_neg (fun z => absurd z.2 Bool.false_ne_true)]
      · rw [if_pos rfl, if_neg n10, if_pos ⟨⟨by omega, hc⟩, rfl⟩]
    · refine ⟨S1, f1, fun kk ag => ?_⟩
      unfold bX11_through_150
      rw [hS2, sh_s M (by omega), if_neg (nI_ge hi (by omega)), cal_of (m_ones (show i < 256 by omega)), cal_of (m_ones (show bsf F i < 256 by omega)), if_pos (nI_le (by omega) (by omega)), nI_1, bsf_s, if_neg (fun z => hc z.1.2)]
  case he =>
    intro S1 f1 kk ag
    unfold bX11_through_150
    rw [f1 35 0 (by omega), h2, sh_s M (by omega), if_pos (nI_le (Nat.le_refl _) (by omega))]
  obtain ⟨S2, f2, e2⟩ := fin
  exact ⟨S2, e2, f2⟩
theorem m_through {S : St} {n : Nat} {π ν : Nat → Nat → Nat} {kf : Nat → Nat} {F : Nat → Bool} {b : Int32} (hP : MP S π) (hN : MN (S 40 0) (π 0 2) ν) (hV : VP π) (hW : VN (π 0 2) ν) (hK : KF π ν kf) (hn : n ≤ 200) (hP0 : π 0 0 ≠ 0) (hb : (0 : Int32) ≤ b ∧ b ≤ 1) (hF : ∀ t, F t = true ↔ Fit (wM kf) n (π 0 2) t (π 0 0)) : ∃ S2, fX11_through (nI n) b S = some (if b = 0 then nI (pop (bsf F (2 ^ π 0 2)) 8) else nI (bsf F (2 ^ π 0 2)), S2) ∧ Fr (fun a _ => a = 51 ∨ a = 52 ∨ a = 55 ∨ a = 56) S S2 := by
  have hM := hV.2.2.1
  have P3 := hV.1
  have h64 := p64e _ hM
  have hbs := bsf_le F (2 ^ π 0 2)
  obtain ⟨S1, e1, f1, g1⟩ := m_needs hP hN hV hW hK
  obtain ⟨S2, e2, f2⟩ := m_most (S := S1) (w := wM kf) (n := n) (F := F) hM (by omega) P3 (by rw [f1 35 0 (by omega)]; exact hP.2.2.1) (by rw [f1 35 0 (by omega)]; exact hP.1) g1 (fun m hm => by
    have := (hK m hm).1
    unfold wM
    split <;> omega) hn hF
  have hn0 : (0 : Int32) ≤ nI n ∧ nI n ≤ (200 : Int32) := in_of (lo := 0) (hi := 200) (Nat.zero_le _) hn (by decide)
  have w0 : fX11_within (nI n).toInt64 (0 : Int64) (200 : Int64) S = some (if (0 : Int32) ≤ nI n ∧ nI n ≤ 200 then 1 else 0, S) := m_within (nI n) 0 200 S
  have w1 : fX11_within b.toInt64 (0 : Int64) (1 : Int64) S = some (if (0 : Int32) ≤ b ∧ b ≤ 1 then 1 else 0, S) := m_within b 0 1 S
  refine ⟨S2, ?_, (f1.mono (fun a o h => by omega)).tr (f2.mono (fun a o h => by omega))⟩
  unfold fX11_through
  rw [cal_of w0, if_pos hn0, if_neg n10, cal_of w1, if_pos hb, if_neg n10, hP.1, if_neg (nI_ne0 (by omega) (by omega)), jn_e, e1]
  try dsimp only
  rw [jn_e, e2]
  try dsimp only
  by_cases h0 : b = 0
  · rw [if_pos h0, if_pos h0, cal_of (m_ones (show bsf F (2 ^ π 0 2) < 256 by omega))]
  · rw [if_neg h0, if_neg h0]
theorem fit_cm {π ν : Nat → Nat → Nat} {kf : Nat → Nat} {n t P : Nat} (hK : KF π ν kf) (hn : n ≤ 200) : Fit (wC kf) n (π 0 2) t P ↔ Fit (wM kf) n (π 0 2) t P := by
  have h : ∀ m, m < π 0 2 → wC kf m = wM kf m ∨ (n < wC kf m ∧ n < wM kf m) := fun m hm => by
    unfold wC wM
    by_cases q : kf m < 201
    · rw [if_pos q, if_pos q]; exact Or.inl rfl
    · rw [if_neg q, if_neg q]; exact Or.inr (by omega)
  exact ⟨fit_w h, fit_w (fun m hm => (h m hm).elim (fun e => Or.inl e.symm) (fun e => Or.inr ⟨e.2, e.1⟩))⟩
theorem IC.thr {S S1 : St} {q : Nat → Nat} {π ν : Nat → Nat → Nat} {us im : Nat → Nat → Nat → Nat} {d : Nat → Nat → Nat} {fa : Int32} (h : IC S q π ν us im d fa) (hM : π 0 2 ≤ 6) (f : Fr thD S S1) (h33 : S1 33 0 0 = 0) (h34 : S1 34 0 0 = 0) : IC S1 q π ν us im d fa := by
  have h1 : IC (fun a o => if a = 33 ∨ a = 34 then S a o else S1 a o) q π ν us im d fa := by
    refine h.fr hM (fun a o hn => ?_)
    by_cases e : a = 33 ∨ a = 34
    · exact if_pos e
    · refine (if_neg e).trans (f a o (fun z => hn ?_))
      unfold thD thC trC at z
      unfold scC
      omega
  obtain ⟨z, r⟩ := h1
  exact ⟨⟨z.1, z.2.1, z.2.2.1, h33, h34⟩, r⟩
theorem same_through (a b : Int32) : Same (fX10_through a b) (fX11_through a b) := by
  rintro S ⟨q, π, ν, us, im, d, fa, hC, hM, hV⟩
  have hk := hC.k
  have hP3 := hV.1.1
  have w0 : ∀ S0, fX11_within a.toInt64 (0 : Int64) (200 : Int64) S0 = some (if (0 : Int32) ≤ a ∧ a ≤ 200 then 1 else 0, S0) := fun S0 => m_within a 0 200 S0
  have w1 : ∀ S0, fX11_within b.toInt64 (0 : Int64) (1 : Int64) S0 = some (if (0 : Int32) ≤ b ∧ b ≤ 1 then 1 else 0, S0) := fun S0 => m_within b 0 1 S0
  by_cases ha : (0 : Int32) ≤ a ∧ a ≤ 200
  · by_cases hb : (0 : Int32) ≤ b ∧ b ≤ 1
    · by_cases hP0 : π 0 0 = 0
      · refine same_no (r := -1000000003) hC hM hV ?_ (fun S0 h0 => ?_)
        · unfold fX10_through
          rw [c_isOut, cal_s, if_pos ha, if_pos rfl, c_isOut, cal_s, if_pos hb, if_pos rfl, hk, cal_of (c_isNone (hC.2.1.1 0 (by decide)) hP3), if_pos hP0, if_neg n10]
        · unfold fX11_through
          rw [cal_of (w0 S0), if_pos ha, if_neg n10, cal_of (w1 S0), if_pos hb, if_neg n10, h0.1.1, hP0, if_pos (show nI 0 = (0 : Int32) from rfl)]
      · obtain ⟨n, -, hn, rfl⟩ := nat_of (lo := 0) (hi := 200) (by decide) (by decide) ha
        obtain ⟨kf, hK⟩ := kf_of π ν
        obtain ⟨F, hF⟩ : ∃ F : Nat → Bool, ∀ t, F t = true ↔ Fit (wM kf) n (π 0 2) t (π 0 0) := ⟨fun t => @decide (Fit (wM kf) n (π 0 2) t (π 0 0)) (Classical.propDecidable _), fun t => @decide_eq_true_iff _ (Classical.propDecidable _)⟩
        obtain ⟨S1, e1, f1, z33, z34⟩ := c_through (F := F) hk hC.2.1 hC.2.2.1 hV.1 hV.2.1.1 hK hC.1.2.2.2.1 hC.1.2.2.2.2 hn hP0 hb (fun t => (hF t).trans (fit_cm hK hn).symm)
        refine same_ch hM e1 (fun a ha => kind_of f1 (fun o => by unfold thD thC trC; omega)) (hC.thr hV.1.2.2.1 f1 z33 z34) hV (fun S0 h0 => ?_)
        obtain ⟨S2, e2, f2⟩ := m_through (F := F) h0.1 h0.2.1 hV.1 hV.2.1.1 hK hn hP0 hb hF
        exact ⟨S2, e2, h0.fr (f2.mono (fun a o h => by unfold scM; omega)), fun a ha => kind_of f2 (fun o => by omega)⟩
    · refine same_no (r := -1000000002) hC hM hV ?_ (fun S0 h0 => ?_)
      · unfold fX10_through
        rw [c_isOut, cal_s, if_pos ha, if_pos rfl, c_isOut, cal_s, if_neg hb, if_neg n10]
      · unfold fX11_through
        rw [cal_of (w0 S0), if_pos ha, if_neg n10, cal_of (w1 S0), if_neg hb, if_pos rfl]
  · refine same_no (r := -1000000002) hC hM hV ?_ (fun S0 h0 => ?_)
    · unfold fX10_through
      rw [c_isOut, cal_s, if_neg ha, if_neg n10]
    · unfold fX11_through
      rw [cal_of (w0 S0), if_neg ha, if_pos rfl]
