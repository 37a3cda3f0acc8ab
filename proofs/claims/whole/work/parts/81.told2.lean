def win (π ν : Nat → Nat → Nat) (s : Nat) : Nat := thin (fun m => hu π ν m s) (π 0 2)
def vts (π ν : Nat → Nat → Nat) (m : Nat) : Nat → Nat := sm (fun s => if win π ν s = m then 1 else 0)
def mx (v : Nat → Nat) : Nat → Nat
  | 0 => 0
  | i + 1 => max (mx v i) (v i)
def chs (v : Nat → Nat) : Nat → Int32
  | 0 => -1
  | i + 1 => if mx v i < v i then nI i else chs v i
theorem vts_le (π ν : Nat → Nat → Nat) (m n : Nat) : vts π ν m n ≤ n := by
  have := sm_le (f := fun s => if win π ν s = m then 1 else 0) (b := 1) n (fun i _ => by (try dsimp only); split <;> omega)
  unfold vts
  omega
theorem mx_le {v : Nat → Nat} {b : Nat} (h : ∀ i, v i ≤ b) : ∀ i, mx v i ≤ b
  | 0 => Nat.zero_le _
  | i + 1 => by
    have h1 := mx_le h i
    have h2 := h i
    unfold mx
    omega
theorem c_least {S : St} {k s : Nat} {π ν : Nat → Nat → Nat} (hC : CP S k π) (hN : CN S k (π 0 2) (π 1) ν) (hV : VP π) (hW : VN (π 0 2) ν) (h0 : 0 < π 0 2) (hs : s < π 0 3) : fX7_leastPainedBy (nI s) S = some (nI (win π ν s), S) := by
  have hM := hV.2.2.1
  unfold fX7_leastPainedBy
  rw [jn_e]
  refine lopAS (i0 := 1) (N := π 0 2) (fun i => nI (thin (fun m => hu π ν m s) i)) (fun _ => S) (fun i h1 hi ag => ?_) (fun ag => ?_) h0 (by rw [FU_eq]; omega) rfl (by (try dsimp only); rw [thin_1]; rfl) rfl
  · have ht := thin_lt (fun m => hu π ν m s) i h1
    have b1 := hu_le hV hW hi hs
    have b2 := hu_le hV hW (show thin (fun m => hu π ν m s) i < π 0 2 by omega) hs
    unfold bX7_leastPainedBy_4
    rw [hN.1, hC.1 2 (by decide), if_neg (nI_ge hi (by omega)), ck_nI (show i < 6 by omega) (by omega), nI_clamp (by omega), cal_of (c_hu hC hN hV hW hi hs), ck_nI (show thin (fun m => hu π ν m s) i < 6 by omega) (by omega), nI_clamp (by omega), hN.1, cal_of (c_hu hC hN hV hW (show thin (fun m => hu π ν m s) i < π 0 2 by omega) hs), nI_1, thin_s]
    by_cases h : hu π ν i s < hu π ν (thin (fun m => hu π ν m s) i) s
    · rw [if_pos h, if_neg (nI_ge h (by omega))]
    · rw [if_neg h, if_pos (nI_le (by omega) (by omega))]
  · unfold bX7_leastPainedBy_4
    rw [hN.1, hC.1 2 (by decide), if_pos (nI_le (Nat.le_refl _) (by omega))]
    rfl
theorem win_lt {π ν : Nat → Nat → Nat} {s : Nat} (h0 : 0 < π 0 2) : win π ν s < π 0 2 := thin_lt _ _ h0
theorem c_votes {S : St} {k m : Nat} {π ν : Nat → Nat → Nat} (hC : CP S k π) (hN : CN S k (π 0 2) (π 1) ν) (hV : VP π) (hW : VN (π 0 2) ν) (hm : m < π 0 2) : fX7_votesFor (nI m) S = some (nI (vts π ν m (π 0 3)), S) := by
  have hM := hV.2.2.1
  have hY := hV.2.2.2.2.1.1
  unfold fX7_votesFor
  rw [jn_e]
  refine lopAS (i0 := 0) (N := π 0 3) (fun i => nI (vts π ν m i)) (fun _ => S) (fun i _ hi ag => ?_) (fun ag => ?_) (Nat.zero_le _) (by rw [FU_eq]; omega) rfl rfl rfl
  · have hw := win_lt (ν := ν) (s := i) (show 0 < π 0 2 by omega)
    unfold bX7_votesFor_4
    rw [hN.1, hC.1 3 (by decide), if_neg (nI_ge hi (by omega)), cal_of (c_least hC hN hV hW (by omega) hi), nI_1]
    show _ = ag _ (nI (vts π ν m i + if win π ν i = m then 1 else 0)) S
    by_cases h : win π ν i = m
    · rw [if_pos h, if_pos (congrArg nI h), nI_1]
    · rw [if_neg h, if_neg (fun z => h (nI_inj (by omega) (by omega) z))]
      first | done | rfl
  · unfold bX7_votesFor_4
    rw [hN.1, hC.1 3 (by decide), if_pos (nI_le (Nat.le_refl _) (by omega))]
theorem c_chosen {S : St} {k : Nat} {π ν : Nat → Nat → Nat} (hC : CP S k π) (hN : CN S k (π 0 2) (π 1) ν) (hV : VP π) (hW : VN (π 0 2) ν) : fX7_chosen S = some (chs (fun m => vts π ν m (π 0 3)) (π 0 2), S) := by
  have hM := hV.2.2.1
  have hY := hV.2.2.2.2.1.1
  unfold fX7_chosen
  rw [jn_e]
  refine lopAAS (i0 := 0) (N := π 0 2) (fun i => nI (mx (fun m => vts π ν m (π 0 3)) i)) (chs (fun m => vts π ν m (π 0 3))) (fun _ => S) (fun i _ hi ag => ?_) (fun ag => ?_) (Nat.zero_le _) (by rw [FU_eq]; omega) rfl rfl rfl rfl
  · have b1 := vts_le π ν i (π 0 3)
    have b2 := mx_le (v := fun m => vts π ν m (π 0 3)) (b := π 0 3) (fun m => vts_le π ν m _) i
    unfold bX7_chosen_6
    rw [hN.1, hC.1 2 (by decide), if_neg (nI_ge hi (by omega)), cal_of (c_votes hC hN hV hW hi), nI_1]
    show _ = ag _ (nI (max (mx (fun m => vts π ν m (π 0 3)) i) (vts π ν i (π 0 3)))) (if mx (fun m => vts π ν m (π 0 3)) i < vts π ν i (π 0 3) then nI i else chs (fun m => vts π ν m (π 0 3)) i) S
    by_cases h : mx (fun m => vts π ν m (π 0 3)) i < vts π ν i (π 0 3)
    · rw [if_pos h, if_neg (nI_ge h (by omega)), Nat.max_eq_right (by omega)]
    · rw [if_neg h, if_pos (nI_le (by omega) (by omega)), Nat.max_eq_left (by omega)]
  · unfold bX7_chosen_6
    rw [hN.1, hC.1 2 (by decide), if_pos (nI_le (Nat.le_refl _) (by omega))]
theorem m_least {S S0 : St} {s : Nat} {π ν : Nat → Nat → Nat} (hC : MP S0 π) (hN : MN (S0 40 0) (π 0 2) ν) (f : Fr (fun a _ => a = 51 ∨ a = 52 ∨ a = 53) S0 S) (hV : VP π) (hW : VN (π 0 2) ν) (h0 : 0 < π 0 2) (hs : s < π 0 3) : ∃ S2, (∀ kk, lop (fun _ _ _ => none) (bX11_chosen_50 (nI s) kk) FU (1 : Int32) (0 : Int32) S = kk (nI (win π ν s)) S2) ∧ Fr (fun a _ => a = 51 ∨ a = 52) S S2 := by
  have hM := hV.2.2.1
  have fin := lopASK (i0 := 1) (N := π 0 2) (z := fun _ _ _ => none) (b := bX11_chosen_50 (nI s)) (x := 1) (a := 0) (S := S) (fun i => nI (thin (fun m => hu π ν m s) i)) (fun j S2 => Fr (fun a _ => a = 51 ∨ a = 52) S S2) ?hs ?he h0 (by rw [FU_eq]; omega) rfl (by (try dsimp only); rw [thin_1]; rfl) Fr.rf
  case hs =>
    intro i S1 h1 hi f1
    have ht := thin_lt (fun m => hu π ν m s) i h1
    have b1 := hu_le hV hW hi hs
    have b2 := hu_le hV hW (show thin (fun m => hu π ν m s) i < π 0 2 by omega) hs
    have fa : Fr (fun a _ => a = 51 ∨ a = 52 ∨ a = 53) S0 S1 := f.tr (f1.mono (fun a o h => by omega))
    obtain ⟨S2, e2, f2⟩ := m_hu hC hN fa (fun a h => by omega) hV hW hi hs
    obtain ⟨S3, e3, f3⟩ := m_hu hC hN (fa.tr (f2.mono (fun a o h => by omega))) (fun a h => by omega) hV hW (show thin (fun m => hu π ν m s) i < π 0 2 by omega) hs
    refine ⟨S3, (f1.tr f2).tr f3, fun kk ag => ?_⟩
    unfold bX11_chosen_50
    rw [fa 35 0 (by omega), hC.2.2.1, if_neg (nI_ge hi (by omega)), cal_of e2, cal_of e3, nI_1, thin_s]
    by_cases h : hu π ν i s < hu π ν (thin (fun m => hu π ν m s) i) s
    · rw [if_pos h, if_neg (nI_ge h (by omega))]
    · rw [if_neg h, if_pos (nI_le (by omega) (by omega))]
  case he =>
    intro S1 f1 kk ag
    unfold bX11_chosen_50
    rw [f1 35 0 (by omega), f 35 0 (by omega), hC.2.2.1, if_pos (nI_le (Nat.le_refl _) (by omega))]
  obtain ⟨S2, f2, e2⟩ := fin
  exact ⟨S2, e2, f2⟩
theorem m_chosen {S : St} {π ν : Nat → Nat → Nat} (hC : MP S π) (hN : MN (S 40 0) (π 0 2) ν) (hV : VP π) (hW : VN (π 0 2) ν) : ∃ S2, fX11_chosen S = some (chs (fun m => vts π ν m (π 0 3)) (π 0 2), S2) ∧ Fr (fun a _ => a = 51 ∨ a = 52 ∨ a = 53) S S2 := by
  have hM := hV.2.2.1
  have hY := hV.2.2.2.2.1.1
  have fin1 := lopSK (i0 := 0) (N := π 0 2) (z := fun _ _ => none) (b := bX11_chosen_6) (x := 0) (S := S) (fun i S1 => Fr (fun a _ => a = 51 ∨ a = 52 ∨ a = 53) S S1 ∧ ∀ m, m < i → S1 53 0 m = nI 0) ?hs1 ?he1 (Nat.zero_le _) (by rw [FU_eq]; omega) rfl ⟨Fr.rf, fun m h => by omega⟩
  case hs1 =>
    intro i S1 _ hi ⟨f1, g1⟩
    refine ⟨wr S1 53 0 i (nI 0), ⟨f1.wr (by omega), fun m hm => ?_⟩, fun kk ag => ?_⟩
    · by_cases e : m = i
      · rw [e, wr_same]
      · rw [wr_i (by omega)]; exact g1 m (by omega)
    · unfold bX11_chosen_6
      rw [f1 35 0 (by omega), hC.2.2.1, if_neg (nI_ge hi (by omega)), ck_nI (show i < 6 by omega) (by omega), bs_e, nI_clamp (by omega), nI_1]
      rfl
  case he1 =>
    intro S1 ⟨f1, g1⟩ kk ag
    unfold bX11_chosen_6
    rw [f1 35 0 (by omega), hC.2.2.1, if_pos (nI_le (Nat.le_refl _) (by omega))]
  obtain ⟨S1, ⟨f1, g1⟩, e1⟩ := fin1
  have fin2 : ∃ S2, (Fr (fun a _ => a = 51 ∨ a = 52 ∨ a = 53) S S2 ∧ ∀ m, m < π 0 2 → S2 53 0 m = nI (vts π ν m (π 0 3))) ∧ ∀ kk, lop (fun _ _ => none) (bX11_chosen_29 kk) FU (0 : Int32) S1 = kk S2 := by
    by_cases h0 : 0 < π 0 2
    · refine lopSK (i0 := 0) (N := π 0 3) (z := fun _ _ => none) (b := bX11_chosen_29) (x := 0) (S := S1) (fun i S2 => Fr (fun a _ => a = 51 ∨ a = 52 ∨ a = 53) S S2 ∧ ∀ m, m < π 0 2 → S2 53 0 m = nI (vts π ν m i)) ?hs2 ?he2 (Nat.zero_le _) (by rw [FU_eq]; omega) rfl ⟨f1, g1⟩
      case hs2 =>
        intro i S2 _ hi ⟨f2, g2⟩
        obtain ⟨S3, e3, f3⟩ := m_least hC hN f2 hV hW h0 hi
        have hw := win_lt (ν := ν) (s := i) h0
        refine ⟨wr S3 53 0 (win π ν i) (nI (vts π ν (win π ν i) i + 1)), ⟨(f2.tr (f3.mono (fun a o h => by omega))).wr (by omega), fun m hm => ?_⟩, fun kk ag => ?_⟩
        · show _ = nI (vts π ν m i + if win π ν i = m then 1 else 0)
          by_cases e : win π ν i = m
          · rw [if_pos e, ← e, wr_same]
          · rw [if_neg e, wr_i (by omega), f3 53 0 (by omega), g2 m hm, Nat.add_zero]
        · unfold bX11_chosen_29
          rw [f2 35 0 (by omega), hC.2.2.2.1, if_neg (nI_ge hi (by omega)), hC.2.2.1, if_neg (show ¬ nI (π 0 2) ≤ (0 : Int32) from nI_nle h0 (by omega)), jn_e, e3, ck_nI (show win π ν i < 6 by omega) (by omega), ck_nI (show win π ν i < 6 by omega) (by omega), bs_e, nI_clamp (by omega), f3 53 0 (by omega), g2 _ hw, nI_1, nI_1]
      case he2 =>
        intro S2 ⟨f2, g2⟩ kk ag
        unfold bX11_chosen_29
        rw [f2 35 0 (by omega), hC.2.2.2.1, if_pos (nI_le (Nat.le_refl _) (by omega))]
    · have z0 : π 0 2 = 0 := by omega
      refine ⟨S1, ⟨f1, fun m hm => by omega⟩, fun kk => ?_⟩
      have : ∀ ag, bX11_chosen_29 kk ag (0 : Int32) S1 = kk S1 := fun ag => by
        unfold bX11_chosen_29
        rw [f1 35 0 (by omega), hC.2.2.1, z0, if_pos (show nI 0 ≤ (0 : Int32) by decide)]
        split <;> rfl
      exact this _
  obtain ⟨S2, ⟨f2, g2⟩, e2⟩ := fin2
  refine ⟨S2, ?_, f2⟩
  unfold fX11_chosen
  rw [jn_e, e1, jn_e, e2, jn_e]
  refine lopAA (i0 := 0) (N := π 0 2) (fun i => nI (mx (fun m => vts π ν m (π 0 3)) i)) (chs (fun m => vts π ν m (π 0 3))) (fun i _ hi ag => ?_) (fun ag => ?_) (Nat.zero_le _) (by rw [FU_eq]; omega) rfl rfl rfl
  · have b1 := vts_le π ν i (π 0 3)
    have b2 := mx_le (v := fun m => vts π ν m (π 0 3)) (b := π 0 3) (fun m => vts_le π ν m _) i
    unfold bX11_chosen_110
    rw [f2 35 0 (by omega), hC.2.2.1, if_neg (nI_ge hi (by omega)), ck_nI (show i < 6 by omega) (by omega), jn_e]
    try dsimp only
    rw [nI_clamp (by omega), g2 i hi, nI_1]
    show _ = ag _ (nI (max (mx (fun m => vts π ν m (π 0 3)) i) (vts π ν i (π 0 3)))) (if mx (fun m => vts π ν m (π 0 3)) i < vts π ν i (π 0 3) then nI i else chs (fun m => vts π ν m (π 0 3)) i)
    by_cases h : mx (fun m => vts π ν m (π 0 3)) i < vts π ν i (π 0 3)
    · rw [if_pos h, if_neg (nI_ge h (by omega)), ck_nI (show i < 6 by omega) (by omega), if_neg (nI_ge h (by omega)), ck_nI (show i < 6 by omega) (by omega), bi_e, Nat.max_eq_right (by omega)]
    · rw [if_neg h, if_pos (nI_le (by omega) (by omega)), ck_nI (show i < 6 by omega) (by omega), if_pos (nI_le (by omega) (by omega)), Nat.max_eq_left (by omega)]
  · unfold bX11_chosen_110
    rw [f2 35 0 (by omega), hC.2.2.1, if_pos (nI_le (Nat.le_refl _) (by omega))]
