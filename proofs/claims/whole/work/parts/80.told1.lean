section LOPK
variable {i0 N : Nat}
theorem lopASK {z : Int32 → Int32 → St → Op} {b : (Int32 → St → Op) → (Int32 → Int32 → St → Op) → Int32 → Int32 → St → Op} (A : Nat → Int32) (I : Nat → St → Prop) (hs : ∀ i S, i0 ≤ i → i < N → I i S → ∃ S2, I (i + 1) S2 ∧ ∀ kk ag, b kk ag (nI i) (A i) S = ag (nI (i + 1)) (A (i + 1)) S2) (he : ∀ S, I N S → ∀ kk ag, b kk ag (nI N) (A N) S = kk (A N) S) (h1 : i0 ≤ N) (h2 : N - i0 < FU) {x a : Int32} {S : St} (hx : x = nI i0) (ha : A i0 = a) (hI : I i0 S) : ∃ S2, I N S2 ∧ ∀ kk, lop z (b kk) FU x a S = kk (A N) S2 := by
  subst hx; subst ha
  have key : ∀ n i S, i0 ≤ i → i ≤ N → N < n + i → I i S → ∃ S2, I N S2 ∧ ∀ kk, lop z (b kk) n (nI i) (A i) S = kk (A N) S2 := by
    intro n
    induction n with
    | zero => intro i S _ h4 h5; omega
    | succ n ih =>
      intro i S h3 h4 h5 h6
      show ∃ S2, I N S2 ∧ ∀ kk, b kk (lop z (b kk) n) (nI i) (A i) S = kk (A N) S2
      rcases Nat.lt_or_ge i N with h | h
      · obtain ⟨S1, g1, g2⟩ := hs i S h3 h h6
        obtain ⟨S2, g3, g4⟩ := ih (i + 1) S1 (by omega) (by omega) (by omega) g1
        exact ⟨S2, g3, fun kk => by rw [g2]; exact g4 kk⟩
      · have e : i = N := by omega
        subst e
        exact ⟨S, h6, fun kk => he S h6 kk _⟩
  exact key FU i0 S (Nat.le_refl _) h1 (by omega) hI
end LOPK
theorem c_allWounds {S : St} {k : Nat} {π ν : Nat → Nat → Nat} (hC : CP S k π) (hN : CN S k (π 0 2) (π 1) ν) (hV : VP π) : fX7_allWounds S = some (nI (sm (fun m => ν (m + 1) 1) (π 0 2)), S) := by
  have hM := hV.2.2.1
  unfold fX7_allWounds
  rw [jn_e]
  refine lopA (i0 := 0) (N := π 0 2) (fun i => nI (sm (fun m => ν (m + 1) 1) i)) (fun i _ hi ag => ?_) (fun ag => ?_) (Nat.zero_le _) (by rw [FU_eq]; omega) rfl rfl
  · unfold bX7_allWounds_4
    rw [hN.1, hC.1 2 (by decide), if_neg (nI_ge hi (by omega)), ck_nI (show i < 6 by omega) (by omega), bi_e, nI_clamp (by omega), (hN.2.2 i hi).2.2.1, nI_add, nI_1]
    rfl
  · unfold bX7_allWounds_4
    rw [hN.1, hC.1 2 (by decide), if_pos (nI_le (Nat.le_refl _) (by omega))]
theorem m_woundsAll {S : St} {π ν : Nat → Nat → Nat} (hC : MP S π) (hN : MN (S 40 0) (π 0 2) ν) (hV : VP π) : fX11_woundsAll S = some (nI (sm (fun m => ν (m + 1) 1) (π 0 2)), S) := by
  have hM := hV.2.2.1
  unfold fX11_woundsAll
  rw [jn_e]
  refine lopA (i0 := 0) (N := π 0 2) (fun i => nI (sm (fun m => ν (m + 1) 1) i)) (fun i _ hi ag => ?_) (fun ag => ?_) (Nat.zero_le _) (by rw [FU_eq]; omega) rfl rfl
  · unfold bX11_woundsAll_4
    rw [hC.2.2.1, if_neg (nI_ge hi (by omega)), show (64 : Int32) = nI 64 from rfl, nI_add, ck_nI (show 64 + i < 70 by omega) (by omega), bi_e, nI_clamp (by omega), (hN.2.2.2.2 i hi).1, nI_add, nI_1]
    rfl
  · unfold bX11_woundsAll_4
    rw [hC.2.2.1, if_pos (nI_le (Nat.le_refl _) (by omega))]
/-- how much s hurts m -/
def hu (π ν : Nat → Nat → Nat) (m s : Nat) : Nat := pn π (fun p => ν (m + 1) (2 + p)) (fun p => ν (m + 1) (7 + p)) s
theorem hu_le {π ν : Nat → Nat → Nat} {m s : Nat} (hV : VP π) (hW : VN (π 0 2) ν) (hm : m < π 0 2) (hs : s < π 0 3) : hu π ν m s ≤ 90 := pn_le hV.2.2.2.2.1 hs (hW.vs hm)
theorem c_hu {S : St} {k m s : Nat} {π ν : Nat → Nat → Nat} (hC : CP S k π) (hN : CN S k (π 0 2) (π 1) ν) (hV : VP π) (hW : VN (π 0 2) ν) (hm : m < π 0 2) (hs : s < π 0 3) : fX6_pain k m (nI s) S = some (nI (hu π ν m s), S) := c_pain hC.cy hV.2.2.2.2.1 (hN.sk hm) (hW.vs hm) hs
theorem m_hu {S S0 : St} {m s : Nat} {π ν : Nat → Nat → Nat} {C : Nat → Nat → Prop} (hC : MP S0 π) (hN : MN (S0 40 0) (π 0 2) ν) (f : Fr C S0 S) (hf : ∀ a, a = 35 ∨ a = 38 ∨ a = 39 ∨ a = 40 → ¬ C a 0) (hV : VP π) (hW : VN (π 0 2) ν) (hm : m < π 0 2) (hs : s < π 0 3) : ∃ S2, fX11_hurtOf (nI m) (nI s) S = some (nI (hu π ν m s), S2) ∧ Fr (fun a _ => a = 51 ∨ a = 52) S S2 := by
  refine m_hurtOf (S := S) (M := π 0 2) (π := π) (ν := ν) ?_ hV.2.2.2.2.1 ?_ hW hV.2.2.1 hm hs
  · unfold MY; rw [f 35 0 (hf 35 (by omega)), f 38 0 (hf 38 (by omega)), f 39 0 (hf 39 (by omega))]; exact hC.my
  · rw [f 40 0 (hf 40 (by omega))]; exact hN
def wp (π ν : Nat → Nat → Nat) (m : Nat) : Nat := sm (fun s => hu π ν m s) (π 0 3)
theorem wp_le {π ν : Nat → Nat → Nat} {m : Nat} (hV : VP π) (hW : VN (π 0 2) ν) (hm : m < π 0 2) : wp π ν m ≤ 720 := by
  have h1 := sm_le (f := fun s => hu π ν m s) (b := 90) (π 0 3) (fun s hs => hu_le hV hW hm hs)
  have h2 := hV.2.2.2.2.1.1
  unfold wp
  omega
theorem c_whole {S : St} {k m : Nat} {π ν : Nat → Nat → Nat} (hC : CP S k π) (hN : CN S k (π 0 2) (π 1) ν) (hV : VP π) (hW : VN (π 0 2) ν) (hm : m < π 0 2) : fX6_wholePain k m S = some (nI (wp π ν m), S) := by
  have hY := hV.2.2.2.2.1.1
  unfold fX6_wholePain
  rw [jn_e]
  refine lopAS (i0 := 0) (N := π 0 3) (fun i => nI (sm (fun s => hu π ν m s) i)) (fun _ => S) (fun i _ hi ag => ?_) (fun ag => ?_) (Nat.zero_le _) (by rw [FU_eq]; omega) rfl rfl rfl
  · unfold bX6_wholePain_4
    rw [hC.1 3 (by decide), if_neg (nI_ge hi (by omega)), cal_of (c_hu hC hN hV hW hm hi), bi_e, nI_add, nI_1]
    rfl
  · unfold bX6_wholePain_4
    rw [hC.1 3 (by decide), if_pos (nI_le (Nat.le_refl _) (by omega))]
    rfl
theorem thin_s (T : Nat → Nat) (n : Nat) : thin T (n + 1) = if T n < T (thin T n) then n else thin T n := rfl
theorem c_best {S : St} {k : Nat} {π ν : Nat → Nat → Nat} (hC : CP S k π) (hN : CN S k (π 0 2) (π 1) ν) (hV : VP π) (hW : VN (π 0 2) ν) : fX7_best S = some (if π 0 2 = 0 then -1 else nI (thin (wp π ν) (π 0 2)), S) := by
  have hM := hV.2.2.1
  unfold fX7_best
  rw [jn_e]
  refine lopAAS (i0 := 0) (N := π 0 2) (fun i => if i = 0 then 0 else nI (wp π ν (thin (wp π ν) i))) (fun i => if i = 0 then -1 else nI (thin (wp π ν) i)) (fun _ => S) (fun i _ hi ag => ?_) (fun ag => ?_) (Nat.zero_le _) (by rw [FU_eq]; omega) rfl rfl rfl rfl
  · unfold bX7_best_6
    rw [hN.1, hC.1 2 (by decide), if_neg (nI_ge hi (by omega)), ck_nI (show i < 6 by omega) (by omega), nI_clamp (by omega), cal_of (c_whole hC hN hV hW hi), nI_1, if_neg (show ¬ i + 1 = 0 by omega), if_neg (show ¬ i + 1 = 0 by omega)]
    by_cases h0 : i = 0
    · subst h0
      rw [if_pos rfl, if_pos rfl, thin_1]
    · have ht := thin_lt (wp π ν) i (by omega)
      have b1 := wp_le hV hW hi
      have b2 := wp_le hV hW (show thin (wp π ν) i < π 0 2 by omega)
      rw [if_neg h0, if_neg h0, if_neg (show ¬ nI (thin (wp π ν) i) = (-1 : Int32) from fun z => by have := nI_pos (show thin (wp π ν) i < 2 ^ 31 by omega); rw [z] at this; exact this (by decide)), thin_s]
      by_cases h : wp π ν i < wp π ν (thin (wp π ν) i)
      · rw [if_pos h, if_neg (nI_ge h (by omega))]
      · rw [if_neg h, if_pos (nI_le (by omega) (by omega))]
  · unfold bX7_best_6
    rw [hN.1, hC.1 2 (by decide), if_pos (nI_le (Nat.le_refl _) (by omega))]
theorem m_best {S : St} {π ν : Nat → Nat → Nat} (hC : MP S π) (hN : MN (S 40 0) (π 0 2) ν) (hV : VP π) (hW : VN (π 0 2) ν) : ∃ S2, fX11_bestMan S = some (if π 0 2 = 0 then -1 else nI (thin (wp π ν) (π 0 2)), S2) ∧ Fr (fun a _ => a = 51 ∨ a = 52) S S2 := by
  have hM := hV.2.2.1
  have hY := hV.2.2.2.2.1.1
  have fin := lopAASV (i0 := 0) (N := π 0 2) (z := fun _ _ _ _ => none) (b := bX11_bestMan_7 (fun (x1_79 : Int32) (S_79 : St) => some (x1_79, S_79))) (K := fun S2 => some (if π 0 2 = 0 then -1 else nI (thin (wp π ν) (π 0 2)), S2)) (x := 0) (a := 1000000) (c := -1) (S := S) (fun i => if i = 0 then 1000000 else nI (wp π ν (thin (wp π ν) i))) (fun i => if i = 0 then -1 else nI (thin (wp π ν) i))
    (fun i S2 => Fr (fun a _ => a = 51 ∨ a = 52) S S2) ?hs ?he (Nat.zero_le _) (by rw [FU_eq]; omega) rfl rfl rfl Fr.rf
  case hs =>
    intro i S1 _ hi f1
    have inn := lopASK (i0 := 0) (N := π 0 3) (z := fun _ _ _ => none) (b := bX11_bestMan_21 (nI i)) (x := 0) (a := 0) (S := S1) (fun j => nI (sm (fun s => hu π ν i s) j)) (fun j S2 => Fr (fun a _ => a = 51 ∨ a = 52) S S2) ?hs2 ?he2 (Nat.zero_le _) (by rw [FU_eq]; omega) rfl rfl f1
    case hs2 =>
      intro j S2 _ hj f2
      obtain ⟨S3, e3, f3⟩ := m_hu hC hN f2 (fun a h => by omega) hV hW hi hj
      refine ⟨S3, f2.tr f3, fun kk ag => ?_⟩
      unfold bX11_bestMan_21
      rw [f2 35 0 (by omega), hC.2.2.2.1, if_neg (nI_ge hj (by omega)), cal_of e3, bi_e, nI_add, nI_1]
      rfl
    case he2 =>
      intro S2 f2 kk ag
      unfold bX11_bestMan_21
      rw [f2 35 0 (by omega), hC.2.2.2.1, if_pos (nI_le (Nat.le_refl _) (by omega))]
    obtain ⟨S2, f2, e2⟩ := inn
    refine ⟨S2, f2, fun ag => ?_⟩
    unfold bX11_bestMan_7
    rw [f1 35 0 (by omega), hC.2.2.1, if_neg (nI_ge hi (by omega)), jn_e, e2, jn_e]
    show (if (if i = 0 then 1000000 else nI (wp π ν (thin (wp π ν) i))) ≤ nI (wp π ν i) then _ else _) = _
    have b1 := wp_le hV hW hi
    rw [nI_1, if_neg (show ¬ i + 1 = 0 by omega), if_neg (show ¬ i + 1 = 0 by omega), show sm (fun s => hu π ν i s) (π 0 3) = wp π ν i from rfl]
    by_cases h0 : i = 0
    · subst h0
      have hn : ¬ ((1000000 : Int32) ≤ nI (wp π ν 0)) := nI_ge (b := 1000000) (by omega) (by decide)
      rw [if_pos rfl, if_pos rfl, if_neg hn]
      dsimp only
      rw [if_neg hn, thin_1]
    · have ht := thin_lt (wp π ν) i (by omega)
      have b2 := wp_le hV hW (show thin (wp π ν) i < π 0 2 by omega)
      rw [if_neg h0, if_neg h0, thin_s]
      by_cases h : wp π ν i < wp π ν (thin (wp π ν) i)
      · rw [if_pos h, if_neg (nI_ge h (by omega))]
        dsimp only
        rw [if_neg (nI_ge h (by omega))]
      · rw [if_neg h, if_pos (nI_le (by omega) (by omega))]
        dsimp only
        rw [if_pos (nI_le (by omega) (by omega))]
  case he =>
    intro S1 f1 ag
    unfold bX11_bestMan_7
    rw [f1 35 0 (by omega), hC.2.2.1, if_pos (nI_le (Nat.le_refl _) (by omega))]
  obtain ⟨S2, f2, e⟩ := fin
  refine ⟨S2, ?_, f2⟩
  unfold fX11_bestMan
  rw [jn_e, e]
