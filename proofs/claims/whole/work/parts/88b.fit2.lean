theorem nI_xor {a b : Nat} (ha : a < 2 ^ 31) (hb : b < 2 ^ 31) : nI a ^^^ nI b = nI (a ^^^ b) := by
  apply Int32.toBitVec_inj.mp
  apply BitVec.eq_of_toNat_eq
  rw [Int32.toBitVec_xor, BitVec.toNat_xor, pk_tn (by omega), pk_tn (by omega), pk_tn]
  exact Nat.lt_trans (Nat.xor_lt_two_pow ha hb) (by decide)
theorem sm_all : (List.range 64).all (fun s => (List.range 64).all (fun p => (p &&& s != p) || (p == 0) || ((s ^^^ p < s) && (List.range 64).all (fun q => (q &&& s != q) || decide (p ≤ q) || decide (q ≤ (p - 1) &&& s))))) = true := by decide +kernel
theorem sm_of {s p : Nat} (hs : s < 64) (hp : p < 64) (h : p &&& s = p) (h0 : 0 < p) : s ^^^ p < s ∧ ∀ q, q < 64 → q &&& s = q → q < p → q ≤ (p - 1) &&& s := by
  have h1 := List.all_eq_true.mp (List.all_eq_true.mp sm_all s (List.mem_range.mpr hs)) p (List.mem_range.mpr hp)
  have e1 : (p &&& s != p) = false := by rw [h]; simp
  have e2 : (p == 0) = false := by simp; omega
  rw [e1, e2, Bool.false_or, Bool.false_or, Bool.and_eq_true] at h1
  refine ⟨by simpa using h1.1, fun q hq hqs hlt => ?_⟩
  have h2 := List.all_eq_true.mp h1.2 q (List.mem_range.mpr hq)
  have e3 : (q &&& s != q) = false := by rw [hqs]; simp
  have e4 : decide (p ≤ q) = false := by simp; omega
  rw [e3, e4, Bool.false_or, Bool.false_or] at h2
  simpa using h2
def PV (S : St) (w : Nat → Nat) (n M t : Nat) : Prop := ∃ v, S 34 0 t = nI v ∧ v ≤ 1000 ∧ ∀ k, k ≤ 3 → (v ≤ k ↔ Fit w n M t k)
theorem c_fewest {S : St} {w : Nat → Nat} {n M s : Nat} (hM : M ≤ 6) (hs : s < 2 ^ M) (h0 : s ≠ 0) (hn : n ≤ 200) (hw : ∀ t, t < 2 ^ M → S 33 0 t = nI (ws w M t) ∧ ws w M t ≤ 6000) (hp : ∀ t, t < s → PV S w n M t) : ∃ v, fX5_fewestPits (nI s) (nI n) S = some (nI v, S) ∧ v ≤ 1000 ∧ ∀ k, k ≤ 3 → (v ≤ k ↔ Fit w n M s k) := by
  have h64 : 2 ^ M ≤ 2 ^ 6 := Nat.pow_le_pow_right (by decide) hM
  have key : ∀ p, ∀ (fu : Nat) v, p < fu → p &&& s = p → p ≤ s → v ≤ 1000 → (∀ k, k ≤ 3 → (v ≤ k ↔ ∃ pt, pt &&& s = pt ∧ p < pt ∧ ws w M pt ≤ n ∧ 1 ≤ k ∧ Fit w n M (s ^^^ pt) (k - 1))) → ∃ v2, v2 ≤ 1000 ∧ (∀ k, k ≤ 3 → (v2 ≤ k ↔ ∃ pt, pt &&& s = pt ∧ 0 < pt ∧ ws w M pt ≤ n ∧ 1 ≤ k ∧ Fit w n M (s ^^^ pt) (k - 1))) ∧ lop (fun _ _ => none) (bX5_fewestPits_7 (nI s) (nI n) S (fun (x3_50 : Int32) => some (x3_50, S))) fu (nI p) (nI v) = some (nI v2, S) := by
    intro p
    induction p using Nat.strongRecOn with
    | ind p ih =>
      intro fu v hfu hps hple hv hk
      obtain ⟨f, rfl⟩ : ∃ f, fu = f + 1 := ⟨fu - 1, by omega⟩
      show ∃ v2, _ ∧ _ ∧ bX5_fewestPits_7 (nI s) (nI n) S (fun (x3_50 : Int32) => some (x3_50, S)) (lop (fun _ _ => none) (bX5_fewestPits_7 (nI s) (nI n) S (fun (x3_50 : Int32) => some (x3_50, S))) f) (nI p) (nI v) = some (nI v2, S)
      rcases Nat.eq_zero_or_pos p with z | hp0
      · subst z
        refine ⟨v, hv, hk, ?_⟩
        generalize lop (fun _ _ => none) (bX5_fewestPits_7 (nI s) (nI n) S (fun (x3_50 : Int32) => some (x3_50, S))) f = ag
        unfold bX5_fewestPits_7
        rw [if_pos (show nI 0 ≤ (0 : Int32) by decide)]
      · obtain ⟨s1, s2⟩ := sm_of (show s < 64 by omega) (show p < 64 by omega) hps hp0
        have hp1 : (p - 1) &&& s < p := Nat.lt_of_le_of_lt Nat.and_le_left (by omega)
        have hp2 : ((p - 1) &&& s) &&& s = (p - 1) &&& s := by rw [Nat.and_assoc, Nat.and_self]
        obtain ⟨vt, t1, t2, t3⟩ := hp (s ^^^ p) s1
        obtain ⟨w1, w2⟩ := hw p (by omega)
        have big : ∀ pt, pt &&& s = pt → pt < 64 := fun pt h => by
          have : pt ≤ s := by rw [← h]; exact Nat.and_le_right
          omega
        have nxt_ : ∀ v', v' = (if ws w M p ≤ n then min v (vt + 1) else v) → v' ≤ 1000 ∧ ∀ k, k ≤ 3 → (v' ≤ k ↔ ∃ pt, pt &&& s = pt ∧ (p - 1) &&& s < pt ∧ ws w M pt ≤ n ∧ 1 ≤ k ∧ Fit w n M (s ^^^ pt) (k - 1)) := by
          intro v' hv'
          constructor
          · rw [hv']; split <;> omega
          · intro k hk3
            constructor
            · intro hle
              by_cases hvk : v ≤ k
              · obtain ⟨pt, a1, a2, a3⟩ := (hk k hk3).mp hvk
                exact ⟨pt, a1, by omega, a3⟩
              · by_cases hwn : ws w M p ≤ n
                · rw [hv', if_pos hwn] at hle
                  have hvt : vt + 1 ≤ k := by omega
                  exact ⟨p, hps, hp1, hwn, by omega, (t3 (k - 1) (by omega)).mp (by omega)⟩
                · rw [hv', if_neg hwn] at hle
                  exact absurd hle hvk
            · rintro ⟨pt, a1, a2, a3, a4, a5⟩
              rcases Nat.lt_trichotomy pt p with q | q | q
              · have := s2 pt (big pt a1) a1 q
                omega
              · subst q
                have := (t3 (k - 1) (by omega)).mpr a5
                rw [hv', if_pos a3]
                omega
              · have := (hk k hk3).mpr ⟨pt, a1, q, a3, a4, a5⟩
                rw [hv']
                split <;> omega
        obtain ⟨n1, n2⟩ := nxt_ _ rfl
        obtain ⟨v2, r1, r2, r3⟩ := ih ((p - 1) &&& s) hp1 f (if ws w M p ≤ n then min v (vt + 1) else v) (by omega) hp2 (by omega) n1 n2
        refine ⟨v2, r1, r2, ?_⟩
        generalize lop (fun _ _ => none) (bX5_fewestPits_7 (nI s) (nI n) S (fun (x3_50 : Int32) => some (x3_50, S))) f = ag at r3 ⊢
        unfold bX5_fewestPits_7
        rw [if_neg (show ¬ nI p ≤ (0 : Int32) from nI_nle hp0 (by omega)), ck_nI (show p < 64 by omega) (by omega), jn_e, nI_clamp (by omega), w1, show (1 : Int32) = nI 1 from rfl, pk_sub (show 1 ≤ p by omega), nI_and (by omega) (by omega), nI_xor (by omega) (by omega), ck_nI (show s ^^^ p < 64 by omega) (by omega), nI_clamp (show s ^^^ p < 2 ^ 31 by omega), t1, nI_add, imin_nI (by omega) (by omega), bi_e]
        try dsimp only
        rw [bi_e, bi_e]
        by_cases hwn : ws w M p ≤ n
        · rw [if_pos hwn] at r3
          rw [if_neg (show ¬ nI n < nI (ws w M p) from nI_nlt hwn (by omega))]
          exact r3
        · rw [if_neg hwn] at r3
          rw [if_pos (nI_lt (by omega) (by omega))]
          exact r3
  obtain ⟨v, h1, h2, h3⟩ := key s FU 1000 (by rw [FU_eq]; omega) (Nat.and_self s) (Nat.le_refl _) (Nat.le_refl _) (fun k hk => ⟨fun z => by omega, fun ⟨pt, a1, a2, _⟩ => by
    have : pt ≤ s := by rw [← a1]; exact Nat.and_le_right
    omega⟩)
  refine ⟨v, ?_, h1, fun k hk => ?_⟩
  · unfold fX5_fewestPits
    rw [jn_e]
    exact h3
  · rw [h2 k hk]
    cases k with
    | zero => exact ⟨fun ⟨_, _, _, _, z, _⟩ => by omega, fun z => absurd z (fit_k0 h0 hs)⟩
    | succ k =>
      rw [fit_step h0 hs]
      constructor
      · rintro ⟨pt, a1, a2, a3, -, a5⟩
        exact ⟨pt, a1, a2, a3, a5⟩
      · rintro ⟨pt, a1, a2, a3, a5⟩
        exact ⟨pt, a1, a2, a3, by omega, a5⟩
theorem or_m : ∀ m, m < 6 → ∀ t, t < 2 ^ m → nI t ||| ((1 : Int32) <<< (nI m &&& (31 : Int32))) = nI (t + 2 ^ m) := by decide
theorem tb_m : ∀ m, m < 6 → ∀ t, t < 2 ^ m → ∀ j, j < 6 → (t + 2 ^ m).testBit j = (t.testBit j || decide (j = m)) := by decide
theorem tb_z : ∀ m, m < 6 → ∀ t, t < 2 ^ m → t.testBit m = false := by decide
theorem wsm_add {f f2 : Nat → Bool} {w : Nat → Nat} {m : Nat} (h1 : f m = false) (h2 : f2 m = true) : ∀ M, (∀ j, j < M → j ≠ m → f2 j = f j) → (m < M → wsm f2 w M = wsm f w M + w m) ∧ (M ≤ m → wsm f2 w M = wsm f w M)
  | 0, _ => ⟨fun h => absurd h (Nat.not_lt_zero _), fun _ => rfl⟩
  | M + 1, h => by
    obtain ⟨a, b⟩ := wsm_add (w := w) h1 h2 M (fun j hj => h j (by omega))
    constructor
    · intro hm
      unfold wsm
      by_cases e : M = m
      · subst e
        rw [b (Nat.le_refl _), h1, h2, if_pos rfl, if_neg (by decide)]
        rfl
      · rw [a (by omega), h M (by omega) e]
        omega
    · intro hm
      unfold wsm
      rw [b (by omega), h M (by omega) (by omega)]
theorem ws_add {w : Nat → Nat} {M m t : Nat} (hM : M ≤ 6) (hm : m < M) (ht : t < 2 ^ m) : ws w M (t + 2 ^ m) = ws w M t + w m := by
  unfold ws
  refine (wsm_add (f := fun j => t.testBit j) (f2 := fun j => (t + 2 ^ m).testBit j) (w := w) (m := m) (tb_z m (by omega) t ht) ?_ M (fun j hj e => ?_)).1 hm
  · rw [tb_m m (by omega) t ht m (by omega)]; simp
  · rw [tb_m m (by omega) t ht j (by omega)]; simp [e]
theorem p64 : ∀ m, m < 6 → 2 ^ m ≤ 32 := by decide
theorem c_addMonths {S : St} {w : Nat → Nat} {M m : Nat} (hM : M ≤ 6) (hm : m < M) (h32 : (w m = 1000 ∧ S 32 0 m = -1) ∨ (w m ≤ 200 ∧ S 32 0 m = nI (w m))) (hw : ∀ t, t < 2 ^ m → S 33 0 t = nI (ws w M t)) : ∃ S2, fX5_addMonths (nI m) S = some (0, S2) ∧ Fr (fun a o => a = 33 ∧ o = 0) S S2 ∧ ∀ t, t < 2 ^ (m + 1) → S2 33 0 t = nI (ws w M t) := by
  have hp := p64 m (by omega)
  have hp1 : 2 ^ (m + 1) = 2 ^ m + 2 ^ m := by rw [Nat.pow_succ]; omega
  have fin := lopSK (i0 := 0) (N := 2 ^ m) (z := fun _ _ => none) (b := bX5_addMonths_25 (nI m) (nI (w m))) (x := 0) (S := S)
    (fun i S1 => Fr (fun a o => a = 33 ∧ o = 0) S S1 ∧ (∀ t, t < 2 ^ m → S1 33 0 t = nI (ws w M t)) ∧ ∀ t, t < i → S1 33 0 (t + 2 ^ m) = nI (ws w M (t + 2 ^ m))) ?hs ?he (Nat.zero_le _) (by rw [FU_eq]; omega) rfl ⟨Fr.rf, hw, fun t h => by omega⟩
  case hs =>
    intro i S1 _ hi ⟨h1, h2, h3⟩
    refine ⟨wr S1 33 0 (i + 2 ^ m) (nI (ws w M (i + 2 ^ m))), ⟨h1.wr ⟨rfl, rfl⟩, fun t ht => by rw [wr_i (by omega)]; exact h2 t ht, fun t ht => ?_⟩, fun kk ag => ?_⟩
    · rcases (show t < i ∨ t = i by omega) with q | rfl
      · rw [wr_i (by omega)]; exact h3 t q
      · rw [wr_same]
    · unfold bX5_addMonths_25
      rw [or_m m (by omega) i hi, sh_s m (by omega), if_neg (nI_ge hi (by omega)), ck_nI (show i < 64 by omega) (by omega), ck_nI (show i + 2 ^ m < 64 by omega) (by omega), bs_e, nI_clamp (show i < 2 ^ 31 by omega), nI_clamp (show i + 2 ^ m < 2 ^ 31 by omega), h2 i hi, nI_add, ws_add hM hm hi, nI_1]
  case he =>
    intro S1 _ kk ag
    unfold bX5_addMonths_25
    rw [sh_s m (by omega), if_pos (nI_le (Nat.le_refl _) (by omega))]
  obtain ⟨S2, ⟨h1, h2, h3⟩, e⟩ := fin
  refine ⟨S2, ?_, h1, fun t ht => ?_⟩
  · unfold fX5_addMonths
    rw [ck_nI (show m < 6 by omega) (by omega), jn_e, nI_clamp (by omega), ck_nI (show m < 6 by omega) (by omega)]
    rcases h32 with ⟨a, b⟩ | ⟨a, b⟩
    · rw [b, if_pos rfl]
      try dsimp only
      rw [jn_e, show (1000 : Int32) = nI (w m) by rw [a]; rfl, e]
    · rw [b, if_neg (nI_m1 (by omega))]
      try dsimp only
      rw [jn_e, e]
  · rcases Nat.lt_or_ge t (2 ^ m) with q | q
    · exact h2 t q
    · have := h3 (t - 2 ^ m) (by omega)
      rw [Nat.sub_add_cancel q] at this
      exact this
