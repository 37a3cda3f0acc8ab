/-- the weights of those that are so -/
def wsm (f : Nat → Bool) (w : Nat → Nat) : Nat → Nat
  | 0 => 0
  | n + 1 => wsm f w n + (if f n = true then w n else 0)
theorem wsm_le {f f2 : Nat → Bool} {w : Nat → Nat} : ∀ M, (∀ m, m < M → f m = true → f2 m = true) → wsm f w M ≤ wsm f2 w M
  | 0, _ => Nat.le_refl _
  | M + 1, h => by
    have h1 := wsm_le (w := w) M (fun m hm => h m (by omega))
    have h2 := h M (by omega)
    unfold wsm
    by_cases hf : f M = true
    · rw [if_pos hf, if_pos (h2 hf)]; omega
    · rw [if_neg hf]; omega
theorem wsm_cong {f f2 : Nat → Bool} {w w2 : Nat → Nat} : ∀ M, (∀ m, m < M → f m = f2 m) → (∀ m, m < M → f m = true → w m = w2 m) → wsm f w M = wsm f2 w2 M
  | 0, _, _ => rfl
  | M + 1, h, hw => by
    unfold wsm
    rw [wsm_cong M (fun m hm => h m (by omega)) (fun m hm => hw m (by omega)), ← h M (by omega)]
    by_cases hf : f M = true
    · rw [if_pos hf, if_pos hf, hw M (by omega) hf]
    · rw [if_neg hf, if_neg hf]
theorem wsm_mem {f : Nat → Bool} {w : Nat → Nat} {n m : Nat} (hf : f m = true) : ∀ M, m < M → wsm f w M ≤ n → w m ≤ n
  | 0, h, _ => absurd h (Nat.not_lt_zero _)
  | M + 1, h, hn => by
    unfold wsm at hn
    rcases (show m < M ∨ m = M by omega) with q | rfl
    · exact wsm_mem hf M q (by omega)
    · rw [if_pos hf] at hn; omega
theorem wsm_0 {f : Nat → Bool} {w : Nat → Nat} : ∀ M, (∀ m, m < M → f m = false) → wsm f w M = 0
  | 0, _ => rfl
  | M + 1, h => by
    unfold wsm
    rw [wsm_0 M (fun m hm => h m (by omega)), h M (by omega)]
    rfl
def ws (w : Nat → Nat) (M s : Nat) : Nat := wsm (fun m => s.testBit m) w M
def Fit (w : Nat → Nat) (n M s k : Nat) : Prop := ∃ g : Nat → Nat, (∀ m, m < M → s.testBit m = true → g m < k) ∧ ∀ c, c < k → wsm (fun m => s.testBit m && decide (g m = c)) w M ≤ n
theorem fit_0 (w : Nat → Nat) (n M k : Nat) : Fit w n M 0 k := ⟨fun _ => 0, fun m _ h => by simp at h, fun c _ => by rw [wsm_0 M (fun m _ => by simp)]; exact Nat.zero_le _⟩
theorem bit_of {s M : Nat} (h0 : s ≠ 0) (hs : s < 2 ^ M) : ∃ m, m < M ∧ s.testBit m = true := by
  obtain ⟨m, hm⟩ := Nat.exists_testBit_of_ne_zero h0
  refine ⟨m, ?_, hm⟩
  rcases Nat.lt_or_ge m M with q | q
  · exact q
  · have := Nat.testBit_lt_two_pow (Nat.lt_of_lt_of_le hs (Nat.pow_le_pow_right (by decide) q))
    rw [this] at hm
    exact absurd hm (by decide)
theorem fit_k0 {w : Nat → Nat} {n M s : Nat} (h0 : s ≠ 0) (hs : s < 2 ^ M) : ¬ Fit w n M s 0 := by
  rintro ⟨g, h1, -⟩
  obtain ⟨m, hm, hb⟩ := bit_of h0 hs
  exact Nat.not_lt_zero _ (h1 m hm hb)
theorem subm {p s m : Nat} (h : p &&& s = p) (hb : p.testBit m = true) : s.testBit m = true := by
  have := congrArg (fun x => x.testBit m) h
  simp only [Nat.testBit_and, hb, Bool.true_and] at this
  exact this
theorem fit_step {w : Nat → Nat} {n M s k : Nat} (h0 : s ≠ 0) (hs : s < 2 ^ M) : Fit w n M s (k + 1) ↔ ∃ p, p &&& s = p ∧ 0 < p ∧ ws w M p ≤ n ∧ Fit w n M (s ^^^ p) k := by
  constructor
  · rintro ⟨g, h1, h2⟩
    obtain ⟨m0, hm0, hb0⟩ := bit_of h0 hs
    have hc0 := h1 m0 hm0 hb0
    have hp : ∀ m, (msk (fun m => s.testBit m && decide (g m = g m0)) M).testBit m = (decide (m < M) && (s.testBit m && decide (g m = g m0))) := fun m => msk_bit _ m M
    generalize hpe : msk (fun m => s.testBit m && decide (g m = g m0)) M = p at hp
    have hin : ∀ m, m < M → ((s ^^^ p).testBit m = true → s.testBit m = true ∧ g m ≠ g m0) := by
      intro m hm h
      rw [Nat.testBit_xor, hp m] at h
      cases hb : s.testBit m
      · rw [hb] at h; simp at h
      · rw [hb] at h; simp [hm] at h; exact ⟨rfl, h⟩
    refine ⟨p, ?_, ?_, ?_, fun m => if g m = k then g m0 else g m, fun m hm hb => ?_, fun c hc => ?_⟩
    · apply Nat.eq_of_testBit_eq
      intro m
      rw [Nat.testBit_and, hp m]
      cases s.testBit m <;> simp
    · rcases Nat.eq_zero_or_pos p with z | z
      · have := hp m0
        rw [z] at this
        simp [hm0, hb0] at this
      · exact z
    · have := h2 (g m0) hc0
      refine Nat.le_trans (Nat.le_of_eq ?_) this
      exact wsm_cong M (fun m hm => by rw [hp m]; simp [hm]) (fun _ _ _ => rfl)
    · obtain ⟨hb1, hb2⟩ := hin m hm hb
      have := h1 m hm hb1
      show (if g m = k then g m0 else g m) < k
      by_cases e : g m = k
      · rw [if_pos e]; omega
      · rw [if_neg e]; omega
    · by_cases e : c = g m0
      · refine Nat.le_trans (wsm_le M (fun m hm h => ?_)) (h2 k (by omega))
        rw [Bool.and_eq_true, decide_eq_true_eq] at h
        obtain ⟨hb1, hb2⟩ := hin m hm h.1
        have h3 : (if g m = k then g m0 else g m) = c := h.2
        by_cases e2 : g m = k
        · simp [hb1, e2]
        · rw [if_neg e2] at h3; omega
      · refine Nat.le_trans (wsm_le M (fun m hm h => ?_)) (h2 c (by omega))
        rw [Bool.and_eq_true, decide_eq_true_eq] at h
        obtain ⟨hb1, hb2⟩ := hin m hm h.1
        have h3 : (if g m = k then g m0 else g m) = c := h.2
        by_cases e2 : g m = k
        · rw [if_pos e2] at h3; omega
        · rw [if_neg e2] at h3; simp [hb1, h3]
  · rintro ⟨p, hp, -, hw, g, h1, h2⟩
    have hx : ∀ m, s.testBit m = true → p.testBit m = false → (s ^^^ p).testBit m = true := fun m a b => by rw [Nat.testBit_xor, a, b]; rfl
    refine ⟨fun m => if p.testBit m = true then k else g m, fun m hm hb => ?_, fun c hc => ?_⟩
    · show (if p.testBit m = true then k else g m) < k + 1
      cases hpb : p.testBit m
      · rw [if_neg (by decide)]
        have := h1 m hm (hx m hb hpb)
        omega
      · rw [if_pos rfl]; omega
    · by_cases e : c = k
      · refine Nat.le_trans (wsm_le M (fun m hm h => ?_)) hw
        rw [Bool.and_eq_true, decide_eq_true_eq] at h
        cases hpb : p.testBit m
        · have h3 : (if p.testBit m = true then k else g m) = c := h.2
          rw [hpb, if_neg (by decide)] at h3
          have := h1 m hm (hx m h.1 hpb)
          omega
        · rfl
      · refine Nat.le_trans (wsm_le M (fun m hm h => ?_)) (h2 c (by omega))
        rw [Bool.and_eq_true, decide_eq_true_eq] at h
        have h3 : (if p.testBit m = true then k else g m) = c := h.2
        cases hpb : p.testBit m
        · rw [hpb, if_neg (by decide)] at h3
          rw [hx m h.1 hpb]; simp [h3]
        · rw [hpb, if_pos rfl] at h3; omega
theorem fit_w {w w2 : Nat → Nat} {n M s k : Nat} (h : ∀ m, m < M → w m = w2 m ∨ (n < w m ∧ n < w2 m)) : Fit w n M s k → Fit w2 n M s k := by
  rintro ⟨g, h1, h2⟩
  refine ⟨g, h1, fun c hc => ?_⟩
  have h3 := h2 c hc
  rw [← wsm_cong (w := w) (w2 := w2) M (fun m _ => rfl) (fun m hm hf => ?_)]
  · exact h3
  · have := wsm_mem (w := w) hf M hm h3
    rcases h m hm with q | q
    · exact q
    · omega
/-- a way, read -/
def lf (P s way : Nat) : Nat → Nat
  | 0 => way
  | m + 1 => if s.testBit m = true then lf P s way m / P else lf P s way m
def wa (P s : Nat) : Nat → Nat
  | 0 => 1
  | m + 1 => wa P s m * (if s.testBit m = true then P else 1)
def wv (P s : Nat) (g : Nat → Nat) : Nat → Nat → Nat
  | 0, _ => 0
  | k + 1, m => if s.testBit m = true then g m + P * wv P s g k (m + 1) else wv P s g k (m + 1)
def wd (P s : Nat) : Nat → Nat → Nat
  | 0, _ => 1
  | k + 1, m => (if s.testBit m = true then P else 1) * wd P s k (m + 1)
theorem wv_s (P s : Nat) (g : Nat → Nat) (k m : Nat) : wv P s g (k + 1) m = if s.testBit m = true then g m + P * wv P s g k (m + 1) else wv P s g k (m + 1) := rfl
theorem wv_lt {P s : Nat} {g : Nat → Nat} {M : Nat} (hg : ∀ m, m < M → s.testBit m = true → g m < P) : ∀ k m, m + k ≤ M → wv P s g k m < wd P s k m
  | 0, _, _ => Nat.one_pos
  | k + 1, m, h => by
    have h1 := wv_lt hg k (m + 1) (by omega)
    unfold wv wd
    by_cases hb : s.testBit m = true
    · have h2 := hg m (by omega) hb
      rw [if_pos hb, if_pos hb]
      calc g m + P * wv P s g k (m + 1) < P + P * wv P s g k (m + 1) := by omega
        _ = P * (wv P s g k (m + 1) + 1) := by rw [Nat.mul_succ, Nat.add_comm]
        _ ≤ P * wd P s k (m + 1) := Nat.mul_le_mul_left P h1
    · rw [if_neg hb, if_neg hb, Nat.one_mul]; exact h1
theorem wa_wd (P s : Nat) : ∀ k m, wa P s m * wd P s k m = wa P s (m + k)
  | 0, m => by unfold wd; rw [Nat.mul_one]; rfl
  | k + 1, m => by
    have h := wa_wd P s k (m + 1)
    unfold wd
    rw [← Nat.mul_assoc, show wa P s m * (if s.testBit m = true then P else 1) = wa P s (m + 1) from rfl, h, show m + 1 + k = m + (k + 1) by omega]
theorem lf_wv {P s : Nat} {g : Nat → Nat} {M : Nat} (hg : ∀ m, m < M → s.testBit m = true → g m < P) : ∀ m, m ≤ M → lf P s (wv P s g M 0) m = wv P s g (M - m) m
  | 0, _ => rfl
  | m + 1, h => by
    have h1 := lf_wv hg m (by omega)
    unfold lf
    rw [h1, show M - m = (M - (m + 1)) + 1 by omega, wv_s]
    by_cases hb : s.testBit m = true
    · have h2 := hg m (by omega) hb
      rw [if_pos hb, if_pos hb, Nat.add_mul_div_left _ _ (by omega), Nat.div_eq_of_lt h2, Nat.zero_add]
    · rw [if_neg hb, if_neg hb]
def wayOk (w : Nat → Nat) (n M P s way : Nat) : Prop := ∀ c, c < 3 → wsm (fun m => s.testBit m && decide (lf P s way m % P = c)) w M ≤ n
theorem way_iff {w : Nat → Nat} {n M P s : Nat} (hP : 0 < P) (hP3 : P ≤ 3) : (∃ way, way < wa P s M ∧ wayOk w n M P s way) ↔ Fit w n M s P := by
  constructor
  · rintro ⟨way, -, h⟩
    exact ⟨fun m => lf P s way m % P, fun m _ _ => Nat.mod_lt _ hP, fun c hc => h c (by omega)⟩
  · rintro ⟨g, h1, h2⟩
    refine ⟨wv P s g M 0, ?_, fun c hc => ?_⟩
    · have a1 := wv_lt h1 M 0 (by omega)
      have a2 := wa_wd P s M 0
      rw [show wa P s 0 = 1 from rfl, Nat.one_mul, Nat.zero_add] at a2
      rw [← a2]
      exact a1
    · have key : ∀ m, m < M → s.testBit m = true → lf P s (wv P s g M 0) m % P = g m := by
        intro m hm hb
        have h3 := h1 m hm hb
        rw [lf_wv h1 m (by omega), show M - m = (M - (m + 1)) + 1 by omega, wv_s]
        rw [if_pos hb, Nat.add_mul_mod_self_left, Nat.mod_eq_of_lt h3]
      by_cases hcp : c < P
      · refine Nat.le_trans (wsm_le M (fun m hm h => ?_)) (h2 c hcp)
        rw [Bool.and_eq_true, decide_eq_true_eq] at h
        rw [key m hm h.1] at h
        simp [h.1, h.2]
      · rw [wsm_0 M (fun m hm => ?_)]
        · exact Nat.zero_le _
        · have := Nat.mod_lt (lf P s (wv P s g M 0) m) hP
          cases hb : s.testBit m
          · rfl
          · simp; omega
