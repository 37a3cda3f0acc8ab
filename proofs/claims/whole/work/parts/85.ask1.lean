/-- how many of the first n are so and have the value v -/
def cnt (P : Nat → Bool) (h : Nat → Nat) (v : Nat) : Nat → Nat
  | 0 => 0
  | n + 1 => cnt P h v n + (if P n = true ∧ h n = v then 1 else 0)
def grt (P : Nat → Bool) (h : Nat → Nat) : Nat → Nat
  | 0 => 0
  | n + 1 => if P n = true then max (grt P h n) (cnt P h (h n) (n + 1)) else grt P h n
def mst (P : Nat → Bool) (h : Nat → Nat) (N : Nat) : Nat → Nat
  | 0 => 0
  | n + 1 => if P n = true then max (mst P h N n) (cnt P h (h n) N) else mst P h N n
theorem cnt_le (P : Nat → Bool) (h : Nat → Nat) (v : Nat) : ∀ n, cnt P h v n ≤ ntn P n
  | 0 => Nat.le_refl _
  | n + 1 => by
    have := cnt_le P h v n
    show cnt P h v n + _ ≤ if P n = true then ntn P n + 1 else ntn P n
    by_cases hp : P n = true
    · rw [if_pos hp]; split <;> omega
    · rw [if_neg hp, if_neg (fun z => hp z.1)]; omega
theorem cnt_mono (P : Nat → Bool) (h : Nat → Nat) (v : Nat) {m : Nat} : ∀ n, m ≤ n → cnt P h v m ≤ cnt P h v n
  | 0, hm => by have : m = 0 := by omega
                rw [this]
                exact Nat.le_refl _
  | n + 1, hm => by
    rcases Nat.lt_or_ge m (n + 1) with q | q
    · have := cnt_mono P h v n (show m ≤ n by omega)
      show _ ≤ cnt P h v n + _
      omega
    · have : m = n + 1 := by omega
      rw [this]
      exact Nat.le_refl _
theorem cnt_last (P : Nat → Bool) (h : Nat → Nat) (v : Nat) : ∀ n, 0 < cnt P h v n → ∃ b, b < n ∧ P b = true ∧ h b = v ∧ cnt P h v (b + 1) = cnt P h v n
  | 0, hc => absurd hc (Nat.not_lt_zero _)
  | n + 1, hc => by
    by_cases hp : P n = true ∧ h n = v
    · exact ⟨n, by omega, hp.1, hp.2, rfl⟩
    · have e : cnt P h v (n + 1) = cnt P h v n := by
        show cnt P h v n + _ = _
        rw [if_neg hp]
        rfl
      rw [e] at hc ⊢
      obtain ⟨b, h1, h2, h3, h4⟩ := cnt_last P h v n hc
      exact ⟨b, by omega, h2, h3, h4⟩
theorem grt_ge (P : Nat → Bool) (h : Nat → Nat) {b : Nat} (hp : P b = true) : ∀ n, b < n → cnt P h (h b) (b + 1) ≤ grt P h n
  | 0, hb => absurd hb (Nat.not_lt_zero _)
  | n + 1, hb => by
    rcases (show b < n ∨ b = n by omega) with q | rfl
    · have := grt_ge P h hp n q
      show _ ≤ if P n = true then max (grt P h n) (cnt P h (h n) (n + 1)) else grt P h n
      split <;> omega
    · show _ ≤ if P b = true then max (grt P h b) (cnt P h (h b) (b + 1)) else grt P h b
      rw [if_pos hp]
      omega
theorem grt_le (P : Nat → Bool) (h : Nat → Nat) {N : Nat} : ∀ n, n ≤ N → grt P h n ≤ mst P h N n
  | 0, _ => Nat.le_refl _
  | n + 1, hn => by
    have h1 := grt_le P h (N := N) n (by omega)
    have h2 := cnt_mono P h (h n) (m := n + 1) N hn
    show (if P n = true then max (grt P h n) (cnt P h (h n) (n + 1)) else grt P h n) ≤ if P n = true then max (mst P h N n) (cnt P h (h n) N) else mst P h N n
    split <;> omega
theorem mst_le (P : Nat → Bool) (h : Nat → Nat) {N b : Nat} (hb : ∀ n, n < N → P n = true → cnt P h (h n) N ≤ b) : ∀ n, n ≤ N → mst P h N n ≤ b
  | 0, _ => Nat.zero_le _
  | n + 1, hn => by
    have h1 := mst_le P h hb n (by omega)
    show (if P n = true then max (mst P h N n) (cnt P h (h n) N) else mst P h N n) ≤ b
    by_cases hp : P n = true
    · have := hb n (by omega) hp
      rw [if_pos hp]; omega
    · rw [if_neg hp]; exact h1
theorem grt_mst (P : Nat → Bool) (h : Nat → Nat) (N : Nat) : mst P h N N = grt P h N := by
  refine Nat.le_antisymm (mst_le P h (fun n hn hp => ?_) N (Nat.le_refl _)) (grt_le P h N (Nat.le_refl _))
  rcases Nat.eq_zero_or_pos (cnt P h (h n) N) with z | z
  · rw [z]; exact Nat.zero_le _
  · obtain ⟨b, h1, h2, h3, h4⟩ := cnt_last P h (h n) N z
    rw [← h4, ← h3]
    exact grt_ge P h h2 N h1
theorem grt_b (P : Nat → Bool) (h : Nat → Nat) : ∀ n, grt P h n ≤ n
  | 0 => Nat.le_refl _
  | n + 1 => by
    have h1 := grt_b P h n
    have h2 := cnt_le P h (h n) (n + 1)
    have h3 := ntn_le P (n + 1)
    show (if P n = true then max (grt P h n) (cnt P h (h n) (n + 1)) else grt P h n) ≤ n + 1
    split <;> omega
/-- the last value; how many had it -/
def lv (P : Nat → Bool) (h : Nat → Nat) : Nat → Int32
  | 0 => -1
  | n + 1 => if P n = true then nI (h n) else lv P h n
def lc (P : Nat → Bool) (h : Nat → Nat) : Nat → Nat
  | 0 => 0
  | n + 1 => if P n = true then cnt P h (h n) (n + 1) else lc P h n
theorem cnt_0 (P : Nat → Bool) (h : Nat → Nat) (v : Nat) : ∀ n, (∀ b, b < n → P b = true → h b ≠ v) → cnt P h v n = 0
  | 0, _ => rfl
  | n + 1, hb => by
    show cnt P h v n + _ = 0
    rw [cnt_0 P h v n (fun b hb2 => hb b (by omega)), if_neg (fun z => hb n (by omega) z.1 z.2)]
theorem lv_inv (P : Nat → Bool) (h : Nat → Nat) (ha : ∀ i j, i ≤ j → h j ≤ h i) : ∀ n, (ntn P n = 0 → lv P h n = -1) ∧ (ntn P n ≠ 0 → ∃ j, j < n ∧ P j = true ∧ lv P h n = nI (h j) ∧ lc P h n = cnt P h (h j) n ∧ ∀ b, b < n → P b = true → h j ≤ h b)
  | 0 => ⟨fun _ => rfl, fun z => absurd rfl z⟩
  | n + 1 => by
    obtain ⟨h1, h2⟩ := lv_inv P h ha n
    cases hp : P n
    · rw [ntn_f hp]
      have e1 : lv P h (n + 1) = lv P h n := if_neg (by rw [hp]; decide)
      have e2 : lc P h (n + 1) = lc P h n := if_neg (by rw [hp]; decide)
      rw [e1, e2]
      refine ⟨h1, fun z => ?_⟩
      obtain ⟨j, g1, g2, g3, g4, g5⟩ := h2 z
      refine ⟨j, by omega, g2, g3, ?_, fun b hb pb => ?_⟩
      · rw [g4]
        show _ = cnt P h (h j) n + _
        rw [if_neg (by rw [hp]; exact fun z => absurd z.1 (by decide))]
        rfl
      · rcases (show b < n ∨ b = n by omega) with q | rfl
        · exact g5 b q pb
        · rw [hp] at pb; exact absurd pb (by decide)
    · rw [ntn_t hp]
      exact ⟨fun z => by omega, fun _ => ⟨n, by omega, hp, if_pos hp, if_pos hp, fun b hb _ => ha b n (by omega)⟩⟩
/-- what the class counts -/
theorem lc_step (P : Nat → Bool) (h : Nat → Nat) (ha : ∀ i j, i ≤ j → h j ≤ h i) (hb : ∀ i, h i < 2 ^ 31) {n : Nat} (hp : P n = true) {x : Int32} (hx : ntn P n ≠ 0 → x = nI (lc P h n)) : (if nI (h n) = lv P h n then x + 1 else 1) = nI (cnt P h (h n) (n + 1)) := by
  obtain ⟨h1, h2⟩ := lv_inv P h ha n
  have e : cnt P h (h n) (n + 1) = cnt P h (h n) n + 1 := by
    show cnt P h (h n) n + _ = _
    rw [if_pos ⟨hp, rfl⟩]
  rw [e]
  by_cases h0 : ntn P n = 0
  · have c0 : cnt P h (h n) n = 0 := by have := cnt_le P h (h n) n; omega
    rw [h1 h0, if_neg (nI_m1 (hb n)), c0]
    rfl
  · obtain ⟨j, g1, g2, g3, g4, g5⟩ := h2 h0
    rw [g3, hx h0, g4]
    by_cases q : h n = h j
    · rw [q, if_pos rfl, nI_1]
    · have c0 : cnt P h (h n) n = 0 := cnt_0 P h (h n) n (fun b hb2 pb z => by
        have k1 := g5 b hb2 pb
        have k2 := ha j n (by omega)
        omega)
      rw [if_neg (fun z => q (nI_inj (hb n) (hb j) z)), c0]
      rfl
def lo (f : Nat → Nat) (N : Nat) : Nat → Nat
  | 0 => N
  | i + 1 => if f i < lo f N i then f i else lo f N i
def bp (f : Nat → Nat) (N : Nat) : Nat → Int32
  | 0 => -1
  | i + 1 => if f i < lo f N i then nI i else bp f N i
theorem lo_le (f : Nat → Nat) (N : Nat) : ∀ i, lo f N i ≤ N
  | 0 => Nat.le_refl _
  | i + 1 => by
    have := lo_le f N i
    unfold lo
    split <;> omega
theorem lo_s (f : Nat → Nat) (N i : Nat) : lo f N (i + 1) = if f i < lo f N i then f i else lo f N i := rfl
theorem bp_s (f : Nat → Nat) (N i : Nat) : bp f N (i + 1) = if f i < lo f N i then nI i else bp f N i := rfl
/-- how much s hurts after n months from the first -/
def hf (π : Nat → Nat → Nat) (m s n : Nat) : Nat := pn π (fun p => π (4 + m) p) (tf π m n) s
theorem hf_le {π : Nat → Nat → Nat} {m s : Nat} (hV : VP π) (hm : m < π 0 2) (hs : s < π 0 3) (n : Nat) : hf π m s n ≤ 90 := pn_le hV.2.2.2.2.1 hs (tf_vs hV hm n)
theorem hf_s {π : Nat → Nat → Nat} {m s : Nat} (hV : VP π) (hm : m < π 0 2) (hs : s < π 0 3) (n : Nat) : hf π m s (n + 1) ≤ hf π m s n := by
  have hp := (hV.2.2.2.2.1.2 s hs).1
  have h1 := (tf_vs hV hm n (π 2 s) hp).2
  have h2 : tf π m n (π 2 s) ≤ tf π m (n + 1) (π 2 s) := tanN_ge h1
  unfold hf pn
  omega
theorem hf_anti {π : Nat → Nat → Nat} {m s : Nat} (hV : VP π) (hm : m < π 0 2) (hs : s < π 0 3) (i : Nat) : ∀ j, i ≤ j → hf π m s j ≤ hf π m s i
  | 0, h => by have : i = 0 := by omega
               rw [this]
               exact Nat.le_refl _
  | j + 1, h => by
    rcases Nat.lt_or_ge i (j + 1) with q | q
    · exact Nat.le_trans (hf_s hV hm hs j) (hf_anti hV hm hs i j (by omega))
    · have : i = j + 1 := by omega
      rw [this]
      exact Nat.le_refl _
