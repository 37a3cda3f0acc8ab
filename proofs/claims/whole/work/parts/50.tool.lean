/-! tools of the pure part -/
theorem lit_nI (n : Nat) : (OfNat.ofNat n : Int32) = nI (OfNat.ofNat n) := rfl
theorem nI_inj {a b : Nat} (ha : a < 2 ^ 31) (hb : b < 2 ^ 31) (h : nI a = nI b) : a = b := (nI_eq ha hb).mp h
theorem cal_s {r : Int32} {S : St} {f : Int32 → St → Op} : cal (some (r, S)) f = f r S := rfl
theorem cal_of {g : Op} {r : Int32} {S : St} {f : Int32 → St → Op} (h : g = some (r, S)) : cal g f = f r S := by rw [h]; rfl
theorem ck_nI {i n : Nat} {F : Op} (h : i < n) (hi : i < 2 ^ 31) : ck (nI i) n F = F := by
  unfold ck
  rw [if_neg]
  rw [nI_clamp hi]
  rintro (q | q)
  · exact nI_pos hi q
  · omega
theorem lop_run {α β : Type} {z : α} {b : α → α} (ev : α → Nat → β) {i0 N : Nat} {E : β} (hs : ∀ i, i0 ≤ i → i < N → ∀ ag : α, ev (b ag) i = ev ag (i + 1)) (he : ∀ ag : α, ev (b ag) N = E) : ∀ n i : Nat, i0 ≤ i → i ≤ N → N < n + i → ev (lop z b n) i = E
  | 0, i, _, h2, h3 => by omega
  | n + 1, i, h1, h2, h3 => by
    show ev (b (lop z b n)) i = E
    rcases Nat.lt_or_ge i N with h | h
    · rw [hs i h1 h]
      exact lop_run ev hs he n (i + 1) (by omega) (by omega) (by omega)
    · have e : i = N := by omega
      subst e
      exact he _
/-- a loop with an end ahead of its bound: at E0 it answers E -/
theorem lop_til {α β : Type} {z : α} {b : α → α} (ev : α → Nat → β) {i0 N : Nat} {E : β} (hs : ∀ i, i0 ≤ i → i < N → ∀ ag : α, ev (b ag) i = ev ag (i + 1)) (he : ∀ ag : α, ev (b ag) N = E) (h1 : i0 ≤ N) (h2 : N - i0 < FU) : ev (lop z b FU) i0 = E := lop_run ev hs he FU i0 (Nat.le_refl _) h1 (by omega)
theorem wr_app (S : St) (a o i : Nat) (v : Int32) (a2 o2 i2 : Nat) : wr S a o i v a2 o2 i2 = if (a2 = a ∧ o2 = o) ∧ i2 = i then v else S a2 o2 i2 := by
  unfold wr
  by_cases h : a2 = a ∧ o2 = o
  · obtain ⟨rfl, rfl⟩ := h
    by_cases h2 : i2 = i
    · subst h2; simp [upd]
    · simp [upd, h2]
  · simp [h]
/-- the kind a is as it was -/
theorem wr_kind {S : St} {a o i : Nat} {v : Int32} {a2 : Nat} (h : a2 ≠ a) : wr S a o i v a2 = S a2 := by
  funext o2
  exact if_neg (fun q => h q.1)
theorem wr_other {S : St} {a o i : Nat} {v : Int32} {a2 o2 : Nat} (h : ¬ (a2 = a ∧ o2 = o)) : wr S a o i v a2 o2 = S a2 o2 := if_neg h
theorem imin_nI {a b : Nat} (ha : a < 2 ^ 31) (hb : b < 2 ^ 31) : imin (nI a) (nI b) = nI (min a b) := by
  unfold imin
  by_cases h : b < a
  · rw [if_pos ((nI_ltI hb ha).mpr h), Nat.min_eq_right (by omega)]
  · rw [if_neg (fun q => h ((nI_ltI hb ha).mp q)), Nat.min_eq_left (by omega)]
theorem imax_nI {a b : Nat} (ha : a < 2 ^ 31) (hb : b < 2 ^ 31) : imax (nI a) (nI b) = nI (max a b) := by
  unfold imax
  by_cases h : a < b
  · rw [if_pos ((nI_ltI ha hb).mpr h), Nat.max_eq_right (by omega)]
  · rw [if_neg (fun q => h ((nI_ltI ha hb).mp q)), Nat.max_eq_left (by omega)]
/-- max(0, a + b - c) is the cut difference -/
theorem imax_sub {a b c : Nat} (ha : a < 2 ^ 29) (hb : b < 2 ^ 29) (hc : c < 2 ^ 30) : imax 0 (nI a + nI b - nI c) = nI (a + b - c) := by
  rw [nI_add]
  by_cases h : c ≤ a + b
  · rw [pk_sub h, lit_nI, imax_nI (by omega) (by omega)]
    rw [Nat.max_eq_right (Nat.zero_le _)]
  · have h2 : nI (a + b) - nI c < 0 := pk_sneg hc (by omega)
    unfold imax
    rw [if_neg (fun q => absurd (Int32.lt_trans q h2) (fun z => Int32.lt_irrefl z)), Nat.sub_eq_zero_of_le (by omega)]
    rfl
theorem irm_nI {a d : Nat} (ha : a < 2 ^ 31) (h0 : 0 < d) (hd : d < 2 ^ 31) : irm (nI a) (nI d) = nI (a % d) := pk_rem ha h0 hd
theorem FU_eq : FU = 2000 := rfl
section LOPS
variable {i0 N : Nat} {E : Op}
theorem lopI {z : Int32 → Op} {b : (Int32 → Op) → Int32 → Op} (hs : ∀ i, i0 ≤ i → i < N → ∀ ag, b ag (nI i) = ag (nI (i + 1))) (he : ∀ ag, b ag (nI N) = E) (h1 : i0 ≤ N) (h2 : N - i0 < FU) {x : Int32} (hx : x = nI i0) : lop z b FU x = E := by
  subst hx
  exact lop_til (ev := fun (f : Int32 → Op) i => f (nI i)) hs he h1 h2
theorem lopS {z : Int32 → St → Op} {b : (Int32 → St → Op) → Int32 → St → Op} (T : Nat → St) (hs : ∀ i, i0 ≤ i → i < N → ∀ ag, b ag (nI i) (T i) = ag (nI (i + 1)) (T (i + 1))) (he : ∀ ag, b ag (nI N) (T N) = E) (h1 : i0 ≤ N) (h2 : N - i0 < FU) {x : Int32} {S : St} (hx : x = nI i0) (hS : T i0 = S) : lop z b FU x S = E := by
  subst hx; subst hS
  exact lop_til (ev := fun (f : Int32 → St → Op) i => f (nI i) (T i)) hs he h1 h2
theorem lopA {z : Int32 → Int32 → Op} {b : (Int32 → Int32 → Op) → Int32 → Int32 → Op} (A : Nat → Int32) (hs : ∀ i, i0 ≤ i → i < N → ∀ ag, b ag (nI i) (A i) = ag (nI (i + 1)) (A (i + 1))) (he : ∀ ag, b ag (nI N) (A N) = E) (h1 : i0 ≤ N) (h2 : N - i0 < FU) {x a : Int32} (hx : x = nI i0) (ha : A i0 = a) : lop z b FU x a = E := by
  subst hx; subst ha
  exact lop_til (ev := fun (f : Int32 → Int32 → Op) i => f (nI i) (A i)) hs he h1 h2
theorem lopAS {z : Int32 → Int32 → St → Op} {b : (Int32 → Int32 → St → Op) → Int32 → Int32 → St → Op} (A : Nat → Int32) (T : Nat → St) (hs : ∀ i, i0 ≤ i → i < N → ∀ ag, b ag (nI i) (A i) (T i) = ag (nI (i + 1)) (A (i + 1)) (T (i + 1))) (he : ∀ ag, b ag (nI N) (A N) (T N) = E) (h1 : i0 ≤ N) (h2 : N - i0 < FU) {x a : Int32} {S : St} (hx : x = nI i0) (ha : A i0 = a) (hS : T i0 = S) : lop z b FU x a S = E := by
  subst hx; subst ha; subst hS
  exact lop_til (ev := fun (f : Int32 → Int32 → St → Op) i => f (nI i) (A i) (T i)) hs he h1 h2
theorem lopAA {z : Int32 → Int32 → Int32 → Op} {b : (Int32 → Int32 → Int32 → Op) → Int32 → Int32 → Int32 → Op} (A B : Nat → Int32) (hs : ∀ i, i0 ≤ i → i < N → ∀ ag, b ag (nI i) (A i) (B i) = ag (nI (i + 1)) (A (i + 1)) (B (i + 1))) (he : ∀ ag, b ag (nI N) (A N) (B N) = E) (h1 : i0 ≤ N) (h2 : N - i0 < FU) {x a c : Int32} (hx : x = nI i0) (ha : A i0 = a) (hc : B i0 = c) : lop z b FU x a c = E := by
  subst hx; subst ha; subst hc
  exact lop_til (ev := fun (f : Int32 → Int32 → Int32 → Op) i => f (nI i) (A i) (B i)) hs he h1 h2
theorem lopAAS {z : Int32 → Int32 → Int32 → St → Op} {b : (Int32 → Int32 → Int32 → St → Op) → Int32 → Int32 → Int32 → St → Op} (A B : Nat → Int32) (T : Nat → St) (hs : ∀ i, i0 ≤ i → i < N → ∀ ag, b ag (nI i) (A i) (B i) (T i) = ag (nI (i + 1)) (A (i + 1)) (B (i + 1)) (T (i + 1))) (he : ∀ ag, b ag (nI N) (A N) (B N) (T N) = E) (h1 : i0 ≤ N) (h2 : N - i0 < FU) {x a c : Int32} {S : St} (hx : x = nI i0) (ha : A i0 = a) (hc : B i0 = c) (hS : T i0 = S) : lop z b FU x a c S = E := by
  subst hx; subst ha; subst hc; subst hS
  exact lop_til (ev := fun (f : Int32 → Int32 → Int32 → St → Op) i => f (nI i) (A i) (B i) (T i)) hs he h1 h2
end LOPS
/-- sums, sets and the like over the numbers below n -/
def fo {β : Type} (f : Nat → β → β) (b : β) : Nat → β
  | 0 => b
  | n + 1 => f n (fo f b n)
