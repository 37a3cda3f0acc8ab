/-- the end of a run of letters -/
def rne (c : Nat → Bool) (L : Nat) : Nat → Nat → Nat
  | 0, i => i
  | k + 1, i => if i < L ∧ c i = true then rne c L k (i + 1) else i
def ene (c : Nat → Bool) (L i : Nat) : Nat := rne c L (L - i) i
theorem rne_s (c : Nat → Bool) (L k i : Nat) : rne c L (k + 1) i = if i < L ∧ c i = true then rne c L k (i + 1) else i := rfl
theorem ene_s {c : Nat → Bool} {L i : Nat} (h : i < L) (hc : c i = true) : ene c L i = ene c L (i + 1) := by
  unfold ene
  rw [show L - i = (L - (i + 1)) + 1 by omega, rne_s, if_pos ⟨h, hc⟩]
theorem ene_e {c : Nat → Bool} {L i : Nat} (h : ¬ (i < L ∧ c i = true)) : ene c L i = i := by
  unfold ene
  cases hk : L - i with
  | zero => rfl
  | succ k => rw [rne_s, if_neg h]
theorem ene_b {c : Nat → Bool} {L : Nat} : ∀ n i, L - i ≤ n → i ≤ L → (i ≤ ene c L i ∧ ene c L i ≤ L) ∧ ¬ (ene c L i < L ∧ c (ene c L i) = true) ∧ ∀ k, i ≤ k → k < ene c L i → k < L ∧ c k = true
  | 0, i, h, hi => by
    rw [ene_e (fun z => by omega)]
    exact ⟨⟨Nat.le_refl _, hi⟩, fun z => by omega, fun k a b => by omega⟩
  | n + 1, i, h, hi => by
    by_cases hc : i < L ∧ c i = true
    · rw [ene_s hc.1 hc.2]
      obtain ⟨a, b, d⟩ := ene_b (c := c) (L := L) n (i + 1) (by omega) (by omega)
      refine ⟨⟨by omega, a.2⟩, b, fun k k1 k2 => ?_⟩
      rcases (show k = i ∨ i + 1 ≤ k by omega) with q | q
      · subst q; exact hc
      · exact d k q k2
    · rw [ene_e hc]
      exact ⟨⟨Nat.le_refl _, hi⟩, hc, fun k a b => by omega⟩
def sk (t : Nat → Nat) (L i : Nat) : Nat := ene (fun k => decide (t k = 32)) L i
def dg (t : Nat → Nat) (L i : Nat) : Nat := ene (fun k => decide (48 ≤ t k ∧ t k ≤ 57)) L i
theorem sk_b {t : Nat → Nat} {L i : Nat} (h : i ≤ L) : (i ≤ sk t L i ∧ sk t L i ≤ L) ∧ (sk t L i < L → t (sk t L i) ≠ 32) ∧ ∀ k, i ≤ k → k < sk t L i → k < L ∧ t k = 32 := by
  obtain ⟨a, b, d⟩ := ene_b (c := fun k => decide (t k = 32)) _ i (Nat.le_refl _) h
  exact ⟨a, fun h1 h2 => b ⟨h1, decide_eq_true h2⟩, fun k k1 k2 => ⟨(d k k1 k2).1, of_decide_eq_true (d k k1 k2).2⟩⟩
theorem sk_id {t : Nat → Nat} {L i : Nat} (h : i < L → t i ≠ 32) : sk t L i = i := ene_e (fun z => h z.1 (of_decide_eq_true z.2))
theorem sk_sk {t : Nat → Nat} {L i : Nat} (h : i ≤ L) : sk t L (sk t L i) = sk t L i := sk_id (sk_b h).2.1
theorem dg_b {t : Nat → Nat} {L i : Nat} (h : i ≤ L) : (i ≤ dg t L i ∧ dg t L i ≤ L) ∧ (dg t L i < L → ¬ (48 ≤ t (dg t L i) ∧ t (dg t L i) ≤ 57)) ∧ ∀ k, i ≤ k → k < dg t L i → k < L ∧ 48 ≤ t k ∧ t k ≤ 57 := by
  obtain ⟨a, b, d⟩ := ene_b (c := fun k => decide (48 ≤ t k ∧ t k ≤ 57)) _ i (Nat.le_refl _) h
  exact ⟨a, fun h1 h2 => b ⟨h1, decide_eq_true h2⟩, fun k k1 k2 => ⟨(d k k1 k2).1, of_decide_eq_true (d k k1 k2).2⟩⟩
theorem dg_0 {t : Nat → Nat} {L i : Nat} (h : ¬ (i < L ∧ 48 ≤ t i ∧ t i ≤ 57)) : dg t L i = i := ene_e (fun z => h ⟨z.1, of_decide_eq_true z.2⟩)
theorem dg_p {t : Nat → Nat} {L i : Nat} (h : i < L) (h2 : 48 ≤ t i ∧ t i ≤ 57) : i < dg t L i := by
  have e : dg t L i = dg t L (i + 1) := ene_s h (decide_eq_true h2)
  have := (dg_b (t := t) (L := L) (i := i + 1) h).1.1
  omega
/-- the number that n figures behind j tell -/
def vl (t : Nat → Nat) (j : Nat) : Nat → Nat
  | 0 => 0
  | n + 1 => vl t j n * 10 + (t (j + n) - 48)
theorem vl_s (t : Nat → Nat) (j n : Nat) : vl t j (n + 1) = vl t j n * 10 + (t (j + n) - 48) := rfl
theorem vl_b {t : Nat → Nat} {j : Nat} : ∀ n, (∀ k, k < n → t (j + k) ≤ 57) → vl t j n + 1 ≤ 10 ^ n
  | 0, _ => Nat.le_refl _
  | n + 1, h => by
    have h1 := vl_b n (fun k hk => h k (by omega))
    have h2 := h n (by omega)
    rw [vl_s, Nat.pow_succ]
    omega
section LOPW
variable {i0 N : Nat}
theorem lopW {z : St → Op} {b : (St → Op) → (St → Op) → St → Op} (I : Nat → St → Prop) (hs : ∀ i S, i0 ≤ i → i < N → I i S → ∃ S2, I (i + 1) S2 ∧ ∀ kk ag, b kk ag S = ag S2) (he : ∀ S, I N S → ∀ kk ag, b kk ag S = kk S) (h1 : i0 ≤ N) (h2 : N - i0 < FU) {S : St} (hI : I i0 S) : ∃ S2, I N S2 ∧ ∀ kk, lop z (b kk) FU S = kk S2 := by
  have key : ∀ n i S, i0 ≤ i → i ≤ N → N < n + i → I i S → ∃ S2, I N S2 ∧ ∀ kk, lop z (b kk) n S = kk S2 := by
    intro n
    induction n with
    | zero => intro i S _ h4 h5; omega
    | succ n ih =>
      intro i S h3 h4 h5 h6
      show ∃ S2, I N S2 ∧ ∀ kk, b kk (lop z (b kk) n) S = kk S2
      rcases Nat.lt_or_ge i N with h | h
      · obtain ⟨S1, g1, g2⟩ := hs i S h3 h h6
        obtain ⟨S2, g3, g4⟩ := ih (i + 1) S1 (by omega) (by omega) (by omega) g1
        exact ⟨S2, g3, fun kk => by rw [g2]; exact g4 kk⟩
      · have e : i = N := by omega
        subst e
        exact ⟨S, h6, fun kk => he S h6 kk _⟩
  exact key FU i0 S (Nat.le_refl _) h1 (by omega) hI
theorem lopWA {z : Int32 → St → Op} {b : (Int32 → St → Op) → (Int32 → St → Op) → Int32 → St → Op} (A : Nat → Int32) (I : Nat → St → Prop) (hs : ∀ i S, i0 ≤ i → i < N → I i S → ∃ S2, I (i + 1) S2 ∧ ∀ kk ag, b kk ag (A i) S = ag (A (i + 1)) S2) (he : ∀ S, I N S → ∀ kk ag, b kk ag (A N) S = kk (A N) S) (h1 : i0 ≤ N) (h2 : N - i0 < FU) {a : Int32} {S : St} (ha : A i0 = a) (hI : I i0 S) : ∃ S2, I N S2 ∧ ∀ kk, lop z (b kk) FU a S = kk (A N) S2 := by
  subst ha
  have key : ∀ n i S, i0 ≤ i → i ≤ N → N < n + i → I i S → ∃ S2, I N S2 ∧ ∀ kk, lop z (b kk) n (A i) S = kk (A N) S2 := by
    intro n
    induction n with
    | zero => intro i S _ h4 h5; omega
    | succ n ih =>
      intro i S h3 h4 h5 h6
      show ∃ S2, I N S2 ∧ ∀ kk, b kk (lop z (b kk) n) (A i) S = kk (A N) S2
      rcases Nat.lt_or_ge i N with h | h
      · obtain ⟨S1, g1, g2⟩ := hs i S h3 h h6
        obtain ⟨S2, g3, g4⟩ := ih (i + 1) S1 (by omega) (by omega) (by omega) g1
        exact ⟨S2, g3, fun kk => by rw [g2]; exact g4 kk⟩
      · have e : i = N := by omega
        subst e
        exact ⟨S, h6, fun kk => he S h6 kk _⟩
  exact key FU i0 S (Nat.le_refl _) h1 (by omega) hI
end LOPW
/-! the readers: φ is the fault's kind and place -/
def c10 (a o : Nat) : Prop := a = 1 ∧ o = 0
def mk (φ : Nat × Int32) (g j : Nat) : Nat × Int32 := if φ.1 = 0 ∧ g ≠ 0 then (g, nI j) else φ
theorem mk_0 (φ : Nat × Int32) (j : Nat) : mk φ 0 j = φ := if_neg (fun z => z.2 rfl)
theorem mk_n {φ : Nat × Int32} (h : φ.1 ≠ 0) (g j : Nat) : mk φ g j = φ := if_neg (fun z => h z.1)
theorem mk_g {φ : Nat × Int32} {g : Nat} (h : φ.1 = 0) (hg : g ≠ 0) (j : Nat) : mk φ g j = (g, nI j) := if_pos ⟨h, hg⟩
theorem mk_3 {φ : Nat × Int32} {g j : Nat} (h : φ.1 ≤ 3) (hg : g ≤ 3) : (mk φ g j).1 ≤ 3 := by
  unfold mk
  split
  · exact hg
  · exact h
def TXB (t : Nat → Nat) (L : Nat) : Prop := L ≤ 240 ∧ ∀ k, k < L → t k ≤ 255
def RS (S : St) (L : Nat) (t : Nat → Nat) (i : Nat) (φ : Nat × Int32) : Prop := S 1 0 1 = nI L ∧ (∀ k, k < L → S 2 0 k = nI (t k)) ∧ S 1 0 2 = nI i ∧ S 1 0 3 = nI φ.1 ∧ S 1 0 4 = φ.2
def RM (T : St) (L : Nat) (t : Nat → Nat) (i : Nat) : Prop := T 35 0 18 = nI L ∧ (∀ k, k < L → T 46 0 k = nI (t k)) ∧ T 35 0 20 = nI i
def FX (C : Nat → Nat → Prop) (X : Nat → Prop) (T T2 : St) : Prop := Fr C T T2 ∧ ∀ x, ¬ X x → T2 35 0 x = T 35 0 x
def c35 (a o : Nat) : Prop := a = 35 ∧ o = 0
def x3 (x : Nat) : Prop := 20 ≤ x ∧ x ≤ 22
def x4 (x : Nat) : Prop := 19 ≤ x ∧ x ≤ 22
def cR (a o : Nat) : Prop := (a = 35 ∧ o = 0) ∨ (47 ≤ a ∧ a ≤ 50)
def x5 (x : Nat) : Prop := 20 ≤ x ∧ x ≤ 28
def x6 (x : Nat) : Prop := 19 ≤ x ∧ x ≤ 28
theorem FX.rf {C : Nat → Nat → Prop} {X : Nat → Prop} {T : St} : FX C X T T := ⟨Fr.rf, fun _ _ => rfl⟩
theorem FX.tr {C : Nat → Nat → Prop} {X : Nat → Prop} {T T1 T2 : St} (h1 : FX C X T T1) (h2 : FX C X T1 T2) : FX C X T T2 := ⟨h1.1.tr h2.1, fun x hx => (h2.2 x hx).trans (h1.2 x hx)⟩
theorem FX.mono {C C2 : Nat → Nat → Prop} {X X2 : Nat → Prop} {T T2 : St} (h : FX C X T T2) (hC : ∀ a o, C a o → C2 a o) (hX : ∀ x, X x → X2 x) : FX C2 X2 T T2 := ⟨h.1.mono hC, fun x hx => h.2 x (fun z => hx (hX x z))⟩
theorem FX.wx {C : Nat → Nat → Prop} {X : Nat → Prop} {T T1 : St} {x : Nat} {v : Int32} (h : FX C X T T1) (hC : C 35 0) (hX : X x) : FX C X T (wr T1 35 0 x v) := ⟨h.1.wr hC, fun y hy => by
  rw [wr_i (fun z => hy (by rw [z.2]; exact hX))]
  exact h.2 y hy⟩
theorem FX.wo {C : Nat → Nat → Prop} {X : Nat → Prop} {T T1 : St} {a o i : Nat} {v : Int32} (h : FX C X T T1) (hC : C a o) (ha : a ≠ 35) : FX C X T (wr T1 a o i v) := ⟨h.1.wr hC, fun y hy => by
  rw [wr_i (fun z => ha z.1.1.symm)]
  exact h.2 y hy⟩
theorem RS.go {S : St} {L : Nat} {t : Nat → Nat} {i : Nat} {φ : Nat × Int32} (h : RS S L t i φ) (k : Nat) : RS (wr S 1 0 2 (nI k)) L t k φ := ⟨by rw [wr_i (by omega)]; exact h.1, fun j hj => by rw [wr_i (by omega)]; exact h.2.1 j hj, wr_same _ _ _ _ _, by rw [wr_i (by omega)]; exact h.2.2.2.1, by rw [wr_i (by omega)]; exact h.2.2.2.2⟩
theorem RS.fr {S S2 : St} {L : Nat} {t : Nat → Nat} {i : Nat} {φ : Nat × Int32} (h : RS S L t i φ) (h1 : S2 1 0 = S 1 0) (h2 : S2 2 0 = S 2 0) : RS S2 L t i φ := by
  unfold RS
  rw [h1, h2]
  exact h
theorem RM.go {T : St} {L : Nat} {t : Nat → Nat} {i : Nat} (h : RM T L t i) (k : Nat) : RM (wr T 35 0 20 (nI k)) L t k := ⟨by rw [wr_i (by omega)]; exact h.1, fun j hj => by rw [wr_i (by omega)]; exact h.2.1 j hj, wr_same _ _ _ _ _⟩
theorem RM.wx {T : St} {L : Nat} {t : Nat → Nat} {i x : Nat} {v : Int32} (h : RM T L t i) (hx : x ≠ 18 ∧ x ≠ 20) : RM (wr T 35 0 x v) L t i := ⟨by rw [wr_i (by omega)]; exact h.1, fun j hj => by rw [wr_i (by omega)]; exact h.2.1 j hj, by rw [wr_i (by omega)]; exact h.2.2⟩
theorem RM.wo {T : St} {L : Nat} {t : Nat → Nat} {i a o x : Nat} {v : Int32} (h : RM T L t i) (ha : a ≠ 35 ∧ a ≠ 46) : RM (wr T a o x v) L t i := ⟨by rw [wr_i (by omega)]; exact h.1, fun j hj => by rw [wr_i (by omega)]; exact h.2.1 j hj, by rw [wr_i (by omega)]; exact h.2.2⟩
theorem c_skip {S : St} {L : Nat} {t : Nat → Nat} {i : Nat} {φ : Nat × Int32} (hT : TXB t L) (hR : RS S L t i φ) (hi : i ≤ L) : ∃ S2, fX8_skipBlanks S = some (0, S2) ∧ RS S2 L t (sk t L i) φ ∧ Fr c10 S S2 := by
  obtain ⟨hb, hn, ha⟩ := sk_b (t := t) hi
  obtain ⟨hL, h255⟩ := hT
  have fin := lopW (i0 := i) (N := sk t L i) (z := fun _ => none) (b := bX8_skipBlanks_0) (S := S) (fun k S1 => RS S1 L t k φ ∧ Fr c10 S S1) ?hs ?he hb.1 (by rw [FU_eq]; omega) ⟨hR, Fr.rf⟩
  case hs =>
    intro k S1 hk1 hk2 ⟨h1, f1⟩
    obtain ⟨c1, c2⟩ := ha k hk1 hk2
    refine ⟨wr S1 1 0 2 (nI (k + 1)), ⟨h1.go (k + 1), f1.wr ⟨rfl, rfl⟩⟩, fun kk ag => ?_⟩
    unfold bX8_skipBlanks_0
    rw [h1.1, h1.2.2.1, if_neg (nI_ge c1 (by omega)), ck_nI (show k < 240 by omega) (by omega), nI_clamp (by omega), h1.2.1 k c1, c2, if_pos (show nI 32 = (32 : Int32) from rfl), bs_e, nI_1]
  case he =>
    intro S1 ⟨h1, f1⟩ kk ag
    unfold bX8_skipBlanks_0
    rw [h1.1, h1.2.2.1]
    by_cases h : sk t L i < L
    · have h2 := h255 _ h
      rw [if_neg (nI_ge h (by omega)), ck_nI (show sk t L i < 240 by omega) (by omega), nI_clamp (by omega), h1.2.1 _ h, if_neg (show ¬ nI (t (sk t L i)) = (32 : Int32) from fun z => hn h (nI_inj (b := 32) (by omega) (by decide) z))]
    · rw [if_pos (nI_le (by omega) (by omega))]
  obtain ⟨S2, ⟨h1, f1⟩, e⟩ := fin
  refine ⟨S2, ?_, h1, f1⟩
  unfold fX8_skipBlanks
  rw [jn_e, e]
theorem m_here {T : St} {L : Nat} {t : Nat → Nat} {i : Nat} (hT : TXB t L) (hR : RM T L t i) (hi : i ≤ L) : ∃ T2, fX11_here T = some (if sk t L i < L then nI (t (sk t L i)) else -1, T2) ∧ RM T2 L t (sk t L i) ∧ FX c35 (fun x => x = 20) T T2 := by
  obtain ⟨hb, hn, ha⟩ := sk_b (t := t) hi
  obtain ⟨hL, h255⟩ := hT
  have fin := lopW (i0 := i) (N := sk t L i) (z := fun _ => none) (b := bX11_here_0) (S := T) (fun k S1 => RM S1 L t k ∧ FX c35 (fun x => x = 20) T S1) ?hs ?he hb.1 (by rw [FU_eq]; omega) ⟨hR, FX.rf⟩
  case hs =>
    intro k S1 hk1 hk2 ⟨h1, f1⟩
    obtain ⟨c1, c2⟩ := ha k hk1 hk2
    refine ⟨wr S1 35 0 20 (nI (k + 1)), ⟨h1.go (k + 1), f1.wx ⟨rfl, rfl⟩ rfl⟩, fun kk ag => ?_⟩
    unfold bX11_here_0
    rw [h1.1, h1.2.2, if_neg (nI_ge c1 (by omega)), ck_nI (show k < 240 by omega) (by omega), nI_clamp (by omega), h1.2.1 k c1, c2, if_pos (show nI 32 = (32 : Int32) from rfl), bs_e, nI_1]
  case he =>
    intro S1 ⟨h1, f1⟩ kk ag
    unfold bX11_here_0
    rw [h1.1, h1.2.2]
    by_cases h : sk t L i < L
    · have h2 := h255 _ h
      rw [if_neg (nI_ge h (by omega)), ck_nI (show sk t L i < 240 by omega) (by omega), nI_clamp (by omega), h1.2.1 _ h, if_neg (show ¬ nI (t (sk t L i)) = (32 : Int32) from fun z => hn h (nI_inj (b := 32) (by omega) (by decide) z))]
    · rw [if_pos (nI_le (by omega) (by omega))]
  obtain ⟨S2, ⟨h1, f1⟩, e⟩ := fin
  refine ⟨S2, ?_, h1, f1⟩
  unfold fX11_here
  rw [jn_e, e]
  try dsimp only
  rw [h1.1, h1.2.2]
  by_cases h : sk t L i < L
  · rw [if_neg (nI_ge h (by omega)), ck_nI (show sk t L i < 240 by omega) (by omega), nI_clamp (by omega), h1.2.1 _ h, if_pos h]
  · rw [if_pos (nI_le (by omega) (by omega)), if_neg h]
