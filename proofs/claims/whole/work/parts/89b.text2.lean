theorem c_mark {S : St} {L : Nat} {t : Nat → Nat} {i g j : Nat} {φ : Nat × Int32} (hR : RS S L t i φ) (hg : g ≠ 0) (h3 : φ.1 ≤ 3) : ∃ S2, fX8_mark (nI g) (nI j) S = some (0, S2) ∧ RS S2 L t i (mk φ g j) ∧ Fr c10 S S2 := by
  by_cases h : φ.1 = 0
  · refine ⟨wr (wr S 1 0 3 (nI g)) 1 0 4 (nI j), ?_, ?_, (Fr.rf.wr ⟨rfl, rfl⟩).wr ⟨rfl, rfl⟩⟩
    · unfold fX8_mark
      rw [hR.2.2.2.1, h, if_pos (show nI 0 = (0 : Int32) from rfl), bs_e, bs_e]
    · rw [mk_g h hg]
      exact ⟨by rw [wr_i (by omega), wr_i (by omega)]; exact hR.1, fun k hk => by rw [wr_i (by omega), wr_i (by omega)]; exact hR.2.1 k hk, by rw [wr_i (by omega), wr_i (by omega)]; exact hR.2.2.1, by rw [wr_i (by omega), wr_same], wr_same _ _ _ _ _⟩
  · refine ⟨S, ?_, ?_, Fr.rf⟩
    · unfold fX8_mark
      rw [hR.2.2.2.1, if_neg (nI_ne0 (by omega) (by omega))]
    · rw [mk_n h]; exact hR
theorem c_fig1 {x : Nat} {S : St} (h : 48 ≤ x ∧ x ≤ 57) : fX8_isFigure (nI x) S = some (1, S) := by
  unfold fX8_isFigure
  rw [if_neg (show ¬ nI x < (48 : Int32) from nI_nlt (b := 48) h.1 (by omega)), if_neg (show ¬ (57 : Int32) < nI x from nI_nlt (a := 57) h.2 (by decide))]
theorem c_fig0 {x : Nat} {S : St} (h : ¬ (48 ≤ x ∧ x ≤ 57)) (hx : x ≤ 255) : fX8_isFigure (nI x) S = some (0, S) := by
  unfold fX8_isFigure
  by_cases q : x < 48
  · rw [if_pos (show nI x < (48 : Int32) from nI_lt (b := 48) q (by decide))]
  · rw [if_neg (show ¬ nI x < (48 : Int32) from nI_nlt (b := 48) (by omega) (by omega)), if_pos (show (57 : Int32) < nI x from nI_lt (a := 57) (by omega) (by omega))]
theorem m_fig (x : Int32) (S : St) : fX11_within x.toInt64 (48 : Int64) (57 : Int64) S = some (if (48 : Int32) ≤ x ∧ x ≤ 57 then 1 else 0, S) := m_within x 48 57 S
theorem m_fig1 {x : Nat} {S : St} (h : 48 ≤ x ∧ x ≤ 57) : fX11_within (nI x).toInt64 (48 : Int64) (57 : Int64) S = some (1, S) := by
  rw [m_fig, if_pos ⟨nI_le (a := 48) h.1 (by omega), nI_le (b := 57) h.2 (by decide)⟩]
theorem m_fig0 {x : Nat} {S : St} (h : ¬ (48 ≤ x ∧ x ≤ 57)) (hx : x ≤ 255) : fX11_within (nI x).toInt64 (48 : Int64) (57 : Int64) S = some (0, S) := by
  rw [m_fig, if_neg (fun z => h ⟨(nI_leI (a := 48) (by decide) (by omega)).mp z.1, (nI_leI (b := 57) (by omega) (by decide)).mp z.2⟩)]
/-- what is wrong with the number behind i; the number -/
def nfN (t : Nat → Nat) (L i lo hi : Nat) : Nat := if dg t L (sk t L i) = sk t L i then 1 else if 3 < dg t L (sk t L i) - sk t L i ∨ vl t (sk t L i) (dg t L (sk t L i) - sk t L i) < lo ∨ hi < vl t (sk t L i) (dg t L (sk t L i) - sk t L i) then 2 else 0
def nrN (t : Nat → Nat) (L i lo hi : Nat) : Nat := if nfN t L i lo hi = 0 then vl t (sk t L i) (dg t L (sk t L i) - sk t L i) else lo
theorem nfN_2 (t : Nat → Nat) (L i lo hi : Nat) : nfN t L i lo hi ≤ 2 := by
  unfold nfN
  split
  · omega
  · split <;> omega
theorem nrN_b {t : Nat → Nat} {L i lo hi : Nat} (h : lo ≤ hi) : lo ≤ nrN t L i lo hi ∧ nrN t L i lo hi ≤ hi := by
  unfold nrN
  by_cases q : nfN t L i lo hi = 0
  · rw [if_pos q]
    unfold nfN at q
    split at q
    · omega
    · split at q
      · omega
      · omega
  · rw [if_neg q]; exact ⟨Nat.le_refl _, h⟩
theorem c_number {S : St} {L : Nat} {t : Nat → Nat} {i lo hi : Nat} {φ : Nat × Int32} (hT : TXB t L) (hR : RS S L t i φ) (hi' : i ≤ L) (hlo : lo ≤ hi) (hh : hi ≤ 60) (h3 : φ.1 ≤ 3) : ∃ S2, fX8_readNumber (nI lo) (nI hi) S = some (nI (nrN t L i lo hi), S2) ∧ RS S2 L t (dg t L (sk t L i)) (mk φ (nfN t L i lo hi) (sk t L i)) ∧ Fr c10 S S2 := by
  obtain ⟨S1, e1, r1, f1⟩ := c_skip hT hR hi'
  obtain ⟨⟨b1, b2⟩, -, -⟩ := sk_b (t := t) hi'
  obtain ⟨⟨d1, d2⟩, dn, da⟩ := dg_b (t := t) b2
  obtain ⟨hL, h255⟩ := id hT
  have hv : nfN t L i lo hi = if dg t L (sk t L i) = sk t L i then 1 else if 3 < dg t L (sk t L i) - sk t L i ∨ vl t (sk t L i) (dg t L (sk t L i) - sk t L i) < lo ∨ hi < vl t (sk t L i) (dg t L (sk t L i) - sk t L i) then 2 else 0 := rfl
  have hr : nrN t L i lo hi = if nfN t L i lo hi = 0 then vl t (sk t L i) (dg t L (sk t L i) - sk t L i) else lo := rfl
  generalize nfN t L i lo hi = g at *
  generalize nrN t L i lo hi = v at *
  generalize sk t L i = j at *
  generalize dg t L j = e at *
  have fin := lopWA (i0 := j) (N := e) (z := fun _ _ => none) (b := bX8_readNumber_12) (S := S1) (a := 0) (fun k => nI (vl t j (k - j))) (fun k S2 => RS S2 L t k φ ∧ Fr c10 S S2) ?hs ?he d1 (by rw [FU_eq]; omega) (by (try dsimp only); rw [Nat.sub_self]; rfl) ⟨r1, f1⟩
  case hs =>
    intro k S2 k1 k2 ⟨h1, g1⟩
    obtain ⟨c1, c2, c3⟩ := da k k1 k2
    refine ⟨wr S2 1 0 2 (nI (k + 1)), ⟨h1.go (k + 1), g1.wr ⟨rfl, rfl⟩⟩, fun kk ag => ?_⟩
    unfold bX8_readNumber_12
    rw [h1.1, h1.2.2.1, if_neg (nI_ge c1 (by omega)), ck_nI (show k < 240 by omega) (by omega), nI_clamp (by omega), h1.2.1 k c1, cal_of (c_fig1 ⟨c2, c3⟩), if_neg n10, h1.2.2.1, ck_nI (show k < 240 by omega) (by omega), nI_clamp (by omega), h1.2.1 k c1, bi_e, bs_e, show (10 : Int32) = nI 10 from rfl, show (48 : Int32) = nI 48 from rfl, pk_mul, pk_sub c2, nI_add, nI_1, show k + 1 - j = (k - j) + 1 by omega, vl_s, show j + (k - j) = k by omega]
  case he =>
    intro S2 ⟨h1, g1⟩ kk ag
    unfold bX8_readNumber_12
    rw [h1.1, h1.2.2.1]
    by_cases h : e < L
    · have h2 := h255 e h
      rw [if_neg (nI_ge h (by omega)), ck_nI (show e < 240 by omega) (by omega), nI_clamp (by omega), h1.2.1 e h, cal_of (c_fig0 (dn h) h2), if_pos rfl]
    · rw [if_pos (nI_le (by omega) (by omega))]
  obtain ⟨S2, ⟨r2, f2⟩, e2⟩ := fin
  try dsimp only at e2
  by_cases q1 : e = j
  · have n1 : g = 1 := by rw [hv, if_pos q1]
    obtain ⟨S3, e3, r3, f3⟩ := c_mark (g := 1) (j := j) r2 (by decide) h3
    have e3 : fX8_mark (1 : Int32) (nI j) S2 = some (0, S3) := e3
    refine ⟨S3, ?_, by rw [n1]; exact r3, f2.tr f3⟩
    unfold fX8_readNumber
    rw [cal_of e1, bi_e, jn_e, e2]
    try dsimp only
    rw [r1.2.2.1, r2.2.2.1, bi_e, q1, pk_sub (Nat.le_refl _), Nat.sub_self, if_pos (show nI 0 = (0 : Int32) from rfl), cal_of e3, hr, n1, if_neg (by decide)]
  · by_cases q2 : 3 < e - j
    · have n1 : g = 2 := by rw [hv, if_neg q1, if_pos (Or.inl q2)]
      obtain ⟨S3, e3, r3, f3⟩ := c_mark (g := 2) (j := j) r2 (by decide) h3
      have e3 : fX8_mark (2 : Int32) (nI j) S2 = some (0, S3) := e3
      refine ⟨S3, ?_, by rw [n1]; exact r3, f2.tr f3⟩
      unfold fX8_readNumber
      rw [cal_of e1, bi_e, jn_e, e2]
      try dsimp only
      rw [r1.2.2.1, r2.2.2.1, bi_e, pk_sub d1, if_neg (nI_ne0 (by omega) (by omega)), jn_e, if_pos (show (3 : Int32) < nI (e - j) from nI_lt (a := 3) q2 (by omega))]
      try dsimp only
      rw [cal_of e3, hr, n1, if_neg (by decide)]
    · have vb := vl_b (t := t) (j := j) (e - j) (fun k hk => (da (j + k) (by omega) (by omega)).2.2)
      have p3 : 10 ^ (e - j) ≤ 10 ^ 3 := Nat.pow_le_pow_right (by decide) (by omega)
      by_cases q3 : lo ≤ vl t j (e - j) ∧ vl t j (e - j) ≤ hi
      · have n1 : g = 0 := by rw [hv, if_neg q1, if_neg (by omega)]
        refine ⟨S2, ?_, by rw [n1, mk_0]; exact r2, f2⟩
        unfold fX8_readNumber
        rw [cal_of e1, bi_e, jn_e, e2]
        try dsimp only
        rw [r1.2.2.1, r2.2.2.1, bi_e, pk_sub d1, if_neg (nI_ne0 (by omega) (by omega)), jn_e, if_neg (show ¬ (3 : Int32) < nI (e - j) from nI_nlt (a := 3) (by omega) (by decide)), c_isOut, cal_s, if_pos (show nI lo ≤ nI (vl t j (e - j)) ∧ nI (vl t j (e - j)) ≤ nI hi from ⟨nI_le q3.1 (by omega), nI_le q3.2 (by omega)⟩), if_pos rfl, hr, n1, if_pos rfl]
      · have n1 : g = 2 := by rw [hv, if_neg q1, if_pos (by omega)]
        obtain ⟨S3, e3, r3, f3⟩ := c_mark (g := 2) (j := j) r2 (by decide) h3
        have e3 : fX8_mark (2 : Int32) (nI j) S2 = some (0, S3) := e3
        refine ⟨S3, ?_, by rw [n1]; exact r3, f2.tr f3⟩
        unfold fX8_readNumber
        rw [cal_of e1, bi_e, jn_e, e2]
        try dsimp only
        rw [r1.2.2.1, r2.2.2.1, bi_e, pk_sub d1, if_neg (nI_ne0 (by omega) (by omega)), jn_e, if_neg (show ¬ (3 : Int32) < nI (e - j) from nI_nlt (a := 3) (by omega) (by decide)), c_isOut, cal_s, if_neg (show ¬ (nI lo ≤ nI (vl t j (e - j)) ∧ nI (vl t j (e - j)) ≤ nI hi) from fun z => q3 ⟨(nI_leI (by omega) (by omega)).mp z.1, (nI_leI (by omega) (by omega)).mp z.2⟩), if_neg n10]
        try dsimp only
        rw [cal_of e3, hr, n1, if_neg (by decide)]
/-- the number as the reference reckons it -/
def rv (t : Nat → Nat) (j : Nat) : Nat → Nat
  | 0 => 0
  | n + 1 => if rv t j n ≤ 10000 then 10 * rv t j n + t (j + n) - 48 else rv t j n
theorem rv_s (t : Nat → Nat) (j n : Nat) : rv t j (n + 1) = if rv t j n ≤ 10000 then 10 * rv t j n + t (j + n) - 48 else rv t j n := rfl
theorem rv_b {t : Nat → Nat} {j : Nat} : ∀ n, (∀ k, k < n → t (j + k) ≤ 57) → rv t j n ≤ 100009
  | 0, _ => Nat.zero_le _
  | n + 1, h => by
    have h1 := rv_b n (fun k hk => h k (by omega))
    have h2 := h n (by omega)
    rw [rv_s]
    split <;> omega
theorem rv_vl {t : Nat → Nat} {j : Nat} : ∀ n, n ≤ 4 → (∀ k, k < n → 48 ≤ t (j + k) ∧ t (j + k) ≤ 57) → rv t j n = vl t j n
  | 0, _, _ => rfl
  | n + 1, hn, h => by
    have h1 := rv_vl n (by omega) (fun k hk => h k (by omega))
    have h2 := h n (by omega)
    have h3 := vl_b (t := t) (j := j) n (fun k hk => (h k (by omega)).2)
    have h4 : 10 ^ n ≤ 10 ^ 3 := Nat.pow_le_pow_right (by decide) (by omega)
    rw [rv_s, vl_s, h1, if_pos (by omega)]
    omega
theorem m_number {T : St} {L : Nat} {t : Nat → Nat} {i lo hi : Nat} (hT : TXB t L) (hR : RM T L t i) (hi' : i ≤ L) (hlo : lo ≤ hi) (hh : hi ≤ 60) : (nfN t L i lo hi = 0 → ∃ T2, fX11_takeNumber (nI lo) (nI hi) T = some (0, T2) ∧ RM T2 L t (dg t L (sk t L i)) ∧ T2 35 0 21 = nI (nrN t L i lo hi) ∧ FX c35 x3 T T2) ∧ (nfN t L i lo hi ≠ 0 → ∃ T2, fX11_takeNumber (nI lo) (nI hi) T = some (nI (nfN t L i lo hi), T2) ∧ T2 35 0 19 = nI (sk t L i) ∧ FX c35 x4 T T2) := by
  obtain ⟨T1, e1, r1, f1⟩ := m_here hT hR hi'
  obtain ⟨⟨b1, b2⟩, -, -⟩ := sk_b (t := t) hi'
  obtain ⟨⟨d1, d2⟩, dn, da⟩ := dg_b (t := t) b2
  obtain ⟨hL, h255⟩ := id hT
  have f1 : FX c35 x3 T T1 := f1.mono (fun a o h => h) (fun x h => by unfold x3; omega)
  have hv : nfN t L i lo hi = if dg t L (sk t L i) = sk t L i then 1 else if 3 < dg t L (sk t L i) - sk t L i ∨ vl t (sk t L i) (dg t L (sk t L i) - sk t L i) < lo ∨ hi < vl t (sk t L i) (dg t L (sk t L i) - sk t L i) then 2 else 0 := rfl
  have hr : nrN t L i lo hi = if nfN t L i lo hi = 0 then vl t (sk t L i) (dg t L (sk t L i) - sk t L i) else lo := rfl
  have z0 : ¬ (sk t L i < L ∧ 48 ≤ t (sk t L i) ∧ t (sk t L i) ≤ 57) → dg t L (sk t L i) = sk t L i := dg_0
  have zp : sk t L i < L → 48 ≤ t (sk t L i) ∧ t (sk t L i) ≤ 57 → sk t L i < dg t L (sk t L i) := dg_p
  generalize nfN t L i lo hi = g at *
  generalize nrN t L i lo hi = v at *
  generalize sk t L i = j at *
  generalize dg t L j = e at *
  by_cases q1 : j < L ∧ 48 ≤ t j ∧ t j ≤ 57
  · have hje := zp q1.1 q1.2
    have q4 : ¬ e = j := by omega
    have fin := lopW (i0 := j) (N := e) (z := fun _ => none) (b := bX11_takeNumber_42) (S := wr (wr T1 35 0 22 (nI j)) 35 0 21 0) (fun k S2 => RM S2 L t k ∧ S2 35 0 21 = nI (rv t j (k - j)) ∧ S2 35 0 22 = nI j ∧ FX c35 x3 T S2) ?hs ?he d1 (by rw [FU_eq]; omega) ⟨(r1.wx (by omega)).wx (by omega), by rw [wr_same, Nat.sub_self]; rfl, by rw [wr_i (by omega), wr_same], (f1.wx ⟨rfl, rfl⟩ (by unfold x3; omega)).wx ⟨rfl, rfl⟩ (by unfold x3; omega)⟩
    case hs =>
      intro k S2 k1 k2 ⟨h1, h2, h4, g1⟩
      obtain ⟨c1, c2, c3⟩ := da k k1 k2
      have hrb := rv_b (t := t) (j := j) (k - j) (fun x hx => (da (j + x) (by omega) (by omega)).2.2)
      have hst : rv t j (k + 1 - j) = if rv t j (k - j) ≤ 10000 then 10 * rv t j (k - j) + t k - 48 else rv t j (k - j) := by
        rw [show k + 1 - j = (k - j) + 1 by omega, rv_s, show j + (k - j) = k by omega]
      refine ⟨wr (wr S2 35 0 21 (nI (rv t j (k + 1 - j)))) 35 0 20 (nI (k + 1)), ⟨(h1.wx (by omega)).go (k + 1), by rw [wr_i (by omega), wr_same], by rw [wr_i (by omega), wr_i (by omega)]; exact h4, (g1.wx ⟨rfl, rfl⟩ (by unfold x3; omega)).wx ⟨rfl, rfl⟩ (by unfold x3; omega)⟩, fun kk ag => ?_⟩
      unfold bX11_takeNumber_42
      rw [h1.1, h1.2.2, if_neg (nI_ge c1 (by omega)), ck_nI (show k < 240 by omega) (by omega), nI_clamp (by omega), h1.2.1 k c1, cal_of (m_fig1 ⟨c2, c3⟩), if_neg n10, jn_e]
      try dsimp only
      rw [h1.2.2, h2, hst]
      by_cases q : rv t j (k - j) ≤ 10000
      · rw [if_pos (show nI (rv t j (k - j)) ≤ (10000 : Int32) from nI_le (b := 10000) q (by decide)), if_pos q, ck_nI (show k < 240 by omega) (by omega), nI_clamp (by omega), h1.2.1 k c1, bs_e, bs_e, show (10 : Int32) = nI 10 from rfl, show (48 : Int32) = nI 48 from rfl, pk_mul, nI_add, pk_sub (by omega), wr_i (by omega), h1.2.2, nI_1]
      · rw [if_neg (show ¬ nI (rv t j (k - j)) ≤ (10000 : Int32) from nI_ge (a := 10000) (by omega) (by omega)), if_neg q, bs_e, bs_e, wr_i (by omega), h1.2.2, nI_1]
    case he =>
      intro S2 ⟨h1, h2, h4, g1⟩ kk ag
      unfold bX11_takeNumber_42
      rw [h1.1, h1.2.2]
      by_cases h : e < L
      · have h2 := h255 e h
        rw [if_neg (nI_ge h (by omega)), ck_nI (show e < 240 by omega) (by omega), nI_clamp (by omega), h1.2.1 e h, cal_of (m_fig0 (dn h) h2), if_pos rfl]
      · rw [if_pos (nI_le (by omega) (by omega))]
    obtain ⟨T2, ⟨r2, v2, j2, f2⟩, e2⟩ := fin
    have fails : g = 2 → (∀ kk, (jn (fun (S_157 : St) => cal (fX11_fails (2 : Int32) (S_157 35 0 22) S_157) fun r_163 S_163 => some (r_163, S_163)) fun j157 => if (3 : Int32) < ((T2 35 0 20) - (T2 35 0 22)) then (j157 T2) else (cal (fX11_within (Int32.toInt64 (T2 35 0 21)) (Int32.toInt64 (nI lo)) (Int32.toInt64 (nI hi)) T2) fun r_151 S_151 => if r_151 = (0 : Int32) then (j157 S_151) else (some ((0 : Int32), S_151)))) = kk → kk = some (nI 2, wr T2 35 0 19 (nI j))) := by
      intro hg kk hk
      rw [← hk, jn_e, r2.2.2, j2, pk_sub d1]
      try dsimp only
      have hF : fX11_fails (2 : Int32) (T2 35 0 22) T2 = some (nI 2, wr T2 35 0 19 (nI j)) := by
        unfold fX11_fails
        rw [bs_e, j2]
        rfl
      by_cases q2 : 3 < e - j
      · rw [if_pos (show (3 : Int32) < nI (e - j) from nI_lt (a := 3) q2 (by omega)), cal_of hF]
      · have hq : rv t j (e - j) = vl t j (e - j) := rv_vl _ (by omega) (fun x hx => (da (j + x) (by omega) (by omega)).2)
        have vb := vl_b (t := t) (j := j) (e - j) (fun k hk => (da (j + k) (by omega) (by omega)).2.2)
        have p3 : 10 ^ (e - j) ≤ 10 ^ 3 := Nat.pow_le_pow_right (by decide) (by omega)
        have q3 : ¬ (lo ≤ vl t j (e - j) ∧ vl t j (e - j) ≤ hi) := fun z => by
          rw [hv, if_neg q4, if_neg (by omega)] at hg
          omega
        rw [if_neg (show ¬ (3 : Int32) < nI (e - j) from nI_nlt (a := 3) (by omega) (by decide)), v2, hq, m_within, cal_s, if_neg (show ¬ (nI lo ≤ nI (vl t j (e - j)) ∧ nI (vl t j (e - j)) ≤ nI hi) from fun z => q3 ⟨(nI_leI (by omega) (by omega)).mp z.1, (nI_leI (by omega) (by omega)).mp z.2⟩), if_pos rfl, cal_of hF]
    have main : fX11_takeNumber (nI lo) (nI hi) T = (jn (fun (S_157 : St) => cal (fX11_fails (2 : Int32) (S_157 35 0 22) S_157) fun r_163 S_163 => some (r_163, S_163)) fun j157 => if (3 : Int32) < ((T2 35 0 20) - (T2 35 0 22)) then (j157 T2) else (cal (fX11_within (Int32.toInt64 (T2 35 0 21)) (Int32.toInt64 (nI lo)) (Int32.toInt64 (nI hi)) T2) fun r_151 S_151 => if r_151 = (0 : Int32) then (j157 S_151) else (some ((0 : Int32), S_151)))) := by
      unfold fX11_takeNumber
      rw [cal_of e1, if_pos q1.1, cal_of (m_fig1 q1.2), if_neg n10, bs_e, bs_e, r1.2.2, jn_e, e2]
    constructor
    · intro hg
      have q2 : ¬ 3 < e - j ∧ lo ≤ vl t j (e - j) ∧ vl t j (e - j) ≤ hi := by
        rw [hv, if_neg q4] at hg
        split at hg
        · omega
        · omega
      have hq : rv t j (e - j) = vl t j (e - j) := rv_vl _ (by omega) (fun x hx => (da (j + x) (by omega) (by omega)).2)
      refine ⟨T2, ?_, r2, by rw [v2, hr, if_pos hg, hq], f2⟩
      rw [main, jn_e, r2.2.2, j2, pk_sub d1, if_neg (show ¬ (3 : Int32) < nI (e - j) from nI_nlt (a := 3) (by omega) (by decide)), v2, hq, m_within, cal_s, if_pos (show nI lo ≤ nI (vl t j (e - j)) ∧ nI (vl t j (e - j)) ≤ nI hi from ⟨nI_le q2.2.1 (by omega), nI_le q2.2.2 (by omega)⟩), if_neg n10]
    · intro hg
      have hg2 : g = 2 := by
        rw [hv, if_neg q4] at hg ⊢
        split at hg
        · rw [if_pos (by assumption)]
        · exact absurd rfl hg
      refine ⟨wr T2 35 0 19 (nI j), ?_, wr_same _ _ _ _ _, (f2.mono (fun a o h => h) (fun x h => by unfold x3 at h; unfold x4; omega)).wx ⟨rfl, rfl⟩ (by unfold x4; omega)⟩
      rw [main, hg2]
      exact fails hg2 _ rfl
  · have q4 := z0 q1
    have n1 : g = 1 := by rw [hv, if_pos q4]
    refine ⟨fun z => by omega, fun _ => ⟨wr T1 35 0 19 (nI j), ?_, wr_same _ _ _ _ _, (f1.mono (fun a o h => h) (fun x h => by unfold x3 at h; unfold x4; omega)).wx ⟨rfl, rfl⟩ (by unfold x4; omega)⟩⟩
    have hF : fX11_fails (1 : Int32) (T1 35 0 20) T1 = some (nI 1, wr T1 35 0 19 (nI j)) := by
      unfold fX11_fails
      rw [bs_e, r1.2.2]
      rfl
    have hw : fX11_within (Int32.toInt64 (if j < L then nI (t j) else -1)) (48 : Int64) (57 : Int64) T1 = some (0, T1) := by
      by_cases h : j < L
      · rw [if_pos h, m_fig0 (fun z => q1 ⟨h, z⟩) (h255 j h)]
      · rw [if_neg h, m_fig, if_neg (by decide)]
    unfold fX11_takeNumber
    rw [cal_of e1, cal_of hw, if_pos rfl, cal_of hF, n1]
