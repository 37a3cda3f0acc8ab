def cM (o m a q : Nat) : Prop := (a = 1 ∧ q = 0) ∨ (a = 6 ∧ q = 6 * o + m)
def cN (a o : Nat) : Prop := (a = 35 ∧ o = 0) ∨ (a = 48 ∧ o = 0)
theorem k5 {k : Nat} (h : k < 5) : ¬ (5 : Int32) ≤ nI k := nI_ge (b := 5) h (by decide)
/-- the number of a place -/
theorem place_num {t : Nat → Nat} {L i k : Nat} (hT : TXB t L) (hi : i ≤ L) (hk : k < 5) : ∃ g j e v, g ≤ 3 ∧ v ≤ 30 ∧ (i ≤ e ∧ e ≤ L) ∧
    (∀ (S : St) (o m : Nat) (φ : Nat × Int32), m < 6 → φ.1 ≤ 3 → RS S L t i φ → ∃ S2, (∀ ag : Int32 → St → Op, (ck (nI m) 6 <| cal (fX8_readNumber (0 : Int32) (30 : Int32) S) fun r_45 S_45 => ck (nI k) 5 <| bs (wr S_45 6 (6 * o + (Int32.toNatClampNeg (nI m))) (Int32.toNatClampNeg (nI k)) r_45) fun S_48 => ag (nI k + (1 : Int32)) S_48) = ag (nI (k + 1)) S2) ∧ RS S2 L t e (mk φ g j) ∧ Fr (cM o m) S S2 ∧ S2 6 (6 * o + m) k = nI v ∧ ∀ p, p ≠ k → S2 6 (6 * o + m) p = S 6 (6 * o + m) p) ∧
    (∀ (T : St) (m : Nat), m < 6 → T 35 0 25 = nI m → RM T L t i →
      (g = 0 → ∃ T2, (∀ ag : Int32 → Int32 → St → Op, (cal (fX11_takeNumber (0 : Int32) (30 : Int32) T) fun r_68 S_68 => ck (((5 : Int32) * (S_68 35 0 25)) + nI k) 30 <| bs (wr S_68 48 0 (Int32.toNatClampNeg (((5 : Int32) * (S_68 35 0 25)) + nI k)) (S_68 35 0 21)) fun S_88 => ag (nI k + (1 : Int32)) r_68 S_88) = ag (nI (k + 1)) 0 T2) ∧ RM T2 L t e ∧ FX cN x3 T T2 ∧ T2 48 0 (5 * m + k) = nI v ∧ ∀ y, y ≠ 5 * m + k → T2 48 0 y = T 48 0 y) ∧
      (g ≠ 0 → ∃ T2, (∀ ag : Int32 → Int32 → St → Op, (cal (fX11_takeNumber (0 : Int32) (30 : Int32) T) fun r_68 S_68 => ck (((5 : Int32) * (S_68 35 0 25)) + nI k) 30 <| bs (wr S_68 48 0 (Int32.toNatClampNeg (((5 : Int32) * (S_68 35 0 25)) + nI k)) (S_68 35 0 21)) fun S_88 => ag (nI k + (1 : Int32)) r_68 S_88) = ag (nI (k + 1)) (nI g) T2) ∧ T2 35 0 19 = nI j ∧ FX cR x6 T T2)) := by
  obtain ⟨g, j, e, v, a1, b1, d1, c1, m1⟩ := num (t := t) (L := L) (i := i) 0 30 hT hi (by decide) (by decide)
  refine ⟨g, j, e, v, a1, b1.2, d1, fun S o m φ hm h3 hR => ?_, fun T m hm h25 hR => ⟨fun hg => ?_, fun hg => ?_⟩⟩
  · obtain ⟨S1, x1, r1, f1⟩ := c1 S φ h3 hR
    have x1 : fX8_readNumber (0 : Int32) (30 : Int32) S = some (nI v, S1) := x1
    refine ⟨wr S1 6 (6 * o + m) k (nI v), fun ag => ?_, r1.wo (by omega), (f1.mono (fun a q z => Or.inl z)).wr (Or.inr ⟨rfl, rfl⟩), wr_same _ _ _ _ _, fun p hp => ?_⟩
    · rw [ck_nI hm (by omega), cal_of x1, ck_nI hk (by omega), bs_e, nI_clamp (by omega), nI_clamp (by omega), nI_1]
    · rw [wr_i (by omega), f1 6 _ (by unfold c10; omega)]
  · obtain ⟨T1, y1, r1, n1, f1⟩ := (m1 T hR).1 hg
    have y1 : fX11_takeNumber (0 : Int32) (30 : Int32) T = some (0, T1) := y1
    have k1 : T1 35 0 25 = nI m := by rw [f1.2 25 (by unfold x3; omega)]; exact h25
    refine ⟨wr T1 48 0 (5 * m + k) (nI v), fun ag => ?_, r1.wo (by omega), (f1.mono (fun a q z => Or.inl z) (fun x z => z)).wo (Or.inr ⟨rfl, rfl⟩) (by omega), wr_same _ _ _ _ _, fun y hy => ?_⟩
    · rw [cal_of y1, k1, n1, show (5 : Int32) = nI 5 from rfl, pk_mul, nI_add, ck_nI (show 5 * m + k < 30 by omega) (by omega), bs_e, nI_clamp (by omega), nI_1]
    · rw [wr_i (by omega), f1.1 48 0 (by unfold c35; omega)]
  · obtain ⟨T1, y1, n1, f1⟩ := (m1 T hR).2 hg
    have y1 : fX11_takeNumber (0 : Int32) (30 : Int32) T = some (nI g, T1) := y1
    have k1 : T1 35 0 25 = nI m := by rw [f1.2 25 (by unfold x4; omega)]; exact h25
    refine ⟨wr T1 48 0 (5 * m + k) (T1 35 0 21), fun ag => ?_, by rw [wr_i (by omega)]; exact n1, f1.r4.wo (Or.inr (by omega)) (by omega)⟩
    rw [cal_of y1, k1, show (5 : Int32) = nI 5 from rfl, pk_mul, nI_add, ck_nI (show 5 * m + k < 30 by omega) (by omega), bs_e, nI_clamp (by omega), nI_1]
/-- a place: from the second on a comma is ahead of it -/
theorem place_step {t : Nat → Nat} {L i k : Nat} (hT : TXB t L) (hi : i ≤ L) (hk : k < 5) : ∃ g j e v, g ≤ 3 ∧ v ≤ 30 ∧ (i ≤ e ∧ e ≤ L) ∧
    (∀ (S : St) (o m : Nat) (φ : Nat × Int32), m < 6 → φ.1 ≤ 3 → RS S L t i φ → ∃ S2, (∀ kk ag, bX8_readMan_19 o (nI m) kk ag (nI k) S = ag (nI (k + 1)) S2) ∧ RS S2 L t e (mk φ g j) ∧ Fr (cM o m) S S2 ∧ S2 6 (6 * o + m) k = nI v ∧ ∀ p, p ≠ k → S2 6 (6 * o + m) p = S 6 (6 * o + m) p) ∧
    (∀ (T : St) (m : Nat), m < 6 → T 35 0 25 = nI m → RM T L t i →
      (g = 0 → ∃ T2, (∀ kk ag, bX11_takeMan_22 kk ag (nI k) 0 T = ag (nI (k + 1)) 0 T2) ∧ RM T2 L t e ∧ FX cN x3 T T2 ∧ T2 48 0 (5 * m + k) = nI v ∧ ∀ y, y ≠ 5 * m + k → T2 48 0 y = T 48 0 y) ∧
      (g ≠ 0 → ∃ T2, T2 35 0 19 = nI j ∧ FX cR x6 T T2 ∧ ((∀ kk ag, bX11_takeMan_22 kk ag (nI k) 0 T = some (nI g, T2)) ∨ (∀ kk ag, bX11_takeMan_22 kk ag (nI k) 0 T = ag (nI (k + 1)) (nI g) T2)))) := by
  rcases Nat.eq_zero_or_pos k with z | hk0
  · subst z
    obtain ⟨g, j, e, v, a1, b1, d1, c1, m1⟩ := place_num (t := t) (L := L) (i := i) (k := 0) hT hi hk
    refine ⟨g, j, e, v, a1, b1, d1, fun S o m φ hm h3 hR => ?_, fun T m hm h25 hR => ⟨fun hg => ?_, fun hg => ?_⟩⟩
    · obtain ⟨S2, x, r⟩ := c1 S o m φ hm h3 hR
      refine ⟨S2, fun kk ag => ?_, r⟩
      unfold bX8_readMan_19
      rw [if_neg (k5 hk), jn_e, if_pos (show nI 0 ≤ (0 : Int32) by decide)]
      exact x ag
    · obtain ⟨T2, x, r⟩ := (m1 T m hm h25 hR).1 hg
      refine ⟨T2, fun kk ag => ?_, r⟩
      unfold bX11_takeMan_22
      rw [if_neg (k5 hk), if_pos rfl, jn_e, if_pos (show nI 0 ≤ (0 : Int32) by decide)]
      exact x ag
    · obtain ⟨T2, x, r1, r2⟩ := (m1 T m hm h25 hR).2 hg
      refine ⟨T2, r1, r2, Or.inr (fun kk ag => ?_)⟩
      unfold bX11_takeMan_22
      rw [if_neg (k5 hk), if_pos rfl, jn_e, if_pos (show nI 0 ≤ (0 : Int32) by decide)]
      exact x ag
  · obtain ⟨g0, j0, e0, a0, b0, d0, c0, m0⟩ := mrk (t := t) (L := L) (i := i) 44 hT hi (by decide)
    obtain ⟨g, j, e, v, a1, b1, d1, c1, m1⟩ := place_num (t := t) (L := L) (i := e0) (k := k) hT d0.2 hk
    refine ⟨cg g0 g, cj g0 j0 j, e, v, cg_3 (by omega) a1, b1, by omega, fun S o m φ hm h3 hR => ?_, fun T m hm h25 hR => ⟨fun hg => ?_, fun hg => ?_⟩⟩
    · obtain ⟨S1, x1, r1, f1⟩ := c0 S φ h3 hR
      have x1 : fX8_skipMark (44 : Int32) S = some (0, S1) := x1
      obtain ⟨S2, x, r2, f2, s1, s2⟩ := c1 S1 o m (mk φ g0 j0) hm (mk_3 h3 (by omega)) r1
      refine ⟨S2, fun kk ag => ?_, by rw [← mk_mk]; exact r2, (f1.mono (fun a q z => Or.inl z)).tr f2, s1, fun p hp => by rw [s2 p hp, f1 6 _ (by unfold c10; omega)]⟩
      unfold bX8_readMan_19
      rw [if_neg (k5 hk), jn_e, if_neg (nI_nle hk0 (by omega)), cal_of x1]
      exact x ag
    · obtain ⟨z0, z1⟩ := cg_z hg
      obtain ⟨T1, r, x1, h1, -, r1, f1⟩ := m0 T hR
      have q2 : r = (44 : Int32) := h1 z0
      have r1' : RM (wr T1 35 0 20 (nI e0)) L t e0 := r1.go e0
      have f1' : FX c35 x3 T (wr T1 35 0 20 (nI e0)) := f1.wx ⟨rfl, rfl⟩ (by unfold x3; omega)
      obtain ⟨T2, x, r2, f2, s1, s2⟩ := (m1 (wr T1 35 0 20 (nI e0)) m hm (by rw [f1'.2 25 (by unfold x3; omega)]; exact h25) r1').1 z1
      refine ⟨T2, fun kk ag => ?_, r2, (f1'.mono (fun a q z => Or.inl z) (fun x z => z)).tr f2, s1, fun y hy => by rw [s2 y hy, f1'.1 48 0 (by unfold c35; omega)]⟩
      unfold bX11_takeMan_22
      rw [if_neg (k5 hk), if_pos rfl, jn_e, if_neg (nI_nle hk0 (by omega)), cal_of x1, if_pos q2, bs_e, r1.2.2, show nI j0 + (1 : Int32) = nI e0 from by rw [nI_1, b0 z0]]
      exact x ag
    · obtain ⟨T1, r, x1, h1, h2, r1, f1⟩ := m0 T hR
      by_cases z0 : g0 = 0
      · have e0j := b0 z0
        subst z0
        rw [cg_0] at hg ⊢
        rw [cj_0]
        have q2 : r = (44 : Int32) := h1 rfl
        have r1' : RM (wr T1 35 0 20 (nI e0)) L t e0 := r1.go e0
        have f1' : FX c35 x3 T (wr T1 35 0 20 (nI e0)) := f1.wx ⟨rfl, rfl⟩ (by unfold x3; omega)
        obtain ⟨T2, x, n2, f2⟩ := (m1 (wr T1 35 0 20 (nI e0)) m hm (by rw [f1'.2 25 (by unfold x3; omega)]; exact h25) r1').2 hg
        refine ⟨T2, n2, f1'.r3.r5.tr f2, Or.inr (fun kk ag => ?_)⟩
        unfold bX11_takeMan_22
        rw [if_neg (k5 hk), if_pos rfl, jn_e, if_neg (nI_nle hk0 (by omega)), cal_of x1, if_pos q2, bs_e, r1.2.2, show nI j0 + (1 : Int32) = nI e0 from by rw [nI_1, e0j]]
        exact x ag
      · rw [cg_n z0, cj_n z0]
        have q2 : ¬ r = (44 : Int32) := h2 z0
        have g1 : g0 = 1 := by omega
        refine ⟨wr T1 35 0 19 (nI j0), wr_same _ _ _ _ _, f1.r3.r5.wx (Or.inl ⟨rfl, rfl⟩) (by unfold x6; omega), Or.inl (fun kk ag => ?_)⟩
        have hF : fX11_fails (1 : Int32) (T1 35 0 20) T1 = some (nI g0, wr T1 35 0 19 (nI j0)) := by
          unfold fX11_fails
          rw [bs_e, r1.2.2, g1]
          rfl
        unfold bX11_takeMan_22
        rw [if_neg (k5 hk), if_pos rfl, jn_e, if_neg (nI_nle hk0 (by omega)), cal_of x1, if_neg q2, cal_of hF]
def KM : Int32 → St → Op := fun (x1_95 : Int32) (S_95 : St) => bs (wr S_95 35 0 25 ((S_95 35 0 25) + (1 : Int32))) fun S_102 => some (x1_95, S_102)
theorem KM_e {g : Int32} {T : St} : KM g T = some (g, wr T 35 0 25 ((T 35 0 25) + (1 : Int32))) := rfl
theorem places {t : Nat → Nat} {L i : Nat} (hT : TXB t L) (hi : i ≤ L) : ∀ k, k ≤ 5 → ∃ (g j e : Nat) (so : Nat → Nat), g ≤ 3 ∧ (∀ p, p < k → so p ≤ 30) ∧ (i ≤ e ∧ e ≤ L) ∧
    (∀ (S : St) (o m : Nat) (φ : Nat × Int32), m < 6 → φ.1 ≤ 3 → RS S L t i φ → ∃ S2, (∀ kk fu, lop (fun _ _ => none) (bX8_readMan_19 o (nI m) kk) (fu + k) (0 : Int32) S = lop (fun _ _ => none) (bX8_readMan_19 o (nI m) kk) fu (nI k) S2) ∧ RS S2 L t e (mk φ g j) ∧ Fr (cM o m) S S2 ∧ ∀ p, p < k → S2 6 (6 * o + m) p = nI (so p)) ∧
    (∀ (T : St) (m : Nat), m < 6 → T 35 0 25 = nI m → RM T L t i →
      (g = 0 → ∃ T2, (∀ kk fu, lop (fun _ _ _ => none) (bX11_takeMan_22 kk) (fu + k) (0 : Int32) (0 : Int32) T = lop (fun _ _ _ => none) (bX11_takeMan_22 kk) fu (nI k) (0 : Int32) T2) ∧ RM T2 L t e ∧ FX cN x3 T T2 ∧ (∀ p, p < k → T2 48 0 (5 * m + p) = nI (so p)) ∧ ∀ y, y < 5 * m → T2 48 0 y = T 48 0 y) ∧
      (g ≠ 0 → ∃ T2, T2 35 0 19 = nI j ∧ FX cR x6 T T2 ∧ ∀ fu, lop (fun _ _ _ => none) (bX11_takeMan_22 KM) (fu + 1 + k) (0 : Int32) (0 : Int32) T = some (nI g, T2)))
  | 0, _ => ⟨0, 0, i, fun _ => 0, by omega, fun p hp => by omega, ⟨Nat.le_refl _, hi⟩, fun S o m φ hm h3 hR => ⟨S, fun kk fu => rfl, by rw [mk_0]; exact hR, Fr.rf, fun p hp => by omega⟩, fun T m hm h25 hR => ⟨fun _ => ⟨T, fun kk fu => rfl, hR, FX.rf, fun p hp => by omega, fun y hy => rfl⟩, fun z => absurd rfl z⟩⟩
  | k + 1, hk => by
    obtain ⟨g, j, e, so, a, b, d, c, m⟩ := places hT hi k (by omega)
    obtain ⟨g1, j1, e1, v, a1, b1, d1, c1, m1⟩ := place_step (t := t) (L := L) (i := e) (k := k) hT d.2 (by omega)
    refine ⟨cg g g1, cj g j j1, e1, fun p => if p = k then v else so p, cg_3 a a1, fun p hp => ?_, by omega, fun S o mm φ hm h3 hR => ?_, fun T mm hm h25 hR => ⟨fun hg => ?_, fun hg => ?_⟩⟩
    · show (if p = k then v else so p) ≤ 30
      split
      · exact b1
      · exact b p (by omega)
    · obtain ⟨S1, x1, r1, f1, s1⟩ := c S o mm φ hm h3 hR
      obtain ⟨S2, x2, r2, f2, s2, s3⟩ := c1 S1 o mm (mk φ g j) hm (mk_3 h3 a) r1
      refine ⟨S2, fun kk fu => ?_, by rw [← mk_mk]; exact r2, f1.tr f2, fun p hp => ?_⟩
      · rw [show fu + (k + 1) = (fu + 1) + k by omega, x1 kk (fu + 1)]
        exact x2 kk _
      · show S2 6 (6 * o + mm) p = nI (if p = k then v else so p)
        by_cases q : p = k
        · subst q; rw [if_pos rfl]; exact s2
        · rw [if_neg q, s3 p q]; exact s1 p (by omega)
    · obtain ⟨z, z1⟩ := cg_z hg
      obtain ⟨T1, x1, r1, f1, s1, u1⟩ := (m T mm hm h25 hR).1 z
      obtain ⟨T2, x2, r2, f2, s2, s3⟩ := (m1 T1 mm hm (by rw [f1.2 25 (by unfold x3; omega)]; exact h25) r1).1 z1
      refine ⟨T2, fun kk fu => ?_, r2, f1.tr f2, fun p hp => ?_, fun y hy => by rw [s3 y (by omega)]; exact u1 y hy⟩
      · rw [show fu + (k + 1) = (fu + 1) + k by omega, x1 kk (fu + 1)]
        exact x2 kk _
      · show T2 48 0 (5 * mm + p) = nI (if p = k then v else so p)
        by_cases q : p = k
        · subst q; rw [if_pos rfl]; exact s2
        · rw [if_neg q, s3 _ (by omega)]; exact s1 p (by omega)
    · by_cases z : g = 0
      · subst z
        rw [cg_0] at hg ⊢
        rw [cj_0]
        obtain ⟨T1, x1, r1, f1, s1, u1⟩ := (m T mm hm h25 hR).1 rfl
        obtain ⟨T2, n2, f2, x2⟩ := (m1 T1 mm hm (by rw [f1.2 25 (by unfold x3; omega)]; exact h25) r1).2 hg
        have f1' : FX cR x6 T T1 := f1.mono (fun a q z => by unfold cN at z; unfold cR; omega) (fun x z => by unfold x3 at z; unfold x6; omega)
        rcases x2 with x2 | x2
        · refine ⟨T2, n2, f1'.tr f2, fun fu => ?_⟩
          rw [show fu + 1 + (k + 1) = (fu + 1 + 1) + k by omega, x1 KM (fu + 1 + 1)]
          exact x2 KM _
        · refine ⟨wr T2 35 0 25 ((T2 35 0 25) + (1 : Int32)), by rw [wr_i (by omega)]; exact n2, (f1'.tr f2).wx (Or.inl ⟨rfl, rfl⟩) (by unfold x6; omega), fun fu => ?_⟩
          rw [show fu + 1 + (k + 1) = (fu + 1 + 1) + k by omega, x1 KM (fu + 1 + 1)]
          refine (x2 KM _).trans ?_
          show bX11_takeMan_22 KM (lop (fun _ _ _ => none) (bX11_takeMan_22 KM) fu) (nI (k + 1)) (nI g1) T2 = _
          generalize lop (fun _ _ _ => none) (bX11_takeMan_22 KM) fu = ag
          unfold bX11_takeMan_22
          rw [if_neg (nI_ne0 (by omega) (by omega)), ite_self, KM_e]
      · rw [cg_n z, cj_n z]
        obtain ⟨T2, n2, f2, x2⟩ := (m T mm hm h25 hR).2 z
        refine ⟨T2, n2, f2, fun fu => ?_⟩
        rw [show fu + 1 + (k + 1) = (fu + 1) + 1 + k by omega]
        exact x2 (fu + 1)
