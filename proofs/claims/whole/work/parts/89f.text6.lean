theorem lop_su {α : Type} (z : α) (b : α → α) (n : Nat) : lop z b (n + 1) = b (lop z b n) := rfl
theorem rm_end {o : Nat} {m : Int32} {kk : St → Op} {ag : Int32 → St → Op} {S : St} : bX8_readMan_19 o m kk ag (nI 5) S = kk S := by
  unfold bX8_readMan_19
  rw [if_pos (show (5 : Int32) ≤ nI 5 by decide)]
theorem tm_end {kk : Int32 → St → Op} {ag : Int32 → Int32 → St → Op} {x : Int32} {S : St} : bX11_takeMan_22 kk ag (nI 5) x S = kk x S := by
  unfold bX11_takeMan_22
  rw [if_pos (show (5 : Int32) ≤ nI 5 by decide)]
theorem tm_stop {kk : Int32 → St → Op} {ag : Int32 → Int32 → St → Op} {x : Int32} {S : St} (h : ¬ x = 0) : bX11_takeMan_22 kk ag 0 x S = kk x S := by
  unfold bX11_takeMan_22
  rw [if_neg (show ¬ (5 : Int32) ≤ 0 by decide), if_neg h]
/-- the plan with one man more -/
def pman (π : Nat → Nat → Nat) (M v : Nat) (so : Nat → Nat) : Nat → Nat → Nat := fun b j => if b = 0 ∧ j = 2 then M + 1 else if b = 1 ∧ j = M then v else if b = 4 + M then so j else π b j
theorem pman_2 (π : Nat → Nat → Nat) (M v : Nat) (so : Nat → Nat) : pman π M v so 0 2 = M + 1 := if_pos ⟨rfl, rfl⟩
theorem pman_1 (π : Nat → Nat → Nat) (M v : Nat) (so : Nat → Nat) : pman π M v so 1 M = v := by
  unfold pman
  rw [if_neg (by omega), if_pos ⟨rfl, rfl⟩]
theorem pman_4 (π : Nat → Nat → Nat) (M v p : Nat) (so : Nat → Nat) : pman π M v so (4 + M) p = so p := by
  unfold pman
  rw [if_neg (by omega), if_neg (by omega), if_pos rfl]
theorem pman_n {π : Nat → Nat → Nat} {M v : Nat} {so : Nat → Nat} {b j : Nat} (h : ¬ (b = 0 ∧ j = 2) ∧ ¬ (b = 1 ∧ j = M) ∧ b ≠ 4 + M) : pman π M v so b j = π b j := by
  unfold pman
  rw [if_neg h.1, if_neg h.2.1, if_neg h.2.2]
theorem pman_V {π : Nat → Nat → Nat} {M v : Nat} {so : Nat → Nat} (hV : VP π) (hM : π 0 2 = M) (h6 : M < 6) (hP0 : π 0 0 ≠ 0) (hv : v ≤ 3) (hs : ∀ p, p < 5 → so p ≤ 30) : VP (pman π M v so) := by
  obtain ⟨w0, w1, w2, w3, w4, w5⟩ := hV
  refine ⟨by rw [pman_n (by omega)]; exact w0, by rw [pman_n (by omega)]; exact w1, by rw [pman_2]; omega, fun m hm => ?_, ⟨by rw [pman_n (by omega)]; exact w4.1, fun s hs => ?_⟩, fun z => ?_⟩
  · rw [pman_2] at hm
    by_cases q : m = M
    · subst q
      rw [pman_1]
      exact ⟨hv, fun p hp => by rw [pman_4]; exact hs p hp⟩
    · rw [pman_n (by omega)]
      exact ⟨(w3 m (by omega)).1, fun p hp => by rw [pman_n (by omega)]; exact (w3 m (by omega)).2 p hp⟩
  · rw [pman_n (by omega)] at hs
    rw [pman_n (by omega), pman_n (by omega)]
    exact w4.2 s hs
  · rw [pman_n (by omega)] at z
    exact absurd z hP0
theorem CP.wman {S S3 : St} {o v M : Nat} {so : Nat → Nat} {π : Nat → Nat → Nat} (h : CP S o π) (hM : π 0 2 = M) (e3 : ∀ x, x ≠ 2 → S3 3 o x = S 3 o x) (e32 : S3 3 o 2 = nI (M + 1)) (e4 : ∀ x, x ≠ M → S3 4 o x = S 4 o x) (e4M : S3 4 o M = nI v) (e6 : ∀ q, q ≠ 6 * o + M → S3 6 q = S 6 q) (e6M : ∀ p, p < 5 → S3 6 (6 * o + M) p = nI (so p)) (e7 : S3 7 o = S 7 o) (e8 : S3 8 o = S 8 o) : CP S3 o (pman π M v so) := by
  refine ⟨fun i hi => ?_, fun m hm => ?_, fun s hs => ?_⟩
  · by_cases e : i = 2
    · subst e; rw [e32, pman_2]
    · rw [e3 i e, pman_n (by omega)]; exact h.1 i hi
  · rw [pman_2] at hm
    by_cases q : m = M
    · subst q
      rw [e4M, pman_1]
      exact ⟨rfl, fun p hp => by rw [e6M p hp, pman_4]⟩
    · rw [e4 m q, pman_n (by omega)]
      exact ⟨(h.2.1 m (by omega)).1, fun p hp => by rw [e6 _ (by omega), pman_n (by omega)]; exact (h.2.1 m (by omega)).2 p hp⟩
  · rw [pman_n (by omega)] at hs
    rw [e7, e8, pman_n (by omega), pman_n (by omega)]
    exact h.2.2 s hs
theorem MR.wman {T T3 : St} {v M : Nat} {so : Nat → Nat} {π : Nat → Nat → Nat} (h : MR T π) (hM : π 0 2 = M) (e23 : T3 35 0 23 = T 35 0 23) (e24 : T3 35 0 24 = T 35 0 24) (e25 : T3 35 0 25 = nI (M + 1)) (e28 : T3 35 0 28 = T 35 0 28) (e47 : ∀ x, x ≠ M → T3 47 0 x = T 47 0 x) (e47M : T3 47 0 M = nI v) (e48 : ∀ x, x < 5 * M → T3 48 0 x = T 48 0 x) (e48M : ∀ p, p < 5 → T3 48 0 (5 * M + p) = nI (so p)) (e49 : T3 49 0 = T 49 0) (e50 : T3 50 0 = T 50 0) : MR T3 (pman π M v so) := by
  obtain ⟨w0, w1, w2, w3, w4, w5⟩ := h
  refine ⟨by rw [e23, pman_n (by omega)]; exact w0, by rw [e24, pman_n (by omega)]; exact w1, by rw [e25, pman_2], by rw [e28, pman_n (by omega)]; exact w3, fun m hm => ?_, fun s hs => ?_⟩
  · rw [pman_2] at hm
    by_cases q : m = M
    · subst q
      rw [e47M, pman_1]
      exact ⟨rfl, fun p hp => by rw [e48M p hp, pman_4]⟩
    · rw [e47 m q, pman_n (by omega)]
      exact ⟨(w4 m (by omega)).1, fun p hp => by rw [e48 _ (by omega), pman_n (by omega)]; exact (w4 m (by omega)).2 p hp⟩
  · rw [pman_n (by omega)] at hs
    rw [e49, e50, pman_n (by omega), pman_n (by omega)]
    exact w5 s hs
theorem body_man {t : Nat → Nat} {L i : Nat} {π : Nat → Nat → Nat} (hT : TXB t L) (hi : i ≤ L) (hV : VP π) (h6 : π 0 2 < 6) (hP0 : π 0 0 ≠ 0) : ∃ g j e π2, g ≤ 3 ∧ (i ≤ e ∧ e ≤ L) ∧ VP π2 ∧ BD fX8_readMan fX11_takeMan t L π i g j e π2 := by
  obtain ⟨g1, j1, e1, v1, a1, b1, d1, c1, m1⟩ := num (t := t) (L := L) (i := i) 0 3 hT hi (by decide) (by decide)
  obtain ⟨g2, j2, e2, so, a2, b2, d2, c2, m2⟩ := places (t := t) (L := L) (i := e1) hT d1.2 5 (Nat.le_refl _)
  generalize hM : π 0 2 = M at *
  refine ⟨cg g1 g2, cj g1 j1 j2, e2, pman π M v1 so, cg_3 a1 a2, by omega, pman_V hV hM h6 hP0 b1.2 b2, fun S o φ h3 hR hC => ?_, fun T hR hP => ⟨fun hg => ?_, fun hg => ?_⟩⟩
  · obtain ⟨S1, x1, r1, f1⟩ := c1 S φ h3 hR
    have x1 : fX8_readNumber (0 : Int32) (3 : Int32) S = some (nI v1, S1) := x1
    obtain ⟨S2, x2, r2, f2, s2⟩ := c2 (wr S1 4 o M (nI v1)) o M (mk φ g1 j1) h6 (mk_3 h3 a1) (r1.wo (by omega))
    have h32 : S 3 o 2 = nI M := by rw [← hM]; exact hC.1 2 (by decide)
    refine ⟨wr S2 3 o 2 (nI (M + 1)), ?_, ?_, ?_, ?_⟩
    · unfold fX8_readMan
      rw [bi_e, h32, cal_of x1, ck_nI h6 (by omega), bs_e, nI_clamp (by omega), jn_e, show FU = 1994 + 1 + 5 from rfl, x2 _ (1994 + 1), lop_su, rm_end]
      try dsimp only
      rw [bs_e, nI_1]
    · rw [← mk_mk]; exact r2.wo (by omega)
    · exact (((c10_P o f1).wr (by unfold cP; omega)).tr (f2.mono (fun a q z => by unfold cM at z; unfold cP; omega))).wr (by unfold cP; omega)
    · refine hC.wman hM (fun x hx => ?_) (wr_same _ _ _ _ _) (fun x hx => ?_) ?_ (fun q hq => ?_) (fun p hp => ?_) ?_ ?_
      · rw [wr_i (by omega), f2 3 o (by unfold cM; omega), wr_other (by omega), f1 3 o (by unfold c10; omega)]
      · rw [wr_i (by omega), f2 4 o (by unfold cM; omega), wr_i (by omega), f1 4 o (by unfold c10; omega)]
      · rw [wr_i (by omega), f2 4 o (by unfold cM; omega), wr_same]
      · rw [wr_other (by omega), f2 6 q (by unfold cM; omega), wr_other (by omega), f1 6 q (by unfold c10; omega)]
      · rw [wr_i (by omega)]; exact s2 p hp
      · rw [wr_other (by omega), f2 7 o (by unfold cM; omega), wr_other (by omega), f1 7 o (by unfold c10; omega)]
      · rw [wr_other (by omega), f2 8 o (by unfold cM; omega), wr_other (by omega), f1 8 o (by unfold c10; omega)]
  · obtain ⟨z1, z2⟩ := cg_z hg
    obtain ⟨T1, y1, r1, n1, f1⟩ := (m1 T hR).1 z1
    have y1 : fX11_takeNumber (0 : Int32) (3 : Int32) T = some (0, T1) := y1
    have k1 : T1 35 0 25 = nI M := by rw [f1.2 25 (by unfold x3; omega), hP.2.2.1, hM]
    obtain ⟨T2, x2, r2, f2, s2, u2⟩ := (m2 (wr T1 47 0 M (nI v1)) M h6 (by rw [wr_i (by omega)]; exact k1) (r1.wo (by omega))).1 z2
    have k2 : T2 35 0 25 = nI M := by rw [f2.2 25 (by unfold x3; omega), wr_i (by omega)]; exact k1
    have f3 : FX cR x5 (wr T1 47 0 M (nI v1)) T2 := f2.mono (fun a q z => by unfold cN at z; unfold cR; omega) (fun x z => by unfold x3 at z; unfold x5; omega)
    refine ⟨wr T2 35 0 25 (nI (M + 1)), ?_, r2.wx (by omega), ?_, ((f1.r3.wo (by unfold cR; omega) (by omega)).tr f3).wx (Or.inl ⟨rfl, rfl⟩) (by unfold x5; omega)⟩
    · unfold fX11_takeMan
      rw [cal_of y1, k1, ck_nI h6 (by omega), bs_e, nI_clamp (by omega), n1, jn_e, show FU = 1994 + 1 + 5 from rfl, x2 _ (1994 + 1), lop_su, tm_end]
      try dsimp only
      rw [bs_e, k2, nI_1]
    · refine hP.wman hM ?_ ?_ (wr_same _ _ _ _ _) ?_ (fun x hx => ?_) ?_ (fun x hx => ?_) (fun p hp => ?_) ?_ ?_
      · rw [wr_i (by omega), f2.2 23 (by unfold x3; omega), wr_i (by omega), f1.2 23 (by unfold x3; omega)]
      · rw [wr_i (by omega), f2.2 24 (by unfold x3; omega), wr_i (by omega), f1.2 24 (by unfold x3; omega)]
      · rw [wr_i (by omega), f2.2 28 (by unfold x3; omega), wr_i (by omega), f1.2 28 (by unfold x3; omega)]
      · rw [wr_i (by omega), f2.1 47 0 (by unfold cN; omega), wr_i (by omega), f1.1 47 0 (by unfold c35; omega)]
      · rw [wr_i (by omega), f2.1 47 0 (by unfold cN; omega), wr_same]
      · rw [wr_i (by omega), u2 x hx, wr_i (by omega), f1.1 48 0 (by unfold c35; omega)]
      · rw [wr_i (by omega)]; exact s2 p hp
      · rw [wr_other (by omega), f2.1 49 0 (by unfold cN; omega), wr_other (by omega), f1.1 49 0 (by unfold c35; omega)]
      · rw [wr_other (by omega), f2.1 50 0 (by unfold cN; omega), wr_other (by omega), f1.1 50 0 (by unfold c35; omega)]
  · by_cases z1 : g1 = 0
    · subst z1
      rw [cg_0] at hg ⊢
      rw [cj_0]
      obtain ⟨T1, y1, r1, n1, f1⟩ := (m1 T hR).1 rfl
      have y1 : fX11_takeNumber (0 : Int32) (3 : Int32) T = some (0, T1) := y1
      have k1 : T1 35 0 25 = nI M := by rw [f1.2 25 (by unfold x3; omega), hP.2.2.1, hM]
      obtain ⟨T2, n2, f2, x2⟩ := (m2 (wr T1 47 0 M (nI v1)) M h6 (by rw [wr_i (by omega)]; exact k1) (r1.wo (by omega))).2 hg
      refine ⟨T2, ?_, n2, (f1.r3.r5.wo (by unfold cR; omega) (by omega)).tr f2⟩
      unfold fX11_takeMan
      rw [cal_of y1, k1, ck_nI h6 (by omega), bs_e, nI_clamp (by omega), n1, jn_e]
      exact x2 1994
    · rw [cg_n z1, cj_n z1]
      obtain ⟨T1, y1, n1, f1⟩ := (m1 T hR).2 z1
      have y1 : fX11_takeNumber (0 : Int32) (3 : Int32) T = some (nI g1, T1) := y1
      have k1 : T1 35 0 25 = nI M := by rw [f1.2 25 (by unfold x4; omega), hP.2.2.1, hM]
      refine ⟨wr (wr T1 47 0 M (T1 35 0 21)) 35 0 25 ((wr T1 47 0 M (T1 35 0 21)) 35 0 25 + (1 : Int32)), ?_, by rw [wr_i (by omega), wr_i (by omega)]; exact n1, (f1.r4.wo (by unfold cR; omega) (by omega)).wx (Or.inl ⟨rfl, rfl⟩) (by unfold x6; omega)⟩
      unfold fX11_takeMan
      rw [cal_of y1, k1, ck_nI h6 (by omega), bs_e, nI_clamp (by omega), jn_e, show FU = 1999 + 1 from rfl, lop_su, tm_stop (nI_ne0 (by omega) (by omega))]
      try dsimp only
      rw [bs_e]
