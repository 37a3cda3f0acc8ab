/-! the whole text, clause after clause -/
theorem ri_end {o x : Nat} {kk : St → Op} {ag : Int32 → St → Op} {S : St} {L : Nat} {t : Nat → Nat} {i g : Nat} {fa : Int32} (hR : RS S L t i (g, fa)) (hL : L ≤ 240) (h : L ≤ i ∨ g ≠ 0) (hi : i ≤ L) (hg : g ≤ 3) : bX8_readInto_25 o kk ag (nI x) S = kk S := by
  unfold bX8_readInto_25
  by_cases q : (240 : Int32) ≤ nI x
  · rw [if_pos q]
  · rw [if_neg q, hR.1, hR.2.2.1]
    by_cases q2 : L ≤ i
    · rw [if_pos (nI_le q2 (by omega))]
    · rw [if_neg (nI_ge (by omega) (by omega)), hR.2.2.2.1, if_neg (nI_ne0 (by omega) (by omega))]
theorem ri_step {o x : Nat} {kk : St → Op} {ag : Int32 → St → Op} {S S1 S2 : St} {L : Nat} {t : Nat → Nat} {i : Nat} {fa : Int32} (hR : RS S L t i (0, fa)) (hL : L ≤ 240) (hi : i < L) (hx : x ≤ i) (e1 : fX8_readClause o S = some (0, S1)) (e2 : fX8_skipBlanks S1 = some (0, S2)) : bX8_readInto_25 o kk ag (nI x) S = ag (nI (x + 1)) S2 := by
  unfold bX8_readInto_25
  rw [if_neg (show ¬ (240 : Int32) ≤ nI x from nI_ge (b := 240) (by omega) (by decide)), hR.1, hR.2.2.1, if_neg (nI_ge hi (by omega)), hR.2.2.2.1, if_pos (show nI 0 = (0 : Int32) from rfl), cal_of e1, cal_of e2, nI_1]
theorem y_end {kk : Int32 → St → Op} {ag : Int32 → St → Op} {T T1 : St} (e1 : fX11_here T = some (-1, T1)) : bX11_yard_32 kk ag 0 T = kk 0 T1 := by
  unfold bX11_yard_32
  rw [if_pos rfl, cal_of e1, if_pos (by decide)]
theorem y_stop {kk : Int32 → St → Op} {ag : Int32 → St → Op} {x : Int32} {T : St} (h : ¬ x = 0) : bX11_yard_32 kk ag x T = kk x T := by
  unfold bX11_yard_32
  rw [if_neg h]
theorem y_step {kk : Int32 → St → Op} {ag : Int32 → St → Op} {c : Nat} {r : Int32} {T T1 T2 : St} (hc : c ≤ 255) (e1 : fX11_here T = some (nI c, T1)) (e2 : fX11_takeClause T1 = some (r, T2)) : bX11_yard_32 kk ag 0 T = ag r T2 := by
  unfold bX11_yard_32
  rw [if_pos rfl, cal_of e1, if_neg (nI_pos (by omega)), cal_of e2]
/-- the fault's place as it is shown -/
def fpl (g j : Nat) : Int32 := if g = 0 then -1 else nI j
theorem mk_fpl (g j : Nat) : mk (0, -1) g j = (g, fpl g j) := by
  by_cases q : g = 0
  · subst q; rw [mk_0]; rfl
  · rw [mk_g rfl q]
    unfold fpl
    rw [if_neg q]
def RunC (t : Nat → Nat) (L : Nat) (π : Nat → Nat → Nat) (n i x g j : Nat) (π2 : Nat → Nat → Nat) : Prop := ∀ (S : St) (o : Nat), RS S L t (sk t L i) (0, -1) → CP S o π → ∃ S2, (∀ kk fu, lop (fun _ _ => none) (bX8_readInto_25 o kk) (fu + n + 2) (nI x) S = kk S2) ∧ Fr (cP o) S S2 ∧ S2 1 0 3 = nI g ∧ S2 1 0 4 = fpl g j ∧ CP S2 o π2
def RunM (t : Nat → Nat) (L : Nat) (π : Nat → Nat → Nat) (n i g j : Nat) (π2 : Nat → Nat → Nat) : Prop := ∀ T : St, RM T L t i → MR T π → (g = 0 → ∃ T2, (∀ kk fu, lop (fun _ _ => none) (bX11_yard_32 kk) (fu + n + 2) 0 T = kk 0 T2) ∧ MR T2 π2 ∧ FX cR x5 T T2) ∧ (g ≠ 0 → ∃ T2, (∀ kk fu, lop (fun _ _ => none) (bX11_yard_32 kk) (fu + n + 2) 0 T = kk (nI g) T2) ∧ T2 35 0 19 = nI j ∧ FX cR x6 T T2)
theorem run_end {t : Nat → Nat} {L n i x : Nat} {π : Nat → Nat → Nat} (hT : TXB t L) (hi : i ≤ L) (h : ¬ sk t L i < L) : RunC t L π n i x 0 0 π ∧ RunM t L π n i 0 0 π := by
  have hb := (sk_b (t := t) hi).1
  refine ⟨fun S o hR hC => ⟨S, fun kk fu => ?_, Fr.rf, hR.2.2.2.1, hR.2.2.2.2, hC⟩, fun T hR hP => ⟨fun _ => ?_, fun z => absurd rfl z⟩⟩
  · rw [lop_su, ri_end hR hT.1 (Or.inl (by omega)) hb.2 (by omega)]
  · obtain ⟨T1, e1, r1, f1⟩ := m_here hT hR hi
    rw [if_neg h] at e1
    have f2 : FX c35 x3 T T1 := f1.mono (fun a o h => h) (fun x h => by unfold x3; omega)
    exact ⟨T1, fun kk fu => by rw [lop_su, y_end e1], hP.fr f2, f2.r3⟩
theorem run {t : Nat → Nat} {L : Nat} (hT : TXB t L) : ∀ n i x π, L - i ≤ n → i ≤ L → x ≤ i → VP π → ∃ g j π2, g ≤ 3 ∧ VP π2 ∧ RunC t L π n i x g j π2 ∧ RunM t L π n i g j π2
  | 0, i, x, π, h, hi, hx, hV => by
    have hb := (sk_b (t := t) hi).1
    obtain ⟨a, b⟩ := run_end (n := 0) (x := x) (π := π) hT hi (show ¬ sk t L i < L by omega)
    exact ⟨0, 0, π, by omega, hV, a, b⟩
  | n + 1, i, x, π, h, hi, hx, hV => by
    obtain ⟨hb, hn, -⟩ := sk_b (t := t) hi
    by_cases hend : sk t L i < L
    · have hss : sk t L (sk t L i) = sk t L i := sk_sk hi
      have ht := hn hend
      have h255 := hT.2 _ hend
      obtain ⟨g1, j1, e1, π1, a1, d1, l1, v1, c1, m1⟩ := clause (π := π) hT hend ht hV
      have mh : ∀ T, RM T L t i → MR T π → ∃ T1, fX11_here T = some (nI (t (sk t L i)), T1) ∧ RM T1 L t (sk t L i) ∧ MR T1 π ∧ FX cR x5 T T1 := fun T hR hP => by
        obtain ⟨T1, e1, r1, f1⟩ := m_here hT hR hi
        rw [if_pos hend] at e1
        have f2 : FX c35 x3 T T1 := f1.mono (fun a o h => h) (fun x h => by unfold x3; omega)
        exact ⟨T1, e1, r1, hP.fr f2, f2.r3⟩
      by_cases z : g1 = 0
      · subst z
        obtain ⟨g, j, π2, a2, v2, c2, m2⟩ := run hT n e1 (x + 1) π1 (by have := l1 rfl; omega) d1.2 (by have := l1 rfl; omega) v1
        refine ⟨g, j, π2, a2, v2, fun S o hR hC => ?_, fun T hR hP => ?_⟩
        · obtain ⟨S1, x1, r1, f1, p1⟩ := c1 S o (0, -1) (by decide) hR hC
          rw [mk_0] at r1
          obtain ⟨S2, x2, r2, f2⟩ := c_skip hT r1 d1.2
          obtain ⟨S3, y3, f3, u1, u2, u3⟩ := c2 S2 o r2 (p1.frd f2)
          refine ⟨S3, fun kk fu => ?_, (f1.tr (c10_P o f2)).tr f3, u1, u2, u3⟩
          rw [show fu + (n + 1) + 2 = (fu + n + 2) + 1 by omega, lop_su, ri_step hR hT.1 hend (by omega) x1 x2]
          exact y3 kk fu
        · obtain ⟨T1, y1, r1, p1, f1⟩ := mh T hR hP
          obtain ⟨T2, y2, r2, p2, f2⟩ := (m1 T1 r1 p1).1 rfl
          obtain ⟨w1, w2⟩ := m2 T2 r2 p2
          refine ⟨fun hg => ?_, fun hg => ?_⟩
          · obtain ⟨T3, y3, p3, f3⟩ := w1 hg
            refine ⟨T3, fun kk fu => ?_, p3, (f1.tr f2).tr f3⟩
            rw [show fu + (n + 1) + 2 = (fu + n + 2) + 1 by omega, lop_su, y_step h255 y1 y2]
            exact y3 kk fu
          · obtain ⟨T3, y3, p3, f3⟩ := w2 hg
            refine ⟨T3, fun kk fu => ?_, p3, (f1.tr f2).r5.tr f3⟩
            rw [show fu + (n + 1) + 2 = (fu + n + 2) + 1 by omega, lop_su, y_step h255 y1 y2]
            exact y3 kk fu
      · refine ⟨g1, j1, π1, a1, v1, fun S o hR hC => ?_, fun T hR hP => ⟨fun hg => absurd hg z, fun _ => ?_⟩⟩
        · obtain ⟨S1, x1, r1, f1, p1⟩ := c1 S o (0, -1) (by decide) hR hC
          rw [mk_fpl] at r1
          obtain ⟨S2, x2, r2, f2⟩ := c_skip hT r1 d1.2
          refine ⟨S2, fun kk fu => ?_, f1.tr (c10_P o f2), r2.2.2.2.1, r2.2.2.2.2, p1.frd f2⟩
          rw [show fu + (n + 1) + 2 = (fu + n + 1 + 1) + 1 by omega, lop_su, ri_step hR hT.1 hend (by omega) x1 x2, lop_su, ri_end r2 hT.1 (Or.inr z) (sk_b (t := t) d1.2).1.2 a1]
        · obtain ⟨T1, y1, r1, p1, f1⟩ := mh T hR hP
          obtain ⟨T2, y2, n2, f2⟩ := (m1 T1 r1 p1).2 z
          refine ⟨T2, fun kk fu => ?_, n2, f1.r5.tr f2⟩
          rw [show fu + (n + 1) + 2 = (fu + n + 1 + 1) + 1 by omega, lop_su, y_step h255 y1 y2, lop_su, y_stop (nI_ne0 (by omega) (by omega))]
    · obtain ⟨a, b⟩ := run_end (n := n + 1) (x := x) (π := π) hT hi hend
      exact ⟨0, 0, π, by omega, hV, a, b⟩
