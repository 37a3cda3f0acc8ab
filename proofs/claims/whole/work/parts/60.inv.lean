/-- how many are inside -/
def cin (ν : Nat → Nat → Nat) : Nat → Nat
  | 0 => 0
  | n + 1 => cin ν n + ν (n + 1) 0
/-! σ: q (0 letters fed, 1 root, 2 heard, 3 written, 4 undos, 5 the ring's next, 6 images, 7 the plan), π the plan, ν the state, us the past, im the images, d (0 letters, 1 2 3 heard, 4 5 written, 6 the images' roots), fa the fault's place -/
def IC (S : St) (q : Nat → Nat) (π ν : Nat → Nat → Nat) (us im : Nat → Nat → Nat → Nat) (d : Nat → Nat → Nat) (fa : Int32) : Prop :=
  (q 7 < 2 ∧ S 0 0 1 = uid (q 7) ∧ S 0 0 2 = uid (1 - q 7) ∧ S 33 0 0 = 0 ∧ S 34 0 0 = 0) ∧ CP S (q 7) π ∧ CN S (q 7) (π 0 2) (π 1) ν ∧
  (S 1 0 1 = nI (q 0) ∧ (∀ i, i < q 0 → S 2 0 i = nI (d 0 i)) ∧ S 1 0 4 = fa) ∧ S 19 0 0 = nI (q 1) ∧
  (S 20 0 3 = nI (q 2) ∧ ∀ i, i < q 2 → S 21 0 i = nI (d 1 i) ∧ S 22 0 i = nI (d 2 i) ∧ S 23 0 i = nI (d 3 i)) ∧
  (S 27 0 2 = nI (q 3) ∧ ∀ i, i < q 3 → S 28 0 i = nI (d 4 i) ∧ S 29 0 i = nI (d 5 i)) ∧
  US S (π 0 2) (q 4) (q 5) us ∧ S 14 0 5 = nI (q 6) ∧ ∀ i, i < 2 → (q 6).testBit i = true → RW (S 17 (16 + i)) (π 0 2) (im i) ∧ S 18 0 i = nI (d 6 i)
def IM (S : St) (q : Nat → Nat) (π ν : Nat → Nat → Nat) (us im : Nat → Nat → Nat → Nat) (d : Nat → Nat → Nat) (fa : Int32) : Prop :=
  MP S π ∧ MN (S 40 0) (π 0 2) ν ∧ (S 35 0 18 = nI (q 0) ∧ (∀ i, i < q 0 → S 46 0 i = nI (d 0 i)) ∧ S 35 0 19 = fa) ∧ S 35 0 9 = nI (q 1) ∧
  (S 35 0 10 = nI (q 2) ∧ ∀ i, i < q 2 → S 41 0 i = nI (d 1 i) ∧ S 42 0 i = nI (d 2 i) ∧ S 43 0 i = nI (d 3 i)) ∧
  (S 35 0 14 = nI (q 3) ∧ ∀ i, i < q 3 → S 44 0 i = nI (d 4 i) ∧ S 45 0 i = nI (d 5 i)) ∧
  MU S (π 0 2) (q 4) us ∧ ∀ i, i < 2 → S 60 0 i = (if (q 6).testBit i = true then 1 else 0) ∧ ((q 6).testBit i = true → MN (fun j => S 59 0 (71 * i + j)) (π 0 2) (im i) ∧ S 59 0 (71 * i + 70) = nI (d 6 i))
def VQ (π ν : Nat → Nat → Nat) : Prop := VN (π 0 2) ν ∧ cin ν (π 0 2) ≤ π 0 0
def IV (q : Nat → Nat) (π ν : Nat → Nat → Nat) (us im : Nat → Nat → Nat → Nat) (d : Nat → Nat → Nat) : Prop :=
  VP π ∧ VQ π ν ∧ (q 0 ≤ 240 ∧ ∀ i, i < q 0 → d 0 i ≤ 255) ∧ q 1 < 2 ^ 31 ∧ (q 2 ≤ 6 ∧ ∀ i, i < q 2 → d 1 i < π 0 2 ∧ d 2 i < π 0 3 ∧ d 3 i ≤ 99) ∧
  (q 3 ≤ 15 ∧ ∀ i, i < q 3 → d 4 i < π 0 2 ∧ d 5 i ≤ 99999) ∧ (∀ i, i < q 4 → VQ π (us i)) ∧ q 6 < 4 ∧ ∀ i, i < 2 → (q 6).testBit i = true → VQ π (im i) ∧ d 6 i < 2 ^ 31
def Inv (S : St) : Prop := ∃ q π ν us im d fa, IC S q π ν us im d fa ∧ IM S q π ν us im d fa ∧ IV q π ν us im d
/-- the class's cells that no answer shows -/
def scC (a o : Nat) : Prop := 35 ≤ a ∨ a = 30 ∨ ((a = 11 ∨ a = 12 ∨ a = 13) ∧ o = 6) ∨ a = 32 ∨ a = 24 ∨ a = 25 ∨ a = 26
def scM (a _o : Nat) : Prop := a < 35 ∨ a = 51 ∨ a = 52 ∨ a = 53 ∨ a = 55 ∨ a = 56 ∨ a = 57 ∨ a = 58
theorem CP.fr {S S1 : St} {k : Nat} {π : Nat → Nat → Nat} (h : CP S k π) (e3 : S1 3 k = S 3 k) (e4 : S1 4 k = S 4 k) (e6 : ∀ o, S1 6 o = S 6 o) (e7 : S1 7 k = S 7 k) (e8 : S1 8 k = S 8 k) : CP S1 k π := by
  unfold CP
  rw [e3, e4, e7, e8]
  refine ⟨h.1, fun m hm => ⟨(h.2.1 m hm).1, fun p hp => ?_⟩, h.2.2⟩
  rw [e6]
  exact (h.2.1 m hm).2 p hp
theorem CN.fr {S S1 : St} {k M : Nat} {kd : Nat → Nat} {ν : Nat → Nat → Nat} (h : CN S k M kd ν) (hM : M ≤ 6) (e9 : S1 9 0 = S 9 0) (e : ∀ a o, (a = 11 ∨ a = 12 ∨ a = 13) → o < 6 → S1 a o = S a o) : CN S1 k M kd ν := by
  refine ⟨by rw [e9]; exact h.1, fun i hi => by rw [e9]; exact h.2.1 i hi, fun m hm => ?_⟩
  rw [e 11 m (by omega) (by omega), e 12 m (by omega) (by omega), e 13 m (by omega) (by omega)]
  exact h.2.2 m hm
theorem US.fr {S S1 : St} {M u nx : Nat} {us : Nat → Nat → Nat → Nat} (h : US S M u nx us) (e14 : S1 14 0 = S 14 0) (e17 : ∀ o, o < 16 → S1 17 o = S 17 o) : US S1 M u nx us := by
  refine ⟨by rw [e14]; exact h.1, h.2.1, by rw [e14]; exact h.2.2.1, h.2.2.2.1, fun i hi => ?_⟩
  rw [e17 _ (Nat.mod_lt _ (by decide))]
  exact h.2.2.2.2 i hi
theorem IC.fr {S S1 : St} {q : Nat → Nat} {π ν : Nat → Nat → Nat} {us im : Nat → Nat → Nat → Nat} {d : Nat → Nat → Nat} {fa : Int32} (h : IC S q π ν us im d fa) (hM : π 0 2 ≤ 6) (f : Fr scC S S1) : IC S1 q π ν us im d fa := by
  have g : ∀ a o, a < 35 → a ≠ 30 → a ≠ 32 → a ≠ 33 → a ≠ 34 → a ≠ 24 → a ≠ 25 → a ≠ 26 → ((a = 11 ∨ a = 12 ∨ a = 13) → o < 6) → S1 a o = S a o := fun a o h1 h2 h3 h4 h5 h6 h7 h8 h9 => f a o (by unfold scC; omega)
  obtain ⟨h0, h1, h2, h3, h4, h5, h6, h7, h8, h9⟩ := h
  refine ⟨?_, ?_, ?_, ?_, ?_, ?_, ?_, ?_, ?_, ?_⟩
  · rw [g 0 0 (by omega) (by omega) (by omega) (by omega) (by omega) (by omega) (by omega) (by omega) (by omega), f 33 0 (by unfold scC; omega), f 34 0 (by unfold scC; omega)]; exact h0
  · exact h1.fr (g 3 _ (by omega) (by omega) (by omega) (by omega) (by omega) (by omega) (by omega) (by omega) (by omega)) (g 4 _ (by omega) (by omega) (by omega) (by omega) (by omega) (by omega) (by omega) (by omega) (by omega)) (fun o => g 6 o (by omega) (by omega) (by omega) (by omega) (by omega) (by omega) (by omega) (by omega) (by omega)) (g 7 _ (by omega) (by omega) (by omega) (by omega) (by omega) (by omega) (by omega) (by omega) (by omega)) (g 8 _ (by omega) (by omega) (by omega) (by omega) (by omega) (by omega) (by omega) (by omega) (by omega))
  · exact h2.fr hM (g 9 0 (by omega) (by omega) (by omega) (by omega) (by omega) (by omega) (by omega) (by omega) (by omega)) (fun a o ha ho => g a o (by omega) (by omega) (by omega) (by omega) (by omega) (by omega) (by omega) (by omega) (fun _ => ho))
  · rw [g 1 0 (by omega) (by omega) (by omega) (by omega) (by omega) (by omega) (by omega) (by omega) (by omega), g 2 0 (by omega) (by omega) (by omega) (by omega) (by omega) (by omega) (by omega) (by omega) (by omega)]; exact h3
  · rw [g 19 0 (by omega) (by omega) (by omega) (by omega) (by omega) (by omega) (by omega) (by omega) (by omega)]; exact h4
  · rw [g 20 0 (by omega) (by omega) (by omega) (by omega) (by omega) (by omega) (by omega) (by omega) (by omega), g 21 0 (by omega) (by omega) (by omega) (by omega) (by omega) (by omega) (by omega) (by omega) (by omega), g 22 0 (by omega) (by omega) (by omega) (by omega) (by omega) (by omega) (by omega) (by omega) (by omega), g 23 0 (by omega) (by omega) (by omega) (by omega) (by omega) (by omega) (by omega) (by omega) (by omega)]; exact h5
  · rw [g 27 0 (by omega) (by omega) (by omega) (by omega) (by omega) (by omega) (by omega) (by omega) (by omega), g 28 0 (by omega) (by omega) (by omega) (by omega) (by omega) (by omega) (by omega) (by omega) (by omega), g 29 0 (by omega) (by omega) (by omega) (by omega) (by omega) (by omega) (by omega) (by omega) (by omega)]; exact h6
  · exact h7.fr (g 14 0 (by omega) (by omega) (by omega) (by omega) (by omega) (by omega) (by omega) (by omega) (by omega)) (fun o _ => g 17 o (by omega) (by omega) (by omega) (by omega) (by omega) (by omega) (by omega) (by omega) (by omega))
  · rw [g 14 0 (by omega) (by omega) (by omega) (by omega) (by omega) (by omega) (by omega) (by omega) (by omega)]; exact h8
  · intro i hi hb
    rw [g 17 _ (by omega) (by omega) (by omega) (by omega) (by omega) (by omega) (by omega) (by omega) (by omega), g 18 0 (by omega) (by omega) (by omega) (by omega) (by omega) (by omega) (by omega) (by omega) (by omega)]; exact h9 i hi hb
theorem IM.fr {S S1 : St} {q : Nat → Nat} {π ν : Nat → Nat → Nat} {us im : Nat → Nat → Nat → Nat} {d : Nat → Nat → Nat} {fa : Int32} (h : IM S q π ν us im d fa) (f : Fr scM S S1) : IM S1 q π ν us im d fa := by
  have g : ∀ a o, 35 ≤ a → a ≠ 51 → a ≠ 52 → a ≠ 53 → a ≠ 55 → a ≠ 56 → a ≠ 57 → a ≠ 58 → S1 a o = S a o := fun a o h1 h2 h3 h4 h5 h6 h7 h8 => f a o (by unfold scM; omega)
  have e35 := g 35 0 (by omega) (by omega) (by omega) (by omega) (by omega) (by omega) (by omega) (by omega)
  have e36 := g 36 0 (by omega) (by omega) (by omega) (by omega) (by omega) (by omega) (by omega) (by omega)
  have e37 := g 37 0 (by omega) (by omega) (by omega) (by omega) (by omega) (by omega) (by omega) (by omega)
  have e38 := g 38 0 (by omega) (by omega) (by omega) (by omega) (by omega) (by omega) (by omega) (by omega)
  have e39 := g 39 0 (by omega) (by omega) (by omega) (by omega) (by omega) (by omega) (by omega) (by omega)
  have e40 := g 40 0 (by omega) (by omega) (by omega) (by omega) (by omega) (by omega) (by omega) (by omega)
  have e41 := g 41 0 (by omega) (by omega) (by omega) (by omega) (by omega) (by omega) (by omega) (by omega)
  have e42 := g 42 0 (by omega) (by omega) (by omega) (by omega) (by omega) (by omega) (by omega) (by omega)
  have e43 := g 43 0 (by omega) (by omega) (by omega) (by omega) (by omega) (by omega) (by omega) (by omega)
  have e44 := g 44 0 (by omega) (by omega) (by omega) (by omega) (by omega) (by omega) (by omega) (by omega)
  have e45 := g 45 0 (by omega) (by omega) (by omega) (by omega) (by omega) (by omega) (by omega) (by omega)
  have e46 := g 46 0 (by omega) (by omega) (by omega) (by omega) (by omega) (by omega) (by omega) (by omega)
  have e54 := g 54 0 (by omega) (by omega) (by omega) (by omega) (by omega) (by omega) (by omega) (by omega)
  have e59 := g 59 0 (by omega) (by omega) (by omega) (by omega) (by omega) (by omega) (by omega) (by omega)
  have e60 := g 60 0 (by omega) (by omega) (by omega) (by omega) (by omega) (by omega) (by omega) (by omega)
  unfold IM MP MU at *
  rw [e35, e36, e37, e38, e39, e40, e41, e42, e43, e44, e45, e46, e54, e59, e60]
  exact h
/-- an operation that both sides do alike, and that keeps the bond -/
def Same (f g : St → Op) : Prop := ∀ S, Inv S → ∃ r S1 S2, f S = some (r, S1) ∧ g S1 = some (r, S2) ∧ Inv S2
/-- for an operation that changes nothing that shows -/
theorem same_of {f g : St → Op} (h : ∀ S q π ν us im d fa, IC S q π ν us im d fa → IM S q π ν us im d fa → IV q π ν us im d → ∃ r S1, f S = some (r, S1) ∧ Fr scC S S1 ∧ (∀ a, 35 ≤ a → S1 a = S a) ∧ ∀ S0, IM S0 q π ν us im d fa → ∃ S2, g S0 = some (r, S2) ∧ Fr scM S0 S2 ∧ ∀ a, a < 35 → S2 a = S0 a) : Same f g := by
  rintro S ⟨q, π, ν, us, im, d, fa, hC, hM, hV⟩
  obtain ⟨r, S1, e1, f1, g1, h2⟩ := h S q π ν us im d fa hC hM hV
  have hM1 : IM S1 q π ν us im d fa := hM.fr (fun a o h => by rw [g1 a (by unfold scM at h; omega)])
  obtain ⟨S2, e2, f2, g2⟩ := h2 S1 hM1
  refine ⟨r, S1, S2, e1, e2, q, π, ν, us, im, d, fa, ?_, hM1.fr f2, hV⟩
  refine (hC.fr hV.1.2.2.1 f1).fr hV.1.2.2.1 (fun a o h => ?_)
  rw [g2 a (by unfold scC at h; omega)]
