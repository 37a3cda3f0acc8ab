abbrev St : Type := Nat → Nat → Nat → Int32
abbrev Op : Type := Option (Int32 × St)
def wr (S : St) (a o i : Nat) (v : Int32) : St := fun a2 o2 => if a2 = a ∧ o2 = o then upd (S a o) i v else S a2 o2
def ck (i : Int32) (n : Nat) (F : Op) : Op := if i < 0 ∨ n ≤ i.toNatClampNeg then none else F
def dz (y : Int32) (F : Op) : Op := if y = 0 then none else F
def bi (v : Int32) (f : Int32 → Op) : Op := f v
def bl (v : Int64) (f : Int64 → Op) : Op := f v
def bs (v : St) (f : St → Op) : Op := f v
def cal (g : Op) (f : Int32 → St → Op) : Op := match g with
  | none => none
  | some (r, S) => f r S
def jn {α : Type} (r : α) (f : α → Op) : Op := f r
def lop {α : Type} (z : α) (b : α → α) : Nat → α
  | 0 => z
  | n + 1 => b (lop z b n)
def FU : Nat := 2000
def imax (x y : Int32) : Int32 := if x < y then y else x
def imin (x y : Int32) : Int32 := if y < x then y else x
def irm (x y : Int32) : Int32 := x - x / y * y
def lrm (x y : Int64) : Int64 := x - x / y * y
def ius (x y : Int32) : Int32 := (x.toUInt32 >>> (y.toUInt32 &&& Int32.toUInt32 31)).toInt32
def pid (v : Int32) : Nat := if v = 0 then 0 else 1
def uid (n : Nat) : Int32 := if n = 0 then 0 else 1
theorem pid_lt (v : Int32) : pid v < 2 := by unfold pid; split <;> decide
theorem pid_uid {n : Nat} (h : n < 2) : pid (uid n) = n := by
  rcases (show n = 0 ∨ n = 1 by omega) with rfl | rfl <;> decide
def en (cy : Nat → ClassId) (adr : Nat → Nat → Nat) (a o : Nat) (f : Nat → Int32) : va_E := match a with
  | 0 => .inr (10, [.ref (adr 1 0), .ref (adr 3 (pid (f 1))), .ref (adr 3 (pid (f 2))), .ref (adr 9 0), .ref (adr 14 0), .ref (adr 19 0), .ref (adr 20 0), .ref (adr 27 0), .ref (adr 30 0), .ref (adr 31 0)])
  | 1 => .inr (8, [.ref (adr 2 0), .int (f 1), .int (f 2), .int (f 3), .int (f 4)])
  | 2 => .inl (cy 0, 240, .inl f)
  | 3 => .inr (6, [.int (f 0), .int (f 1), .int (f 2), .int (f 3), .ref (adr 4 o), .ref (adr 5 o), .ref (adr 7 o), .ref (adr 8 o)])
  | 4 => .inl (cy 0, 6, .inl f)
  | 5 => .inl (cy 3, 6, .inr (.inr (.inr (.inr (fun i => some (adr 6 (6 * o + i)))))))
  | 6 => .inl (cy 0, 5, .inl f)
  | 7 => .inl (cy 0, 8, .inl f)
  | 8 => .inl (cy 0, 8, .inl f)
  | 9 => .inr (7, [.ref (adr 3 (pid (f 0))), .int (f 1), .int (f 2), .int (f 3), .ref (adr 10 0)])
  | 10 => .inl (cy 2, 6, .inr (.inr (.inr (.inr (fun i => some (adr 11 i))))))
  | 11 => .inr (3, [.int (f 0), .int (f 1), .int (f 2), .ref (adr 12 o), .ref (adr 13 o)])
  | 12 => .inl (cy 0, 5, .inl f)
  | 13 => .inl (cy 0, 5, .inl f)
  | 14 => .inr (4, [.ref (adr 15 0), .int (f 1), .int (f 2), .ref (adr 16 0), .ref (adr 18 0), .int (f 5)])
  | 15 => .inl (cy 3, 16, .inr (.inr (.inr (.inr (fun i => some (adr 17 i))))))
  | 16 => .inl (cy 3, 2, .inr (.inr (.inr (.inr (fun i => some (adr 17 (16 + i)))))))
  | 17 => .inl (cy 0, 75, .inl f)
  | 18 => .inl (cy 0, 2, .inl f)
  | 19 => .inr (1, [.int (f 0)])
  | 20 => .inr (2, [.ref (adr 21 0), .ref (adr 22 0), .ref (adr 23 0), .int (f 3), .int (f 4), .ref (adr 24 0), .ref (adr 25 0), .ref (adr 26 0)])
  | 21 => .inl (cy 0, 6, .inl f)
  | 22 => .inl (cy 0, 6, .inl f)
  | 23 => .inl (cy 0, 6, .inl f)
  | 24 => .inl (cy 0, 8, .inl f)
  | 25 => .inl (cy 0, 8, .inl f)
  | 26 => .inl (cy 0, 8, .inl f)
  | 27 => .inr (0, [.ref (adr 28 0), .ref (adr 29 0), .int (f 2)])
  | 28 => .inl (cy 0, 15, .inl f)
  | 29 => .inl (cy 0, 15, .inl f)
  | 30 => .inr (9, [.ref (adr 11 6), .int (f 1), .int (f 2), .int (f 3), .int (f 4), .int (f 5)])
  | 31 => .inr (5, [.ref (adr 32 0), .ref (adr 33 0), .ref (adr 34 0)])
  | 32 => .inl (cy 0, 6, .inl f)
  | 33 => .inl (cy 0, 64, .inl f)
  | 34 => .inl (cy 0, 64, .inl f)
  | 35 => .inr (11, [.int (f 0), .int (f 1), .int (f 2), .ref (adr 36 0), .ref (adr 37 0), .int (f 5), .ref (adr 38 0), .ref (adr 39 0), .ref (adr 40 0), .int (f 9), .int (f 10), .ref (adr 41 0), .ref (adr 42 0), .ref (adr 43 0), .int (f 14), .ref (adr 44 0), .ref (adr 45 0), .ref (adr 46 0), .int (f 18), .int (f 19), .int (f 20), .int (f 21), .int (f 22), .int (f 23), .int (f 24), .int (f 25), .ref (adr 47 0), .ref (adr 48 0), .int (f 28), .ref (adr 49 0), .ref (adr 50 0), .ref (adr 51 0), .ref (adr 52 0), .ref (adr 53 0), .int (f 34), .ref (adr 54 0), .ref (adr 55 0), .ref (adr 56 0), .ref (adr 57 0), .ref (adr 58 0), .ref (adr 59 0), .ref (adr 60 0)])
  | 36 => .inl (cy 0, 6, .inl f)
  | 37 => .inl (cy 0, 30, .inl f)
  | 38 => .inl (cy 0, 8, .inl f)
  | 39 => .inl (cy 0, 8, .inl f)
  | 40 => .inl (cy 0, 70, .inl f)
  | 41 => .inl (cy 0, 6, .inl f)
  | 42 => .inl (cy 0, 6, .inl f)
  | 43 => .inl (cy 0, 6, .inl f)
  | 44 => .inl (cy 0, 15, .inl f)
  | 45 => .inl (cy 0, 15, .inl f)
  | 46 => .inl (cy 0, 240, .inl f)
  | 47 => .inl (cy 0, 6, .inl f)
  | 48 => .inl (cy 0, 30, .inl f)
  | 49 => .inl (cy 0, 8, .inl f)
  | 50 => .inl (cy 0, 8, .inl f)
  | 51 => .inl (cy 0, 5, .inl f)
  | 52 => .inl (cy 0, 5, .inl f)
  | 53 => .inl (cy 0, 6, .inl f)
  | 54 => .inl (cy 0, 1120, .inl f)
  | 55 => .inl (cy 0, 6, .inl f)
  | 56 => .inl (cy 0, 3, .inl f)
  | 57 => .inl (cy 1, 61, .inl f)
  | 58 => .inl (cy 0, 488, .inl f)
  | 59 => .inl (cy 0, 142, .inl f)
  | _ => .inl (cy 1, 2, .inl f)
def cls : List (Nat × Nat) := [(0, 0), (1, 0), (2, 0), (3, 0), (3, 1), (4, 0), (4, 1), (5, 0), (5, 1), (6, 0), (6, 1), (6, 2), (6, 3), (6, 4), (6, 5), (6, 6), (6, 7), (6, 8), (6, 9), (6, 10), (6, 11), (7, 0), (7, 1), (8, 0), (8, 1), (9, 0), (10, 0), (11, 0), (11, 1), (11, 2), (11, 3), (11, 4), (11, 5), (11, 6), (12, 0), (12, 1), (12, 2), (12, 3), (12, 4), (12, 5), (12, 6), (13, 0), (13, 1), (13, 2), (13, 3), (13, 4), (13, 5), (13, 6), (14, 0), (15, 0), (16, 0), (17, 0), (17, 1), (17, 2), (17, 3), (17, 4), (17, 5), (17, 6), (17, 7), (17, 8), (17, 9), (17, 10), (17, 11), (17, 12), (17, 13), (17, 14), (17, 15), (17, 16), (17, 17), (18, 0), (19, 0), (20, 0), (21, 0), (22, 0), (23, 0), (24, 0), (25, 0), (26, 0), (27, 0), (28, 0), (29, 0), (30, 0), (31, 0), (32, 0), (33, 0), (34, 0), (35, 0), (36, 0), (37, 0), (38, 0), (39, 0), (40, 0), (41, 0), (42, 0), (43, 0), (44, 0), (45, 0), (46, 0), (47, 0), (48, 0), (49, 0), (50, 0), (51, 0), (52, 0), (53, 0), (54, 0), (55, 0), (56, 0), (57, 0), (58, 0), (59, 0), (60, 0)]
theorem cls_nd : cls.Nodup := by decide +kernel
theorem cl_0 {o : Nat} (h : o < 1) : (0, o) ∈ cls := by
  rcases (show o = 0 by omega) with rfl
  decide +kernel
theorem cl_1 {o : Nat} (h : o < 1) : (1, o) ∈ cls := by
  rcases (show o = 0 by omega) with rfl
  decide +kernel
theorem cl_2 {o : Nat} (h : o < 1) : (2, o) ∈ cls := by
  rcases (show o = 0 by omega) with rfl
  decide +kernel
theorem cl_3 {o : Nat} (h : o < 2) : (3, o) ∈ cls := (by decide +kernel : ∀ o : Nat, o < 2 → (3, o) ∈ cls) o h
theorem cl_4 {o : Nat} (h : o < 2) : (4, o) ∈ cls := (by decide +kernel : ∀ o : Nat, o < 2 → (4, o) ∈ cls) o h
theorem cl_5 {o : Nat} (h : o < 2) : (5, o) ∈ cls := (by decide +kernel : ∀ o : Nat, o < 2 → (5, o) ∈ cls) o h
theorem cl_6 {o : Nat} (h : o < 12) : (6, o) ∈ cls := (by decide +kernel : ∀ o : Nat, o < 12 → (6, o) ∈ cls) o h
theorem cl_7 {o : Nat} (h : o < 2) : (7, o) ∈ cls := (by decide +kernel : ∀ o : Nat, o < 2 → (7, o) ∈ cls) o h
theorem cl_8 {o : Nat} (h : o < 2) : (8, o) ∈ cls := (by decide +kernel : ∀ o : Nat, o < 2 → (8, o) ∈ cls) o h
theorem cl_9 {o : Nat} (h : o < 1) : (9, o) ∈ cls := by
  rcases (show o = 0 by omega) with rfl
  decide +kernel
theorem cl_10 {o : Nat} (h : o < 1) : (10, o) ∈ cls := by
  rcases (show o = 0 by omega) with rfl
  decide +kernel
theorem cl_11 {o : Nat} (h : o < 7) : (11, o) ∈ cls := (by decide +kernel : ∀ o : Nat, o < 7 → (11, o) ∈ cls) o h
theorem cl_12 {o : Nat} (h : o < 7) : (12, o) ∈ cls := (by decide +kernel : ∀ o : Nat, o < 7 → (12, o) ∈ cls) o h
theorem cl_13 {o : Nat} (h : o < 7) : (13, o) ∈ cls := (by decide +kernel : ∀ o : Nat, o < 7 → (13, o) ∈ cls) o h
theorem cl_14 {o : Nat} (h : o < 1) : (14, o) ∈ cls := by
  rcases (show o = 0 by omega) with rfl
  decide +kernel
theorem cl_15 {o : Nat} (h : o < 1) : (15, o) ∈ cls := by
  rcases (show o = 0 by omega) with rfl
  decide +kernel
theorem cl_16 {o : Nat} (h : o < 1) : (16, o) ∈ cls := by
  rcases (show o = 0 by omega) with rfl
  decide +kernel
theorem cl_17 {o : Nat} (h : o < 18) : (17, o) ∈ cls := (by decide +kernel : ∀ o : Nat, o < 18 → (17, o) ∈ cls) o h
theorem cl_18 {o : Nat} (h : o < 1) : (18, o) ∈ cls := by
  rcases (show o = 0 by omega) with rfl
  decide +kernel
theorem cl_19 {o : Nat} (h : o < 1) : (19, o) ∈ cls := by
  rcases (show o = 0 by omega) with rfl
  decide +kernel
theorem cl_20 {o : Nat} (h : o < 1) : (20, o) ∈ cls := by
  rcases (show o = 0 by omega) with rfl
  decide +kernel
theorem cl_21 {o : Nat} (h : o < 1) : (21, o) ∈ cls := by
  rcases (show o = 0 by omega) with rfl
  decide +kernel
theorem cl_22 {o : Nat} (h : o < 1) : (22, o) ∈ cls := by
  rcases (show o = 0 by omega) with rfl
  decide +kernel
theorem cl_23 {o : Nat} (h : o < 1) : (23, o) ∈ cls := by
  rcases (show o = 0 by omega) with rfl
  decide +kernel
theorem cl_24 {o : Nat} (h : o < 1) : (24, o) ∈ cls := by
  rcases (show o = 0 by omega) with rfl
  decide +kernel
theorem cl_25 {o : Nat} (h : o < 1) : (25, o) ∈ cls := by
  rcases (show o = 0 by omega) with rfl
  decide +kernel
theorem cl_26 {o : Nat} (h : o < 1) : (26, o) ∈ cls := by
  rcases (show o = 0 by omega) with rfl
  decide +kernel
theorem cl_27 {o : Nat} (h : o < 1) : (27, o) ∈ cls := by
  rcases (show o = 0 by omega) with rfl
  decide +kernel
theorem cl_28 {o : Nat} (h : o < 1) : (28, o) ∈ cls := by
  rcases (show o = 0 by omega) with rfl
  decide +kernel
theorem cl_29 {o : Nat} (h : o < 1) : (29, o) ∈ cls := by
  rcases (show o = 0 by omega) with rfl
  decide +kernel
theorem cl_30 {o : Nat} (h : o < 1) : (30, o) ∈ cls := by
  rcases (show o = 0 by omega) with rfl
  decide +kernel
theorem cl_31 {o : Nat} (h : o < 1) : (31, o) ∈ cls := by
  rcases (show o = 0 by omega) with rfl
  decide +kernel
theorem cl_32 {o : Nat} (h : o < 1) : (32, o) ∈ cls := by
  rcases (show o = 0 by omega) with rfl
  decide +kernel
theorem cl_33 {o : Nat} (h : o < 1) : (33, o) ∈ cls := by
  rcases (show o = 0 by omega) with rfl
  decide +kernel
theorem cl_34 {o : Nat} (h : o < 1) : (34, o) ∈ cls := by
  rcases (show o = 0 by omega) with rfl
  decide +kernel
theorem cl_35 {o : Nat} (h : o < 1) : (35, o) ∈ cls := by
  rcases (show o = 0 by omega) with rfl
  decide +kernel
theorem cl_36 {o : Nat} (h : o < 1) : (36, o) ∈ cls := by
  rcases (show o = 0 by omega) with rfl
  decide +kernel
theorem cl_37 {o : Nat} (h : o < 1) : (37, o) ∈ cls := by
  rcases (show o = 0 by omega) with rfl
  decide +kernel
theorem cl_38 {o : Nat} (h : o < 1) : (38, o) ∈ cls := by
  rcases (show o = 0 by omega) with rfl
  decide +kernel
theorem cl_39 {o : Nat} (h : o < 1) : (39, o) ∈ cls := by
  rcases (show o = 0 by omega) with rfl
  decide +kernel
theorem cl_40 {o : Nat} (h : o < 1) : (40, o) ∈ cls := by
  rcases (show o = 0 by omega) with rfl
  decide +kernel
theorem cl_41 {o : Nat} (h : o < 1) : (41, o) ∈ cls := by
  rcases (show o = 0 by omega) with rfl
  decide +kernel
theorem cl_42 {o : Nat} (h : o < 1) : (42, o) ∈ cls := by
  rcases (show o = 0 by omega) with rfl
  decide +kernel
theorem cl_43 {o : Nat} (h : o < 1) : (43, o) ∈ cls := by
  rcases (show o = 0 by omega) with rfl
  decide +kernel
theorem cl_44 {o : Nat} (h : o < 1) : (44, o) ∈ cls := by
  rcases (show o = 0 by omega) with rfl
  decide +kernel
theorem cl_45 {o : Nat} (h : o < 1) : (45, o) ∈ cls := by
  rcases (show o = 0 by omega) with rfl
  decide +kernel
theorem cl_46 {o : Nat} (h : o < 1) : (46, o) ∈ cls := by
  rcases (show o = 0 by omega) with rfl
  decide +kernel
theorem cl_47 {o : Nat} (h : o < 1) : (47, o) ∈ cls := by
  rcases (show o = 0 by omega) with rfl
  decide +kernel
theorem cl_48 {o : Nat} (h : o < 1) : (48, o) ∈ cls := by
  rcases (show o = 0 by omega) with rfl
  decide +kernel
theorem cl_49 {o : Nat} (h : o < 1) : (49, o) ∈ cls := by
  rcases (show o = 0 by omega) with rfl
  decide +kernel
theorem cl_50 {o : Nat} (h : o < 1) : (50, o) ∈ cls := by
  rcases (show o = 0 by omega) with rfl
  decide +kernel
theorem cl_51 {o : Nat} (h : o < 1) : (51, o) ∈ cls := by
  rcases (show o = 0 by omega) with rfl
  decide +kernel
theorem cl_52 {o : Nat} (h : o < 1) : (52, o) ∈ cls := by
  rcases (show o = 0 by omega) with rfl
  decide +kernel
theorem cl_53 {o : Nat} (h : o < 1) : (53, o) ∈ cls := by
  rcases (show o = 0 by omega) with rfl
  decide +kernel
theorem cl_54 {o : Nat} (h : o < 1) : (54, o) ∈ cls := by
  rcases (show o = 0 by omega) with rfl
  decide +kernel
theorem cl_55 {o : Nat} (h : o < 1) : (55, o) ∈ cls := by
  rcases (show o = 0 by omega) with rfl
  decide +kernel
theorem cl_56 {o : Nat} (h : o < 1) : (56, o) ∈ cls := by
  rcases (show o = 0 by omega) with rfl
  decide +kernel
theorem cl_57 {o : Nat} (h : o < 1) : (57, o) ∈ cls := by
  rcases (show o = 0 by omega) with rfl
  decide +kernel
theorem cl_58 {o : Nat} (h : o < 1) : (58, o) ∈ cls := by
  rcases (show o = 0 by omega) with rfl
  decide +kernel
theorem cl_59 {o : Nat} (h : o < 1) : (59, o) ∈ cls := by
  rcases (show o = 0 by omega) with rfl
  decide +kernel
theorem cl_60 {o : Nat} (h : o < 1) : (60, o) ∈ cls := by
  rcases (show o = 0 by omega) with rfl
  decide +kernel
def wld (cy : Nat → ClassId) (adr : Nat → Nat → Nat) (S : St) : va_W := cls.map (fun z => (adr z.1 z.2, en cy adr z.1 z.2 (S z.1 z.2)))
def Az (adr : Nat → Nat → Nat) : Nat → Prop := fun q => ∃ z : Nat × Nat, z ∈ cls ∧ q = adr z.1 z.2
def Ij (adr : Nat → Nat → Nat) : Prop := ∀ z : Nat × Nat, z ∈ cls → ∀ z2 : Nat × Nat, z2 ∈ cls → adr z.1 z.2 = adr z2.1 z2.2 → z = z2
def tyl (cy : Nat → ClassId) : List (ClassId × FieldType) := [(cy 0, .int), (cy 1, .boolean), (cy 2, .object "TannedMen$Man"), (cy 3, .array .int)]
theorem nd_inj {α : Type} : ∀ {l : List α} {i j : Nat} {a : α}, l.Nodup → l[i]? = some a → l[j]? = some a → i = j
  | [], i, j, a, _, h, _ => by simp at h
  | b :: l, i, j, a, hn, h1, h2 => by
    have hn2 := List.nodup_cons.mp hn
    cases i with
    | zero =>
      cases j with
      | zero => rfl
      | succ j =>
        rw [List.getElem?_cons_zero] at h1
        rw [List.getElem?_cons_succ] at h2
        cases h1
        exact absurd (List.mem_of_getElem? h2) hn2.1
    | succ i =>
      rw [List.getElem?_cons_succ] at h1
      cases j with
      | zero =>
        rw [List.getElem?_cons_zero] at h2
        cases h2
        exact absurd (List.mem_of_getElem? h1) hn2.1
      | succ j =>
        rw [List.getElem?_cons_succ] at h2
        rw [nd_inj hn2.2 h1 h2]
theorem wld_at {cy : Nat → ClassId} {adr : Nat → Nat → Nat} {S : St} {i : Nat} {q : Nat × va_E} (h : (wld cy adr S)[i]? = some q) : ∃ z : Nat × Nat, cls[i]? = some z ∧ q = (adr z.1 z.2, en cy adr z.1 z.2 (S z.1 z.2)) := by
  unfold wld at h
  rw [List.getElem?_map] at h
  cases hc : cls[i]? with
  | none => rw [hc] at h; cases h
  | some z => rw [hc] at h; exact ⟨z, rfl, (Option.some.inj h).symm⟩
theorem wld_D {cy : Nat → ClassId} {adr : Nat → Nat → Nat} {A : Nat → Prop} (hj : Ij adr) (hA : ∀ q, Az adr q → A q) (S : St) : va_D A (wld cy adr S) := by
  refine ⟨fun i j p q h1 h2 h3 => ?_, fun i q h => ?_⟩
  · obtain ⟨z, c1, rfl⟩ := wld_at h1
    obtain ⟨z2, c2, rfl⟩ := wld_at h2
    have e := hj z (List.mem_of_getElem? c1) z2 (List.mem_of_getElem? c2) h3
    subst e
    exact nd_inj cls_nd c1 c2
  · obtain ⟨z, c1, rfl⟩ := wld_at h
    exact hA _ ⟨z, List.mem_of_getElem? c1, rfl⟩
theorem wld_in {cy : Nat → ClassId} {adr : Nat → Nat → Nat} {S : St} {a o : Nat} (h : (a, o) ∈ cls) : ∃ i : Nat, cls[i]? = some (a, o) ∧ (wld cy adr S)[i]? = some (adr a o, en cy adr a o (S a o)) := by
  obtain ⟨i, hi⟩ := List.getElem?_of_mem h
  refine ⟨i, hi, ?_⟩
  unfold wld
  rw [List.getElem?_map, hi]
  rfl
theorem wr_at (S : St) (a o i : Nat) (v : Int32) : wr S a o i v a o = upd (S a o) i v := if_pos ⟨rfl, rfl⟩
theorem wr_ne {S : St} {a o i : Nat} {v : Int32} {z : Nat × Nat} (h : z ≠ (a, o)) : wr S a o i v z.1 z.2 = S z.1 z.2 := if_neg (fun q => h (Prod.ext q.1 q.2))
theorem wld_set {cy : Nat → ClassId} {adr : Nat → Nat → Nat} {S : St} {a o i j : Nat} {v : Int32} {e : va_E} (hi : cls[i]? = some (a, o)) (he : en cy adr a o (upd (S a o) j v) = e) : (wld cy adr S).set i (adr a o, e) = wld cy adr (wr S a o j v) := by
  apply List.ext_getElem?
  intro n
  rw [List.getElem?_set]
  unfold wld
  rw [List.length_map, List.getElem?_map, List.getElem?_map]
  by_cases h : i = n
  · subst h
    rw [if_pos rfl, if_pos (List.getElem?_eq_some_iff.mp hi).1, hi]
    show some (adr a o, e) = some (adr a o, en cy adr a o (wr S a o j v a o))
    rw [wr_at, he]
  · rw [if_neg h]
    cases hc : cls[n]? with
    | none => rfl
    | some z =>
      have hz : z ≠ (a, o) := fun q => h (nd_inj cls_nd hi (q ▸ hc))
      show some (adr z.1 z.2, en cy adr z.1 z.2 (S z.1 z.2)) = some (adr z.1 z.2, en cy adr z.1 z.2 (wr S a o j v z.1 z.2))
      rw [wr_ne hz]
/-- the words that last -/
def tz : List Cond := lw_tbl.filter goodWord
theorem tz_in {w : Cond} (i : Nat) (h : lw_tbl[i]? = some w) (hg : goodWord w = true) : w ∈ tz := List.mem_filter.mpr ⟨List.mem_of_getElem? h, hg⟩
theorem tz_good {w : Cond} (h : w ∈ tz) : (w.onTables && w.keeps) = true ∨ ∃ ty, w = .arrayClass ty := good_of_word (List.mem_filter.mp h).2
theorem tz_ws {ws : List Cond} (ps : List Nat) (hp : ws = ps.filterMap (fun i => lw_tbl[i]?)) (hg : ws.all goodWord = true) : ∀ w ∈ ws, w ∈ tz := by
  intro w hw
  have h1 := List.all_eq_true.mp hg w hw
  rw [hp] at hw
  obtain ⟨i, -, hi⟩ := List.mem_filterMap.mp hw
  exact tz_in i hi h1
def wz (y : MethodName) (b : ByteArray) (n : Nat) (ret : Option FieldType) : List Cond := .code y b n ret :: tz
theorem gdV {own C : String} {idx n : Nat} {y : MethodName} {b : ByteArray} {ret : Option FieldType} (h1 : Cond.methodLink own idx y ∈ tz) (h2 : Cond.instanceMethod y ∈ tz) (h3 : Cond.selects C y y ∈ tz) (h4 : Cond.initialized C ∈ tz) (h5 : Cond.code y b n ret ∈ tz) : GoodIn tz (wsV own idx C y (wz y b n ret)) := by
  intro w hw
  have key : w ∈ tz := by
    unfold wsV wz at hw
    simp only [List.mem_append, List.mem_cons, List.not_mem_nil, or_false] at hw
    rcases hw with (rfl | rfl | rfl | rfl) | rfl | h
    · exact h1
    · exact h2
    · exact h3
    · exact h4
    · exact h5
    · exact h
  exact ⟨key, tz_good key⟩
theorem gdS {own : String} {idx n : Nat} {y : MethodName} {b : ByteArray} {ret : Option FieldType} (h1 : Cond.methodLink own idx y ∈ tz) (h2 : Cond.static y ∈ tz) (h4 : Cond.initialized y.cls ∈ tz) (h5 : Cond.code y b n ret ∈ tz) : GoodIn tz (va_wsS own idx y (wz y b n ret)) := by
  intro w hw
  have key : w ∈ tz := by
    unfold va_wsS wz at hw
    simp only [List.mem_append, List.mem_cons, List.not_mem_nil, or_false] at hw
    rcases hw with (rfl | rfl | rfl) | rfl | h
    · exact h1
    · exact h2
    · exact h4
    · exact h5
    · exact h
  exact ⟨key, tz_good key⟩
theorem gdZ {n : Nat} {y : MethodName} {b : ByteArray} {ret : Option FieldType} (h5 : Cond.code y b n ret ∈ tz) : GoodIn tz (wz y b n ret) := by
  intro w hw
  have key : w ∈ tz := by
    unfold wz at hw
    rcases List.mem_cons.mp hw with rfl | h
    · exact h5
    · exact h
  exact ⟨key, tz_good key⟩
theorem st_mmax : Cond.static Lib.Math.max.name ∈ tz := tz_in 477 (by decide +kernel) (by decide +kernel)
theorem cd_mmax : Cond.code Lib.Math.max.name Lib.Math.max.code 2 (some .int) ∈ tz := tz_in 478 (by decide +kernel) (by decide +kernel)
theorem st_mmin : Cond.static Lib.Math.min.name ∈ tz := tz_in 553 (by decide +kernel) (by decide +kernel)
theorem cd_mmin : Cond.code Lib.Math.min.name Lib.Math.min.code 2 (some .int) ∈ tz := tz_in 554 (by decide +kernel) (by decide +kernel)
theorem in_math : Cond.initialized "java/lang/Math" ∈ tz := tz_in 48 (by decide +kernel) (by decide +kernel)
/-- what stays the same while a method runs -/
abbrev KX : Type := Program × Launch × Env × Room × State × MethodId × Array Value × List Frame × Method × Code × Nat × Nat × Nat × (Int32 → St → State → Prop) × (Nat → Prop)
abbrev WX : Type := va_G × (Nat → ClassId)
def Nw (U : State) : Prop := va_Nw (.methodLinkNest RX8 102 yX10_isOutside RX10) U
def Ge (w : WX) (adr : Nat → Nat → Nat) (k : KX) (pc : Nat) (lv : List (Nat × Value)) (st : List Value) (S : St) (F : Op) : Prop := match k with
  | (p, l, e, R, s, m, args, below, meth, c, nL, kc, ks, Qf, A) => ∀ (r : Int32) (S2 : St), F = some (r, S2) → ∀ (H : Heap) (locs : List Loc) (ls : Array Slot), va_P w.1 vwCl (wld w.2 adr S) H → va_S A s.heap H locs → lv_has ls nL lv → W p l e R s m args below meth c H locs kc ks (Qf r S2) (F0 m pc ls st)
def Cx (w : WX) (adr : Nat → Nat → Nat) (k : KX) (cc : ByteArray) (own : String) (n fr lo : Nat) : Prop := match k with
  | (p, l, e, R, s, m, args, below, meth, c, nL, kc, ks, Qf, A) => p.tables.exec = Jvm.exec ∧ c.code = cc ∧ c.maxLocals = nL ∧ nL = n ∧ s.vm.findClass own = some m.cls ∧ (∀ x ∈ tz, x.before args s = true) ∧ va_K w.1 vwCl (tyl w.2) s ∧ Ij adr ∧ (∀ q, Az adr q → A q) ∧ Nw s ∧ kc ≤ R.cells ∧ ks ≤ R.slots ∧ fr ≤ R.frames ∧ lo ≤ R.locals
def Bz (w : WX) (adr : Nat → Nat → Nat) (S : St) (U : State) : Prop := va_P w.1 vwCl (wld w.2 adr S) U.heap ∧ va_K w.1 vwCl (tyl w.2) U ∧ Nw U
def Qi (w : WX) (adr : Nat → Nat → Nat) (r : Int32) (S : St) : Array Value → State → Outcome → State → Prop := va_Qi (fun (r2 : Int32) (u : St) => r2 = r ∧ u = S) (Bz w adr) (Az adr)
def Qv (w : WX) (adr : Nat → Nat → Nat) (S : St) : Array Value → State → Outcome → State → Prop := va_Qv (fun (u : St) => u = S) (Bz w adr) (Az adr)
def Mi (l : Launch) (w : WX) (adr : Nat → Nat → Nat) (y : MethodName) (b : ByteArray) (n : Nat) (ret : Option FieldType) (fr lo : Nat) (av : List Value) (S : St) (r : Int32) (S2 : St) : Prop := Met l y (wz y b n ret) { frames := fr, cells := 0, slots := 0, locals := lo } (va_Pc av (Bz w adr S)) (Qi w adr r S2) 0 0 (Az adr)
def Mv (l : Launch) (w : WX) (adr : Nat → Nat → Nat) (y : MethodName) (b : ByteArray) (n : Nat) (ret : Option FieldType) (fr lo : Nat) (av : List Value) (S : St) (S2 : St) : Prop := Met l y (wz y b n ret) { frames := fr, cells := 0, slots := 0, locals := lo } (va_Pc av (Bz w adr S)) (Qv w adr S2) 0 0 (Az adr)
/-- how it ends: an int (a boolean), or nothing -/
def Ri (w : WX) (adr : Nat → Nat → Nat) (k : KX) (ty : FieldType) : Prop := match k with
  | (p, l, e, R, s, m, args, below, meth, c, nL, kc, ks, Qf, A) => meth.sig.returnType = some ty ∧ meth.locks = false ∧ kc = 0 ∧ ks = 0 ∧ A = Az adr ∧ Qf = fun r S2 => MQ below (Qi w adr r S2) args s 0 0 (Az adr)
def Rv (w : WX) (adr : Nat → Nat → Nat) (k : KX) : Prop := match k with
  | (p, l, e, R, s, m, args, below, meth, c, nL, kc, ks, Qf, A) => meth.sig.returnType = none ∧ meth.locks = false ∧ kc = 0 ∧ ks = 0 ∧ A = Az adr ∧ Qf = fun _ S2 => MQ below (Qv w adr S2) args s 0 0 (Az adr)
theorem Nw.warm {s U : State} (hW : s.WarmedH U.vm) (h : Nw s) : Nw U := va_Nw.warmM hW h
theorem Nw.alike {s U : State} (h : s.vm = U.vm) (q : Nw s) : Nw U := va_Nw.same rfl h q
theorem bz_blind {w : WX} {adr : Nat → Nat → Nat} {S : St} {av : List Value} : FrameBlind (va_Pc av (Bz w adr S)) := by
  intro a U g mk q
  obtain ⟨q0, qP, qK, qN⟩ := q
  exact ⟨q0, qP, va_K.moved (u := U) (U := U.calling g mk a) (Vm.Alike.refl U.vm) qK, Nw.alike rfl qN⟩
section GE
variable {w : WX} {adr : Nat → Nat → Nat} {k : KX} {cc : ByteArray} {own : String} {nL fr lo : Nat} {pc n : Nat} {lv : List (Nat × Value)} {st : List Value} {S : St} {F : Op}
theorem ge_iconst (C : Cx w adr k cc own nL fr lo) {q : Int} {v : Int32} (hd : decode cc pc = .ok (.iconst q, 1)) (hv : Int32.ofInt q = v) (hn : pc + 1 = n) (kk : Ge w adr k n lv (.int v :: st) S F) : Ge w adr k pc lv (st) S F := by
  obtain ⟨p, l, e, R, s, m, args, below, meth, c, nL, kc, ks, Qf, A⟩ := k
  obtain ⟨hx, hb, hml, hnl, hown, hts, hK, hj, hA, hN, hkc, hks, hfr, hlo⟩ := C
  subst hn
  intro r S2 hF H locs ls hP hS hl
  exact lv_iconst hx hb hd hv (kk r S2 hF H locs ls hP hS hl)
theorem ge_bipush (C : Cx w adr k cc own nL fr lo) {q : Int} {v : Int32} (hd : decode cc pc = .ok (.bipush q, 2)) (hv : (Int8.ofInt q).toInt32 = v) (hn : pc + 2 = n) (kk : Ge w adr k n lv (.int v :: st) S F) : Ge w adr k pc lv (st) S F := by
  obtain ⟨p, l, e, R, s, m, args, below, meth, c, nL, kc, ks, Qf, A⟩ := k
  obtain ⟨hx, hb, hml, hnl, hown, hts, hK, hj, hA, hN, hkc, hks, hfr, hlo⟩ := C
  subst hn
  intro r S2 hF H locs ls hP hS hl
  exact lv_bipush hx hb hd hv (kk r S2 hF H locs ls hP hS hl)
theorem ge_sipush (C : Cx w adr k cc own nL fr lo) {q : Int} {v : Int32} (hd : decode cc pc = .ok (.sipush q, 3)) (hv : (Int16.ofInt q).toInt32 = v) (hn : pc + 3 = n) (kk : Ge w adr k n lv (.int v :: st) S F) : Ge w adr k pc lv (st) S F := by
  obtain ⟨p, l, e, R, s, m, args, below, meth, c, nL, kc, ks, Qf, A⟩ := k
  obtain ⟨hx, hb, hml, hnl, hown, hts, hK, hj, hA, hN, hkc, hks, hfr, hlo⟩ := C
  subst hn
  intro r S2 hF H locs ls hP hS hl
  exact lv_sipush hx hb hd hv (kk r S2 hF H locs ls hP hS hl)
theorem ge_lconst (C : Cx w adr k cc own nL fr lo) {q : Fin 2} {v : Int64} (hd : decode cc pc = .ok (.lconst q, 1)) (hv : Int64.ofNat (q : Nat) = v) (hn : pc + 1 = n) (kk : Ge w adr k n lv (.long v :: st) S F) : Ge w adr k pc lv (st) S F := by
  obtain ⟨p, l, e, R, s, m, args, below, meth, c, nL, kc, ks, Qf, A⟩ := k
  obtain ⟨hx, hb, hml, hnl, hown, hts, hK, hj, hA, hN, hkc, hks, hfr, hlo⟩ := C
  subst hn
  intro r S2 hF H locs ls hP hS hl
  exact lv_lconst hx hb hd hv (kk r S2 hF H locs ls hP hS hl)
theorem ge_ldc (C : Cx w adr k cc own nL fr lo) {i : Nat} {v : Int32} (hc : Cond.constant own i v ∈ tz) (hd : decode cc pc = .ok (.ldc i, 2)) (hn : pc + 2 = n) (kk : Ge w adr k n lv (.int v :: st) S F) : Ge w adr k pc lv (st) S F := by
  obtain ⟨p, l, e, R, s, m, args, below, meth, c, nL, kc, ks, Qf, A⟩ := k
  obtain ⟨hx, hb, hml, hnl, hown, hts, hK, hj, hA, hN, hkc, hks, hfr, hlo⟩ := C
  subst hn
  intro r S2 hF H locs ls hP hS hl
  exact lv_ldc hx hb hown (hts _ hc) hd (kk r S2 hF H locs ls hP hS hl)
theorem ge_ldcw (C : Cx w adr k cc own nL fr lo) {i : Nat} {v : Int32} (hc : Cond.constant own i v ∈ tz) (hd : decode cc pc = .ok (.ldc_w i, 3)) (hn : pc + 3 = n) (kk : Ge w adr k n lv (.int v :: st) S F) : Ge w adr k pc lv (st) S F := by
  obtain ⟨p, l, e, R, s, m, args, below, meth, c, nL, kc, ks, Qf, A⟩ := k
  obtain ⟨hx, hb, hml, hnl, hown, hts, hK, hj, hA, hN, hkc, hks, hfr, hlo⟩ := C
  subst hn
  intro r S2 hF H locs ls hP hS hl
  exact lv_ldcw hx hb hown (hts _ hc) hd (kk r S2 hF H locs ls hP hS hl)
theorem ge_ldc2 (C : Cx w adr k cc own nL fr lo) {i : Nat} {v : Int64} (hc : Cond.constantLong own i v ∈ tz) (hd : decode cc pc = .ok (.ldc2_w i, 3)) (hn : pc + 3 = n) (kk : Ge w adr k n lv (.long v :: st) S F) : Ge w adr k pc lv (st) S F := by
  obtain ⟨p, l, e, R, s, m, args, below, meth, c, nL, kc, ks, Qf, A⟩ := k
  obtain ⟨hx, hb, hml, hnl, hown, hts, hK, hj, hA, hN, hkc, hks, hfr, hlo⟩ := C
  subst hn
  intro r S2 hF H locs ls hP hS hl
  exact lv_ldc2 hx hb hown (hts _ hc) hd (kk r S2 hF H locs ls hP hS hl)
theorem ge_iload_n (C : Cx w adr k cc own nL fr lo) {q : Fin 4} {i : Nat} {x : Int32} (j : Nat) (hl : lv[j]? = some (i, .int x)) (hd : decode cc pc = .ok (.iload_n q, 1)) (hi : (q : Nat) = i) (hn : pc + 1 = n) (kk : Ge w adr k n lv (.int x :: st) S F) : Ge w adr k pc lv (st) S F := by
  obtain ⟨p, l, e, R, s, m, args, below, meth, c, nL, kc, ks, Qf, A⟩ := k
  obtain ⟨hx, hb, hml, hnl, hown, hts, hK, hj, hA, hN, hkc, hks, hfr, hlo⟩ := C
  subst hn
  intro r S2 hF H locs ls hP hS hl2
  exact lv_iload_n hx hb hd hi (lv_at hl2 j hl) (kk r S2 hF H locs ls hP hS hl2)
theorem ge_iload (C : Cx w adr k cc own nL fr lo) {i : Nat} {x : Int32} (j : Nat) (hl : lv[j]? = some (i, .int x)) (hd : decode cc pc = .ok (.iload i, 2)) (hn : pc + 2 = n) (kk : Ge w adr k n lv (.int x :: st) S F) : Ge w adr k pc lv (st) S F := by
  obtain ⟨p, l, e, R, s, m, args, below, meth, c, nL, kc, ks, Qf, A⟩ := k
  obtain ⟨hx, hb, hml, hnl, hown, hts, hK, hj, hA, hN, hkc, hks, hfr, hlo⟩ := C
  subst hn
  intro r S2 hF H locs ls hP hS hl2
  exact lv_iload hx hb hd (lv_at hl2 j hl) (kk r S2 hF H locs ls hP hS hl2)
theorem ge_lload_n (C : Cx w adr k cc own nL fr lo) {q : Fin 4} {i : Nat} {x : Int64} (j : Nat) (hl : lv[j]? = some (i, .long x)) (hd : decode cc pc = .ok (.lload_n q, 1)) (hi : (q : Nat) = i) (hn : pc + 1 = n) (kk : Ge w adr k n lv (.long x :: st) S F) : Ge w adr k pc lv (st) S F := by
  obtain ⟨p, l, e, R, s, m, args, below, meth, c, nL, kc, ks, Qf, A⟩ := k
  obtain ⟨hx, hb, hml, hnl, hown, hts, hK, hj, hA, hN, hkc, hks, hfr, hlo⟩ := C
  subst hn
  intro r S2 hF H locs ls hP hS hl2
  exact lv_lload_n hx hb hd hi (lv_at hl2 j hl) (kk r S2 hF H locs ls hP hS hl2)
theorem ge_lload (C : Cx w adr k cc own nL fr lo) {i : Nat} {x : Int64} (j : Nat) (hl : lv[j]? = some (i, .long x)) (hd : decode cc pc = .ok (.lload i, 2)) (hn : pc + 2 = n) (kk : Ge w adr k n lv (.long x :: st) S F) : Ge w adr k pc lv (st) S F := by
  obtain ⟨p, l, e, R, s, m, args, below, meth, c, nL, kc, ks, Qf, A⟩ := k
  obtain ⟨hx, hb, hml, hnl, hown, hts, hK, hj, hA, hN, hkc, hks, hfr, hlo⟩ := C
  subst hn
  intro r S2 hF H locs ls hP hS hl2
  exact lv_lload hx hb hd (lv_at hl2 j hl) (kk r S2 hF H locs ls hP hS hl2)
theorem ge_aload_n (C : Cx w adr k cc own nL fr lo) {q : Fin 4} {i : Nat} {x : Nat} (j : Nat) (hl : lv[j]? = some (i, .ref x)) (hd : decode cc pc = .ok (.aload_n q, 1)) (hi : (q : Nat) = i) (hn : pc + 1 = n) (kk : Ge w adr k n lv (.ref x :: st) S F) : Ge w adr k pc lv (st) S F := by
  obtain ⟨p, l, e, R, s, m, args, below, meth, c, nL, kc, ks, Qf, A⟩ := k
  obtain ⟨hx, hb, hml, hnl, hown, hts, hK, hj, hA, hN, hkc, hks, hfr, hlo⟩ := C
  subst hn
  intro r S2 hF H locs ls hP hS hl2
  exact lv_aload_n hx hb hd hi (lv_at hl2 j hl) (kk r S2 hF H locs ls hP hS hl2)
theorem ge_aload (C : Cx w adr k cc own nL fr lo) {i : Nat} {x : Nat} (j : Nat) (hl : lv[j]? = some (i, .ref x)) (hd : decode cc pc = .ok (.aload i, 2)) (hn : pc + 2 = n) (kk : Ge w adr k n lv (.ref x :: st) S F) : Ge w adr k pc lv (st) S F := by
  obtain ⟨p, l, e, R, s, m, args, below, meth, c, nL, kc, ks, Qf, A⟩ := k
  obtain ⟨hx, hb, hml, hnl, hown, hts, hK, hj, hA, hN, hkc, hks, hfr, hlo⟩ := C
  subst hn
  intro r S2 hF H locs ls hP hS hl2
  exact lv_aload hx hb hd (lv_at hl2 j hl) (kk r S2 hF H locs ls hP hS hl2)
theorem ge_iadd (C : Cx w adr k cc own nL fr lo) {x y : Int32} (hd : decode cc pc = .ok (.iadd, 1)) (hn : pc + 1 = n) (kk : Ge w adr k n lv (.int (x + y) :: st) S F) : Ge w adr k pc lv (.int y :: .int x :: st) S F := by
  obtain ⟨p, l, e, R, s, m, args, below, meth, c, nL, kc, ks, Qf, A⟩ := k
  obtain ⟨hx, hb, hml, hnl, hown, hts, hK, hj, hA, hN, hkc, hks, hfr, hlo⟩ := C
  subst hn
  intro r S2 hF H locs ls hP hS hl
  exact lv_iadd hx hb hd (kk r S2 hF H locs ls hP hS hl)
theorem ge_isub (C : Cx w adr k cc own nL fr lo) {x y : Int32} (hd : decode cc pc = .ok (.isub, 1)) (hn : pc + 1 = n) (kk : Ge w adr k n lv (.int (x - y) :: st) S F) : Ge w adr k pc lv (.int y :: .int x :: st) S F := by
  obtain ⟨p, l, e, R, s, m, args, below, meth, c, nL, kc, ks, Qf, A⟩ := k
  obtain ⟨hx, hb, hml, hnl, hown, hts, hK, hj, hA, hN, hkc, hks, hfr, hlo⟩ := C
  subst hn
  intro r S2 hF H locs ls hP hS hl
  exact lv_isub hx hb hd (kk r S2 hF H locs ls hP hS hl)
theorem ge_imul (C : Cx w adr k cc own nL fr lo) {x y : Int32} (hd : decode cc pc = .ok (.imul, 1)) (hn : pc + 1 = n) (kk : Ge w adr k n lv (.int (x * y) :: st) S F) : Ge w adr k pc lv (.int y :: .int x :: st) S F := by
  obtain ⟨p, l, e, R, s, m, args, below, meth, c, nL, kc, ks, Qf, A⟩ := k
  obtain ⟨hx, hb, hml, hnl, hown, hts, hK, hj, hA, hN, hkc, hks, hfr, hlo⟩ := C
  subst hn
  intro r S2 hF H locs ls hP hS hl
  exact lv_imul hx hb hd (kk r S2 hF H locs ls hP hS hl)
theorem ge_iand (C : Cx w adr k cc own nL fr lo) {x y : Int32} (hd : decode cc pc = .ok (.iand, 1)) (hn : pc + 1 = n) (kk : Ge w adr k n lv (.int (x &&& y) :: st) S F) : Ge w adr k pc lv (.int y :: .int x :: st) S F := by
  obtain ⟨p, l, e, R, s, m, args, below, meth, c, nL, kc, ks, Qf, A⟩ := k
  obtain ⟨hx, hb, hml, hnl, hown, hts, hK, hj, hA, hN, hkc, hks, hfr, hlo⟩ := C
  subst hn
  intro r S2 hF H locs ls hP hS hl
  exact lv_iand hx hb hd (kk r S2 hF H locs ls hP hS hl)
theorem ge_ior (C : Cx w adr k cc own nL fr lo) {x y : Int32} (hd : decode cc pc = .ok (.ior, 1)) (hn : pc + 1 = n) (kk : Ge w adr k n lv (.int (x ||| y) :: st) S F) : Ge w adr k pc lv (.int y :: .int x :: st) S F := by
  obtain ⟨p, l, e, R, s, m, args, below, meth, c, nL, kc, ks, Qf, A⟩ := k
  obtain ⟨hx, hb, hml, hnl, hown, hts, hK, hj, hA, hN, hkc, hks, hfr, hlo⟩ := C
  subst hn
  intro r S2 hF H locs ls hP hS hl
  exact lv_ior hx hb hd (kk r S2 hF H locs ls hP hS hl)
theorem ge_ixor (C : Cx w adr k cc own nL fr lo) {x y : Int32} (hd : decode cc pc = .ok (.ixor, 1)) (hn : pc + 1 = n) (kk : Ge w adr k n lv (.int (x ^^^ y) :: st) S F) : Ge w adr k pc lv (.int y :: .int x :: st) S F := by
  obtain ⟨p, l, e, R, s, m, args, below, meth, c, nL, kc, ks, Qf, A⟩ := k
  obtain ⟨hx, hb, hml, hnl, hown, hts, hK, hj, hA, hN, hkc, hks, hfr, hlo⟩ := C
  subst hn
  intro r S2 hF H locs ls hP hS hl
  exact lv_ixor hx hb hd (kk r S2 hF H locs ls hP hS hl)
theorem ge_ishl (C : Cx w adr k cc own nL fr lo) {x y : Int32} (hd : decode cc pc = .ok (.ishl, 1)) (hn : pc + 1 = n) (kk : Ge w adr k n lv (.int (x <<< (y &&& 31)) :: st) S F) : Ge w adr k pc lv (.int y :: .int x :: st) S F := by
  obtain ⟨p, l, e, R, s, m, args, below, meth, c, nL, kc, ks, Qf, A⟩ := k
  obtain ⟨hx, hb, hml, hnl, hown, hts, hK, hj, hA, hN, hkc, hks, hfr, hlo⟩ := C
  subst hn
  intro r S2 hF H locs ls hP hS hl
  exact lv_ishl hx hb hd (kk r S2 hF H locs ls hP hS hl)
theorem ge_ishr (C : Cx w adr k cc own nL fr lo) {x y : Int32} (hd : decode cc pc = .ok (.ishr, 1)) (hn : pc + 1 = n) (kk : Ge w adr k n lv (.int (x >>> (y &&& 31)) :: st) S F) : Ge w adr k pc lv (.int y :: .int x :: st) S F := by
  obtain ⟨p, l, e, R, s, m, args, below, meth, c, nL, kc, ks, Qf, A⟩ := k
  obtain ⟨hx, hb, hml, hnl, hown, hts, hK, hj, hA, hN, hkc, hks, hfr, hlo⟩ := C
  subst hn
  intro r S2 hF H locs ls hP hS hl
  exact lv_ishr hx hb hd (kk r S2 hF H locs ls hP hS hl)
theorem ge_ladd (C : Cx w adr k cc own nL fr lo) {x y : Int64} (hd : decode cc pc = .ok (.ladd, 1)) (hn : pc + 1 = n) (kk : Ge w adr k n lv (.long (x + y) :: st) S F) : Ge w adr k pc lv (.long y :: .long x :: st) S F := by
  obtain ⟨p, l, e, R, s, m, args, below, meth, c, nL, kc, ks, Qf, A⟩ := k
  obtain ⟨hx, hb, hml, hnl, hown, hts, hK, hj, hA, hN, hkc, hks, hfr, hlo⟩ := C
  subst hn
  intro r S2 hF H locs ls hP hS hl
  exact lv_ladd hx hb hd (kk r S2 hF H locs ls hP hS hl)
theorem ge_lmul (C : Cx w adr k cc own nL fr lo) {x y : Int64} (hd : decode cc pc = .ok (.lmul, 1)) (hn : pc + 1 = n) (kk : Ge w adr k n lv (.long (x * y) :: st) S F) : Ge w adr k pc lv (.long y :: .long x :: st) S F := by
  obtain ⟨p, l, e, R, s, m, args, below, meth, c, nL, kc, ks, Qf, A⟩ := k
  obtain ⟨hx, hb, hml, hnl, hown, hts, hK, hj, hA, hN, hkc, hks, hfr, hlo⟩ := C
  subst hn
  intro r S2 hF H locs ls hP hS hl
  exact lv_lmul hx hb hd (kk r S2 hF H locs ls hP hS hl)
theorem ge_land (C : Cx w adr k cc own nL fr lo) {x y : Int64} (hd : decode cc pc = .ok (.land, 1)) (hn : pc + 1 = n) (kk : Ge w adr k n lv (.long (x &&& y) :: st) S F) : Ge w adr k pc lv (.long y :: .long x :: st) S F := by
  obtain ⟨p, l, e, R, s, m, args, below, meth, c, nL, kc, ks, Qf, A⟩ := k
  obtain ⟨hx, hb, hml, hnl, hown, hts, hK, hj, hA, hN, hkc, hks, hfr, hlo⟩ := C
  subst hn
  intro r S2 hF H locs ls hP hS hl
  exact lv_land hx hb hd (kk r S2 hF H locs ls hP hS hl)
theorem ge_ldiv (C : Cx w adr k cc own nL fr lo) {x y : Int64} (h0 : ¬ y = 0) (hd : decode cc pc = .ok (.ldiv, 1)) (hn : pc + 1 = n) (kk : Ge w adr k n lv (.long (x / y) :: st) S F) : Ge w adr k pc lv (.long y :: .long x :: st) S F := by
  obtain ⟨p, l, e, R, s, m, args, below, meth, c, nL, kc, ks, Qf, A⟩ := k
  obtain ⟨hx, hb, hml, hnl, hown, hts, hK, hj, hA, hN, hkc, hks, hfr, hlo⟩ := C
  subst hn
  intro r S2 hF H locs ls hP hS hl
  exact lv_ldiv hx hb hd h0 (kk r S2 hF H locs ls hP hS hl)
theorem ge_lrem (C : Cx w adr k cc own nL fr lo) {x y : Int64} (h0 : ¬ y = 0) (hd : decode cc pc = .ok (.lrem, 1)) (hn : pc + 1 = n) (kk : Ge w adr k n lv (.long (lrm x y) :: st) S F) : Ge w adr k pc lv (.long y :: .long x :: st) S F := by
  obtain ⟨p, l, e, R, s, m, args, below, meth, c, nL, kc, ks, Qf, A⟩ := k
  obtain ⟨hx, hb, hml, hnl, hown, hts, hK, hj, hA, hN, hkc, hks, hfr, hlo⟩ := C
  subst hn
  intro r S2 hF H locs ls hP hS hl
  exact lv_lrem hx hb hd h0 (kk r S2 hF H locs ls hP hS hl)
theorem ge_idiv0 (C : Cx w adr k cc own nL fr lo) {x y : Int32} (h0 : ¬ y = 0) (hd : decode cc pc = .ok (.idiv, 1)) (hn : pc + 1 = n) (kk : Ge w adr k n lv (.int (x / y) :: st) S F) : Ge w adr k pc lv (.int y :: .int x :: st) S F := by
  obtain ⟨p, l, e, R, s, m, args, below, meth, c, nL, kc, ks, Qf, A⟩ := k
  obtain ⟨hx, hb, hml, hnl, hown, hts, hK, hj, hA, hN, hkc, hks, hfr, hlo⟩ := C
  subst hn
  intro r S2 hF H locs ls hP hS hl
  exact lv_idiv hx hb hd h0 (kk r S2 hF H locs ls hP hS hl)
theorem ge_irem0 (C : Cx w adr k cc own nL fr lo) {x y : Int32} (h0 : ¬ y = 0) (hd : decode cc pc = .ok (.irem, 1)) (hn : pc + 1 = n) (kk : Ge w adr k n lv (.int (irm x y) :: st) S F) : Ge w adr k pc lv (.int y :: .int x :: st) S F := by
  obtain ⟨p, l, e, R, s, m, args, below, meth, c, nL, kc, ks, Qf, A⟩ := k
  obtain ⟨hx, hb, hml, hnl, hown, hts, hK, hj, hA, hN, hkc, hks, hfr, hlo⟩ := C
  subst hn
  intro r S2 hF H locs ls hP hS hl
  exact lv_irem hx hb hd h0 (kk r S2 hF H locs ls hP hS hl)
theorem ge_iushr (C : Cx w adr k cc own nL fr lo) {x y : Int32} (hd : decode cc pc = .ok (.iushr, 1)) (hn : pc + 1 = n) (kk : Ge w adr k n lv (.int (ius x y) :: st) S F) : Ge w adr k pc lv (.int y :: .int x :: st) S F := by
  obtain ⟨p, l, e, R, s, m, args, below, meth, c, nL, kc, ks, Qf, A⟩ := k
  obtain ⟨hx, hb, hml, hnl, hown, hts, hK, hj, hA, hN, hkc, hks, hfr, hlo⟩ := C
  subst hn
  intro r S2 hF H locs ls hP hS hl
  exact lv_iushr hx hb hd rfl (kk r S2 hF H locs ls hP hS hl)
theorem ge_i2l (C : Cx w adr k cc own nL fr lo) {x : Int32} (hd : decode cc pc = .ok (.i2l, 1)) (hn : pc + 1 = n) (kk : Ge w adr k n lv (.long x.toInt64 :: st) S F) : Ge w adr k pc lv (.int x :: st) S F := by
  obtain ⟨p, l, e, R, s, m, args, below, meth, c, nL, kc, ks, Qf, A⟩ := k
  obtain ⟨hx, hb, hml, hnl, hown, hts, hK, hj, hA, hN, hkc, hks, hfr, hlo⟩ := C
  subst hn
  intro r S2 hF H locs ls hP hS hl
  exact lv_i2l hx hb hd rfl (kk r S2 hF H locs ls hP hS hl)
theorem ge_l2i (C : Cx w adr k cc own nL fr lo) {x : Int64} (hd : decode cc pc = .ok (.l2i, 1)) (hn : pc + 1 = n) (kk : Ge w adr k n lv (.int x.toInt32 :: st) S F) : Ge w adr k pc lv (.long x :: st) S F := by
  obtain ⟨p, l, e, R, s, m, args, below, meth, c, nL, kc, ks, Qf, A⟩ := k
  obtain ⟨hx, hb, hml, hnl, hown, hts, hK, hj, hA, hN, hkc, hks, hfr, hlo⟩ := C
  subst hn
  intro r S2 hF H locs ls hP hS hl
  exact lv_l2i hx hb hd rfl (kk r S2 hF H locs ls hP hS hl)
theorem ge_lcmp (C : Cx w adr k cc own nL fr lo) {x y : Int64} (hd : decode cc pc = .ok (.lcmp, 1)) (hn : pc + 1 = n) (kk : Ge w adr k n lv (.int (lg_cmp x y) :: st) S F) : Ge w adr k pc lv (.long y :: .long x :: st) S F := by
  obtain ⟨p, l, e, R, s, m, args, below, meth, c, nL, kc, ks, Qf, A⟩ := k
  obtain ⟨hx, hb, hml, hnl, hown, hts, hK, hj, hA, hN, hkc, hks, hfr, hlo⟩ := C
  subst hn
  intro r S2 hF H locs ls hP hS hl
  exact W.lcmp hx hb hd (kk r S2 hF H locs ls hP hS hl)
theorem ge_dup (C : Cx w adr k cc own nL fr lo) {v : Value} (hd : decode cc pc = .ok (.dup, 1)) (hv : v.category = 1) (hn : pc + 1 = n) (kk : Ge w adr k n lv (v :: v :: st) S F) : Ge w adr k pc lv (v :: st) S F := by
  obtain ⟨p, l, e, R, s, m, args, below, meth, c, nL, kc, ks, Qf, A⟩ := k
  obtain ⟨hx, hb, hml, hnl, hown, hts, hK, hj, hA, hN, hkc, hks, hfr, hlo⟩ := C
  subst hn
  intro r S2 hF H locs ls hP hS hl
  exact lv_dup hx hb hd hv (kk r S2 hF H locs ls hP hS hl)
theorem ge_dup2 (C : Cx w adr k cc own nL fr lo) {v u : Value} (hd : decode cc pc = .ok (.dup2, 1)) (hv : v.category = 1) (hu : u.category = 1) (hn : pc + 1 = n) (kk : Ge w adr k n lv (v :: u :: v :: u :: st) S F) : Ge w adr k pc lv (v :: u :: st) S F := by
  obtain ⟨p, l, e, R, s, m, args, below, meth, c, nL, kc, ks, Qf, A⟩ := k
  obtain ⟨hx, hb, hml, hnl, hown, hts, hK, hj, hA, hN, hkc, hks, hfr, hlo⟩ := C
  subst hn
  intro r S2 hF H locs ls hP hS hl
  exact lv_dup2_11 hx hb hd hv hu (kk r S2 hF H locs ls hP hS hl)
theorem ge_pop (C : Cx w adr k cc own nL fr lo) {v : Value} (hd : decode cc pc = .ok (.pop, 1)) (hv : v.category = 1) (hn : pc + 1 = n) (kk : Ge w adr k n lv (st) S F) : Ge w adr k pc lv (v :: st) S F := by
  obtain ⟨p, l, e, R, s, m, args, below, meth, c, nL, kc, ks, Qf, A⟩ := k
  obtain ⟨hx, hb, hml, hnl, hown, hts, hK, hj, hA, hN, hkc, hks, hfr, hlo⟩ := C
  subst hn
  intro r S2 hF H locs ls hP hS hl
  exact lv_pop hx hb hd hv (kk r S2 hF H locs ls hP hS hl)
theorem ge_mmax (C : Cx w adr k cc own nL fr lo) {x y : Int32} {i : Nat} (hl : Cond.methodLink own i Lib.Math.max.name ∈ tz) (h1 : 1 ≤ fr) (h2 : (st.map fun v => v.category).sum + 13 ≤ lo) (hd : decode cc pc = .ok (.invokestatic i, 3)) (hn : pc + 3 = n) (kk : Ge w adr k n lv (.int (imax x y) :: st) S F) : Ge w adr k pc lv (.int y :: .int x :: st) S F := by
  obtain ⟨p, l, e, R, s, m, args, below, meth, c, nL, kc, ks, Qf, A⟩ := k
  obtain ⟨hx, hb, hml, hnl, hown, hts, hK, hj, hA, hN, hkc, hks, hfr, hlo⟩ := C
  subst hn
  intro r S2 hF H locs ls hP hS hl2
  exact va_mmax hx hb (by rw [hml, hnl]; exact (hl2.1.trans hnl).symm) hown (hts _ hl) (hts _ st_mmax) (hts _ in_math) (hts _ cd_mmax) (Nat.le_trans h1 hfr) (Nat.le_trans h2 hlo) hkc hks hd (kk r S2 hF H locs ls hP hS hl2)
theorem ge_mmin (C : Cx w adr k cc own nL fr lo) {x y : Int32} {i : Nat} (hl : Cond.methodLink own i Lib.Math.min.name ∈ tz) (h1 : 1 ≤ fr) (h2 : (st.map fun v => v.category).sum + 13 ≤ lo) (hd : decode cc pc = .ok (.invokestatic i, 3)) (hn : pc + 3 = n) (kk : Ge w adr k n lv (.int (imin x y) :: st) S F) : Ge w adr k pc lv (.int y :: .int x :: st) S F := by
  obtain ⟨p, l, e, R, s, m, args, below, meth, c, nL, kc, ks, Qf, A⟩ := k
  obtain ⟨hx, hb, hml, hnl, hown, hts, hK, hj, hA, hN, hkc, hks, hfr, hlo⟩ := C
  subst hn
  intro r S2 hF H locs ls hP hS hl2
  exact va_mmin hx hb (by rw [hml, hnl]; exact (hl2.1.trans hnl).symm) hown (hts _ hl) (hts _ st_mmin) (hts _ in_math) (hts _ cd_mmin) (Nat.le_trans h1 hfr) (Nat.le_trans h2 hlo) hkc hks hd (kk r S2 hF H locs ls hP hS hl2)
theorem ge_goto (C : Cx w adr k cc own nL fr lo) {off : Int} (hd : decode cc pc = .ok (.goto off, 3)) (hn : (pc : Int) + off = (n : Int)) (kk : Ge w adr k n lv st S F) : Ge w adr k pc lv st S F := by
  obtain ⟨p, l, e, R, s, m, args, below, meth, c, nL, kc, ks, Qf, A⟩ := k
  obtain ⟨hx, hb, hml, hnl, hown, hts, hK, hj, hA, hN, hkc, hks, hfr, hlo⟩ := C
  intro r S2 hF H locs ls hP hS hl
  exact lv_goto hx hb hd hn (kk r S2 hF H locs ls hP hS hl)
theorem ge_icmp_eq (C : Cx w adr k cc own nL fr lo) {t : Nat} {off : Int} {A1 A2 : Op} {x y : Int32} (hd : decode cc pc = .ok (.if_icmp .eq off, 3)) (ht : (pc : Int) + off = (t : Int)) (hn : pc + 3 = n) (kt : x = y → Ge w adr k t lv st S A1) (kf : ¬ x = y → Ge w adr k n lv st S A2) : Ge w adr k pc lv (.int y :: .int x :: st) S (if x = y then A1 else A2) := by
  obtain ⟨p, l, e, R, s, m, args, below, meth, c, nL, kc, ks, Qf, A⟩ := k
  obtain ⟨hx, hb, hml, hnl, hown, hts, hK, hj, hA, hN, hkc, hks, hfr, hlo⟩ := C
  subst hn
  intro r S2 hF H locs ls hP hS hl
  refine lv_icmp_eq hx hb hd ht (fun h => kt h r S2 (by rw [if_pos h] at hF; exact hF) H locs ls hP hS hl) (fun h => kf h r S2 (by rw [if_neg h] at hF; exact hF) H locs ls hP hS hl)
theorem ge_icmp_ne (C : Cx w adr k cc own nL fr lo) {t : Nat} {off : Int} {A1 A2 : Op} {x y : Int32} (hd : decode cc pc = .ok (.if_icmp .ne off, 3)) (ht : (pc : Int) + off = (t : Int)) (hn : pc + 3 = n) (kt : ¬ x = y → Ge w adr k t lv st S A1) (kf : x = y → Ge w adr k n lv st S A2) : Ge w adr k pc lv (.int y :: .int x :: st) S (if x = y then A2 else A1) := by
  obtain ⟨p, l, e, R, s, m, args, below, meth, c, nL, kc, ks, Qf, A⟩ := k
  obtain ⟨hx, hb, hml, hnl, hown, hts, hK, hj, hA, hN, hkc, hks, hfr, hlo⟩ := C
  subst hn
  intro r S2 hF H locs ls hP hS hl
  refine lv_icmp_ne hx hb hd ht (fun h => kt h r S2 (by rw [if_neg h] at hF; exact hF) H locs ls hP hS hl) (fun h => kf h r S2 (by rw [if_pos h] at hF; exact hF) H locs ls hP hS hl)
theorem ge_icmp_lt (C : Cx w adr k cc own nL fr lo) {t : Nat} {off : Int} {A1 A2 : Op} {x y : Int32} (hd : decode cc pc = .ok (.if_icmp .lt off, 3)) (ht : (pc : Int) + off = (t : Int)) (hn : pc + 3 = n) (kt : x < y → Ge w adr k t lv st S A1) (kf : ¬ x < y → Ge w adr k n lv st S A2) : Ge w adr k pc lv (.int y :: .int x :: st) S (if x < y then A1 else A2) := by
  obtain ⟨p, l, e, R, s, m, args, below, meth, c, nL, kc, ks, Qf, A⟩ := k
  obtain ⟨hx, hb, hml, hnl, hown, hts, hK, hj, hA, hN, hkc, hks, hfr, hlo⟩ := C
  subst hn
  intro r S2 hF H locs ls hP hS hl
  refine lv_icmp_lt hx hb hd ht (fun h => kt h r S2 (by rw [if_pos h] at hF; exact hF) H locs ls hP hS hl) (fun h => kf h r S2 (by rw [if_neg h] at hF; exact hF) H locs ls hP hS hl)
theorem ge_icmp_ge (C : Cx w adr k cc own nL fr lo) {t : Nat} {off : Int} {A1 A2 : Op} {x y : Int32} (hd : decode cc pc = .ok (.if_icmp .ge off, 3)) (ht : (pc : Int) + off = (t : Int)) (hn : pc + 3 = n) (kt : y ≤ x → Ge w adr k t lv st S A1) (kf : ¬ y ≤ x → Ge w adr k n lv st S A2) : Ge w adr k pc lv (.int y :: .int x :: st) S (if y ≤ x then A1 else A2) := by
  obtain ⟨p, l, e, R, s, m, args, below, meth, c, nL, kc, ks, Qf, A⟩ := k
  obtain ⟨hx, hb, hml, hnl, hown, hts, hK, hj, hA, hN, hkc, hks, hfr, hlo⟩ := C
  subst hn
  intro r S2 hF H locs ls hP hS hl
  refine lv_icmp_ge hx hb hd ht (fun h => kt h r S2 (by rw [if_pos h] at hF; exact hF) H locs ls hP hS hl) (fun h => kf h r S2 (by rw [if_neg h] at hF; exact hF) H locs ls hP hS hl)
theorem ge_icmp_gt (C : Cx w adr k cc own nL fr lo) {t : Nat} {off : Int} {A1 A2 : Op} {x y : Int32} (hd : decode cc pc = .ok (.if_icmp .gt off, 3)) (ht : (pc : Int) + off = (t : Int)) (hn : pc + 3 = n) (kt : y < x → Ge w adr k t lv st S A1) (kf : ¬ y < x → Ge w adr k n lv st S A2) : Ge w adr k pc lv (.int y :: .int x :: st) S (if y < x then A1 else A2) := by
  obtain ⟨p, l, e, R, s, m, args, below, meth, c, nL, kc, ks, Qf, A⟩ := k
  obtain ⟨hx, hb, hml, hnl, hown, hts, hK, hj, hA, hN, hkc, hks, hfr, hlo⟩ := C
  subst hn
  intro r S2 hF H locs ls hP hS hl
  refine lv_icmp_gt hx hb hd ht (fun h => kt h r S2 (by rw [if_pos h] at hF; exact hF) H locs ls hP hS hl) (fun h => kf h r S2 (by rw [if_neg h] at hF; exact hF) H locs ls hP hS hl)
theorem ge_icmp_le (C : Cx w adr k cc own nL fr lo) {t : Nat} {off : Int} {A1 A2 : Op} {x y : Int32} (hd : decode cc pc = .ok (.if_icmp .le off, 3)) (ht : (pc : Int) + off = (t : Int)) (hn : pc + 3 = n) (kt : x ≤ y → Ge w adr k t lv st S A1) (kf : ¬ x ≤ y → Ge w adr k n lv st S A2) : Ge w adr k pc lv (.int y :: .int x :: st) S (if x ≤ y then A1 else A2) := by
  obtain ⟨p, l, e, R, s, m, args, below, meth, c, nL, kc, ks, Qf, A⟩ := k
  obtain ⟨hx, hb, hml, hnl, hown, hts, hK, hj, hA, hN, hkc, hks, hfr, hlo⟩ := C
  subst hn
  intro r S2 hF H locs ls hP hS hl
  refine lv_icmp_le hx hb hd ht (fun h => kt h r S2 (by rw [if_pos h] at hF; exact hF) H locs ls hP hS hl) (fun h => kf h r S2 (by rw [if_neg h] at hF; exact hF) H locs ls hP hS hl)
theorem ge_if_eq (C : Cx w adr k cc own nL fr lo) {t : Nat} {off : Int} {A1 A2 : Op} {x : Int32} (hd : decode cc pc = .ok (.ifCond .eq off, 3)) (ht : (pc : Int) + off = (t : Int)) (hn : pc + 3 = n) (kt : x = 0 → Ge w adr k t lv st S A1) (kf : ¬ x = 0 → Ge w adr k n lv st S A2) : Ge w adr k pc lv (.int x :: st) S (if x = 0 then A1 else A2) := by
  obtain ⟨p, l, e, R, s, m, args, below, meth, c, nL, kc, ks, Qf, A⟩ := k
  obtain ⟨hx, hb, hml, hnl, hown, hts, hK, hj, hA, hN, hkc, hks, hfr, hlo⟩ := C
  subst hn
  intro r S2 hF H locs ls hP hS hl
  refine lv_if_eq hx hb hd ht (fun h => kt h r S2 (by rw [if_pos h] at hF; exact hF) H locs ls hP hS hl) (fun h => kf h r S2 (by rw [if_neg h] at hF; exact hF) H locs ls hP hS hl)
theorem ge_if_ne (C : Cx w adr k cc own nL fr lo) {t : Nat} {off : Int} {A1 A2 : Op} {x : Int32} (hd : decode cc pc = .ok (.ifCond .ne off, 3)) (ht : (pc : Int) + off = (t : Int)) (hn : pc + 3 = n) (kt : ¬ x = 0 → Ge w adr k t lv st S A1) (kf : x = 0 → Ge w adr k n lv st S A2) : Ge w adr k pc lv (.int x :: st) S (if x = 0 then A2 else A1) := by
  obtain ⟨p, l, e, R, s, m, args, below, meth, c, nL, kc, ks, Qf, A⟩ := k
  obtain ⟨hx, hb, hml, hnl, hown, hts, hK, hj, hA, hN, hkc, hks, hfr, hlo⟩ := C
  subst hn
  intro r S2 hF H locs ls hP hS hl
  refine lv_if_ne hx hb hd ht (fun h => kt h r S2 (by rw [if_neg h] at hF; exact hF) H locs ls hP hS hl) (fun h => kf h r S2 (by rw [if_pos h] at hF; exact hF) H locs ls hP hS hl)
theorem ge_if_lt (C : Cx w adr k cc own nL fr lo) {t : Nat} {off : Int} {A1 A2 : Op} {x : Int32} (hd : decode cc pc = .ok (.ifCond .lt off, 3)) (ht : (pc : Int) + off = (t : Int)) (hn : pc + 3 = n) (kt : x < 0 → Ge w adr k t lv st S A1) (kf : ¬ x < 0 → Ge w adr k n lv st S A2) : Ge w adr k pc lv (.int x :: st) S (if x < 0 then A1 else A2) := by
  obtain ⟨p, l, e, R, s, m, args, below, meth, c, nL, kc, ks, Qf, A⟩ := k
  obtain ⟨hx, hb, hml, hnl, hown, hts, hK, hj, hA, hN, hkc, hks, hfr, hlo⟩ := C
  subst hn
  intro r S2 hF H locs ls hP hS hl
  refine lv_if_lt hx hb hd ht (fun h => kt h r S2 (by rw [if_pos h] at hF; exact hF) H locs ls hP hS hl) (fun h => kf h r S2 (by rw [if_neg h] at hF; exact hF) H locs ls hP hS hl)
theorem ge_if_ge (C : Cx w adr k cc own nL fr lo) {t : Nat} {off : Int} {A1 A2 : Op} {x : Int32} (hd : decode cc pc = .ok (.ifCond .ge off, 3)) (ht : (pc : Int) + off = (t : Int)) (hn : pc + 3 = n) (kt : 0 ≤ x → Ge w adr k t lv st S A1) (kf : ¬ 0 ≤ x → Ge w adr k n lv st S A2) : Ge w adr k pc lv (.int x :: st) S (if 0 ≤ x then A1 else A2) := by
  obtain ⟨p, l, e, R, s, m, args, below, meth, c, nL, kc, ks, Qf, A⟩ := k
  obtain ⟨hx, hb, hml, hnl, hown, hts, hK, hj, hA, hN, hkc, hks, hfr, hlo⟩ := C
  subst hn
  intro r S2 hF H locs ls hP hS hl
  refine lv_if_ge hx hb hd ht (fun h => kt h r S2 (by rw [if_pos h] at hF; exact hF) H locs ls hP hS hl) (fun h => kf h r S2 (by rw [if_neg h] at hF; exact hF) H locs ls hP hS hl)
theorem ge_if_gt (C : Cx w adr k cc own nL fr lo) {t : Nat} {off : Int} {A1 A2 : Op} {x : Int32} (hd : decode cc pc = .ok (.ifCond .gt off, 3)) (ht : (pc : Int) + off = (t : Int)) (hn : pc + 3 = n) (kt : 0 < x → Ge w adr k t lv st S A1) (kf : ¬ 0 < x → Ge w adr k n lv st S A2) : Ge w adr k pc lv (.int x :: st) S (if 0 < x then A1 else A2) := by
  obtain ⟨p, l, e, R, s, m, args, below, meth, c, nL, kc, ks, Qf, A⟩ := k
  obtain ⟨hx, hb, hml, hnl, hown, hts, hK, hj, hA, hN, hkc, hks, hfr, hlo⟩ := C
  subst hn
  intro r S2 hF H locs ls hP hS hl
  refine lv_if_gt hx hb hd ht (fun h => kt h r S2 (by rw [if_pos h] at hF; exact hF) H locs ls hP hS hl) (fun h => kf h r S2 (by rw [if_neg h] at hF; exact hF) H locs ls hP hS hl)
theorem ge_if_le (C : Cx w adr k cc own nL fr lo) {t : Nat} {off : Int} {A1 A2 : Op} {x : Int32} (hd : decode cc pc = .ok (.ifCond .le off, 3)) (ht : (pc : Int) + off = (t : Int)) (hn : pc + 3 = n) (kt : x ≤ 0 → Ge w adr k t lv st S A1) (kf : ¬ x ≤ 0 → Ge w adr k n lv st S A2) : Ge w adr k pc lv (.int x :: st) S (if x ≤ 0 then A1 else A2) := by
  obtain ⟨p, l, e, R, s, m, args, below, meth, c, nL, kc, ks, Qf, A⟩ := k
  obtain ⟨hx, hb, hml, hnl, hown, hts, hK, hj, hA, hN, hkc, hks, hfr, hlo⟩ := C
  subst hn
  intro r S2 hF H locs ls hP hS hl
  refine lv_if_le hx hb hd ht (fun h => kt h r S2 (by rw [if_pos h] at hF; exact hF) H locs ls hP hS hl) (fun h => kf h r S2 (by rw [if_neg h] at hF; exact hF) H locs ls hP hS hl)
theorem ge_istore_n (C : Cx w adr k cc own nL fr lo) {q0 : Fin 4} {i : Nat} {x : Int32} {lv2 : List (Nat × Value)} (hd : decode cc pc = .ok (.istore_n q0, 1)) (hn : pc + 1 = n) (hi : (q0 : Nat) = i) (hb0 : i < nL) (hl0 : (i, Value.int x) :: lv.filter (fun q => !(q.1 == i) && !(q.1 + 1 == i && q.2.category == 2)) = lv2) (kk : Ge w adr k n lv2 st S F) : Ge w adr k pc lv (.int x :: st) S F := by
  obtain ⟨p, l, e, R, s, m, args, below, meth, c, nL, kc, ks, Qf, A⟩ := k
  obtain ⟨hx, hb, hml, hnl, hown, hts, hK, hj, hA, hN, hkc, hks, hfr, hlo⟩ := C
  subst hn
  subst hnl
  intro r S2 hF H locs ls hP hS hl
  exact lv_istore_n hx hb hd hi hl hb0 hl0 (fun ls2 hl2 => kk r S2 hF H locs ls2 hP hS hl2)
theorem ge_istore (C : Cx w adr k cc own nL fr lo) {i : Nat} {x : Int32} {lv2 : List (Nat × Value)} (hd : decode cc pc = .ok (.istore i, 2)) (hn : pc + 2 = n) (hb0 : i < nL) (hl0 : (i, Value.int x) :: lv.filter (fun q => !(q.1 == i) && !(q.1 + 1 == i && q.2.category == 2)) = lv2) (kk : Ge w adr k n lv2 st S F) : Ge w adr k pc lv (.int x :: st) S F := by
  obtain ⟨p, l, e, R, s, m, args, below, meth, c, nL, kc, ks, Qf, A⟩ := k
  obtain ⟨hx, hb, hml, hnl, hown, hts, hK, hj, hA, hN, hkc, hks, hfr, hlo⟩ := C
  subst hn
  subst hnl
  intro r S2 hF H locs ls hP hS hl
  exact lv_istore hx hb hd hl hb0 hl0 (fun ls2 hl2 => kk r S2 hF H locs ls2 hP hS hl2)
theorem ge_astore_n (C : Cx w adr k cc own nL fr lo) {q0 : Fin 4} {i : Nat} {x : Nat} {lv2 : List (Nat × Value)} (hd : decode cc pc = .ok (.astore_n q0, 1)) (hn : pc + 1 = n) (hi : (q0 : Nat) = i) (hb0 : i < nL) (hl0 : (i, Value.ref x) :: lv.filter (fun q => !(q.1 == i) && !(q.1 + 1 == i && q.2.category == 2)) = lv2) (kk : Ge w adr k n lv2 st S F) : Ge w adr k pc lv (.ref x :: st) S F := by
  obtain ⟨p, l, e, R, s, m, args, below, meth, c, nL, kc, ks, Qf, A⟩ := k
  obtain ⟨hx, hb, hml, hnl, hown, hts, hK, hj, hA, hN, hkc, hks, hfr, hlo⟩ := C
  subst hn
  subst hnl
  intro r S2 hF H locs ls hP hS hl
  exact lv_astore_n hx hb hd hi hl hb0 hl0 (fun ls2 hl2 => kk r S2 hF H locs ls2 hP hS hl2)
theorem ge_astore (C : Cx w adr k cc own nL fr lo) {i : Nat} {x : Nat} {lv2 : List (Nat × Value)} (hd : decode cc pc = .ok (.astore i, 2)) (hn : pc + 2 = n) (hb0 : i < nL) (hl0 : (i, Value.ref x) :: lv.filter (fun q => !(q.1 == i) && !(q.1 + 1 == i && q.2.category == 2)) = lv2) (kk : Ge w adr k n lv2 st S F) : Ge w adr k pc lv (.ref x :: st) S F := by
  obtain ⟨p, l, e, R, s, m, args, below, meth, c, nL, kc, ks, Qf, A⟩ := k
  obtain ⟨hx, hb, hml, hnl, hown, hts, hK, hj, hA, hN, hkc, hks, hfr, hlo⟩ := C
  subst hn
  subst hnl
  intro r S2 hF H locs ls hP hS hl
  exact lv_astore hx hb hd hl hb0 hl0 (fun ls2 hl2 => kk r S2 hF H locs ls2 hP hS hl2)
theorem ge_lstore_n (C : Cx w adr k cc own nL fr lo) {q0 : Fin 4} {i : Nat} {x : Int64} {lv2 : List (Nat × Value)} (hd : decode cc pc = .ok (.lstore_n q0, 1)) (hn : pc + 1 = n) (hi : (q0 : Nat) = i) (hb0 : i + 1 < nL) (hl0 : (i, Value.long x) :: lv.filter (fun q => !(q.1 == i) && (!(q.1 == i + 1) && !(q.1 + 1 == i && q.2.category == 2))) = lv2) (kk : Ge w adr k n lv2 st S F) : Ge w adr k pc lv (.long x :: st) S F := by
  obtain ⟨p, l, e, R, s, m, args, below, meth, c, nL, kc, ks, Qf, A⟩ := k
  obtain ⟨hx, hb, hml, hnl, hown, hts, hK, hj, hA, hN, hkc, hks, hfr, hlo⟩ := C
  subst hn
  subst hnl
  intro r S2 hF H locs ls hP hS hl
  exact lv_lstore_n hx hb hd hi hl hb0 hl0 (fun ls2 hl2 => kk r S2 hF H locs ls2 hP hS hl2)
theorem ge_lstore (C : Cx w adr k cc own nL fr lo) {i : Nat} {x : Int64} {lv2 : List (Nat × Value)} (hd : decode cc pc = .ok (.lstore i, 2)) (hn : pc + 2 = n) (hb0 : i + 1 < nL) (hl0 : (i, Value.long x) :: lv.filter (fun q => !(q.1 == i) && (!(q.1 == i + 1) && !(q.1 + 1 == i && q.2.category == 2))) = lv2) (kk : Ge w adr k n lv2 st S F) : Ge w adr k pc lv (.long x :: st) S F := by
  obtain ⟨p, l, e, R, s, m, args, below, meth, c, nL, kc, ks, Qf, A⟩ := k
  obtain ⟨hx, hb, hml, hnl, hown, hts, hK, hj, hA, hN, hkc, hks, hfr, hlo⟩ := C
  subst hn
  subst hnl
  intro r S2 hF H locs ls hP hS hl
  exact lv_lstore hx hb hd hl hb0 hl0 (fun ls2 hl2 => kk r S2 hF H locs ls2 hP hS hl2)
theorem ge_iinc (C : Cx w adr k cc own nL fr lo) {i : Nat} {q : Int} {x v : Int32} {lv2 : List (Nat × Value)} (j : Nat) (hk : lv[j]? = some (i, .int x)) (hd : decode cc pc = .ok (.iinc i q, 3)) (hn : pc + 3 = n) (hv : x + Int32.ofInt q = v) (hb0 : i < nL) (hl0 : (i, Value.int v) :: lv.filter (fun q => !(q.1 == i) && !(q.1 + 1 == i && q.2.category == 2)) = lv2) (kk : Ge w adr k n lv2 st S F) : Ge w adr k pc lv st S F := by
  obtain ⟨p, l, e, R, s, m, args, below, meth, c, nL, kc, ks, Qf, A⟩ := k
  obtain ⟨hx, hb, hml, hnl, hown, hts, hK, hj, hA, hN, hkc, hks, hfr, hlo⟩ := C
  subst hn
  subst hnl
  intro r S2 hF H locs ls hP hS hl
  exact lv_iinc hx hb hd hl hk hv hb0 hl0 (fun ls2 hl2 => kk r S2 hF H locs ls2 hP hS hl2)
theorem ge_sub {lv2 : List (Nat × Value)} (ps : List Nat) (h : lv_pick lv ps = lv2) (kk : Ge w adr k pc lv2 st S F) : Ge w adr k pc lv st S F := by
  obtain ⟨p, l, e, R, s, m, args, below, meth, c, nL, kc, ks, Qf, A⟩ := k
  intro r S2 hF H locs ls hP hS hl
  exact kk r S2 hF H locs ls hP hS (lv_sub hl ps h)
theorem ge_none : Ge w adr k pc lv st S none := by
  obtain ⟨p, l, e, R, s, m, args, below, meth, c, nL, kc, ks, Qf, A⟩ := k
  intro r S2 hF
  cases hF
theorem ge_bi {v : Int32} {f : Int32 → Op} (h : ∀ x : Int32, Ge w adr k pc lv (.int x :: st) S (f x)) : Ge w adr k pc lv (.int v :: st) S (bi v f) := h v
theorem ge_bl {v : Int64} {f : Int64 → Op} (h : ∀ x : Int64, Ge w adr k pc lv (.long x :: st) S (f x)) : Ge w adr k pc lv (.long v :: st) S (bl v f) := h v
theorem ge_if {c : Prop} [Decidable c] {A B : Op} (ht : c → Ge w adr k pc lv st S A) (hf : ¬ c → Ge w adr k pc lv st S B) : Ge w adr k pc lv st S (if c then A else B) := by
  by_cases h : c
  · rw [if_pos h]; exact ht h
  · rw [if_neg h]; exact hf h
theorem ge_jn {α : Type} {rest : α} {f : α → Op} (P : α → Prop) (h1 : P rest) (h2 : ∀ j : α, P j → Ge w adr k pc lv st S (f j)) : Ge w adr k pc lv st S (jn rest f) := h2 rest h1
theorem ge_idiv (C : Cx w adr k cc own nL fr lo) {x y : Int32} (hd : decode cc pc = .ok (.idiv, 1)) (hn : pc + 1 = n) (kk : ¬ y = 0 → Ge w adr k n lv (.int (x / y) :: st) S F) : Ge w adr k pc lv (.int y :: .int x :: st) S (dz y F) := by
  unfold dz
  exact ge_if (fun _ => ge_none) (fun h => ge_idiv0 C h hd hn (kk h))
theorem ge_irem (C : Cx w adr k cc own nL fr lo) {x y : Int32} (hd : decode cc pc = .ok (.irem, 1)) (hn : pc + 1 = n) (kk : ¬ y = 0 → Ge w adr k n lv (.int (irm x y) :: st) S F) : Ge w adr k pc lv (.int y :: .int x :: st) S (dz y F) := by
  unfold dz
  exact ge_if (fun _ => ge_none) (fun h => ge_irem0 C h hd hn (kk h))
theorem ge_tsIn (C : Cx w adr k cc own nL fr lo) {dflt a b : Int} {offs : Array Int} {len t : Nat} {x : Int32} {off : Int} (hd : decode cc pc = .ok (.tableswitch dflt a b offs, len)) (h1 : ¬ x.toInt < a) (h2 : ¬ b < x.toInt) (ho : offs[(x.toInt - a).toNat]? = some off) (ht : (pc : Int) + off = (t : Int)) (kk : Ge w adr k t lv st S F) : Ge w adr k pc lv (.int x :: st) S F := by
  obtain ⟨p, l, e, R, s, m, args, below, meth, c, nL, kc, ks, Qf, A⟩ := k
  obtain ⟨hx, hb, hml, hnl, hown, hts, hK, hj, hA, hN, hkc, hks, hfr, hlo⟩ := C
  intro r S2 hF H locs ls hP hS hl
  exact lv_tableIn hx hb hd h1 h2 ho ht (kk r S2 hF H locs ls hP hS hl)
theorem ge_tsOut (C : Cx w adr k cc own nL fr lo) {dflt a b : Int} {offs : Array Int} {len t : Nat} {x : Int32} (hd : decode cc pc = .ok (.tableswitch dflt a b offs, len)) (h : x.toInt < a ∨ b < x.toInt) (ht : (pc : Int) + dflt = (t : Int)) (kk : Ge w adr k t lv st S F) : Ge w adr k pc lv (.int x :: st) S F := by
  obtain ⟨p, l, e, R, s, m, args, below, meth, c, nL, kc, ks, Qf, A⟩ := k
  obtain ⟨hx, hb, hml, hnl, hown, hts, hK, hj, hA, hN, hkc, hks, hfr, hlo⟩ := C
  intro r S2 hF H locs ls hP hS hl
  exact lv_tableOut hx hb hd h ht (kk r S2 hF H locs ls hP hS hl)
theorem ge_get (C : Cx w adr k cc own nL fr lo) {a o ci j i N : Nat} {fs : List Value} {v : Value} {Cn : String} {T : u_T} (hq : (a, o) ∈ cls) (he : en w.2 adr a o (S a o) = .inr (ci, fs)) (hc : vwCl[ci]? = some (Cn, T, N)) (hj0 : j < N) (hin : ∀ x ∈ u_ws Cn T N, x ∈ tz) (hlk : Cond.fieldLink own i (T j).1 (T j).2.1 (T j).2.2.1 ∈ tz) (hv : fs[j]? = some v) (hd : decode cc pc = .ok (.getfield i, 3)) (hn : pc + 3 = n) (kk : Ge w adr k n lv (v :: st) S F) : Ge w adr k pc lv (.ref (adr a o) :: st) S F := by
  obtain ⟨p, l, e, R, s, m, args, below, meth, c, nL, kc, ks, Qf, A⟩ := k
  obtain ⟨hx, hb, hml, hnl, hown, hts, hK, hj, hA, hN, hkc, hks, hfr, hlo⟩ := C
  subst hn
  intro r S2 hF H locs ls hP hS hl
  obtain ⟨q0, hq0, hq1⟩ := wld_in (cy := w.2) (adr := adr) (S := S) hq
  rw [he] at hq1
  exact va_get hx hb hts hin hown hK hP q0 hq1 hc j hj0 (hts _ hlk) (fun _ h9 => h9) hv hd (kk r S2 hF H locs ls hP hS hl)
theorem ge_putg (C : Cx w adr k cc own nL fr lo) {a o ci j i N : Nat} {fs : List Value} {x : Int32} {v : Value} {ty : FieldType} {Cn : String} {T : u_T} {ty0 : Nat → FieldType} {f : St → Op} (hq : (a, o) ∈ cls) (he : en w.2 adr a o (S a o) = .inr (ci, fs)) (he2 : en w.2 adr a o (upd (S a o) j x) = .inr (ci, fs.set j v)) (hc : vwCl[ci]? = some (Cn, T, N)) (hj0 : j < N) (hin : ∀ x ∈ u_ws Cn T N, x ∈ tz) (hty : ∀ k, k < N → parseFieldDescriptor (T k).2.2.1 = some (ty0 k)) (hnm : ∀ a, a < N → ∀ b, b < N → a ≠ b → (T a).2.1 ≠ (T b).2.1) (hlk : Cond.fieldLink own i (T j).1 (T j).2.1 (T j).2.2.1 ∈ tz) (hfin : (T j).2.2.2 = false) (hd0 : parseFieldDescriptor (T j).2.2.1 = some ty) (hn0 : narrow ty v = v) (hf0 : fits ty v = true) (hlen : j < fs.length) (hd : decode cc pc = .ok (.putfield i, 3)) (hn : pc + 3 = n) (kk : ∀ S1 : St, Ge w adr k n lv st S1 (f S1)) : Ge w adr k pc lv (v :: .ref (adr a o) :: st) S (bs (wr S a o j x) f) := by
  obtain ⟨p, l, e, R, s, m, args, below, meth, c, nL, kc, ks, Qf, A⟩ := k
  obtain ⟨hx, hb, hml, hnl, hown, hts, hK, hj, hA, hN, hkc, hks, hfr, hlo⟩ := C
  subst hn
  intro r S2 hF H locs ls hP hS hl
  obtain ⟨q0, hq0, hq1⟩ := wld_in (cy := w.2) (adr := adr) (S := S) hq
  rw [he] at hq1
  refine va_put hx hb hts hin ty0 hty hnm hown hK hP (wld_D hj hA S) hS q0 hq1 hc j hj0 (hts _ hlk) (fun _ h9 => h9) hfin hd0 hn0 hf0 hlen hd (fun H1 locs1 hP1 _ hS1 => ?_)
  rw [wld_set hq0 he2] at hP1
  exact kk _ r S2 hF H1 locs1 ls hP1 hS1 hl
theorem vp_ck {i : Int32} {N : Nat} (h : ¬ (i < 0 ∨ N ≤ i.toNatClampNeg)) : vp_in i N := h
theorem ge_iald (C : Cx w adr k cc own nL fr lo) {a o N : Nat} {i : Int32} (hq : (a, o) ∈ cls) (he : en w.2 adr a o (S a o) = .inl (w.2 0, N, .inl (S a o))) (hd : decode cc pc = .ok (.iaload, 1)) (hn : pc + 1 = n) (kk : ¬ (i < 0 ∨ N ≤ i.toNatClampNeg) → Ge w adr k n lv (.int (S a o i.toNatClampNeg) :: st) S F) : Ge w adr k pc lv (.int i :: .ref (adr a o) :: st) S (ck i N F) := by
  unfold ck
  refine ge_if (fun _ => ge_none) (fun h => ?_)
  have kk := kk h
  obtain ⟨p, l, e, R, s, m, args, below, meth, c, nL, kc, ks, Qf, A⟩ := k
  obtain ⟨hx, hb, hml, hnl, hown, hts, hK, hj, hA, hN, hkc, hks, hfr, hlo⟩ := C
  subst hn
  intro r S2 hF H locs ls hP hS hl
  obtain ⟨q0, hq0, hq1⟩ := wld_in (cy := w.2) (adr := adr) (S := S) hq
  rw [he] at hq1
  exact va_iald hx hb hK hP q0 0 hq1 rfl (vp_ck h) hd (kk r S2 hF H locs ls hP hS hl)
theorem ge_zald (C : Cx w adr k cc own nL fr lo) {a o N : Nat} {i : Int32} (hq : (a, o) ∈ cls) (he : en w.2 adr a o (S a o) = .inl (w.2 1, N, .inl (S a o))) (hd : decode cc pc = .ok (.baload, 1)) (hn : pc + 1 = n) (kk : ¬ (i < 0 ∨ N ≤ i.toNatClampNeg) → Ge w adr k n lv (.int (S a o i.toNatClampNeg) :: st) S F) : Ge w adr k pc lv (.int i :: .ref (adr a o) :: st) S (ck i N F) := by
  unfold ck
  refine ge_if (fun _ => ge_none) (fun h => ?_)
  have kk := kk h
  obtain ⟨p, l, e, R, s, m, args, below, meth, c, nL, kc, ks, Qf, A⟩ := k
  obtain ⟨hx, hb, hml, hnl, hown, hts, hK, hj, hA, hN, hkc, hks, hfr, hlo⟩ := C
  subst hn
  intro r S2 hF H locs ls hP hS hl
  obtain ⟨q0, hq0, hq1⟩ := wld_in (cy := w.2) (adr := adr) (S := S) hq
  rw [he] at hq1
  exact va_zald hx hb hK hP q0 1 hq1 rfl (vp_ck h) hd (kk r S2 hF H locs ls hP hS hl)
theorem ge_iast (C : Cx w adr k cc own nL fr lo) {a o N : Nat} {i x : Int32} {f : St → Op} (hq : (a, o) ∈ cls) (he : ∀ g : Nat → Int32, en w.2 adr a o g = .inl (w.2 0, N, .inl g)) (hd : decode cc pc = .ok (.iastore, 1)) (hn : pc + 1 = n) (kk : ∀ S1 : St, Ge w adr k n lv st S1 (f S1)) : Ge w adr k pc lv (.int x :: .int i :: .ref (adr a o) :: st) S (ck i N (bs (wr S a o i.toNatClampNeg x) f)) := by
  unfold ck
  refine ge_if (fun _ => ge_none) (fun h => ?_)
  obtain ⟨p, l, e, R, s, m, args, below, meth, c, nL, kc, ks, Qf, A⟩ := k
  obtain ⟨hx, hb, hml, hnl, hown, hts, hK, hj, hA, hN, hkc, hks, hfr, hlo⟩ := C
  subst hn
  intro r S2 hF H locs ls hP hS hl
  obtain ⟨q0, hq0, hq1⟩ := wld_in (cy := w.2) (adr := adr) (S := S) hq
  rw [he] at hq1
  refine va_iast hx hb hK hP (wld_D hj hA S) hS q0 0 hq1 rfl (vp_ck h) hd (fun H1 locs1 hP1 _ hS1 => ?_)
  rw [wld_set hq0 (he _)] at hP1
  exact kk _ r S2 hF H1 locs1 ls hP1 hS1 hl
theorem ge_zast (C : Cx w adr k cc own nL fr lo) {a o N : Nat} {i x : Int32} {f : St → Op} (hq : (a, o) ∈ cls) (he : ∀ g : Nat → Int32, en w.2 adr a o g = .inl (w.2 1, N, .inl g)) (hd : decode cc pc = .ok (.bastore, 1)) (hn : pc + 1 = n) (kk : ∀ S1 : St, Ge w adr k n lv st S1 (f S1)) : Ge w adr k pc lv (.int x :: .int i :: .ref (adr a o) :: st) S (ck i N (bs (wr S a o i.toNatClampNeg (vp_nar .boolean x)) f)) := by
  unfold ck
  refine ge_if (fun _ => ge_none) (fun h => ?_)
  obtain ⟨p, l, e, R, s, m, args, below, meth, c, nL, kc, ks, Qf, A⟩ := k
  obtain ⟨hx, hb, hml, hnl, hown, hts, hK, hj, hA, hN, hkc, hks, hfr, hlo⟩ := C
  subst hn
  intro r S2 hF H locs ls hP hS hl
  obtain ⟨q0, hq0, hq1⟩ := wld_in (cy := w.2) (adr := adr) (S := S) hq
  rw [he] at hq1
  refine va_zast hx hb hK hP (wld_D hj hA S) hS q0 1 hq1 rfl (vp_ck h) hd (fun H1 locs1 hP1 _ hS1 => ?_)
  rw [wld_set hq0 (he _)] at hP1
  exact kk _ r S2 hF H1 locs1 ls hP1 hS1 hl
theorem ge_aald (C : Cx w adr k cc own nL fr lo) {a o N t0 : Nat} {i : Int32} {g : Nat → Nat} {cA : ClassId} {ty : FieldType} (hq : (a, o) ∈ cls) (he : en w.2 adr a o (S a o) = .inl (cA, N, .inr (.inr (.inr (.inr (fun j => some (g j))))))) (ht : (tyl w.2)[t0]? = some (cA, ty)) (hty : ty.isReference = true) (hd : decode cc pc = .ok (.aaload, 1)) (hn : pc + 1 = n) (kk : ¬ (i < 0 ∨ N ≤ i.toNatClampNeg) → Ge w adr k n lv (.ref (g i.toNatClampNeg) :: st) S F) : Ge w adr k pc lv (.int i :: .ref (adr a o) :: st) S (ck i N F) := by
  unfold ck
  refine ge_if (fun _ => ge_none) (fun h => ?_)
  have kk := kk h
  obtain ⟨p, l, e, R, s, m, args, below, meth, c, nL, kc, ks, Qf, A⟩ := k
  obtain ⟨hx, hb, hml, hnl, hown, hts, hK, hj, hA, hN, hkc, hks, hfr, hlo⟩ := C
  subst hn
  intro r S2 hF H locs ls hP hS hl
  obtain ⟨q0, hq0, hq1⟩ := wld_in (cy := w.2) (adr := adr) (S := S) hq
  rw [he] at hq1
  have hlt : i.toNatClampNeg < N := Nat.not_le.mp fun q => h (Or.inr q)
  exact W.aald (v := .ref (g i.toNatClampNeg)) (ty := ty) hx hb (hP q0 _ hq1) ((hK.2 t0 _ ht).1 N (fun j => va_rf (some (g j)))) hty (fun q => by cases q) (by show ¬ (i < 0 ∨ (arrV _ _ _).slots.size ≤ _); rw [arrV_size]; exact h) (by show (arrV _ _ _).slots[_]? = _; rw [arrV_read _ _ hlt]; rfl) rfl rfl hd (kk r S2 hF H locs ls hP hS hl)
theorem ge_iret (C : Cx w adr k cc own nL fr lo) (Rr : Ri w adr k .int) {v : Int32} (hd : decode cc pc = .ok (.ireturn, 1)) : Ge w adr k pc lv [.int v] S (some (v, S)) := by
  obtain ⟨p, l, e, R, s, m, args, below, meth, c, nL, kc, ks, Qf, A⟩ := k
  obtain ⟨hx, hb, hml, hnl, hown, hts, hK, hj, hA, hN, hkc, hks, hfr, hlo⟩ := C
  obtain ⟨hr, hlocks, rfl, rfl, rfl, rfl⟩ := Rr
  intro r S2 hF H locs ls hP hS hl
  cases hF
  exact W.iret (v := v) hx hb hr (fun t ht hW => ⟨⟨v, S, rfl, ⟨rfl, rfl⟩, by rw [ht]; exact hP, va_K.moved hW.alike hK, hN.warm hW⟩, hS.F ht⟩) hS.2.2 hd
theorem ge_zret (C : Cx w adr k cc own nL fr lo) (Rr : Ri w adr k .boolean) {v : Int32} (hv : narrow .boolean (.int v) = .int v) (hd : decode cc pc = .ok (.ireturn, 1)) : Ge w adr k pc lv [.int v] S (some (v, S)) := by
  obtain ⟨p, l, e, R, s, m, args, below, meth, c, nL, kc, ks, Qf, A⟩ := k
  obtain ⟨hx, hb, hml, hnl, hown, hts, hK, hj, hA, hN, hkc, hks, hfr, hlo⟩ := C
  obtain ⟨hr, hlocks, rfl, rfl, rfl, rfl⟩ := Rr
  intro r S2 hF H locs ls hP hS hl
  cases hF
  exact W.zret (v := v) hx hb hr hv (fun t ht hW => ⟨⟨v, S, rfl, ⟨rfl, rfl⟩, by rw [ht]; exact hP, va_K.moved hW.alike hK, hN.warm hW⟩, hS.F ht⟩) hS.2.2 hd
theorem ge_vret (C : Cx w adr k cc own nL fr lo) (Rr : Rv w adr k) (hd : decode cc pc = .ok (.return_, 1)) : Ge w adr k pc lv [] S (some (0, S)) := by
  obtain ⟨p, l, e, R, s, m, args, below, meth, c, nL, kc, ks, Qf, A⟩ := k
  obtain ⟨hx, hb, hml, hnl, hown, hts, hK, hj, hA, hN, hkc, hks, hfr, hlo⟩ := C
  obtain ⟨hr, hlocks, rfl, rfl, rfl, rfl⟩ := Rr
  intro r S2 hF H locs ls hP hS hl
  cases hF
  exact W.vret hx hb hr (fun t ht hW => ⟨⟨S, rfl, rfl, by rw [ht]; exact hP, va_K.moved hW.alike hK, hN.warm hW⟩, hS.F ht⟩) hS.2.2 hd
theorem cal_some {g : Op} {f : Int32 → St → Op} {r : Int32} {S2 : St} (h : cal g f = some (r, S2)) : ∃ (r1 : Int32) (S1 : St), g = some (r1, S1) ∧ f r1 S1 = some (r, S2) := by
  cases g with
  | none => cases h
  | some q => exact ⟨q.1, q.2, rfl, h⟩
theorem rest8 {m : MethodId} {ls : Array Slot} {a : List Value} (h : (st.map fun v => v.category).sum ≤ 8) : 2 * (F0 m pc ls a).monitorRoom + (st.map fun v => v.category).sum ≤ 8 := lv_room h
theorem bz_of {U : State} {s : State} {H : Heap} (hU : U.heap = H) (hW : s.WarmedH U.vm) (hP : va_P w.1 vwCl (wld w.2 adr S) H) (hK : va_K w.1 vwCl (tyl w.2) s) (hN : Nw s) : Bz w adr S U := ⟨by rw [hU]; exact hP, va_K.moved hW.alike hK, hN.warm hW⟩
/-- calls of methods that answer an int -/
theorem ge_callVi (C : Cx w adr k cc own nL fr lo) {a o ci N i nA mL f2 l2 : Nat} {fs : List Value} {T : u_T} {Cn : String} {y : MethodName} {b : ByteArray} {ret : Option FieldType} {g : Op} {f : Int32 → St → Op} {As st0 : List Value} (hM : ∀ (l : Launch) (r : Int32) (S1 : St), g = some (r, S1) → Mi l w adr y b mL ret f2 l2 (.ref (adr a o) :: As) S r S1) (hG : GoodIn tz (wsV own i Cn y (wz y b mL ret))) (hq : (a, o) ∈ cls) (he : en w.2 adr a o (S a o) = .inr (ci, fs)) (hc : vwCl[ci]? = some (Cn, T, N)) (hcn : y.cls = Cn ∧ y.cls ≠ "java/lang/invoke/MethodHandle" ∧ y.cls ≠ "java/lang/invoke/VarHandle" ∧ (parseMethodDescriptor y.desc).map (fun d => d.parameters.length) = some nA) (hR : f2 + 1 ≤ fr ∧ 8 + (mL + 11) + l2 ≤ lo) (hna : As.length = nA) (hst : st0 = As.reverse ++ .ref (adr a o) :: st) (hr8 : (st.map fun v => v.category).sum ≤ 8) (hd : decode cc pc = .ok (.invokevirtual i, 3)) (hn : pc + 3 = n) (kk : ∀ (r : Int32) (S1 : St), Ge w adr k n lv (.int r :: st) S1 (f r S1)) : Ge w adr k pc lv st0 S (cal g f) := by
  obtain ⟨p, l, e, R, s, m, args, below, meth, c, nL, kc, ks, Qf, A⟩ := k
  obtain ⟨hx, hb, hml, hnl, hown, hts, hK, hj, hA, hN, hkc, hks, hfr, hlo⟩ := C
  subst hn
  subst hnl
  intro r S2 hF H locs ls hP hS hl
  obtain ⟨r1, S1, hg, hf⟩ := cal_some hF
  obtain ⟨q0, hq0, hq1⟩ := wld_in (cy := w.2) (adr := adr) (S := S) hq
  rw [he] at hq1
  refine va_calli (A1 := Az adr) (va_runV (As := As) (rest := st) ⟨hx, hb, hml, hown, hts⟩ (hM l r1 S1 hg) (cwV nA hts hG rfl rfl rfl hcn ⟨Nat.le_trans hR.1 hfr, Nat.le_trans hR.2 hlo⟩) ⟨bz_blind, va_recv hK hP hc hq1, fun U hU hW => ⟨rfl, bz_of hU hW hP hK hN⟩⟩ rfl hna hl.1 hst (rest8 hr8) hd ⟨hkc, hks⟩) hS (fun q _ h => hA q h) (fun q h => hA q h) (fun r2 u t H1 locs1 ht hvm hw hB hz1 hk1 hS1 => ?_)
  obtain ⟨rfl, rfl⟩ := hw
  exact kk r2 u r S2 hf H1 locs1 ls (by have := hB.1; rw [ht] at this; exact this) hS1 hl
theorem ge_callVv (C : Cx w adr k cc own nL fr lo) {a o ci N i nA mL f2 l2 : Nat} {fs : List Value} {T : u_T} {Cn : String} {y : MethodName} {b : ByteArray} {ret : Option FieldType} {g : Op} {f : Int32 → St → Op} {As st0 : List Value} (hM : ∀ (l : Launch) (r : Int32) (S1 : St), g = some (r, S1) → Mv l w adr y b mL ret f2 l2 (.ref (adr a o) :: As) S S1) (hG : GoodIn tz (wsV own i Cn y (wz y b mL ret))) (hq : (a, o) ∈ cls) (he : en w.2 adr a o (S a o) = .inr (ci, fs)) (hc : vwCl[ci]? = some (Cn, T, N)) (hcn : y.cls = Cn ∧ y.cls ≠ "java/lang/invoke/MethodHandle" ∧ y.cls ≠ "java/lang/invoke/VarHandle" ∧ (parseMethodDescriptor y.desc).map (fun d => d.parameters.length) = some nA) (hR : f2 + 1 ≤ fr ∧ 8 + (mL + 11) + l2 ≤ lo) (hna : As.length = nA) (hst : st0 = As.reverse ++ .ref (adr a o) :: st) (hr8 : (st.map fun v => v.category).sum ≤ 8) (hd : decode cc pc = .ok (.invokevirtual i, 3)) (hn : pc + 3 = n) (kk : ∀ (r : Int32) (S1 : St), Ge w adr k n lv st S1 (f r S1)) : Ge w adr k pc lv st0 S (cal g f) := by
  obtain ⟨p, l, e, R, s, m, args, below, meth, c, nL, kc, ks, Qf, A⟩ := k
  obtain ⟨hx, hb, hml, hnl, hown, hts, hK, hj, hA, hN, hkc, hks, hfr, hlo⟩ := C
  subst hn
  subst hnl
  intro r S2 hF H locs ls hP hS hl
  obtain ⟨r1, S1, hg, hf⟩ := cal_some hF
  obtain ⟨q0, hq0, hq1⟩ := wld_in (cy := w.2) (adr := adr) (S := S) hq
  rw [he] at hq1
  refine va_callv (A1 := Az adr) (va_runV (As := As) (rest := st) ⟨hx, hb, hml, hown, hts⟩ (hM l r1 S1 hg) (cwV nA hts hG rfl rfl rfl hcn ⟨Nat.le_trans hR.1 hfr, Nat.le_trans hR.2 hlo⟩) ⟨bz_blind, va_recv hK hP hc hq1, fun U hU hW => ⟨rfl, bz_of hU hW hP hK hN⟩⟩ rfl hna hl.1 hst (rest8 hr8) hd ⟨hkc, hks⟩) hS (fun q _ h => hA q h) (fun q h => hA q h) (fun u t H1 locs1 ht hvm hw hB hz1 hk1 hS1 => ?_)
  obtain rfl := hw
  exact kk r1 u r S2 hf H1 locs1 ls (by have := hB.1; rw [ht] at this; exact this) hS1 hl
theorem ge_callSi (C : Cx w adr k cc own nL fr lo) {i nA mL f2 l2 : Nat} {y : MethodName} {b : ByteArray} {ret : Option FieldType} {g : Op} {f : Int32 → St → Op} {As st0 : List Value} (hM : ∀ (l : Launch) (r : Int32) (S1 : St), g = some (r, S1) → Mi l w adr y b mL ret f2 l2 As S r S1) (hG : GoodIn tz (va_wsS own i y (wz y b mL ret))) (hcn : y.cls ≠ "java/lang/invoke/MethodHandle" ∧ y.cls ≠ "java/lang/invoke/VarHandle" ∧ (parseMethodDescriptor y.desc).map (fun d => d.parameters.length) = some nA) (hR : f2 + 1 ≤ fr ∧ 8 + (mL + 11) + l2 ≤ lo) (hna : As.length = nA) (hst : st0 = As.reverse ++ st) (hr8 : (st.map fun v => v.category).sum ≤ 8) (hd : decode cc pc = .ok (.invokestatic i, 3)) (hn : pc + 3 = n) (kk : ∀ (r : Int32) (S1 : St), Ge w adr k n lv (.int r :: st) S1 (f r S1)) : Ge w adr k pc lv st0 S (cal g f) := by
  obtain ⟨p, l, e, R, s, m, args, below, meth, c, nL, kc, ks, Qf, A⟩ := k
  obtain ⟨hx, hb, hml, hnl, hown, hts, hK, hj, hA, hN, hkc, hks, hfr, hlo⟩ := C
  subst hn
  subst hnl
  intro r S2 hF H locs ls hP hS hl
  obtain ⟨r1, S1, hg, hf⟩ := cal_some hF
  refine va_calli (A1 := Az adr) (va_runS (As := As) (rest := st) ⟨hx, hb, hml, hown, hts⟩ (hM l r1 S1 hg) (va_cwS nA hts hG rfl rfl rfl hcn ⟨Nat.le_trans hR.1 hfr, Nat.le_trans hR.2 hlo⟩) ⟨bz_blind, fun U hU hW => ⟨rfl, bz_of hU hW hP hK hN⟩⟩ rfl hna hl.1 hst (rest8 hr8) hd ⟨hkc, hks⟩) hS (fun q _ h => hA q h) (fun q h => hA q h) (fun r2 u t H1 locs1 ht hvm hw hB hz1 hk1 hS1 => ?_)
  obtain ⟨rfl, rfl⟩ := hw
  exact kk r2 u r S2 hf H1 locs1 ls (by have := hB.1; rw [ht] at this; exact this) hS1 hl
/-- the one call of a nest mate's private method -/
theorem ge_callNi (C : Cx w adr k cc RX8 nL fr lo) {mL f2 l2 : Nat} {b : ByteArray} {ret : Option FieldType} {g : Op} {f : Int32 → St → Op} {As st0 : List Value} (hM : ∀ (l : Launch) (r : Int32) (S1 : St), g = some (r, S1) → Mi l w adr yX10_isOutside b mL ret f2 l2 As S r S1) (hG : Cond.code yX10_isOutside b mL ret ∈ tz) (hst1 : Cond.static yX10_isOutside ∈ tz) (hini : Cond.initialized yX10_isOutside.cls ∈ tz) (hR : f2 + 1 ≤ fr ∧ 8 + (mL + 11) + l2 ≤ lo) (hna : As.length = 3) (hst : st0 = As.reverse ++ st) (hr8 : (st.map fun v => v.category).sum ≤ 8) (hd : decode cc pc = .ok (.invokestatic 102, 3)) (hn : pc + 3 = n) (kk : ∀ (r : Int32) (S1 : St), Ge w adr k n lv (.int r :: st) S1 (f r S1)) : Ge w adr k pc lv st0 S (cal g f) := by
  obtain ⟨p, l, e, R, s, m, args, below, meth, c, nL, kc, ks, Qf, A⟩ := k
  obtain ⟨hx, hb, hml, hnl, hown, hts, hK, hj, hA, hN, hkc, hks, hfr, hlo⟩ := C
  subst hn
  subst hnl
  intro r S2 hF H locs ls hP hS hl
  obtain ⟨r1, S1, hg, hf⟩ := cal_some hF
  refine va_calli (A1 := Az adr) (va_runSN (As := As) (rest := st) (host := RX10) ⟨hx, hb, hml, hown, hts⟩ (hM l r1 S1 hg) ⟨va_cnB 3 hts (gdZ hG) rfl rfl rfl hN (hts _ hini) ⟨by decide +kernel, by decide +kernel, by decide +kernel⟩ ⟨Nat.le_trans hR.1 hfr, Nat.le_trans hR.2 hlo⟩, hts _ hst1, trivial⟩ ⟨bz_blind, fun U hU hW => ⟨rfl, bz_of hU hW hP hK hN⟩⟩ rfl hna hl.1 hst (rest8 hr8) hd ⟨hkc, hks⟩) hS (fun q _ h => hA q h) (fun q h => hA q h) (fun r2 u t H1 locs1 ht hvm hw hB hz1 hk1 hS1 => ?_)
  obtain ⟨rfl, rfl⟩ := hw
  exact kk r2 u r S2 hf H1 locs1 ls (by have := hB.1; rw [ht] at this; exact this) hS1 hl
end GE
theorem ge_lop {α : Type} {z : α} {b : α → α} (P : α → Prop) (h0 : P z) (hs : ∀ ag : α, P ag → P (b ag)) : ∀ n : Nat, P (lop z b n)
  | 0 => h0
  | n + 1 => hs _ (ge_lop P h0 hs n)
theorem metF {l : Launch} {y : MethodName} {ws ws2 : List Cond} {rm : Room} {Pc : Array Value → State → Prop} {Qc : Array Value → State → Outcome → State → Prop} {mc ms : Nat} {free : Addr → Prop} {cc : ByteArray} {maxL : Nat} {ret : Option FieldType}
    (hy : plainFor y = true) (hw : ws = Cond.code y cc maxL ret :: ws2)
    (body : ∀ p e s m args below meth c s1, BodyLoose p l y (headSpec ws rm) cc maxL ret e s m args below meth c s1 → c.maxLocals = maxL → Pc args s →
      W p l e (headSpec ws rm).room s m args below meth c s.heap [] 0 0 (MQ below Qc args s mc ms free) (entryFrame m args maxL)) : Met l y ws rm Pc Qc mc ms free := by
  refine MetFree.of_bodySF (code := cc) (maxLocals := maxL) (ret := ret) hy ?_ ?_
  · intro args s m h hn
    obtain ⟨meth, c, h1, h2, h3, h4, h5, h6, -, -⟩ := Cond.code_spec hn (atoms_spec (ws := ws) h _ (by rw [hw]; exact List.mem_cons_self))
    exact ⟨meth, c, h1, h2, h3, h4, h5, h6⟩
  · intro p e s m args below meth c s1 B hml hP _
    have hh0 : s1.heap = s.heap := by rw [B.state]; rfl
    obtain ⟨t, a1, o, b1, b2, b3⟩ := body p e s m args below meth c s1 B hml hP s1 hh0 (Stand.of_body B)
    exact ⟨t, o, a1, b1, b2, ⟨b3.1, b3.2⟩⟩
/-- a method's contract out of the walk of its body -/
theorem mi_of {w : WX} {adr : Nat → Nat → Nat} {y : MethodName} {b : ByteArray} {mL : Nat} {ty : FieldType} {fr lo : Nat} {av : List Value} {lv : List (Nat × Value)} {S : St} {F : Op} (hj : Ij adr) (hy : plainFor y = true) (hlv : lv_args 0 av = lv) (hlen : (lg_sl av).length ≤ mL) (body : ∀ k : KX, Cx w adr k b y.cls mL fr lo → Ri w adr k ty → Ge w adr k 0 lv [] S F) : ∀ (l : Launch) (r : Int32) (S2 : St), F = some (r, S2) → Mi l w adr y b mL (some ty) fr lo av S r S2 := by
  intro l r S2 hF
  refine metF (cc := b) (maxL := mL) (ret := some ty) hy rfl ?_
  intro p e s m args below meth c s1 B hml hv
  obtain ⟨rfl, hP, hK, hN⟩ := hv
  have hts0 := atoms_spec (ws := wz y b mL (some ty)) B.pre
  have hts : ∀ x ∈ tz, x.before av.toArray s = true := fun x hx => hts0 x (List.mem_cons_of_mem _ hx)
  have hown : s.vm.findClass y.cls = some m.cls := findClass_of_methodNamed B.named
  have hl := lv_entry av (n := mL) hlen
  rw [lg_entry_eq]
  rw [hlv] at hl
  generalize (lg_sl av ++ List.replicate (mL - (lg_sl av).length) Slot.unset).toArray = ls at hl ⊢
  exact body (p, l, e, _, s, m, av.toArray, below, meth, c, mL, 0, 0, _, Az adr) ⟨B.exec, B.bytes, hml, rfl, hown, hts, hK, hj, fun _ h => h, hN, Nat.zero_le _, Nat.zero_le _, Nat.le_refl fr, Nat.le_refl lo⟩ ⟨B.returns, B.notSynchronized, rfl, rfl, rfl, rfl⟩ r S2 hF s.heap [] ls hP va_S.rf hl
theorem mv_of {w : WX} {adr : Nat → Nat → Nat} {y : MethodName} {b : ByteArray} {mL : Nat} {fr lo : Nat} {av : List Value} {lv : List (Nat × Value)} {S : St} {F : Op} (hj : Ij adr) (hy : plainFor y = true) (hlv : lv_args 0 av = lv) (hlen : (lg_sl av).length ≤ mL) (body : ∀ k : KX, Cx w adr k b y.cls mL fr lo → Rv w adr k → Ge w adr k 0 lv [] S F) : ∀ (l : Launch) (r : Int32) (S2 : St), F = some (r, S2) → Mv l w adr y b mL none fr lo av S S2 := by
  intro l r S2 hF
  refine metF (cc := b) (maxL := mL) (ret := none) hy rfl ?_
  intro p e s m args below meth c s1 B hml hv
  obtain ⟨rfl, hP, hK, hN⟩ := hv
  have hts0 := atoms_spec (ws := wz y b mL none) B.pre
  have hts : ∀ x ∈ tz, x.before av.toArray s = true := fun x hx => hts0 x (List.mem_cons_of_mem _ hx)
  have hown : s.vm.findClass y.cls = some m.cls := findClass_of_methodNamed B.named
  have hl := lv_entry av (n := mL) hlen
  rw [lg_entry_eq]
  rw [hlv] at hl
  generalize (lg_sl av ++ List.replicate (mL - (lg_sl av).length) Slot.unset).toArray = ls at hl ⊢
  exact body (p, l, e, _, s, m, av.toArray, below, meth, c, mL, 0, 0, _, Az adr) ⟨B.exec, B.bytes, hml, rfl, hown, hts, hK, hj, fun _ h => h, hN, Nat.zero_le _, Nat.zero_le _, Nat.le_refl fr, Nat.le_refl lo⟩ ⟨B.returns, B.notSynchronized, rfl, rfl, rfl, rfl⟩ r S2 hF s.heap [] ls hP va_S.rf hl
theorem ts_out {x : Int32} {n : Nat} {b : Int} (hn : n < 2 ^ 31) (hb : (n : Int) - 1 = b) (h : ∀ i : Nat, i < n → ¬ x = nI i) : x.toInt < 0 ∨ b < x.toInt := by
  subst hb
  by_cases h0 : x < 0
  · exact Or.inl (by simpa using Int32.lt_iff_toInt_lt.mp h0)
  · obtain ⟨j, hj, rfl⟩ := nI_of h0
    right
    rw [nI_toInt hj]
    have : ¬ j < n := fun q => h j q rfl
    omega
theorem bd_c {i : Int32} {N M : Nat} (h : ¬ (i < 0 ∨ N ≤ i.toNatClampNeg)) (hM : N ≤ M) : i.toNatClampNeg < M := Nat.lt_of_lt_of_le (Nat.not_le.mp fun q => h (Or.inr q)) hM
theorem bd_pls {o : Nat} {i : Int32} (ho : o < 2) (h : ¬ (i < 0 ∨ 6 ≤ i.toNatClampNeg)) : 6 * o + i.toNatClampNeg < 12 := by
  have := bd_c (M := 6) h (Nat.le_refl 6)
  omega
theorem bd_pai {i : Int32} (h : ¬ (i < 0 ∨ 2 ≤ i.toNatClampNeg)) : 16 + i.toNatClampNeg < 18 := by
  have := bd_c (M := 2) h (Nat.le_refl 2)
  omega
