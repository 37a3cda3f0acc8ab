theorem step_op {f g : St → Op} (h : Same f g) {S : St} (hS : Inv S) {ag : St → Op} (hag : ∀ S2, Inv S2 → ∃ r S3, ag S2 = some (r, S3)) : ∃ r S3, (cal (f S) fun r S1 => cal (g S1) fun r2 S2 => if r = r2 then ag S2 else none) = some (r, S3) := by
  obtain ⟨r, S1, S2, e1, e2, h2⟩ := h S hS
  rw [cal_of e1, cal_of e2, if_pos rfl]
  exact hag S2 h2
theorem ck_add {i c n : Nat} {F : Op} (h : i + c < n) (hn : n < 2 ^ 31) : ck (nI i + nI c) n F = F := by rw [nI_add]; exact ck_nI h (by omega)
theorem law_body {L : Nat} {xs : Nat → Int32} (hL : L ≤ 320) (h_feed : ∀ a0 : Int32, Same (fX10_feed a0) (fX11_feed a0)) (h_yard : Same fX10_yard fX11_yard) (h_fault : Same fX10_fault fX11_fault) (h_told : ∀ a0 : Int32, Same (fX10_told a0) (fX11_told a0)) (h_man : ∀ a0 a1 : Int32, Same (fX10_man a0 a1) (fX11_man a0 a1)) (h_skin : ∀ a0 a1 a2 : Int32, Same (fX10_skin a0 a1 a2) (fX11_skin a0 a1 a2)) (h_saying : ∀ a0 a1 : Int32, Same (fX10_saying a0 a1) (fX11_saying a0 a1)) (h_hurt : ∀ a0 a1 : Int32, Same (fX10_hurt a0 a1) (fX11_hurt a0 a1)) (h_month : ∀ a0 : Int32, Same (fX10_month a0) (fX11_month a0)) (h_in : ∀ a0 : Int32, Same (fX10_in a0) (fX11_in a0)) (h_out : ∀ a0 : Int32, Same (fX10_out a0) (fX11_out a0)) (h_scrape : ∀ a0 a1 a2 : Int32, Same (fX10_scrape a0 a1 a2) (fX11_scrape a0 a1 a2)) (h_say : ∀ a0 a1 : Int32, Same (fX10_say a0 a1) (fX11_say a0 a1)) (h_bark : ∀ a0 : Int32, Same (fX10_bark a0) (fX11_bark a0)) (h_drift : ∀ a0 : Int32, Same (fX10_drift a0) (fX11_drift a0)) (h_undo : Same fX10_undo fX11_undo) (h_thick : ∀ a0 a1 a2 : Int32, Same (fX10_thick a0 a1 a2) (fX11_thick a0 a1 a2)) (h_when : ∀ a0 a1 a2 : Int32, Same (fX10_when a0 a1 a2) (fX11_when a0 a1 a2)) (h_edge : ∀ a0 a1 a2 a3 : Int32, Same (fX10_edge a0 a1 a2 a3) (fX11_edge a0 a1 a2 a3)) (h_scraping : ∀ a0 a1 : Int32, Same (fX10_scraping a0 a1) (fX11_scraping a0 a1)) (h_through : ∀ a0 a1 : Int32, Same (fX10_through a0 a1) (fX11_through a0 a1)) (h_over : ∀ a0 a1 : Int32, Same (fX10_over a0 a1) (fX11_over a0 a1)) (h_quiet : ∀ a0 a1 : Int32, Same (fX10_quiet a0 a1) (fX11_quiet a0 a1)) (h_hear : ∀ a0 a1 a2 : Int32, Same (fX10_hear a0 a1 a2) (fX11_hear a0 a1 a2)) (h_stays : ∀ a0 a1 : Int32, Same (fX10_stays a0 a1) (fX11_stays a0 a1)) (h_ask : ∀ a0 : Int32, Same (fX10_ask a0) (fX11_ask a0)) (h_write : ∀ a0 a1 : Int32, Same (fX10_write a0 a1) (fX11_write a0 a1)) (h_tear : Same fX10_tear fX11_tear) (h_judge : Same fX10_judge fX11_judge) (h_seed : ∀ a0 : Int32, Same (fX10_seed a0) (fX11_seed a0)) (h_keep : ∀ a0 : Int32, Same (fX10_keep a0) (fX11_keep a0)) (h_goBack : ∀ a0 : Int32, Same (fX10_goBack a0) (fX11_goBack a0)) {i : Nat} {S : St} {ag : Int32 → St → Op} (hi : i + 5 ≤ L) (hS : Inv S) (hag : ∀ S2, Inv S2 → ∃ r S3, ag (nI (i + 5)) S2 = some (r, S3)) : ∃ r S3, bL_law_18 L xs (fun S => some (1, S)) ag (nI i) S = some (r, S3) := by
  have hn : ¬ nI L - (5 : Int32) < nI i := by
    rw [show (5 : Int32) = nI 5 from rfl, pk_sub (show 5 ≤ L by omega)]
    exact nI_nlt (by omega) (by omega)
  have c0 : ∀ F, ck (nI i) L F = F := fun F => ck_nI (by omega) (by omega)
  have c1 : ∀ F, ck (nI i + (1 : Int32)) L F = F := fun F => ck_add (c := 1) (by omega) (by omega)
  have c2 : ∀ F, ck (nI i + (2 : Int32)) L F = F := fun F => ck_add (c := 2) (by omega) (by omega)
  have c3 : ∀ F, ck (nI i + (3 : Int32)) L F = F := fun F => ck_add (c := 3) (by omega) (by omega)
  have c4 : ∀ F, ck (nI i + (4 : Int32)) L F = F := fun F => ck_add (c := 4) (by omega) (by omega)
  have hag : ∀ S2, Inv S2 → ∃ r S3, ag (nI i + (5 : Int32)) S2 = some (r, S3) := by
    rw [show (5 : Int32) = nI 5 from rfl, nI_add]; exact hag
  unfold bL_law_18
  rw [if_neg hn]
  simp only [c0, c1, c2, c3, c4, bi_e]
  generalize xs (Int32.toNatClampNeg (nI i)) &&& (31 : Int32) = t
  by_cases h0 : t = (0 : Int32)
  · rw [if_pos h0]; exact step_op (ag := ag (nI i + (5 : Int32))) (h_feed _) hS hag
  rw [if_neg h0]
  by_cases h1 : t = (1 : Int32)
  · rw [if_pos h1]; exact step_op (ag := ag (nI i + (5 : Int32))) (h_yard) hS hag
  rw [if_neg h1]
  by_cases h2 : t = (2 : Int32)
  · rw [if_pos h2]; exact step_op (ag := ag (nI i + (5 : Int32))) (h_fault) hS hag
  rw [if_neg h2]
  by_cases h3 : t = (3 : Int32)
  · rw [if_pos h3]; exact step_op (ag := ag (nI i + (5 : Int32))) (h_told _) hS hag
  rw [if_neg h3]
  by_cases h4 : t = (4 : Int32)
  · rw [if_pos h4]; exact step_op (ag := ag (nI i + (5 : Int32))) (h_man _ _) hS hag
  rw [if_neg h4]
  by_cases h5 : t = (5 : Int32)
  · rw [if_pos h5]; exact step_op (ag := ag (nI i + (5 : Int32))) (h_skin _ _ _) hS hag
  rw [if_neg h5]
  by_cases h6 : t = (6 : Int32)
  · rw [if_pos h6]; exact step_op (ag := ag (nI i + (5 : Int32))) (h_saying _ _) hS hag
  rw [if_neg h6]
  by_cases h7 : t = (7 : Int32)
  · rw [if_pos h7]; exact step_op (ag := ag (nI i + (5 : Int32))) (h_hurt _ _) hS hag
  rw [if_neg h7]
  by_cases h8 : t = (8 : Int32)
  · rw [if_pos h8]; exact step_op (ag := ag (nI i + (5 : Int32))) (h_month _) hS hag
  rw [if_neg h8]
  by_cases h9 : t = (9 : Int32)
  · rw [if_pos h9]; exact step_op (ag := ag (nI i + (5 : Int32))) (h_in _) hS hag
  rw [if_neg h9]
  by_cases h10 : t = (10 : Int32)
  · rw [if_pos h10]; exact step_op (ag := ag (nI i + (5 : Int32))) (h_out _) hS hag
  rw [if_neg h10]
  by_cases h11 : t = (11 : Int32)
  · rw [if_pos h11]; exact step_op (ag := ag (nI i + (5 : Int32))) (h_scrape _ _ _) hS hag
  rw [if_neg h11]
  by_cases h12 : t = (12 : Int32)
  · rw [if_pos h12]; exact step_op (ag := ag (nI i + (5 : Int32))) (h_say _ _) hS hag
  rw [if_neg h12]
  by_cases h13 : t = (13 : Int32)
  · rw [if_pos h13]; exact step_op (ag := ag (nI i + (5 : Int32))) (h_bark _) hS hag
  rw [if_neg h13]
  by_cases h14 : t = (14 : Int32)
  · rw [if_pos h14]; exact step_op (ag := ag (nI i + (5 : Int32))) (h_drift _) hS hag
  rw [if_neg h14]
  by_cases h15 : t = (15 : Int32)
  · rw [if_pos h15]; exact step_op (ag := ag (nI i + (5 : Int32))) (h_undo) hS hag
  rw [if_neg h15]
  by_cases h16 : t = (16 : Int32)
  · rw [if_pos h16]; exact step_op (ag := ag (nI i + (5 : Int32))) (h_thick _ _ _) hS hag
  rw [if_neg h16]
  by_cases h17 : t = (17 : Int32)
  · rw [if_pos h17]; exact step_op (ag := ag (nI i + (5 : Int32))) (h_when _ _ _) hS hag
  rw [if_neg h17]
  by_cases h18 : t = (18 : Int32)
  · rw [if_pos h18]; exact step_op (ag := ag (nI i + (5 : Int32))) (h_edge _ _ _ _) hS hag
  rw [if_neg h18]
  by_cases h19 : t = (19 : Int32)
  · rw [if_pos h19]; exact step_op (ag := ag (nI i + (5 : Int32))) (h_scraping _ _) hS hag
  rw [if_neg h19]
  by_cases h20 : t = (20 : Int32)
  · rw [if_pos h20]; exact step_op (ag := ag (nI i + (5 : Int32))) (h_through _ _) hS hag
  rw [if_neg h20]
  by_cases h21 : t = (21 : Int32)
  · rw [if_pos h21]; exact step_op (ag := ag (nI i + (5 : Int32))) (h_over _ _) hS hag
  rw [if_neg h21]
  by_cases h22 : t = (22 : Int32)
  · rw [if_pos h22]; exact step_op (ag := ag (nI i + (5 : Int32))) (h_quiet _ _) hS hag
  rw [if_neg h22]
  by_cases h23 : t = (23 : Int32)
  · rw [if_pos h23]; exact step_op (ag := ag (nI i + (5 : Int32))) (h_hear _ _ _) hS hag
  rw [if_neg h23]
  by_cases h24 : t = (24 : Int32)
  · rw [if_pos h24]; exact step_op (ag := ag (nI i + (5 : Int32))) (h_stays _ _) hS hag
  rw [if_neg h24]
  by_cases h25 : t = (25 : Int32)
  · rw [if_pos h25]; exact step_op (ag := ag (nI i + (5 : Int32))) (h_ask _) hS hag
  rw [if_neg h25]
  by_cases h26 : t = (26 : Int32)
  · rw [if_pos h26]; exact step_op (ag := ag (nI i + (5 : Int32))) (h_write _ _) hS hag
  rw [if_neg h26]
  by_cases h27 : t = (27 : Int32)
  · rw [if_pos h27]; exact step_op (ag := ag (nI i + (5 : Int32))) (h_tear) hS hag
  rw [if_neg h27]
  by_cases h28 : t = (28 : Int32)
  · rw [if_pos h28]; exact step_op (ag := ag (nI i + (5 : Int32))) (h_judge) hS hag
  rw [if_neg h28]
  by_cases h29 : t = (29 : Int32)
  · rw [if_pos h29]; exact step_op (ag := ag (nI i + (5 : Int32))) (h_seed _) hS hag
  rw [if_neg h29]
  by_cases h30 : t = (30 : Int32)
  · rw [if_pos h30]; exact step_op (ag := ag (nI i + (5 : Int32))) (h_keep _) hS hag
  rw [if_neg h30]
  by_cases h31 : t = (31 : Int32)
  · rw [if_pos h31]; exact step_op (ag := ag (nI i + (5 : Int32))) (h_goBack _) hS hag
  rw [if_neg h31]
  exact hag S hS
theorem pure_of (h_feed : ∀ a0 : Int32, Same (fX10_feed a0) (fX11_feed a0)) (h_yard : Same fX10_yard fX11_yard) (h_fault : Same fX10_fault fX11_fault) (h_told : ∀ a0 : Int32, Same (fX10_told a0) (fX11_told a0)) (h_man : ∀ a0 a1 : Int32, Same (fX10_man a0 a1) (fX11_man a0 a1)) (h_skin : ∀ a0 a1 a2 : Int32, Same (fX10_skin a0 a1 a2) (fX11_skin a0 a1 a2)) (h_saying : ∀ a0 a1 : Int32, Same (fX10_saying a0 a1) (fX11_saying a0 a1)) (h_hurt : ∀ a0 a1 : Int32, Same (fX10_hurt a0 a1) (fX11_hurt a0 a1)) (h_month : ∀ a0 : Int32, Same (fX10_month a0) (fX11_month a0)) (h_in : ∀ a0 : Int32, Same (fX10_in a0) (fX11_in a0)) (h_out : ∀ a0 : Int32, Same (fX10_out a0) (fX11_out a0)) (h_scrape : ∀ a0 a1 a2 : Int32, Same (fX10_scrape a0 a1 a2) (fX11_scrape a0 a1 a2)) (h_say : ∀ a0 a1 : Int32, Same (fX10_say a0 a1) (fX11_say a0 a1)) (h_bark : ∀ a0 : Int32, Same (fX10_bark a0) (fX11_bark a0)) (h_drift : ∀ a0 : Int32, Same (fX10_drift a0) (fX11_drift a0)) (h_undo : Same fX10_undo fX11_undo) (h_thick : ∀ a0 a1 a2 : Int32, Same (fX10_thick a0 a1 a2) (fX11_thick a0 a1 a2)) (h_when : ∀ a0 a1 a2 : Int32, Same (fX10_when a0 a1 a2) (fX11_when a0 a1 a2)) (h_edge : ∀ a0 a1 a2 a3 : Int32, Same (fX10_edge a0 a1 a2 a3) (fX11_edge a0 a1 a2 a3)) (h_scraping : ∀ a0 a1 : Int32, Same (fX10_scraping a0 a1) (fX11_scraping a0 a1)) (h_through : ∀ a0 a1 : Int32, Same (fX10_through a0 a1) (fX11_through a0 a1)) (h_over : ∀ a0 a1 : Int32, Same (fX10_over a0 a1) (fX11_over a0 a1)) (h_quiet : ∀ a0 a1 : Int32, Same (fX10_quiet a0 a1) (fX11_quiet a0 a1)) (h_hear : ∀ a0 a1 a2 : Int32, Same (fX10_hear a0 a1 a2) (fX11_hear a0 a1 a2)) (h_stays : ∀ a0 a1 : Int32, Same (fX10_stays a0 a1) (fX11_stays a0 a1)) (h_ask : ∀ a0 : Int32, Same (fX10_ask a0) (fX11_ask a0)) (h_write : ∀ a0 a1 : Int32, Same (fX10_write a0 a1) (fX11_write a0 a1)) (h_tear : Same fX10_tear fX11_tear) (h_judge : Same fX10_judge fX11_judge) (h_seed : ∀ a0 : Int32, Same (fX10_seed a0) (fX11_seed a0)) (h_keep : ∀ a0 : Int32, Same (fX10_keep a0) (fX11_keep a0)) (h_goBack : ∀ a0 : Int32, Same (fX10_goBack a0) (fX11_goBack a0)) (h0 : Inv S0) : Pure := by
  intro L xs hL
  have key : ∀ (n i : Nat) (S : St), Inv S → i ≤ L → L < 5 * n + i → ∃ r S2, lop (fun _ _ => none) (bL_law_18 L xs (fun S => some (1, S))) n (nI i) S = some (r, S2) := by
    intro n
    induction n with
    | zero => intro i S _ h1 h2; omega
    | succ n ih =>
      intro i S hS h1 h2
      show ∃ r S2, bL_law_18 L xs (fun S => some (1, S)) (lop (fun _ _ => none) (bL_law_18 L xs (fun S => some (1, S))) n) (nI i) S = some (r, S2)
      by_cases hi : i + 5 ≤ L
      · exact law_body hL h_feed h_yard h_fault h_told h_man h_skin h_saying h_hurt h_month h_in h_out h_scrape h_say h_bark h_drift h_undo h_thick h_when h_edge h_scraping h_through h_over h_quiet h_hear h_stays h_ask h_write h_tear h_judge h_seed h_keep h_goBack hi hS (fun S2 h => ih (i + 5) S2 h hi (by omega))
      · refine ⟨1, S, ?_⟩
        unfold bL_law_18
        rw [if_pos]
        rcases Nat.lt_or_ge L 5 with h5 | h5
        · have : ∀ L, L < 5 → nI L - (5 : Int32) < 0 := by decide
          exact Int32.lt_of_lt_of_le (this L h5) (nI_pos' (by omega))
        · rw [show (5 : Int32) = nI 5 from rfl, pk_sub h5]
          exact nI_lt (by omega) (by omega)
  obtain ⟨r, S2, e⟩ := key FU 0 S0 h0 (Nat.zero_le _) (by rw [FU_eq]; omega)
  refine ⟨r, S2, ?_⟩
  unfold fL_law
  rw [jn_e]
  exact e
theorem inv_0 : Inv S0 := by
  refine ⟨fun _ => 0, fun _ _ => 0, fun _ _ => 0, fun _ _ _ => 0, fun _ _ _ => 0, fun _ _ => 0, -1, ?_, ?_, ?_⟩
  · refine ⟨⟨by decide, rfl, rfl, rfl, rfl⟩, ⟨?_, fun m h => absurd h (Nat.not_lt_zero _), fun s h => absurd h (Nat.not_lt_zero _)⟩, ⟨rfl, ?_, fun m h => absurd h (Nat.not_lt_zero _)⟩, ⟨rfl, fun i h => absurd h (Nat.not_lt_zero _), rfl⟩, rfl, ⟨rfl, fun i h => absurd h (Nat.not_lt_zero _)⟩, ⟨rfl, fun i h => absurd h (Nat.not_lt_zero _)⟩, ⟨rfl, by decide, rfl, by decide, fun i h => absurd h (Nat.not_lt_zero _)⟩, rfl, fun i _ h => by simp at h⟩
    · intro i hi
      rcases (show i = 0 ∨ i = 1 ∨ i = 2 ∨ i = 3 by omega) with rfl | rfl | rfl | rfl <;> rfl
    · intro i hi
      rcases (show i = 0 ∨ i = 1 ∨ i = 2 by omega) with rfl | rfl | rfl <;> rfl
  · refine ⟨⟨rfl, rfl, rfl, rfl, fun m h => absurd h (Nat.not_lt_zero _), fun s h => absurd h (Nat.not_lt_zero _)⟩, ⟨rfl, rfl, rfl, rfl, fun m h => absurd h (Nat.not_lt_zero _)⟩, ⟨rfl, fun i h => absurd h (Nat.not_lt_zero _), rfl⟩, rfl, ⟨rfl, fun i h => absurd h (Nat.not_lt_zero _)⟩, ⟨rfl, fun i h => absurd h (Nat.not_lt_zero _)⟩, ⟨rfl, fun i h => absurd h (Nat.not_lt_zero _)⟩, fun i hi => ⟨?_, fun h => by simp at h⟩⟩
    rcases (show i = 0 ∨ i = 1 by omega) with rfl | rfl <;> rfl
  · refine ⟨⟨by decide, by decide, by decide, fun m h => absurd h (Nat.not_lt_zero _), ⟨by decide, fun s h => absurd h (Nat.not_lt_zero _)⟩, fun _ => ⟨rfl, rfl⟩⟩, ⟨⟨by decide, by decide, by decide, fun m h => absurd h (Nat.not_lt_zero _)⟩, Nat.le_refl _⟩, ⟨by decide, fun i h => absurd h (Nat.not_lt_zero _)⟩, by decide, ⟨by decide, fun i h => absurd h (Nat.not_lt_zero _)⟩, ⟨by decide, fun i h => absurd h (Nat.not_lt_zero _)⟩, fun i h => absurd h (Nat.not_lt_zero _), by decide, fun i _ h => by simp at h⟩
