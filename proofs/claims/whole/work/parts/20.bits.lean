def sd_b (x : Bool) : Int32 := if x then 1 else 0
def sd_b8 (x0 x1 x2 x3 x4 x5 x6 x7 : Bool) : Int32 := (sd_b x0 <<< (nI 7 &&& 31)) ||| (sd_b x1 <<< (nI 6 &&& 31)) ||| (sd_b x2 <<< (nI 5 &&& 31)) ||| (sd_b x3 <<< (nI 4 &&& 31)) ||| (sd_b x4 <<< (nI 3 &&& 31)) ||| (sd_b x5 <<< (nI 2 &&& 31)) ||| (sd_b x6 <<< (nI 1 &&& 31)) ||| (sd_b x7 <<< (nI 0 &&& 31))
theorem sd_b8v0 : ∀ x0 x1 x2 x3 x4 x5 x6 x7 : Bool, sd_bv (sd_b8 x0 x1 x2 x3 x4 x5 x6 x7) 0 = sd_b x0 := by decide +kernel
theorem sd_b8o0 : ∀ x1 x2 x3 x4 x5 x6 x7 y : Bool, sd_b8 false x1 x2 x3 x4 x5 x6 x7 ||| (sd_b y <<< (nI (7 - 0) &&& 31)) = sd_b8 y x1 x2 x3 x4 x5 x6 x7 := by decide +kernel
theorem sd_b8v1 : ∀ x0 x1 x2 x3 x4 x5 x6 x7 : Bool, sd_bv (sd_b8 x0 x1 x2 x3 x4 x5 x6 x7) 1 = sd_b x1 := by decide +kernel
theorem sd_b8o1 : ∀ x0 x2 x3 x4 x5 x6 x7 y : Bool, sd_b8 x0 false x2 x3 x4 x5 x6 x7 ||| (sd_b y <<< (nI (7 - 1) &&& 31)) = sd_b8 x0 y x2 x3 x4 x5 x6 x7 := by decide +kernel
theorem sd_b8v2 : ∀ x0 x1 x2 x3 x4 x5 x6 x7 : Bool, sd_bv (sd_b8 x0 x1 x2 x3 x4 x5 x6 x7) 2 = sd_b x2 := by decide +kernel
theorem sd_b8o2 : ∀ x0 x1 x3 x4 x5 x6 x7 y : Bool, sd_b8 x0 x1 false x3 x4 x5 x6 x7 ||| (sd_b y <<< (nI (7 - 2) &&& 31)) = sd_b8 x0 x1 y x3 x4 x5 x6 x7 := by decide +kernel
theorem sd_b8v3 : ∀ x0 x1 x2 x3 x4 x5 x6 x7 : Bool, sd_bv (sd_b8 x0 x1 x2 x3 x4 x5 x6 x7) 3 = sd_b x3 := by decide +kernel
theorem sd_b8o3 : ∀ x0 x1 x2 x4 x5 x6 x7 y : Bool, sd_b8 x0 x1 x2 false x4 x5 x6 x7 ||| (sd_b y <<< (nI (7 - 3) &&& 31)) = sd_b8 x0 x1 x2 y x4 x5 x6 x7 := by decide +kernel
theorem sd_b8v4 : ∀ x0 x1 x2 x3 x4 x5 x6 x7 : Bool, sd_bv (sd_b8 x0 x1 x2 x3 x4 x5 x6 x7) 4 = sd_b x4 := by decide +kernel
theorem sd_b8o4 : ∀ x0 x1 x2 x3 x5 x6 x7 y : Bool, sd_b8 x0 x1 x2 x3 false x5 x6 x7 ||| (sd_b y <<< (nI (7 - 4) &&& 31)) = sd_b8 x0 x1 x2 x3 y x5 x6 x7 := by decide +kernel
theorem sd_b8v5 : ∀ x0 x1 x2 x3 x4 x5 x6 x7 : Bool, sd_bv (sd_b8 x0 x1 x2 x3 x4 x5 x6 x7) 5 = sd_b x5 := by decide +kernel
theorem sd_b8o5 : ∀ x0 x1 x2 x3 x4 x6 x7 y : Bool, sd_b8 x0 x1 x2 x3 x4 false x6 x7 ||| (sd_b y <<< (nI (7 - 5) &&& 31)) = sd_b8 x0 x1 x2 x3 x4 y x6 x7 := by decide +kernel
theorem sd_b8v6 : ∀ x0 x1 x2 x3 x4 x5 x6 x7 : Bool, sd_bv (sd_b8 x0 x1 x2 x3 x4 x5 x6 x7) 6 = sd_b x6 := by decide +kernel
theorem sd_b8o6 : ∀ x0 x1 x2 x3 x4 x5 x7 y : Bool, sd_b8 x0 x1 x2 x3 x4 x5 false x7 ||| (sd_b y <<< (nI (7 - 6) &&& 31)) = sd_b8 x0 x1 x2 x3 x4 x5 y x7 := by decide +kernel
theorem sd_b8v7 : ∀ x0 x1 x2 x3 x4 x5 x6 x7 : Bool, sd_bv (sd_b8 x0 x1 x2 x3 x4 x5 x6 x7) 7 = sd_b x7 := by decide +kernel
theorem sd_b8o7 : ∀ x0 x1 x2 x3 x4 x5 x6 y : Bool, sd_b8 x0 x1 x2 x3 x4 x5 x6 false ||| (sd_b y <<< (nI (7 - 7) &&& 31)) = sd_b8 x0 x1 x2 x3 x4 x5 x6 y := by decide +kernel
theorem sd_b8a : ∀ x0 x1 x2 x3 x4 x5 x6 x7 : Bool, (2 * (2 * (2 * (2 * (2 * (2 * (2 * (2 * 0 + (if sd_b x0 = 0 then 0 else 1)) + (if sd_b x1 = 0 then 0 else 1)) + (if sd_b x2 = 0 then 0 else 1)) + (if sd_b x3 = 0 then 0 else 1)) + (if sd_b x4 = 0 then 0 else 1)) + (if sd_b x5 = 0 then 0 else 1)) + (if sd_b x6 = 0 then 0 else 1)) + (if sd_b x7 = 0 then 0 else 1)) = sd_b8 x0 x1 x2 x3 x4 x5 x6 x7 := by decide +kernel
theorem sd_b80 : sd_b8 false false false false false false false false = 0 := by decide +kernel
theorem sd_b01 {x : Int32} (h : x = 0 ∨ x = 1) : ∃ y : Bool, x = sd_b y ∧ (x = 1 → y = true) ∧ (¬ x = 1 → y = false) := by
  rcases h with h | h
  · exact ⟨false, h, fun z => absurd (h.symm.trans z) (by decide), fun _ => rfl⟩
  · exact ⟨true, h, fun _ => rfl, fun z => absurd h z⟩
theorem sd_bn (y : Bool) : vp_nar .boolean (sd_b y) = sd_b y := by
  cases y
  · exact sd_b0
  · exact sd_b1
def sd_m8 (m : Nat → Bool) (i : Nat) : Int32 := sd_b8 (m (8 * i + 0)) (m (8 * i + 1)) (m (8 * i + 2)) (m (8 * i + 3)) (m (8 * i + 4)) (m (8 * i + 5)) (m (8 * i + 6)) (m (8 * i + 7))
/-- B bits have been built: Y's bits mk, X's bytes in slot 50 -/
def sd_BI (B : Nat) (pb mk : Nat → Int32) : Prop :=
  ∃ m : Nat → Bool, (∀ j, B ≤ j → m j = false) ∧ (∀ j, j < B → mk j = sd_b (m j)) ∧ (B ≤ 128 → ∀ i, i < 16 → pb (800 + i) = sd_m8 m i)
def sd_ap (pb : Nat → Int32) (B : Nat) (y : Bool) : Nat → Int32 := if B < 128 then upd pb (800 + B / 8) (pb (800 + B / 8) ||| (sd_b y <<< (nI (7 - B % 8) &&& 31))) else pb
def sd_ma' (m : Nat → Bool) (B : Nat) (y : Bool) : Nat → Bool := fun j => if j = B then y else m j
theorem sd_mas {m : Nat → Bool} {B : Nat} {y : Bool} : sd_ma' m B y B = y := if_pos rfl
theorem sd_man {m : Nat → Bool} {B j : Nat} {y : Bool} (h : j ≠ B) : sd_ma' m B y j = m j := if_neg h
theorem sd_m8n {m : Nat → Bool} {B i : Nat} {y : Bool} (h : i ≠ B / 8) : sd_m8 (sd_ma' m B y) i = sd_m8 m i := by
  unfold sd_m8
  rw [sd_man (show 8 * i + 0 ≠ B by omega), sd_man (show 8 * i + 1 ≠ B by omega), sd_man (show 8 * i + 2 ≠ B by omega), sd_man (show 8 * i + 3 ≠ B by omega), sd_man (show 8 * i + 4 ≠ B by omega), sd_man (show 8 * i + 5 ≠ B by omega), sd_man (show 8 * i + 6 ≠ B by omega), sd_man (show 8 * i + 7 ≠ B by omega)]
theorem sd_m8u {m : Nat → Bool} {i r : Nat} {y : Bool} (hr : r < 8) (h : m (8 * i + r) = false) : sd_m8 m i ||| (sd_b y <<< (nI (7 - r) &&& 31)) = sd_m8 (sd_ma' m (8 * i + r) y) i := by
  have : r = 0 ∨ r = 1 ∨ r = 2 ∨ r = 3 ∨ r = 4 ∨ r = 5 ∨ r = 6 ∨ r = 7 := by omega
  unfold sd_m8
  rcases this with rfl | rfl | rfl | rfl | rfl | rfl | rfl | rfl
  · rw [h, sd_mas, sd_man (show 8 * i + 1 ≠ 8 * i + 0 by omega), sd_man (show 8 * i + 2 ≠ 8 * i + 0 by omega), sd_man (show 8 * i + 3 ≠ 8 * i + 0 by omega), sd_man (show 8 * i + 4 ≠ 8 * i + 0 by omega), sd_man (show 8 * i + 5 ≠ 8 * i + 0 by omega), sd_man (show 8 * i + 6 ≠ 8 * i + 0 by omega), sd_man (show 8 * i + 7 ≠ 8 * i + 0 by omega)]
    exact sd_b8o0 _ _ _ _ _ _ _ _
  · rw [h, sd_man (show 8 * i + 0 ≠ 8 * i + 1 by omega), sd_mas, sd_man (show 8 * i + 2 ≠ 8 * i + 1 by omega), sd_man (show 8 * i + 3 ≠ 8 * i + 1 by omega), sd_man (show 8 * i + 4 ≠ 8 * i + 1 by omega), sd_man (show 8 * i + 5 ≠ 8 * i + 1 by omega), sd_man (show 8 * i + 6 ≠ 8 * i + 1 by omega), sd_man (show 8 * i + 7 ≠ 8 * i + 1 by omega)]
    exact sd_b8o1 _ _ _ _ _ _ _ _
  · rw [h, sd_man (show 8 * i + 0 ≠ 8 * i + 2 by omega), sd_man (show 8 * i + 1 ≠ 8 * i + 2 by omega), sd_mas, sd_man (show 8 * i + 3 ≠ 8 * i + 2 by omega), sd_man (show 8 * i + 4 ≠ 8 * i + 2 by omega), sd_man (show 8 * i + 5 ≠ 8 * i + 2 by omega), sd_man (show 8 * i + 6 ≠ 8 * i + 2 by omega), sd_man (show 8 * i + 7 ≠ 8 * i + 2 by omega)]
    exact sd_b8o2 _ _ _ _ _ _ _ _
  · rw [h, sd_man (show 8 * i + 0 ≠ 8 * i + 3 by omega), sd_man (show 8 * i + 1 ≠ 8 * i + 3 by omega), sd_man (show 8 * i + 2 ≠ 8 * i + 3 by omega), sd_mas, sd_man (show 8 * i + 4 ≠ 8 * i + 3 by omega), sd_man (show 8 * i + 5 ≠ 8 * i + 3 by omega), sd_man (show 8 * i + 6 ≠ 8 * i + 3 by omega), sd_man (show 8 * i + 7 ≠ 8 * i + 3 by omega)]
    exact sd_b8o3 _ _ _ _ _ _ _ _
  · rw [h, sd_man (show 8 * i + 0 ≠ 8 * i + 4 by omega), sd_man (show 8 * i + 1 ≠ 8 * i + 4 by omega), sd_man (show 8 * i + 2 ≠ 8 * i + 4 by omega), sd_man (show 8 * i + 3 ≠ 8 * i + 4 by omega), sd_mas, sd_man (show 8 * i + 5 ≠ 8 * i + 4 by omega), sd_man (show 8 * i + 6 ≠ 8 * i + 4 by omega), sd_man (show 8 * i + 7 ≠ 8 * i + 4 by omega)]
    exact sd_b8o4 _ _ _ _ _ _ _ _
  · rw [h, sd_man (show 8 * i + 0 ≠ 8 * i + 5 by omega), sd_man (show 8 * i + 1 ≠ 8 * i + 5 by omega), sd_man (show 8 * i + 2 ≠ 8 * i + 5 by omega), sd_man (show 8 * i + 3 ≠ 8 * i + 5 by omega), sd_man (show 8 * i + 4 ≠ 8 * i + 5 by omega), sd_mas, sd_man (show 8 * i + 6 ≠ 8 * i + 5 by omega), sd_man (show 8 * i + 7 ≠ 8 * i + 5 by omega)]
    exact sd_b8o5 _ _ _ _ _ _ _ _
  · rw [h, sd_man (show 8 * i + 0 ≠ 8 * i + 6 by omega), sd_man (show 8 * i + 1 ≠ 8 * i + 6 by omega), sd_man (show 8 * i + 2 ≠ 8 * i + 6 by omega), sd_man (show 8 * i + 3 ≠ 8 * i + 6 by omega), sd_man (show 8 * i + 4 ≠ 8 * i + 6 by omega), sd_man (show 8 * i + 5 ≠ 8 * i + 6 by omega), sd_mas, sd_man (show 8 * i + 7 ≠ 8 * i + 6 by omega)]
    exact sd_b8o6 _ _ _ _ _ _ _ _
  · rw [h, sd_man (show 8 * i + 0 ≠ 8 * i + 7 by omega), sd_man (show 8 * i + 1 ≠ 8 * i + 7 by omega), sd_man (show 8 * i + 2 ≠ 8 * i + 7 by omega), sd_man (show 8 * i + 3 ≠ 8 * i + 7 by omega), sd_man (show 8 * i + 4 ≠ 8 * i + 7 by omega), sd_man (show 8 * i + 5 ≠ 8 * i + 7 by omega), sd_man (show 8 * i + 6 ≠ 8 * i + 7 by omega), sd_mas]
    exact sd_b8o7 _ _ _ _ _ _ _ _
theorem sd_BIs {B : Nat} {pb mk : Nat → Int32} (h : sd_BI B pb mk) (y : Bool) : sd_BI (B + 1) (sd_ap pb B y) (upd mk B (sd_b y)) := by
  obtain ⟨m, h1, h2, h3⟩ := h
  refine ⟨sd_ma' m B y, fun j hj => ?_, fun j hj => ?_, fun hB i hi => ?_⟩
  · rw [sd_man (by omega)]; exact h1 j (by omega)
  · by_cases e : j = B
    · subst e; rw [pk_us, sd_mas]
    · rw [pk_un e, sd_man e]; exact h2 j (by omega)
  · unfold sd_ap
    rw [if_pos (by omega)]
    by_cases e : i = B / 8
    · have eB : 8 * i + B % 8 = B := by omega
      rw [← e, pk_us, h3 (by omega) i hi, sd_m8u (by omega) (by rw [eB]; exact h1 B (Nat.le_refl _)), eB]
    · rw [pk_un (by omega), sd_m8n e]
      exact h3 (by omega) i hi
theorem sd_BI0 {B : Nat} {pb mk : Nat → Int32} (h : sd_BI B pb mk) : sd_BI (B + 1) pb (upd mk B 0) := by
  obtain ⟨m, h1, h2, h3⟩ := h
  refine ⟨m, fun j hj => h1 j (by omega), fun j hj => ?_, fun hB => h3 (by omega)⟩
  by_cases e : j = B
  · subst e; rw [pk_us, h1 j (Nat.le_refl _)]; rfl
  · rw [pk_un e]; exact h2 j (by omega)
theorem sd_apo {pb : Nat → Int32} {B : Nat} {y : Bool} {j : Nat} (h : j < 800 ∨ 816 ≤ j) : sd_ap pb B y j = pb j := by
  unfold sd_ap
  by_cases z : B < 128
  · rw [if_pos z, pk_un (by omega)]
  · rw [if_neg z]
theorem sd_m8v {m : Nat → Bool} {i r : Nat} (hr : r < 8) : sd_bv (sd_m8 m i) r = sd_b (m (8 * i + r)) := by
  have : r = 0 ∨ r = 1 ∨ r = 2 ∨ r = 3 ∨ r = 4 ∨ r = 5 ∨ r = 6 ∨ r = 7 := by omega
  unfold sd_m8
  rcases this with rfl | rfl | rfl | rfl | rfl | rfl | rfl | rfl
  · exact sd_b8v0 (m (8 * i + 0)) (m (8 * i + 1)) (m (8 * i + 2)) (m (8 * i + 3)) (m (8 * i + 4)) (m (8 * i + 5)) (m (8 * i + 6)) (m (8 * i + 7))
  · exact sd_b8v1 (m (8 * i + 0)) (m (8 * i + 1)) (m (8 * i + 2)) (m (8 * i + 3)) (m (8 * i + 4)) (m (8 * i + 5)) (m (8 * i + 6)) (m (8 * i + 7))
  · exact sd_b8v2 (m (8 * i + 0)) (m (8 * i + 1)) (m (8 * i + 2)) (m (8 * i + 3)) (m (8 * i + 4)) (m (8 * i + 5)) (m (8 * i + 6)) (m (8 * i + 7))
  · exact sd_b8v3 (m (8 * i + 0)) (m (8 * i + 1)) (m (8 * i + 2)) (m (8 * i + 3)) (m (8 * i + 4)) (m (8 * i + 5)) (m (8 * i + 6)) (m (8 * i + 7))
  · exact sd_b8v4 (m (8 * i + 0)) (m (8 * i + 1)) (m (8 * i + 2)) (m (8 * i + 3)) (m (8 * i + 4)) (m (8 * i + 5)) (m (8 * i + 6)) (m (8 * i + 7))
  · exact sd_b8v5 (m (8 * i + 0)) (m (8 * i + 1)) (m (8 * i + 2)) (m (8 * i + 3)) (m (8 * i + 4)) (m (8 * i + 5)) (m (8 * i + 6)) (m (8 * i + 7))
  · exact sd_b8v6 (m (8 * i + 0)) (m (8 * i + 1)) (m (8 * i + 2)) (m (8 * i + 3)) (m (8 * i + 4)) (m (8 * i + 5)) (m (8 * i + 6)) (m (8 * i + 7))
  · exact sd_b8v7 (m (8 * i + 0)) (m (8 * i + 1)) (m (8 * i + 2)) (m (8 * i + 3)) (m (8 * i + 4)) (m (8 * i + 5)) (m (8 * i + 6)) (m (8 * i + 7))
/-- the bits are there again -/
theorem sd_BIv {B : Nat} {pb mk : Nat → Int32} (h : sd_BI B pb mk) (hB : B ≤ 128) {k : Nat} (hk : k < B) : mk k = sd_bv (pb (800 + k / 8)) (k % 8) := by
  obtain ⟨m, h1, h2, h3⟩ := h
  have e : 8 * (k / 8) + k % 8 = k := by omega
  rw [h2 k hk, h3 hB (k / 8) (by omega), sd_m8v (by omega), e]
theorem sd_BIa {B : Nat} {pb mk : Nat → Int32} (h : sd_BI B pb mk) (hB : B ≤ 128) {k : Nat} (hk : 8 * k + 8 ≤ B) : pb (800 + k) = sd_ac mk (8 * k) 8 := by
  obtain ⟨m, h1, h2, h3⟩ := h
  rw [h3 hB k (by omega)]
  unfold sd_m8
  rw [← sd_b8a]
  show _ = sd_ac mk (8 * k) 8
  show _ = (2 * (2 * (2 * (2 * (2 * (2 * (2 * (2 * 0 + (if mk (8 * k + 0) = 0 then 0 else 1)) + (if mk (8 * k + 1) = 0 then 0 else 1)) + (if mk (8 * k + 2) = 0 then 0 else 1)) + (if mk (8 * k + 3) = 0 then 0 else 1)) + (if mk (8 * k + 4) = 0 then 0 else 1)) + (if mk (8 * k + 5) = 0 then 0 else 1)) + (if mk (8 * k + 6) = 0 then 0 else 1)) + (if mk (8 * k + 7) = 0 then 0 else 1))
  rw [h2 (8 * k + 0) (by omega), h2 (8 * k + 1) (by omega), h2 (8 * k + 2) (by omega), h2 (8 * k + 3) (by omega), h2 (8 * k + 4) (by omega), h2 (8 * k + 5) (by omega), h2 (8 * k + 6) (by omega), h2 (8 * k + 7) (by omega)]
