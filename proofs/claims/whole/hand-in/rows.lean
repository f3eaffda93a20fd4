section
theorem pk_us {f : Nat → Int32} {k : Nat} {x : Int32} : upd f k x k = x := if_pos rfl
theorem pk_un {f : Nat → Int32} {k j : Nat} {x : Int32} (h : j ≠ k) : upd f k x j = f j := if_neg h
theorem pk_sub {a b : Nat} (h : b ≤ a) : nI a - nI b = nI (a - b) := by
  obtain ⟨c, rfl⟩ : ∃ c, a = c + b := ⟨a - b, by omega⟩
  rw [← nI_add, Int32.add_sub_cancel, Nat.add_sub_cancel]
theorem pk_m1 (n : Nat) : nI (n + 1) + (-1) = nI n := by
  rw [← nI_1, Int32.add_assoc, show (1 : Int32) + (-1) = 0 from rfl, Int32.add_zero]
theorem pk_mul (a b : Nat) : nI a * nI b = nI (a * b) := (Int32.ofNat_mul a b).symm
theorem pk_div {a d : Nat} (ha : a < 2 ^ 31) (h0 : 0 < d) (hd : d < 2 ^ 31) : nI a / nI d = nI (a / d) := by
  apply Int32.toInt_inj.mp
  rw [lg_idiv_nonneg (by rw [nI_toInt ha]; omega) (by rw [nI_toInt hd]; omega), nI_toInt ha, nI_toInt hd, nI_toInt (Nat.lt_of_le_of_lt (Nat.div_le_self a d) ha)]
  first | rfl | exact (Int.natCast_ediv _ _).symm
theorem pk_rem {a d : Nat} (ha : a < 2 ^ 31) (h0 : 0 < d) (hd : d < 2 ^ 31) : nI a - nI a / nI d * nI d = nI (a % d) := by
  rw [pk_div ha h0 hd, pk_mul, pk_sub (Nat.div_mul_le_self a d)]
  exact congrArg nI (by have := Nat.div_add_mod' a d; omega)
theorem pk_ix (x : Int32) {n : Nat} (hn : n < 2 ^ 31) : x < 0 ∨ nI n ≤ x ∨ ∃ j : Nat, j < n ∧ x = nI j := by
  by_cases h : x < 0
  · exact Or.inl h
  · obtain ⟨j, hj, rfl⟩ := nI_of h
    by_cases h2 : j < n
    · exact Or.inr (Or.inr ⟨j, h2, rfl⟩)
    · exact Or.inr (Or.inl (nI_le (by omega) hj))
theorem pk_le {x y : Int32} {A B : Prop} (a b : Nat) (f : a ≤ b → A) (g : b < a → B) (hx : x = nI a := by rfl) (hy : y = nI b := by rfl) (ha : a < 2 ^ 31 := by omega) (hb : b < 2 ^ 31 := by omega) : (x ≤ y → A) ∧ (¬ x ≤ y → B) := by
  subst hx hy
  rw [nI_leI ha hb]
  exact ⟨f, fun z => g (by omega)⟩
theorem pk_lt {x y : Int32} {A B : Prop} (a b : Nat) (f : a < b → A) (g : b ≤ a → B) (hx : x = nI a := by rfl) (hy : y = nI b := by rfl) (ha : a < 2 ^ 31 := by omega) (hb : b < 2 ^ 31 := by omega) : (x < y → A) ∧ (¬ x < y → B) := by
  subst hx hy
  rw [nI_ltI ha hb]
  exact ⟨f, fun z => g (by omega)⟩
theorem pk_eq {x y : Int32} {A B : Prop} (a b : Nat) (f : a = b → A) (g : a ≠ b → B) (hx : x = nI a := by rfl) (hy : y = nI b := by rfl) (ha : a < 2 ^ 31 := by omega) (hb : b < 2 ^ 31 := by omega) : (x = y → A) ∧ (¬ x = y → B) := by
  subst hx hy
  rw [nI_eq ha hb]
  exact ⟨f, g⟩
theorem pk_in {x : Int32} (n N : Nat) (h : n < N) (hx : x = nI n := by rfl) (hN : N < 2 ^ 31 := by omega) : vp_in x N := by
  subst hx
  exact vp_in_nI h hN
theorem pk_cl {x : Int32} (n : Nat) (hx : x = nI n := by rfl) (h : n < 2 ^ 31 := by omega) : x.toNatClampNeg = n := by
  subst hx
  exact nI_clamp h
theorem pk_tn {n : Nat} (h : n < 2 ^ 32) : (nI n).toBitVec.toNat = n := Nat.mod_eq_of_lt h
theorem pk_and (x : Int32) {m : Int32} (k : Nat) (hm : m.toBitVec.toNat = 2 ^ k - 1) : x &&& m = nI (x.toBitVec.toNat % 2 ^ k) := by
  apply Int32.toBitVec_inj.mp
  apply BitVec.eq_of_toNat_eq
  rw [Int32.toBitVec_and, BitVec.toNat_and, hm, Nat.and_two_pow_sub_one_eq_mod]
  show _ = (BitVec.ofNat 32 _).toNat
  rw [BitVec.toNat_ofNat]
  exact (Nat.mod_eq_of_lt (Nat.lt_of_le_of_lt (Nat.mod_le _ _) x.toBitVec.isLt)).symm
theorem pk_andN {n : Nat} (h : n < 2 ^ 32) {m : Int32} (k : Nat) (hm : m.toBitVec.toNat = 2 ^ k - 1) : nI n &&& m = nI (n % 2 ^ k) := by
  rw [pk_and _ k hm, pk_tn h]
theorem pk_andE (x : Int32) {m : Int32} (k : Nat) (hm : m.toBitVec.toNat = 2 ^ k - 1) : ∃ j : Nat, j < 2 ^ k ∧ x &&& m = nI j := ⟨_, Nat.mod_lt _ (Nat.two_pow_pos k), pk_and x k hm⟩
theorem pk_andIn (x : Int32) {m : Int32} (k : Nat) (hm : m.toBitVec.toNat = 2 ^ k - 1) (hk : k ≤ 30) : vp_in (x &&& m) (2 ^ k) := by
  obtain ⟨j, hj, e⟩ := pk_andE x k hm
  rw [e]
  exact vp_in_nI hj (Nat.lt_of_le_of_lt (Nat.pow_le_pow_right (by decide) hk) (by decide))
theorem pk_shl (a s : Int32) (k : Nat) (hs : (s.toBitVec.smod 32).toNat = k) : (a <<< s).toBitVec.toNat = a.toBitVec.toNat * 2 ^ k % 2 ^ 32 := by
  show (a.toBitVec <<< (s.toBitVec.smod 32).toNat).toNat = _
  rw [hs, BitVec.toNat_shiftLeft, Nat.shiftLeft_eq]
theorem pk_shlN {n : Nat} (s : Int32) (k : Nat) (hs : (s.toBitVec.smod 32).toNat = k) (h : n * 2 ^ k < 2 ^ 32) : nI n <<< s = nI (n * 2 ^ k) := by
  apply Int32.toBitVec_inj.mp
  apply BitVec.eq_of_toNat_eq
  have hn : n < 2 ^ 32 := Nat.lt_of_le_of_lt (Nat.le_mul_of_pos_right n (Nat.two_pow_pos k)) h
  rw [pk_shl _ _ k hs, pk_tn hn, pk_tn h, Nat.mod_eq_of_lt h]
theorem pk_shr (a s : Int32) (k : Nat) (hs : (s.toBitVec.smod 32).toNat = k) : (a >>> s).toInt = a.toInt >>> k := by
  show (a.toBitVec.sshiftRight (s.toBitVec.smod 32).toNat).toInt = _
  rw [hs, BitVec.toInt_sshiftRight]
  rfl
theorem pk_shrN {n : Nat} (h : n < 2 ^ 31) (s : Int32) (k : Nat) (hs : (s.toBitVec.smod 32).toNat = k) : nI n >>> s = nI (n / 2 ^ k) := by
  apply Int32.toInt_inj.mp
  have h2 : n / 2 ^ k ≤ n := Nat.div_le_self _ _
  rw [pk_shr _ _ k hs, nI_toInt h, nI_toInt (by omega), Int.shiftRight_eq_div_pow]
  rfl
theorem pk_loop {σ : Type} (W : Nat → Nat → σ → Prop) (I : Nat → σ → Prop) (e i0 : Nat) (s : σ) (hi : i0 ≤ e) (h0 : I i0 s) (hx : ∀ n s, I e s → W (n + 1) e s)
    (hs : ∀ n i s, i < e → I i s → (∀ s', I (i + 1) s' → W n (i + 1) s') → W (n + 1) i s) : ∃ n, W n i0 s :=
  ⟨e + 1, loop_i W I e hx hs (e + 1) i0 s hi (by omega) h0⟩
theorem pk_loopD {σ : Type} (W : Nat → Nat → σ → Prop) (I : Nat → σ → Prop) (hx : ∀ n s, I 0 s → W (n + 1) 0 s)
    (hs : ∀ n i s, I (i + 1) s → (∀ s', I i s' → W n i s') → W (n + 1) (i + 1) s) : ∀ (e : Nat) (s : σ), I e s → W (e + 1) e s := by
  intro e
  induction e with
  | zero => exact fun s h => hx 0 s h
  | succ e ih => exact fun s h => hs (e + 1) e s h (fun s' h' => ih s' h')
theorem sd_b0 : vp_nar .boolean 0 = 0 := by decide
theorem sd_b1 : vp_nar .boolean 1 = 1 := by decide
theorem sd_n0 : narrow .boolean (.int 0) = .int 0 := by decide
theorem sd_n1 : narrow .boolean (.int 1) = .int 1 := by decide
theorem sd_f0 : fits .boolean (.int 0) = true := by decide
theorem sd_f1 : fits .boolean (.int 1) = true := by decide
theorem sd_uu {f : Nat → Int32} {k : Nat} {x y : Int32} : upd (upd f k x) k y = upd f k y := by
  funext j
  by_cases h : j = k
  · rw [h, pk_us, pk_us]
  · rw [pk_un h, pk_un h, pk_un h]
theorem sd_ud {f : Nat → Int32} {k : Nat} {x : Int32} (h : f k = x) : upd f k x = f := by
  funext j
  by_cases e : j = k
  · rw [e, pk_us, h]
  · rw [pk_un e]
theorem sd_uc {f : Nat → Int32} {k l : Nat} {x y : Int32} (h : k ≠ l) : upd (upd f k x) l y = upd (upd f l y) k x := by
  funext j
  by_cases e : j = l
  · subst e
    rw [pk_us, pk_un (Ne.symm h), pk_us]
  · by_cases e2 : j = k
    · subst e2
      rw [pk_un e, pk_us, pk_us]
    · rw [pk_un e, pk_un e2, pk_un e2, pk_un e]
theorem sd_ma (s a b : Nat) : nI s * nI a + nI b = nI (s * a + b) := by rw [pk_mul, nI_add]
theorem sd_am (s a b : Nat) : nI a * nI s + nI b = nI (a * s + b) := by rw [pk_mul, nI_add]
theorem sd_ltI (x y : Int32) : x < y ↔ x.toInt < y.toInt := Int32.lt_iff_toInt_lt
theorem sd_leI (x y : Int32) : x ≤ y ↔ x.toInt ≤ y.toInt := Int32.le_iff_toInt_le
theorem sd_t1 (x : Int32) (h : ¬ 24 ≤ x) : ¬ 23 < x := by grind
theorem sd_t2 (x : Int32) (h0 : ¬ x < 0) (h : ¬ 24 ≤ x) : ∃ j : Nat, j < 24 ∧ x = nI j := by
  obtain ⟨j, hj, rfl⟩ := nI_of h0
  refine ⟨j, ?_, rfl⟩
  have : ¬ nI 24 ≤ nI j := h
  rw [nI_leI (by omega) hj] at this
  omega
theorem sd_t3 (x y : Int32) (h0 : ¬ x < 0) (h : x ≤ 16) (h2 : 16 < x ∨ x < 0) : False := by grind
theorem sd_t4 (x : Int32) (h : x < -1) (h2 : ¬ x < 0) : False := by grind
/-- a store at an index that is known -/
theorem sd_st {N : Nat} {x : Int32} {a : Nat → Int32} {v : Int32} {P : (Nat → Int32) → Prop} (n : Nat) (hx : x = nI n) (hN : n < N) (hb : N < 2 ^ 31) (h : P (upd a n v)) :
    vp_in x N ∧ ∀ y, y = upd a x.toNatClampNeg v → P y := by
  subst hx
  refine ⟨vp_in_nI hN hb, ?_⟩
  rw [nI_clamp (by omega)]
  exact nm_e h
def sd_rg (n : Nat) (x : Int32) : Prop := ∃ j : Nat, j < n ∧ x = nI j
def sd_rj (n : Nat) (x : Int32) : Prop := x < 0 ∨ nI n ≤ x
def sd_rm (n : Nat) (x : Int32) : Prop := x < -1 ∨ nI n ≤ x
theorem sd_cl (n : Nat) (x : Int32) (hn : n < 2 ^ 31 := by omega) : sd_rj n x ∨ sd_rg n x := by
  rcases pk_ix x hn with h | h | h
  · exact Or.inl (Or.inl h)
  · exact Or.inl (Or.inr h)
  · exact Or.inr h
theorem sd_clm (n : Nat) (x : Int32) (hn : n < 2 ^ 31 := by omega) : sd_rm n x ∨ x = -1 ∨ sd_rg n x := by
  by_cases h : x < -1
  · exact Or.inl (Or.inl h)
  · by_cases e : x = -1
    · exact Or.inr (Or.inl e)
    · rcases pk_ix x hn with h2 | h2 | h2
      · exfalso
        rw [sd_ltI] at h h2
        apply e
        apply Int32.toInt_inj.mp
        have e1 : (-1 : Int32).toInt = -1 := by decide
        have e0 : (0 : Int32).toInt = 0 := by decide
        rw [e1] at h ⊢
        rw [e0] at h2
        omega
      · exact Or.inl (Or.inr h2)
      · exact Or.inr (Or.inr h2)
theorem sd_nn {n j : Nat} (h : j < n) (hn : n < 2 ^ 31) : ¬ nI j < 0 := nI_pos (by omega)
theorem sd_lg {n : Nat} {x : Int32} (h : nI (n + 1) ≤ x) (hn : n + 1 < 2 ^ 31) : nI n < x := by
  rw [sd_ltI, nI_toInt (by omega)]
  rw [sd_leI, nI_toInt hn] at h
  omega
theorem sd_ng {n : Nat} {x : Int32} (h : nI n ≤ x) (hn : n < 2 ^ 31) : ¬ x < nI n := by
  rw [sd_ltI, nI_toInt hn]
  rw [sd_leI, nI_toInt hn] at h
  omega
theorem sd_g0 {n : Nat} {x : Int32} (h : nI n ≤ x) (hn : n < 2 ^ 31) : ¬ x < 0 := by
  rw [sd_ltI]
  rw [sd_leI, nI_toInt hn] at h
  have e0 : (0 : Int32).toInt = 0 := by decide
  omega
theorem sd_gm {n : Nat} {x : Int32} (h : nI n ≤ x) (hn : n < 2 ^ 31) : ¬ x < -1 := by
  rw [sd_ltI]
  rw [sd_leI, nI_toInt hn] at h
  have e0 : (-1 : Int32).toInt = -1 := by decide
  omega
theorem sd_nm {n : Nat} (hn : n < 2 ^ 31) : ¬ nI n < -1 := by
  rw [sd_ltI, nI_toInt hn]
  have e0 : (-1 : Int32).toInt = -1 := by decide
  omega
theorem sd_ne {n : Nat} (hn : n < 2 ^ 31) : ¬ nI n = -1 := by
  intro h
  have h2 := congrArg Int32.toInt h
  rw [nI_toInt hn] at h2
  have e0 : (-1 : Int32).toInt = -1 := by decide
  omega
-- X: (p < 0 → A), then A: n ≤ p → A;  B: n - 1 < p → A;  C: p ≤ n - 1 → B, else A;  D: p < n → B, else A
theorem sx_AR {A B : Prop} {p c : Int32} (n : Nat) (h : sd_rj n p) (a : A) (hc : c = nI n := by rfl) (hn : n < 2 ^ 31 := by omega) : (p < 0 → A) ∧ (¬ p < 0 → ((c ≤ p → A) ∧ (¬ c ≤ p → B))) := by
  subst hc
  rcases h with h | h
  · exact br_t h a
  · exact br_f (sd_g0 h hn) (br_t h a)
theorem sx_AT {A A' B : Prop} {p c : Int32} (n : Nat) (h : sd_rg n p) (b : B) (hc : c = nI n := by rfl) (hn : n < 2 ^ 31 := by omega) : (p < 0 → A) ∧ (¬ p < 0 → ((c ≤ p → A') ∧ (¬ c ≤ p → B))) := by
  subst hc
  obtain ⟨j, hj, rfl⟩ := h
  exact br_f (nI_pos (by omega)) (br_f (nI_ge hj hn) b)
theorem sx_BR {A B : Prop} {p c : Int32} (n : Nat) (h : sd_rj (n + 1) p) (a : A) (hc : c = nI n := by rfl) (hn : n + 1 < 2 ^ 31 := by omega) : (p < 0 → A) ∧ (¬ p < 0 → ((c < p → A) ∧ (¬ c < p → B))) := by
  subst hc
  rcases h with h | h
  · exact br_t h a
  · exact br_f (sd_g0 h hn) (br_t (sd_lg h hn) a)
theorem sx_BT {A A' B : Prop} {p c : Int32} (n : Nat) (h : sd_rg (n + 1) p) (b : B) (hc : c = nI n := by rfl) (hn : n + 1 < 2 ^ 31 := by omega) : (p < 0 → A) ∧ (¬ p < 0 → ((c < p → A') ∧ (¬ c < p → B))) := by
  subst hc
  obtain ⟨j, hj, rfl⟩ := h
  exact br_f (nI_pos (by omega)) (br_f (nI_nlt (by omega) (by omega)) b)
theorem sx_CR {A B : Prop} {p c : Int32} (n : Nat) (h : sd_rj (n + 1) p) (a : A) (hc : c = nI n := by rfl) (hn : n + 1 < 2 ^ 31 := by omega) : (p < 0 → A) ∧ (¬ p < 0 → ((p ≤ c → B) ∧ (¬ p ≤ c → A))) := by
  subst hc
  rcases h with h | h
  · exact br_t h a
  · exact br_f (sd_g0 h hn) (br_f (Int32.not_le.mpr (sd_lg h hn)) a)
theorem sx_CT {A A' B : Prop} {p c : Int32} (n : Nat) (h : sd_rg (n + 1) p) (b : B) (hc : c = nI n := by rfl) (hn : n + 1 < 2 ^ 31 := by omega) : (p < 0 → A) ∧ (¬ p < 0 → ((p ≤ c → B) ∧ (¬ p ≤ c → A'))) := by
  subst hc
  obtain ⟨j, hj, rfl⟩ := h
  exact br_f (nI_pos (by omega)) (br_t (nI_le (by omega) (by omega)) b)
theorem sx_DR {A B : Prop} {p c : Int32} (n : Nat) (h : sd_rj n p) (a : A) (hc : c = nI n := by rfl) (hn : n < 2 ^ 31 := by omega) : (p < 0 → A) ∧ (¬ p < 0 → ((p < c → B) ∧ (¬ p < c → A))) := by
  subst hc
  rcases h with h | h
  · exact br_t h a
  · exact br_f (sd_g0 h hn) (br_f (sd_ng h hn) a)
theorem sx_DT {A A' B : Prop} {p c : Int32} (n : Nat) (h : sd_rg n p) (b : B) (hc : c = nI n := by rfl) (hn : n < 2 ^ 31 := by omega) : (p < 0 → A) ∧ (¬ p < 0 → ((p < c → B) ∧ (¬ p < c → A'))) := by
  subst hc
  obtain ⟨j, hj, rfl⟩ := h
  exact br_f (nI_pos (by omega)) (br_t (nI_lt hj hn) b)
-- the same with -1 as the lowest: M: p < -1 → A, then n ≤ p → A; N: p < -1 → A, then p < n → B, else A
theorem sx_MR {A B : Prop} {p c : Int32} (n : Nat) (h : sd_rm n p) (a : A) (hc : c = nI n := by rfl) (hn : n < 2 ^ 31 := by omega) : (p < -1 → A) ∧ (¬ p < -1 → ((c ≤ p → A) ∧ (¬ c ≤ p → B))) := by
  subst hc
  rcases h with h | h
  · exact br_t h a
  · exact br_f (sd_gm h hn) (br_t h a)
theorem sx_MT {A A' B : Prop} {p c : Int32} (n : Nat) (h : p = -1 ∨ sd_rg n p) (b : B) (hc : c = nI n := by rfl) (hn : n < 2 ^ 31 := by omega) : (p < -1 → A) ∧ (¬ p < -1 → ((c ≤ p → A') ∧ (¬ c ≤ p → B))) := by
  subst hc
  rcases h with rfl | ⟨j, hj, rfl⟩
  · refine br_f (by decide) (br_f ?_ b)
    rw [sd_leI, nI_toInt hn]
    have e0 : (-1 : Int32).toInt = -1 := by decide
    omega
  · exact br_f (sd_nm (by omega)) (br_f (nI_ge hj hn) b)
theorem sx_NR {A B : Prop} {p c : Int32} (n : Nat) (h : sd_rm n p) (a : A) (hc : c = nI n := by rfl) (hn : n < 2 ^ 31 := by omega) : (p < -1 → A) ∧ (¬ p < -1 → ((p < c → B) ∧ (¬ p < c → A))) := by
  subst hc
  rcases h with h | h
  · exact br_t h a
  · exact br_f (sd_gm h hn) (br_f (sd_ng h hn) a)
theorem sx_NT {A A' B : Prop} {p c : Int32} (n : Nat) (h : p = -1 ∨ sd_rg n p) (b : B) (hc : c = nI n := by rfl) (hn : n < 2 ^ 31 := by omega) : (p < -1 → A) ∧ (¬ p < -1 → ((p < c → B) ∧ (¬ p < c → A'))) := by
  subst hc
  rcases h with rfl | ⟨j, hj, rfl⟩
  · refine br_f (by decide) (br_t ?_ b)
    rw [sd_ltI, nI_toInt hn]
    have e0 : (-1 : Int32).toInt = -1 := by decide
    omega
  · exact br_f (sd_nm (by omega)) (br_t (nI_lt hj hn) b)
theorem sd_10 : ¬ (1 : Int32) = 0 := by decide
-- X's tests
theorem sx_word0 {post : Int32 → Prop} {p : Int32} (h : sd_rj 65536 p) (k : post 0) : wpX_isWord post p := sx_BR 65535 h k
theorem sx_word1 {post : Int32 → Prop} {p : Int32} (h : sd_rg 65536 p) (k : post 1) : wpX_isWord post p := sx_BT 65535 h k
theorem sx_field0 {post : Int32 → Prop} {p : Int32} (h : sd_rj 28 p) (k : post 0) : wpX_isField post p := sx_AR 28 h k
theorem sx_field1 {post : Int32 → Prop} {p : Int32} (h : sd_rg 28 p) (k : post 1) : wpX_isField post p := sx_AT 28 h k
theorem sx_header0 {post : Int32 → Prop} {p : Int32} (h : sd_rj 6 p) (k : post 0) : wpX_isHeader post p := sx_AR 6 h k
theorem sx_header1 {post : Int32 → Prop} {p : Int32} (h : sd_rg 6 p) (k : post 1) : wpX_isHeader post p := sx_AT 6 h k
theorem sx_meter0 {post : Int32 → Prop} {p : Int32} (h : sd_rj 4 p) (k : post 0) : wpX_isMeter post p := sx_AR 4 h k
theorem sx_meter1 {post : Int32 → Prop} {p : Int32} (h : sd_rg 4 p) (k : post 1) : wpX_isMeter post p := sx_AT 4 h k
theorem sx_port0 {post : Int32 → Prop} {p : Int32} (h : sd_rj 4 p) (k : post 0) : wpX_isPort post p := sx_AR 4 h k
theorem sx_port1 {post : Int32 → Prop} {p : Int32} (h : sd_rg 4 p) (k : post 1) : wpX_isPort post p := sx_AT 4 h k
theorem sx_kind0 {post : Int32 → Prop} {p : Int32} (h : sd_rj 3 p) (k : post 0) : wpX_isKind post p := sx_BR 2 h k
theorem sx_kind1 {post : Int32 → Prop} {p : Int32} (h : sd_rg 3 p) (k : post 1) : wpX_isKind post p := sx_BT 2 h k
-- Y's test
theorem sy_in0 {post : Int32 → Prop} {p hi : Int32} (n : Nat) (h : sd_rj (n + 1) p) (k : post 0) (hc : hi = nI n := by rfl) (hn : n + 1 < 2 ^ 31 := by omega) : wpY_in post p 0 hi := sx_BR n h k hc hn
theorem sy_in1 {post : Int32 → Prop} {p hi : Int32} (n : Nat) (h : sd_rg (n + 1) p) (k : post 1) (hc : hi = nI n := by rfl) (hn : n + 1 < 2 ^ 31 := by omega) : wpY_in post p 0 hi := sx_BT n h k hc hn
theorem sy_inm0 {post : Int32 → Prop} {p hi : Int32} (n : Nat) (h : sd_rm (n + 1) p) (k : post 0) (hc : hi = nI n := by rfl) (hn : n + 1 < 2 ^ 31 := by omega) : wpY_in post p (-1) hi := by
  subst hc
  rcases h with h | h
  · exact br_t h k
  · exact br_f (sd_gm h hn) (br_t (sd_lg h hn) k)
theorem sy_inm1 {post : Int32 → Prop} {p hi : Int32} (n : Nat) (h : p = -1 ∨ sd_rg (n + 1) p) (k : post 1) (hc : hi = nI n := by rfl) (hn : n + 1 < 2 ^ 31 := by omega) : wpY_in post p (-1) hi := by
  subst hc
  rcases h with rfl | ⟨j, hj, rfl⟩
  · refine br_f (by decide) (br_f ?_ k)
    rw [sd_ltI, nI_toInt (by omega)]
    have e0 : (-1 : Int32).toInt = -1 := by decide
    omega
  · exact br_f (sd_nm (by omega)) (br_f (nI_nlt (by omega) (by omega)) k)
theorem sy_field0 {post : Int32 → Prop} {p : Int32} (h : sd_rj 28 p) (k : post 0) : wpY_isField post p := sy_in0 27 h ⟨sd_n0, k⟩
theorem sy_field1 {post : Int32 → Prop} {p : Int32} (h : sd_rg 28 p) (k : post 1) : wpY_isField post p := sy_in1 27 h ⟨sd_n1, k⟩
theorem sy_word0 {post : Int32 → Prop} {p : Int32} (h : sd_rj 65536 p) (k : post 0) : wpY_isNumber post p := sy_in0 65535 h ⟨sd_n0, k⟩
theorem sy_word1 {post : Int32 → Prop} {p : Int32} (h : sd_rg 65536 p) (k : post 1) : wpY_isNumber post p := sy_in1 65535 h ⟨sd_n1, k⟩
-- behind a test: 0 or 1
theorem sd_w0 {A B : Prop} (a : A) : ((0 : Int32) = 0 → A) ∧ (¬ (0 : Int32) = 0 → B) := br_t rfl a
theorem sd_w1 {A B : Prop} (b : B) : ((1 : Int32) = 0 → A) ∧ (¬ (1 : Int32) = 0 → B) := br_f sd_10 b
end
section
/-- widths, values, validity -/
def sd_F (fw fv hv : Nat → Int32) : Prop :=
  (∀ f, f < 28 → ∃ a b : Nat, a ≤ 16 ∧ b < 2 ^ a ∧ fw f = nI a ∧ fv f = nI b) ∧ (∀ f, 24 ≤ f → f < 28 → fw f = 16) ∧ (∀ h, h < 6 → hv h = 0 ∨ hv h = 1)
/-- states -/
def sd_S (sts ta lk go ca cv cm cg : Nat → Int32) : Prop :=
  ∀ s, s < 8 → (sts (s * 13 + 0) = ta s ∧ sts (s * 13 + 1) = lk s ∧ sts (s * 13 + 2) = go s ∧ sts (s * 13 + 3) = ca s) ∧
    (ta s = -1 ∨ sd_rg 6 (ta s)) ∧ (lk s = -1 ∨ sd_rg 28 (lk s)) ∧ sd_rg 10 (go s) ∧ sd_rg 4 (ca s) ∧
    (∀ c, c < 3 → sts (s * 13 + 4 + c * 3) = cv (3 * s + c) ∧ sts (s * 13 + 4 + c * 3 + 1) = cm (3 * s + c) ∧ sts (s * 13 + 4 + c * 3 + 2) = cg (3 * s + c) ∧ sd_rg 10 (cg (3 * s + c)))
/-- an operation as promise 5 has it -/
def sd_op (w f x : Int32) : Prop :=
  ∃ n : Nat, n ≤ 14 ∧ w = nI n ∧ ((n < 6 ∨ 9 < n) → sd_rg 28 f) ∧ ((n = 6 ∨ n = 7) → sd_rg 6 f) ∧ ((2 ≤ n ∧ n ≤ 5) → sd_rg 28 x) ∧ (n = 10 → sd_rg 6 x) ∧ ((11 ≤ n ∧ n ≤ 13) → sd_rg 8 x) ∧ (n = 14 → sd_rg 4 x)
/-- actions -/
def sd_O (ops opn ow oq ox : Nat → Int32) : Prop :=
  (∀ a, a < 8 → sd_rg 6 (opn a)) ∧ (∀ k, k < 40 → ops (k * 3) = ow k ∧ ops (k * 3 + 1) = oq k ∧ ops (k * 3 + 2) = ox k ∧ sd_op (ow k) (oq k) (ox k))
/-- tables -/
def sd_E (kf kk th ens mm ra ac ea eb ch : Nat → Int32) : Prop :=
  (∀ t, t < 4 → sd_rg 28 (kf (2 * t)) ∧ (kf (2 * t + 1) = -1 ∨ sd_rg 28 (kf (2 * t + 1)))) ∧ (∀ i, i < 8 → sd_rg 3 (kk i)) ∧
  (∀ x, x < 52 → (ens (x * 5 + 0) = ra x ∧ ens (x * 5 + 1) = ac x ∧ ens (x * 5 + 2) = ea x ∧ ens (x * 5 + 3) = eb x ∧ ens (x * 5 + 4) = ch x) ∧ sd_rg 16 (ra x) ∧ sd_rg 8 (ac x)) ∧
  (∀ t, t < 4 → ∀ e, e < 12 → ¬ th (13 * t + e) = 0 → ∀ c, c < 2 → kk (2 * t + c) = 1 → sd_rg 17 (mm (2 * (13 * t + e) + c)))
/-- a step as promise 10 has it -/
def sd_sp (i : Nat) (w a b g : Int32) : Prop :=
  ∃ n : Nat, n ≤ 5 ∧ w = nI n ∧ (n = 0 → sd_rg 4 a) ∧ (n = 1 → sd_rg 8 a) ∧ ((n = 2 ∨ n = 4) → sd_rg 28 a) ∧ (n = 3 → sd_rg 6 a) ∧ (n = 4 → sd_rg 28 b) ∧ (n ≠ 1 → ∃ j : Nat, i < j ∧ j ≤ 16 ∧ g = nI j)
/-- steps -/
def sd_P (sc : Int32) (sps sw sa sz sg : Nat → Int32) : Prop :=
  ∃ N : Nat, N ≤ 16 ∧ sc = nI N ∧ (∀ i, i < 16 → sps (i * 4) = sw i ∧ sps (i * 4 + 1) = sa i ∧ sps (i * 4 + 2) = sz i ∧ sps (i * 4 + 3) = sg i) ∧ (∀ i, i < N → sd_sp i (sw i) (sa i) (sz i) (sg i))
/-- the order -/
def sd_H (oc : Int32) (ho : Nat → Int32) : Prop := ∃ N : Nat, N ≤ 6 ∧ oc = nI N ∧ ∀ i, i < 6 → sd_rg 6 (ho i)
/-- n bits from b on, read as a number -/
def sd_ac (mk : Nat → Int32) (b : Nat) : Nat → Int32
  | 0 => 0
  | n + 1 => 2 * sd_ac mk b n + (if mk (b + n) = 0 then 0 else 1)
/-- the typed bytes -/
def sd_T (pb pz : Nat → Int32) (tl : Int32) (ty : Nat → Int32) : Prop :=
  (∃ T : Nat, T ≤ 16 ∧ tl = nI T ∧ pz 48 = nI T) ∧ (∀ j, j < 16 → pb (768 + j) = ty j)
/-- the latest packet that came out -/
def sd_U (pb pz : Nat → Int32) (lo ol : Int32) (mk : Nat → Int32) : Prop :=
  (lo = 0 ∧ ol = -1) ∨ (lo = 1 ∧ ∃ L : Nat, L ≤ 16 ∧ ol = nI L ∧ pz 50 = nI L ∧ ∀ k, k < L → pb (800 + k) = sd_ac mk (8 * k) 8)
/-- the packet that was fetched -/
def sd_G (pb pz : Nat → Int32) (gl : Int32) (gt : Nat → Int32) : Prop :=
  ∃ G : Nat, G ≤ 16 ∧ gl = nI G ∧ pz 51 = nI G ∧ ∀ j, j < G → pb (816 + j) = gt j
/-- the queues' packets -/
def sd_W (pb pz qc le yb : Nat → Int32) : Prop :=
  ∀ q, q < 12 → ∃ C : Nat, C ≤ 4 ∧ qc q = nI C ∧ ∀ i, i < C → ∃ L : Nat, L ≤ 16 ∧ le (4 * q + i) = nI L ∧ pz (q * 4 + i) = nI L ∧ ∀ j, j < L → pb ((q * 4 + i) * 16 + j) = yb (16 * (4 * q + i) + j)
/-- turns, quanta, credits -/
def sd_Q (qq qe tq : Nat → Int32) : Prop :=
  (∀ p, p < 4 → sd_rg 3 (tq p)) ∧ (∀ q, q < 12 → ∃ a : Nat, 1 ≤ a ∧ a ≤ 32 ∧ qq q = nI a) ∧ (∀ p, p < 4 → ∀ c, c < 3 → ∃ e : Nat, e ≤ 51 ∧ qe (3 * p + c) = nI e ∧ (tq p = nI c ∨ e ≤ 19))
def i_Rel (k : Nat) (u : SX) (v : SY) : Prop := k = k ∧ ∃ (sc oc bt bb da ag lo tp sb sd tk tl tt ma ol dr ay gl : Int32) (fw fv hv sts ops opn rg kf kk th ens mv mm sps ho pb pz rc mr md mt gp qc qq qe lc tq ta lk go ca cv cm cg ow oq ox sw sa sz sg ra ac ea eb ch ty bi mk yb le gt : Nat → Int32),
  u = (sc, oc, bt, bb, da, ag, lo, tp, sb, sd, tk, fw, fv, hv, sts, ops, opn, rg, kf, kk, th, ens, mv, mm, sps, ho, pb, pz, rc, mr, md, mt, gp, qc, qq, qe, lc, tq) ∧ v = (sc, oc, tl, tt, bt, ma, ol, tp, sb, sd, tk, dr, ay, gl, fw, fv, hv, ta, lk, go, ca, cv, cm, cg, opn, ow, oq, ox, rg, sw, sa, sz, sg, ho, kf, kk, ra, ac, ea, eb, ch, th, mv, mm, ty, bi, mk, rc, mr, md, mt, gp, yb, le, qc, qe, qq, tq, lc, gt) ∧ sd_F fw fv hv ∧ sd_S sts ta lk go ca cv cm cg ∧ sd_O ops opn ow oq ox ∧ sd_E kf kk th ens mm ra ac ea eb ch ∧ sd_P sc sps sw sa sz sg ∧ sd_H oc ho ∧
  sd_T pb pz tl ty ∧ sd_U pb pz lo ol mk ∧ sd_G pb pz gl gt ∧ sd_W pb pz qc le yb ∧ sd_Q qq qe tq
section
variable {sc oc bt bb da ag lo tp sb sd tk : Int32} {fw fv hv sts ops opn rg kf kk th ens mv mm sps ho pb pz rc mr md mt gp qc qq qe lc tq : Nat → Int32} {tl tt ma ol dr ay gl : Int32} {ta lk go ca cv cm cg ow oq ox sw sa sz sg ra ac ea eb ch ty bi mk yb le gt : Nat → Int32}
theorem sd_mk {k : Nat} (hF : sd_F fw fv hv) (hS : sd_S sts ta lk go ca cv cm cg) (hO : sd_O ops opn ow oq ox) (hE : sd_E kf kk th ens mm ra ac ea eb ch) (hP : sd_P sc sps sw sa sz sg) (hH : sd_H oc ho)
    (hT : sd_T pb pz tl ty) (hU : sd_U pb pz lo ol mk) (hG : sd_G pb pz gl gt) (hW : sd_W pb pz qc le yb) (hQ : sd_Q qq qe tq) : i_Rel k (sc, oc, bt, bb, da, ag, lo, tp, sb, sd, tk, fw, fv, hv, sts, ops, opn, rg, kf, kk, th, ens, mv, mm, sps, ho, pb, pz, rc, mr, md, mt, gp, qc, qq, qe, lc, tq) (sc, oc, tl, tt, bt, ma, ol, tp, sb, sd, tk, dr, ay, gl, fw, fv, hv, ta, lk, go, ca, cv, cm, cg, opn, ow, oq, ox, rg, sw, sa, sz, sg, ho, kf, kk, ra, ac, ea, eb, ch, th, mv, mm, ty, bi, mk, rc, mr, md, mt, gp, yb, le, qc, qe, qq, tq, lc, gt) :=
  ⟨rfl, sc, oc, bt, bb, da, ag, lo, tp, sb, sd, tk, tl, tt, ma, ol, dr, ay, gl, fw, fv, hv, sts, ops, opn, rg, kf, kk, th, ens, mv, mm, sps, ho, pb, pz, rc, mr, md, mt, gp, qc, qq, qe, lc, tq, ta, lk, go, ca, cv, cm, cg, ow, oq, ox, sw, sa, sz, sg, ra, ac, ea, eb, ch, ty, bi, mk, yb, le, gt, rfl, rfl, hF, hS, hO, hE, hP, hH, hT, hU, hG, hW, hQ⟩
theorem i_up {k : Nat} {u : SX} {v : SY} (h : i_Rel k u v) : i_Rel (k + 7) u v := ⟨rfl, h.2⟩
theorem sd_lp {σ : Type} (W : Nat → Nat → σ → Prop) (F : Nat → σ) (e i0 : Nat) (hi : i0 ≤ e) (hx : ∀ n, W (n + 1) e (F e)) (hs : ∀ n i, i0 ≤ i → i < e → W n (i + 1) (F (i + 1)) → W (n + 1) i (F i)) : ∃ n, W n i0 (F i0) := by
  have g : ∀ d i, i0 ≤ i → i + d = e → W (d + 1) i (F i) := by
    intro d
    induction d with
    | zero =>
      intro i _ h
      have : i = e := by omega
      subst this
      exact hx 0
    | succ d ih =>
      intro i h0 h
      exact hs (d + 1) i h0 (by omega) (ih (i + 1) (by omega) (by omega))
  exact ⟨_, g (e - i0) i0 (Nat.le_refl _) (by omega)⟩
/-- c from lo up to i, else 0 -/
def sd_fl (lo i : Nat) (c : Int32) : Nat → Int32 := fun j => if lo ≤ j ∧ j < i then c else 0
theorem sd_fl0 (lo : Nat) (c : Int32) : sd_fl lo lo c = fun _ => 0 := by
  funext j
  exact if_neg (by omega)
theorem sd_fls {lo i : Nat} {c : Int32} (h : lo ≤ i) : upd (sd_fl lo i c) i c = sd_fl lo (i + 1) c := by
  funext j
  by_cases e : j = i
  · subst e
    rw [pk_us]
    exact (if_pos (by omega)).symm
  · rw [pk_un e]
    show (if _ then c else 0) = (if _ then c else 0)
    by_cases g : lo ≤ j ∧ j < i
    · rw [if_pos g, if_pos (by omega)]
    · rw [if_neg g, if_neg (by omega)]
def sd_kf (i : Nat) : Nat → Int32 := fun j => if j < 2 * i then (if j % 2 = 0 then 24 else -1) else 0
theorem sd_kfs (i : Nat) : upd (upd (sd_kf i) (2 * i) 24) (2 * i + 1) (-1) = sd_kf (i + 1) := by
  funext j
  by_cases e : j = 2 * i + 1
  · subst e
    rw [pk_us]
    show _ = (if _ then _ else _)
    rw [if_pos (by omega), if_neg (by omega)]
  · rw [pk_un e]
    by_cases e2 : j = 2 * i
    · subst e2
      rw [pk_us]
      show _ = (if _ then _ else _)
      rw [if_pos (by omega), if_pos (by omega)]
    · rw [pk_un e2]
      show (if _ then _ else _) = (if _ then _ else _)
      by_cases g : j < 2 * i
      · rw [if_pos g, if_pos (show j < 2 * (i + 1) by omega)]
      · rw [if_neg g, if_neg (by omega)]
def sd_ss (i : Nat) : Nat → Int32 := fun j => if j < i * 13 then (if j % 13 < 2 then -1 else if j % 13 = 2 then 8 else 0) else 0
theorem sd_sss (i : Nat) : upd (upd (upd (sd_ss i) (i * 13 + 0) (-1)) (i * 13 + 1) (-1)) (i * 13 + 2) 8 = sd_ss (i + 1) := by
  funext j
  by_cases e : j = i * 13 + 2
  · subst e
    rw [pk_us]
    show _ = (if _ then _ else _)
    rw [if_pos (by omega), if_neg (by omega), if_pos (by omega)]
  · rw [pk_un e]
    by_cases e1 : j = i * 13 + 1
    · subst e1
      rw [pk_us]
      show _ = (if _ then _ else _)
      rw [if_pos (by omega), if_pos (by omega)]
    · rw [pk_un e1]
      by_cases e2 : j = i * 13 + 0
      · subst e2
        rw [pk_us]
        show _ = (if _ then _ else _)
        rw [if_pos (by omega), if_pos (by omega)]
      · rw [pk_un e2]
        show (if _ then _ else _) = (if _ then _ else _)
        by_cases g : j < i * 13
        · rw [if_pos g, if_pos (show j < (i + 1) * 13 by omega)]
        · rw [if_neg g]
          by_cases g2 : j < (i + 1) * 13
          · rw [if_pos g2, if_neg (by omega), if_neg (by omega)]
          · rw [if_neg g2]
theorem sx_i402 {post : SX → Prop} (h : post (sc, oc, bt, bb, da, ag, lo, tp, sb, sd, tk, fw, fv, hv, sts, ops, opn, rg, kf, kk, th, ens, mv, mm, sps, ho, pb, pz, rc, mr, md, mt, gp, qc, qq, qe, lc, (sd_fl 0 4 2))) : ∃ n, wX_init_402 post sc oc bt bb da ag lo tp sb sd tk n 0 fw fv hv sts ops opn rg kf kk th ens mv mm sps ho pb pz rc mr md mt gp qc qq qe lc (sd_fl 0 0 2) :=
  sd_lp (fun n i s => wX_init_402 post sc oc bt bb da ag lo tp sb sd tk n (nI i) fw fv hv sts ops opn rg kf kk th ens mv mm sps ho pb pz rc mr md mt gp qc qq qe lc s) (fun i => sd_fl 0 i 2) 4 0 (by omega) (fun n => br_t (nI_le (a := 4) (b := 4) (Nat.le_refl _) (by decide)) h)
    (fun n i h0 h1 ih => br_f (nI_ge (b := 4) h1 (by decide)) (sd_st i rfl h1 (by decide) (nm_r (nI_1 i) (by rw [sd_fls h0]; exact ih))))
theorem sx_i380 {post : SX → Prop} (h : post (sc, oc, bt, bb, da, ag, lo, tp, sb, sd, tk, fw, fv, hv, sts, ops, opn, rg, kf, kk, th, ens, mv, mm, sps, ho, pb, pz, rc, mr, md, mt, gp, qc, (sd_fl 0 12 16), qe, lc, (sd_fl 0 4 2))) : ∃ n, wX_init_380 post sc oc bt bb da ag lo tp sb sd tk n 0 fw fv hv sts ops opn rg kf kk th ens mv mm sps ho pb pz rc mr md mt gp qc (sd_fl 0 0 16) qe lc (sd_fl 0 0 2) :=
  sd_lp (fun n i s => wX_init_380 post sc oc bt bb da ag lo tp sb sd tk n (nI i) fw fv hv sts ops opn rg kf kk th ens mv mm sps ho pb pz rc mr md mt gp qc s qe lc (sd_fl 0 0 2)) (fun i => sd_fl 0 i 16) 12 0 (by omega) (fun n => br_t (nI_le (a := 12) (b := 12) (Nat.le_refl _) (by decide)) (sx_i402 h))
    (fun n i h0 h1 ih => br_f (nI_ge (b := 12) h1 (by decide)) (sd_st i rfl h1 (by decide) (nm_r (nI_1 i) (by rw [sd_fls h0]; exact ih))))
theorem sx_i346 {post : SX → Prop} (h : post (sc, oc, bt, bb, da, ag, lo, tp, sb, sd, tk, fw, fv, hv, sts, ops, opn, rg, (sd_kf 4), kk, th, ens, mv, mm, sps, ho, pb, pz, rc, mr, md, mt, gp, qc, (sd_fl 0 12 16), qe, lc, (sd_fl 0 4 2))) : ∃ n, wX_init_346 post sc oc bt bb da ag lo tp sb sd tk n 0 fw fv hv sts ops opn rg (sd_kf 0) kk th ens mv mm sps ho pb pz rc mr md mt gp qc (sd_fl 0 0 16) qe lc (sd_fl 0 0 2) :=
  sd_lp (fun n i s => wX_init_346 post sc oc bt bb da ag lo tp sb sd tk n (nI i) fw fv hv sts ops opn rg s kk th ens mv mm sps ho pb pz rc mr md mt gp qc (sd_fl 0 0 16) qe lc (sd_fl 0 0 2)) (fun i => sd_kf i) 4 0 (by omega) (fun n => br_t (nI_le (a := 4) (b := 4) (Nat.le_refl _) (by decide)) (sx_i380 h))
    (fun n i h0 h1 ih => br_f (nI_ge (b := 4) h1 (by decide)) (sd_st (2 * i) ((pk_mul i 2).trans (by rw [Nat.mul_comm])) (by omega) (by decide) (sd_st (2 * i + 1) ((sd_ma i 2 1).trans (by rw [Nat.mul_comm])) (by omega) (by decide) (nm_r (nI_1 i) (by rw [sd_kfs]; exact ih)))))
theorem sx_i295 {post : SX → Prop} (h : post (sc, oc, bt, bb, da, ag, lo, tp, sb, sd, tk, fw, fv, hv, (sd_ss 8), ops, opn, rg, (sd_kf 4), kk, th, ens, mv, mm, sps, ho, pb, pz, rc, mr, md, mt, gp, qc, (sd_fl 0 12 16), qe, lc, (sd_fl 0 4 2))) : ∃ n, wX_init_295 post sc oc bt bb da ag lo tp sb sd tk n 0 fw fv hv (sd_ss 0) ops opn rg (sd_kf 0) kk th ens mv mm sps ho pb pz rc mr md mt gp qc (sd_fl 0 0 16) qe lc (sd_fl 0 0 2) :=
  sd_lp (fun n i s => wX_init_295 post sc oc bt bb da ag lo tp sb sd tk n (nI i) fw fv hv s ops opn rg (sd_kf 0) kk th ens mv mm sps ho pb pz rc mr md mt gp qc (sd_fl 0 0 16) qe lc (sd_fl 0 0 2)) (fun i => sd_ss i) 8 0 (by omega) (fun n => br_t (nI_le (a := 8) (b := 8) (Nat.le_refl _) (by decide)) (sx_i346 h))
    (fun n i h0 h1 ih => br_f (nI_ge (b := 8) h1 (by decide)) (sd_st (i * 13 + 0) (sd_ma i 13 0) (by omega) (by decide) (sd_st (i * 13 + 1) (sd_ma i 13 1) (by omega) (by decide) (sd_st (i * 13 + 2) (sd_ma i 13 2) (by omega) (by decide) (nm_r (nI_1 i) (by rw [sd_sss]; exact ih))))))
theorem sx_i273 {post : SX → Prop} (h : post (sc, oc, bt, bb, da, ag, lo, tp, sb, sd, tk, (sd_fl 24 28 16), fv, hv, (sd_ss 8), ops, opn, rg, (sd_kf 4), kk, th, ens, mv, mm, sps, ho, pb, pz, rc, mr, md, mt, gp, qc, (sd_fl 0 12 16), qe, lc, (sd_fl 0 4 2))) : ∃ n, wX_init_273 post sc oc bt bb da ag lo tp sb sd tk n 24 (sd_fl 24 24 16) fv hv (sd_ss 0) ops opn rg (sd_kf 0) kk th ens mv mm sps ho pb pz rc mr md mt gp qc (sd_fl 0 0 16) qe lc (sd_fl 0 0 2) :=
  sd_lp (fun n i s => wX_init_273 post sc oc bt bb da ag lo tp sb sd tk n (nI i) s fv hv (sd_ss 0) ops opn rg (sd_kf 0) kk th ens mv mm sps ho pb pz rc mr md mt gp qc (sd_fl 0 0 16) qe lc (sd_fl 0 0 2)) (fun i => sd_fl 24 i 16) 28 24 (by omega) (fun n => br_t (nI_le (a := 28) (b := 28) (Nat.le_refl _) (by decide)) (sx_i295 h))
    (fun n i h0 h1 ih => br_f (nI_ge (b := 28) h1 (by decide)) (sd_st i rfl h1 (by decide) (nm_r (nI_1 i) (by rw [sd_fls h0]; exact ih))))
theorem sd_kf0 : sd_kf 0 = fun _ => 0 := by
  funext j
  exact if_neg (by omega)
theorem sd_ss0 : sd_ss 0 = fun _ => 0 := by
  funext j
  exact if_neg (by omega)
end
end
section
theorem sd_el {k : Nat} {u : SX} {v : SY} {C : SX → SY → Prop} (I : i_Rel k u v) (h : ∀ (sc oc bt bb da ag lo tp sb sd tk tl tt ma ol dr ay gl : Int32) (fw fv hv sts ops opn rg kf kk th ens mv mm sps ho pb pz rc mr md mt gp qc qq qe lc tq ta lk go ca cv cm cg ow oq ox sw sa sz sg ra ac ea eb ch ty bi mk yb le gt : Nat → Int32), sd_F fw fv hv → sd_S sts ta lk go ca cv cm cg → sd_O ops opn ow oq ox → sd_E kf kk th ens mm ra ac ea eb ch → sd_P sc sps sw sa sz sg → sd_H oc ho → sd_T pb pz tl ty → sd_U pb pz lo ol mk → sd_G pb pz gl gt → sd_W pb pz qc le yb → sd_Q qq qe tq → C (sc, oc, bt, bb, da, ag, lo, tp, sb, sd, tk, fw, fv, hv, sts, ops, opn, rg, kf, kk, th, ens, mv, mm, sps, ho, pb, pz, rc, mr, md, mt, gp, qc, qq, qe, lc, tq) (sc, oc, tl, tt, bt, ma, ol, tp, sb, sd, tk, dr, ay, gl, fw, fv, hv, ta, lk, go, ca, cv, cm, cg, opn, ow, oq, ox, rg, sw, sa, sz, sg, ho, kf, kk, ra, ac, ea, eb, ch, th, mv, mm, ty, bi, mk, rc, mr, md, mt, gp, yb, le, qc, qe, qq, tq, lc, gt)) : C u v := by
  obtain ⟨-, sc, oc, bt, bb, da, ag, lo, tp, sb, sd, tk, tl, tt, ma, ol, dr, ay, gl, fw, fv, hv, sts, ops, opn, rg, kf, kk, th, ens, mv, mm, sps, ho, pb, pz, rc, mr, md, mt, gp, qc, qq, qe, lc, tq, ta, lk, go, ca, cv, cm, cg, ow, oq, ox, sw, sa, sz, sg, ra, ac, ea, eb, ch, ty, bi, mk, yb, le, gt, rfl, rfl, hF, hS, hO, hE, hP, hH, hT, hU, hG, hW, hQ⟩ := I
  exact h sc oc bt bb da ag lo tp sb sd tk tl tt ma ol dr ay gl fw fv hv sts ops opn rg kf kk th ens mv mm sps ho pb pz rc mr md mt gp qc qq qe lc tq ta lk go ca cv cm cg ow oq ox sw sa sz sg ra ac ea eb ch ty bi mk yb le gt hF hS hO hE hP hH hT hU hG hW hQ
end
section
section
variable {sc oc bt bb da ag lo tp sb sd tk : Int32} {fw fv hv sts ops opn rg kf kk th ens mv mm sps ho pb pz rc mr md mt gp qc qq qe lc tq : Nat → Int32} {tl tt ma ol dr ay gl : Int32} {ta lk go ca cv cm cg ow oq ox sw sa sz sg ra ac ea eb ch ty bi mk yb le gt : Nat → Int32}
theorem sy_i475 {post : SY → Prop} (h : post (sc, oc, tl, tt, bt, ma, ol, tp, sb, sd, tk, dr, ay, gl, fw, fv, hv, ta, lk, go, ca, cv, cm, cg, opn, ow, oq, ox, rg, sw, sa, sz, sg, ho, kf, kk, ra, ac, ea, eb, ch, th, mv, mm, ty, bi, mk, rc, mr, md, mt, gp, yb, le, qc, qe, (sd_fl 0 12 16), tq, lc, gt)) : ∃ n, wY_init_475 post sc oc tl tt bt ma ol tp sb sd tk dr ay gl n 0 fw fv hv ta lk go ca cv cm cg opn ow oq ox rg sw sa sz sg ho kf kk ra ac ea eb ch th mv mm ty bi mk rc mr md mt gp yb le qc qe (sd_fl 0 0 16) tq lc gt :=
  sd_lp (fun n i s => wY_init_475 post sc oc tl tt bt ma ol tp sb sd tk dr ay gl n (nI i) fw fv hv ta lk go ca cv cm cg opn ow oq ox rg sw sa sz sg ho kf kk ra ac ea eb ch th mv mm ty bi mk rc mr md mt gp yb le qc qe s tq lc gt) (fun i => sd_fl 0 i 16) 12 0 (by omega) (fun n => br_t (nI_le (a := 12) (b := 12) (Nat.le_refl _) (by decide)) h)
    (fun n i h0 h1 ih => br_f (nI_ge (b := 12) h1 (by decide)) (sd_st i rfl h1 (by decide) (nm_r (nI_1 i) (by rw [sd_fls h0]; exact ih))))
theorem sy_i434 {post : SY → Prop} (h : post (sc, oc, tl, tt, bt, ma, ol, tp, sb, sd, tk, dr, ay, gl, fw, fv, hv, ta, lk, go, ca, cv, cm, cg, opn, ow, oq, ox, rg, sw, sa, sz, sg, ho, (sd_kf 4), kk, ra, ac, ea, eb, ch, th, mv, mm, ty, bi, mk, rc, mr, md, mt, gp, yb, le, qc, qe, (sd_fl 0 12 16), (sd_fl 0 4 2), lc, gt)) : ∃ n, wY_init_434 post sc oc tl tt bt ma ol tp sb sd tk dr ay gl n 0 fw fv hv ta lk go ca cv cm cg opn ow oq ox rg sw sa sz sg ho (sd_kf 0) kk ra ac ea eb ch th mv mm ty bi mk rc mr md mt gp yb le qc qe (sd_fl 0 0 16) (sd_fl 0 0 2) lc gt :=
  sd_lp (fun n i (s : (Nat → Int32) × (Nat → Int32)) => wY_init_434 post sc oc tl tt bt ma ol tp sb sd tk dr ay gl n (nI i) fw fv hv ta lk go ca cv cm cg opn ow oq ox rg sw sa sz sg ho s.1 kk ra ac ea eb ch th mv mm ty bi mk rc mr md mt gp yb le qc qe (sd_fl 0 0 16) s.2 lc gt) (fun i => (sd_kf i, sd_fl 0 i 2)) 4 0 (by omega) (fun n => br_t (nI_le (a := 4) (b := 4) (Nat.le_refl _) (by decide)) (sy_i475 h))
    (fun n i h0 h1 ih => br_f (nI_ge (b := 4) h1 (by decide)) (sd_st (2 * i) (pk_mul 2 i) (by omega) (by decide) (sd_st (2 * i + 1) (sd_am i 2 1) (by omega) (by decide) (sd_st i rfl h1 (by decide) (nm_r (nI_1 i) (by rw [sd_kfs, sd_fls h0]; exact ih))))))
theorem sy_i398 {post : SY → Prop} (h : post (sc, oc, tl, tt, bt, ma, ol, tp, sb, sd, tk, dr, ay, gl, fw, fv, hv, (sd_fl 0 8 (-1)), (sd_fl 0 8 (-1)), (sd_fl 0 8 8), ca, cv, cm, cg, opn, ow, oq, ox, rg, sw, sa, sz, sg, ho, (sd_kf 4), kk, ra, ac, ea, eb, ch, th, mv, mm, ty, bi, mk, rc, mr, md, mt, gp, yb, le, qc, qe, (sd_fl 0 12 16), (sd_fl 0 4 2), lc, gt)) : ∃ n, wY_init_398 post sc oc tl tt bt ma ol tp sb sd tk dr ay gl n 0 fw fv hv (sd_fl 0 0 (-1)) (sd_fl 0 0 (-1)) (sd_fl 0 0 8) ca cv cm cg opn ow oq ox rg sw sa sz sg ho (sd_kf 0) kk ra ac ea eb ch th mv mm ty bi mk rc mr md mt gp yb le qc qe (sd_fl 0 0 16) (sd_fl 0 0 2) lc gt :=
  sd_lp (fun n i (s : (Nat → Int32) × (Nat → Int32) × (Nat → Int32)) => wY_init_398 post sc oc tl tt bt ma ol tp sb sd tk dr ay gl n (nI i) fw fv hv s.1 s.2.1 s.2.2 ca cv cm cg opn ow oq ox rg sw sa sz sg ho (sd_kf 0) kk ra ac ea eb ch th mv mm ty bi mk rc mr md mt gp yb le qc qe (sd_fl 0 0 16) (sd_fl 0 0 2) lc gt) (fun i => (sd_fl 0 i (-1), sd_fl 0 i (-1), sd_fl 0 i 8)) 8 0 (by omega) (fun n => br_t (nI_le (a := 8) (b := 8) (Nat.le_refl _) (by decide)) (sy_i434 h))
    (fun n i h0 h1 ih => br_f (nI_ge (b := 8) h1 (by decide)) (sd_st i rfl h1 (by decide) (sd_st i rfl h1 (by decide) (sd_st i rfl h1 (by decide) (nm_r (nI_1 i) (by rw [sd_fls h0, sd_fls h0]; exact ih))))))
theorem sy_i376 {post : SY → Prop} (h : post (sc, oc, tl, tt, bt, ma, ol, tp, sb, sd, tk, dr, ay, gl, (sd_fl 24 28 16), fv, hv, (sd_fl 0 8 (-1)), (sd_fl 0 8 (-1)), (sd_fl 0 8 8), ca, cv, cm, cg, opn, ow, oq, ox, rg, sw, sa, sz, sg, ho, (sd_kf 4), kk, ra, ac, ea, eb, ch, th, mv, mm, ty, bi, mk, rc, mr, md, mt, gp, yb, le, qc, qe, (sd_fl 0 12 16), (sd_fl 0 4 2), lc, gt)) : ∃ n, wY_init_376 post sc oc tl tt bt ma ol tp sb sd tk dr ay gl n 24 (sd_fl 24 24 16) fv hv (sd_fl 0 0 (-1)) (sd_fl 0 0 (-1)) (sd_fl 0 0 8) ca cv cm cg opn ow oq ox rg sw sa sz sg ho (sd_kf 0) kk ra ac ea eb ch th mv mm ty bi mk rc mr md mt gp yb le qc qe (sd_fl 0 0 16) (sd_fl 0 0 2) lc gt :=
  sd_lp (fun n i s => wY_init_376 post sc oc tl tt bt ma ol tp sb sd tk dr ay gl n (nI i) s fv hv (sd_fl 0 0 (-1)) (sd_fl 0 0 (-1)) (sd_fl 0 0 8) ca cv cm cg opn ow oq ox rg sw sa sz sg ho (sd_kf 0) kk ra ac ea eb ch th mv mm ty bi mk rc mr md mt gp yb le qc qe (sd_fl 0 0 16) (sd_fl 0 0 2) lc gt) (fun i => sd_fl 24 i 16) 28 24 (by omega) (fun n => br_t (nI_le (a := 28) (b := 28) (Nat.le_refl _) (by decide)) (sy_i398 h))
    (fun n i h0 h1 ih => br_f (nI_ge (b := 28) h1 (by decide)) (sd_st i rfl h1 (by decide) (nm_r (nI_1 i) (by rw [sd_fls h0]; exact ih))))
def sd_z : Nat → Int32 := fun _ => 0
theorem sx_init {post : SX → Prop} (h : post (0, 0, 0, 0, 0, 0, 0, 0, 0, 0, 0, (sd_fl 24 28 16), sd_z, sd_z, (sd_ss 8), sd_z, sd_z, sd_z, (sd_kf 4), sd_z, sd_z, sd_z, sd_z, sd_z, sd_z, sd_z, sd_z, sd_z, sd_z, sd_z, sd_z, sd_z, sd_z, sd_z, (sd_fl 0 12 16), sd_z, sd_z, (sd_fl 0 4 2))) : wpX_init post := by
  have g := sx_i273 (post := post) h
  rw [sd_fl0, sd_fl0, sd_fl0, sd_kf0, sd_ss0] at g
  exact g
theorem sy_init {post : SY → Prop} (h : post (0, 0, 0, 0, 0, 0, (-1), 0, 0, 0, 0, 0, 0, 0, (sd_fl 24 28 16), sd_z, sd_z, (sd_fl 0 8 (-1)), (sd_fl 0 8 (-1)), (sd_fl 0 8 8), sd_z, sd_z, sd_z, sd_z, sd_z, sd_z, sd_z, sd_z, sd_z, sd_z, sd_z, sd_z, sd_z, sd_z, (sd_kf 4), sd_z, sd_z, sd_z, sd_z, sd_z, sd_z, sd_z, sd_z, sd_z, sd_z, sd_z, sd_z, sd_z, sd_z, sd_z, sd_z, sd_z, sd_z, sd_z, sd_z, sd_z, (sd_fl 0 12 16), (sd_fl 0 4 2), sd_z, sd_z)) : wpY_init post := by
  have g := sy_i376 (post := post) h
  rw [sd_fl0, sd_fl0, sd_fl0, sd_fl0, sd_fl0, sd_kf0] at g
  exact g
theorem sd_flp {lo i j : Nat} {c : Int32} (h : lo ≤ j ∧ j < i) : sd_fl lo i c j = c := if_pos h
theorem sd_fln {lo i j : Nat} {c : Int32} (h : ¬ (lo ≤ j ∧ j < i)) : sd_fl lo i c j = 0 := if_neg h
theorem sd_r0 {n : Nat} (h : 0 < n) : sd_rg n 0 := ⟨0, h, rfl⟩
theorem sd_iF : sd_F (sd_fl 24 28 16) sd_z sd_z := by
  refine ⟨fun f hf => ?_, fun f h0 h1 => sd_flp ⟨h0, h1⟩, fun h _ => Or.inl rfl⟩
  by_cases h : 24 ≤ f
  · exact ⟨16, 0, by omega, by omega, sd_flp ⟨h, hf⟩, rfl⟩
  · exact ⟨0, 0, by omega, by omega, sd_fln (by omega), rfl⟩
theorem sd_m13 (s r : Nat) (h : r < 13) : (s * 13 + r) % 13 = r := by omega
theorem sd_iS : sd_S (sd_ss 8) (sd_fl 0 8 (-1)) (sd_fl 0 8 (-1)) (sd_fl 0 8 8) sd_z sd_z sd_z sd_z := by
  intro s hs
  have e0 : sd_fl 0 8 (-1) s = -1 := sd_flp ⟨by omega, hs⟩
  have e8 : sd_fl 0 8 8 s = 8 := sd_flp ⟨by omega, hs⟩
  refine ⟨⟨?_, ?_, ?_, ?_⟩, Or.inl e0, Or.inl e0, ⟨8, by omega, e8⟩, sd_r0 (by omega), fun c hc => ⟨?_, ?_, ?_, sd_r0 (by omega)⟩⟩
  · rw [e0]; show (if _ then _ else _) = _; rw [if_pos (by omega), if_pos (by omega)]
  · rw [e0]; show (if _ then _ else _) = _; rw [if_pos (by omega), if_pos (by omega)]
  · rw [e8]; show (if _ then _ else _) = _; rw [if_pos (by omega), if_neg (by omega), if_pos (by omega)]
  · show (if _ then _ else _) = _; rw [if_pos (by omega), if_neg (by omega), if_neg (by omega)]; rfl
  · have m : (s * 13 + 4 + c * 3) % 13 = 4 + c * 3 := by
      have m2 := sd_m13 s (4 + c * 3) (by omega)
      rw [← m2]; congr 1; omega
    show (if _ then _ else _) = _; rw [if_pos (by omega), if_neg (by omega), if_neg (by omega)]; rfl
  · have m : (s * 13 + 4 + c * 3 + 1) % 13 = 4 + c * 3 + 1 := by
      have m2 := sd_m13 s (4 + c * 3 + 1) (by omega)
      rw [← m2]; congr 1; omega
    show (if _ then _ else _) = _; rw [if_pos (by omega), if_neg (by omega), if_neg (by omega)]; rfl
  · have m : (s * 13 + 4 + c * 3 + 2) % 13 = 4 + c * 3 + 2 := by
      have m2 := sd_m13 s (4 + c * 3 + 2) (by omega)
      rw [← m2]; congr 1; omega
    show (if _ then _ else _) = _; rw [if_pos (by omega), if_neg (by omega), if_neg (by omega)]; rfl
theorem sd_iO : sd_O sd_z sd_z sd_z sd_z sd_z := by
  refine ⟨fun a _ => sd_r0 (by omega), fun k _ => ⟨rfl, rfl, rfl, 0, by omega, rfl, fun _ => sd_r0 (by omega), fun _ => by omega, fun _ => by omega, fun _ => by omega, fun _ => by omega, fun _ => by omega⟩⟩
theorem sd_iE : sd_E (sd_kf 4) sd_z sd_z sd_z sd_z sd_z sd_z sd_z sd_z sd_z := by
  refine ⟨fun t ht => ⟨⟨24, by omega, ?_⟩, Or.inl ?_⟩, fun i _ => sd_r0 (by omega), fun x _ => ⟨⟨rfl, rfl, rfl, rfl, rfl⟩, sd_r0 (by omega), sd_r0 (by omega)⟩, fun t _ e _ h => absurd rfl h⟩
  · show (if _ then _ else _) = _; rw [if_pos (by omega), if_pos (by omega)]; rfl
  · show (if _ then _ else _) = _; rw [if_pos (by omega), if_neg (by omega)]
theorem sd_iQ : sd_Q (sd_fl 0 12 16) sd_z (sd_fl 0 4 2) :=
  ⟨fun p hp => ⟨2, by omega, sd_flp ⟨by omega, hp⟩⟩, fun q hq => ⟨16, by omega, by omega, sd_flp ⟨by omega, hq⟩⟩, fun p _ c _ => ⟨0, by omega, rfl, Or.inr (by omega)⟩⟩
theorem i_vc0 : wpX_init (fun u => wpY_init (fun v => i_Rel 0 u v)) :=
  sx_init (sy_init (sd_mk sd_iF sd_iS sd_iO sd_iE ⟨0, by omega, rfl, fun i _ => ⟨rfl, rfl, rfl, rfl⟩, fun i h => absurd h (by omega)⟩ ⟨0, by omega, rfl, fun i _ => sd_r0 (by omega)⟩
    ⟨⟨0, by omega, rfl, rfl⟩, fun j _ => rfl⟩ (Or.inl ⟨rfl, rfl⟩) ⟨0, by omega, rfl, rfl, fun j h => absurd h (by omega)⟩ (fun q _ => ⟨0, by omega, rfl, fun i h => absurd h (by omega)⟩) sd_iQ))
end
end
section
section
variable {sc oc bt bb da ag lo tp sb sd tk : Int32} {fw fv hv sts ops opn rg kf kk th ens mv mm sps ho pb pz rc mr md mt gp qc qq qe lc tq : Nat → Int32} {tl tt ma ol dr ay gl : Int32} {ta lk go ca cv cm cg ow oq ox sw sa sz sg ra ac ea eb ch ty bi mk yb le gt : Nat → Int32}
theorem i_vc_field {k : Nat} {u : SX} {v : SY} (I : i_Rel k u v) (hk : k + 7 ≤ 3584) (v1 : Int32) : wpX_field (fun r => wpY_field (fun r' => r' = r ∧ i_Rel (k + 7) u v) v v1) u v1 := by
  refine sd_el (C := fun u v => wpX_field (fun r => wpY_field (fun r' => r' = r ∧ i_Rel (k + 7) u v) v v1) u v1) I (fun sc oc bt bb da ag lo tp sb sd tk tl tt ma ol dr ay gl fw fv hv sts ops opn rg kf kk th ens mv mm sps ho pb pz rc mr md mt gp qc qq qe lc tq ta lk go ca cv cm cg ow oq ox sw sa sz sg ra ac ea eb ch ty bi mk yb le gt hF hS hO hE hP hH hT hU hG hW hQ => ?_)
  have J : i_Rel (k + 7) (sc, oc, bt, bb, da, ag, lo, tp, sb, sd, tk, fw, fv, hv, sts, ops, opn, rg, kf, kk, th, ens, mv, mm, sps, ho, pb, pz, rc, mr, md, mt, gp, qc, qq, qe, lc, tq) (sc, oc, tl, tt, bt, ma, ol, tp, sb, sd, tk, dr, ay, gl, fw, fv, hv, ta, lk, go, ca, cv, cm, cg, opn, ow, oq, ox, rg, sw, sa, sz, sg, ho, kf, kk, ra, ac, ea, eb, ch, th, mv, mm, ty, bi, mk, rc, mr, md, mt, gp, yb, le, qc, qe, qq, tq, lc, gt) := sd_mk hF hS hO hE hP hH hT hU hG hW hQ
  unfold wpX_field wpY_field
  rcases sd_cl 28 v1 with h | h
  · exact sx_field0 h (sd_w0 (sy_field0 h (sd_w0 ⟨rfl, J⟩)))
  · refine sx_field1 h (sd_w1 ?_)
    obtain ⟨j, hj, rfl⟩ := id h
    exact ⟨pk_in j 28 hj, sy_field1 h (sd_w1 ⟨pk_in j 28 hj, rfl, J⟩)⟩
theorem i_vc_count {k : Nat} {u : SX} {v : SY} (I : i_Rel k u v) (hk : k + 7 ≤ 3584) (v1 : Int32) : wpX_count (fun r => wpY_count (fun r' => r' = r ∧ i_Rel (k + 7) u v) v v1) u v1 := by
  refine sd_el (C := fun u v => wpX_count (fun r => wpY_count (fun r' => r' = r ∧ i_Rel (k + 7) u v) v v1) u v1) I (fun sc oc bt bb da ag lo tp sb sd tk tl tt ma ol dr ay gl fw fv hv sts ops opn rg kf kk th ens mv mm sps ho pb pz rc mr md mt gp qc qq qe lc tq ta lk go ca cv cm cg ow oq ox sw sa sz sg ra ac ea eb ch ty bi mk yb le gt hF hS hO hE hP hH hT hU hG hW hQ => ?_)
  have J : i_Rel (k + 7) (sc, oc, bt, bb, da, ag, lo, tp, sb, sd, tk, fw, fv, hv, sts, ops, opn, rg, kf, kk, th, ens, mv, mm, sps, ho, pb, pz, rc, mr, md, mt, gp, qc, qq, qe, lc, tq) (sc, oc, tl, tt, bt, ma, ol, tp, sb, sd, tk, dr, ay, gl, fw, fv, hv, ta, lk, go, ca, cv, cm, cg, opn, ow, oq, ox, rg, sw, sa, sz, sg, ho, kf, kk, ra, ac, ea, eb, ch, th, mv, mm, ty, bi, mk, rc, mr, md, mt, gp, yb, le, qc, qe, qq, tq, lc, gt) := sd_mk hF hS hO hE hP hH hT hU hG hW hQ
  unfold wpX_count wpY_count
  rcases sd_cl 3 v1 with h | h
  · exact sx_BR 2 h (sy_in0 2 h (sd_w0 ⟨rfl, J⟩))
  · refine sx_BT 2 h ?_
    obtain ⟨j, hj, rfl⟩ := id h
    exact ⟨pk_in j 3 hj, sy_in1 2 h (sd_w1 ⟨pk_in j 3 hj, rfl, J⟩)⟩
theorem i_vc_tokens {k : Nat} {u : SX} {v : SY} (I : i_Rel k u v) (hk : k + 7 ≤ 3584) (v1 : Int32) : wpX_tokens (fun r => wpY_tokens (fun r' => r' = r ∧ i_Rel (k + 7) u v) v v1) u v1 := by
  refine sd_el (C := fun u v => wpX_tokens (fun r => wpY_tokens (fun r' => r' = r ∧ i_Rel (k + 7) u v) v v1) u v1) I (fun sc oc bt bb da ag lo tp sb sd tk tl tt ma ol dr ay gl fw fv hv sts ops opn rg kf kk th ens mv mm sps ho pb pz rc mr md mt gp qc qq qe lc tq ta lk go ca cv cm cg ow oq ox sw sa sz sg ra ac ea eb ch ty bi mk yb le gt hF hS hO hE hP hH hT hU hG hW hQ => ?_)
  have J : i_Rel (k + 7) (sc, oc, bt, bb, da, ag, lo, tp, sb, sd, tk, fw, fv, hv, sts, ops, opn, rg, kf, kk, th, ens, mv, mm, sps, ho, pb, pz, rc, mr, md, mt, gp, qc, qq, qe, lc, tq) (sc, oc, tl, tt, bt, ma, ol, tp, sb, sd, tk, dr, ay, gl, fw, fv, hv, ta, lk, go, ca, cv, cm, cg, opn, ow, oq, ox, rg, sw, sa, sz, sg, ho, kf, kk, ra, ac, ea, eb, ch, th, mv, mm, ty, bi, mk, rc, mr, md, mt, gp, yb, le, qc, qe, qq, tq, lc, gt) := sd_mk hF hS hO hE hP hH hT hU hG hW hQ
  unfold wpX_tokens wpY_tokens
  rcases sd_cl 4 v1 with h | h
  · exact sx_meter0 h (sd_w0 (sy_in0 3 h (sd_w0 ⟨rfl, J⟩)))
  · refine sx_meter1 h (sd_w1 ?_)
    obtain ⟨j, hj, rfl⟩ := id h
    exact ⟨pk_in j 4 hj, sy_in1 3 h (sd_w1 ⟨pk_in j 4 hj, rfl, J⟩)⟩
theorem sd_l69 {p0 : Int32} (a : p0 < 6 ∨ 8 < p0) : ¬ p0 = 6 ∧ ¬ p0 = 7 ∧ ¬ p0 = 8 := by
  refine ⟨?_, ?_, ?_⟩ <;> (rintro rfl; revert a; decide)
theorem sx_last0 {post : Int32 → Prop} {p0 : Int32} (h : sd_rj 6 p0) (h6 : p0 = 6 → post tp) (h7 : p0 = 7 → post sb) (h8 : p0 = 8 → post sd) (h9 : ¬ p0 = 6 → ¬ p0 = 7 → ¬ p0 = 8 → post (-1)) : wpX_last post (sc, oc, bt, bb, da, ag, lo, tp, sb, sd, tk, fw, fv, hv, sts, ops, opn, rg, kf, kk, th, ens, mv, mm, sps, ho, pb, pz, rc, mr, md, mt, gp, qc, qq, qe, lc, tq) p0 := by
  unfold wpX_last
  refine sx_header0 h (sd_w0 ?_)
  refine br_c (fun a => ?_) (fun _ => br_c (fun a => ?_) (fun _ => br_c h6 (fun _ => br_c h7 (fun _ => br_c h8 (fun _ => trivial)))))
  · have z := sd_l69 (Or.inl a)
    exact h9 z.1 z.2.1 z.2.2
  · have z := sd_l69 (Or.inr a)
    exact h9 z.1 z.2.1 z.2.2
theorem sy_last0 {post : Int32 → Prop} {p0 : Int32} (h : sd_rj 6 p0) (h6 : p0 = 6 → post tp) (h7 : p0 = 7 → post sb) (h8 : p0 = 8 → post sd) (h9 : ¬ p0 = 6 → ¬ p0 = 7 → ¬ p0 = 8 → post (-1)) : wpY_last post (sc, oc, tl, tt, bt, ma, ol, tp, sb, sd, tk, dr, ay, gl, fw, fv, hv, ta, lk, go, ca, cv, cm, cg, opn, ow, oq, ox, rg, sw, sa, sz, sg, ho, kf, kk, ra, ac, ea, eb, ch, th, mv, mm, ty, bi, mk, rc, mr, md, mt, gp, yb, le, qc, qe, qq, tq, lc, gt) p0 := by
  unfold wpY_last
  refine sy_in0 5 h (sd_w0 ?_)
  exact br_c h6 (fun a => br_c h7 (fun b => br_c h8 (fun c => h9 a b c)))
theorem i_vc_last {k : Nat} {u : SX} {v : SY} (I : i_Rel k u v) (hk : k + 7 ≤ 3584) (v1 : Int32) : wpX_last (fun r => wpY_last (fun r' => r' = r ∧ i_Rel (k + 7) u v) v v1) u v1 := by
  refine sd_el (C := fun u v => wpX_last (fun r => wpY_last (fun r' => r' = r ∧ i_Rel (k + 7) u v) v v1) u v1) I (fun sc oc bt bb da ag lo tp sb sd tk tl tt ma ol dr ay gl fw fv hv sts ops opn rg kf kk th ens mv mm sps ho pb pz rc mr md mt gp qc qq qe lc tq ta lk go ca cv cm cg ow oq ox sw sa sz sg ra ac ea eb ch ty bi mk yb le gt hF hS hO hE hP hH hT hU hG hW hQ => ?_)
  have J : i_Rel (k + 7) (sc, oc, bt, bb, da, ag, lo, tp, sb, sd, tk, fw, fv, hv, sts, ops, opn, rg, kf, kk, th, ens, mv, mm, sps, ho, pb, pz, rc, mr, md, mt, gp, qc, qq, qe, lc, tq) (sc, oc, tl, tt, bt, ma, ol, tp, sb, sd, tk, dr, ay, gl, fw, fv, hv, ta, lk, go, ca, cv, cm, cg, opn, ow, oq, ox, rg, sw, sa, sz, sg, ho, kf, kk, ra, ac, ea, eb, ch, th, mv, mm, ty, bi, mk, rc, mr, md, mt, gp, yb, le, qc, qe, qq, tq, lc, gt) := sd_mk hF hS hO hE hP hH hT hU hG hW hQ
  rcases sd_cl 6 v1 with h | h
  · exact sx_last0 h (fun e => sy_last0 h (fun _ => ⟨rfl, J⟩) (fun z => absurd (e.symm.trans z) (by decide)) (fun z => absurd (e.symm.trans z) (by decide)) (fun z => absurd e z))
      (fun e => sy_last0 h (fun z => absurd (e.symm.trans z) (by decide)) (fun _ => ⟨rfl, J⟩) (fun z => absurd (e.symm.trans z) (by decide)) (fun _ z => absurd e z))
      (fun e => sy_last0 h (fun z => absurd (e.symm.trans z) (by decide)) (fun z => absurd (e.symm.trans z) (by decide)) (fun _ => ⟨rfl, J⟩) (fun _ _ z => absurd e z))
      (fun a b c => sy_last0 h (fun z => absurd z a) (fun z => absurd z b) (fun z => absurd z c) (fun _ _ _ => ⟨rfl, J⟩))
  · unfold wpX_last wpY_last
    refine sx_header1 h (sd_w1 ?_)
    obtain ⟨j, hj, rfl⟩ := id h
    refine ⟨pk_in j 6 hj, br_c (fun e => sy_in1 5 h (sd_w1 ⟨pk_in j 6 hj, br_t e ⟨rfl, J⟩⟩)) (fun e => sy_in1 5 h (sd_w1 ⟨pk_in j 6 hj, br_f e ⟨rfl, J⟩⟩))⟩
theorem i_vc_port {k : Nat} {u : SX} {v : SY} (I : i_Rel k u v) (hk : k + 7 ≤ 3584) (v1 : Int32) (v2 : Int32) : wpX_port (fun r => wpY_port (fun r' => r' = r ∧ i_Rel (k + 7) u v) v v1 v2) u v1 v2 := by
  refine sd_el (C := fun u v => wpX_port (fun r => wpY_port (fun r' => r' = r ∧ i_Rel (k + 7) u v) v v1 v2) u v1 v2) I (fun sc oc bt bb da ag lo tp sb sd tk tl tt ma ol dr ay gl fw fv hv sts ops opn rg kf kk th ens mv mm sps ho pb pz rc mr md mt gp qc qq qe lc tq ta lk go ca cv cm cg ow oq ox sw sa sz sg ra ac ea eb ch ty bi mk yb le gt hF hS hO hE hP hH hT hU hG hW hQ => ?_)
  have J : i_Rel (k + 7) (sc, oc, bt, bb, da, ag, lo, tp, sb, sd, tk, fw, fv, hv, sts, ops, opn, rg, kf, kk, th, ens, mv, mm, sps, ho, pb, pz, rc, mr, md, mt, gp, qc, qq, qe, lc, tq) (sc, oc, tl, tt, bt, ma, ol, tp, sb, sd, tk, dr, ay, gl, fw, fv, hv, ta, lk, go, ca, cv, cm, cg, opn, ow, oq, ox, rg, sw, sa, sz, sg, ho, kf, kk, ra, ac, ea, eb, ch, th, mv, mm, ty, bi, mk, rc, mr, md, mt, gp, yb, le, qc, qe, qq, tq, lc, gt) := sd_mk hF hS hO hE hP hH hT hU hG hW hQ
  unfold wpX_port wpY_port
  rcases sd_cl 4 v1 with h | h
  · exact sx_port0 h (sd_w0 (sy_in0 3 h (sd_w0 ⟨rfl, J⟩)))
  · refine sx_port1 h (sd_w1 ?_)
    rcases sd_cl 8 v2 with g | g
    · exact sx_CR 7 g (sy_in1 3 h (sd_w1 (sy_in0 7 g (sd_w0 ⟨rfl, J⟩))))
    · refine sx_CT 7 g ?_
      obtain ⟨p, hp, rfl⟩ := id h
      obtain ⟨w, hw, rfl⟩ := id g
      have e3 : nI p * 3 = nI (p * 3) := pk_mul p 3
      have e3' : 3 * nI p = nI (p * 3) := (pk_mul 3 p).trans (by rw [Nat.mul_comm])
      rw [e3, e3', nI_add]
      refine pk_le 3 w (fun a => pk_le 6 w (fun b => pk_eq w 6 (fun c => ?_) (fun c => ?_)) (fun b => ?_)) (fun a => ?_)
      · exact ⟨pk_in p 4 hp, sy_in1 3 h (sd_w1 (sy_in1 7 g (sd_w1 (br_t (nI_le a (by omega)) (br_t (nI_le b (by omega)) (br_t ((nI_eq (a := w) (b := 6) (by omega) (by omega)).mpr c) ⟨pk_in p 4 hp, rfl, J⟩))))))⟩
      · exact ⟨pk_in p 4 hp, sy_in1 3 h (sd_w1 (sy_in1 7 g (sd_w1 (br_t (nI_le a (by omega)) (br_t (nI_le b (by omega)) (br_f (fun z => c ((nI_eq (a := w) (b := 6) (by omega) (by omega)).mp z)) ⟨pk_in p 4 hp, rfl, J⟩))))))⟩
      · have e : nI (p * 3 + w) - 3 = nI (p * 3 + w - 3) := pk_sub (b := 3) (by omega)
        rw [e]
        exact ⟨pk_in (p * 3 + w - 3) 12 (by omega), sy_in1 3 h (sd_w1 (sy_in1 7 g (sd_w1 (br_t (nI_le a (by omega)) (br_f (nI_ge (b := 6) b (by omega)) ⟨pk_in (p * 3 + w - 3) 12 (by omega), rfl, J⟩)))))⟩
      · exact ⟨pk_in (p * 3 + w) 12 (by omega), sy_in1 3 h (sd_w1 (sy_in1 7 g (sd_w1 (br_f (nI_ge (b := 3) a (by omega)) ⟨pk_in (p * 3 + w) 12 (by omega), rfl, J⟩))))⟩
theorem sx_ent0 {post : Int32 → Prop} {p0 p1 : Int32} (h : sd_rj 4 p0 ∨ sd_rj 12 p1) (k : post 0) : wpX_isEntry post (sc, oc, bt, bb, da, ag, lo, tp, sb, sd, tk, fw, fv, hv, sts, ops, opn, rg, kf, kk, th, ens, mv, mm, sps, ho, pb, pz, rc, mr, md, mt, gp, qc, qq, qe, lc, tq) p0 p1 := by
  rcases sd_cl 4 p0 with g | g
  · exact sx_AR 4 g k
  · rcases h with h | h
    · exfalso
      obtain ⟨j, hj, rfl⟩ := g
      rcases h with h | h
      · exact nI_pos (by omega) h
      · exact nI_ge hj (by decide) h
    · exact sx_AT 4 g (sx_AR 12 h k)
theorem sy_ent0 {post : Int32 → Prop} {p0 p1 : Int32} (h : sd_rj 4 p0 ∨ sd_rj 12 p1) (k : post 0) : wpY_isEntry post (sc, oc, tl, tt, bt, ma, ol, tp, sb, sd, tk, dr, ay, gl, fw, fv, hv, ta, lk, go, ca, cv, cm, cg, opn, ow, oq, ox, rg, sw, sa, sz, sg, ho, kf, kk, ra, ac, ea, eb, ch, th, mv, mm, ty, bi, mk, rc, mr, md, mt, gp, yb, le, qc, qe, qq, tq, lc, gt) p0 p1 := by
  unfold wpY_isEntry
  rcases sd_cl 4 p0 with g | g
  · exact sy_in0 3 g (sd_w0 k)
  · rcases h with h | h
    · exfalso
      obtain ⟨j, hj, rfl⟩ := g
      rcases h with h | h
      · exact nI_pos (by omega) h
      · exact nI_ge hj (by decide) h
    · exact sy_in1 3 g (sd_w1 (sy_in0 11 h (sd_w0 k)))
theorem sd_13 (t e : Nat) : 13 * nI t + nI e = nI (13 * t + e) := sd_am t 13 e
theorem sd_13' (t e : Nat) : nI t * 13 + nI e = nI (13 * t + e) := (sd_ma t 13 e).trans (by rw [Nat.mul_comm])
theorem sx_ent1 {post : Int32 → Prop} {t e : Nat} (ht : t < 4) (he : e < 12) (k0 : th (13 * t + e) = 0 → post 0) (k1 : ¬ th (13 * t + e) = 0 → post 1) : wpX_isEntry post (sc, oc, bt, bb, da, ag, lo, tp, sb, sd, tk, fw, fv, hv, sts, ops, opn, rg, kf, kk, th, ens, mv, mm, sps, ho, pb, pz, rc, mr, md, mt, gp, qc, qq, qe, lc, tq) (nI t) (nI e) := by
  refine sx_AT 4 ⟨t, ht, rfl⟩ (sx_AT 12 ⟨e, he, rfl⟩ ?_)
  rw [sd_13', nI_clamp (by omega)]
  exact ⟨pk_in (13 * t + e) 52 (by omega), br_c k0 k1⟩
theorem sy_ent1 {post : Int32 → Prop} {t e : Nat} (ht : t < 4) (he : e < 12) (k0 : th (13 * t + e) = 0 → post 0) (k1 : ¬ th (13 * t + e) = 0 → post 1) : wpY_isEntry post (sc, oc, tl, tt, bt, ma, ol, tp, sb, sd, tk, dr, ay, gl, fw, fv, hv, ta, lk, go, ca, cv, cm, cg, opn, ow, oq, ox, rg, sw, sa, sz, sg, ho, kf, kk, ra, ac, ea, eb, ch, th, mv, mm, ty, bi, mk, rc, mr, md, mt, gp, yb, le, qc, qe, qq, tq, lc, gt) (nI t) (nI e) := by
  unfold wpY_isEntry
  refine sy_in1 3 ⟨t, ht, rfl⟩ (sd_w1 (sy_in1 11 ⟨e, he, rfl⟩ (sd_w1 ?_)))
  rw [sd_13, nI_clamp (by omega)]
  exact ⟨pk_in (13 * t + e) 52 (by omega), br_c k0 k1⟩
theorem sd_clE (p0 p1 : Int32) : (sd_rj 4 p0 ∨ sd_rj 12 p1) ∨ (∃ t e : Nat, t < 4 ∧ e < 12 ∧ p0 = nI t ∧ p1 = nI e) := by
  rcases sd_cl 4 p0 with h | ⟨t, ht, h⟩
  · exact Or.inl (Or.inl h)
  · rcases sd_cl 12 p1 with g | ⟨e, he, g⟩
    · exact Or.inl (Or.inr g)
    · exact Or.inr ⟨t, e, ht, he, h, g⟩
theorem sd_row5 (x c : Nat) : nI x * 5 + nI c = nI (x * 5 + c) := sd_ma x 5 c
-- taken: the default's row
theorem sx_taken1 {post : Int32 → Prop} {t : Nat} (ht : t < 4) (k : post (ens ((13 * t + 12) * 5 + 4))) : wpX_taken post (sc, oc, bt, bb, da, ag, lo, tp, sb, sd, tk, fw, fv, hv, sts, ops, opn, rg, kf, kk, th, ens, mv, mm, sps, ho, pb, pz, rc, mr, md, mt, gp, qc, qq, qe, lc, tq) (nI t) (-1) := by
  refine sx_AT 4 ⟨t, ht, rfl⟩ (br_t rfl (br_f sd_10 (br_t rfl ?_)))
  have e : nI t * 13 + 12 = nI (13 * t + 12) := sd_13' t 12
  have e2 : nI (13 * t + 12) * 5 + 4 = nI ((13 * t + 12) * 5 + 4) := sd_row5 _ 4
  rw [e]
  dsimp only
  rw [e2, nI_clamp (by omega)]
  exact ⟨vp_in_nI (by omega) (by decide), k⟩
theorem sx_taken2 {post : Int32 → Prop} {t e : Nat} (ht : t < 4) (he : e < 12) (k0 : th (13 * t + e) = 0 → post (-1)) (k1 : ¬ th (13 * t + e) = 0 → post (ens ((13 * t + e) * 5 + 4))) : wpX_taken post (sc, oc, bt, bb, da, ag, lo, tp, sb, sd, tk, fw, fv, hv, sts, ops, opn, rg, kf, kk, th, ens, mv, mm, sps, ho, pb, pz, rc, mr, md, mt, gp, qc, qq, qe, lc, tq) (nI t) (nI e) := by
  refine sx_AT 4 ⟨t, ht, rfl⟩ (br_f (sd_ne (by omega)) (br_t rfl (sx_ent1 ht he (fun z => sd_w0 (k0 z)) (fun z => sd_w1 (br_f (sd_ne (by omega)) ?_)))))
  have e2 : nI (13 * t + e) * 5 + 4 = nI ((13 * t + e) * 5 + 4) := sd_row5 _ 4
  rw [sd_13']
  dsimp only
  rw [e2, nI_clamp (by omega)]
  exact ⟨vp_in_nI (by omega) (by decide), k1 z⟩
theorem sx_taken0 {post : Int32 → Prop} {p0 p1 : Int32} (h : sd_rj 4 p0 ∨ (¬ p1 = -1 ∧ sd_rj 12 p1)) (k : post (-1)) : wpX_taken post (sc, oc, bt, bb, da, ag, lo, tp, sb, sd, tk, fw, fv, hv, sts, ops, opn, rg, kf, kk, th, ens, mv, mm, sps, ho, pb, pz, rc, mr, md, mt, gp, qc, qq, qe, lc, tq) p0 p1 := by
  rcases sd_cl 4 p0 with g | g
  · exact sx_AR 4 g (br_t rfl (sx_ent0 (Or.inl g) (sd_w0 k)))
  · rcases h with h | h
    · exfalso
      obtain ⟨j, hj, rfl⟩ := g
      rcases h with h | h
      · exact nI_pos (by omega) h
      · exact nI_ge hj (by decide) h
    · exact sx_AT 4 g (br_f h.1 (br_t rfl (sx_ent0 (Or.inr h.2) (sd_w0 k))))
theorem i_vc_taken {k : Nat} {u : SX} {v : SY} (I : i_Rel k u v) (hk : k + 7 ≤ 3584) (v1 : Int32) (v2 : Int32) : wpX_taken (fun r => wpY_taken (fun r' => r' = r ∧ i_Rel (k + 7) u v) v v1 v2) u v1 v2 := by
  refine sd_el (C := fun u v => wpX_taken (fun r => wpY_taken (fun r' => r' = r ∧ i_Rel (k + 7) u v) v v1 v2) u v1 v2) I (fun sc oc bt bb da ag lo tp sb sd tk tl tt ma ol dr ay gl fw fv hv sts ops opn rg kf kk th ens mv mm sps ho pb pz rc mr md mt gp qc qq qe lc tq ta lk go ca cv cm cg ow oq ox sw sa sz sg ra ac ea eb ch ty bi mk yb le gt hF hS hO hE hP hH hT hU hG hW hQ => ?_)
  have J : i_Rel (k + 7) (sc, oc, bt, bb, da, ag, lo, tp, sb, sd, tk, fw, fv, hv, sts, ops, opn, rg, kf, kk, th, ens, mv, mm, sps, ho, pb, pz, rc, mr, md, mt, gp, qc, qq, qe, lc, tq) (sc, oc, tl, tt, bt, ma, ol, tp, sb, sd, tk, dr, ay, gl, fw, fv, hv, ta, lk, go, ca, cv, cm, cg, opn, ow, oq, ox, rg, sw, sa, sz, sg, ho, kf, kk, ra, ac, ea, eb, ch, th, mv, mm, ty, bi, mk, rc, mr, md, mt, gp, yb, le, qc, qe, qq, tq, lc, gt) := sd_mk hF hS hO hE hP hH hT hU hG hW hQ
  rcases sd_cl 4 v1 with h | h
  · refine sx_taken0 (Or.inl h) ?_
    unfold wpY_taken
    exact sy_in0 3 h (sd_w0 (sy_ent0 (Or.inl h) (sd_w0 ⟨rfl, J⟩)))
  · obtain ⟨t, ht, rfl⟩ := id h
    by_cases m : v2 = -1
    · subst m
      refine sx_taken1 ht ?_
      unfold wpY_taken
      refine sy_in1 3 h (sd_w1 (br_t rfl ?_))
      have e : 13 * nI t + 12 = nI (13 * t + 12) := sd_13 t 12
      rw [e, nI_clamp (by omega)]
      exact ⟨vp_in_nI (by omega) (by decide), ((hE.2.2.1 (13 * t + 12) (by omega)).1.2.2.2.2).symm, J⟩
    · rcases sd_cl 12 v2 with g | ⟨e, he, rfl⟩
      · refine sx_taken0 (Or.inr ⟨m, g⟩) ?_
        unfold wpY_taken
        exact sy_in1 3 h (sd_w1 (br_f m (sy_ent0 (Or.inr g) (sd_w0 ⟨rfl, J⟩))))
      · refine sx_taken2 ht he (fun z => ?_) (fun z => ?_)
        · unfold wpY_taken
          exact sy_in1 3 h (sd_w1 (br_f m (sy_ent1 ht he (fun _ => sd_w0 ⟨rfl, J⟩) (fun y => absurd z y))))
        · unfold wpY_taken
          refine sy_in1 3 h (sd_w1 (br_f m (sy_ent1 ht he (fun y => absurd y z) (fun _ => sd_w1 ?_))))
          rw [sd_13, nI_clamp (by omega)]
          exact ⟨vp_in_nI (by omega) (by decide), ((hE.2.2.1 (13 * t + e) (by omega)).1.2.2.2.2).symm, J⟩
theorem pk_sub_toInt {a b : Nat} (ha : a < 2 ^ 30) (hb : b < 2 ^ 30) : (nI a - nI b).toInt = (a : Int) - b := by
  rw [Int32.toInt_sub, nI_toInt (by omega), nI_toInt (by omega)]
  exact Int.bmod_eq_of_le (by omega) (by omega)
theorem sd_gl {G j : Nat} (hG : G < 2 ^ 30) (hj : j < 2 ^ 31) : nI G - 1 < nI j ↔ G ≤ j := by
  have e := pk_sub_toInt (a := G) (b := 1) hG (by decide)
  have e2 : (nI G - 1).toInt = (G : Int) - ((1 : Nat) : Int) := e
  rw [sd_ltI, e2, nI_toInt hj]
  omega
theorem sy_inG {post : Int32 → Prop} {p : Int32} {G : Nat} (hG : G ≤ 16) (h0 : sd_rj G p → post 0) (h1 : ∀ j, j < G → p = nI j → post 1) : wpY_in post p 0 (nI G - 1) := by
  by_cases n : p < 0
  · exact br_t n (h0 (Or.inl n))
  · obtain ⟨j, hj, rfl⟩ := nI_of n
    refine br_f n (br_c (fun z => h0 (Or.inr ?_)) (fun z => h1 j ?_ rfl))
    · rw [sd_gl (by omega) hj] at z
      exact nI_le z hj
    · rw [sd_gl (by omega) hj] at z
      omega
theorem sx_byte {post : Int32 → Prop} {s G : Nat} {p1 : Int32} (hs : s < 52) (hG : G ≤ 16) (hp : pz s = nI G) (h0 : sd_rj G p1 → post (-1)) (h1 : ∀ j, j < G → p1 = nI j → post (pb (s * 16 + j))) : wpX_byteOf post (sc, oc, bt, bb, da, ag, lo, tp, sb, sd, tk, fw, fv, hv, sts, ops, opn, rg, kf, kk, th, ens, mv, mm, sps, ho, pb, pz, rc, mr, md, mt, gp, qc, qq, qe, lc, tq) (nI s) p1 := by
  by_cases n : p1 < 0
  · exact br_t n (h0 (Or.inl n))
  · obtain ⟨j, hj, rfl⟩ := nI_of n
    refine br_f n ⟨vp_in_nI hs (by decide), ?_⟩
    rw [nI_clamp (by omega), hp]
    refine pk_le G j (fun z => h0 (Or.inr (nI_le z hj))) (fun z => ?_)
    have e : nI s * 16 + nI j = nI (s * 16 + j) := sd_ma s 16 j
    rw [e, nI_clamp (by omega)]
    exact ⟨vp_in_nI (by omega) (by decide), h1 j z rfl⟩
theorem sd_no {G j : Nat} (hj : j < G) (hG : G < 2 ^ 31) (h : sd_rj G (nI j)) : False := by
  rcases h with h | h
  · exact nI_pos (by omega) h
  · exact nI_ge hj hG h
theorem i_vc_got {k : Nat} {u : SX} {v : SY} (I : i_Rel k u v) (hk : k + 7 ≤ 3584) (v1 : Int32) : wpX_got (fun r => wpY_got (fun r' => r' = r ∧ i_Rel (k + 7) u v) v v1) u v1 := by
  refine sd_el (C := fun u v => wpX_got (fun r => wpY_got (fun r' => r' = r ∧ i_Rel (k + 7) u v) v v1) u v1) I (fun sc oc bt bb da ag lo tp sb sd tk tl tt ma ol dr ay gl fw fv hv sts ops opn rg kf kk th ens mv mm sps ho pb pz rc mr md mt gp qc qq qe lc tq ta lk go ca cv cm cg ow oq ox sw sa sz sg ra ac ea eb ch ty bi mk yb le gt hF hS hO hE hP hH hT hU hG hW hQ => ?_)
  have J : i_Rel (k + 7) (sc, oc, bt, bb, da, ag, lo, tp, sb, sd, tk, fw, fv, hv, sts, ops, opn, rg, kf, kk, th, ens, mv, mm, sps, ho, pb, pz, rc, mr, md, mt, gp, qc, qq, qe, lc, tq) (sc, oc, tl, tt, bt, ma, ol, tp, sb, sd, tk, dr, ay, gl, fw, fv, hv, ta, lk, go, ca, cv, cm, cg, opn, ow, oq, ox, rg, sw, sa, sz, sg, ho, kf, kk, ra, ac, ea, eb, ch, th, mv, mm, ty, bi, mk, rc, mr, md, mt, gp, yb, le, qc, qe, qq, tq, lc, gt) := sd_mk hF hS hO hE hP hH hT hU hG hW hQ
  obtain ⟨G, hG1, hG2, hG3, hG4⟩ := hG
  unfold wpX_got wpY_got
  subst hG2
  refine sx_byte (s := 51) (by omega) hG1 hG3 (fun z => ?_) (fun j hj e => ?_)
  · exact sy_inG hG1 (fun _ => sd_w0 ⟨rfl, J⟩) (fun j hj e => absurd (e ▸ z) (fun z => sd_no hj (by omega) z))
  · subst e
    refine sy_inG hG1 (fun z => absurd z (fun z => sd_no hj (by omega) z)) (fun i hi e => sd_w1 ?_)
    rw [nI_clamp (by omega)]
    exact ⟨vp_in_nI (by omega) (by decide), (hG4 j hj).symm, J⟩
theorem sy_byte {post : Int32 → Prop} {k : Nat} (hk : k < 65) (h : post (sd_ac mk (8 * k) 8)) : wpY_byteOf post (sc, oc, tl, tt, bt, ma, ol, tp, sb, sd, tk, dr, ay, gl, fw, fv, hv, ta, lk, go, ca, cv, cm, cg, opn, ow, oq, ox, rg, sw, sa, sz, sg, ho, kf, kk, ra, ac, ea, eb, ch, th, mv, mm, ty, bi, mk, rc, mr, md, mt, gp, yb, le, qc, qe, qq, tq, lc, gt) (nI k) := by
  unfold wpY_byteOf
  have e8 : 8 * nI k = nI (8 * k) := pk_mul 8 k
  have e88 : 8 * nI k + 8 = nI (8 * k + 8) := by rw [e8]; exact nI_add _ 8
  refine nm_r e8 ?_
  refine sd_lp (fun n i s => wY_byteOf_7 post (nI k) sc oc tl tt bt ma ol tp sb sd tk dr ay gl fw fv hv ta lk go ca cv cm cg opn ow oq ox rg sw sa sz sg ho kf kk ra ac ea eb ch th mv mm ty bi mk rc mr md mt gp yb le qc qe qq tq lc gt n s (nI (8 * k + i))) (fun i => sd_ac mk (8 * k) i) 8 0 (by omega) (fun n => br_t (by rw [e88]; exact nI_le (Nat.le_refl _) (by omega)) h) (fun n i _ hi ih => br_f (by rw [e88]; exact nI_ge (by omega) (by omega)) ⟨vp_in_nI (by omega) (by decide), ?_⟩)
  rw [nI_clamp (by omega)]
  refine br_c (fun z => nm_r (e' := sd_ac mk (8 * k) (i + 1)) ?_ (nm_r (nI_1 _) ih)) (fun z => nm_r (e' := sd_ac mk (8 * k) (i + 1)) ?_ (nm_r (nI_1 _) ih))
  · show 2 * sd_ac mk (8 * k) i + 0 = 2 * sd_ac mk (8 * k) i + (if mk (8 * k + i) = 0 then 0 else 1)
    rw [if_pos z]
  · show 2 * sd_ac mk (8 * k) i + 1 = 2 * sd_ac mk (8 * k) i + (if mk (8 * k + i) = 0 then 0 else 1)
    rw [if_neg z]
theorem i_vc_out {k : Nat} {u : SX} {v : SY} (I : i_Rel k u v) (hk : k + 7 ≤ 3584) (v1 : Int32) : wpX_out (fun r => wpY_out (fun r' => r' = r ∧ i_Rel (k + 7) u v) v v1) u v1 := by
  refine sd_el (C := fun u v => wpX_out (fun r => wpY_out (fun r' => r' = r ∧ i_Rel (k + 7) u v) v v1) u v1) I (fun sc oc bt bb da ag lo tp sb sd tk tl tt ma ol dr ay gl fw fv hv sts ops opn rg kf kk th ens mv mm sps ho pb pz rc mr md mt gp qc qq qe lc tq ta lk go ca cv cm cg ow oq ox sw sa sz sg ra ac ea eb ch ty bi mk yb le gt hF hS hO hE hP hH hT hU hG hW hQ => ?_)
  have J : i_Rel (k + 7) (sc, oc, bt, bb, da, ag, lo, tp, sb, sd, tk, fw, fv, hv, sts, ops, opn, rg, kf, kk, th, ens, mv, mm, sps, ho, pb, pz, rc, mr, md, mt, gp, qc, qq, qe, lc, tq) (sc, oc, tl, tt, bt, ma, ol, tp, sb, sd, tk, dr, ay, gl, fw, fv, hv, ta, lk, go, ca, cv, cm, cg, opn, ow, oq, ox, rg, sw, sa, sz, sg, ho, kf, kk, ra, ac, ea, eb, ch, th, mv, mm, ty, bi, mk, rc, mr, md, mt, gp, yb, le, qc, qe, qq, tq, lc, gt) := sd_mk hF hS hO hE hP hH hT hU hG hW hQ
  unfold wpX_out wpY_out
  rcases hU with ⟨hl, ho⟩ | ⟨hl, L, hL, ho, hz, hb⟩
  · subst hl ho
    refine br_t rfl (br_c (fun e => ⟨rfl, J⟩) (fun e => ?_))
    by_cases n : v1 < 0
    · exact br_t n (sd_w0 ⟨rfl, J⟩)
    · obtain ⟨j, hj, rfl⟩ := nI_of n
      refine br_f n (br_t ?_ (sd_w0 ⟨rfl, J⟩))
      rw [sd_ltI, nI_toInt hj]
      have e0 : ((-1 : Int32) - 1).toInt = -2 := by decide
      omega
  · subst hl ho
    refine br_f sd_10 (br_c (fun e => br_t e ⟨hz.symm, J⟩) (fun e => ?_))
    refine sx_byte (s := 50) (by omega) hL hz (fun z => br_f e ?_) (fun j hj e2 => br_f e ?_)
    · exact sy_inG hL (fun _ => sd_w0 ⟨rfl, J⟩) (fun j hj e => absurd (e ▸ z) (fun z => sd_no hj (by omega) z))
    · subst e2
      refine sy_inG hL (fun z => absurd z (fun z => sd_no hj (by omega) z)) (fun i hi e => sd_w1 (sy_byte (by omega) ⟨(hb j hj).symm, J⟩))
end
end
section
section
variable {sc oc bt bb da ag lo tp sb sd tk : Int32} {fw fv hv sts ops opn rg kf kk th ens mv mm sps ho pb pz rc mr md mt gp qc qq qe lc tq : Nat → Int32} {tl tt ma ol dr ay gl : Int32} {ta lk go ca cv cm cg ow oq ox sw sa sz sg ra ac ea eb ch ty bi mk yb le gt : Nat → Int32}
def sd_pv (w x : Int32) : Int32 := x &&& (((1 : Int32) <<< (w &&& 31)) - 1)
theorem sd_pm : ∀ a, a < 17 → (((1 : Int32) <<< (nI a &&& 31)) - 1).toBitVec.toNat = 2 ^ a - 1 := by decide +kernel
theorem sd_pvE {a : Nat} (h : a ≤ 16) (x : Int32) : ∃ b : Nat, b < 2 ^ a ∧ sd_pv (nI a) x = nI b := pk_andE x a (sd_pm a (by omega))
theorem sx_put {post : SX → Prop} {i : Nat} {x : Int32} (hi : i < 28) (h : post (sc, oc, bt, bb, da, ag, lo, tp, sb, sd, tk, fw, (upd fv i (sd_pv (fw i) x)), hv, sts, ops, opn, rg, kf, kk, th, ens, mv, mm, sps, ho, pb, pz, rc, mr, md, mt, gp, qc, qq, qe, lc, tq)) : wpX_putField post (sc, oc, bt, bb, da, ag, lo, tp, sb, sd, tk, fw, fv, hv, sts, ops, opn, rg, kf, kk, th, ens, mv, mm, sps, ho, pb, pz, rc, mr, md, mt, gp, qc, qq, qe, lc, tq) (nI i) x := by
  refine ⟨vp_in_nI hi (by decide), vp_in_nI hi (by decide), ?_⟩
  rw [nI_clamp (by omega)]
  exact nm_e h
theorem sy_put {post : SY → Prop} {i : Nat} {x : Int32} (hi : i < 28) (h : post (sc, oc, tl, tt, bt, ma, ol, tp, sb, sd, tk, dr, ay, gl, fw, (upd fv i (sd_pv (fw i) x)), hv, ta, lk, go, ca, cv, cm, cg, opn, ow, oq, ox, rg, sw, sa, sz, sg, ho, kf, kk, ra, ac, ea, eb, ch, th, mv, mm, ty, bi, mk, rc, mr, md, mt, gp, yb, le, qc, qe, qq, tq, lc, gt)) : wpY_put post (sc, oc, tl, tt, bt, ma, ol, tp, sb, sd, tk, dr, ay, gl, fw, fv, hv, ta, lk, go, ca, cv, cm, cg, opn, ow, oq, ox, rg, sw, sa, sz, sg, ho, kf, kk, ra, ac, ea, eb, ch, th, mv, mm, ty, bi, mk, rc, mr, md, mt, gp, yb, le, qc, qe, qq, tq, lc, gt) (nI i) x := by
  refine ⟨vp_in_nI hi (by decide), vp_in_nI hi (by decide), ?_⟩
  rw [nI_clamp (by omega)]
  exact nm_e h
/-- a value is put into a field -/
theorem sd_Fp (hF : sd_F fw fv hv) {i : Nat} (hi : i < 28) (x : Int32) : sd_F fw (upd fv i (sd_pv (fw i) x)) hv := by
  refine ⟨fun f hf => ?_, hF.2.1, hF.2.2⟩
  obtain ⟨a, b, ha, hb, e1, e2⟩ := hF.1 f hf
  by_cases e : f = i
  · subst e
    obtain ⟨c, hc, e3⟩ := sd_pvE ha x
    refine ⟨a, c, ha, hc, e1, ?_⟩
    rw [pk_us, e1, e3]
  · refine ⟨a, b, ha, hb, e1, ?_⟩
    rw [pk_un e, e2]
theorem sd_Fw (hF : sd_F fw fv hv) {i a : Nat} (hi : i < 24) (ha : a ≤ 16) : sd_F (upd fw i (nI a)) (upd fv i (sd_pv (upd fw i (nI a) i) (fv i))) hv := by
  refine ⟨fun f hf => ?_, fun f h0 h1 => ?_, hF.2.2⟩
  · obtain ⟨a', b, ha', hb, e1, e2⟩ := hF.1 f hf
    by_cases e : f = i
    · subst e
      obtain ⟨c, hc, e3⟩ := sd_pvE ha (fv f)
      refine ⟨a, c, ha, hc, pk_us, ?_⟩
      rw [pk_us, pk_us, e3]
    · refine ⟨a', b, ha', hb, ?_, ?_⟩
      · rw [pk_un e, e1]
      · rw [pk_un e, e2]
  · rw [pk_un (by omega)]
    exact hF.2.1 f h0 h1
theorem i_vc_width {k : Nat} {u : SX} {v : SY} (I : i_Rel k u v) (hk : k + 7 ≤ 3584) (v1 : Int32) (v2 : Int32) : wpX_width (fun r u' => wpY_width (fun r' v' => r' = r ∧ i_Rel (k + 7) u' v') v v1 v2) u v1 v2 := by
  refine sd_el (C := fun u v => wpX_width (fun r u' => wpY_width (fun r' v' => r' = r ∧ i_Rel (k + 7) u' v') v v1 v2) u v1 v2) I (fun sc oc bt bb da ag lo tp sb sd tk tl tt ma ol dr ay gl fw fv hv sts ops opn rg kf kk th ens mv mm sps ho pb pz rc mr md mt gp qc qq qe lc tq ta lk go ca cv cm cg ow oq ox sw sa sz sg ra ac ea eb ch ty bi mk yb le gt hF hS hO hE hP hH hT hU hG hW hQ => ?_)
  have J : i_Rel (k + 7) (sc, oc, bt, bb, da, ag, lo, tp, sb, sd, tk, fw, fv, hv, sts, ops, opn, rg, kf, kk, th, ens, mv, mm, sps, ho, pb, pz, rc, mr, md, mt, gp, qc, qq, qe, lc, tq) (sc, oc, tl, tt, bt, ma, ol, tp, sb, sd, tk, dr, ay, gl, fw, fv, hv, ta, lk, go, ca, cv, cm, cg, opn, ow, oq, ox, rg, sw, sa, sz, sg, ho, kf, kk, ra, ac, ea, eb, ch, th, mv, mm, ty, bi, mk, rc, mr, md, mt, gp, yb, le, qc, qe, qq, tq, lc, gt) := sd_mk hF hS hO hE hP hH hT hU hG hW hQ
  unfold wpX_width wpY_width
  rcases sd_cl 24 v1 with h | h
  · exact sx_AR 24 h (sy_in0 23 h (sd_w0 ⟨rfl, J⟩))
  · rcases sd_cl 17 v2 with g | g
    · exact sx_AT 24 h (sx_CR 16 g (sy_in1 23 h (sd_w1 (sy_in0 16 g (sd_w0 ⟨rfl, J⟩)))))
    · refine sx_AT 24 h (sx_CT 16 g ?_)
      obtain ⟨i, hi, rfl⟩ := id h
      obtain ⟨a, ha, rfl⟩ := id g
      refine sd_st i rfl (by omega) (by decide) ⟨vp_in_nI (by omega) (by decide), sx_put (by omega) ?_⟩
      refine sy_in1 23 h (sd_w1 (sy_in1 16 g (sd_w1 ?_)))
      refine sd_st i rfl (by omega) (by decide) ⟨vp_in_nI (by omega) (by decide), sy_put (by omega) ⟨rfl, ?_⟩⟩
      rw [nI_clamp (by omega)]
      exact sd_mk (sd_Fw hF hi (by omega)) hS hO hE hP hH hT hU hG hW hQ
theorem sd_Ss (hS : sd_S sts ta lk go ca cv cm cg) {s : Nat} (hs : s < 8) {a b c : Int32} (ha : a = -1 ∨ sd_rg 6 a) (hb : b = -1 ∨ sd_rg 28 b) (hc : sd_rg 10 c) :
    sd_S (upd (upd (upd (upd sts (s * 13 + 0) a) (s * 13 + 1) b) (s * 13 + 2) c) (s * 13 + 3) 0) (upd ta s a) (upd lk s b) (upd go s c) (upd ca s 0) cv cm cg := by
  intro t ht
  obtain ⟨⟨h0, h1, h2, h3⟩, h4, h5, h6, h7, h8⟩ := hS t ht
  by_cases e : t = s
  · subst e
    simp (disch := omega) only [pk_us, pk_un]
    exact ⟨⟨trivial, trivial, trivial, trivial⟩, ha, hb, hc, sd_r0 (by omega), h8⟩
  · simp (disch := omega) only [pk_un]
    refine ⟨⟨h0, h1, h2, h3⟩, h4, h5, h6, h7, fun d hd => ?_⟩
    simp (disch := omega) only [pk_un]
    exact h8 d hd
theorem i_vc_state {k : Nat} {u : SX} {v : SY} (I : i_Rel k u v) (hk : k + 7 ≤ 3584) (v1 : Int32) (v2 : Int32) (v3 : Int32) (v4 : Int32) : wpX_state (fun r u' => wpY_state (fun r' v' => r' = r ∧ i_Rel (k + 7) u' v') v v1 v2 v3 v4) u v1 v2 v3 v4 := by
  refine sd_el (C := fun u v => wpX_state (fun r u' => wpY_state (fun r' v' => r' = r ∧ i_Rel (k + 7) u' v') v v1 v2 v3 v4) u v1 v2 v3 v4) I (fun sc oc bt bb da ag lo tp sb sd tk tl tt ma ol dr ay gl fw fv hv sts ops opn rg kf kk th ens mv mm sps ho pb pz rc mr md mt gp qc qq qe lc tq ta lk go ca cv cm cg ow oq ox sw sa sz sg ra ac ea eb ch ty bi mk yb le gt hF hS hO hE hP hH hT hU hG hW hQ => ?_)
  have J : i_Rel (k + 7) (sc, oc, bt, bb, da, ag, lo, tp, sb, sd, tk, fw, fv, hv, sts, ops, opn, rg, kf, kk, th, ens, mv, mm, sps, ho, pb, pz, rc, mr, md, mt, gp, qc, qq, qe, lc, tq) (sc, oc, tl, tt, bt, ma, ol, tp, sb, sd, tk, dr, ay, gl, fw, fv, hv, ta, lk, go, ca, cv, cm, cg, opn, ow, oq, ox, rg, sw, sa, sz, sg, ho, kf, kk, ra, ac, ea, eb, ch, th, mv, mm, ty, bi, mk, rc, mr, md, mt, gp, yb, le, qc, qe, qq, tq, lc, gt) := sd_mk hF hS hO hE hP hH hT hU hG hW hQ
  unfold wpX_state wpY_state
  rcases sd_cl 8 v1 with h | h
  · exact sx_AR 8 h (sd_w0 (sy_in0 7 h (sd_w0 ⟨rfl, J⟩)))
  · rcases sd_clm 6 v2 with g | g
    · exact sx_AT 8 h (sx_MR 6 g (sd_w0 (sy_in1 7 h (sd_w1 (sy_inm0 5 g (sd_w0 ⟨rfl, J⟩))))))
    · rcases sd_clm 28 v3 with f | f
      · exact sx_AT 8 h (sx_MT 6 g (sx_MR 28 f (sd_w0 (sy_in1 7 h (sd_w1 (sy_inm1 5 g (sd_w1 (sy_inm0 27 f (sd_w0 ⟨rfl, J⟩)))))))))
      · rcases sd_cl 10 v4 with d | d
        · exact sx_AT 8 h (sx_MT 6 g (sx_MT 28 f (sx_BR 9 d (sd_w0 (sy_in1 7 h (sd_w1 (sy_inm1 5 g (sd_w1 (sy_inm1 27 f (sd_w1 (sy_in0 9 d (sd_w0 ⟨rfl, J⟩))))))))))))
        · refine sx_AT 8 h (sx_MT 6 g (sx_MT 28 f (sx_BT 9 d (sd_w1 ?_))))
          obtain ⟨s, hs, rfl⟩ := id h
          refine nm_r (e' := nI (s * 13)) (pk_mul s 13) (sd_st (s * 13 + 0) (nI_add _ 0) (by omega) (by decide) (sd_st (s * 13 + 1) (nI_add _ 1) (by omega) (by decide) (sd_st (s * 13 + 2) (nI_add _ 2) (by omega) (by decide) (sd_st (s * 13 + 3) (nI_add _ 3) (by omega) (by decide) ?_))))
          refine sy_in1 7 h (sd_w1 (sy_inm1 5 g (sd_w1 (sy_inm1 27 f (sd_w1 (sy_in1 9 d (sd_w1 ?_)))))))
          exact sd_st s rfl hs (by decide) (sd_st s rfl hs (by decide) (sd_st s rfl hs (by decide) (sd_st s rfl hs (by decide) ⟨rfl, sd_mk hF (sd_Ss hS hs g f d) hO hE hP hH hT hU hG hW hQ⟩)))
theorem sd_Sb (hS : sd_S sts ta lk go ca cv cm cg) {s n : Nat} (hs : s < 8) (hn : n < 3) {a b c : Int32} (hc : sd_rg 10 c) (hca : ca s = nI n) :
    sd_S (upd (upd (upd (upd sts (s * 13 + 4 + n * 3) a) (s * 13 + 4 + n * 3 + 1) b) (s * 13 + 4 + n * 3 + 2) c) (s * 13 + 3) (nI (n + 1))) ta lk go (upd ca s (nI (n + 1))) (upd cv (3 * s + n) a) (upd cm (3 * s + n) b) (upd cg (3 * s + n) c) := by
  intro t ht
  obtain ⟨⟨h0, h1, h2, h3⟩, h4, h5, h6, h7, h8⟩ := hS t ht
  by_cases e : t = s
  · subst e
    simp (disch := omega) only [pk_us, pk_un]
    refine ⟨⟨h0, h1, h2, trivial⟩, h4, h5, h6, ⟨n + 1, by omega, rfl⟩, fun d hd => ?_⟩
    obtain ⟨g1, g2, g3, g4⟩ := h8 d hd
    by_cases e : d = n
    · subst e
      simp (disch := omega) only [pk_us, pk_un]
      exact ⟨trivial, trivial, trivial, hc⟩
    · simp (disch := omega) only [pk_un]
      exact ⟨g1, g2, g3, g4⟩
  · simp (disch := omega) only [pk_un]
    refine ⟨⟨h0, h1, h2, h3⟩, h4, h5, h6, h7, fun d hd => ?_⟩
    obtain ⟨g1, g2, g3, g4⟩ := h8 d hd
    simp (disch := omega) only [pk_un]
    exact ⟨g1, g2, g3, g4⟩
theorem i_vc_branch {k : Nat} {u : SX} {v : SY} (I : i_Rel k u v) (hk : k + 7 ≤ 3584) (v1 : Int32) (v2 : Int32) (v3 : Int32) (v4 : Int32) : wpX_branch (fun r u' => wpY_branch (fun r' v' => r' = r ∧ i_Rel (k + 7) u' v') v v1 v2 v3 v4) u v1 v2 v3 v4 := by
  refine sd_el (C := fun u v => wpX_branch (fun r u' => wpY_branch (fun r' v' => r' = r ∧ i_Rel (k + 7) u' v') v v1 v2 v3 v4) u v1 v2 v3 v4) I (fun sc oc bt bb da ag lo tp sb sd tk tl tt ma ol dr ay gl fw fv hv sts ops opn rg kf kk th ens mv mm sps ho pb pz rc mr md mt gp qc qq qe lc tq ta lk go ca cv cm cg ow oq ox sw sa sz sg ra ac ea eb ch ty bi mk yb le gt hF hS hO hE hP hH hT hU hG hW hQ => ?_)
  have J : i_Rel (k + 7) (sc, oc, bt, bb, da, ag, lo, tp, sb, sd, tk, fw, fv, hv, sts, ops, opn, rg, kf, kk, th, ens, mv, mm, sps, ho, pb, pz, rc, mr, md, mt, gp, qc, qq, qe, lc, tq) (sc, oc, tl, tt, bt, ma, ol, tp, sb, sd, tk, dr, ay, gl, fw, fv, hv, ta, lk, go, ca, cv, cm, cg, opn, ow, oq, ox, rg, sw, sa, sz, sg, ho, kf, kk, ra, ac, ea, eb, ch, th, mv, mm, ty, bi, mk, rc, mr, md, mt, gp, yb, le, qc, qe, qq, tq, lc, gt) := sd_mk hF hS hO hE hP hH hT hU hG hW hQ
  unfold wpX_branch wpY_branch
  rcases sd_cl 8 v1 with h | h
  · exact sx_AR 8 h (sy_in0 7 h (sd_w0 ⟨rfl, J⟩))
  · rcases sd_cl 10 v4 with d | d
    · refine sx_AT 8 h (sx_CR 9 d ?_)
      rcases sd_cl 65536 v2 with g | g
      · exact sy_in1 7 h (sd_w1 (sy_word0 g (sd_w0 ⟨rfl, J⟩)))
      · rcases sd_cl 65536 v3 with f | f
        · exact sy_in1 7 h (sd_w1 (sy_word1 g (sd_w1 (sy_word0 f (sd_w0 ⟨rfl, J⟩)))))
        · exact sy_in1 7 h (sd_w1 (sy_word1 g (sd_w1 (sy_word1 f (sd_w1 (sy_in0 9 d (sd_w0 ⟨rfl, J⟩)))))))
    · refine sx_AT 8 h (sx_CT 9 d ?_)
      rcases sd_cl 65536 v2 with g | g
      · exact sx_word0 g (sd_w0 (sy_in1 7 h (sd_w1 (sy_word0 g (sd_w0 ⟨rfl, J⟩)))))
      · refine sx_word1 g (sd_w1 ?_)
        rcases sd_cl 65536 v3 with f | f
        · exact sx_word0 f (sd_w0 (sy_in1 7 h (sd_w1 (sy_word1 g (sd_w1 (sy_word0 f (sd_w0 ⟨rfl, J⟩)))))))
        · refine sx_word1 f (sd_w1 ?_)
          obtain ⟨s, hs, rfl⟩ := id h
          have hs' := hS s hs
          obtain ⟨n, hn, hca⟩ := hs'.2.2.2.2.1
          have e3 : nI s * 13 + 3 = nI (s * 13 + 3) := sd_ma s 13 3
          have e4 : nI s * 13 + 4 = nI (s * 13 + 4) := sd_ma s 13 4
          rw [e3, e4, nI_clamp (n := s * 13 + 3) (by omega)]
          refine ⟨vp_in_nI (by omega) (by decide), nm_r (e' := nI n) (hs'.1.2.2.2.trans hca) ?_⟩
          refine pk_lt n 3 (fun n3 => ?_) (fun n3 => ?_)
          · refine nm_r (e' := nI (s * 13 + 4 + n * 3)) ((congrArg _ (pk_mul n 3)).trans (nI_add _ _)) ?_
            refine sd_st (s * 13 + 4 + n * 3) rfl (by omega) (by decide) (sd_st (s * 13 + 4 + n * 3 + 1) (nI_add _ 1) (by omega) (by decide) (sd_st (s * 13 + 4 + n * 3 + 2) (nI_add _ 2) (by omega) (by decide) ⟨vp_in_nI (by omega) (by decide), ?_⟩))
            rw [nI_1]
            refine nm_e ?_
            refine sy_in1 7 h (sd_w1 (sy_word1 g (sd_w1 (sy_word1 f (sd_w1 (sy_in1 9 d (sd_w1 ⟨vp_in_nI hs (by decide), ?_⟩)))))))
            rw [nI_clamp (n := s) (by omega), hca]
            refine br_f (fun z => absurd ((nI_eq (a := n) (b := 3) (by omega) (by omega)).mp z) (by omega)) ⟨vp_in_nI hs (by decide), ?_⟩
            refine nm_r (e' := nI (3 * s + n)) (sd_am s 3 n) (sd_st (3 * s + n) rfl (by omega) (by decide) (sd_st (3 * s + n) rfl (by omega) (by decide) (sd_st (3 * s + n) rfl (by omega) (by decide) ⟨vp_in_nI hs (by decide), vp_in_nI hs (by decide), ?_⟩)))
            rw [nI_1]
            refine nm_e ⟨rfl, sd_mk hF (sd_Sb hS hs n3 d hca) hO hE hP hH hT hU hG hW hQ⟩
          · refine sy_in1 7 h (sd_w1 (sy_word1 g (sd_w1 (sy_word1 f (sd_w1 (sy_in1 9 d (sd_w1 ⟨vp_in_nI hs (by decide), ?_⟩)))))))
            rw [nI_clamp (n := s) (by omega), hca]
            exact br_t ((nI_eq (a := n) (b := 3) (by omega) (by omega)).mpr (by omega)) ⟨rfl, J⟩
end
end
section
section
variable {sc oc bt bb da ag lo tp sb sd tk : Int32} {fw fv hv sts ops opn rg kf kk th ens mv mm sps ho pb pz rc mr md mt gp qc qq qe lc tq : Nat → Int32} {tl tt ma ol dr ay gl : Int32} {ta lk go ca cv cm cg ow oq ox sw sa sz sg ra ac ea eb ch ty bi mk yb le gt : Nat → Int32}
theorem i_vc_order {k : Nat} {u : SX} {v : SY} (I : i_Rel k u v) (hk : k + 7 ≤ 3584) (v1 : Int32) : wpX_order (fun r u' => wpY_order (fun r' v' => r' = r ∧ i_Rel (k + 7) u' v') v v1) u v1 := by
  refine sd_el (C := fun u v => wpX_order (fun r u' => wpY_order (fun r' v' => r' = r ∧ i_Rel (k + 7) u' v') v v1) u v1) I (fun sc oc bt bb da ag lo tp sb sd tk tl tt ma ol dr ay gl fw fv hv sts ops opn rg kf kk th ens mv mm sps ho pb pz rc mr md mt gp qc qq qe lc tq ta lk go ca cv cm cg ow oq ox sw sa sz sg ra ac ea eb ch ty bi mk yb le gt hF hS hO hE hP hH hT hU hG hW hQ => ?_)
  have J : i_Rel (k + 7) (sc, oc, bt, bb, da, ag, lo, tp, sb, sd, tk, fw, fv, hv, sts, ops, opn, rg, kf, kk, th, ens, mv, mm, sps, ho, pb, pz, rc, mr, md, mt, gp, qc, qq, qe, lc, tq) (sc, oc, tl, tt, bt, ma, ol, tp, sb, sd, tk, dr, ay, gl, fw, fv, hv, ta, lk, go, ca, cv, cm, cg, opn, ow, oq, ox, rg, sw, sa, sz, sg, ho, kf, kk, ra, ac, ea, eb, ch, th, mv, mm, ty, bi, mk, rc, mr, md, mt, gp, yb, le, qc, qe, qq, tq, lc, gt) := sd_mk hF hS hO hE hP hH hT hU hG hW hQ
  unfold wpX_order wpY_order
  rcases sd_cl 6 v1 with h | h
  · exact sx_header0 h (sd_w0 (sy_in0 5 h (sd_w0 ⟨rfl, J⟩)))
  · obtain ⟨N, hN, rfl, hR⟩ := hH
    refine sx_header1 h (sd_w1 (pk_lt N 6 (fun n6 => ?_) (fun n6 => ?_)))
    · refine sd_st N rfl n6 (by decide) ?_
      rw [nI_1]
      refine nm_e (sy_in1 5 h (sd_w1 (br_f (fun z => absurd ((nI_eq (a := N) (b := 6) (by omega) (by omega)).mp z) (by omega)) (sd_st N rfl n6 (by decide) ?_))))
      rw [nI_1]
      refine nm_e ⟨rfl, sd_mk hF hS hO hE hP ⟨N + 1, by omega, rfl, fun i hi => ?_⟩ hT hU hG hW hQ⟩
      by_cases e : i = N
      · subst e; rw [pk_us]; exact h
      · rw [pk_un e]; exact hR i hi
    · exact sy_in1 5 h (sd_w1 (br_t ((nI_eq (a := N) (b := 6) (by omega) (by omega)).mpr (by omega)) ⟨rfl, J⟩))
theorem i_vc_type {k : Nat} {u : SX} {v : SY} (I : i_Rel k u v) (hk : k + 7 ≤ 3584) (v1 : Int32) : wpX_type (fun r u' => wpY_type (fun r' v' => r' = r ∧ i_Rel (k + 7) u' v') v v1) u v1 := by
  refine sd_el (C := fun u v => wpX_type (fun r u' => wpY_type (fun r' v' => r' = r ∧ i_Rel (k + 7) u' v') v v1) u v1) I (fun sc oc bt bb da ag lo tp sb sd tk tl tt ma ol dr ay gl fw fv hv sts ops opn rg kf kk th ens mv mm sps ho pb pz rc mr md mt gp qc qq qe lc tq ta lk go ca cv cm cg ow oq ox sw sa sz sg ra ac ea eb ch ty bi mk yb le gt hF hS hO hE hP hH hT hU hG hW hQ => ?_)
  have J : i_Rel (k + 7) (sc, oc, bt, bb, da, ag, lo, tp, sb, sd, tk, fw, fv, hv, sts, ops, opn, rg, kf, kk, th, ens, mv, mm, sps, ho, pb, pz, rc, mr, md, mt, gp, qc, qq, qe, lc, tq) (sc, oc, tl, tt, bt, ma, ol, tp, sb, sd, tk, dr, ay, gl, fw, fv, hv, ta, lk, go, ca, cv, cm, cg, opn, ow, oq, ox, rg, sw, sa, sz, sg, ho, kf, kk, ra, ac, ea, eb, ch, th, mv, mm, ty, bi, mk, rc, mr, md, mt, gp, yb, le, qc, qe, qq, tq, lc, gt) := sd_mk hF hS hO hE hP hH hT hU hG hW hQ
  unfold wpX_type wpY_type
  obtain ⟨⟨T, hT1, rfl, hT2⟩, hT3⟩ := hT
  refine nm_r (e' := nI T) hT2 (pk_lt T 16 (fun t6 => ?_) (fun t6 => ?_))
  · refine sd_st (768 + T) (nI_add 768 T) (by omega) (by decide) ?_
    rw [nI_1]
    refine nm_e (br_f (fun z => absurd ((nI_eq (a := T) (b := 16) (by omega) (by omega)).mp z) (by omega)) (sd_st T rfl t6 (by decide) ?_))
    rw [nI_1]
    refine nm_e ⟨rfl, sd_mk hF hS hO hE hP hH ⟨⟨T + 1, by omega, rfl, pk_us⟩, fun j hj => ?_⟩ ?_ ?_ ?_ hQ⟩
    · by_cases e : j = T
      · subst e; rw [pk_us, pk_us]
      · rw [pk_un e, pk_un (by omega)]; exact hT3 j hj
    · rcases hU with hU | ⟨h1, L, h2, h3, h4, h5⟩
      · exact Or.inl hU
      · refine Or.inr ⟨h1, L, h2, h3, ?_, fun i hi => ?_⟩
        · rw [pk_un (by omega)]; exact h4
        · rw [pk_un (by omega)]; exact h5 i hi
    · obtain ⟨G, h1, h2, h3, h4⟩ := hG
      refine ⟨G, h1, h2, ?_, fun j hj => ?_⟩
      · rw [pk_un (by omega)]; exact h3
      · rw [pk_un (by omega)]; exact h4 j hj
    · intro q hq
      obtain ⟨C, h1, h2, h3⟩ := hW q hq
      refine ⟨C, h1, h2, fun i hi => ?_⟩
      obtain ⟨L, g1, g2, g3, g4⟩ := h3 i hi
      refine ⟨L, g1, g2, ?_, fun j hj => ?_⟩
      · rw [pk_un (by omega)]; exact g3
      · rw [pk_un (by omega)]; exact g4 j hj
  · exact br_t ((nI_eq (a := T) (b := 16) (by omega) (by omega)).mpr (by omega)) ⟨rfl, J⟩
theorem i_vc_register {k : Nat} {u : SX} {v : SY} (I : i_Rel k u v) (hk : k + 7 ≤ 3584) (v1 : Int32) (v2 : Int32) (v3 : Int32) : wpX_register (fun r u' => wpY_register (fun r' v' => r' = r ∧ i_Rel (k + 7) u' v') v v1 (lw_bz v2) v3) u v1 (lw_bz v2) v3 := by
  refine sd_el (C := fun u v => wpX_register (fun r u' => wpY_register (fun r' v' => r' = r ∧ i_Rel (k + 7) u' v') v v1 (lw_bz v2) v3) u v1 (lw_bz v2) v3) I (fun sc oc bt bb da ag lo tp sb sd tk tl tt ma ol dr ay gl fw fv hv sts ops opn rg kf kk th ens mv mm sps ho pb pz rc mr md mt gp qc qq qe lc tq ta lk go ca cv cm cg ow oq ox sw sa sz sg ra ac ea eb ch ty bi mk yb le gt hF hS hO hE hP hH hT hU hG hW hQ => ?_)
  have J : i_Rel (k + 7) (sc, oc, bt, bb, da, ag, lo, tp, sb, sd, tk, fw, fv, hv, sts, ops, opn, rg, kf, kk, th, ens, mv, mm, sps, ho, pb, pz, rc, mr, md, mt, gp, qc, qq, qe, lc, tq) (sc, oc, tl, tt, bt, ma, ol, tp, sb, sd, tk, dr, ay, gl, fw, fv, hv, ta, lk, go, ca, cv, cm, cg, opn, ow, oq, ox, rg, sw, sa, sz, sg, ho, kf, kk, ra, ac, ea, eb, ch, th, mv, mm, ty, bi, mk, rc, mr, md, mt, gp, yb, le, qc, qe, qq, tq, lc, gt) := sd_mk hF hS hO hE hP hH hT hU hG hW hQ
  unfold wpX_register wpY_register
  rcases sd_cl 8 v1 with h | h
  · exact sx_DR 8 h (sy_in0 7 h (sd_w0 ⟨rfl, J⟩))
  · refine sx_DT 8 h ?_
    obtain ⟨j, hj, rfl⟩ := id h
    refine br_c (fun z => ⟨vp_in_nI hj (by decide), sy_in1 7 h (sd_w1 (br_t z ⟨vp_in_nI hj (by decide), rfl, J⟩))⟩) (fun z => ?_)
    refine sd_st j rfl hj (by decide) ⟨vp_in_nI hj (by decide), sy_in1 7 h (sd_w1 (br_f z (sd_st j rfl hj (by decide) ⟨vp_in_nI hj (by decide), rfl, sd_mk hF hS hO hE hP hH hT hU hG hW hQ⟩)))⟩
theorem sd_Ee (hE : sd_E kf kk th ens mm ra ac ea eb ch) {x : Nat} : sd_E kf kk (upd th x 0) ens mm ra ac ea eb ch := by
  refine ⟨hE.1, hE.2.1, hE.2.2.1, fun t ht e he h => ?_⟩
  by_cases z : 13 * t + e = x
  · rw [z, pk_us] at h
    exact absurd rfl h
  · rw [pk_un z] at h
    exact hE.2.2.2 t ht e he h
theorem i_vc_erase {k : Nat} {u : SX} {v : SY} (I : i_Rel k u v) (hk : k + 7 ≤ 3584) (v1 : Int32) (v2 : Int32) : wpX_erase (fun r u' => wpY_erase (fun r' v' => r' = r ∧ i_Rel (k + 7) u' v') v v1 v2) u v1 v2 := by
  refine sd_el (C := fun u v => wpX_erase (fun r u' => wpY_erase (fun r' v' => r' = r ∧ i_Rel (k + 7) u' v') v v1 v2) u v1 v2) I (fun sc oc bt bb da ag lo tp sb sd tk tl tt ma ol dr ay gl fw fv hv sts ops opn rg kf kk th ens mv mm sps ho pb pz rc mr md mt gp qc qq qe lc tq ta lk go ca cv cm cg ow oq ox sw sa sz sg ra ac ea eb ch ty bi mk yb le gt hF hS hO hE hP hH hT hU hG hW hQ => ?_)
  have J : i_Rel (k + 7) (sc, oc, bt, bb, da, ag, lo, tp, sb, sd, tk, fw, fv, hv, sts, ops, opn, rg, kf, kk, th, ens, mv, mm, sps, ho, pb, pz, rc, mr, md, mt, gp, qc, qq, qe, lc, tq) (sc, oc, tl, tt, bt, ma, ol, tp, sb, sd, tk, dr, ay, gl, fw, fv, hv, ta, lk, go, ca, cv, cm, cg, opn, ow, oq, ox, rg, sw, sa, sz, sg, ho, kf, kk, ra, ac, ea, eb, ch, th, mv, mm, ty, bi, mk, rc, mr, md, mt, gp, yb, le, qc, qe, qq, tq, lc, gt) := sd_mk hF hS hO hE hP hH hT hU hG hW hQ
  unfold wpX_erase wpY_erase
  rcases sd_clE v1 v2 with h | ⟨t, e, ht, he, rfl, rfl⟩
  · exact sx_ent0 h (sd_w0 (sy_ent0 h (sd_w0 ⟨sd_n0, rfl, J⟩)))
  · refine sx_ent1 ht he (fun z => sd_w0 (sy_ent1 ht he (fun _ => sd_w0 ⟨sd_n0, rfl, J⟩) (fun y => absurd z y))) (fun z => sd_w1 ?_)
    refine sd_st (13 * t + e) (sd_13' t e) (by omega) (by decide) (sy_ent1 ht he (fun y => absurd y z) (fun _ => sd_w1 (sd_st (13 * t + e) (sd_13 t e) (by omega) (by decide) ⟨sd_n1, rfl, ?_⟩)))
    rw [sd_b0]
    exact sd_mk hF hS hO (sd_Ee hE) hP hH hT hU hG hW hQ
theorem i_vc_clear {k : Nat} {u : SX} {v : SY} (I : i_Rel k u v) (hk : k + 7 ≤ 3584) (v1 : Int32) (v2 : Int32) : wpX_clear (fun r u' => wpY_clear (fun r' v' => r' = r ∧ i_Rel (k + 7) u' v') v v1 v2) u v1 v2 := by
  refine sd_el (C := fun u v => wpX_clear (fun r u' => wpY_clear (fun r' v' => r' = r ∧ i_Rel (k + 7) u' v') v v1 v2) u v1 v2) I (fun sc oc bt bb da ag lo tp sb sd tk tl tt ma ol dr ay gl fw fv hv sts ops opn rg kf kk th ens mv mm sps ho pb pz rc mr md mt gp qc qq qe lc tq ta lk go ca cv cm cg ow oq ox sw sa sz sg ra ac ea eb ch ty bi mk yb le gt hF hS hO hE hP hH hT hU hG hW hQ => ?_)
  have J : i_Rel (k + 7) (sc, oc, bt, bb, da, ag, lo, tp, sb, sd, tk, fw, fv, hv, sts, ops, opn, rg, kf, kk, th, ens, mv, mm, sps, ho, pb, pz, rc, mr, md, mt, gp, qc, qq, qe, lc, tq) (sc, oc, tl, tt, bt, ma, ol, tp, sb, sd, tk, dr, ay, gl, fw, fv, hv, ta, lk, go, ca, cv, cm, cg, opn, ow, oq, ox, rg, sw, sa, sz, sg, ho, kf, kk, ra, ac, ea, eb, ch, th, mv, mm, ty, bi, mk, rc, mr, md, mt, gp, yb, le, qc, qe, qq, tq, lc, gt) := sd_mk hF hS hO hE hP hH hT hU hG hW hQ
  unfold wpX_clear wpY_clear
  by_cases z0 : v1 = 0
  · subst z0
    refine br_t rfl ?_
    rcases sd_cl 8 v2 with h | h
    · exact sx_AR 8 h (br_f (by decide) (br_f (by decide) (br_f (by decide) (sy_in1 3 ⟨0, by omega, rfl⟩ (sd_w1 (br_t rfl (sy_in0 7 h (sd_w0 ⟨rfl, J⟩))))))))
    · obtain ⟨j, hj, rfl⟩ := id h
      refine sx_AT 8 h ⟨vp_in_nI hj (by decide), ?_⟩
      rw [nI_clamp (by omega)]
      refine nm_e ⟨vp_in_nI hj (by decide), nm_e (sy_in1 3 ⟨0, by omega, rfl⟩ (sd_w1 (br_t rfl (sy_in1 7 h (sd_w1 (br_t rfl ⟨vp_in_nI hj (by decide), br_t rfl ⟨vp_in_nI hj (by decide), ?_⟩⟩))))))⟩
      rw [nI_clamp (by omega)]
      refine nm_e (br_f (by decide) (br_f (by decide) (br_f (by decide) ⟨rfl, sd_mk hF hS ⟨fun a ha => ?_, hO.2⟩ hE hP hH hT hU hG hW hQ⟩)))
      by_cases e : a = j
      · subst e; rw [pk_us]; exact sd_r0 (by omega)
      · rw [pk_un e]; exact hO.1 a ha
  · refine br_f z0 ?_
    by_cases z1 : v1 = 1
    · subst z1
      exact br_t rfl (sy_in1 3 ⟨1, by omega, rfl⟩ (sd_w1 (br_f (by decide) (br_f (by decide) (br_t rfl (br_f (by decide) (br_t rfl (br_f (by decide) (br_f (by decide) ⟨rfl, sd_mk hF hS hO hE ⟨0, by omega, rfl, hP.choose_spec.2.2.1, fun i hi => absurd hi (by omega)⟩ hH hT hU hG hW hQ⟩)))))))))
    · refine br_f z1 ?_
      by_cases z2 : v1 = 2
      · subst z2
        obtain ⟨N, hN, rfl, hR⟩ := hH
        exact br_t rfl (sy_in1 3 ⟨2, by omega, rfl⟩ (sd_w1 (br_f (by decide) (br_f (by decide) (br_f (by decide) (br_t rfl (br_f (by decide) (br_f (by decide) (br_t rfl (br_f (by decide) ⟨rfl, sd_mk hF hS hO hE hP ⟨0, by omega, rfl, hR⟩ hT hU hG hW hQ⟩))))))))))
      · refine br_f z2 ?_
        by_cases z3 : v1 = 3
        · subst z3
          refine br_t rfl (nm_e (nm_e (sy_in1 3 ⟨3, by omega, rfl⟩ (sd_w1 (br_f (by decide) (br_f (by decide) (br_f (by decide) (br_f (by decide) (br_f (by decide) (br_f (by decide) (br_f (by decide) (br_t rfl ⟨?_, sd_mk hF hS hO hE hP hH ⟨⟨0, by omega, rfl, pk_us⟩, hT.2⟩ ?_ ?_ ?_ hQ⟩))))))))))))
          · obtain ⟨⟨T, _, e1, e2⟩, _⟩ := hT
            rw [e1, e2]
          · rcases hU with hU | ⟨h1, L, h2, h3, h4, h5⟩
            · exact Or.inl hU
            · refine Or.inr ⟨h1, L, h2, h3, ?_, h5⟩
              rw [pk_un (by omega)]; exact h4
          · obtain ⟨G, h1, h2, h3, h4⟩ := hG
            refine ⟨G, h1, h2, ?_, h4⟩
            rw [pk_un (by omega)]; exact h3
          · intro q hq
            obtain ⟨C, h1, h2, h3⟩ := hW q hq
            refine ⟨C, h1, h2, fun i hi => ?_⟩
            obtain ⟨L, g1, g2, g3, g4⟩ := h3 i hi
            refine ⟨L, g1, g2, ?_, g4⟩
            rw [pk_un (by omega)]; exact g3
        · refine br_f z3 ?_
          rcases sd_cl 4 v1 with h | h
          · exact sy_in0 3 h (sd_w0 ⟨rfl, J⟩)
          · exfalso
            obtain ⟨j, hj, rfl⟩ := h
            have : j = 0 ∨ j = 1 ∨ j = 2 ∨ j = 3 := by omega
            rcases this with rfl | rfl | rfl | rfl
            · exact z0 rfl
            · exact z1 rfl
            · exact z2 rfl
            · exact z3 rfl
end
end
section
section
variable {sc oc bt bb da ag lo tp sb sd tk : Int32} {fw fv hv sts ops opn rg kf kk th ens mv mm sps ho pb pz rc mr md mt gp qc qq qe lc tq : Nat → Int32} {tl tt ma ol dr ay gl : Int32} {ta lk go ca cv cm cg ow oq ox sw sa sz sg ra ac ea eb ch ty bi mk yb le gt : Nat → Int32}
theorem sd_idx (t e c : Nat) : (nI t * 13 + nI e) * 2 + nI c = nI (2 * (13 * t + e) + c) := by
  rw [sd_13']
  exact (sd_ma (13 * t + e) 2 c).trans (by rw [Nat.mul_comm])
theorem sd_idy (t e c : Nat) : 26 * nI t + 2 * nI e + nI c = nI (2 * (13 * t + e) + c) := by
  have e1 : 26 * nI t = nI (26 * t) := pk_mul 26 t
  have e2 : 2 * nI e = nI (2 * e) := pk_mul 2 e
  rw [e1, e2, nI_add, nI_add]
  congr 1
  omega
theorem sd_Em (hE : sd_E kf kk th ens mm ra ac ea eb ch) {t e c : Nat} (ht : t < 4) (he : e < 12) (hc : c < 2) {m : Int32} (hm : kk (2 * t + c) = 1 → sd_rg 17 m) : sd_E kf kk th ens (upd mm (2 * (13 * t + e) + c) m) ra ac ea eb ch := by
  refine ⟨hE.1, hE.2.1, hE.2.2.1, fun t' ht' e' he' h c' hc' hk => ?_⟩
  by_cases z : 2 * (13 * t' + e') + c' = 2 * (13 * t + e) + c
  · have z1 : t' = t := by omega
    have z2 : c' = c := by omega
    subst z1 z2
    rw [z, pk_us]
    exact hm hk
  · rw [pk_un z]
    exact hE.2.2.2 t' ht' e' he' h c' hc' hk
theorem i_vc_match {k : Nat} {u : SX} {v : SY} (I : i_Rel k u v) (hk : k + 7 ≤ 3584) (v1 : Int32) (v2 : Int32) (v3 : Int32) (v4 : Int32) (v5 : Int32) : wpX_match (fun r u' => wpY_match (fun r' v' => r' = r ∧ i_Rel (k + 7) u' v') v v1 v2 v3 v4 v5) u v1 v2 v3 v4 v5 := by
  refine sd_el (C := fun u v => wpX_match (fun r u' => wpY_match (fun r' v' => r' = r ∧ i_Rel (k + 7) u' v') v v1 v2 v3 v4 v5) u v1 v2 v3 v4 v5) I (fun sc oc bt bb da ag lo tp sb sd tk tl tt ma ol dr ay gl fw fv hv sts ops opn rg kf kk th ens mv mm sps ho pb pz rc mr md mt gp qc qq qe lc tq ta lk go ca cv cm cg ow oq ox sw sa sz sg ra ac ea eb ch ty bi mk yb le gt hF hS hO hE hP hH hT hU hG hW hQ => ?_)
  have J : i_Rel (k + 7) (sc, oc, bt, bb, da, ag, lo, tp, sb, sd, tk, fw, fv, hv, sts, ops, opn, rg, kf, kk, th, ens, mv, mm, sps, ho, pb, pz, rc, mr, md, mt, gp, qc, qq, qe, lc, tq) (sc, oc, tl, tt, bt, ma, ol, tp, sb, sd, tk, dr, ay, gl, fw, fv, hv, ta, lk, go, ca, cv, cm, cg, opn, ow, oq, ox, rg, sw, sa, sz, sg, ho, kf, kk, ra, ac, ea, eb, ch, th, mv, mm, ty, bi, mk, rc, mr, md, mt, gp, yb, le, qc, qe, qq, tq, lc, gt) := sd_mk hF hS hO hE hP hH hT hU hG hW hQ
  unfold wpX_match wpY_match
  rcases sd_clE v1 v2 with h | ⟨t, e, ht, he, rfl, rfl⟩
  · exact sx_ent0 h (sd_w0 (sy_ent0 h (sd_w0 ⟨rfl, J⟩)))
  · refine sx_ent1 ht he (fun z => sd_w0 (sy_ent1 ht he (fun _ => sd_w0 ⟨rfl, J⟩) (fun y => absurd z y))) (fun z => sd_w1 ?_)
    rcases sd_cl 2 v3 with h | h
    · exact sx_AR 2 h (sy_ent1 ht he (fun y => absurd y z) (fun _ => sd_w1 (sy_in0 1 h (sd_w0 ⟨rfl, J⟩))))
    · refine sx_AT 2 h ?_
      obtain ⟨c, hc, rfl⟩ := id h
      have i1 : nI t * 2 + nI c = nI (2 * t + c) := (sd_ma t 2 c).trans (by rw [Nat.mul_comm])
      have i2 : 2 * nI t + nI c = nI (2 * t + c) := sd_am t 2 c
      have kf1 : kf (2 * t + c) = -1 ∨ sd_rg 28 (kf (2 * t + c)) := by
        have := hE.1 t ht
        have : c = 0 ∨ c = 1 := by omega
        rcases this with rfl | rfl
        · exact Or.inr (hE.1 t ht).1
        · exact (hE.1 t ht).2
      have kk1 := hE.2.1 (2 * t + c) (by omega)
      rcases sd_cl 65536 v4 with g | g
      · refine sx_word0 g (sd_w0 (sy_ent1 ht he (fun y => absurd y z) (fun _ => sd_w1 (sy_in1 1 h (sd_w1 ?_)))))
        rw [i2, nI_clamp (by omega)]
        exact ⟨vp_in_nI (by omega) (by decide), br_c (fun _ => ⟨rfl, J⟩) (fun _ => sy_word0 g (sd_w0 ⟨rfl, J⟩))⟩
      · refine sx_word1 g (sd_w1 ?_)
        rw [i1, nI_clamp (by omega)]
        refine ⟨vp_in_nI (by omega) (by decide), ?_⟩
        rcases kf1 with kf1 | ⟨f, hf, kf1⟩
        · refine br_t kf1 (sy_ent1 ht he (fun y => absurd y z) (fun _ => sd_w1 (sy_in1 1 h (sd_w1 ?_))))
          rw [i2, nI_clamp (by omega), kf1]
          exact ⟨vp_in_nI (by omega) (by decide), br_t (by decide) ⟨rfl, J⟩⟩
        · have nk : ¬ kf (2 * t + c) = -1 := by rw [kf1]; exact sd_ne (by omega)
          have nk0 : ¬ kf (2 * t + c) < 0 := by rw [kf1]; exact nI_pos (by omega)
          refine br_f nk ⟨vp_in_nI (by omega) (by decide), ?_⟩
          -- the two ends
          have no : ∀ (w : sd_rj 17 v5 ∧ kk (2 * t + c) = 1 ∨ sd_rj 65536 v5 ∧ kk (2 * t + c) = 2), wpY_match (fun r' v' => r' = 0 ∧ i_Rel (k + 7) (sc, oc, bt, bb, da, ag, lo, tp, sb, sd, tk, fw, fv, hv, sts, ops, opn, rg, kf, kk, th, ens, mv, mm, sps, ho, pb, pz, rc, mr, md, mt, gp, qc, qq, qe, lc, tq) v') (sc, oc, tl, tt, bt, ma, ol, tp, sb, sd, tk, dr, ay, gl, fw, fv, hv, ta, lk, go, ca, cv, cm, cg, opn, ow, oq, ox, rg, sw, sa, sz, sg, ho, kf, kk, ra, ac, ea, eb, ch, th, mv, mm, ty, bi, mk, rc, mr, md, mt, gp, yb, le, qc, qe, qq, tq, lc, gt) (nI t) (nI e) (nI c) v4 v5 := by
            intro w
            unfold wpY_match
            refine sy_ent1 ht he (fun y => absurd y z) (fun _ => sd_w1 (sy_in1 1 h (sd_w1 ?_)))
            rw [i2, nI_clamp (by omega)]
            refine ⟨vp_in_nI (by omega) (by decide), br_f nk0 (sy_word1 g (sd_w1 ⟨vp_in_nI (by omega) (by decide), ?_⟩))⟩
            rcases w with ⟨w1, w2⟩ | ⟨w1, w2⟩
            · exact nm_r w2 (br_f (by decide) (br_t rfl (sy_in0 16 w1 (sd_w0 ⟨rfl, J⟩))))
            · exact nm_r w2 (br_f (by decide) (br_f (by decide) (sy_in0 65535 w1 (sd_w0 ⟨rfl, J⟩))))
          have yes : ∀ (w : kk (2 * t + c) = 0 ∨ sd_rg 17 v5 ∧ kk (2 * t + c) = 1 ∨ sd_rg 65536 v5 ∧ kk (2 * t + c) = 2), wX_match_92 (fun r u' => wpY_match (fun r' v' => r' = r ∧ i_Rel (k + 7) u' v') (sc, oc, tl, tt, bt, ma, ol, tp, sb, sd, tk, dr, ay, gl, fw, fv, hv, ta, lk, go, ca, cv, cm, cg, opn, ow, oq, ox, rg, sw, sa, sz, sg, ho, kf, kk, ra, ac, ea, eb, ch, th, mv, mm, ty, bi, mk, rc, mr, md, mt, gp, yb, le, qc, qe, qq, tq, lc, gt) (nI t) (nI e) (nI c) v4 v5) (nI t) (nI e) (nI c) v4 v5 sc oc bt bb da ag lo tp sb sd tk fw fv hv sts ops opn rg kf kk th ens mv mm sps ho pb pz rc mr md mt gp qc qq qe lc tq := by
            intro w
            have hm : kk (2 * t + c) = 1 → sd_rg 17 v5 := by
              intro y
              rcases w with w | w | w
              · rw [y] at w; exact absurd w (by decide)
              · exact w.1
              · rw [y] at w; exact absurd w.2 (by decide)
            refine nm_r (sd_idx t e c) (sd_st (2 * (13 * t + e) + c) rfl (by omega) (by decide) (sd_st (2 * (13 * t + e) + c) rfl (by omega) (by decide) ?_))
            have fin : wY_match_82 (fun r' v' => r' = 1 ∧ i_Rel (k + 7) (sc, oc, bt, bb, da, ag, lo, tp, sb, sd, tk, fw, fv, hv, sts, ops, opn, rg, kf, kk, th, ens, (upd mv (2 * (13 * t + e) + c) v4), (upd mm (2 * (13 * t + e) + c) v5), sps, ho, pb, pz, rc, mr, md, mt, gp, qc, qq, qe, lc, tq) v') (nI t) (nI e) (nI c) v4 v5 sc oc tl tt bt ma ol tp sb sd tk dr ay gl fw fv hv ta lk go ca cv cm cg opn ow oq ox rg sw sa sz sg ho kf kk ra ac ea eb ch th mv mm ty bi mk rc mr md mt gp yb le qc qe qq tq lc gt :=
              sd_st (2 * (13 * t + e) + c) (sd_idy t e c) (by omega) (by decide) (sd_st (2 * (13 * t + e) + c) (sd_idy t e c) (by omega) (by decide) ⟨rfl, sd_mk hF hS hO (sd_Em hE ht he hc hm) hP hH hT hU hG hW hQ⟩)
            unfold wpY_match
            refine sy_ent1 ht he (fun y => absurd y z) (fun _ => sd_w1 (sy_in1 1 h (sd_w1 ?_)))
            rw [i2, nI_clamp (by omega)]
            refine ⟨vp_in_nI (by omega) (by decide), br_f nk0 (sy_word1 g (sd_w1 ⟨vp_in_nI (by omega) (by decide), ?_⟩))⟩
            rcases w with w | ⟨w1, w2⟩ | ⟨w1, w2⟩
            · exact nm_r w (br_t (by decide) fin)
            · exact nm_r w2 (br_f (by decide) (br_t rfl (sy_in1 16 w1 (sd_w1 fin))))
            · exact nm_r w2 (br_f (by decide) (br_f (by decide) (sy_in1 65535 w1 (sd_w1 fin))))
          obtain ⟨q, hq, kk1⟩ := kk1
          have : q = 0 ∨ q = 1 ∨ q = 2 := by omega
          rcases this with rfl | rfl | rfl
          · exact nm_r kk1 (br_f (by decide) (br_f (by decide) (yes (Or.inl kk1))))
          · rcases sd_cl 17 v5 with d | d
            · exact nm_r kk1 (br_t rfl (sx_CR 16 d (no (Or.inl ⟨d, kk1⟩))))
            · exact nm_r kk1 (br_t rfl (sx_CT 16 d (br_f (by decide) (yes (Or.inr (Or.inl ⟨d, kk1⟩))))))
          · rcases sd_cl 65536 v5 with d | d
            · exact nm_r kk1 (br_f (by decide) (br_t rfl (sx_word0 d (sd_w0 (no (Or.inr ⟨d, kk1⟩))))))
            · exact nm_r kk1 (br_f (by decide) (br_t rfl (sx_word1 d (sd_w1 (yes (Or.inr (Or.inr ⟨d, kk1⟩)))))))
theorem sd_lt1 {x : Int32} (h : ¬ x < 1) : ¬ x < 0 := by grind
theorem sy_in32 {post : Int32 → Prop} {p : Int32} (h0 : (p < 1 ∨ ¬ p ≤ 32) → post 0) (h1 : ∀ j : Nat, 1 ≤ j → j ≤ 32 → p = nI j → post 1) : wpY_in post p 1 32 := by
  refine br_c (fun z => h0 (Or.inl z)) (fun z => br_c (fun y => h0 (Or.inr (Int32.not_le.mpr y))) (fun y => ?_))
  obtain ⟨j, hj, rfl⟩ := nI_of (sd_lt1 z)
  have z' : ¬ nI j < nI 1 := z
  have y' : ¬ nI 32 < nI j := y
  rw [nI_ltI hj (by omega)] at z'
  rw [nI_ltI (by omega) hj] at y'
  exact h1 j (by omega) (by omega) rfl
theorem i_vc_set {k : Nat} {u : SX} {v : SY} (I : i_Rel k u v) (hk : k + 7 ≤ 3584) (v1 : Int32) (v2 : Int32) (v3 : Int32) (v4 : Int32) : wpX_set (fun r u' => wpY_set (fun r' v' => r' = r ∧ i_Rel (k + 7) u' v') v v1 v2 v3 v4) u v1 v2 v3 v4 := by
  refine sd_el (C := fun u v => wpX_set (fun r u' => wpY_set (fun r' v' => r' = r ∧ i_Rel (k + 7) u' v') v v1 v2 v3 v4) u v1 v2 v3 v4) I (fun sc oc bt bb da ag lo tp sb sd tk tl tt ma ol dr ay gl fw fv hv sts ops opn rg kf kk th ens mv mm sps ho pb pz rc mr md mt gp qc qq qe lc tq ta lk go ca cv cm cg ow oq ox sw sa sz sg ra ac ea eb ch ty bi mk yb le gt hF hS hO hE hP hH hT hU hG hW hQ => ?_)
  have J : i_Rel (k + 7) (sc, oc, bt, bb, da, ag, lo, tp, sb, sd, tk, fw, fv, hv, sts, ops, opn, rg, kf, kk, th, ens, mv, mm, sps, ho, pb, pz, rc, mr, md, mt, gp, qc, qq, qe, lc, tq) (sc, oc, tl, tt, bt, ma, ol, tp, sb, sd, tk, dr, ay, gl, fw, fv, hv, ta, lk, go, ca, cv, cm, cg, opn, ow, oq, ox, rg, sw, sa, sz, sg, ho, kf, kk, ra, ac, ea, eb, ch, th, mv, mm, ty, bi, mk, rc, mr, md, mt, gp, yb, le, qc, qe, qq, tq, lc, gt) := sd_mk hF hS hO hE hP hH hT hU hG hW hQ
  unfold wpX_set wpY_set
  rcases sd_cl 3 v1 with h | h
  · exact sx_BR 2 h (sy_in0 2 h (sd_w0 ⟨rfl, J⟩))
  · refine sx_BT 2 h ?_
    obtain ⟨w, hw, rfl⟩ := id h
    have : w = 0 ∨ w = 1 ∨ w = 2 := by omega
    rcases this with rfl | rfl | rfl
    · refine br_t rfl ?_
      unfold wpX_setMeter
      rcases sd_cl 4 v2 with a | a
      · exact sx_meter0 a (sd_w0 ⟨sd_n0, sy_in1 2 h (sd_w1 (sy_in0 3 a (sd_w0 ⟨rfl, J⟩)))⟩)
      · refine sx_meter1 a (sd_w1 ?_)
        rcases sd_cl 256 v3 with b | b
        · exact sx_BR 255 b ⟨sd_n0, sy_in1 2 h (sd_w1 (sy_in1 3 a (sd_w1 (br_t rfl (sy_in0 255 b (sd_w0 ⟨rfl, J⟩))))))⟩
        · rcases sd_cl 1001 v4 with c | c
          · exact sx_BT 255 b (sx_CR 1000 c ⟨sd_n0, sy_in1 2 h (sd_w1 (sy_in1 3 a (sd_w1 (br_t rfl (sy_in1 255 b (sd_w1 (sy_in0 1000 c (sd_w0 ⟨rfl, J⟩))))))))⟩)
          · refine sx_BT 255 b (sx_CT 1000 c ?_)
            obtain ⟨j, hj, rfl⟩ := id a
            refine sd_st j rfl hj (by decide) (sd_st j rfl hj (by decide) (sd_st j rfl hj (by decide) ⟨sd_n1, sy_in1 2 h (sd_w1 (sy_in1 3 a (sd_w1 (br_t rfl (sy_in1 255 b (sd_w1 (sy_in1 1000 c (sd_w1 ?_))))))))⟩))
            exact br_f (by decide) (br_f (by decide) (br_t rfl (sd_st j rfl hj (by decide) (sd_st j rfl hj (by decide) (sd_st j rfl hj (by decide) (br_f (by decide) (br_f (by decide) ⟨rfl, sd_mk hF hS hO hE hP hH hT hU hG hW hQ⟩)))))))
    · refine br_f (by decide) (br_t rfl ?_)
      rcases sd_cl 4 v2 with a | a
      · exact sx_AR 4 a ⟨sd_n0, sy_in1 2 h (sd_w1 (sy_in0 3 a (sd_w0 ⟨rfl, J⟩)))⟩
      · rcases sd_cl 16 v3 with b | b
        · exact sx_AT 4 a (sx_CR 15 b ⟨sd_n0, sy_in1 2 h (sd_w1 (sy_in1 3 a (sd_w1 (br_f (by decide) (br_t rfl (sy_in0 15 b (sd_w0 ⟨rfl, J⟩)))))))⟩)
        · obtain ⟨j, hj, rfl⟩ := id a
          exact sx_AT 4 a (sx_CT 15 b (sd_st j rfl hj (by decide) ⟨sd_n1, sy_in1 2 h (sd_w1 (sy_in1 3 a (sd_w1 (br_f (by decide) (br_t rfl (sy_in1 15 b (sd_w1 (br_f (by decide) (br_f (by decide) (br_t rfl (sd_st j rfl hj (by decide) (br_f (by decide) ⟨rfl, sd_mk hF hS hO hE hP hH hT hU hG hW hQ⟩))))))))))))⟩))
    · refine br_f (by decide) (br_f (by decide) (br_t rfl ?_))
      unfold wpX_setQuantum
      rcases sd_cl 4 v2 with a | a
      · exact sx_port0 a (sd_w0 ⟨sd_n0, sy_in1 2 h (sd_w1 (sy_in0 3 a (sd_w0 ⟨rfl, J⟩)))⟩)
      · refine sx_port1 a (sd_w1 ?_)
        rcases sd_cl 3 v3 with b | b
        · exact sx_AR 3 b ⟨sd_n0, sy_in1 2 h (sd_w1 (sy_in1 3 a (sd_w1 (br_f (by decide) (br_f (by decide) (br_t rfl (sy_in0 2 b (sd_w0 ⟨rfl, J⟩))))))))⟩
        · refine sx_AT 3 b ?_
          have no : (v4 < 1 ∨ ¬ v4 ≤ 32) → wpY_set (fun r' v' => r' = 0 ∧ i_Rel (k + 7) (sc, oc, bt, bb, da, ag, lo, tp, sb, sd, tk, fw, fv, hv, sts, ops, opn, rg, kf, kk, th, ens, mv, mm, sps, ho, pb, pz, rc, mr, md, mt, gp, qc, qq, qe, lc, tq) v') (sc, oc, tl, tt, bt, ma, ol, tp, sb, sd, tk, dr, ay, gl, fw, fv, hv, ta, lk, go, ca, cv, cm, cg, opn, ow, oq, ox, rg, sw, sa, sz, sg, ho, kf, kk, ra, ac, ea, eb, ch, th, mv, mm, ty, bi, mk, rc, mr, md, mt, gp, yb, le, qc, qe, qq, tq, lc, gt) (nI 2) v2 v3 v4 := by
            intro w
            unfold wpY_set
            refine sy_in1 2 h (sd_w1 (sy_in1 3 a (sd_w1 (br_f (by decide) (br_f (by decide) (br_t rfl (sy_in1 2 b (sd_w1 (sy_in32 (fun _ => sd_w0 ⟨rfl, J⟩) (fun j j1 j2 e => ?_))))))))))
            exfalso
            subst e
            rcases w with w | w
            · have w' : nI j < nI 1 := w
              rw [nI_ltI (by omega) (by omega)] at w'
              omega
            · exact w (nI_le (b := 32) j2 (by decide))
          refine br_c (fun z => ⟨sd_n0, no (Or.inl z)⟩) (fun z => br_c (fun y => ?_) (fun y => ⟨sd_n0, no (Or.inr y)⟩))
          obtain ⟨p, hp, rfl⟩ := id a
          obtain ⟨q, hq, rfl⟩ := id b
          refine sd_st (3 * p + q) ((sd_ma p 3 q).trans (by rw [Nat.mul_comm])) (by omega) (by decide) ⟨sd_n1, sy_in1 2 h (sd_w1 (sy_in1 3 a (sd_w1 (br_f (by decide) (br_f (by decide) (br_t rfl (sy_in1 2 b (sd_w1 (sy_in32 (fun w => ?_) (fun j j1 j2 e => sd_w1 ?_))))))))))⟩
          · rcases w with w | w
            · exact absurd w z
            · exact absurd y w
          · subst e
            refine br_f (by decide) (br_f (by decide) (br_t rfl (sd_st (3 * p + q) (sd_am p 3 q) (by omega) (by decide) ⟨rfl, sd_mk hF hS hO hE hP hH hT hU hG hW ⟨hQ.1, fun x hx => ?_, hQ.2.2⟩⟩)))
            by_cases e : x = 3 * p + q
            · subst e; rw [pk_us]; exact ⟨j, j1, j2, rfl⟩
            · rw [pk_un e]; exact hQ.2.1 x hx
def sd_tk (n : Int32) (mr md : Nat → Int32) : Nat → (Nat → Int32) → (Nat → Int32)
  | 0, a => a
  | i + 1, a => upd (sd_tk n mr md i a) i (if sd_tk n mr md i a i + n * mr i ≤ md i then sd_tk n mr md i a i + n * mr i else md i)
theorem sx_tick {post : Int32 → SX → Prop} {x1 : Int32} (h : post (tk + x1) (sc, oc, bt, bb, da, ag, lo, tp, sb, sd, (tk + x1), fw, fv, hv, sts, ops, opn, rg, kf, kk, th, ens, mv, mm, sps, ho, pb, pz, rc, mr, md, (sd_tk x1 mr md 4 mt), gp, qc, qq, qe, lc, tq)) : ∃ n, wX_tick_15 post x1 sc oc bt bb da ag lo tp sb sd tk n 0 fw fv hv sts ops opn rg kf kk th ens mv mm sps ho pb pz rc mr md mt gp qc qq qe lc tq :=
  sd_lp (fun n i s => wX_tick_15 post x1 sc oc bt bb da ag lo tp sb sd tk n (nI i) fw fv hv sts ops opn rg kf kk th ens mv mm sps ho pb pz rc mr md s gp qc qq qe lc tq) (fun i => sd_tk x1 mr md i mt) 4 0 (by omega) (fun n => br_t (nI_le (a := 4) (b := 4) (Nat.le_refl _) (by decide)) (nm_e h))
    (fun n i _ hi ih => br_f (nI_ge (b := 4) hi (by decide)) ⟨vp_in_nI hi (by decide), vp_in_nI hi (by decide), nm_e ⟨vp_in_nI hi (by decide), by
      rw [nI_clamp (by omega)]
      refine br_c (fun z => ⟨vp_in_nI hi (by decide), nm_r (e' := sd_tk x1 mr md (i + 1) mt) ?_ (nm_r (nI_1 i) ih)⟩) (fun z => ⟨vp_in_nI hi (by decide), vp_in_nI hi (by decide), nm_r (e' := sd_tk x1 mr md (i + 1) mt) ?_ (nm_r (nI_1 i) ih)⟩)
      · show _ = upd _ _ (if _ then _ else _)
        rw [if_pos z]
      · show _ = upd _ _ (if _ then _ else _)
        rw [if_neg z]⟩⟩)
theorem sy_tick {post : Int32 → SY → Prop} {x1 : Int32} (h : post (tk + x1) (sc, oc, tl, tt, bt, ma, ol, tp, sb, sd, (tk + x1), dr, ay, gl, fw, fv, hv, ta, lk, go, ca, cv, cm, cg, opn, ow, oq, ox, rg, sw, sa, sz, sg, ho, kf, kk, ra, ac, ea, eb, ch, th, mv, mm, ty, bi, mk, rc, mr, md, (sd_tk x1 mr md 4 mt), gp, yb, le, qc, qe, qq, tq, lc, gt)) : ∃ n, wY_tick_15 post x1 sc oc tl tt bt ma ol tp sb sd tk dr ay gl n 0 fw fv hv ta lk go ca cv cm cg opn ow oq ox rg sw sa sz sg ho kf kk ra ac ea eb ch th mv mm ty bi mk rc mr md mt gp yb le qc qe qq tq lc gt :=
  sd_lp (fun n i s => wY_tick_15 post x1 sc oc tl tt bt ma ol tp sb sd tk dr ay gl n (nI i) fw fv hv ta lk go ca cv cm cg opn ow oq ox rg sw sa sz sg ho kf kk ra ac ea eb ch th mv mm ty bi mk rc mr md s gp yb le qc qe qq tq lc gt) (fun i => sd_tk x1 mr md i mt) 4 0 (by omega) (fun n => br_t (nI_le (a := 4) (b := 4) (Nat.le_refl _) (by decide)) (nm_e h))
    (fun n i _ hi ih => br_f (nI_ge (b := 4) hi (by decide)) ⟨vp_in_nI hi (by decide), vp_in_nI hi (by decide), vp_in_nI hi (by decide), nm_e ⟨vp_in_nI hi (by decide), vp_in_nI hi (by decide), by
      rw [nI_clamp (by omega), pk_us]
      refine br_c (fun z => nm_r (nI_1 i) ?_) (fun z => ⟨vp_in_nI hi (by decide), vp_in_nI hi (by decide), nm_r (e' := sd_tk x1 mr md (i + 1) mt) ?_ (nm_r (nI_1 i) ih)⟩)
      · have e : upd (sd_tk x1 mr md i mt) i (sd_tk x1 mr md i mt i + x1 * mr i) = sd_tk x1 mr md (i + 1) mt := by
          show _ = upd _ _ (if _ then _ else _)
          rw [if_pos z]
        rw [e]
        exact ih
      · show _ = upd _ _ (if _ then _ else _)
        rw [if_neg z, sd_uu]⟩⟩)
theorem i_vc_tick {k : Nat} {u : SX} {v : SY} (I : i_Rel k u v) (hk : k + 7 ≤ 3584) (v1 : Int32) : wpX_tick (fun r u' => wpY_tick (fun r' v' => r' = r ∧ i_Rel (k + 7) u' v') v v1) u v1 := by
  refine sd_el (C := fun u v => wpX_tick (fun r u' => wpY_tick (fun r' v' => r' = r ∧ i_Rel (k + 7) u' v') v v1) u v1) I (fun sc oc bt bb da ag lo tp sb sd tk tl tt ma ol dr ay gl fw fv hv sts ops opn rg kf kk th ens mv mm sps ho pb pz rc mr md mt gp qc qq qe lc tq ta lk go ca cv cm cg ow oq ox sw sa sz sg ra ac ea eb ch ty bi mk yb le gt hF hS hO hE hP hH hT hU hG hW hQ => ?_)
  have J : i_Rel (k + 7) (sc, oc, bt, bb, da, ag, lo, tp, sb, sd, tk, fw, fv, hv, sts, ops, opn, rg, kf, kk, th, ens, mv, mm, sps, ho, pb, pz, rc, mr, md, mt, gp, qc, qq, qe, lc, tq) (sc, oc, tl, tt, bt, ma, ol, tp, sb, sd, tk, dr, ay, gl, fw, fv, hv, ta, lk, go, ca, cv, cm, cg, opn, ow, oq, ox, rg, sw, sa, sz, sg, ho, kf, kk, ra, ac, ea, eb, ch, th, mv, mm, ty, bi, mk, rc, mr, md, mt, gp, yb, le, qc, qe, qq, tq, lc, gt) := sd_mk hF hS hO hE hP hH hT hU hG hW hQ
  unfold wpX_tick wpY_tick
  rcases sd_cl 1001 v1 with h | h
  · exact sx_CR 1000 h (sy_in0 1000 h (sd_w0 ⟨rfl, J⟩))
  · exact sx_CT 1000 h (sx_tick (sy_in1 1000 h (sd_w1 (sy_tick ⟨rfl, sd_mk hF hS hO hE hP hH hT hU hG hW hQ⟩))))
end
end
section
section
variable {sc oc bt bb da ag lo tp sb sd tk : Int32} {fw fv hv sts ops opn rg kf kk th ens mv mm sps ho pb pz rc mr md mt gp qc qq qe lc tq : Nat → Int32} {tl tt ma ol dr ay gl : Int32} {ta lk go ca cv cm cg ow oq ox sw sa sz sg ra ac ea eb ch ty bi mk yb le gt : Nat → Int32}
theorem sd_nj {n : Nat} {p : Int32} (hn : n < 2 ^ 31) (h : sd_rj n p) (g : sd_rg n p) : False := by
  obtain ⟨j, hj, rfl⟩ := g
  exact sd_no hj hn h
def sd_oc (n : Nat) (f x : Int32) : Prop := ((n < 6 ∨ 9 < n) → sd_rg 28 f) ∧ ((n = 6 ∨ n = 7) → sd_rg 6 f) ∧ (n = 0 → sd_rg 65536 x) ∧ (n = 1 → sd_rg 2 x) ∧ ((2 ≤ n ∧ n ≤ 5) → sd_rg 28 x) ∧ (n = 10 → sd_rg 6 x) ∧ ((11 ≤ n ∧ n ≤ 13) → sd_rg 8 x) ∧ (n = 14 → sd_rg 4 x)
theorem sd_2no {p : Int32} (h : sd_rj 2 p) : ¬ p = 0 ∧ ¬ p = 1 := by
  refine ⟨?_, ?_⟩
  · rintro rfl
    exact sd_nj (by decide) h ⟨0, by omega, rfl⟩
  · rintro rfl
    exact sd_nj (by decide) h ⟨1, by omega, rfl⟩
theorem sx_of0 {post : Int32 → Prop} {p1 p2 : Int32} (h0 : ¬ sd_oc 0 p1 p2 → post 0) (h1 : sd_oc 0 p1 p2 → post 1) : wpX_operationFits post (nI 0) p1 p2 := by
  refine sx_BT 14 ⟨0, by omega, rfl⟩ ?_
  refine br_t rfl ?_
  rcases sd_cl 28 p1 with a | a
  · exact sx_field0 a (sd_w0 (h0 (fun z => sd_nj (by omega) a (z.1 (by omega)))))
  · refine sx_field1 a (sd_w1 ?_)
    rcases sd_cl 65536 p2 with b | b
    · exact sx_word0 b (sd_w0 (h0 (fun z => sd_nj (by omega) b (z.2.2.1 (by omega)))))
    · exact sx_word1 b (sd_w1 (h1 ⟨fun _ => a, fun z => absurd z (by omega), fun _ => b, fun z => absurd z (by omega), fun z => absurd z (by omega), fun z => absurd z (by omega), fun z => absurd z (by omega), fun z => absurd z (by omega)⟩))
theorem sx_of1 {post : Int32 → Prop} {p1 p2 : Int32} (h0 : ¬ sd_oc 1 p1 p2 → post 0) (h1 : sd_oc 1 p1 p2 → post 1) : wpX_operationFits post (nI 1) p1 p2 := by
  refine sx_BT 14 ⟨1, by omega, rfl⟩ ?_
  refine br_f (by decide) (br_t rfl ?_)
  rcases sd_cl 28 p1 with a | a
  · exact sx_field0 a (sd_w0 (h0 (fun z => sd_nj (by omega) a (z.1 (by omega)))))
  · refine sx_field1 a (sd_w1 ?_)
    rcases sd_cl 2 p2 with b | b
    · exact br_f (sd_2no b).1 (br_f (sd_2no b).2 (h0 (fun z => sd_nj (by omega) b (z.2.2.2.1 (by omega)))))
    · have c := h1 ⟨fun _ => a, fun z => absurd z (by omega), fun z => absurd z (by omega), fun _ => b, fun z => absurd z (by omega), fun z => absurd z (by omega), fun z => absurd z (by omega), fun z => absurd z (by omega)⟩
      exact br_c (fun _ => c) (fun z0 => br_c (fun _ => c) (fun z1 => absurd b (fun b => by
        obtain ⟨j, hj, rfl⟩ := b
        have : j = 0 ∨ j = 1 := by omega
        rcases this with rfl | rfl
        · exact z0 rfl
        · exact z1 rfl)))
theorem sx_of2 {post : Int32 → Prop} {p1 p2 : Int32} (h0 : ¬ sd_oc 2 p1 p2 → post 0) (h1 : sd_oc 2 p1 p2 → post 1) : wpX_operationFits post (nI 2) p1 p2 := by
  refine sx_BT 14 ⟨2, by omega, rfl⟩ ?_
  refine br_f (by decide) (br_f (by decide) (br_t rfl ?_))
  rcases sd_cl 28 p1 with a | a
  · exact sx_field0 a (sd_w0 (h0 (fun z => sd_nj (by omega) a (z.1 (by omega)))))
  · refine sx_field1 a (sd_w1 ?_)
    rcases sd_cl 28 p2 with b | b
    · exact sx_field0 b (sd_w0 (h0 (fun z => sd_nj (by omega) b (z.2.2.2.2.1 (by omega)))))
    · exact sx_field1 b (sd_w1 (h1 ⟨fun _ => a, fun z => absurd z (by omega), fun z => absurd z (by omega), fun z => absurd z (by omega), fun _ => b, fun z => absurd z (by omega), fun z => absurd z (by omega), fun z => absurd z (by omega)⟩))
theorem sx_of3 {post : Int32 → Prop} {p1 p2 : Int32} (h0 : ¬ sd_oc 3 p1 p2 → post 0) (h1 : sd_oc 3 p1 p2 → post 1) : wpX_operationFits post (nI 3) p1 p2 := by
  refine sx_BT 14 ⟨3, by omega, rfl⟩ ?_
  refine br_f (by decide) (br_f (by decide) (br_f (by decide) (br_t rfl ?_)))
  rcases sd_cl 28 p1 with a | a
  · exact sx_field0 a (sd_w0 (h0 (fun z => sd_nj (by omega) a (z.1 (by omega)))))
  · refine sx_field1 a (sd_w1 ?_)
    rcases sd_cl 28 p2 with b | b
    · exact sx_field0 b (sd_w0 (h0 (fun z => sd_nj (by omega) b (z.2.2.2.2.1 (by omega)))))
    · exact sx_field1 b (sd_w1 (h1 ⟨fun _ => a, fun z => absurd z (by omega), fun z => absurd z (by omega), fun z => absurd z (by omega), fun _ => b, fun z => absurd z (by omega), fun z => absurd z (by omega), fun z => absurd z (by omega)⟩))
theorem sx_of4 {post : Int32 → Prop} {p1 p2 : Int32} (h0 : ¬ sd_oc 4 p1 p2 → post 0) (h1 : sd_oc 4 p1 p2 → post 1) : wpX_operationFits post (nI 4) p1 p2 := by
  refine sx_BT 14 ⟨4, by omega, rfl⟩ ?_
  refine br_f (by decide) (br_f (by decide) (br_f (by decide) (br_f (by decide) (br_t rfl ?_))))
  rcases sd_cl 28 p1 with a | a
  · exact sx_field0 a (sd_w0 (h0 (fun z => sd_nj (by omega) a (z.1 (by omega)))))
  · refine sx_field1 a (sd_w1 ?_)
    rcases sd_cl 28 p2 with b | b
    · exact sx_field0 b (sd_w0 (h0 (fun z => sd_nj (by omega) b (z.2.2.2.2.1 (by omega)))))
    · exact sx_field1 b (sd_w1 (h1 ⟨fun _ => a, fun z => absurd z (by omega), fun z => absurd z (by omega), fun z => absurd z (by omega), fun _ => b, fun z => absurd z (by omega), fun z => absurd z (by omega), fun z => absurd z (by omega)⟩))
theorem sx_of5 {post : Int32 → Prop} {p1 p2 : Int32} (h0 : ¬ sd_oc 5 p1 p2 → post 0) (h1 : sd_oc 5 p1 p2 → post 1) : wpX_operationFits post (nI 5) p1 p2 := by
  refine sx_BT 14 ⟨5, by omega, rfl⟩ ?_
  refine br_f (by decide) (br_f (by decide) (br_f (by decide) (br_f (by decide) (br_f (by decide) (br_t rfl ?_)))))
  rcases sd_cl 28 p1 with a | a
  · exact sx_field0 a (sd_w0 (h0 (fun z => sd_nj (by omega) a (z.1 (by omega)))))
  · refine sx_field1 a (sd_w1 ?_)
    rcases sd_cl 28 p2 with b | b
    · exact sx_field0 b (sd_w0 (h0 (fun z => sd_nj (by omega) b (z.2.2.2.2.1 (by omega)))))
    · exact sx_field1 b (sd_w1 (h1 ⟨fun _ => a, fun z => absurd z (by omega), fun z => absurd z (by omega), fun z => absurd z (by omega), fun _ => b, fun z => absurd z (by omega), fun z => absurd z (by omega), fun z => absurd z (by omega)⟩))
theorem sx_of6 {post : Int32 → Prop} {p1 p2 : Int32} (h0 : ¬ sd_oc 6 p1 p2 → post 0) (h1 : sd_oc 6 p1 p2 → post 1) : wpX_operationFits post (nI 6) p1 p2 := by
  refine sx_BT 14 ⟨6, by omega, rfl⟩ ?_
  refine br_f (by decide) (br_f (by decide) (br_f (by decide) (br_f (by decide) (br_f (by decide) (br_f (by decide) (br_t rfl ?_))))))
  rcases sd_cl 6 p1 with a | a
  · exact sx_header0 a ⟨sd_n0, h0 (fun z => sd_nj (by omega) a (z.2.1 (by omega)))⟩
  · exact sx_header1 a ⟨sd_n1, h1 ⟨fun z => absurd z (by omega), fun _ => a, fun z => absurd z (by omega), fun z => absurd z (by omega), fun z => absurd z (by omega), fun z => absurd z (by omega), fun z => absurd z (by omega), fun z => absurd z (by omega)⟩⟩
theorem sx_of7 {post : Int32 → Prop} {p1 p2 : Int32} (h0 : ¬ sd_oc 7 p1 p2 → post 0) (h1 : sd_oc 7 p1 p2 → post 1) : wpX_operationFits post (nI 7) p1 p2 := by
  refine sx_BT 14 ⟨7, by omega, rfl⟩ ?_
  refine br_f (by decide) (br_f (by decide) (br_f (by decide) (br_f (by decide) (br_f (by decide) (br_f (by decide) (br_f (by decide) (br_t rfl ?_)))))))
  rcases sd_cl 6 p1 with a | a
  · exact sx_header0 a ⟨sd_n0, h0 (fun z => sd_nj (by omega) a (z.2.1 (by omega)))⟩
  · exact sx_header1 a ⟨sd_n1, h1 ⟨fun z => absurd z (by omega), fun _ => a, fun z => absurd z (by omega), fun z => absurd z (by omega), fun z => absurd z (by omega), fun z => absurd z (by omega), fun z => absurd z (by omega), fun z => absurd z (by omega)⟩⟩
theorem sx_of8 {post : Int32 → Prop} {p1 p2 : Int32} (h0 : ¬ sd_oc 8 p1 p2 → post 0) (h1 : sd_oc 8 p1 p2 → post 1) : wpX_operationFits post (nI 8) p1 p2 := by
  refine sx_BT 14 ⟨8, by omega, rfl⟩ ?_
  refine br_f (by decide) (br_f (by decide) (br_f (by decide) (br_f (by decide) (br_f (by decide) (br_f (by decide) (br_f (by decide) (br_f (by decide) (br_t rfl ?_))))))))
  exact h1 ⟨fun z => absurd z (by omega), fun z => absurd z (by omega), fun z => absurd z (by omega), fun z => absurd z (by omega), fun z => absurd z (by omega), fun z => absurd z (by omega), fun z => absurd z (by omega), fun z => absurd z (by omega)⟩
theorem sx_of9 {post : Int32 → Prop} {p1 p2 : Int32} (h0 : ¬ sd_oc 9 p1 p2 → post 0) (h1 : sd_oc 9 p1 p2 → post 1) : wpX_operationFits post (nI 9) p1 p2 := by
  refine sx_BT 14 ⟨9, by omega, rfl⟩ ?_
  refine br_f (by decide) (br_f (by decide) (br_f (by decide) (br_f (by decide) (br_f (by decide) (br_f (by decide) (br_f (by decide) (br_f (by decide) (br_f (by decide) (br_t rfl ?_)))))))))
  exact h1 ⟨fun z => absurd z (by omega), fun z => absurd z (by omega), fun z => absurd z (by omega), fun z => absurd z (by omega), fun z => absurd z (by omega), fun z => absurd z (by omega), fun z => absurd z (by omega), fun z => absurd z (by omega)⟩
theorem sx_of10 {post : Int32 → Prop} {p1 p2 : Int32} (h0 : ¬ sd_oc 10 p1 p2 → post 0) (h1 : sd_oc 10 p1 p2 → post 1) : wpX_operationFits post (nI 10) p1 p2 := by
  refine sx_BT 14 ⟨10, by omega, rfl⟩ ?_
  refine br_f (by decide) (br_f (by decide) (br_f (by decide) (br_f (by decide) (br_f (by decide) (br_f (by decide) (br_f (by decide) (br_f (by decide) (br_f (by decide) (br_f (by decide) (br_t rfl ?_))))))))))
  rcases sd_cl 28 p1 with a | a
  · exact sx_field0 a (sd_w0 (h0 (fun z => sd_nj (by omega) a (z.1 (by omega)))))
  · refine sx_field1 a (sd_w1 ?_)
    rcases sd_cl 6 p2 with b | b
    · exact sx_header0 b (sd_w0 (h0 (fun z => sd_nj (by omega) b (z.2.2.2.2.2.1 (by omega)))))
    · exact sx_header1 b (sd_w1 (h1 ⟨fun _ => a, fun z => absurd z (by omega), fun z => absurd z (by omega), fun z => absurd z (by omega), fun z => absurd z (by omega), fun _ => b, fun z => absurd z (by omega), fun z => absurd z (by omega)⟩))
theorem sx_of11 {post : Int32 → Prop} {p1 p2 : Int32} (h0 : ¬ sd_oc 11 p1 p2 → post 0) (h1 : sd_oc 11 p1 p2 → post 1) : wpX_operationFits post (nI 11) p1 p2 := by
  refine sx_BT 14 ⟨11, by omega, rfl⟩ ?_
  refine br_f (by decide) (br_f (by decide) (br_f (by decide) (br_f (by decide) (br_f (by decide) (br_f (by decide) (br_f (by decide) (br_f (by decide) (br_f (by decide) (br_f (by decide) (br_f (by decide) (br_t rfl ?_)))))))))))
  rcases sd_cl 28 p1 with a | a
  · exact sx_field0 a (sd_w0 (h0 (fun z => sd_nj (by omega) a (z.1 (by omega)))))
  · refine sx_field1 a (sd_w1 ?_)
    rcases sd_cl 8 p2 with b | b
    · exact sx_AR 8 b (h0 (fun z => sd_nj (by omega) b (z.2.2.2.2.2.2.1 (by omega))))
    · exact sx_AT 8 b (h1 ⟨fun _ => a, fun z => absurd z (by omega), fun z => absurd z (by omega), fun z => absurd z (by omega), fun z => absurd z (by omega), fun z => absurd z (by omega), fun _ => b, fun z => absurd z (by omega)⟩)
theorem sx_of12 {post : Int32 → Prop} {p1 p2 : Int32} (h0 : ¬ sd_oc 12 p1 p2 → post 0) (h1 : sd_oc 12 p1 p2 → post 1) : wpX_operationFits post (nI 12) p1 p2 := by
  refine sx_BT 14 ⟨12, by omega, rfl⟩ ?_
  refine br_f (by decide) (br_f (by decide) (br_f (by decide) (br_f (by decide) (br_f (by decide) (br_f (by decide) (br_f (by decide) (br_f (by decide) (br_f (by decide) (br_f (by decide) (br_f (by decide) (br_f (by decide) (br_t rfl ?_))))))))))))
  rcases sd_cl 28 p1 with a | a
  · exact sx_field0 a (sd_w0 (h0 (fun z => sd_nj (by omega) a (z.1 (by omega)))))
  · refine sx_field1 a (sd_w1 ?_)
    rcases sd_cl 8 p2 with b | b
    · exact sx_AR 8 b (h0 (fun z => sd_nj (by omega) b (z.2.2.2.2.2.2.1 (by omega))))
    · exact sx_AT 8 b (h1 ⟨fun _ => a, fun z => absurd z (by omega), fun z => absurd z (by omega), fun z => absurd z (by omega), fun z => absurd z (by omega), fun z => absurd z (by omega), fun _ => b, fun z => absurd z (by omega)⟩)
theorem sx_of13 {post : Int32 → Prop} {p1 p2 : Int32} (h0 : ¬ sd_oc 13 p1 p2 → post 0) (h1 : sd_oc 13 p1 p2 → post 1) : wpX_operationFits post (nI 13) p1 p2 := by
  refine sx_BT 14 ⟨13, by omega, rfl⟩ ?_
  refine br_f (by decide) (br_f (by decide) (br_f (by decide) (br_f (by decide) (br_f (by decide) (br_f (by decide) (br_f (by decide) (br_f (by decide) (br_f (by decide) (br_f (by decide) (br_f (by decide) (br_f (by decide) (br_f (by decide) (br_t rfl ?_)))))))))))))
  rcases sd_cl 28 p1 with a | a
  · exact sx_field0 a (sd_w0 (h0 (fun z => sd_nj (by omega) a (z.1 (by omega)))))
  · refine sx_field1 a (sd_w1 ?_)
    rcases sd_cl 8 p2 with b | b
    · exact sx_AR 8 b (h0 (fun z => sd_nj (by omega) b (z.2.2.2.2.2.2.1 (by omega))))
    · exact sx_AT 8 b (h1 ⟨fun _ => a, fun z => absurd z (by omega), fun z => absurd z (by omega), fun z => absurd z (by omega), fun z => absurd z (by omega), fun z => absurd z (by omega), fun _ => b, fun z => absurd z (by omega)⟩)
theorem sx_of14 {post : Int32 → Prop} {p1 p2 : Int32} (h0 : ¬ sd_oc 14 p1 p2 → post 0) (h1 : sd_oc 14 p1 p2 → post 1) : wpX_operationFits post (nI 14) p1 p2 := by
  refine sx_BT 14 ⟨14, by omega, rfl⟩ ?_
  refine br_f (by decide) (br_f (by decide) (br_f (by decide) (br_f (by decide) (br_f (by decide) (br_f (by decide) (br_f (by decide) (br_f (by decide) (br_f (by decide) (br_f (by decide) (br_f (by decide) (br_f (by decide) (br_f (by decide) (br_f (by decide) (br_t rfl ?_))))))))))))))
  rcases sd_cl 28 p1 with a | a
  · exact sx_field0 a (sd_w0 (h0 (fun z => sd_nj (by omega) a (z.1 (by omega)))))
  · refine sx_field1 a (sd_w1 ?_)
    rcases sd_cl 4 p2 with b | b
    · exact sx_meter0 b (sd_w0 (h0 (fun z => sd_nj (by omega) b (z.2.2.2.2.2.2.2 (by omega)))))
    · exact sx_meter1 b (sd_w1 (h1 ⟨fun _ => a, fun z => absurd z (by omega), fun z => absurd z (by omega), fun z => absurd z (by omega), fun z => absurd z (by omega), fun z => absurd z (by omega), fun z => absurd z (by omega), fun _ => b⟩))
theorem sy_of0 {post : Int32 → Prop} {p1 p2 : Int32} (h0 : ¬ sd_oc 0 p1 p2 → post 0) (h1 : sd_oc 0 p1 p2 → post 1) : wpY_isOperation post (nI 0) p1 p2 := by
  refine br_f (by decide) (br_f (by decide) (br_f (by decide) (br_f (by decide) ?_)))
  rcases sd_cl 28 p1 with a | a
  · exact sy_field0 a (sd_w0 (h0 (fun z => sd_nj (by omega) a (z.1 (by omega)))))
  · refine sy_field1 a (sd_w1 ?_)
    rcases sd_cl 65536 p2 with b | b
    · exact br_t rfl (sy_word0 b ⟨sd_n0, h0 (fun z => sd_nj (by omega) b (z.2.2.1 (by omega)))⟩)
    · exact br_t rfl (sy_word1 b ⟨sd_n1, h1 ⟨fun _ => a, fun z => absurd z (by omega), fun _ => b, fun z => absurd z (by omega), fun z => absurd z (by omega), fun z => absurd z (by omega), fun z => absurd z (by omega), fun z => absurd z (by omega)⟩⟩)
theorem sy_of1 {post : Int32 → Prop} {p1 p2 : Int32} (h0 : ¬ sd_oc 1 p1 p2 → post 0) (h1 : sd_oc 1 p1 p2 → post 1) : wpY_isOperation post (nI 1) p1 p2 := by
  refine br_f (by decide) (br_f (by decide) (br_f (by decide) (br_f (by decide) ?_)))
  rcases sd_cl 28 p1 with a | a
  · exact sy_field0 a (sd_w0 (h0 (fun z => sd_nj (by omega) a (z.1 (by omega)))))
  · refine sy_field1 a (sd_w1 ?_)
    rcases sd_cl 2 p2 with b | b
    · exact br_f (by decide) (br_t rfl (sy_in0 1 b ⟨sd_n0, h0 (fun z => sd_nj (by omega) b (z.2.2.2.1 (by omega)))⟩))
    · exact br_f (by decide) (br_t rfl (sy_in1 1 b ⟨sd_n1, h1 ⟨fun _ => a, fun z => absurd z (by omega), fun z => absurd z (by omega), fun _ => b, fun z => absurd z (by omega), fun z => absurd z (by omega), fun z => absurd z (by omega), fun z => absurd z (by omega)⟩⟩))
theorem sy_of2 {post : Int32 → Prop} {p1 p2 : Int32} (h0 : ¬ sd_oc 2 p1 p2 → post 0) (h1 : sd_oc 2 p1 p2 → post 1) : wpY_isOperation post (nI 2) p1 p2 := by
  refine br_f (by decide) (br_f (by decide) (br_f (by decide) (br_f (by decide) ?_)))
  rcases sd_cl 28 p1 with a | a
  · exact sy_field0 a (sd_w0 (h0 (fun z => sd_nj (by omega) a (z.1 (by omega)))))
  · refine sy_field1 a (sd_w1 ?_)
    rcases sd_cl 28 p2 with b | b
    · exact br_f (by decide) (br_f (by decide) (br_f (by decide) (sy_field0 b ⟨sd_n0, h0 (fun z => sd_nj (by omega) b (z.2.2.2.2.1 (by omega)))⟩)))
    · exact br_f (by decide) (br_f (by decide) (br_f (by decide) (sy_field1 b ⟨sd_n1, h1 ⟨fun _ => a, fun z => absurd z (by omega), fun z => absurd z (by omega), fun z => absurd z (by omega), fun _ => b, fun z => absurd z (by omega), fun z => absurd z (by omega), fun z => absurd z (by omega)⟩⟩)))
theorem sy_of3 {post : Int32 → Prop} {p1 p2 : Int32} (h0 : ¬ sd_oc 3 p1 p2 → post 0) (h1 : sd_oc 3 p1 p2 → post 1) : wpY_isOperation post (nI 3) p1 p2 := by
  refine br_f (by decide) (br_f (by decide) (br_f (by decide) (br_f (by decide) ?_)))
  rcases sd_cl 28 p1 with a | a
  · exact sy_field0 a (sd_w0 (h0 (fun z => sd_nj (by omega) a (z.1 (by omega)))))
  · refine sy_field1 a (sd_w1 ?_)
    rcases sd_cl 28 p2 with b | b
    · exact br_f (by decide) (br_f (by decide) (br_f (by decide) (sy_field0 b ⟨sd_n0, h0 (fun z => sd_nj (by omega) b (z.2.2.2.2.1 (by omega)))⟩)))
    · exact br_f (by decide) (br_f (by decide) (br_f (by decide) (sy_field1 b ⟨sd_n1, h1 ⟨fun _ => a, fun z => absurd z (by omega), fun z => absurd z (by omega), fun z => absurd z (by omega), fun _ => b, fun z => absurd z (by omega), fun z => absurd z (by omega), fun z => absurd z (by omega)⟩⟩)))
theorem sy_of4 {post : Int32 → Prop} {p1 p2 : Int32} (h0 : ¬ sd_oc 4 p1 p2 → post 0) (h1 : sd_oc 4 p1 p2 → post 1) : wpY_isOperation post (nI 4) p1 p2 := by
  refine br_f (by decide) (br_f (by decide) (br_f (by decide) (br_f (by decide) ?_)))
  rcases sd_cl 28 p1 with a | a
  · exact sy_field0 a (sd_w0 (h0 (fun z => sd_nj (by omega) a (z.1 (by omega)))))
  · refine sy_field1 a (sd_w1 ?_)
    rcases sd_cl 28 p2 with b | b
    · exact br_f (by decide) (br_f (by decide) (br_f (by decide) (sy_field0 b ⟨sd_n0, h0 (fun z => sd_nj (by omega) b (z.2.2.2.2.1 (by omega)))⟩)))
    · exact br_f (by decide) (br_f (by decide) (br_f (by decide) (sy_field1 b ⟨sd_n1, h1 ⟨fun _ => a, fun z => absurd z (by omega), fun z => absurd z (by omega), fun z => absurd z (by omega), fun _ => b, fun z => absurd z (by omega), fun z => absurd z (by omega), fun z => absurd z (by omega)⟩⟩)))
theorem sy_of5 {post : Int32 → Prop} {p1 p2 : Int32} (h0 : ¬ sd_oc 5 p1 p2 → post 0) (h1 : sd_oc 5 p1 p2 → post 1) : wpY_isOperation post (nI 5) p1 p2 := by
  refine br_f (by decide) (br_f (by decide) (br_f (by decide) (br_f (by decide) ?_)))
  rcases sd_cl 28 p1 with a | a
  · exact sy_field0 a (sd_w0 (h0 (fun z => sd_nj (by omega) a (z.1 (by omega)))))
  · refine sy_field1 a (sd_w1 ?_)
    rcases sd_cl 28 p2 with b | b
    · exact br_f (by decide) (br_f (by decide) (br_f (by decide) (sy_field0 b ⟨sd_n0, h0 (fun z => sd_nj (by omega) b (z.2.2.2.2.1 (by omega)))⟩)))
    · exact br_f (by decide) (br_f (by decide) (br_f (by decide) (sy_field1 b ⟨sd_n1, h1 ⟨fun _ => a, fun z => absurd z (by omega), fun z => absurd z (by omega), fun z => absurd z (by omega), fun _ => b, fun z => absurd z (by omega), fun z => absurd z (by omega), fun z => absurd z (by omega)⟩⟩)))
theorem sy_of6 {post : Int32 → Prop} {p1 p2 : Int32} (h0 : ¬ sd_oc 6 p1 p2 → post 0) (h1 : sd_oc 6 p1 p2 → post 1) : wpY_isOperation post (nI 6) p1 p2 := by
  refine br_f (by decide) (br_f (by decide) (br_t rfl ?_))
  rcases sd_cl 6 p1 with a | a
  · exact sy_in0 5 a ⟨sd_n0, h0 (fun z => sd_nj (by omega) a (z.2.1 (by omega)))⟩
  · exact sy_in1 5 a ⟨sd_n1, h1 ⟨fun z => absurd z (by omega), fun _ => a, fun z => absurd z (by omega), fun z => absurd z (by omega), fun z => absurd z (by omega), fun z => absurd z (by omega), fun z => absurd z (by omega), fun z => absurd z (by omega)⟩⟩
theorem sy_of7 {post : Int32 → Prop} {p1 p2 : Int32} (h0 : ¬ sd_oc 7 p1 p2 → post 0) (h1 : sd_oc 7 p1 p2 → post 1) : wpY_isOperation post (nI 7) p1 p2 := by
  refine br_f (by decide) (br_f (by decide) (br_f (by decide) (br_t rfl ?_)))
  rcases sd_cl 6 p1 with a | a
  · exact sy_in0 5 a ⟨sd_n0, h0 (fun z => sd_nj (by omega) a (z.2.1 (by omega)))⟩
  · exact sy_in1 5 a ⟨sd_n1, h1 ⟨fun z => absurd z (by omega), fun _ => a, fun z => absurd z (by omega), fun z => absurd z (by omega), fun z => absurd z (by omega), fun z => absurd z (by omega), fun z => absurd z (by omega), fun z => absurd z (by omega)⟩⟩
theorem sy_of8 {post : Int32 → Prop} {p1 p2 : Int32} (h0 : ¬ sd_oc 8 p1 p2 → post 0) (h1 : sd_oc 8 p1 p2 → post 1) : wpY_isOperation post (nI 8) p1 p2 := by
  exact br_t rfl (h1 ⟨fun z => absurd z (by omega), fun z => absurd z (by omega), fun z => absurd z (by omega), fun z => absurd z (by omega), fun z => absurd z (by omega), fun z => absurd z (by omega), fun z => absurd z (by omega), fun z => absurd z (by omega)⟩)
theorem sy_of9 {post : Int32 → Prop} {p1 p2 : Int32} (h0 : ¬ sd_oc 9 p1 p2 → post 0) (h1 : sd_oc 9 p1 p2 → post 1) : wpY_isOperation post (nI 9) p1 p2 := by
  exact br_f (by decide) (br_t rfl (h1 ⟨fun z => absurd z (by omega), fun z => absurd z (by omega), fun z => absurd z (by omega), fun z => absurd z (by omega), fun z => absurd z (by omega), fun z => absurd z (by omega), fun z => absurd z (by omega), fun z => absurd z (by omega)⟩))
theorem sy_of10 {post : Int32 → Prop} {p1 p2 : Int32} (h0 : ¬ sd_oc 10 p1 p2 → post 0) (h1 : sd_oc 10 p1 p2 → post 1) : wpY_isOperation post (nI 10) p1 p2 := by
  refine br_f (by decide) (br_f (by decide) (br_f (by decide) (br_f (by decide) ?_)))
  rcases sd_cl 28 p1 with a | a
  · exact sy_field0 a (sd_w0 (h0 (fun z => sd_nj (by omega) a (z.1 (by omega)))))
  · refine sy_field1 a (sd_w1 ?_)
    rcases sd_cl 6 p2 with b | b
    · exact br_f (by decide) (br_f (by decide) (br_t (by decide) (br_t rfl (sy_in0 5 b ⟨sd_n0, h0 (fun z => sd_nj (by omega) b (z.2.2.2.2.2.1 (by omega)))⟩))))
    · exact br_f (by decide) (br_f (by decide) (br_t (by decide) (br_t rfl (sy_in1 5 b ⟨sd_n1, h1 ⟨fun _ => a, fun z => absurd z (by omega), fun z => absurd z (by omega), fun z => absurd z (by omega), fun z => absurd z (by omega), fun _ => b, fun z => absurd z (by omega), fun z => absurd z (by omega)⟩⟩))))
theorem sy_of11 {post : Int32 → Prop} {p1 p2 : Int32} (h0 : ¬ sd_oc 11 p1 p2 → post 0) (h1 : sd_oc 11 p1 p2 → post 1) : wpY_isOperation post (nI 11) p1 p2 := by
  refine br_f (by decide) (br_f (by decide) (br_f (by decide) (br_f (by decide) ?_)))
  rcases sd_cl 28 p1 with a | a
  · exact sy_field0 a (sd_w0 (h0 (fun z => sd_nj (by omega) a (z.1 (by omega)))))
  · refine sy_field1 a (sd_w1 ?_)
    rcases sd_cl 8 p2 with b | b
    · exact br_f (by decide) (br_f (by decide) (br_t (by decide) (br_f (by decide) (br_f (by decide) (sy_in0 7 b ⟨sd_n0, h0 (fun z => sd_nj (by omega) b (z.2.2.2.2.2.2.1 (by omega)))⟩)))))
    · exact br_f (by decide) (br_f (by decide) (br_t (by decide) (br_f (by decide) (br_f (by decide) (sy_in1 7 b ⟨sd_n1, h1 ⟨fun _ => a, fun z => absurd z (by omega), fun z => absurd z (by omega), fun z => absurd z (by omega), fun z => absurd z (by omega), fun z => absurd z (by omega), fun _ => b, fun z => absurd z (by omega)⟩⟩)))))
theorem sy_of12 {post : Int32 → Prop} {p1 p2 : Int32} (h0 : ¬ sd_oc 12 p1 p2 → post 0) (h1 : sd_oc 12 p1 p2 → post 1) : wpY_isOperation post (nI 12) p1 p2 := by
  refine br_f (by decide) (br_f (by decide) (br_f (by decide) (br_f (by decide) ?_)))
  rcases sd_cl 28 p1 with a | a
  · exact sy_field0 a (sd_w0 (h0 (fun z => sd_nj (by omega) a (z.1 (by omega)))))
  · refine sy_field1 a (sd_w1 ?_)
    rcases sd_cl 8 p2 with b | b
    · exact br_f (by decide) (br_f (by decide) (br_t (by decide) (br_f (by decide) (br_f (by decide) (sy_in0 7 b ⟨sd_n0, h0 (fun z => sd_nj (by omega) b (z.2.2.2.2.2.2.1 (by omega)))⟩)))))
    · exact br_f (by decide) (br_f (by decide) (br_t (by decide) (br_f (by decide) (br_f (by decide) (sy_in1 7 b ⟨sd_n1, h1 ⟨fun _ => a, fun z => absurd z (by omega), fun z => absurd z (by omega), fun z => absurd z (by omega), fun z => absurd z (by omega), fun z => absurd z (by omega), fun _ => b, fun z => absurd z (by omega)⟩⟩)))))
theorem sy_of13 {post : Int32 → Prop} {p1 p2 : Int32} (h0 : ¬ sd_oc 13 p1 p2 → post 0) (h1 : sd_oc 13 p1 p2 → post 1) : wpY_isOperation post (nI 13) p1 p2 := by
  refine br_f (by decide) (br_f (by decide) (br_f (by decide) (br_f (by decide) ?_)))
  rcases sd_cl 28 p1 with a | a
  · exact sy_field0 a (sd_w0 (h0 (fun z => sd_nj (by omega) a (z.1 (by omega)))))
  · refine sy_field1 a (sd_w1 ?_)
    rcases sd_cl 8 p2 with b | b
    · exact br_f (by decide) (br_f (by decide) (br_t (by decide) (br_f (by decide) (br_f (by decide) (sy_in0 7 b ⟨sd_n0, h0 (fun z => sd_nj (by omega) b (z.2.2.2.2.2.2.1 (by omega)))⟩)))))
    · exact br_f (by decide) (br_f (by decide) (br_t (by decide) (br_f (by decide) (br_f (by decide) (sy_in1 7 b ⟨sd_n1, h1 ⟨fun _ => a, fun z => absurd z (by omega), fun z => absurd z (by omega), fun z => absurd z (by omega), fun z => absurd z (by omega), fun z => absurd z (by omega), fun _ => b, fun z => absurd z (by omega)⟩⟩)))))
theorem sy_of14 {post : Int32 → Prop} {p1 p2 : Int32} (h0 : ¬ sd_oc 14 p1 p2 → post 0) (h1 : sd_oc 14 p1 p2 → post 1) : wpY_isOperation post (nI 14) p1 p2 := by
  refine br_f (by decide) (br_f (by decide) (br_f (by decide) (br_f (by decide) ?_)))
  rcases sd_cl 28 p1 with a | a
  · exact sy_field0 a (sd_w0 (h0 (fun z => sd_nj (by omega) a (z.1 (by omega)))))
  · refine sy_field1 a (sd_w1 ?_)
    rcases sd_cl 4 p2 with b | b
    · exact br_f (by decide) (br_f (by decide) (br_t (by decide) (br_f (by decide) (br_t rfl (sy_in0 3 b ⟨sd_n0, h0 (fun z => sd_nj (by omega) b (z.2.2.2.2.2.2.2 (by omega)))⟩)))))
    · exact br_f (by decide) (br_f (by decide) (br_t (by decide) (br_f (by decide) (br_t rfl (sy_in1 3 b ⟨sd_n1, h1 ⟨fun _ => a, fun z => absurd z (by omega), fun z => absurd z (by omega), fun z => absurd z (by omega), fun z => absurd z (by omega), fun z => absurd z (by omega), fun z => absurd z (by omega), fun _ => b⟩⟩)))))
theorem sx_of {post : Int32 → Prop} {n : Nat} {p1 p2 : Int32} (hn : n < 15) (h0 : ¬ sd_oc n p1 p2 → post 0) (h1 : sd_oc n p1 p2 → post 1) : wpX_operationFits post (nI n) p1 p2 := by
  have : n = 0 ∨ n = 1 ∨ n = 2 ∨ n = 3 ∨ n = 4 ∨ n = 5 ∨ n = 6 ∨ n = 7 ∨ n = 8 ∨ n = 9 ∨ n = 10 ∨ n = 11 ∨ n = 12 ∨ n = 13 ∨ n = 14 := by omega
  rcases this with rfl | rfl | rfl | rfl | rfl | rfl | rfl | rfl | rfl | rfl | rfl | rfl | rfl | rfl | rfl
  · exact sx_of0 h0 h1
  · exact sx_of1 h0 h1
  · exact sx_of2 h0 h1
  · exact sx_of3 h0 h1
  · exact sx_of4 h0 h1
  · exact sx_of5 h0 h1
  · exact sx_of6 h0 h1
  · exact sx_of7 h0 h1
  · exact sx_of8 h0 h1
  · exact sx_of9 h0 h1
  · exact sx_of10 h0 h1
  · exact sx_of11 h0 h1
  · exact sx_of12 h0 h1
  · exact sx_of13 h0 h1
  · exact sx_of14 h0 h1
theorem sy_of {post : Int32 → Prop} {n : Nat} {p1 p2 : Int32} (hn : n < 15) (h0 : ¬ sd_oc n p1 p2 → post 0) (h1 : sd_oc n p1 p2 → post 1) : wpY_isOperation post (nI n) p1 p2 := by
  have : n = 0 ∨ n = 1 ∨ n = 2 ∨ n = 3 ∨ n = 4 ∨ n = 5 ∨ n = 6 ∨ n = 7 ∨ n = 8 ∨ n = 9 ∨ n = 10 ∨ n = 11 ∨ n = 12 ∨ n = 13 ∨ n = 14 := by omega
  rcases this with rfl | rfl | rfl | rfl | rfl | rfl | rfl | rfl | rfl | rfl | rfl | rfl | rfl | rfl | rfl
  · exact sy_of0 h0 h1
  · exact sy_of1 h0 h1
  · exact sy_of2 h0 h1
  · exact sy_of3 h0 h1
  · exact sy_of4 h0 h1
  · exact sy_of5 h0 h1
  · exact sy_of6 h0 h1
  · exact sy_of7 h0 h1
  · exact sy_of8 h0 h1
  · exact sy_of9 h0 h1
  · exact sy_of10 h0 h1
  · exact sy_of11 h0 h1
  · exact sy_of12 h0 h1
  · exact sy_of13 h0 h1
  · exact sy_of14 h0 h1
theorem sd_oo {n : Nat} {f x : Int32} (hn : n < 15) (h : sd_oc n f x) : sd_op (nI n) f x :=
  ⟨n, by omega, rfl, h.1, h.2.1, h.2.2.2.2.1, h.2.2.2.2.2.1, h.2.2.2.2.2.2.1, h.2.2.2.2.2.2.2⟩
theorem sd_Oo (hO : sd_O ops opn ow oq ox) {a n : Nat} (ha : a < 8) (hn : n < 5) {w f x : Int32} (h : sd_op w f x) :
    sd_O (upd (upd (upd ops ((5 * a + n) * 3) w) ((5 * a + n) * 3 + 1) f) ((5 * a + n) * 3 + 2) x) (upd opn a (nI (n + 1))) (upd ow (5 * a + n) w) (upd oq (5 * a + n) f) (upd ox (5 * a + n) x) := by
  refine ⟨fun b hb => ?_, fun j hj => ?_⟩
  · by_cases e : b = a
    · subst e; rw [pk_us]; exact ⟨n + 1, by omega, rfl⟩
    · rw [pk_un e]; exact hO.1 b hb
  · by_cases e : j = 5 * a + n
    · subst e
      simp (disch := omega) only [pk_us, pk_un]
      exact ⟨trivial, trivial, trivial, h⟩
    · simp (disch := omega) only [pk_un]
      exact hO.2 j hj
theorem i_vc_operation {k : Nat} {u : SX} {v : SY} (I : i_Rel k u v) (hk : k + 7 ≤ 3584) (v1 : Int32) (v2 : Int32) (v3 : Int32) (v4 : Int32) : wpX_operation (fun r u' => wpY_operation (fun r' v' => r' = r ∧ i_Rel (k + 7) u' v') v v1 v2 v3 v4) u v1 v2 v3 v4 := by
  refine sd_el (C := fun u v => wpX_operation (fun r u' => wpY_operation (fun r' v' => r' = r ∧ i_Rel (k + 7) u' v') v v1 v2 v3 v4) u v1 v2 v3 v4) I (fun sc oc bt bb da ag lo tp sb sd tk tl tt ma ol dr ay gl fw fv hv sts ops opn rg kf kk th ens mv mm sps ho pb pz rc mr md mt gp qc qq qe lc tq ta lk go ca cv cm cg ow oq ox sw sa sz sg ra ac ea eb ch ty bi mk yb le gt hF hS hO hE hP hH hT hU hG hW hQ => ?_)
  have J : i_Rel (k + 7) (sc, oc, bt, bb, da, ag, lo, tp, sb, sd, tk, fw, fv, hv, sts, ops, opn, rg, kf, kk, th, ens, mv, mm, sps, ho, pb, pz, rc, mr, md, mt, gp, qc, qq, qe, lc, tq) (sc, oc, tl, tt, bt, ma, ol, tp, sb, sd, tk, dr, ay, gl, fw, fv, hv, ta, lk, go, ca, cv, cm, cg, opn, ow, oq, ox, rg, sw, sa, sz, sg, ho, kf, kk, ra, ac, ea, eb, ch, th, mv, mm, ty, bi, mk, rc, mr, md, mt, gp, yb, le, qc, qe, qq, tq, lc, gt) := sd_mk hF hS hO hE hP hH hT hU hG hW hQ
  unfold wpX_operation wpY_operation
  rcases sd_cl 8 v1 with h | h
  · exact sx_AR 8 h (sy_in0 7 h (sd_w0 ⟨rfl, J⟩))
  · refine sx_AT 8 h ?_
    rcases sd_cl 15 v2 with g | g
    · exact sx_BR 14 g (sd_w0 (sy_in1 7 h (sd_w1 (sy_in0 14 g (sd_w0 ⟨rfl, J⟩)))))
    · obtain ⟨n, hn, rfl⟩ := id g
      refine sx_of hn (fun z => sd_w0 (sy_in1 7 h (sd_w1 (sy_in1 14 g (sd_w1 (sy_of hn (fun _ => sd_w0 ⟨rfl, J⟩) (fun y => absurd y z))))))) (fun z => sd_w1 ?_)
      obtain ⟨a, ha, rfl⟩ := id h
      obtain ⟨m, hm, ho⟩ := hO.1 a ha
      refine ⟨vp_in_nI ha (by decide), ?_⟩
      rw [nI_clamp (n := a) (by omega)]
      refine nm_r ho (pk_lt m 5 (fun m5 => ?_) (fun m5 => ?_))
      · have e : (nI a * 5 + nI m) * 3 = nI ((5 * a + m) * 3) := by
          have e1 : nI a * 5 + nI m = nI (5 * a + m) := (sd_ma a 5 m).trans (by rw [Nat.mul_comm])
          rw [e1]
          exact pk_mul _ 3
        refine nm_r e (sd_st ((5 * a + m) * 3) rfl (by omega) (by decide) (sd_st ((5 * a + m) * 3 + 1) (nI_add _ 1) (by omega) (by decide) (sd_st ((5 * a + m) * 3 + 2) (nI_add _ 2) (by omega) (by decide) ⟨vp_in_nI ha (by decide), ?_⟩)))
        rw [nI_1]
        refine nm_e (sy_in1 7 h (sd_w1 (sy_in1 14 g (sd_w1 (sy_of hn (fun y => absurd z y) (fun _ => sd_w1 ⟨vp_in_nI ha (by decide), ?_⟩))))))
        rw [ho]
        refine br_f (fun y => absurd ((nI_eq (a := m) (b := 5) (by omega) (by omega)).mp y) (by omega)) ⟨vp_in_nI ha (by decide), nm_r (sd_am a 5 m) (sd_st (5 * a + m) rfl (by omega) (by decide) (sd_st (5 * a + m) rfl (by omega) (by decide) (sd_st (5 * a + m) rfl (by omega) (by decide) ⟨vp_in_nI ha (by decide), vp_in_nI ha (by decide), ?_⟩)))⟩
        rw [nI_1]
        exact nm_e ⟨rfl, sd_mk hF hS (sd_Oo hO ha m5 (sd_oo hn z)) hE hP hH hT hU hG hW hQ⟩
      · refine sy_in1 7 h (sd_w1 (sy_in1 14 g (sd_w1 (sy_of hn (fun y => absurd z y) (fun _ => sd_w1 ⟨vp_in_nI ha (by decide), ?_⟩)))))
        rw [ho]
        exact br_t ((nI_eq (a := m) (b := 5) (by omega) (by omega)).mpr (by omega)) ⟨rfl, J⟩
def sd_sc (n : Nat) (a b : Int32) : Prop := (n = 0 → sd_rg 4 a) ∧ (n = 1 → sd_rg 8 a) ∧ ((n = 2 ∨ n = 4) → sd_rg 28 a) ∧ (n = 3 → sd_rg 6 a) ∧ ((n = 1 ∨ n = 2) → sd_rg 65536 b) ∧ (n = 4 → sd_rg 28 b)
theorem sx_sf0 {post : Int32 → Prop} {p1 p2 : Int32} (h0 : ¬ sd_sc 0 p1 p2 → post 0) (h1 : sd_sc 0 p1 p2 → post 1) : wpX_stepFits post (nI 0) p1 p2 := by
  refine sx_BT 5 ⟨0, by omega, rfl⟩ ?_
  refine br_t rfl ?_
  rcases sd_cl 4 p1 with a | a
  · exact sx_AR 4 a (h0 (fun z => sd_nj (by omega) a (z.1 (by omega))))
  · exact sx_AT 4 a (h1 ⟨fun _ => a, fun z => absurd z (by omega), fun z => absurd z (by omega), fun z => absurd z (by omega), fun z => absurd z (by omega), fun z => absurd z (by omega)⟩)
theorem sx_sf1 {post : Int32 → Prop} {p1 p2 : Int32} (h0 : ¬ sd_sc 1 p1 p2 → post 0) (h1 : sd_sc 1 p1 p2 → post 1) : wpX_stepFits post (nI 1) p1 p2 := by
  refine sx_BT 5 ⟨1, by omega, rfl⟩ ?_
  refine br_f (by decide) (br_t rfl ?_)
  rcases sd_cl 8 p1 with a | a
  · exact sx_AR 8 a (h0 (fun z => sd_nj (by omega) a (z.2.1 (by omega))))
  · rcases sd_cl 65536 p2 with b | b
    · exact sx_AT 8 a (sx_word0 b (sd_w0 (h0 (fun z => sd_nj (by omega) b (z.2.2.2.2.1 (by omega))))))
    · exact sx_AT 8 a (sx_word1 b (sd_w1 (h1 ⟨fun z => absurd z (by omega), fun _ => a, fun z => absurd z (by omega), fun z => absurd z (by omega), fun _ => b, fun z => absurd z (by omega)⟩)))
theorem sx_sf2 {post : Int32 → Prop} {p1 p2 : Int32} (h0 : ¬ sd_sc 2 p1 p2 → post 0) (h1 : sd_sc 2 p1 p2 → post 1) : wpX_stepFits post (nI 2) p1 p2 := by
  refine sx_BT 5 ⟨2, by omega, rfl⟩ ?_
  refine br_f (by decide) (br_f (by decide) (br_t rfl ?_))
  rcases sd_cl 28 p1 with a | a
  · exact sx_field0 a (sd_w0 (h0 (fun z => sd_nj (by omega) a (z.2.2.1 (by omega)))))
  · rcases sd_cl 65536 p2 with b | b
    · exact sx_field1 a (sd_w1 (sx_word0 b (sd_w0 (h0 (fun z => sd_nj (by omega) b (z.2.2.2.2.1 (by omega)))))))
    · exact sx_field1 a (sd_w1 (sx_word1 b (sd_w1 (h1 ⟨fun z => absurd z (by omega), fun z => absurd z (by omega), fun _ => a, fun z => absurd z (by omega), fun _ => b, fun z => absurd z (by omega)⟩))))
theorem sx_sf3 {post : Int32 → Prop} {p1 p2 : Int32} (h0 : ¬ sd_sc 3 p1 p2 → post 0) (h1 : sd_sc 3 p1 p2 → post 1) : wpX_stepFits post (nI 3) p1 p2 := by
  refine sx_BT 5 ⟨3, by omega, rfl⟩ ?_
  refine br_f (by decide) (br_f (by decide) (br_f (by decide) (br_t rfl ?_)))
  rcases sd_cl 6 p1 with a | a
  · exact sx_header0 a ⟨sd_n0, h0 (fun z => sd_nj (by omega) a (z.2.2.2.1 (by omega)))⟩
  · exact sx_header1 a ⟨sd_n1, h1 ⟨fun z => absurd z (by omega), fun z => absurd z (by omega), fun z => absurd z (by omega), fun _ => a, fun z => absurd z (by omega), fun z => absurd z (by omega)⟩⟩
theorem sx_sf4 {post : Int32 → Prop} {p1 p2 : Int32} (h0 : ¬ sd_sc 4 p1 p2 → post 0) (h1 : sd_sc 4 p1 p2 → post 1) : wpX_stepFits post (nI 4) p1 p2 := by
  refine sx_BT 5 ⟨4, by omega, rfl⟩ ?_
  refine br_f (by decide) (br_f (by decide) (br_f (by decide) (br_f (by decide) (br_t rfl ?_))))
  rcases sd_cl 28 p1 with a | a
  · exact sx_field0 a (sd_w0 (h0 (fun z => sd_nj (by omega) a (z.2.2.1 (by omega)))))
  · rcases sd_cl 28 p2 with b | b
    · exact sx_field1 a (sd_w1 (sx_field0 b (sd_w0 (h0 (fun z => sd_nj (by omega) b (z.2.2.2.2.2 (by omega)))))))
    · exact sx_field1 a (sd_w1 (sx_field1 b (sd_w1 (h1 ⟨fun z => absurd z (by omega), fun z => absurd z (by omega), fun _ => a, fun z => absurd z (by omega), fun z => absurd z (by omega), fun _ => b⟩))))
theorem sx_sf5 {post : Int32 → Prop} {p1 p2 : Int32} (h0 : ¬ sd_sc 5 p1 p2 → post 0) (h1 : sd_sc 5 p1 p2 → post 1) : wpX_stepFits post (nI 5) p1 p2 := by
  refine sx_BT 5 ⟨5, by omega, rfl⟩ ?_
  refine br_f (by decide) (br_f (by decide) (br_f (by decide) (br_f (by decide) (br_f (by decide) (br_t rfl ?_)))))
  exact h1 ⟨fun z => absurd z (by omega), fun z => absurd z (by omega), fun z => absurd z (by omega), fun z => absurd z (by omega), fun z => absurd z (by omega), fun z => absurd z (by omega)⟩
theorem sx_sf {post : Int32 → Prop} {n : Nat} {p1 p2 : Int32} (hn : n < 6) (h0 : ¬ sd_sc n p1 p2 → post 0) (h1 : sd_sc n p1 p2 → post 1) : wpX_stepFits post (nI n) p1 p2 := by
  have : n = 0 ∨ n = 1 ∨ n = 2 ∨ n = 3 ∨ n = 4 ∨ n = 5 := by omega
  rcases this with rfl | rfl | rfl | rfl | rfl | rfl
  · exact sx_sf0 h0 h1
  · exact sx_sf1 h0 h1
  · exact sx_sf2 h0 h1
  · exact sx_sf3 h0 h1
  · exact sx_sf4 h0 h1
  · exact sx_sf5 h0 h1
theorem sy_sf0 {post : Int32 → SY → Prop} {x2 x3 x4 : Int32} (h0 : ¬ sd_sc 0 x2 x3 → post (-1) (sc, oc, tl, tt, bt, ma, ol, tp, sb, sd, tk, dr, ay, gl, fw, fv, hv, ta, lk, go, ca, cv, cm, cg, opn, ow, oq, ox, rg, sw, sa, sz, sg, ho, kf, kk, ra, ac, ea, eb, ch, th, mv, mm, ty, bi, mk, rc, mr, md, mt, gp, yb, le, qc, qe, qq, tq, lc, gt)) (h1 : sd_sc 0 x2 x3 → wY_step_118 post (nI 0) x2 x3 x4 sc oc tl tt bt ma ol tp sb sd tk dr ay gl fw fv hv ta lk go ca cv cm cg opn ow oq ox rg sw sa sz sg ho kf kk ra ac ea eb ch th mv mm ty bi mk rc mr md mt gp yb le qc qe qq tq lc gt) : wY_step_41 post (nI 0) x2 x3 x4 sc oc tl tt bt ma ol tp sb sd tk dr ay gl fw fv hv ta lk go ca cv cm cg opn ow oq ox rg sw sa sz sg ho kf kk ra ac ea eb ch th mv mm ty bi mk rc mr md mt gp yb le qc qe qq tq lc gt := by
  rcases sd_cl 4 x2 with a | a
  · exact br_t rfl (br_f (by decide) (sy_in0 3 a (sd_w0 (h0 (fun z => sd_nj (by omega) a (z.1 (by omega)))))))
  · exact br_t rfl (br_f (by decide) (sy_in1 3 a (sd_w1 (br_f (by decide) (br_f (by decide) (br_f (by decide) (h1 ⟨fun _ => a, fun z => absurd z (by omega), fun z => absurd z (by omega), fun z => absurd z (by omega), fun z => absurd z (by omega), fun z => absurd z (by omega)⟩)))))))
theorem sy_sf1 {post : Int32 → SY → Prop} {x2 x3 x4 : Int32} (h0 : ¬ sd_sc 1 x2 x3 → post (-1) (sc, oc, tl, tt, bt, ma, ol, tp, sb, sd, tk, dr, ay, gl, fw, fv, hv, ta, lk, go, ca, cv, cm, cg, opn, ow, oq, ox, rg, sw, sa, sz, sg, ho, kf, kk, ra, ac, ea, eb, ch, th, mv, mm, ty, bi, mk, rc, mr, md, mt, gp, yb, le, qc, qe, qq, tq, lc, gt)) (h1 : sd_sc 1 x2 x3 → wY_step_118 post (nI 1) x2 x3 x4 sc oc tl tt bt ma ol tp sb sd tk dr ay gl fw fv hv ta lk go ca cv cm cg opn ow oq ox rg sw sa sz sg ho kf kk ra ac ea eb ch th mv mm ty bi mk rc mr md mt gp yb le qc qe qq tq lc gt) : wY_step_41 post (nI 1) x2 x3 x4 sc oc tl tt bt ma ol tp sb sd tk dr ay gl fw fv hv ta lk go ca cv cm cg opn ow oq ox rg sw sa sz sg ho kf kk ra ac ea eb ch th mv mm ty bi mk rc mr md mt gp yb le qc qe qq tq lc gt := by
  rcases sd_cl 8 x2 with a | a
  · exact br_f (by decide) (br_t rfl (br_f (by decide) (sy_in0 7 a (sd_w0 (h0 (fun z => sd_nj (by omega) a (z.2.1 (by omega))))))))
  · rcases sd_cl 65536 x3 with b | b
    · exact br_f (by decide) (br_t rfl (br_f (by decide) (sy_in1 7 a (sd_w1 (br_t rfl (sy_word0 b (sd_w0 (h0 (fun z => sd_nj (by omega) b (z.2.2.2.2.1 (by omega)))))))))))
    · exact br_f (by decide) (br_t rfl (br_f (by decide) (sy_in1 7 a (sd_w1 (br_t rfl (sy_word1 b (sd_w1 (br_f (by decide) (h1 ⟨fun z => absurd z (by omega), fun _ => a, fun z => absurd z (by omega), fun z => absurd z (by omega), fun _ => b, fun z => absurd z (by omega)⟩)))))))))
theorem sy_sf2 {post : Int32 → SY → Prop} {x2 x3 x4 : Int32} (h0 : ¬ sd_sc 2 x2 x3 → post (-1) (sc, oc, tl, tt, bt, ma, ol, tp, sb, sd, tk, dr, ay, gl, fw, fv, hv, ta, lk, go, ca, cv, cm, cg, opn, ow, oq, ox, rg, sw, sa, sz, sg, ho, kf, kk, ra, ac, ea, eb, ch, th, mv, mm, ty, bi, mk, rc, mr, md, mt, gp, yb, le, qc, qe, qq, tq, lc, gt)) (h1 : sd_sc 2 x2 x3 → wY_step_118 post (nI 2) x2 x3 x4 sc oc tl tt bt ma ol tp sb sd tk dr ay gl fw fv hv ta lk go ca cv cm cg opn ow oq ox rg sw sa sz sg ho kf kk ra ac ea eb ch th mv mm ty bi mk rc mr md mt gp yb le qc qe qq tq lc gt) : wY_step_41 post (nI 2) x2 x3 x4 sc oc tl tt bt ma ol tp sb sd tk dr ay gl fw fv hv ta lk go ca cv cm cg opn ow oq ox rg sw sa sz sg ho kf kk ra ac ea eb ch th mv mm ty bi mk rc mr md mt gp yb le qc qe qq tq lc gt := by
  rcases sd_cl 28 x2 with a | a
  · exact br_f (by decide) (br_f (by decide) (br_f (by decide) (br_f (by decide) (sy_in0 27 a (sd_w0 (h0 (fun z => sd_nj (by omega) a (z.2.2.1 (by omega)))))))))
  · rcases sd_cl 65536 x3 with b | b
    · exact br_f (by decide) (br_f (by decide) (br_f (by decide) (br_f (by decide) (sy_in1 27 a (sd_w1 (br_f (by decide) (br_t rfl (sy_word0 b (sd_w0 (h0 (fun z => sd_nj (by omega) b (z.2.2.2.2.1 (by omega)))))))))))))
    · exact br_f (by decide) (br_f (by decide) (br_f (by decide) (br_f (by decide) (sy_in1 27 a (sd_w1 (br_f (by decide) (br_t rfl (sy_word1 b (sd_w1 (br_f (by decide) (h1 ⟨fun z => absurd z (by omega), fun z => absurd z (by omega), fun _ => a, fun z => absurd z (by omega), fun _ => b, fun z => absurd z (by omega)⟩)))))))))))
theorem sy_sf3 {post : Int32 → SY → Prop} {x2 x3 x4 : Int32} (h0 : ¬ sd_sc 3 x2 x3 → post (-1) (sc, oc, tl, tt, bt, ma, ol, tp, sb, sd, tk, dr, ay, gl, fw, fv, hv, ta, lk, go, ca, cv, cm, cg, opn, ow, oq, ox, rg, sw, sa, sz, sg, ho, kf, kk, ra, ac, ea, eb, ch, th, mv, mm, ty, bi, mk, rc, mr, md, mt, gp, yb, le, qc, qe, qq, tq, lc, gt)) (h1 : sd_sc 3 x2 x3 → wY_step_118 post (nI 3) x2 x3 x4 sc oc tl tt bt ma ol tp sb sd tk dr ay gl fw fv hv ta lk go ca cv cm cg opn ow oq ox rg sw sa sz sg ho kf kk ra ac ea eb ch th mv mm ty bi mk rc mr md mt gp yb le qc qe qq tq lc gt) : wY_step_41 post (nI 3) x2 x3 x4 sc oc tl tt bt ma ol tp sb sd tk dr ay gl fw fv hv ta lk go ca cv cm cg opn ow oq ox rg sw sa sz sg ho kf kk ra ac ea eb ch th mv mm ty bi mk rc mr md mt gp yb le qc qe qq tq lc gt := by
  rcases sd_cl 6 x2 with a | a
  · exact br_f (by decide) (br_f (by decide) (br_t rfl (br_f (by decide) (sy_in0 5 a (sd_w0 (h0 (fun z => sd_nj (by omega) a (z.2.2.2.1 (by omega)))))))))
  · exact br_f (by decide) (br_f (by decide) (br_t rfl (br_f (by decide) (sy_in1 5 a (sd_w1 (br_f (by decide) (br_f (by decide) (br_f (by decide) (h1 ⟨fun z => absurd z (by omega), fun z => absurd z (by omega), fun z => absurd z (by omega), fun _ => a, fun z => absurd z (by omega), fun z => absurd z (by omega)⟩)))))))))
theorem sy_sf4 {post : Int32 → SY → Prop} {x2 x3 x4 : Int32} (h0 : ¬ sd_sc 4 x2 x3 → post (-1) (sc, oc, tl, tt, bt, ma, ol, tp, sb, sd, tk, dr, ay, gl, fw, fv, hv, ta, lk, go, ca, cv, cm, cg, opn, ow, oq, ox, rg, sw, sa, sz, sg, ho, kf, kk, ra, ac, ea, eb, ch, th, mv, mm, ty, bi, mk, rc, mr, md, mt, gp, yb, le, qc, qe, qq, tq, lc, gt)) (h1 : sd_sc 4 x2 x3 → wY_step_118 post (nI 4) x2 x3 x4 sc oc tl tt bt ma ol tp sb sd tk dr ay gl fw fv hv ta lk go ca cv cm cg opn ow oq ox rg sw sa sz sg ho kf kk ra ac ea eb ch th mv mm ty bi mk rc mr md mt gp yb le qc qe qq tq lc gt) : wY_step_41 post (nI 4) x2 x3 x4 sc oc tl tt bt ma ol tp sb sd tk dr ay gl fw fv hv ta lk go ca cv cm cg opn ow oq ox rg sw sa sz sg ho kf kk ra ac ea eb ch th mv mm ty bi mk rc mr md mt gp yb le qc qe qq tq lc gt := by
  rcases sd_cl 28 x2 with a | a
  · exact br_f (by decide) (br_f (by decide) (br_f (by decide) (br_f (by decide) (sy_in0 27 a (sd_w0 (h0 (fun z => sd_nj (by omega) a (z.2.2.1 (by omega)))))))))
  · rcases sd_cl 28 x3 with b | b
    · exact br_f (by decide) (br_f (by decide) (br_f (by decide) (br_f (by decide) (sy_in1 27 a (sd_w1 (br_f (by decide) (br_f (by decide) (br_t rfl (sy_field0 b (sd_w0 (h0 (fun z => sd_nj (by omega) b (z.2.2.2.2.2 (by omega))))))))))))))
    · exact br_f (by decide) (br_f (by decide) (br_f (by decide) (br_f (by decide) (sy_in1 27 a (sd_w1 (br_f (by decide) (br_f (by decide) (br_t rfl (sy_field1 b (sd_w1 (h1 ⟨fun z => absurd z (by omega), fun z => absurd z (by omega), fun _ => a, fun z => absurd z (by omega), fun z => absurd z (by omega), fun _ => b⟩)))))))))))
theorem sy_sf5 {post : Int32 → SY → Prop} {x2 x3 x4 : Int32} (h0 : ¬ sd_sc 5 x2 x3 → post (-1) (sc, oc, tl, tt, bt, ma, ol, tp, sb, sd, tk, dr, ay, gl, fw, fv, hv, ta, lk, go, ca, cv, cm, cg, opn, ow, oq, ox, rg, sw, sa, sz, sg, ho, kf, kk, ra, ac, ea, eb, ch, th, mv, mm, ty, bi, mk, rc, mr, md, mt, gp, yb, le, qc, qe, qq, tq, lc, gt)) (h1 : sd_sc 5 x2 x3 → wY_step_118 post (nI 5) x2 x3 x4 sc oc tl tt bt ma ol tp sb sd tk dr ay gl fw fv hv ta lk go ca cv cm cg opn ow oq ox rg sw sa sz sg ho kf kk ra ac ea eb ch th mv mm ty bi mk rc mr md mt gp yb le qc qe qq tq lc gt) : wY_step_41 post (nI 5) x2 x3 x4 sc oc tl tt bt ma ol tp sb sd tk dr ay gl fw fv hv ta lk go ca cv cm cg opn ow oq ox rg sw sa sz sg ho kf kk ra ac ea eb ch th mv mm ty bi mk rc mr md mt gp yb le qc qe qq tq lc gt := by
  exact br_f (by decide) (br_f (by decide) (br_f (by decide) (br_t (by decide) (br_f (by decide) (br_f (by decide) (br_f (by decide) (h1 ⟨fun z => absurd z (by omega), fun z => absurd z (by omega), fun z => absurd z (by omega), fun z => absurd z (by omega), fun z => absurd z (by omega), fun z => absurd z (by omega)⟩)))))))
theorem sy_sf {post : Int32 → SY → Prop} {n : Nat} {x2 x3 x4 : Int32} (hn : n < 6) (h0 : ¬ sd_sc n x2 x3 → post (-1) (sc, oc, tl, tt, bt, ma, ol, tp, sb, sd, tk, dr, ay, gl, fw, fv, hv, ta, lk, go, ca, cv, cm, cg, opn, ow, oq, ox, rg, sw, sa, sz, sg, ho, kf, kk, ra, ac, ea, eb, ch, th, mv, mm, ty, bi, mk, rc, mr, md, mt, gp, yb, le, qc, qe, qq, tq, lc, gt)) (h1 : sd_sc n x2 x3 → wY_step_118 post (nI n) x2 x3 x4 sc oc tl tt bt ma ol tp sb sd tk dr ay gl fw fv hv ta lk go ca cv cm cg opn ow oq ox rg sw sa sz sg ho kf kk ra ac ea eb ch th mv mm ty bi mk rc mr md mt gp yb le qc qe qq tq lc gt) : wY_step_41 post (nI n) x2 x3 x4 sc oc tl tt bt ma ol tp sb sd tk dr ay gl fw fv hv ta lk go ca cv cm cg opn ow oq ox rg sw sa sz sg ho kf kk ra ac ea eb ch th mv mm ty bi mk rc mr md mt gp yb le qc qe qq tq lc gt := by
  have : n = 0 ∨ n = 1 ∨ n = 2 ∨ n = 3 ∨ n = 4 ∨ n = 5 := by omega
  rcases this with rfl | rfl | rfl | rfl | rfl | rfl
  · exact sy_sf0 h0 h1
  · exact sy_sf1 h0 h1
  · exact sy_sf2 h0 h1
  · exact sy_sf3 h0 h1
  · exact sy_sf4 h0 h1
  · exact sy_sf5 h0 h1
theorem sd_Ps {N : Nat} (hN : N < 16) (hA : ∀ i, i < 16 → sps (i * 4) = sw i ∧ sps (i * 4 + 1) = sa i ∧ sps (i * 4 + 2) = sz i ∧ sps (i * 4 + 3) = sg i) (hB : ∀ i, i < N → sd_sp i (sw i) (sa i) (sz i) (sg i)) {w a b g : Int32} (h : sd_sp N w a b g) :
    sd_P (nI (N + 1)) (upd (upd (upd (upd sps (N * 4) w) (N * 4 + 1) a) (N * 4 + 2) b) (N * 4 + 3) g) (upd sw N w) (upd sa N a) (upd sz N b) (upd sg N g) := by
  refine ⟨N + 1, by omega, rfl, fun i hi => ?_, fun i hi => ?_⟩
  · by_cases e : i = N
    · subst e
      simp (disch := omega) only [pk_us, pk_un]
      exact ⟨trivial, trivial, trivial, trivial⟩
    · simp (disch := omega) only [pk_un]
      exact hA i hi
  · by_cases e : i = N
    · subst e
      simp only [pk_us]
      exact h
    · simp (disch := omega) only [pk_un]
      exact hB i (by omega)
theorem i_vc_step {k : Nat} {u : SX} {v : SY} (I : i_Rel k u v) (hk : k + 7 ≤ 3584) (v1 : Int32) (v2 : Int32) (v3 : Int32) (v4 : Int32) : wpX_step (fun r u' => wpY_step (fun r' v' => r' = r ∧ i_Rel (k + 7) u' v') v v1 v2 v3 v4) u v1 v2 v3 v4 := by
  refine sd_el (C := fun u v => wpX_step (fun r u' => wpY_step (fun r' v' => r' = r ∧ i_Rel (k + 7) u' v') v v1 v2 v3 v4) u v1 v2 v3 v4) I (fun sc oc bt bb da ag lo tp sb sd tk tl tt ma ol dr ay gl fw fv hv sts ops opn rg kf kk th ens mv mm sps ho pb pz rc mr md mt gp qc qq qe lc tq ta lk go ca cv cm cg ow oq ox sw sa sz sg ra ac ea eb ch ty bi mk yb le gt hF hS hO hE hP hH hT hU hG hW hQ => ?_)
  have J : i_Rel (k + 7) (sc, oc, bt, bb, da, ag, lo, tp, sb, sd, tk, fw, fv, hv, sts, ops, opn, rg, kf, kk, th, ens, mv, mm, sps, ho, pb, pz, rc, mr, md, mt, gp, qc, qq, qe, lc, tq) (sc, oc, tl, tt, bt, ma, ol, tp, sb, sd, tk, dr, ay, gl, fw, fv, hv, ta, lk, go, ca, cv, cm, cg, opn, ow, oq, ox, rg, sw, sa, sz, sg, ho, kf, kk, ra, ac, ea, eb, ch, th, mv, mm, ty, bi, mk, rc, mr, md, mt, gp, yb, le, qc, qe, qq, tq, lc, gt) := sd_mk hF hS hO hE hP hH hT hU hG hW hQ
  obtain ⟨N, hN, rfl, hA, hB⟩ := hP
  unfold wpX_step wpY_step
  refine pk_le 16 N (fun n6 => ?_) (fun n6 => ?_)
  · rcases sd_cl 6 v1 with h | h
    · exact sy_in0 5 h (sd_w0 ⟨rfl, J⟩)
    · exact sy_in1 5 h (sd_w1 (br_t ((nI_eq (a := N) (b := 16) (by omega) (by omega)).mpr (by omega)) ⟨rfl, J⟩))
  · have nn : ¬ nI N = 16 := fun y => absurd ((nI_eq (a := N) (b := 16) (by omega) (by omega)).mp y) (by omega)
    rcases sd_cl 6 v1 with h | h
    · exact sx_BR 5 h (sd_w0 (sy_in0 5 h (sd_w0 ⟨rfl, J⟩)))
    · obtain ⟨w, hw, rfl⟩ := id h
      have goal : ∀ (hg : nI w = 1 ∨ ∃ j : Nat, N < j ∧ j ≤ 16 ∧ v4 = nI j) (hs : sd_sc w v2 v3), wX_step_43 (fun r u' => wpY_step (fun r' v' => r' = r ∧ i_Rel (k + 7) u' v') ((nI N), oc, tl, tt, bt, ma, ol, tp, sb, sd, tk, dr, ay, gl, fw, fv, hv, ta, lk, go, ca, cv, cm, cg, opn, ow, oq, ox, rg, sw, sa, sz, sg, ho, kf, kk, ra, ac, ea, eb, ch, th, mv, mm, ty, bi, mk, rc, mr, md, mt, gp, yb, le, qc, qe, qq, tq, lc, gt) (nI w) v2 v3 v4) (nI w) v2 v3 v4 (nI N) oc bt bb da ag lo tp sb sd tk fw fv hv sts ops opn rg kf kk th ens mv mm sps ho pb pz rc mr md mt gp qc qq qe lc tq := by
        intro hg hs
        refine nm_r (pk_mul N 4) (sd_st (N * 4) rfl (by omega) (by decide) (sd_st (N * 4 + 1) (nI_add _ 1) (by omega) (by decide) (sd_st (N * 4 + 2) (nI_add _ 2) (by omega) (by decide) (sd_st (N * 4 + 3) (nI_add _ 3) (by omega) (by decide) (nm_r (nI_1 N) ?_)))))
        have fin : wY_step_118 (fun r' v' => r' = nI (N + 1) - 1 ∧ i_Rel (k + 7) ((nI (N + 1)), oc, bt, bb, da, ag, lo, tp, sb, sd, tk, fw, fv, hv, sts, ops, opn, rg, kf, kk, th, ens, mv, mm, (upd (upd (upd (upd sps (N * 4) (nI w)) (N * 4 + 1) v2) (N * 4 + 2) v3) (N * 4 + 3) v4), ho, pb, pz, rc, mr, md, mt, gp, qc, qq, qe, lc, tq) v') (nI w) v2 v3 v4 (nI N) oc tl tt bt ma ol tp sb sd tk dr ay gl fw fv hv ta lk go ca cv cm cg opn ow oq ox rg sw sa sz sg ho kf kk ra ac ea eb ch th mv mm ty bi mk rc mr md mt gp yb le qc qe qq tq lc gt := by
          refine sd_st N rfl n6 (by decide) (sd_st N rfl n6 (by decide) (sd_st N rfl n6 (by decide) (sd_st N rfl n6 (by decide) (nm_r (nI_1 N) ⟨(nI_pred N).symm, sd_mk hF hS hO hE (sd_Ps n6 hA hB ⟨w, by omega, rfl, hs.1, hs.2.1, hs.2.2.1, hs.2.2.2.1, hs.2.2.2.2.2, fun w1 => ?_⟩) hH hT hU hG hW hQ⟩))))
          rcases hg with hg | hg
          · exact absurd ((nI_eq (a := w) (b := 1) (by omega) (by omega)).mp hg) w1
          · exact hg
        unfold wpY_step
        refine sy_in1 5 h (sd_w1 (br_f nn (br_c (fun y => sy_sf hw (fun z => absurd hs z) (fun _ => fin)) (fun y => ?_))))
        rcases hg with hg | ⟨j, j1, j2, rfl⟩
        · exact absurd hg y
        · have e1 : nI N + 1 = nI (N + 1) := nI_1 N
          rw [e1]
          exact br_f (nI_nlt (by omega) (by omega)) (br_f (nI_nlt (a := 16) (by omega) (by omega)) (sd_w1 (sy_sf hw (fun z => absurd hs z) (fun _ => fin))))
      have no : ∀ (hg : (¬ nI w = 1 ∧ (v4 ≤ nI N ∨ ¬ v4 ≤ 16)) ∨ ¬ sd_sc w v2 v3), wpY_step (fun r' v' => r' = -1 ∧ i_Rel (k + 7) ((nI N), oc, bt, bb, da, ag, lo, tp, sb, sd, tk, fw, fv, hv, sts, ops, opn, rg, kf, kk, th, ens, mv, mm, sps, ho, pb, pz, rc, mr, md, mt, gp, qc, qq, qe, lc, tq) v') ((nI N), oc, tl, tt, bt, ma, ol, tp, sb, sd, tk, dr, ay, gl, fw, fv, hv, ta, lk, go, ca, cv, cm, cg, opn, ow, oq, ox, rg, sw, sa, sz, sg, ho, kf, kk, ra, ac, ea, eb, ch, th, mv, mm, ty, bi, mk, rc, mr, md, mt, gp, yb, le, qc, qe, qq, tq, lc, gt) (nI w) v2 v3 v4 := by
        intro hg
        unfold wpY_step
        refine sy_in1 5 h (sd_w1 (br_f nn (br_c (fun y => ?_) (fun y => ?_))))
        · exact sy_sf hw (fun _ => ⟨rfl, J⟩) (fun z => absurd hg (by rintro (hg | hg); exact hg.1 y; exact hg z))
        · have e1 : nI N + 1 = nI (N + 1) := nI_1 N
          rw [e1]
          refine br_c (fun _ => sd_w0 ⟨rfl, J⟩) (fun y1 => br_c (fun _ => sd_w0 ⟨rfl, J⟩) (fun y2 => sd_w1 (sy_sf hw (fun _ => ⟨rfl, J⟩) (fun z => absurd hg ?_))))
          rintro (⟨_, hg | hg⟩ | hg)
          · apply y1
            rw [sd_leI, nI_toInt (by omega)] at hg
            rw [sd_ltI, nI_toInt (by omega)]
            omega
          · exact y2 (Int32.not_le.mp hg)
          · exact hg z
      refine sx_sf hw (fun z => sd_w0 (no (Or.inr z))) (fun z => sd_w1 (br_c (fun y => goal (Or.inl y) z) (fun y => br_c (fun y1 => no (Or.inl ⟨y, Or.inl y1⟩)) (fun y1 => br_c (fun y2 => goal (Or.inr ?_) z) (fun y2 => no (Or.inl ⟨y, Or.inr y2⟩))))))
      have y0 : ¬ v4 < 0 := by
        intro q
        apply y1
        rw [sd_ltI] at q
        rw [sd_leI, nI_toInt (by omega)]
        have e0 : (0 : Int32).toInt = 0 := by decide
        omega
      obtain ⟨j, hj, rfl⟩ := nI_of y0
      have y2' : nI j ≤ nI 16 := y2
      rw [nI_leI hj (by omega)] at y1 y2'
      exact ⟨j, by omega, y2', rfl⟩
end
end
section
section
variable {sc oc bt bb da ag lo tp sb sd tk : Int32} {fw fv hv sts ops opn rg kf kk th ens mv mm sps ho pb pz rc mr md mt gp qc qq qe lc tq : Nat → Int32} {tl tt ma ol dr ay gl : Int32} {ta lk go ca cv cm cg ow oq ox sw sa sz sg ra ac ea eb ch ty bi mk yb le gt : Nat → Int32}
/-- the first i entries of table t are no more there -/
def sd_kt (th : Nat → Int32) (t : Nat) : Nat → (Nat → Int32)
  | 0 => th
  | i + 1 => upd (sd_kt th t i) (13 * t + i) 0
theorem sd_kt0 {t : Nat} : ∀ (i j : Nat), 13 * t ≤ j → j < 13 * t + i → sd_kt th t i j = 0
  | 0, j, h1, h2 => absurd h2 (by omega)
  | i + 1, j, h1, h2 => by
    show upd (sd_kt th t i) (13 * t + i) 0 j = 0
    by_cases e : j = 13 * t + i
    · rw [e, pk_us]
    · rw [pk_un e]
      exact sd_kt0 i j h1 (by omega)
theorem sd_kt1 {t : Nat} : ∀ (i j : Nat), (j < 13 * t ∨ 13 * t + i ≤ j) → sd_kt th t i j = th j
  | 0, j, h => rfl
  | i + 1, j, h => by
    show upd (sd_kt th t i) (13 * t + i) 0 j = _
    rw [pk_un (by omega)]
    exact sd_kt1 i j (by omega)
theorem sx_kl {post : Int32 → SX → Prop} {t : Nat} (ht : t < 4) (h : post 1 (sc, oc, bt, bb, da, ag, lo, tp, sb, sd, tk, fw, fv, hv, sts, ops, opn, rg, kf, kk, (sd_kt th t 12), ens, mv, mm, sps, ho, pb, pz, rc, mr, md, mt, gp, qc, qq, qe, lc, tq)) : ∃ n, wX_keys_115 post (nI t) sc oc bt bb da ag lo tp sb sd tk n 0 fw fv hv sts ops opn rg kf kk th ens mv mm sps ho pb pz rc mr md mt gp qc qq qe lc tq :=
  sd_lp (fun n i s => wX_keys_115 post (nI t) sc oc bt bb da ag lo tp sb sd tk n (nI i) fw fv hv sts ops opn rg kf kk s ens mv mm sps ho pb pz rc mr md mt gp qc qq qe lc tq) (fun i => sd_kt th t i) 12 0 (by omega) (fun n => br_t (nI_le (a := 12) (b := 12) (Nat.le_refl _) (by decide)) h)
    (fun n i _ hi ih => br_f (nI_ge (b := 12) hi (by decide)) (sd_st (13 * t + i) (sd_13' t i) (by omega) (by decide) (by rw [sd_b0]; exact nm_r (nI_1 i) ih)))
theorem sy_kl {post : Int32 → SY → Prop} {t : Nat} (ht : t < 4) (h : post 1 (sc, oc, tl, tt, bt, ma, ol, tp, sb, sd, tk, dr, ay, gl, fw, fv, hv, ta, lk, go, ca, cv, cm, cg, opn, ow, oq, ox, rg, sw, sa, sz, sg, ho, kf, kk, ra, ac, ea, eb, ch, (sd_kt th t 12), mv, mm, ty, bi, mk, rc, mr, md, mt, gp, yb, le, qc, qe, qq, tq, lc, gt)) : ∃ n, wY_keys_107 post (nI t) sc oc tl tt bt ma ol tp sb sd tk dr ay gl n 0 fw fv hv ta lk go ca cv cm cg opn ow oq ox rg sw sa sz sg ho kf kk ra ac ea eb ch th mv mm ty bi mk rc mr md mt gp yb le qc qe qq tq lc gt :=
  sd_lp (fun n i s => wY_keys_107 post (nI t) sc oc tl tt bt ma ol tp sb sd tk dr ay gl n (nI i) fw fv hv ta lk go ca cv cm cg opn ow oq ox rg sw sa sz sg ho kf kk ra ac ea eb ch s mv mm ty bi mk rc mr md mt gp yb le qc qe qq tq lc gt) (fun i => sd_kt th t i) 12 0 (by omega) (fun n => br_t (nI_le (a := 12) (b := 12) (Nat.le_refl _) (by decide)) h)
    (fun n i _ hi ih => br_f (nI_ge (b := 12) hi (by decide)) (sd_st (13 * t + i) (sd_13 t i) (by omega) (by decide) (by rw [sd_b0]; exact nm_r (nI_1 i) ih)))
theorem sd_Ek (hE : sd_E kf kk th ens mm ra ac ea eb ch) {t : Nat} (ht : t < 4) {f g a b : Int32} (hf : sd_rg 28 f) (hg : g = -1 ∨ sd_rg 28 g) (ha : sd_rg 3 a) (hb : sd_rg 3 b) :
    sd_E (upd (upd kf (2 * t) f) (2 * t + 1) g) (upd (upd kk (2 * t) a) (2 * t + 1) b) (sd_kt th t 12) ens mm ra ac ea eb ch := by
  refine ⟨fun s hs => ?_, fun i hi => ?_, hE.2.2.1, fun s hs e he h c hc hk => ?_⟩
  · by_cases e : s = t
    · subst e
      simp (disch := omega) only [pk_us, pk_un]
      exact ⟨hf, hg⟩
    · simp (disch := omega) only [pk_un]
      exact hE.1 s hs
  · by_cases e : i = 2 * t + 1
    · subst e; rw [pk_us]; exact hb
    · rw [pk_un e]
      by_cases e : i = 2 * t
      · subst e; rw [pk_us]; exact ha
      · rw [pk_un e]; exact hE.2.1 i hi
  · by_cases z : s = t
    · subst z
      exact absurd (sd_kt0 12 (13 * s + e) (by omega) (by omega)) h
    · rw [sd_kt1 12 (13 * s + e) (by omega)] at h
      simp (disch := omega) only [pk_un] at hk
      exact hE.2.2.2 s hs e he h c hc hk
theorem i_vc_keys {k : Nat} {u : SX} {v : SY} (I : i_Rel k u v) (hk : k + 7 ≤ 3584) (v1 : Int32) (v2 : Int32) (v3 : Int32) (v4 : Int32) (v5 : Int32) : wpX_keys (fun r u' => wpY_keys (fun r' v' => r' = r ∧ i_Rel (k + 7) u' v') v v1 v2 v3 v4 v5) u v1 v2 v3 v4 v5 := by
  refine sd_el (C := fun u v => wpX_keys (fun r u' => wpY_keys (fun r' v' => r' = r ∧ i_Rel (k + 7) u' v') v v1 v2 v3 v4 v5) u v1 v2 v3 v4 v5) I (fun sc oc bt bb da ag lo tp sb sd tk tl tt ma ol dr ay gl fw fv hv sts ops opn rg kf kk th ens mv mm sps ho pb pz rc mr md mt gp qc qq qe lc tq ta lk go ca cv cm cg ow oq ox sw sa sz sg ra ac ea eb ch ty bi mk yb le gt hF hS hO hE hP hH hT hU hG hW hQ => ?_)
  have J : i_Rel (k + 7) (sc, oc, bt, bb, da, ag, lo, tp, sb, sd, tk, fw, fv, hv, sts, ops, opn, rg, kf, kk, th, ens, mv, mm, sps, ho, pb, pz, rc, mr, md, mt, gp, qc, qq, qe, lc, tq) (sc, oc, tl, tt, bt, ma, ol, tp, sb, sd, tk, dr, ay, gl, fw, fv, hv, ta, lk, go, ca, cv, cm, cg, opn, ow, oq, ox, rg, sw, sa, sz, sg, ho, kf, kk, ra, ac, ea, eb, ch, th, mv, mm, ty, bi, mk, rc, mr, md, mt, gp, yb, le, qc, qe, qq, tq, lc, gt) := sd_mk hF hS hO hE hP hH hT hU hG hW hQ
  unfold wpX_keys wpY_keys
  rcases sd_cl 4 v1 with h | h
  · exact sx_AR 4 h (sy_in0 3 h (sd_w0 ⟨rfl, J⟩))
  · refine sx_AT 4 h ?_
    rcases sd_cl 28 v2 with f | f
    · exact sx_field0 f (sd_w0 (sy_in1 3 h (sd_w1 (sy_field0 f (sd_w0 ⟨rfl, J⟩)))))
    · refine sx_field1 f (sd_w1 ?_)
      rcases sd_cl 3 v3 with c | c
      · exact sx_kind0 c (sd_w0 (sy_in1 3 h (sd_w1 (sy_field1 f (sd_w1 (sy_in0 2 c (sd_w0 ⟨rfl, J⟩)))))))
      · refine sx_kind1 c (sd_w1 ?_)
        obtain ⟨t, ht, rfl⟩ := id h
        have i1 : nI t * 2 = nI (2 * t) := (pk_mul t 2).trans (by rw [Nat.mul_comm])
        have i2 : 2 * nI t = nI (2 * t) := pk_mul 2 t
        have i3 : nI t * 2 + 1 = nI (2 * t + 1) := by rw [i1]; exact nI_add _ 1
        have i4 : 2 * nI t + 1 = nI (2 * t + 1) := by rw [i2]; exact nI_add _ 1
        by_cases m : v4 = -1
        · subst m
          refine br_t rfl (br_f sd_10 (sd_st (2 * t) i1 (by omega) (by decide) (sd_st (2 * t) i1 (by omega) (by decide) (sd_st (2 * t + 1) i3 (by omega) (by decide) (br_f sd_10 (sd_st (2 * t + 1) i3 (by omega) (by decide) (sx_kl ht ?_)))))))
          refine sy_in1 3 h (sd_w1 (sy_field1 f (sd_w1 (sy_in1 2 c (sd_w1 (sy_inm1 27 (Or.inl rfl) (sd_w1 (br_t (by decide) ?_))))))))
          exact sd_st (2 * t) i2 (by omega) (by decide) (sd_st (2 * t) i2 (by omega) (by decide) (sd_st (2 * t + 1) i4 (by omega) (by decide) (br_f (by decide) (sd_st (2 * t + 1) i4 (by omega) (by decide) (sy_kl ht ⟨rfl, sd_mk hF hS hO (sd_Ek hE ht f (Or.inl rfl) c (sd_r0 (by omega))) hP hH hT hU hG hW hQ⟩)))))
        · refine br_f m (br_t rfl ?_)
          rcases sd_cl 28 v4 with g | g
          · refine sx_field0 g (sd_w0 ?_)
            have g' : sd_rm 28 v4 := by
              rcases sd_clm 28 v4 with g' | g' | g'
              · exact g'
              · exact absurd g' m
              · exact absurd g (fun g => sd_nj (by decide) g g')
            exact sy_in1 3 h (sd_w1 (sy_field1 f (sd_w1 (sy_in1 2 c (sd_w1 (sy_inm0 27 g' (sd_w0 ⟨rfl, J⟩)))))))
          · refine sx_field1 g (sd_w1 ?_)
            have n0 : ¬ v4 < 0 := by
              obtain ⟨j, hj, rfl⟩ := g
              exact nI_pos (by omega)
            have p0 : 0 ≤ v4 := Int32.not_lt.mp n0
            rcases sd_cl 3 v5 with d | d
            · exact sx_kind0 d (sd_w0 (sy_in1 3 h (sd_w1 (sy_field1 f (sd_w1 (sy_in1 2 c (sd_w1 (sy_inm1 27 (Or.inr g) (sd_w1 (br_f n0 (sy_in0 2 d (sd_w0 ⟨rfl, J⟩))))))))))))
            · refine sx_kind1 d (sd_w1 (sd_st (2 * t) i1 (by omega) (by decide) (sd_st (2 * t) i1 (by omega) (by decide) (sd_st (2 * t + 1) i3 (by omega) (by decide) (br_t rfl (sd_st (2 * t + 1) i3 (by omega) (by decide) (sx_kl ht ?_)))))))
              refine sy_in1 3 h (sd_w1 (sy_field1 f (sd_w1 (sy_in1 2 c (sd_w1 (sy_inm1 27 (Or.inr g) (sd_w1 (br_f n0 (sy_in1 2 d (sd_w1 ?_))))))))))
              exact sd_st (2 * t) i2 (by omega) (by decide) (sd_st (2 * t) i2 (by omega) (by decide) (sd_st (2 * t + 1) i4 (by omega) (by decide) (br_t p0 (sd_st (2 * t + 1) i4 (by omega) (by decide) (sy_kl ht ⟨rfl, sd_mk hF hS hO (sd_Ek hE ht f (Or.inr g) c d) hP hH hT hU hG hW hQ⟩)))))
-- entry
theorem sx_el {post : Int32 → SX → Prop} {x : Nat} (hx : x < 52) (h : post 1 (sc, oc, bt, bb, da, ag, lo, tp, sb, sd, tk, fw, fv, hv, sts, ops, opn, rg, kf, kk, th, ens, (upd (upd mv (2 * x) 0) (2 * x + 1) 0), (upd (upd mm (2 * x) 0) (2 * x + 1) 0), sps, ho, pb, pz, rc, mr, md, mt, gp, qc, qq, qe, lc, tq)) : ∃ n, wX_entry_151 post (nI x) sc oc bt bb da ag lo tp sb sd tk n 0 fw fv hv sts ops opn rg kf kk th ens mv mm sps ho pb pz rc mr md mt gp qc qq qe lc tq := by
  have i1 : nI x * 2 + 0 = nI (2 * x) := (sd_ma x 2 0).trans (by rw [Nat.mul_comm]; rfl)
  have i2 : nI x * 2 + 1 = nI (2 * x + 1) := (sd_ma x 2 1).trans (by rw [Nat.mul_comm])
  refine ⟨3, br_f (by decide) (sd_st (2 * x) i1 (by omega) (by decide) (sd_st (2 * x) i1 (by omega) (by decide) (nm_r (e' := 1) (by decide) ?_)))⟩
  refine br_f (by decide) (sd_st (2 * x + 1) i2 (by omega) (by decide) (sd_st (2 * x + 1) i2 (by omega) (by decide) (nm_r (e' := 2) (by decide) ?_)))
  exact br_t (by decide) h
theorem sy_el {post : Int32 → SY → Prop} {x : Nat} (hx : x < 52) (h : post 1 (sc, oc, tl, tt, bt, ma, ol, tp, sb, sd, tk, dr, ay, gl, fw, fv, hv, ta, lk, go, ca, cv, cm, cg, opn, ow, oq, ox, rg, sw, sa, sz, sg, ho, kf, kk, ra, ac, ea, eb, ch, th, (upd (upd mv (2 * x) 0) (2 * x + 1) 0), (upd (upd mm (2 * x) 0) (2 * x + 1) 0), ty, bi, mk, rc, mr, md, mt, gp, yb, le, qc, qe, qq, tq, lc, gt)) : ∃ n, wY_entry_142 post (nI x) sc oc tl tt bt ma ol tp sb sd tk dr ay gl n (nI (2 * x)) fw fv hv ta lk go ca cv cm cg opn ow oq ox rg sw sa sz sg ho kf kk ra ac ea eb ch th mv mm ty bi mk rc mr md mt gp yb le qc qe qq tq lc gt := by
  have i2 : 2 * nI x + 2 = nI (2 * x + 2) := sd_am x 2 2
  refine ⟨3, br_f (by rw [i2]; exact nI_ge (by omega) (by omega)) (sd_st (2 * x) rfl (by omega) (by decide) (sd_st (2 * x) rfl (by omega) (by decide) (nm_r (nI_1 _) ?_)))⟩
  refine br_f (by rw [i2]; exact nI_ge (by omega) (by omega)) (sd_st (2 * x + 1) rfl (by omega) (by decide) (sd_st (2 * x + 1) rfl (by omega) (by decide) (nm_r (nI_1 _) ?_)))
  exact br_t (by rw [i2]; exact nI_le (by omega) (by omega)) h
/-- the default of a table is set -/
theorem sd_Ed (hE : sd_E kf kk th ens mm ra ac ea eb ch) {x : Nat} (hx : x < 52) {a p q : Int32} (ha : sd_rg 8 a) :
    sd_E kf kk th (upd (upd (upd ens (x * 5 + 1) a) (x * 5 + 2) p) (x * 5 + 3) q) mm ra (upd ac x a) (upd ea x p) (upd eb x q) ch := by
  refine ⟨hE.1, hE.2.1, fun y hy => ?_, hE.2.2.2⟩
  by_cases e : y = x
  · subst e
    have g := hE.2.2.1 y hy
    simp (disch := omega) only [pk_us, pk_un]
    exact ⟨⟨g.1.1, trivial, trivial, trivial, g.1.2.2.2.2⟩, g.2.1, ha⟩
  · simp (disch := omega) only [pk_un]
    exact hE.2.2.1 y hy
theorem sd_En (hE : sd_E kf kk th ens mm ra ac ea eb ch) {t e : Nat} (ht : t < 4) (he : e < 12) {r : Int32} (hr : sd_rg 16 r) :
    sd_E kf kk (upd th (13 * t + e) 1) (upd (upd ens ((13 * t + e) * 5 + 0) r) ((13 * t + e) * 5 + 4) 0) (upd (upd mm (2 * (13 * t + e)) 0) (2 * (13 * t + e) + 1) 0) (upd ra (13 * t + e) r) ac ea eb (upd ch (13 * t + e) 0) := by
  refine ⟨hE.1, hE.2.1, fun y hy => ?_, fun s hs d hd h c hc hk => ?_⟩
  · by_cases z : y = 13 * t + e
    · subst z
      have g := hE.2.2.1 (13 * t + e) hy
      simp (disch := omega) only [pk_us, pk_un]
      exact ⟨⟨trivial, g.1.2.1, g.1.2.2.1, g.1.2.2.2.1, trivial⟩, hr, g.2.2⟩
    · simp (disch := omega) only [pk_un]
      exact hE.2.2.1 y hy
  · by_cases z : 13 * s + d = 13 * t + e
    · have : c = 0 ∨ c = 1 := by omega
      rw [z]
      rcases this with rfl | rfl
      · rw [pk_un (by omega), Nat.add_zero, pk_us]
        exact sd_r0 (by omega)
      · rw [pk_us]
        exact sd_r0 (by omega)
    · rw [pk_un z] at h
      rw [pk_un (by omega), pk_un (by omega)]
      exact hE.2.2.2 s hs d hd h c hc hk
theorem i_vc_entry {k : Nat} {u : SX} {v : SY} (I : i_Rel k u v) (hk : k + 7 ≤ 3584) (v1 : Int32) (v2 : Int32) (v3 : Int32) (v4 : Int32) (v5 : Int32) (v6 : Int32) : wpX_entry (fun r u' => wpY_entry (fun r' v' => r' = r ∧ i_Rel (k + 7) u' v') v v1 v2 v3 v4 v5 v6) u v1 v2 v3 v4 v5 v6 := by
  refine sd_el (C := fun u v => wpX_entry (fun r u' => wpY_entry (fun r' v' => r' = r ∧ i_Rel (k + 7) u' v') v v1 v2 v3 v4 v5 v6) u v1 v2 v3 v4 v5 v6) I (fun sc oc bt bb da ag lo tp sb sd tk tl tt ma ol dr ay gl fw fv hv sts ops opn rg kf kk th ens mv mm sps ho pb pz rc mr md mt gp qc qq qe lc tq ta lk go ca cv cm cg ow oq ox sw sa sz sg ra ac ea eb ch ty bi mk yb le gt hF hS hO hE hP hH hT hU hG hW hQ => ?_)
  have J : i_Rel (k + 7) (sc, oc, bt, bb, da, ag, lo, tp, sb, sd, tk, fw, fv, hv, sts, ops, opn, rg, kf, kk, th, ens, mv, mm, sps, ho, pb, pz, rc, mr, md, mt, gp, qc, qq, qe, lc, tq) (sc, oc, tl, tt, bt, ma, ol, tp, sb, sd, tk, dr, ay, gl, fw, fv, hv, ta, lk, go, ca, cv, cm, cg, opn, ow, oq, ox, rg, sw, sa, sz, sg, ho, kf, kk, ra, ac, ea, eb, ch, th, mv, mm, ty, bi, mk, rc, mr, md, mt, gp, yb, le, qc, qe, qq, tq, lc, gt) := sd_mk hF hS hO hE hP hH hT hU hG hW hQ
  unfold wpX_entry
  rcases sd_cl 4 v1 with h | h
  · refine sx_AR 4 h ?_
    unfold wpY_entry
    exact sy_in0 3 h (sd_w0 ⟨rfl, J⟩)
  · refine sx_AT 4 h ?_
    rcases sd_clm 12 v2 with e | e
    · refine sx_NR 12 e ?_
      unfold wpY_entry
      exact sy_in1 3 h (sd_w1 (sy_inm0 11 e (sd_w0 ⟨rfl, J⟩)))
    · refine sx_NT 12 e ?_
      -- what Y asks behind the first two tests
      have Y : ∀ {post : Int32 → SY → Prop}, (v2 < 0 → wY_entry_33 post v1 v2 v3 v4 v5 v6 sc oc tl tt bt ma ol tp sb sd tk dr ay gl fw fv hv ta lk go ca cv cm cg opn ow oq ox rg sw sa sz sg ho kf kk ra ac ea eb ch th mv mm ty bi mk rc mr md mt gp yb le qc qe qq tq lc gt) → (¬ v2 < 0 → wpY_in (fun r_34 => (((r_34 = 0 → (post 0 (sc, oc, tl, tt, bt, ma, ol, tp, sb, sd, tk, dr, ay, gl, fw, fv, hv, ta, lk, go, ca, cv, cm, cg, opn, ow, oq, ox, rg, sw, sa, sz, sg, ho, kf, kk, ra, ac, ea, eb, ch, th, mv, mm, ty, bi, mk, rc, mr, md, mt, gp, yb, le, qc, qe, qq, tq, lc, gt))) ∧ (¬ r_34 = 0 → (wY_entry_33 post v1 v2 v3 v4 v5 v6 sc oc tl tt bt ma ol tp sb sd tk dr ay gl fw fv hv ta lk go ca cv cm cg opn ow oq ox rg sw sa sz sg ho kf kk ra ac ea eb ch th mv mm ty bi mk rc mr md mt gp yb le qc qe qq tq lc gt))))) v3 0 15) → wpY_entry post (sc, oc, tl, tt, bt, ma, ol, tp, sb, sd, tk, dr, ay, gl, fw, fv, hv, ta, lk, go, ca, cv, cm, cg, opn, ow, oq, ox, rg, sw, sa, sz, sg, ho, kf, kk, ra, ac, ea, eb, ch, th, mv, mm, ty, bi, mk, rc, mr, md, mt, gp, yb, le, qc, qe, qq, tq, lc, gt) v1 v2 v3 v4 v5 v6 := by
        intro post a b
        unfold wpY_entry
        exact sy_in1 3 h (sd_w1 (sy_inm1 11 e (sd_w1 (br_c a b))))
      have Z : ∀ {post : Int32 → SY → Prop}, post 0 (sc, oc, tl, tt, bt, ma, ol, tp, sb, sd, tk, dr, ay, gl, fw, fv, hv, ta, lk, go, ca, cv, cm, cg, opn, ow, oq, ox, rg, sw, sa, sz, sg, ho, kf, kk, ra, ac, ea, eb, ch, th, mv, mm, ty, bi, mk, rc, mr, md, mt, gp, yb, le, qc, qe, qq, tq, lc, gt) → (sd_rj 8 v4 ∨ sd_rj 65536 v5 ∨ sd_rj 65536 v6) → wY_entry_33 post v1 v2 v3 v4 v5 v6 sc oc tl tt bt ma ol tp sb sd tk dr ay gl fw fv hv ta lk go ca cv cm cg opn ow oq ox rg sw sa sz sg ho kf kk ra ac ea eb ch th mv mm ty bi mk rc mr md mt gp yb le qc qe qq tq lc gt := by
        intro post p w
        unfold wY_entry_33
        rcases sd_cl 8 v4 with a | a
        · exact sy_in0 7 a (sd_w0 p)
        · refine sy_in1 7 a (sd_w1 ?_)
          rcases sd_cl 65536 v5 with b | b
          · exact sy_word0 b (sd_w0 p)
          · refine sy_word1 b (sd_w1 ?_)
            rcases sd_cl 65536 v6 with c | c
            · exact sy_word0 c (sd_w0 p)
            · exfalso
              rcases w with w | w | w
              · exact sd_nj (by decide) w a
              · exact sd_nj (by decide) w b
              · exact sd_nj (by decide) w c
      have ZZ : (sd_rj 8 v4 ∨ sd_rj 65536 v5 ∨ sd_rj 65536 v6) → wpY_entry (fun r' v' => r' = 0 ∧ i_Rel (k + 7) (sc, oc, bt, bb, da, ag, lo, tp, sb, sd, tk, fw, fv, hv, sts, ops, opn, rg, kf, kk, th, ens, mv, mm, sps, ho, pb, pz, rc, mr, md, mt, gp, qc, qq, qe, lc, tq) v') (sc, oc, tl, tt, bt, ma, ol, tp, sb, sd, tk, dr, ay, gl, fw, fv, hv, ta, lk, go, ca, cv, cm, cg, opn, ow, oq, ox, rg, sw, sa, sz, sg, ho, kf, kk, ra, ac, ea, eb, ch, th, mv, mm, ty, bi, mk, rc, mr, md, mt, gp, yb, le, qc, qe, qq, tq, lc, gt) v1 v2 v3 v4 v5 v6 := by
        intro w
        refine Y (fun _ => Z ⟨rfl, J⟩ w) (fun _ => ?_)
        rcases sd_cl 16 v3 with r | r
        · exact sy_in0 15 r (sd_w0 ⟨rfl, J⟩)
        · exact sy_in1 15 r (sd_w1 (Z ⟨rfl, J⟩ w))
      rcases sd_cl 8 v4 with a | a
      · exact sx_AR 8 a (ZZ (Or.inl a))
      · refine sx_AT 8 a ?_
        rcases sd_cl 65536 v5 with b | b
        · exact sx_word0 b (sd_w0 (ZZ (Or.inr (Or.inl b))))
        · refine sx_word1 b (sd_w1 ?_)
          rcases sd_cl 65536 v6 with c | c
          · exact sx_word0 c (sd_w0 (ZZ (Or.inr (Or.inr c))))
          · refine sx_word1 c (sd_w1 ?_)
            obtain ⟨t, ht, rfl⟩ := id h
            rcases e with rfl | ⟨e, he, rfl⟩
            · refine br_t rfl ?_
              unfold wX_entry_69
              have i0 : nI t * 13 + 12 = nI (13 * t + 12) := sd_13' t 12
              refine br_t rfl (nm_r (e' := nI ((13 * t + 12) * 5)) (by rw [i0]; exact pk_mul _ 5) (sd_st ((13 * t + 12) * 5 + 1) (nI_add _ 1) (by omega) (by decide) (sd_st ((13 * t + 12) * 5 + 2) (nI_add _ 2) (by omega) (by decide) (sd_st ((13 * t + 12) * 5 + 3) (nI_add _ 3) (by omega) (by decide) (br_t rfl ?_)))))
              refine Y (fun _ => ?_) (fun z => absurd (by decide) z)
              unfold wY_entry_33
              refine sy_in1 7 a (sd_w1 (sy_word1 b (sd_w1 (sy_word1 c (sd_w1 (br_f (by decide) (nm_r (e' := nI (13 * t + 12)) (sd_13 t 12) (sd_st (13 * t + 12) rfl (by omega) (by decide) (sd_st (13 * t + 12) rfl (by omega) (by decide) (sd_st (13 * t + 12) rfl (by omega) (by decide) (br_f (by decide) ⟨rfl, sd_mk hF hS hO (sd_Ed hE (by omega) a) hP hH hT hU hG hW hQ⟩)))))))))))
            · have n1 : ¬ nI e = -1 := sd_ne (by omega)
              have n0 : ¬ nI e < 0 := nI_pos (by omega)
              have p0 : 0 ≤ nI e := Int32.not_lt.mp n0
              refine br_f n1 ?_
              rcases sd_cl 16 v3 with r | r
              · exact sx_CR 15 r (Y (fun z => absurd z n0) (fun _ => sy_in0 15 r (sd_w0 ⟨rfl, J⟩)))
              · refine sx_CT 15 r ?_
                unfold wX_entry_69
                refine br_f n1 (nm_r (e' := nI ((13 * t + e) * 5)) (by rw [sd_13']; exact pk_mul _ 5) (sd_st ((13 * t + e) * 5 + 1) (nI_add _ 1) (by omega) (by decide) (sd_st ((13 * t + e) * 5 + 2) (nI_add _ 2) (by omega) (by decide) (sd_st ((13 * t + e) * 5 + 3) (nI_add _ 3) (by omega) (by decide) (br_f n1 ?_)))))
                rw [sd_13', sd_b1]
                refine sd_st (13 * t + e) rfl (by omega) (by decide) (sd_st ((13 * t + e) * 5 + 0) (nI_add _ 0) (by omega) (by decide) (sd_st ((13 * t + e) * 5 + 4) (nI_add _ 4) (by omega) (by decide) (sx_el (by omega) ?_)))
                refine Y (fun z => absurd z n0) (fun _ => sy_in1 15 r (sd_w1 ?_))
                unfold wY_entry_33
                refine sy_in1 7 a (sd_w1 (sy_word1 b (sd_w1 (sy_word1 c (sd_w1 (br_t p0 (nm_r (e' := nI (13 * t + e)) (sd_13 t e) (sd_st (13 * t + e) rfl (by omega) (by decide) (sd_st (13 * t + e) rfl (by omega) (by decide) (sd_st (13 * t + e) rfl (by omega) (by decide) (br_t p0 (sd_st (13 * t + e) rfl (by omega) (by decide) ?_))))))))))))
                rw [sd_b1]
                refine sd_st (13 * t + e) rfl (by omega) (by decide) (sd_st (13 * t + e) rfl (by omega) (by decide) (nm_r (pk_mul 2 (13 * t + e)) (sy_el (by omega) ⟨rfl, sd_mk hF hS hO (sd_En (sd_Ed hE (by omega) a) ht he r) hP hH hT hU hG hW hQ⟩)))
end
end
section
section
variable {sc oc bt bb da ag lo tp sb sd tk : Int32} {fw fv hv sts ops opn rg kf kk th ens mv mm sps ho pb pz rc mr md mt gp qc qq qe lc tq : Nat → Int32} {tl tt ma ol dr ay gl : Int32} {ta lk go ca cv cm cg ow oq ox sw sa sz sg ra ac ea eb ch ty bi mk yb le gt : Nat → Int32}
/-- the first i bytes of slot f are copied into slot t -/
def sd_cp (pb : Nat → Int32) (f t : Nat) : Nat → (Nat → Int32)
  | 0 => pb
  | i + 1 => upd (sd_cp pb f t i) (t * 16 + i) (sd_cp pb f t i (f * 16 + i))
theorem sd_cpo {f t : Nat} : ∀ (i j : Nat), (j < t * 16 ∨ t * 16 + i ≤ j) → sd_cp pb f t i j = pb j
  | 0, j, h => rfl
  | i + 1, j, h => by
    show upd (sd_cp pb f t i) (t * 16 + i) _ j = _
    rw [pk_un (by omega)]
    exact sd_cpo i j (by omega)
theorem sd_cpi {f t : Nat} (h : f ≠ t) : ∀ (i : Nat), i ≤ 16 → ∀ j, j < i → sd_cp pb f t i (t * 16 + j) = pb (f * 16 + j)
  | 0, _, j, hj => absurd hj (by omega)
  | i + 1, hi, j, hj => by
    show upd (sd_cp pb f t i) (t * 16 + i) (sd_cp pb f t i (f * 16 + i)) (t * 16 + j) = _
    by_cases e : j = i
    · subst e
      rw [pk_us]
      exact sd_cpo j (f * 16 + j) (by omega)
    · rw [pk_un (by omega)]
      exact sd_cpi h i (by omega) j (by omega)
theorem sx_copy {post : SX → Prop} {f t L : Nat} (hf : f < 52) (ht : t < 52) (hL : L ≤ 16) (hz : pz f = nI L) (h : post (sc, oc, bt, bb, da, ag, lo, tp, sb, sd, tk, fw, fv, hv, sts, ops, opn, rg, kf, kk, th, ens, mv, mm, sps, ho, (sd_cp pb f t L), (upd pz t (nI L)), rc, mr, md, mt, gp, qc, qq, qe, lc, tq)) : wpX_copyPacket post (sc, oc, bt, bb, da, ag, lo, tp, sb, sd, tk, fw, fv, hv, sts, ops, opn, rg, kf, kk, th, ens, mv, mm, sps, ho, pb, pz, rc, mr, md, mt, gp, qc, qq, qe, lc, tq) (nI f) (nI t) := by
  refine ⟨vp_in_nI hf (by decide), ?_⟩
  rw [nI_clamp (by omega), hz]
  refine nm_e (sd_st t rfl ht (by decide) ?_)
  exact sd_lp (fun n i s => wX_copyPacket_17 post (nI f) (nI t) (nI L) sc oc bt bb da ag lo tp sb sd tk n (nI i) fw fv hv sts ops opn rg kf kk th ens mv mm sps ho s (upd pz t (nI L)) rc mr md mt gp qc qq qe lc tq) (fun i => sd_cp pb f t i) L 0 (by omega) (fun n => br_t (nI_le (Nat.le_refl _) (by omega)) h)
    (fun n i _ hi ih => br_f (nI_ge hi (by omega)) ⟨by
      have e : nI f * 16 + nI i = nI (f * 16 + i) := sd_ma f 16 i
      rw [e]
      exact vp_in_nI (by omega) (by decide), by
      have e : nI f * 16 + nI i = nI (f * 16 + i) := sd_ma f 16 i
      rw [e, nI_clamp (n := f * 16 + i) (by omega)]
      exact sd_st (t * 16 + i) (sd_ma t 16 i) (by omega) (by decide) (nm_r (nI_1 i) ih)⟩)
/-- what takeFirst makes of the packets of queue q that has C + 1 of them -/
def sd_K (q C : Nat) (pb pz pb' pz' : Nat → Int32) : Prop :=
  (pz' 51 = pz (q * 4) ∧ ∀ j, j < (pz (q * 4)).toNatClampNeg → pb' (816 + j) = pb (q * 4 * 16 + j)) ∧
  (∀ i, i < C → pz' (q * 4 + i) = pz (q * 4 + i + 1) ∧ ∀ j, j < (pz (q * 4 + i + 1)).toNatClampNeg → pb' ((q * 4 + i) * 16 + j) = pb ((q * 4 + i + 1) * 16 + j)) ∧
  (∀ s, s < 51 → (s < q * 4 ∨ q * 4 + C ≤ s) → pz' s = pz s ∧ ∀ j, j < 16 → pb' (s * 16 + j) = pb (s * 16 + j))
theorem sx_take {post : SX → Prop} {q C : Nat} (hq : q < 12) (hC : C < 4) (hc : qc q = nI (C + 1)) (hL : ∀ i, i < C + 1 → ∃ L : Nat, L ≤ 16 ∧ pz (q * 4 + i) = nI L)
    (h : ∀ pb' pz', sd_K q C pb pz pb' pz' → post (sc, oc, bt, bb, da, ag, lo, tp, sb, sd, tk, fw, fv, hv, sts, ops, opn, rg, kf, kk, th, ens, mv, mm, sps, ho, pb', pz', rc, mr, md, mt, gp, (upd qc q (nI C)), qq, qe, lc, tq)) : wpX_takeFirst post (sc, oc, bt, bb, da, ag, lo, tp, sb, sd, tk, fw, fv, hv, sts, ops, opn, rg, kf, kk, th, ens, mv, mm, sps, ho, pb, pz, rc, mr, md, mt, gp, qc, qq, qe, lc, tq) (nI q) := by
  unfold wpX_takeFirst
  obtain ⟨L0, hL0, hz0⟩ := hL 0 (by omega)
  refine nm_r (pk_mul q 4) ?_
  refine sx_copy (f := q * 4) (t := 51) (by omega) (by omega) hL0 hz0 ?_
  refine ⟨vp_in_nI hq (by decide), ?_⟩
  rw [nI_clamp (by omega), hc]
  refine nm_r (nI_pred C) ?_
  refine ⟨C + 1, loop_i (fun n i (s : (Nat → Int32) × (Nat → Int32)) => wX_takeFirst_23 post (nI q) (nI (q * 4)) (nI C) n (nI i) sc oc bt bb da ag lo tp sb sd tk fw fv hv sts ops opn rg kf kk th ens mv mm sps ho s.1 s.2 rc mr md mt gp qc qq qe lc tq)
    (fun i s => (s.2 51 = nI L0 ∧ ∀ j, j < L0 → s.1 (816 + j) = pb (q * 4 * 16 + j)) ∧
      (∀ a, a < i → s.2 (q * 4 + a) = pz (q * 4 + a + 1) ∧ ∀ j, j < (pz (q * 4 + a + 1)).toNatClampNeg → s.1 ((q * 4 + a) * 16 + j) = pb ((q * 4 + a + 1) * 16 + j)) ∧
      (∀ t, t < 51 → (t < q * 4 ∨ q * 4 + i ≤ t) → s.2 t = pz t ∧ ∀ j, j < 16 → s.1 (t * 16 + j) = pb (t * 16 + j))) C ?_ ?_ (C + 1) 0 (sd_cp pb (q * 4) 51 L0, upd pz 51 (nI L0)) (by omega) (by omega) ?_⟩
  · intro n s ⟨h1, h2, h3⟩
    refine br_t (nI_le (Nat.le_refl _) (by omega)) (sd_st q rfl hq (by decide) (h s.1 s.2 ⟨⟨h1.1.trans hz0.symm, fun j hj => h1.2 j ?_⟩, h2, h3⟩))
    have e : pz (q * 4) = nI L0 := hz0
    rw [e, nI_clamp (by omega)] at hj
    exact hj
  · intro n i s hi ⟨h1, h2, h3⟩ ih
    refine br_f (nI_ge hi (by omega)) ?_
    obtain ⟨L, hL1, hL2⟩ := hL (i + 1) (by omega)
    have g := h3 (q * 4 + i + 1) (by omega) (by omega)
    have e1 : nI (q * 4) + nI i = nI (q * 4 + i) := nI_add _ _
    have e2 : nI (q * 4) + nI i + 1 = nI (q * 4 + i + 1) := by rw [e1]; exact nI_1 _
    rw [e2, e1]
    refine sx_copy (f := q * 4 + i + 1) (t := q * 4 + i) (by omega) (by omega) hL1 (g.1.trans hL2) (nm_r (nI_1 i) (ih (sd_cp s.1 (q * 4 + i + 1) (q * 4 + i) L, upd s.2 (q * 4 + i) (nI L)) ⟨?_, ?_, ?_⟩))
    · refine ⟨?_, fun j hj => ?_⟩
      · show upd s.2 (q * 4 + i) (nI L) 51 = _
        rw [pk_un (by omega)]; exact h1.1
      · show sd_cp s.1 (q * 4 + i + 1) (q * 4 + i) L (816 + j) = _
        rw [sd_cpo L (816 + j) (by omega)]; exact h1.2 j hj
    · intro a ha
      by_cases e : a = i
      · subst e
        refine ⟨?_, fun j hj => ?_⟩
        · show upd s.2 (q * 4 + a) (nI L) (q * 4 + a) = _
          rw [pk_us]; exact hL2.symm
        · show sd_cp s.1 (q * 4 + a + 1) (q * 4 + a) L ((q * 4 + a) * 16 + j) = _
          have e : pz (q * 4 + a + 1) = nI L := hL2
          rw [e, nI_clamp (by omega)] at hj
          rw [sd_cpi (by omega) L hL1 j hj]
          exact g.2 j (by omega)
      · refine ⟨?_, fun j hj => ?_⟩
        · show upd s.2 (q * 4 + i) (nI L) (q * 4 + a) = _
          rw [pk_un (by omega)]; exact (h2 a (by omega)).1
        · show sd_cp s.1 (q * 4 + i + 1) (q * 4 + i) L ((q * 4 + a) * 16 + j) = _
          obtain ⟨L', hL1', hL2'⟩ := hL (a + 1) (by omega)
          have e : pz (q * 4 + a + 1) = nI L' := hL2'
          have hj' := hj
          rw [e, nI_clamp (by omega)] at hj'
          rw [sd_cpo L _ (by omega)]; exact (h2 a (by omega)).2 j hj
    · intro t ht hb
      refine ⟨?_, fun j hj => ?_⟩
      · show upd s.2 (q * 4 + i) (nI L) t = _
        rw [pk_un (by omega)]; exact (h3 t ht (by omega)).1
      · show sd_cp s.1 (q * 4 + i + 1) (q * 4 + i) L (t * 16 + j) = _
        rw [sd_cpo L _ (by omega)]; exact (h3 t ht (by omega)).2 j hj
  · dsimp only
    refine ⟨⟨pk_us, fun j hj => ?_⟩, fun a ha => absurd ha (by omega), fun t ht _ => ⟨pk_un (by omega), fun j hj => ?_⟩⟩
    · exact sd_cpi (t := 51) (by omega) L0 hL0 j hj
    · exact sd_cpo L0 _ (by omega)
-- Y's pull
def sd_gt (yb : Nat → Int32) (q : Nat) (gt : Nat → Int32) : Nat → (Nat → Int32)
  | 0 => gt
  | i + 1 => upd (sd_gt yb q gt i) i (yb (64 * q + i))
theorem sd_gti {q : Nat} : ∀ (i j : Nat), j < i → sd_gt yb q gt i j = yb (64 * q + j)
  | 0, j, h => absurd h (by omega)
  | i + 1, j, h => by
    show upd (sd_gt yb q gt i) i (yb (64 * q + i)) j = _
    by_cases e : j = i
    · subst e; rw [pk_us]
    · rw [pk_un e]; exact sd_gti i j (by omega)
/-- c cells from b on move down by d -/
def sd_sh (a : Nat → Int32) (b d : Nat) : Nat → (Nat → Int32)
  | 0 => a
  | i + 1 => upd (sd_sh a b d i) (b + i) (sd_sh a b d i (b + i + d))
theorem sd_sho {a : Nat → Int32} {b d : Nat} : ∀ (i j : Nat), (j < b ∨ b + i ≤ j) → sd_sh a b d i j = a j
  | 0, j, h => rfl
  | i + 1, j, h => by
    show upd (sd_sh a b d i) (b + i) _ j = _
    rw [pk_un (by omega)]
    exact sd_sho i j (by omega)
theorem sd_shi {a : Nat → Int32} {b d : Nat} (hd : 0 < d) : ∀ (i j : Nat), j < i → sd_sh a b d i (b + j) = a (b + j + d)
  | 0, j, h => absurd h (by omega)
  | i + 1, j, h => by
    show upd (sd_sh a b d i) (b + i) (sd_sh a b d i (b + i + d)) (b + j) = _
    by_cases e : j = i
    · subst e; rw [pk_us]; exact sd_sho j _ (by omega)
    · rw [pk_un (by omega)]; exact sd_shi hd i j (by omega)
theorem sy_p111 {post : Int32 → SY → Prop} {q : Nat} (hq : q < 12) (h : post gl (sc, oc, tl, tt, bt, ma, ol, tp, sb, sd, tk, dr, ay, gl, fw, fv, hv, ta, lk, go, ca, cv, cm, cg, opn, ow, oq, ox, rg, sw, sa, sz, sg, ho, kf, kk, ra, ac, ea, eb, ch, th, mv, mm, ty, bi, mk, rc, mr, md, mt, gp, (sd_sh yb (64 * q) 16 48), le, qc, qe, qq, tq, lc, gt)) : ∃ n, wY_pull_111 post (nI q) sc oc tl tt bt ma ol tp sb sd tk dr ay gl n (nI (64 * q)) fw fv hv ta lk go ca cv cm cg opn ow oq ox rg sw sa sz sg ho kf kk ra ac ea eb ch th mv mm ty bi mk rc mr md mt gp yb le qc qe qq tq lc gt := by
  have e : 64 * nI q + 48 = nI (64 * q + 48) := sd_am q 64 48
  refine sd_lp (fun n i s => wY_pull_111 post (nI q) sc oc tl tt bt ma ol tp sb sd tk dr ay gl n (nI (64 * q + i)) fw fv hv ta lk go ca cv cm cg opn ow oq ox rg sw sa sz sg ho kf kk ra ac ea eb ch th mv mm ty bi mk rc mr md mt gp s le qc qe qq tq lc gt) (fun i => sd_sh yb (64 * q) 16 i) 48 0 (by omega) (fun n => br_t (by rw [e]; exact nI_le (Nat.le_refl _) (by omega)) h)
    (fun n i _ hi ih => br_f (by rw [e]; exact nI_ge (by omega) (by omega)) ⟨?_, ?_⟩)
  · have e2 : nI (64 * q + i) + 16 = nI (64 * q + i + 16) := nI_add _ 16
    rw [e2]; exact vp_in_nI (by omega) (by decide)
  · have e2 : nI (64 * q + i) + 16 = nI (64 * q + i + 16) := nI_add _ 16
    rw [e2, nI_clamp (n := 64 * q + i + 16) (by omega)]
    exact sd_st (64 * q + i) rfl (by omega) (by decide) (nm_r (nI_1 _) ih)
theorem sy_p72 {post : Int32 → SY → Prop} {q C : Nat} (hq : q < 12) (hC : C < 4) (hc : qc q = nI C) (h : post gl (sc, oc, tl, tt, bt, ma, ol, tp, sb, sd, tk, dr, ay, gl, fw, fv, hv, ta, lk, go, ca, cv, cm, cg, opn, ow, oq, ox, rg, sw, sa, sz, sg, ho, kf, kk, ra, ac, ea, eb, ch, th, mv, mm, ty, bi, mk, rc, mr, md, mt, gp, (sd_sh yb (64 * q) 16 48), (sd_sh le (4 * q) 1 C), qc, qe, qq, tq, lc, gt)) : ∃ n, wY_pull_72 post (nI q) sc oc tl tt bt ma ol tp sb sd tk dr ay gl n (nI (4 * q)) fw fv hv ta lk go ca cv cm cg opn ow oq ox rg sw sa sz sg ho kf kk ra ac ea eb ch th mv mm ty bi mk rc mr md mt gp yb le qc qe qq tq lc gt := by
  have e : 4 * nI q + nI C = nI (4 * q + C) := sd_am q 4 C
  refine sd_lp (fun n i s => wY_pull_72 post (nI q) sc oc tl tt bt ma ol tp sb sd tk dr ay gl n (nI (4 * q + i)) fw fv hv ta lk go ca cv cm cg opn ow oq ox rg sw sa sz sg ho kf kk ra ac ea eb ch th mv mm ty bi mk rc mr md mt gp yb s qc qe qq tq lc gt) (fun i => sd_sh le (4 * q) 1 i) C 0 (by omega) (fun n => ⟨vp_in_nI hq (by decide), ?_⟩)
    (fun n i _ hi ih => ⟨vp_in_nI hq (by decide), ?_⟩)
  · rw [nI_clamp (n := q) (by omega), hc, e]
    exact br_t (nI_le (Nat.le_refl _) (by omega)) (nm_r (pk_mul 64 q) (sy_p111 hq h))
  · rw [nI_clamp (n := q) (by omega), hc, e]
    refine br_f (nI_ge (by omega) (by omega)) ?_
    have e2 : nI (4 * q + i) + 1 = nI (4 * q + i + 1) := nI_1 _
    rw [e2, nI_clamp (n := 4 * q + i + 1) (by omega)]
    exact ⟨vp_in_nI (by omega) (by decide), sd_st (4 * q + i) rfl (by omega) (by decide) (nm_e ih)⟩
theorem sy_pull {post : Int32 → SY → Prop} {q C : Nat} (hq : q < 12) (hC : C < 4) (hc : qc q = nI (C + 1))
    (h : post (le (4 * q)) (sc, oc, tl, tt, bt, ma, ol, tp, sb, sd, tk, dr, ay, (le (4 * q)), fw, fv, hv, ta, lk, go, ca, cv, cm, cg, opn, ow, oq, ox, rg, sw, sa, sz, sg, ho, kf, kk, ra, ac, ea, eb, ch, th, mv, mm, ty, bi, mk, rc, mr, md, mt, gp, (sd_sh yb (64 * q) 16 48), (sd_sh le (4 * q) 1 C), (upd qc q (nI C)), (upd qe q (qe q - (4 + le (4 * q)))), qq, tq, lc, (sd_gt yb q gt 16))) : wpY_pull post (sc, oc, tl, tt, bt, ma, ol, tp, sb, sd, tk, dr, ay, gl, fw, fv, hv, ta, lk, go, ca, cv, cm, cg, opn, ow, oq, ox, rg, sw, sa, sz, sg, ho, kf, kk, ra, ac, ea, eb, ch, th, mv, mm, ty, bi, mk, rc, mr, md, mt, gp, yb, le, qc, qe, qq, tq, lc, gt) (nI q) := by
  unfold wpY_pull
  have e4 : 4 * nI q = nI (4 * q) := pk_mul 4 q
  rw [e4, nI_clamp (n := 4 * q) (by omega)]
  refine ⟨vp_in_nI (by omega) (by decide), nm_e ⟨vp_in_nI hq (by decide), ?_⟩⟩
  rw [nI_clamp (n := q) (by omega)]
  refine ⟨vp_in_nI hq (by decide), nm_e ?_⟩
  refine sd_lp (fun n i s => wY_pull_29 post (nI q) sc oc tl tt bt ma ol tp sb sd tk dr ay (le (4 * q)) n (nI i) fw fv hv ta lk go ca cv cm cg opn ow oq ox rg sw sa sz sg ho kf kk ra ac ea eb ch th mv mm ty bi mk rc mr md mt gp yb le qc (upd qe q (qe q - (4 + le (4 * q)))) qq tq lc s) (fun i => sd_gt yb q gt i) 16 0 (by omega) (fun n => br_t (nI_le (a := 16) (b := 16) (Nat.le_refl _) (by omega)) ⟨vp_in_nI hq (by decide), ?_⟩)
    (fun n i _ hi ih => br_f (nI_ge (b := 16) hi (by omega)) ?_)
  · rw [nI_clamp (n := q) (by omega), hc, nI_pred, e4]
    exact ⟨vp_in_nI hq (by decide), nm_e (nm_e (sy_p72 hq hC pk_us h))⟩
  · have e : 64 * nI q + nI i = nI (64 * q + i) := sd_am q 64 i
    rw [e, nI_clamp (n := 64 * q + i) (by omega)]
    exact ⟨vp_in_nI (by omega) (by decide), sd_st i rfl hi (by decide) (nm_r (nI_1 i) ih)⟩
end
end
section
section
variable {sc oc bt bb da ag lo tp sb sd tk : Int32} {fw fv hv sts ops opn rg kf kk th ens mv mm sps ho pb pz rc mr md mt gp qc qq qe lc tq : Nat → Int32} {tl tt ma ol dr ay gl : Int32} {ta lk go ca cv cm cg ow oq ox sw sa sz sg ra ac ea eb ch ty bi mk yb le gt : Nat → Int32}
def sd_pe (qc qe : Nat → Int32) (p c : Nat) : Nat → Int32 := if qc (3 * p + c) = 0 then upd qe (3 * p + c) 0 else qe
def sd_pq (qc qq qe : Nat → Int32) (p c : Nat) : Nat → Int32 := upd (sd_pe qc qe p c) (3 * p + (c + 1) % 3) (sd_pe qc qe p c (3 * p + (c + 1) % 3) + qq (3 * p + (c + 1) % 3))
theorem sd_3' (p c : Nat) : nI p * 3 + nI c = nI (3 * p + c) := (sd_ma p 3 c).trans (by rw [Nat.mul_comm])
theorem sd_3 (p c : Nat) : 3 * nI p + nI c = nI (3 * p + c) := sd_am p 3 c
theorem sd_r3 {c : Nat} (hc : c < 3) : nI c + 1 - (nI c + 1) / 3 * 3 = nI ((c + 1) % 3) := by
  rw [nI_1]
  exact pk_rem (d := 3) (by omega) (by decide) (by decide)
theorem sx_p27 {post : SX → Prop} {p c : Nat} (hp : p < 4) (hc : c < 3) (ht : tq p = nI c) (h : post (sc, oc, bt, bb, da, ag, lo, tp, sb, sd, tk, fw, fv, hv, sts, ops, opn, rg, kf, kk, th, ens, mv, mm, sps, ho, pb, pz, rc, mr, md, mt, gp, qc, qq, (upd qe (3 * p + (c + 1) % 3) (qe (3 * p + (c + 1) % 3) + qq (3 * p + (c + 1) % 3))), lc, (upd tq p (nI ((c + 1) % 3))))) : wX_passTurn_27 post (nI p) sc oc bt bb da ag lo tp sb sd tk fw fv hv sts ops opn rg kf kk th ens mv mm sps ho pb pz rc mr md mt gp qc qq qe lc tq := by
  refine ⟨vp_in_nI hp (by decide), by decide, ?_⟩
  rw [nI_clamp (n := p) (by omega), ht, sd_r3 hc]
  refine ⟨vp_in_nI hp (by decide), nm_e ⟨vp_in_nI hp (by decide), ?_⟩⟩
  rw [pk_us]
  refine nm_r (sd_3' p _) ?_
  rw [nI_clamp (by omega)]
  exact ⟨vp_in_nI (by omega) (by decide), vp_in_nI (by omega) (by decide), vp_in_nI (by omega) (by decide), nm_e h⟩
theorem sx_pass {post : SX → Prop} {p c : Nat} (hp : p < 4) (hc : c < 3) (ht : tq p = nI c) (h : post (sc, oc, bt, bb, da, ag, lo, tp, sb, sd, tk, fw, fv, hv, sts, ops, opn, rg, kf, kk, th, ens, mv, mm, sps, ho, pb, pz, rc, mr, md, mt, gp, qc, qq, (sd_pq qc qq qe p c), lc, (upd tq p (nI ((c + 1) % 3))))) : wpX_passTurn post (sc, oc, bt, bb, da, ag, lo, tp, sb, sd, tk, fw, fv, hv, sts, ops, opn, rg, kf, kk, th, ens, mv, mm, sps, ho, pb, pz, rc, mr, md, mt, gp, qc, qq, qe, lc, tq) (nI p) := by
  unfold wpX_passTurn
  refine ⟨vp_in_nI hp (by decide), ?_⟩
  rw [nI_clamp (n := p) (by omega), ht]
  refine nm_r (sd_3' p c) ⟨vp_in_nI (by omega) (by decide), ?_⟩
  rw [nI_clamp (by omega)]
  refine br_c (fun z => ⟨vp_in_nI (by omega) (by decide), nm_e (sx_p27 hp hc ht ?_)⟩) (fun z => sx_p27 hp hc ht ?_)
  · unfold sd_pq sd_pe at h
    rw [if_pos z] at h
    exact h
  · unfold sd_pq sd_pe at h
    rw [if_neg z] at h
    exact h
theorem sy_p99 {post : Int32 → SY → Prop} {n p c : Nat} (hp : p < 4) (hc : c < 3) (ht : tq p = nI c) (h : wY_fetch_55 post (nI p) sc oc tl tt bt ma ol tp sb sd tk dr ay gl n (nI (3 * p + (c + 1) % 3)) fw fv hv ta lk go ca cv cm cg opn ow oq ox rg sw sa sz sg ho kf kk ra ac ea eb ch th mv mm ty bi mk rc mr md mt gp yb le qc (upd qe (3 * p + (c + 1) % 3) (qe (3 * p + (c + 1) % 3) + qq (3 * p + (c + 1) % 3))) qq (upd tq p (nI ((c + 1) % 3))) lc gt) : wY_fetch_99 post (wY_fetch_55 post (nI p) sc oc tl tt bt ma ol tp sb sd tk dr ay gl n) (nI p) sc oc tl tt bt ma ol tp sb sd tk dr ay gl fw fv hv ta lk go ca cv cm cg opn ow oq ox rg sw sa sz sg ho kf kk ra ac ea eb ch th mv mm ty bi mk rc mr md mt gp yb le qc qe qq tq lc gt := by
  refine ⟨vp_in_nI hp (by decide), by decide, ?_⟩
  rw [nI_clamp (n := p) (by omega), ht, sd_r3 hc]
  refine ⟨vp_in_nI hp (by decide), nm_e ⟨vp_in_nI hp (by decide), ?_⟩⟩
  rw [pk_us]
  refine nm_r (sd_3 p _) ?_
  rw [nI_clamp (by omega)]
  exact ⟨vp_in_nI (by omega) (by decide), vp_in_nI (by omega) (by decide), vp_in_nI (by omega) (by decide), nm_e h⟩
theorem sy_pass {post : Int32 → SY → Prop} {n p c : Nat} (hp : p < 4) (hc : c < 3) (ht : tq p = nI c) (h : wY_fetch_55 post (nI p) sc oc tl tt bt ma ol tp sb sd tk dr ay gl n (nI (3 * p + (c + 1) % 3)) fw fv hv ta lk go ca cv cm cg opn ow oq ox rg sw sa sz sg ho kf kk ra ac ea eb ch th mv mm ty bi mk rc mr md mt gp yb le qc (sd_pq qc qq qe p c) qq (upd tq p (nI ((c + 1) % 3))) lc gt) : wY_fetch_83 post (wY_fetch_55 post (nI p) sc oc tl tt bt ma ol tp sb sd tk dr ay gl n) (nI p) (nI (3 * p + c)) sc oc tl tt bt ma ol tp sb sd tk dr ay gl fw fv hv ta lk go ca cv cm cg opn ow oq ox rg sw sa sz sg ho kf kk ra ac ea eb ch th mv mm ty bi mk rc mr md mt gp yb le qc qe qq tq lc gt := by
  refine ⟨vp_in_nI (by omega) (by decide), ?_⟩
  rw [nI_clamp (by omega)]
  refine br_c (fun z => ⟨vp_in_nI (by omega) (by decide), nm_e (sy_p99 hp hc ht ?_)⟩) (fun z => sy_p99 hp hc ht ?_)
  · unfold sd_pq sd_pe at h
    rw [if_pos z] at h
    exact h
  · unfold sd_pq sd_pe at h
    rw [if_neg z] at h
    exact h
/-- what passing the turn makes of a credit -/
theorem sd_pqv {p c : Nat} (d : Nat) (hc : c < 3) (hd : d < 3) : sd_pq qc qq qe p c (3 * p + d) = if d = (c + 1) % 3 then qe (3 * p + d) + qq (3 * p + d) else if d = c ∧ qc (3 * p + c) = 0 then 0 else qe (3 * p + d) := by
  have n : 3 * p + (c + 1) % 3 ≠ 3 * p + c := by omega
  have ev : ∀ i, i ≠ 3 * p + c → sd_pe qc qe p c i = qe i := by
    intro i hi
    unfold sd_pe
    by_cases z : qc (3 * p + c) = 0
    · rw [if_pos z, pk_un hi]
    · rw [if_neg z]
  unfold sd_pq
  by_cases e : d = (c + 1) % 3
  · rw [if_pos e, e, pk_us, ev _ n]
  · rw [if_neg e, pk_un (by omega)]
    by_cases e2 : d = c
    · subst e2
      unfold sd_pe
      by_cases z : qc (3 * p + d) = 0
      · rw [if_pos z, if_pos ⟨rfl, z⟩, pk_us]
      · rw [if_neg z, if_neg (fun y => z y.2)]
    · rw [if_neg (fun y => e2 y.1), ev _ (by omega)]
theorem sd_pqo {p c i : Nat} (hc : c < 3) (hi : i < 3 * p ∨ 3 * p + 3 ≤ i) : sd_pq qc qq qe p c i = qe i := by
  unfold sd_pq sd_pe
  rw [pk_un (by omega)]
  by_cases z : qc (3 * p + c) = 0
  · rw [if_pos z, pk_un (by omega)]
  · rw [if_neg z]
theorem sd_Qp (hQ : sd_Q qq qe tq) {p c e : Nat} (hp : p < 4) (hc : c < 3) (ht : tq p = nI c) (he : qe (3 * p + c) = nI e) (he2 : e ≤ 51) (h : qc (3 * p + c) = 0 ∨ e < 20) : sd_Q qq (sd_pq qc qq qe p c) (upd tq p (nI ((c + 1) % 3))) := by
  refine ⟨fun r hr => ?_, hQ.2.1, fun r hr d hd => ?_⟩
  · by_cases z : r = p
    · subst z; rw [pk_us]; exact ⟨(c + 1) % 3, by omega, rfl⟩
    · rw [pk_un z]; exact hQ.1 r hr
  · by_cases z : r = p
    · subst z
      rw [sd_pqv d hc hd, pk_us]
      obtain ⟨x, hx, hx1, hx2⟩ := hQ.2.2 r hr d hd
      by_cases z1 : d = (c + 1) % 3
      · rw [if_pos z1]
        obtain ⟨a, ha1, ha2, ha3⟩ := hQ.2.1 (3 * r + d) (by omega)
        have hx3 : x ≤ 19 := by
          rcases hx2 with hx2 | hx2
          · rw [ht] at hx2
            have := (nI_eq (by omega) (by omega)).mp hx2
            omega
          · exact hx2
        refine ⟨x + a, by omega, ?_, Or.inl (by rw [z1])⟩
        rw [hx1, ha3, nI_add]
      · rw [if_neg z1]
        by_cases z2 : d = c
        · subst z2
          by_cases z3 : qc (3 * r + d) = 0
          · rw [if_pos ⟨rfl, z3⟩]
            exact ⟨0, by omega, rfl, Or.inr (by omega)⟩
          · rw [if_neg (fun y => z3 y.2)]
            refine ⟨e, he2, he, Or.inr ?_⟩
            rcases h with h | h
            · exact absurd h z3
            · omega
        · rw [if_neg (fun y => z2 y.1)]
          refine ⟨x, hx, hx1, Or.inr ?_⟩
          rcases hx2 with hx2 | hx2
          · rw [ht] at hx2
            have := (nI_eq (by omega) (by omega)).mp hx2
            omega
          · exact hx2
    · rw [sd_pqo hc (by omega), pk_un z]
      exact hQ.2.2 r hr d hd
theorem sd_cs {c : Nat} {x y : Int32} (h : c < 2 ^ 30) : nI (4 + c) = 4 + nI c := (nI_add 4 c).symm
theorem sd_fe {p : Nat} (hp : p < 4) (hW : sd_W pb pz qc le yb) {cs C0 : Nat} (hcs : cs < 3) (hC0 : C0 < 4) (hC : qc (3 * p + cs) = nI (C0 + 1)) :
    ∀ (m : Nat) (qe tq : Nat → Int32) (tu : Nat), tu + m ≤ 1000 → sd_Q qq qe tq →
    (∀ c e, tq p = nI c → c < 3 → qe (3 * p + cs) = nI e → e ≤ 51 → 3 * (20 - e) + (if c = cs then 3 else (cs + 3 - c) % 3) ≤ m) →
    ∃ (qe' tq' : Nat → Int32) (c C L e : Nat), c < 3 ∧ C < 4 ∧ L ≤ 16 ∧ 4 + L ≤ e ∧ e ≤ 51 ∧ sd_Q qq qe' tq' ∧ tq' p = nI c ∧ qc (3 * p + c) = nI (C + 1) ∧ le (4 * (3 * p + c)) = nI L ∧ qe' (3 * p + c) = nI e ∧ (∀ post : Int32 → SX → Prop, (∀ pb' pz', sd_K (3 * p + c) C pb pz pb' pz' → post (nI L) (sc, oc, bt, bb, da, ag, lo, tp, sb, sd, tk, fw, fv, hv, sts, ops, opn, rg, kf, kk, th, ens, mv, mm, sps, ho, pb', pz', rc, mr, md, mt, gp, (upd qc (3 * p + c) (nI C)), qq, (upd qe' (3 * p + c) (nI (e - (4 + L)))), lc, tq')) → wX_fetch_19 post (nI p) (m + 1) (nI tu) sc oc bt bb da ag lo tp sb sd tk fw fv hv sts ops opn rg kf kk th ens mv mm sps ho pb pz rc mr md mt gp qc qq qe lc tq) ∧ (∀ post : Int32 → SY → Prop, post (nI L) (sc, oc, tl, tt, bt, ma, ol, tp, sb, sd, tk, dr, ay, (nI L), fw, fv, hv, ta, lk, go, ca, cv, cm, cg, opn, ow, oq, ox, rg, sw, sa, sz, sg, ho, kf, kk, ra, ac, ea, eb, ch, th, mv, mm, ty, bi, mk, rc, mr, md, mt, gp, (sd_sh yb (64 * (3 * p + c)) 16 48), (sd_sh le (4 * (3 * p + c)) 1 C), (upd qc (3 * p + c) (nI C)), (upd qe' (3 * p + c) (nI (e - (4 + L)))), qq, tq', lc, (sd_gt yb (3 * p + c) gt 16)) → wY_fetch_55 post (nI p) sc oc tl tt bt ma ol tp sb sd tk dr ay gl (m + 1) (3 * nI p + tq p) fw fv hv ta lk go ca cv cm cg opn ow oq ox rg sw sa sz sg ho kf kk ra ac ea eb ch th mv mm ty bi mk rc mr md mt gp yb le qc qe qq tq lc gt) := by
  intro m
  induction m with
  | zero =>
    intro qe tq tu htu hQ hm
    exfalso
    obtain ⟨c, hc, ht⟩ := hQ.1 p hp
    obtain ⟨e, he, he1, _⟩ := hQ.2.2 p hp cs hcs
    have g := hm c e ht hc he1 he
    by_cases z : c = cs
    · rw [if_pos z] at g; omega
    · rw [if_neg z] at g; omega
  | succ m ih =>
    intro qe tq tu htu hQ hm
    obtain ⟨c, hc, ht⟩ := hQ.1 p hp
    obtain ⟨e, he, he1, he2⟩ := hQ.2.2 p hp c hc
    obtain ⟨C, hC4, hqc, hsl⟩ := hW (3 * p + c) (by omega)
    have ix : nI p * 3 + nI c = nI (3 * p + c) := sd_3' p c
    have iy : 3 * nI p + nI c = nI (3 * p + c) := sd_3 p c
    have i4 : nI (3 * p + c) * 4 = nI ((3 * p + c) * 4) := pk_mul _ 4
    have i4' : 4 * nI (3 * p + c) = nI (4 * (3 * p + c)) := pk_mul 4 _
    -- the turn passes
    have pass : (qc (3 * p + c) = 0 ∨ e < 20) →
        (∀ post : Int32 → SX → Prop, wX_fetch_92 post (wX_fetch_19 post (nI p) (m + 1)) (nI p) (nI tu) sc oc bt bb da ag lo tp sb sd tk fw fv hv sts ops opn rg kf kk th ens mv mm sps ho pb pz rc mr md mt gp qc qq qe lc tq → wX_fetch_19 post (nI p) (m + 1 + 1) (nI tu) sc oc bt bb da ag lo tp sb sd tk fw fv hv sts ops opn rg kf kk th ens mv mm sps ho pb pz rc mr md mt gp qc qq qe lc tq) →
        (∀ post : Int32 → SY → Prop, wY_fetch_83 post (wY_fetch_55 post (nI p) sc oc tl tt bt ma ol tp sb sd tk dr ay gl (m + 1)) (nI p) (nI (3 * p + c)) sc oc tl tt bt ma ol tp sb sd tk dr ay gl fw fv hv ta lk go ca cv cm cg opn ow oq ox rg sw sa sz sg ho kf kk ra ac ea eb ch th mv mm ty bi mk rc mr md mt gp yb le qc qe qq tq lc gt → wY_fetch_55 post (nI p) sc oc tl tt bt ma ol tp sb sd tk dr ay gl (m + 1 + 1) (3 * nI p + tq p) fw fv hv ta lk go ca cv cm cg opn ow oq ox rg sw sa sz sg ho kf kk ra ac ea eb ch th mv mm ty bi mk rc mr md mt gp yb le qc qe qq tq lc gt) → ∃ (qe' tq' : Nat → Int32) (c C L e : Nat), c < 3 ∧ C < 4 ∧ L ≤ 16 ∧ 4 + L ≤ e ∧ e ≤ 51 ∧ sd_Q qq qe' tq' ∧ tq' p = nI c ∧ qc (3 * p + c) = nI (C + 1) ∧ le (4 * (3 * p + c)) = nI L ∧ qe' (3 * p + c) = nI e ∧ (∀ post : Int32 → SX → Prop, (∀ pb' pz', sd_K (3 * p + c) C pb pz pb' pz' → post (nI L) (sc, oc, bt, bb, da, ag, lo, tp, sb, sd, tk, fw, fv, hv, sts, ops, opn, rg, kf, kk, th, ens, mv, mm, sps, ho, pb', pz', rc, mr, md, mt, gp, (upd qc (3 * p + c) (nI C)), qq, (upd qe' (3 * p + c) (nI (e - (4 + L)))), lc, tq')) → wX_fetch_19 post (nI p) (m + 1 + 1) (nI tu) sc oc bt bb da ag lo tp sb sd tk fw fv hv sts ops opn rg kf kk th ens mv mm sps ho pb pz rc mr md mt gp qc qq qe lc tq) ∧ (∀ post : Int32 → SY → Prop, post (nI L) (sc, oc, tl, tt, bt, ma, ol, tp, sb, sd, tk, dr, ay, (nI L), fw, fv, hv, ta, lk, go, ca, cv, cm, cg, opn, ow, oq, ox, rg, sw, sa, sz, sg, ho, kf, kk, ra, ac, ea, eb, ch, th, mv, mm, ty, bi, mk, rc, mr, md, mt, gp, (sd_sh yb (64 * (3 * p + c)) 16 48), (sd_sh le (4 * (3 * p + c)) 1 C), (upd qc (3 * p + c) (nI C)), (upd qe' (3 * p + c) (nI (e - (4 + L)))), qq, tq', lc, (sd_gt yb (3 * p + c) gt 16)) → wY_fetch_55 post (nI p) sc oc tl tt bt ma ol tp sb sd tk dr ay gl (m + 1 + 1) (3 * nI p + tq p) fw fv hv ta lk go ca cv cm cg opn ow oq ox rg sw sa sz sg ho kf kk ra ac ea eb ch th mv mm ty bi mk rc mr md mt gp yb le qc qe qq tq lc gt) := by
      intro hps hx hy
      have Q' := sd_Qp (qc := qc) hQ hp hc ht he1 he hps
      have hm' : ∀ c' e', upd tq p (nI ((c + 1) % 3)) p = nI c' → c' < 3 → sd_pq qc qq qe p c (3 * p + cs) = nI e' → e' ≤ 51 → 3 * (20 - e') + (if c' = cs then 3 else (cs + 3 - c') % 3) ≤ m := by
        intro c' e' hc' hc3 he' he51
        rw [pk_us] at hc'
        have hc'' := (nI_eq (by omega) (by omega)).mp hc'
        rw [sd_pqv cs hc hcs] at he'
        obtain ⟨x, hx, hx1, hx2⟩ := hQ.2.2 p hp cs hcs
        have g := hm c x ht hc hx1 hx
        by_cases z1 : cs = (c + 1) % 3
        · rw [if_pos z1] at he'
          obtain ⟨a, ha1, ha2, ha3⟩ := hQ.2.1 (3 * p + cs) (by omega)
          rw [hx1, ha3, nI_add] at he'
          have he'' := (nI_eq (by omega) (by omega)).mp he'
          have hx3 : x ≤ 19 := by
            rcases hx2 with hx2 | hx2
            · rw [ht] at hx2
              have := (nI_eq (by omega) (by omega)).mp hx2
              omega
            · exact hx2
          rw [if_neg (by omega)] at g
          rw [if_pos (by omega)]
          omega
        · rw [if_neg z1, if_neg (fun y => by rw [← y.1, hC] at y; exact nI_ne0 (by omega) (by omega) y.2), hx1] at he'
          have he'' := (nI_eq (by omega) (by omega)).mp he'
          rw [if_neg (by omega)]
          by_cases z2 : c = cs
          · rw [if_pos z2] at g
            omega
          · rw [if_neg z2] at g
            omega
      obtain ⟨qe', tq', d, D, L, f, h1, h2, h3, h4, h5, h6, h7, h8, h9, h10, h11, h12⟩ := ih (sd_pq qc qq qe p c) (upd tq p (nI ((c + 1) % 3))) (tu + 1) (by omega) Q' hm'
      refine ⟨qe', tq', d, D, L, f, h1, h2, h3, h4, h5, h6, h7, h8, h9, h10, fun post k => hx post ?_, fun post k => hy post ?_⟩
      · exact sx_pass hp hc ht (nm_r (nI_1 tu) (h11 post k))
      · have g := h12 post k
        rw [pk_us, sd_3] at g
        exact sy_pass hp hc ht g
    by_cases hC1 : C = 0
    · refine pass (Or.inl (by rw [hqc, hC1]; rfl)) (fun post k => ?_) (fun post k => ?_)
      · refine br_f (nI_ge (b := 100000) (by omega) (by decide)) ⟨vp_in_nI hp (by decide), ?_⟩
        rw [nI_clamp (n := p) (by omega), ht]
        refine nm_r ix ⟨?_, nm_e ⟨vp_in_nI (by omega) (by decide), ?_⟩⟩
        · rw [i4]; exact vp_in_nI (by omega) (by decide)
        · rw [nI_clamp (n := 3 * p + c) (by omega), hqc, hC1]
          exact br_t (by decide) k
      · rw [ht, iy]
        refine ⟨vp_in_nI (by omega) (by decide), ?_⟩
        rw [nI_clamp (n := 3 * p + c) (by omega), hqc, hC1]
        exact br_t rfl k
    · obtain ⟨L, hL, hle, hpz, _⟩ := hsl 0 (by omega)
      have hle' : le (4 * (3 * p + c)) = nI L := hle
      have hpz' : pz ((3 * p + c) * 4) = nI L := hpz
      by_cases z : 4 + L ≤ e
      · obtain ⟨C', rfl⟩ : ∃ C', C = C' + 1 := ⟨C - 1, by omega⟩
        have sub : nI e - (4 + nI L) = nI (e - (4 + L)) := by
          have e1 : 4 + nI L = nI (4 + L) := nI_add 4 L
          rw [e1]
          exact pk_sub z
        refine ⟨qe, tq, c, C', L, e, hc, by omega, hL, z, he, hQ, ht, hqc, hle', he1, fun post k => ?_, fun post k => ?_⟩
        · refine br_f (nI_ge (b := 100000) (by omega) (by decide)) ⟨vp_in_nI hp (by decide), ?_⟩
          rw [nI_clamp (n := p) (by omega), ht]
          refine nm_r ix ⟨?_, ?_⟩
          · rw [i4]; exact vp_in_nI (by omega) (by decide)
          · rw [i4, nI_clamp (n := (3 * p + c) * 4) (by omega), hpz']
            refine nm_e ⟨vp_in_nI (by omega) (by decide), ?_⟩
            rw [nI_clamp (n := 3 * p + c) (by omega), hqc, he1, sub]
            refine br_f (nI_nle (by omega) (by omega)) ⟨vp_in_nI (by omega) (by decide), br_f ?_ ⟨vp_in_nI (by omega) (by decide), vp_in_nI (by omega) (by decide), nm_e ?_⟩⟩
            · have e1 : 4 + nI L = nI (4 + L) := nI_add 4 L
              rw [e1]
              exact nI_nlt z (by omega)
            · refine sx_take (by omega) (by omega) hqc (fun i hi => ?_) (fun pb' pz' hK => ?_)
              · obtain ⟨L', g1, g2, g3, _⟩ := hsl i (by omega)
                exact ⟨L', g1, g3⟩
              · have g := k pb' pz' hK
                have e : pz' 51 = nI L := hK.1.1.trans hpz'
                dsimp only
                rw [e]
                exact g
        · rw [ht, iy]
          refine ⟨vp_in_nI (by omega) (by decide), ?_⟩
          rw [nI_clamp (n := 3 * p + c) (by omega), hqc]
          refine br_f (nI_ne0 (by omega) (by omega)) ?_
          rw [i4', nI_clamp (n := 4 * (3 * p + c)) (by omega), hle', he1]
          refine ⟨vp_in_nI (by omega) (by decide), vp_in_nI (by omega) (by decide), br_t ?_ (sy_pull (by omega) (by omega) hqc ?_)⟩
          · have e1 : 4 + nI L = nI (4 + L) := nI_add 4 L
            rw [e1]
            exact nI_le z (by omega)
          · rw [hle', he1, sub]
            exact k
      · have nz : nI e < 4 + nI L := by
          have e1 : 4 + nI L = nI (4 + L) := nI_add 4 L
          rw [e1]
          exact nI_lt (by omega) (by omega)
        refine pass (Or.inr (by omega)) (fun post k => ?_) (fun post k => ?_)
        · refine br_f (nI_ge (b := 100000) (by omega) (by decide)) ⟨vp_in_nI hp (by decide), ?_⟩
          rw [nI_clamp (n := p) (by omega), ht]
          refine nm_r ix ⟨?_, ?_⟩
          · rw [i4]; exact vp_in_nI (by omega) (by decide)
          · rw [i4, nI_clamp (n := (3 * p + c) * 4) (by omega), hpz']
            refine nm_e ⟨vp_in_nI (by omega) (by decide), ?_⟩
            rw [nI_clamp (n := 3 * p + c) (by omega), hqc, he1]
            exact br_f (nI_nle (by omega) (by omega)) ⟨vp_in_nI (by omega) (by decide), br_t nz k⟩
        · rw [ht, iy]
          refine ⟨vp_in_nI (by omega) (by decide), ?_⟩
          rw [nI_clamp (n := 3 * p + c) (by omega), hqc]
          refine br_f (nI_ne0 (by omega) (by omega)) ?_
          rw [i4', nI_clamp (n := 4 * (3 * p + c)) (by omega), hle', he1]
          exact ⟨vp_in_nI (by omega) (by decide), vp_in_nI (by omega) (by decide), br_f (Int32.not_le.mpr nz) k⟩
end
end
section
section
variable {sc oc bt bb da ag lo tp sb sd tk : Int32} {fw fv hv sts ops opn rg kf kk th ens mv mm sps ho pb pz rc mr md mt gp qc qq qe lc tq : Nat → Int32} {tl tt ma ol dr ay gl : Int32} {ta lk go ca cv cm cg ow oq ox sw sa sz sg ra ac ea eb ch ty bi mk yb le gt : Nat → Int32}
theorem sx_empty {post : Int32 → Prop} {p a b c : Nat} (hp : p < 4) (ha : a ≤ 4) (hb : b ≤ 4) (hc : c ≤ 4) (ea : qc (3 * p) = nI a) (eb : qc (3 * p + 1) = nI b) (ec : qc (3 * p + 2) = nI c) (h1 : a + b + c = 0 → post 1) (h0 : a + b + c ≠ 0 → post 0) : wpX_portIsEmpty post (sc, oc, bt, bb, da, ag, lo, tp, sb, sd, tk, fw, fv, hv, sts, ops, opn, rg, kf, kk, th, ens, mv, mm, sps, ho, pb, pz, rc, mr, md, mt, gp, qc, qq, qe, lc, tq) (nI p) := by
  have e0 : nI p * 3 + 0 = nI (3 * p) := (sd_ma p 3 0).trans (by rw [Nat.mul_comm]; rfl)
  have e1 : nI p * 3 + 1 = nI (3 * p + 1) := sd_3' p 1
  have e2 : nI p * 3 + 2 = nI (3 * p + 2) := sd_3' p 2
  refine ⟨4, br_f (by decide) ⟨?_, ?_⟩⟩
  · rw [e0]; exact vp_in_nI (by omega) (by decide)
  rw [e0, nI_clamp (by omega), ea]
  refine nm_r (e' := nI a) (by rw [Int32.zero_add]) (nm_r (e' := 1) (by decide) (br_f (by decide) ⟨?_, ?_⟩))
  · rw [e1]; exact vp_in_nI (by omega) (by decide)
  rw [e1, nI_clamp (by omega), eb]
  refine nm_r (nI_add a b) (nm_r (e' := 2) (by decide) (br_f (by decide) ⟨?_, ?_⟩))
  · rw [e2]; exact vp_in_nI (by omega) (by decide)
  rw [e2, nI_clamp (by omega), ec]
  exact nm_r (nI_add (a + b) c) (nm_r (e' := 3) (by decide) (br_t (by decide) (pk_eq (a + b + c) 0 h1 h0)))
theorem sd_Qt (hQ : sd_Q qq qe tq) {p c e : Nat} (hp : p < 4) (hc : c < 3) (ht : tq p = nI c) (he : e ≤ 51) : sd_Q qq (upd qe (3 * p + c) (nI e)) tq := by
  refine ⟨hQ.1, hQ.2.1, fun r hr d hd => ?_⟩
  by_cases z : 3 * r + d = 3 * p + c
  · have z1 : r = p := by omega
    have z2 : d = c := by omega
    subst z1 z2
    rw [pk_us]
    exact ⟨e, he, rfl, Or.inl ht⟩
  · rw [pk_un z]
    exact hQ.2.2 r hr d hd
theorem sd_Wt (hW : sd_W pb pz qc le yb) {q C : Nat} (hq : q < 12) (hC : C < 4) (hqc : qc q = nI (C + 1)) {pb' pz' : Nat → Int32} (hK : sd_K q C pb pz pb' pz') : sd_W pb' pz' (upd qc q (nI C)) (sd_sh le (4 * q) 1 C) (sd_sh yb (64 * q) 16 48) := by
  intro r hr
  by_cases z : r = q
  · subst z
    rw [pk_us]
    refine ⟨C, by omega, rfl, fun i hi => ?_⟩
    obtain ⟨C2, h1, h2, h3⟩ := hW r hr
    rw [hqc] at h2
    have h2' := (nI_eq (by omega) (by omega)).mp h2
    obtain ⟨L, g1, g2, g3, g4⟩ := h3 (i + 1) (by omega)
    have g2' : le (4 * r + i + 1) = nI L := g2
    have g3' : pz (r * 4 + i + 1) = nI L := g3
    have k := hK.2.1 i hi
    refine ⟨L, g1, ?_, k.1.trans g3', fun j hj => ?_⟩
    · rw [sd_shi (by omega) C i hi]
      exact g2'
    · rw [k.2 j (by rw [g3', nI_clamp (by omega)]; exact hj)]
      have e : 16 * (4 * r + i) + j = 64 * r + (16 * i + j) := by omega
      rw [e, sd_shi (by omega) 48 (16 * i + j) (by omega)]
      have e2 : 64 * r + (16 * i + j) + 16 = 16 * (4 * r + (i + 1)) + j := by omega
      rw [e2]
      exact g4 j hj
  · rw [pk_un z]
    obtain ⟨C2, h1, h2, h3⟩ := hW r hr
    refine ⟨C2, h1, h2, fun i hi => ?_⟩
    obtain ⟨L, g1, g2, g3, g4⟩ := h3 i hi
    have k := hK.2.2 (r * 4 + i) (by omega) (by omega)
    refine ⟨L, g1, ?_, k.1.trans g3, fun j hj => ?_⟩
    · rw [sd_sho C _ (by omega)]
      exact g2
    · rw [k.2 j (by omega), sd_sho 48 _ (by omega)]
      exact g4 j hj
theorem sd_Gt (hW : sd_W pb pz qc le yb) {q C L : Nat} (hq : q < 12) (hC : C < 4) (hqc : qc q = nI (C + 1)) (hL : L ≤ 16) (hle : le (4 * q) = nI L) {pb' pz' : Nat → Int32} (hK : sd_K q C pb pz pb' pz') : sd_G pb' pz' (nI L) (sd_gt yb q gt 16) := by
  obtain ⟨C2, h1, h2, h3⟩ := hW q hq
  rw [hqc] at h2
  have h2' := (nI_eq (by omega) (by omega)).mp h2
  obtain ⟨L2, g1, g2, g3, g4⟩ := h3 0 (by omega)
  have g2' : le (4 * q) = nI L2 := g2
  have g3' : pz (q * 4) = nI L2 := g3
  rw [hle] at g2'
  have e := (nI_eq (by omega) (by omega)).mp g2'
  subst e
  refine ⟨L, hL, rfl, hK.1.1.trans g3', fun j hj => ?_⟩
  rw [hK.1.2 j (by rw [g3', nI_clamp (by omega)]; exact hj), sd_gti 16 j (by omega)]
  have k := g4 j hj
  have e : 16 * (4 * q + 0) + j = 64 * q + j := by omega
  rw [e] at k
  exact k
theorem i_vc_fetch {k : Nat} {u : SX} {v : SY} (I : i_Rel k u v) (hk : k + 7 ≤ 3584) (v1 : Int32) : wpX_fetch (fun r u' => wpY_fetch (fun r' v' => r' = r ∧ i_Rel (k + 7) u' v') v v1) u v1 := by
  refine sd_el (C := fun u v => wpX_fetch (fun r u' => wpY_fetch (fun r' v' => r' = r ∧ i_Rel (k + 7) u' v') v v1) u v1) I (fun sc oc bt bb da ag lo tp sb sd tk tl tt ma ol dr ay gl fw fv hv sts ops opn rg kf kk th ens mv mm sps ho pb pz rc mr md mt gp qc qq qe lc tq ta lk go ca cv cm cg ow oq ox sw sa sz sg ra ac ea eb ch ty bi mk yb le gt hF hS hO hE hP hH hT hU hG hW hQ => ?_)
  have J : i_Rel (k + 7) (sc, oc, bt, bb, da, ag, lo, tp, sb, sd, tk, fw, fv, hv, sts, ops, opn, rg, kf, kk, th, ens, mv, mm, sps, ho, pb, pz, rc, mr, md, mt, gp, qc, qq, qe, lc, tq) (sc, oc, tl, tt, bt, ma, ol, tp, sb, sd, tk, dr, ay, gl, fw, fv, hv, ta, lk, go, ca, cv, cm, cg, opn, ow, oq, ox, rg, sw, sa, sz, sg, ho, kf, kk, ra, ac, ea, eb, ch, th, mv, mm, ty, bi, mk, rc, mr, md, mt, gp, yb, le, qc, qe, qq, tq, lc, gt) := sd_mk hF hS hO hE hP hH hT hU hG hW hQ
  unfold wpX_fetch wpY_fetch
  rcases sd_cl 4 v1 with h | h
  · exact sx_port0 h (sd_w0 (sy_in0 3 h (sd_w0 ⟨rfl, J⟩)))
  · obtain ⟨p, hp, rfl⟩ := id h
    refine sx_port1 h (sd_w1 ?_)
    obtain ⟨a, ha, e1, s1⟩ := hW (3 * p) (by omega)
    obtain ⟨b, hb, e2, s2⟩ := hW (3 * p + 1) (by omega)
    obtain ⟨c, hc, e3, s3⟩ := hW (3 * p + 2) (by omega)
    have y0 : 3 * nI p = nI (3 * p) := pk_mul 3 p
    have y1 : 3 * nI p + 1 = nI (3 * p + 1) := sd_3 p 1
    have y2 : 3 * nI p + 2 = nI (3 * p + 2) := sd_3 p 2
    refine sx_empty hp ha hb hc e1 e2 e3 (fun z => sd_w1 ?_) (fun z => sd_w0 ?_)
    · refine sy_in1 3 h (sd_w1 ?_)
      rw [y1, y2, y0, nI_clamp (n := 3 * p) (by omega), nI_clamp (n := 3 * p + 1) (by omega), nI_clamp (n := 3 * p + 2) (by omega), e1, e2, e3, nI_add, nI_add]
      exact ⟨vp_in_nI (by omega) (by decide), vp_in_nI (by omega) (by decide), vp_in_nI (by omega) (by decide), br_t (by rw [z]; rfl) ⟨rfl, J⟩⟩
    · have ex : ∃ cs C0 : Nat, cs < 3 ∧ C0 < 4 ∧ qc (3 * p + cs) = nI (C0 + 1) := by
        by_cases z1 : a = 0
        · by_cases z2 : b = 0
          · exact ⟨2, c - 1, by omega, by omega, by rw [e3]; congr 1; omega⟩
          · exact ⟨1, b - 1, by omega, by omega, by rw [e2]; congr 1; omega⟩
        · exact ⟨0, a - 1, by omega, by omega, by rw [Nat.add_zero, e1]; congr 1; omega⟩
      obtain ⟨cs, C0, hcs, hC0, hCs⟩ := ex
      obtain ⟨qe', tq', d, C, L, e, h1, h2, h3, h4, h5, h6, h7, h8, h9, h10, h11, h12⟩ := sd_fe (sc := sc) (oc := oc) (bt := bt) (bb := bb) (da := da) (ag := ag) (lo := lo) (tp := tp) (sb := sb) (sd := sd) (tk := tk) (tl := tl) (tt := tt) (ma := ma) (ol := ol) (dr := dr) (ay := ay) (gl := gl) (fw := fw) (fv := fv) (hv := hv) (sts := sts) (ops := ops) (opn := opn) (rg := rg) (kf := kf) (kk := kk) (th := th) (ens := ens) (mv := mv) (mm := mm) (sps := sps) (ho := ho) (rc := rc) (mr := mr) (md := md) (mt := mt) (gp := gp) (lc := lc) (ta := ta) (lk := lk) (go := go) (ca := ca) (cv := cv) (cm := cm) (cg := cg) (ow := ow) (oq := oq) (ox := ox) (sw := sw) (sa := sa) (sz := sz) (sg := sg) (ra := ra) (ac := ac) (ea := ea) (eb := eb) (ch := ch) (ty := ty) (bi := bi) (mk := mk) (gt := gt) hp hW hcs hC0 hCs 63 qe tq 0 (by omega) hQ (fun c' e' _ hc' _ he' => by
        by_cases z : c' = cs
        · rw [if_pos z]; omega
        · rw [if_neg z]; omega)
      refine ⟨64, h11 _ (fun pb' pz' hK => ?_)⟩
      refine sy_in1 3 h (sd_w1 ?_)
      rw [y1, y2, nI_clamp (n := 3 * p + 1) (by omega), nI_clamp (n := 3 * p + 2) (by omega)]
      have y00 : (3 * nI p).toNatClampNeg = 3 * p := by rw [y0]; exact nI_clamp (by omega)
      refine ⟨by rw [y0]; exact vp_in_nI (by omega) (by decide), vp_in_nI (by omega) (by decide), vp_in_nI (by omega) (by decide), ?_⟩
      rw [y00, e1, e2, e3, nI_add, nI_add]
      refine br_f (nI_ne0 (by omega) (by omega)) ⟨vp_in_nI hp (by decide), ?_⟩
      rw [nI_clamp (n := p) (by omega)]
      refine nm_e ⟨64, h12 _ ⟨rfl, ?_⟩⟩
      have k48 := hK.2.2 48 (by omega) (by omega)
      have k50 := hK.2.2 50 (by omega) (by omega)
      refine sd_mk hF hS hO hE hP hH ?_ ?_ (sd_Gt hW (by omega) (by omega) h8 h3 h9 hK) (sd_Wt hW (by omega) (by omega) h8 hK) (sd_Qt h6 hp h1 h7 (by omega))
      · obtain ⟨⟨T, t1, t2, t3⟩, t4⟩ := hT
        exact ⟨⟨T, t1, t2, k48.1.trans t3⟩, fun j hj => (k48.2 j hj).trans (t4 j hj)⟩
      · rcases hU with hU | ⟨u1, L', u2, u3, u4, u5⟩
        · exact Or.inl hU
        · exact Or.inr ⟨u1, L', u2, u3, k50.1.trans u4, fun j hj => (k50.2 j (by omega)).trans (u5 j hj)⟩
end
end
section
section
variable {sc oc bt bb da ag lo tp sb sd tk : Int32} {fw fv hv sts ops opn rg kf kk th ens mv mm sps ho pb pz rc mr md mt gp qc qq qe lc tq : Nat → Int32} {tl tt ma ol dr ay gl : Int32} {ta lk go ca cv cm cg ow oq ox sw sa sz sg ra ac ea eb ch ty bi mk yb le gt : Nat → Int32}
/-- bit r, from the left, of a byte -/
def sd_bv (b : Int32) (r : Nat) : Int32 := (b >>> (nI (7 - r) &&& 31)) &&& 1
theorem sd_a1 (x : Int32) : x &&& 1 = 0 ∨ x &&& 1 = 1 := by
  obtain ⟨j, hj, e⟩ := pk_andE x (m := 1) 1 (by decide)
  have : j = 0 ∨ j = 1 := by omega
  rcases this with rfl | rfl
  · exact Or.inl e
  · exact Or.inr e
theorem sd_bv01 (b : Int32) (r : Nat) : sd_bv b r = 0 ∨ sd_bv b r = 1 := sd_a1 _
theorem sx_bit {post : Int32 → Prop} {s i : Nat} (hs : s < 52) (hi : i < 128) (h : post (sd_bv (pb (s * 16 + i / 8)) (i % 8))) : wpX_bitOf post (sc, oc, bt, bb, da, ag, lo, tp, sb, sd, tk, fw, fv, hv, sts, ops, opn, rg, kf, kk, th, ens, mv, mm, sps, ho, pb, pz, rc, mr, md, mt, gp, qc, qq, qe, lc, tq) (nI s) (nI i) := by
  unfold wpX_bitOf
  have e2 : nI i - nI i / 8 * 8 = nI (i % 8) := pk_rem (d := 8) (by omega) (by decide) (by decide)
  have e1 : nI i / 8 = nI (i / 8) := pk_div (d := 8) (by omega) (by decide) (by decide)
  have e3 : 7 - nI (i % 8) = nI (7 - i % 8) := pk_sub (a := 7) (by omega)
  have e4 : nI s * 16 + nI (i / 8) = nI (s * 16 + i / 8) := sd_ma s 16 (i / 8)
  rw [e2, e1, e3, e4, nI_clamp (by omega)]
  exact ⟨by decide, vp_in_nI (by omega) (by decide), by decide, h⟩
theorem sd_acb {bi : Nat → Int32} {b : Nat} : ∀ n : Nat, n ≤ 16 → ∃ v : Nat, v < 2 ^ n ∧ sd_ac bi b n = nI v
  | 0, _ => ⟨0, by decide, rfl⟩
  | n + 1, h => by
    obtain ⟨v, hv, e⟩ := sd_acb (bi := bi) (b := b) n (by omega)
    have e2 : 2 * sd_ac bi b n = nI (2 * v) := by rw [e]; exact pk_mul 2 v
    show ∃ w, w < 2 ^ (n + 1) ∧ 2 * sd_ac bi b n + (if bi (b + n) = 0 then 0 else 1) = nI w
    rw [e2]
    by_cases z : bi (b + n) = 0
    · rw [if_pos z]
      exact ⟨2 * v, by rw [Nat.pow_succ]; omega, Int32.add_zero _⟩
    · rw [if_neg z]
      exact ⟨2 * v + 1, by rw [Nat.pow_succ]; omega, nI_1 _⟩
theorem sx_tb {post : Int32 → SX → Prop} {w b : Nat} (hb : b + w ≤ 128) (hB : ∀ i, i < w → bi (b + i) = sd_bv (pb (784 + (b + i) / 8)) ((b + i) % 8)) (h : post (sd_ac bi b w) (sc, oc, (nI (b + w)), bb, da, ag, lo, tp, sb, sd, tk, fw, fv, hv, sts, ops, opn, rg, kf, kk, th, ens, mv, mm, sps, ho, pb, pz, rc, mr, md, mt, gp, qc, qq, qe, lc, tq)) : wpX_takeBits post (sc, oc, (nI b), bb, da, ag, lo, tp, sb, sd, tk, fw, fv, hv, sts, ops, opn, rg, kf, kk, th, ens, mv, mm, sps, ho, pb, pz, rc, mr, md, mt, gp, qc, qq, qe, lc, tq) (nI w) := by
  unfold wpX_takeBits
  refine sd_lp (fun n i s => wX_takeBits_4 post (nI w) sc oc bb da ag lo tp sb sd tk fw fv hv sts ops opn rg kf kk th ens mv mm sps ho pb pz rc mr md mt gp qc qq qe lc tq n s (nI i) (nI (b + i))) (fun i => sd_ac bi b i) w 0 (by omega) (fun n => br_t (nI_le (Nat.le_refl _) (by omega)) h)
    (fun n i _ hi ih => br_f (nI_ge hi (by omega)) (sx_bit (s := 49) (by omega) (by omega) (nm_r (e' := sd_ac bi b (i + 1)) ?_ (nm_r (nI_1 _) (nm_r (nI_1 _) ih)))))
  show sd_ac bi b i * 2 + sd_bv (pb (784 + (b + i) / 8)) ((b + i) % 8) = 2 * sd_ac bi b i + (if bi (b + i) = 0 then 0 else 1)
  rw [← hB i hi, Int32.mul_comm]
  rcases sd_bv01 (pb (784 + (b + i) / 8)) ((b + i) % 8) with z | z
  · rw [← hB i hi] at z
    rw [z, if_pos rfl]
  · rw [← hB i hi] at z
    rw [z, if_neg sd_10]
theorem sy_tb {post : Int32 → SY → Prop} {J : Int32 → Int32 → (Nat → Int32) → (Nat → Int32) → (Nat → Int32) → (Nat → Int32) → (Nat → Int32) → (Nat → Int32) → (Nat → Int32) → (Nat → Int32) → (Nat → Int32) → (Nat → Int32) → (Nat → Int32) → (Nat → Int32) → (Nat → Int32) → (Nat → Int32) → (Nat → Int32) → (Nat → Int32) → (Nat → Int32) → (Nat → Int32) → (Nat → Int32) → (Nat → Int32) → (Nat → Int32) → (Nat → Int32) → (Nat → Int32) → (Nat → Int32) → (Nat → Int32) → (Nat → Int32) → (Nat → Int32) → (Nat → Int32) → (Nat → Int32) → (Nat → Int32) → (Nat → Int32) → (Nat → Int32) → (Nat → Int32) → (Nat → Int32) → (Nat → Int32) → (Nat → Int32) → (Nat → Int32) → (Nat → Int32) → (Nat → Int32) → (Nat → Int32) → (Nat → Int32) → (Nat → Int32) → (Nat → Int32) → (Nat → Int32) → (Nat → Int32) → (Nat → Int32) → Prop} {x1 : Int32} {f w b : Nat} (hf : f < 28) (hw : fw f = nI w) (hw2 : w ≤ 16) (hb : b + w ≤ 128) (h : J (nI (f + 1)) (nI (b + w)) fw (upd fv f (sd_ac bi b w)) hv ta lk go ca cv cm cg opn ow oq ox rg sw sa sz sg ho kf kk ra ac ea eb ch th mv mm ty bi mk rc mr md mt gp yb le qc qe qq tq lc gt) : ∃ n, wY_takeOut_37 post J x1 (nI f) sc oc tl tt (nI b) ma ol tp sb sd tk dr ay gl fw fv hv ta lk go ca cv cm cg opn ow oq ox rg sw sa sz sg ho kf kk ra ac ea eb ch th mv mm ty bi mk rc mr md mt gp yb le qc qe qq tq lc gt n 0 0 := by
  refine sd_lp (fun n i s => wY_takeOut_37 post J x1 (nI f) sc oc tl tt (nI b) ma ol tp sb sd tk dr ay gl fw fv hv ta lk go ca cv cm cg opn ow oq ox rg sw sa sz sg ho kf kk ra ac ea eb ch th mv mm ty bi mk rc mr md mt gp yb le qc qe qq tq lc gt n s (nI i)) (fun i => sd_ac bi b i) w 0 (by omega) (fun n => ⟨vp_in_nI hf (by decide), ?_⟩)
    (fun n i _ hi ih => ⟨vp_in_nI hf (by decide), ?_⟩)
  · rw [nI_clamp (n := f) (by omega), hw]
    refine br_t (nI_le (Nat.le_refl _) (by omega)) ⟨vp_in_nI hf (by decide), nm_e ⟨vp_in_nI hf (by decide), nm_r (nI_add b w) (nm_r (nI_1 f) h)⟩⟩
  · rw [nI_clamp (n := f) (by omega), hw, nI_add b i, nI_clamp (n := b + i) (by omega)]
    refine br_f (nI_ge hi (by omega)) ⟨vp_in_nI (by omega) (by decide), br_c (fun z => nm_r (e' := sd_ac bi b (i + 1)) ?_ (nm_r (nI_1 _) ih)) (fun z => nm_r (e' := sd_ac bi b (i + 1)) ?_ (nm_r (nI_1 _) ih))⟩
    · show 2 * sd_ac bi b i + 0 = 2 * sd_ac bi b i + (if bi (b + i) = 0 then 0 else 1)
      rw [if_pos z]
    · show 2 * sd_ac bi b i + 1 = 2 * sd_ac bi b i + (if bi (b + i) = 0 then 0 else 1)
      rw [if_neg z]
/-- where the i-th field of header h begins, from bit b on -/
def sd_tb (fw : Nat → Int32) (h b : Nat) : Nat → Nat
  | 0 => b
  | i + 1 => sd_tb fw h b i + (fw (4 * h + i)).toNatClampNeg
/-- the values with i fields of header h taken -/
def sd_tf (fw bi fv : Nat → Int32) (h b : Nat) : Nat → (Nat → Int32)
  | 0 => fv
  | i + 1 => upd (sd_tf fw bi fv h b i) (4 * h + i) (sd_ac bi (sd_tb fw h b i) (fw (4 * h + i)).toNatClampNeg)
theorem sd_tba {h b : Nat} : ∀ i, sd_tb fw h b i = b + sd_tb fw h 0 i
  | 0 => rfl
  | i + 1 => by
    show sd_tb fw h b i + _ = b + (sd_tb fw h 0 i + _)
    rw [sd_tba i]; omega
theorem sd_wi (hF : sd_F fw fv hv) {f : Nat} (hf : f < 28) : ∃ w : Nat, w ≤ 16 ∧ fw f = nI w ∧ (fw f).toNatClampNeg = w := by
  obtain ⟨a, b, h1, h2, h3, h4⟩ := hF.1 f hf
  exact ⟨a, h1, h3, by rw [h3]; exact nI_clamp (by omega)⟩
theorem sd_tb1 (hF : sd_F fw fv hv) {h : Nat} (hh : h < 6) : ∀ i, i ≤ 4 → sd_tb fw h 0 i ≤ 16 * i
  | 0, _ => Nat.le_refl _
  | i + 1, hi => by
    obtain ⟨w, h1, _, h3⟩ := sd_wi hF (f := 4 * h + i) (by omega)
    have := sd_tb1 hF hh i (by omega)
    show sd_tb fw h 0 i + (fw (4 * h + i)).toNatClampNeg ≤ _
    omega
theorem sd_tb2 {h i : Nat} : ∀ j, i ≤ j → sd_tb fw h 0 i ≤ sd_tb fw h 0 j
  | 0, hi => by
    have : i = 0 := by omega
    subst this
    exact Nat.le_refl _
  | j + 1, hi => by
    by_cases e : i = j + 1
    · subst e; exact Nat.le_refl _
    · have := sd_tb2 (h := h) j (show i ≤ j by omega)
      show _ ≤ sd_tb fw h 0 j + _
      omega
theorem sd_tbl (hF : sd_F fw fv hv) {h : Nat} (hh : h < 6) : ∀ i, i ≤ 4 → sd_tb fw h 0 i ≤ 16 * i ∧ (i < 4 → sd_tb fw h 0 i + (fw (4 * h + i)).toNatClampNeg ≤ sd_tb fw h 0 4) :=
  fun i hi => ⟨sd_tb1 hF hh i hi, fun hi => sd_tb2 (i := i + 1) 4 (by omega)⟩
theorem sd_Fu (hF : sd_F fw fv hv) {f w v : Nat} (hw : fw f = nI w) (hw2 : w ≤ 16) (hv' : v < 2 ^ w) {x : Int32} (hx : x = nI v) : sd_F fw (upd fv f x) hv := by
  refine ⟨fun g hg => ?_, hF.2.1, hF.2.2⟩
  obtain ⟨a, b, h1, h2, h3, h4⟩ := hF.1 g hg
  by_cases e : g = f
  · subst e
    exact ⟨w, v, hw2, hv', hw, by rw [pk_us, hx]⟩
  · exact ⟨a, b, h1, h2, h3, by rw [pk_un e, h4]⟩
theorem sd_Fh (hF : sd_F fw fv hv) {h : Nat} {x : Int32} (hx : x = 0 ∨ x = 1) : sd_F fw fv (upd hv h x) := by
  refine ⟨hF.1, hF.2.1, fun g hg => ?_⟩
  by_cases e : g = h
  · subst e; rw [pk_us]; exact hx
  · rw [pk_un e]; exact hF.2.2 g hg
theorem sd_Ftf (hF : sd_F fw fv hv) {h b : Nat} (hh : h < 6) : ∀ i, i ≤ 4 → sd_F fw (sd_tf fw bi fv h b i) hv
  | 0, _ => hF
  | i + 1, hi => by
    obtain ⟨w, h1, h2, h3⟩ := sd_wi hF (f := 4 * h + i) (by omega)
    obtain ⟨v, hv, e⟩ := sd_acb (bi := bi) (b := sd_tb fw h b i) w h1
    refine sd_Fu (sd_Ftf hF hh i (by omega)) h2 h1 hv ?_
    rw [h3, e]
-- X: takeHeader
theorem sx_th {post : Int32 → SX → Prop} {h b Z : Nat} (hF : sd_F fw fv hv) (hh : h < 6) (hZ : Z ≤ 16) (hz : pz 49 = nI Z) (hB : ∀ i, i < 8 * Z → bi i = sd_bv (pb (784 + i / 8)) (i % 8)) (hb : b ≤ 8 * Z)
    (h1 : b + sd_tb fw h 0 4 ≤ 8 * Z → post 1 (sc, oc, (nI (b + sd_tb fw h 0 4)), bb, da, ag, lo, tp, sb, sd, tk, fw, (sd_tf fw bi fv h b 4), (upd hv h 1), sts, ops, opn, rg, kf, kk, th, ens, mv, mm, sps, ho, pb, pz, rc, mr, md, mt, gp, qc, qq, qe, lc, tq)) (h0 : ¬ b + sd_tb fw h 0 4 ≤ 8 * Z → post 0 (sc, oc, (nI b), bb, da, ag, lo, tp, sb, sd, tk, fw, fv, hv, sts, ops, opn, rg, kf, kk, th, ens, mv, mm, sps, ho, pb, pz, rc, mr, md, mt, gp, qc, qq, qe, lc, tq)) : wpX_takeHeader post (sc, oc, (nI b), bb, da, ag, lo, tp, sb, sd, tk, fw, fv, hv, sts, ops, opn, rg, kf, kk, th, ens, mv, mm, sps, ho, pb, pz, rc, mr, md, mt, gp, qc, qq, qe, lc, tq) (nI h) := by
  have l4 := sd_tbl hF hh
  refine br_f (sd_ne (by omega)) (nm_r ((pk_mul h 4).trans (by rw [Nat.mul_comm])) ?_)
  have e4 : nI (4 * h) + 4 = nI (4 * h + 4) := nI_add _ 4
  have e8 : nI Z * 8 = nI (8 * Z) := (pk_mul Z 8).trans (by rw [Nat.mul_comm])
  refine sd_lp (fun n i s => wX_takeHeader_16 post (nI h) (nI (4 * h)) sc oc (nI b) bb da ag lo tp sb sd tk fw fv hv sts ops opn rg kf kk th ens mv mm sps ho pb pz rc mr md mt gp qc qq qe lc tq n s (nI (4 * h + i))) (fun i => nI (sd_tb fw h 0 i)) 4 0 (by omega) (fun n => br_t ?_ ?_) (fun n i _ hi ih => br_f ?_ ⟨vp_in_nI (by omega) (by decide), ?_⟩)
  · rw [e4]; exact nI_le (Nat.le_refl _) (by omega)
  · rw [nI_add, hz, e8]
    refine pk_le (b + sd_tb fw h 0 4) (8 * Z) (fun z => ?_) (fun z => h0 (by omega)) rfl rfl (by have := (l4 4 (by omega)).1; omega) (by omega)
    refine sd_lp (fun n i (s : Nat → Int32) => wX_takeHeader_64 post (nI h) (nI (4 * h)) n (nI (4 * h + i)) sc oc (nI (sd_tb fw h b i)) bb da ag lo tp sb sd tk fw s hv sts ops opn rg kf kk th ens mv mm sps ho pb pz rc mr md mt gp qc qq qe lc tq) (fun i => sd_tf fw bi fv h b i) 4 0 (by omega) (fun n => br_t ?_ (sd_st h rfl hh (by decide) ?_)) (fun n i _ hi ih => br_f ?_ ⟨vp_in_nI (by omega) (by decide), ?_⟩)
    · rw [e4]; exact nI_le (Nat.le_refl _) (by omega)
    · rw [sd_b1, sd_tba]; exact h1 z
    · rw [e4]; exact nI_ge (by omega) (by omega)
    · obtain ⟨w, w1, w2, w3⟩ := sd_wi hF (f := 4 * h + i) (by omega)
      rw [nI_clamp (n := 4 * h + i) (by omega), w2]
      have g := (l4 i (by omega)).2 hi
      have t := sd_tba (fw := fw) (h := h) (b := b) i
      refine sx_tb (bi := bi) (by omega) (fun j hj => hB _ (by omega)) ⟨vp_in_nI (by omega) (by decide), nm_e (nm_r (nI_1 _) ?_)⟩
      have ih' : wX_takeHeader_64 post (nI h) (nI (4 * h)) n (nI (4 * h + (i + 1))) sc oc (nI (sd_tb fw h b i + (fw (4 * h + i)).toNatClampNeg)) bb da ag lo tp sb sd tk fw (upd (sd_tf fw bi fv h b i) (4 * h + i) (sd_ac bi (sd_tb fw h b i) (fw (4 * h + i)).toNatClampNeg)) hv sts ops opn rg kf kk th ens mv mm sps ho pb pz rc mr md mt gp qc qq qe lc tq := ih
      rw [w3] at ih'
      exact ih'
  · rw [e4]; exact nI_ge (by omega) (by omega)
  · obtain ⟨w, w1, w2, w3⟩ := sd_wi hF (f := 4 * h + i) (by omega)
    rw [nI_clamp (n := 4 * h + i) (by omega), w2]
    refine nm_r (e' := nI (sd_tb fw h 0 (i + 1))) ?_ (nm_r (nI_1 _) ih)
    show _ = nI (sd_tb fw h 0 i + (fw (4 * h + i)).toNatClampNeg)
    rw [w3, nI_add]
theorem sy_th {post : Int32 → SY → Prop} {h b Z : Nat} (hF : sd_F fw fv hv) (hh : h < 6) (hZ : Z ≤ 16) (hb : b ≤ 8 * Z)
    (h1 : b + sd_tb fw h 0 4 ≤ 8 * Z → post 1 (sc, oc, tl, (nI (8 * Z)), (nI (b + sd_tb fw h 0 4)), ma, ol, tp, sb, sd, tk, dr, ay, gl, fw, (sd_tf fw bi fv h b 4), (upd hv h 1), ta, lk, go, ca, cv, cm, cg, opn, ow, oq, ox, rg, sw, sa, sz, sg, ho, kf, kk, ra, ac, ea, eb, ch, th, mv, mm, ty, bi, mk, rc, mr, md, mt, gp, yb, le, qc, qe, qq, tq, lc, gt)) (h0 : ¬ b + sd_tb fw h 0 4 ≤ 8 * Z → post 0 (sc, oc, tl, (nI (8 * Z)), (nI b), ma, ol, tp, sb, sd, tk, dr, ay, gl, fw, fv, hv, ta, lk, go, ca, cv, cm, cg, opn, ow, oq, ox, rg, sw, sa, sz, sg, ho, kf, kk, ra, ac, ea, eb, ch, th, mv, mm, ty, bi, mk, rc, mr, md, mt, gp, yb, le, qc, qe, qq, tq, lc, gt)) : wpY_takeOut post (sc, oc, tl, (nI (8 * Z)), (nI b), ma, ol, tp, sb, sd, tk, dr, ay, gl, fw, fv, hv, ta, lk, go, ca, cv, cm, cg, opn, ow, oq, ox, rg, sw, sa, sz, sg, ho, kf, kk, ra, ac, ea, eb, ch, th, mv, mm, ty, bi, mk, rc, mr, md, mt, gp, yb, le, qc, qe, qq, tq, lc, gt) (nI h) := by
  have l4 := sd_tbl hF hh
  have e0 : 4 * nI h = nI (4 * h) := pk_mul 4 h
  have e1 : 4 * nI h + 1 = nI (4 * h + 1) := sd_am h 4 1
  have e2 : 4 * nI h + 2 = nI (4 * h + 2) := sd_am h 4 2
  have e3 : 4 * nI h + 3 = nI (4 * h + 3) := sd_am h 4 3
  have e4 : 4 * nI h + 4 = nI (4 * h + 4) := sd_am h 4 4
  unfold wpY_takeOut wpY_bitsOf
  refine ⟨?_, ?_, ?_, ?_, ?_⟩
  · rw [e0]; exact vp_in_nI (by omega) (by decide)
  · rw [e1]; exact vp_in_nI (by omega) (by decide)
  · rw [e2]; exact vp_in_nI (by omega) (by decide)
  · rw [e3]; exact vp_in_nI (by omega) (by decide)
  obtain ⟨w0, a0, b0, c0⟩ := sd_wi hF (f := 4 * h) (by omega)
  obtain ⟨w1, a1, b1, c1⟩ := sd_wi hF (f := 4 * h + 1) (by omega)
  obtain ⟨w2, a2, b2, c2⟩ := sd_wi hF (f := 4 * h + 2) (by omega)
  obtain ⟨w3, a3, b3, c3⟩ := sd_wi hF (f := 4 * h + 3) (by omega)
  have s4 : sd_tb fw h 0 4 = w0 + w1 + w2 + w3 := by
    show 0 + (fw (4 * h + 0)).toNatClampNeg + (fw (4 * h + 1)).toNatClampNeg + (fw (4 * h + 2)).toNatClampNeg + (fw (4 * h + 3)).toNatClampNeg = _
    rw [Nat.add_zero, c0, c1, c2, c3]; omega
  rw [e1, e2, e3, e0, nI_clamp (n := 4 * h) (by omega), nI_clamp (n := 4 * h + 1) (by omega), nI_clamp (n := 4 * h + 2) (by omega), nI_clamp (n := 4 * h + 3) (by omega), b0, b1, b2, b3, nI_add, nI_add, nI_add, ← s4, nI_add]
  refine pk_le (b + sd_tb fw h 0 4) (8 * Z) (fun z => nm_e ?_) (fun z => h0 (by omega)) rfl rfl (by have := (l4 4 (by omega)).1; omega) (by omega)
  refine sd_lp (fun n i (s : Nat → Int32) => wY_takeOut_23 post (nI h) sc oc tl (nI (8 * Z)) ma ol tp sb sd tk dr ay gl n (nI (4 * h + i)) (nI (sd_tb fw h b i)) fw s hv ta lk go ca cv cm cg opn ow oq ox rg sw sa sz sg ho kf kk ra ac ea eb ch th mv mm ty bi mk rc mr md mt gp yb le qc qe qq tq lc gt) (fun i => sd_tf fw bi fv h b i) 4 0 (by omega) (fun n => br_t ?_ (sd_st h rfl hh (by decide) ?_)) (fun n i _ hi ih => br_f ?_ ?_)
  · rw [e4]; exact nI_le (Nat.le_refl _) (by omega)
  · rw [sd_b1, sd_tba]; exact h1 z
  · rw [e4]; exact nI_ge (by omega) (by omega)
  · obtain ⟨w, w1, w2, w3⟩ := sd_wi hF (f := 4 * h + i) (by omega)
    have g := (l4 i (by omega)).2 hi
    have t := sd_tba (fw := fw) (h := h) (b := b) i
    refine sy_tb (w := w) (by omega) w2 w1 (by omega) ?_
    have ih' : wY_takeOut_23 post (nI h) sc oc tl (nI (8 * Z)) ma ol tp sb sd tk dr ay gl n (nI (4 * h + (i + 1))) (nI (sd_tb fw h b i + (fw (4 * h + i)).toNatClampNeg)) fw (upd (sd_tf fw bi fv h b i) (4 * h + i) (sd_ac bi (sd_tb fw h b i) (fw (4 * h + i)).toNatClampNeg)) hv ta lk go ca cv cm cg opn ow oq ox rg sw sa sz sg ho kf kk ra ac ea eb ch th mv mm ty bi mk rc mr md mt gp yb le qc qe qq tq lc gt := ih
    rw [w3] at ih'
    exact ih'
end
end
section
section
variable {sc oc bt bb da ag lo tp sb sd tk : Int32} {fw fv hv sts ops opn rg kf kk th ens mv mm sps ho pb pz rc mr md mt gp qc qq qe lc tq : Nat → Int32} {tl tt ma ol dr ay gl : Int32} {ta lk go ca cv cm cg ow oq ox sw sa sz sg ra ac ea eb ch ty bi mk yb le gt : Nat → Int32}
/-- the goal of a state's r cases from c on -/
def sd_gg (cv cm cg : Nat → Int32) (x d : Int32) (b : Nat) : Nat → Nat → Int32
  | 0, _ => d
  | r + 1, c => if (x ^^^ cv (b + c)) &&& cm (b + c) = 0 then cg (b + c) else sd_gg cv cm cg x d b r (c + 1)
def sd_gf (lk go ca cv cm cg fv : Nat → Int32) (s : Nat) : Int32 :=
  if lk s = -1 then go s else sd_gg cv cm cg (fv (lk s).toNatClampNeg) (go s) (3 * s) (ca s).toNatClampNeg 0
theorem sd_ggr {x d : Int32} {b : Nat} (hd : sd_rg 10 d) (hc : ∀ c, c < 3 → sd_rg 10 (cg (b + c))) : ∀ r c, c + r ≤ 3 → sd_rg 10 (sd_gg cv cm cg x d b r c)
  | 0, c, _ => hd
  | r + 1, c, h => by
    show sd_rg 10 (if (x ^^^ cv (b + c)) &&& cm (b + c) = 0 then cg (b + c) else sd_gg cv cm cg x d b r (c + 1))
    by_cases z : (x ^^^ cv (b + c)) &&& cm (b + c) = 0
    · rw [if_pos z]; exact hc c (by omega)
    · rw [if_neg z]; exact sd_ggr hd hc r (c + 1) (by omega)
theorem sd_gfr (hS : sd_S sts ta lk go ca cv cm cg) {s : Nat} (hs : s < 8) : sd_rg 10 (sd_gf lk go ca cv cm cg fv s) := by
  obtain ⟨⟨h0, h1, h2, h3⟩, h4, h5, h6, ⟨n, hn, h7⟩, h8⟩ := hS s hs
  unfold sd_gf
  by_cases z : lk s = -1
  · rw [if_pos z]; exact h6
  · rw [if_neg z, h7, nI_clamp (by omega)]
    exact sd_ggr h6 (fun c hc => (h8 c hc).2.2.2) n 0 (by omega)
theorem sx_gg {post : Int32 → Prop} (hS : sd_S sts ta lk go ca cv cm cg) {s f N : Nat} (hs : s < 8) (hf : f < 28) (hN : N ≤ 3) : ∀ r c, c + r = N → post (sd_gg cv cm cg (fv f) (go s) (3 * s) r c) → wX_goalOf_36 post (nI (s * 13)) (nI f) (nI N) sc oc bt bb da ag lo tp sb sd tk fw fv hv sts ops opn rg kf kk th ens mv mm sps ho pb pz rc mr md mt gp qc qq qe lc tq (r + 1) (nI c)
  | 0, c, h, hp => by
    have e2 : nI (s * 13) + 2 = nI (s * 13 + 2) := nI_add _ 2
    refine br_t (nI_le (by omega) (by omega)) ?_
    rw [e2, nI_clamp (by omega), (hS s hs).1.2.2.1]
    exact ⟨vp_in_nI (by omega) (by decide), hp⟩
  | r + 1, c, h, hp => by
    have ec : nI (s * 13) + 4 + nI c * 3 = nI (s * 13 + 4 + c * 3) := by
      have e1 : nI (s * 13) + 4 = nI (s * 13 + 4) := nI_add _ 4
      have e2 : nI c * 3 = nI (c * 3) := pk_mul c 3
      rw [e1, e2, nI_add]
    have e1 : nI (s * 13 + 4 + c * 3) + 1 = nI (s * 13 + 4 + c * 3 + 1) := nI_add _ 1
    have e2 : nI (s * 13 + 4 + c * 3) + 2 = nI (s * 13 + 4 + c * 3 + 2) := nI_add _ 2
    obtain ⟨g1, g2, g3, g4⟩ := (hS s hs).2.2.2.2.2 c (by omega)
    refine br_f (nI_ge (by omega) (by omega)) (nm_r ec ?_)
    rw [e1, e2, nI_clamp (n := f) (by omega), nI_clamp (n := s * 13 + 4 + c * 3) (by omega), nI_clamp (n := s * 13 + 4 + c * 3 + 1) (by omega), nI_clamp (n := s * 13 + 4 + c * 3 + 2) (by omega), g1, g2, g3]
    refine ⟨vp_in_nI hf (by decide), vp_in_nI (by omega) (by decide), vp_in_nI (by omega) (by decide), br_c (fun z => ?_) (fun z => ?_)⟩
    · refine sd_w1 ⟨vp_in_nI (by omega) (by decide), ?_⟩
      have hp' : post (if (fv f ^^^ cv (3 * s + c)) &&& cm (3 * s + c) = 0 then cg (3 * s + c) else sd_gg cv cm cg (fv f) (go s) (3 * s) r (c + 1)) := hp
      rw [if_pos z] at hp'
      exact hp'
    · refine sd_w0 (nm_r (nI_1 c) (sx_gg hS hs hf hN r (c + 1) (by omega) ?_))
      have hp' : post (if (fv f ^^^ cv (3 * s + c)) &&& cm (3 * s + c) = 0 then cg (3 * s + c) else sd_gg cv cm cg (fv f) (go s) (3 * s) r (c + 1)) := hp
      rw [if_neg z] at hp'
      exact hp'
theorem sx_go {post : Int32 → Prop} (hS : sd_S sts ta lk go ca cv cm cg) {s : Nat} (hs : s < 8) (h : post (sd_gf lk go ca cv cm cg fv s)) : wpX_goalOf post (sc, oc, bt, bb, da, ag, lo, tp, sb, sd, tk, fw, fv, hv, sts, ops, opn, rg, kf, kk, th, ens, mv, mm, sps, ho, pb, pz, rc, mr, md, mt, gp, qc, qq, qe, lc, tq) (nI s) := by
  obtain ⟨⟨h0, h1, h2, h3⟩, h4, h5, h6, ⟨n, hn, h7⟩, h8⟩ := hS s hs
  refine nm_r (pk_mul s 13) ?_
  have e1 : nI (s * 13) + 1 = nI (s * 13 + 1) := nI_add _ 1
  have e3 : nI (s * 13) + 3 = nI (s * 13 + 3) := nI_add _ 3
  rw [e1, e3, nI_clamp (n := s * 13 + 1) (by omega), nI_clamp (n := s * 13 + 3) (by omega), h1, h3]
  refine ⟨vp_in_nI (by omega) (by decide), nm_e ?_⟩
  unfold sd_gf at h
  rcases h5 with h5 | ⟨f, hf, h5⟩
  · rw [if_pos h5] at h
    refine br_t h5 ⟨1, br_t (by decide) ?_⟩
    have e2 : nI (s * 13) + 2 = nI (s * 13 + 2) := nI_add _ 2
    rw [e2, nI_clamp (by omega), h2]
    exact ⟨vp_in_nI (by omega) (by decide), h⟩
  · have z : ¬ lk s = -1 := by rw [h5]; exact sd_ne (by omega)
    rw [if_neg z, h5, h7, nI_clamp (by omega), nI_clamp (by omega)] at h
    refine br_f z ⟨vp_in_nI (by omega) (by decide), ?_⟩
    rw [h5, h7]
    exact nm_e ⟨n + 1, sx_gg hS hs hf (by omega) n 0 (by omega) h⟩
theorem sy_gg {post : Int32 → SY → Prop} (hS : sd_S sts ta lk go ca cv cm cg) {s f N : Nat} (hs : s < 8) (hf : f < 28) (hN : N ≤ 3) (hl : lk s = nI f) (hn : ca s = nI N) : ∀ r c, c + r = N → post (sd_gg cv cm cg (fv f) (go s) (3 * s) r c) (sc, oc, tl, tt, bt, ma, ol, tp, sb, sd, tk, dr, ay, gl, fw, fv, hv, ta, lk, go, ca, cv, cm, cg, opn, ow, oq, ox, rg, sw, sa, sz, sg, ho, kf, kk, ra, ac, ea, eb, ch, th, mv, mm, ty, bi, mk, rc, mr, md, mt, gp, yb, le, qc, qe, qq, tq, lc, gt) → wY_enter_39 post (nI s) sc oc tl tt bt ma ol tp sb sd tk dr ay gl fw fv hv ta lk go ca cv cm cg opn ow oq ox rg sw sa sz sg ho kf kk ra ac ea eb ch th mv mm ty bi mk rc mr md mt gp yb le qc qe qq tq lc gt (r + 1) (nI (3 * s + c))
  | 0, c, h, hp => by
    have e3 : 3 * nI s + nI N = nI (3 * s + N) := sd_am s 3 N
    refine ⟨vp_in_nI hs (by decide), ?_⟩
    rw [nI_clamp (n := s) (by omega), hn, e3]
    exact br_t (nI_le (by omega) (by omega)) ⟨vp_in_nI hs (by decide), hp⟩
  | r + 1, c, h, hp => by
    have e3 : 3 * nI s + nI N = nI (3 * s + N) := sd_am s 3 N
    refine ⟨vp_in_nI hs (by decide), ?_⟩
    rw [nI_clamp (n := s) (by omega), hn, e3, hl, nI_clamp (n := f) (by omega), nI_clamp (n := 3 * s + c) (by omega)]
    refine br_f (nI_ge (by omega) (by omega)) ⟨vp_in_nI hs (by decide), br_f (nI_pos (by omega)) ⟨vp_in_nI hs (by decide), vp_in_nI hf (by decide), vp_in_nI (by omega) (by decide), vp_in_nI (by omega) (by decide), br_c (fun z => ⟨vp_in_nI (by omega) (by decide), ?_⟩) (fun z => nm_r (nI_1 _) (sy_gg hS hs hf hN hl hn r (c + 1) (by omega) ?_))⟩⟩
    · have hp' : post (if (fv f ^^^ cv (3 * s + c)) &&& cm (3 * s + c) = 0 then cg (3 * s + c) else sd_gg cv cm cg (fv f) (go s) (3 * s) r (c + 1)) (sc, oc, tl, tt, bt, ma, ol, tp, sb, sd, tk, dr, ay, gl, fw, fv, hv, ta, lk, go, ca, cv, cm, cg, opn, ow, oq, ox, rg, sw, sa, sz, sg, ho, kf, kk, ra, ac, ea, eb, ch, th, mv, mm, ty, bi, mk, rc, mr, md, mt, gp, yb, le, qc, qe, qq, tq, lc, gt) := hp
      rw [if_pos z] at hp'
      exact hp'
    · have hp' : post (if (fv f ^^^ cv (3 * s + c)) &&& cm (3 * s + c) = 0 then cg (3 * s + c) else sd_gg cv cm cg (fv f) (go s) (3 * s) r (c + 1)) (sc, oc, tl, tt, bt, ma, ol, tp, sb, sd, tk, dr, ay, gl, fw, fv, hv, ta, lk, go, ca, cv, cm, cg, opn, ow, oq, ox, rg, sw, sa, sz, sg, ho, kf, kk, ra, ac, ea, eb, ch, th, mv, mm, ty, bi, mk, rc, mr, md, mt, gp, yb, le, qc, qe, qq, tq, lc, gt) := hp
      rw [if_neg z] at hp'
      exact hp'
theorem sy_go {post : Int32 → SY → Prop} (hS : sd_S sts ta lk go ca cv cm cg) {s : Nat} (hs : s < 8) (h : post (sd_gf lk go ca cv cm cg fv s) (sc, oc, tl, tt, bt, ma, ol, tp, sb, sd, tk, dr, ay, gl, fw, fv, hv, ta, lk, go, ca, cv, cm, cg, opn, ow, oq, ox, rg, sw, sa, sz, sg, ho, kf, kk, ra, ac, ea, eb, ch, th, mv, mm, ty, bi, mk, rc, mr, md, mt, gp, yb, le, qc, qe, qq, tq, lc, gt)) : ∃ n, wY_enter_39 post (nI s) sc oc tl tt bt ma ol tp sb sd tk dr ay gl fw fv hv ta lk go ca cv cm cg opn ow oq ox rg sw sa sz sg ho kf kk ra ac ea eb ch th mv mm ty bi mk rc mr md mt gp yb le qc qe qq tq lc gt n (nI (3 * s)) := by
  obtain ⟨⟨h0, h1, h2, h3⟩, h4, h5, h6, ⟨n, hn, h7⟩, h8⟩ := hS s hs
  unfold sd_gf at h
  rcases h5 with h5 | ⟨f, hf, h5⟩
  · rw [if_pos h5] at h
    refine ⟨1, vp_in_nI hs (by decide), ?_⟩
    rw [nI_clamp (n := s) (by omega)]
    refine br_c (fun _ => ⟨vp_in_nI hs (by decide), h⟩) (fun _ => ⟨vp_in_nI hs (by decide), br_t ?_ ⟨vp_in_nI hs (by decide), h⟩⟩)
    rw [h5]; decide
  · have z : ¬ lk s = -1 := by rw [h5]; exact sd_ne (by omega)
    rw [if_neg z, h5, h7, nI_clamp (by omega), nI_clamp (by omega)] at h
    exact ⟨n + 1, sy_gg hS hs hf (by omega) h5 h7 n 0 (by omega) h⟩
theorem sd_tfo {h b f : Nat} (hh : h < 6) (hf : 24 ≤ f) : ∀ i, i ≤ 4 → sd_tf fw bi fv h b i f = fv f
  | 0, _ => rfl
  | i + 1, hi => by
    show upd (sd_tf fw bi fv h b i) (4 * h + i) _ f = _
    rw [pk_un (by omega)]
    exact sd_tfo hh hf i (by omega)
/-- the way through the states, both sides at once -/
theorem sd_pl (hS : sd_S sts ta lk go ca cv cm cg) {Z : Nat} (hZ : Z ≤ 16) (hz : pz 49 = nI Z) (hB : ∀ i, i < 8 * Z → bi i = sd_bv (pb (784 + i / 8)) (i % 8)) :
    ∀ (d g b c : Nat) (sb : Int32) (fv hv : Nat → Int32), c + d = 12 → g < 10 → b ≤ 8 * Z → sd_F fw fv hv →
    ∃ (r sb' : Int32) (b' : Nat) (fv' hv' : Nat → Int32), (r = 0 ∨ r = 1) ∧ b' ≤ 8 * Z ∧ sd_F fw fv' hv' ∧ (∀ f, 24 ≤ f → fv' f = fv f) ∧
    (∀ post : Int32 → SX → Prop, post r (sc, oc, (nI b'), bb, da, ag, lo, tp, sb', sd, tk, fw, fv', hv', sts, ops, opn, rg, kf, kk, th, ens, mv, mm, sps, ho, pb, pz, rc, mr, md, mt, gp, qc, qq, qe, lc, tq) → wX_parsePacket_61 post (d + 1) (nI g) (nI c) sc oc (nI b) bb da ag lo tp sb sd tk fw fv hv sts ops opn rg kf kk th ens mv mm sps ho pb pz rc mr md mt gp qc qq qe lc tq) ∧
    (∀ post : Int32 → SY → Prop, post r (sc, oc, tl, (nI (8 * Z)), (nI b'), ma, ol, tp, sb', sd, tk, dr, ay, gl, fw, fv', hv', ta, lk, go, ca, cv, cm, cg, opn, ow, oq, ox, rg, sw, sa, sz, sg, ho, kf, kk, ra, ac, ea, eb, ch, th, mv, mm, ty, bi, mk, rc, mr, md, mt, gp, yb, le, qc, qe, qq, tq, lc, gt) → wY_parse_61 post (d + 1) (nI g) (nI c) sc oc tl (nI (8 * Z)) (nI b) ma ol tp sb sd tk dr ay gl fw fv hv ta lk go ca cv cm cg opn ow oq ox rg sw sa sz sg ho kf kk ra ac ea eb ch th mv mm ty bi mk rc mr md mt gp yb le qc qe qq tq lc gt) := by
  have stop : ∀ (n g b c : Nat) (sb : Int32) (fv hv : Nat → Int32), (12 ≤ c ∧ c < 100 ∨ 8 ≤ g) → g < 10 → c < 100 → sd_F fw fv hv → b ≤ 8 * Z →
    ∃ (r sb' : Int32) (b' : Nat) (fv' hv' : Nat → Int32), (r = 0 ∨ r = 1) ∧ b' ≤ 8 * Z ∧ sd_F fw fv' hv' ∧ (∀ f, 24 ≤ f → fv' f = fv f) ∧
    (∀ post : Int32 → SX → Prop, post r (sc, oc, (nI b'), bb, da, ag, lo, tp, sb', sd, tk, fw, fv', hv', sts, ops, opn, rg, kf, kk, th, ens, mv, mm, sps, ho, pb, pz, rc, mr, md, mt, gp, qc, qq, qe, lc, tq) → wX_parsePacket_61 post (n + 1) (nI g) (nI c) sc oc (nI b) bb da ag lo tp sb sd tk fw fv hv sts ops opn rg kf kk th ens mv mm sps ho pb pz rc mr md mt gp qc qq qe lc tq) ∧
    (∀ post : Int32 → SY → Prop, post r (sc, oc, tl, (nI (8 * Z)), (nI b'), ma, ol, tp, sb', sd, tk, dr, ay, gl, fw, fv', hv', ta, lk, go, ca, cv, cm, cg, opn, ow, oq, ox, rg, sw, sa, sz, sg, ho, kf, kk, ra, ac, ea, eb, ch, th, mv, mm, ty, bi, mk, rc, mr, md, mt, gp, yb, le, qc, qe, qq, tq, lc, gt) → wY_parse_61 post (n + 1) (nI g) (nI c) sc oc tl (nI (8 * Z)) (nI b) ma ol tp sb sd tk dr ay gl fw fv hv ta lk go ca cv cm cg opn ow oq ox rg sw sa sz sg ho kf kk ra ac ea eb ch th mv mm ty bi mk rc mr md mt gp yb le qc qe qq tq lc gt) := by
    intro n g b c sb fv hv hc hg hc2 hF hb
    by_cases g8 : g = 8
    · refine ⟨1, sb, b, fv, hv, Or.inr rfl, hb, hF, fun _ _ => rfl, fun post hp => ?_, fun post hp => ?_⟩
      · exact br_c (fun _ => br_t (by rw [g8]; rfl) hp) (fun _ => br_t (by rw [g8]; decide) (br_t (by rw [g8]; rfl) hp))
      · exact br_c (fun _ => br_t (by rw [g8]; rfl) hp) (fun _ => br_t (by rw [g8]; decide) (br_t (by rw [g8]; rfl) hp))
    · have n8 : ¬ nI g = 8 := fun z => g8 ((nI_eq (a := g) (b := 8) (by omega) (by omega)).mp z)
      refine ⟨0, sb, b, fv, hv, Or.inl rfl, hb, hF, fun _ _ => rfl, fun post hp => ?_, fun post hp => ?_⟩
      · exact pk_le 12 c (fun _ => br_f n8 hp) (fun z => br_t (nI_le (a := 8) (by omega) (by omega)) (br_f n8 hp))
      · exact pk_le 12 c (fun _ => br_f n8 hp) (fun z => br_t (nI_le (a := 8) (by omega) (by omega)) (br_f n8 hp))
  intro d
  induction d with
  | zero =>
    intro g b c sb fv hv hc hg hb hF
    exact stop 0 g b c sb fv hv (by omega) hg (by omega) hF hb
  | succ d ih =>
    intro g b c sb fv hv hc hg hb hF
    by_cases g8 : 8 ≤ g
    · exact stop (d + 1) g b c sb fv hv (by omega) hg (by omega) hF hb
    · have hS' := hS g (by omega)
      have c12 : ¬ 12 ≤ nI c := nI_ge (b := 12) (by omega) (by omega)
      have g88 : ¬ 8 ≤ nI g := nI_ge (b := 8) (by omega) (by omega)
      have e0 : nI g * 13 + 0 = nI (g * 13 + 0) := sd_ma g 13 0
      have e3 : 3 * nI g = nI (3 * g) := pk_mul 3 g
      rcases hS'.2.1 with t | ⟨h, hh, t⟩
      · obtain ⟨g', hg', eg⟩ := sd_gfr (fv := fv) hS (s := g) (by omega)
        obtain ⟨r, sb', b', fv', hv', k1, k2, k3, k4, k5, k6⟩ := ih g' b (c + 1) (sb + 1) fv hv (by omega) hg' hb hF
        refine ⟨r, sb', b', fv', hv', k1, k2, k3, k4, fun post hp => ?_, fun post hp => ?_⟩
        · refine br_f c12 (br_f g88 (nm_e ?_))
          rw [e0, nI_clamp (n := g * 13 + 0) (by omega), hS'.1.1, t]
          refine ⟨vp_in_nI (by omega) (by decide), br_t rfl (sd_w1 (sx_go hS (by omega) (nm_r (nI_1 c) ?_)))⟩
          rw [eg]
          exact k5 post hp
        · refine br_f c12 (br_f g88 (nm_e ⟨vp_in_nI (by omega) (by decide), ?_⟩))
          rw [nI_clamp (n := g) (by omega), t]
          refine br_t (by decide) (nm_r e3 (sy_go hS (by omega) (nm_r (nI_1 c) ?_)))
          rw [eg]
          exact k6 post hp
      · have tn : ¬ ta g < 0 := by rw [t]; exact nI_pos (by omega)
        by_cases z : b + sd_tb fw h 0 4 ≤ 8 * Z
        · obtain ⟨g', hg', eg⟩ := sd_gfr (fv := sd_tf fw bi fv h b 4) hS (s := g) (by omega)
          obtain ⟨r, sb', b', fv', hv', k1, k2, k3, k4, k5, k6⟩ := ih g' (b + sd_tb fw h 0 4) (c + 1) (sb + 1) (sd_tf fw bi fv h b 4) (upd hv h 1) (by omega) hg' z (sd_Fh (sd_Ftf hF hh 4 (by omega)) (Or.inr rfl))
          refine ⟨r, sb', b', fv', hv', k1, k2, k3, fun f hf => ?_, fun post hp => ?_, fun post hp => ?_⟩
          · rw [k4 f hf]
            exact sd_tfo hh hf 4 (by omega)
          · refine br_f c12 (br_f g88 (nm_e ?_))
            rw [e0, nI_clamp (n := g * 13 + 0) (by omega), hS'.1.1, t]
            refine ⟨vp_in_nI (by omega) (by decide), sx_th hF hh hZ hz hB hb (fun _ => sd_w1 (sx_go hS (by omega) (nm_r (nI_1 c) ?_))) (fun y => absurd z y)⟩
            rw [eg]
            exact k5 post hp
          · refine br_f c12 (br_f g88 (nm_e ⟨vp_in_nI (by omega) (by decide), ?_⟩))
            rw [nI_clamp (n := g) (by omega)]
            refine br_f tn ⟨vp_in_nI (by omega) (by decide), ?_⟩
            rw [t]
            refine sy_th hF hh hZ hb (fun _ => sd_w1 (nm_r e3 (sy_go hS (by omega) (nm_r (nI_1 c) ?_)))) (fun y => absurd z y)
            rw [eg]
            exact k6 post hp
        · obtain ⟨r, sb', b', fv', hv', k1, k2, k3, k4, k5, k6⟩ := ih 9 b (c + 1) (sb + 1) fv hv (by omega) (by omega) hb hF
          refine ⟨r, sb', b', fv', hv', k1, k2, k3, k4, fun post hp => ?_, fun post hp => ?_⟩
          · refine br_f c12 (br_f g88 (nm_e ?_))
            rw [e0, nI_clamp (n := g * 13 + 0) (by omega), hS'.1.1, t]
            exact ⟨vp_in_nI (by omega) (by decide), sx_th hF hh hZ hz hB hb (fun y => absurd y z) (fun _ => sd_w0 (nm_r (nI_1 c) (k5 post hp)))⟩
          · refine br_f c12 (br_f g88 (nm_e ⟨vp_in_nI (by omega) (by decide), ?_⟩))
            rw [nI_clamp (n := g) (by omega)]
            refine br_f tn ⟨vp_in_nI (by omega) (by decide), ?_⟩
            rw [t]
            exact sy_th hF hh hZ hb (fun y => absurd y z) (fun _ => sd_w0 (nm_r (nI_1 c) (k6 post hp)))
/-- the first i cells are 0 -/
def sd_ze (a : Nat → Int32) : Nat → (Nat → Int32)
  | 0 => a
  | i + 1 => upd (sd_ze a i) i 0
theorem sd_zei {a : Nat → Int32} : ∀ i j, j < i → sd_ze a i j = 0
  | 0, j, h => absurd h (by omega)
  | i + 1, j, h => by
    show upd (sd_ze a i) i 0 j = 0
    by_cases e : j = i
    · subst e; rw [pk_us]
    · rw [pk_un e]; exact sd_zei i j (by omega)
theorem sd_zeo {a : Nat → Int32} : ∀ i j, i ≤ j → sd_ze a i j = a j
  | 0, j, h => rfl
  | i + 1, j, h => by
    show upd (sd_ze a i) i 0 j = _
    rw [pk_un (by omega)]; exact sd_zeo i j (by omega)
theorem sd_Fz (hF : sd_F fw fv hv) : sd_F fw (sd_ze fv 24) (sd_ze hv 6) := by
  refine ⟨fun f hf => ?_, hF.2.1, fun h hh => Or.inl (sd_zei 6 h hh)⟩
  obtain ⟨a, b, h1, h2, h3, h4⟩ := hF.1 f hf
  by_cases z : f < 24
  · exact ⟨a, 0, h1, Nat.pos_of_ne_zero (by simp), h3, sd_zei 24 f z⟩
  · exact ⟨a, b, h1, h2, h3, by rw [sd_zeo 24 f (by omega)]; exact h4⟩
/-- parsing, both sides at once -/
theorem sd_parse (hF : sd_F fw fv hv) (hS : sd_S sts ta lk go ca cv cm cg) {Z : Nat} (hZ : Z ≤ 16) (hz : pz 49 = nI Z) (hB : ∀ i, i < 8 * Z → bi i = sd_bv (pb (784 + i / 8)) (i % 8)) :
    ∃ (r sb' : Int32) (b' : Nat) (fv' hv' : Nat → Int32), (r = 0 ∨ r = 1) ∧ b' ≤ 8 * Z ∧ sd_F fw fv' hv' ∧ (∀ f, 24 ≤ f → fv' f = fv f) ∧
    (∀ post : Int32 → SX → Prop, post r (sc, oc, (nI b'), bb, da, ag, lo, (tp + 1), sb', sd, tk, fw, fv', hv', sts, ops, opn, rg, kf, kk, th, ens, mv, mm, sps, ho, pb, pz, rc, mr, md, mt, gp, qc, qq, qe, lc, tq) → wpX_parsePacket post (sc, oc, bt, bb, da, ag, lo, tp, sb, sd, tk, fw, fv, hv, sts, ops, opn, rg, kf, kk, th, ens, mv, mm, sps, ho, pb, pz, rc, mr, md, mt, gp, qc, qq, qe, lc, tq)) ∧
    (∀ post : Int32 → SY → Prop, post r (sc, oc, tl, (nI (8 * Z)), (nI b'), ma, ol, (tp + 1), sb', sd, tk, dr, ay, gl, fw, fv', hv', ta, lk, go, ca, cv, cm, cg, opn, ow, oq, ox, rg, sw, sa, sz, sg, ho, kf, kk, ra, ac, ea, eb, ch, th, mv, mm, ty, bi, mk, rc, mr, md, mt, gp, yb, le, qc, qe, qq, tq, lc, gt) → wpY_parse post (sc, oc, tl, (nI (8 * Z)), bt, ma, ol, tp, sb, sd, tk, dr, ay, gl, fw, fv, hv, ta, lk, go, ca, cv, cm, cg, opn, ow, oq, ox, rg, sw, sa, sz, sg, ho, kf, kk, ra, ac, ea, eb, ch, th, mv, mm, ty, bi, mk, rc, mr, md, mt, gp, yb, le, qc, qe, qq, tq, lc, gt)) := by
  obtain ⟨r, sb', b', fv', hv', k1, k2, k3, k4, k5, k6⟩ := sd_pl (sc := sc) (oc := oc) (bb := bb) (da := da) (ag := ag) (lo := lo) (tp := (tp + 1)) (sd := sd) (tk := tk) (fw := fw) (sts := sts) (ops := ops) (opn := opn) (rg := rg) (kf := kf) (kk := kk) (th := th) (ens := ens) (mv := mv) (mm := mm) (sps := sps) (ho := ho) (pb := pb) (pz := pz) (rc := rc) (mr := mr) (md := md) (mt := mt) (gp := gp) (qc := qc) (qq := qq) (qe := qe) (lc := lc) (tq := tq) (tl := tl) (ma := ma) (ol := ol) (dr := dr) (ay := ay) (gl := gl) (ta := ta) (lk := lk) (go := go) (ca := ca) (cv := cv) (cm := cm) (cg := cg) (ow := ow) (oq := oq) (ox := ox) (sw := sw) (sa := sa) (sz := sz) (sg := sg) (ra := ra) (ac := ac) (ea := ea) (eb := eb) (ch := ch) (ty := ty) (bi := bi) (mk := mk) (yb := yb) (le := le) (gt := gt) hS hZ hz hB 12 0 0 0 sb (sd_ze fv 24) (sd_ze hv 6) (by omega) (by omega) (by omega) (sd_Fz hF)
  refine ⟨r, sb', b', fv', hv', k1, k2, k3, fun f hf => (k4 f hf).trans (sd_zeo 24 f hf), fun post hp => ?_, fun post hp => ?_⟩
  · refine nm_e ?_
    refine sd_lp (fun n i s => wX_parsePacket_17 post sc oc 0 bb da ag lo (tp + 1) sb sd tk n (nI i) fw s hv sts ops opn rg kf kk th ens mv mm sps ho pb pz rc mr md mt gp qc qq qe lc tq) (fun i => sd_ze fv i) 24 0 (by omega) (fun n => br_t (nI_le (a := 24) (b := 24) (Nat.le_refl _) (by omega)) ?_)
      (fun n i _ hi ih => br_f (nI_ge (b := 24) hi (by omega)) (sd_st i rfl (by omega) (by decide) (nm_r (nI_1 i) ih)))
    refine sd_lp (fun n i s => wX_parsePacket_38 post sc oc 0 bb da ag lo (tp + 1) sb sd tk n (nI i) fw (sd_ze fv 24) s sts ops opn rg kf kk th ens mv mm sps ho pb pz rc mr md mt gp qc qq qe lc tq) (fun i => sd_ze hv i) 6 0 (by omega) (fun n => br_t (nI_le (a := 6) (b := 6) (Nat.le_refl _) (by omega)) ⟨13, k5 post hp⟩)
      (fun n i _ hi ih => br_f (nI_ge (b := 6) hi (by omega)) (sd_st i rfl (by omega) (by decide) (by rw [sd_b0]; exact nm_r (nI_1 i) ih)))
  · refine sd_lp (fun n i s => wY_parse_2 post sc oc tl (nI (8 * Z)) bt ma ol tp sb sd tk dr ay gl n (nI i) fw fv s ta lk go ca cv cm cg opn ow oq ox rg sw sa sz sg ho kf kk ra ac ea eb ch th mv mm ty bi mk rc mr md mt gp yb le qc qe qq tq lc gt) (fun i => sd_ze hv i) 6 0 (by omega) (fun n => br_t (nI_le (a := 6) (b := 6) (Nat.le_refl _) (by omega)) ?_)
      (fun n i _ hi ih => br_f (nI_ge (b := 6) hi (by omega)) (sd_st i rfl (by omega) (by decide) (by rw [sd_b0]; exact nm_r (nI_1 i) ih)))
    refine sd_lp (fun n i s => wY_parse_23 post sc oc tl (nI (8 * Z)) bt ma ol tp sb sd tk dr ay gl n (nI i) fw s (sd_ze hv 6) ta lk go ca cv cm cg opn ow oq ox rg sw sa sz sg ho kf kk ra ac ea eb ch th mv mm ty bi mk rc mr md mt gp yb le qc qe qq tq lc gt) (fun i => sd_ze fv i) 24 0 (by omega) (fun n => br_t (nI_le (a := 24) (b := 24) (Nat.le_refl _) (by omega)) (nm_e ⟨13, k6 post hp⟩))
      (fun n i _ hi ih => br_f (nI_ge (b := 24) hi (by omega)) (sd_st i rfl (by omega) (by decide) (nm_r (nI_1 i) ih)))
end
end
section
theorem s_l : ∀ n, n < 32 → ((nI n &&& 31).toBitVec.smod 32).toNat = n := by decide +kernel
theorem wb_tb (n : Nat) : (lN n).toBitVec = BitVec.ofNat 64 n := rfl
theorem wb_inj {a b : Int64} (h : a.toBitVec = b.toBitVec) : a = b := Int64.toBitVec_inj.mp h
theorem wb_tn {n : Nat} (h : n < 2 ^ 64) : (lN n).toBitVec.toNat = n := by rw [wb_tb, BitVec.toNat_ofNat, Nat.mod_eq_of_lt h]
theorem wb_c : ∀ k, k < 64 → ((nI k).toInt64 &&& 63) = lN k := by decide +kernel
theorem wb_cu : ∀ k, k < 64 → ((nI k).toInt64.toUInt64 &&& Int64.toUInt64 63) = UInt64.ofNat k := by decide +kernel
theorem wb_sm : ∀ k, k < 64 → (BitVec.ofNat 64 k).smod 64 = BitVec.ofNat 64 k := by decide +kernel
theorem wb_pw {a b : Nat} (h : a ≤ b) : 2 ^ b = 2 ^ a * 2 ^ (b - a) := by rw [← Nat.pow_add]; congr 1; omega
theorem wb_lt2 {a b : Nat} (h : a < b) : 2 ^ a < 2 ^ b := Nat.pow_lt_pow_right (by decide) h
theorem wb_shr {n k : Nat} (hn : n < 2 ^ 64) (hk : k < 64) : ((lN n).toUInt64 >>> ((nI k).toInt64.toUInt64 &&& Int64.toUInt64 63)).toInt64 = lN (n / 2 ^ k) := by
  rw [wb_cu k hk]
  apply wb_inj
  apply BitVec.eq_of_toNat_eq
  show ((lN n).toUInt64 >>> UInt64.ofNat k).toNat = (BitVec.ofNat 64 _).toNat
  have h1 : (UInt64.ofNat k).toNat = k := by
    show (BitVec.ofNat 64 k).toNat = k
    rw [BitVec.toNat_ofNat, Nat.mod_eq_of_lt (by omega)]
  have h2 : (lN n).toUInt64.toNat = n := wb_tn hn
  rw [UInt64.toNat_shiftRight, h1, h2, Nat.mod_eq_of_lt hk, Nat.shiftRight_eq_div_pow, BitVec.toNat_ofNat, Nat.mod_eq_of_lt (Nat.lt_of_le_of_lt (Nat.div_le_self _ _) hn)]
theorem wb_shl (n : Nat) {k : Nat} (hk : k < 64) : lN n <<< ((nI k).toInt64 &&& 63) = lN (n * 2 ^ k) := by
  rw [wb_c k hk]
  apply wb_inj
  rw [Int64.toBitVec_shiftLeft, wb_tb, wb_tb, wb_tb, wb_sm k hk]
  apply BitVec.eq_of_toNat_eq
  rw [BitVec.shiftLeft_eq', BitVec.toNat_shiftLeft, BitVec.toNat_ofNat, BitVec.toNat_ofNat, BitVec.toNat_ofNat, Nat.mod_eq_of_lt (show k < 2 ^ 64 by omega), Nat.shiftLeft_eq, Nat.mul_mod, Nat.mod_mod, ← Nat.mul_mod]
theorem wb_and {a b : Nat} (ha : a < 2 ^ 64) (hb : b < 2 ^ 64) : lN a &&& lN b = lN (a &&& b) := by
  apply wb_inj
  rw [Int64.toBitVec_and, wb_tb, wb_tb, wb_tb]
  apply BitVec.eq_of_toNat_eq
  rw [BitVec.toNat_and, BitVec.toNat_ofNat, BitVec.toNat_ofNat, BitVec.toNat_ofNat, Nat.mod_eq_of_lt ha, Nat.mod_eq_of_lt hb, Nat.mod_eq_of_lt (Nat.and_lt_two_pow _ hb)]
theorem wb_mask {n k : Nat} (hn : n < 2 ^ 64) (hk : k < 64) : lN n &&& lN (2 ^ k - 1) = lN (n % 2 ^ k) := by
  rw [wb_and hn (by have := wb_lt2 hk; omega), Nat.and_two_pow_sub_one_eq_mod]
theorem u_tn {n : Nat} (h : n < 2 ^ 64) : (UInt64.ofNat n).toNat = n := Nat.mod_eq_of_lt h
theorem g_or {k p a b : Nat} (hp : 2 ^ k = p) (ha : a < p) (h : b * p + a < 2 ^ 64) : lN (b * p) ||| lN a = lN (b * p + a) := by
  subst hp
  have h1 : b * 2 ^ k ||| a = b * 2 ^ k + a := by rw [← Nat.shiftLeft_eq, Nat.shiftLeft_add_eq_or_of_lt ha]
  have h3 : UInt64.ofNat (b * 2 ^ k) ||| UInt64.ofNat a = UInt64.ofNat (b * 2 ^ k + a) := UInt64.toNat_inj.mp (by rw [UInt64.toNat_or, u_tn (by omega), u_tn (by omega), u_tn h, h1])
  have h2 := congrArg UInt64.toInt64 h3
  exact h2
/-- the sum of four digits of 16 bits -/
def sd_D (P : Nat) : Nat := P % 65536 + P / 65536 % 65536 + P / 65536 / 65536 % 65536 + P / 65536 / 65536 / 65536 % 65536
theorem sd_D1 {x y : Nat} (h : x % 65536 + y < 65536) : sd_D (x + y) = sd_D x + y := by
  have e1 : (x + y) % 65536 = x % 65536 + y := by omega
  have e2 : (x + y) / 65536 = x / 65536 := by omega
  unfold sd_D
  rw [e1, e2]
  omega
theorem sd_D2 {x : Nat} (h : x < 281474976710656) : sd_D (x * 65536) = sd_D x := by
  have e1 : x * 65536 % 65536 = 0 := by omega
  have e2 : x * 65536 / 65536 = x := by omega
  have e3 : x / 65536 / 65536 / 65536 = 0 := by
    rw [Nat.div_div_eq_div_mul, Nat.div_div_eq_div_mul]
    exact Nat.div_eq_of_lt h
  unfold sd_D
  rw [e1, e2, e3]
  omega
def sd_Gn (Q n : Nat) : Nat := sd_D (Q * 2 ^ ((16 - n % 16) % 16))
theorem sd_Gs1 {Q b t u : Nat} (ht : t = 2 * u) (h : (Q * t) % 65536 + b * u < 65536) : sd_D ((2 * Q + b) * u) = sd_D (Q * t) + b * u := by
  have e : (2 * Q + b) * u = Q * t + b * u := by
    subst ht
    rw [Nat.add_mul, Nat.mul_comm 2 Q, Nat.mul_assoc]
  rw [e, sd_D1 h]
theorem sd_Gs {Q n b : Nat} (hb : b ≤ 1) (hn : n < 64) (hQ : Q < 2 ^ n) : sd_Gn (2 * Q + b) (n + 1) = sd_Gn Q n + b * 2 ^ (15 - n % 16) := by
  unfold sd_Gn
  by_cases r0 : n % 16 = 0
  · have e1 : (n + 1) % 16 = 1 := by omega
    have hQ2 : Q < 281474976710656 := Nat.lt_of_lt_of_le hQ (Nat.le_trans (Nat.pow_le_pow_right (by decide) (show n ≤ 48 by omega)) (by decide))
    rw [e1, r0]
    show sd_D ((2 * Q + b) * 32768) = sd_D (Q * 1) + b * 32768
    rw [sd_Gs1 (t := 65536) (by decide) (by omega), sd_D2 hQ2, Nat.mul_one]
  · have hr : n % 16 < 16 := Nat.mod_lt _ (by decide)
    have hs : (n + 1) % 16 = (n % 16 + 1) % 16 := by omega
    rw [hs]
    generalize n % 16 = r at r0 hr
    have : r = 1 ∨ r = 2 ∨ r = 3 ∨ r = 4 ∨ r = 5 ∨ r = 6 ∨ r = 7 ∨ r = 8 ∨ r = 9 ∨ r = 10 ∨ r = 11 ∨ r = 12 ∨ r = 13 ∨ r = 14 ∨ r = 15 := by omega
    rcases this with rfl | rfl | rfl | rfl | rfl | rfl | rfl | rfl | rfl | rfl | rfl | rfl | rfl | rfl | rfl
    · exact sd_Gs1 (t := 32768) (u := 16384) (by decide) (by omega)
    · exact sd_Gs1 (t := 16384) (u := 8192) (by decide) (by omega)
    · exact sd_Gs1 (t := 8192) (u := 4096) (by decide) (by omega)
    · exact sd_Gs1 (t := 4096) (u := 2048) (by decide) (by omega)
    · exact sd_Gs1 (t := 2048) (u := 1024) (by decide) (by omega)
    · exact sd_Gs1 (t := 1024) (u := 512) (by decide) (by omega)
    · exact sd_Gs1 (t := 512) (u := 256) (by decide) (by omega)
    · exact sd_Gs1 (t := 256) (u := 128) (by decide) (by omega)
    · exact sd_Gs1 (t := 128) (u := 64) (by decide) (by omega)
    · exact sd_Gs1 (t := 64) (u := 32) (by decide) (by omega)
    · exact sd_Gs1 (t := 32) (u := 16) (by decide) (by omega)
    · exact sd_Gs1 (t := 16) (u := 8) (by decide) (by omega)
    · exact sd_Gs1 (t := 8) (u := 4) (by decide) (by omega)
    · exact sd_Gs1 (t := 4) (u := 2) (by decide) (by omega)
    · exact sd_Gs1 (t := 2) (u := 1) (by decide) (by omega)
theorem sd_Dl (P : Nat) : sd_D P ≤ 262140 := by
  unfold sd_D
  omega
def sd_fo (s : Nat) : Nat := s / 65536 + s % 65536
theorem sd_foE {s : Nat} (h : s < 2 ^ 31) : nI s / 65536 + (nI s - nI s / 65536 * 65536) = nI (sd_fo s) := by
  have e2 : nI s - nI s / 65536 * 65536 = nI (s % 65536) := pk_rem (d := 65536) h (by decide) (by decide)
  have e1 : nI s / 65536 = nI (s / 65536) := pk_div (d := 65536) h (by decide) (by decide)
  rw [e2, e1, nI_add]
  rfl
theorem sd_bitN {v r : Nat} (hv : v < 2 ^ 31) (hr : r < 32) : (nI v >>> (nI r &&& 31)) &&& 1 = nI (v / 2 ^ r % 2) := by
  rw [pk_shrN hv (nI r &&& 31) r (s_l r hr)]
  exact pk_andN (Nat.lt_of_le_of_lt (Nat.div_le_self _ _) (by omega)) (m := 1) 1 (by decide)
section
variable {sc oc bt bb da ag lo tp sb sd tk : Int32} {fw fv hv sts ops opn rg kf kk th ens mv mm sps ho pb pz rc mr md mt gp qc qq qe lc tq : Nat → Int32} {tl tt ma ol dr ay gl : Int32} {ta lk go ca cv cm cg ow oq ox sw sa sz sg ra ac ea eb ch ty bi mk yb le gt : Nat → Int32}
def sd_vv (fv : Nat → Int32) (wo f : Nat) : Nat := if f = wo then 0 else (fv f).toNatClampNeg
def sd_qq (fw fv : Nat → Int32) (wo h : Nat) : Nat → Nat
  | 0 => 0
  | i + 1 => sd_qq fw fv wo h i * 2 ^ (fw (4 * h + i)).toNatClampNeg + sd_vv fv wo (4 * h + i)
theorem sd_vvl (hF : sd_F fw fv hv) {wo f : Nat} (hf : f < 28) : sd_vv fv wo f < 2 ^ (fw f).toNatClampNeg := by
  obtain ⟨a, b, h1, h2, h3, h4⟩ := hF.1 f hf
  unfold sd_vv
  rw [h3, nI_clamp (by omega)]
  by_cases z : f = wo
  · rw [if_pos z]; omega
  · have : 2 ^ a ≤ 2 ^ 16 := Nat.pow_le_pow_right (by decide) h1
    rw [if_neg z, h4, nI_clamp (by omega)]; exact h2
theorem sd_pp {q v a b : Nat} (hq : q < 2 ^ a) (hv : v < 2 ^ b) : q * 2 ^ b + v < 2 ^ (a + b) := by
  rw [Nat.pow_add]
  have : (q + 1) * 2 ^ b ≤ 2 ^ a * 2 ^ b := Nat.mul_le_mul_right _ hq
  rw [Nat.add_mul] at this
  omega
theorem sd_qql (hF : sd_F fw fv hv) {wo h : Nat} (hh : h < 6) : ∀ i, i ≤ 4 → sd_qq fw fv wo h i < 2 ^ (sd_tb fw h 0 i)
  | 0, _ => by show 0 < 2 ^ 0; decide
  | i + 1, hi => by
    show _ < 2 ^ (sd_tb fw h 0 i + (fw (4 * h + i)).toNatClampNeg)
    exact sd_pp (sd_qql hF hh i (by omega)) (sd_vvl hF (by omega))
/-- X: the sum behind its folding -/
theorem sx_f119 {post : Int32 → Prop} {s : Nat} (hs : s ≤ 262140) (h : post (65535 - nI (sd_fo (sd_fo s)))) : ∃ n, wX_sumWithout_119 post sc oc bt bb da ag lo tp sb sd tk fw fv hv sts ops opn rg kf kk th ens mv mm sps ho pb pz rc mr md mt gp qc qq qe lc tq n (nI s) 0 := by
  have e3 : sd_fo (sd_fo (sd_fo s)) = sd_fo (sd_fo s) := by unfold sd_fo; omega
  have l1 : sd_fo s < 2 ^ 31 := by unfold sd_fo; omega
  have l2 : sd_fo (sd_fo s) < 2 ^ 31 := by unfold sd_fo; omega
  refine ⟨5, br_f (by decide) ⟨by decide, by decide, nm_r (sd_foE (by omega)) (nm_r (e' := 1) (by decide) ?_)⟩⟩
  refine br_f (by decide) ⟨by decide, by decide, nm_r (sd_foE l1) (nm_r (e' := 2) (by decide) ?_)⟩
  refine br_f (by decide) ⟨by decide, by decide, nm_r (sd_foE l2) (nm_r (e' := 3) (by decide) ?_)⟩
  rw [e3]
  refine br_f (by decide) ⟨by decide, by decide, nm_r (sd_foE l2) (nm_r (e' := 4) (by decide) ?_)⟩
  rw [e3]
  exact br_t (by decide) h
theorem sy_f89 {post : Int32 → Prop} {s : Nat} (hs : s ≤ 262140) (h : post (65535 - nI (sd_fo (sd_fo s)))) : ∃ n, wY_sum_89 post sc oc tl tt bt ma ol tp sb sd tk dr ay gl fw fv hv ta lk go ca cv cm cg opn ow oq ox rg sw sa sz sg ho kf kk ra ac ea eb ch th mv mm ty bi mk rc mr md mt gp yb le qc qe qq tq lc gt n (nI s) := by
  have l1 : sd_fo s < 2 ^ 31 := by unfold sd_fo; omega
  have l2 : sd_fo (sd_fo s) ≤ 65535 := by unfold sd_fo; omega
  refine ⟨3, pk_le s 65535 (fun z => ?_) (fun z => ⟨by decide, by decide, nm_r (sd_foE (by omega)) ?_⟩)⟩
  · have e : sd_fo (sd_fo s) = s := by unfold sd_fo; omega
    rw [e] at h
    exact h
  · refine pk_le (sd_fo s) 65535 (fun z2 => ?_) (fun z2 => ⟨by decide, by decide, nm_r (sd_foE l1) ?_⟩) rfl rfl l1 (by decide)
    · have e : sd_fo (sd_fo s) = sd_fo s := by
        generalize sd_fo s = t at z2
        unfold sd_fo; omega
      rw [e] at h
      exact h
    · exact pk_le (sd_fo (sd_fo s)) 65535 (fun z3 => h) (fun z3 => absurd z3 (by omega)) rfl rfl (by omega) (by decide)
theorem sx_f89 {post : Int32 → Prop} {P : Nat} (hP : P < 2 ^ 64) (h : post (65535 - nI (sd_fo (sd_fo (sd_D P))))) : ∃ n, wX_sumWithout_89 post (lN P) sc oc bt bb da ag lo tp sb sd tk fw fv hv sts ops opn rg kf kk th ens mv mm sps ho pb pz rc mr md mt gp qc qq qe lc tq n 0 0 := by
  have dg : ∀ k : Nat, k < 64 → ((((lN P).toUInt64 >>> ((nI k).toInt64.toUInt64 &&& Int64.toUInt64 63)).toInt64) &&& 65535).toInt32 = nI (P / 2 ^ k % 65536) := by
    intro k hk
    rw [wb_shr hP hk]
    have e : lN (P / 2 ^ k) &&& 65535 = lN (P / 2 ^ k % 2 ^ 16) := wb_mask (k := 16) (Nat.lt_of_le_of_lt (Nat.div_le_self _ _) hP) (by decide)
    rw [e, lN_i]
  refine ⟨5, br_f (by decide) (nm_r (e' := nI (P % 65536)) ?_ (nm_r (e' := 16) (by decide) ?_))⟩
  · have := dg 0 (by decide)
    rw [Nat.pow_zero, Nat.div_one] at this
    have z0 : (0 : Int32) = nI 0 := rfl
    rw [Int32.zero_add, z0]
    exact this
  refine br_f (by decide) (nm_r (e' := nI (P % 65536 + P / 65536 % 65536)) ?_ (nm_r (e' := 32) (by decide) ?_))
  · have e := dg 16 (by decide)
    have e' : ((((lN P).toUInt64 >>> ((16 : Int32).toInt64.toUInt64 &&& Int64.toUInt64 63)).toInt64) &&& 65535).toInt32 = nI (P / 65536 % 65536) := e
    rw [e', nI_add]
  refine br_f (by decide) (nm_r (e' := nI (P % 65536 + P / 65536 % 65536 + P / 65536 / 65536 % 65536)) ?_ (nm_r (e' := 48) (by decide) ?_))
  · have e := dg 32 (by decide)
    have e' : ((((lN P).toUInt64 >>> ((32 : Int32).toInt64.toUInt64 &&& Int64.toUInt64 63)).toInt64) &&& 65535).toInt32 = nI (P / 65536 / 65536 % 65536) := by
      rw [Nat.div_div_eq_div_mul]
      exact e
    rw [e', nI_add]
  refine br_f (by decide) (nm_r (e' := nI (sd_D P)) ?_ (nm_r (e' := 64) (by decide) ?_))
  · have e := dg 48 (by decide)
    have e' : ((((lN P).toUInt64 >>> ((48 : Int32).toInt64.toUInt64 &&& Int64.toUInt64 63)).toInt64) &&& 65535).toInt32 = nI (P / 65536 / 65536 / 65536 % 65536) := by
      rw [Nat.div_div_eq_div_mul, Nat.div_div_eq_div_mul]
      exact e
    rw [e', nI_add]
    rfl
  exact br_t (by decide) (sx_f119 (sd_Dl P) h)
theorem sx_sum {post : Int32 → Prop} (hF : sd_F fw fv hv) {h wo : Nat} (hh : h < 6) (hwo : wo < 28) (hp : post (65535 - nI (sd_fo (sd_fo (sd_Gn (sd_qq fw fv wo h 4) (sd_tb fw h 0 4)))))) : wpX_sumWithout post (sc, oc, bt, bb, da, ag, lo, tp, sb, sd, tk, fw, fv, hv, sts, ops, opn, rg, kf, kk, th, ens, mv, mm, sps, ho, pb, pz, rc, mr, md, mt, gp, qc, qq, qe, lc, tq) (nI h) (nI wo) := by
  have l4 := sd_tbl hF hh
  have q4 := sd_qql (wo := wo) hF hh
  refine sd_lp (fun n i (s : Int64 × Int32) => wX_sumWithout_8 post (nI h) (nI wo) sc oc bt bb da ag lo tp sb sd tk fw fv hv sts ops opn rg kf kk th ens mv mm sps ho pb pz rc mr md mt gp qc qq qe lc tq n s.1 s.2 (nI i)) (fun i => (lN (sd_qq fw fv wo h i), nI (sd_tb fw h 0 i))) 4 0 (by omega) (fun n => br_t (nI_le (a := 4) (b := 4) (Nat.le_refl _) (by decide)) ⟨by decide, by decide, ?_⟩) (fun n i _ hi ih => br_f (nI_ge (b := 4) hi (by decide)) ?_)
  · have t4 := (l4 4 (by omega)).1
    have qq := q4 4 (by omega)
    dsimp only
    generalize sd_tb fw h 0 4 = L at *
    generalize sd_qq fw fv wo h 4 = Q at *
    have e1 : nI L - nI L / 16 * 16 = nI (L % 16) := pk_rem (d := 16) (by omega) (by decide) (by decide)
    have e2 : 16 - nI (L % 16) = nI (16 - L % 16) := pk_sub (a := 16) (by omega)
    have e3 : nI (16 - L % 16) - nI (16 - L % 16) / 16 * 16 = nI ((16 - L % 16) % 16) := pk_rem (d := 16) (by omega) (by decide) (by decide)
    rw [e1, e2, e3, wb_shl Q (by omega)]
    refine nm_e (sx_f89 ?_ hp)
    have e5 : L + (16 - L % 16) % 16 ≤ 64 := by omega
    refine Nat.lt_of_lt_of_le (m := 2 ^ (L + (16 - L % 16) % 16)) ?_ (Nat.pow_le_pow_right (by decide) e5)
    rw [Nat.pow_add]
    exact Nat.mul_lt_mul_of_pos_right qq (Nat.pow_pos (by decide))
  · have e4 : nI h * 4 + nI i = nI (4 * h + i) := (sd_ma h 4 i).trans (by rw [Nat.mul_comm])
    obtain ⟨w, w1, w2, w3⟩ := sd_wi hF (f := 4 * h + i) (by omega)
    have vl := sd_vvl (wo := wo) hF (f := 4 * h + i) (by omega)
    have qi := q4 i (by omega)
    have ti := (l4 i (by omega)).1
    have bd : sd_qq fw fv wo h i * 2 ^ w + sd_vv fv wo (4 * h + i) < 2 ^ 64 := by
      rw [w3] at vl
      exact Nat.lt_of_lt_of_le (sd_pp qi vl) (Nat.pow_le_pow_right (by decide) (by omega))
    have fin : ∀ z0 : Int32, z0 = nI (sd_vv fv wo (4 * h + i)) → wX_sumWithout_48 post (wX_sumWithout_8 post (nI h) (nI wo) sc oc bt bb da ag lo tp sb sd tk fw fv hv sts ops opn rg kf kk th ens mv mm sps ho pb pz rc mr md mt gp qc qq qe lc tq n) (nI h) (nI wo) (nI (sd_tb fw h 0 i)) (nI i) (nI (4 * h + i)) z0 (lN (sd_qq fw fv wo h i) <<< ((nI w).toInt64 &&& 63)) sc oc bt bb da ag lo tp sb sd tk fw fv hv sts ops opn rg kf kk th ens mv mm sps ho pb pz rc mr md mt gp qc qq qe lc tq := by
      intro z0 hz
      rw [wb_shl _ (by omega)]
      have vl2 : sd_vv fv wo (4 * h + i) < 2 ^ 31 := by
        have : 2 ^ w ≤ 2 ^ 16 := Nat.pow_le_pow_right (by decide) w1
        rw [w3] at vl
        omega
      refine nm_r (e' := lN (sd_qq fw fv wo h (i + 1))) ?_ ⟨vp_in_nI (by omega) (by decide), nm_r (e' := nI (sd_tb fw h 0 (i + 1))) ?_ (nm_r (nI_1 i) ih)⟩
      · rw [hz, nI_l vl2]
        show _ = lN (sd_qq fw fv wo h i * 2 ^ (fw (4 * h + i)).toNatClampNeg + sd_vv fv wo (4 * h + i))
        rw [w3] at vl ⊢
        exact g_or rfl vl bd
      · rw [nI_clamp (by omega), w2, nI_add]
        show _ = nI (sd_tb fw h 0 i + (fw (4 * h + i)).toNatClampNeg)
        rw [w3]
    refine nm_r e4 ⟨vp_in_nI (by omega) (by decide), ?_⟩
    rw [nI_clamp (n := 4 * h + i) (by omega), w2]
    refine pk_eq (4 * h + i) wo (fun z => fin 0 ?_) (fun z => ⟨vp_in_nI (by omega) (by decide), fin _ ?_⟩)
    · unfold sd_vv; rw [if_pos z]; rfl
    · unfold sd_vv; rw [if_neg z]
      obtain ⟨a, b, h1, h2, h3, h4⟩ := hF.1 (4 * h + i) (by omega)
      have : 2 ^ a ≤ 2 ^ 16 := Nat.pow_le_pow_right (by decide) h1
      rw [h4, nI_clamp (by omega)]
theorem sd_hb (v r : Nat) : v % 2 ^ (r + 1) = v / 2 ^ r % 2 * 2 ^ r + v % 2 ^ r := by
  rw [Nat.pow_succ, Nat.mod_mul, Nat.mul_comm (2 ^ r), Nat.add_comm]
theorem sy_s31 {post : Int32 → Prop} {J : Int32 → Int32 → Int32 → Prop} {x1 : Int32} {wo f v : Nat} (hf : f < 28) (hwo : wo < 28) (hv' : v < 2 ^ 16) (hv2 : fv f = nI v) :
    ∀ r Q n, r ≤ 16 → n + r ≤ 64 → Q < 2 ^ n → J (nI (sd_Gn (Q * 2 ^ r + sd_vv fv wo f % 2 ^ r) (n + r))) (nI (n + r)) (nI (f + 1)) → wY_sum_31 post J x1 (nI wo) (nI f) sc oc tl tt bt ma ol tp sb sd tk dr ay gl fw fv hv ta lk go ca cv cm cg opn ow oq ox rg sw sa sz sg ho kf kk ra ac ea eb ch th mv mm ty bi mk rc mr md mt gp yb le qc qe qq tq lc gt (r + 1) (nI (sd_Gn Q n)) (nI n) (nI r - 1)
  | 0, Q, n, hr, hn, hQ, h => by
    refine br_t ?_ (nm_r (nI_1 f) ?_)
    · show nI 0 - 1 < 0
      decide
    · rw [Nat.pow_zero, Nat.mul_one, Nat.mod_one, Nat.add_zero, Nat.add_zero] at h
      exact h
  | r + 1, Q, n, hr, hn, hQ, h => by
    have er : nI (r + 1) - 1 = nI r := nI_pred r
    have e16 : nI n - nI n / 16 * 16 = nI (n % 16) := pk_rem (d := 16) (by omega) (by decide) (by decide)
    have e15 : 15 - nI (n % 16) = nI (15 - n % 16) := pk_sub (a := 15) (by omega)
    have em : nI r + (-1) = nI r - 1 := (Int32.sub_eq_add_neg _ _).symm
    have vl : sd_vv fv wo f < 2 ^ 16 := by
      unfold sd_vv
      by_cases z : f = wo
      · rw [if_pos z]; decide
      · rw [if_neg z, hv2, nI_clamp (by omega)]; exact hv'
    have b1 : sd_vv fv wo f / 2 ^ r % 2 ≤ 1 := by omega
    have fin : ∀ z0 : Int32, z0 = nI (sd_vv fv wo f / 2 ^ r % 2) → wY_sum_58 post J (wY_sum_31 post J x1 (nI wo) (nI f) sc oc tl tt bt ma ol tp sb sd tk dr ay gl fw fv hv ta lk go ca cv cm cg opn ow oq ox rg sw sa sz sg ho kf kk ra ac ea eb ch th mv mm ty bi mk rc mr md mt gp yb le qc qe qq tq lc gt (r + 1)) x1 (nI wo) (nI (sd_Gn Q n)) (nI n) (nI f) (nI r) z0 sc oc tl tt bt ma ol tp sb sd tk dr ay gl fw fv hv ta lk go ca cv cm cg opn ow oq ox rg sw sa sz sg ho kf kk ra ac ea eb ch th mv mm ty bi mk rc mr md mt gp yb le qc qe qq tq lc gt := by
      intro z0 hz
      refine ⟨by decide, ?_⟩
      rw [e16, e15, em, hz, pk_shlN (nI (15 - n % 16) &&& 31) (15 - n % 16) (s_l _ (by omega)) ?_]
      · refine nm_r (e' := nI (sd_Gn (2 * Q + sd_vv fv wo f / 2 ^ r % 2) (n + 1))) ?_ (nm_r (nI_1 n) (nm_e (sy_s31 hf hwo hv' hv2 r _ (n + 1) (by omega) (by omega) ?_ ?_)))
        · rw [nI_add, sd_Gs b1 (by omega) hQ]
        · rw [Nat.pow_succ]; omega
        · have e : (2 * Q + sd_vv fv wo f / 2 ^ r % 2) * 2 ^ r + sd_vv fv wo f % 2 ^ r = Q * 2 ^ (r + 1) + sd_vv fv wo f % 2 ^ (r + 1) := by
            rw [sd_hb, Nat.add_mul, Nat.pow_succ, Nat.mul_comm 2 Q, Nat.mul_assoc, Nat.mul_comm 2]
            omega
          have e2 : n + 1 + r = n + (r + 1) := by omega
          rw [e, e2]
          exact h
      · have : 2 ^ (15 - n % 16) ≤ 2 ^ 15 := Nat.pow_le_pow_right (by decide) (by omega)
        have : sd_vv fv wo f / 2 ^ r % 2 * 2 ^ (15 - n % 16) ≤ 1 * 2 ^ 15 := Nat.mul_le_mul b1 this
        omega
    rw [er]
    refine br_f (nI_pos (by omega)) (pk_eq f wo (fun z => fin 0 ?_) (fun z => ⟨vp_in_nI hf (by decide), fin _ ?_⟩))
    · unfold sd_vv; rw [if_pos z, Nat.zero_div]; rfl
    · unfold sd_vv
      rw [if_neg z, nI_clamp (by omega), hv2, nI_clamp (by omega), sd_bitN (by omega) (by omega)]
theorem sy_sum {post : Int32 → Prop} (hF : sd_F fw fv hv) {h wo : Nat} (hh : h < 6) (hwo : wo < 28) (hp : post (65535 - nI (sd_fo (sd_fo (sd_Gn (sd_qq fw fv wo h 4) (sd_tb fw h 0 4)))))) : wpY_sum post (sc, oc, tl, tt, bt, ma, ol, tp, sb, sd, tk, dr, ay, gl, fw, fv, hv, ta, lk, go, ca, cv, cm, cg, opn, ow, oq, ox, rg, sw, sa, sz, sg, ho, kf, kk, ra, ac, ea, eb, ch, th, mv, mm, ty, bi, mk, rc, mr, md, mt, gp, yb, le, qc, qe, qq, tq, lc, gt) (nI h) (nI wo) := by
  have l4 := sd_tbl hF hh
  have q4 := sd_qql (wo := wo) hF hh
  have e4 : 4 * nI h + 4 = nI (4 * h + 4) := sd_am h 4 4
  refine nm_r (pk_mul 4 h) ?_
  have z0 : nI (sd_Gn (sd_qq fw fv wo h 0) (sd_tb fw h 0 0)) = 0 := by
    show nI (sd_Gn 0 0) = 0
    decide
  have main : ∃ n, wY_sum_10 post (nI h) (nI wo) sc oc tl tt bt ma ol tp sb sd tk dr ay gl fw fv hv ta lk go ca cv cm cg opn ow oq ox rg sw sa sz sg ho kf kk ra ac ea eb ch th mv mm ty bi mk rc mr md mt gp yb le qc qe qq tq lc gt n (nI (sd_Gn (sd_qq fw fv wo h 0) (sd_tb fw h 0 0))) (nI (sd_tb fw h 0 0)) (nI (4 * h + 0)) := by
    refine sd_lp (fun n i (s : Int32 × Int32) => wY_sum_10 post (nI h) (nI wo) sc oc tl tt bt ma ol tp sb sd tk dr ay gl fw fv hv ta lk go ca cv cm cg opn ow oq ox rg sw sa sz sg ho kf kk ra ac ea eb ch th mv mm ty bi mk rc mr md mt gp yb le qc qe qq tq lc gt n s.1 s.2 (nI (4 * h + i))) (fun i => (nI (sd_Gn (sd_qq fw fv wo h i) (sd_tb fw h 0 i)), nI (sd_tb fw h 0 i))) 4 0 (by omega) (fun n => br_t ?_ (sy_f89 (sd_Dl _) hp)) (fun n i _ hi ih => br_f ?_ ⟨vp_in_nI (by omega) (by decide), ?_⟩)
    · rw [e4]; exact nI_le (Nat.le_refl _) (by omega)
    · rw [e4]; exact nI_ge (by omega) (by omega)
    · obtain ⟨a, b, h1, h2, h3, h4⟩ := hF.1 (4 * h + i) (by omega)
      have w3 : (fw (4 * h + i)).toNatClampNeg = a := by rw [h3]; exact nI_clamp (by omega)
      have : 2 ^ a ≤ 2 ^ 16 := Nat.pow_le_pow_right (by decide) h1
      have ti := (l4 i (by omega)).1
      have vl := sd_vvl (wo := wo) hF (f := 4 * h + i) (by omega)
      rw [nI_clamp (n := 4 * h + i) (by omega), h3]
      refine nm_e ⟨a + 1, sy_s31 (by omega) hwo (by omega) h4 a (sd_qq fw fv wo h i) (sd_tb fw h 0 i) h1 (by omega) (q4 i (by omega)) ?_⟩
      rw [w3] at vl
      rw [Nat.mod_eq_of_lt vl]
      have ih' : wY_sum_10 post (nI h) (nI wo) sc oc tl tt bt ma ol tp sb sd tk dr ay gl fw fv hv ta lk go ca cv cm cg opn ow oq ox rg sw sa sz sg ho kf kk ra ac ea eb ch th mv mm ty bi mk rc mr md mt gp yb le qc qe qq tq lc gt n (nI (sd_Gn (sd_qq fw fv wo h i * 2 ^ (fw (4 * h + i)).toNatClampNeg + sd_vv fv wo (4 * h + i)) (sd_tb fw h 0 i + (fw (4 * h + i)).toNatClampNeg))) (nI (sd_tb fw h 0 i + (fw (4 * h + i)).toNatClampNeg)) (nI (4 * h + (i + 1))) := ih
      rw [w3] at ih'
      exact ih'
  rw [z0] at main
  exact main
end
end
section
section
variable {sc oc bt bb da ag lo tp sb sd tk : Int32} {fw fv hv sts ops opn rg kf kk th ens mv mm sps ho pb pz rc mr md mt gp qc qq qe lc tq : Nat → Int32} {tl tt ma ol dr ay gl : Int32} {ta lk go ca cv cm cg ow oq ox sw sa sz sg ra ac ea eb ch ty bi mk yb le gt : Nat → Int32}
def sd_zh (fv : Nat → Int32) (h : Nat) : Nat → (Nat → Int32)
  | 0 => fv
  | i + 1 => upd (sd_zh fv h i) (4 * h + i) 0
theorem sd_Fzh (hF : sd_F fw fv hv) {h : Nat} (hh : h < 6) : ∀ i, i ≤ 4 → sd_F fw (sd_zh fv h i) hv
  | 0, _ => hF
  | i + 1, hi => by
    obtain ⟨w, h1, h2, h3⟩ := sd_wi hF (f := 4 * h + i) (by omega)
    exact sd_Fu (sd_Fzh hF hh i (by omega)) h2 h1 (Nat.pow_pos (by decide)) rfl
theorem sx_addh {post : SX → Prop} {h : Nat} (hh : h < 6) (h0 : hv h = 0 → post (sc, oc, bt, bb, da, ag, lo, tp, sb, sd, tk, fw, (sd_zh fv h 4), (upd hv h 1), sts, ops, opn, rg, kf, kk, th, ens, mv, mm, sps, ho, pb, pz, rc, mr, md, mt, gp, qc, qq, qe, lc, tq)) (h1 : ¬ hv h = 0 → post (sc, oc, bt, bb, da, ag, lo, tp, sb, sd, tk, fw, fv, hv, sts, ops, opn, rg, kf, kk, th, ens, mv, mm, sps, ho, pb, pz, rc, mr, md, mt, gp, qc, qq, qe, lc, tq)) : wpX_addHeader post (sc, oc, bt, bb, da, ag, lo, tp, sb, sd, tk, fw, fv, hv, sts, ops, opn, rg, kf, kk, th, ens, mv, mm, sps, ho, pb, pz, rc, mr, md, mt, gp, qc, qq, qe, lc, tq) (nI h) := by
  refine ⟨vp_in_nI hh (by decide), ?_⟩
  rw [nI_clamp (by omega), sd_b1]
  refine br_c (fun z => ⟨vp_in_nI hh (by decide), nm_e ?_⟩) h1
  refine sd_lp (fun n i s => wX_addHeader_19 post (nI h) sc oc bt bb da ag lo tp sb sd tk n (nI i) fw s (upd hv h 1) sts ops opn rg kf kk th ens mv mm sps ho pb pz rc mr md mt gp qc qq qe lc tq) (fun i => sd_zh fv h i) 4 0 (by omega) (fun n => br_t (nI_le (a := 4) (b := 4) (Nat.le_refl _) (by omega)) (h0 z))
    (fun n i _ hi ih => br_f (nI_ge (b := 4) hi (by omega)) (sd_st (4 * h + i) ((sd_ma h 4 i).trans (by rw [Nat.mul_comm])) (by omega) (by decide) (nm_r (nI_1 i) ih)))
theorem sy_addh {post : SY → Prop} {h : Nat} (hh : h < 6) (h0 : hv h = 0 → post (sc, oc, tl, tt, bt, ma, ol, tp, sb, sd, tk, dr, ay, gl, fw, (sd_zh fv h 4), (upd hv h 1), ta, lk, go, ca, cv, cm, cg, opn, ow, oq, ox, rg, sw, sa, sz, sg, ho, kf, kk, ra, ac, ea, eb, ch, th, mv, mm, ty, bi, mk, rc, mr, md, mt, gp, yb, le, qc, qe, qq, tq, lc, gt)) (h1 : ¬ hv h = 0 → post (sc, oc, tl, tt, bt, ma, ol, tp, sb, sd, tk, dr, ay, gl, fw, fv, (upd hv h 1), ta, lk, go, ca, cv, cm, cg, opn, ow, oq, ox, rg, sw, sa, sz, sg, ho, kf, kk, ra, ac, ea, eb, ch, th, mv, mm, ty, bi, mk, rc, mr, md, mt, gp, yb, le, qc, qe, qq, tq, lc, gt)) : wpY_header post (sc, oc, tl, tt, bt, ma, ol, tp, sb, sd, tk, dr, ay, gl, fw, fv, hv, ta, lk, go, ca, cv, cm, cg, opn, ow, oq, ox, rg, sw, sa, sz, sg, ho, kf, kk, ra, ac, ea, eb, ch, th, mv, mm, ty, bi, mk, rc, mr, md, mt, gp, yb, le, qc, qe, qq, tq, lc, gt) (nI h) 1 := by
  have e4 : 4 * nI h + 4 = nI (4 * h + 4) := sd_am h 4 4
  refine nm_r (pk_mul 4 h) ?_
  by_cases z : hv h = 0
  · refine sd_lp (fun n i s => wY_header_4 post (nI h) 1 sc oc tl tt bt ma ol tp sb sd tk dr ay gl n (nI (4 * h + i)) fw s hv ta lk go ca cv cm cg opn ow oq ox rg sw sa sz sg ho kf kk ra ac ea eb ch th mv mm ty bi mk rc mr md mt gp yb le qc qe qq tq lc gt) (fun i => sd_zh fv h i) 4 0 (by omega) (fun n => br_t ?_ (sd_st h rfl hh (by decide) ?_)) (fun n i _ hi ih => br_f ?_ (br_f sd_10 ⟨vp_in_nI hh (by decide), br_t ?_ (sd_st (4 * h + i) rfl (by omega) (by decide) (nm_r (nI_1 _) ih))⟩))
    · rw [e4]; exact nI_le (Nat.le_refl _) (by omega)
    · rw [sd_b1]; exact h0 z
    · rw [e4]; exact nI_ge (by omega) (by omega)
    · rw [nI_clamp (by omega)]; exact z
  · refine ⟨1, br_f (by rw [e4]; exact nI_ge (by omega) (by omega)) (br_f sd_10 ⟨vp_in_nI hh (by decide), br_f (by rw [nI_clamp (by omega)]; exact z) (sd_st h rfl hh (by decide) ?_)⟩)⟩
    rw [sd_b1]; exact h1 z
theorem sy_remh {post : SY → Prop} {h : Nat} (hh : h < 6) (h0 : post (sc, oc, tl, tt, bt, ma, ol, tp, sb, sd, tk, dr, ay, gl, fw, fv, (upd hv h 0), ta, lk, go, ca, cv, cm, cg, opn, ow, oq, ox, rg, sw, sa, sz, sg, ho, kf, kk, ra, ac, ea, eb, ch, th, mv, mm, ty, bi, mk, rc, mr, md, mt, gp, yb, le, qc, qe, qq, tq, lc, gt)) : wpY_header post (sc, oc, tl, tt, bt, ma, ol, tp, sb, sd, tk, dr, ay, gl, fw, fv, hv, ta, lk, go, ca, cv, cm, cg, opn, ow, oq, ox, rg, sw, sa, sz, sg, ho, kf, kk, ra, ac, ea, eb, ch, th, mv, mm, ty, bi, mk, rc, mr, md, mt, gp, yb, le, qc, qe, qq, tq, lc, gt) (nI h) 0 := by
  have e4 : 4 * nI h + 4 = nI (4 * h + 4) := sd_am h 4 4
  refine nm_r (pk_mul 4 h) ⟨1, br_f (by rw [e4]; exact nI_ge (by omega) (by omega)) (br_t rfl (sd_st h rfl hh (by decide) ?_))⟩
  rw [sd_b0]; exact h0
theorem sx_meas {post : Int32 → SX → Prop} {x Z : Nat} (hx : x < 4) (hz : pz 49 = nI Z) (h0 : nI Z ≤ mt x → post 0 (sc, oc, bt, bb, da, ag, lo, tp, sb, sd, tk, fw, fv, hv, sts, ops, opn, rg, kf, kk, th, ens, mv, mm, sps, ho, pb, pz, rc, mr, md, (upd mt x (mt x - nI Z)), gp, qc, qq, qe, lc, tq)) (h1 : ¬ nI Z ≤ mt x → post 1 (sc, oc, bt, bb, da, ag, lo, tp, sb, sd, tk, fw, fv, hv, sts, ops, opn, rg, kf, kk, th, ens, mv, mm, sps, ho, pb, pz, rc, mr, md, mt, gp, qc, qq, qe, lc, tq)) : wpX_measure post (sc, oc, bt, bb, da, ag, lo, tp, sb, sd, tk, fw, fv, hv, sts, ops, opn, rg, kf, kk, th, ens, mv, mm, sps, ho, pb, pz, rc, mr, md, mt, gp, qc, qq, qe, lc, tq) (nI x) := by
  refine ⟨vp_in_nI hx (by decide), ?_⟩
  rw [nI_clamp (by omega), hz]
  exact br_c (fun z => ⟨vp_in_nI hx (by decide), vp_in_nI hx (by decide), nm_e (h0 z)⟩) h1
theorem sy_meas {post : Int32 → SY → Prop} {x Z : Nat} (hx : x < 4) (hZ : Z ≤ 16) (h0 : nI Z ≤ mt x → post 0 (sc, oc, tl, (nI (8 * Z)), bt, ma, ol, tp, sb, sd, tk, dr, ay, gl, fw, fv, hv, ta, lk, go, ca, cv, cm, cg, opn, ow, oq, ox, rg, sw, sa, sz, sg, ho, kf, kk, ra, ac, ea, eb, ch, th, mv, mm, ty, bi, mk, rc, mr, md, (upd mt x (mt x - nI Z)), gp, yb, le, qc, qe, qq, tq, lc, gt)) (h1 : ¬ nI Z ≤ mt x → post 1 (sc, oc, tl, (nI (8 * Z)), bt, ma, ol, tp, sb, sd, tk, dr, ay, gl, fw, fv, hv, ta, lk, go, ca, cv, cm, cg, opn, ow, oq, ox, rg, sw, sa, sz, sg, ho, kf, kk, ra, ac, ea, eb, ch, th, mv, mm, ty, bi, mk, rc, mr, md, mt, gp, yb, le, qc, qe, qq, tq, lc, gt)) : wpY_meter post (sc, oc, tl, (nI (8 * Z)), bt, ma, ol, tp, sb, sd, tk, dr, ay, gl, fw, fv, hv, ta, lk, go, ca, cv, cm, cg, opn, ow, oq, ox, rg, sw, sa, sz, sg, ho, kf, kk, ra, ac, ea, eb, ch, th, mv, mm, ty, bi, mk, rc, mr, md, mt, gp, yb, le, qc, qe, qq, tq, lc, gt) (nI x) := by
  have e : nI (8 * Z) / 8 = nI Z := (pk_div (d := 8) (by omega) (by decide) (by decide)).trans (by congr 1; omega)
  refine ⟨vp_in_nI hx (by decide), by decide, ?_⟩
  rw [nI_clamp (by omega), e]
  exact br_c (fun z => ⟨vp_in_nI hx (by decide), by decide, vp_in_nI hx (by decide), nm_e (h0 z)⟩) h1
theorem sd_o0 {a i N Z c f x : Nat} {p q : Int32} (hF : sd_F fw fv hv) (hO : sd_O ops opn ow oq ox) (hZ : Z ≤ 16) (hz : pz 49 = nI Z) (ha : a < 8) (hi : i < N) (hN : N ≤ 5) (hw : ow (5 * a + i) = nI 0) (hf : oq (5 * a + i) = nI f) (hf2 : f < 28) : ∃ (da' ag' : Int32) (fv' hv' rg' mt' : Nat → Int32), sd_F fw fv' hv' ∧ (∀ (post : SX → Prop) (n : Nat), wX_doAction_11 post (nI a) p q (nI N) n (nI (i + 1)) sc oc bt bb da' ag' lo tp sb sd tk fw fv' hv' sts ops opn rg' kf kk th ens mv mm sps ho pb pz rc mr md mt' gp qc qq qe lc tq → wX_doAction_11 post (nI a) p q (nI N) (n + 1) (nI i) sc oc bt bb da ag lo tp sb sd tk fw fv hv sts ops opn rg kf kk th ens mv mm sps ho pb pz rc mr md mt gp qc qq qe lc tq) ∧ (∀ post : SY → Prop, post (sc, oc, tl, (nI (8 * Z)), bt, ma, ol, tp, sb, sd, tk, da', ag', gl, fw, fv', hv', ta, lk, go, ca, cv, cm, cg, opn, ow, oq, ox, rg', sw, sa, sz, sg, ho, kf, kk, ra, ac, ea, eb, ch, th, mv, mm, ty, bi, mk, rc, mr, md, mt', gp, yb, le, qc, qe, qq, tq, lc, gt) → wpY_operate post (sc, oc, tl, (nI (8 * Z)), bt, ma, ol, tp, sb, sd, tk, da, ag, gl, fw, fv, hv, ta, lk, go, ca, cv, cm, cg, opn, ow, oq, ox, rg, sw, sa, sz, sg, ho, kf, kk, ra, ac, ea, eb, ch, th, mv, mm, ty, bi, mk, rc, mr, md, mt, gp, yb, le, qc, qe, qq, tq, lc, gt) (nI (5 * a + i)) p q) := by
  obtain ⟨g0, g1, g2, _⟩ := hO.2 (5 * a + i) (by omega)
  have ek : (nI a * 5 + nI i) * 3 = nI ((5 * a + i) * 3) := by
    have e1 : nI a * 5 + nI i = nI (5 * a + i) := (sd_ma a 5 i).trans (by rw [Nat.mul_comm])
    rw [e1]
    exact pk_mul _ 3
  have e1 : nI ((5 * a + i) * 3) + 1 = nI ((5 * a + i) * 3 + 1) := nI_add _ 1
  have e2 : nI ((5 * a + i) * 3) + 2 = nI ((5 * a + i) * 3 + 2) := nI_add _ 2
  have i0 : vp_in (nI ((5 * a + i) * 3)) 120 := vp_in_nI (by omega) (by decide)
  have i1 : vp_in (nI ((5 * a + i) * 3) + 1) 120 := by rw [e1]; exact vp_in_nI (by omega) (by decide)
  have i2 : vp_in (nI ((5 * a + i) * 3) + 2) 120 := by rw [e2]; exact vp_in_nI (by omega) (by decide)
  have v0 : ops (nI ((5 * a + i) * 3)).toNatClampNeg = ow (5 * a + i) := by rw [nI_clamp (by omega)]; exact g0
  have v1 : ops (nI ((5 * a + i) * 3) + 1).toNatClampNeg = oq (5 * a + i) := by rw [e1, nI_clamp (by omega)]; exact g1
  have v2 : ops (nI ((5 * a + i) * 3) + 2).toNatClampNeg = ox (5 * a + i) := by rw [e2, nI_clamp (by omega)]; exact g2
  have w0 : vp_in (nI (5 * a + i)) 40 := vp_in_nI (by omega) (by decide)
  have cn : ¬ nI N ≤ nI i := nI_ge hi (by omega)
  have u1 : oq (nI (5 * a + i)).toNatClampNeg = oq (5 * a + i) := by rw [nI_clamp (by omega)]
  have u2 : ox (nI (5 * a + i)).toNatClampNeg = ox (5 * a + i) := by rw [nI_clamp (by omega)]
  have u0 : ow (nI (5 * a + i)).toNatClampNeg = ow (5 * a + i) := by rw [nI_clamp (by omega)]
  refine ⟨da, ag, upd fv f (sd_pv (fw f) (ox (5 * a + i))), hv, rg, mt, sd_Fp hF hf2 _, fun post n hp => ?_, fun post hp => ?_⟩
  ·
    refine br_f cn (nm_r ek ⟨i1, nm_r (v1.trans hf) ⟨i2, nm_r v2 ⟨i0, nm_r (v0.trans hw) (br_t (by decide) (?_))⟩⟩⟩)
    unfold wX_doAction_192
    rw [v0, hw]
    refine ⟨i0, br_f (by decide) (br_f (by decide) (br_t rfl (?_)))⟩
    exact sx_put hf2 (nm_r (nI_1 i) hp)
  · refine ⟨w0, nm_r (u1.trans hf) ⟨w0, nm_r u2 ⟨w0, nm_r (u0.trans hw) (br_f (by decide) (br_f (by decide) (br_t rfl (?_))))⟩⟩⟩
    exact sy_put hf2 hp
theorem sd_o1 {a i N Z c f x : Nat} {p q : Int32} (hF : sd_F fw fv hv) (hO : sd_O ops opn ow oq ox) (hZ : Z ≤ 16) (hz : pz 49 = nI Z) (ha : a < 8) (hi : i < N) (hN : N ≤ 5) (hw : ow (5 * a + i) = nI 1) (hf : oq (5 * a + i) = nI f) (hf2 : f < 28) : ∃ (da' ag' : Int32) (fv' hv' rg' mt' : Nat → Int32), sd_F fw fv' hv' ∧ (∀ (post : SX → Prop) (n : Nat), wX_doAction_11 post (nI a) p q (nI N) n (nI (i + 1)) sc oc bt bb da' ag' lo tp sb sd tk fw fv' hv' sts ops opn rg' kf kk th ens mv mm sps ho pb pz rc mr md mt' gp qc qq qe lc tq → wX_doAction_11 post (nI a) p q (nI N) (n + 1) (nI i) sc oc bt bb da ag lo tp sb sd tk fw fv hv sts ops opn rg kf kk th ens mv mm sps ho pb pz rc mr md mt gp qc qq qe lc tq) ∧ (∀ post : SY → Prop, post (sc, oc, tl, (nI (8 * Z)), bt, ma, ol, tp, sb, sd, tk, da', ag', gl, fw, fv', hv', ta, lk, go, ca, cv, cm, cg, opn, ow, oq, ox, rg', sw, sa, sz, sg, ho, kf, kk, ra, ac, ea, eb, ch, th, mv, mm, ty, bi, mk, rc, mr, md, mt', gp, yb, le, qc, qe, qq, tq, lc, gt) → wpY_operate post (sc, oc, tl, (nI (8 * Z)), bt, ma, ol, tp, sb, sd, tk, da, ag, gl, fw, fv, hv, ta, lk, go, ca, cv, cm, cg, opn, ow, oq, ox, rg, sw, sa, sz, sg, ho, kf, kk, ra, ac, ea, eb, ch, th, mv, mm, ty, bi, mk, rc, mr, md, mt, gp, yb, le, qc, qe, qq, tq, lc, gt) (nI (5 * a + i)) p q) := by
  obtain ⟨g0, g1, g2, _⟩ := hO.2 (5 * a + i) (by omega)
  have ek : (nI a * 5 + nI i) * 3 = nI ((5 * a + i) * 3) := by
    have e1 : nI a * 5 + nI i = nI (5 * a + i) := (sd_ma a 5 i).trans (by rw [Nat.mul_comm])
    rw [e1]
    exact pk_mul _ 3
  have e1 : nI ((5 * a + i) * 3) + 1 = nI ((5 * a + i) * 3 + 1) := nI_add _ 1
  have e2 : nI ((5 * a + i) * 3) + 2 = nI ((5 * a + i) * 3 + 2) := nI_add _ 2
  have i0 : vp_in (nI ((5 * a + i) * 3)) 120 := vp_in_nI (by omega) (by decide)
  have i1 : vp_in (nI ((5 * a + i) * 3) + 1) 120 := by rw [e1]; exact vp_in_nI (by omega) (by decide)
  have i2 : vp_in (nI ((5 * a + i) * 3) + 2) 120 := by rw [e2]; exact vp_in_nI (by omega) (by decide)
  have v0 : ops (nI ((5 * a + i) * 3)).toNatClampNeg = ow (5 * a + i) := by rw [nI_clamp (by omega)]; exact g0
  have v1 : ops (nI ((5 * a + i) * 3) + 1).toNatClampNeg = oq (5 * a + i) := by rw [e1, nI_clamp (by omega)]; exact g1
  have v2 : ops (nI ((5 * a + i) * 3) + 2).toNatClampNeg = ox (5 * a + i) := by rw [e2, nI_clamp (by omega)]; exact g2
  have w0 : vp_in (nI (5 * a + i)) 40 := vp_in_nI (by omega) (by decide)
  have cn : ¬ nI N ≤ nI i := nI_ge hi (by omega)
  have u1 : oq (nI (5 * a + i)).toNatClampNeg = oq (5 * a + i) := by rw [nI_clamp (by omega)]
  have u2 : ox (nI (5 * a + i)).toNatClampNeg = ox (5 * a + i) := by rw [nI_clamp (by omega)]
  have u0 : ow (nI (5 * a + i)).toNatClampNeg = ow (5 * a + i) := by rw [nI_clamp (by omega)]
  by_cases z : ox (5 * a + i) = 0
  · refine ⟨da, ag, upd fv f (sd_pv (fw f) p), hv, rg, mt, sd_Fp hF hf2 _, fun post n hp => ?_, fun post hp => ?_⟩
    · exact br_f cn (nm_r ek ⟨i1, nm_r (v1.trans hf) ⟨i2, nm_r v2 ⟨i0, nm_r (v0.trans hw) (br_f (by decide) (br_f (by decide) (br_t rfl (br_t z (sx_put hf2 (nm_r (nI_1 i) hp))))))⟩⟩⟩)
    · exact ⟨w0, nm_r (u1.trans hf) ⟨w0, nm_r u2 ⟨w0, nm_r (u0.trans hw) (br_f (by decide) (br_f (by decide) (br_f (by decide) (br_t rfl (br_t z (sy_put hf2 hp))))))⟩⟩⟩
  · refine ⟨da, ag, upd fv f (sd_pv (fw f) q), hv, rg, mt, sd_Fp hF hf2 _, fun post n hp => ?_, fun post hp => ?_⟩
    · exact br_f cn (nm_r ek ⟨i1, nm_r (v1.trans hf) ⟨i2, nm_r v2 ⟨i0, nm_r (v0.trans hw) (br_f (by decide) (br_f (by decide) (br_t rfl (br_f z (sx_put hf2 (nm_r (nI_1 i) hp))))))⟩⟩⟩)
    · exact ⟨w0, nm_r (u1.trans hf) ⟨w0, nm_r u2 ⟨w0, nm_r (u0.trans hw) (br_f (by decide) (br_f (by decide) (br_f (by decide) (br_t rfl (br_f z (sy_put hf2 hp))))))⟩⟩⟩
theorem sd_o2 {a i N Z c f x : Nat} {p q : Int32} (hF : sd_F fw fv hv) (hO : sd_O ops opn ow oq ox) (hZ : Z ≤ 16) (hz : pz 49 = nI Z) (ha : a < 8) (hi : i < N) (hN : N ≤ 5) (hw : ow (5 * a + i) = nI 2) (hf : oq (5 * a + i) = nI f) (hf2 : f < 28) (hx : ox (5 * a + i) = nI x) (hx2 : x < 28) : ∃ (da' ag' : Int32) (fv' hv' rg' mt' : Nat → Int32), sd_F fw fv' hv' ∧ (∀ (post : SX → Prop) (n : Nat), wX_doAction_11 post (nI a) p q (nI N) n (nI (i + 1)) sc oc bt bb da' ag' lo tp sb sd tk fw fv' hv' sts ops opn rg' kf kk th ens mv mm sps ho pb pz rc mr md mt' gp qc qq qe lc tq → wX_doAction_11 post (nI a) p q (nI N) (n + 1) (nI i) sc oc bt bb da ag lo tp sb sd tk fw fv hv sts ops opn rg kf kk th ens mv mm sps ho pb pz rc mr md mt gp qc qq qe lc tq) ∧ (∀ post : SY → Prop, post (sc, oc, tl, (nI (8 * Z)), bt, ma, ol, tp, sb, sd, tk, da', ag', gl, fw, fv', hv', ta, lk, go, ca, cv, cm, cg, opn, ow, oq, ox, rg', sw, sa, sz, sg, ho, kf, kk, ra, ac, ea, eb, ch, th, mv, mm, ty, bi, mk, rc, mr, md, mt', gp, yb, le, qc, qe, qq, tq, lc, gt) → wpY_operate post (sc, oc, tl, (nI (8 * Z)), bt, ma, ol, tp, sb, sd, tk, da, ag, gl, fw, fv, hv, ta, lk, go, ca, cv, cm, cg, opn, ow, oq, ox, rg, sw, sa, sz, sg, ho, kf, kk, ra, ac, ea, eb, ch, th, mv, mm, ty, bi, mk, rc, mr, md, mt, gp, yb, le, qc, qe, qq, tq, lc, gt) (nI (5 * a + i)) p q) := by
  obtain ⟨g0, g1, g2, _⟩ := hO.2 (5 * a + i) (by omega)
  have ek : (nI a * 5 + nI i) * 3 = nI ((5 * a + i) * 3) := by
    have e1 : nI a * 5 + nI i = nI (5 * a + i) := (sd_ma a 5 i).trans (by rw [Nat.mul_comm])
    rw [e1]
    exact pk_mul _ 3
  have e1 : nI ((5 * a + i) * 3) + 1 = nI ((5 * a + i) * 3 + 1) := nI_add _ 1
  have e2 : nI ((5 * a + i) * 3) + 2 = nI ((5 * a + i) * 3 + 2) := nI_add _ 2
  have i0 : vp_in (nI ((5 * a + i) * 3)) 120 := vp_in_nI (by omega) (by decide)
  have i1 : vp_in (nI ((5 * a + i) * 3) + 1) 120 := by rw [e1]; exact vp_in_nI (by omega) (by decide)
  have i2 : vp_in (nI ((5 * a + i) * 3) + 2) 120 := by rw [e2]; exact vp_in_nI (by omega) (by decide)
  have v0 : ops (nI ((5 * a + i) * 3)).toNatClampNeg = ow (5 * a + i) := by rw [nI_clamp (by omega)]; exact g0
  have v1 : ops (nI ((5 * a + i) * 3) + 1).toNatClampNeg = oq (5 * a + i) := by rw [e1, nI_clamp (by omega)]; exact g1
  have v2 : ops (nI ((5 * a + i) * 3) + 2).toNatClampNeg = ox (5 * a + i) := by rw [e2, nI_clamp (by omega)]; exact g2
  have w0 : vp_in (nI (5 * a + i)) 40 := vp_in_nI (by omega) (by decide)
  have cn : ¬ nI N ≤ nI i := nI_ge hi (by omega)
  have u1 : oq (nI (5 * a + i)).toNatClampNeg = oq (5 * a + i) := by rw [nI_clamp (by omega)]
  have u2 : ox (nI (5 * a + i)).toNatClampNeg = ox (5 * a + i) := by rw [nI_clamp (by omega)]
  have u0 : ow (nI (5 * a + i)).toNatClampNeg = ow (5 * a + i) := by rw [nI_clamp (by omega)]
  refine ⟨da, ag, upd fv f (sd_pv (fw f) (fv x)), hv, rg, mt, sd_Fp hF hf2 _, fun post n hp => ?_, fun post hp => ?_⟩
  ·
    refine br_f cn (nm_r ek ⟨i1, nm_r (v1.trans hf) ⟨i2, nm_r (v2.trans hx) ⟨i0, nm_r (v0.trans hw) (br_f (by decide) (br_f (by decide) (br_f (by decide) (br_t rfl (?_)))))⟩⟩⟩)
    unfold wX_doAction_192
    rw [v0, hw]
    refine ⟨i0, br_f (by decide) (br_f (by decide) (br_f (by decide) (br_f (by decide) (br_t rfl (?_)))))⟩
    rw [nI_clamp (n := x) (by omega)]
    exact ⟨vp_in_nI (by omega) (by decide), nm_e (sx_put hf2 (nm_r (nI_1 i) hp))⟩
  · refine ⟨w0, nm_r (u1.trans hf) ⟨w0, nm_r (u2.trans hx) ⟨w0, nm_r (u0.trans hw) (br_f (by decide) (br_f (by decide) (br_f (by decide) (br_f (by decide) (br_t rfl (?_))))))⟩⟩⟩
    rw [nI_clamp (n := x) (by omega)]
    exact ⟨vp_in_nI (by omega) (by decide), sy_put hf2 hp⟩
theorem sd_o3 {a i N Z c f x : Nat} {p q : Int32} (hF : sd_F fw fv hv) (hO : sd_O ops opn ow oq ox) (hZ : Z ≤ 16) (hz : pz 49 = nI Z) (ha : a < 8) (hi : i < N) (hN : N ≤ 5) (hw : ow (5 * a + i) = nI 3) (hf : oq (5 * a + i) = nI f) (hf2 : f < 28) (hx : ox (5 * a + i) = nI x) (hx2 : x < 28) : ∃ (da' ag' : Int32) (fv' hv' rg' mt' : Nat → Int32), sd_F fw fv' hv' ∧ (∀ (post : SX → Prop) (n : Nat), wX_doAction_11 post (nI a) p q (nI N) n (nI (i + 1)) sc oc bt bb da' ag' lo tp sb sd tk fw fv' hv' sts ops opn rg' kf kk th ens mv mm sps ho pb pz rc mr md mt' gp qc qq qe lc tq → wX_doAction_11 post (nI a) p q (nI N) (n + 1) (nI i) sc oc bt bb da ag lo tp sb sd tk fw fv hv sts ops opn rg kf kk th ens mv mm sps ho pb pz rc mr md mt gp qc qq qe lc tq) ∧ (∀ post : SY → Prop, post (sc, oc, tl, (nI (8 * Z)), bt, ma, ol, tp, sb, sd, tk, da', ag', gl, fw, fv', hv', ta, lk, go, ca, cv, cm, cg, opn, ow, oq, ox, rg', sw, sa, sz, sg, ho, kf, kk, ra, ac, ea, eb, ch, th, mv, mm, ty, bi, mk, rc, mr, md, mt', gp, yb, le, qc, qe, qq, tq, lc, gt) → wpY_operate post (sc, oc, tl, (nI (8 * Z)), bt, ma, ol, tp, sb, sd, tk, da, ag, gl, fw, fv, hv, ta, lk, go, ca, cv, cm, cg, opn, ow, oq, ox, rg, sw, sa, sz, sg, ho, kf, kk, ra, ac, ea, eb, ch, th, mv, mm, ty, bi, mk, rc, mr, md, mt, gp, yb, le, qc, qe, qq, tq, lc, gt) (nI (5 * a + i)) p q) := by
  obtain ⟨g0, g1, g2, _⟩ := hO.2 (5 * a + i) (by omega)
  have ek : (nI a * 5 + nI i) * 3 = nI ((5 * a + i) * 3) := by
    have e1 : nI a * 5 + nI i = nI (5 * a + i) := (sd_ma a 5 i).trans (by rw [Nat.mul_comm])
    rw [e1]
    exact pk_mul _ 3
  have e1 : nI ((5 * a + i) * 3) + 1 = nI ((5 * a + i) * 3 + 1) := nI_add _ 1
  have e2 : nI ((5 * a + i) * 3) + 2 = nI ((5 * a + i) * 3 + 2) := nI_add _ 2
  have i0 : vp_in (nI ((5 * a + i) * 3)) 120 := vp_in_nI (by omega) (by decide)
  have i1 : vp_in (nI ((5 * a + i) * 3) + 1) 120 := by rw [e1]; exact vp_in_nI (by omega) (by decide)
  have i2 : vp_in (nI ((5 * a + i) * 3) + 2) 120 := by rw [e2]; exact vp_in_nI (by omega) (by decide)
  have v0 : ops (nI ((5 * a + i) * 3)).toNatClampNeg = ow (5 * a + i) := by rw [nI_clamp (by omega)]; exact g0
  have v1 : ops (nI ((5 * a + i) * 3) + 1).toNatClampNeg = oq (5 * a + i) := by rw [e1, nI_clamp (by omega)]; exact g1
  have v2 : ops (nI ((5 * a + i) * 3) + 2).toNatClampNeg = ox (5 * a + i) := by rw [e2, nI_clamp (by omega)]; exact g2
  have w0 : vp_in (nI (5 * a + i)) 40 := vp_in_nI (by omega) (by decide)
  have cn : ¬ nI N ≤ nI i := nI_ge hi (by omega)
  have u1 : oq (nI (5 * a + i)).toNatClampNeg = oq (5 * a + i) := by rw [nI_clamp (by omega)]
  have u2 : ox (nI (5 * a + i)).toNatClampNeg = ox (5 * a + i) := by rw [nI_clamp (by omega)]
  have u0 : ow (nI (5 * a + i)).toNatClampNeg = ow (5 * a + i) := by rw [nI_clamp (by omega)]
  refine ⟨da, ag, upd fv f (sd_pv (fw f) (fv f + fv x)), hv, rg, mt, sd_Fp hF hf2 _, fun post n hp => ?_, fun post hp => ?_⟩
  ·
    refine br_f cn (nm_r ek ⟨i1, nm_r (v1.trans hf) ⟨i2, nm_r (v2.trans hx) ⟨i0, nm_r (v0.trans hw) (br_f (by decide) (br_f (by decide) (br_f (by decide) (br_f (by decide) (br_t rfl (?_))))))⟩⟩⟩)
    unfold wX_doAction_192
    rw [v0, hw]
    refine ⟨i0, br_f (by decide) (br_f (by decide) (br_f (by decide) (br_f (by decide) (br_f (by decide) (br_t rfl (?_))))))⟩
    rw [nI_clamp (n := x) (by omega), nI_clamp (n := f) (by omega)]
    exact ⟨vp_in_nI (by omega) (by decide), vp_in_nI (by omega) (by decide), nm_e (sx_put hf2 (nm_r (nI_1 i) hp))⟩
  · refine ⟨w0, nm_r (u1.trans hf) ⟨w0, nm_r (u2.trans hx) ⟨w0, nm_r (u0.trans hw) (br_f (by decide) (br_f (by decide) (br_f (by decide) (br_f (by decide) (br_f (by decide) (br_t rfl (?_)))))))⟩⟩⟩
    rw [nI_clamp (n := x) (by omega), nI_clamp (n := f) (by omega)]
    exact ⟨vp_in_nI (by omega) (by decide), vp_in_nI (by omega) (by decide), sy_put hf2 hp⟩
theorem sd_o4 {a i N Z c f x : Nat} {p q : Int32} (hF : sd_F fw fv hv) (hO : sd_O ops opn ow oq ox) (hZ : Z ≤ 16) (hz : pz 49 = nI Z) (ha : a < 8) (hi : i < N) (hN : N ≤ 5) (hw : ow (5 * a + i) = nI 4) (hf : oq (5 * a + i) = nI f) (hf2 : f < 28) (hx : ox (5 * a + i) = nI x) (hx2 : x < 28) : ∃ (da' ag' : Int32) (fv' hv' rg' mt' : Nat → Int32), sd_F fw fv' hv' ∧ (∀ (post : SX → Prop) (n : Nat), wX_doAction_11 post (nI a) p q (nI N) n (nI (i + 1)) sc oc bt bb da' ag' lo tp sb sd tk fw fv' hv' sts ops opn rg' kf kk th ens mv mm sps ho pb pz rc mr md mt' gp qc qq qe lc tq → wX_doAction_11 post (nI a) p q (nI N) (n + 1) (nI i) sc oc bt bb da ag lo tp sb sd tk fw fv hv sts ops opn rg kf kk th ens mv mm sps ho pb pz rc mr md mt gp qc qq qe lc tq) ∧ (∀ post : SY → Prop, post (sc, oc, tl, (nI (8 * Z)), bt, ma, ol, tp, sb, sd, tk, da', ag', gl, fw, fv', hv', ta, lk, go, ca, cv, cm, cg, opn, ow, oq, ox, rg', sw, sa, sz, sg, ho, kf, kk, ra, ac, ea, eb, ch, th, mv, mm, ty, bi, mk, rc, mr, md, mt', gp, yb, le, qc, qe, qq, tq, lc, gt) → wpY_operate post (sc, oc, tl, (nI (8 * Z)), bt, ma, ol, tp, sb, sd, tk, da, ag, gl, fw, fv, hv, ta, lk, go, ca, cv, cm, cg, opn, ow, oq, ox, rg, sw, sa, sz, sg, ho, kf, kk, ra, ac, ea, eb, ch, th, mv, mm, ty, bi, mk, rc, mr, md, mt, gp, yb, le, qc, qe, qq, tq, lc, gt) (nI (5 * a + i)) p q) := by
  obtain ⟨g0, g1, g2, _⟩ := hO.2 (5 * a + i) (by omega)
  have ek : (nI a * 5 + nI i) * 3 = nI ((5 * a + i) * 3) := by
    have e1 : nI a * 5 + nI i = nI (5 * a + i) := (sd_ma a 5 i).trans (by rw [Nat.mul_comm])
    rw [e1]
    exact pk_mul _ 3
  have e1 : nI ((5 * a + i) * 3) + 1 = nI ((5 * a + i) * 3 + 1) := nI_add _ 1
  have e2 : nI ((5 * a + i) * 3) + 2 = nI ((5 * a + i) * 3 + 2) := nI_add _ 2
  have i0 : vp_in (nI ((5 * a + i) * 3)) 120 := vp_in_nI (by omega) (by decide)
  have i1 : vp_in (nI ((5 * a + i) * 3) + 1) 120 := by rw [e1]; exact vp_in_nI (by omega) (by decide)
  have i2 : vp_in (nI ((5 * a + i) * 3) + 2) 120 := by rw [e2]; exact vp_in_nI (by omega) (by decide)
  have v0 : ops (nI ((5 * a + i) * 3)).toNatClampNeg = ow (5 * a + i) := by rw [nI_clamp (by omega)]; exact g0
  have v1 : ops (nI ((5 * a + i) * 3) + 1).toNatClampNeg = oq (5 * a + i) := by rw [e1, nI_clamp (by omega)]; exact g1
  have v2 : ops (nI ((5 * a + i) * 3) + 2).toNatClampNeg = ox (5 * a + i) := by rw [e2, nI_clamp (by omega)]; exact g2
  have w0 : vp_in (nI (5 * a + i)) 40 := vp_in_nI (by omega) (by decide)
  have cn : ¬ nI N ≤ nI i := nI_ge hi (by omega)
  have u1 : oq (nI (5 * a + i)).toNatClampNeg = oq (5 * a + i) := by rw [nI_clamp (by omega)]
  have u2 : ox (nI (5 * a + i)).toNatClampNeg = ox (5 * a + i) := by rw [nI_clamp (by omega)]
  have u0 : ow (nI (5 * a + i)).toNatClampNeg = ow (5 * a + i) := by rw [nI_clamp (by omega)]
  refine ⟨da, ag, upd fv f (sd_pv (fw f) (fv f - fv x)), hv, rg, mt, sd_Fp hF hf2 _, fun post n hp => ?_, fun post hp => ?_⟩
  ·
    refine br_f cn (nm_r ek ⟨i1, nm_r (v1.trans hf) ⟨i2, nm_r (v2.trans hx) ⟨i0, nm_r (v0.trans hw) (br_f (by decide) (br_f (by decide) (br_f (by decide) (br_f (by decide) (br_f (by decide) (br_t rfl (?_)))))))⟩⟩⟩)
    unfold wX_doAction_192
    rw [v0, hw]
    refine ⟨i0, br_f (by decide) (br_f (by decide) (br_f (by decide) (br_f (by decide) (br_f (by decide) (br_f (by decide) (br_t rfl (?_)))))))⟩
    rw [nI_clamp (n := x) (by omega), nI_clamp (n := f) (by omega)]
    exact ⟨vp_in_nI (by omega) (by decide), vp_in_nI (by omega) (by decide), nm_e (sx_put hf2 (nm_r (nI_1 i) hp))⟩
  · refine ⟨w0, nm_r (u1.trans hf) ⟨w0, nm_r (u2.trans hx) ⟨w0, nm_r (u0.trans hw) (br_f (by decide) (br_f (by decide) (br_f (by decide) (br_f (by decide) (br_f (by decide) (br_f (by decide) (br_t rfl (?_))))))))⟩⟩⟩
    rw [nI_clamp (n := x) (by omega), nI_clamp (n := f) (by omega)]
    exact ⟨vp_in_nI (by omega) (by decide), vp_in_nI (by omega) (by decide), sy_put hf2 hp⟩
theorem sd_o5 {a i N Z c f x : Nat} {p q : Int32} (hF : sd_F fw fv hv) (hO : sd_O ops opn ow oq ox) (hZ : Z ≤ 16) (hz : pz 49 = nI Z) (ha : a < 8) (hi : i < N) (hN : N ≤ 5) (hw : ow (5 * a + i) = nI 5) (hf : oq (5 * a + i) = nI f) (hf2 : f < 28) (hx : ox (5 * a + i) = nI x) (hx2 : x < 28) : ∃ (da' ag' : Int32) (fv' hv' rg' mt' : Nat → Int32), sd_F fw fv' hv' ∧ (∀ (post : SX → Prop) (n : Nat), wX_doAction_11 post (nI a) p q (nI N) n (nI (i + 1)) sc oc bt bb da' ag' lo tp sb sd tk fw fv' hv' sts ops opn rg' kf kk th ens mv mm sps ho pb pz rc mr md mt' gp qc qq qe lc tq → wX_doAction_11 post (nI a) p q (nI N) (n + 1) (nI i) sc oc bt bb da ag lo tp sb sd tk fw fv hv sts ops opn rg kf kk th ens mv mm sps ho pb pz rc mr md mt gp qc qq qe lc tq) ∧ (∀ post : SY → Prop, post (sc, oc, tl, (nI (8 * Z)), bt, ma, ol, tp, sb, sd, tk, da', ag', gl, fw, fv', hv', ta, lk, go, ca, cv, cm, cg, opn, ow, oq, ox, rg', sw, sa, sz, sg, ho, kf, kk, ra, ac, ea, eb, ch, th, mv, mm, ty, bi, mk, rc, mr, md, mt', gp, yb, le, qc, qe, qq, tq, lc, gt) → wpY_operate post (sc, oc, tl, (nI (8 * Z)), bt, ma, ol, tp, sb, sd, tk, da, ag, gl, fw, fv, hv, ta, lk, go, ca, cv, cm, cg, opn, ow, oq, ox, rg, sw, sa, sz, sg, ho, kf, kk, ra, ac, ea, eb, ch, th, mv, mm, ty, bi, mk, rc, mr, md, mt, gp, yb, le, qc, qe, qq, tq, lc, gt) (nI (5 * a + i)) p q) := by
  obtain ⟨g0, g1, g2, _⟩ := hO.2 (5 * a + i) (by omega)
  have ek : (nI a * 5 + nI i) * 3 = nI ((5 * a + i) * 3) := by
    have e1 : nI a * 5 + nI i = nI (5 * a + i) := (sd_ma a 5 i).trans (by rw [Nat.mul_comm])
    rw [e1]
    exact pk_mul _ 3
  have e1 : nI ((5 * a + i) * 3) + 1 = nI ((5 * a + i) * 3 + 1) := nI_add _ 1
  have e2 : nI ((5 * a + i) * 3) + 2 = nI ((5 * a + i) * 3 + 2) := nI_add _ 2
  have i0 : vp_in (nI ((5 * a + i) * 3)) 120 := vp_in_nI (by omega) (by decide)
  have i1 : vp_in (nI ((5 * a + i) * 3) + 1) 120 := by rw [e1]; exact vp_in_nI (by omega) (by decide)
  have i2 : vp_in (nI ((5 * a + i) * 3) + 2) 120 := by rw [e2]; exact vp_in_nI (by omega) (by decide)
  have v0 : ops (nI ((5 * a + i) * 3)).toNatClampNeg = ow (5 * a + i) := by rw [nI_clamp (by omega)]; exact g0
  have v1 : ops (nI ((5 * a + i) * 3) + 1).toNatClampNeg = oq (5 * a + i) := by rw [e1, nI_clamp (by omega)]; exact g1
  have v2 : ops (nI ((5 * a + i) * 3) + 2).toNatClampNeg = ox (5 * a + i) := by rw [e2, nI_clamp (by omega)]; exact g2
  have w0 : vp_in (nI (5 * a + i)) 40 := vp_in_nI (by omega) (by decide)
  have cn : ¬ nI N ≤ nI i := nI_ge hi (by omega)
  have u1 : oq (nI (5 * a + i)).toNatClampNeg = oq (5 * a + i) := by rw [nI_clamp (by omega)]
  have u2 : ox (nI (5 * a + i)).toNatClampNeg = ox (5 * a + i) := by rw [nI_clamp (by omega)]
  have u0 : ow (nI (5 * a + i)).toNatClampNeg = ow (5 * a + i) := by rw [nI_clamp (by omega)]
  refine ⟨da, ag, upd fv f (sd_pv (fw f) (fv f ^^^ fv x)), hv, rg, mt, sd_Fp hF hf2 _, fun post n hp => ?_, fun post hp => ?_⟩
  ·
    refine br_f cn (nm_r ek ⟨i1, nm_r (v1.trans hf) ⟨i2, nm_r (v2.trans hx) ⟨i0, nm_r (v0.trans hw) (br_f (by decide) (br_f (by decide) (br_f (by decide) (br_f (by decide) (br_f (by decide) (br_f (by decide) (br_t rfl (?_))))))))⟩⟩⟩)
    unfold wX_doAction_192
    rw [v0, hw]
    refine ⟨i0, br_f (by decide) (br_f (by decide) (br_f (by decide) (br_f (by decide) (br_f (by decide) (br_f (by decide) (br_f (by decide) (br_t rfl (?_))))))))⟩
    rw [nI_clamp (n := x) (by omega), nI_clamp (n := f) (by omega)]
    exact ⟨vp_in_nI (by omega) (by decide), vp_in_nI (by omega) (by decide), nm_e (sx_put hf2 (nm_r (nI_1 i) hp))⟩
  · refine ⟨w0, nm_r (u1.trans hf) ⟨w0, nm_r (u2.trans hx) ⟨w0, nm_r (u0.trans hw) (br_f (by decide) (br_f (by decide) (br_f (by decide) (br_f (by decide) (br_f (by decide) (br_f (by decide) (br_f (by decide) (br_t rfl (?_)))))))))⟩⟩⟩
    rw [nI_clamp (n := x) (by omega), nI_clamp (n := f) (by omega)]
    exact ⟨vp_in_nI (by omega) (by decide), vp_in_nI (by omega) (by decide), sy_put hf2 hp⟩
theorem sd_o6 {a i N Z c f x : Nat} {p q : Int32} (hF : sd_F fw fv hv) (hO : sd_O ops opn ow oq ox) (hZ : Z ≤ 16) (hz : pz 49 = nI Z) (ha : a < 8) (hi : i < N) (hN : N ≤ 5) (hw : ow (5 * a + i) = nI 6) (hf : oq (5 * a + i) = nI f) (hf2 : f < 6) : ∃ (da' ag' : Int32) (fv' hv' rg' mt' : Nat → Int32), sd_F fw fv' hv' ∧ (∀ (post : SX → Prop) (n : Nat), wX_doAction_11 post (nI a) p q (nI N) n (nI (i + 1)) sc oc bt bb da' ag' lo tp sb sd tk fw fv' hv' sts ops opn rg' kf kk th ens mv mm sps ho pb pz rc mr md mt' gp qc qq qe lc tq → wX_doAction_11 post (nI a) p q (nI N) (n + 1) (nI i) sc oc bt bb da ag lo tp sb sd tk fw fv hv sts ops opn rg kf kk th ens mv mm sps ho pb pz rc mr md mt gp qc qq qe lc tq) ∧ (∀ post : SY → Prop, post (sc, oc, tl, (nI (8 * Z)), bt, ma, ol, tp, sb, sd, tk, da', ag', gl, fw, fv', hv', ta, lk, go, ca, cv, cm, cg, opn, ow, oq, ox, rg', sw, sa, sz, sg, ho, kf, kk, ra, ac, ea, eb, ch, th, mv, mm, ty, bi, mk, rc, mr, md, mt', gp, yb, le, qc, qe, qq, tq, lc, gt) → wpY_operate post (sc, oc, tl, (nI (8 * Z)), bt, ma, ol, tp, sb, sd, tk, da, ag, gl, fw, fv, hv, ta, lk, go, ca, cv, cm, cg, opn, ow, oq, ox, rg, sw, sa, sz, sg, ho, kf, kk, ra, ac, ea, eb, ch, th, mv, mm, ty, bi, mk, rc, mr, md, mt, gp, yb, le, qc, qe, qq, tq, lc, gt) (nI (5 * a + i)) p q) := by
  obtain ⟨g0, g1, g2, _⟩ := hO.2 (5 * a + i) (by omega)
  have ek : (nI a * 5 + nI i) * 3 = nI ((5 * a + i) * 3) := by
    have e1 : nI a * 5 + nI i = nI (5 * a + i) := (sd_ma a 5 i).trans (by rw [Nat.mul_comm])
    rw [e1]
    exact pk_mul _ 3
  have e1 : nI ((5 * a + i) * 3) + 1 = nI ((5 * a + i) * 3 + 1) := nI_add _ 1
  have e2 : nI ((5 * a + i) * 3) + 2 = nI ((5 * a + i) * 3 + 2) := nI_add _ 2
  have i0 : vp_in (nI ((5 * a + i) * 3)) 120 := vp_in_nI (by omega) (by decide)
  have i1 : vp_in (nI ((5 * a + i) * 3) + 1) 120 := by rw [e1]; exact vp_in_nI (by omega) (by decide)
  have i2 : vp_in (nI ((5 * a + i) * 3) + 2) 120 := by rw [e2]; exact vp_in_nI (by omega) (by decide)
  have v0 : ops (nI ((5 * a + i) * 3)).toNatClampNeg = ow (5 * a + i) := by rw [nI_clamp (by omega)]; exact g0
  have v1 : ops (nI ((5 * a + i) * 3) + 1).toNatClampNeg = oq (5 * a + i) := by rw [e1, nI_clamp (by omega)]; exact g1
  have v2 : ops (nI ((5 * a + i) * 3) + 2).toNatClampNeg = ox (5 * a + i) := by rw [e2, nI_clamp (by omega)]; exact g2
  have w0 : vp_in (nI (5 * a + i)) 40 := vp_in_nI (by omega) (by decide)
  have cn : ¬ nI N ≤ nI i := nI_ge hi (by omega)
  have u1 : oq (nI (5 * a + i)).toNatClampNeg = oq (5 * a + i) := by rw [nI_clamp (by omega)]
  have u2 : ox (nI (5 * a + i)).toNatClampNeg = ox (5 * a + i) := by rw [nI_clamp (by omega)]
  have u0 : ow (nI (5 * a + i)).toNatClampNeg = ow (5 * a + i) := by rw [nI_clamp (by omega)]
  by_cases z : hv f = 0
  · refine ⟨da, ag, sd_zh fv f 4, upd hv f 1, rg, mt, sd_Fh (sd_Fzh hF hf2 4 (by omega)) (Or.inr rfl), fun post n hp => ?_, fun post hp => ?_⟩
    · exact br_f cn (nm_r ek ⟨i1, nm_r (v1.trans hf) ⟨i2, nm_r v2 ⟨i0, nm_r (v0.trans hw) (br_f (by decide) (br_f (by decide) (br_f (by decide) (br_f (by decide) (br_f (by decide) (br_f (by decide) (br_f (by decide) (br_t rfl (sx_addh hf2 (fun _ => nm_r (nI_1 i) hp) (fun y => absurd z y))))))))))⟩⟩⟩)
    · exact ⟨w0, nm_r (u1.trans hf) ⟨w0, nm_r u2 ⟨w0, nm_r (u0.trans hw) (br_f (by decide) (br_f (by decide) (br_f (by decide) (br_f (by decide) (br_f (by decide) (br_f (by decide) (br_f (by decide) (br_f (by decide) (br_t rfl (sy_addh hf2 (fun _ => hp) (fun y => absurd z y)))))))))))⟩⟩⟩
  · have z1 : hv f = 1 := (hF.2.2 f hf2).resolve_left z
    refine ⟨da, ag, fv, hv, rg, mt, hF, fun post n hp => ?_, fun post hp => ?_⟩
    · exact br_f cn (nm_r ek ⟨i1, nm_r (v1.trans hf) ⟨i2, nm_r v2 ⟨i0, nm_r (v0.trans hw) (br_f (by decide) (br_f (by decide) (br_f (by decide) (br_f (by decide) (br_f (by decide) (br_f (by decide) (br_f (by decide) (br_t rfl (sx_addh hf2 (fun y => absurd y z) (fun _ => nm_r (nI_1 i) hp))))))))))⟩⟩⟩)
    · exact ⟨w0, nm_r (u1.trans hf) ⟨w0, nm_r u2 ⟨w0, nm_r (u0.trans hw) (br_f (by decide) (br_f (by decide) (br_f (by decide) (br_f (by decide) (br_f (by decide) (br_f (by decide) (br_f (by decide) (br_f (by decide) (br_t rfl (sy_addh hf2 (fun y => absurd y z) (fun _ => by rw [sd_ud z1]; exact hp)))))))))))⟩⟩⟩
theorem sd_o7 {a i N Z c f x : Nat} {p q : Int32} (hF : sd_F fw fv hv) (hO : sd_O ops opn ow oq ox) (hZ : Z ≤ 16) (hz : pz 49 = nI Z) (ha : a < 8) (hi : i < N) (hN : N ≤ 5) (hw : ow (5 * a + i) = nI 7) (hf : oq (5 * a + i) = nI f) (hf2 : f < 6) : ∃ (da' ag' : Int32) (fv' hv' rg' mt' : Nat → Int32), sd_F fw fv' hv' ∧ (∀ (post : SX → Prop) (n : Nat), wX_doAction_11 post (nI a) p q (nI N) n (nI (i + 1)) sc oc bt bb da' ag' lo tp sb sd tk fw fv' hv' sts ops opn rg' kf kk th ens mv mm sps ho pb pz rc mr md mt' gp qc qq qe lc tq → wX_doAction_11 post (nI a) p q (nI N) (n + 1) (nI i) sc oc bt bb da ag lo tp sb sd tk fw fv hv sts ops opn rg kf kk th ens mv mm sps ho pb pz rc mr md mt gp qc qq qe lc tq) ∧ (∀ post : SY → Prop, post (sc, oc, tl, (nI (8 * Z)), bt, ma, ol, tp, sb, sd, tk, da', ag', gl, fw, fv', hv', ta, lk, go, ca, cv, cm, cg, opn, ow, oq, ox, rg', sw, sa, sz, sg, ho, kf, kk, ra, ac, ea, eb, ch, th, mv, mm, ty, bi, mk, rc, mr, md, mt', gp, yb, le, qc, qe, qq, tq, lc, gt) → wpY_operate post (sc, oc, tl, (nI (8 * Z)), bt, ma, ol, tp, sb, sd, tk, da, ag, gl, fw, fv, hv, ta, lk, go, ca, cv, cm, cg, opn, ow, oq, ox, rg, sw, sa, sz, sg, ho, kf, kk, ra, ac, ea, eb, ch, th, mv, mm, ty, bi, mk, rc, mr, md, mt, gp, yb, le, qc, qe, qq, tq, lc, gt) (nI (5 * a + i)) p q) := by
  obtain ⟨g0, g1, g2, _⟩ := hO.2 (5 * a + i) (by omega)
  have ek : (nI a * 5 + nI i) * 3 = nI ((5 * a + i) * 3) := by
    have e1 : nI a * 5 + nI i = nI (5 * a + i) := (sd_ma a 5 i).trans (by rw [Nat.mul_comm])
    rw [e1]
    exact pk_mul _ 3
  have e1 : nI ((5 * a + i) * 3) + 1 = nI ((5 * a + i) * 3 + 1) := nI_add _ 1
  have e2 : nI ((5 * a + i) * 3) + 2 = nI ((5 * a + i) * 3 + 2) := nI_add _ 2
  have i0 : vp_in (nI ((5 * a + i) * 3)) 120 := vp_in_nI (by omega) (by decide)
  have i1 : vp_in (nI ((5 * a + i) * 3) + 1) 120 := by rw [e1]; exact vp_in_nI (by omega) (by decide)
  have i2 : vp_in (nI ((5 * a + i) * 3) + 2) 120 := by rw [e2]; exact vp_in_nI (by omega) (by decide)
  have v0 : ops (nI ((5 * a + i) * 3)).toNatClampNeg = ow (5 * a + i) := by rw [nI_clamp (by omega)]; exact g0
  have v1 : ops (nI ((5 * a + i) * 3) + 1).toNatClampNeg = oq (5 * a + i) := by rw [e1, nI_clamp (by omega)]; exact g1
  have v2 : ops (nI ((5 * a + i) * 3) + 2).toNatClampNeg = ox (5 * a + i) := by rw [e2, nI_clamp (by omega)]; exact g2
  have w0 : vp_in (nI (5 * a + i)) 40 := vp_in_nI (by omega) (by decide)
  have cn : ¬ nI N ≤ nI i := nI_ge hi (by omega)
  have u1 : oq (nI (5 * a + i)).toNatClampNeg = oq (5 * a + i) := by rw [nI_clamp (by omega)]
  have u2 : ox (nI (5 * a + i)).toNatClampNeg = ox (5 * a + i) := by rw [nI_clamp (by omega)]
  have u0 : ow (nI (5 * a + i)).toNatClampNeg = ow (5 * a + i) := by rw [nI_clamp (by omega)]
  refine ⟨da, ag, fv, upd hv f 0, rg, mt, sd_Fh hF (Or.inl rfl), fun post n hp => ?_, fun post hp => ?_⟩
  · exact br_f cn (nm_r ek ⟨i1, nm_r (v1.trans hf) ⟨i2, nm_r v2 ⟨i0, nm_r (v0.trans hw) (br_f (by decide) (br_f (by decide) (br_f (by decide) (br_f (by decide) (br_f (by decide) (br_f (by decide) (br_f (by decide) (br_f (by decide) (br_t rfl (sd_st f rfl hf2 (by decide) (by rw [sd_b0]; exact nm_r (nI_1 i) hp)))))))))))⟩⟩⟩)
  · exact ⟨w0, nm_r (u1.trans hf) ⟨w0, nm_r u2 ⟨w0, nm_r (u0.trans hw) (br_f (by decide) (br_f (by decide) (br_f (by decide) (br_f (by decide) (br_f (by decide) (br_f (by decide) (br_f (by decide) (br_f (by decide) (br_f (by decide) (br_t rfl (sy_remh hf2 hp)))))))))))⟩⟩⟩
theorem sd_o8 {a i N Z c f x : Nat} {p q : Int32} (hF : sd_F fw fv hv) (hO : sd_O ops opn ow oq ox) (hZ : Z ≤ 16) (hz : pz 49 = nI Z) (ha : a < 8) (hi : i < N) (hN : N ≤ 5) (hw : ow (5 * a + i) = nI 8) : ∃ (da' ag' : Int32) (fv' hv' rg' mt' : Nat → Int32), sd_F fw fv' hv' ∧ (∀ (post : SX → Prop) (n : Nat), wX_doAction_11 post (nI a) p q (nI N) n (nI (i + 1)) sc oc bt bb da' ag' lo tp sb sd tk fw fv' hv' sts ops opn rg' kf kk th ens mv mm sps ho pb pz rc mr md mt' gp qc qq qe lc tq → wX_doAction_11 post (nI a) p q (nI N) (n + 1) (nI i) sc oc bt bb da ag lo tp sb sd tk fw fv hv sts ops opn rg kf kk th ens mv mm sps ho pb pz rc mr md mt gp qc qq qe lc tq) ∧ (∀ post : SY → Prop, post (sc, oc, tl, (nI (8 * Z)), bt, ma, ol, tp, sb, sd, tk, da', ag', gl, fw, fv', hv', ta, lk, go, ca, cv, cm, cg, opn, ow, oq, ox, rg', sw, sa, sz, sg, ho, kf, kk, ra, ac, ea, eb, ch, th, mv, mm, ty, bi, mk, rc, mr, md, mt', gp, yb, le, qc, qe, qq, tq, lc, gt) → wpY_operate post (sc, oc, tl, (nI (8 * Z)), bt, ma, ol, tp, sb, sd, tk, da, ag, gl, fw, fv, hv, ta, lk, go, ca, cv, cm, cg, opn, ow, oq, ox, rg, sw, sa, sz, sg, ho, kf, kk, ra, ac, ea, eb, ch, th, mv, mm, ty, bi, mk, rc, mr, md, mt, gp, yb, le, qc, qe, qq, tq, lc, gt) (nI (5 * a + i)) p q) := by
  obtain ⟨g0, g1, g2, _⟩ := hO.2 (5 * a + i) (by omega)
  have ek : (nI a * 5 + nI i) * 3 = nI ((5 * a + i) * 3) := by
    have e1 : nI a * 5 + nI i = nI (5 * a + i) := (sd_ma a 5 i).trans (by rw [Nat.mul_comm])
    rw [e1]
    exact pk_mul _ 3
  have e1 : nI ((5 * a + i) * 3) + 1 = nI ((5 * a + i) * 3 + 1) := nI_add _ 1
  have e2 : nI ((5 * a + i) * 3) + 2 = nI ((5 * a + i) * 3 + 2) := nI_add _ 2
  have i0 : vp_in (nI ((5 * a + i) * 3)) 120 := vp_in_nI (by omega) (by decide)
  have i1 : vp_in (nI ((5 * a + i) * 3) + 1) 120 := by rw [e1]; exact vp_in_nI (by omega) (by decide)
  have i2 : vp_in (nI ((5 * a + i) * 3) + 2) 120 := by rw [e2]; exact vp_in_nI (by omega) (by decide)
  have v0 : ops (nI ((5 * a + i) * 3)).toNatClampNeg = ow (5 * a + i) := by rw [nI_clamp (by omega)]; exact g0
  have v1 : ops (nI ((5 * a + i) * 3) + 1).toNatClampNeg = oq (5 * a + i) := by rw [e1, nI_clamp (by omega)]; exact g1
  have v2 : ops (nI ((5 * a + i) * 3) + 2).toNatClampNeg = ox (5 * a + i) := by rw [e2, nI_clamp (by omega)]; exact g2
  have w0 : vp_in (nI (5 * a + i)) 40 := vp_in_nI (by omega) (by decide)
  have cn : ¬ nI N ≤ nI i := nI_ge hi (by omega)
  have u1 : oq (nI (5 * a + i)).toNatClampNeg = oq (5 * a + i) := by rw [nI_clamp (by omega)]
  have u2 : ox (nI (5 * a + i)).toNatClampNeg = ox (5 * a + i) := by rw [nI_clamp (by omega)]
  have u0 : ow (nI (5 * a + i)).toNatClampNeg = ow (5 * a + i) := by rw [nI_clamp (by omega)]
  refine ⟨1, ag, fv, hv, rg, mt, hF, fun post n hp => ?_, fun post hp => ?_⟩
  · exact br_f cn (nm_r ek ⟨i1, nm_r v1 ⟨i2, nm_r v2 ⟨i0, nm_r (v0.trans hw) (br_f (by decide) (br_f (by decide) (br_f (by decide) (br_f (by decide) (br_f (by decide) (br_f (by decide) (br_f (by decide) (br_f (by decide) (br_f (by decide) (br_t rfl (nm_r (nI_1 i) hp)))))))))))⟩⟩⟩)
  · exact ⟨w0, nm_r u1 ⟨w0, nm_r u2 ⟨w0, nm_r (u0.trans hw) (br_f (by decide) (br_f (by decide) (br_f (by decide) (br_f (by decide) (br_f (by decide) (br_f (by decide) (br_f (by decide) (br_f (by decide) (br_f (by decide) (br_f (by decide) (br_t rfl (hp))))))))))))⟩⟩⟩
theorem sd_o9 {a i N Z c f x : Nat} {p q : Int32} (hF : sd_F fw fv hv) (hO : sd_O ops opn ow oq ox) (hZ : Z ≤ 16) (hz : pz 49 = nI Z) (ha : a < 8) (hi : i < N) (hN : N ≤ 5) (hw : ow (5 * a + i) = nI 9) : ∃ (da' ag' : Int32) (fv' hv' rg' mt' : Nat → Int32), sd_F fw fv' hv' ∧ (∀ (post : SX → Prop) (n : Nat), wX_doAction_11 post (nI a) p q (nI N) n (nI (i + 1)) sc oc bt bb da' ag' lo tp sb sd tk fw fv' hv' sts ops opn rg' kf kk th ens mv mm sps ho pb pz rc mr md mt' gp qc qq qe lc tq → wX_doAction_11 post (nI a) p q (nI N) (n + 1) (nI i) sc oc bt bb da ag lo tp sb sd tk fw fv hv sts ops opn rg kf kk th ens mv mm sps ho pb pz rc mr md mt gp qc qq qe lc tq) ∧ (∀ post : SY → Prop, post (sc, oc, tl, (nI (8 * Z)), bt, ma, ol, tp, sb, sd, tk, da', ag', gl, fw, fv', hv', ta, lk, go, ca, cv, cm, cg, opn, ow, oq, ox, rg', sw, sa, sz, sg, ho, kf, kk, ra, ac, ea, eb, ch, th, mv, mm, ty, bi, mk, rc, mr, md, mt', gp, yb, le, qc, qe, qq, tq, lc, gt) → wpY_operate post (sc, oc, tl, (nI (8 * Z)), bt, ma, ol, tp, sb, sd, tk, da, ag, gl, fw, fv, hv, ta, lk, go, ca, cv, cm, cg, opn, ow, oq, ox, rg, sw, sa, sz, sg, ho, kf, kk, ra, ac, ea, eb, ch, th, mv, mm, ty, bi, mk, rc, mr, md, mt, gp, yb, le, qc, qe, qq, tq, lc, gt) (nI (5 * a + i)) p q) := by
  obtain ⟨g0, g1, g2, _⟩ := hO.2 (5 * a + i) (by omega)
  have ek : (nI a * 5 + nI i) * 3 = nI ((5 * a + i) * 3) := by
    have e1 : nI a * 5 + nI i = nI (5 * a + i) := (sd_ma a 5 i).trans (by rw [Nat.mul_comm])
    rw [e1]
    exact pk_mul _ 3
  have e1 : nI ((5 * a + i) * 3) + 1 = nI ((5 * a + i) * 3 + 1) := nI_add _ 1
  have e2 : nI ((5 * a + i) * 3) + 2 = nI ((5 * a + i) * 3 + 2) := nI_add _ 2
  have i0 : vp_in (nI ((5 * a + i) * 3)) 120 := vp_in_nI (by omega) (by decide)
  have i1 : vp_in (nI ((5 * a + i) * 3) + 1) 120 := by rw [e1]; exact vp_in_nI (by omega) (by decide)
  have i2 : vp_in (nI ((5 * a + i) * 3) + 2) 120 := by rw [e2]; exact vp_in_nI (by omega) (by decide)
  have v0 : ops (nI ((5 * a + i) * 3)).toNatClampNeg = ow (5 * a + i) := by rw [nI_clamp (by omega)]; exact g0
  have v1 : ops (nI ((5 * a + i) * 3) + 1).toNatClampNeg = oq (5 * a + i) := by rw [e1, nI_clamp (by omega)]; exact g1
  have v2 : ops (nI ((5 * a + i) * 3) + 2).toNatClampNeg = ox (5 * a + i) := by rw [e2, nI_clamp (by omega)]; exact g2
  have w0 : vp_in (nI (5 * a + i)) 40 := vp_in_nI (by omega) (by decide)
  have cn : ¬ nI N ≤ nI i := nI_ge hi (by omega)
  have u1 : oq (nI (5 * a + i)).toNatClampNeg = oq (5 * a + i) := by rw [nI_clamp (by omega)]
  have u2 : ox (nI (5 * a + i)).toNatClampNeg = ox (5 * a + i) := by rw [nI_clamp (by omega)]
  have u0 : ow (nI (5 * a + i)).toNatClampNeg = ow (5 * a + i) := by rw [nI_clamp (by omega)]
  refine ⟨da, 1, fv, hv, rg, mt, hF, fun post n hp => ?_, fun post hp => ?_⟩
  · exact br_f cn (nm_r ek ⟨i1, nm_r v1 ⟨i2, nm_r v2 ⟨i0, nm_r (v0.trans hw) (br_f (by decide) (br_f (by decide) (br_f (by decide) (br_f (by decide) (br_f (by decide) (br_f (by decide) (br_f (by decide) (br_f (by decide) (br_f (by decide) (br_f (by decide) (br_t rfl (nm_r (nI_1 i) hp))))))))))))⟩⟩⟩)
  · exact ⟨w0, nm_r u1 ⟨w0, nm_r u2 ⟨w0, nm_r (u0.trans hw) (br_f (by decide) (br_f (by decide) (br_f (by decide) (br_f (by decide) (br_f (by decide) (br_f (by decide) (br_f (by decide) (br_f (by decide) (br_f (by decide) (br_f (by decide) (br_f (by decide) (br_t rfl (hp)))))))))))))⟩⟩⟩
theorem sd_o10 {a i N Z c f x : Nat} {p q : Int32} (hF : sd_F fw fv hv) (hO : sd_O ops opn ow oq ox) (hZ : Z ≤ 16) (hz : pz 49 = nI Z) (ha : a < 8) (hi : i < N) (hN : N ≤ 5) (hw : ow (5 * a + i) = nI 10) (hf : oq (5 * a + i) = nI f) (hf2 : f < 28) (hx : ox (5 * a + i) = nI x) (hx2 : x < 6) : ∃ (da' ag' : Int32) (fv' hv' rg' mt' : Nat → Int32), sd_F fw fv' hv' ∧ (∀ (post : SX → Prop) (n : Nat), wX_doAction_11 post (nI a) p q (nI N) n (nI (i + 1)) sc oc bt bb da' ag' lo tp sb sd tk fw fv' hv' sts ops opn rg' kf kk th ens mv mm sps ho pb pz rc mr md mt' gp qc qq qe lc tq → wX_doAction_11 post (nI a) p q (nI N) (n + 1) (nI i) sc oc bt bb da ag lo tp sb sd tk fw fv hv sts ops opn rg kf kk th ens mv mm sps ho pb pz rc mr md mt gp qc qq qe lc tq) ∧ (∀ post : SY → Prop, post (sc, oc, tl, (nI (8 * Z)), bt, ma, ol, tp, sb, sd, tk, da', ag', gl, fw, fv', hv', ta, lk, go, ca, cv, cm, cg, opn, ow, oq, ox, rg', sw, sa, sz, sg, ho, kf, kk, ra, ac, ea, eb, ch, th, mv, mm, ty, bi, mk, rc, mr, md, mt', gp, yb, le, qc, qe, qq, tq, lc, gt) → wpY_operate post (sc, oc, tl, (nI (8 * Z)), bt, ma, ol, tp, sb, sd, tk, da, ag, gl, fw, fv, hv, ta, lk, go, ca, cv, cm, cg, opn, ow, oq, ox, rg, sw, sa, sz, sg, ho, kf, kk, ra, ac, ea, eb, ch, th, mv, mm, ty, bi, mk, rc, mr, md, mt, gp, yb, le, qc, qe, qq, tq, lc, gt) (nI (5 * a + i)) p q) := by
  obtain ⟨g0, g1, g2, _⟩ := hO.2 (5 * a + i) (by omega)
  have ek : (nI a * 5 + nI i) * 3 = nI ((5 * a + i) * 3) := by
    have e1 : nI a * 5 + nI i = nI (5 * a + i) := (sd_ma a 5 i).trans (by rw [Nat.mul_comm])
    rw [e1]
    exact pk_mul _ 3
  have e1 : nI ((5 * a + i) * 3) + 1 = nI ((5 * a + i) * 3 + 1) := nI_add _ 1
  have e2 : nI ((5 * a + i) * 3) + 2 = nI ((5 * a + i) * 3 + 2) := nI_add _ 2
  have i0 : vp_in (nI ((5 * a + i) * 3)) 120 := vp_in_nI (by omega) (by decide)
  have i1 : vp_in (nI ((5 * a + i) * 3) + 1) 120 := by rw [e1]; exact vp_in_nI (by omega) (by decide)
  have i2 : vp_in (nI ((5 * a + i) * 3) + 2) 120 := by rw [e2]; exact vp_in_nI (by omega) (by decide)
  have v0 : ops (nI ((5 * a + i) * 3)).toNatClampNeg = ow (5 * a + i) := by rw [nI_clamp (by omega)]; exact g0
  have v1 : ops (nI ((5 * a + i) * 3) + 1).toNatClampNeg = oq (5 * a + i) := by rw [e1, nI_clamp (by omega)]; exact g1
  have v2 : ops (nI ((5 * a + i) * 3) + 2).toNatClampNeg = ox (5 * a + i) := by rw [e2, nI_clamp (by omega)]; exact g2
  have w0 : vp_in (nI (5 * a + i)) 40 := vp_in_nI (by omega) (by decide)
  have cn : ¬ nI N ≤ nI i := nI_ge hi (by omega)
  have u1 : oq (nI (5 * a + i)).toNatClampNeg = oq (5 * a + i) := by rw [nI_clamp (by omega)]
  have u2 : ox (nI (5 * a + i)).toNatClampNeg = ox (5 * a + i) := by rw [nI_clamp (by omega)]
  have u0 : ow (nI (5 * a + i)).toNatClampNeg = ow (5 * a + i) := by rw [nI_clamp (by omega)]
  refine ⟨da, ag, upd fv f (sd_pv (fw f) (65535 - nI (sd_fo (sd_fo (sd_Gn (sd_qq fw fv f x 4) (sd_tb fw x 0 4)))))), hv, rg, mt, sd_Fp hF hf2 _, fun post n hp => ?_, fun post hp => ?_⟩
  ·
    refine br_f cn (nm_r ek ⟨i1, nm_r (v1.trans hf) ⟨i2, nm_r (v2.trans hx) ⟨i0, nm_r (v0.trans hw) (br_f (by decide) (br_f (by decide) (br_f (by decide) (br_f (by decide) (br_f (by decide) (br_f (by decide) (br_f (by decide) (br_f (by decide) (br_f (by decide) (br_f (by decide) (br_f (by decide) (br_t rfl (?_)))))))))))))⟩⟩⟩)
    unfold wX_doAction_192
    rw [v0, hw]
    refine ⟨i0, br_f (by decide) (br_f (by decide) (br_f (by decide) (br_f (by decide) (br_f (by decide) (br_f (by decide) (br_f (by decide) (br_f (by decide) (br_f (by decide) (br_f (by decide) (br_f (by decide) (br_f (by decide) (br_t rfl (?_)))))))))))))⟩
    exact sx_sum hF hx2 hf2 (sx_put hf2 (nm_r (nI_1 i) hp))
  · refine ⟨w0, nm_r (u1.trans hf) ⟨w0, nm_r (u2.trans hx) ⟨w0, nm_r (u0.trans hw) (br_f (by decide) (br_f (by decide) (br_f (by decide) (br_f (by decide) (br_f (by decide) (br_f (by decide) (br_f (by decide) (br_f (by decide) (br_f (by decide) (br_f (by decide) (br_f (by decide) (br_f (by decide) (br_t rfl (?_))))))))))))))⟩⟩⟩
    unfold wY_operate_320
    rw [u0, hw]
    exact ⟨w0, br_t rfl (sy_sum hF hx2 hf2 (sy_put hf2 hp))⟩
theorem sd_o11 {a i N Z c f x : Nat} {p q : Int32} (hF : sd_F fw fv hv) (hO : sd_O ops opn ow oq ox) (hZ : Z ≤ 16) (hz : pz 49 = nI Z) (ha : a < 8) (hi : i < N) (hN : N ≤ 5) (hw : ow (5 * a + i) = nI 11) (hf : oq (5 * a + i) = nI f) (hf2 : f < 28) (hx : ox (5 * a + i) = nI x) (hx2 : x < 8) : ∃ (da' ag' : Int32) (fv' hv' rg' mt' : Nat → Int32), sd_F fw fv' hv' ∧ (∀ (post : SX → Prop) (n : Nat), wX_doAction_11 post (nI a) p q (nI N) n (nI (i + 1)) sc oc bt bb da' ag' lo tp sb sd tk fw fv' hv' sts ops opn rg' kf kk th ens mv mm sps ho pb pz rc mr md mt' gp qc qq qe lc tq → wX_doAction_11 post (nI a) p q (nI N) (n + 1) (nI i) sc oc bt bb da ag lo tp sb sd tk fw fv hv sts ops opn rg kf kk th ens mv mm sps ho pb pz rc mr md mt gp qc qq qe lc tq) ∧ (∀ post : SY → Prop, post (sc, oc, tl, (nI (8 * Z)), bt, ma, ol, tp, sb, sd, tk, da', ag', gl, fw, fv', hv', ta, lk, go, ca, cv, cm, cg, opn, ow, oq, ox, rg', sw, sa, sz, sg, ho, kf, kk, ra, ac, ea, eb, ch, th, mv, mm, ty, bi, mk, rc, mr, md, mt', gp, yb, le, qc, qe, qq, tq, lc, gt) → wpY_operate post (sc, oc, tl, (nI (8 * Z)), bt, ma, ol, tp, sb, sd, tk, da, ag, gl, fw, fv, hv, ta, lk, go, ca, cv, cm, cg, opn, ow, oq, ox, rg, sw, sa, sz, sg, ho, kf, kk, ra, ac, ea, eb, ch, th, mv, mm, ty, bi, mk, rc, mr, md, mt, gp, yb, le, qc, qe, qq, tq, lc, gt) (nI (5 * a + i)) p q) := by
  obtain ⟨g0, g1, g2, _⟩ := hO.2 (5 * a + i) (by omega)
  have ek : (nI a * 5 + nI i) * 3 = nI ((5 * a + i) * 3) := by
    have e1 : nI a * 5 + nI i = nI (5 * a + i) := (sd_ma a 5 i).trans (by rw [Nat.mul_comm])
    rw [e1]
    exact pk_mul _ 3
  have e1 : nI ((5 * a + i) * 3) + 1 = nI ((5 * a + i) * 3 + 1) := nI_add _ 1
  have e2 : nI ((5 * a + i) * 3) + 2 = nI ((5 * a + i) * 3 + 2) := nI_add _ 2
  have i0 : vp_in (nI ((5 * a + i) * 3)) 120 := vp_in_nI (by omega) (by decide)
  have i1 : vp_in (nI ((5 * a + i) * 3) + 1) 120 := by rw [e1]; exact vp_in_nI (by omega) (by decide)
  have i2 : vp_in (nI ((5 * a + i) * 3) + 2) 120 := by rw [e2]; exact vp_in_nI (by omega) (by decide)
  have v0 : ops (nI ((5 * a + i) * 3)).toNatClampNeg = ow (5 * a + i) := by rw [nI_clamp (by omega)]; exact g0
  have v1 : ops (nI ((5 * a + i) * 3) + 1).toNatClampNeg = oq (5 * a + i) := by rw [e1, nI_clamp (by omega)]; exact g1
  have v2 : ops (nI ((5 * a + i) * 3) + 2).toNatClampNeg = ox (5 * a + i) := by rw [e2, nI_clamp (by omega)]; exact g2
  have w0 : vp_in (nI (5 * a + i)) 40 := vp_in_nI (by omega) (by decide)
  have cn : ¬ nI N ≤ nI i := nI_ge hi (by omega)
  have u1 : oq (nI (5 * a + i)).toNatClampNeg = oq (5 * a + i) := by rw [nI_clamp (by omega)]
  have u2 : ox (nI (5 * a + i)).toNatClampNeg = ox (5 * a + i) := by rw [nI_clamp (by omega)]
  have u0 : ow (nI (5 * a + i)).toNatClampNeg = ow (5 * a + i) := by rw [nI_clamp (by omega)]
  refine ⟨da, ag, upd fv f (sd_pv (fw f) (rg x)), hv, rg, mt, sd_Fp hF hf2 _, fun post n hp => ?_, fun post hp => ?_⟩
  ·
    refine br_f cn (nm_r ek ⟨i1, nm_r (v1.trans hf) ⟨i2, nm_r (v2.trans hx) ⟨i0, nm_r (v0.trans hw) (br_f (by decide) (br_f (by decide) (br_f (by decide) (br_f (by decide) (br_f (by decide) (br_f (by decide) (br_f (by decide) (br_f (by decide) (br_f (by decide) (br_f (by decide) (br_f (by decide) (br_f (by decide) (br_t rfl (?_))))))))))))))⟩⟩⟩)
    unfold wX_doAction_192
    rw [v0, hw]
    refine ⟨i0, br_f (by decide) (br_f (by decide) (br_f (by decide) (br_f (by decide) (br_f (by decide) (br_f (by decide) (br_f (by decide) (br_f (by decide) (br_f (by decide) (br_f (by decide) (br_f (by decide) (br_f (by decide) (br_f (by decide) (br_t rfl (?_))))))))))))))⟩
    rw [nI_clamp (n := x) (by omega)]
    exact ⟨vp_in_nI (by omega) (by decide), nm_e (sx_put hf2 (nm_r (nI_1 i) hp))⟩
  · refine ⟨w0, nm_r (u1.trans hf) ⟨w0, nm_r (u2.trans hx) ⟨w0, nm_r (u0.trans hw) (br_f (by decide) (br_f (by decide) (br_f (by decide) (br_f (by decide) (br_f (by decide) (br_f (by decide) (br_f (by decide) (br_f (by decide) (br_f (by decide) (br_f (by decide) (br_f (by decide) (br_f (by decide) (br_f (by decide) (br_t rfl (?_)))))))))))))))⟩⟩⟩
    rw [nI_clamp (n := x) (by omega)]
    exact ⟨vp_in_nI (by omega) (by decide), sy_put hf2 hp⟩
theorem sd_o12 {a i N Z c f x : Nat} {p q : Int32} (hF : sd_F fw fv hv) (hO : sd_O ops opn ow oq ox) (hZ : Z ≤ 16) (hz : pz 49 = nI Z) (ha : a < 8) (hi : i < N) (hN : N ≤ 5) (hw : ow (5 * a + i) = nI 12) (hf : oq (5 * a + i) = nI f) (hf2 : f < 28) (hx : ox (5 * a + i) = nI x) (hx2 : x < 8) : ∃ (da' ag' : Int32) (fv' hv' rg' mt' : Nat → Int32), sd_F fw fv' hv' ∧ (∀ (post : SX → Prop) (n : Nat), wX_doAction_11 post (nI a) p q (nI N) n (nI (i + 1)) sc oc bt bb da' ag' lo tp sb sd tk fw fv' hv' sts ops opn rg' kf kk th ens mv mm sps ho pb pz rc mr md mt' gp qc qq qe lc tq → wX_doAction_11 post (nI a) p q (nI N) (n + 1) (nI i) sc oc bt bb da ag lo tp sb sd tk fw fv hv sts ops opn rg kf kk th ens mv mm sps ho pb pz rc mr md mt gp qc qq qe lc tq) ∧ (∀ post : SY → Prop, post (sc, oc, tl, (nI (8 * Z)), bt, ma, ol, tp, sb, sd, tk, da', ag', gl, fw, fv', hv', ta, lk, go, ca, cv, cm, cg, opn, ow, oq, ox, rg', sw, sa, sz, sg, ho, kf, kk, ra, ac, ea, eb, ch, th, mv, mm, ty, bi, mk, rc, mr, md, mt', gp, yb, le, qc, qe, qq, tq, lc, gt) → wpY_operate post (sc, oc, tl, (nI (8 * Z)), bt, ma, ol, tp, sb, sd, tk, da, ag, gl, fw, fv, hv, ta, lk, go, ca, cv, cm, cg, opn, ow, oq, ox, rg, sw, sa, sz, sg, ho, kf, kk, ra, ac, ea, eb, ch, th, mv, mm, ty, bi, mk, rc, mr, md, mt, gp, yb, le, qc, qe, qq, tq, lc, gt) (nI (5 * a + i)) p q) := by
  obtain ⟨g0, g1, g2, _⟩ := hO.2 (5 * a + i) (by omega)
  have ek : (nI a * 5 + nI i) * 3 = nI ((5 * a + i) * 3) := by
    have e1 : nI a * 5 + nI i = nI (5 * a + i) := (sd_ma a 5 i).trans (by rw [Nat.mul_comm])
    rw [e1]
    exact pk_mul _ 3
  have e1 : nI ((5 * a + i) * 3) + 1 = nI ((5 * a + i) * 3 + 1) := nI_add _ 1
  have e2 : nI ((5 * a + i) * 3) + 2 = nI ((5 * a + i) * 3 + 2) := nI_add _ 2
  have i0 : vp_in (nI ((5 * a + i) * 3)) 120 := vp_in_nI (by omega) (by decide)
  have i1 : vp_in (nI ((5 * a + i) * 3) + 1) 120 := by rw [e1]; exact vp_in_nI (by omega) (by decide)
  have i2 : vp_in (nI ((5 * a + i) * 3) + 2) 120 := by rw [e2]; exact vp_in_nI (by omega) (by decide)
  have v0 : ops (nI ((5 * a + i) * 3)).toNatClampNeg = ow (5 * a + i) := by rw [nI_clamp (by omega)]; exact g0
  have v1 : ops (nI ((5 * a + i) * 3) + 1).toNatClampNeg = oq (5 * a + i) := by rw [e1, nI_clamp (by omega)]; exact g1
  have v2 : ops (nI ((5 * a + i) * 3) + 2).toNatClampNeg = ox (5 * a + i) := by rw [e2, nI_clamp (by omega)]; exact g2
  have w0 : vp_in (nI (5 * a + i)) 40 := vp_in_nI (by omega) (by decide)
  have cn : ¬ nI N ≤ nI i := nI_ge hi (by omega)
  have u1 : oq (nI (5 * a + i)).toNatClampNeg = oq (5 * a + i) := by rw [nI_clamp (by omega)]
  have u2 : ox (nI (5 * a + i)).toNatClampNeg = ox (5 * a + i) := by rw [nI_clamp (by omega)]
  have u0 : ow (nI (5 * a + i)).toNatClampNeg = ow (5 * a + i) := by rw [nI_clamp (by omega)]
  refine ⟨da, ag, fv, hv, upd rg x (fv f), mt, hF, fun post n hp => ?_, fun post hp => ?_⟩
  · refine br_f cn (nm_r ek ⟨i1, nm_r (v1.trans hf) ⟨i2, nm_r (v2.trans hx) ⟨i0, nm_r (v0.trans hw) (br_f (by decide) (br_f (by decide) (br_f (by decide) (br_f (by decide) (br_f (by decide) (br_f (by decide) (br_f (by decide) (br_f (by decide) (br_f (by decide) (br_f (by decide) (br_f (by decide) (br_f (by decide) (br_f (by decide) (br_t rfl (?_)))))))))))))))⟩⟩⟩)
    rw [nI_clamp (n := f) (by omega)]
    exact ⟨vp_in_nI (by omega) (by decide), sd_st x rfl hx2 (by decide) (nm_r (nI_1 i) hp)⟩
  · refine ⟨w0, nm_r (u1.trans hf) ⟨w0, nm_r (u2.trans hx) ⟨w0, nm_r (u0.trans hw) (br_f (by decide) (br_f (by decide) (br_f (by decide) (br_f (by decide) (br_f (by decide) (br_f (by decide) (br_f (by decide) (br_f (by decide) (br_f (by decide) (br_f (by decide) (br_f (by decide) (br_f (by decide) (br_f (by decide) (br_f (by decide) (br_t rfl (?_))))))))))))))))⟩⟩⟩
    rw [nI_clamp (n := f) (by omega)]
    exact ⟨vp_in_nI (by omega) (by decide), sd_st x rfl hx2 (by decide) hp⟩
theorem sd_o13 {a i N Z c f x : Nat} {p q : Int32} (hF : sd_F fw fv hv) (hO : sd_O ops opn ow oq ox) (hZ : Z ≤ 16) (hz : pz 49 = nI Z) (ha : a < 8) (hi : i < N) (hN : N ≤ 5) (hw : ow (5 * a + i) = nI 13) (hf : oq (5 * a + i) = nI f) (hf2 : f < 28) (hx : ox (5 * a + i) = nI x) (hx2 : x < 8) : ∃ (da' ag' : Int32) (fv' hv' rg' mt' : Nat → Int32), sd_F fw fv' hv' ∧ (∀ (post : SX → Prop) (n : Nat), wX_doAction_11 post (nI a) p q (nI N) n (nI (i + 1)) sc oc bt bb da' ag' lo tp sb sd tk fw fv' hv' sts ops opn rg' kf kk th ens mv mm sps ho pb pz rc mr md mt' gp qc qq qe lc tq → wX_doAction_11 post (nI a) p q (nI N) (n + 1) (nI i) sc oc bt bb da ag lo tp sb sd tk fw fv hv sts ops opn rg kf kk th ens mv mm sps ho pb pz rc mr md mt gp qc qq qe lc tq) ∧ (∀ post : SY → Prop, post (sc, oc, tl, (nI (8 * Z)), bt, ma, ol, tp, sb, sd, tk, da', ag', gl, fw, fv', hv', ta, lk, go, ca, cv, cm, cg, opn, ow, oq, ox, rg', sw, sa, sz, sg, ho, kf, kk, ra, ac, ea, eb, ch, th, mv, mm, ty, bi, mk, rc, mr, md, mt', gp, yb, le, qc, qe, qq, tq, lc, gt) → wpY_operate post (sc, oc, tl, (nI (8 * Z)), bt, ma, ol, tp, sb, sd, tk, da, ag, gl, fw, fv, hv, ta, lk, go, ca, cv, cm, cg, opn, ow, oq, ox, rg, sw, sa, sz, sg, ho, kf, kk, ra, ac, ea, eb, ch, th, mv, mm, ty, bi, mk, rc, mr, md, mt, gp, yb, le, qc, qe, qq, tq, lc, gt) (nI (5 * a + i)) p q) := by
  obtain ⟨g0, g1, g2, _⟩ := hO.2 (5 * a + i) (by omega)
  have ek : (nI a * 5 + nI i) * 3 = nI ((5 * a + i) * 3) := by
    have e1 : nI a * 5 + nI i = nI (5 * a + i) := (sd_ma a 5 i).trans (by rw [Nat.mul_comm])
    rw [e1]
    exact pk_mul _ 3
  have e1 : nI ((5 * a + i) * 3) + 1 = nI ((5 * a + i) * 3 + 1) := nI_add _ 1
  have e2 : nI ((5 * a + i) * 3) + 2 = nI ((5 * a + i) * 3 + 2) := nI_add _ 2
  have i0 : vp_in (nI ((5 * a + i) * 3)) 120 := vp_in_nI (by omega) (by decide)
  have i1 : vp_in (nI ((5 * a + i) * 3) + 1) 120 := by rw [e1]; exact vp_in_nI (by omega) (by decide)
  have i2 : vp_in (nI ((5 * a + i) * 3) + 2) 120 := by rw [e2]; exact vp_in_nI (by omega) (by decide)
  have v0 : ops (nI ((5 * a + i) * 3)).toNatClampNeg = ow (5 * a + i) := by rw [nI_clamp (by omega)]; exact g0
  have v1 : ops (nI ((5 * a + i) * 3) + 1).toNatClampNeg = oq (5 * a + i) := by rw [e1, nI_clamp (by omega)]; exact g1
  have v2 : ops (nI ((5 * a + i) * 3) + 2).toNatClampNeg = ox (5 * a + i) := by rw [e2, nI_clamp (by omega)]; exact g2
  have w0 : vp_in (nI (5 * a + i)) 40 := vp_in_nI (by omega) (by decide)
  have cn : ¬ nI N ≤ nI i := nI_ge hi (by omega)
  have u1 : oq (nI (5 * a + i)).toNatClampNeg = oq (5 * a + i) := by rw [nI_clamp (by omega)]
  have u2 : ox (nI (5 * a + i)).toNatClampNeg = ox (5 * a + i) := by rw [nI_clamp (by omega)]
  have u0 : ow (nI (5 * a + i)).toNatClampNeg = ow (5 * a + i) := by rw [nI_clamp (by omega)]
  refine ⟨da, ag, upd fv f (sd_pv (fw f) (upd rg x ((rg x + fv f) &&& 65535) x)), hv, upd rg x ((rg x + fv f) &&& 65535), mt, sd_Fp hF hf2 _, fun post n hp => ?_, fun post hp => ?_⟩
  ·
    refine br_f cn (nm_r ek ⟨i1, nm_r (v1.trans hf) ⟨i2, nm_r (v2.trans hx) ⟨i0, nm_r (v0.trans hw) (br_f (by decide) (br_t (by decide) (?_)))⟩⟩⟩)
    unfold wX_doAction_192
    rw [v0, hw]
    refine ⟨i0, br_f (by decide) (br_f (by decide) (br_f (by decide) (br_f (by decide) (br_f (by decide) (br_f (by decide) (br_f (by decide) (br_f (by decide) (br_f (by decide) (br_f (by decide) (br_f (by decide) (br_f (by decide) (br_f (by decide) (br_f (by decide) (br_f (by decide) (br_t rfl (?_))))))))))))))))⟩
    rw [nI_clamp (n := x) (by omega), nI_clamp (n := f) (by omega)]
    exact ⟨vp_in_nI (by omega) (by decide), vp_in_nI (by omega) (by decide), vp_in_nI (by omega) (by decide), nm_e ⟨vp_in_nI (by omega) (by decide), nm_e (sx_put hf2 (nm_r (nI_1 i) hp))⟩⟩
  · refine ⟨w0, nm_r (u1.trans hf) ⟨w0, nm_r (u2.trans hx) ⟨w0, nm_r (u0.trans hw) (br_f (by decide) (br_f (by decide) (br_f (by decide) (br_f (by decide) (br_f (by decide) (br_f (by decide) (br_f (by decide) (br_f (by decide) (br_f (by decide) (br_f (by decide) (br_f (by decide) (br_f (by decide) (br_f (by decide) (br_f (by decide) (br_f (by decide) (br_t rfl (?_)))))))))))))))))⟩⟩⟩
    rw [nI_clamp (n := x) (by omega), nI_clamp (n := f) (by omega)]
    exact ⟨vp_in_nI (by omega) (by decide), vp_in_nI (by omega) (by decide), vp_in_nI (by omega) (by decide), nm_e ⟨vp_in_nI (by omega) (by decide), sy_put hf2 hp⟩⟩
theorem sd_o14 {a i N Z c f x : Nat} {p q : Int32} (hF : sd_F fw fv hv) (hO : sd_O ops opn ow oq ox) (hZ : Z ≤ 16) (hz : pz 49 = nI Z) (ha : a < 8) (hi : i < N) (hN : N ≤ 5) (hw : ow (5 * a + i) = nI 14) (hf : oq (5 * a + i) = nI f) (hf2 : f < 28) (hx : ox (5 * a + i) = nI x) (hx2 : x < 4) : ∃ (da' ag' : Int32) (fv' hv' rg' mt' : Nat → Int32), sd_F fw fv' hv' ∧ (∀ (post : SX → Prop) (n : Nat), wX_doAction_11 post (nI a) p q (nI N) n (nI (i + 1)) sc oc bt bb da' ag' lo tp sb sd tk fw fv' hv' sts ops opn rg' kf kk th ens mv mm sps ho pb pz rc mr md mt' gp qc qq qe lc tq → wX_doAction_11 post (nI a) p q (nI N) (n + 1) (nI i) sc oc bt bb da ag lo tp sb sd tk fw fv hv sts ops opn rg kf kk th ens mv mm sps ho pb pz rc mr md mt gp qc qq qe lc tq) ∧ (∀ post : SY → Prop, post (sc, oc, tl, (nI (8 * Z)), bt, ma, ol, tp, sb, sd, tk, da', ag', gl, fw, fv', hv', ta, lk, go, ca, cv, cm, cg, opn, ow, oq, ox, rg', sw, sa, sz, sg, ho, kf, kk, ra, ac, ea, eb, ch, th, mv, mm, ty, bi, mk, rc, mr, md, mt', gp, yb, le, qc, qe, qq, tq, lc, gt) → wpY_operate post (sc, oc, tl, (nI (8 * Z)), bt, ma, ol, tp, sb, sd, tk, da, ag, gl, fw, fv, hv, ta, lk, go, ca, cv, cm, cg, opn, ow, oq, ox, rg, sw, sa, sz, sg, ho, kf, kk, ra, ac, ea, eb, ch, th, mv, mm, ty, bi, mk, rc, mr, md, mt, gp, yb, le, qc, qe, qq, tq, lc, gt) (nI (5 * a + i)) p q) := by
  obtain ⟨g0, g1, g2, _⟩ := hO.2 (5 * a + i) (by omega)
  have ek : (nI a * 5 + nI i) * 3 = nI ((5 * a + i) * 3) := by
    have e1 : nI a * 5 + nI i = nI (5 * a + i) := (sd_ma a 5 i).trans (by rw [Nat.mul_comm])
    rw [e1]
    exact pk_mul _ 3
  have e1 : nI ((5 * a + i) * 3) + 1 = nI ((5 * a + i) * 3 + 1) := nI_add _ 1
  have e2 : nI ((5 * a + i) * 3) + 2 = nI ((5 * a + i) * 3 + 2) := nI_add _ 2
  have i0 : vp_in (nI ((5 * a + i) * 3)) 120 := vp_in_nI (by omega) (by decide)
  have i1 : vp_in (nI ((5 * a + i) * 3) + 1) 120 := by rw [e1]; exact vp_in_nI (by omega) (by decide)
  have i2 : vp_in (nI ((5 * a + i) * 3) + 2) 120 := by rw [e2]; exact vp_in_nI (by omega) (by decide)
  have v0 : ops (nI ((5 * a + i) * 3)).toNatClampNeg = ow (5 * a + i) := by rw [nI_clamp (by omega)]; exact g0
  have v1 : ops (nI ((5 * a + i) * 3) + 1).toNatClampNeg = oq (5 * a + i) := by rw [e1, nI_clamp (by omega)]; exact g1
  have v2 : ops (nI ((5 * a + i) * 3) + 2).toNatClampNeg = ox (5 * a + i) := by rw [e2, nI_clamp (by omega)]; exact g2
  have w0 : vp_in (nI (5 * a + i)) 40 := vp_in_nI (by omega) (by decide)
  have cn : ¬ nI N ≤ nI i := nI_ge hi (by omega)
  have u1 : oq (nI (5 * a + i)).toNatClampNeg = oq (5 * a + i) := by rw [nI_clamp (by omega)]
  have u2 : ox (nI (5 * a + i)).toNatClampNeg = ox (5 * a + i) := by rw [nI_clamp (by omega)]
  have u0 : ow (nI (5 * a + i)).toNatClampNeg = ow (5 * a + i) := by rw [nI_clamp (by omega)]
  by_cases z : nI Z ≤ mt x
  · refine ⟨da, ag, upd fv f (sd_pv (fw f) 0), hv, rg, upd mt x (mt x - nI Z), sd_Fp hF hf2 _, fun post n hp => ?_, fun post hp => ?_⟩
    · refine br_f cn (nm_r ek ⟨i1, nm_r (v1.trans hf) ⟨i2, nm_r (v2.trans hx) ⟨i0, nm_r (v0.trans hw) (br_f (by decide) (br_t (by decide) (?_)))⟩⟩⟩)
      unfold wX_doAction_192
      rw [v0, hw]
      refine ⟨i0, br_f (by decide) (br_t (by decide) (sx_meas hx2 hz (fun _ => sx_put hf2 (nm_r (nI_1 i) hp)) (fun y => absurd z y)))⟩
    · refine ⟨w0, nm_r (u1.trans hf) ⟨w0, nm_r (u2.trans hx) ⟨w0, nm_r (u0.trans hw) (br_f (by decide) (br_t (by decide) (?_)))⟩⟩⟩
      unfold wY_operate_320
      rw [u0, hw]
      exact ⟨w0, br_f (by decide) (sy_meas hx2 hZ (fun _ => sy_put hf2 hp) (fun y => absurd z y))⟩
  · refine ⟨da, ag, upd fv f (sd_pv (fw f) 1), hv, rg, mt, sd_Fp hF hf2 _, fun post n hp => ?_, fun post hp => ?_⟩
    · refine br_f cn (nm_r ek ⟨i1, nm_r (v1.trans hf) ⟨i2, nm_r (v2.trans hx) ⟨i0, nm_r (v0.trans hw) (br_f (by decide) (br_t (by decide) (?_)))⟩⟩⟩)
      unfold wX_doAction_192
      rw [v0, hw]
      refine ⟨i0, br_f (by decide) (br_t (by decide) (sx_meas hx2 hz (fun y => absurd y z) (fun _ => sx_put hf2 (nm_r (nI_1 i) hp))))⟩
    · refine ⟨w0, nm_r (u1.trans hf) ⟨w0, nm_r (u2.trans hx) ⟨w0, nm_r (u0.trans hw) (br_f (by decide) (br_t (by decide) (?_)))⟩⟩⟩
      unfold wY_operate_320
      rw [u0, hw]
      exact ⟨w0, br_f (by decide) (sy_meas hx2 hZ (fun y => absurd y z) (fun _ => sy_put hf2 hp))⟩
theorem sd_o {a i N Z : Nat} {p q : Int32} (hF : sd_F fw fv hv) (hO : sd_O ops opn ow oq ox) (hZ : Z ≤ 16) (hz : pz 49 = nI Z) (ha : a < 8) (hi : i < N) (hN : N ≤ 5) : ∃ (da' ag' : Int32) (fv' hv' rg' mt' : Nat → Int32), sd_F fw fv' hv' ∧ (∀ (post : SX → Prop) (n : Nat), wX_doAction_11 post (nI a) p q (nI N) n (nI (i + 1)) sc oc bt bb da' ag' lo tp sb sd tk fw fv' hv' sts ops opn rg' kf kk th ens mv mm sps ho pb pz rc mr md mt' gp qc qq qe lc tq → wX_doAction_11 post (nI a) p q (nI N) (n + 1) (nI i) sc oc bt bb da ag lo tp sb sd tk fw fv hv sts ops opn rg kf kk th ens mv mm sps ho pb pz rc mr md mt gp qc qq qe lc tq) ∧ (∀ post : SY → Prop, post (sc, oc, tl, (nI (8 * Z)), bt, ma, ol, tp, sb, sd, tk, da', ag', gl, fw, fv', hv', ta, lk, go, ca, cv, cm, cg, opn, ow, oq, ox, rg', sw, sa, sz, sg, ho, kf, kk, ra, ac, ea, eb, ch, th, mv, mm, ty, bi, mk, rc, mr, md, mt', gp, yb, le, qc, qe, qq, tq, lc, gt) → wpY_operate post (sc, oc, tl, (nI (8 * Z)), bt, ma, ol, tp, sb, sd, tk, da, ag, gl, fw, fv, hv, ta, lk, go, ca, cv, cm, cg, opn, ow, oq, ox, rg, sw, sa, sz, sg, ho, kf, kk, ra, ac, ea, eb, ch, th, mv, mm, ty, bi, mk, rc, mr, md, mt, gp, yb, le, qc, qe, qq, tq, lc, gt) (nI (5 * a + i)) p q) := by
  obtain ⟨n, h1, hw, h2, h3, h4, h5, h6, h7⟩ := (hO.2 (5 * a + i) (by omega)).2.2.2
  have : n = 0 ∨ n = 1 ∨ n = 2 ∨ n = 3 ∨ n = 4 ∨ n = 5 ∨ n = 6 ∨ n = 7 ∨ n = 8 ∨ n = 9 ∨ n = 10 ∨ n = 11 ∨ n = 12 ∨ n = 13 ∨ n = 14 := by omega
  rcases this with rfl | rfl | rfl | rfl | rfl | rfl | rfl | rfl | rfl | rfl | rfl | rfl | rfl | rfl | rfl
  · obtain ⟨f, hf2, hf⟩ := h2 (by omega)
    exact sd_o0 (c := 0) (x := 0) hF hO hZ hz ha hi hN hw hf hf2
  · obtain ⟨f, hf2, hf⟩ := h2 (by omega)
    exact sd_o1 (c := 0) (x := 0) hF hO hZ hz ha hi hN hw hf hf2
  · obtain ⟨f, hf2, hf⟩ := h2 (by omega)
    obtain ⟨x, hx2, hx⟩ := h4 (by omega)
    exact sd_o2 (c := 0) hF hO hZ hz ha hi hN hw hf hf2 hx hx2
  · obtain ⟨f, hf2, hf⟩ := h2 (by omega)
    obtain ⟨x, hx2, hx⟩ := h4 (by omega)
    exact sd_o3 (c := 0) hF hO hZ hz ha hi hN hw hf hf2 hx hx2
  · obtain ⟨f, hf2, hf⟩ := h2 (by omega)
    obtain ⟨x, hx2, hx⟩ := h4 (by omega)
    exact sd_o4 (c := 0) hF hO hZ hz ha hi hN hw hf hf2 hx hx2
  · obtain ⟨f, hf2, hf⟩ := h2 (by omega)
    obtain ⟨x, hx2, hx⟩ := h4 (by omega)
    exact sd_o5 (c := 0) hF hO hZ hz ha hi hN hw hf hf2 hx hx2
  · obtain ⟨f, hf2, hf⟩ := h3 (by omega)
    exact sd_o6 (c := 0) (x := 0) hF hO hZ hz ha hi hN hw hf hf2
  · obtain ⟨f, hf2, hf⟩ := h3 (by omega)
    exact sd_o7 (c := 0) (x := 0) hF hO hZ hz ha hi hN hw hf hf2
  · exact sd_o8 (c := 0) (f := 0) (x := 0) hF hO hZ hz ha hi hN hw
  · exact sd_o9 (c := 0) (f := 0) (x := 0) hF hO hZ hz ha hi hN hw
  · obtain ⟨f, hf2, hf⟩ := h2 (by omega)
    obtain ⟨x, hx2, hx⟩ := h5 (by omega)
    exact sd_o10 (c := 0) hF hO hZ hz ha hi hN hw hf hf2 hx hx2
  · obtain ⟨f, hf2, hf⟩ := h2 (by omega)
    obtain ⟨x, hx2, hx⟩ := h6 (by omega)
    exact sd_o11 (c := 0) hF hO hZ hz ha hi hN hw hf hf2 hx hx2
  · obtain ⟨f, hf2, hf⟩ := h2 (by omega)
    obtain ⟨x, hx2, hx⟩ := h6 (by omega)
    exact sd_o12 (c := 0) hF hO hZ hz ha hi hN hw hf hf2 hx hx2
  · obtain ⟨f, hf2, hf⟩ := h2 (by omega)
    obtain ⟨x, hx2, hx⟩ := h6 (by omega)
    exact sd_o13 (c := 0) hF hO hZ hz ha hi hN hw hf hf2 hx hx2
  · obtain ⟨f, hf2, hf⟩ := h2 (by omega)
    obtain ⟨x, hx2, hx⟩ := h7 (by omega)
    exact sd_o14 (c := 0) hF hO hZ hz ha hi hN hw hf hf2 hx hx2
/-- an action, both sides at once -/
theorem sd_act {a N Z : Nat} {p q : Int32} (hO : sd_O ops opn ow oq ox) (hZ : Z ≤ 16) (hz : pz 49 = nI Z) (ha : a < 8) (hN : N ≤ 5) (hn : opn a = nI N) :
    ∀ (d i : Nat) (da ag : Int32) (fv hv rg mt : Nat → Int32), i + d = N → sd_F fw fv hv →
    ∃ (da' ag' : Int32) (fv' hv' rg' mt' : Nat → Int32), sd_F fw fv' hv' ∧ (∀ post : SX → Prop, post (sc, oc, bt, bb, da', ag', lo, tp, sb, sd, tk, fw, fv', hv', sts, ops, opn, rg', kf, kk, th, ens, mv, mm, sps, ho, pb, pz, rc, mr, md, mt', gp, qc, qq, qe, lc, tq) → wX_doAction_11 post (nI a) p q (nI N) (d + 1) (nI i) sc oc bt bb da ag lo tp sb sd tk fw fv hv sts ops opn rg kf kk th ens mv mm sps ho pb pz rc mr md mt gp qc qq qe lc tq) ∧ (∀ post : SY → Prop, post (sc, oc, tl, (nI (8 * Z)), bt, ma, ol, tp, sb, sd, tk, da', ag', gl, fw, fv', hv', ta, lk, go, ca, cv, cm, cg, opn, ow, oq, ox, rg', sw, sa, sz, sg, ho, kf, kk, ra, ac, ea, eb, ch, th, mv, mm, ty, bi, mk, rc, mr, md, mt', gp, yb, le, qc, qe, qq, tq, lc, gt) → wY_act_5 post (nI a) p q (d + 1) (nI (5 * a + i)) sc oc tl (nI (8 * Z)) bt ma ol tp sb sd tk da ag gl fw fv hv ta lk go ca cv cm cg opn ow oq ox rg sw sa sz sg ho kf kk ra ac ea eb ch th mv mm ty bi mk rc mr md mt gp yb le qc qe qq tq lc gt) := by
  have e5 : 5 * nI a + nI N = nI (5 * a + N) := sd_am a 5 N
  intro d
  induction d with
  | zero =>
    intro i da ag fv hv rg mt hi hF
    have : i = N := by omega
    subst this
    refine ⟨da, ag, fv, hv, rg, mt, hF, fun post hp => br_t (nI_le (Nat.le_refl _) (by omega)) hp, fun post hp => ⟨vp_in_nI ha (by decide), ?_⟩⟩
    rw [nI_clamp (n := a) (by omega), hn, e5]
    exact br_t (nI_le (Nat.le_refl _) (by omega)) hp
  | succ d ih =>
    intro i da ag fv hv rg mt hi hF
    obtain ⟨da1, ag1, fv1, hv1, rg1, mt1, k1, k2, k3⟩ := sd_o (sc := sc) (oc := oc) (bt := bt) (bb := bb) (da := da) (ag := ag) (lo := lo) (tp := tp) (sb := sb) (sd := sd) (tk := tk) (fw := fw) (fv := fv) (hv := hv) (sts := sts) (ops := ops) (opn := opn) (rg := rg) (kf := kf) (kk := kk) (th := th) (ens := ens) (mv := mv) (mm := mm) (sps := sps) (ho := ho) (pb := pb) (pz := pz) (rc := rc) (mr := mr) (md := md) (mt := mt) (gp := gp) (qc := qc) (qq := qq) (qe := qe) (lc := lc) (tq := tq) (tl := tl) (ma := ma) (ol := ol) (gl := gl) (ta := ta) (lk := lk) (go := go) (ca := ca) (cv := cv) (cm := cm) (cg := cg) (ow := ow) (oq := oq) (ox := ox) (sw := sw) (sa := sa) (sz := sz) (sg := sg) (ra := ra) (ac := ac) (ea := ea) (eb := eb) (ch := ch) (ty := ty) (bi := bi) (mk := mk) (yb := yb) (le := le) (gt := gt) (p := p) (q := q) hF hO hZ hz ha (show i < N by omega) hN
    obtain ⟨da2, ag2, fv2, hv2, rg2, mt2, j1, j2, j3⟩ := ih (i + 1) da1 ag1 fv1 hv1 rg1 mt1 (by omega) k1
    refine ⟨da2, ag2, fv2, hv2, rg2, mt2, j1, fun post hp => k2 post (d + 1) (j2 post hp), fun post hp => ⟨vp_in_nI ha (by decide), ?_⟩⟩
    rw [nI_clamp (n := a) (by omega), hn, e5]
    exact br_f (nI_ge (by omega) (by omega)) (k3 _ (nm_r (nI_1 _) (j3 post hp)))
end
end
section
section
variable {sc oc bt bb da ag lo tp sb sd tk : Int32} {fw fv hv sts ops opn rg kf kk th ens mv mm sps ho pb pz rc mr md mt gp qc qq qe lc tq : Nat → Int32} {tl tt ma ol dr ay gl : Int32} {ta lk go ca cv cm cg ow oq ox sw sa sz sg ra ac ea eb ch ty bi mk yb le gt : Nat → Int32}
def sd_on (w m : Int32) : Int32 := if m ≤ w then m else w
theorem sd_onE (w m : Int32) : sd_on w m = if w ≤ m then w else m := by
  unfold sd_on
  by_cases a : m ≤ w
  · by_cases b : w ≤ m
    · rw [if_pos a, if_pos b]; exact Int32.le_antisymm a b
    · rw [if_pos a, if_neg b]
  · have b : w ≤ m := Int32.le_of_lt (Int32.not_le.mp a)
    rw [if_neg a, if_pos b]
def sd_ms (k w m : Int32) : Int32 := if k = 2 then m else if k = 1 then (((1 : Int32) <<< (sd_on w m &&& 31)) - 1) <<< ((w - sd_on w m) &&& 31) else 65535
def sd_ok (kf kk fw fv mv mm : Nat → Int32) (t x c : Nat) : Prop :=
  kf (2 * t + c) = -1 ∨ (fv (kf (2 * t + c)).toNatClampNeg ^^^ mv (2 * x + c)) &&& sd_ms (kk (2 * t + c)) (fw (kf (2 * t + c)).toNatClampNeg) (mm (2 * x + c)) = 0
def sd_ln (kf kk fw mm : Nat → Int32) (t x c : Nat) : Int32 :=
  if kf (2 * t + c) = -1 then 0 else if kk (2 * t + c) = 1 then sd_on (fw (kf (2 * t + c)).toNatClampNeg) (mm (2 * x + c)) else 0
theorem sd_kfr (hE : sd_E kf kk th ens mm ra ac ea eb ch) {t c : Nat} (ht : t < 4) (hc : c < 2) : kf (2 * t + c) = -1 ∨ sd_rg 28 (kf (2 * t + c)) := by
  have : c = 0 ∨ c = 1 := by omega
  rcases this with rfl | rfl
  · exact Or.inr (hE.1 t ht).1
  · exact (hE.1 t ht).2
theorem sd_2x (x c : Nat) : nI x * 2 + nI c = nI (2 * x + c) := (sd_ma x 2 c).trans (by rw [Nat.mul_comm])
theorem sd_2y (x c : Nat) : 2 * nI x + nI c = nI (2 * x + c) := sd_am x 2 c
/-- X: behind the mask -/
theorem sx_p141 {post : Int32 → Prop} {J : Int32 → Int32 → Prop} {x1 s m : Int32} {x c f : Nat} (hx : x < 52) (hc : c < 2) (hf : f < 28) (h1 : (fv f ^^^ mv (2 * x + c)) &&& m = 0 → J s (nI (c + 1))) (h0 : ¬ (fv f ^^^ mv (2 * x + c)) &&& m = 0 → post (-1)) : wX_prefixOnesIfFits_141 post J x1 (nI x) s (nI c) (nI f) m sc oc bt bb da ag lo tp sb sd tk fw fv hv sts ops opn rg kf kk th ens mv mm sps ho pb pz rc mr md mt gp qc qq qe lc tq := by
  refine ⟨vp_in_nI hf (by decide), ?_⟩
  rw [sd_2x, nI_clamp (n := f) (by omega), nI_clamp (n := 2 * x + c) (by omega)]
  exact ⟨vp_in_nI (by omega) (by decide), br_c (fun z => sd_w1 (nm_r (nI_1 c) (h1 z))) (fun z => sd_w0 (h0 z))⟩
theorem sx_pf1 {post : Int32 → Prop} (hE : sd_E kf kk th ens mm ra ac ea eb ch) {t x c n : Nat} {s : Int32} (ht : t < 4) (hx : x < 52) (hc : c < 2)
    (h1 : sd_ok kf kk fw fv mv mm t x c → wX_prefixOnesIfFits_5 post (nI t) (nI x) sc oc bt bb da ag lo tp sb sd tk fw fv hv sts ops opn rg kf kk th ens mv mm sps ho pb pz rc mr md mt gp qc qq qe lc tq n (s + sd_ln kf kk fw mm t x c) (nI (c + 1))) (h0 : ¬ sd_ok kf kk fw fv mv mm t x c → post (-1)) : wX_prefixOnesIfFits_5 post (nI t) (nI x) sc oc bt bb da ag lo tp sb sd tk fw fv hv sts ops opn rg kf kk th ens mv mm sps ho pb pz rc mr md mt gp qc qq qe lc tq (n + 1) s (nI c) := by
  have kr := sd_kfr hE ht hc
  obtain ⟨kd, hkd, ek⟩ := hE.2.1 (2 * t + c) (by omega)
  unfold sd_ok sd_ln at h1
  unfold sd_ok at h0
  refine br_f (nI_ge (b := 2) hc (by decide)) ?_
  rw [sd_2x, sd_2x, nI_clamp (n := 2 * t + c) (by omega), nI_clamp (n := 2 * x + c) (by omega)]
  refine ⟨vp_in_nI (by omega) (by decide), nm_e ⟨vp_in_nI (by omega) (by decide), nm_e ?_⟩⟩
  rcases kr with kr | ⟨f, hf, kr⟩
  · refine br_t kr (nm_r (nI_1 c) ?_)
    have g := h1 (Or.inl kr)
    rw [if_pos kr, Int32.add_zero] at g
    exact g
  · have nk : ¬ kf (2 * t + c) = -1 := by rw [kr]; exact sd_ne (by omega)
    rw [if_neg nk, kr, nI_clamp (n := f) (by omega)] at h1
    rw [kr, nI_clamp (n := f) (by omega)] at h0
    have : kd = 0 ∨ kd = 1 ∨ kd = 2 := by omega
    refine br_f nk ?_
    rw [kr, nI_clamp (n := f) (by omega)]
    rcases this with rfl | rfl | rfl
    · have m0 : sd_ms (kk (2 * t + c)) (fw f) (mm (2 * x + c)) = 65535 := by rw [ek]; rfl
      rw [m0] at h1 h0
      have n1 : ¬ kk (2 * t + c) = 1 := by rw [ek]; decide
      have n2 : ¬ kk (2 * t + c) = 2 := by rw [ek]; decide
      rw [if_neg n1, Int32.add_zero] at h1
      exact br_f n2 (br_f n1 (sx_p141 hx hc hf (fun z => h1 (Or.inr z)) (fun z => h0 (fun y => y.elim (fun y => sd_ne (by omega) y) z))))
    · have m1 : sd_ms (kk (2 * t + c)) (fw f) (mm (2 * x + c)) = (((1 : Int32) <<< (sd_on (fw f) (mm (2 * x + c)) &&& 31)) - 1) <<< ((fw f - sd_on (fw f) (mm (2 * x + c))) &&& 31) := by rw [ek]; rfl
      rw [m1] at h1 h0
      have n1 : kk (2 * t + c) = 1 := ek
      have n2 : ¬ kk (2 * t + c) = 2 := by rw [ek]; decide
      rw [if_pos n1] at h1
      refine br_f n2 (br_t n1 ⟨vp_in_nI (by omega) (by decide), nm_e ⟨vp_in_nI hf (by decide), ?_⟩⟩)
      have tail : ∀ o : Int32, sd_on (fw f) (mm (2 * x + c)) = o → wX_prefixOnesIfFits_115 post (wX_prefixOnesIfFits_5 post (nI t) (nI x) sc oc bt bb da ag lo tp sb sd tk fw fv hv sts ops opn rg kf kk th ens mv mm sps ho pb pz rc mr md mt gp qc qq qe lc tq n) (nI t) (nI x) s (nI c) (nI f) o sc oc bt bb da ag lo tp sb sd tk fw fv hv sts ops opn rg kf kk th ens mv mm sps ho pb pz rc mr md mt gp qc qq qe lc tq := by
        intro o ho
        refine ⟨vp_in_nI hf (by decide), ?_⟩
        rw [nI_clamp (n := f) (by omega)]
        rw [ho] at h1 h0
        exact nm_e (nm_e (sx_p141 hx hc hf (fun z => h1 (Or.inr z)) (fun z => h0 (fun y => y.elim (fun y => sd_ne (by omega) y) z))))
      refine br_c (fun z => tail _ ?_) (fun z => ⟨vp_in_nI hf (by decide), tail _ ?_⟩)
      · unfold sd_on; rw [if_pos z]
      · unfold sd_on; rw [if_neg z]
    · have m2 : sd_ms (kk (2 * t + c)) (fw f) (mm (2 * x + c)) = mm (2 * x + c) := by rw [ek]; rfl
      rw [m2] at h1 h0
      have n1 : ¬ kk (2 * t + c) = 1 := by rw [ek]; decide
      have n2 : kk (2 * t + c) = 2 := ek
      rw [if_neg n1, Int32.add_zero] at h1
      exact br_t n2 ⟨vp_in_nI (by omega) (by decide), nm_e (sx_p141 hx hc hf (fun z => h1 (Or.inr z)) (fun z => h0 (fun y => y.elim (fun y => sd_ne (by omega) y) z)))⟩
theorem sx_pf {post : Int32 → Prop} (hE : sd_E kf kk th ens mm ra ac ea eb ch) {t x : Nat} (ht : t < 4) (hx : x < 52) (h1 : sd_ok kf kk fw fv mv mm t x 0 → sd_ok kf kk fw fv mv mm t x 1 → post (sd_ln kf kk fw mm t x 0 + sd_ln kf kk fw mm t x 1)) (h0 : ¬ (sd_ok kf kk fw fv mv mm t x 0 ∧ sd_ok kf kk fw fv mv mm t x 1) → post (-1)) : wpX_prefixOnesIfFits post (sc, oc, bt, bb, da, ag, lo, tp, sb, sd, tk, fw, fv, hv, sts, ops, opn, rg, kf, kk, th, ens, mv, mm, sps, ho, pb, pz, rc, mr, md, mt, gp, qc, qq, qe, lc, tq) (nI t) (nI x) := by
  refine ⟨3, sx_pf1 (c := 0) hE ht hx (by omega) (fun a => ?_) (fun a => h0 (fun z => a z.1))⟩
  rw [Int32.zero_add]
  exact sx_pf1 (c := 1) hE ht hx (by omega) (fun b => br_t (by decide) (h1 a b)) (fun b => h0 (fun z => b z.2))
/-- Y: ones and the mask -/
theorem sy_ones {post : Int32 → Prop} {j y f : Nat} (hj : j < 8) (hy : y < 104) (hf : f < 28) (hk : kf j = nI f) (h : post (sd_on (fw f) (mm y))) : wpY_ones post (sc, oc, tl, tt, bt, ma, ol, tp, sb, sd, tk, dr, ay, gl, fw, fv, hv, ta, lk, go, ca, cv, cm, cg, opn, ow, oq, ox, rg, sw, sa, sz, sg, ho, kf, kk, ra, ac, ea, eb, ch, th, mv, mm, ty, bi, mk, rc, mr, md, mt, gp, yb, le, qc, qe, qq, tq, lc, gt) (nI j) (nI y) := by
  refine ⟨vp_in_nI hj (by decide), ?_⟩
  rw [nI_clamp (n := j) (by omega), hk, nI_clamp (n := f) (by omega), nI_clamp (n := y) (by omega)]
  rw [sd_onE] at h
  refine ⟨vp_in_nI hf (by decide), nm_e ⟨vp_in_nI hy (by decide), br_c (fun z => ?_) (fun z => ⟨vp_in_nI hy (by decide), ?_⟩)⟩⟩
  · rw [if_pos z] at h; exact h
  · rw [if_neg z] at h; exact h
theorem sy_mask {post : Int32 → Prop} {j y f : Nat} (hj : j < 8) (hy : y < 104) (hf : f < 28) (hk : kf j = nI f) (hkk : sd_rg 3 (kk j)) (h : post (sd_ms (kk j) (fw f) (mm y))) : wpY_maskOf post (sc, oc, tl, tt, bt, ma, ol, tp, sb, sd, tk, dr, ay, gl, fw, fv, hv, ta, lk, go, ca, cv, cm, cg, opn, ow, oq, ox, rg, sw, sa, sz, sg, ho, kf, kk, ra, ac, ea, eb, ch, th, mv, mm, ty, bi, mk, rc, mr, md, mt, gp, yb, le, qc, qe, qq, tq, lc, gt) (nI j) (nI y) := by
  obtain ⟨kd, hkd, ek⟩ := hkk
  refine ⟨vp_in_nI hj (by decide), ?_⟩
  rw [nI_clamp (n := j) (by omega), nI_clamp (n := y) (by omega), hk, nI_clamp (n := f) (by omega)]
  have : kd = 0 ∨ kd = 1 ∨ kd = 2 := by omega
  rcases this with rfl | rfl | rfl
  · have m0 : sd_ms (kk j) (fw f) (mm y) = 65535 := by rw [ek]; rfl
    rw [m0] at h
    exact br_f (by rw [ek]; decide) ⟨vp_in_nI hj (by decide), br_t (by rw [ek]; rfl) h⟩
  · have m1 : sd_ms (kk j) (fw f) (mm y) = (((1 : Int32) <<< (sd_on (fw f) (mm y) &&& 31)) - 1) <<< ((fw f - sd_on (fw f) (mm y)) &&& 31) := by rw [ek]; rfl
    rw [m1] at h
    exact br_t ek (sy_ones hj hy hf hk ⟨vp_in_nI hj (by decide), vp_in_nI hf (by decide), h⟩)
  · have m2 : sd_ms (kk j) (fw f) (mm y) = mm y := by rw [ek]; rfl
    rw [m2] at h
    exact br_f (by rw [ek]; decide) ⟨vp_in_nI hj (by decide), br_f (by rw [ek]; decide) ⟨vp_in_nI hy (by decide), h⟩⟩
theorem sy_fit1 {post : Int32 → Prop} (hE : sd_E kf kk th ens mm ra ac ea eb ch) {t x c n : Nat} (ht : t < 4) (hx : x < 52) (hc : c < 2)
    (h1 : sd_ok kf kk fw fv mv mm t x c → wY_fits_2 post (nI t) (nI x) sc oc tl tt bt ma ol tp sb sd tk dr ay gl fw fv hv ta lk go ca cv cm cg opn ow oq ox rg sw sa sz sg ho kf kk ra ac ea eb ch th mv mm ty bi mk rc mr md mt gp yb le qc qe qq tq lc gt n (nI (c + 1))) (h0 : ¬ sd_ok kf kk fw fv mv mm t x c → post 0) : wY_fits_2 post (nI t) (nI x) sc oc tl tt bt ma ol tp sb sd tk dr ay gl fw fv hv ta lk go ca cv cm cg opn ow oq ox rg sw sa sz sg ho kf kk ra ac ea eb ch th mv mm ty bi mk rc mr md mt gp yb le qc qe qq tq lc gt (n + 1) (nI c) := by
  have kr := sd_kfr hE ht hc
  unfold sd_ok at h1 h0
  refine br_f (nI_ge (b := 2) hc (by decide)) ?_
  rw [sd_2y, sd_2y, nI_clamp (n := 2 * t + c) (by omega)]
  refine ⟨vp_in_nI (by omega) (by decide), nm_e ?_⟩
  rcases kr with kr | ⟨f, hf, kr⟩
  · exact br_f (by rw [kr]; decide) (br_t (by rw [kr]; decide) (nm_r (nI_1 c) (h1 (Or.inl kr))))
  · rw [kr, nI_clamp (n := f) (by omega)] at h1 h0
    refine br_t (by rw [kr]; exact nI_pos' (by omega)) (sy_mask (by omega) (by omega) hf kr (hE.2.1 _ (by omega)) (br_f (by rw [kr]; exact nI_pos (by omega)) ?_))
    rw [kr, sd_2y, nI_clamp (n := f) (by omega), nI_clamp (n := 2 * x + c) (by omega)]
    exact ⟨vp_in_nI hf (by decide), vp_in_nI (by omega) (by decide), br_c (fun z => nm_r (nI_1 c) (h1 (Or.inr z))) (fun z => h0 (fun y => y.elim (fun y => sd_ne (by omega) y) z))⟩
theorem sy_fit {post : Int32 → Prop} (hE : sd_E kf kk th ens mm ra ac ea eb ch) {t x : Nat} (ht : t < 4) (hx : x < 52) (h1 : sd_ok kf kk fw fv mv mm t x 0 → sd_ok kf kk fw fv mv mm t x 1 → post 1) (h0 : ¬ (sd_ok kf kk fw fv mv mm t x 0 ∧ sd_ok kf kk fw fv mv mm t x 1) → post 0) : wpY_fits post (sc, oc, tl, tt, bt, ma, ol, tp, sb, sd, tk, dr, ay, gl, fw, fv, hv, ta, lk, go, ca, cv, cm, cg, opn, ow, oq, ox, rg, sw, sa, sz, sg, ho, kf, kk, ra, ac, ea, eb, ch, th, mv, mm, ty, bi, mk, rc, mr, md, mt, gp, yb, le, qc, qe, qq, tq, lc, gt) (nI t) (nI x) :=
  ⟨3, sy_fit1 (c := 0) hE ht hx (by omega) (fun a => sy_fit1 (c := 1) hE ht hx (by omega) (fun b => br_t (by decide) (h1 a b)) (fun b => h0 (fun z => b z.2))) (fun a => h0 (fun z => a z.1))⟩
theorem sy_len1 {post : Int32 → Prop} (hE : sd_E kf kk th ens mm ra ac ea eb ch) {t x c n : Nat} {s : Int32} (ht : t < 4) (hx : x < 52) (hc : c < 2)
    (h1 : wY_length_5 post (nI t) (nI x) sc oc tl tt bt ma ol tp sb sd tk dr ay gl fw fv hv ta lk go ca cv cm cg opn ow oq ox rg sw sa sz sg ho kf kk ra ac ea eb ch th mv mm ty bi mk rc mr md mt gp yb le qc qe qq tq lc gt n (s + sd_ln kf kk fw mm t x c) (nI (c + 1))) : wY_length_5 post (nI t) (nI x) sc oc tl tt bt ma ol tp sb sd tk dr ay gl fw fv hv ta lk go ca cv cm cg opn ow oq ox rg sw sa sz sg ho kf kk ra ac ea eb ch th mv mm ty bi mk rc mr md mt gp yb le qc qe qq tq lc gt (n + 1) s (nI c) := by
  have kr := sd_kfr hE ht hc
  unfold sd_ln at h1
  refine br_f (nI_ge (b := 2) hc (by decide)) ?_
  rw [sd_2y, sd_2y, nI_clamp (n := 2 * t + c) (by omega)]
  refine ⟨vp_in_nI (by omega) (by decide), ?_⟩
  rcases kr with kr | ⟨f, hf, kr⟩
  · rw [if_pos kr, Int32.add_zero] at h1
    exact br_t (by rw [kr]; decide) (nm_r (nI_1 c) h1)
  · have nk : ¬ kf (2 * t + c) = -1 := by rw [kr]; exact sd_ne (by omega)
    rw [if_neg nk] at h1
    refine br_f (by rw [kr]; exact nI_pos (by omega)) ⟨vp_in_nI (by omega) (by decide), br_c (fun z => ?_) (fun z => ?_)⟩
    · rw [if_pos z, kr, nI_clamp (n := f) (by omega)] at h1
      exact sy_ones (by omega) (by omega) hf kr (nm_e (nm_r (nI_1 c) h1))
    · rw [if_neg z, Int32.add_zero] at h1
      exact nm_r (nI_1 c) h1
theorem sy_len {post : Int32 → Prop} (hE : sd_E kf kk th ens mm ra ac ea eb ch) {t x : Nat} (ht : t < 4) (hx : x < 52) (h1 : post (sd_ln kf kk fw mm t x 0 + sd_ln kf kk fw mm t x 1)) : wpY_length post (sc, oc, tl, tt, bt, ma, ol, tp, sb, sd, tk, dr, ay, gl, fw, fv, hv, ta, lk, go, ca, cv, cm, cg, opn, ow, oq, ox, rg, sw, sa, sz, sg, ho, kf, kk, ra, ac, ea, eb, ch, th, mv, mm, ty, bi, mk, rc, mr, md, mt, gp, yb, le, qc, qe, qq, tq, lc, gt) (nI t) (nI x) := by
  refine ⟨3, sy_len1 (c := 0) hE ht hx (by omega) ?_⟩
  rw [Int32.zero_add]
  exact sy_len1 (c := 1) hE ht hx (by omega) (br_t (by decide) h1)
/-- the length of an entry that is there is a small number -/
theorem sd_lnr (hE : sd_E kf kk th ens mm ra ac ea eb ch) (hF : sd_F fw fv hv) {t e c : Nat} (ht : t < 4) (he : e < 12) (hth : ¬ th (13 * t + e) = 0) (hc : c < 2) : ∃ l : Nat, l ≤ 16 ∧ sd_ln kf kk fw mm t (13 * t + e) c = nI l := by
  unfold sd_ln
  rcases sd_kfr hE ht hc with kr | ⟨f, hf, kr⟩
  · rw [if_pos kr]; exact ⟨0, by omega, rfl⟩
  · have nk : ¬ kf (2 * t + c) = -1 := by rw [kr]; exact sd_ne (by omega)
    rw [if_neg nk]
    by_cases z : kk (2 * t + c) = 1
    · rw [if_pos z, kr, nI_clamp (by omega)]
      obtain ⟨m, hm, em⟩ := hE.2.2.2 t ht e he hth c hc z
      obtain ⟨w, w1, w2, w3⟩ := sd_wi hF hf
      rw [em, w2]
      unfold sd_on
      by_cases y : nI m ≤ nI w
      · rw [if_pos y]; exact ⟨m, by omega, rfl⟩
      · rw [if_neg y]; exact ⟨w, by omega, rfl⟩
    · rw [if_neg z]; exact ⟨0, by omega, rfl⟩
end
end
section
section
variable {sc oc bt bb da ag lo tp sb sd tk : Int32} {fw fv hv sts ops opn rg kf kk th ens mv mm sps ho pb pz rc mr md mt gp qc qq qe lc tq : Nat → Int32} {tl tt ma ol dr ay gl : Int32} {ta lk go ca cv cm cg ow oq ox sw sa sz sg ra ac ea eb ch ty bi mk yb le gt : Nat → Int32}
theorem sd_sle {a b : Nat} (ha : a < 2 ^ 30) (hb : b < 2 ^ 30) : nI a - nI b ≤ 0 ↔ a ≤ b := by
  have e0 : (0 : Int32).toInt = 0 := by decide
  rw [sd_leI, pk_sub_toInt ha hb, e0]
  omega
theorem sd_sz {a b : Nat} (ha : a < 2 ^ 30) (hb : b < 2 ^ 30) : nI a - nI b = 0 ↔ a = b := by
  constructor
  · intro h
    have h2 := congrArg Int32.toInt h
    have e0 : (0 : Int32).toInt = 0 := by decide
    rw [pk_sub_toInt ha hb, e0] at h2
    omega
  · rintro rfl
    exact Int32.sub_self _
def sd_LN (kf kk fw mm : Nat → Int32) (t x : Nat) : Int32 := sd_ln kf kk fw mm t x 0 + sd_ln kf kk fw mm t x 1
theorem sd_LNr (hE : sd_E kf kk th ens mm ra ac ea eb ch) (hF : sd_F fw fv hv) {t e : Nat} (ht : t < 4) (he : e < 12) (hth : ¬ th (13 * t + e) = 0) : ∃ l : Nat, l ≤ 32 ∧ sd_LN kf kk fw mm t (13 * t + e) = nI l := by
  obtain ⟨a, ha, ea'⟩ := sd_lnr hE hF ht he hth (c := 0) (by omega)
  obtain ⟨b, hb, eb'⟩ := sd_lnr hE hF ht he hth (c := 1) (by omega)
  refine ⟨a + b, by omega, ?_⟩
  unfold sd_LN
  rw [ea', eb', nI_add]
def sd_bst (kf kk fw mm ra : Nat → Int32) (t : Nat) (xc xr xo yb : Int32) : Prop :=
  (xc = -1 ∧ xr = -1 ∧ xo = -1 ∧ yb = -1) ∨ ∃ e r l : Nat, e < 12 ∧ r < 16 ∧ l ≤ 32 ∧ xc = nI e ∧ xr = nI r ∧ xo = nI l ∧ yb = nI (13 * t + e) ∧ ra (13 * t + e) = nI r ∧ sd_LN kf kk fw mm t (13 * t + e) = nI l
theorem sx_47s {post : Int32 → Prop} {J : Int32 → Int32 → Int32 → Int32 → Prop} {x1 x2 x3 x4 : Int32} {e x : Nat} (hx : x < 52) (h : J x2 x3 x4 (nI (e + 1))) : wX_chooseEntry_47 post J x1 x2 x3 x4 (nI e) (nI x) (-1) sc oc bt bb da ag lo tp sb sd tk fw fv hv sts ops opn rg kf kk th ens mv mm sps ho pb pz rc mr md mt gp qc qq qe lc tq := by
  have i0 : nI x * 5 + 0 = nI (x * 5 + 0) := sd_ma x 5 0
  have g : ∀ (x8 z : Int32), wX_chooseEntry_86 post J x1 x2 x3 x4 (nI e) (-1) x8 z sc oc bt bb da ag lo tp sb sd tk fw fv hv sts ops opn rg kf kk th ens mv mm sps ho pb pz rc mr md mt gp qc qq qe lc tq := fun x8 z => br_t rfl (nm_r (nI_1 e) h)
  refine ⟨by rw [i0]; exact vp_in_nI (by omega) (by decide), nm_e (br_c (fun _ => g _ _) (fun _ => br_c (fun _ => br_c (fun _ => g _ _) (fun _ => g _ _)) (fun _ => g _ _)))⟩
theorem sx_47b {post : Int32 → Prop} {J : Int32 → Int32 → Int32 → Int32 → Prop} {x1 x2 x3 x4 : Int32} {e x r l : Nat} (hx : x < 52) (hr : ens (x * 5 + 0) = nI r) (hl : l < 2 ^ 31)
    (h1 : (x3 < nI r ∨ (nI r = x3 ∧ ¬ nI l ≤ x4)) → J (nI e) (nI r) (nI l) (nI (e + 1))) (h0 : ¬ (x3 < nI r ∨ (nI r = x3 ∧ ¬ nI l ≤ x4)) → J x2 x3 x4 (nI (e + 1))) : wX_chooseEntry_47 post J x1 x2 x3 x4 (nI e) (nI x) (nI l) sc oc bt bb da ag lo tp sb sd tk fw fv hv sts ops opn rg kf kk th ens mv mm sps ho pb pz rc mr md mt gp qc qq qe lc tq := by
  have i0 : nI x * 5 + 0 = nI (x * 5 + 0) := sd_ma x 5 0
  have nl : ¬ nI l = -1 := sd_ne hl
  refine ⟨by rw [i0]; exact vp_in_nI (by omega) (by decide), ?_⟩
  rw [i0, nI_clamp (n := x * 5 + 0) (by omega), hr]
  have g1 : (x3 < nI r ∨ (nI r = x3 ∧ ¬ nI l ≤ x4)) → wX_chooseEntry_86 post J x1 x2 x3 x4 (nI e) (nI l) (nI r) 1 sc oc bt bb da ag lo tp sb sd tk fw fv hv sts ops opn rg kf kk th ens mv mm sps ho pb pz rc mr md mt gp qc qq qe lc tq := fun z => br_f nl (br_f sd_10 (nm_r (nI_1 e) (h1 z)))
  have g0 : ¬ (x3 < nI r ∨ (nI r = x3 ∧ ¬ nI l ≤ x4)) → wX_chooseEntry_86 post J x1 x2 x3 x4 (nI e) (nI l) (nI r) 0 sc oc bt bb da ag lo tp sb sd tk fw fv hv sts ops opn rg kf kk th ens mv mm sps ho pb pz rc mr md mt gp qc qq qe lc tq := fun z => br_f nl (br_t rfl (nm_r (nI_1 e) (h0 z)))
  exact nm_e (br_c (fun a => g1 (Or.inl a)) (fun a => br_c (fun b => br_c (fun c => g0 (by rintro (z | z); exact a z; exact z.2 c)) (fun c => g1 (Or.inr ⟨b, c⟩))) (fun b => g0 (by rintro (z | z); exact a z; exact b z.1))))
theorem sd_ch1 (hE : sd_E kf kk th ens mm ra ac ea eb ch) (hF : sd_F fw fv hv) {t : Nat} (ht : t < 4) : ∀ (d e : Nat), e + d = 12 → ∀ xc xr xo yb' : Int32, sd_bst kf kk fw mm ra t xc xr xo yb' →
    ∃ (xc' : Int32) (row : Nat), ((xc' = -1 ∧ row = 13 * t + 12) ∨ ∃ e' : Nat, e' < 12 ∧ xc' = nI e' ∧ row = 13 * t + e') ∧
    (∀ post : Int32 → Prop, post xc' → wX_chooseEntry_10 post (nI t) sc oc bt bb da ag lo tp sb sd tk fw fv hv sts ops opn rg kf kk th ens mv mm sps ho pb pz rc mr md mt gp qc qq qe lc tq (d + 1) xc xr xo (nI e)) ∧ (∀ post : Int32 → Prop, post (nI row) → wY_choose_7 post (nI t) sc oc tl tt bt ma ol tp sb sd tk dr ay gl fw fv hv ta lk go ca cv cm cg opn ow oq ox rg sw sa sz sg ho kf kk ra ac ea eb ch th mv mm ty bi mk rc mr md mt gp yb le qc qe qq tq lc gt (d + 1) yb' (nI (13 * t + e))) := by
  have i12 : 13 * nI t + 12 = nI (13 * t + 12) := sd_13 t 12
  intro d
  induction d with
  | zero =>
    intro e he xc xr xo yb' hb
    have : e = 12 := by omega
    subst this
    rcases hb with ⟨h1, h2, h3, h4⟩ | ⟨e0, r0, l0, he0, hr0, hl0, h1, h2, h3, h4, h5, h6⟩
    · refine ⟨-1, 13 * t + 12, Or.inl ⟨rfl, rfl⟩, fun post hp => br_t (by decide) (by rw [h1]; exact hp), fun post hp => ?_⟩
      rw [h4]
      refine br_t (by rw [i12]; exact nI_le (Nat.le_refl _) (by omega)) (br_f (by decide) ?_)
      rw [i12]; exact hp
    · refine ⟨nI e0, 13 * t + e0, Or.inr ⟨e0, he0, rfl, rfl⟩, fun post hp => br_t (by decide) (by rw [h1]; exact hp), fun post hp => ?_⟩
      rw [h4]
      exact br_t (by rw [i12]; exact nI_le (Nat.le_refl _) (by omega)) (br_t (nI_pos' (by omega)) hp)
  | succ d ih =>
    intro e he xc xr xo yb' hb
    have nx : ¬ 12 ≤ nI e := nI_ge (b := 12) (by omega) (by decide)
    have ny : ¬ 13 * nI t + 12 ≤ nI (13 * t + e) := by rw [i12]; exact nI_ge (by omega) (by omega)
    have v52 : vp_in (nI (13 * t + e)) 52 := vp_in_nI (by omega) (by decide)
    by_cases z : th (13 * t + e) = 0
    · obtain ⟨xc', row, k1, k2, k3⟩ := ih (e + 1) (by omega) xc xr xo yb' hb
      refine ⟨xc', row, k1, fun post hp => br_f nx (nm_r (sd_13' t e) ⟨v52, br_t ?_ (sx_47s (by omega) (k2 post hp))⟩), fun post hp => br_f ny ⟨v52, br_t ?_ (nm_r (nI_1 _) (k3 post hp))⟩⟩
      · rw [nI_clamp (by omega)]; exact z
      · rw [nI_clamp (by omega)]; exact z
    · have zx : ¬ th (nI (13 * t + e)).toNatClampNeg = 0 := by rw [nI_clamp (by omega)]; exact z
      by_cases f : sd_ok kf kk fw fv mv mm t (13 * t + e) 0 ∧ sd_ok kf kk fw fv mv mm t (13 * t + e) 1
      · obtain ⟨l, hl, el⟩ := sd_LNr hE hF ht (show e < 12 by omega) z
        obtain ⟨r, hr, er⟩ := (hE.2.2.1 (13 * t + e) (by omega)).2.1
        have er' : ens ((13 * t + e) * 5 + 0) = nI r := ((hE.2.2.1 (13 * t + e) (by omega)).1.1).trans er
        have elx : sd_ln kf kk fw mm t (13 * t + e) 0 + sd_ln kf kk fw mm t (13 * t + e) 1 = nI l := el
        -- taken or left
        by_cases bt' : xr < nI r ∨ (nI r = xr ∧ ¬ nI l ≤ xo)
        · obtain ⟨xc', row, k1, k2, k3⟩ := ih (e + 1) (by omega) (nI e) (nI r) (nI l) (nI (13 * t + e)) (Or.inr ⟨e, r, l, by omega, hr, hl, rfl, rfl, rfl, rfl, er, el⟩)
          refine ⟨xc', row, k1, fun post hp => br_f nx (nm_r (sd_13' t e) ⟨v52, br_f zx (sx_pf hE ht (by omega) (fun _ _ => ?_) (fun y => absurd f y))⟩), fun post hp => br_f ny ⟨v52, br_f zx (sy_fit hE ht (by omega) (fun _ _ => sd_w1 ?_) (fun y => absurd f y))⟩⟩
          · rw [elx]
            exact sx_47b (by omega) er' (by omega) (fun _ => k2 post hp) (fun y => absurd bt' y)
          · rcases hb with ⟨h1, h2, h3, h4⟩ | ⟨e0, r0, l0, he0, hr0, hl0, h1, h2, h3, h4, h5, h6⟩
            · rw [h4]
              exact br_f (by decide) (br_f sd_10 (br_f (by decide) (nm_r (nI_1 _) (k3 post hp))))
            · rw [h4]
              refine br_t (nI_pos' (by omega)) ⟨v52, vp_in_nI (by omega) (by decide), ?_⟩
              rw [nI_clamp (n := 13 * t + e) (by omega), nI_clamp (n := 13 * t + e0) (by omega), er, h5]
              rw [h2, h3, nI_ltI (by omega) (by omega), nI_eq (by omega) (by omega), nI_leI (by omega) (by omega)] at bt'
              refine br_c (fun y => ?_) (fun y => br_f ?_ (nm_r (nI_1 _) (k3 post hp)))
              · rw [sd_sz (by omega) (by omega)] at y
                refine sy_len hE ht (by omega) (sy_len hE ht (by omega) ?_)
                rw [elx]
                have h6' : sd_ln kf kk fw mm t (13 * t + e0) 0 + sd_ln kf kk fw mm t (13 * t + e0) 1 = nI l0 := h6
                rw [h6']
                refine nm_e (br_f ?_ (nm_r (nI_1 _) (k3 post hp)))
                rw [sd_sle (by omega) (by omega)]
                omega
              · rw [sd_sz (by omega) (by omega)] at y
                rw [sd_sle (by omega) (by omega)]
                omega
        · obtain ⟨xc', row, k1, k2, k3⟩ := ih (e + 1) (by omega) xc xr xo yb' hb
          refine ⟨xc', row, k1, fun post hp => br_f nx (nm_r (sd_13' t e) ⟨v52, br_f zx (sx_pf hE ht (by omega) (fun _ _ => ?_) (fun y => absurd f y))⟩), fun post hp => br_f ny ⟨v52, br_f zx (sy_fit hE ht (by omega) (fun _ _ => sd_w1 ?_) (fun y => absurd f y))⟩⟩
          · rw [elx]
            exact sx_47b (by omega) er' (by omega) (fun y => absurd y bt') (fun _ => k2 post hp)
          · rcases hb with ⟨h1, h2, h3, h4⟩ | ⟨e0, r0, l0, he0, hr0, hl0, h1, h2, h3, h4, h5, h6⟩
            · exfalso
              apply bt'
              left
              rw [h2, sd_ltI, nI_toInt (by omega)]
              have e1 : (-1 : Int32).toInt = -1 := by decide
              omega
            · rw [h4]
              refine br_t (nI_pos' (by omega)) ⟨v52, vp_in_nI (by omega) (by decide), ?_⟩
              rw [nI_clamp (n := 13 * t + e) (by omega), nI_clamp (n := 13 * t + e0) (by omega), er, h5]
              rw [h2, h3, nI_ltI (by omega) (by omega), nI_eq (by omega) (by omega), nI_leI (by omega) (by omega)] at bt'
              rw [h4] at k3
              refine br_c (fun y => ?_) (fun y => br_t ?_ (nm_r (nI_1 _) (k3 post hp)))
              · rw [sd_sz (by omega) (by omega)] at y
                refine sy_len hE ht (by omega) (sy_len hE ht (by omega) ?_)
                rw [elx]
                have h6' : sd_ln kf kk fw mm t (13 * t + e0) 0 + sd_ln kf kk fw mm t (13 * t + e0) 1 = nI l0 := h6
                rw [h6']
                refine nm_e (br_t ?_ (nm_r (nI_1 _) (k3 post hp)))
                rw [sd_sle (by omega) (by omega)]
                omega
              · rw [sd_sz (by omega) (by omega)] at y
                rw [sd_sle (by omega) (by omega)]
                omega
      · obtain ⟨xc', row, k1, k2, k3⟩ := ih (e + 1) (by omega) xc xr xo yb' hb
        refine ⟨xc', row, k1, fun post hp => br_f nx (nm_r (sd_13' t e) ⟨v52, br_f zx (sx_pf hE ht (by omega) (fun a b => absurd ⟨a, b⟩ f) (fun _ => sx_47s (by omega) (k2 post hp)))⟩), fun post hp => br_f ny ⟨v52, br_f zx (sy_fit hE ht (by omega) (fun a b => absurd ⟨a, b⟩ f) (fun _ => sd_w0 (nm_r (nI_1 _) (k3 post hp))))⟩⟩
theorem sd_choose (hE : sd_E kf kk th ens mm ra ac ea eb ch) (hF : sd_F fw fv hv) {t : Nat} (ht : t < 4) :
    ∃ (xc' : Int32) (row : Nat), ((xc' = -1 ∧ row = 13 * t + 12) ∨ ∃ e' : Nat, e' < 12 ∧ xc' = nI e' ∧ row = 13 * t + e') ∧
    (∀ post : Int32 → Prop, post xc' → wpX_chooseEntry post (sc, oc, bt, bb, da, ag, lo, tp, sb, sd, tk, fw, fv, hv, sts, ops, opn, rg, kf, kk, th, ens, mv, mm, sps, ho, pb, pz, rc, mr, md, mt, gp, qc, qq, qe, lc, tq) (nI t)) ∧ (∀ post : Int32 → Prop, post (nI row) → wpY_choose post (sc, oc, tl, tt, bt, ma, ol, tp, sb, sd, tk, dr, ay, gl, fw, fv, hv, ta, lk, go, ca, cv, cm, cg, opn, ow, oq, ox, rg, sw, sa, sz, sg, ho, kf, kk, ra, ac, ea, eb, ch, th, mv, mm, ty, bi, mk, rc, mr, md, mt, gp, yb, le, qc, qe, qq, tq, lc, gt) (nI t)) := by
  obtain ⟨xc', row, k1, k2, k3⟩ := sd_ch1 (sc := sc) (oc := oc) (bt := bt) (bb := bb) (da := da) (ag := ag) (lo := lo) (tp := tp) (sb := sb) (sd := sd) (tk := tk) (fw := fw) (fv := fv) (hv := hv) (sts := sts) (ops := ops) (opn := opn) (rg := rg) (kf := kf) (kk := kk) (th := th) (ens := ens) (mv := mv) (mm := mm) (sps := sps) (ho := ho) (pb := pb) (pz := pz) (rc := rc) (mr := mr) (md := md) (mt := mt) (gp := gp) (qc := qc) (qq := qq) (qe := qe) (lc := lc) (tq := tq) (tl := tl) (tt := tt) (ma := ma) (ol := ol) (dr := dr) (ay := ay) (gl := gl) (ta := ta) (lk := lk) (go := go) (ca := ca) (cv := cv) (cm := cm) (cg := cg) (ow := ow) (oq := oq) (ox := ox) (sw := sw) (sa := sa) (sz := sz) (sg := sg) (ra := ra) (ac := ac) (ea := ea) (eb := eb) (ch := ch) (ty := ty) (bi := bi) (mk := mk) (yb := yb) (le := le) (gt := gt) hE hF ht 12 0 (by omega) (-1) (-1) (-1) (-1) (Or.inl ⟨rfl, rfl, rfl, rfl⟩)
  exact ⟨xc', row, k1, fun post hp => ⟨13, k2 post hp⟩, fun post hp => nm_r (pk_mul 13 t) ⟨13, k3 post hp⟩⟩
theorem sd_actw {a Z : Nat} {p q : Int32} (hF : sd_F fw fv hv) (hO : sd_O ops opn ow oq ox) (hZ : Z ≤ 16) (hz : pz 49 = nI Z) (ha : a < 8) :
    ∃ (da' ag' : Int32) (fv' hv' rg' mt' : Nat → Int32), sd_F fw fv' hv' ∧ (∀ post : SX → Prop, post (sc, oc, bt, bb, da', ag', lo, tp, sb, sd, tk, fw, fv', hv', sts, ops, opn, rg', kf, kk, th, ens, mv, mm, sps, ho, pb, pz, rc, mr, md, mt', gp, qc, qq, qe, lc, tq) → wpX_doAction post (sc, oc, bt, bb, da, ag, lo, tp, sb, sd, tk, fw, fv, hv, sts, ops, opn, rg, kf, kk, th, ens, mv, mm, sps, ho, pb, pz, rc, mr, md, mt, gp, qc, qq, qe, lc, tq) (nI a) p q) ∧ (∀ post : SY → Prop, post (sc, oc, tl, (nI (8 * Z)), bt, ma, ol, tp, sb, sd, tk, da', ag', gl, fw, fv', hv', ta, lk, go, ca, cv, cm, cg, opn, ow, oq, ox, rg', sw, sa, sz, sg, ho, kf, kk, ra, ac, ea, eb, ch, th, mv, mm, ty, bi, mk, rc, mr, md, mt', gp, yb, le, qc, qe, qq, tq, lc, gt) → wpY_act post (sc, oc, tl, (nI (8 * Z)), bt, ma, ol, tp, sb, sd, tk, da, ag, gl, fw, fv, hv, ta, lk, go, ca, cv, cm, cg, opn, ow, oq, ox, rg, sw, sa, sz, sg, ho, kf, kk, ra, ac, ea, eb, ch, th, mv, mm, ty, bi, mk, rc, mr, md, mt, gp, yb, le, qc, qe, qq, tq, lc, gt) (nI a) p q) := by
  obtain ⟨N, hN, hn⟩ := hO.1 a ha
  obtain ⟨da', ag', fv', hv', rg', mt', k1, k2, k3⟩ := sd_act (sc := sc) (oc := oc) (bt := bt) (bb := bb) (lo := lo) (tp := tp) (sb := sb) (sd := sd) (tk := tk) (fw := fw) (sts := sts) (ops := ops) (opn := opn) (kf := kf) (kk := kk) (th := th) (ens := ens) (mv := mv) (mm := mm) (sps := sps) (ho := ho) (pb := pb) (pz := pz) (rc := rc) (mr := mr) (md := md) (gp := gp) (qc := qc) (qq := qq) (qe := qe) (lc := lc) (tq := tq) (tl := tl) (ma := ma) (ol := ol) (gl := gl) (ta := ta) (lk := lk) (go := go) (ca := ca) (cv := cv) (cm := cm) (cg := cg) (ow := ow) (oq := oq) (ox := ox) (sw := sw) (sa := sa) (sz := sz) (sg := sg) (ra := ra) (ac := ac) (ea := ea) (eb := eb) (ch := ch) (ty := ty) (bi := bi) (mk := mk) (yb := yb) (le := le) (gt := gt) (p := p) (q := q) hO hZ hz ha (by omega) hn N 0 da ag fv hv rg mt (by omega) hF
  refine ⟨da', ag', fv', hv', rg', mt', k1, fun post hp => ⟨vp_in_nI ha (by decide), ?_⟩, fun post hp => nm_r (pk_mul 5 a) ⟨N + 1, k3 post hp⟩⟩
  rw [nI_clamp (n := a) (by omega)]
  exact nm_r hn ⟨N + 1, k2 post hp⟩
theorem sd_Et (hE : sd_E kf kk th ens mm ra ac ea eb ch) {x : Nat} (hx : x < 52) {y : Int32} : sd_E kf kk th (upd ens (x * 5 + 4) y) mm ra ac ea eb (upd ch x y) := by
  refine ⟨hE.1, hE.2.1, fun z hz => ?_, hE.2.2.2⟩
  obtain ⟨⟨h0, h1, h2, h3, h4⟩, h5, h6⟩ := hE.2.2.1 z hz
  by_cases e : z = x
  · subst e
    simp (disch := omega) only [pk_us, pk_un]
    exact ⟨⟨h0, h1, h2, h3, trivial⟩, h5, h6⟩
  · simp (disch := omega) only [pk_un]
    exact ⟨⟨h0, h1, h2, h3, h4⟩, h5, h6⟩
end
end
section
section
variable {sc oc bt bb da ag lo tp sb sd tk : Int32} {fw fv hv sts ops opn rg kf kk th ens mv mm sps ho pb pz rc mr md mt gp qc qq qe lc tq : Nat → Int32} {tl tt ma ol dr ay gl : Int32} {ta lk go ca cv cm cg ow oq ox sw sa sz sg ra ac ea eb ch ty bi mk yb le gt : Nat → Int32}
theorem sx_nj {post : SX → Prop} {m i : Nat} (hp : wX_doSteps_14 post m (nI (i + 1)) (nI (i + 1)) sc oc bt bb da ag lo tp sb sd tk fw fv hv sts ops opn rg kf kk th ens mv mm sps ho pb pz rc mr md mt gp qc qq qe lc tq) : wX_doSteps_265 post (wX_doSteps_14 post m) (nI i) 0 sc oc bt bb da ag lo tp sb sd tk fw fv hv sts ops opn rg kf kk th ens mv mm sps ho pb pz rc mr md mt gp qc qq qe lc tq :=
  br_t rfl (nm_r (nI_1 i) (nm_r (nI_1 i) hp))
theorem sx_jj {post : SX → Prop} {m i g : Nat} (hi : i < 16) (hg : sps (i * 4 + 3) = nI g) (hp : wX_doSteps_14 post m (nI g) (nI (i + 1)) sc oc bt bb da ag lo tp sb sd tk fw fv hv sts ops opn rg kf kk th ens mv mm sps ho pb pz rc mr md mt gp qc qq qe lc tq) : wX_doSteps_265 post (wX_doSteps_14 post m) (nI i) 1 sc oc bt bb da ag lo tp sb sd tk fw fv hv sts ops opn rg kf kk th ens mv mm sps ho pb pz rc mr md mt gp qc qq qe lc tq := by
  have e : nI i * 4 + 3 = nI (i * 4 + 3) := sd_ma i 4 3
  refine br_f sd_10 ⟨by rw [e]; exact vp_in_nI (by omega) (by decide), ?_⟩
  rw [e, nI_clamp (by omega)]
  exact nm_r hg (nm_r (nI_1 i) hp)
theorem sx_row {post : Int32 → Prop} {t row : Nat} {xc : Int32} (ht : t < 4) (hr : (xc = -1 ∧ row = 13 * t + 12) ∨ ∃ e' : Nat, e' < 12 ∧ xc = nI e' ∧ row = 13 * t + e') (h : post (nI row)) : wpX_rowOf post (nI t) xc := by
  rcases hr with ⟨h1, h2⟩ | ⟨e', h0, h1, h2⟩
  · subst h1 h2
    refine br_t rfl ?_
    have e : nI t * 13 + 12 = nI (13 * t + 12) := sd_13' t 12
    rw [e]; exact h
  · subst h1 h2
    refine br_f (sd_ne (by omega)) ?_
    rw [sd_13']; exact h
theorem sd_s5 {i N Z : Nat} {g : Nat} (hF : sd_F fw fv hv) (hE : sd_E kf kk th ens mm ra ac ea eb ch) (hO : sd_O ops opn ow oq ox) (hA : ∀ i, i < 16 → sps (i * 4) = sw i ∧ sps (i * 4 + 1) = sa i ∧ sps (i * 4 + 2) = sz i ∧ sps (i * 4 + 3) = sg i) (hN : N ≤ 16) (hi : i < N) (hZ : Z ≤ 16) (hz : pz 49 = nI Z) (hw : sw i = nI 5) (hg : sg i = nI g) (hg1 : i < g) (hg2 : g ≤ 16) : ∃ (j : Nat) (sd' da' ag' : Int32) (fv' hv' rg' mt' ens' ch' : Nat → Int32), i + 1 ≤ j ∧ j ≤ 16 ∧ sd_F fw fv' hv' ∧ sd_E kf kk th ens' mm ra ac ea eb ch' ∧ (∀ (post : SX → Prop) (m : Nat), wX_doSteps_14 post m (nI j) (nI (i + 1)) (nI N) oc bt bb da' ag' lo tp sb sd' tk fw fv' hv' sts ops opn rg' kf kk th ens' mv mm sps ho pb pz rc mr md mt' gp qc qq qe lc tq → wX_doSteps_14 post (m + 1) (nI i) (nI i) (nI N) oc bt bb da ag lo tp sb sd tk fw fv hv sts ops opn rg kf kk th ens mv mm sps ho pb pz rc mr md mt gp qc qq qe lc tq) ∧ (∀ post : Int32 → SY → Prop, post (nI j) ((nI N), oc, tl, (nI (8 * Z)), bt, ma, ol, tp, sb, sd', tk, da', ag', gl, fw, fv', hv', ta, lk, go, ca, cv, cm, cg, opn, ow, oq, ox, rg', sw, sa, sz, sg, ho, kf, kk, ra, ac, ea, eb, ch', th, mv, mm, ty, bi, mk, rc, mr, md, mt', gp, yb, le, qc, qe, qq, tq, lc, gt) → wpY_go post ((nI N), oc, tl, (nI (8 * Z)), bt, ma, ol, tp, sb, sd, tk, da, ag, gl, fw, fv, hv, ta, lk, go, ca, cv, cm, cg, opn, ow, oq, ox, rg, sw, sa, sz, sg, ho, kf, kk, ra, ac, ea, eb, ch, th, mv, mm, ty, bi, mk, rc, mr, md, mt, gp, yb, le, qc, qe, qq, tq, lc, gt) (nI i)) := by
  obtain ⟨g0, g1, g2, g3⟩ := hA i (by omega)
  have e0 : nI i * 4 = nI (i * 4) := pk_mul i 4
  have e1 : nI i * 4 + 1 = nI (i * 4 + 1) := sd_ma i 4 1
  have e2 : nI i * 4 + 2 = nI (i * 4 + 2) := sd_ma i 4 2
  have i0 : vp_in (nI i * 4) 64 := by rw [e0]; exact vp_in_nI (by omega) (by decide)
  have i1 : vp_in (nI i * 4 + 1) 64 := by rw [e1]; exact vp_in_nI (by omega) (by decide)
  have i2 : vp_in (nI i * 4 + 2) 64 := by rw [e2]; exact vp_in_nI (by omega) (by decide)
  have v0 : sps (nI i * 4).toNatClampNeg = sw i := by rw [e0, nI_clamp (by omega)]; exact g0
  have v1 : sps (nI i * 4 + 1).toNatClampNeg = sa i := by rw [e1, nI_clamp (by omega)]; exact g1
  have v2 : sps (nI i * 4 + 2).toNatClampNeg = sz i := by rw [e2, nI_clamp (by omega)]; exact g2
  have w0 : vp_in (nI i) 16 := vp_in_nI (by omega) (by decide)
  have u0 : sw (nI i).toNatClampNeg = sw i := by rw [nI_clamp (by omega)]
  have u1 : sa (nI i).toNatClampNeg = sa i := by rw [nI_clamp (by omega)]
  have u2 : sz (nI i).toNatClampNeg = sz i := by rw [nI_clamp (by omega)]
  have u3 : sg (nI i).toNatClampNeg = sg i := by rw [nI_clamp (by omega)]
  have cn : ¬ nI N ≤ nI i := nI_ge hi (by omega)
  have ci : nI i ≤ nI i := nI_le (Nat.le_refl _) (by omega)
  refine ⟨g, sd + 1, da, ag, fv, hv, rg, mt, ens, ch, by omega, hg2, hF, hE, fun post m hp => ?_, fun post hp => ?_⟩
  · exact br_f cn (br_t ci (nm_e ⟨i1, nm_r v1 ⟨i2, nm_r v2 ⟨i0, nm_r (v0.trans hw) (br_f (by decide) (br_t (by decide) (sx_jj (by omega) (g3.trans hg) hp)))⟩⟩⟩))
  · exact ⟨w0, nm_r u1 ⟨w0, nm_r u2 (nm_e ⟨w0, nm_r (u0.trans hw) (br_f (by decide) (br_t (by decide) (⟨w0, by rw [u3, hg]; exact hp⟩)))⟩)⟩⟩
theorem sd_s2 {i N Z : Nat} {g : Nat} {a : Nat} (hF : sd_F fw fv hv) (hE : sd_E kf kk th ens mm ra ac ea eb ch) (hO : sd_O ops opn ow oq ox) (hA : ∀ i, i < 16 → sps (i * 4) = sw i ∧ sps (i * 4 + 1) = sa i ∧ sps (i * 4 + 2) = sz i ∧ sps (i * 4 + 3) = sg i) (hN : N ≤ 16) (hi : i < N) (hZ : Z ≤ 16) (hz : pz 49 = nI Z) (hw : sw i = nI 2) (hg : sg i = nI g) (hg1 : i < g) (hg2 : g ≤ 16) (ha : sa i = nI a) (ha2 : a < 28) : ∃ (j : Nat) (sd' da' ag' : Int32) (fv' hv' rg' mt' ens' ch' : Nat → Int32), i + 1 ≤ j ∧ j ≤ 16 ∧ sd_F fw fv' hv' ∧ sd_E kf kk th ens' mm ra ac ea eb ch' ∧ (∀ (post : SX → Prop) (m : Nat), wX_doSteps_14 post m (nI j) (nI (i + 1)) (nI N) oc bt bb da' ag' lo tp sb sd' tk fw fv' hv' sts ops opn rg' kf kk th ens' mv mm sps ho pb pz rc mr md mt' gp qc qq qe lc tq → wX_doSteps_14 post (m + 1) (nI i) (nI i) (nI N) oc bt bb da ag lo tp sb sd tk fw fv hv sts ops opn rg kf kk th ens mv mm sps ho pb pz rc mr md mt gp qc qq qe lc tq) ∧ (∀ post : Int32 → SY → Prop, post (nI j) ((nI N), oc, tl, (nI (8 * Z)), bt, ma, ol, tp, sb, sd', tk, da', ag', gl, fw, fv', hv', ta, lk, go, ca, cv, cm, cg, opn, ow, oq, ox, rg', sw, sa, sz, sg, ho, kf, kk, ra, ac, ea, eb, ch', th, mv, mm, ty, bi, mk, rc, mr, md, mt', gp, yb, le, qc, qe, qq, tq, lc, gt) → wpY_go post ((nI N), oc, tl, (nI (8 * Z)), bt, ma, ol, tp, sb, sd, tk, da, ag, gl, fw, fv, hv, ta, lk, go, ca, cv, cm, cg, opn, ow, oq, ox, rg, sw, sa, sz, sg, ho, kf, kk, ra, ac, ea, eb, ch, th, mv, mm, ty, bi, mk, rc, mr, md, mt, gp, yb, le, qc, qe, qq, tq, lc, gt) (nI i)) := by
  obtain ⟨g0, g1, g2, g3⟩ := hA i (by omega)
  have e0 : nI i * 4 = nI (i * 4) := pk_mul i 4
  have e1 : nI i * 4 + 1 = nI (i * 4 + 1) := sd_ma i 4 1
  have e2 : nI i * 4 + 2 = nI (i * 4 + 2) := sd_ma i 4 2
  have i0 : vp_in (nI i * 4) 64 := by rw [e0]; exact vp_in_nI (by omega) (by decide)
  have i1 : vp_in (nI i * 4 + 1) 64 := by rw [e1]; exact vp_in_nI (by omega) (by decide)
  have i2 : vp_in (nI i * 4 + 2) 64 := by rw [e2]; exact vp_in_nI (by omega) (by decide)
  have v0 : sps (nI i * 4).toNatClampNeg = sw i := by rw [e0, nI_clamp (by omega)]; exact g0
  have v1 : sps (nI i * 4 + 1).toNatClampNeg = sa i := by rw [e1, nI_clamp (by omega)]; exact g1
  have v2 : sps (nI i * 4 + 2).toNatClampNeg = sz i := by rw [e2, nI_clamp (by omega)]; exact g2
  have w0 : vp_in (nI i) 16 := vp_in_nI (by omega) (by decide)
  have u0 : sw (nI i).toNatClampNeg = sw i := by rw [nI_clamp (by omega)]
  have u1 : sa (nI i).toNatClampNeg = sa i := by rw [nI_clamp (by omega)]
  have u2 : sz (nI i).toNatClampNeg = sz i := by rw [nI_clamp (by omega)]
  have u3 : sg (nI i).toNatClampNeg = sg i := by rw [nI_clamp (by omega)]
  have cn : ¬ nI N ≤ nI i := nI_ge hi (by omega)
  have ci : nI i ≤ nI i := nI_le (Nat.le_refl _) (by omega)
  have c28 : vp_in (nI a) 28 := vp_in_nI ha2 (by decide)
  have fe : fv (nI a).toNatClampNeg = fv a := by rw [nI_clamp (by omega)]
  by_cases z : fv (nI a).toNatClampNeg = sz i
  · refine ⟨i + 1, sd + 1, da, ag, fv, hv, rg, mt, ens, ch, by omega, by omega, hF, hE, fun post m hp => ?_, fun post hp => ?_⟩
    · exact br_f cn (br_t ci (nm_e ⟨i1, nm_r (v1.trans ha) ⟨i2, nm_r v2 ⟨i0, nm_r (v0.trans hw) (br_f (by decide) (br_f (by decide) (br_f (by decide) (br_f (by decide) (br_t rfl (⟨c28, br_t z (sx_nj hp)⟩))))))⟩⟩⟩))
    · exact ⟨w0, nm_r (u1.trans ha) ⟨w0, nm_r u2 (nm_e ⟨w0, nm_r (u0.trans hw) (br_f (by decide) (br_f (by decide) (br_f (by decide) (br_f (by decide) (br_t rfl (⟨c28, br_t z (by rw [nI_1]; exact hp)⟩))))))⟩)⟩⟩
  · refine ⟨g, sd + 1, da, ag, fv, hv, rg, mt, ens, ch, by omega, hg2, hF, hE, fun post m hp => ?_, fun post hp => ?_⟩
    · exact br_f cn (br_t ci (nm_e ⟨i1, nm_r (v1.trans ha) ⟨i2, nm_r v2 ⟨i0, nm_r (v0.trans hw) (br_f (by decide) (br_f (by decide) (br_f (by decide) (br_f (by decide) (br_t rfl (⟨c28, br_f z (sx_jj (by omega) (g3.trans hg) hp)⟩))))))⟩⟩⟩))
    · exact ⟨w0, nm_r (u1.trans ha) ⟨w0, nm_r u2 (nm_e ⟨w0, nm_r (u0.trans hw) (br_f (by decide) (br_f (by decide) (br_f (by decide) (br_f (by decide) (br_t rfl (⟨c28, br_f z ⟨w0, by rw [u3, hg]; exact hp⟩⟩))))))⟩)⟩⟩
theorem sd_s3 {i N Z : Nat} {g : Nat} {a : Nat} (hF : sd_F fw fv hv) (hE : sd_E kf kk th ens mm ra ac ea eb ch) (hO : sd_O ops opn ow oq ox) (hA : ∀ i, i < 16 → sps (i * 4) = sw i ∧ sps (i * 4 + 1) = sa i ∧ sps (i * 4 + 2) = sz i ∧ sps (i * 4 + 3) = sg i) (hN : N ≤ 16) (hi : i < N) (hZ : Z ≤ 16) (hz : pz 49 = nI Z) (hw : sw i = nI 3) (hg : sg i = nI g) (hg1 : i < g) (hg2 : g ≤ 16) (ha : sa i = nI a) (ha2 : a < 6) : ∃ (j : Nat) (sd' da' ag' : Int32) (fv' hv' rg' mt' ens' ch' : Nat → Int32), i + 1 ≤ j ∧ j ≤ 16 ∧ sd_F fw fv' hv' ∧ sd_E kf kk th ens' mm ra ac ea eb ch' ∧ (∀ (post : SX → Prop) (m : Nat), wX_doSteps_14 post m (nI j) (nI (i + 1)) (nI N) oc bt bb da' ag' lo tp sb sd' tk fw fv' hv' sts ops opn rg' kf kk th ens' mv mm sps ho pb pz rc mr md mt' gp qc qq qe lc tq → wX_doSteps_14 post (m + 1) (nI i) (nI i) (nI N) oc bt bb da ag lo tp sb sd tk fw fv hv sts ops opn rg kf kk th ens mv mm sps ho pb pz rc mr md mt gp qc qq qe lc tq) ∧ (∀ post : Int32 → SY → Prop, post (nI j) ((nI N), oc, tl, (nI (8 * Z)), bt, ma, ol, tp, sb, sd', tk, da', ag', gl, fw, fv', hv', ta, lk, go, ca, cv, cm, cg, opn, ow, oq, ox, rg', sw, sa, sz, sg, ho, kf, kk, ra, ac, ea, eb, ch', th, mv, mm, ty, bi, mk, rc, mr, md, mt', gp, yb, le, qc, qe, qq, tq, lc, gt) → wpY_go post ((nI N), oc, tl, (nI (8 * Z)), bt, ma, ol, tp, sb, sd, tk, da, ag, gl, fw, fv, hv, ta, lk, go, ca, cv, cm, cg, opn, ow, oq, ox, rg, sw, sa, sz, sg, ho, kf, kk, ra, ac, ea, eb, ch, th, mv, mm, ty, bi, mk, rc, mr, md, mt, gp, yb, le, qc, qe, qq, tq, lc, gt) (nI i)) := by
  obtain ⟨g0, g1, g2, g3⟩ := hA i (by omega)
  have e0 : nI i * 4 = nI (i * 4) := pk_mul i 4
  have e1 : nI i * 4 + 1 = nI (i * 4 + 1) := sd_ma i 4 1
  have e2 : nI i * 4 + 2 = nI (i * 4 + 2) := sd_ma i 4 2
  have i0 : vp_in (nI i * 4) 64 := by rw [e0]; exact vp_in_nI (by omega) (by decide)
  have i1 : vp_in (nI i * 4 + 1) 64 := by rw [e1]; exact vp_in_nI (by omega) (by decide)
  have i2 : vp_in (nI i * 4 + 2) 64 := by rw [e2]; exact vp_in_nI (by omega) (by decide)
  have v0 : sps (nI i * 4).toNatClampNeg = sw i := by rw [e0, nI_clamp (by omega)]; exact g0
  have v1 : sps (nI i * 4 + 1).toNatClampNeg = sa i := by rw [e1, nI_clamp (by omega)]; exact g1
  have v2 : sps (nI i * 4 + 2).toNatClampNeg = sz i := by rw [e2, nI_clamp (by omega)]; exact g2
  have w0 : vp_in (nI i) 16 := vp_in_nI (by omega) (by decide)
  have u0 : sw (nI i).toNatClampNeg = sw i := by rw [nI_clamp (by omega)]
  have u1 : sa (nI i).toNatClampNeg = sa i := by rw [nI_clamp (by omega)]
  have u2 : sz (nI i).toNatClampNeg = sz i := by rw [nI_clamp (by omega)]
  have u3 : sg (nI i).toNatClampNeg = sg i := by rw [nI_clamp (by omega)]
  have cn : ¬ nI N ≤ nI i := nI_ge hi (by omega)
  have ci : nI i ≤ nI i := nI_le (Nat.le_refl _) (by omega)
  have c6 : vp_in (nI a) 6 := vp_in_nI ha2 (by decide)
  by_cases z : hv (nI a).toNatClampNeg = 0
  · refine ⟨g, sd + 1, da, ag, fv, hv, rg, mt, ens, ch, by omega, hg2, hF, hE, fun post m hp => ?_, fun post hp => ?_⟩
    · exact br_f cn (br_t ci (nm_e ⟨i1, nm_r (v1.trans ha) ⟨i2, nm_r v2 ⟨i0, nm_r (v0.trans hw) (br_f (by decide) (br_f (by decide) (br_f (by decide) (br_f (by decide) (br_f (by decide) (br_t rfl (⟨c6, br_t z (sx_jj (by omega) (g3.trans hg) hp)⟩)))))))⟩⟩⟩))
    · exact ⟨w0, nm_r (u1.trans ha) ⟨w0, nm_r u2 (nm_e ⟨w0, nm_r (u0.trans hw) (br_f (by decide) (br_f (by decide) (br_f (by decide) (br_f (by decide) (br_f (by decide) (br_t rfl (⟨c6, br_t z ⟨w0, by rw [u3, hg]; exact hp⟩⟩)))))))⟩)⟩⟩
  · refine ⟨i + 1, sd + 1, da, ag, fv, hv, rg, mt, ens, ch, by omega, by omega, hF, hE, fun post m hp => ?_, fun post hp => ?_⟩
    · exact br_f cn (br_t ci (nm_e ⟨i1, nm_r (v1.trans ha) ⟨i2, nm_r v2 ⟨i0, nm_r (v0.trans hw) (br_f (by decide) (br_f (by decide) (br_f (by decide) (br_f (by decide) (br_f (by decide) (br_t rfl (⟨c6, br_f z (sx_nj hp)⟩)))))))⟩⟩⟩))
    · exact ⟨w0, nm_r (u1.trans ha) ⟨w0, nm_r u2 (nm_e ⟨w0, nm_r (u0.trans hw) (br_f (by decide) (br_f (by decide) (br_f (by decide) (br_f (by decide) (br_f (by decide) (br_t rfl (⟨c6, br_f z (by rw [nI_1]; exact hp)⟩)))))))⟩)⟩⟩
theorem sd_s4 {i N Z : Nat} {g : Nat} {a b : Nat} (hF : sd_F fw fv hv) (hE : sd_E kf kk th ens mm ra ac ea eb ch) (hO : sd_O ops opn ow oq ox) (hA : ∀ i, i < 16 → sps (i * 4) = sw i ∧ sps (i * 4 + 1) = sa i ∧ sps (i * 4 + 2) = sz i ∧ sps (i * 4 + 3) = sg i) (hN : N ≤ 16) (hi : i < N) (hZ : Z ≤ 16) (hz : pz 49 = nI Z) (hw : sw i = nI 4) (hg : sg i = nI g) (hg1 : i < g) (hg2 : g ≤ 16) (ha : sa i = nI a) (ha2 : a < 28) (hb : sz i = nI b) (hb2 : b < 28) : ∃ (j : Nat) (sd' da' ag' : Int32) (fv' hv' rg' mt' ens' ch' : Nat → Int32), i + 1 ≤ j ∧ j ≤ 16 ∧ sd_F fw fv' hv' ∧ sd_E kf kk th ens' mm ra ac ea eb ch' ∧ (∀ (post : SX → Prop) (m : Nat), wX_doSteps_14 post m (nI j) (nI (i + 1)) (nI N) oc bt bb da' ag' lo tp sb sd' tk fw fv' hv' sts ops opn rg' kf kk th ens' mv mm sps ho pb pz rc mr md mt' gp qc qq qe lc tq → wX_doSteps_14 post (m + 1) (nI i) (nI i) (nI N) oc bt bb da ag lo tp sb sd tk fw fv hv sts ops opn rg kf kk th ens mv mm sps ho pb pz rc mr md mt gp qc qq qe lc tq) ∧ (∀ post : Int32 → SY → Prop, post (nI j) ((nI N), oc, tl, (nI (8 * Z)), bt, ma, ol, tp, sb, sd', tk, da', ag', gl, fw, fv', hv', ta, lk, go, ca, cv, cm, cg, opn, ow, oq, ox, rg', sw, sa, sz, sg, ho, kf, kk, ra, ac, ea, eb, ch', th, mv, mm, ty, bi, mk, rc, mr, md, mt', gp, yb, le, qc, qe, qq, tq, lc, gt) → wpY_go post ((nI N), oc, tl, (nI (8 * Z)), bt, ma, ol, tp, sb, sd, tk, da, ag, gl, fw, fv, hv, ta, lk, go, ca, cv, cm, cg, opn, ow, oq, ox, rg, sw, sa, sz, sg, ho, kf, kk, ra, ac, ea, eb, ch, th, mv, mm, ty, bi, mk, rc, mr, md, mt, gp, yb, le, qc, qe, qq, tq, lc, gt) (nI i)) := by
  obtain ⟨g0, g1, g2, g3⟩ := hA i (by omega)
  have e0 : nI i * 4 = nI (i * 4) := pk_mul i 4
  have e1 : nI i * 4 + 1 = nI (i * 4 + 1) := sd_ma i 4 1
  have e2 : nI i * 4 + 2 = nI (i * 4 + 2) := sd_ma i 4 2
  have i0 : vp_in (nI i * 4) 64 := by rw [e0]; exact vp_in_nI (by omega) (by decide)
  have i1 : vp_in (nI i * 4 + 1) 64 := by rw [e1]; exact vp_in_nI (by omega) (by decide)
  have i2 : vp_in (nI i * 4 + 2) 64 := by rw [e2]; exact vp_in_nI (by omega) (by decide)
  have v0 : sps (nI i * 4).toNatClampNeg = sw i := by rw [e0, nI_clamp (by omega)]; exact g0
  have v1 : sps (nI i * 4 + 1).toNatClampNeg = sa i := by rw [e1, nI_clamp (by omega)]; exact g1
  have v2 : sps (nI i * 4 + 2).toNatClampNeg = sz i := by rw [e2, nI_clamp (by omega)]; exact g2
  have w0 : vp_in (nI i) 16 := vp_in_nI (by omega) (by decide)
  have u0 : sw (nI i).toNatClampNeg = sw i := by rw [nI_clamp (by omega)]
  have u1 : sa (nI i).toNatClampNeg = sa i := by rw [nI_clamp (by omega)]
  have u2 : sz (nI i).toNatClampNeg = sz i := by rw [nI_clamp (by omega)]
  have u3 : sg (nI i).toNatClampNeg = sg i := by rw [nI_clamp (by omega)]
  have cn : ¬ nI N ≤ nI i := nI_ge hi (by omega)
  have ci : nI i ≤ nI i := nI_le (Nat.le_refl _) (by omega)
  have c28 : vp_in (nI a) 28 := vp_in_nI ha2 (by decide)
  have d28 : vp_in (nI b) 28 := vp_in_nI hb2 (by decide)
  by_cases z : fv (nI a).toNatClampNeg < fv (nI b).toNatClampNeg
  · refine ⟨i + 1, sd + 1, da, ag, fv, hv, rg, mt, ens, ch, by omega, by omega, hF, hE, fun post m hp => ?_, fun post hp => ?_⟩
    · exact br_f cn (br_t ci (nm_e ⟨i1, nm_r (v1.trans ha) ⟨i2, nm_r (v2.trans hb) ⟨i0, nm_r (v0.trans hw) (br_f (by decide) (br_f (by decide) (br_f (by decide) (br_f (by decide) (br_f (by decide) (br_f (by decide) (br_t rfl (⟨c28, d28, br_t z (sx_nj hp)⟩))))))))⟩⟩⟩))
    · exact ⟨w0, nm_r (u1.trans ha) ⟨w0, nm_r (u2.trans hb) (nm_e ⟨w0, nm_r (u0.trans hw) (br_f (by decide) (br_f (by decide) (br_f (by decide) (br_f (by decide) (br_f (by decide) (br_f (by decide) (br_t rfl (⟨c28, d28, br_f (Int32.not_le.mpr z) (by rw [nI_1]; exact hp)⟩))))))))⟩)⟩⟩
  · refine ⟨g, sd + 1, da, ag, fv, hv, rg, mt, ens, ch, by omega, hg2, hF, hE, fun post m hp => ?_, fun post hp => ?_⟩
    · exact br_f cn (br_t ci (nm_e ⟨i1, nm_r (v1.trans ha) ⟨i2, nm_r (v2.trans hb) ⟨i0, nm_r (v0.trans hw) (br_f (by decide) (br_f (by decide) (br_f (by decide) (br_f (by decide) (br_f (by decide) (br_f (by decide) (br_t rfl (⟨c28, d28, br_f z (sx_jj (by omega) (g3.trans hg) hp)⟩))))))))⟩⟩⟩))
    · exact ⟨w0, nm_r (u1.trans ha) ⟨w0, nm_r (u2.trans hb) (nm_e ⟨w0, nm_r (u0.trans hw) (br_f (by decide) (br_f (by decide) (br_f (by decide) (br_f (by decide) (br_f (by decide) (br_f (by decide) (br_t rfl (⟨c28, d28, br_t (Int32.not_lt.mp z) ⟨w0, by rw [u3, hg]; exact hp⟩⟩))))))))⟩)⟩⟩
theorem sd_s1 {i N Z : Nat} {a : Nat} (hF : sd_F fw fv hv) (hE : sd_E kf kk th ens mm ra ac ea eb ch) (hO : sd_O ops opn ow oq ox) (hA : ∀ i, i < 16 → sps (i * 4) = sw i ∧ sps (i * 4 + 1) = sa i ∧ sps (i * 4 + 2) = sz i ∧ sps (i * 4 + 3) = sg i) (hN : N ≤ 16) (hi : i < N) (hZ : Z ≤ 16) (hz : pz 49 = nI Z) (hw : sw i = nI 1) (ha : sa i = nI a) (ha2 : a < 8) : ∃ (j : Nat) (sd' da' ag' : Int32) (fv' hv' rg' mt' ens' ch' : Nat → Int32), i + 1 ≤ j ∧ j ≤ 16 ∧ sd_F fw fv' hv' ∧ sd_E kf kk th ens' mm ra ac ea eb ch' ∧ (∀ (post : SX → Prop) (m : Nat), wX_doSteps_14 post m (nI j) (nI (i + 1)) (nI N) oc bt bb da' ag' lo tp sb sd' tk fw fv' hv' sts ops opn rg' kf kk th ens' mv mm sps ho pb pz rc mr md mt' gp qc qq qe lc tq → wX_doSteps_14 post (m + 1) (nI i) (nI i) (nI N) oc bt bb da ag lo tp sb sd tk fw fv hv sts ops opn rg kf kk th ens mv mm sps ho pb pz rc mr md mt gp qc qq qe lc tq) ∧ (∀ post : Int32 → SY → Prop, post (nI j) ((nI N), oc, tl, (nI (8 * Z)), bt, ma, ol, tp, sb, sd', tk, da', ag', gl, fw, fv', hv', ta, lk, go, ca, cv, cm, cg, opn, ow, oq, ox, rg', sw, sa, sz, sg, ho, kf, kk, ra, ac, ea, eb, ch', th, mv, mm, ty, bi, mk, rc, mr, md, mt', gp, yb, le, qc, qe, qq, tq, lc, gt) → wpY_go post ((nI N), oc, tl, (nI (8 * Z)), bt, ma, ol, tp, sb, sd, tk, da, ag, gl, fw, fv, hv, ta, lk, go, ca, cv, cm, cg, opn, ow, oq, ox, rg, sw, sa, sz, sg, ho, kf, kk, ra, ac, ea, eb, ch, th, mv, mm, ty, bi, mk, rc, mr, md, mt, gp, yb, le, qc, qe, qq, tq, lc, gt) (nI i)) := by
  obtain ⟨g0, g1, g2, g3⟩ := hA i (by omega)
  have e0 : nI i * 4 = nI (i * 4) := pk_mul i 4
  have e1 : nI i * 4 + 1 = nI (i * 4 + 1) := sd_ma i 4 1
  have e2 : nI i * 4 + 2 = nI (i * 4 + 2) := sd_ma i 4 2
  have i0 : vp_in (nI i * 4) 64 := by rw [e0]; exact vp_in_nI (by omega) (by decide)
  have i1 : vp_in (nI i * 4 + 1) 64 := by rw [e1]; exact vp_in_nI (by omega) (by decide)
  have i2 : vp_in (nI i * 4 + 2) 64 := by rw [e2]; exact vp_in_nI (by omega) (by decide)
  have v0 : sps (nI i * 4).toNatClampNeg = sw i := by rw [e0, nI_clamp (by omega)]; exact g0
  have v1 : sps (nI i * 4 + 1).toNatClampNeg = sa i := by rw [e1, nI_clamp (by omega)]; exact g1
  have v2 : sps (nI i * 4 + 2).toNatClampNeg = sz i := by rw [e2, nI_clamp (by omega)]; exact g2
  have w0 : vp_in (nI i) 16 := vp_in_nI (by omega) (by decide)
  have u0 : sw (nI i).toNatClampNeg = sw i := by rw [nI_clamp (by omega)]
  have u1 : sa (nI i).toNatClampNeg = sa i := by rw [nI_clamp (by omega)]
  have u2 : sz (nI i).toNatClampNeg = sz i := by rw [nI_clamp (by omega)]
  have u3 : sg (nI i).toNatClampNeg = sg i := by rw [nI_clamp (by omega)]
  have cn : ¬ nI N ≤ nI i := nI_ge hi (by omega)
  have ci : nI i ≤ nI i := nI_le (Nat.le_refl _) (by omega)
  obtain ⟨da', ag', fv', hv', rg', mt', k1, k2, k3⟩ := sd_actw (sc := (nI N)) (oc := oc) (bt := bt) (bb := bb) (da := da) (ag := ag) (lo := lo) (tp := tp) (sb := sb) (sd := (sd + 1)) (tk := tk) (fw := fw) (fv := fv) (hv := hv) (sts := sts) (ops := ops) (opn := opn) (rg := rg) (kf := kf) (kk := kk) (th := th) (ens := ens) (mv := mv) (mm := mm) (sps := sps) (ho := ho) (pb := pb) (pz := pz) (rc := rc) (mr := mr) (md := md) (mt := mt) (gp := gp) (qc := qc) (qq := qq) (qe := qe) (lc := lc) (tq := tq) (tl := tl) (ma := ma) (ol := ol) (gl := gl) (ta := ta) (lk := lk) (go := go) (ca := ca) (cv := cv) (cm := cm) (cg := cg) (ow := ow) (oq := oq) (ox := ox) (sw := sw) (sa := sa) (sz := sz) (sg := sg) (ra := ra) (ac := ac) (ea := ea) (eb := eb) (ch := ch) (ty := ty) (bi := bi) (mk := mk) (yb := yb) (le := le) (gt := gt) (p := sz i) (q := 0) hF hO hZ hz ha2
  refine ⟨i + 1, sd + 1, da', ag', fv', hv', rg', mt', ens, ch, by omega, by omega, k1, hE, fun post m hp => ?_, fun post hp => ?_⟩
  · exact br_f cn (br_t ci (nm_e ⟨i1, nm_r (v1.trans ha) ⟨i2, nm_r v2 ⟨i0, nm_r (v0.trans hw) (br_f (by decide) (br_f (by decide) (br_f (by decide) (br_t rfl (k2 _ (sx_nj hp))))))⟩⟩⟩))
  · exact ⟨w0, nm_r (u1.trans ha) ⟨w0, nm_r u2 (nm_e ⟨w0, nm_r (u0.trans hw) (br_f (by decide) (br_f (by decide) (br_f (by decide) (br_t rfl (k3 _ (by rw [nI_1]; exact hp))))))⟩)⟩⟩
theorem sd_s0 {i N Z : Nat} {g : Nat} {t : Nat} (hF : sd_F fw fv hv) (hE : sd_E kf kk th ens mm ra ac ea eb ch) (hO : sd_O ops opn ow oq ox) (hA : ∀ i, i < 16 → sps (i * 4) = sw i ∧ sps (i * 4 + 1) = sa i ∧ sps (i * 4 + 2) = sz i ∧ sps (i * 4 + 3) = sg i) (hN : N ≤ 16) (hi : i < N) (hZ : Z ≤ 16) (hz : pz 49 = nI Z) (hw : sw i = nI 0) (hg : sg i = nI g) (hg1 : i < g) (hg2 : g ≤ 16) (ht : sa i = nI t) (ht2 : t < 4) : ∃ (j : Nat) (sd' da' ag' : Int32) (fv' hv' rg' mt' ens' ch' : Nat → Int32), i + 1 ≤ j ∧ j ≤ 16 ∧ sd_F fw fv' hv' ∧ sd_E kf kk th ens' mm ra ac ea eb ch' ∧ (∀ (post : SX → Prop) (m : Nat), wX_doSteps_14 post m (nI j) (nI (i + 1)) (nI N) oc bt bb da' ag' lo tp sb sd' tk fw fv' hv' sts ops opn rg' kf kk th ens' mv mm sps ho pb pz rc mr md mt' gp qc qq qe lc tq → wX_doSteps_14 post (m + 1) (nI i) (nI i) (nI N) oc bt bb da ag lo tp sb sd tk fw fv hv sts ops opn rg kf kk th ens mv mm sps ho pb pz rc mr md mt gp qc qq qe lc tq) ∧ (∀ post : Int32 → SY → Prop, post (nI j) ((nI N), oc, tl, (nI (8 * Z)), bt, ma, ol, tp, sb, sd', tk, da', ag', gl, fw, fv', hv', ta, lk, go, ca, cv, cm, cg, opn, ow, oq, ox, rg', sw, sa, sz, sg, ho, kf, kk, ra, ac, ea, eb, ch', th, mv, mm, ty, bi, mk, rc, mr, md, mt', gp, yb, le, qc, qe, qq, tq, lc, gt) → wpY_go post ((nI N), oc, tl, (nI (8 * Z)), bt, ma, ol, tp, sb, sd, tk, da, ag, gl, fw, fv, hv, ta, lk, go, ca, cv, cm, cg, opn, ow, oq, ox, rg, sw, sa, sz, sg, ho, kf, kk, ra, ac, ea, eb, ch, th, mv, mm, ty, bi, mk, rc, mr, md, mt, gp, yb, le, qc, qe, qq, tq, lc, gt) (nI i)) := by
  obtain ⟨g0, g1, g2, g3⟩ := hA i (by omega)
  have e0 : nI i * 4 = nI (i * 4) := pk_mul i 4
  have e1 : nI i * 4 + 1 = nI (i * 4 + 1) := sd_ma i 4 1
  have e2 : nI i * 4 + 2 = nI (i * 4 + 2) := sd_ma i 4 2
  have i0 : vp_in (nI i * 4) 64 := by rw [e0]; exact vp_in_nI (by omega) (by decide)
  have i1 : vp_in (nI i * 4 + 1) 64 := by rw [e1]; exact vp_in_nI (by omega) (by decide)
  have i2 : vp_in (nI i * 4 + 2) 64 := by rw [e2]; exact vp_in_nI (by omega) (by decide)
  have v0 : sps (nI i * 4).toNatClampNeg = sw i := by rw [e0, nI_clamp (by omega)]; exact g0
  have v1 : sps (nI i * 4 + 1).toNatClampNeg = sa i := by rw [e1, nI_clamp (by omega)]; exact g1
  have v2 : sps (nI i * 4 + 2).toNatClampNeg = sz i := by rw [e2, nI_clamp (by omega)]; exact g2
  have w0 : vp_in (nI i) 16 := vp_in_nI (by omega) (by decide)
  have u0 : sw (nI i).toNatClampNeg = sw i := by rw [nI_clamp (by omega)]
  have u1 : sa (nI i).toNatClampNeg = sa i := by rw [nI_clamp (by omega)]
  have u2 : sz (nI i).toNatClampNeg = sz i := by rw [nI_clamp (by omega)]
  have u3 : sg (nI i).toNatClampNeg = sg i := by rw [nI_clamp (by omega)]
  have cn : ¬ nI N ≤ nI i := nI_ge hi (by omega)
  have ci : nI i ≤ nI i := nI_le (Nat.le_refl _) (by omega)
  obtain ⟨xc, row, hr, c2, c3⟩ := sd_choose (sc := (nI N)) (oc := oc) (bt := bt) (bb := bb) (da := da) (ag := ag) (lo := lo) (tp := tp) (sb := sb) (sd := (sd + 1)) (tk := tk) (fw := fw) (fv := fv) (hv := hv) (sts := sts) (ops := ops) (opn := opn) (rg := rg) (kf := kf) (kk := kk) (th := th) (ens := ens) (mv := mv) (mm := mm) (sps := sps) (ho := ho) (pb := pb) (pz := pz) (rc := rc) (mr := mr) (md := md) (mt := mt) (gp := gp) (qc := qc) (qq := qq) (qe := qe) (lc := lc) (tq := tq) (tl := tl) (tt := (nI (8 * Z))) (ma := ma) (ol := ol) (dr := da) (ay := ag) (gl := gl) (ta := ta) (lk := lk) (go := go) (ca := ca) (cv := cv) (cm := cm) (cg := cg) (ow := ow) (oq := oq) (ox := ox) (sw := sw) (sa := sa) (sz := sz) (sg := sg) (ra := ra) (ac := ac) (ea := ea) (eb := eb) (ch := ch) (ty := ty) (bi := bi) (mk := mk) (yb := yb) (le := le) (gt := gt) hE hF ht2
  have hrow : row < 52 := by
    rcases hr with ⟨_, h⟩ | ⟨e', h0, _, h⟩
    · omega
    · omega
  obtain ⟨⟨r0, r1, r2, r3, r4⟩, r5, ⟨a, ha, r6⟩⟩ := hE.2.2.1 row hrow
  obtain ⟨da', ag', fv', hv', rg', mt', k1, k2, k3⟩ := sd_actw (sc := (nI N)) (oc := oc) (bt := bt) (bb := bb) (da := da) (ag := ag) (lo := lo) (tp := tp) (sb := sb) (sd := (sd + 1)) (tk := tk) (fw := fw) (fv := fv) (hv := hv) (sts := sts) (ops := ops) (opn := opn) (rg := rg) (kf := kf) (kk := kk) (th := th) (ens := (upd ens (row * 5 + 4) (ch row + 1))) (mv := mv) (mm := mm) (sps := sps) (ho := ho) (pb := pb) (pz := pz) (rc := rc) (mr := mr) (md := md) (mt := mt) (gp := gp) (qc := qc) (qq := qq) (qe := qe) (lc := lc) (tq := tq) (tl := tl) (ma := ma) (ol := ol) (gl := gl) (ta := ta) (lk := lk) (go := go) (ca := ca) (cv := cv) (cm := cm) (cg := cg) (ow := ow) (oq := oq) (ox := ox) (sw := sw) (sa := sa) (sz := sz) (sg := sg) (ra := ra) (ac := ac) (ea := ea) (eb := eb) (ch := (upd ch row (ch row + 1))) (ty := ty) (bi := bi) (mk := mk) (yb := yb) (le := le) (gt := gt) (p := ea row) (q := eb row) hF hO hZ hz ha
  have m1 : nI (row * 5) + 1 = nI (row * 5 + 1) := nI_add _ 1
  have m2 : nI (row * 5) + 2 = nI (row * 5 + 2) := nI_add _ 2
  have m3 : nI (row * 5) + 3 = nI (row * 5 + 3) := nI_add _ 3
  have m4 : nI (row * 5) + 4 = nI (row * 5 + 4) := nI_add _ 4
  have q1 : upd ens (row * 5 + 4) (ch row + 1) (row * 5 + 1) = nI a := by rw [pk_un (by omega), r1, r6]
  have q2 : upd ens (row * 5 + 4) (ch row + 1) (row * 5 + 2) = ea row := by rw [pk_un (by omega), r2]
  have q3 : upd ens (row * 5 + 4) (ch row + 1) (row * 5 + 3) = eb row := by rw [pk_un (by omega), r3]
  have i260 : ∀ c, c < 5 → vp_in (nI (row * 5 + c)) 260 := fun c hc => vp_in_nI (by omega) (by decide)
  have i52 : vp_in (nI row) 52 := vp_in_nI hrow (by decide)
  have X : ∀ (post : SX → Prop) (m : Nat), wX_doSteps_265 post (wX_doSteps_14 post m) (nI i) (if xc = -1 then 1 else 0) (nI N) oc bt bb da' ag' lo tp sb (sd + 1) tk fw fv' hv' sts ops opn rg' kf kk th (upd ens (row * 5 + 4) (ch row + 1)) mv mm sps ho pb pz rc mr md mt' gp qc qq qe lc tq → wX_doSteps_14 post (m + 1) (nI i) (nI i) (nI N) oc bt bb da ag lo tp sb sd tk fw fv hv sts ops opn rg kf kk th ens mv mm sps ho pb pz rc mr md mt gp qc qq qe lc tq := by
    intro post m hp
    refine br_f cn (br_t ci (nm_e ⟨i1, nm_r (v1.trans ht) ⟨i2, nm_r v2 ⟨i0, nm_r (v0.trans hw) (br_f (by decide) (br_f (by decide) (br_t rfl (c2 _ (sx_row ht2 hr (nm_r (pk_mul row 5) ?_))))))⟩⟩⟩))
    rw [m1, m2, m3, m4, nI_clamp (n := row * 5 + 4) (by omega), nI_clamp (n := row * 5 + 1) (by omega), nI_clamp (n := row * 5 + 2) (by omega), nI_clamp (n := row * 5 + 3) (by omega), r4]
    refine ⟨i260 4 (by omega), i260 4 (by omega), nm_e ⟨i260 1 (by omega), i260 2 (by omega), i260 3 (by omega), ?_⟩⟩
    rw [q1, q2, q3]
    refine k2 _ (br_c (fun z => ?_) (fun z => ?_))
    · rw [if_pos z] at hp; exact hp
    · rw [if_neg z] at hp; exact hp
  have Y : ∀ post : Int32 → SY → Prop, (row % 13 = 12 → post (sg i) ((nI N), oc, tl, (nI (8 * Z)), bt, ma, ol, tp, sb, (sd + 1), tk, da', ag', gl, fw, fv', hv', ta, lk, go, ca, cv, cm, cg, opn, ow, oq, ox, rg', sw, sa, sz, sg, ho, kf, kk, ra, ac, ea, eb, (upd ch row (ch row + 1)), th, mv, mm, ty, bi, mk, rc, mr, md, mt', gp, yb, le, qc, qe, qq, tq, lc, gt)) → (¬ row % 13 = 12 → post (nI (i + 1)) ((nI N), oc, tl, (nI (8 * Z)), bt, ma, ol, tp, sb, (sd + 1), tk, da', ag', gl, fw, fv', hv', ta, lk, go, ca, cv, cm, cg, opn, ow, oq, ox, rg', sw, sa, sz, sg, ho, kf, kk, ra, ac, ea, eb, (upd ch row (ch row + 1)), th, mv, mm, ty, bi, mk, rc, mr, md, mt', gp, yb, le, qc, qe, qq, tq, lc, gt)) → wpY_go post ((nI N), oc, tl, (nI (8 * Z)), bt, ma, ol, tp, sb, sd, tk, da, ag, gl, fw, fv, hv, ta, lk, go, ca, cv, cm, cg, opn, ow, oq, ox, rg, sw, sa, sz, sg, ho, kf, kk, ra, ac, ea, eb, ch, th, mv, mm, ty, bi, mk, rc, mr, md, mt, gp, yb, le, qc, qe, qq, tq, lc, gt) (nI i) := by
    intro post h1 h0
    refine ⟨w0, nm_r (u1.trans ht) ⟨w0, nm_r u2 (nm_e ⟨w0, nm_r (u0.trans hw) (br_f (by decide) (br_f (by decide) (br_t rfl (c3 _ ?_))))⟩)⟩⟩
    have er : nI row - nI row / 13 * 13 = nI (row % 13) := pk_rem (d := 13) (by omega) (by decide) (by decide)
    rw [nI_clamp (n := row) (by omega), r6, er]
    refine ⟨i52, i52, nm_e ⟨i52, i52, i52, k3 _ ⟨by decide, pk_eq (row % 13) 12 (fun z => ⟨w0, ?_⟩) (fun z => ?_)⟩⟩⟩
    · rw [u3]; exact h1 z
    · rw [nI_1]; exact h0 z
  rcases hr with ⟨hc, hrw⟩ | ⟨e', he', hc, hrw⟩
  · refine ⟨g, sd + 1, da', ag', fv', hv', rg', mt', upd ens (row * 5 + 4) (ch row + 1), upd ch row (ch row + 1), by omega, hg2, k1, sd_Et hE hrow, fun post m hp => X post m ?_, fun post hp => Y post (fun _ => by rw [hg]; exact hp) (fun z => absurd z (by omega))⟩
    rw [if_pos hc]
    exact sx_jj (by omega) (g3.trans hg) hp
  · refine ⟨i + 1, sd + 1, da', ag', fv', hv', rg', mt', upd ens (row * 5 + 4) (ch row + 1), upd ch row (ch row + 1), by omega, by omega, k1, sd_Et hE hrow, fun post m hp => X post m ?_, fun post hp => Y post (fun z => absurd z (by omega)) (fun _ => hp)⟩
    rw [if_neg (by rw [hc]; exact sd_ne (by omega))]
    exact sx_nj hp
theorem sd_s {i N Z : Nat} (hF : sd_F fw fv hv) (hE : sd_E kf kk th ens mm ra ac ea eb ch) (hO : sd_O ops opn ow oq ox) (hA : ∀ i, i < 16 → sps (i * 4) = sw i ∧ sps (i * 4 + 1) = sa i ∧ sps (i * 4 + 2) = sz i ∧ sps (i * 4 + 3) = sg i) (hN : N ≤ 16) (hi : i < N) (hZ : Z ≤ 16) (hz : pz 49 = nI Z) (hs : sd_sp i (sw i) (sa i) (sz i) (sg i)) : ∃ (j : Nat) (sd' da' ag' : Int32) (fv' hv' rg' mt' ens' ch' : Nat → Int32), i + 1 ≤ j ∧ j ≤ 16 ∧ sd_F fw fv' hv' ∧ sd_E kf kk th ens' mm ra ac ea eb ch' ∧ (∀ (post : SX → Prop) (m : Nat), wX_doSteps_14 post m (nI j) (nI (i + 1)) (nI N) oc bt bb da' ag' lo tp sb sd' tk fw fv' hv' sts ops opn rg' kf kk th ens' mv mm sps ho pb pz rc mr md mt' gp qc qq qe lc tq → wX_doSteps_14 post (m + 1) (nI i) (nI i) (nI N) oc bt bb da ag lo tp sb sd tk fw fv hv sts ops opn rg kf kk th ens mv mm sps ho pb pz rc mr md mt gp qc qq qe lc tq) ∧ (∀ post : Int32 → SY → Prop, post (nI j) ((nI N), oc, tl, (nI (8 * Z)), bt, ma, ol, tp, sb, sd', tk, da', ag', gl, fw, fv', hv', ta, lk, go, ca, cv, cm, cg, opn, ow, oq, ox, rg', sw, sa, sz, sg, ho, kf, kk, ra, ac, ea, eb, ch', th, mv, mm, ty, bi, mk, rc, mr, md, mt', gp, yb, le, qc, qe, qq, tq, lc, gt) → wpY_go post ((nI N), oc, tl, (nI (8 * Z)), bt, ma, ol, tp, sb, sd, tk, da, ag, gl, fw, fv, hv, ta, lk, go, ca, cv, cm, cg, opn, ow, oq, ox, rg, sw, sa, sz, sg, ho, kf, kk, ra, ac, ea, eb, ch, th, mv, mm, ty, bi, mk, rc, mr, md, mt, gp, yb, le, qc, qe, qq, tq, lc, gt) (nI i)) := by
  obtain ⟨n, h1, hw, h2, h3, h4, h5, h6, h7⟩ := hs
  have : n = 0 ∨ n = 1 ∨ n = 2 ∨ n = 3 ∨ n = 4 ∨ n = 5 := by omega
  rcases this with rfl | rfl | rfl | rfl | rfl | rfl
  · obtain ⟨t, ht2, ht⟩ := h2 rfl
    obtain ⟨g, hg1, hg2, hg⟩ := h7 (by omega)
    exact sd_s0 hF hE hO hA hN hi hZ hz hw hg hg1 hg2 ht ht2
  · obtain ⟨a, ha2, ha⟩ := h3 rfl
    exact sd_s1 hF hE hO hA hN hi hZ hz hw ha ha2
  · obtain ⟨a, ha2, ha⟩ := h4 (by omega)
    obtain ⟨g, hg1, hg2, hg⟩ := h7 (by omega)
    exact sd_s2 hF hE hO hA hN hi hZ hz hw hg hg1 hg2 ha ha2
  · obtain ⟨a, ha2, ha⟩ := h5 rfl
    obtain ⟨g, hg1, hg2, hg⟩ := h7 (by omega)
    exact sd_s3 hF hE hO hA hN hi hZ hz hw hg hg1 hg2 ha ha2
  · obtain ⟨a, ha2, ha⟩ := h4 (by omega)
    obtain ⟨b, hb2, hb⟩ := h6 rfl
    obtain ⟨g, hg1, hg2, hg⟩ := h7 (by omega)
    exact sd_s4 hF hE hO hA hN hi hZ hz hw hg hg1 hg2 ha ha2 hb hb2
  · obtain ⟨g, hg1, hg2, hg⟩ := h7 (by omega)
    exact sd_s5 hF hE hO hA hN hi hZ hz hw hg hg1 hg2
/-- all steps, both sides at once -/
theorem sd_steps {N Z : Nat} (hO : sd_O ops opn ow oq ox) (hA : ∀ i, i < 16 → sps (i * 4) = sw i ∧ sps (i * 4 + 1) = sa i ∧ sps (i * 4 + 2) = sz i ∧ sps (i * 4 + 3) = sg i) (hB : ∀ i, i < N → sd_sp i (sw i) (sa i) (sz i) (sg i)) (hN : N ≤ 16) (hZ : Z ≤ 16) (hz : pz 49 = nI Z) :
    ∀ (d i j : Nat) (sd da ag : Int32) (fv hv rg mt ens ch : Nat → Int32), i + d = N → i ≤ j → j ≤ 16 → sd_F fw fv hv → sd_E kf kk th ens mm ra ac ea eb ch →
    ∃ (sd' da' ag' : Int32) (fv' hv' rg' mt' ens' ch' : Nat → Int32), sd_F fw fv' hv' ∧ sd_E kf kk th ens' mm ra ac ea eb ch' ∧
    (∀ post : SX → Prop, post ((nI N), oc, bt, bb, da', ag', lo, tp, sb, sd', tk, fw, fv', hv', sts, ops, opn, rg', kf, kk, th, ens', mv, mm, sps, ho, pb, pz, rc, mr, md, mt', gp, qc, qq, qe, lc, tq) → wX_doSteps_14 post (d + 1) (nI j) (nI i) (nI N) oc bt bb da ag lo tp sb sd tk fw fv hv sts ops opn rg kf kk th ens mv mm sps ho pb pz rc mr md mt gp qc qq qe lc tq) ∧
    (∀ (post : Int32 → SY → Prop) (m : Nat), d < m → (∀ m' j' : Nat, N ≤ j' → j' ≤ 16 → wY_pass_23 post (m' + 1) (nI j') (nI N) oc tl (nI (8 * Z)) bt ma ol tp sb sd' tk da' ag' gl fw fv' hv' ta lk go ca cv cm cg opn ow oq ox rg' sw sa sz sg ho kf kk ra ac ea eb ch' th mv mm ty bi mk rc mr md mt' gp yb le qc qe qq tq lc gt) → wY_pass_23 post m (nI j) (nI N) oc tl (nI (8 * Z)) bt ma ol tp sb sd tk da ag gl fw fv hv ta lk go ca cv cm cg opn ow oq ox rg sw sa sz sg ho kf kk ra ac ea eb ch th mv mm ty bi mk rc mr md mt gp yb le qc qe qq tq lc gt) := by
  intro d
  induction d with
  | zero =>
    intro i j sd da ag fv hv rg mt ens ch hi hij hj hF hE
    refine ⟨sd, da, ag, fv, hv, rg, mt, ens, ch, hF, hE, fun post hp => br_t (nI_le (by omega) (by omega)) hp, fun post m hm hp => ?_⟩
    obtain ⟨m', rfl⟩ : ∃ m', m = m' + 1 := ⟨m - 1, by omega⟩
    exact hp m' j (by omega) hj
  | succ d ih =>
    intro i j sd da ag fv hv rg mt ens ch hi hij hj hF hE
    by_cases e : i = j
    · subst e
      obtain ⟨j1, sd1, da1, ag1, fv1, hv1, rg1, mt1, ens1, ch1, k1, k2, k3, k4, k5, k6⟩ := sd_s (oc := oc) (bt := bt) (bb := bb) (da := da) (ag := ag) (lo := lo) (tp := tp) (sb := sb) (sd := sd) (tk := tk) (fw := fw) (fv := fv) (hv := hv) (sts := sts) (ops := ops) (opn := opn) (rg := rg) (kf := kf) (kk := kk) (th := th) (ens := ens) (mv := mv) (mm := mm) (sps := sps) (ho := ho) (pb := pb) (pz := pz) (rc := rc) (mr := mr) (md := md) (mt := mt) (gp := gp) (qc := qc) (qq := qq) (qe := qe) (lc := lc) (tq := tq) (tl := tl) (ma := ma) (ol := ol) (gl := gl) (ta := ta) (lk := lk) (go := go) (ca := ca) (cv := cv) (cm := cm) (cg := cg) (ow := ow) (oq := oq) (ox := ox) (sw := sw) (sa := sa) (sz := sz) (sg := sg) (ra := ra) (ac := ac) (ea := ea) (eb := eb) (ch := ch) (ty := ty) (bi := bi) (mk := mk) (yb := yb) (le := le) (gt := gt) hF hE hO hA hN (show i < N by omega) hZ hz (hB i (by omega))
      obtain ⟨sd', da', ag', fv', hv', rg', mt', ens', ch', l1, l2, l3, l4⟩ := ih (i + 1) j1 sd1 da1 ag1 fv1 hv1 rg1 mt1 ens1 ch1 (by omega) k1 k2 k3 k4
      refine ⟨sd', da', ag', fv', hv', rg', mt', ens', ch', l1, l2, fun post hp => k5 post (d + 1) (l3 post hp), fun post m hm hp => ?_⟩
      obtain ⟨m', rfl⟩ : ∃ m', m = m' + 1 := ⟨m - 1, by omega⟩
      exact br_f (nI_ge (by omega) (by omega)) (k6 _ (l4 post m' (by omega) hp))
    · obtain ⟨sd', da', ag', fv', hv', rg', mt', ens', ch', l1, l2, l3, l4⟩ := ih (i + 1) j sd da ag fv hv rg mt ens ch (by omega) (by omega) hj hF hE
      refine ⟨sd', da', ag', fv', hv', rg', mt', ens', ch', l1, l2, fun post hp => br_f (nI_ge (by omega) (by omega)) (br_f (nI_ge (by omega) (by omega)) (nm_r (nI_1 i) (l3 post hp))), fun post m hm hp => l4 post m (by omega) hp⟩
end
end
section
def sd_b (x : Bool) : Int32 := if x then 1 else 0
def sd_b8 (x0 x1 x2 x3 x4 x5 x6 x7 : Bool) : Int32 := (sd_b x0 <<< (nI 7 &&& 31)) ||| (sd_b x1 <<< (nI 6 &&& 31)) ||| (sd_b x2 <<< (nI 5 &&& 31)) ||| (sd_b x3 <<< (nI 4 &&& 31)) ||| (sd_b x4 <<< (nI 3 &&& 31)) ||| (sd_b x5 <<< (nI 2 &&& 31)) ||| (sd_b x6 <<< (nI 1 &&& 31)) ||| (sd_b x7 <<< (nI 0 &&& 31))
theorem sd_b8v0 : ∀ x0 x1 x2 x3 x4 x5 x6 x7 : Bool, sd_bv (sd_b8 x0 x1 x2 x3 x4 x5 x6 x7) 0 = sd_b x0 := by decide +kernel
theorem sd_b8o0 : ∀ x1 x2 x3 x4 x5 x6 x7 y : Bool, sd_b8 false x1 x2 x3 x4 x5 x6 x7 ||| (sd_b y <<< (nI (7 - 0) &&& 31)) = sd_b8 y x1 x2 x3 x4 x5 x6 x7 := by decide +kernel
theorem sd_b8v1 : ∀ x0 x1 x2 x3 x4 x5 x6 x7 : Bool, sd_bv (sd_b8 x0 x1 x2 x3 x4 x5 x6 x7) 1 = sd_b x1 := by decide +kernel
theorem sd_b8o1 : ∀ x0 x2 x3 x4 x5 x6 x7 y : Bool, sd_b8 x0 false x2 x3 x4 x5 x6 x7 ||| (sd_b y <<< (nI (7 - 1) &&& 31)) = sd_b8 x0 y x2 x3 x4 x5 x6 x7 := by decide +kernel
theorem sd_b8v2 : ∀ x0 x1 x2 x3 x4 x5 x6 x7 : Bool, sd_bv (sd_b8 x0 x1 x2 x3 x4 x5 x6 x7) 2 = sd_b x2 := by decide +kernel
theorem sd_b8o2 : ∀ x0 x1 x3 x4 x5 x6 x7 y : Bool, sd_b8 x0 x1 false x3 x4 x5 x6 x7 ||| (sd_b y <<< (nI (7 - 2) &&& 31)) = sd_b8 x0 x1 y x3 x4 x5 x6 x7 := by decide +kernel
theorem sd_b8v3 : ∀ x0 x1 x2 x3 x4 x5 x6 x7 : Bool, sd_bv (sd_b8 x0 x1 x2 x3 x4 x5 x6 x7) 3 = sd_b x3 := by decide +kernel
theorem sd_b8o3 : ∀ x0 x1 x2 x4 x5 x6 x7 y : Bool, sd_b8 x0 x1 x2 false x4 x5 x6 x7 ||| (sd_b y <<< (nI (7 - 3) &&& 31)) = sd_b8 x0 x1 x2 y x4 x5 x6 x7 := by decide +kernel
theorem sd_b8v4 : ∀ x0 x1 x2 x3 x4 x5 x6 x7 : Bool, sd_bv (sd_b8 x0 x1 x2 x3 x4 x5 x6 x7) 4 = sd_b x4 := by decide +kernel
theorem sd_b8o4 : ∀ x0 x1 x2 x3 x5 x6 x7 y : Bool, sd_b8 x0 x1 x2 x3 false x5 x6 x7 ||| (sd_b y <<< (nI (7 - 4) &&& 31)) = sd_b8 x0 x1 x2 x3 y x5 x6 x7 := by decide +kernel
theorem sd_b8v5 : ∀ x0 x1 x2 x3 x4 x5 x6 x7 : Bool, sd_bv (sd_b8 x0 x1 x2 x3 x4 x5 x6 x7) 5 = sd_b x5 := by decide +kernel
theorem sd_b8o5 : ∀ x0 x1 x2 x3 x4 x6 x7 y : Bool, sd_b8 x0 x1 x2 x3 x4 false x6 x7 ||| (sd_b y <<< (nI (7 - 5) &&& 31)) = sd_b8 x0 x1 x2 x3 x4 y x6 x7 := by decide +kernel
theorem sd_b8v6 : ∀ x0 x1 x2 x3 x4 x5 x6 x7 : Bool, sd_bv (sd_b8 x0 x1 x2 x3 x4 x5 x6 x7) 6 = sd_b x6 := by decide +kernel
theorem sd_b8o6 : ∀ x0 x1 x2 x3 x4 x5 x7 y : Bool, sd_b8 x0 x1 x2 x3 x4 x5 false x7 ||| (sd_b y <<< (nI (7 - 6) &&& 31)) = sd_b8 x0 x1 x2 x3 x4 x5 y x7 := by decide +kernel
theorem sd_b8v7 : ∀ x0 x1 x2 x3 x4 x5 x6 x7 : Bool, sd_bv (sd_b8 x0 x1 x2 x3 x4 x5 x6 x7) 7 = sd_b x7 := by decide +kernel
theorem sd_b8o7 : ∀ x0 x1 x2 x3 x4 x5 x6 y : Bool, sd_b8 x0 x1 x2 x3 x4 x5 x6 false ||| (sd_b y <<< (nI (7 - 7) &&& 31)) = sd_b8 x0 x1 x2 x3 x4 x5 x6 y := by decide +kernel
theorem sd_b8a : ∀ x0 x1 x2 x3 x4 x5 x6 x7 : Bool, (2 * (2 * (2 * (2 * (2 * (2 * (2 * (2 * 0 + (if sd_b x0 = 0 then 0 else 1)) + (if sd_b x1 = 0 then 0 else 1)) + (if sd_b x2 = 0 then 0 else 1)) + (if sd_b x3 = 0 then 0 else 1)) + (if sd_b x4 = 0 then 0 else 1)) + (if sd_b x5 = 0 then 0 else 1)) + (if sd_b x6 = 0 then 0 else 1)) + (if sd_b x7 = 0 then 0 else 1)) = sd_b8 x0 x1 x2 x3 x4 x5 x6 x7 := by decide +kernel
theorem sd_b80 : sd_b8 false false false false false false false false = 0 := by decide +kernel
theorem sd_b01 {x : Int32} (h : x = 0 ∨ x = 1) : ∃ y : Bool, x = sd_b y ∧ (x = 1 → y = true) ∧ (¬ x = 1 → y = false) := by
  rcases h with h | h
  · exact ⟨false, h, fun z => absurd (h.symm.trans z) (by decide), fun _ => rfl⟩
  · exact ⟨true, h, fun _ => rfl, fun z => absurd h z⟩
theorem sd_bn (y : Bool) : vp_nar .boolean (sd_b y) = sd_b y := by
  cases y
  · exact sd_b0
  · exact sd_b1
def sd_m8 (m : Nat → Bool) (i : Nat) : Int32 := sd_b8 (m (8 * i + 0)) (m (8 * i + 1)) (m (8 * i + 2)) (m (8 * i + 3)) (m (8 * i + 4)) (m (8 * i + 5)) (m (8 * i + 6)) (m (8 * i + 7))
/-- B bits have been built: Y's bits mk, X's bytes in slot 50 -/
def sd_BI (B : Nat) (pb mk : Nat → Int32) : Prop :=
  ∃ m : Nat → Bool, (∀ j, B ≤ j → m j = false) ∧ (∀ j, j < B → mk j = sd_b (m j)) ∧ (B ≤ 128 → ∀ i, i < 16 → pb (800 + i) = sd_m8 m i)
def sd_ap (pb : Nat → Int32) (B : Nat) (y : Bool) : Nat → Int32 := if B < 128 then upd pb (800 + B / 8) (pb (800 + B / 8) ||| (sd_b y <<< (nI (7 - B % 8) &&& 31))) else pb
def sd_ma' (m : Nat → Bool) (B : Nat) (y : Bool) : Nat → Bool := fun j => if j = B then y else m j
theorem sd_mas {m : Nat → Bool} {B : Nat} {y : Bool} : sd_ma' m B y B = y := if_pos rfl
theorem sd_man {m : Nat → Bool} {B j : Nat} {y : Bool} (h : j ≠ B) : sd_ma' m B y j = m j := if_neg h
theorem sd_m8n {m : Nat → Bool} {B i : Nat} {y : Bool} (h : i ≠ B / 8) : sd_m8 (sd_ma' m B y) i = sd_m8 m i := by
  unfold sd_m8
  rw [sd_man (show 8 * i + 0 ≠ B by omega), sd_man (show 8 * i + 1 ≠ B by omega), sd_man (show 8 * i + 2 ≠ B by omega), sd_man (show 8 * i + 3 ≠ B by omega), sd_man (show 8 * i + 4 ≠ B by omega), sd_man (show 8 * i + 5 ≠ B by omega), sd_man (show 8 * i + 6 ≠ B by omega), sd_man (show 8 * i + 7 ≠ B by omega)]
theorem sd_m8u {m : Nat → Bool} {i r : Nat} {y : Bool} (hr : r < 8) (h : m (8 * i + r) = false) : sd_m8 m i ||| (sd_b y <<< (nI (7 - r) &&& 31)) = sd_m8 (sd_ma' m (8 * i + r) y) i := by
  have : r = 0 ∨ r = 1 ∨ r = 2 ∨ r = 3 ∨ r = 4 ∨ r = 5 ∨ r = 6 ∨ r = 7 := by omega
  unfold sd_m8
  rcases this with rfl | rfl | rfl | rfl | rfl | rfl | rfl | rfl
  · rw [h, sd_mas, sd_man (show 8 * i + 1 ≠ 8 * i + 0 by omega), sd_man (show 8 * i + 2 ≠ 8 * i + 0 by omega), sd_man (show 8 * i + 3 ≠ 8 * i + 0 by omega), sd_man (show 8 * i + 4 ≠ 8 * i + 0 by omega), sd_man (show 8 * i + 5 ≠ 8 * i + 0 by omega), sd_man (show 8 * i + 6 ≠ 8 * i + 0 by omega), sd_man (show 8 * i + 7 ≠ 8 * i + 0 by omega)]
    exact sd_b8o0 _ _ _ _ _ _ _ _
  · rw [h, sd_man (show 8 * i + 0 ≠ 8 * i + 1 by omega), sd_mas, sd_man (show 8 * i + 2 ≠ 8 * i + 1 by omega), sd_man (show 8 * i + 3 ≠ 8 * i + 1 by omega), sd_man (show 8 * i + 4 ≠ 8 * i + 1 by omega), sd_man (show 8 * i + 5 ≠ 8 * i + 1 by omega), sd_man (show 8 * i + 6 ≠ 8 * i + 1 by omega), sd_man (show 8 * i + 7 ≠ 8 * i + 1 by omega)]
    exact sd_b8o1 _ _ _ _ _ _ _ _
  · rw [h, sd_man (show 8 * i + 0 ≠ 8 * i + 2 by omega), sd_man (show 8 * i + 1 ≠ 8 * i + 2 by omega), sd_mas, sd_man (show 8 * i + 3 ≠ 8 * i + 2 by omega), sd_man (show 8 * i + 4 ≠ 8 * i + 2 by omega), sd_man (show 8 * i + 5 ≠ 8 * i + 2 by omega), sd_man (show 8 * i + 6 ≠ 8 * i + 2 by omega), sd_man (show 8 * i + 7 ≠ 8 * i + 2 by omega)]
    exact sd_b8o2 _ _ _ _ _ _ _ _
  · rw [h, sd_man (show 8 * i + 0 ≠ 8 * i + 3 by omega), sd_man (show 8 * i + 1 ≠ 8 * i + 3 by omega), sd_man (show 8 * i + 2 ≠ 8 * i + 3 by omega), sd_mas, sd_man (show 8 * i + 4 ≠ 8 * i + 3 by omega), sd_man (show 8 * i + 5 ≠ 8 * i + 3 by omega), sd_man (show 8 * i + 6 ≠ 8 * i + 3 by omega), sd_man (show 8 * i + 7 ≠ 8 * i + 3 by omega)]
    exact sd_b8o3 _ _ _ _ _ _ _ _
  · rw [h, sd_man (show 8 * i + 0 ≠ 8 * i + 4 by omega), sd_man (show 8 * i + 1 ≠ 8 * i + 4 by omega), sd_man (show 8 * i + 2 ≠ 8 * i + 4 by omega), sd_man (show 8 * i + 3 ≠ 8 * i + 4 by omega), sd_mas, sd_man (show 8 * i + 5 ≠ 8 * i + 4 by omega), sd_man (show 8 * i + 6 ≠ 8 * i + 4 by omega), sd_man (show 8 * i + 7 ≠ 8 * i + 4 by omega)]
    exact sd_b8o4 _ _ _ _ _ _ _ _
  · rw [h, sd_man (show 8 * i + 0 ≠ 8 * i + 5 by omega), sd_man (show 8 * i + 1 ≠ 8 * i + 5 by omega), sd_man (show 8 * i + 2 ≠ 8 * i + 5 by omega), sd_man (show 8 * i + 3 ≠ 8 * i + 5 by omega), sd_man (show 8 * i + 4 ≠ 8 * i + 5 by omega), sd_mas, sd_man (show 8 * i + 6 ≠ 8 * i + 5 by omega), sd_man (show 8 * i + 7 ≠ 8 * i + 5 by omega)]
    exact sd_b8o5 _ _ _ _ _ _ _ _
  · rw [h, sd_man (show 8 * i + 0 ≠ 8 * i + 6 by omega), sd_man (show 8 * i + 1 ≠ 8 * i + 6 by omega), sd_man (show 8 * i + 2 ≠ 8 * i + 6 by omega), sd_man (show 8 * i + 3 ≠ 8 * i + 6 by omega), sd_man (show 8 * i + 4 ≠ 8 * i + 6 by omega), sd_man (show 8 * i + 5 ≠ 8 * i + 6 by omega), sd_mas, sd_man (show 8 * i + 7 ≠ 8 * i + 6 by omega)]
    exact sd_b8o6 _ _ _ _ _ _ _ _
  · rw [h, sd_man (show 8 * i + 0 ≠ 8 * i + 7 by omega), sd_man (show 8 * i + 1 ≠ 8 * i + 7 by omega), sd_man (show 8 * i + 2 ≠ 8 * i + 7 by omega), sd_man (show 8 * i + 3 ≠ 8 * i + 7 by omega), sd_man (show 8 * i + 4 ≠ 8 * i + 7 by omega), sd_man (show 8 * i + 5 ≠ 8 * i + 7 by omega), sd_man (show 8 * i + 6 ≠ 8 * i + 7 by omega), sd_mas]
    exact sd_b8o7 _ _ _ _ _ _ _ _
theorem sd_BIs {B : Nat} {pb mk : Nat → Int32} (h : sd_BI B pb mk) (y : Bool) : sd_BI (B + 1) (sd_ap pb B y) (upd mk B (sd_b y)) := by
  obtain ⟨m, h1, h2, h3⟩ := h
  refine ⟨sd_ma' m B y, fun j hj => ?_, fun j hj => ?_, fun hB i hi => ?_⟩
  · rw [sd_man (by omega)]; exact h1 j (by omega)
  · by_cases e : j = B
    · subst e; rw [pk_us, sd_mas]
    · rw [pk_un e, sd_man e]; exact h2 j (by omega)
  · unfold sd_ap
    rw [if_pos (by omega)]
    by_cases e : i = B / 8
    · have eB : 8 * i + B % 8 = B := by omega
      rw [← e, pk_us, h3 (by omega) i hi, sd_m8u (by omega) (by rw [eB]; exact h1 B (Nat.le_refl _)), eB]
    · rw [pk_un (by omega), sd_m8n e]
      exact h3 (by omega) i hi
theorem sd_BI0 {B : Nat} {pb mk : Nat → Int32} (h : sd_BI B pb mk) : sd_BI (B + 1) pb (upd mk B 0) := by
  obtain ⟨m, h1, h2, h3⟩ := h
  refine ⟨m, fun j hj => h1 j (by omega), fun j hj => ?_, fun hB => h3 (by omega)⟩
  by_cases e : j = B
  · subst e; rw [pk_us, h1 j (Nat.le_refl _)]; rfl
  · rw [pk_un e]; exact h2 j (by omega)
theorem sd_apo {pb : Nat → Int32} {B : Nat} {y : Bool} {j : Nat} (h : j < 800 ∨ 816 ≤ j) : sd_ap pb B y j = pb j := by
  unfold sd_ap
  by_cases z : B < 128
  · rw [if_pos z, pk_un (by omega)]
  · rw [if_neg z]
theorem sd_m8v {m : Nat → Bool} {i r : Nat} (hr : r < 8) : sd_bv (sd_m8 m i) r = sd_b (m (8 * i + r)) := by
  have : r = 0 ∨ r = 1 ∨ r = 2 ∨ r = 3 ∨ r = 4 ∨ r = 5 ∨ r = 6 ∨ r = 7 := by omega
  unfold sd_m8
  rcases this with rfl | rfl | rfl | rfl | rfl | rfl | rfl | rfl
  · exact sd_b8v0 (m (8 * i + 0)) (m (8 * i + 1)) (m (8 * i + 2)) (m (8 * i + 3)) (m (8 * i + 4)) (m (8 * i + 5)) (m (8 * i + 6)) (m (8 * i + 7))
  · exact sd_b8v1 (m (8 * i + 0)) (m (8 * i + 1)) (m (8 * i + 2)) (m (8 * i + 3)) (m (8 * i + 4)) (m (8 * i + 5)) (m (8 * i + 6)) (m (8 * i + 7))
  · exact sd_b8v2 (m (8 * i + 0)) (m (8 * i + 1)) (m (8 * i + 2)) (m (8 * i + 3)) (m (8 * i + 4)) (m (8 * i + 5)) (m (8 * i + 6)) (m (8 * i + 7))
  · exact sd_b8v3 (m (8 * i + 0)) (m (8 * i + 1)) (m (8 * i + 2)) (m (8 * i + 3)) (m (8 * i + 4)) (m (8 * i + 5)) (m (8 * i + 6)) (m (8 * i + 7))
  · exact sd_b8v4 (m (8 * i + 0)) (m (8 * i + 1)) (m (8 * i + 2)) (m (8 * i + 3)) (m (8 * i + 4)) (m (8 * i + 5)) (m (8 * i + 6)) (m (8 * i + 7))
  · exact sd_b8v5 (m (8 * i + 0)) (m (8 * i + 1)) (m (8 * i + 2)) (m (8 * i + 3)) (m (8 * i + 4)) (m (8 * i + 5)) (m (8 * i + 6)) (m (8 * i + 7))
  · exact sd_b8v6 (m (8 * i + 0)) (m (8 * i + 1)) (m (8 * i + 2)) (m (8 * i + 3)) (m (8 * i + 4)) (m (8 * i + 5)) (m (8 * i + 6)) (m (8 * i + 7))
  · exact sd_b8v7 (m (8 * i + 0)) (m (8 * i + 1)) (m (8 * i + 2)) (m (8 * i + 3)) (m (8 * i + 4)) (m (8 * i + 5)) (m (8 * i + 6)) (m (8 * i + 7))
/-- the bits are there again -/
theorem sd_BIv {B : Nat} {pb mk : Nat → Int32} (h : sd_BI B pb mk) (hB : B ≤ 128) {k : Nat} (hk : k < B) : mk k = sd_bv (pb (800 + k / 8)) (k % 8) := by
  obtain ⟨m, h1, h2, h3⟩ := h
  have e : 8 * (k / 8) + k % 8 = k := by omega
  rw [h2 k hk, h3 hB (k / 8) (by omega), sd_m8v (by omega), e]
theorem sd_BIa {B : Nat} {pb mk : Nat → Int32} (h : sd_BI B pb mk) (hB : B ≤ 128) {k : Nat} (hk : 8 * k + 8 ≤ B) : pb (800 + k) = sd_ac mk (8 * k) 8 := by
  obtain ⟨m, h1, h2, h3⟩ := h
  rw [h3 hB k (by omega)]
  unfold sd_m8
  rw [← sd_b8a]
  show _ = sd_ac mk (8 * k) 8
  show _ = (2 * (2 * (2 * (2 * (2 * (2 * (2 * (2 * 0 + (if mk (8 * k + 0) = 0 then 0 else 1)) + (if mk (8 * k + 1) = 0 then 0 else 1)) + (if mk (8 * k + 2) = 0 then 0 else 1)) + (if mk (8 * k + 3) = 0 then 0 else 1)) + (if mk (8 * k + 4) = 0 then 0 else 1)) + (if mk (8 * k + 5) = 0 then 0 else 1)) + (if mk (8 * k + 6) = 0 then 0 else 1)) + (if mk (8 * k + 7) = 0 then 0 else 1))
  rw [h2 (8 * k + 0) (by omega), h2 (8 * k + 1) (by omega), h2 (8 * k + 2) (by omega), h2 (8 * k + 3) (by omega), h2 (8 * k + 4) (by omega), h2 (8 * k + 5) (by omega), h2 (8 * k + 6) (by omega), h2 (8 * k + 7) (by omega)]
end
section
section
variable {sc oc bt bb da ag lo tp sb sd tk : Int32} {fw fv hv sts ops opn rg kf kk th ens mv mm sps ho pb pz rc mr md mt gp qc qq qe lc tq : Nat → Int32} {tl tt ma ol dr ay gl : Int32} {ta lk go ca cv cm cg ow oq ox sw sa sz sg ra ac ea eb ch ty bi mk yb le gt : Nat → Int32}
theorem sx_app {post : SX → Prop} {B : Nat} {y : Bool} (hB : B < 1000) (h : post (sc, oc, bt, (nI (B + 1)), da, ag, lo, tp, sb, sd, tk, fw, fv, hv, sts, ops, opn, rg, kf, kk, th, ens, mv, mm, sps, ho, (sd_ap pb B y), pz, rc, mr, md, mt, gp, qc, qq, qe, lc, tq)) : wpX_appendBit post (sc, oc, bt, (nI B), da, ag, lo, tp, sb, sd, tk, fw, fv, hv, sts, ops, opn, rg, kf, kk, th, ens, mv, mm, sps, ho, pb, pz, rc, mr, md, mt, gp, qc, qq, qe, lc, tq) (sd_b y) := by
  have e2 : nI B - nI B / 8 * 8 = nI (B % 8) := pk_rem (d := 8) (by omega) (by decide) (by decide)
  have e1 : nI B / 8 = nI (B / 8) := pk_div (d := 8) (by omega) (by decide) (by decide)
  have e3 : 7 - nI (B % 8) = nI (7 - B % 8) := pk_sub (a := 7) (by omega)
  have e4 : 800 + nI (B / 8) = nI (800 + B / 8) := nI_add 800 _
  unfold sd_ap at h
  refine pk_le 128 B (fun z => nm_r (nI_1 B) ?_) (fun z => ?_)
  · rw [if_neg (by omega)] at h; exact h
  · rw [if_pos z] at h
    rw [e2, e1, e3, e4, nI_clamp (by omega)]
    exact ⟨by decide, vp_in_nI (by omega) (by decide), by decide, vp_in_nI (by omega) (by decide), nm_e (nm_r (nI_1 B) h)⟩
theorem sy_add {post : SY → Prop} {B : Nat} {y : Bool} (hB : B < 520) (h : post (sc, oc, tl, tt, bt, (nI (B + 1)), ol, tp, sb, sd, tk, dr, ay, gl, fw, fv, hv, ta, lk, go, ca, cv, cm, cg, opn, ow, oq, ox, rg, sw, sa, sz, sg, ho, kf, kk, ra, ac, ea, eb, ch, th, mv, mm, ty, bi, (upd mk B (sd_b y)), rc, mr, md, mt, gp, yb, le, qc, qe, qq, tq, lc, gt)) : wpY_add post (sc, oc, tl, tt, bt, (nI B), ol, tp, sb, sd, tk, dr, ay, gl, fw, fv, hv, ta, lk, go, ca, cv, cm, cg, opn, ow, oq, ox, rg, sw, sa, sz, sg, ho, kf, kk, ra, ac, ea, eb, ch, th, mv, mm, ty, bi, mk, rc, mr, md, mt, gp, yb, le, qc, qe, qq, tq, lc, gt) (sd_b y) := by
  refine nm_r (nI_1 B) ⟨vp_in_nI hB (by decide), ?_⟩
  rw [nI_clamp (by omega), sd_bn]
  exact nm_e h
/-- the bits of one field, both sides at once -/
theorem sd_fb {f : Nat} (hf : f < 28) (hf4 : f / 4 < 6) (hh : ¬ hv (f / 4) = 0) {c k : Nat} : ∀ (r B : Nat) (pb mk : Nat → Int32), r ≤ 16 → B + r ≤ 512 → sd_BI B pb mk →
    ∃ pb' mk' : Nat → Int32, sd_BI (B + r) pb' mk' ∧ (∀ j, (j < 800 ∨ 816 ≤ j) → pb' j = pb j) ∧
    (∀ (post : SX → Prop) (J : Int32 → Int32 → Int32 → Int32 → Int32 → Int32 → Int32 → Int32 → Int32 → Int32 → Int32 → Int32 → (Nat → Int32) → (Nat → Int32) → (Nat → Int32) → (Nat → Int32) → (Nat → Int32) → (Nat → Int32) → (Nat → Int32) → (Nat → Int32) → (Nat → Int32) → (Nat → Int32) → (Nat → Int32) → (Nat → Int32) → (Nat → Int32) → (Nat → Int32) → (Nat → Int32) → (Nat → Int32) → (Nat → Int32) → (Nat → Int32) → (Nat → Int32) → (Nat → Int32) → (Nat → Int32) → (Nat → Int32) → (Nat → Int32) → (Nat → Int32) → (Nat → Int32) → (Nat → Int32) → (Nat → Int32) → Prop) (x1 : Int32), J (nI (c + 1)) sc oc bt (nI (B + r)) da ag lo tp sb sd tk fw fv hv sts ops opn rg kf kk th ens mv mm sps ho pb' pz rc mr md mt gp qc qq qe lc tq → wX_appendHeader_23 post J x1 (nI c) (nI f) (r + 1) (nI r - 1) sc oc bt (nI B) da ag lo tp sb sd tk fw fv hv sts ops opn rg kf kk th ens mv mm sps ho pb pz rc mr md mt gp qc qq qe lc tq) ∧
    (∀ (post : SY → Prop) (J : Int32 → Int32 → Int32 → Int32 → Int32 → Int32 → Int32 → Int32 → Int32 → Int32 → Int32 → Int32 → Int32 → Int32 → Int32 → (Nat → Int32) → (Nat → Int32) → (Nat → Int32) → (Nat → Int32) → (Nat → Int32) → (Nat → Int32) → (Nat → Int32) → (Nat → Int32) → (Nat → Int32) → (Nat → Int32) → (Nat → Int32) → (Nat → Int32) → (Nat → Int32) → (Nat → Int32) → (Nat → Int32) → (Nat → Int32) → (Nat → Int32) → (Nat → Int32) → (Nat → Int32) → (Nat → Int32) → (Nat → Int32) → (Nat → Int32) → (Nat → Int32) → (Nat → Int32) → (Nat → Int32) → (Nat → Int32) → (Nat → Int32) → (Nat → Int32) → (Nat → Int32) → (Nat → Int32) → (Nat → Int32) → (Nat → Int32) → (Nat → Int32) → (Nat → Int32) → (Nat → Int32) → (Nat → Int32) → (Nat → Int32) → (Nat → Int32) → (Nat → Int32) → (Nat → Int32) → (Nat → Int32) → (Nat → Int32) → (Nat → Int32) → (Nat → Int32) → (Nat → Int32) → (Nat → Int32) → Prop), J (nI (k + 1)) sc oc tl tt bt (nI (B + r)) ol tp sb sd tk dr ay gl fw fv hv ta lk go ca cv cm cg opn ow oq ox rg sw sa sz sg ho kf kk ra ac ea eb ch th mv mm ty bi mk' rc mr md mt gp yb le qc qe qq tq lc gt → wY_build_41 post J (nI k) (nI f) (r + 1) (nI r - 1) sc oc tl tt bt (nI B) ol tp sb sd tk dr ay gl fw fv hv ta lk go ca cv cm cg opn ow oq ox rg sw sa sz sg ho kf kk ra ac ea eb ch th mv mm ty bi mk rc mr md mt gp yb le qc qe qq tq lc gt) := by
  intro r
  induction r with
  | zero =>
    intro B pb mk hr hB hI
    have z : nI 0 - 1 < 0 := by decide
    exact ⟨pb, mk, hI, fun _ _ => rfl, fun post J x1 hp => br_t z (nm_r (nI_1 c) hp), fun post J hp => br_t z (nm_r (nI_1 k) hp)⟩
  | succ r ih =>
    intro B pb mk hr hB hI
    obtain ⟨y, hy, hy1, hy0⟩ := sd_b01 (sd_a1 (fv f >>> (nI r &&& 31)))
    obtain ⟨pb', mk', k1, k2, k3, k4⟩ := ih (B + 1) (sd_ap pb B y) (upd mk B (sd_b y)) (by omega) (by omega) (sd_BIs hI y)
    have er : nI (r + 1) - 1 = nI r := nI_pred r
    have em : nI r + (-1) = nI r - 1 := (Int32.sub_eq_add_neg _ _).symm
    have eb' : B + (r + 1) = B + 1 + r := by omega
    have ef : nI f / 4 = nI (f / 4) := pk_div (d := 4) (by omega) (by decide) (by decide)
    rw [eb', er]
    refine ⟨pb', mk', k1, fun j hj => (k2 j hj).trans (sd_apo hj), fun post J x1 hp => br_f (nI_pos (by omega)) ⟨vp_in_nI hf (by decide), ?_⟩, fun post J hp => br_f (nI_pos (by omega)) ⟨by decide, ?_⟩⟩
    · rw [nI_clamp (by omega), hy]
      exact sx_app (by omega) (nm_r em (k3 post J x1 hp))
    · rw [ef, nI_clamp (n := f / 4) (by omega), nI_clamp (n := f) (by omega)]
      refine ⟨vp_in_nI hf4 (by decide), br_f hh ⟨vp_in_nI hf (by decide), br_c (fun z => ?_) (fun z => ?_)⟩⟩
      · have := hy1 z
        subst this
        exact sy_add (y := true) (by omega) (nm_r em (k4 post J hp))
      · have := hy0 z
        subst this
        exact sy_add (y := false) (by omega) (nm_r em (k4 post J hp))
/-- Y: one field of the row, up to its loop -/
theorem sy_b7 {post : SY → Prop} {n i c h R w : Nat} (hi : i < R) (hR : R ≤ 6) (hc : c < 4) (hh : h < 6) (hho : ho i = nI h) (hw : fw (4 * h + c) = nI w) (hp : ∃ n41, wY_build_41 post (wY_build_7 post n) (nI (4 * i + c)) (nI (4 * h + c)) n41 (nI w - 1) sc (nI R) tl tt bt ma ol tp sb sd tk dr ay gl fw fv hv ta lk go ca cv cm cg opn ow oq ox rg sw sa sz sg ho kf kk ra ac ea eb ch th mv mm ty bi mk rc mr md mt gp yb le qc qe qq tq lc gt) : wY_build_7 post (n + 1) (nI (4 * i + c)) sc (nI R) tl tt bt ma ol tp sb sd tk dr ay gl fw fv hv ta lk go ca cv cm cg opn ow oq ox rg sw sa sz sg ho kf kk ra ac ea eb ch th mv mm ty bi mk rc mr md mt gp yb le qc qe qq tq lc gt := by
  have eR : 4 * nI R = nI (4 * R) := pk_mul 4 R
  have e2 : nI (4 * i + c) - nI (4 * i + c) / 4 * 4 = nI ((4 * i + c) % 4) := pk_rem (d := 4) (by omega) (by decide) (by decide)
  have e1 : nI (4 * i + c) / 4 = nI ((4 * i + c) / 4) := pk_div (d := 4) (by omega) (by decide) (by decide)
  have d1 : (4 * i + c) / 4 = i := by omega
  have d2 : (4 * i + c) % 4 = c := by omega
  refine br_f (by rw [eR]; exact nI_ge (by omega) (by omega)) ⟨by decide, ?_⟩
  rw [e2, e1, d1, d2, nI_clamp (n := i) (by omega), hho]
  refine ⟨vp_in_nI (by omega) (by decide), by decide, nm_r (sd_am h 4 c) ⟨vp_in_nI (by omega) (by decide), ?_⟩⟩
  rw [nI_clamp (n := 4 * h + c) (by omega), hw]
  exact nm_e hp
/-- a header of the row, both sides at once -/
theorem sd_hd (hF : sd_F fw fv hv) {i h R : Nat} (hi : i < R) (hR : R ≤ 6) (hh : h < 6) (hho : ho i = nI h) (hv1 : ¬ hv h = 0) : ∀ (d c B : Nat) (pb mk : Nat → Int32), c + d = 4 → B + 16 * d ≤ 512 → sd_BI B pb mk →
    ∃ (B' : Nat) (pb' mk' : Nat → Int32), B' ≤ B + 16 * d ∧ sd_BI B' pb' mk' ∧ (∀ j, (j < 800 ∨ 816 ≤ j) → pb' j = pb j) ∧
    (∀ post : SX → Prop, post (sc, (nI R), bt, (nI B'), da, ag, lo, tp, sb, sd, tk, fw, fv, hv, sts, ops, opn, rg, kf, kk, th, ens, mv, mm, sps, ho, pb', pz, rc, mr, md, mt, gp, qc, qq, qe, lc, tq) → wX_appendHeader_2 post (nI h) (d + 1) (nI c) sc (nI R) bt (nI B) da ag lo tp sb sd tk fw fv hv sts ops opn rg kf kk th ens mv mm sps ho pb pz rc mr md mt gp qc qq qe lc tq) ∧
    (∀ (post : SY → Prop) (n : Nat), wY_build_7 post n (nI (4 * i + 4)) sc (nI R) tl tt bt (nI B') ol tp sb sd tk dr ay gl fw fv hv ta lk go ca cv cm cg opn ow oq ox rg sw sa sz sg ho kf kk ra ac ea eb ch th mv mm ty bi mk' rc mr md mt gp yb le qc qe qq tq lc gt → wY_build_7 post (n + d) (nI (4 * i + c)) sc (nI R) tl tt bt (nI B) ol tp sb sd tk dr ay gl fw fv hv ta lk go ca cv cm cg opn ow oq ox rg sw sa sz sg ho kf kk ra ac ea eb ch th mv mm ty bi mk rc mr md mt gp yb le qc qe qq tq lc gt) := by
  intro d
  induction d with
  | zero =>
    intro c B pb mk hc hB hI
    have : c = 4 := by omega
    subst this
    exact ⟨B, pb, mk, by omega, hI, fun _ _ => rfl, fun post hp => br_t (by decide) hp, fun post n hp => hp⟩
  | succ d ih =>
    intro c B pb mk hc hB hI
    obtain ⟨w, w1, w2, w3⟩ := sd_wi hF (f := 4 * h + c) (by omega)
    have d4 : (4 * h + c) / 4 = h := by omega
    obtain ⟨pb1, mk1, k1, k2, k3, k4⟩ := sd_fb (sc := sc) (oc := (nI R)) (bt := bt) (da := da) (ag := ag) (lo := lo) (tp := tp) (sb := sb) (sd := sd) (tk := tk) (fw := fw) (fv := fv) (hv := hv) (sts := sts) (ops := ops) (opn := opn) (rg := rg) (kf := kf) (kk := kk) (th := th) (ens := ens) (mv := mv) (mm := mm) (sps := sps) (ho := ho) (pz := pz) (rc := rc) (mr := mr) (md := md) (mt := mt) (gp := gp) (qc := qc) (qq := qq) (qe := qe) (lc := lc) (tq := tq) (tl := tl) (tt := tt) (ol := ol) (dr := dr) (ay := ay) (gl := gl) (ta := ta) (lk := lk) (go := go) (ca := ca) (cv := cv) (cm := cm) (cg := cg) (ow := ow) (oq := oq) (ox := ox) (sw := sw) (sa := sa) (sz := sz) (sg := sg) (ra := ra) (ac := ac) (ea := ea) (eb := eb) (ch := ch) (ty := ty) (bi := bi) (yb := yb) (le := le) (gt := gt) (f := 4 * h + c) (c := c) (k := 4 * i + c) (by omega) (by omega) (by rw [d4]; exact hv1) w B pb mk w1 (by omega) hI
    obtain ⟨B', pb', mk', l1, l2, l3, l4, l5⟩ := ih (c + 1) (B + w) pb1 mk1 (by omega) (by omega) k1
    refine ⟨B', pb', mk', by omega, l2, fun j hj => (l3 j hj).trans (k2 j hj), fun post hp => ?_, fun post n hp => ?_⟩
    · refine br_f (nI_ge (b := 4) (by omega) (by decide)) (nm_r ((sd_ma h 4 c).trans (by rw [Nat.mul_comm])) ⟨vp_in_nI (by omega) (by decide), ?_⟩)
      rw [nI_clamp (n := 4 * h + c) (by omega), w2]
      exact nm_e ⟨w + 1, k3 post _ (nI h) (l4 post hp)⟩
    · exact sy_b7 (n := n + d) hi hR (by omega) hh hho w2 ⟨w + 1, k4 post _ (l5 post n hp)⟩
/-- Y: a header of the row that is not valid -/
theorem sy_skip (hF : sd_F fw fv hv) {post : SY → Prop} {i h R n : Nat} (hi : i < R) (hR : R ≤ 6) (hh : h < 6) (hho : ho i = nI h) (hv1 : hv h = 0) : ∀ (d c : Nat), c + d = 4 → wY_build_7 post n (nI (4 * i + 4)) sc (nI R) tl tt bt ma ol tp sb sd tk dr ay gl fw fv hv ta lk go ca cv cm cg opn ow oq ox rg sw sa sz sg ho kf kk ra ac ea eb ch th mv mm ty bi mk rc mr md mt gp yb le qc qe qq tq lc gt → wY_build_7 post (n + d) (nI (4 * i + c)) sc (nI R) tl tt bt ma ol tp sb sd tk dr ay gl fw fv hv ta lk go ca cv cm cg opn ow oq ox rg sw sa sz sg ho kf kk ra ac ea eb ch th mv mm ty bi mk rc mr md mt gp yb le qc qe qq tq lc gt
  | 0, c, hc, hp => by
    have : c = 4 := by omega
    subst this
    exact hp
  | d + 1, c, hc, hp => by
    obtain ⟨w, w1, w2, w3⟩ := sd_wi hF (f := 4 * h + c) (by omega)
    have g := sy_skip hF hi hR hh hho hv1 d (c + 1) (by omega) hp
    have ef : nI (4 * h + c) / 4 = nI h := (pk_div (d := 4) (by omega) (by decide) (by decide)).trans (by congr 1; omega)
    refine sy_b7 (n := n + d) hi hR (by omega) hh hho w2 ⟨1, br_c (fun _ => nm_r (nI_1 _) g) (fun _ => ⟨by decide, ?_⟩)⟩
    rw [ef, nI_clamp (n := h) (by omega)]
    exact ⟨vp_in_nI hh (by decide), br_t hv1 (nm_r (nI_1 _) g)⟩
/-- the row of headers, both sides at once -/
theorem sd_rw (hF : sd_F fw fv hv) {R : Nat} (hR : R ≤ 6) (hho : ∀ i, i < 6 → sd_rg 6 (ho i)) : ∀ (d i B : Nat) (pb mk : Nat → Int32), i + d = R → B + 64 * d ≤ 512 → sd_BI B pb mk →
    ∃ (B' : Nat) (pb' mk' : Nat → Int32), B' ≤ B + 64 * d ∧ sd_BI B' pb' mk' ∧ (∀ j, (j < 800 ∨ 816 ≤ j) → pb' j = pb j) ∧
    (∀ post : SX → Prop, (∃ n, wX_buildPacket_83 post ((pz 49) * 8) n bt sc (nI R) bt (nI B') da ag lo tp sb sd tk fw fv hv sts ops opn rg kf kk th ens mv mm sps ho pb' pz rc mr md mt gp qc qq qe lc tq) → wX_buildPacket_32 post (d + 1) (nI i) sc (nI R) bt (nI B) da ag lo tp sb sd tk fw fv hv sts ops opn rg kf kk th ens mv mm sps ho pb pz rc mr md mt gp qc qq qe lc tq) ∧
    (∀ (post : SY → Prop) (n : Nat), wY_build_7 post n (nI (4 * R)) sc (nI R) tl tt bt (nI B') ol tp sb sd tk dr ay gl fw fv hv ta lk go ca cv cm cg opn ow oq ox rg sw sa sz sg ho kf kk ra ac ea eb ch th mv mm ty bi mk' rc mr md mt gp yb le qc qe qq tq lc gt → wY_build_7 post (n + 4 * d) (nI (4 * i)) sc (nI R) tl tt bt (nI B) ol tp sb sd tk dr ay gl fw fv hv ta lk go ca cv cm cg opn ow oq ox rg sw sa sz sg ho kf kk ra ac ea eb ch th mv mm ty bi mk rc mr md mt gp yb le qc qe qq tq lc gt) := by
  intro d
  induction d with
  | zero =>
    intro i B pb mk hi hB hI
    have : i = R := by omega
    subst this
    exact ⟨B, pb, mk, by omega, hI, fun _ _ => rfl, fun post hp => br_t (nI_le (Nat.le_refl _) (by omega)) (nm_e hp), fun post n hp => hp⟩
  | succ d ih =>
    intro i B pb mk hi hB hI
    obtain ⟨h, hh, eh⟩ := hho i (by omega)
    have nx : ¬ nI R ≤ nI i := nI_ge (by omega) (by omega)
    have hi6 : vp_in (nI i) 6 := vp_in_nI (by omega) (by decide)
    by_cases z : hv h = 0
    · obtain ⟨B', pb', mk', l1, l2, l3, l4, l5⟩ := ih (i + 1) B pb mk (by omega) (by omega) hI
      refine ⟨B', pb', mk', by omega, l2, l3, fun post hp => br_f nx ⟨hi6, ?_⟩, fun post n hp => ?_⟩
      · rw [nI_clamp (n := i) (by omega)]
        refine nm_r eh ⟨vp_in_nI hh (by decide), ?_⟩
        rw [nI_clamp (n := h) (by omega)]
        exact br_t z (nm_r (nI_1 i) (l4 post hp))
      · have g := sy_skip hF (n := n + 4 * d) (show i < R by omega) hR hh eh z 4 0 (by omega) (l5 post n hp)
        exact g
    · obtain ⟨B1, pb1, mk1, k1, k2, k3, k4, k5⟩ := sd_hd (sc := sc) (bt := bt) (da := da) (ag := ag) (lo := lo) (tp := tp) (sb := sb) (sd := sd) (tk := tk) (fw := fw) (fv := fv) (hv := hv) (sts := sts) (ops := ops) (opn := opn) (rg := rg) (kf := kf) (kk := kk) (th := th) (ens := ens) (mv := mv) (mm := mm) (sps := sps) (ho := ho) (pz := pz) (rc := rc) (mr := mr) (md := md) (mt := mt) (gp := gp) (qc := qc) (qq := qq) (qe := qe) (lc := lc) (tq := tq) (tl := tl) (tt := tt) (ol := ol) (dr := dr) (ay := ay) (gl := gl) (ta := ta) (lk := lk) (go := go) (ca := ca) (cv := cv) (cm := cm) (cg := cg) (ow := ow) (oq := oq) (ox := ox) (sw := sw) (sa := sa) (sz := sz) (sg := sg) (ra := ra) (ac := ac) (ea := ea) (eb := eb) (ch := ch) (ty := ty) (bi := bi) (yb := yb) (le := le) (gt := gt) hF (show i < R by omega) hR hh eh z 4 0 B pb mk (by omega) (by omega) hI
      obtain ⟨B', pb', mk', l1, l2, l3, l4, l5⟩ := ih (i + 1) B1 pb1 mk1 (by omega) (by omega) k2
      refine ⟨B', pb', mk', by omega, l2, fun j hj => (l3 j hj).trans (k3 j hj), fun post hp => br_f nx ⟨hi6, ?_⟩, fun post n hp => ?_⟩
      · rw [nI_clamp (n := i) (by omega)]
        refine nm_r eh ⟨vp_in_nI hh (by decide), ?_⟩
        rw [nI_clamp (n := h) (by omega)]
        exact br_f z ⟨5, k4 _ (nm_r (nI_1 i) (l4 post hp))⟩
      · have g := k5 post (n + 4 * d) (l5 post n hp)
        exact g
/-- the bits behind the headers, both sides at once -/
theorem sd_tl {Z : Nat} (hZ : Z ≤ 16) : ∀ (d k B : Nat) (pb mk : Nat → Int32), k + d = 8 * Z → B + d ≤ 512 → (∀ i, i < 8 * Z → bi i = sd_bv (pb (784 + i / 8)) (i % 8)) → sd_BI B pb mk →
    ∃ (pb' mk' : Nat → Int32), sd_BI (B + d) pb' mk' ∧ (∀ j, (j < 800 ∨ 816 ≤ j) → pb' j = pb j) ∧
    (∀ post : SX → Prop, post (sc, oc, bt, (nI (B + d)), da, ag, lo, tp, sb, sd, tk, fw, fv, hv, sts, ops, opn, rg, kf, kk, th, ens, mv, mm, sps, ho, pb', (upd pz 50 (if B + d ≤ 128 then nI ((B + d + 7) / 8) else 0)), rc, mr, md, mt, gp, qc, qq, qe, lc, tq) → wX_buildPacket_83 post (nI (8 * Z)) (d + 1) (nI k) sc oc bt (nI B) da ag lo tp sb sd tk fw fv hv sts ops opn rg kf kk th ens mv mm sps ho pb pz rc mr md mt gp qc qq qe lc tq) ∧
    (∀ post : SY → Prop, (∃ n, wY_build_120 post n sc oc tl (nI (8 * Z)) bt (nI (B + d)) ol tp sb sd tk dr ay gl fw fv hv ta lk go ca cv cm cg opn ow oq ox rg sw sa sz sg ho kf kk ra ac ea eb ch th mv mm ty bi mk' rc mr md mt gp yb le qc qe qq tq lc gt) → wY_build_96 post (d + 1) (nI k) sc oc tl (nI (8 * Z)) bt (nI B) ol tp sb sd tk dr ay gl fw fv hv ta lk go ca cv cm cg opn ow oq ox rg sw sa sz sg ho kf kk ra ac ea eb ch th mv mm ty bi mk rc mr md mt gp yb le qc qe qq tq lc gt) := by
  intro d
  induction d with
  | zero =>
    intro k B pb mk hk hB hb hI
    refine ⟨pb, mk, hI, fun _ _ => rfl, fun post hp => br_t (nI_le (by omega) (by omega)) ?_, fun post hp => br_t (nI_le (by omega) (by omega)) hp⟩
    refine pk_le (B + 0) 128 (fun z => ⟨by decide, ?_⟩) (fun z => nm_e ?_)
    · rw [if_pos z] at hp
      have e7 : nI (B + 0) + 7 = nI (B + 0 + 7) := nI_add _ 7
      have e8 : nI (B + 0 + 7) / 8 = nI ((B + 0 + 7) / 8) := pk_div (d := 8) (by omega) (by decide) (by decide)
      have e : (nI B + 7) / 8 = nI ((B + 0 + 7) / 8) := by rw [← e8, ← e7]; rfl
      rw [e]
      exact nm_e hp
    · rw [if_neg (by omega)] at hp
      exact hp
  | succ d ih =>
    intro k B pb mk hk hB hb hI
    obtain ⟨y, hy, hy1, hy0⟩ := sd_b01 (sd_bv01 (pb (784 + k / 8)) (k % 8))
    have eb' : B + (d + 1) = B + 1 + d := by omega
    obtain ⟨pb', mk', k1, k2, k3, k4⟩ := ih (k + 1) (B + 1) (sd_ap pb B y) (upd mk B (sd_b y)) (by omega) (by omega) (fun i hi => by rw [sd_apo (by omega)]; exact hb i hi) (sd_BIs hI y)
    rw [eb']
    refine ⟨pb', mk', k1, fun j hj => (k2 j hj).trans (sd_apo hj), fun post hp => br_f (nI_ge (by omega) (by omega)) (sx_bit (s := 49) (by omega) (by omega) ?_), fun post hp => br_f (nI_ge (by omega) (by omega)) ⟨vp_in_nI (by omega) (by decide), ?_⟩⟩
    · have hy' : sd_bv (pb (49 * 16 + k / 8)) (k % 8) = sd_b y := hy
      rw [hy']
      exact sx_app (by omega) (nm_r (nI_1 k) (k3 post hp))
    · rw [nI_clamp (by omega), hb k (by omega), hy]
      exact sy_add (by omega) (nm_r (nI_1 k) (k4 post hp))
/-- Y: filling up with zeros -/
def sd_pd : Nat → Nat → (Nat → Int32) → (Nat → Int32)
  | 0, _, a => a
  | d + 1, B, a => sd_pd d (B + 1) (upd a B (sd_b false))
theorem sd_BIp {pb : Nat → Int32} : ∀ (d B : Nat) (a : Nat → Int32), sd_BI B pb a → sd_BI (B + d) pb (sd_pd d B a)
  | 0, B, a, h => h
  | d + 1, B, a, h => by
    have e : B + (d + 1) = B + 1 + d := by omega
    rw [e]
    exact sd_BIp d (B + 1) (upd a B (sd_b false)) (sd_BI0 h)
theorem sy_pad {post : SY → Prop} : ∀ (d B : Nat) (a : Nat → Int32), (B + d) % 8 = 0 → d < 8 → B + d ≤ 512 → post (sc, oc, tl, tt, bt, (nI (B + d)), ol, tp, sb, sd, tk, dr, ay, gl, fw, fv, hv, ta, lk, go, ca, cv, cm, cg, opn, ow, oq, ox, rg, sw, sa, sz, sg, ho, kf, kk, ra, ac, ea, eb, ch, th, mv, mm, ty, bi, (sd_pd d B a), rc, mr, md, mt, gp, yb, le, qc, qe, qq, tq, lc, gt) → wY_build_120 post (d + 1) sc oc tl tt bt (nI B) ol tp sb sd tk dr ay gl fw fv hv ta lk go ca cv cm cg opn ow oq ox rg sw sa sz sg ho kf kk ra ac ea eb ch th mv mm ty bi a rc mr md mt gp yb le qc qe qq tq lc gt
  | 0, B, a, h8, hd, hB, hp => by
    have e : nI B - nI B / 8 * 8 = nI (B % 8) := pk_rem (d := 8) (by omega) (by decide) (by decide)
    refine ⟨by decide, br_t ?_ hp⟩
    have z : B % 8 = 0 := h8
    rw [e, z]
    decide
  | d + 1, B, a, h8, hd, hB, hp => by
    have e : nI B - nI B / 8 * 8 = nI (B % 8) := pk_rem (d := 8) (by omega) (by decide) (by decide)
    have eb' : B + (d + 1) = B + 1 + d := by omega
    rw [eb'] at hp
    refine ⟨by decide, br_f ?_ (sy_add (y := false) (by omega) (sy_pad d (B + 1) (upd a B (sd_b false)) (by omega) (by omega) (by omega) hp))⟩
    rw [e]
    exact nI_nle (by omega) (by omega)
/-- the built packet's bytes are 0 -/
def sd_zb (pb : Nat → Int32) : Nat → (Nat → Int32)
  | 0 => pb
  | i + 1 => upd (sd_zb pb i) (800 + i) 0
theorem sd_zbi {pb : Nat → Int32} : ∀ i j, j < i → sd_zb pb i (800 + j) = 0
  | 0, j, h => absurd h (by omega)
  | i + 1, j, h => by
    show upd (sd_zb pb i) (800 + i) 0 (800 + j) = 0
    by_cases e : j = i
    · subst e; rw [pk_us]
    · rw [pk_un (by omega)]; exact sd_zbi i j (by omega)
theorem sd_zbo {pb : Nat → Int32} : ∀ i j, i ≤ 16 → (j < 800 ∨ 816 ≤ j) → sd_zb pb i j = pb j
  | 0, j, _, h => rfl
  | i + 1, j, hi, h => by
    show upd (sd_zb pb i) (800 + i) 0 j = _
    rw [pk_un (by omega)]; exact sd_zbo i j (by omega) h
/-- building, both sides at once -/
theorem sd_build (hF : sd_F fw fv hv) {R Z b : Nat} (hR : R ≤ 6) (hho : ∀ i, i < 6 → sd_rg 6 (ho i)) (hZ : Z ≤ 16) (hb : b ≤ 8 * Z) (hz : pz 49 = nI Z) (hB : ∀ i, i < 8 * Z → bi i = sd_bv (pb (784 + i / 8)) (i % 8)) :
    ∃ (B L : Nat) (pb' mk' : Nat → Int32), B ≤ 512 ∧ L = (B + 7) / 8 ∧ sd_BI (8 * L) pb' mk' ∧ (∀ j, (j < 800 ∨ 816 ≤ j) → pb' j = pb j) ∧
    (∀ post : SX → Prop, post (sc, (nI R), (nI b), (nI B), da, ag, lo, tp, sb, sd, tk, fw, fv, hv, sts, ops, opn, rg, kf, kk, th, ens, mv, mm, sps, ho, pb', (upd pz 50 (if B ≤ 128 then nI L else 0)), rc, mr, md, mt, gp, qc, qq, qe, lc, tq) → wpX_buildPacket post (sc, (nI R), (nI b), bb, da, ag, lo, tp, sb, sd, tk, fw, fv, hv, sts, ops, opn, rg, kf, kk, th, ens, mv, mm, sps, ho, pb, pz, rc, mr, md, mt, gp, qc, qq, qe, lc, tq)) ∧
    (∀ post : SY → Prop, post (sc, (nI R), tl, (nI (8 * Z)), (nI b), (nI (8 * L)), ol, tp, sb, sd, tk, dr, ay, gl, fw, fv, hv, ta, lk, go, ca, cv, cm, cg, opn, ow, oq, ox, rg, sw, sa, sz, sg, ho, kf, kk, ra, ac, ea, eb, ch, th, mv, mm, ty, bi, mk', rc, mr, md, mt, gp, yb, le, qc, qe, qq, tq, lc, gt) → wpY_build post (sc, (nI R), tl, (nI (8 * Z)), (nI b), ma, ol, tp, sb, sd, tk, dr, ay, gl, fw, fv, hv, ta, lk, go, ca, cv, cm, cg, opn, ow, oq, ox, rg, sw, sa, sz, sg, ho, kf, kk, ra, ac, ea, eb, ch, th, mv, mm, ty, bi, mk, rc, mr, md, mt, gp, yb, le, qc, qe, qq, tq, lc, gt)) := by
  have I0 : sd_BI 0 (sd_zb pb 16) mk := by
    refine ⟨fun _ => false, fun _ _ => rfl, fun j hj => absurd hj (by omega), fun _ i hi => ?_⟩
    rw [sd_zbi 16 i hi]
    exact sd_b80.symm
  obtain ⟨B1, pb1, mk1, k1, k2, k3, k4, k5⟩ := sd_rw (sc := sc) (bt := (nI b)) (da := da) (ag := ag) (lo := lo) (tp := tp) (sb := sb) (sd := sd) (tk := tk) (fw := fw) (fv := fv) (hv := hv) (sts := sts) (ops := ops) (opn := opn) (rg := rg) (kf := kf) (kk := kk) (th := th) (ens := ens) (mv := mv) (mm := mm) (sps := sps) (ho := ho) (pz := pz) (rc := rc) (mr := mr) (md := md) (mt := mt) (gp := gp) (qc := qc) (qq := qq) (qe := qe) (lc := lc) (tq := tq) (tl := tl) (tt := (nI (8 * Z))) (ol := ol) (dr := dr) (ay := ay) (gl := gl) (ta := ta) (lk := lk) (go := go) (ca := ca) (cv := cv) (cm := cm) (cg := cg) (ow := ow) (oq := oq) (ox := ox) (sw := sw) (sa := sa) (sz := sz) (sg := sg) (ra := ra) (ac := ac) (ea := ea) (eb := eb) (ch := ch) (ty := ty) (bi := bi) (yb := yb) (le := le) (gt := gt) hF hR hho R 0 0 (sd_zb pb 16) mk (by omega) (by omega) I0
  obtain ⟨pb2, mk2, l1, l2, l3, l4⟩ := sd_tl (sc := sc) (oc := (nI R)) (bt := (nI b)) (da := da) (ag := ag) (lo := lo) (tp := tp) (sb := sb) (sd := sd) (tk := tk) (fw := fw) (fv := fv) (hv := hv) (sts := sts) (ops := ops) (opn := opn) (rg := rg) (kf := kf) (kk := kk) (th := th) (ens := ens) (mv := mv) (mm := mm) (sps := sps) (ho := ho) (pz := pz) (rc := rc) (mr := mr) (md := md) (mt := mt) (gp := gp) (qc := qc) (qq := qq) (qe := qe) (lc := lc) (tq := tq) (tl := tl) (ol := ol) (dr := dr) (ay := ay) (gl := gl) (ta := ta) (lk := lk) (go := go) (ca := ca) (cv := cv) (cm := cm) (cg := cg) (ow := ow) (oq := oq) (ox := ox) (sw := sw) (sa := sa) (sz := sz) (sg := sg) (ra := ra) (ac := ac) (ea := ea) (eb := eb) (ch := ch) (ty := ty) (bi := bi) (yb := yb) (le := le) (gt := gt) hZ (8 * Z - b) b B1 pb1 mk1 (by omega) (by omega) (fun i hi => by rw [k3 _ (by omega), sd_zbo 16 _ (by omega) (by omega)]; exact hB i hi) k2
  have e8 : (pz 49) * 8 = nI (8 * Z) := by rw [hz]; exact (pk_mul Z 8).trans (by rw [Nat.mul_comm])
  rw [e8] at k4
  have hL : ∃ L d : Nat, L = (B1 + (8 * Z - b) + 7) / 8 ∧ B1 + (8 * Z - b) + d = 8 * L ∧ d < 8 := ⟨_, 8 * ((B1 + (8 * Z - b) + 7) / 8) - (B1 + (8 * Z - b)), rfl, by omega, by omega⟩
  obtain ⟨L, d, hL1, hL2, hL3⟩ := hL
  have pad : ∃ mk3 : Nat → Int32, sd_BI (8 * L) pb2 mk3 ∧ ∀ post : SY → Prop, post (sc, (nI R), tl, (nI (8 * Z)), (nI b), (nI (8 * L)), ol, tp, sb, sd, tk, dr, ay, gl, fw, fv, hv, ta, lk, go, ca, cv, cm, cg, opn, ow, oq, ox, rg, sw, sa, sz, sg, ho, kf, kk, ra, ac, ea, eb, ch, th, mv, mm, ty, bi, mk3, rc, mr, md, mt, gp, yb, le, qc, qe, qq, tq, lc, gt) → ∃ n, wY_build_120 post n sc (nI R) tl (nI (8 * Z)) (nI b) (nI (B1 + (8 * Z - b))) ol tp sb sd tk dr ay gl fw fv hv ta lk go ca cv cm cg opn ow oq ox rg sw sa sz sg ho kf kk ra ac ea eb ch th mv mm ty bi mk2 rc mr md mt gp yb le qc qe qq tq lc gt := by
    refine ⟨sd_pd d (B1 + (8 * Z - b)) mk2, ?_, fun post hp => ⟨d + 1, sy_pad d _ mk2 (by omega) hL3 (by omega) ?_⟩⟩
    · rw [← hL2]; exact sd_BIp d _ mk2 l1
    · rw [hL2]; exact hp
  obtain ⟨mk3, p1, p2⟩ := pad
  refine ⟨B1 + (8 * Z - b), L, pb2, mk3, by omega, hL1, p1, fun j hj => ((l2 j hj).trans (k3 j hj)).trans (sd_zbo 16 j (by omega) hj), fun post hp => ?_, fun post hp => ?_⟩
  · refine sd_lp (fun n i s => wX_buildPacket_7 post sc (nI R) (nI b) 0 da ag lo tp sb sd tk n (nI i) fw fv hv sts ops opn rg kf kk th ens mv mm sps ho s pz rc mr md mt gp qc qq qe lc tq) (fun i => sd_zb pb i) 16 0 (by omega) (fun n => br_t (nI_le (a := 16) (b := 16) (Nat.le_refl _) (by omega)) ⟨R + 1, k4 post ⟨_, l3 post ?_⟩⟩)
      (fun n i _ hi ih => br_f (nI_ge (b := 16) hi (by omega)) (sd_st (800 + i) (nI_add 800 i) (by omega) (by decide) (nm_r (nI_1 i) ih)))
    rw [← hL1]
    exact hp
  · refine ⟨_, k5 post 1 (br_t ?_ ⟨_, l4 post (p2 post hp)⟩)⟩
    have eR : 4 * nI R = nI (4 * R) := pk_mul 4 R
    rw [eR]
    exact nI_le (Nat.le_refl _) (by omega)
end
end
section
section
variable {sc oc bt bb da ag lo tp sb sd tk : Int32} {fw fv hv sts ops opn rg kf kk th ens mv mm sps ho pb pz rc mr md mt gp qc qq qe lc tq : Nat → Int32} {tl tt ma ol dr ay gl : Int32} {ta lk go ca cv cm cg ow oq ox sw sa sz sg ra ac ea eb ch ty bi mk yb le gt : Nat → Int32}
theorem sd_sh4 : ∀ g, g < 4 → ∀ p, p < 4 → ((((1 : Int32) <<< (nI g &&& 31)) >>> (nI p &&& 31)) &&& 1 = 1 ↔ g = p) := by decide +kernel
theorem sd_sh0 : ∀ p, p < 4 → ¬ (((0 : Int32) >>> (nI p &&& 31)) &&& 1 = 1) := by decide +kernel
/-- does the packet go to port p? -/
def sd_to (gp : Nat → Int32) (g p : Nat) : Prop := g = p ∨ (4 ≤ g ∧ g < 8 ∧ (gp (g - 4) >>> (nI p &&& 31)) &&& 1 = 1)
theorem sx_dist {post : SX → Prop} {n g p : Nat} (hg : g < 65536) (hp : p < 4) (h1 : sd_to gp g p → wX_distribute_57 post (wX_distribute_10 post (nI g) n) (nI g) (nI p) sc oc bt bb da ag lo tp sb sd tk fw fv hv sts ops opn rg kf kk th ens mv mm sps ho pb pz rc mr md mt gp qc qq qe lc tq) (h0 : ¬ sd_to gp g p → wX_distribute_10 post (nI g) n (nI (p + 1)) sc oc bt bb da ag lo tp sb sd tk fw fv hv sts ops opn rg kf kk th ens mv mm sps ho pb pz rc mr md mt gp qc qq qe lc tq) : wX_distribute_10 post (nI g) (n + 1) (nI p) sc oc bt bb da ag lo tp sb sd tk fw fv hv sts ops opn rg kf kk th ens mv mm sps ho pb pz rc mr md mt gp qc qq qe lc tq := by
  have a46 : (¬ (4 ≤ g ∧ g < 8 ∧ (gp (g - 4) >>> (nI p &&& 31)) &&& 1 = 1)) → wX_distribute_47 post (wX_distribute_10 post (nI g) n) (nI g) (nI p) 0 sc oc bt bb da ag lo tp sb sd tk fw fv hv sts ops opn rg kf kk th ens mv mm sps ho pb pz rc mr md mt gp qc qq qe lc tq := by
    intro z
    refine pk_eq g p (fun e => h1 (Or.inl e)) (fun e => br_t rfl (nm_r (nI_1 p) (h0 ?_)))
    rintro (y | y)
    · exact e y
    · exact z y
  refine br_f (nI_ge (b := 4) hp (by decide)) (pk_lt g 4 (fun z => a46 (fun y => by omega)) (fun z => pk_le 8 g (fun y => a46 (fun y => by omega)) (fun y => ?_)))
  have e : nI g - 4 = nI (g - 4) := pk_sub (b := 4) z
  rw [e, nI_clamp (by omega)]
  refine ⟨vp_in_nI (by omega) (by decide), br_c (fun b => ?_) (fun b => a46 (fun y => b y.2.2))⟩
  have t : sd_to gp g p := Or.inr ⟨z, y, b⟩
  exact br_c (fun _ => h1 t) (fun _ => br_f sd_10 (h1 t))
/-- Y: the bytes of the packet that came out are put at k -/
def sd_yb (yb mk : Nat → Int32) (k : Nat) : Nat → (Nat → Int32)
  | 0 => yb
  | i + 1 => upd (sd_yb yb mk k i) (16 * k + i) (sd_ac mk (8 * i) 8)
theorem sd_ybi {k : Nat} : ∀ i j, j < i → sd_yb yb mk k i (16 * k + j) = sd_ac mk (8 * j) 8
  | 0, j, h => absurd h (by omega)
  | i + 1, j, h => by
    show upd (sd_yb yb mk k i) (16 * k + i) _ (16 * k + j) = _
    by_cases e : j = i
    · subst e; rw [pk_us]
    · rw [pk_un (by omega)]; exact sd_ybi i j (by omega)
theorem sd_ybo {k : Nat} : ∀ i j, (j < 16 * k ∨ 16 * k + i ≤ j) → sd_yb yb mk k i j = yb j
  | 0, j, h => rfl
  | i + 1, j, h => by
    show upd (sd_yb yb mk k i) (16 * k + i) _ j = _
    rw [pk_un (by omega)]; exact sd_ybo i j (by omega)
theorem sx_enq {post : SX → Prop} {p c C L : Nat} (hp : p < 4) (hc : c < 3) (hC : C ≤ 4) (hqc : qc (3 * p + c) = nI C) (hL : L ≤ 16) (hz : pz 50 = nI L)
    (h1 : C < 4 → post (sc, oc, bt, bb, da, ag, lo, tp, sb, sd, tk, fw, fv, hv, sts, ops, opn, rg, kf, kk, th, ens, mv, mm, sps, ho, (sd_cp pb 50 ((3 * p + c) * 4 + C) L), (upd pz ((3 * p + c) * 4 + C) (nI L)), rc, mr, md, mt, gp, (upd qc (3 * p + c) (nI (C + 1))), qq, qe, lc, tq)) (h0 : ¬ C < 4 → post (sc, oc, bt, bb, da, ag, lo, tp, sb, sd, tk, fw, fv, hv, sts, ops, opn, rg, kf, kk, th, ens, mv, mm, sps, ho, pb, pz, rc, mr, md, mt, gp, qc, qq, qe, (upd lc p (lc p + 1)), tq)) : wpX_enqueue post (sc, oc, bt, bb, da, ag, lo, tp, sb, sd, tk, fw, fv, hv, sts, ops, opn, rg, kf, kk, th, ens, mv, mm, sps, ho, pb, pz, rc, mr, md, mt, gp, qc, qq, qe, lc, tq) (nI p) (nI c) := by
  unfold wpX_enqueue
  refine nm_r (sd_3' p c) ⟨vp_in_nI (by omega) (by decide), ?_⟩
  rw [nI_clamp (n := 3 * p + c) (by omega), hqc]
  refine pk_lt C 4 (fun z => ⟨vp_in_nI (by omega) (by decide), ?_⟩) (fun z => ⟨vp_in_nI hp (by decide), ?_⟩)
  · have e : nI (3 * p + c) * 4 + nI C = nI ((3 * p + c) * 4 + C) := sd_ma _ 4 C
    rw [e]
    refine sx_copy (f := 50) (by omega) (by omega) hL hz ⟨vp_in_nI (by omega) (by decide), vp_in_nI (by omega) (by decide), ?_⟩
    rw [hqc, nI_1]
    exact nm_e (h1 z)
  · rw [nI_clamp (n := p) (by omega)]
    exact ⟨vp_in_nI hp (by decide), nm_e (h0 (by omega))⟩
theorem sy_enq {post : SY → Prop} {p c C L : Nat} (hp : p < 4) (hc : c < 3) (hC : C ≤ 4) (hqc : qc (3 * p + c) = nI C) (hL : L ≤ 16)
    (h1 : C < 4 → post (sc, oc, tl, tt, bt, ma, (nI L), tp, sb, sd, tk, dr, ay, gl, fw, fv, hv, ta, lk, go, ca, cv, cm, cg, opn, ow, oq, ox, rg, sw, sa, sz, sg, ho, kf, kk, ra, ac, ea, eb, ch, th, mv, mm, ty, bi, mk, rc, mr, md, mt, gp, (sd_yb yb mk (4 * (3 * p + c) + C) L), (upd le (4 * (3 * p + c) + C) (nI L)), (upd qc (3 * p + c) (nI (C + 1))), qe, qq, tq, lc, gt)) (h0 : ¬ C < 4 → post (sc, oc, tl, tt, bt, ma, (nI L), tp, sb, sd, tk, dr, ay, gl, fw, fv, hv, ta, lk, go, ca, cv, cm, cg, opn, ow, oq, ox, rg, sw, sa, sz, sg, ho, kf, kk, ra, ac, ea, eb, ch, th, mv, mm, ty, bi, mk, rc, mr, md, mt, gp, yb, le, qc, qe, qq, tq, (upd lc p (lc p + 1)), gt)) : wpY_queue post (sc, oc, tl, tt, bt, ma, (nI L), tp, sb, sd, tk, dr, ay, gl, fw, fv, hv, ta, lk, go, ca, cv, cm, cg, opn, ow, oq, ox, rg, sw, sa, sz, sg, ho, kf, kk, ra, ac, ea, eb, ch, th, mv, mm, ty, bi, mk, rc, mr, md, mt, gp, yb, le, qc, qe, qq, tq, lc, gt) (nI p) (nI (3 * p + c)) := by
  unfold wpY_queue
  refine ⟨vp_in_nI (by omega) (by decide), ?_⟩
  rw [nI_clamp (n := 3 * p + c) (by omega), hqc]
  refine pk_eq C 4 (fun z => ⟨vp_in_nI hp (by decide), ?_⟩) (fun z => ⟨vp_in_nI (by omega) (by decide), vp_in_nI (by omega) (by decide), ?_⟩)
  · rw [nI_clamp (n := p) (by omega)]
    exact ⟨vp_in_nI hp (by decide), nm_e (h0 (by omega))⟩
  · rw [nI_1]
    refine nm_e (nm_r (sd_am (3 * p + c) 4 C) (sd_st (4 * (3 * p + c) + C) rfl (by omega) (by decide) ?_))
    refine sd_lp (fun n i s => wY_queue_50 post (nI (4 * (3 * p + c) + C)) sc oc tl tt bt ma (nI L) tp sb sd tk dr ay gl n (nI i) fw fv hv ta lk go ca cv cm cg opn ow oq ox rg sw sa sz sg ho kf kk ra ac ea eb ch th mv mm ty bi mk rc mr md mt gp s (upd le (4 * (3 * p + c) + C) (nI L)) (upd qc (3 * p + c) (nI (C + 1))) qe qq tq lc gt) (fun i => sd_yb yb mk (4 * (3 * p + c) + C) i) L 0 (by omega) (fun n => br_t (nI_le (Nat.le_refl _) (by omega)) (h1 (by omega)))
      (fun n i _ hi ih => br_f (nI_ge hi (by omega)) (sy_byte (by omega) (sd_st (16 * (4 * (3 * p + c) + C) + i) (sd_am _ 16 i) (by omega) (by decide) (nm_r (nI_1 i) ih))))
theorem sd_Wq (hW : sd_W pb pz qc le yb) {q C L : Nat} (hq : q < 12) (hC : C < 4) (hqc : qc q = nI C) (hL : L ≤ 16) (hb : ∀ k, k < L → pb (800 + k) = sd_ac mk (8 * k) 8) :
    sd_W (sd_cp pb 50 (q * 4 + C) L) (upd pz (q * 4 + C) (nI L)) (upd qc q (nI (C + 1))) (upd le (4 * q + C) (nI L)) (sd_yb yb mk (4 * q + C) L) := by
  intro r hr
  obtain ⟨C2, h1, h2, h3⟩ := hW r hr
  have old : ∀ i, i < C2 → r * 4 + i ≠ q * 4 + C → ∃ L' : Nat, L' ≤ 16 ∧ upd le (4 * q + C) (nI L) (4 * r + i) = nI L' ∧ upd pz (q * 4 + C) (nI L) (r * 4 + i) = nI L' ∧ ∀ j, j < L' → sd_cp pb 50 (q * 4 + C) L ((r * 4 + i) * 16 + j) = sd_yb yb mk (4 * q + C) L (16 * (4 * r + i) + j) := by
    intro i hi hne
    obtain ⟨L', g1, g2, g3, g4⟩ := h3 i hi
    refine ⟨L', g1, ?_, ?_, fun j hj => ?_⟩
    · rw [pk_un (by omega)]; exact g2
    · rw [pk_un (by omega)]; exact g3
    · rw [sd_cpo L _ (by omega), sd_ybo L _ (by omega)]; exact g4 j hj
  by_cases z : r = q
  · subst z
    rw [hqc] at h2
    have h2' := (nI_eq (by omega) (by omega)).mp h2
    subst h2'
    rw [pk_us]
    refine ⟨C + 1, by omega, rfl, fun i hi => ?_⟩
    by_cases e : i = C
    · subst e
      refine ⟨L, hL, by rw [pk_us], by rw [pk_us], fun j hj => ?_⟩
      rw [sd_cpi (by omega) L hL j hj, sd_ybi L j hj]
      exact hb j hj
    · exact old i (by omega) (by omega)
  · rw [pk_un z]
    exact ⟨C2, h1, h2, fun i hi => old i hi (by omega)⟩
/-- delivering, both sides at once -/
theorem sd_dl {g c L : Nat} {set : Int32} (hg : g < 65536) (hc : c < 3) (hc2 : fv 26 - fv 26 / 3 * 3 = nI c) (hL : L ≤ 16) (hset : ∀ p, p < 4 → ((set >>> (nI p &&& 31)) &&& 1 = 1 ↔ sd_to gp g p)) :
    ∀ (d p : Nat) (qc lc pb pz le yb : Nat → Int32), p + d = 4 → sd_W pb pz qc le yb → pz 50 = nI L → (∀ k, k < L → pb (800 + k) = sd_ac mk (8 * k) 8) →
    ∃ (qc' lc' pb' pz' le' yb' : Nat → Int32), sd_W pb' pz' qc' le' yb' ∧ (∀ j, 768 ≤ j → pb' j = pb j) ∧ (∀ s, 48 ≤ s → pz' s = pz s) ∧
    (∀ post : SX → Prop, post (sc, oc, bt, bb, da, ag, lo, tp, sb, sd, tk, fw, fv, hv, sts, ops, opn, rg, kf, kk, th, ens, mv, mm, sps, ho, pb', pz', rc, mr, md, mt, gp, qc', qq, qe, lc', tq) → wX_distribute_10 post (nI g) (d + 1) (nI p) sc oc bt bb da ag lo tp sb sd tk fw fv hv sts ops opn rg kf kk th ens mv mm sps ho pb pz rc mr md mt gp qc qq qe lc tq) ∧
    (∀ post : SY → Prop, post (sc, oc, tl, tt, bt, ma, (nI L), tp, sb, sd, tk, dr, ay, gl, fw, fv, hv, ta, lk, go, ca, cv, cm, cg, opn, ow, oq, ox, rg, sw, sa, sz, sg, ho, kf, kk, ra, ac, ea, eb, ch, th, mv, mm, ty, bi, mk, rc, mr, md, mt, gp, yb', le', qc', qe, qq, tq, lc', gt) → wY_deliver_40 post set (d + 1) (nI p) sc oc tl tt bt ma (nI L) tp sb sd tk dr ay gl fw fv hv ta lk go ca cv cm cg opn ow oq ox rg sw sa sz sg ho kf kk ra ac ea eb ch th mv mm ty bi mk rc mr md mt gp yb le qc qe qq tq lc gt) := by
  intro d
  induction d with
  | zero =>
    intro p qc lc pb pz le yb hp hW hz hb
    have : p = 4 := by omega
    subst this
    exact ⟨qc, lc, pb, pz, le, yb, hW, fun _ _ => rfl, fun _ _ => rfl, fun post h => br_t (by decide) h, fun post h => br_t (by decide) h⟩
  | succ d ih =>
    intro p qc lc pb pz le yb hp hW hz hb
    have n4 : ¬ 4 ≤ nI p := nI_ge (b := 4) (by omega) (by decide)
    by_cases t : sd_to gp g p
    · have t' := (hset p (by omega)).mpr t
      obtain ⟨C, hC, hqc, hsl⟩ := hW (3 * p + c) (by omega)
      by_cases z : C < 4
      · obtain ⟨qc', lc', pb', pz', le', yb', k1, k2, k3, k4, k5⟩ := ih (p + 1) (upd qc (3 * p + c) (nI (C + 1))) lc (sd_cp pb 50 ((3 * p + c) * 4 + C) L) (upd pz ((3 * p + c) * 4 + C) (nI L)) (upd le (4 * (3 * p + c) + C) (nI L)) (sd_yb yb mk (4 * (3 * p + c) + C) L) (by omega) (sd_Wq hW (by omega) z hqc hL hb) (by rw [pk_un (by omega)]; exact hz) (fun k hk => by rw [sd_cpo L _ (by omega)]; exact hb k hk)
        refine ⟨qc', lc', pb', pz', le', yb', k1, fun j hj => by rw [k2 j hj, sd_cpo L _ (by omega)], fun s hs => by rw [k3 s hs, pk_un (by omega)], fun post h => sx_dist hg (by omega) (fun _ => ⟨by decide, ?_⟩) (fun y => absurd t y), fun post h => br_f n4 (br_t t' ⟨by decide, ?_⟩)⟩
        · rw [hc2]
          exact sx_enq (by omega) hc hC hqc hL hz (fun _ => nm_r (nI_1 p) (k4 post h)) (fun y => absurd z y)
        · rw [hc2, sd_3]
          exact sy_enq (by omega) hc hC hqc hL (fun _ => nm_r (nI_1 p) (k5 post h)) (fun y => absurd z y)
      · obtain ⟨qc', lc', pb', pz', le', yb', k1, k2, k3, k4, k5⟩ := ih (p + 1) qc (upd lc p (lc p + 1)) pb pz le yb (by omega) hW hz hb
        refine ⟨qc', lc', pb', pz', le', yb', k1, k2, k3, fun post h => sx_dist hg (by omega) (fun _ => ⟨by decide, ?_⟩) (fun y => absurd t y), fun post h => br_f n4 (br_t t' ⟨by decide, ?_⟩)⟩
        · rw [hc2]
          exact sx_enq (by omega) hc hC hqc hL hz (fun y => absurd y z) (fun _ => nm_r (nI_1 p) (k4 post h))
        · rw [hc2, sd_3]
          exact sy_enq (by omega) hc hC hqc hL (fun y => absurd y z) (fun _ => nm_r (nI_1 p) (k5 post h))
    · have t' : ¬ (set >>> (nI p &&& 31)) &&& 1 = 1 := fun y => t ((hset p (by omega)).mp y)
      obtain ⟨qc', lc', pb', pz', le', yb', k1, k2, k3, k4, k5⟩ := ih (p + 1) qc lc pb pz le yb (by omega) hW hz hb
      exact ⟨qc', lc', pb', pz', le', yb', k1, k2, k3, fun post h => sx_dist hg (by omega) (fun y => absurd y t) (fun _ => k4 post h), fun post h => br_f n4 (br_f t' (nm_r (nI_1 p) (k5 post h)))⟩
theorem sd_deliver (hF : sd_F fw fv hv) (hW : sd_W pb pz qc le yb) {L : Nat} (hL : L ≤ 16) (hz : pz 50 = nI L) (hb : ∀ k, k < L → pb (800 + k) = sd_ac mk (8 * k) 8) :
    ∃ (qc' lc' pb' pz' le' yb' : Nat → Int32), sd_W pb' pz' qc' le' yb' ∧ (∀ j, 768 ≤ j → pb' j = pb j) ∧ (∀ s, 48 ≤ s → pz' s = pz s) ∧
    (∀ post : SX → Prop, post (sc, oc, bt, bb, da, ag, lo, tp, sb, sd, tk, fw, fv, hv, sts, ops, opn, rg, kf, kk, th, ens, mv, mm, sps, ho, pb', pz', rc, mr, md, mt, gp, qc', qq, qe, lc', tq) → wpX_distribute post (sc, oc, bt, bb, da, ag, lo, tp, sb, sd, tk, fw, fv, hv, sts, ops, opn, rg, kf, kk, th, ens, mv, mm, sps, ho, pb, pz, rc, mr, md, mt, gp, qc, qq, qe, lc, tq)) ∧
    (∀ post : SY → Prop, post (sc, oc, tl, tt, bt, ma, (nI L), tp, sb, sd, tk, dr, ay, gl, fw, fv, hv, ta, lk, go, ca, cv, cm, cg, opn, ow, oq, ox, rg, sw, sa, sz, sg, ho, kf, kk, ra, ac, ea, eb, ch, th, mv, mm, ty, bi, mk, rc, mr, md, mt, gp, yb', le', qc', qe, qq, tq, lc', gt) → wpY_deliver post (sc, oc, tl, tt, bt, ma, (nI L), tp, sb, sd, tk, dr, ay, gl, fw, fv, hv, ta, lk, go, ca, cv, cm, cg, opn, ow, oq, ox, rg, sw, sa, sz, sg, ho, kf, kk, ra, ac, ea, eb, ch, th, mv, mm, ty, bi, mk, rc, mr, md, mt, gp, yb, le, qc, qe, qq, tq, lc, gt)) := by
  obtain ⟨a, g, ha, hg, _, eg⟩ := hF.1 25 (by omega)
  obtain ⟨a2, c, ha2, hc, _, ec⟩ := hF.1 26 (by omega)
  have hg2 : g < 65536 := Nat.lt_of_lt_of_le hg (Nat.pow_le_pow_right (n := 2) (by decide) ha)
  have hc2 : c < 65536 := Nat.lt_of_lt_of_le hc (Nat.pow_le_pow_right (n := 2) (by decide) ha2)
  have e3 : fv 26 - fv 26 / 3 * 3 = nI (c % 3) := by rw [ec]; exact pk_rem (d := 3) (by omega) (by decide) (by decide)
  have main : ∀ set : Int32, (∀ p, p < 4 → ((set >>> (nI p &&& 31)) &&& 1 = 1 ↔ sd_to gp g p)) → (∀ post : SY → Prop, (∃ n, wY_deliver_40 post set n 0 sc oc tl tt bt ma (nI L) tp sb sd tk dr ay gl fw fv hv ta lk go ca cv cm cg opn ow oq ox rg sw sa sz sg ho kf kk ra ac ea eb ch th mv mm ty bi mk rc mr md mt gp yb le qc qe qq tq lc gt) → wpY_deliver post (sc, oc, tl, tt, bt, ma, (nI L), tp, sb, sd, tk, dr, ay, gl, fw, fv, hv, ta, lk, go, ca, cv, cm, cg, opn, ow, oq, ox, rg, sw, sa, sz, sg, ho, kf, kk, ra, ac, ea, eb, ch, th, mv, mm, ty, bi, mk, rc, mr, md, mt, gp, yb, le, qc, qe, qq, tq, lc, gt)) → ∃ (qc' lc' pb' pz' le' yb' : Nat → Int32), sd_W pb' pz' qc' le' yb' ∧ (∀ j, 768 ≤ j → pb' j = pb j) ∧ (∀ s, 48 ≤ s → pz' s = pz s) ∧
    (∀ post : SX → Prop, post (sc, oc, bt, bb, da, ag, lo, tp, sb, sd, tk, fw, fv, hv, sts, ops, opn, rg, kf, kk, th, ens, mv, mm, sps, ho, pb', pz', rc, mr, md, mt, gp, qc', qq, qe, lc', tq) → wpX_distribute post (sc, oc, bt, bb, da, ag, lo, tp, sb, sd, tk, fw, fv, hv, sts, ops, opn, rg, kf, kk, th, ens, mv, mm, sps, ho, pb, pz, rc, mr, md, mt, gp, qc, qq, qe, lc, tq)) ∧
    (∀ post : SY → Prop, post (sc, oc, tl, tt, bt, ma, (nI L), tp, sb, sd, tk, dr, ay, gl, fw, fv, hv, ta, lk, go, ca, cv, cm, cg, opn, ow, oq, ox, rg, sw, sa, sz, sg, ho, kf, kk, ra, ac, ea, eb, ch, th, mv, mm, ty, bi, mk, rc, mr, md, mt, gp, yb', le', qc', qe, qq, tq, lc', gt) → wpY_deliver post (sc, oc, tl, tt, bt, ma, (nI L), tp, sb, sd, tk, dr, ay, gl, fw, fv, hv, ta, lk, go, ca, cv, cm, cg, opn, ow, oq, ox, rg, sw, sa, sz, sg, ho, kf, kk, ra, ac, ea, eb, ch, th, mv, mm, ty, bi, mk, rc, mr, md, mt, gp, yb, le, qc, qe, qq, tq, lc, gt)) := by
    intro set hset hy
    obtain ⟨qc', lc', pb', pz', le', yb', k1, k2, k3, k4, k5⟩ := sd_dl (sc := sc) (oc := oc) (bt := bt) (bb := bb) (da := da) (ag := ag) (lo := lo) (tp := tp) (sb := sb) (sd := sd) (tk := tk) (fw := fw) (fv := fv) (hv := hv) (sts := sts) (ops := ops) (opn := opn) (rg := rg) (kf := kf) (kk := kk) (th := th) (ens := ens) (mv := mv) (mm := mm) (sps := sps) (ho := ho) (rc := rc) (mr := mr) (md := md) (mt := mt) (gp := gp) (qq := qq) (qe := qe) (tq := tq) (tl := tl) (tt := tt) (ma := ma) (dr := dr) (ay := ay) (gl := gl) (ta := ta) (lk := lk) (go := go) (ca := ca) (cv := cv) (cm := cm) (cg := cg) (ow := ow) (oq := oq) (ox := ox) (sw := sw) (sa := sa) (sz := sz) (sg := sg) (ra := ra) (ac := ac) (ea := ea) (eb := eb) (ch := ch) (ty := ty) (bi := bi) (mk := mk) (gt := gt) hg2 (show c % 3 < 3 by omega) e3 hL hset 4 0 qc lc pb pz le yb (by omega) hW hz hb
    exact ⟨qc', lc', pb', pz', le', yb', k1, k2, k3, fun post h => nm_r eg ⟨5, k4 post h⟩, fun post h => hy post ⟨5, k5 post h⟩⟩
  by_cases g4 : g < 4
  · refine main ((1 : Int32) <<< (nI g &&& 31)) (fun p hp => ?_) (fun post h => nm_r eg (br_f (nI_ge (b := 4) g4 (by decide)) (nm_e h)))
    rw [sd_sh4 g g4 p hp]
    exact ⟨fun y => Or.inl y, fun y => y.elim id (fun y => absurd y.1 (by omega))⟩
  · by_cases g8 : g < 8
    · refine main (gp (g - 4)) (fun p hp => ⟨fun y => Or.inr ⟨by omega, g8, y⟩, fun y => y.elim (fun y => absurd y (by omega)) (fun y => y.2.2)⟩) (fun post h => nm_r eg (br_t (nI_le (a := 4) (by omega) (by omega)) (br_f (nI_ge (b := 8) g8 (by decide)) ?_)))
      have e : nI g - 4 = nI (g - 4) := pk_sub (b := 4) (by omega)
      rw [e, nI_clamp (by omega)]
      exact ⟨vp_in_nI (by omega) (by decide), nm_e h⟩
    · refine main 0 (fun p hp => ⟨fun y => absurd y (sd_sh0 p hp), fun y => y.elim (fun y => absurd y (by omega)) (fun y => absurd y.2.1 g8)⟩) (fun post h => nm_r eg (br_t (nI_le (a := 4) (by omega) (by omega)) (br_t (nI_le (a := 8) (by omega) (by omega)) h)))
end
end
section
section
variable {sc oc bt bb da ag lo tp sb sd tk : Int32} {fw fv hv sts ops opn rg kf kk th ens mv mm sps ho pb pz rc mr md mt gp qc qq qe lc tq : Nat → Int32} {tl tt ma ol dr ay gl : Int32} {ta lk go ca cv cm cg ow oq ox sw sa sz sg ra ac ea eb ch ty bi mk yb le gt : Nat → Int32}
/-- Y: the built bits become the packet's bits -/
def sd_cb (a b : Nat → Int32) : Nat → (Nat → Int32)
  | 0 => a
  | i + 1 => upd (sd_cb a b i) i (b i)
theorem sd_cbi {a b : Nat → Int32} : ∀ i j, j < i → sd_cb a b i j = b j
  | 0, j, h => absurd h (by omega)
  | i + 1, j, h => by
    show upd (sd_cb a b i) i (b i) j = _
    by_cases e : j = i
    · subst e; rw [pk_us]
    · rw [pk_un e]; exact sd_cbi i j (by omega)
theorem sy_p99b {post : Int32 → SY → Prop} {L : Nat} {pb : Nat → Int32} (hL : L ≤ 16) (hI : sd_BI (8 * L) pb mk) (hp : post 3 (sc, oc, tl, (nI (8 * L)), bt, ma, ol, tp, sb, sd, tk, dr, ay, gl, fw, fv, hv, ta, lk, go, ca, cv, cm, cg, opn, ow, oq, ox, rg, sw, sa, sz, sg, ho, kf, kk, ra, ac, ea, eb, ch, th, mv, mm, ty, (sd_cb bi mk (8 * L)), mk, rc, mr, md, mt, gp, yb, le, qc, qe, qq, tq, lc, gt)) : ∃ n, wY_pass_99 post sc oc tl (nI (8 * L)) bt ma ol tp sb sd tk dr ay gl n 0 fw fv hv ta lk go ca cv cm cg opn ow oq ox rg sw sa sz sg ho kf kk ra ac ea eb ch th mv mm ty bi mk rc mr md mt gp yb le qc qe qq tq lc gt := by
  refine sd_lp (fun n i s => wY_pass_99 post sc oc tl (nI (8 * L)) bt ma ol tp sb sd tk dr ay gl n (nI i) fw fv hv ta lk go ca cv cm cg opn ow oq ox rg sw sa sz sg ho kf kk ra ac ea eb ch th mv mm ty s mk rc mr md mt gp yb le qc qe qq tq lc gt) (fun i => sd_cb bi mk i) (8 * L) 0 (by omega) (fun n => br_t (nI_le (Nat.le_refl _) (by omega)) hp) (fun n i _ hi ih => br_f (nI_ge hi (by omega)) ⟨vp_in_nI (by omega) (by decide), ?_⟩)
  obtain ⟨m, h1, h2, h3⟩ := hI
  have e : vp_nar .boolean (mk i) = mk i := by rw [h2 i hi]; exact sd_bn _
  rw [nI_clamp (by omega), e]
  exact ⟨vp_in_nI (by omega) (by decide), nm_e (nm_r (nI_1 i) ih)⟩
theorem sd_pr {N R : Nat} (hS : sd_S sts ta lk go ca cv cm cg) (hO : sd_O ops opn ow oq ox) (hA : ∀ i, i < 16 → sps (i * 4) = sw i ∧ sps (i * 4 + 1) = sa i ∧ sps (i * 4 + 2) = sz i ∧ sps (i * 4 + 3) = sg i) (hB : ∀ i, i < N → sd_sp i (sw i) (sa i) (sz i) (sg i)) (hN : N ≤ 16) (hR : R ≤ 6) (hho : ∀ i, i < 6 → sd_rg 6 (ho i)) :
    ∀ (d ti Z : Nat) (bt bb da ag sb sd ma dr ay : Int32) (fv hv rg mt ens pb pz ch bi mk : Nat → Int32), ti + d = 3 → Z ≤ 16 → pz 49 = nI Z → (∀ i, i < 8 * Z → bi i = sd_bv (pb (784 + i / 8)) (i % 8)) → sd_F fw fv hv → sd_E kf kk th ens mm ra ac ea eb ch → ∃ (rr : Nat) (bt' bb' da' ag' tp' sb' sd' tt' ma' dr' ay' : Int32) (fv' hv' rg' mt' ens' pb' pz' ch' bi' mk' : Nat → Int32), rr < 3 ∧ sd_F fw fv' hv' ∧ sd_E kf kk th ens' mm ra ac ea eb ch' ∧ (∀ j, (j < 784 ∨ 816 ≤ j) → pb' j = pb j) ∧ (∀ s, s ≠ 49 → s ≠ 50 → pz' s = pz s) ∧ (rr = 0 → ∃ L : Nat, L ≤ 16 ∧ ma' = nI (8 * L) ∧ pz' 50 = nI L ∧ ∀ k, k < L → pb' (800 + k) = sd_ac mk' (8 * k) 8) ∧ (∀ post : Int32 → SX → Prop, post (nI rr) ((nI N), (nI R), bt', bb', da', ag', lo, tp', sb', sd', tk, fw, fv', hv', sts, ops, opn, rg', kf, kk, th, ens', mv, mm, sps, ho, pb', pz', rc, mr, md, mt', gp, qc, qq, qe, lc, tq) → wX_processPacket_2 post (d + 2) (nI ti) (nI N) (nI R) bt bb da ag lo (nI ti) sb sd tk fw fv hv sts ops opn rg kf kk th ens mv mm sps ho pb pz rc mr md mt gp qc qq qe lc tq) ∧ (∀ (post : Int32 → SY → Prop) (m : Nat), d + 1 < m → (∀ m' : Nat, wY_send_119 post (m' + 1) (nI rr) (nI N) (nI R) tl tt' bt' ma' ol tp' sb' sd' tk dr' ay' gl fw fv' hv' ta lk go ca cv cm cg opn ow oq ox rg' sw sa sz sg ho kf kk ra ac ea eb ch' th mv mm ty bi' mk' rc mr md mt' gp yb le qc qe qq tq lc gt) → wY_send_119 post m 3 (nI N) (nI R) tl (nI (8 * Z)) bt ma ol (nI ti) sb sd tk dr ay gl fw fv hv ta lk go ca cv cm cg opn ow oq ox rg sw sa sz sg ho kf kk ra ac ea eb ch th mv mm ty bi mk rc mr md mt gp yb le qc qe qq tq lc gt) := by
  intro d
  induction d with
  | zero =>
    intro ti Z bt bb da ag sb sd ma dr ay fv hv rg mt ens pb pz ch bi mk hti hZ hz hb hF hE
    obtain ⟨r, sb1, b1, fv1, hv1, p1, p2, p3, p4, p5, p6⟩ := sd_parse (sc := (nI N)) (oc := (nI R)) (bt := bt) (bb := bb) (da := da) (ag := ag) (lo := lo) (tp := (nI ti)) (sb := sb) (sd := sd) (tk := tk) (fw := fw) (fv := fv) (hv := hv) (sts := sts) (ops := ops) (opn := opn) (rg := rg) (kf := kf) (kk := kk) (th := th) (ens := ens) (mv := mv) (mm := mm) (sps := sps) (ho := ho) (pb := pb) (pz := pz) (rc := rc) (mr := mr) (md := md) (mt := mt) (gp := gp) (qc := qc) (qq := qq) (qe := qe) (lc := lc) (tq := tq) (tl := tl) (ma := ma) (ol := ol) (dr := 0) (ay := 0) (gl := gl) (ta := ta) (lk := lk) (go := go) (ca := ca) (cv := cv) (cm := cm) (cg := cg) (ow := ow) (oq := oq) (ox := ox) (sw := sw) (sa := sa) (sz := sz) (sg := sg) (ra := ra) (ac := ac) (ea := ea) (eb := eb) (ch := ch) (ty := ty) (bi := bi) (mk := mk) (yb := yb) (le := le) (gt := gt) hF hS hZ hz hb
    rw [nI_1] at p5 p6
    have t4 : ¬ 4 ≤ nI ti := nI_ge (b := 4) (by omega) (by decide)
    rcases p1 with p1 | p1
    · subst p1
      refine ⟨2, nI b1, bb, da, ag, nI (ti + 1), sb1, sd, nI (8 * Z), ma, 0, 0, fv1, hv1, rg, mt, ens, pb, pz, ch, bi, mk, by omega, p3, hE, fun _ _ => rfl, fun _ _ _ => rfl, fun z => absurd z (by omega), fun post hp => br_f t4 (p5 _ (br_t rfl hp)), fun post m hm hp => ?_⟩
      obtain ⟨m2, rfl⟩ : ∃ m2, m = m2 + 1 + 1 := ⟨m - 2, by omega⟩
      exact br_t rfl (p6 _ (br_t rfl (hp m2)))
    · subst p1
      obtain ⟨sd2, da2, ag2, fv2, hv2, rg2, mt2, ens2, ch2, l1, l2, l3, l4⟩ := sd_steps (oc := (nI R)) (bt := (nI b1)) (bb := bb) (lo := lo) (tp := (nI (ti + 1))) (sb := sb1) (tk := tk) (fw := fw) (sts := sts) (ops := ops) (opn := opn) (kf := kf) (kk := kk) (th := th) (mv := mv) (mm := mm) (sps := sps) (ho := ho) (pb := pb) (pz := pz) (rc := rc) (mr := mr) (md := md) (gp := gp) (qc := qc) (qq := qq) (qe := qe) (lc := lc) (tq := tq) (tl := tl) (ma := ma) (ol := ol) (gl := gl) (ta := ta) (lk := lk) (go := go) (ca := ca) (cv := cv) (cm := cm) (cg := cg) (ow := ow) (oq := oq) (ox := ox) (sw := sw) (sa := sa) (sz := sz) (sg := sg) (ra := ra) (ac := ac) (ea := ea) (eb := eb) (ty := ty) (bi := bi) (mk := mk) (yb := yb) (le := le) (gt := gt) hO hA hB hN hZ hz N 0 0 sd 0 0 fv1 hv1 rg mt ens ch (by omega) (by omega) (by omega) p3 hE
      -- X's and Y's way to the end of the steps
      have X : ∀ post : Int32 → SX → Prop, ((da2 = 0 → wpX_buildPacket (fun u => match u with | (sc, oc, bt, bb, da, ag, lo, tp, sb, sd, tk, fw, fv, hv, sts, ops, opn, rg, kf, kk, th, ens, mv, mm, sps, ho, pb, pz, rc, mr, md, mt, gp, qc, qq, qe, lc, tq) => (((bb ≤ 128 → (((ag = 0 → (post 0 (sc, oc, bt, bb, da, ag, lo, tp, sb, sd, tk, fw, fv, hv, sts, ops, opn, rg, kf, kk, th, ens, mv, mm, sps, ho, pb, pz, rc, mr, md, mt, gp, qc, qq, qe, lc, tq))) ∧ (¬ ag = 0 → (wpX_copyPacket (fun u => match u with | (sc, oc, bt, bb, da, ag, lo, tp, sb, sd, tk, fw, fv, hv, sts, ops, opn, rg, kf, kk, th, ens, mv, mm, sps, ho, pb, pz, rc, mr, md, mt, gp, qc, qq, qe, lc, tq) => (∀ x1_162, x1_162 = nI ti + 1 → (wX_processPacket_2 post (0 + 1) x1_162 sc oc bt bb da ag lo tp sb sd tk fw fv hv sts ops opn rg kf kk th ens mv mm sps ho pb pz rc mr md mt gp qc qq qe lc tq))) (sc, oc, bt, bb, da, ag, lo, tp, sb, sd, tk, fw, fv, hv, sts, ops, opn, rg, kf, kk, th, ens, mv, mm, sps, ho, pb, pz, rc, mr, md, mt, gp, qc, qq, qe, lc, tq) 50 49))))) ∧ (¬ bb ≤ 128 → (post 1 (sc, oc, bt, bb, da, ag, lo, tp, sb, sd, tk, fw, fv, hv, sts, ops, opn, rg, kf, kk, th, ens, mv, mm, sps, ho, pb, pz, rc, mr, md, mt, gp, qc, qq, qe, lc, tq)))))) ((nI N), (nI R), (nI b1), bb, da2, ag2, lo, (nI (ti + 1)), sb1, sd2, tk, fw, fv2, hv2, sts, ops, opn, rg2, kf, kk, th, ens2, mv, mm, sps, ho, pb, pz, rc, mr, md, mt2, gp, qc, qq, qe, lc, tq)) ∧ (¬ da2 = 0 → post 1 ((nI N), (nI R), (nI b1), bb, da2, ag2, lo, (nI (ti + 1)), sb1, sd2, tk, fw, fv2, hv2, sts, ops, opn, rg2, kf, kk, th, ens2, mv, mm, sps, ho, pb, pz, rc, mr, md, mt2, gp, qc, qq, qe, lc, tq))) → wX_processPacket_2 post (0 + 2) (nI ti) (nI N) (nI R) bt bb da ag lo (nI ti) sb sd tk fw fv hv sts ops opn rg kf kk th ens mv mm sps ho pb pz rc mr md mt gp qc qq qe lc tq := by
        intro post hp
        exact br_f t4 (p5 _ (br_f sd_10 ⟨N + 1, l3 _ hp⟩))
      have Y : ∀ (post : Int32 → SY → Prop), (∀ (m' j' : Nat), N ≤ j' → j' ≤ 16 → wY_pass_23 post (m' + 1) (nI j') (nI N) (nI R) tl (nI (8 * Z)) (nI b1) ma ol (nI (ti + 1)) sb1 sd2 tk da2 ag2 gl fw fv2 hv2 ta lk go ca cv cm cg opn ow oq ox rg2 sw sa sz sg ho kf kk ra ac ea eb ch2 th mv mm ty bi mk rc mr md mt2 gp yb le qc qe qq tq lc gt) → wpY_pass post ((nI N), (nI R), tl, (nI (8 * Z)), bt, ma, ol, (nI ti), sb, sd, tk, dr, ay, gl, fw, fv, hv, ta, lk, go, ca, cv, cm, cg, opn, ow, oq, ox, rg, sw, sa, sz, sg, ho, kf, kk, ra, ac, ea, eb, ch, th, mv, mm, ty, bi, mk, rc, mr, md, mt, gp, yb, le, qc, qe, qq, tq, lc, gt) := by
        intro post hp
        exact p6 _ (br_f sd_10 ⟨N + 1, l4 _ (N + 1) (by omega) hp⟩)
      by_cases z : da2 = 0
      · obtain ⟨B, L, pb3, mk3, q1, q2, q3, q4, q5, q6⟩ := sd_build (sc := (nI N)) (bb := bb) (da := da2) (ag := ag2) (lo := lo) (tp := (nI (ti + 1))) (sb := sb1) (sd := sd2) (tk := tk) (fw := fw) (fv := fv2) (hv := hv2) (sts := sts) (ops := ops) (opn := opn) (rg := rg2) (kf := kf) (kk := kk) (th := th) (ens := ens2) (mv := mv) (mm := mm) (sps := sps) (ho := ho) (pb := pb) (pz := pz) (rc := rc) (mr := mr) (md := md) (mt := mt2) (gp := gp) (qc := qc) (qq := qq) (qe := qe) (lc := lc) (tq := tq) (tl := tl) (ma := ma) (ol := ol) (dr := da2) (ay := ag2) (gl := gl) (ta := ta) (lk := lk) (go := go) (ca := ca) (cv := cv) (cm := cm) (cg := cg) (ow := ow) (oq := oq) (ox := ox) (sw := sw) (sa := sa) (sz := sz) (sg := sg) (ra := ra) (ac := ac) (ea := ea) (eb := eb) (ch := ch2) (ty := ty) (bi := bi) (mk := mk) (yb := yb) (le := le) (gt := gt) l1 hR hho hZ p2 hz hb
        by_cases zB : B ≤ 128
        · have hL : L ≤ 16 := by omega
          rw [if_pos zB] at q5
          have n128 : ¬ 128 < nI (8 * L) := nI_nlt (a := 128) (by omega) (by decide)
          have b128 : nI B ≤ 128 := nI_le (b := 128) zB (by decide)
          by_cases za : ag2 = 0
          · refine ⟨0, nI b1, nI B, da2, ag2, nI (ti + 1), sb1, sd2, nI (8 * Z), nI (8 * L), da2, ag2, fv2, hv2, rg2, mt2, ens2, pb3, upd pz 50 (nI L), ch2, bi, mk3, by omega, l1, l2, fun j hj => q4 j (by omega), fun s h49 h50 => pk_un h50, fun _ => ⟨L, hL, rfl, pk_us, fun k hk => sd_BIa q3 (by omega) (by omega)⟩, fun post hp => X post (br_t z (q5 _ (br_t b128 (br_t za hp)))), fun post m hm hp => ?_⟩
            obtain ⟨m2, rfl⟩ : ∃ m2, m = m2 + 1 + 1 := ⟨m - 2, by omega⟩
            exact br_t rfl (Y _ (fun m' j' j1 j2 => br_t (nI_le j1 (by omega)) (br_t z (q6 _ (br_f n128 (br_t za (br_t za (hp m2))))))))
          · have t3 : ti = 3 := by omega
            subst t3
            refine ⟨1, nI b1, nI B, da2, ag2, nI (3 + 1), sb1, sd2, nI (8 * Z), nI (8 * L), da2, ag2, fv2, hv2, rg2, mt2, ens2, sd_cp pb3 50 49 L, upd (upd pz 50 (nI L)) 49 (nI L), ch2, bi, mk3, by omega, l1, l2, fun j hj => by rw [sd_cpo L j (by omega)]; exact q4 j (by omega), fun s h49 h50 => by rw [pk_un h49, pk_un h50], fun z => absurd z (by omega), fun post hp => X post (br_t z (q5 _ (br_t b128 (br_f za (sx_copy (f := 50) (t := 49) (by omega) (by omega) hL pk_us (nm_r (nI_1 3) (br_t (by decide) hp))))))), fun post m hm hp => ?_⟩
            obtain ⟨m2, rfl⟩ : ∃ m2, m = m2 + 1 + 1 := ⟨m - 2, by omega⟩
            exact br_t rfl (Y _ (fun m' j' j1 j2 => br_t (nI_le j1 (by omega)) (br_t z (q6 _ (br_f n128 (br_f za (br_t rfl (hp m2))))))))
        · rw [if_neg zB] at q5
          have n128 : 128 < nI (8 * L) := nI_lt (a := 128) (by omega) (by omega)
          have b128 : ¬ nI B ≤ 128 := nI_ge (a := 128) (by omega) (by omega)
          refine ⟨1, nI b1, nI B, da2, ag2, nI (ti + 1), sb1, sd2, nI (8 * Z), nI (8 * L), da2, ag2, fv2, hv2, rg2, mt2, ens2, pb3, upd pz 50 0, ch2, bi, mk3, by omega, l1, l2, fun j hj => q4 j (by omega), fun s h49 h50 => pk_un h50, fun z => absurd z (by omega), fun post hp => X post (br_t z (q5 _ (br_f b128 hp))), fun post m hm hp => ?_⟩
          obtain ⟨m2, rfl⟩ : ∃ m2, m = m2 + 1 + 1 := ⟨m - 2, by omega⟩
          exact br_t rfl (Y _ (fun m' j' j1 j2 => br_t (nI_le j1 (by omega)) (br_t z (q6 _ (br_t n128 (hp m2))))))
      · refine ⟨1, nI b1, bb, da2, ag2, nI (ti + 1), sb1, sd2, nI (8 * Z), ma, da2, ag2, fv2, hv2, rg2, mt2, ens2, pb, pz, ch2, bi, mk, by omega, l1, l2, fun _ _ => rfl, fun _ _ _ => rfl, fun z => absurd z (by omega), fun post hp => X post (br_f z hp), fun post m hm hp => ?_⟩
        obtain ⟨m2, rfl⟩ : ∃ m2, m = m2 + 1 + 1 := ⟨m - 2, by omega⟩
        exact br_t rfl (Y _ (fun m' j' j1 j2 => br_t (nI_le j1 (by omega)) (br_f z (hp m2))))
  | succ d ih =>
    intro ti Z bt bb da ag sb sd ma dr ay fv hv rg mt ens pb pz ch bi mk hti hZ hz hb hF hE
    obtain ⟨r, sb1, b1, fv1, hv1, p1, p2, p3, p4, p5, p6⟩ := sd_parse (sc := (nI N)) (oc := (nI R)) (bt := bt) (bb := bb) (da := da) (ag := ag) (lo := lo) (tp := (nI ti)) (sb := sb) (sd := sd) (tk := tk) (fw := fw) (fv := fv) (hv := hv) (sts := sts) (ops := ops) (opn := opn) (rg := rg) (kf := kf) (kk := kk) (th := th) (ens := ens) (mv := mv) (mm := mm) (sps := sps) (ho := ho) (pb := pb) (pz := pz) (rc := rc) (mr := mr) (md := md) (mt := mt) (gp := gp) (qc := qc) (qq := qq) (qe := qe) (lc := lc) (tq := tq) (tl := tl) (ma := ma) (ol := ol) (dr := 0) (ay := 0) (gl := gl) (ta := ta) (lk := lk) (go := go) (ca := ca) (cv := cv) (cm := cm) (cg := cg) (ow := ow) (oq := oq) (ox := ox) (sw := sw) (sa := sa) (sz := sz) (sg := sg) (ra := ra) (ac := ac) (ea := ea) (eb := eb) (ch := ch) (ty := ty) (bi := bi) (mk := mk) (yb := yb) (le := le) (gt := gt) hF hS hZ hz hb
    rw [nI_1] at p5 p6
    have t4 : ¬ 4 ≤ nI ti := nI_ge (b := 4) (by omega) (by decide)
    rcases p1 with p1 | p1
    · subst p1
      refine ⟨2, nI b1, bb, da, ag, nI (ti + 1), sb1, sd, nI (8 * Z), ma, 0, 0, fv1, hv1, rg, mt, ens, pb, pz, ch, bi, mk, by omega, p3, hE, fun _ _ => rfl, fun _ _ _ => rfl, fun z => absurd z (by omega), fun post hp => br_f t4 (p5 _ (br_t rfl hp)), fun post m hm hp => ?_⟩
      obtain ⟨m2, rfl⟩ : ∃ m2, m = m2 + 1 + 1 := ⟨m - 2, by omega⟩
      exact br_t rfl (p6 _ (br_t rfl (hp m2)))
    · subst p1
      obtain ⟨sd2, da2, ag2, fv2, hv2, rg2, mt2, ens2, ch2, l1, l2, l3, l4⟩ := sd_steps (oc := (nI R)) (bt := (nI b1)) (bb := bb) (lo := lo) (tp := (nI (ti + 1))) (sb := sb1) (tk := tk) (fw := fw) (sts := sts) (ops := ops) (opn := opn) (kf := kf) (kk := kk) (th := th) (mv := mv) (mm := mm) (sps := sps) (ho := ho) (pb := pb) (pz := pz) (rc := rc) (mr := mr) (md := md) (gp := gp) (qc := qc) (qq := qq) (qe := qe) (lc := lc) (tq := tq) (tl := tl) (ma := ma) (ol := ol) (gl := gl) (ta := ta) (lk := lk) (go := go) (ca := ca) (cv := cv) (cm := cm) (cg := cg) (ow := ow) (oq := oq) (ox := ox) (sw := sw) (sa := sa) (sz := sz) (sg := sg) (ra := ra) (ac := ac) (ea := ea) (eb := eb) (ty := ty) (bi := bi) (mk := mk) (yb := yb) (le := le) (gt := gt) hO hA hB hN hZ hz N 0 0 sd 0 0 fv1 hv1 rg mt ens ch (by omega) (by omega) (by omega) p3 hE
      -- X's and Y's way to the end of the steps
      have X : ∀ post : Int32 → SX → Prop, ((da2 = 0 → wpX_buildPacket (fun u => match u with | (sc, oc, bt, bb, da, ag, lo, tp, sb, sd, tk, fw, fv, hv, sts, ops, opn, rg, kf, kk, th, ens, mv, mm, sps, ho, pb, pz, rc, mr, md, mt, gp, qc, qq, qe, lc, tq) => (((bb ≤ 128 → (((ag = 0 → (post 0 (sc, oc, bt, bb, da, ag, lo, tp, sb, sd, tk, fw, fv, hv, sts, ops, opn, rg, kf, kk, th, ens, mv, mm, sps, ho, pb, pz, rc, mr, md, mt, gp, qc, qq, qe, lc, tq))) ∧ (¬ ag = 0 → (wpX_copyPacket (fun u => match u with | (sc, oc, bt, bb, da, ag, lo, tp, sb, sd, tk, fw, fv, hv, sts, ops, opn, rg, kf, kk, th, ens, mv, mm, sps, ho, pb, pz, rc, mr, md, mt, gp, qc, qq, qe, lc, tq) => (∀ x1_162, x1_162 = nI ti + 1 → (wX_processPacket_2 post (d + 1 + 1) x1_162 sc oc bt bb da ag lo tp sb sd tk fw fv hv sts ops opn rg kf kk th ens mv mm sps ho pb pz rc mr md mt gp qc qq qe lc tq))) (sc, oc, bt, bb, da, ag, lo, tp, sb, sd, tk, fw, fv, hv, sts, ops, opn, rg, kf, kk, th, ens, mv, mm, sps, ho, pb, pz, rc, mr, md, mt, gp, qc, qq, qe, lc, tq) 50 49))))) ∧ (¬ bb ≤ 128 → (post 1 (sc, oc, bt, bb, da, ag, lo, tp, sb, sd, tk, fw, fv, hv, sts, ops, opn, rg, kf, kk, th, ens, mv, mm, sps, ho, pb, pz, rc, mr, md, mt, gp, qc, qq, qe, lc, tq)))))) ((nI N), (nI R), (nI b1), bb, da2, ag2, lo, (nI (ti + 1)), sb1, sd2, tk, fw, fv2, hv2, sts, ops, opn, rg2, kf, kk, th, ens2, mv, mm, sps, ho, pb, pz, rc, mr, md, mt2, gp, qc, qq, qe, lc, tq)) ∧ (¬ da2 = 0 → post 1 ((nI N), (nI R), (nI b1), bb, da2, ag2, lo, (nI (ti + 1)), sb1, sd2, tk, fw, fv2, hv2, sts, ops, opn, rg2, kf, kk, th, ens2, mv, mm, sps, ho, pb, pz, rc, mr, md, mt2, gp, qc, qq, qe, lc, tq))) → wX_processPacket_2 post (d + 1 + 2) (nI ti) (nI N) (nI R) bt bb da ag lo (nI ti) sb sd tk fw fv hv sts ops opn rg kf kk th ens mv mm sps ho pb pz rc mr md mt gp qc qq qe lc tq := by
        intro post hp
        exact br_f t4 (p5 _ (br_f sd_10 ⟨N + 1, l3 _ hp⟩))
      have Y : ∀ (post : Int32 → SY → Prop), (∀ (m' j' : Nat), N ≤ j' → j' ≤ 16 → wY_pass_23 post (m' + 1) (nI j') (nI N) (nI R) tl (nI (8 * Z)) (nI b1) ma ol (nI (ti + 1)) sb1 sd2 tk da2 ag2 gl fw fv2 hv2 ta lk go ca cv cm cg opn ow oq ox rg2 sw sa sz sg ho kf kk ra ac ea eb ch2 th mv mm ty bi mk rc mr md mt2 gp yb le qc qe qq tq lc gt) → wpY_pass post ((nI N), (nI R), tl, (nI (8 * Z)), bt, ma, ol, (nI ti), sb, sd, tk, dr, ay, gl, fw, fv, hv, ta, lk, go, ca, cv, cm, cg, opn, ow, oq, ox, rg, sw, sa, sz, sg, ho, kf, kk, ra, ac, ea, eb, ch, th, mv, mm, ty, bi, mk, rc, mr, md, mt, gp, yb, le, qc, qe, qq, tq, lc, gt) := by
        intro post hp
        exact p6 _ (br_f sd_10 ⟨N + 1, l4 _ (N + 1) (by omega) hp⟩)
      by_cases z : da2 = 0
      · obtain ⟨B, L, pb3, mk3, q1, q2, q3, q4, q5, q6⟩ := sd_build (sc := (nI N)) (bb := bb) (da := da2) (ag := ag2) (lo := lo) (tp := (nI (ti + 1))) (sb := sb1) (sd := sd2) (tk := tk) (fw := fw) (fv := fv2) (hv := hv2) (sts := sts) (ops := ops) (opn := opn) (rg := rg2) (kf := kf) (kk := kk) (th := th) (ens := ens2) (mv := mv) (mm := mm) (sps := sps) (ho := ho) (pb := pb) (pz := pz) (rc := rc) (mr := mr) (md := md) (mt := mt2) (gp := gp) (qc := qc) (qq := qq) (qe := qe) (lc := lc) (tq := tq) (tl := tl) (ma := ma) (ol := ol) (dr := da2) (ay := ag2) (gl := gl) (ta := ta) (lk := lk) (go := go) (ca := ca) (cv := cv) (cm := cm) (cg := cg) (ow := ow) (oq := oq) (ox := ox) (sw := sw) (sa := sa) (sz := sz) (sg := sg) (ra := ra) (ac := ac) (ea := ea) (eb := eb) (ch := ch2) (ty := ty) (bi := bi) (mk := mk) (yb := yb) (le := le) (gt := gt) l1 hR hho hZ p2 hz hb
        by_cases zB : B ≤ 128
        · have hL : L ≤ 16 := by omega
          rw [if_pos zB] at q5
          have n128 : ¬ 128 < nI (8 * L) := nI_nlt (a := 128) (by omega) (by decide)
          have b128 : nI B ≤ 128 := nI_le (b := 128) zB (by decide)
          by_cases za : ag2 = 0
          · refine ⟨0, nI b1, nI B, da2, ag2, nI (ti + 1), sb1, sd2, nI (8 * Z), nI (8 * L), da2, ag2, fv2, hv2, rg2, mt2, ens2, pb3, upd pz 50 (nI L), ch2, bi, mk3, by omega, l1, l2, fun j hj => q4 j (by omega), fun s h49 h50 => pk_un h50, fun _ => ⟨L, hL, rfl, pk_us, fun k hk => sd_BIa q3 (by omega) (by omega)⟩, fun post hp => X post (br_t z (q5 _ (br_t b128 (br_t za hp)))), fun post m hm hp => ?_⟩
            obtain ⟨m2, rfl⟩ : ∃ m2, m = m2 + 1 + 1 := ⟨m - 2, by omega⟩
            exact br_t rfl (Y _ (fun m' j' j1 j2 => br_t (nI_le j1 (by omega)) (br_t z (q6 _ (br_f n128 (br_t za (br_t za (hp m2))))))))
          · obtain ⟨rr, bt', bb', da', ag', tp', sb', sd', tt', ma', dr', ay', fv', hv', rg', mt', ens', pb', pz', ch', bi', mk', s1, s2, s3, s4, s5, s6, s7, s8⟩ := ih (ti + 1) L (nI b1) (nI B) da2 ag2 sb1 sd2 (nI (8 * L)) da2 ag2 fv2 hv2 rg2 mt2 ens2 (sd_cp pb3 50 49 L) (upd (upd pz 50 (nI L)) 49 (nI L)) ch2 (sd_cb bi mk3 (8 * L)) mk3 (by omega) hL pk_us (fun k hk => by
              rw [sd_cbi (8 * L) k hk, sd_BIv q3 (by omega) hk]
              have e := sd_cpi (pb := pb3) (f := 50) (t := 49) (by omega) L hL (k / 8) (by omega)
              have e' : sd_cp pb3 50 49 L (784 + k / 8) = pb3 (800 + k / 8) := e
              rw [e']) l1 l2
            have n4 : ¬ nI (ti + 1) = 4 := fun y => absurd ((nI_eq (a := ti + 1) (b := 4) (by omega) (by omega)).mp y) (by omega)
            refine ⟨rr, bt', bb', da', ag', tp', sb', sd', tt', ma', dr', ay', fv', hv', rg', mt', ens', pb', pz', ch', bi', mk', s1, s2, s3, fun j hj => by rw [s4 j hj, sd_cpo L j (by omega)]; exact q4 j (by omega), fun s h49 h50 => by rw [s5 s h49 h50, pk_un h49, pk_un h50], s6, fun post hp => X post (br_t z (q5 _ (br_t b128 (br_f za (sx_copy (f := 50) (t := 49) (by omega) (by omega) hL pk_us (nm_r (nI_1 ti) (s7 post hp))))))), fun post m hm hp => ?_⟩
            obtain ⟨m2, rfl⟩ : ∃ m2, m = m2 + 1 := ⟨m - 1, by omega⟩
            exact br_t rfl (Y _ (fun m' j' j1 j2 => br_t (nI_le j1 (by omega)) (br_t z (q6 _ (br_f n128 (br_f za (br_f n4 (br_f za (sy_p99b hL q3 (s8 post m2 (by omega) hp))))))))))
        · rw [if_neg zB] at q5
          have n128 : 128 < nI (8 * L) := nI_lt (a := 128) (by omega) (by omega)
          have b128 : ¬ nI B ≤ 128 := nI_ge (a := 128) (by omega) (by omega)
          refine ⟨1, nI b1, nI B, da2, ag2, nI (ti + 1), sb1, sd2, nI (8 * Z), nI (8 * L), da2, ag2, fv2, hv2, rg2, mt2, ens2, pb3, upd pz 50 0, ch2, bi, mk3, by omega, l1, l2, fun j hj => q4 j (by omega), fun s h49 h50 => pk_un h50, fun z => absurd z (by omega), fun post hp => X post (br_t z (q5 _ (br_f b128 hp))), fun post m hm hp => ?_⟩
          obtain ⟨m2, rfl⟩ : ∃ m2, m = m2 + 1 + 1 := ⟨m - 2, by omega⟩
          exact br_t rfl (Y _ (fun m' j' j1 j2 => br_t (nI_le j1 (by omega)) (br_t z (q6 _ (br_t n128 (hp m2))))))
      · refine ⟨1, nI b1, bb, da2, ag2, nI (ti + 1), sb1, sd2, nI (8 * Z), ma, da2, ag2, fv2, hv2, rg2, mt2, ens2, pb, pz, ch2, bi, mk, by omega, l1, l2, fun _ _ => rfl, fun _ _ _ => rfl, fun z => absurd z (by omega), fun post hp => X post (br_f z hp), fun post m hm hp => ?_⟩
        obtain ⟨m2, rfl⟩ : ∃ m2, m = m2 + 1 + 1 := ⟨m - 2, by omega⟩
        exact br_t rfl (Y _ (fun m' j' j1 j2 => br_t (nI_le j1 (by omega)) (br_f z (hp m2))))
end
end
section
section
variable {sc oc bt bb da ag lo tp sb sd tk : Int32} {fw fv hv sts ops opn rg kf kk th ens mv mm sps ho pb pz rc mr md mt gp qc qq qe lc tq : Nat → Int32} {tl tt ma ol dr ay gl : Int32} {ta lk go ca cv cm cg ow oq ox sw sa sz sg ra ac ea eb ch ty bi mk yb le gt : Nat → Int32}
def sd_z24 (fv : Nat → Int32) : Nat → (Nat → Int32)
  | 0 => fv
  | i + 1 => upd (sd_z24 fv i) (24 + i) 0
def sd_y24 (fv : Nat → Int32) (p : Int32) : Nat → (Nat → Int32)
  | 0 => fv
  | i + 1 => upd (sd_y24 fv p i) (24 + i) (if i = 0 then p else 0)
theorem sd_zy {p : Int32} : upd (sd_z24 fv 4) 24 p = sd_y24 fv p 4 := by
  funext j
  show (if j = 24 then p else if j = 27 then 0 else if j = 26 then 0 else if j = 25 then 0 else if j = 24 then 0 else fv j) = (if j = 27 then 0 else if j = 26 then 0 else if j = 25 then 0 else if j = 24 then p else fv j)
  by_cases e : j = 24
  · subst e; rfl
  · rw [if_neg e, if_neg e, if_neg e]
theorem sd_Fy (hF : sd_F fw fv hv) {w : Nat} (hw : w < 65536) : ∀ i, i ≤ 4 → sd_F fw (sd_y24 fv (nI w) i) hv
  | 0, _ => hF
  | i + 1, hi => by
    have e16 : fw (24 + i) = nI 16 := hF.2.1 (24 + i) (by omega) (by omega)
    by_cases z : i = 0
    · subst z
      exact sd_Fu hF e16 (by omega) hw rfl
    · refine sd_Fu (v := 0) (sd_Fy hF hw i (by omega)) e16 (by omega) (by decide) ?_
      rw [if_neg z]; rfl
def sd_tB (ty bi : Nat → Int32) : Nat → (Nat → Int32)
  | 0 => bi
  | i + 1 => upd (sd_tB ty bi i) i (sd_bv (ty (i / 8)) (i % 8))
theorem sd_tBi : ∀ i j, j < i → sd_tB ty bi i j = sd_bv (ty (j / 8)) (j % 8)
  | 0, j, h => absurd h (by omega)
  | i + 1, j, h => by
    show upd (sd_tB ty bi i) i _ j = _
    by_cases e : j = i
    · subst e; rw [pk_us]
    · rw [pk_un e]; exact sd_tBi i j (by omega)
theorem sx_s12 {post : Int32 → SX → Prop} {w : Nat} (h : ∀ n, wX_send_12 post (nI w) sc oc bt bb da ag lo tp sb sd tk (n + 1) 28 fw (sd_z24 fv 4) hv sts ops opn rg kf kk th ens mv mm sps ho pb pz rc mr md mt gp qc qq qe lc tq) : ∃ n, wX_send_12 post (nI w) sc oc bt bb da ag lo tp sb sd tk n 24 fw fv hv sts ops opn rg kf kk th ens mv mm sps ho pb pz rc mr md mt gp qc qq qe lc tq :=
  sd_lp (fun n i s => wX_send_12 post (nI w) sc oc bt bb da ag lo tp sb sd tk n (nI (24 + i)) fw s hv sts ops opn rg kf kk th ens mv mm sps ho pb pz rc mr md mt gp qc qq qe lc tq) (fun i => sd_z24 fv i) 4 0 (by omega) (fun n => h n)
    (fun n i _ hi ih => br_f (nI_ge (b := 28) (by omega) (by decide)) (sd_st (24 + i) rfl (by omega) (by decide) (nm_r (nI_1 _) ih)))
theorem sy_pre {post : Int32 → SY → Prop} {T w : Nat} (hT : T ≤ 16) (hw : w < 65536) (h : ∃ n, wY_send_119 post n 3 sc oc (nI T) (nI (8 * T)) bt ma ol 0 0 0 tk dr ay gl fw (sd_y24 fv (nI w) 4) hv ta lk go ca cv cm cg opn ow oq ox rg sw sa sz sg ho kf kk ra ac ea eb ch th mv mm ty (sd_tB ty bi (8 * T)) mk rc mr md mt gp yb le qc qe qq tq lc gt) : wpY_send post (sc, oc, (nI T), tt, bt, ma, ol, tp, sb, sd, tk, dr, ay, gl, fw, fv, hv, ta, lk, go, ca, cv, cm, cg, opn, ow, oq, ox, rg, sw, sa, sz, sg, ho, kf, kk, ra, ac, ea, eb, ch, th, mv, mm, ty, bi, mk, rc, mr, md, mt, gp, yb, le, qc, qe, qq, tq, lc, gt) (nI w) := by
  unfold wpY_send
  refine sy_word1 ⟨w, hw, rfl⟩ (sd_w1 (nm_r (pk_mul 8 T) ?_))
  refine sd_lp (fun n i s => wY_send_22 post (nI w) sc oc (nI T) (nI (8 * T)) bt ma ol tp sb sd tk dr ay gl n (nI i) fw fv hv ta lk go ca cv cm cg opn ow oq ox rg sw sa sz sg ho kf kk ra ac ea eb ch th mv mm ty s mk rc mr md mt gp yb le qc qe qq tq lc gt) (fun i => sd_tB ty bi i) (8 * T) 0 (by omega) (fun n => br_t (nI_le (Nat.le_refl _) (by omega)) ?_) (fun n i _ hi ih => br_f (nI_ge hi (by omega)) ⟨by decide, ?_⟩)
  · refine sd_lp (fun n i s => wY_send_73 post (nI w) sc oc (nI T) (nI (8 * T)) bt ma ol tp sb sd tk dr ay gl n (nI (24 + i)) fw s hv ta lk go ca cv cm cg opn ow oq ox rg sw sa sz sg ho kf kk ra ac ea eb ch th mv mm ty (sd_tB ty bi (8 * T)) mk rc mr md mt gp yb le qc qe qq tq lc gt) (fun i => sd_y24 fv (nI w) i) 4 0 (by omega) (fun n => br_t (by decide) h) (fun n i _ hi ih => br_f (nI_ge (b := 28) (by omega) (by decide)) ?_)
    have ih' : wY_send_73 post (nI w) sc oc (nI T) (nI (8 * T)) bt ma ol tp sb sd tk dr ay gl n (nI (24 + (i + 1))) fw (upd (sd_y24 fv (nI w) i) (24 + i) (if i = 0 then nI w else 0)) hv ta lk go ca cv cm cg opn ow oq ox rg sw sa sz sg ho kf kk ra ac ea eb ch th mv mm ty (sd_tB ty bi (8 * T)) mk rc mr md mt gp yb le qc qe qq tq lc gt := ih
    refine pk_eq (24 + i) 24 (fun z => sd_st (24 + i) rfl (by omega) (by decide) (nm_r (nI_1 _) ?_)) (fun z => sd_st (24 + i) rfl (by omega) (by decide) (nm_r (nI_1 _) ?_))
    · rw [if_pos (by omega)] at ih'; exact ih'
    · rw [if_neg (by omega)] at ih'; exact ih'
  · have e2 : nI i - nI i / 8 * 8 = nI (i % 8) := pk_rem (d := 8) (by omega) (by decide) (by decide)
    have e1 : nI i / 8 = nI (i / 8) := pk_div (d := 8) (by omega) (by decide) (by decide)
    have e3 : 7 - nI (i % 8) = nI (7 - i % 8) := pk_sub (a := 7) (by omega)
    rw [e2, e1, e3, nI_clamp (n := i / 8) (by omega), sd_b0, sd_b1]
    refine ⟨vp_in_nI (by omega) (by decide), by decide, br_c (fun z => sd_st i rfl (by omega) (by decide) (nm_r (nI_1 _) ?_)) (fun z => sd_st i rfl (by omega) (by decide) (nm_r (nI_1 _) ?_))⟩
    · have z' : sd_bv (ty (i / 8)) (i % 8) = 1 := z
      have ih' : wY_send_22 post (nI w) sc oc (nI T) (nI (8 * T)) bt ma ol tp sb sd tk dr ay gl n (nI (i + 1)) fw fv hv ta lk go ca cv cm cg opn ow oq ox rg sw sa sz sg ho kf kk ra ac ea eb ch th mv mm ty (upd (sd_tB ty bi i) i (sd_bv (ty (i / 8)) (i % 8))) mk rc mr md mt gp yb le qc qe qq tq lc gt := ih
      rw [z'] at ih'
      exact ih'
    · have z' : sd_bv (ty (i / 8)) (i % 8) = 0 := (sd_bv01 _ _).resolve_right z
      have ih' : wY_send_22 post (nI w) sc oc (nI T) (nI (8 * T)) bt ma ol tp sb sd tk dr ay gl n (nI (i + 1)) fw fv hv ta lk go ca cv cm cg opn ow oq ox rg sw sa sz sg ho kf kk ra ac ea eb ch th mv mm ty (upd (sd_tB ty bi i) i (sd_bv (ty (i / 8)) (i % 8))) mk rc mr md mt gp yb le qc qe qq tq lc gt := ih
      rw [z'] at ih'
      exact ih'
end
end
section
section
variable {sc oc bt bb da ag lo tp sb sd tk : Int32} {fw fv hv sts ops opn rg kf kk th ens mv mm sps ho pb pz rc mr md mt gp qc qq qe lc tq : Nat → Int32} {tl tt ma ol dr ay gl : Int32} {ta lk go ca cv cm cg ow oq ox sw sa sz sg ra ac ea eb ch ty bi mk yb le gt : Nat → Int32}
theorem i_vc_send {k : Nat} {u : SX} {v : SY} (I : i_Rel k u v) (hk : k + 7 ≤ 3584) (v1 : Int32) : wpX_send (fun r u' => wpY_send (fun r' v' => r' = r ∧ i_Rel (k + 7) u' v') v v1) u v1 := by
  refine sd_el (C := fun u v => wpX_send (fun r u' => wpY_send (fun r' v' => r' = r ∧ i_Rel (k + 7) u' v') v v1) u v1) I (fun sc oc bt bb da ag lo tp sb sd tk tl tt ma ol dr ay gl fw fv hv sts ops opn rg kf kk th ens mv mm sps ho pb pz rc mr md mt gp qc qq qe lc tq ta lk go ca cv cm cg ow oq ox sw sa sz sg ra ac ea eb ch ty bi mk yb le gt hF hS hO hE hP hH hT hU hG hW hQ => ?_)
  have J : i_Rel (k + 7) (sc, oc, bt, bb, da, ag, lo, tp, sb, sd, tk, fw, fv, hv, sts, ops, opn, rg, kf, kk, th, ens, mv, mm, sps, ho, pb, pz, rc, mr, md, mt, gp, qc, qq, qe, lc, tq) (sc, oc, tl, tt, bt, ma, ol, tp, sb, sd, tk, dr, ay, gl, fw, fv, hv, ta, lk, go, ca, cv, cm, cg, opn, ow, oq, ox, rg, sw, sa, sz, sg, ho, kf, kk, ra, ac, ea, eb, ch, th, mv, mm, ty, bi, mk, rc, mr, md, mt, gp, yb, le, qc, qe, qq, tq, lc, gt) := sd_mk hF hS hO hE hP hH hT hU hG hW hQ
  unfold wpX_send
  rcases sd_cl 65536 v1 with h | h
  · refine sx_word0 h (sd_w0 ?_)
    unfold wpY_send
    exact sy_word0 h (sd_w0 ⟨rfl, J⟩)
  · obtain ⟨w, hw, rfl⟩ := id h
    have hP' := hP
    have hH' := hH
    obtain ⟨N, hN, rfl, hA, hB⟩ := hP
    obtain ⟨R, hR, rfl, hho⟩ := hH
    obtain ⟨⟨T, hT1, rfl, hT2⟩, hT3⟩ := hT
    have bits : ∀ i, i < 8 * T → sd_tB ty bi (8 * T) i = sd_bv (sd_cp pb 48 49 T (784 + i / 8)) (i % 8) := by
      intro i hi
      have e : sd_cp pb 48 49 T (784 + i / 8) = pb (768 + i / 8) := sd_cpi (f := 48) (t := 49) (by omega) T hT1 (i / 8) (by omega)
      rw [sd_tBi _ i hi, e, hT3 (i / 8) (by omega)]
    obtain ⟨rr, bt', bb', da', ag', tp', sb', sd', tt', ma', dr', ay', fv', hv', rg', mt', ens', pb', pz', ch', bi', mk', s1, s2, s3, s4, s5, s6, s7, s8⟩ := sd_pr (lo := lo) (tk := tk) (fw := fw) (sts := sts) (ops := ops) (opn := opn) (kf := kf) (kk := kk) (th := th) (mv := mv) (mm := mm) (sps := sps) (ho := ho) (rc := rc) (mr := mr) (md := md) (gp := gp) (qc := qc) (qq := qq) (qe := qe) (lc := lc) (tq := tq) (tl := (nI T)) (ol := ol) (gl := gl) (ta := ta) (lk := lk) (go := go) (ca := ca) (cv := cv) (cm := cm) (cg := cg) (ow := ow) (oq := oq) (ox := ox) (sw := sw) (sa := sa) (sz := sz) (sg := sg) (ra := ra) (ac := ac) (ea := ea) (eb := eb) (ty := ty) (yb := yb) (le := le) (gt := gt) hS hO hA hB hN hR hho 3 0 T bt bb da ag 0 0 ma dr ay (sd_y24 fv (nI w) 4) hv rg mt ens (sd_cp pb 48 49 T) (upd pz 49 (nI T)) ch (sd_tB ty bi (8 * T)) mk (by omega) hT1 pk_us bits (sd_Fy hF hw 4 (by omega)) hE
    have fpb : ∀ j, (j < 784 ∨ 816 ≤ j) → pb' j = pb j := fun j hj => by rw [s4 j hj, sd_cpo T j (by omega)]
    have fpz : ∀ s, s ≠ 49 → s ≠ 50 → pz' s = pz s := fun s h49 h50 => by rw [s5 s h49 h50, pk_un h49]
    have hT' : sd_T pb' pz' (nI T) ty := ⟨⟨T, hT1, rfl, (fpz 48 (by omega) (by omega)).trans hT2⟩, fun j hj => (fpb _ (by omega)).trans (hT3 j hj)⟩
    have hG' : sd_G pb' pz' gl gt := by
      obtain ⟨G, h1, h2, h3, h4⟩ := hG
      exact ⟨G, h1, h2, (fpz 51 (by omega) (by omega)).trans h3, fun j hj => (fpb _ (by omega)).trans (h4 j hj)⟩
    have hW' : sd_W pb' pz' qc le yb := by
      intro q hq
      obtain ⟨C, h1, h2, h3⟩ := hW q hq
      refine ⟨C, h1, h2, fun i hi => ?_⟩
      obtain ⟨L, g1, g2, g3, g4⟩ := h3 i hi
      exact ⟨L, g1, g2, (fpz _ (by omega) (by omega)).trans g3, fun j hj => (fpb _ (by omega)).trans (g4 j hj)⟩
    -- Y from its beginning to the end of the passes
    have Y : ∀ post : Int32 → SY → Prop, (∀ m' : Nat, wY_send_119 post (m' + 1) (nI rr) (nI N) (nI R) (nI T) tt' bt' ma' ol tp' sb' sd' tk dr' ay' gl fw fv' hv' ta lk go ca cv cm cg opn ow oq ox rg' sw sa sz sg ho kf kk ra ac ea eb ch' th mv mm ty bi' mk' rc mr md mt' gp yb le qc qe qq tq lc gt) → wpY_send post ((nI N), (nI R), (nI T), tt, bt, ma, ol, tp, sb, sd, tk, dr, ay, gl, fw, fv, hv, ta, lk, go, ca, cv, cm, cg, opn, ow, oq, ox, rg, sw, sa, sz, sg, ho, kf, kk, ra, ac, ea, eb, ch, th, mv, mm, ty, bi, mk, rc, mr, md, mt, gp, yb, le, qc, qe, qq, tq, lc, gt) (nI w) :=
      fun post hp => sy_pre hT1 hw ⟨5, s8 post 5 (by omega) hp⟩
    refine sx_word1 h (sd_w1 (sx_s12 (fun n => br_t (by decide) (nm_e ?_))))
    rw [sd_zy]
    refine sx_copy (f := 48) (t := 49) (by omega) (by omega) hT1 hT2 ⟨5, s7 _ ?_⟩
    have r3 : vp_in (nI rr) 3 := vp_in_nI s1 (by decide)
    have n3 : ¬ nI rr = 3 := fun y => absurd ((nI_eq (a := rr) (b := 3) (by omega) (by omega)).mp y) (by omega)
    have rc0 : (nI rr).toNatClampNeg = rr := nI_clamp (by omega)
    by_cases z : rr = 0
    · subst z
      obtain ⟨L, hL, hm, hz50, hb50⟩ := s6 rfl
      subst hm
      obtain ⟨qc', lc', pb2, pz2, le', yb', d1, d2, d3, d4, d5⟩ := sd_deliver (sc := (nI N)) (oc := (nI R)) (bt := bt') (bb := bb') (da := da') (ag := ag') (lo := 1) (tp := tp') (sb := sb') (sd := sd') (tk := tk) (fw := fw) (fv := fv') (hv := hv') (sts := sts) (ops := ops) (opn := opn) (rg := rg') (kf := kf) (kk := kk) (th := th) (ens := ens') (mv := mv) (mm := mm) (sps := sps) (ho := ho) (pb := pb') (pz := pz') (rc := (upd rc 0 (rc 0 + 1))) (mr := mr) (md := md) (mt := mt') (gp := gp) (qc := qc) (qq := qq) (qe := qe) (lc := lc) (tq := tq) (tl := (nI T)) (tt := tt') (ma := (nI (8 * L))) (dr := dr') (ay := ay') (gl := gl) (ta := ta) (lk := lk) (go := go) (ca := ca) (cv := cv) (cm := cm) (cg := cg) (ow := ow) (oq := oq) (ox := ox) (sw := sw) (sa := sa) (sz := sz) (sg := sg) (ra := ra) (ac := ac) (ea := ea) (eb := eb) (ch := ch') (ty := ty) (bi := bi') (mk := mk') (yb := yb) (le := le) (gt := gt) s2 hW' hL hz50 hb50
      refine br_t rfl ⟨sd_n1, sd_f1, r3, r3, ?_⟩
      rw [rc0]
      refine nm_e (br_f sd_10 (d4 _ (Y _ (fun m' => br_f n3 ⟨r3, r3, ?_⟩))))
      rw [rc0]
      have e8 : nI (8 * L) / 8 = nI L := (pk_div (d := 8) (by omega) (by decide) (by decide)).trans (by congr 1; omega)
      refine nm_e (br_t rfl ⟨by decide, ?_⟩)
      rw [e8]
      refine br_t rfl (d5 _ ⟨rfl, sd_mk s2 hS hO s3 hP' hH' ?_ ?_ ?_ d1 hQ⟩)
      · obtain ⟨⟨T', t1, t2, t3⟩, t4⟩ := hT'
        exact ⟨⟨T', t1, t2, (d3 48 (by omega)).trans t3⟩, fun j hj => (d2 _ (by omega)).trans (t4 j hj)⟩
      · exact Or.inr ⟨rfl, L, hL, rfl, (d3 50 (by omega)).trans hz50, fun k hk => (d2 _ (by omega)).trans (hb50 k hk)⟩
      · obtain ⟨G, h1, h2, h3, h4⟩ := hG'
        exact ⟨G, h1, h2, (d3 51 (by omega)).trans h3, fun j hj => (d2 _ (by omega)).trans (h4 j hj)⟩
    · have n0 : ¬ nI rr = 0 := fun y => absurd ((nI_eq (a := rr) (b := 0) (by omega) (by omega)).mp y) z
      refine br_f n0 ⟨sd_n0, sd_f0, r3, r3, ?_⟩
      rw [rc0]
      refine nm_e (br_t rfl (Y _ (fun m' => br_f n3 ⟨r3, r3, ?_⟩)))
      rw [rc0]
      exact nm_e (br_f n0 (br_f n0 ⟨rfl, sd_mk s2 hS hO s3 hP' hH' hT' (Or.inl ⟨rfl, rfl⟩) hG' hW' hQ⟩))
end
end
