theorem pk_us {f : Nat → Int32} {k : Nat} {x : Int32} : upd f k x k = x := if_pos rfl
theorem pk_un {f : Nat → Int32} {k j : Nat} {x : Int32} (h : j ≠ k) : upd f k x j = f j := if_neg h
theorem pk_sub {a b : Nat} (h : b ≤ a) : nI a - nI b = nI (a - b) := by
  obtain ⟨c, rfl⟩ : ∃ c, a = c + b := ⟨a - b, by omega⟩
  rw [← nI_add, Int32.add_sub_cancel, Nat.add_sub_cancel]
theorem pk_m1 (n : Nat) : nI (n + 1) + (-1) = nI n := by
  rw [← nI_1, Int32.add_assoc, show (1 : Int32) + (-1) = 0 from rfl, Int32.add_zero]
theorem pk_mul (a b : Nat) : nI a * nI b = nI (a * b) := (Int32.ofNat_mul a b).symm
theorem pk_div {a d : Nat} (ha : a < 2 ^ 31) (h0 : 0 < d) (hd : d < 2 ^ 31) : nI a / nI d = nI (a / d) := by
  apply Int32.toInt_inj.mp
  rw [lg_idiv_nonneg (by rw [nI_toInt ha]; omega) (by rw [nI_toInt hd]; omega), nI_toInt ha, nI_toInt hd, nI_toInt (Nat.lt_of_le_of_lt (Nat.div_le_self a d) ha)]
  first | rfl | exact (Int.natCast_ediv _ _).symm
theorem pk_rem {a d : Nat} (ha : a < 2 ^ 31) (h0 : 0 < d) (hd : d < 2 ^ 31) : nI a - nI a / nI d * nI d = nI (a % d) := by
  rw [pk_div ha h0 hd, pk_mul, pk_sub (Nat.div_mul_le_self a d)]
  exact congrArg nI (by have := Nat.div_add_mod' a d; omega)
theorem pk_ix (x : Int32) {n : Nat} (hn : n < 2 ^ 31) : x < 0 ∨ nI n ≤ x ∨ ∃ j : Nat, j < n ∧ x = nI j := by
  by_cases h : x < 0
  · exact Or.inl h
  · obtain ⟨j, hj, rfl⟩ := nI_of h
    by_cases h2 : j < n
    · exact Or.inr (Or.inr ⟨j, h2, rfl⟩)
    · exact Or.inr (Or.inl (nI_le (by omega) hj))
theorem pk_le {x y : Int32} {A B : Prop} (a b : Nat) (f : a ≤ b → A) (g : b < a → B) (hx : x = nI a := by rfl) (hy : y = nI b := by rfl) (ha : a < 2 ^ 31 := by omega) (hb : b < 2 ^ 31 := by omega) : (x ≤ y → A) ∧ (¬ x ≤ y → B) := by
  subst hx hy
  rw [nI_leI ha hb]
  exact ⟨f, fun z => g (by omega)⟩
theorem pk_lt {x y : Int32} {A B : Prop} (a b : Nat) (f : a < b → A) (g : b ≤ a → B) (hx : x = nI a := by rfl) (hy : y = nI b := by rfl) (ha : a < 2 ^ 31 := by omega) (hb : b < 2 ^ 31 := by omega) : (x < y → A) ∧ (¬ x < y → B) := by
  subst hx hy
  rw [nI_ltI ha hb]
  exact ⟨f, fun z => g (by omega)⟩
theorem pk_eq {x y : Int32} {A B : Prop} (a b : Nat) (f : a = b → A) (g : a ≠ b → B) (hx : x = nI a := by rfl) (hy : y = nI b := by rfl) (ha : a < 2 ^ 31 := by omega) (hb : b < 2 ^ 31 := by omega) : (x = y → A) ∧ (¬ x = y → B) := by
  subst hx hy
  rw [nI_eq ha hb]
  exact ⟨f, g⟩
theorem pk_in {x : Int32} (n N : Nat) (h : n < N) (hx : x = nI n := by rfl) (hN : N < 2 ^ 31 := by omega) : vp_in x N := by
  subst hx
  exact vp_in_nI h hN
theorem pk_cl {x : Int32} (n : Nat) (hx : x = nI n := by rfl) (h : n < 2 ^ 31 := by omega) : x.toNatClampNeg = n := by
  subst hx
  exact nI_clamp h
theorem pk_tn {n : Nat} (h : n < 2 ^ 32) : (nI n).toBitVec.toNat = n := Nat.mod_eq_of_lt h
theorem pk_and (x : Int32) {m : Int32} (k : Nat) (hm : m.toBitVec.toNat = 2 ^ k - 1) : x &&& m = nI (x.toBitVec.toNat % 2 ^ k) := by
  apply Int32.toBitVec_inj.mp
  apply BitVec.eq_of_toNat_eq
  rw [Int32.toBitVec_and, BitVec.toNat_and, hm, Nat.and_two_pow_sub_one_eq_mod]
  show _ = (BitVec.ofNat 32 _).toNat
  rw [BitVec.toNat_ofNat]
  exact (Nat.mod_eq_of_lt (Nat.lt_of_le_of_lt (Nat.mod_le _ _) x.toBitVec.isLt)).symm
theorem pk_andN {n : Nat} (h : n < 2 ^ 32) {m : Int32} (k : Nat) (hm : m.toBitVec.toNat = 2 ^ k - 1) : nI n &&& m = nI (n % 2 ^ k) := by
  rw [pk_and _ k hm, pk_tn h]
theorem pk_andE (x : Int32) {m : Int32} (k : Nat) (hm : m.toBitVec.toNat = 2 ^ k - 1) : ∃ j : Nat, j < 2 ^ k ∧ x &&& m = nI j := ⟨_, Nat.mod_lt _ (Nat.two_pow_pos k), pk_and x k hm⟩
theorem pk_andIn (x : Int32) {m : Int32} (k : Nat) (hm : m.toBitVec.toNat = 2 ^ k - 1) (hk : k ≤ 30) : vp_in (x &&& m) (2 ^ k) := by
  obtain ⟨j, hj, e⟩ := pk_andE x k hm
  rw [e]
  exact vp_in_nI hj (Nat.lt_of_le_of_lt (Nat.pow_le_pow_right (by decide) hk) (by decide))
theorem pk_shl (a s : Int32) (k : Nat) (hs : (s.toBitVec.smod 32).toNat = k) : (a <<< s).toBitVec.toNat = a.toBitVec.toNat * 2 ^ k % 2 ^ 32 := by
  show (a.toBitVec <<< (s.toBitVec.smod 32).toNat).toNat = _
  rw [hs, BitVec.toNat_shiftLeft, Nat.shiftLeft_eq]
theorem pk_shlN {n : Nat} (s : Int32) (k : Nat) (hs : (s.toBitVec.smod 32).toNat = k) (h : n * 2 ^ k < 2 ^ 32) : nI n <<< s = nI (n * 2 ^ k) := by
  apply Int32.toBitVec_inj.mp
  apply BitVec.eq_of_toNat_eq
  have hn : n < 2 ^ 32 := Nat.lt_of_le_of_lt (Nat.le_mul_of_pos_right n (Nat.two_pow_pos k)) h
  rw [pk_shl _ _ k hs, pk_tn hn, pk_tn h, Nat.mod_eq_of_lt h]
theorem pk_shr (a s : Int32) (k : Nat) (hs : (s.toBitVec.smod 32).toNat = k) : (a >>> s).toInt = a.toInt >>> k := by
  show (a.toBitVec.sshiftRight (s.toBitVec.smod 32).toNat).toInt = _
  rw [hs, BitVec.toInt_sshiftRight]
  rfl
theorem pk_shrN {n : Nat} (h : n < 2 ^ 31) (s : Int32) (k : Nat) (hs : (s.toBitVec.smod 32).toNat = k) : nI n >>> s = nI (n / 2 ^ k) := by
  apply Int32.toInt_inj.mp
  have h2 : n / 2 ^ k ≤ n := Nat.div_le_self _ _
  rw [pk_shr _ _ k hs, nI_toInt h, nI_toInt (by omega), Int.shiftRight_eq_div_pow]
  rfl
theorem pk_loop {σ : Type} (W : Nat → Nat → σ → Prop) (I : Nat → σ → Prop) (e i0 : Nat) (s : σ) (hi : i0 ≤ e) (h0 : I i0 s) (hx : ∀ n s, I e s → W (n + 1) e s)
    (hs : ∀ n i s, i < e → I i s → (∀ s', I (i + 1) s' → W n (i + 1) s') → W (n + 1) i s) : ∃ n, W n i0 s :=
  ⟨e + 1, loop_i W I e hx hs (e + 1) i0 s hi (by omega) h0⟩
theorem pk_loopD {σ : Type} (W : Nat → Nat → σ → Prop) (I : Nat → σ → Prop) (hx : ∀ n s, I 0 s → W (n + 1) 0 s)
    (hs : ∀ n i s, I (i + 1) s → (∀ s', I i s' → W n i s') → W (n + 1) (i + 1) s) : ∀ (e : Nat) (s : σ), I e s → W (e + 1) e s := by
  intro e
  induction e with
  | zero => exact fun s h => hx 0 s h
  | succ e ih => exact fun s h => hs (e + 1) e s h (fun s' h' => ih s' h')
theorem sd_b0 : vp_nar .boolean 0 = 0 := by decide
theorem sd_b1 : vp_nar .boolean 1 = 1 := by decide
theorem sd_n0 : narrow .boolean (.int 0) = .int 0 := by decide
theorem sd_n1 : narrow .boolean (.int 1) = .int 1 := by decide
theorem sd_f0 : fits .boolean (.int 0) = true := by decide
theorem sd_f1 : fits .boolean (.int 1) = true := by decide
theorem sd_uu {f : Nat → Int32} {k : Nat} {x y : Int32} : upd (upd f k x) k y = upd f k y := by
  funext j
  by_cases h : j = k
  · rw [h, pk_us, pk_us]
  · rw [pk_un h, pk_un h, pk_un h]
theorem sd_ud {f : Nat → Int32} {k : Nat} {x : Int32} (h : f k = x) : upd f k x = f := by
  funext j
  by_cases e : j = k
  · rw [e, pk_us, h]
  · rw [pk_un e]
theorem sd_uc {f : Nat → Int32} {k l : Nat} {x y : Int32} (h : k ≠ l) : upd (upd f k x) l y = upd (upd f l y) k x := by
  funext j
  by_cases e : j = l
  · subst e
    rw [pk_us, pk_un (Ne.symm h), pk_us]
  · by_cases e2 : j = k
    · subst e2
      rw [pk_un e, pk_us, pk_us]
    · rw [pk_un e, pk_un e2, pk_un e2, pk_un e]
theorem sd_ma (s a b : Nat) : nI s * nI a + nI b = nI (s * a + b) := by rw [pk_mul, nI_add]
theorem sd_am (s a b : Nat) : nI a * nI s + nI b = nI (a * s + b) := by rw [pk_mul, nI_add]
theorem sd_ltI (x y : Int32) : x < y ↔ x.toInt < y.toInt := Int32.lt_iff_toInt_lt
theorem sd_leI (x y : Int32) : x ≤ y ↔ x.toInt ≤ y.toInt := Int32.le_iff_toInt_le
theorem sd_t1 (x : Int32) (h : ¬ 24 ≤ x) : ¬ 23 < x := by grind
theorem sd_t2 (x : Int32) (h0 : ¬ x < 0) (h : ¬ 24 ≤ x) : ∃ j : Nat, j < 24 ∧ x = nI j := by
  obtain ⟨j, hj, rfl⟩ := nI_of h0
  refine ⟨j, ?_, rfl⟩
  have : ¬ nI 24 ≤ nI j := h
  rw [nI_leI (by omega) hj] at this
  omega
theorem sd_t3 (x y : Int32) (h0 : ¬ x < 0) (h : x ≤ 16) (h2 : 16 < x ∨ x < 0) : False := by grind
theorem sd_t4 (x : Int32) (h : x < -1) (h2 : ¬ x < 0) : False := by grind
/-- a store at an index that is known -/
theorem sd_st {N : Nat} {x : Int32} {a : Nat → Int32} {v : Int32} {P : (Nat → Int32) → Prop} (n : Nat) (hx : x = nI n) (hN : n < N) (hb : N < 2 ^ 31) (h : P (upd a n v)) :
    vp_in x N ∧ ∀ y, y = upd a x.toNatClampNeg v → P y := by
  subst hx
  refine ⟨vp_in_nI hN hb, ?_⟩
  rw [nI_clamp (by omega)]
  exact nm_e h
def sd_rg (n : Nat) (x : Int32) : Prop := ∃ j : Nat, j < n ∧ x = nI j
def sd_rj (n : Nat) (x : Int32) : Prop := x < 0 ∨ nI n ≤ x
def sd_rm (n : Nat) (x : Int32) : Prop := x < -1 ∨ nI n ≤ x
theorem sd_cl (n : Nat) (x : Int32) (hn : n < 2 ^ 31 := by omega) : sd_rj n x ∨ sd_rg n x := by
  rcases pk_ix x hn with h | h | h
  · exact Or.inl (Or.inl h)
  · exact Or.inl (Or.inr h)
  · exact Or.inr h
theorem sd_clm (n : Nat) (x : Int32) (hn : n < 2 ^ 31 := by omega) : sd_rm n x ∨ x = -1 ∨ sd_rg n x := by
  by_cases h : x < -1
  · exact Or.inl (Or.inl h)
  · by_cases e : x = -1
    · exact Or.inr (Or.inl e)
    · rcases pk_ix x hn with h2 | h2 | h2
      · exfalso
        rw [sd_ltI] at h h2
        apply e
        apply Int32.toInt_inj.mp
        have e1 : (-1 : Int32).toInt = -1 := by decide
        have e0 : (0 : Int32).toInt = 0 := by decide
        rw [e1] at h ⊢
        rw [e0] at h2
        omega
      · exact Or.inl (Or.inr h2)
      · exact Or.inr (Or.inr h2)
theorem sd_nn {n j : Nat} (h : j < n) (hn : n < 2 ^ 31) : ¬ nI j < 0 := nI_pos (by omega)
theorem sd_lg {n : Nat} {x : Int32} (h : nI (n + 1) ≤ x) (hn : n + 1 < 2 ^ 31) : nI n < x := by
  rw [sd_ltI, nI_toInt (by omega)]
  rw [sd_leI, nI_toInt hn] at h
  omega
theorem sd_ng {n : Nat} {x : Int32} (h : nI n ≤ x) (hn : n < 2 ^ 31) : ¬ x < nI n := by
  rw [sd_ltI, nI_toInt hn]
  rw [sd_leI, nI_toInt hn] at h
  omega
theorem sd_g0 {n : Nat} {x : Int32} (h : nI n ≤ x) (hn : n < 2 ^ 31) : ¬ x < 0 := by
  rw [sd_ltI]
  rw [sd_leI, nI_toInt hn] at h
  have e0 : (0 : Int32).toInt = 0 := by decide
  omega
theorem sd_gm {n : Nat} {x : Int32} (h : nI n ≤ x) (hn : n < 2 ^ 31) : ¬ x < -1 := by
  rw [sd_ltI]
  rw [sd_leI, nI_toInt hn] at h
  have e0 : (-1 : Int32).toInt = -1 := by decide
  omega
theorem sd_nm {n : Nat} (hn : n < 2 ^ 31) : ¬ nI n < -1 := by
  rw [sd_ltI, nI_toInt hn]
  have e0 : (-1 : Int32).toInt = -1 := by decide
  omega
theorem sd_ne {n : Nat} (hn : n < 2 ^ 31) : ¬ nI n = -1 := by
  intro h
  have h2 := congrArg Int32.toInt h
  rw [nI_toInt hn] at h2
  have e0 : (-1 : Int32).toInt = -1 := by decide
  omega
-- X: (p < 0 → A), then A: n ≤ p → A;  B: n - 1 < p → A;  C: p ≤ n - 1 → B, else A;  D: p < n → B, else A
theorem sx_AR {A B : Prop} {p c : Int32} (n : Nat) (h : sd_rj n p) (a : A) (hc : c = nI n := by rfl) (hn : n < 2 ^ 31 := by omega) : (p < 0 → A) ∧ (¬ p < 0 → ((c ≤ p → A) ∧ (¬ c ≤ p → B))) := by
  subst hc
  rcases h with h | h
  · exact br_t h a
  · exact br_f (sd_g0 h hn) (br_t h a)
theorem sx_AT {A A' B : Prop} {p c : Int32} (n : Nat) (h : sd_rg n p) (b : B) (hc : c = nI n := by rfl) (hn : n < 2 ^ 31 := by omega) : (p < 0 → A) ∧ (¬ p < 0 → ((c ≤ p → A') ∧ (¬ c ≤ p → B))) := by
  subst hc
  obtain ⟨j, hj, rfl⟩ := h
  exact br_f (nI_pos (by omega)) (br_f (nI_ge hj hn) b)
theorem sx_BR {A B : Prop} {p c : Int32} (n : Nat) (h : sd_rj (n + 1) p) (a : A) (hc : c = nI n := by rfl) (hn : n + 1 < 2 ^ 31 := by omega) : (p < 0 → A) ∧ (¬ p < 0 → ((c < p → A) ∧ (¬ c < p → B))) := by
  subst hc
  rcases h with h | h
  · exact br_t h a
  · exact br_f (sd_g0 h hn) (br_t (sd_lg h hn) a)
theorem sx_BT {A A' B : Prop} {p c : Int32} (n : Nat) (h : sd_rg (n + 1) p) (b : B) (hc : c = nI n := by rfl) (hn : n + 1 < 2 ^ 31 := by omega) : (p < 0 → A) ∧ (¬ p < 0 → ((c < p → A') ∧ (¬ c < p → B))) := by
  subst hc
  obtain ⟨j, hj, rfl⟩ := h
  exact br_f (nI_pos (by omega)) (br_f (nI_nlt (by omega) (by omega)) b)
theorem sx_CR {A B : Prop} {p c : Int32} (n : Nat) (h : sd_rj (n + 1) p) (a : A) (hc : c = nI n := by rfl) (hn : n + 1 < 2 ^ 31 := by omega) : (p < 0 → A) ∧ (¬ p < 0 → ((p ≤ c → B) ∧ (¬ p ≤ c → A))) := by
  subst hc
  rcases h with h | h
  · exact br_t h a
  · exact br_f (sd_g0 h hn) (br_f (Int32.not_le.mpr (sd_lg h hn)) a)
theorem sx_CT {A A' B : Prop} {p c : Int32} (n : Nat) (h : sd_rg (n + 1) p) (b : B) (hc : c = nI n := by rfl) (hn : n + 1 < 2 ^ 31 := by omega) : (p < 0 → A) ∧ (¬ p < 0 → ((p ≤ c → B) ∧ (¬ p ≤ c → A'))) := by
  subst hc
  obtain ⟨j, hj, rfl⟩ := h
  exact br_f (nI_pos (by omega)) (br_t (nI_le (by omega) (by omega)) b)
theorem sx_DR {A B : Prop} {p c : Int32} (n : Nat) (h : sd_rj n p) (a : A) (hc : c = nI n := by rfl) (hn : n < 2 ^ 31 := by omega) : (p < 0 → A) ∧ (¬ p < 0 → ((p < c → B) ∧ (¬ p < c → A))) := by
  subst hc
  rcases h with h | h
  · exact br_t h a
  · exact br_f (sd_g0 h hn) (br_f (sd_ng h hn) a)
theorem sx_DT {A A' B : Prop} {p c : Int32} (n : Nat) (h : sd_rg n p) (b : B) (hc : c = nI n := by rfl) (hn : n < 2 ^ 31 := by omega) : (p < 0 → A) ∧ (¬ p < 0 → ((p < c → B) ∧ (¬ p < c → A'))) := by
  subst hc
  obtain ⟨j, hj, rfl⟩ := h
  exact br_f (nI_pos (by omega)) (br_t (nI_lt hj hn) b)
-- the same with -1 as the lowest: M: p < -1 → A, then n ≤ p → A; N: p < -1 → A, then p < n → B, else A
theorem sx_MR {A B : Prop} {p c : Int32} (n : Nat) (h : sd_rm n p) (a : A) (hc : c = nI n := by rfl) (hn : n < 2 ^ 31 := by omega) : (p < -1 → A) ∧ (¬ p < -1 → ((c ≤ p → A) ∧ (¬ c ≤ p → B))) := by
  subst hc
  rcases h with h | h
  · exact br_t h a
  · exact br_f (sd_gm h hn) (br_t h a)
theorem sx_MT {A A' B : Prop} {p c : Int32} (n : Nat) (h : p = -1 ∨ sd_rg n p) (b : B) (hc : c = nI n := by rfl) (hn : n < 2 ^ 31 := by omega) : (p < -1 → A) ∧ (¬ p < -1 → ((c ≤ p → A') ∧ (¬ c ≤ p → B))) := by
  subst hc
  rcases h with rfl | ⟨j, hj, rfl⟩
  · refine br_f (by decide) (br_f ?_ b)
    rw [sd_leI, nI_toInt hn]
    have e0 : (-1 : Int32).toInt = -1 := by decide
    omega
  · exact br_f (sd_nm (by omega)) (br_f (nI_ge hj hn) b)
theorem sx_NR {A B : Prop} {p c : Int32} (n : Nat) (h : sd_rm n p) (a : A) (hc : c = nI n := by rfl) (hn : n < 2 ^ 31 := by omega) : (p < -1 → A) ∧ (¬ p < -1 → ((p < c → B) ∧ (¬ p < c → A))) := by
  subst hc
  rcases h with h | h
  · exact br_t h a
  · exact br_f (sd_gm h hn) (br_f (sd_ng h hn) a)
theorem sx_NT {A A' B : Prop} {p c : Int32} (n : Nat) (h : p = -1 ∨ sd_rg n p) (b : B) (hc : c = nI n := by rfl) (hn : n < 2 ^ 31 := by omega) : (p < -1 → A) ∧ (¬ p < -1 → ((p < c → B) ∧ (¬ p < c → A'))) := by
  subst hc
  rcases h with rfl | ⟨j, hj, rfl⟩
  · refine br_f (by decide) (br_t ?_ b)
    rw [sd_ltI, nI_toInt hn]
    have e0 : (-1 : Int32).toInt = -1 := by decide
    omega
  · exact br_f (sd_nm (by omega)) (br_t (nI_lt hj hn) b)
theorem sd_10 : ¬ (1 : Int32) = 0 := by decide
-- X's tests
theorem sx_word0 {post : Int32 → Prop} {p : Int32} (h : sd_rj 65536 p) (k : post 0) : wpX_isWord post p := sx_BR 65535 h k
theorem sx_word1 {post : Int32 → Prop} {p : Int32} (h : sd_rg 65536 p) (k : post 1) : wpX_isWord post p := sx_BT 65535 h k
theorem sx_field0 {post : Int32 → Prop} {p : Int32} (h : sd_rj 28 p) (k : post 0) : wpX_isField post p := sx_AR 28 h k
theorem sx_field1 {post : Int32 → Prop} {p : Int32} (h : sd_rg 28 p) (k : post 1) : wpX_isField post p := sx_AT 28 h k
theorem sx_header0 {post : Int32 → Prop} {p : Int32} (h : sd_rj 6 p) (k : post 0) : wpX_isHeader post p := sx_AR 6 h k
theorem sx_header1 {post : Int32 → Prop} {p : Int32} (h : sd_rg 6 p) (k : post 1) : wpX_isHeader post p := sx_AT 6 h k
theorem sx_meter0 {post : Int32 → Prop} {p : Int32} (h : sd_rj 4 p) (k : post 0) : wpX_isMeter post p := sx_AR 4 h k
theorem sx_meter1 {post : Int32 → Prop} {p : Int32} (h : sd_rg 4 p) (k : post 1) : wpX_isMeter post p := sx_AT 4 h k
theorem sx_port0 {post : Int32 → Prop} {p : Int32} (h : sd_rj 4 p) (k : post 0) : wpX_isPort post p := sx_AR 4 h k
theorem sx_port1 {post : Int32 → Prop} {p : Int32} (h : sd_rg 4 p) (k : post 1) : wpX_isPort post p := sx_AT 4 h k
theorem sx_kind0 {post : Int32 → Prop} {p : Int32} (h : sd_rj 3 p) (k : post 0) : wpX_isKind post p := sx_BR 2 h k
theorem sx_kind1 {post : Int32 → Prop} {p : Int32} (h : sd_rg 3 p) (k : post 1) : wpX_isKind post p := sx_BT 2 h k
-- Y's test
theorem sy_in0 {post : Int32 → Prop} {p hi : Int32} (n : Nat) (h : sd_rj (n + 1) p) (k : post 0) (hc : hi = nI n := by rfl) (hn : n + 1 < 2 ^ 31 := by omega) : wpY_in post p 0 hi := sx_BR n h k hc hn
theorem sy_in1 {post : Int32 → Prop} {p hi : Int32} (n : Nat) (h : sd_rg (n + 1) p) (k : post 1) (hc : hi = nI n := by rfl) (hn : n + 1 < 2 ^ 31 := by omega) : wpY_in post p 0 hi := sx_BT n h k hc hn
theorem sy_inm0 {post : Int32 → Prop} {p hi : Int32} (n : Nat) (h : sd_rm (n + 1) p) (k : post 0) (hc : hi = nI n := by rfl) (hn : n + 1 < 2 ^ 31 := by omega) : wpY_in post p (-1) hi := by
  subst hc
  rcases h with h | h
  · exact br_t h k
  · exact br_f (sd_gm h hn) (br_t (sd_lg h hn) k)
theorem sy_inm1 {post : Int32 → Prop} {p hi : Int32} (n : Nat) (h : p = -1 ∨ sd_rg (n + 1) p) (k : post 1) (hc : hi = nI n := by rfl) (hn : n + 1 < 2 ^ 31 := by omega) : wpY_in post p (-1) hi := by
  subst hc
  rcases h with rfl | ⟨j, hj, rfl⟩
  · refine br_f (by decide) (br_f ?_ k)
    rw [sd_ltI, nI_toInt (by omega)]
    have e0 : (-1 : Int32).toInt = -1 := by decide
    omega
  · exact br_f (sd_nm (by omega)) (br_f (nI_nlt (by omega) (by omega)) k)
theorem sy_field0 {post : Int32 → Prop} {p : Int32} (h : sd_rj 28 p) (k : post 0) : wpY_isField post p := sy_in0 27 h ⟨sd_n0, k⟩
theorem sy_field1 {post : Int32 → Prop} {p : Int32} (h : sd_rg 28 p) (k : post 1) : wpY_isField post p := sy_in1 27 h ⟨sd_n1, k⟩
theorem sy_word0 {post : Int32 → Prop} {p : Int32} (h : sd_rj 65536 p) (k : post 0) : wpY_isNumber post p := sy_in0 65535 h ⟨sd_n0, k⟩
theorem sy_word1 {post : Int32 → Prop} {p : Int32} (h : sd_rg 65536 p) (k : post 1) : wpY_isNumber post p := sy_in1 65535 h ⟨sd_n1, k⟩
-- behind a test: 0 or 1
theorem sd_w0 {A B : Prop} (a : A) : ((0 : Int32) = 0 → A) ∧ (¬ (0 : Int32) = 0 → B) := br_t rfl a
theorem sd_w1 {A B : Prop} (b : B) : ((1 : Int32) = 0 → A) ∧ (¬ (1 : Int32) = 0 → B) := br_f sd_10 b
